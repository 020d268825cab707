section
-- ===== PART A: goes FIRST, ahead of the names: the tables' words, and 'selects' of the private methods out of them =====
/-- a private method of a class that the tables say can be made, by its rows of tables_1 -/
def lw_okq (q : MethodName × Nat) : Prop := (q.1.cls ≠ "java/lang/invoke/MethodHandle" ∧ q.1.cls ≠ "java/lang/invoke/VarHandle") ∧ Cond.instantiable q.1.cls q.2 ∈ tables_1 ∧ Cond.privateMethod q.1 ∈ tables_1 ∧ Cond.instanceMethod q.1 ∈ tables_1
theorem lw_p0 : lw_okq (⟨"RingSeries$Ring", "has", "(I)Z"⟩, 7) := ⟨⟨by decide +kernel, by decide +kernel⟩, List.mem_of_getElem? (i := 24) (by decide +kernel), List.mem_of_getElem? (i := 83) (by decide +kernel), List.mem_of_getElem? (i := 84) (by decide +kernel)⟩
theorem lw_p1 : lw_okq (⟨"RingSeries$Ring", "slot", "(I)I"⟩, 7) := ⟨⟨by decide +kernel, by decide +kernel⟩, List.mem_of_getElem? (i := 24) (by decide +kernel), List.mem_of_getElem? (i := 87) (by decide +kernel), List.mem_of_getElem? (i := 88) (by decide +kernel)⟩
theorem lw_p2 : lw_okq (⟨"RingSeries$Ring", "open", "(I)V"⟩, 7) := ⟨⟨by decide +kernel, by decide +kernel⟩, List.mem_of_getElem? (i := 24) (by decide +kernel), List.mem_of_getElem? (i := 91) (by decide +kernel), List.mem_of_getElem? (i := 92) (by decide +kernel)⟩
theorem lw_p3 : lw_okq (⟨"RingSeries", "ringOf", "(I)LRingSeries$Ring;"⟩, 5) := ⟨⟨by decide +kernel, by decide +kernel⟩, List.mem_of_getElem? (i := 6) (by decide +kernel), List.mem_of_getElem? (i := 104) (by decide +kernel), List.mem_of_getElem? (i := 105) (by decide +kernel)⟩
theorem lw_p4 : lw_okq (⟨"RingSeries", "firstIn", "(I)I"⟩, 5) := ⟨⟨by decide +kernel, by decide +kernel⟩, List.mem_of_getElem? (i := 6) (by decide +kernel), List.mem_of_getElem? (i := 129) (by decide +kernel), List.mem_of_getElem? (i := 130) (by decide +kernel)⟩
theorem lw_p5 : lw_okq (⟨"RingSeries", "endOf", "(II)I"⟩, 5) := ⟨⟨by decide +kernel, by decide +kernel⟩, List.mem_of_getElem? (i := 6) (by decide +kernel), List.mem_of_getElem? (i := 137) (by decide +kernel), List.mem_of_getElem? (i := 138) (by decide +kernel)⟩
theorem lw_p6 : lw_okq (⟨"RingSeries", "valueOf", "(I)I"⟩, 5) := ⟨⟨by decide +kernel, by decide +kernel⟩, List.mem_of_getElem? (i := 6) (by decide +kernel), List.mem_of_getElem? (i := 154) (by decide +kernel), List.mem_of_getElem? (i := 155) (by decide +kernel)⟩
theorem lw_p7 : lw_okq (⟨"RingSeries", "onLine", "(II)I"⟩, 5) := ⟨⟨by decide +kernel, by decide +kernel⟩, List.mem_of_getElem? (i := 6) (by decide +kernel), List.mem_of_getElem? (i := 162) (by decide +kernel), List.mem_of_getElem? (i := 163) (by decide +kernel)⟩
theorem lw_p8 : lw_okq (⟨"RingSeries", "riseTo", "(I)J"⟩, 5) := ⟨⟨by decide +kernel, by decide +kernel⟩, List.mem_of_getElem? (i := 6) (by decide +kernel), List.mem_of_getElem? (i := 166) (by decide +kernel), List.mem_of_getElem? (i := 167) (by decide +kernel)⟩
theorem lw_p9 : lw_okq (⟨"RingSeries", "insertSorted", "(II)V"⟩, 5) := ⟨⟨by decide +kernel, by decide +kernel⟩, List.mem_of_getElem? (i := 6) (by decide +kernel), List.mem_of_getElem? (i := 178) (by decide +kernel), List.mem_of_getElem? (i := 179) (by decide +kernel)⟩
theorem lw_p10 : lw_okq (⟨"RingSeries$Ring", "endOfEntry", "(I)J"⟩, 7) := ⟨⟨by decide +kernel, by decide +kernel⟩, List.mem_of_getElem? (i := 24) (by decide +kernel), List.mem_of_getElem? (i := 190) (by decide +kernel), List.mem_of_getElem? (i := 191) (by decide +kernel)⟩
theorem lw_p11 : lw_okq (⟨"RingSeries$Ring", "hasFiguresOf", "(LRingSeries$Ring;III)Z"⟩, 7) := ⟨⟨by decide +kernel, by decide +kernel⟩, List.mem_of_getElem? (i := 24) (by decide +kernel), List.mem_of_getElem? (i := 206) (by decide +kernel), List.mem_of_getElem? (i := 207) (by decide +kernel)⟩
theorem lw_p12 : lw_okq (⟨"RingSeriesModel", "kept", "(I)I"⟩, 6) := ⟨⟨by decide +kernel, by decide +kernel⟩, List.mem_of_getElem? (i := 214) (by decide +kernel), List.mem_of_getElem? (i := 251) (by decide +kernel), List.mem_of_getElem? (i := 252) (by decide +kernel)⟩
theorem lw_p13 : lw_okq (⟨"RingSeriesModel", "all", "(I)I"⟩, 6) := ⟨⟨by decide +kernel, by decide +kernel⟩, List.mem_of_getElem? (i := 214) (by decide +kernel), List.mem_of_getElem? (i := 255) (by decide +kernel), List.mem_of_getElem? (i := 256) (by decide +kernel)⟩
theorem lw_p14 : lw_okq (⟨"RingSeriesModel", "isSame", "(III)Z"⟩, 6) := ⟨⟨by decide +kernel, by decide +kernel⟩, List.mem_of_getElem? (i := 214) (by decide +kernel), List.mem_of_getElem? (i := 259) (by decide +kernel), List.mem_of_getElem? (i := 260) (by decide +kernel)⟩
theorem lw_p15 : lw_okq (⟨"RingSeriesModel", "isEntry", "(II)Z"⟩, 6) := ⟨⟨by decide +kernel, by decide +kernel⟩, List.mem_of_getElem? (i := 214) (by decide +kernel), List.mem_of_getElem? (i := 267) (by decide +kernel), List.mem_of_getElem? (i := 268) (by decide +kernel)⟩
def lw_privs_1 : List (MethodName × Nat) := [(⟨"RingSeries$Ring", "has", "(I)Z"⟩, 7), (⟨"RingSeries$Ring", "slot", "(I)I"⟩, 7), (⟨"RingSeries$Ring", "open", "(I)V"⟩, 7), (⟨"RingSeries", "ringOf", "(I)LRingSeries$Ring;"⟩, 5), (⟨"RingSeries", "firstIn", "(I)I"⟩, 5), (⟨"RingSeries", "endOf", "(II)I"⟩, 5), (⟨"RingSeries", "valueOf", "(I)I"⟩, 5), (⟨"RingSeries", "onLine", "(II)I"⟩, 5), (⟨"RingSeries", "riseTo", "(I)J"⟩, 5), (⟨"RingSeries", "insertSorted", "(II)V"⟩, 5), (⟨"RingSeries$Ring", "endOfEntry", "(I)J"⟩, 7), (⟨"RingSeries$Ring", "hasFiguresOf", "(LRingSeries$Ring;III)Z"⟩, 7), (⟨"RingSeriesModel", "kept", "(I)I"⟩, 6), (⟨"RingSeriesModel", "all", "(I)I"⟩, 6), (⟨"RingSeriesModel", "isSame", "(III)Z"⟩, 6), (⟨"RingSeriesModel", "isEntry", "(II)Z"⟩, 6)]
theorem lw_r1 : ∀ q ∈ lw_privs_1, lw_okq q := List.forall_mem_cons.mpr ⟨lw_p0, List.forall_mem_cons.mpr ⟨lw_p1, List.forall_mem_cons.mpr ⟨lw_p2, List.forall_mem_cons.mpr ⟨lw_p3, List.forall_mem_cons.mpr ⟨lw_p4, List.forall_mem_cons.mpr ⟨lw_p5, List.forall_mem_cons.mpr ⟨lw_p6, List.forall_mem_cons.mpr ⟨lw_p7, List.forall_mem_cons.mpr ⟨lw_p8, List.forall_mem_cons.mpr ⟨lw_p9, List.forall_mem_cons.mpr ⟨lw_p10, List.forall_mem_cons.mpr ⟨lw_p11, List.forall_mem_cons.mpr ⟨lw_p12, List.forall_mem_cons.mpr ⟨lw_p13, List.forall_mem_cons.mpr ⟨lw_p14, List.forall_mem_cons.mpr ⟨lw_p15, fun _ h => absurd h List.not_mem_nil⟩⟩⟩⟩⟩⟩⟩⟩⟩⟩⟩⟩⟩⟩⟩⟩
theorem lw_p16 : lw_okq (⟨"RingSeriesModel", "begin", "(II)J"⟩, 6) := ⟨⟨by decide +kernel, by decide +kernel⟩, List.mem_of_getElem? (i := 214) (by decide +kernel), List.mem_of_getElem? (i := 271) (by decide +kernel), List.mem_of_getElem? (i := 272) (by decide +kernel)⟩
theorem lw_p17 : lw_okq (⟨"RingSeriesModel", "first", "(II)I"⟩, 6) := ⟨⟨by decide +kernel, by decide +kernel⟩, List.mem_of_getElem? (i := 214) (by decide +kernel), List.mem_of_getElem? (i := 275) (by decide +kernel), List.mem_of_getElem? (i := 276) (by decide +kernel)⟩
theorem lw_p18 : lw_okq (⟨"RingSeriesModel", "isIn", "(III)Z"⟩, 6) := ⟨⟨by decide +kernel, by decide +kernel⟩, List.mem_of_getElem? (i := 214) (by decide +kernel), List.mem_of_getElem? (i := 287) (by decide +kernel), List.mem_of_getElem? (i := 288) (by decide +kernel)⟩
theorem lw_p19 : lw_okq (⟨"RingSeriesModel", "whole", "(IIIJ)J"⟩, 6) := ⟨⟨by decide +kernel, by decide +kernel⟩, List.mem_of_getElem? (i := 214) (by decide +kernel), List.mem_of_getElem? (i := 316) (by decide +kernel), List.mem_of_getElem? (i := 317) (by decide +kernel)⟩
def lw_privs_2 : List (MethodName × Nat) := [(⟨"RingSeriesModel", "begin", "(II)J"⟩, 6), (⟨"RingSeriesModel", "first", "(II)I"⟩, 6), (⟨"RingSeriesModel", "isIn", "(III)Z"⟩, 6), (⟨"RingSeriesModel", "whole", "(IIIJ)J"⟩, 6)]
theorem lw_r2 : ∀ q ∈ lw_privs_2, lw_okq q := List.forall_mem_cons.mpr ⟨lw_p16, List.forall_mem_cons.mpr ⟨lw_p17, List.forall_mem_cons.mpr ⟨lw_p18, List.forall_mem_cons.mpr ⟨lw_p19, fun _ h => absurd h List.not_mem_nil⟩⟩⟩⟩
def lw_privs : List (MethodName × Nat) := lw_privs_1 ++ (lw_privs_2)
def lw_tbl : List Cond := k2_sels lw_privs ++ tables_1
theorem lw_privs_ok : ∀ q ∈ lw_privs, lw_okq q := by
  show ∀ q ∈ lw_privs_1 ++ (lw_privs_2), lw_okq q
  exact List.forall_mem_append.mpr ⟨lw_r1, lw_r2⟩
-- ===== end of PART A; then your names; then what follows =====
/-! ===== BEGIN words of one list among another's, by their places ===== -/
theorem goodIn_r {big : List Cond} (ws : List Cond) (ps : List Nat) (hp : ws = ps.filterMap (fun i => big[i]?)) (h : ws.all goodWord = true) : GoodIn big ws := by
  intro w hw
  have h1 := List.all_eq_true.mp h w hw
  rw [hp] at hw
  obtain ⟨i, -, hi⟩ := List.mem_filterMap.mp hw
  have hm : w ∈ big := by first | exact List.mem_of_getElem? hi | exact List.getElem?_mem hi
  exact ⟨hm, good_of_word h1⟩
theorem goodIn_app {big a b : List Cond} (ha : GoodIn big a) (hb : GoodIn big b) : GoodIn big (a ++ b) := fun w h => (List.mem_append.mp h).elim (ha w) (hb w)
theorem goodIn_ca {big a b : List Cond} {c : Cond} (ha : GoodIn big (c :: a)) (hb : GoodIn big b) : GoodIn big (c :: (a ++ b)) := fun w h => (List.mem_cons.mp h).elim (fun e => ha w (List.mem_cons.mpr (Or.inl e))) (fun h => (List.mem_append.mp h).elim (fun h => ha w (List.mem_cons.mpr (Or.inr h))) (hb w))
theorem goodIn_sub {big ws : List Cond} (hm : ∀ w ∈ ws, w ∈ big) (h : ws.all goodWord = true) : GoodIn big ws := fun w hw => ⟨hm w hw, good_of_word (List.all_eq_true.mp h w hw)⟩
/-! ===== END ===== -/


/-! ===== BEGIN printed: names, fields, word lists, decode rows ===== -/
def RX0 : String := "RingSeries$Ring"
def TX0 : u_T := fun k => match k with
  | 0 => ("RingSeries$Ring", "room", "I", true)
  | 1 => ("RingSeries$Ring", "width", "I", true)
  | 2 => ("RingSeries$Ring", "starts", "[I", true)
  | 3 => ("RingSeries$Ring", "figures", "[[I", true)
  | 4 => ("RingSeries$Ring", "oldest", "I", false)
  | 5 => ("RingSeries$Ring", "held", "I", false)
  | _ => ("RingSeries$Ring", "gone", "I", false)
def tyX0 : Nat → FieldType := fun k => match k with
  | 0 => .int
  | 1 => .int
  | 2 => .array .int
  | 3 => .array (.array .int)
  | 4 => .int
  | 5 => .int
  | _ => .int
abbrev wsX00 : List Cond := u_ws RX0 TX0 7
theorem nmX0 : ∀ a, a < 7 → ∀ b, b < 7 → a ≠ b → (TX0 a).2.1 ≠ (TX0 b).2.1 := by decide +kernel
theorem tyX0_ok : ∀ k, k < 7 → parseFieldDescriptor (TX0 k).2.2.1 = some (tyX0 k) := by decide +kernel
abbrev cX0_init : ByteArray := prog_2_method_1_code
def yX0_init : MethodName := ⟨RX0, "<init>", "(II)V"⟩
abbrev cX0_size : ByteArray := prog_2_method_2_code
def yX0_size : MethodName := ⟨RX0, "size", "()I"⟩
abbrev cX0_startOf : ByteArray := prog_2_method_3_code
def yX0_startOf : MethodName := ⟨RX0, "startOf", "(I)I"⟩
abbrev cX0_figureOf : ByteArray := prog_2_method_4_code
def yX0_figureOf : MethodName := ⟨RX0, "figureOf", "(II)I"⟩
abbrev cX0_take : ByteArray := prog_2_method_5_code
def yX0_take : MethodName := ⟨RX0, "take", "(II)V"⟩
abbrev cX0_firstFrom : ByteArray := prog_2_method_6_code
def yX0_firstFrom : MethodName := ⟨RX0, "firstFrom", "(IJ)I"⟩
abbrev cX0_together : ByteArray := prog_2_method_7_code
def yX0_together : MethodName := ⟨RX0, "together", "(III)I"⟩
abbrev cX0_manyWhollyIn : ByteArray := prog_2_method_8_code
def yX0_manyWhollyIn : MethodName := ⟨RX0, "manyWhollyIn", "(JJ)J"⟩
abbrev cX0_agreesWith : ByteArray := prog_2_method_9_code
def yX0_agreesWith : MethodName := ⟨RX0, "agreesWith", "(LRingSeries$Ring;)Z"⟩
abbrev cX0_hasFiguresOf : ByteArray := prog_2_method_10_code
def yX0_hasFiguresOf : MethodName := ⟨RX0, "hasFiguresOf", "(LRingSeries$Ring;III)Z"⟩
abbrev cX0_joined : ByteArray := prog_2_method_11_code
def yX0_joined : MethodName := ⟨RX0, "joined", "(III)I"⟩
abbrev cX0_open : ByteArray := prog_2_method_12_code
def yX0_open : MethodName := ⟨RX0, "open", "(I)V"⟩
abbrev cX0_has : ByteArray := prog_2_method_13_code
def yX0_has : MethodName := ⟨RX0, "has", "(I)Z"⟩
abbrev cX0_slot : ByteArray := prog_2_method_14_code
def yX0_slot : MethodName := ⟨RX0, "slot", "(I)I"⟩
abbrev cX0_endOfEntry : ByteArray := prog_2_method_15_code
def yX0_endOfEntry : MethodName := ⟨RX0, "endOfEntry", "(I)J"⟩
def RX1 : String := "RingSeries"
def TX1 : u_T := fun k => match k with
  | 0 => ("RingSeries", "points", "LRingSeries$Ring;", true)
  | 1 => ("RingSeries", "fine", "LRingSeries$Ring;", true)
  | 2 => ("RingSeries", "coarse", "LRingSeries$Ring;", true)
  | 3 => ("RingSeries", "sorted", "[I", true)
  | _ => ("RingSeries", "lastTime", "I", false)
def tyX1 : Nat → FieldType := fun k => match k with
  | 0 => .object "RingSeries$Ring"
  | 1 => .object "RingSeries$Ring"
  | 2 => .object "RingSeries$Ring"
  | 3 => .array .int
  | _ => .int
abbrev wsX10 : List Cond := u_ws RX1 TX1 5
theorem nmX1 : ∀ a, a < 5 → ∀ b, b < 5 → a ≠ b → (TX1 a).2.1 ≠ (TX1 b).2.1 := by decide +kernel
theorem tyX1_ok : ∀ k, k < 5 → parseFieldDescriptor (TX1 k).2.2.1 = some (tyX1 k) := by decide +kernel
abbrev cX1_init : ByteArray := prog_1_method_1_code
def yX1_init : MethodName := ⟨RX1, "<init>", "(IIIII)V"⟩
abbrev cX1_append : ByteArray := prog_1_method_2_code
def yX1_append : MethodName := ⟨RX1, "append", "(II)I"⟩
abbrev cX1_count : ByteArray := prog_1_method_3_code
def yX1_count : MethodName := ⟨RX1, "count", "(I)I"⟩
abbrev cX1_start : ByteArray := prog_1_method_4_code
def yX1_start : MethodName := ⟨RX1, "start", "(II)I"⟩
abbrev cX1_figure : ByteArray := prog_1_method_5_code
def yX1_figure : MethodName := ⟨RX1, "figure", "(III)I"⟩
abbrev cX1_many : ByteArray := prog_1_method_6_code
def yX1_many : MethodName := ⟨RX1, "many", "(II)I"⟩
abbrev cX1_extreme : ByteArray := prog_1_method_7_code
def yX1_extreme : MethodName := ⟨RX1, "extreme", "(III)I"⟩
abbrev cX1_sum : ByteArray := prog_1_method_8_code
def yX1_sum : MethodName := ⟨RX1, "sum", "(II)J"⟩
abbrev cX1_at : ByteArray := prog_1_method_9_code
def yX1_at : MethodName := ⟨RX1, "at", "(IZ)I"⟩
abbrev cX1_steepest : ByteArray := prog_1_method_10_code
def yX1_steepest : MethodName := ⟨RX1, "steepest", "(II)I"⟩
abbrev cX1_median : ByteArray := prog_1_method_11_code
def yX1_median : MethodName := ⟨RX1, "median", "(II)I"⟩
abbrev cX1_reach : ByteArray := prog_1_method_12_code
def yX1_reach : MethodName := ⟨RX1, "reach", "(II)J"⟩
abbrev cX1_sound : ByteArray := prog_1_method_13_code
def yX1_sound : MethodName := ⟨RX1, "sound", "()Z"⟩
abbrev cX1_within : ByteArray := prog_1_method_14_code
def yX1_within : MethodName := ⟨RX1, "within", "(III)I"⟩
abbrev cX1_ringOf : ByteArray := prog_1_method_15_code
def yX1_ringOf : MethodName := ⟨RX1, "ringOf", "(I)LRingSeries$Ring;"⟩
abbrev cX1_firstIn : ByteArray := prog_1_method_16_code
def yX1_firstIn : MethodName := ⟨RX1, "firstIn", "(I)I"⟩
abbrev cX1_endOf : ByteArray := prog_1_method_17_code
def yX1_endOf : MethodName := ⟨RX1, "endOf", "(II)I"⟩
abbrev cX1_valueOf : ByteArray := prog_1_method_18_code
def yX1_valueOf : MethodName := ⟨RX1, "valueOf", "(I)I"⟩
abbrev cX1_riseTo : ByteArray := prog_1_method_19_code
def yX1_riseTo : MethodName := ⟨RX1, "riseTo", "(I)J"⟩
abbrev cX1_onLine : ByteArray := prog_1_method_20_code
def yX1_onLine : MethodName := ⟨RX1, "onLine", "(II)I"⟩
abbrev cX1_insertSorted : ByteArray := prog_1_method_21_code
def yX1_insertSorted : MethodName := ⟨RX1, "insertSorted", "(II)V"⟩
def RX2 : String := "RingSeriesModel"
def TX2 : u_T := fun k => match k with
  | 0 => ("RingSeriesModel", "thrown", "I", false)
  | 1 => ("RingSeriesModel", "room", "[I", true)
  | 2 => ("RingSeriesModel", "widths", "[J", true)
  | 3 => ("RingSeriesModel", "points", "I", false)
  | 4 => ("RingSeriesModel", "times", "[I", true)
  | _ => ("RingSeriesModel", "values", "[I", true)
def tyX2 : Nat → FieldType := fun k => match k with
  | 0 => .int
  | 1 => .array .int
  | 2 => .array .long
  | 3 => .int
  | 4 => .array .int
  | _ => .array .int
abbrev wsX20 : List Cond := u_ws RX2 TX2 6
theorem nmX2 : ∀ a, a < 6 → ∀ b, b < 6 → a ≠ b → (TX2 a).2.1 ≠ (TX2 b).2.1 := by decide +kernel
theorem tyX2_ok : ∀ k, k < 6 → parseFieldDescriptor (TX2 k).2.2.1 = some (tyX2 k) := by decide +kernel
abbrev cX2_init : ByteArray := prog_4_method_1_code
def yX2_init : MethodName := ⟨RX2, "<init>", "(IIIII)V"⟩
abbrev cX2_within : ByteArray := prog_4_method_3_code
def yX2_within : MethodName := ⟨RX2, "within", "(III)I"⟩
abbrev cX2_append : ByteArray := prog_4_method_4_code
def yX2_append : MethodName := ⟨RX2, "append", "(II)I"⟩
abbrev cX2_isSame : ByteArray := prog_4_method_5_code
def yX2_isSame : MethodName := ⟨RX2, "isSame", "(III)Z"⟩
abbrev cX2_all : ByteArray := prog_4_method_6_code
def yX2_all : MethodName := ⟨RX2, "all", "(I)I"⟩
abbrev cX2_kept : ByteArray := prog_4_method_7_code
def yX2_kept : MethodName := ⟨RX2, "kept", "(I)I"⟩
abbrev cX2_first : ByteArray := prog_4_method_8_code
def yX2_first : MethodName := ⟨RX2, "first", "(II)I"⟩
abbrev cX2_isEntry : ByteArray := prog_4_method_9_code
def yX2_isEntry : MethodName := ⟨RX2, "isEntry", "(II)Z"⟩
abbrev cX2_count : ByteArray := prog_4_method_10_code
def yX2_count : MethodName := ⟨RX2, "count", "(I)I"⟩
abbrev cX2_begin : ByteArray := prog_4_method_11_code
def yX2_begin : MethodName := ⟨RX2, "begin", "(II)J"⟩
abbrev cX2_start : ByteArray := prog_4_method_12_code
def yX2_start : MethodName := ⟨RX2, "start", "(II)I"⟩
abbrev cX2_figure : ByteArray := prog_4_method_13_code
def yX2_figure : MethodName := ⟨RX2, "figure", "(III)I"⟩
abbrev cX2_isIn : ByteArray := prog_4_method_14_code
def yX2_isIn : MethodName := ⟨RX2, "isIn", "(III)Z"⟩
abbrev cX2_many : ByteArray := prog_4_method_15_code
def yX2_many : MethodName := ⟨RX2, "many", "(II)I"⟩
abbrev cX2_extreme : ByteArray := prog_4_method_16_code
def yX2_extreme : MethodName := ⟨RX2, "extreme", "(III)I"⟩
abbrev cX2_sum : ByteArray := prog_4_method_17_code
def yX2_sum : MethodName := ⟨RX2, "sum", "(II)J"⟩
abbrev cX2_at : ByteArray := prog_4_method_18_code
def yX2_at : MethodName := ⟨RX2, "at", "(IZ)I"⟩
abbrev cX2_steepest : ByteArray := prog_4_method_19_code
def yX2_steepest : MethodName := ⟨RX2, "steepest", "(II)I"⟩
abbrev cX2_median : ByteArray := prog_4_method_20_code
def yX2_median : MethodName := ⟨RX2, "median", "(II)I"⟩
abbrev cX2_whole : ByteArray := prog_4_method_21_code
def yX2_whole : MethodName := ⟨RX2, "whole", "(IIIJ)J"⟩
abbrev cX2_reach : ByteArray := prog_4_method_22_code
def yX2_reach : MethodName := ⟨RX2, "reach", "(II)J"⟩
abbrev cX2_sound : ByteArray := prog_4_method_23_code
def yX2_sound : MethodName := ⟨RX2, "sound", "()Z"⟩
def RJ9 : String := "java/lang/Math"
def TJ9 : u_T := fun k => match k with
  | _ => ("", "", "", false)
def tyJ9 : Nat → FieldType := fun k => match k with
  | _ => .int
abbrev wsJ90 : List Cond := u_ws RJ9 TJ9 0
theorem nmJ9 : ∀ a, a < 0 → ∀ b, b < 0 → a ≠ b → (TJ9 a).2.1 ≠ (TJ9 b).2.1 := by decide +kernel
theorem tyJ9_ok : ∀ k, k < 0 → parseFieldDescriptor (TJ9 k).2.2.1 = some (tyJ9 k) := by decide +kernel
abbrev cJ9_max_7cf53 : ByteArray := prog_5_method_65_code
def yJ9_max_7cf53 : MethodName := ⟨RJ9, "max", "(II)I"⟩
abbrev cJ9_min_7cf53 : ByteArray := prog_5_method_69_code
def yJ9_min_7cf53 : MethodName := ⟨RJ9, "min", "(II)I"⟩
abbrev cJ9_min_f86c9 : ByteArray := prog_5_method_70_code
def yJ9_min_f86c9 : MethodName := ⟨RJ9, "min", "(JJ)J"⟩
def RL : String := "RingSeriesLaw"
abbrev cL_cell : ByteArray := method_2_code
def yL_cell : MethodName := ⟨RL, "cell", "([II)I"⟩
abbrev cL_law : ByteArray := code
def yL_law : MethodName := ⟨RL, "law", "([I)Z"⟩
def wsX0_init : List Cond := .code yX0_init cX0_init 3 none :: ([.methodLink RX0 3 objectInit, .instanceMethod objectInit, .code objectInit ⟨#[0xb1]⟩ 1 none, .fieldLink RX0 9 "RingSeries$Ring" "gone" "I", .fieldLink RX0 15 "RingSeries$Ring" "room" "I", .fieldLink RX0 18 "RingSeries$Ring" "width" "I", .arrayClass .int, .fieldLink RX0 21 "RingSeries$Ring" "starts" "[I", .classLink RX0 25 "[[I", .fieldLink RX0 27 "RingSeries$Ring" "figures" "[[I"] ++ wsX00)
def wsX0_size : List Cond := .code yX0_size cX0_size 1 (some .int) :: ([.fieldLink RX0 30 "RingSeries$Ring" "held" "I"] ++ wsX00)
def wsX0_has : List Cond := .code yX0_has cX0_has 2 (some .boolean) :: ([.fieldLink RX0 30 "RingSeries$Ring" "held" "I"] ++ wsX00)
def wsX0_slot : List Cond := .code yX0_slot cX0_slot 3 (some .int) :: ([.fieldLink RX0 79 "RingSeries$Ring" "oldest" "I", .fieldLink RX0 15 "RingSeries$Ring" "room" "I"] ++ wsX00)
def wsX0_startOf : List Cond := .code yX0_startOf cX0_startOf 2 (some .int) :: ([.fieldLink RX0 21 "RingSeries$Ring" "starts" "[I", .methodLink RX0 33 yX0_has, .instanceMethod yX0_has, .selects RX0 yX0_has yX0_has, .initialized RX0, .code yX0_has cX0_has 2 (some .boolean), .fieldLink RX0 30 "RingSeries$Ring" "held" "I", .methodLink RX0 37 yX0_slot, .instanceMethod yX0_slot, .selects RX0 yX0_slot yX0_slot, .code yX0_slot cX0_slot 3 (some .int), .fieldLink RX0 79 "RingSeries$Ring" "oldest" "I", .fieldLink RX0 15 "RingSeries$Ring" "room" "I"] ++ wsX00)
def wsX0_figureOf : List Cond := .code yX0_figureOf cX0_figureOf 3 (some .int) :: ([.fieldLink RX0 27 "RingSeries$Ring" "figures" "[[I", .methodLink RX0 33 yX0_has, .instanceMethod yX0_has, .selects RX0 yX0_has yX0_has, .initialized RX0, .code yX0_has cX0_has 2 (some .boolean), .fieldLink RX0 30 "RingSeries$Ring" "held" "I", .methodLink RX0 37 yX0_slot, .instanceMethod yX0_slot, .selects RX0 yX0_slot yX0_slot, .code yX0_slot cX0_slot 3 (some .int), .fieldLink RX0 79 "RingSeries$Ring" "oldest" "I", .fieldLink RX0 15 "RingSeries$Ring" "room" "I"] ++ wsX00)
def wsX0_open : List Cond := .code yX0_open cX0_open 2 none :: ([.fieldLink RX0 30 "RingSeries$Ring" "held" "I", .fieldLink RX0 15 "RingSeries$Ring" "room" "I", .fieldLink RX0 21 "RingSeries$Ring" "starts" "[I", .fieldLink RX0 79 "RingSeries$Ring" "oldest" "I", .fieldLink RX0 9 "RingSeries$Ring" "gone" "I", .methodLink RX0 37 yX0_slot, .instanceMethod yX0_slot, .selects RX0 yX0_slot yX0_slot, .initialized RX0, .code yX0_slot cX0_slot 3 (some .int)] ++ wsX00)
def wsX0_joined : List Cond := .code yX0_joined cX0_joined 3 (some .int) :: ([.methodLink RX0 71 Lib.Math.min.name, .static Lib.Math.min.name, .initialized "java/lang/Math", .code Lib.Math.min.name Lib.Math.min.code 2 (some .int), .methodLink RX0 76 Lib.Math.max.name, .static Lib.Math.max.name, .code Lib.Math.max.name Lib.Math.max.code 2 (some .int)])
def wsX0_take_r1 : List Cond := [Cond.fieldLink RX0 18 "RingSeries$Ring" "width" "I", Cond.fieldLink RX0 30 "RingSeries$Ring" "held" "I", Cond.fieldLink RX0 27 "RingSeries$Ring" "figures" "[[I", Cond.methodLink RX0 41 yX0_startOf, Cond.instanceMethod yX0_startOf, Cond.selects RX0 yX0_startOf yX0_startOf, Cond.initialized RX0, Cond.code yX0_startOf cX0_startOf 2 (some .int), Cond.fieldLink RX0 21 "RingSeries$Ring" "starts" "[I", Cond.methodLink RX0 33 yX0_has, Cond.instanceMethod yX0_has, Cond.selects RX0 yX0_has yX0_has, Cond.code yX0_has cX0_has 2 (some .boolean), Cond.methodLink RX0 37 yX0_slot, Cond.instanceMethod yX0_slot, Cond.selects RX0 yX0_slot yX0_slot, Cond.code yX0_slot cX0_slot 3 (some .int), Cond.fieldLink RX0 79 "RingSeries$Ring" "oldest" "I", Cond.fieldLink RX0 15 "RingSeries$Ring" "room" "I", Cond.methodLink RX0 44 yX0_open, Cond.instanceMethod yX0_open, Cond.selects RX0 yX0_open yX0_open, Cond.code yX0_open cX0_open 2 none, Cond.fieldLink RX0 9 "RingSeries$Ring" "gone" "I"]
def wsX0_take_r2 : List Cond := [Cond.methodLink RX0 48 yX0_joined, Cond.static yX0_joined, Cond.code yX0_joined cX0_joined 3 (some .int), Cond.methodLink RX0 71 Lib.Math.min.name, Cond.static Lib.Math.min.name, Cond.initialized "java/lang/Math", Cond.code Lib.Math.min.name Lib.Math.min.code 2 (some .int), Cond.methodLink RX0 76 Lib.Math.max.name, Cond.static Lib.Math.max.name, Cond.code Lib.Math.max.name Lib.Math.max.code 2 (some .int)]
def wsX0_take : List Cond := .code yX0_take cX0_take 9 none :: ((wsX0_take_r1 ++ wsX0_take_r2) ++ wsX00)
def wsX0_firstFrom : List Cond := .code yX0_firstFrom cX0_firstFrom 5 (some .int) :: ([.fieldLink RX0 30 "RingSeries$Ring" "held" "I", .methodLink RX0 41 yX0_startOf, .instanceMethod yX0_startOf, .selects RX0 yX0_startOf yX0_startOf, .initialized RX0, .code yX0_startOf cX0_startOf 2 (some .int), .fieldLink RX0 21 "RingSeries$Ring" "starts" "[I", .methodLink RX0 33 yX0_has, .instanceMethod yX0_has, .selects RX0 yX0_has yX0_has, .code yX0_has cX0_has 2 (some .boolean), .methodLink RX0 37 yX0_slot, .instanceMethod yX0_slot, .selects RX0 yX0_slot yX0_slot, .code yX0_slot cX0_slot 3 (some .int), .fieldLink RX0 79 "RingSeries$Ring" "oldest" "I", .fieldLink RX0 15 "RingSeries$Ring" "room" "I"] ++ wsX00)
def wsX0_together_r1 : List Cond := [Cond.methodLink RX0 52 yX0_figureOf, Cond.instanceMethod yX0_figureOf, Cond.selects RX0 yX0_figureOf yX0_figureOf, Cond.initialized RX0, Cond.code yX0_figureOf cX0_figureOf 3 (some .int), Cond.fieldLink RX0 27 "RingSeries$Ring" "figures" "[[I", Cond.methodLink RX0 33 yX0_has, Cond.instanceMethod yX0_has, Cond.selects RX0 yX0_has yX0_has, Cond.code yX0_has cX0_has 2 (some .boolean), Cond.fieldLink RX0 30 "RingSeries$Ring" "held" "I", Cond.methodLink RX0 37 yX0_slot, Cond.instanceMethod yX0_slot, Cond.selects RX0 yX0_slot yX0_slot, Cond.code yX0_slot cX0_slot 3 (some .int), Cond.fieldLink RX0 79 "RingSeries$Ring" "oldest" "I", Cond.fieldLink RX0 15 "RingSeries$Ring" "room" "I", Cond.methodLink RX0 48 yX0_joined, Cond.static yX0_joined, Cond.code yX0_joined cX0_joined 3 (some .int), Cond.methodLink RX0 71 Lib.Math.min.name, Cond.static Lib.Math.min.name, Cond.initialized "java/lang/Math", Cond.code Lib.Math.min.name Lib.Math.min.code 2 (some .int)]
def wsX0_together_r2 : List Cond := [Cond.methodLink RX0 76 Lib.Math.max.name, Cond.static Lib.Math.max.name, Cond.code Lib.Math.max.name Lib.Math.max.code 2 (some .int)]
def wsX0_together : List Cond := .code yX0_together cX0_together 6 (some .int) :: ((wsX0_together_r1 ++ wsX0_together_r2) ++ wsX00)
def wsX0_endOfEntry : List Cond := .code yX0_endOfEntry cX0_endOfEntry 2 (some .long) :: ([.fieldLink RX0 18 "RingSeries$Ring" "width" "I", .methodLink RX0 41 yX0_startOf, .instanceMethod yX0_startOf, .selects RX0 yX0_startOf yX0_startOf, .initialized RX0, .code yX0_startOf cX0_startOf 2 (some .int), .fieldLink RX0 21 "RingSeries$Ring" "starts" "[I", .methodLink RX0 33 yX0_has, .instanceMethod yX0_has, .selects RX0 yX0_has yX0_has, .code yX0_has cX0_has 2 (some .boolean), .fieldLink RX0 30 "RingSeries$Ring" "held" "I", .methodLink RX0 37 yX0_slot, .instanceMethod yX0_slot, .selects RX0 yX0_slot yX0_slot, .code yX0_slot cX0_slot 3 (some .int), .fieldLink RX0 79 "RingSeries$Ring" "oldest" "I", .fieldLink RX0 15 "RingSeries$Ring" "room" "I"] ++ wsX00)
def wsX0_manyWhollyIn_r1 : List Cond := [Cond.fieldLink RX0 30 "RingSeries$Ring" "held" "I", Cond.methodLink RX0 41 yX0_startOf, Cond.instanceMethod yX0_startOf, Cond.selects RX0 yX0_startOf yX0_startOf, Cond.initialized RX0, Cond.code yX0_startOf cX0_startOf 2 (some .int), Cond.fieldLink RX0 21 "RingSeries$Ring" "starts" "[I", Cond.methodLink RX0 33 yX0_has, Cond.instanceMethod yX0_has, Cond.selects RX0 yX0_has yX0_has, Cond.code yX0_has cX0_has 2 (some .boolean), Cond.methodLink RX0 37 yX0_slot, Cond.instanceMethod yX0_slot, Cond.selects RX0 yX0_slot yX0_slot, Cond.code yX0_slot cX0_slot 3 (some .int), Cond.fieldLink RX0 79 "RingSeries$Ring" "oldest" "I", Cond.fieldLink RX0 15 "RingSeries$Ring" "room" "I", Cond.methodLink RX0 56 yX0_endOfEntry, Cond.instanceMethod yX0_endOfEntry, Cond.selects RX0 yX0_endOfEntry yX0_endOfEntry, Cond.code yX0_endOfEntry cX0_endOfEntry 2 (some .long), Cond.fieldLink RX0 18 "RingSeries$Ring" "width" "I", Cond.methodLink RX0 52 yX0_figureOf, Cond.instanceMethod yX0_figureOf]
def wsX0_manyWhollyIn_r2 : List Cond := [Cond.selects RX0 yX0_figureOf yX0_figureOf, Cond.code yX0_figureOf cX0_figureOf 3 (some .int), Cond.fieldLink RX0 27 "RingSeries$Ring" "figures" "[[I"]
def wsX0_manyWhollyIn : List Cond := .code yX0_manyWhollyIn cX0_manyWhollyIn 8 (some .long) :: ((wsX0_manyWhollyIn_r1 ++ wsX0_manyWhollyIn_r2) ++ wsX00)
def wsX0_hasFiguresOf_r1 : List Cond := [Cond.methodLink RX0 52 yX0_figureOf, Cond.instanceMethod yX0_figureOf, Cond.selects RX0 yX0_figureOf yX0_figureOf, Cond.initialized RX0, Cond.code yX0_figureOf cX0_figureOf 3 (some .int), Cond.fieldLink RX0 27 "RingSeries$Ring" "figures" "[[I", Cond.methodLink RX0 33 yX0_has, Cond.instanceMethod yX0_has, Cond.selects RX0 yX0_has yX0_has, Cond.code yX0_has cX0_has 2 (some .boolean), Cond.fieldLink RX0 30 "RingSeries$Ring" "held" "I", Cond.methodLink RX0 37 yX0_slot, Cond.instanceMethod yX0_slot, Cond.selects RX0 yX0_slot yX0_slot, Cond.code yX0_slot cX0_slot 3 (some .int), Cond.fieldLink RX0 79 "RingSeries$Ring" "oldest" "I", Cond.fieldLink RX0 15 "RingSeries$Ring" "room" "I", Cond.methodLink RX0 68 yX0_together, Cond.instanceMethod yX0_together, Cond.selects RX0 yX0_together yX0_together, Cond.code yX0_together cX0_together 6 (some .int), Cond.methodLink RX0 48 yX0_joined, Cond.static yX0_joined, Cond.code yX0_joined cX0_joined 3 (some .int)]
def wsX0_hasFiguresOf_r2 : List Cond := [Cond.methodLink RX0 71 Lib.Math.min.name, Cond.static Lib.Math.min.name, Cond.initialized "java/lang/Math", Cond.code Lib.Math.min.name Lib.Math.min.code 2 (some .int), Cond.methodLink RX0 76 Lib.Math.max.name, Cond.static Lib.Math.max.name, Cond.code Lib.Math.max.name Lib.Math.max.code 2 (some .int)]
def wsX0_hasFiguresOf : List Cond := .code yX0_hasFiguresOf cX0_hasFiguresOf 6 (some .boolean) :: ((wsX0_hasFiguresOf_r1 ++ wsX0_hasFiguresOf_r2) ++ wsX00)
def wsX0_agreesWith_r1 : List Cond := [Cond.fieldLink RX0 30 "RingSeries$Ring" "held" "I", Cond.fieldLink RX0 9 "RingSeries$Ring" "gone" "I", Cond.methodLink RX0 41 yX0_startOf, Cond.instanceMethod yX0_startOf, Cond.selects RX0 yX0_startOf yX0_startOf, Cond.initialized RX0, Cond.code yX0_startOf cX0_startOf 2 (some .int), Cond.fieldLink RX0 21 "RingSeries$Ring" "starts" "[I", Cond.methodLink RX0 33 yX0_has, Cond.instanceMethod yX0_has, Cond.selects RX0 yX0_has yX0_has, Cond.code yX0_has cX0_has 2 (some .boolean), Cond.methodLink RX0 37 yX0_slot, Cond.instanceMethod yX0_slot, Cond.selects RX0 yX0_slot yX0_slot, Cond.code yX0_slot cX0_slot 3 (some .int), Cond.fieldLink RX0 79 "RingSeries$Ring" "oldest" "I", Cond.fieldLink RX0 15 "RingSeries$Ring" "room" "I", Cond.methodLink RX0 60 yX0_firstFrom, Cond.instanceMethod yX0_firstFrom, Cond.selects RX0 yX0_firstFrom yX0_firstFrom, Cond.code yX0_firstFrom cX0_firstFrom 5 (some .int), Cond.methodLink RX0 56 yX0_endOfEntry, Cond.instanceMethod yX0_endOfEntry]
def wsX0_agreesWith_r2 : List Cond := [Cond.selects RX0 yX0_endOfEntry yX0_endOfEntry, Cond.code yX0_endOfEntry cX0_endOfEntry 2 (some .long), Cond.fieldLink RX0 18 "RingSeries$Ring" "width" "I", Cond.methodLink RX0 64 yX0_hasFiguresOf, Cond.instanceMethod yX0_hasFiguresOf, Cond.selects RX0 yX0_hasFiguresOf yX0_hasFiguresOf, Cond.code yX0_hasFiguresOf cX0_hasFiguresOf 6 (some .boolean), Cond.methodLink RX0 52 yX0_figureOf, Cond.instanceMethod yX0_figureOf, Cond.selects RX0 yX0_figureOf yX0_figureOf, Cond.code yX0_figureOf cX0_figureOf 3 (some .int), Cond.fieldLink RX0 27 "RingSeries$Ring" "figures" "[[I", Cond.methodLink RX0 68 yX0_together, Cond.instanceMethod yX0_together, Cond.selects RX0 yX0_together yX0_together, Cond.code yX0_together cX0_together 6 (some .int), Cond.methodLink RX0 48 yX0_joined, Cond.static yX0_joined, Cond.code yX0_joined cX0_joined 3 (some .int), Cond.methodLink RX0 71 Lib.Math.min.name, Cond.static Lib.Math.min.name, Cond.initialized "java/lang/Math", Cond.code Lib.Math.min.name Lib.Math.min.code 2 (some .int), Cond.methodLink RX0 76 Lib.Math.max.name]
def wsX0_agreesWith_r3 : List Cond := [Cond.static Lib.Math.max.name, Cond.code Lib.Math.max.name Lib.Math.max.code 2 (some .int)]
def wsX0_agreesWith : List Cond := .code yX0_agreesWith cX0_agreesWith 6 (some .boolean) :: ((wsX0_agreesWith_r1 ++ (wsX0_agreesWith_r2 ++ wsX0_agreesWith_r3)) ++ wsX00)
def wsX1_within : List Cond := .code yX1_within cX1_within 3 (some .int) :: ([.methodLink RX1 95 Lib.Math.min.name, .static Lib.Math.min.name, .initialized "java/lang/Math", .code Lib.Math.min.name Lib.Math.min.code 2 (some .int), .methodLink RX1 97 Lib.Math.max.name, .static Lib.Math.max.name, .code Lib.Math.max.name Lib.Math.max.code 2 (some .int)])
def wsX1_init_r1 : List Cond := [Cond.methodLink RX1 1 objectInit, Cond.instanceMethod objectInit, Cond.code objectInit ⟨#[0xb1]⟩ 1 none, Cond.fieldLink RX1 7 "RingSeries" "lastTime" "I", Cond.constant RX1 13 (1000000), Cond.classLink RX1 18 RX0, Cond.instantiable RX0 7, Cond.initialized RX0, Cond.fieldLink RX1 23 "RingSeries" "points" "LRingSeries$Ring;", Cond.fieldLink RX1 27 "RingSeries" "fine" "LRingSeries$Ring;", Cond.fieldLink RX1 30 "RingSeries" "coarse" "LRingSeries$Ring;", Cond.arrayClass .int, Cond.fieldLink RX1 33 "RingSeries" "sorted" "[I", Cond.methodLink RX1 14 yX1_within, Cond.static yX1_within, Cond.initialized RX1, Cond.code yX1_within cX1_within 3 (some .int), Cond.methodLink RX1 95 Lib.Math.min.name, Cond.static Lib.Math.min.name, Cond.initialized "java/lang/Math", Cond.code Lib.Math.min.name Lib.Math.min.code 2 (some .int), Cond.methodLink RX1 97 Lib.Math.max.name, Cond.static Lib.Math.max.name, Cond.code Lib.Math.max.name Lib.Math.max.code 2 (some .int)]
def wsX1_init_r2 : List Cond := [Cond.methodLink RX1 20 yX0_init, Cond.instanceMethod yX0_init, Cond.code yX0_init cX0_init 3 none, Cond.methodLink RX0 3 objectInit, Cond.fieldLink RX0 9 "RingSeries$Ring" "gone" "I", Cond.fieldLink RX0 15 "RingSeries$Ring" "room" "I", Cond.fieldLink RX0 18 "RingSeries$Ring" "width" "I", Cond.fieldLink RX0 21 "RingSeries$Ring" "starts" "[I", Cond.classLink RX0 25 "[[I", Cond.fieldLink RX0 27 "RingSeries$Ring" "figures" "[[I"]
def wsX1_init : List Cond := .code yX1_init cX1_init 9 none :: ((wsX1_init_r1 ++ wsX1_init_r2) ++ wsX10 ++ wsX00)
def wsX1_append_r1 : List Cond := [Cond.fieldLink RX1 7 "RingSeries" "lastTime" "I", Cond.fieldLink RX1 23 "RingSeries" "points" "LRingSeries$Ring;", Cond.fieldLink RX1 27 "RingSeries" "fine" "LRingSeries$Ring;", Cond.fieldLink RX1 30 "RingSeries" "coarse" "LRingSeries$Ring;", Cond.methodLink RX1 37 yX0_take, Cond.instanceMethod yX0_take, Cond.selects RX0 yX0_take yX0_take, Cond.initialized RX0, Cond.code yX0_take cX0_take 9 none, Cond.fieldLink RX0 18 "RingSeries$Ring" "width" "I", Cond.fieldLink RX0 30 "RingSeries$Ring" "held" "I", Cond.fieldLink RX0 27 "RingSeries$Ring" "figures" "[[I", Cond.methodLink RX0 41 yX0_startOf, Cond.instanceMethod yX0_startOf, Cond.selects RX0 yX0_startOf yX0_startOf, Cond.code yX0_startOf cX0_startOf 2 (some .int), Cond.fieldLink RX0 21 "RingSeries$Ring" "starts" "[I", Cond.methodLink RX0 33 yX0_has, Cond.instanceMethod yX0_has, Cond.selects RX0 yX0_has yX0_has, Cond.code yX0_has cX0_has 2 (some .boolean), Cond.methodLink RX0 37 yX0_slot, Cond.instanceMethod yX0_slot, Cond.selects RX0 yX0_slot yX0_slot]
def wsX1_append_r2 : List Cond := [Cond.code yX0_slot cX0_slot 3 (some .int), Cond.fieldLink RX0 79 "RingSeries$Ring" "oldest" "I", Cond.fieldLink RX0 15 "RingSeries$Ring" "room" "I", Cond.methodLink RX0 44 yX0_open, Cond.instanceMethod yX0_open, Cond.selects RX0 yX0_open yX0_open, Cond.code yX0_open cX0_open 2 none, Cond.fieldLink RX0 9 "RingSeries$Ring" "gone" "I", Cond.methodLink RX0 48 yX0_joined, Cond.static yX0_joined, Cond.code yX0_joined cX0_joined 3 (some .int), Cond.methodLink RX0 71 Lib.Math.min.name, Cond.static Lib.Math.min.name, Cond.initialized "java/lang/Math", Cond.code Lib.Math.min.name Lib.Math.min.code 2 (some .int), Cond.methodLink RX0 76 Lib.Math.max.name, Cond.static Lib.Math.max.name, Cond.code Lib.Math.max.name Lib.Math.max.code 2 (some .int)]
def wsX1_append : List Cond := .code yX1_append cX1_append 3 (some .int) :: ((wsX1_append_r1 ++ wsX1_append_r2) ++ wsX10 ++ wsX00)
def wsX1_ringOf : List Cond := .code yX1_ringOf cX1_ringOf 2 (some (.object "RingSeries$Ring")) :: ([.fieldLink RX1 23 "RingSeries" "points" "LRingSeries$Ring;", .fieldLink RX1 27 "RingSeries" "fine" "LRingSeries$Ring;", .fieldLink RX1 30 "RingSeries" "coarse" "LRingSeries$Ring;"] ++ wsX10)
def wsX1_count : List Cond := .code yX1_count cX1_count 3 (some .int) :: ([.methodLink RX1 40 yX1_ringOf, .instanceMethod yX1_ringOf, .selects RX1 yX1_ringOf yX1_ringOf, .initialized RX1, .code yX1_ringOf cX1_ringOf 2 (some (.object "RingSeries$Ring")), .fieldLink RX1 23 "RingSeries" "points" "LRingSeries$Ring;", .fieldLink RX1 27 "RingSeries" "fine" "LRingSeries$Ring;", .fieldLink RX1 30 "RingSeries" "coarse" "LRingSeries$Ring;", .methodLink RX1 44 yX0_size, .instanceMethod yX0_size, .selects RX0 yX0_size yX0_size, .initialized RX0, .code yX0_size cX0_size 1 (some .int), .fieldLink RX0 30 "RingSeries$Ring" "held" "I"] ++ wsX10 ++ wsX00)
def wsX1_start_r1 : List Cond := [Cond.methodLink RX1 40 yX1_ringOf, Cond.instanceMethod yX1_ringOf, Cond.selects RX1 yX1_ringOf yX1_ringOf, Cond.initialized RX1, Cond.code yX1_ringOf cX1_ringOf 2 (some (.object "RingSeries$Ring")), Cond.fieldLink RX1 23 "RingSeries" "points" "LRingSeries$Ring;", Cond.fieldLink RX1 27 "RingSeries" "fine" "LRingSeries$Ring;", Cond.fieldLink RX1 30 "RingSeries" "coarse" "LRingSeries$Ring;", Cond.methodLink RX1 48 yX0_startOf, Cond.instanceMethod yX0_startOf, Cond.selects RX0 yX0_startOf yX0_startOf, Cond.initialized RX0, Cond.code yX0_startOf cX0_startOf 2 (some .int), Cond.fieldLink RX0 21 "RingSeries$Ring" "starts" "[I", Cond.methodLink RX0 33 yX0_has, Cond.instanceMethod yX0_has, Cond.selects RX0 yX0_has yX0_has, Cond.code yX0_has cX0_has 2 (some .boolean), Cond.fieldLink RX0 30 "RingSeries$Ring" "held" "I", Cond.methodLink RX0 37 yX0_slot, Cond.instanceMethod yX0_slot, Cond.selects RX0 yX0_slot yX0_slot, Cond.code yX0_slot cX0_slot 3 (some .int), Cond.fieldLink RX0 79 "RingSeries$Ring" "oldest" "I"]
def wsX1_start_r2 : List Cond := [Cond.fieldLink RX0 15 "RingSeries$Ring" "room" "I"]
def wsX1_start : List Cond := .code yX1_start cX1_start 4 (some .int) :: ((wsX1_start_r1 ++ wsX1_start_r2) ++ wsX10 ++ wsX00)
def wsX1_figure_r1 : List Cond := [Cond.methodLink RX1 40 yX1_ringOf, Cond.instanceMethod yX1_ringOf, Cond.selects RX1 yX1_ringOf yX1_ringOf, Cond.initialized RX1, Cond.code yX1_ringOf cX1_ringOf 2 (some (.object "RingSeries$Ring")), Cond.fieldLink RX1 23 "RingSeries" "points" "LRingSeries$Ring;", Cond.fieldLink RX1 27 "RingSeries" "fine" "LRingSeries$Ring;", Cond.fieldLink RX1 30 "RingSeries" "coarse" "LRingSeries$Ring;", Cond.methodLink RX1 52 yX0_figureOf, Cond.instanceMethod yX0_figureOf, Cond.selects RX0 yX0_figureOf yX0_figureOf, Cond.initialized RX0, Cond.code yX0_figureOf cX0_figureOf 3 (some .int), Cond.fieldLink RX0 27 "RingSeries$Ring" "figures" "[[I", Cond.methodLink RX0 33 yX0_has, Cond.instanceMethod yX0_has, Cond.selects RX0 yX0_has yX0_has, Cond.code yX0_has cX0_has 2 (some .boolean), Cond.fieldLink RX0 30 "RingSeries$Ring" "held" "I", Cond.methodLink RX0 37 yX0_slot, Cond.instanceMethod yX0_slot, Cond.selects RX0 yX0_slot yX0_slot, Cond.code yX0_slot cX0_slot 3 (some .int), Cond.fieldLink RX0 79 "RingSeries$Ring" "oldest" "I"]
def wsX1_figure_r2 : List Cond := [Cond.fieldLink RX0 15 "RingSeries$Ring" "room" "I"]
def wsX1_figure : List Cond := .code yX1_figure cX1_figure 5 (some .int) :: ((wsX1_figure_r1 ++ wsX1_figure_r2) ++ wsX10 ++ wsX00)
def wsX1_firstIn : List Cond := .code yX1_firstIn cX1_firstIn 2 (some .int) :: ([.fieldLink RX1 23 "RingSeries" "points" "LRingSeries$Ring;", .methodLink RX1 68 yX0_firstFrom, .instanceMethod yX0_firstFrom, .selects RX0 yX0_firstFrom yX0_firstFrom, .initialized RX0, .code yX0_firstFrom cX0_firstFrom 5 (some .int), .fieldLink RX0 30 "RingSeries$Ring" "held" "I", .methodLink RX0 41 yX0_startOf, .instanceMethod yX0_startOf, .selects RX0 yX0_startOf yX0_startOf, .code yX0_startOf cX0_startOf 2 (some .int), .fieldLink RX0 21 "RingSeries$Ring" "starts" "[I", .methodLink RX0 33 yX0_has, .instanceMethod yX0_has, .selects RX0 yX0_has yX0_has, .code yX0_has cX0_has 2 (some .boolean), .methodLink RX0 37 yX0_slot, .instanceMethod yX0_slot, .selects RX0 yX0_slot yX0_slot, .code yX0_slot cX0_slot 3 (some .int), .fieldLink RX0 79 "RingSeries$Ring" "oldest" "I", .fieldLink RX0 15 "RingSeries$Ring" "room" "I"] ++ wsX10 ++ wsX00)
def wsX1_endOf : List Cond := .code yX1_endOf cX1_endOf 3 (some .int) :: ([.fieldLink RX1 23 "RingSeries" "points" "LRingSeries$Ring;", .methodLink RX1 68 yX0_firstFrom, .instanceMethod yX0_firstFrom, .selects RX0 yX0_firstFrom yX0_firstFrom, .initialized RX0, .code yX0_firstFrom cX0_firstFrom 5 (some .int), .fieldLink RX0 30 "RingSeries$Ring" "held" "I", .methodLink RX0 41 yX0_startOf, .instanceMethod yX0_startOf, .selects RX0 yX0_startOf yX0_startOf, .code yX0_startOf cX0_startOf 2 (some .int), .fieldLink RX0 21 "RingSeries$Ring" "starts" "[I", .methodLink RX0 33 yX0_has, .instanceMethod yX0_has, .selects RX0 yX0_has yX0_has, .code yX0_has cX0_has 2 (some .boolean), .methodLink RX0 37 yX0_slot, .instanceMethod yX0_slot, .selects RX0 yX0_slot yX0_slot, .code yX0_slot cX0_slot 3 (some .int), .fieldLink RX0 79 "RingSeries$Ring" "oldest" "I", .fieldLink RX0 15 "RingSeries$Ring" "room" "I"] ++ wsX10 ++ wsX00)
def wsX1_many_r1 : List Cond := [Cond.methodLink RX1 56 yX1_firstIn, Cond.instanceMethod yX1_firstIn, Cond.selects RX1 yX1_firstIn yX1_firstIn, Cond.initialized RX1, Cond.code yX1_firstIn cX1_firstIn 2 (some .int), Cond.fieldLink RX1 23 "RingSeries" "points" "LRingSeries$Ring;", Cond.methodLink RX1 68 yX0_firstFrom, Cond.instanceMethod yX0_firstFrom, Cond.selects RX0 yX0_firstFrom yX0_firstFrom, Cond.initialized RX0, Cond.code yX0_firstFrom cX0_firstFrom 5 (some .int), Cond.fieldLink RX0 30 "RingSeries$Ring" "held" "I", Cond.methodLink RX0 41 yX0_startOf, Cond.instanceMethod yX0_startOf, Cond.selects RX0 yX0_startOf yX0_startOf, Cond.code yX0_startOf cX0_startOf 2 (some .int), Cond.fieldLink RX0 21 "RingSeries$Ring" "starts" "[I", Cond.methodLink RX0 33 yX0_has, Cond.instanceMethod yX0_has, Cond.selects RX0 yX0_has yX0_has, Cond.code yX0_has cX0_has 2 (some .boolean), Cond.methodLink RX0 37 yX0_slot, Cond.instanceMethod yX0_slot, Cond.selects RX0 yX0_slot yX0_slot]
def wsX1_many_r2 : List Cond := [Cond.code yX0_slot cX0_slot 3 (some .int), Cond.fieldLink RX0 79 "RingSeries$Ring" "oldest" "I", Cond.fieldLink RX0 15 "RingSeries$Ring" "room" "I", Cond.methodLink RX1 59 yX1_endOf, Cond.instanceMethod yX1_endOf, Cond.selects RX1 yX1_endOf yX1_endOf, Cond.code yX1_endOf cX1_endOf 3 (some .int)]
def wsX1_many : List Cond := .code yX1_many cX1_many 4 (some .int) :: ((wsX1_many_r1 ++ wsX1_many_r2) ++ wsX10 ++ wsX00)
def wsX1_extreme_r1 : List Cond := [Cond.fieldLink RX1 23 "RingSeries" "points" "LRingSeries$Ring;", Cond.methodLink RX1 56 yX1_firstIn, Cond.instanceMethod yX1_firstIn, Cond.selects RX1 yX1_firstIn yX1_firstIn, Cond.initialized RX1, Cond.code yX1_firstIn cX1_firstIn 2 (some .int), Cond.methodLink RX1 68 yX0_firstFrom, Cond.instanceMethod yX0_firstFrom, Cond.selects RX0 yX0_firstFrom yX0_firstFrom, Cond.initialized RX0, Cond.code yX0_firstFrom cX0_firstFrom 5 (some .int), Cond.fieldLink RX0 30 "RingSeries$Ring" "held" "I", Cond.methodLink RX0 41 yX0_startOf, Cond.instanceMethod yX0_startOf, Cond.selects RX0 yX0_startOf yX0_startOf, Cond.code yX0_startOf cX0_startOf 2 (some .int), Cond.fieldLink RX0 21 "RingSeries$Ring" "starts" "[I", Cond.methodLink RX0 33 yX0_has, Cond.instanceMethod yX0_has, Cond.selects RX0 yX0_has yX0_has, Cond.code yX0_has cX0_has 2 (some .boolean), Cond.methodLink RX0 37 yX0_slot, Cond.instanceMethod yX0_slot, Cond.selects RX0 yX0_slot yX0_slot]
def wsX1_extreme_r2 : List Cond := [Cond.code yX0_slot cX0_slot 3 (some .int), Cond.fieldLink RX0 79 "RingSeries$Ring" "oldest" "I", Cond.fieldLink RX0 15 "RingSeries$Ring" "room" "I", Cond.methodLink RX1 59 yX1_endOf, Cond.instanceMethod yX1_endOf, Cond.selects RX1 yX1_endOf yX1_endOf, Cond.code yX1_endOf cX1_endOf 3 (some .int), Cond.methodLink RX1 62 yX0_together, Cond.instanceMethod yX0_together, Cond.selects RX0 yX0_together yX0_together, Cond.code yX0_together cX0_together 6 (some .int), Cond.methodLink RX0 52 yX0_figureOf, Cond.instanceMethod yX0_figureOf, Cond.selects RX0 yX0_figureOf yX0_figureOf, Cond.code yX0_figureOf cX0_figureOf 3 (some .int), Cond.fieldLink RX0 27 "RingSeries$Ring" "figures" "[[I", Cond.methodLink RX0 48 yX0_joined, Cond.static yX0_joined, Cond.code yX0_joined cX0_joined 3 (some .int), Cond.methodLink RX0 71 Lib.Math.min.name, Cond.static Lib.Math.min.name, Cond.initialized "java/lang/Math", Cond.code Lib.Math.min.name Lib.Math.min.code 2 (some .int), Cond.methodLink RX0 76 Lib.Math.max.name]
def wsX1_extreme_r3 : List Cond := [Cond.static Lib.Math.max.name, Cond.code Lib.Math.max.name Lib.Math.max.code 2 (some .int)]
def wsX1_extreme : List Cond := .code yX1_extreme cX1_extreme 5 (some .int) :: ((wsX1_extreme_r1 ++ (wsX1_extreme_r2 ++ wsX1_extreme_r3)) ++ wsX10 ++ wsX00)
def wsX1_valueOf : List Cond := .code yX1_valueOf cX1_valueOf 2 (some .int) :: ([.fieldLink RX1 23 "RingSeries" "points" "LRingSeries$Ring;", .methodLink RX1 52 yX0_figureOf, .instanceMethod yX0_figureOf, .selects RX0 yX0_figureOf yX0_figureOf, .initialized RX0, .code yX0_figureOf cX0_figureOf 3 (some .int), .fieldLink RX0 27 "RingSeries$Ring" "figures" "[[I", .methodLink RX0 33 yX0_has, .instanceMethod yX0_has, .selects RX0 yX0_has yX0_has, .code yX0_has cX0_has 2 (some .boolean), .fieldLink RX0 30 "RingSeries$Ring" "held" "I", .methodLink RX0 37 yX0_slot, .instanceMethod yX0_slot, .selects RX0 yX0_slot yX0_slot, .code yX0_slot cX0_slot 3 (some .int), .fieldLink RX0 79 "RingSeries$Ring" "oldest" "I", .fieldLink RX0 15 "RingSeries$Ring" "room" "I"] ++ wsX10 ++ wsX00)
def wsX1_sum_r1 : List Cond := [Cond.methodLink RX1 56 yX1_firstIn, Cond.instanceMethod yX1_firstIn, Cond.selects RX1 yX1_firstIn yX1_firstIn, Cond.initialized RX1, Cond.code yX1_firstIn cX1_firstIn 2 (some .int), Cond.fieldLink RX1 23 "RingSeries" "points" "LRingSeries$Ring;", Cond.methodLink RX1 68 yX0_firstFrom, Cond.instanceMethod yX0_firstFrom, Cond.selects RX0 yX0_firstFrom yX0_firstFrom, Cond.initialized RX0, Cond.code yX0_firstFrom cX0_firstFrom 5 (some .int), Cond.fieldLink RX0 30 "RingSeries$Ring" "held" "I", Cond.methodLink RX0 41 yX0_startOf, Cond.instanceMethod yX0_startOf, Cond.selects RX0 yX0_startOf yX0_startOf, Cond.code yX0_startOf cX0_startOf 2 (some .int), Cond.fieldLink RX0 21 "RingSeries$Ring" "starts" "[I", Cond.methodLink RX0 33 yX0_has, Cond.instanceMethod yX0_has, Cond.selects RX0 yX0_has yX0_has, Cond.code yX0_has cX0_has 2 (some .boolean), Cond.methodLink RX0 37 yX0_slot, Cond.instanceMethod yX0_slot, Cond.selects RX0 yX0_slot yX0_slot]
def wsX1_sum_r2 : List Cond := [Cond.code yX0_slot cX0_slot 3 (some .int), Cond.fieldLink RX0 79 "RingSeries$Ring" "oldest" "I", Cond.fieldLink RX0 15 "RingSeries$Ring" "room" "I", Cond.methodLink RX1 59 yX1_endOf, Cond.instanceMethod yX1_endOf, Cond.selects RX1 yX1_endOf yX1_endOf, Cond.code yX1_endOf cX1_endOf 3 (some .int), Cond.methodLink RX1 65 yX1_valueOf, Cond.instanceMethod yX1_valueOf, Cond.selects RX1 yX1_valueOf yX1_valueOf, Cond.code yX1_valueOf cX1_valueOf 2 (some .int), Cond.methodLink RX1 52 yX0_figureOf, Cond.instanceMethod yX0_figureOf, Cond.selects RX0 yX0_figureOf yX0_figureOf, Cond.code yX0_figureOf cX0_figureOf 3 (some .int), Cond.fieldLink RX0 27 "RingSeries$Ring" "figures" "[[I"]
def wsX1_sum : List Cond := .code yX1_sum cX1_sum 8 (some .long) :: ((wsX1_sum_r1 ++ wsX1_sum_r2) ++ wsX10 ++ wsX00)
def wsX1_riseTo : List Cond := .code yX1_riseTo cX1_riseTo 2 (some .long) :: ([.methodLink RX1 65 yX1_valueOf, .instanceMethod yX1_valueOf, .selects RX1 yX1_valueOf yX1_valueOf, .initialized RX1, .code yX1_valueOf cX1_valueOf 2 (some .int), .fieldLink RX1 23 "RingSeries" "points" "LRingSeries$Ring;", .methodLink RX1 52 yX0_figureOf, .instanceMethod yX0_figureOf, .selects RX0 yX0_figureOf yX0_figureOf, .initialized RX0, .code yX0_figureOf cX0_figureOf 3 (some .int), .fieldLink RX0 27 "RingSeries$Ring" "figures" "[[I", .methodLink RX0 33 yX0_has, .instanceMethod yX0_has, .selects RX0 yX0_has yX0_has, .code yX0_has cX0_has 2 (some .boolean), .fieldLink RX0 30 "RingSeries$Ring" "held" "I", .methodLink RX0 37 yX0_slot, .instanceMethod yX0_slot, .selects RX0 yX0_slot yX0_slot, .code yX0_slot cX0_slot 3 (some .int), .fieldLink RX0 79 "RingSeries$Ring" "oldest" "I", .fieldLink RX0 15 "RingSeries$Ring" "room" "I"] ++ wsX10 ++ wsX00)
def wsX1_onLine_r1 : List Cond := [Cond.fieldLink RX1 23 "RingSeries" "points" "LRingSeries$Ring;", Cond.methodLink RX1 48 yX0_startOf, Cond.instanceMethod yX0_startOf, Cond.selects RX0 yX0_startOf yX0_startOf, Cond.initialized RX0, Cond.code yX0_startOf cX0_startOf 2 (some .int), Cond.fieldLink RX0 21 "RingSeries$Ring" "starts" "[I", Cond.methodLink RX0 33 yX0_has, Cond.instanceMethod yX0_has, Cond.selects RX0 yX0_has yX0_has, Cond.code yX0_has cX0_has 2 (some .boolean), Cond.fieldLink RX0 30 "RingSeries$Ring" "held" "I", Cond.methodLink RX0 37 yX0_slot, Cond.instanceMethod yX0_slot, Cond.selects RX0 yX0_slot yX0_slot, Cond.code yX0_slot cX0_slot 3 (some .int), Cond.fieldLink RX0 79 "RingSeries$Ring" "oldest" "I", Cond.fieldLink RX0 15 "RingSeries$Ring" "room" "I", Cond.methodLink RX1 65 yX1_valueOf, Cond.instanceMethod yX1_valueOf, Cond.selects RX1 yX1_valueOf yX1_valueOf, Cond.initialized RX1, Cond.code yX1_valueOf cX1_valueOf 2 (some .int), Cond.methodLink RX1 52 yX0_figureOf]
def wsX1_onLine_r2 : List Cond := [Cond.instanceMethod yX0_figureOf, Cond.selects RX0 yX0_figureOf yX0_figureOf, Cond.code yX0_figureOf cX0_figureOf 3 (some .int), Cond.fieldLink RX0 27 "RingSeries$Ring" "figures" "[[I", Cond.methodLink RX1 75 yX1_riseTo, Cond.instanceMethod yX1_riseTo, Cond.selects RX1 yX1_riseTo yX1_riseTo, Cond.code yX1_riseTo cX1_riseTo 2 (some .long)]
def wsX1_onLine : List Cond := .code yX1_onLine cX1_onLine 8 (some .int) :: ((wsX1_onLine_r1 ++ wsX1_onLine_r2) ++ wsX10 ++ wsX00)
def wsX1_at_r1 : List Cond := [Cond.fieldLink RX1 23 "RingSeries" "points" "LRingSeries$Ring;", Cond.methodLink RX1 68 yX0_firstFrom, Cond.instanceMethod yX0_firstFrom, Cond.selects RX0 yX0_firstFrom yX0_firstFrom, Cond.initialized RX0, Cond.code yX0_firstFrom cX0_firstFrom 5 (some .int), Cond.fieldLink RX0 30 "RingSeries$Ring" "held" "I", Cond.methodLink RX0 41 yX0_startOf, Cond.instanceMethod yX0_startOf, Cond.selects RX0 yX0_startOf yX0_startOf, Cond.code yX0_startOf cX0_startOf 2 (some .int), Cond.fieldLink RX0 21 "RingSeries$Ring" "starts" "[I", Cond.methodLink RX0 33 yX0_has, Cond.instanceMethod yX0_has, Cond.selects RX0 yX0_has yX0_has, Cond.code yX0_has cX0_has 2 (some .boolean), Cond.methodLink RX0 37 yX0_slot, Cond.instanceMethod yX0_slot, Cond.selects RX0 yX0_slot yX0_slot, Cond.code yX0_slot cX0_slot 3 (some .int), Cond.fieldLink RX0 79 "RingSeries$Ring" "oldest" "I", Cond.fieldLink RX0 15 "RingSeries$Ring" "room" "I", Cond.methodLink RX1 44 yX0_size, Cond.instanceMethod yX0_size]
def wsX1_at_r2 : List Cond := [Cond.selects RX0 yX0_size yX0_size, Cond.code yX0_size cX0_size 1 (some .int), Cond.methodLink RX1 72 yX1_onLine, Cond.instanceMethod yX1_onLine, Cond.selects RX1 yX1_onLine yX1_onLine, Cond.initialized RX1, Cond.code yX1_onLine cX1_onLine 8 (some .int), Cond.methodLink RX1 48 yX0_startOf, Cond.methodLink RX1 65 yX1_valueOf, Cond.instanceMethod yX1_valueOf, Cond.selects RX1 yX1_valueOf yX1_valueOf, Cond.code yX1_valueOf cX1_valueOf 2 (some .int), Cond.methodLink RX1 52 yX0_figureOf, Cond.instanceMethod yX0_figureOf, Cond.selects RX0 yX0_figureOf yX0_figureOf, Cond.code yX0_figureOf cX0_figureOf 3 (some .int), Cond.fieldLink RX0 27 "RingSeries$Ring" "figures" "[[I", Cond.methodLink RX1 75 yX1_riseTo, Cond.instanceMethod yX1_riseTo, Cond.selects RX1 yX1_riseTo yX1_riseTo, Cond.code yX1_riseTo cX1_riseTo 2 (some .long)]
def wsX1_at : List Cond := .code yX1_at cX1_at 5 (some .int) :: ((wsX1_at_r1 ++ wsX1_at_r2) ++ wsX10 ++ wsX00)
def wsX1_steepest_r1 : List Cond := [Cond.methodLink RX1 56 yX1_firstIn, Cond.instanceMethod yX1_firstIn, Cond.selects RX1 yX1_firstIn yX1_firstIn, Cond.initialized RX1, Cond.code yX1_firstIn cX1_firstIn 2 (some .int), Cond.fieldLink RX1 23 "RingSeries" "points" "LRingSeries$Ring;", Cond.methodLink RX1 68 yX0_firstFrom, Cond.instanceMethod yX0_firstFrom, Cond.selects RX0 yX0_firstFrom yX0_firstFrom, Cond.initialized RX0, Cond.code yX0_firstFrom cX0_firstFrom 5 (some .int), Cond.fieldLink RX0 30 "RingSeries$Ring" "held" "I", Cond.methodLink RX0 41 yX0_startOf, Cond.instanceMethod yX0_startOf, Cond.selects RX0 yX0_startOf yX0_startOf, Cond.code yX0_startOf cX0_startOf 2 (some .int), Cond.fieldLink RX0 21 "RingSeries$Ring" "starts" "[I", Cond.methodLink RX0 33 yX0_has, Cond.instanceMethod yX0_has, Cond.selects RX0 yX0_has yX0_has, Cond.code yX0_has cX0_has 2 (some .boolean), Cond.methodLink RX0 37 yX0_slot, Cond.instanceMethod yX0_slot, Cond.selects RX0 yX0_slot yX0_slot]
def wsX1_steepest_r2 : List Cond := [Cond.code yX0_slot cX0_slot 3 (some .int), Cond.fieldLink RX0 79 "RingSeries$Ring" "oldest" "I", Cond.fieldLink RX0 15 "RingSeries$Ring" "room" "I", Cond.methodLink RX1 59 yX1_endOf, Cond.instanceMethod yX1_endOf, Cond.selects RX1 yX1_endOf yX1_endOf, Cond.code yX1_endOf cX1_endOf 3 (some .int), Cond.methodLink RX1 75 yX1_riseTo, Cond.instanceMethod yX1_riseTo, Cond.selects RX1 yX1_riseTo yX1_riseTo, Cond.code yX1_riseTo cX1_riseTo 2 (some .long), Cond.methodLink RX1 65 yX1_valueOf, Cond.instanceMethod yX1_valueOf, Cond.selects RX1 yX1_valueOf yX1_valueOf, Cond.code yX1_valueOf cX1_valueOf 2 (some .int), Cond.methodLink RX1 52 yX0_figureOf, Cond.instanceMethod yX0_figureOf, Cond.selects RX0 yX0_figureOf yX0_figureOf, Cond.code yX0_figureOf cX0_figureOf 3 (some .int), Cond.fieldLink RX0 27 "RingSeries$Ring" "figures" "[[I"]
def wsX1_steepest : List Cond := .code yX1_steepest cX1_steepest 11 (some .int) :: ((wsX1_steepest_r1 ++ wsX1_steepest_r2) ++ wsX10 ++ wsX00)
def wsX1_insertSorted : List Cond := .code yX1_insertSorted cX1_insertSorted 4 none :: ([.fieldLink RX1 33 "RingSeries" "sorted" "[I"] ++ wsX10)
def wsX1_median_r1 : List Cond := [Cond.fieldLink RX1 33 "RingSeries" "sorted" "[I", Cond.methodLink RX1 56 yX1_firstIn, Cond.instanceMethod yX1_firstIn, Cond.selects RX1 yX1_firstIn yX1_firstIn, Cond.initialized RX1, Cond.code yX1_firstIn cX1_firstIn 2 (some .int), Cond.fieldLink RX1 23 "RingSeries" "points" "LRingSeries$Ring;", Cond.methodLink RX1 68 yX0_firstFrom, Cond.instanceMethod yX0_firstFrom, Cond.selects RX0 yX0_firstFrom yX0_firstFrom, Cond.initialized RX0, Cond.code yX0_firstFrom cX0_firstFrom 5 (some .int), Cond.fieldLink RX0 30 "RingSeries$Ring" "held" "I", Cond.methodLink RX0 41 yX0_startOf, Cond.instanceMethod yX0_startOf, Cond.selects RX0 yX0_startOf yX0_startOf, Cond.code yX0_startOf cX0_startOf 2 (some .int), Cond.fieldLink RX0 21 "RingSeries$Ring" "starts" "[I", Cond.methodLink RX0 33 yX0_has, Cond.instanceMethod yX0_has, Cond.selects RX0 yX0_has yX0_has, Cond.code yX0_has cX0_has 2 (some .boolean), Cond.methodLink RX0 37 yX0_slot, Cond.instanceMethod yX0_slot]
def wsX1_median_r2 : List Cond := [Cond.selects RX0 yX0_slot yX0_slot, Cond.code yX0_slot cX0_slot 3 (some .int), Cond.fieldLink RX0 79 "RingSeries$Ring" "oldest" "I", Cond.fieldLink RX0 15 "RingSeries$Ring" "room" "I", Cond.methodLink RX1 59 yX1_endOf, Cond.instanceMethod yX1_endOf, Cond.selects RX1 yX1_endOf yX1_endOf, Cond.code yX1_endOf cX1_endOf 3 (some .int), Cond.methodLink RX1 65 yX1_valueOf, Cond.instanceMethod yX1_valueOf, Cond.selects RX1 yX1_valueOf yX1_valueOf, Cond.code yX1_valueOf cX1_valueOf 2 (some .int), Cond.methodLink RX1 52 yX0_figureOf, Cond.instanceMethod yX0_figureOf, Cond.selects RX0 yX0_figureOf yX0_figureOf, Cond.code yX0_figureOf cX0_figureOf 3 (some .int), Cond.fieldLink RX0 27 "RingSeries$Ring" "figures" "[[I", Cond.methodLink RX1 79 yX1_insertSorted, Cond.instanceMethod yX1_insertSorted, Cond.selects RX1 yX1_insertSorted yX1_insertSorted, Cond.code yX1_insertSorted cX1_insertSorted 4 none]
def wsX1_median : List Cond := .code yX1_median cX1_median 6 (some .int) :: ((wsX1_median_r1 ++ wsX1_median_r2) ++ wsX10 ++ wsX00)
def wsX1_reach_r1 : List Cond := [Cond.fieldLink RX1 23 "RingSeries" "points" "LRingSeries$Ring;", Cond.methodLink RX1 86 Lib.MathLoose.min_long.x, Cond.static Lib.MathLoose.min_long.x, Cond.initialized "java/lang/Math", Cond.code Lib.MathLoose.min_long.x Lib.MathLoose.min_long.code 4 (some .long), Cond.fieldLink RX1 27 "RingSeries" "fine" "LRingSeries$Ring;", Cond.fieldLink RX1 30 "RingSeries" "coarse" "LRingSeries$Ring;", Cond.methodLink RX1 82 yX0_manyWhollyIn, Cond.instanceMethod yX0_manyWhollyIn, Cond.selects RX0 yX0_manyWhollyIn yX0_manyWhollyIn, Cond.initialized RX0, Cond.code yX0_manyWhollyIn cX0_manyWhollyIn 8 (some .long), Cond.fieldLink RX0 30 "RingSeries$Ring" "held" "I", Cond.methodLink RX0 41 yX0_startOf, Cond.instanceMethod yX0_startOf, Cond.selects RX0 yX0_startOf yX0_startOf, Cond.code yX0_startOf cX0_startOf 2 (some .int), Cond.fieldLink RX0 21 "RingSeries$Ring" "starts" "[I", Cond.methodLink RX0 33 yX0_has, Cond.instanceMethod yX0_has, Cond.selects RX0 yX0_has yX0_has, Cond.code yX0_has cX0_has 2 (some .boolean), Cond.methodLink RX0 37 yX0_slot, Cond.instanceMethod yX0_slot]
def wsX1_reach_r2 : List Cond := [Cond.selects RX0 yX0_slot yX0_slot, Cond.code yX0_slot cX0_slot 3 (some .int), Cond.fieldLink RX0 79 "RingSeries$Ring" "oldest" "I", Cond.fieldLink RX0 15 "RingSeries$Ring" "room" "I", Cond.methodLink RX0 56 yX0_endOfEntry, Cond.instanceMethod yX0_endOfEntry, Cond.selects RX0 yX0_endOfEntry yX0_endOfEntry, Cond.code yX0_endOfEntry cX0_endOfEntry 2 (some .long), Cond.fieldLink RX0 18 "RingSeries$Ring" "width" "I", Cond.methodLink RX0 52 yX0_figureOf, Cond.instanceMethod yX0_figureOf, Cond.selects RX0 yX0_figureOf yX0_figureOf, Cond.code yX0_figureOf cX0_figureOf 3 (some .int), Cond.fieldLink RX0 27 "RingSeries$Ring" "figures" "[[I", Cond.methodLink RX1 48 yX0_startOf]
def wsX1_reach : List Cond := .code yX1_reach cX1_reach 7 (some .long) :: ((wsX1_reach_r1 ++ wsX1_reach_r2) ++ wsX10 ++ wsX00)
def wsX1_sound_r1 : List Cond := [Cond.fieldLink RX1 30 "RingSeries" "coarse" "LRingSeries$Ring;", Cond.fieldLink RX1 27 "RingSeries" "fine" "LRingSeries$Ring;", Cond.fieldLink RX1 23 "RingSeries" "points" "LRingSeries$Ring;", Cond.methodLink RX1 91 yX0_agreesWith, Cond.instanceMethod yX0_agreesWith, Cond.selects RX0 yX0_agreesWith yX0_agreesWith, Cond.initialized RX0, Cond.code yX0_agreesWith cX0_agreesWith 6 (some .boolean), Cond.fieldLink RX0 30 "RingSeries$Ring" "held" "I", Cond.fieldLink RX0 9 "RingSeries$Ring" "gone" "I", Cond.methodLink RX0 41 yX0_startOf, Cond.instanceMethod yX0_startOf, Cond.selects RX0 yX0_startOf yX0_startOf, Cond.code yX0_startOf cX0_startOf 2 (some .int), Cond.fieldLink RX0 21 "RingSeries$Ring" "starts" "[I", Cond.methodLink RX0 33 yX0_has, Cond.instanceMethod yX0_has, Cond.selects RX0 yX0_has yX0_has, Cond.code yX0_has cX0_has 2 (some .boolean), Cond.methodLink RX0 37 yX0_slot, Cond.instanceMethod yX0_slot, Cond.selects RX0 yX0_slot yX0_slot, Cond.code yX0_slot cX0_slot 3 (some .int), Cond.fieldLink RX0 79 "RingSeries$Ring" "oldest" "I"]
def wsX1_sound_r2 : List Cond := [Cond.fieldLink RX0 15 "RingSeries$Ring" "room" "I", Cond.methodLink RX0 60 yX0_firstFrom, Cond.instanceMethod yX0_firstFrom, Cond.selects RX0 yX0_firstFrom yX0_firstFrom, Cond.code yX0_firstFrom cX0_firstFrom 5 (some .int), Cond.methodLink RX0 56 yX0_endOfEntry, Cond.instanceMethod yX0_endOfEntry, Cond.selects RX0 yX0_endOfEntry yX0_endOfEntry, Cond.code yX0_endOfEntry cX0_endOfEntry 2 (some .long), Cond.fieldLink RX0 18 "RingSeries$Ring" "width" "I", Cond.methodLink RX0 64 yX0_hasFiguresOf, Cond.instanceMethod yX0_hasFiguresOf, Cond.selects RX0 yX0_hasFiguresOf yX0_hasFiguresOf, Cond.code yX0_hasFiguresOf cX0_hasFiguresOf 6 (some .boolean), Cond.methodLink RX0 52 yX0_figureOf, Cond.instanceMethod yX0_figureOf, Cond.selects RX0 yX0_figureOf yX0_figureOf, Cond.code yX0_figureOf cX0_figureOf 3 (some .int), Cond.fieldLink RX0 27 "RingSeries$Ring" "figures" "[[I", Cond.methodLink RX0 68 yX0_together, Cond.instanceMethod yX0_together, Cond.selects RX0 yX0_together yX0_together, Cond.code yX0_together cX0_together 6 (some .int), Cond.methodLink RX0 48 yX0_joined]
def wsX1_sound_r3 : List Cond := [Cond.static yX0_joined, Cond.code yX0_joined cX0_joined 3 (some .int), Cond.methodLink RX0 71 Lib.Math.min.name, Cond.static Lib.Math.min.name, Cond.initialized "java/lang/Math", Cond.code Lib.Math.min.name Lib.Math.min.code 2 (some .int), Cond.methodLink RX0 76 Lib.Math.max.name, Cond.static Lib.Math.max.name, Cond.code Lib.Math.max.name Lib.Math.max.code 2 (some .int)]
def wsX1_sound : List Cond := .code yX1_sound cX1_sound 1 (some .boolean) :: ((wsX1_sound_r1 ++ (wsX1_sound_r2 ++ wsX1_sound_r3)) ++ wsX10 ++ wsX00)
def wsX2_within : List Cond := .code yX2_within cX2_within 3 (some .int) :: ([])
def wsX2_init : List Cond := .code yX2_init cX2_init 6 none :: ([.methodLink RX2 1 objectInit, .instanceMethod objectInit, .code objectInit ⟨#[0xb1]⟩ 1 none, .arrayClass .int, .fieldLink RX2 7 "RingSeriesModel" "room" "[I", .arrayClass .long, .fieldLink RX2 13 "RingSeriesModel" "widths" "[J", .fieldLink RX2 17 "RingSeriesModel" "times" "[I", .fieldLink RX2 20 "RingSeriesModel" "values" "[I", .constant RX2 27 (1000000), .methodLink RX2 23 yX2_within, .static yX2_within, .initialized RX2, .code yX2_within cX2_within 3 (some .int)] ++ wsX20)
def wsX2_append : List Cond := .code yX2_append cX2_append 3 (some .int) :: ([.fieldLink RX2 32 "RingSeriesModel" "points" "I", .fieldLink RX2 17 "RingSeriesModel" "times" "[I", .fieldLink RX2 20 "RingSeriesModel" "values" "[I"] ++ wsX20)
def wsX2_isSame : List Cond := .code yX2_isSame cX2_isSame 4 (some .boolean) :: ([.fieldLink RX2 17 "RingSeriesModel" "times" "[I", .fieldLink RX2 13 "RingSeriesModel" "widths" "[J"] ++ wsX20)
def wsX2_all : List Cond := .code yX2_all cX2_all 4 (some .int) :: ([.fieldLink RX2 32 "RingSeriesModel" "points" "I", .methodLink RX2 35 yX2_isSame, .instanceMethod yX2_isSame, .selects RX2 yX2_isSame yX2_isSame, .initialized RX2, .code yX2_isSame cX2_isSame 4 (some .boolean), .fieldLink RX2 17 "RingSeriesModel" "times" "[I", .fieldLink RX2 13 "RingSeriesModel" "widths" "[J"] ++ wsX20)
def wsX2_kept : List Cond := .code yX2_kept cX2_kept 3 (some .int) :: ([.fieldLink RX2 32 "RingSeriesModel" "points" "I", .fieldLink RX2 7 "RingSeriesModel" "room" "[I", .methodLink RX2 39 yX2_all, .instanceMethod yX2_all, .selects RX2 yX2_all yX2_all, .initialized RX2, .code yX2_all cX2_all 4 (some .int), .methodLink RX2 35 yX2_isSame, .instanceMethod yX2_isSame, .selects RX2 yX2_isSame yX2_isSame, .code yX2_isSame cX2_isSame 4 (some .boolean), .fieldLink RX2 17 "RingSeriesModel" "times" "[I", .fieldLink RX2 13 "RingSeriesModel" "widths" "[J"] ++ wsX20)
def wsX2_first : List Cond := .code yX2_first cX2_first 6 (some .int) :: ([.methodLink RX2 39 yX2_all, .instanceMethod yX2_all, .selects RX2 yX2_all yX2_all, .initialized RX2, .code yX2_all cX2_all 4 (some .int), .fieldLink RX2 32 "RingSeriesModel" "points" "I", .methodLink RX2 35 yX2_isSame, .instanceMethod yX2_isSame, .selects RX2 yX2_isSame yX2_isSame, .code yX2_isSame cX2_isSame 4 (some .boolean), .fieldLink RX2 17 "RingSeriesModel" "times" "[I", .fieldLink RX2 13 "RingSeriesModel" "widths" "[J", .methodLink RX2 43 yX2_kept, .instanceMethod yX2_kept, .selects RX2 yX2_kept yX2_kept, .code yX2_kept cX2_kept 3 (some .int), .fieldLink RX2 7 "RingSeriesModel" "room" "[I"] ++ wsX20)
def wsX2_isEntry : List Cond := .code yX2_isEntry cX2_isEntry 3 (some .boolean) :: ([.methodLink RX2 43 yX2_kept, .instanceMethod yX2_kept, .selects RX2 yX2_kept yX2_kept, .initialized RX2, .code yX2_kept cX2_kept 3 (some .int), .fieldLink RX2 32 "RingSeriesModel" "points" "I", .fieldLink RX2 7 "RingSeriesModel" "room" "[I", .methodLink RX2 39 yX2_all, .instanceMethod yX2_all, .selects RX2 yX2_all yX2_all, .code yX2_all cX2_all 4 (some .int), .methodLink RX2 35 yX2_isSame, .instanceMethod yX2_isSame, .selects RX2 yX2_isSame yX2_isSame, .code yX2_isSame cX2_isSame 4 (some .boolean), .fieldLink RX2 17 "RingSeriesModel" "times" "[I", .fieldLink RX2 13 "RingSeriesModel" "widths" "[J"] ++ wsX20)
def wsX2_count : List Cond := .code yX2_count cX2_count 2 (some .int) :: ([.methodLink RX2 43 yX2_kept, .instanceMethod yX2_kept, .selects RX2 yX2_kept yX2_kept, .initialized RX2, .code yX2_kept cX2_kept 3 (some .int), .fieldLink RX2 32 "RingSeriesModel" "points" "I", .fieldLink RX2 7 "RingSeriesModel" "room" "[I", .methodLink RX2 39 yX2_all, .instanceMethod yX2_all, .selects RX2 yX2_all yX2_all, .code yX2_all cX2_all 4 (some .int), .methodLink RX2 35 yX2_isSame, .instanceMethod yX2_isSame, .selects RX2 yX2_isSame yX2_isSame, .code yX2_isSame cX2_isSame 4 (some .boolean), .fieldLink RX2 17 "RingSeriesModel" "times" "[I", .fieldLink RX2 13 "RingSeriesModel" "widths" "[J"] ++ wsX20)
def wsX2_begin : List Cond := .code yX2_begin cX2_begin 5 (some .long) :: ([.fieldLink RX2 17 "RingSeriesModel" "times" "[I", .fieldLink RX2 13 "RingSeriesModel" "widths" "[J", .methodLink RX2 46 yX2_first, .instanceMethod yX2_first, .selects RX2 yX2_first yX2_first, .initialized RX2, .code yX2_first cX2_first 6 (some .int), .methodLink RX2 39 yX2_all, .instanceMethod yX2_all, .selects RX2 yX2_all yX2_all, .code yX2_all cX2_all 4 (some .int), .fieldLink RX2 32 "RingSeriesModel" "points" "I", .methodLink RX2 35 yX2_isSame, .instanceMethod yX2_isSame, .selects RX2 yX2_isSame yX2_isSame, .code yX2_isSame cX2_isSame 4 (some .boolean), .methodLink RX2 43 yX2_kept, .instanceMethod yX2_kept, .selects RX2 yX2_kept yX2_kept, .code yX2_kept cX2_kept 3 (some .int), .fieldLink RX2 7 "RingSeriesModel" "room" "[I"] ++ wsX20)
def wsX2_start_r1 : List Cond := [Cond.methodLink RX2 50 yX2_isEntry, Cond.instanceMethod yX2_isEntry, Cond.selects RX2 yX2_isEntry yX2_isEntry, Cond.initialized RX2, Cond.code yX2_isEntry cX2_isEntry 3 (some .boolean), Cond.methodLink RX2 43 yX2_kept, Cond.instanceMethod yX2_kept, Cond.selects RX2 yX2_kept yX2_kept, Cond.code yX2_kept cX2_kept 3 (some .int), Cond.fieldLink RX2 32 "RingSeriesModel" "points" "I", Cond.fieldLink RX2 7 "RingSeriesModel" "room" "[I", Cond.methodLink RX2 39 yX2_all, Cond.instanceMethod yX2_all, Cond.selects RX2 yX2_all yX2_all, Cond.code yX2_all cX2_all 4 (some .int), Cond.methodLink RX2 35 yX2_isSame, Cond.instanceMethod yX2_isSame, Cond.selects RX2 yX2_isSame yX2_isSame, Cond.code yX2_isSame cX2_isSame 4 (some .boolean), Cond.fieldLink RX2 17 "RingSeriesModel" "times" "[I", Cond.fieldLink RX2 13 "RingSeriesModel" "widths" "[J", Cond.methodLink RX2 54 yX2_begin, Cond.instanceMethod yX2_begin, Cond.selects RX2 yX2_begin yX2_begin]
def wsX2_start_r2 : List Cond := [Cond.code yX2_begin cX2_begin 5 (some .long), Cond.methodLink RX2 46 yX2_first, Cond.instanceMethod yX2_first, Cond.selects RX2 yX2_first yX2_first, Cond.code yX2_first cX2_first 6 (some .int)]
def wsX2_start : List Cond := .code yX2_start cX2_start 3 (some .int) :: ((wsX2_start_r1 ++ wsX2_start_r2) ++ wsX20)
def wsX2_figure_r1 : List Cond := [Cond.fieldLink RX2 20 "RingSeriesModel" "values" "[I", Cond.fieldLink RX2 32 "RingSeriesModel" "points" "I", Cond.methodLink RX2 50 yX2_isEntry, Cond.instanceMethod yX2_isEntry, Cond.selects RX2 yX2_isEntry yX2_isEntry, Cond.initialized RX2, Cond.code yX2_isEntry cX2_isEntry 3 (some .boolean), Cond.methodLink RX2 43 yX2_kept, Cond.instanceMethod yX2_kept, Cond.selects RX2 yX2_kept yX2_kept, Cond.code yX2_kept cX2_kept 3 (some .int), Cond.fieldLink RX2 7 "RingSeriesModel" "room" "[I", Cond.methodLink RX2 39 yX2_all, Cond.instanceMethod yX2_all, Cond.selects RX2 yX2_all yX2_all, Cond.code yX2_all cX2_all 4 (some .int), Cond.methodLink RX2 35 yX2_isSame, Cond.instanceMethod yX2_isSame, Cond.selects RX2 yX2_isSame yX2_isSame, Cond.code yX2_isSame cX2_isSame 4 (some .boolean), Cond.fieldLink RX2 17 "RingSeriesModel" "times" "[I", Cond.fieldLink RX2 13 "RingSeriesModel" "widths" "[J", Cond.methodLink RX2 46 yX2_first, Cond.instanceMethod yX2_first]
def wsX2_figure_r2 : List Cond := [Cond.selects RX2 yX2_first yX2_first, Cond.code yX2_first cX2_first 6 (some .int)]
def wsX2_figure : List Cond := .code yX2_figure cX2_figure 10 (some .int) :: ((wsX2_figure_r1 ++ wsX2_figure_r2) ++ wsX20)
def wsX2_isIn : List Cond := .code yX2_isIn cX2_isIn 4 (some .boolean) :: ([.fieldLink RX2 32 "RingSeriesModel" "points" "I", .fieldLink RX2 17 "RingSeriesModel" "times" "[I", .methodLink RX2 43 yX2_kept, .instanceMethod yX2_kept, .selects RX2 yX2_kept yX2_kept, .initialized RX2, .code yX2_kept cX2_kept 3 (some .int), .fieldLink RX2 7 "RingSeriesModel" "room" "[I", .methodLink RX2 39 yX2_all, .instanceMethod yX2_all, .selects RX2 yX2_all yX2_all, .code yX2_all cX2_all 4 (some .int), .methodLink RX2 35 yX2_isSame, .instanceMethod yX2_isSame, .selects RX2 yX2_isSame yX2_isSame, .code yX2_isSame cX2_isSame 4 (some .boolean), .fieldLink RX2 13 "RingSeriesModel" "widths" "[J"] ++ wsX20)
def wsX2_many : List Cond := .code yX2_many cX2_many 5 (some .int) :: ([.fieldLink RX2 32 "RingSeriesModel" "points" "I", .methodLink RX2 58 yX2_isIn, .instanceMethod yX2_isIn, .selects RX2 yX2_isIn yX2_isIn, .initialized RX2, .code yX2_isIn cX2_isIn 4 (some .boolean), .fieldLink RX2 17 "RingSeriesModel" "times" "[I", .methodLink RX2 43 yX2_kept, .instanceMethod yX2_kept, .selects RX2 yX2_kept yX2_kept, .code yX2_kept cX2_kept 3 (some .int), .fieldLink RX2 7 "RingSeriesModel" "room" "[I", .methodLink RX2 39 yX2_all, .instanceMethod yX2_all, .selects RX2 yX2_all yX2_all, .code yX2_all cX2_all 4 (some .int), .methodLink RX2 35 yX2_isSame, .instanceMethod yX2_isSame, .selects RX2 yX2_isSame yX2_isSame, .code yX2_isSame cX2_isSame 4 (some .boolean), .fieldLink RX2 13 "RingSeriesModel" "widths" "[J"] ++ wsX20)
def wsX2_extreme : List Cond := .code yX2_extreme cX2_extreme 8 (some .int) :: ([.fieldLink RX2 32 "RingSeriesModel" "points" "I", .fieldLink RX2 20 "RingSeriesModel" "values" "[I", .methodLink RX2 58 yX2_isIn, .instanceMethod yX2_isIn, .selects RX2 yX2_isIn yX2_isIn, .initialized RX2, .code yX2_isIn cX2_isIn 4 (some .boolean), .fieldLink RX2 17 "RingSeriesModel" "times" "[I", .methodLink RX2 43 yX2_kept, .instanceMethod yX2_kept, .selects RX2 yX2_kept yX2_kept, .code yX2_kept cX2_kept 3 (some .int), .fieldLink RX2 7 "RingSeriesModel" "room" "[I", .methodLink RX2 39 yX2_all, .instanceMethod yX2_all, .selects RX2 yX2_all yX2_all, .code yX2_all cX2_all 4 (some .int), .methodLink RX2 35 yX2_isSame, .instanceMethod yX2_isSame, .selects RX2 yX2_isSame yX2_isSame, .code yX2_isSame cX2_isSame 4 (some .boolean), .fieldLink RX2 13 "RingSeriesModel" "widths" "[J"] ++ wsX20)
def wsX2_sum : List Cond := .code yX2_sum cX2_sum 6 (some .long) :: ([.fieldLink RX2 32 "RingSeriesModel" "points" "I", .fieldLink RX2 20 "RingSeriesModel" "values" "[I", .methodLink RX2 58 yX2_isIn, .instanceMethod yX2_isIn, .selects RX2 yX2_isIn yX2_isIn, .initialized RX2, .code yX2_isIn cX2_isIn 4 (some .boolean), .fieldLink RX2 17 "RingSeriesModel" "times" "[I", .methodLink RX2 43 yX2_kept, .instanceMethod yX2_kept, .selects RX2 yX2_kept yX2_kept, .code yX2_kept cX2_kept 3 (some .int), .fieldLink RX2 7 "RingSeriesModel" "room" "[I", .methodLink RX2 39 yX2_all, .instanceMethod yX2_all, .selects RX2 yX2_all yX2_all, .code yX2_all cX2_all 4 (some .int), .methodLink RX2 35 yX2_isSame, .instanceMethod yX2_isSame, .selects RX2 yX2_isSame yX2_isSame, .code yX2_isSame cX2_isSame 4 (some .boolean), .fieldLink RX2 13 "RingSeriesModel" "widths" "[J"] ++ wsX20)
def wsX2_at : List Cond := .code yX2_at cX2_at 8 (some .int) :: ([.fieldLink RX2 32 "RingSeriesModel" "points" "I", .fieldLink RX2 17 "RingSeriesModel" "times" "[I", .fieldLink RX2 20 "RingSeriesModel" "values" "[I", .methodLink RX2 43 yX2_kept, .instanceMethod yX2_kept, .selects RX2 yX2_kept yX2_kept, .initialized RX2, .code yX2_kept cX2_kept 3 (some .int), .fieldLink RX2 7 "RingSeriesModel" "room" "[I", .methodLink RX2 39 yX2_all, .instanceMethod yX2_all, .selects RX2 yX2_all yX2_all, .code yX2_all cX2_all 4 (some .int), .methodLink RX2 35 yX2_isSame, .instanceMethod yX2_isSame, .selects RX2 yX2_isSame yX2_isSame, .code yX2_isSame cX2_isSame 4 (some .boolean), .fieldLink RX2 13 "RingSeriesModel" "widths" "[J"] ++ wsX20)
def wsX2_steepest : List Cond := .code yX2_steepest cX2_steepest 10 (some .int) :: ([.fieldLink RX2 32 "RingSeriesModel" "points" "I", .fieldLink RX2 20 "RingSeriesModel" "values" "[I", .methodLink RX2 43 yX2_kept, .instanceMethod yX2_kept, .selects RX2 yX2_kept yX2_kept, .initialized RX2, .code yX2_kept cX2_kept 3 (some .int), .fieldLink RX2 7 "RingSeriesModel" "room" "[I", .methodLink RX2 39 yX2_all, .instanceMethod yX2_all, .selects RX2 yX2_all yX2_all, .code yX2_all cX2_all 4 (some .int), .methodLink RX2 35 yX2_isSame, .instanceMethod yX2_isSame, .selects RX2 yX2_isSame yX2_isSame, .code yX2_isSame cX2_isSame 4 (some .boolean), .fieldLink RX2 17 "RingSeriesModel" "times" "[I", .fieldLink RX2 13 "RingSeriesModel" "widths" "[J", .methodLink RX2 58 yX2_isIn, .instanceMethod yX2_isIn, .selects RX2 yX2_isIn yX2_isIn, .code yX2_isIn cX2_isIn 4 (some .boolean)] ++ wsX20)
def wsX2_median_r1 : List Cond := [Cond.fieldLink RX2 32 "RingSeriesModel" "points" "I", Cond.fieldLink RX2 20 "RingSeriesModel" "values" "[I", Cond.methodLink RX2 61 yX2_many, Cond.instanceMethod yX2_many, Cond.selects RX2 yX2_many yX2_many, Cond.initialized RX2, Cond.code yX2_many cX2_many 5 (some .int), Cond.methodLink RX2 58 yX2_isIn, Cond.instanceMethod yX2_isIn, Cond.selects RX2 yX2_isIn yX2_isIn, Cond.code yX2_isIn cX2_isIn 4 (some .boolean), Cond.fieldLink RX2 17 "RingSeriesModel" "times" "[I", Cond.methodLink RX2 43 yX2_kept, Cond.instanceMethod yX2_kept, Cond.selects RX2 yX2_kept yX2_kept, Cond.code yX2_kept cX2_kept 3 (some .int), Cond.fieldLink RX2 7 "RingSeriesModel" "room" "[I", Cond.methodLink RX2 39 yX2_all, Cond.instanceMethod yX2_all, Cond.selects RX2 yX2_all yX2_all, Cond.code yX2_all cX2_all 4 (some .int), Cond.methodLink RX2 35 yX2_isSame, Cond.instanceMethod yX2_isSame, Cond.selects RX2 yX2_isSame yX2_isSame]
def wsX2_median_r2 : List Cond := [Cond.code yX2_isSame cX2_isSame 4 (some .boolean), Cond.fieldLink RX2 13 "RingSeriesModel" "widths" "[J"]
def wsX2_median : List Cond := .code yX2_median cX2_median 8 (some .int) :: ((wsX2_median_r1 ++ wsX2_median_r2) ++ wsX20)
def wsX2_whole_r1 : List Cond := [Cond.fieldLink RX2 13 "RingSeriesModel" "widths" "[J", Cond.methodLink RX2 43 yX2_kept, Cond.instanceMethod yX2_kept, Cond.selects RX2 yX2_kept yX2_kept, Cond.initialized RX2, Cond.code yX2_kept cX2_kept 3 (some .int), Cond.fieldLink RX2 32 "RingSeriesModel" "points" "I", Cond.fieldLink RX2 7 "RingSeriesModel" "room" "[I", Cond.methodLink RX2 39 yX2_all, Cond.instanceMethod yX2_all, Cond.selects RX2 yX2_all yX2_all, Cond.code yX2_all cX2_all 4 (some .int), Cond.methodLink RX2 35 yX2_isSame, Cond.instanceMethod yX2_isSame, Cond.selects RX2 yX2_isSame yX2_isSame, Cond.code yX2_isSame cX2_isSame 4 (some .boolean), Cond.fieldLink RX2 17 "RingSeriesModel" "times" "[I", Cond.methodLink RX2 54 yX2_begin, Cond.instanceMethod yX2_begin, Cond.selects RX2 yX2_begin yX2_begin, Cond.code yX2_begin cX2_begin 5 (some .long), Cond.methodLink RX2 46 yX2_first, Cond.instanceMethod yX2_first, Cond.selects RX2 yX2_first yX2_first]
def wsX2_whole_r2 : List Cond := [Cond.code yX2_first cX2_first 6 (some .int), Cond.methodLink RX2 64 yX2_figure, Cond.instanceMethod yX2_figure, Cond.selects RX2 yX2_figure yX2_figure, Cond.code yX2_figure cX2_figure 10 (some .int), Cond.fieldLink RX2 20 "RingSeriesModel" "values" "[I", Cond.methodLink RX2 50 yX2_isEntry, Cond.instanceMethod yX2_isEntry, Cond.selects RX2 yX2_isEntry yX2_isEntry, Cond.code yX2_isEntry cX2_isEntry 3 (some .boolean)]
def wsX2_whole : List Cond := .code yX2_whole cX2_whole 13 (some .long) :: ((wsX2_whole_r1 ++ wsX2_whole_r2) ++ wsX20)
def wsX2_reach_r1 : List Cond := [Cond.fieldLink RX2 32 "RingSeriesModel" "points" "I", Cond.fieldLink RX2 17 "RingSeriesModel" "times" "[I", Cond.methodLink RX2 43 yX2_kept, Cond.instanceMethod yX2_kept, Cond.selects RX2 yX2_kept yX2_kept, Cond.initialized RX2, Cond.code yX2_kept cX2_kept 3 (some .int), Cond.fieldLink RX2 7 "RingSeriesModel" "room" "[I", Cond.methodLink RX2 39 yX2_all, Cond.instanceMethod yX2_all, Cond.selects RX2 yX2_all yX2_all, Cond.code yX2_all cX2_all 4 (some .int), Cond.methodLink RX2 35 yX2_isSame, Cond.instanceMethod yX2_isSame, Cond.selects RX2 yX2_isSame yX2_isSame, Cond.code yX2_isSame cX2_isSame 4 (some .boolean), Cond.fieldLink RX2 13 "RingSeriesModel" "widths" "[J", Cond.methodLink RX2 54 yX2_begin, Cond.instanceMethod yX2_begin, Cond.selects RX2 yX2_begin yX2_begin, Cond.code yX2_begin cX2_begin 5 (some .long), Cond.methodLink RX2 46 yX2_first, Cond.instanceMethod yX2_first, Cond.selects RX2 yX2_first yX2_first]
def wsX2_reach_r2 : List Cond := [Cond.code yX2_first cX2_first 6 (some .int), Cond.methodLink RX2 61 yX2_many, Cond.instanceMethod yX2_many, Cond.selects RX2 yX2_many yX2_many, Cond.code yX2_many cX2_many 5 (some .int), Cond.methodLink RX2 58 yX2_isIn, Cond.instanceMethod yX2_isIn, Cond.selects RX2 yX2_isIn yX2_isIn, Cond.code yX2_isIn cX2_isIn 4 (some .boolean), Cond.methodLink RX2 67 yX2_whole, Cond.instanceMethod yX2_whole, Cond.selects RX2 yX2_whole yX2_whole, Cond.code yX2_whole cX2_whole 13 (some .long), Cond.methodLink RX2 64 yX2_figure, Cond.instanceMethod yX2_figure, Cond.selects RX2 yX2_figure yX2_figure, Cond.code yX2_figure cX2_figure 10 (some .int), Cond.fieldLink RX2 20 "RingSeriesModel" "values" "[I", Cond.methodLink RX2 50 yX2_isEntry, Cond.instanceMethod yX2_isEntry, Cond.selects RX2 yX2_isEntry yX2_isEntry, Cond.code yX2_isEntry cX2_isEntry 3 (some .boolean)]
def wsX2_reach : List Cond := .code yX2_reach cX2_reach 7 (some .long) :: ((wsX2_reach_r1 ++ wsX2_reach_r2) ++ wsX20)
def wsX2_sound : List Cond := .code yX2_sound cX2_sound 1 (some .boolean) :: ([])
def wsJ9_max_7cf53 : List Cond := .code yJ9_max_7cf53 cJ9_max_7cf53 2 (some .int) :: ([])
def wsJ9_min_7cf53 : List Cond := .code yJ9_min_7cf53 cJ9_min_7cf53 2 (some .int) :: ([])
def wsJ9_min_f86c9 : List Cond := .code yJ9_min_f86c9 cJ9_min_f86c9 4 (some .long) :: ([])
def wsL_cell : List Cond := .code yL_cell cL_cell 2 (some .int) :: ([])
def wsL_law_r1 : List Cond := [Cond.classLink RL 7 RX1, Cond.instantiable RX1 5, Cond.initialized RX1, Cond.classLink RL 18 RX2, Cond.instantiable RX2 6, Cond.initialized RX2, Cond.methodLink RL 9 yL_cell, Cond.static yL_cell, Cond.initialized RL, Cond.code yL_cell cL_cell 2 (some .int), Cond.methodLink RL 15 yX1_init, Cond.instanceMethod yX1_init, Cond.code yX1_init cX1_init 9 none, Cond.methodLink RX1 1 objectInit, Cond.instanceMethod objectInit, Cond.code objectInit ⟨#[0xb1]⟩ 1 none, Cond.fieldLink RX1 7 "RingSeries" "lastTime" "I", Cond.constant RX1 13 (1000000), Cond.classLink RX1 18 RX0, Cond.instantiable RX0 7, Cond.initialized RX0, Cond.fieldLink RX1 23 "RingSeries" "points" "LRingSeries$Ring;", Cond.fieldLink RX1 27 "RingSeries" "fine" "LRingSeries$Ring;", Cond.fieldLink RX1 30 "RingSeries" "coarse" "LRingSeries$Ring;"]
def wsL_law_r2 : List Cond := [Cond.arrayClass .int, Cond.fieldLink RX1 33 "RingSeries" "sorted" "[I", Cond.methodLink RX1 14 yX1_within, Cond.static yX1_within, Cond.code yX1_within cX1_within 3 (some .int), Cond.methodLink RX1 95 Lib.Math.min.name, Cond.static Lib.Math.min.name, Cond.initialized "java/lang/Math", Cond.code Lib.Math.min.name Lib.Math.min.code 2 (some .int), Cond.methodLink RX1 97 Lib.Math.max.name, Cond.static Lib.Math.max.name, Cond.code Lib.Math.max.name Lib.Math.max.code 2 (some .int), Cond.methodLink RX1 20 yX0_init, Cond.instanceMethod yX0_init, Cond.code yX0_init cX0_init 3 none, Cond.methodLink RX0 3 objectInit, Cond.fieldLink RX0 9 "RingSeries$Ring" "gone" "I", Cond.fieldLink RX0 15 "RingSeries$Ring" "room" "I", Cond.fieldLink RX0 18 "RingSeries$Ring" "width" "I", Cond.fieldLink RX0 21 "RingSeries$Ring" "starts" "[I", Cond.classLink RX0 25 "[[I", Cond.fieldLink RX0 27 "RingSeries$Ring" "figures" "[[I", Cond.methodLink RL 20 yX2_init, Cond.instanceMethod yX2_init]
def wsL_law_r3 : List Cond := [Cond.code yX2_init cX2_init 6 none, Cond.methodLink RX2 1 objectInit, Cond.fieldLink RX2 7 "RingSeriesModel" "room" "[I", Cond.arrayClass .long, Cond.fieldLink RX2 13 "RingSeriesModel" "widths" "[J", Cond.fieldLink RX2 17 "RingSeriesModel" "times" "[I", Cond.fieldLink RX2 20 "RingSeriesModel" "values" "[I", Cond.constant RX2 27 (1000000), Cond.methodLink RX2 23 yX2_within, Cond.static yX2_within, Cond.code yX2_within cX2_within 3 (some .int), Cond.methodLink RL 21 yX1_append, Cond.instanceMethod yX1_append, Cond.selects RX1 yX1_append yX1_append, Cond.code yX1_append cX1_append 3 (some .int), Cond.methodLink RX1 37 yX0_take, Cond.instanceMethod yX0_take, Cond.selects RX0 yX0_take yX0_take, Cond.code yX0_take cX0_take 9 none, Cond.fieldLink RX0 30 "RingSeries$Ring" "held" "I", Cond.methodLink RX0 41 yX0_startOf, Cond.instanceMethod yX0_startOf, Cond.selects RX0 yX0_startOf yX0_startOf, Cond.code yX0_startOf cX0_startOf 2 (some .int)]
def wsL_law_r4 : List Cond := [Cond.methodLink RX0 33 yX0_has, Cond.instanceMethod yX0_has, Cond.selects RX0 yX0_has yX0_has, Cond.code yX0_has cX0_has 2 (some .boolean), Cond.methodLink RX0 37 yX0_slot, Cond.instanceMethod yX0_slot, Cond.selects RX0 yX0_slot yX0_slot, Cond.code yX0_slot cX0_slot 3 (some .int), Cond.fieldLink RX0 79 "RingSeries$Ring" "oldest" "I", Cond.methodLink RX0 44 yX0_open, Cond.instanceMethod yX0_open, Cond.selects RX0 yX0_open yX0_open, Cond.code yX0_open cX0_open 2 none, Cond.methodLink RX0 48 yX0_joined, Cond.static yX0_joined, Cond.code yX0_joined cX0_joined 3 (some .int), Cond.methodLink RX0 71 Lib.Math.min.name, Cond.methodLink RX0 76 Lib.Math.max.name, Cond.methodLink RL 25 yX2_append, Cond.instanceMethod yX2_append, Cond.selects RX2 yX2_append yX2_append, Cond.code yX2_append cX2_append 3 (some .int), Cond.fieldLink RX2 32 "RingSeriesModel" "points" "I", Cond.methodLink RL 26 yX1_count]
def wsL_law_r5 : List Cond := [Cond.instanceMethod yX1_count, Cond.selects RX1 yX1_count yX1_count, Cond.code yX1_count cX1_count 3 (some .int), Cond.methodLink RX1 40 yX1_ringOf, Cond.instanceMethod yX1_ringOf, Cond.selects RX1 yX1_ringOf yX1_ringOf, Cond.code yX1_ringOf cX1_ringOf 2 (some (.object "RingSeries$Ring")), Cond.methodLink RX1 44 yX0_size, Cond.instanceMethod yX0_size, Cond.selects RX0 yX0_size yX0_size, Cond.code yX0_size cX0_size 1 (some .int), Cond.methodLink RL 30 yX2_count, Cond.instanceMethod yX2_count, Cond.selects RX2 yX2_count yX2_count, Cond.code yX2_count cX2_count 2 (some .int), Cond.methodLink RX2 43 yX2_kept, Cond.instanceMethod yX2_kept, Cond.selects RX2 yX2_kept yX2_kept, Cond.code yX2_kept cX2_kept 3 (some .int), Cond.methodLink RX2 39 yX2_all, Cond.instanceMethod yX2_all, Cond.selects RX2 yX2_all yX2_all, Cond.code yX2_all cX2_all 4 (some .int), Cond.methodLink RX2 35 yX2_isSame]
def wsL_law_r6 : List Cond := [Cond.instanceMethod yX2_isSame, Cond.selects RX2 yX2_isSame yX2_isSame, Cond.code yX2_isSame cX2_isSame 4 (some .boolean), Cond.methodLink RL 31 yX1_start, Cond.instanceMethod yX1_start, Cond.selects RX1 yX1_start yX1_start, Cond.code yX1_start cX1_start 4 (some .int), Cond.methodLink RX1 48 yX0_startOf, Cond.methodLink RL 34 yX2_start, Cond.instanceMethod yX2_start, Cond.selects RX2 yX2_start yX2_start, Cond.code yX2_start cX2_start 3 (some .int), Cond.methodLink RX2 50 yX2_isEntry, Cond.instanceMethod yX2_isEntry, Cond.selects RX2 yX2_isEntry yX2_isEntry, Cond.code yX2_isEntry cX2_isEntry 3 (some .boolean), Cond.methodLink RX2 54 yX2_begin, Cond.instanceMethod yX2_begin, Cond.selects RX2 yX2_begin yX2_begin, Cond.code yX2_begin cX2_begin 5 (some .long), Cond.methodLink RX2 46 yX2_first, Cond.instanceMethod yX2_first, Cond.selects RX2 yX2_first yX2_first, Cond.code yX2_first cX2_first 6 (some .int)]
def wsL_law_r7 : List Cond := [Cond.methodLink RL 35 yX1_figure, Cond.instanceMethod yX1_figure, Cond.selects RX1 yX1_figure yX1_figure, Cond.code yX1_figure cX1_figure 5 (some .int), Cond.methodLink RX1 52 yX0_figureOf, Cond.instanceMethod yX0_figureOf, Cond.selects RX0 yX0_figureOf yX0_figureOf, Cond.code yX0_figureOf cX0_figureOf 3 (some .int), Cond.methodLink RL 39 yX2_figure, Cond.instanceMethod yX2_figure, Cond.selects RX2 yX2_figure yX2_figure, Cond.code yX2_figure cX2_figure 10 (some .int), Cond.methodLink RL 40 yX1_many, Cond.instanceMethod yX1_many, Cond.selects RX1 yX1_many yX1_many, Cond.code yX1_many cX1_many 4 (some .int), Cond.methodLink RX1 56 yX1_firstIn, Cond.instanceMethod yX1_firstIn, Cond.selects RX1 yX1_firstIn yX1_firstIn, Cond.code yX1_firstIn cX1_firstIn 2 (some .int), Cond.methodLink RX1 68 yX0_firstFrom, Cond.instanceMethod yX0_firstFrom, Cond.selects RX0 yX0_firstFrom yX0_firstFrom, Cond.code yX0_firstFrom cX0_firstFrom 5 (some .int)]
def wsL_law_r8 : List Cond := [Cond.methodLink RX1 59 yX1_endOf, Cond.instanceMethod yX1_endOf, Cond.selects RX1 yX1_endOf yX1_endOf, Cond.code yX1_endOf cX1_endOf 3 (some .int), Cond.methodLink RL 43 yX2_many, Cond.instanceMethod yX2_many, Cond.selects RX2 yX2_many yX2_many, Cond.code yX2_many cX2_many 5 (some .int), Cond.methodLink RX2 58 yX2_isIn, Cond.instanceMethod yX2_isIn, Cond.selects RX2 yX2_isIn yX2_isIn, Cond.code yX2_isIn cX2_isIn 4 (some .boolean), Cond.methodLink RL 44 yX1_extreme, Cond.instanceMethod yX1_extreme, Cond.selects RX1 yX1_extreme yX1_extreme, Cond.code yX1_extreme cX1_extreme 5 (some .int), Cond.methodLink RX1 62 yX0_together, Cond.instanceMethod yX0_together, Cond.selects RX0 yX0_together yX0_together, Cond.code yX0_together cX0_together 6 (some .int), Cond.methodLink RX0 52 yX0_figureOf, Cond.methodLink RL 47 yX2_extreme, Cond.instanceMethod yX2_extreme, Cond.selects RX2 yX2_extreme yX2_extreme]
def wsL_law_r9 : List Cond := [Cond.code yX2_extreme cX2_extreme 8 (some .int), Cond.methodLink RL 48 yX1_sum, Cond.instanceMethod yX1_sum, Cond.selects RX1 yX1_sum yX1_sum, Cond.code yX1_sum cX1_sum 8 (some .long), Cond.methodLink RX1 65 yX1_valueOf, Cond.instanceMethod yX1_valueOf, Cond.selects RX1 yX1_valueOf yX1_valueOf, Cond.code yX1_valueOf cX1_valueOf 2 (some .int), Cond.methodLink RL 52 yX2_sum, Cond.instanceMethod yX2_sum, Cond.selects RX2 yX2_sum yX2_sum, Cond.code yX2_sum cX2_sum 6 (some .long), Cond.methodLink RL 53 yX1_at, Cond.instanceMethod yX1_at, Cond.selects RX1 yX1_at yX1_at, Cond.code yX1_at cX1_at 5 (some .int), Cond.methodLink RX1 72 yX1_onLine, Cond.instanceMethod yX1_onLine, Cond.selects RX1 yX1_onLine yX1_onLine, Cond.code yX1_onLine cX1_onLine 8 (some .int), Cond.methodLink RX1 75 yX1_riseTo, Cond.instanceMethod yX1_riseTo, Cond.selects RX1 yX1_riseTo yX1_riseTo]
def wsL_law_r10 : List Cond := [Cond.code yX1_riseTo cX1_riseTo 2 (some .long), Cond.methodLink RL 57 yX2_at, Cond.instanceMethod yX2_at, Cond.selects RX2 yX2_at yX2_at, Cond.code yX2_at cX2_at 8 (some .int), Cond.methodLink RL 58 yX1_steepest, Cond.instanceMethod yX1_steepest, Cond.selects RX1 yX1_steepest yX1_steepest, Cond.code yX1_steepest cX1_steepest 11 (some .int), Cond.methodLink RL 61 yX2_steepest, Cond.instanceMethod yX2_steepest, Cond.selects RX2 yX2_steepest yX2_steepest, Cond.code yX2_steepest cX2_steepest 10 (some .int), Cond.methodLink RL 62 yX1_median, Cond.instanceMethod yX1_median, Cond.selects RX1 yX1_median yX1_median, Cond.code yX1_median cX1_median 6 (some .int), Cond.methodLink RX1 79 yX1_insertSorted, Cond.instanceMethod yX1_insertSorted, Cond.selects RX1 yX1_insertSorted yX1_insertSorted, Cond.code yX1_insertSorted cX1_insertSorted 4 none, Cond.methodLink RL 65 yX2_median, Cond.instanceMethod yX2_median, Cond.selects RX2 yX2_median yX2_median]
def wsL_law_r11 : List Cond := [Cond.code yX2_median cX2_median 8 (some .int), Cond.methodLink RX2 61 yX2_many, Cond.methodLink RL 66 yX1_reach, Cond.instanceMethod yX1_reach, Cond.selects RX1 yX1_reach yX1_reach, Cond.code yX1_reach cX1_reach 7 (some .long), Cond.methodLink RX1 86 Lib.MathLoose.min_long.x, Cond.static Lib.MathLoose.min_long.x, Cond.code Lib.MathLoose.min_long.x Lib.MathLoose.min_long.code 4 (some .long), Cond.methodLink RX1 82 yX0_manyWhollyIn, Cond.instanceMethod yX0_manyWhollyIn, Cond.selects RX0 yX0_manyWhollyIn yX0_manyWhollyIn, Cond.code yX0_manyWhollyIn cX0_manyWhollyIn 8 (some .long), Cond.methodLink RX0 56 yX0_endOfEntry, Cond.instanceMethod yX0_endOfEntry, Cond.selects RX0 yX0_endOfEntry yX0_endOfEntry, Cond.code yX0_endOfEntry cX0_endOfEntry 2 (some .long), Cond.methodLink RL 69 yX2_reach, Cond.instanceMethod yX2_reach, Cond.selects RX2 yX2_reach yX2_reach, Cond.code yX2_reach cX2_reach 7 (some .long), Cond.methodLink RX2 67 yX2_whole, Cond.instanceMethod yX2_whole, Cond.selects RX2 yX2_whole yX2_whole]
def wsL_law_r12 : List Cond := [Cond.code yX2_whole cX2_whole 13 (some .long), Cond.methodLink RX2 64 yX2_figure, Cond.methodLink RL 70 yX1_sound, Cond.instanceMethod yX1_sound, Cond.selects RX1 yX1_sound yX1_sound, Cond.code yX1_sound cX1_sound 1 (some .boolean), Cond.methodLink RX1 91 yX0_agreesWith, Cond.instanceMethod yX0_agreesWith, Cond.selects RX0 yX0_agreesWith yX0_agreesWith, Cond.code yX0_agreesWith cX0_agreesWith 6 (some .boolean), Cond.methodLink RX0 60 yX0_firstFrom, Cond.methodLink RX0 64 yX0_hasFiguresOf, Cond.instanceMethod yX0_hasFiguresOf, Cond.selects RX0 yX0_hasFiguresOf yX0_hasFiguresOf, Cond.code yX0_hasFiguresOf cX0_hasFiguresOf 6 (some .boolean), Cond.methodLink RX0 68 yX0_together, Cond.methodLink RL 74 yX2_sound, Cond.instanceMethod yX2_sound, Cond.selects RX2 yX2_sound yX2_sound, Cond.code yX2_sound cX2_sound 1 (some .boolean)]
def wsL_law : List Cond := (wsL_law_r1 ++ (wsL_law_r2 ++ (wsL_law_r3 ++ (wsL_law_r4 ++ (wsL_law_r5 ++ (wsL_law_r6 ++ (wsL_law_r7 ++ (wsL_law_r8 ++ (wsL_law_r9 ++ (wsL_law_r10 ++ (wsL_law_r11 ++ wsL_law_r12))))))))))) ++ wsX10 ++ wsX20 ++ wsX00 ++ ([] : List Cond)
set_option maxRecDepth 20000 in
theorem wsL_law_in : ∀ w ∈ wsL_law, w ∈ lw_tbl := fun w h => (goodIn_p wsL_law [232, 29, 32, 36, 39, 42, 47, 237, 241, 93, 97, 101, 105, 109, 113, 116, 265, 122, 126, 130, 269, 273, 277, 281, 134, 285, 289, 293, 297, 139, 143, 301, 147, 151, 155, 159, 305, 309, 163, 167, 313, 172, 176, 317, 180, 184, 188, 321, 192, 325, 196, 200, 329, 204, 215, 208, 212, 334, 338, 219, 223, 228, 343] (by decide +kernel) (by decide +kernel) w h).1
theorem inlX0 : ∀ w ∈ wsX00, w ∈ wsL_law := fun _ h => List.mem_append_left _ (List.mem_append_right _ h)
theorem inX0 : ∀ w ∈ wsX00, w ∈ lw_tbl := fun w h => wsL_law_in w (inlX0 w h)
theorem inlX1 : ∀ w ∈ wsX10, w ∈ wsL_law := fun _ h => List.mem_append_left _ (List.mem_append_left _ (List.mem_append_left _ (List.mem_append_right _ h)))
theorem inX1 : ∀ w ∈ wsX10, w ∈ lw_tbl := fun w h => wsL_law_in w (inlX1 w h)
theorem inlX2 : ∀ w ∈ wsX20, w ∈ wsL_law := fun _ h => List.mem_append_left _ (List.mem_append_left _ (List.mem_append_right _ h))
theorem inX2 : ∀ w ∈ wsX20, w ∈ lw_tbl := fun w h => wsL_law_in w (inlX2 w h)
theorem inJ9 : ∀ w ∈ wsJ90, w ∈ lw_tbl := by decide +kernel
abbrev vwCl : List vw_C := [(RX0, TX0, 7), (RX1, TX1, 5), (RX2, TX2, 6)]
end
section
theorem dX0_init_0 : decode cX0_init 0 = .ok (.aload_n 0, 1) := by decide +kernel
theorem dX0_init_1 : decode cX0_init 1 = .ok (.invokespecial 3, 3) := by decide +kernel
theorem dX0_init_4 : decode cX0_init 4 = .ok (.aload_n 0, 1) := by decide +kernel
theorem dX0_init_5 : decode cX0_init 5 = .ok (.iconst (-1), 1) := by decide +kernel
theorem dX0_init_6 : decode cX0_init 6 = .ok (.putfield 9, 3) := by decide +kernel
theorem dX0_init_9 : decode cX0_init 9 = .ok (.aload_n 0, 1) := by decide +kernel
theorem dX0_init_10 : decode cX0_init 10 = .ok (.iload_n 1, 1) := by decide +kernel
theorem dX0_init_11 : decode cX0_init 11 = .ok (.putfield 15, 3) := by decide +kernel
theorem dX0_init_14 : decode cX0_init 14 = .ok (.aload_n 0, 1) := by decide +kernel
theorem dX0_init_15 : decode cX0_init 15 = .ok (.iload_n 2, 1) := by decide +kernel
theorem dX0_init_16 : decode cX0_init 16 = .ok (.putfield 18, 3) := by decide +kernel
theorem dX0_init_19 : decode cX0_init 19 = .ok (.aload_n 0, 1) := by decide +kernel
theorem dX0_init_20 : decode cX0_init 20 = .ok (.iload_n 1, 1) := by decide +kernel
theorem dX0_init_21 : decode cX0_init 21 = .ok (.newarray .int, 2) := by decide +kernel
theorem dX0_init_23 : decode cX0_init 23 = .ok (.putfield 21, 3) := by decide +kernel
theorem dX0_init_26 : decode cX0_init 26 = .ok (.aload_n 0, 1) := by decide +kernel
theorem dX0_init_27 : decode cX0_init 27 = .ok (.iconst 4, 1) := by decide +kernel
theorem dX0_init_28 : decode cX0_init 28 = .ok (.iload_n 1, 1) := by decide +kernel
theorem dX0_init_29 : decode cX0_init 29 = .ok (.multianewarray 25 2, 4) := by decide +kernel
theorem dX0_init_33 : decode cX0_init 33 = .ok (.putfield 27, 3) := by decide +kernel
theorem dX0_init_36 : decode cX0_init 36 = .ok (.return_, 1) := by decide +kernel
theorem dX0_size_0 : decode cX0_size 0 = .ok (.aload_n 0, 1) := by decide +kernel
theorem dX0_size_1 : decode cX0_size 1 = .ok (.getfield 30, 3) := by decide +kernel
theorem dX0_size_4 : decode cX0_size 4 = .ok (.ireturn, 1) := by decide +kernel
set_option maxRecDepth 20000 in
theorem ggX0_startOf_X0_has : GoodIn wsX0_startOf wsX0_has := goodIn_r _ [6, 7, 14, 15, 16, 17, 18, 19, 20] (by decide +kernel) (by decide +kernel)
set_option maxRecDepth 20000 in
theorem gX0_startOf_X0_has : GoodIn wsX0_startOf (wsV RX0 33 RX0 yX0_has wsX0_has) := goodIn_app (goodIn_of _ (by decide +kernel)) ggX0_startOf_X0_has
set_option maxRecDepth 20000 in
theorem ggX0_startOf_X0_slot : GoodIn wsX0_startOf wsX0_slot := goodIn_r _ [11, 12, 13, 14, 15, 16, 17, 18, 19, 20] (by decide +kernel) (by decide +kernel)
set_option maxRecDepth 20000 in
theorem gX0_startOf_X0_slot : GoodIn wsX0_startOf (wsV RX0 37 RX0 yX0_slot wsX0_slot) := goodIn_app (goodIn_of _ (by decide +kernel)) ggX0_startOf_X0_slot
theorem dX0_startOf_0 : decode cX0_startOf 0 = .ok (.aload_n 0, 1) := by decide +kernel
theorem dX0_startOf_1 : decode cX0_startOf 1 = .ok (.iload_n 1, 1) := by decide +kernel
theorem dX0_startOf_2 : decode cX0_startOf 2 = .ok (.invokevirtual 33, 3) := by decide +kernel
theorem dX0_startOf_5 : decode cX0_startOf 5 = .ok (.ifCond .eq 16, 3) := by decide +kernel
theorem dX0_startOf_8 : decode cX0_startOf 8 = .ok (.aload_n 0, 1) := by decide +kernel
theorem dX0_startOf_9 : decode cX0_startOf 9 = .ok (.getfield 21, 3) := by decide +kernel
theorem dX0_startOf_12 : decode cX0_startOf 12 = .ok (.aload_n 0, 1) := by decide +kernel
theorem dX0_startOf_13 : decode cX0_startOf 13 = .ok (.iload_n 1, 1) := by decide +kernel
theorem dX0_startOf_14 : decode cX0_startOf 14 = .ok (.invokevirtual 37, 3) := by decide +kernel
theorem dX0_startOf_17 : decode cX0_startOf 17 = .ok (.iaload, 1) := by decide +kernel
theorem dX0_startOf_18 : decode cX0_startOf 18 = .ok (.goto 4, 3) := by decide +kernel
theorem dX0_startOf_21 : decode cX0_startOf 21 = .ok (.iconst (-1), 1) := by decide +kernel
theorem dX0_startOf_22 : decode cX0_startOf 22 = .ok (.ireturn, 1) := by decide +kernel
set_option maxRecDepth 20000 in
theorem ggX0_figureOf_X0_has : GoodIn wsX0_figureOf wsX0_has := goodIn_r _ [6, 7, 14, 15, 16, 17, 18, 19, 20] (by decide +kernel) (by decide +kernel)
set_option maxRecDepth 20000 in
theorem gX0_figureOf_X0_has : GoodIn wsX0_figureOf (wsV RX0 33 RX0 yX0_has wsX0_has) := goodIn_app (goodIn_of _ (by decide +kernel)) ggX0_figureOf_X0_has
set_option maxRecDepth 20000 in
theorem ggX0_figureOf_X0_slot : GoodIn wsX0_figureOf wsX0_slot := goodIn_r _ [11, 12, 13, 14, 15, 16, 17, 18, 19, 20] (by decide +kernel) (by decide +kernel)
set_option maxRecDepth 20000 in
theorem gX0_figureOf_X0_slot : GoodIn wsX0_figureOf (wsV RX0 37 RX0 yX0_slot wsX0_slot) := goodIn_app (goodIn_of _ (by decide +kernel)) ggX0_figureOf_X0_slot
theorem dX0_figureOf_0 : decode cX0_figureOf 0 = .ok (.aload_n 0, 1) := by decide +kernel
theorem dX0_figureOf_1 : decode cX0_figureOf 1 = .ok (.iload_n 1, 1) := by decide +kernel
theorem dX0_figureOf_2 : decode cX0_figureOf 2 = .ok (.invokevirtual 33, 3) := by decide +kernel
theorem dX0_figureOf_5 : decode cX0_figureOf 5 = .ok (.ifCond .eq 27, 3) := by decide +kernel
theorem dX0_figureOf_8 : decode cX0_figureOf 8 = .ok (.iload_n 2, 1) := by decide +kernel
theorem dX0_figureOf_9 : decode cX0_figureOf 9 = .ok (.ifCond .lt 23, 3) := by decide +kernel
theorem dX0_figureOf_12 : decode cX0_figureOf 12 = .ok (.iload_n 2, 1) := by decide +kernel
theorem dX0_figureOf_13 : decode cX0_figureOf 13 = .ok (.iconst 4, 1) := by decide +kernel
theorem dX0_figureOf_14 : decode cX0_figureOf 14 = .ok (.if_icmp .ge 18, 3) := by decide +kernel
theorem dX0_figureOf_17 : decode cX0_figureOf 17 = .ok (.aload_n 0, 1) := by decide +kernel
theorem dX0_figureOf_18 : decode cX0_figureOf 18 = .ok (.getfield 27, 3) := by decide +kernel
theorem dX0_figureOf_21 : decode cX0_figureOf 21 = .ok (.iload_n 2, 1) := by decide +kernel
theorem dX0_figureOf_22 : decode cX0_figureOf 22 = .ok (.aaload, 1) := by decide +kernel
theorem dX0_figureOf_23 : decode cX0_figureOf 23 = .ok (.aload_n 0, 1) := by decide +kernel
theorem dX0_figureOf_24 : decode cX0_figureOf 24 = .ok (.iload_n 1, 1) := by decide +kernel
theorem dX0_figureOf_25 : decode cX0_figureOf 25 = .ok (.invokevirtual 37, 3) := by decide +kernel
theorem dX0_figureOf_28 : decode cX0_figureOf 28 = .ok (.iaload, 1) := by decide +kernel
theorem dX0_figureOf_29 : decode cX0_figureOf 29 = .ok (.goto 4, 3) := by decide +kernel
theorem dX0_figureOf_32 : decode cX0_figureOf 32 = .ok (.iconst 0, 1) := by decide +kernel
theorem dX0_figureOf_33 : decode cX0_figureOf 33 = .ok (.ireturn, 1) := by decide +kernel
set_option maxRecDepth 20000 in
theorem ggX0_take_X0_startOf : GoodIn wsX0_take wsX0_startOf := goodIn_r _ [8, 9, 10, 11, 12, 7, 13, 2, 14, 15, 16, 17, 18, 19, 35, 36, 37, 38, 39, 40, 41] (by decide +kernel) (by decide +kernel)
set_option maxRecDepth 20000 in
theorem gX0_take_X0_startOf : GoodIn wsX0_take (wsV RX0 41 RX0 yX0_startOf wsX0_startOf) := goodIn_app (goodIn_of _ (by decide +kernel)) ggX0_take_X0_startOf
set_option maxRecDepth 20000 in
theorem ggX0_take_X0_open : GoodIn wsX0_take wsX0_open := goodIn_r _ [23, 2, 19, 9, 18, 24, 14, 15, 16, 7, 17, 35, 36, 37, 38, 39, 40, 41] (by decide +kernel) (by decide +kernel)
set_option maxRecDepth 20000 in
theorem gX0_take_X0_open : GoodIn wsX0_take (wsV RX0 44 RX0 yX0_open wsX0_open) := goodIn_app (goodIn_of _ (by decide +kernel)) ggX0_take_X0_open
set_option maxRecDepth 20000 in
theorem ggX0_take_X0_slot : GoodIn wsX0_take wsX0_slot := goodIn_r _ [17, 18, 19, 35, 36, 37, 38, 39, 40, 41] (by decide +kernel) (by decide +kernel)
set_option maxRecDepth 20000 in
theorem gX0_take_X0_slot : GoodIn wsX0_take (wsV RX0 37 RX0 yX0_slot wsX0_slot) := goodIn_app (goodIn_of _ (by decide +kernel)) ggX0_take_X0_slot
set_option maxRecDepth 20000 in
theorem ggX0_take_X0_joined : GoodIn wsX0_take wsX0_joined := goodIn_r _ [27, 28, 29, 30, 31, 32, 33, 34] (by decide +kernel) (by decide +kernel)
set_option maxRecDepth 20000 in
theorem gX0_take_X0_joined : GoodIn wsX0_take (va_wsS RX0 48 yX0_joined wsX0_joined) := goodIn_app (goodIn_of _ (by decide +kernel)) ggX0_take_X0_joined
theorem dX0_take_0 : decode cX0_take 0 = .ok (.iload_n 1, 1) := by decide +kernel
theorem dX0_take_1 : decode cX0_take 1 = .ok (.iload_n 1, 1) := by decide +kernel
theorem dX0_take_2 : decode cX0_take 2 = .ok (.aload_n 0, 1) := by decide +kernel
theorem dX0_take_3 : decode cX0_take 3 = .ok (.getfield 18, 3) := by decide +kernel
theorem dX0_take_6 : decode cX0_take 6 = .ok (.irem, 1) := by decide +kernel
theorem dX0_take_7 : decode cX0_take 7 = .ok (.isub, 1) := by decide +kernel
theorem dX0_take_8 : decode cX0_take 8 = .ok (.istore_n 3, 1) := by decide +kernel
theorem dX0_take_9 : decode cX0_take 9 = .ok (.aload_n 0, 1) := by decide +kernel
theorem dX0_take_10 : decode cX0_take 10 = .ok (.getfield 30, 3) := by decide +kernel
theorem dX0_take_13 : decode cX0_take 13 = .ok (.ifCond .eq 17, 3) := by decide +kernel
theorem dX0_take_16 : decode cX0_take 16 = .ok (.aload_n 0, 1) := by decide +kernel
theorem dX0_take_17 : decode cX0_take 17 = .ok (.aload_n 0, 1) := by decide +kernel
theorem dX0_take_18 : decode cX0_take 18 = .ok (.getfield 30, 3) := by decide +kernel
theorem dX0_take_21 : decode cX0_take 21 = .ok (.iconst 1, 1) := by decide +kernel
theorem dX0_take_22 : decode cX0_take 22 = .ok (.isub, 1) := by decide +kernel
theorem dX0_take_23 : decode cX0_take 23 = .ok (.invokevirtual 41, 3) := by decide +kernel
theorem dX0_take_26 : decode cX0_take 26 = .ok (.iload_n 3, 1) := by decide +kernel
theorem dX0_take_27 : decode cX0_take 27 = .ok (.if_icmp .eq 7, 3) := by decide +kernel
theorem dX0_take_30 : decode cX0_take 30 = .ok (.iconst 1, 1) := by decide +kernel
theorem dX0_take_31 : decode cX0_take 31 = .ok (.goto 4, 3) := by decide +kernel
theorem dX0_take_34 : decode cX0_take 34 = .ok (.iconst 0, 1) := by decide +kernel
theorem dX0_take_35 : decode cX0_take 35 = .ok (.istore 4, 2) := by decide +kernel
theorem dX0_take_37 : decode cX0_take 37 = .ok (.iload 4, 2) := by decide +kernel
theorem dX0_take_39 : decode cX0_take 39 = .ok (.ifCond .eq 8, 3) := by decide +kernel
theorem dX0_take_42 : decode cX0_take 42 = .ok (.aload_n 0, 1) := by decide +kernel
theorem dX0_take_43 : decode cX0_take 43 = .ok (.iload_n 3, 1) := by decide +kernel
theorem dX0_take_44 : decode cX0_take 44 = .ok (.invokevirtual 44, 3) := by decide +kernel
theorem dX0_take_47 : decode cX0_take 47 = .ok (.aload_n 0, 1) := by decide +kernel
theorem dX0_take_48 : decode cX0_take 48 = .ok (.aload_n 0, 1) := by decide +kernel
theorem dX0_take_49 : decode cX0_take 49 = .ok (.getfield 30, 3) := by decide +kernel
theorem dX0_take_52 : decode cX0_take 52 = .ok (.iconst 1, 1) := by decide +kernel
theorem dX0_take_53 : decode cX0_take 53 = .ok (.isub, 1) := by decide +kernel
theorem dX0_take_54 : decode cX0_take 54 = .ok (.invokevirtual 37, 3) := by decide +kernel
theorem dX0_take_57 : decode cX0_take 57 = .ok (.istore 5, 2) := by decide +kernel
theorem dX0_take_59 : decode cX0_take 59 = .ok (.iconst 0, 1) := by decide +kernel
theorem dX0_take_60 : decode cX0_take 60 = .ok (.istore 6, 2) := by decide +kernel
theorem dX0_take_62 : decode cX0_take 62 = .ok (.iload 6, 2) := by decide +kernel
theorem dX0_take_64 : decode cX0_take 64 = .ok (.iconst 4, 1) := by decide +kernel
theorem dX0_take_65 : decode cX0_take 65 = .ok (.if_icmp .ge 58, 3) := by decide +kernel
theorem dX0_take_68 : decode cX0_take 68 = .ok (.iload 6, 2) := by decide +kernel
theorem dX0_take_70 : decode cX0_take 70 = .ok (.iconst 3, 1) := by decide +kernel
theorem dX0_take_71 : decode cX0_take 71 = .ok (.if_icmp .ne 7, 3) := by decide +kernel
theorem dX0_take_74 : decode cX0_take 74 = .ok (.iconst 1, 1) := by decide +kernel
theorem dX0_take_75 : decode cX0_take 75 = .ok (.goto 4, 3) := by decide +kernel
theorem dX0_take_78 : decode cX0_take 78 = .ok (.iload_n 2, 1) := by decide +kernel
theorem dX0_take_79 : decode cX0_take 79 = .ok (.istore 7, 2) := by decide +kernel
theorem dX0_take_81 : decode cX0_take 81 = .ok (.aload_n 0, 1) := by decide +kernel
theorem dX0_take_82 : decode cX0_take 82 = .ok (.getfield 27, 3) := by decide +kernel
theorem dX0_take_85 : decode cX0_take 85 = .ok (.iload 6, 2) := by decide +kernel
theorem dX0_take_87 : decode cX0_take 87 = .ok (.aaload, 1) := by decide +kernel
theorem dX0_take_88 : decode cX0_take 88 = .ok (.astore 8, 2) := by decide +kernel
theorem dX0_take_90 : decode cX0_take 90 = .ok (.aload 8, 2) := by decide +kernel
theorem dX0_take_92 : decode cX0_take 92 = .ok (.iload 5, 2) := by decide +kernel
theorem dX0_take_94 : decode cX0_take 94 = .ok (.iload 4, 2) := by decide +kernel
theorem dX0_take_96 : decode cX0_take 96 = .ok (.ifCond .eq 8, 3) := by decide +kernel
theorem dX0_take_99 : decode cX0_take 99 = .ok (.iload 7, 2) := by decide +kernel
theorem dX0_take_101 : decode cX0_take 101 = .ok (.goto 15, 3) := by decide +kernel
theorem dX0_take_104 : decode cX0_take 104 = .ok (.aload 8, 2) := by decide +kernel
theorem dX0_take_106 : decode cX0_take 106 = .ok (.iload 5, 2) := by decide +kernel
theorem dX0_take_108 : decode cX0_take 108 = .ok (.iaload, 1) := by decide +kernel
theorem dX0_take_109 : decode cX0_take 109 = .ok (.iload 7, 2) := by decide +kernel
theorem dX0_take_111 : decode cX0_take 111 = .ok (.iload 6, 2) := by decide +kernel
theorem dX0_take_113 : decode cX0_take 113 = .ok (.invokestatic 48, 3) := by decide +kernel
theorem dX0_take_116 : decode cX0_take 116 = .ok (.iastore, 1) := by decide +kernel
theorem dX0_take_117 : decode cX0_take 117 = .ok (.iinc 6 1, 3) := by decide +kernel
theorem dX0_take_120 : decode cX0_take 120 = .ok (.goto (-58), 3) := by decide +kernel
theorem dX0_take_123 : decode cX0_take 123 = .ok (.return_, 1) := by decide +kernel
set_option maxRecDepth 20000 in
theorem ggX0_firstFrom_X0_startOf : GoodIn wsX0_firstFrom wsX0_startOf := goodIn_r _ [6, 7, 8, 9, 10, 5, 11, 1, 12, 13, 14, 15, 16, 17, 18, 19, 20, 21, 22, 23, 24] (by decide +kernel) (by decide +kernel)
set_option maxRecDepth 20000 in
theorem gX0_firstFrom_X0_startOf : GoodIn wsX0_firstFrom (wsV RX0 41 RX0 yX0_startOf wsX0_startOf) := goodIn_app (goodIn_of _ (by decide +kernel)) ggX0_firstFrom_X0_startOf
theorem dX0_firstFrom_0 : decode cX0_firstFrom 0 = .ok (.iload_n 1, 1) := by decide +kernel
theorem dX0_firstFrom_1 : decode cX0_firstFrom 1 = .ok (.istore 4, 2) := by decide +kernel
theorem dX0_firstFrom_3 : decode cX0_firstFrom 3 = .ok (.iload 4, 2) := by decide +kernel
theorem dX0_firstFrom_5 : decode cX0_firstFrom 5 = .ok (.aload_n 0, 1) := by decide +kernel
theorem dX0_firstFrom_6 : decode cX0_firstFrom 6 = .ok (.getfield 30, 3) := by decide +kernel
theorem dX0_firstFrom_9 : decode cX0_firstFrom 9 = .ok (.if_icmp .ge 21, 3) := by decide +kernel
theorem dX0_firstFrom_12 : decode cX0_firstFrom 12 = .ok (.aload_n 0, 1) := by decide +kernel
theorem dX0_firstFrom_13 : decode cX0_firstFrom 13 = .ok (.iload 4, 2) := by decide +kernel
theorem dX0_firstFrom_15 : decode cX0_firstFrom 15 = .ok (.invokevirtual 41, 3) := by decide +kernel
theorem dX0_firstFrom_18 : decode cX0_firstFrom 18 = .ok (.i2l, 1) := by decide +kernel
theorem dX0_firstFrom_19 : decode cX0_firstFrom 19 = .ok (.lload_n 2, 1) := by decide +kernel
theorem dX0_firstFrom_20 : decode cX0_firstFrom 20 = .ok (.lcmp, 1) := by decide +kernel
theorem dX0_firstFrom_21 : decode cX0_firstFrom 21 = .ok (.ifCond .ge 9, 3) := by decide +kernel
theorem dX0_firstFrom_24 : decode cX0_firstFrom 24 = .ok (.iinc 4 1, 3) := by decide +kernel
theorem dX0_firstFrom_27 : decode cX0_firstFrom 27 = .ok (.goto (-24), 3) := by decide +kernel
theorem dX0_firstFrom_30 : decode cX0_firstFrom 30 = .ok (.iload 4, 2) := by decide +kernel
theorem dX0_firstFrom_32 : decode cX0_firstFrom 32 = .ok (.ireturn, 1) := by decide +kernel
set_option maxRecDepth 20000 in
theorem ggX0_together_X0_figureOf : GoodIn wsX0_together wsX0_figureOf := goodIn_r _ [5, 6, 7, 8, 9, 4, 10, 11, 12, 13, 14, 15, 16, 17, 28, 29, 30, 31, 32, 33, 34] (by decide +kernel) (by decide +kernel)
set_option maxRecDepth 20000 in
theorem gX0_together_X0_figureOf : GoodIn wsX0_together (wsV RX0 52 RX0 yX0_figureOf wsX0_figureOf) := goodIn_app (goodIn_of _ (by decide +kernel)) ggX0_together_X0_figureOf
set_option maxRecDepth 20000 in
theorem ggX0_together_X0_joined : GoodIn wsX0_together wsX0_joined := goodIn_r _ [20, 21, 22, 23, 24, 25, 26, 27] (by decide +kernel) (by decide +kernel)
set_option maxRecDepth 20000 in
theorem gX0_together_X0_joined : GoodIn wsX0_together (va_wsS RX0 48 yX0_joined wsX0_joined) := goodIn_app (goodIn_of _ (by decide +kernel)) ggX0_together_X0_joined
theorem dX0_together_0 : decode cX0_together 0 = .ok (.iload_n 1, 1) := by decide +kernel
theorem dX0_together_1 : decode cX0_together 1 = .ok (.iload_n 2, 1) := by decide +kernel
theorem dX0_together_2 : decode cX0_together 2 = .ok (.if_icmp .ge 12, 3) := by decide +kernel
theorem dX0_together_5 : decode cX0_together 5 = .ok (.aload_n 0, 1) := by decide +kernel
theorem dX0_together_6 : decode cX0_together 6 = .ok (.iload_n 1, 1) := by decide +kernel
theorem dX0_together_7 : decode cX0_together 7 = .ok (.iload_n 3, 1) := by decide +kernel
theorem dX0_together_8 : decode cX0_together 8 = .ok (.invokevirtual 52, 3) := by decide +kernel
theorem dX0_together_11 : decode cX0_together 11 = .ok (.goto 4, 3) := by decide +kernel
theorem dX0_together_14 : decode cX0_together 14 = .ok (.iconst 0, 1) := by decide +kernel
theorem dX0_together_15 : decode cX0_together 15 = .ok (.istore 4, 2) := by decide +kernel
theorem dX0_together_17 : decode cX0_together 17 = .ok (.iload_n 1, 1) := by decide +kernel
theorem dX0_together_18 : decode cX0_together 18 = .ok (.iconst 1, 1) := by decide +kernel
theorem dX0_together_19 : decode cX0_together 19 = .ok (.iadd, 1) := by decide +kernel
theorem dX0_together_20 : decode cX0_together 20 = .ok (.istore 5, 2) := by decide +kernel
theorem dX0_together_22 : decode cX0_together 22 = .ok (.iload 5, 2) := by decide +kernel
theorem dX0_together_24 : decode cX0_together 24 = .ok (.iload_n 2, 1) := by decide +kernel
theorem dX0_together_25 : decode cX0_together 25 = .ok (.if_icmp .ge 24, 3) := by decide +kernel
theorem dX0_together_28 : decode cX0_together 28 = .ok (.iload 4, 2) := by decide +kernel
theorem dX0_together_30 : decode cX0_together 30 = .ok (.aload_n 0, 1) := by decide +kernel
theorem dX0_together_31 : decode cX0_together 31 = .ok (.iload 5, 2) := by decide +kernel
theorem dX0_together_33 : decode cX0_together 33 = .ok (.iload_n 3, 1) := by decide +kernel
theorem dX0_together_34 : decode cX0_together 34 = .ok (.invokevirtual 52, 3) := by decide +kernel
theorem dX0_together_37 : decode cX0_together 37 = .ok (.iload_n 3, 1) := by decide +kernel
theorem dX0_together_38 : decode cX0_together 38 = .ok (.invokestatic 48, 3) := by decide +kernel
theorem dX0_together_41 : decode cX0_together 41 = .ok (.istore 4, 2) := by decide +kernel
theorem dX0_together_43 : decode cX0_together 43 = .ok (.iinc 5 1, 3) := by decide +kernel
theorem dX0_together_46 : decode cX0_together 46 = .ok (.goto (-24), 3) := by decide +kernel
theorem dX0_together_49 : decode cX0_together 49 = .ok (.iload 4, 2) := by decide +kernel
theorem dX0_together_51 : decode cX0_together 51 = .ok (.ireturn, 1) := by decide +kernel
set_option maxRecDepth 20000 in
theorem ggX0_manyWhollyIn_X0_startOf : GoodIn wsX0_manyWhollyIn wsX0_startOf := goodIn_r _ [6, 7, 8, 9, 10, 5, 11, 1, 12, 13, 14, 15, 16, 17, 28, 29, 30, 31, 32, 33, 34] (by decide +kernel) (by decide +kernel)
set_option maxRecDepth 20000 in
theorem gX0_manyWhollyIn_X0_startOf : GoodIn wsX0_manyWhollyIn (wsV RX0 41 RX0 yX0_startOf wsX0_startOf) := goodIn_app (goodIn_of _ (by decide +kernel)) ggX0_manyWhollyIn_X0_startOf
set_option maxRecDepth 20000 in
theorem ggX0_manyWhollyIn_X0_endOfEntry : GoodIn wsX0_manyWhollyIn wsX0_endOfEntry := goodIn_r _ [21, 22, 2, 3, 4, 5, 6, 7, 8, 9, 10, 11, 1, 12, 13, 14, 15, 16, 17, 28, 29, 30, 31, 32, 33, 34] (by decide +kernel) (by decide +kernel)
set_option maxRecDepth 20000 in
theorem gX0_manyWhollyIn_X0_endOfEntry : GoodIn wsX0_manyWhollyIn (wsV RX0 56 RX0 yX0_endOfEntry wsX0_endOfEntry) := goodIn_app (goodIn_of _ (by decide +kernel)) ggX0_manyWhollyIn_X0_endOfEntry
set_option maxRecDepth 20000 in
theorem ggX0_manyWhollyIn_X0_figureOf : GoodIn wsX0_manyWhollyIn wsX0_figureOf := goodIn_r _ [26, 27, 8, 9, 10, 5, 11, 1, 12, 13, 14, 15, 16, 17, 28, 29, 30, 31, 32, 33, 34] (by decide +kernel) (by decide +kernel)
set_option maxRecDepth 20000 in
theorem gX0_manyWhollyIn_X0_figureOf : GoodIn wsX0_manyWhollyIn (wsV RX0 52 RX0 yX0_figureOf wsX0_figureOf) := goodIn_app (goodIn_of _ (by decide +kernel)) ggX0_manyWhollyIn_X0_figureOf
theorem dX0_manyWhollyIn_0 : decode cX0_manyWhollyIn 0 = .ok (.lconst 0, 1) := by decide +kernel
theorem dX0_manyWhollyIn_1 : decode cX0_manyWhollyIn 1 = .ok (.lstore 5, 2) := by decide +kernel
theorem dX0_manyWhollyIn_3 : decode cX0_manyWhollyIn 3 = .ok (.iconst 0, 1) := by decide +kernel
theorem dX0_manyWhollyIn_4 : decode cX0_manyWhollyIn 4 = .ok (.istore 7, 2) := by decide +kernel
theorem dX0_manyWhollyIn_6 : decode cX0_manyWhollyIn 6 = .ok (.iload 7, 2) := by decide +kernel
theorem dX0_manyWhollyIn_8 : decode cX0_manyWhollyIn 8 = .ok (.aload_n 0, 1) := by decide +kernel
theorem dX0_manyWhollyIn_9 : decode cX0_manyWhollyIn 9 = .ok (.getfield 30, 3) := by decide +kernel
theorem dX0_manyWhollyIn_12 : decode cX0_manyWhollyIn 12 = .ok (.if_icmp .ge 47, 3) := by decide +kernel
theorem dX0_manyWhollyIn_15 : decode cX0_manyWhollyIn 15 = .ok (.aload_n 0, 1) := by decide +kernel
theorem dX0_manyWhollyIn_16 : decode cX0_manyWhollyIn 16 = .ok (.iload 7, 2) := by decide +kernel
theorem dX0_manyWhollyIn_18 : decode cX0_manyWhollyIn 18 = .ok (.invokevirtual 41, 3) := by decide +kernel
theorem dX0_manyWhollyIn_21 : decode cX0_manyWhollyIn 21 = .ok (.i2l, 1) := by decide +kernel
theorem dX0_manyWhollyIn_22 : decode cX0_manyWhollyIn 22 = .ok (.lload_n 1, 1) := by decide +kernel
theorem dX0_manyWhollyIn_23 : decode cX0_manyWhollyIn 23 = .ok (.lcmp, 1) := by decide +kernel
theorem dX0_manyWhollyIn_24 : decode cX0_manyWhollyIn 24 = .ok (.ifCond .lt 29, 3) := by decide +kernel
theorem dX0_manyWhollyIn_27 : decode cX0_manyWhollyIn 27 = .ok (.aload_n 0, 1) := by decide +kernel
theorem dX0_manyWhollyIn_28 : decode cX0_manyWhollyIn 28 = .ok (.iload 7, 2) := by decide +kernel
theorem dX0_manyWhollyIn_30 : decode cX0_manyWhollyIn 30 = .ok (.invokevirtual 56, 3) := by decide +kernel
theorem dX0_manyWhollyIn_33 : decode cX0_manyWhollyIn 33 = .ok (.lload_n 3, 1) := by decide +kernel
theorem dX0_manyWhollyIn_34 : decode cX0_manyWhollyIn 34 = .ok (.lconst 1, 1) := by decide +kernel
theorem dX0_manyWhollyIn_35 : decode cX0_manyWhollyIn 35 = .ok (.ladd, 1) := by decide +kernel
theorem dX0_manyWhollyIn_36 : decode cX0_manyWhollyIn 36 = .ok (.lcmp, 1) := by decide +kernel
theorem dX0_manyWhollyIn_37 : decode cX0_manyWhollyIn 37 = .ok (.ifCond .gt 16, 3) := by decide +kernel
theorem dX0_manyWhollyIn_40 : decode cX0_manyWhollyIn 40 = .ok (.lload 5, 2) := by decide +kernel
theorem dX0_manyWhollyIn_42 : decode cX0_manyWhollyIn 42 = .ok (.aload_n 0, 1) := by decide +kernel
theorem dX0_manyWhollyIn_43 : decode cX0_manyWhollyIn 43 = .ok (.iload 7, 2) := by decide +kernel
theorem dX0_manyWhollyIn_45 : decode cX0_manyWhollyIn 45 = .ok (.iconst 3, 1) := by decide +kernel
theorem dX0_manyWhollyIn_46 : decode cX0_manyWhollyIn 46 = .ok (.invokevirtual 52, 3) := by decide +kernel
theorem dX0_manyWhollyIn_49 : decode cX0_manyWhollyIn 49 = .ok (.i2l, 1) := by decide +kernel
theorem dX0_manyWhollyIn_50 : decode cX0_manyWhollyIn 50 = .ok (.ladd, 1) := by decide +kernel
theorem dX0_manyWhollyIn_51 : decode cX0_manyWhollyIn 51 = .ok (.lstore 5, 2) := by decide +kernel
theorem dX0_manyWhollyIn_53 : decode cX0_manyWhollyIn 53 = .ok (.iinc 7 1, 3) := by decide +kernel
theorem dX0_manyWhollyIn_56 : decode cX0_manyWhollyIn 56 = .ok (.goto (-50), 3) := by decide +kernel
theorem dX0_manyWhollyIn_59 : decode cX0_manyWhollyIn 59 = .ok (.lload 5, 2) := by decide +kernel
theorem dX0_manyWhollyIn_61 : decode cX0_manyWhollyIn 61 = .ok (.lreturn, 1) := by decide +kernel
set_option maxRecDepth 20000 in
theorem ggX0_agreesWith_X0_startOf : GoodIn wsX0_agreesWith wsX0_startOf := goodIn_r _ [7, 8, 9, 10, 11, 6, 12, 1, 13, 14, 15, 16, 17, 18, 51, 52, 53, 54, 55, 56, 57] (by decide +kernel) (by decide +kernel)
set_option maxRecDepth 20000 in
theorem gX0_agreesWith_X0_startOf : GoodIn wsX0_agreesWith (wsV RX0 41 RX0 yX0_startOf wsX0_startOf) := goodIn_app (goodIn_of _ (by decide +kernel)) ggX0_agreesWith_X0_startOf
set_option maxRecDepth 20000 in
theorem ggX0_agreesWith_X0_firstFrom : GoodIn wsX0_agreesWith wsX0_firstFrom := goodIn_r _ [22, 1, 3, 4, 5, 6, 7, 8, 9, 10, 11, 12, 13, 14, 15, 16, 17, 18, 51, 52, 53, 54, 55, 56, 57] (by decide +kernel) (by decide +kernel)
set_option maxRecDepth 20000 in
theorem gX0_agreesWith_X0_firstFrom : GoodIn wsX0_agreesWith (wsV RX0 60 RX0 yX0_firstFrom wsX0_firstFrom) := goodIn_app (goodIn_of _ (by decide +kernel)) ggX0_agreesWith_X0_firstFrom
set_option maxRecDepth 20000 in
theorem ggX0_agreesWith_X0_endOfEntry : GoodIn wsX0_agreesWith wsX0_endOfEntry := goodIn_r _ [26, 27, 3, 4, 5, 6, 7, 8, 9, 10, 11, 12, 1, 13, 14, 15, 16, 17, 18, 51, 52, 53, 54, 55, 56, 57] (by decide +kernel) (by decide +kernel)
set_option maxRecDepth 20000 in
theorem gX0_agreesWith_X0_endOfEntry : GoodIn wsX0_agreesWith (wsV RX0 56 RX0 yX0_endOfEntry wsX0_endOfEntry) := goodIn_app (goodIn_of _ (by decide +kernel)) ggX0_agreesWith_X0_endOfEntry
set_option maxRecDepth 20000 in
theorem ggX0_agreesWith_X0_hasFiguresOf : GoodIn wsX0_agreesWith wsX0_hasFiguresOf := goodIn_r _ [31, 32, 33, 34, 6, 35, 36, 9, 10, 11, 12, 1, 13, 14, 15, 16, 17, 18, 37, 38, 39, 40, 41, 42, 43, 44, 45, 46, 47, 48, 49, 50, 51, 52, 53, 54, 55, 56, 57] (by decide +kernel) (by decide +kernel)
set_option maxRecDepth 20000 in
theorem gX0_agreesWith_X0_hasFiguresOf : GoodIn wsX0_agreesWith (wsV RX0 64 RX0 yX0_hasFiguresOf wsX0_hasFiguresOf) := goodIn_app (goodIn_of _ (by decide +kernel)) ggX0_agreesWith_X0_hasFiguresOf
theorem dX0_agreesWith_0 : decode cX0_agreesWith 0 = .ok (.iconst 0, 1) := by decide +kernel
theorem dX0_agreesWith_1 : decode cX0_agreesWith 1 = .ok (.istore_n 2, 1) := by decide +kernel
theorem dX0_agreesWith_2 : decode cX0_agreesWith 2 = .ok (.iconst 0, 1) := by decide +kernel
theorem dX0_agreesWith_3 : decode cX0_agreesWith 3 = .ok (.istore_n 3, 1) := by decide +kernel
theorem dX0_agreesWith_4 : decode cX0_agreesWith 4 = .ok (.iload_n 3, 1) := by decide +kernel
theorem dX0_agreesWith_5 : decode cX0_agreesWith 5 = .ok (.aload_n 0, 1) := by decide +kernel
theorem dX0_agreesWith_6 : decode cX0_agreesWith 6 = .ok (.getfield 30, 3) := by decide +kernel
theorem dX0_agreesWith_9 : decode cX0_agreesWith 9 = .ok (.if_icmp .ge 74, 3) := by decide +kernel
theorem dX0_agreesWith_12 : decode cX0_agreesWith 12 = .ok (.aload_n 1, 1) := by decide +kernel
theorem dX0_agreesWith_13 : decode cX0_agreesWith 13 = .ok (.iload_n 2, 1) := by decide +kernel
theorem dX0_agreesWith_14 : decode cX0_agreesWith 14 = .ok (.aload_n 0, 1) := by decide +kernel
theorem dX0_agreesWith_15 : decode cX0_agreesWith 15 = .ok (.iload_n 3, 1) := by decide +kernel
theorem dX0_agreesWith_16 : decode cX0_agreesWith 16 = .ok (.invokevirtual 41, 3) := by decide +kernel
theorem dX0_agreesWith_19 : decode cX0_agreesWith 19 = .ok (.i2l, 1) := by decide +kernel
theorem dX0_agreesWith_20 : decode cX0_agreesWith 20 = .ok (.invokevirtual 60, 3) := by decide +kernel
theorem dX0_agreesWith_23 : decode cX0_agreesWith 23 = .ok (.istore_n 2, 1) := by decide +kernel
theorem dX0_agreesWith_24 : decode cX0_agreesWith 24 = .ok (.aload_n 1, 1) := by decide +kernel
theorem dX0_agreesWith_25 : decode cX0_agreesWith 25 = .ok (.iload_n 2, 1) := by decide +kernel
theorem dX0_agreesWith_26 : decode cX0_agreesWith 26 = .ok (.aload_n 0, 1) := by decide +kernel
theorem dX0_agreesWith_27 : decode cX0_agreesWith 27 = .ok (.iload_n 3, 1) := by decide +kernel
theorem dX0_agreesWith_28 : decode cX0_agreesWith 28 = .ok (.invokevirtual 56, 3) := by decide +kernel
theorem dX0_agreesWith_31 : decode cX0_agreesWith 31 = .ok (.invokevirtual 60, 3) := by decide +kernel
theorem dX0_agreesWith_34 : decode cX0_agreesWith 34 = .ok (.istore 4, 2) := by decide +kernel
theorem dX0_agreesWith_36 : decode cX0_agreesWith 36 = .ok (.aload_n 1, 1) := by decide +kernel
theorem dX0_agreesWith_37 : decode cX0_agreesWith 37 = .ok (.getfield 9, 3) := by decide +kernel
theorem dX0_agreesWith_40 : decode cX0_agreesWith 40 = .ok (.aload_n 0, 1) := by decide +kernel
theorem dX0_agreesWith_41 : decode cX0_agreesWith 41 = .ok (.iload_n 3, 1) := by decide +kernel
theorem dX0_agreesWith_42 : decode cX0_agreesWith 42 = .ok (.invokevirtual 41, 3) := by decide +kernel
theorem dX0_agreesWith_45 : decode cX0_agreesWith 45 = .ok (.if_icmp .ge 7, 3) := by decide +kernel
theorem dX0_agreesWith_48 : decode cX0_agreesWith 48 = .ok (.iconst 1, 1) := by decide +kernel
theorem dX0_agreesWith_49 : decode cX0_agreesWith 49 = .ok (.goto 4, 3) := by decide +kernel
theorem dX0_agreesWith_52 : decode cX0_agreesWith 52 = .ok (.iconst 0, 1) := by decide +kernel
theorem dX0_agreesWith_53 : decode cX0_agreesWith 53 = .ok (.istore 5, 2) := by decide +kernel
theorem dX0_agreesWith_55 : decode cX0_agreesWith 55 = .ok (.iload 5, 2) := by decide +kernel
theorem dX0_agreesWith_57 : decode cX0_agreesWith 57 = .ok (.ifCond .eq 17, 3) := by decide +kernel
theorem dX0_agreesWith_60 : decode cX0_agreesWith 60 = .ok (.aload_n 0, 1) := by decide +kernel
theorem dX0_agreesWith_61 : decode cX0_agreesWith 61 = .ok (.aload_n 1, 1) := by decide +kernel
theorem dX0_agreesWith_62 : decode cX0_agreesWith 62 = .ok (.iload_n 2, 1) := by decide +kernel
theorem dX0_agreesWith_63 : decode cX0_agreesWith 63 = .ok (.iload 4, 2) := by decide +kernel
theorem dX0_agreesWith_65 : decode cX0_agreesWith 65 = .ok (.iload_n 3, 1) := by decide +kernel
theorem dX0_agreesWith_66 : decode cX0_agreesWith 66 = .ok (.invokevirtual 64, 3) := by decide +kernel
theorem dX0_agreesWith_69 : decode cX0_agreesWith 69 = .ok (.ifCond .ne 5, 3) := by decide +kernel
theorem dX0_agreesWith_72 : decode cX0_agreesWith 72 = .ok (.iconst 0, 1) := by decide +kernel
theorem dX0_agreesWith_73 : decode cX0_agreesWith 73 = .ok (.ireturn, 1) := by decide +kernel
theorem dX0_agreesWith_74 : decode cX0_agreesWith 74 = .ok (.iload 4, 2) := by decide +kernel
theorem dX0_agreesWith_76 : decode cX0_agreesWith 76 = .ok (.istore_n 2, 1) := by decide +kernel
theorem dX0_agreesWith_77 : decode cX0_agreesWith 77 = .ok (.iinc 3 1, 3) := by decide +kernel
theorem dX0_agreesWith_80 : decode cX0_agreesWith 80 = .ok (.goto (-76), 3) := by decide +kernel
theorem dX0_agreesWith_83 : decode cX0_agreesWith 83 = .ok (.iconst 1, 1) := by decide +kernel
theorem dX0_agreesWith_84 : decode cX0_agreesWith 84 = .ok (.ireturn, 1) := by decide +kernel
set_option maxRecDepth 20000 in
theorem ggX0_hasFiguresOf_X0_figureOf : GoodIn wsX0_hasFiguresOf wsX0_figureOf := goodIn_r _ [5, 6, 7, 8, 9, 4, 10, 11, 12, 13, 14, 15, 16, 17, 32, 33, 34, 35, 36, 37, 38] (by decide +kernel) (by decide +kernel)
set_option maxRecDepth 20000 in
theorem gX0_hasFiguresOf_X0_figureOf : GoodIn wsX0_hasFiguresOf (wsV RX0 52 RX0 yX0_figureOf wsX0_figureOf) := goodIn_app (goodIn_of _ (by decide +kernel)) ggX0_hasFiguresOf_X0_figureOf
set_option maxRecDepth 20000 in
theorem ggX0_hasFiguresOf_X0_together : GoodIn wsX0_hasFiguresOf wsX0_together := goodIn_r _ [21, 1, 2, 3, 4, 5, 6, 7, 8, 9, 10, 11, 12, 13, 14, 15, 16, 17, 22, 23, 24, 25, 26, 27, 28, 29, 30, 31, 32, 33, 34, 35, 36, 37, 38] (by decide +kernel) (by decide +kernel)
set_option maxRecDepth 20000 in
theorem gX0_hasFiguresOf_X0_together : GoodIn wsX0_hasFiguresOf (wsV RX0 68 RX0 yX0_together wsX0_together) := goodIn_app (goodIn_of _ (by decide +kernel)) ggX0_hasFiguresOf_X0_together
theorem dX0_hasFiguresOf_0 : decode cX0_hasFiguresOf 0 = .ok (.iconst 0, 1) := by decide +kernel
theorem dX0_hasFiguresOf_1 : decode cX0_hasFiguresOf 1 = .ok (.istore 5, 2) := by decide +kernel
theorem dX0_hasFiguresOf_3 : decode cX0_hasFiguresOf 3 = .ok (.iload 5, 2) := by decide +kernel
theorem dX0_hasFiguresOf_5 : decode cX0_hasFiguresOf 5 = .ok (.iconst 4, 1) := by decide +kernel
theorem dX0_hasFiguresOf_6 : decode cX0_hasFiguresOf 6 = .ok (.if_icmp .ge 30, 3) := by decide +kernel
theorem dX0_hasFiguresOf_9 : decode cX0_hasFiguresOf 9 = .ok (.aload_n 0, 1) := by decide +kernel
theorem dX0_hasFiguresOf_10 : decode cX0_hasFiguresOf 10 = .ok (.iload 4, 2) := by decide +kernel
theorem dX0_hasFiguresOf_12 : decode cX0_hasFiguresOf 12 = .ok (.iload 5, 2) := by decide +kernel
theorem dX0_hasFiguresOf_14 : decode cX0_hasFiguresOf 14 = .ok (.invokevirtual 52, 3) := by decide +kernel
theorem dX0_hasFiguresOf_17 : decode cX0_hasFiguresOf 17 = .ok (.aload_n 1, 1) := by decide +kernel
theorem dX0_hasFiguresOf_18 : decode cX0_hasFiguresOf 18 = .ok (.iload_n 2, 1) := by decide +kernel
theorem dX0_hasFiguresOf_19 : decode cX0_hasFiguresOf 19 = .ok (.iload_n 3, 1) := by decide +kernel
theorem dX0_hasFiguresOf_20 : decode cX0_hasFiguresOf 20 = .ok (.iload 5, 2) := by decide +kernel
theorem dX0_hasFiguresOf_22 : decode cX0_hasFiguresOf 22 = .ok (.invokevirtual 68, 3) := by decide +kernel
theorem dX0_hasFiguresOf_25 : decode cX0_hasFiguresOf 25 = .ok (.if_icmp .eq 5, 3) := by decide +kernel
theorem dX0_hasFiguresOf_28 : decode cX0_hasFiguresOf 28 = .ok (.iconst 0, 1) := by decide +kernel
theorem dX0_hasFiguresOf_29 : decode cX0_hasFiguresOf 29 = .ok (.ireturn, 1) := by decide +kernel
theorem dX0_hasFiguresOf_30 : decode cX0_hasFiguresOf 30 = .ok (.iinc 5 1, 3) := by decide +kernel
theorem dX0_hasFiguresOf_33 : decode cX0_hasFiguresOf 33 = .ok (.goto (-30), 3) := by decide +kernel
theorem dX0_hasFiguresOf_36 : decode cX0_hasFiguresOf 36 = .ok (.iconst 1, 1) := by decide +kernel
theorem dX0_hasFiguresOf_37 : decode cX0_hasFiguresOf 37 = .ok (.ireturn, 1) := by decide +kernel
theorem dX0_joined_0 : decode cX0_joined 0 = .ok (.iload_n 2, 1) := by decide +kernel
theorem dX0_joined_1 : decode cX0_joined 1 = .ok (.lookupswitch 39 #[(0, 27), (1, 33)], 27) := by decide +kernel
theorem dX0_joined_28 : decode cX0_joined 28 = .ok (.iload_n 0, 1) := by decide +kernel
theorem dX0_joined_29 : decode cX0_joined 29 = .ok (.iload_n 1, 1) := by decide +kernel
theorem dX0_joined_30 : decode cX0_joined 30 = .ok (.invokestatic 71, 3) := by decide +kernel
theorem dX0_joined_33 : decode cX0_joined 33 = .ok (.ireturn, 1) := by decide +kernel
theorem dX0_joined_34 : decode cX0_joined 34 = .ok (.iload_n 0, 1) := by decide +kernel
theorem dX0_joined_35 : decode cX0_joined 35 = .ok (.iload_n 1, 1) := by decide +kernel
theorem dX0_joined_36 : decode cX0_joined 36 = .ok (.invokestatic 76, 3) := by decide +kernel
theorem dX0_joined_39 : decode cX0_joined 39 = .ok (.ireturn, 1) := by decide +kernel
theorem dX0_joined_40 : decode cX0_joined 40 = .ok (.iload_n 0, 1) := by decide +kernel
theorem dX0_joined_41 : decode cX0_joined 41 = .ok (.iload_n 1, 1) := by decide +kernel
theorem dX0_joined_42 : decode cX0_joined 42 = .ok (.iadd, 1) := by decide +kernel
theorem dX0_joined_43 : decode cX0_joined 43 = .ok (.ireturn, 1) := by decide +kernel
set_option maxRecDepth 20000 in
theorem ggX0_open_X0_slot : GoodIn wsX0_open wsX0_slot := goodIn_r _ [10, 4, 2, 11, 12, 13, 14, 15, 16, 17] (by decide +kernel) (by decide +kernel)
set_option maxRecDepth 20000 in
theorem gX0_open_X0_slot : GoodIn wsX0_open (wsV RX0 37 RX0 yX0_slot wsX0_slot) := goodIn_app (goodIn_of _ (by decide +kernel)) ggX0_open_X0_slot
theorem dX0_open_0 : decode cX0_open 0 = .ok (.aload_n 0, 1) := by decide +kernel
theorem dX0_open_1 : decode cX0_open 1 = .ok (.getfield 30, 3) := by decide +kernel
theorem dX0_open_4 : decode cX0_open 4 = .ok (.aload_n 0, 1) := by decide +kernel
theorem dX0_open_5 : decode cX0_open 5 = .ok (.getfield 15, 3) := by decide +kernel
theorem dX0_open_8 : decode cX0_open 8 = .ok (.if_icmp .ge 16, 3) := by decide +kernel
theorem dX0_open_11 : decode cX0_open 11 = .ok (.aload_n 0, 1) := by decide +kernel
theorem dX0_open_12 : decode cX0_open 12 = .ok (.dup, 1) := by decide +kernel
theorem dX0_open_13 : decode cX0_open 13 = .ok (.getfield 30, 3) := by decide +kernel
theorem dX0_open_16 : decode cX0_open 16 = .ok (.iconst 1, 1) := by decide +kernel
theorem dX0_open_17 : decode cX0_open 17 = .ok (.iadd, 1) := by decide +kernel
theorem dX0_open_18 : decode cX0_open 18 = .ok (.putfield 30, 3) := by decide +kernel
theorem dX0_open_21 : decode cX0_open 21 = .ok (.goto 43, 3) := by decide +kernel
theorem dX0_open_24 : decode cX0_open 24 = .ok (.aload_n 0, 1) := by decide +kernel
theorem dX0_open_25 : decode cX0_open 25 = .ok (.aload_n 0, 1) := by decide +kernel
theorem dX0_open_26 : decode cX0_open 26 = .ok (.getfield 21, 3) := by decide +kernel
theorem dX0_open_29 : decode cX0_open 29 = .ok (.aload_n 0, 1) := by decide +kernel
theorem dX0_open_30 : decode cX0_open 30 = .ok (.getfield 79, 3) := by decide +kernel
theorem dX0_open_33 : decode cX0_open 33 = .ok (.iaload, 1) := by decide +kernel
theorem dX0_open_34 : decode cX0_open 34 = .ok (.putfield 9, 3) := by decide +kernel
theorem dX0_open_37 : decode cX0_open 37 = .ok (.aload_n 0, 1) := by decide +kernel
theorem dX0_open_38 : decode cX0_open 38 = .ok (.aload_n 0, 1) := by decide +kernel
theorem dX0_open_39 : decode cX0_open 39 = .ok (.getfield 79, 3) := by decide +kernel
theorem dX0_open_42 : decode cX0_open 42 = .ok (.iconst 1, 1) := by decide +kernel
theorem dX0_open_43 : decode cX0_open 43 = .ok (.iadd, 1) := by decide +kernel
theorem dX0_open_44 : decode cX0_open 44 = .ok (.aload_n 0, 1) := by decide +kernel
theorem dX0_open_45 : decode cX0_open 45 = .ok (.getfield 15, 3) := by decide +kernel
theorem dX0_open_48 : decode cX0_open 48 = .ok (.if_icmp .ge 12, 3) := by decide +kernel
theorem dX0_open_51 : decode cX0_open 51 = .ok (.aload_n 0, 1) := by decide +kernel
theorem dX0_open_52 : decode cX0_open 52 = .ok (.getfield 79, 3) := by decide +kernel
theorem dX0_open_55 : decode cX0_open 55 = .ok (.iconst 1, 1) := by decide +kernel
theorem dX0_open_56 : decode cX0_open 56 = .ok (.iadd, 1) := by decide +kernel
theorem dX0_open_57 : decode cX0_open 57 = .ok (.goto 4, 3) := by decide +kernel
theorem dX0_open_60 : decode cX0_open 60 = .ok (.iconst 0, 1) := by decide +kernel
theorem dX0_open_61 : decode cX0_open 61 = .ok (.putfield 79, 3) := by decide +kernel
theorem dX0_open_64 : decode cX0_open 64 = .ok (.aload_n 0, 1) := by decide +kernel
theorem dX0_open_65 : decode cX0_open 65 = .ok (.getfield 21, 3) := by decide +kernel
theorem dX0_open_68 : decode cX0_open 68 = .ok (.aload_n 0, 1) := by decide +kernel
theorem dX0_open_69 : decode cX0_open 69 = .ok (.aload_n 0, 1) := by decide +kernel
theorem dX0_open_70 : decode cX0_open 70 = .ok (.getfield 30, 3) := by decide +kernel
theorem dX0_open_73 : decode cX0_open 73 = .ok (.iconst 1, 1) := by decide +kernel
theorem dX0_open_74 : decode cX0_open 74 = .ok (.isub, 1) := by decide +kernel
theorem dX0_open_75 : decode cX0_open 75 = .ok (.invokevirtual 37, 3) := by decide +kernel
theorem dX0_open_78 : decode cX0_open 78 = .ok (.iload_n 1, 1) := by decide +kernel
theorem dX0_open_79 : decode cX0_open 79 = .ok (.iastore, 1) := by decide +kernel
theorem dX0_open_80 : decode cX0_open 80 = .ok (.return_, 1) := by decide +kernel
theorem dX0_has_0 : decode cX0_has 0 = .ok (.iload_n 1, 1) := by decide +kernel
theorem dX0_has_1 : decode cX0_has 1 = .ok (.ifCond .lt 15, 3) := by decide +kernel
theorem dX0_has_4 : decode cX0_has 4 = .ok (.iload_n 1, 1) := by decide +kernel
theorem dX0_has_5 : decode cX0_has 5 = .ok (.aload_n 0, 1) := by decide +kernel
theorem dX0_has_6 : decode cX0_has 6 = .ok (.getfield 30, 3) := by decide +kernel
theorem dX0_has_9 : decode cX0_has 9 = .ok (.if_icmp .ge 7, 3) := by decide +kernel
theorem dX0_has_12 : decode cX0_has 12 = .ok (.iconst 1, 1) := by decide +kernel
theorem dX0_has_13 : decode cX0_has 13 = .ok (.goto 4, 3) := by decide +kernel
theorem dX0_has_16 : decode cX0_has 16 = .ok (.iconst 0, 1) := by decide +kernel
theorem dX0_has_17 : decode cX0_has 17 = .ok (.ireturn, 1) := by decide +kernel
theorem dX0_slot_0 : decode cX0_slot 0 = .ok (.aload_n 0, 1) := by decide +kernel
theorem dX0_slot_1 : decode cX0_slot 1 = .ok (.getfield 79, 3) := by decide +kernel
theorem dX0_slot_4 : decode cX0_slot 4 = .ok (.iload_n 1, 1) := by decide +kernel
theorem dX0_slot_5 : decode cX0_slot 5 = .ok (.iadd, 1) := by decide +kernel
theorem dX0_slot_6 : decode cX0_slot 6 = .ok (.istore_n 2, 1) := by decide +kernel
theorem dX0_slot_7 : decode cX0_slot 7 = .ok (.iload_n 2, 1) := by decide +kernel
theorem dX0_slot_8 : decode cX0_slot 8 = .ok (.aload_n 0, 1) := by decide +kernel
theorem dX0_slot_9 : decode cX0_slot 9 = .ok (.getfield 15, 3) := by decide +kernel
theorem dX0_slot_12 : decode cX0_slot 12 = .ok (.if_icmp .ge 7, 3) := by decide +kernel
theorem dX0_slot_15 : decode cX0_slot 15 = .ok (.iload_n 2, 1) := by decide +kernel
theorem dX0_slot_16 : decode cX0_slot 16 = .ok (.goto 9, 3) := by decide +kernel
theorem dX0_slot_19 : decode cX0_slot 19 = .ok (.iload_n 2, 1) := by decide +kernel
theorem dX0_slot_20 : decode cX0_slot 20 = .ok (.aload_n 0, 1) := by decide +kernel
theorem dX0_slot_21 : decode cX0_slot 21 = .ok (.getfield 15, 3) := by decide +kernel
theorem dX0_slot_24 : decode cX0_slot 24 = .ok (.isub, 1) := by decide +kernel
theorem dX0_slot_25 : decode cX0_slot 25 = .ok (.ireturn, 1) := by decide +kernel
set_option maxRecDepth 20000 in
theorem ggX0_endOfEntry_X0_startOf : GoodIn wsX0_endOfEntry wsX0_startOf := goodIn_r _ [6, 7, 8, 9, 10, 5, 11, 12, 13, 14, 15, 16, 17, 18, 19, 20, 21, 22, 23, 24, 25] (by decide +kernel) (by decide +kernel)
set_option maxRecDepth 20000 in
theorem gX0_endOfEntry_X0_startOf : GoodIn wsX0_endOfEntry (wsV RX0 41 RX0 yX0_startOf wsX0_startOf) := goodIn_app (goodIn_of _ (by decide +kernel)) ggX0_endOfEntry_X0_startOf
theorem dX0_endOfEntry_0 : decode cX0_endOfEntry 0 = .ok (.aload_n 0, 1) := by decide +kernel
theorem dX0_endOfEntry_1 : decode cX0_endOfEntry 1 = .ok (.iload_n 1, 1) := by decide +kernel
theorem dX0_endOfEntry_2 : decode cX0_endOfEntry 2 = .ok (.invokevirtual 41, 3) := by decide +kernel
theorem dX0_endOfEntry_5 : decode cX0_endOfEntry 5 = .ok (.i2l, 1) := by decide +kernel
theorem dX0_endOfEntry_6 : decode cX0_endOfEntry 6 = .ok (.aload_n 0, 1) := by decide +kernel
theorem dX0_endOfEntry_7 : decode cX0_endOfEntry 7 = .ok (.getfield 18, 3) := by decide +kernel
theorem dX0_endOfEntry_10 : decode cX0_endOfEntry 10 = .ok (.i2l, 1) := by decide +kernel
theorem dX0_endOfEntry_11 : decode cX0_endOfEntry 11 = .ok (.ladd, 1) := by decide +kernel
theorem dX0_endOfEntry_12 : decode cX0_endOfEntry 12 = .ok (.lreturn, 1) := by decide +kernel
set_option maxRecDepth 20000 in
theorem ggX1_init_X1_within : GoodIn wsX1_init wsX1_within := goodIn_r _ [17, 18, 19, 20, 21, 22, 23, 24] (by decide +kernel) (by decide +kernel)
set_option maxRecDepth 20000 in
theorem gX1_init_X1_within : GoodIn wsX1_init (va_wsS RX1 14 yX1_within wsX1_within) := goodIn_app (goodIn_of _ (by decide +kernel)) ggX1_init_X1_within
set_option maxRecDepth 20000 in
theorem ggX1_init_X0_init : GoodIn wsX1_init wsX0_init := goodIn_r _ [27, 28, 2, 3, 29, 30, 31, 12, 32, 33, 34, 40, 41, 42, 43, 44, 45, 46] (by decide +kernel) (by decide +kernel)
set_option maxRecDepth 20000 in
theorem gX1_init_X0_init : GoodIn wsX1_init (wsX0_init) := ggX1_init_X0_init
theorem dX1_init_0 : decode cX1_init 0 = .ok (.aload_n 0, 1) := by decide +kernel
theorem dX1_init_1 : decode cX1_init 1 = .ok (.invokespecial 1, 3) := by decide +kernel
theorem dX1_init_4 : decode cX1_init 4 = .ok (.aload_n 0, 1) := by decide +kernel
theorem dX1_init_5 : decode cX1_init 5 = .ok (.iconst (-1), 1) := by decide +kernel
theorem dX1_init_6 : decode cX1_init 6 = .ok (.putfield 7, 3) := by decide +kernel
theorem dX1_init_9 : decode cX1_init 9 = .ok (.iload 4, 2) := by decide +kernel
theorem dX1_init_11 : decode cX1_init 11 = .ok (.iconst 1, 1) := by decide +kernel
theorem dX1_init_12 : decode cX1_init 12 = .ok (.ldc 13, 2) := by decide +kernel
theorem dX1_init_14 : decode cX1_init 14 = .ok (.invokestatic 14, 3) := by decide +kernel
theorem dX1_init_17 : decode cX1_init 17 = .ok (.istore 6, 2) := by decide +kernel
theorem dX1_init_19 : decode cX1_init 19 = .ok (.iload 6, 2) := by decide +kernel
theorem dX1_init_21 : decode cX1_init 21 = .ok (.iload 5, 2) := by decide +kernel
theorem dX1_init_23 : decode cX1_init 23 = .ok (.iconst 2, 1) := by decide +kernel
theorem dX1_init_24 : decode cX1_init 24 = .ok (.sipush 1000, 3) := by decide +kernel
theorem dX1_init_27 : decode cX1_init 27 = .ok (.invokestatic 14, 3) := by decide +kernel
theorem dX1_init_30 : decode cX1_init 30 = .ok (.imul, 1) := by decide +kernel
theorem dX1_init_31 : decode cX1_init 31 = .ok (.istore 7, 2) := by decide +kernel
theorem dX1_init_33 : decode cX1_init 33 = .ok (.iload_n 1, 1) := by decide +kernel
theorem dX1_init_34 : decode cX1_init 34 = .ok (.iconst 1, 1) := by decide +kernel
theorem dX1_init_35 : decode cX1_init 35 = .ok (.bipush 60, 2) := by decide +kernel
theorem dX1_init_37 : decode cX1_init 37 = .ok (.invokestatic 14, 3) := by decide +kernel
theorem dX1_init_40 : decode cX1_init 40 = .ok (.istore 8, 2) := by decide +kernel
theorem dX1_init_42 : decode cX1_init 42 = .ok (.aload_n 0, 1) := by decide +kernel
theorem dX1_init_43 : decode cX1_init 43 = .ok (.new 18, 3) := by decide +kernel
theorem dX1_init_46 : decode cX1_init 46 = .ok (.dup, 1) := by decide +kernel
theorem dX1_init_47 : decode cX1_init 47 = .ok (.iload 8, 2) := by decide +kernel
theorem dX1_init_49 : decode cX1_init 49 = .ok (.iconst 1, 1) := by decide +kernel
theorem dX1_init_50 : decode cX1_init 50 = .ok (.invokespecial 20, 3) := by decide +kernel
theorem dX1_init_53 : decode cX1_init 53 = .ok (.putfield 23, 3) := by decide +kernel
theorem dX1_init_56 : decode cX1_init 56 = .ok (.aload_n 0, 1) := by decide +kernel
theorem dX1_init_57 : decode cX1_init 57 = .ok (.new 18, 3) := by decide +kernel
theorem dX1_init_60 : decode cX1_init 60 = .ok (.dup, 1) := by decide +kernel
theorem dX1_init_61 : decode cX1_init 61 = .ok (.iload_n 2, 1) := by decide +kernel
theorem dX1_init_62 : decode cX1_init 62 = .ok (.iconst 1, 1) := by decide +kernel
theorem dX1_init_63 : decode cX1_init 63 = .ok (.bipush 60, 2) := by decide +kernel
theorem dX1_init_65 : decode cX1_init 65 = .ok (.invokestatic 14, 3) := by decide +kernel
theorem dX1_init_68 : decode cX1_init 68 = .ok (.iload 6, 2) := by decide +kernel
theorem dX1_init_70 : decode cX1_init 70 = .ok (.invokespecial 20, 3) := by decide +kernel
theorem dX1_init_73 : decode cX1_init 73 = .ok (.putfield 27, 3) := by decide +kernel
theorem dX1_init_76 : decode cX1_init 76 = .ok (.aload_n 0, 1) := by decide +kernel
theorem dX1_init_77 : decode cX1_init 77 = .ok (.new 18, 3) := by decide +kernel
theorem dX1_init_80 : decode cX1_init 80 = .ok (.dup, 1) := by decide +kernel
theorem dX1_init_81 : decode cX1_init 81 = .ok (.iload_n 3, 1) := by decide +kernel
theorem dX1_init_82 : decode cX1_init 82 = .ok (.iconst 1, 1) := by decide +kernel
theorem dX1_init_83 : decode cX1_init 83 = .ok (.bipush 60, 2) := by decide +kernel
theorem dX1_init_85 : decode cX1_init 85 = .ok (.invokestatic 14, 3) := by decide +kernel
theorem dX1_init_88 : decode cX1_init 88 = .ok (.iload 7, 2) := by decide +kernel
theorem dX1_init_90 : decode cX1_init 90 = .ok (.invokespecial 20, 3) := by decide +kernel
theorem dX1_init_93 : decode cX1_init 93 = .ok (.putfield 30, 3) := by decide +kernel
theorem dX1_init_96 : decode cX1_init 96 = .ok (.aload_n 0, 1) := by decide +kernel
theorem dX1_init_97 : decode cX1_init 97 = .ok (.iload 8, 2) := by decide +kernel
theorem dX1_init_99 : decode cX1_init 99 = .ok (.newarray .int, 2) := by decide +kernel
theorem dX1_init_101 : decode cX1_init 101 = .ok (.putfield 33, 3) := by decide +kernel
theorem dX1_init_104 : decode cX1_init 104 = .ok (.return_, 1) := by decide +kernel
set_option maxRecDepth 20000 in
theorem ggX1_append_X0_take : GoodIn wsX1_append wsX0_take := goodIn_r _ [9, 10, 11, 12, 13, 14, 15, 8, 16, 17, 18, 19, 20, 21, 22, 23, 24, 25, 26, 27, 28, 29, 30, 31, 32, 33, 34, 35, 36, 37, 38, 39, 40, 41, 42, 48, 49, 50, 51, 52, 53, 54] (by decide +kernel) (by decide +kernel)
set_option maxRecDepth 20000 in
theorem gX1_append_X0_take : GoodIn wsX1_append (wsV RX1 37 RX0 yX0_take wsX0_take) := goodIn_app (goodIn_of _ (by decide +kernel)) ggX1_append_X0_take
theorem dX1_append_0 : decode cX1_append 0 = .ok (.iload_n 1, 1) := by decide +kernel
theorem dX1_append_1 : decode cX1_append 1 = .ok (.aload_n 0, 1) := by decide +kernel
theorem dX1_append_2 : decode cX1_append 2 = .ok (.getfield 7, 3) := by decide +kernel
theorem dX1_append_5 : decode cX1_append 5 = .ok (.if_icmp .gt 5, 3) := by decide +kernel
theorem dX1_append_8 : decode cX1_append 8 = .ok (.iconst 1, 1) := by decide +kernel
theorem dX1_append_9 : decode cX1_append 9 = .ok (.ireturn, 1) := by decide +kernel
theorem dX1_append_10 : decode cX1_append 10 = .ok (.aload_n 0, 1) := by decide +kernel
theorem dX1_append_11 : decode cX1_append 11 = .ok (.iload_n 1, 1) := by decide +kernel
theorem dX1_append_12 : decode cX1_append 12 = .ok (.putfield 7, 3) := by decide +kernel
theorem dX1_append_15 : decode cX1_append 15 = .ok (.aload_n 0, 1) := by decide +kernel
theorem dX1_append_16 : decode cX1_append 16 = .ok (.getfield 23, 3) := by decide +kernel
theorem dX1_append_19 : decode cX1_append 19 = .ok (.iload_n 1, 1) := by decide +kernel
theorem dX1_append_20 : decode cX1_append 20 = .ok (.iload_n 2, 1) := by decide +kernel
theorem dX1_append_21 : decode cX1_append 21 = .ok (.invokevirtual 37, 3) := by decide +kernel
theorem dX1_append_24 : decode cX1_append 24 = .ok (.aload_n 0, 1) := by decide +kernel
theorem dX1_append_25 : decode cX1_append 25 = .ok (.getfield 27, 3) := by decide +kernel
theorem dX1_append_28 : decode cX1_append 28 = .ok (.iload_n 1, 1) := by decide +kernel
theorem dX1_append_29 : decode cX1_append 29 = .ok (.iload_n 2, 1) := by decide +kernel
theorem dX1_append_30 : decode cX1_append 30 = .ok (.invokevirtual 37, 3) := by decide +kernel
theorem dX1_append_33 : decode cX1_append 33 = .ok (.aload_n 0, 1) := by decide +kernel
theorem dX1_append_34 : decode cX1_append 34 = .ok (.getfield 30, 3) := by decide +kernel
theorem dX1_append_37 : decode cX1_append 37 = .ok (.iload_n 1, 1) := by decide +kernel
theorem dX1_append_38 : decode cX1_append 38 = .ok (.iload_n 2, 1) := by decide +kernel
theorem dX1_append_39 : decode cX1_append 39 = .ok (.invokevirtual 37, 3) := by decide +kernel
theorem dX1_append_42 : decode cX1_append 42 = .ok (.iconst 0, 1) := by decide +kernel
theorem dX1_append_43 : decode cX1_append 43 = .ok (.ireturn, 1) := by decide +kernel
set_option maxRecDepth 20000 in
theorem ggX1_count_X1_ringOf : GoodIn wsX1_count wsX1_ringOf := goodIn_r _ [5, 6, 7, 8, 15, 16, 17, 18, 19] (by decide +kernel) (by decide +kernel)
set_option maxRecDepth 20000 in
theorem gX1_count_X1_ringOf : GoodIn wsX1_count (wsV RX1 40 RX1 yX1_ringOf wsX1_ringOf) := goodIn_app (goodIn_of _ (by decide +kernel)) ggX1_count_X1_ringOf
set_option maxRecDepth 20000 in
theorem ggX1_count_X0_size : GoodIn wsX1_count wsX0_size := goodIn_r _ [13, 14, 20, 21, 22, 23, 24, 25, 26] (by decide +kernel) (by decide +kernel)
set_option maxRecDepth 20000 in
theorem gX1_count_X0_size : GoodIn wsX1_count (wsV RX1 44 RX0 yX0_size wsX0_size) := goodIn_app (goodIn_of _ (by decide +kernel)) ggX1_count_X0_size
theorem dX1_count_0 : decode cX1_count 0 = .ok (.aload_n 0, 1) := by decide +kernel
theorem dX1_count_1 : decode cX1_count 1 = .ok (.iload_n 1, 1) := by decide +kernel
theorem dX1_count_2 : decode cX1_count 2 = .ok (.invokevirtual 40, 3) := by decide +kernel
theorem dX1_count_5 : decode cX1_count 5 = .ok (.astore_n 2, 1) := by decide +kernel
theorem dX1_count_6 : decode cX1_count 6 = .ok (.aload_n 2, 1) := by decide +kernel
theorem dX1_count_7 : decode cX1_count 7 = .ok (.ifnonnull 7, 3) := by decide +kernel
theorem dX1_count_10 : decode cX1_count 10 = .ok (.iconst (-1), 1) := by decide +kernel
theorem dX1_count_11 : decode cX1_count 11 = .ok (.goto 7, 3) := by decide +kernel
theorem dX1_count_14 : decode cX1_count 14 = .ok (.aload_n 2, 1) := by decide +kernel
theorem dX1_count_15 : decode cX1_count 15 = .ok (.invokevirtual 44, 3) := by decide +kernel
theorem dX1_count_18 : decode cX1_count 18 = .ok (.ireturn, 1) := by decide +kernel
set_option maxRecDepth 20000 in
theorem ggX1_start_X1_ringOf : GoodIn wsX1_start wsX1_ringOf := goodIn_r _ [5, 6, 7, 8, 26, 27, 28, 29, 30] (by decide +kernel) (by decide +kernel)
set_option maxRecDepth 20000 in
theorem gX1_start_X1_ringOf : GoodIn wsX1_start (wsV RX1 40 RX1 yX1_ringOf wsX1_ringOf) := goodIn_app (goodIn_of _ (by decide +kernel)) ggX1_start_X1_ringOf
set_option maxRecDepth 20000 in
theorem ggX1_start_X0_startOf : GoodIn wsX1_start wsX0_startOf := goodIn_r _ [13, 14, 15, 16, 17, 12, 18, 19, 20, 21, 22, 23, 24, 25, 31, 32, 33, 34, 35, 36, 37] (by decide +kernel) (by decide +kernel)
set_option maxRecDepth 20000 in
theorem gX1_start_X0_startOf : GoodIn wsX1_start (wsV RX1 48 RX0 yX0_startOf wsX0_startOf) := goodIn_app (goodIn_of _ (by decide +kernel)) ggX1_start_X0_startOf
theorem dX1_start_0 : decode cX1_start 0 = .ok (.aload_n 0, 1) := by decide +kernel
theorem dX1_start_1 : decode cX1_start 1 = .ok (.iload_n 1, 1) := by decide +kernel
theorem dX1_start_2 : decode cX1_start 2 = .ok (.invokevirtual 40, 3) := by decide +kernel
theorem dX1_start_5 : decode cX1_start 5 = .ok (.astore_n 3, 1) := by decide +kernel
theorem dX1_start_6 : decode cX1_start 6 = .ok (.aload_n 3, 1) := by decide +kernel
theorem dX1_start_7 : decode cX1_start 7 = .ok (.ifnonnull 7, 3) := by decide +kernel
theorem dX1_start_10 : decode cX1_start 10 = .ok (.iconst (-1), 1) := by decide +kernel
theorem dX1_start_11 : decode cX1_start 11 = .ok (.goto 8, 3) := by decide +kernel
theorem dX1_start_14 : decode cX1_start 14 = .ok (.aload_n 3, 1) := by decide +kernel
theorem dX1_start_15 : decode cX1_start 15 = .ok (.iload_n 2, 1) := by decide +kernel
theorem dX1_start_16 : decode cX1_start 16 = .ok (.invokevirtual 48, 3) := by decide +kernel
theorem dX1_start_19 : decode cX1_start 19 = .ok (.ireturn, 1) := by decide +kernel
set_option maxRecDepth 20000 in
theorem ggX1_figure_X1_ringOf : GoodIn wsX1_figure wsX1_ringOf := goodIn_r _ [5, 6, 7, 8, 26, 27, 28, 29, 30] (by decide +kernel) (by decide +kernel)
set_option maxRecDepth 20000 in
theorem gX1_figure_X1_ringOf : GoodIn wsX1_figure (wsV RX1 40 RX1 yX1_ringOf wsX1_ringOf) := goodIn_app (goodIn_of _ (by decide +kernel)) ggX1_figure_X1_ringOf
set_option maxRecDepth 20000 in
theorem ggX1_figure_X0_figureOf : GoodIn wsX1_figure wsX0_figureOf := goodIn_r _ [13, 14, 15, 16, 17, 12, 18, 19, 20, 21, 22, 23, 24, 25, 31, 32, 33, 34, 35, 36, 37] (by decide +kernel) (by decide +kernel)
set_option maxRecDepth 20000 in
theorem gX1_figure_X0_figureOf : GoodIn wsX1_figure (wsV RX1 52 RX0 yX0_figureOf wsX0_figureOf) := goodIn_app (goodIn_of _ (by decide +kernel)) ggX1_figure_X0_figureOf
theorem dX1_figure_0 : decode cX1_figure 0 = .ok (.aload_n 0, 1) := by decide +kernel
theorem dX1_figure_1 : decode cX1_figure 1 = .ok (.iload_n 1, 1) := by decide +kernel
theorem dX1_figure_2 : decode cX1_figure 2 = .ok (.invokevirtual 40, 3) := by decide +kernel
theorem dX1_figure_5 : decode cX1_figure 5 = .ok (.astore 4, 2) := by decide +kernel
theorem dX1_figure_7 : decode cX1_figure 7 = .ok (.aload 4, 2) := by decide +kernel
theorem dX1_figure_9 : decode cX1_figure 9 = .ok (.ifnonnull 7, 3) := by decide +kernel
theorem dX1_figure_12 : decode cX1_figure 12 = .ok (.iconst 0, 1) := by decide +kernel
theorem dX1_figure_13 : decode cX1_figure 13 = .ok (.goto 10, 3) := by decide +kernel
theorem dX1_figure_16 : decode cX1_figure 16 = .ok (.aload 4, 2) := by decide +kernel
theorem dX1_figure_18 : decode cX1_figure 18 = .ok (.iload_n 2, 1) := by decide +kernel
theorem dX1_figure_19 : decode cX1_figure 19 = .ok (.iload_n 3, 1) := by decide +kernel
theorem dX1_figure_20 : decode cX1_figure 20 = .ok (.invokevirtual 52, 3) := by decide +kernel
theorem dX1_figure_23 : decode cX1_figure 23 = .ok (.ireturn, 1) := by decide +kernel
set_option maxRecDepth 20000 in
theorem ggX1_many_X1_firstIn : GoodIn wsX1_many wsX1_firstIn := goodIn_r _ [5, 6, 7, 8, 9, 10, 11, 12, 13, 14, 15, 16, 17, 18, 19, 20, 21, 22, 23, 24, 25, 26, 27, 32, 33, 34, 35, 36, 37, 38, 39, 40, 41, 42, 43] (by decide +kernel) (by decide +kernel)
set_option maxRecDepth 20000 in
theorem gX1_many_X1_firstIn : GoodIn wsX1_many (wsV RX1 56 RX1 yX1_firstIn wsX1_firstIn) := goodIn_app (goodIn_of _ (by decide +kernel)) ggX1_many_X1_firstIn
set_option maxRecDepth 20000 in
theorem ggX1_many_X1_endOf : GoodIn wsX1_many wsX1_endOf := goodIn_r _ [31, 6, 7, 8, 9, 10, 11, 12, 13, 14, 15, 16, 17, 18, 19, 20, 21, 22, 23, 24, 25, 26, 27, 32, 33, 34, 35, 36, 37, 38, 39, 40, 41, 42, 43] (by decide +kernel) (by decide +kernel)
set_option maxRecDepth 20000 in
theorem gX1_many_X1_endOf : GoodIn wsX1_many (wsV RX1 59 RX1 yX1_endOf wsX1_endOf) := goodIn_app (goodIn_of _ (by decide +kernel)) ggX1_many_X1_endOf
theorem dX1_many_0 : decode cX1_many 0 = .ok (.aload_n 0, 1) := by decide +kernel
theorem dX1_many_1 : decode cX1_many 1 = .ok (.iload_n 1, 1) := by decide +kernel
theorem dX1_many_2 : decode cX1_many 2 = .ok (.invokevirtual 56, 3) := by decide +kernel
theorem dX1_many_5 : decode cX1_many 5 = .ok (.istore_n 3, 1) := by decide +kernel
theorem dX1_many_6 : decode cX1_many 6 = .ok (.aload_n 0, 1) := by decide +kernel
theorem dX1_many_7 : decode cX1_many 7 = .ok (.iload_n 3, 1) := by decide +kernel
theorem dX1_many_8 : decode cX1_many 8 = .ok (.iload_n 2, 1) := by decide +kernel
theorem dX1_many_9 : decode cX1_many 9 = .ok (.invokevirtual 59, 3) := by decide +kernel
theorem dX1_many_12 : decode cX1_many 12 = .ok (.iload_n 3, 1) := by decide +kernel
theorem dX1_many_13 : decode cX1_many 13 = .ok (.isub, 1) := by decide +kernel
theorem dX1_many_14 : decode cX1_many 14 = .ok (.ireturn, 1) := by decide +kernel
set_option maxRecDepth 20000 in
theorem ggX1_extreme_X1_firstIn : GoodIn wsX1_extreme wsX1_firstIn := goodIn_r _ [6, 1, 7, 8, 9, 10, 11, 12, 13, 14, 15, 16, 17, 18, 19, 20, 21, 22, 23, 24, 25, 26, 27, 51, 52, 53, 54, 55, 56, 57, 58, 59, 60, 61, 62] (by decide +kernel) (by decide +kernel)
set_option maxRecDepth 20000 in
theorem gX1_extreme_X1_firstIn : GoodIn wsX1_extreme (wsV RX1 56 RX1 yX1_firstIn wsX1_firstIn) := goodIn_app (goodIn_of _ (by decide +kernel)) ggX1_extreme_X1_firstIn
set_option maxRecDepth 20000 in
theorem ggX1_extreme_X1_endOf : GoodIn wsX1_extreme wsX1_endOf := goodIn_r _ [31, 1, 7, 8, 9, 10, 11, 12, 13, 14, 15, 16, 17, 18, 19, 20, 21, 22, 23, 24, 25, 26, 27, 51, 52, 53, 54, 55, 56, 57, 58, 59, 60, 61, 62] (by decide +kernel) (by decide +kernel)
set_option maxRecDepth 20000 in
theorem gX1_extreme_X1_endOf : GoodIn wsX1_extreme (wsV RX1 59 RX1 yX1_endOf wsX1_endOf) := goodIn_app (goodIn_of _ (by decide +kernel)) ggX1_extreme_X1_endOf
set_option maxRecDepth 20000 in
theorem ggX1_extreme_X0_together : GoodIn wsX1_extreme wsX0_together := goodIn_r _ [35, 36, 37, 38, 10, 39, 40, 18, 19, 20, 21, 12, 22, 23, 24, 25, 26, 27, 41, 42, 43, 44, 45, 46, 47, 48, 49, 50, 56, 57, 58, 59, 60, 61, 62] (by decide +kernel) (by decide +kernel)
set_option maxRecDepth 20000 in
theorem gX1_extreme_X0_together : GoodIn wsX1_extreme (wsV RX1 62 RX0 yX0_together wsX0_together) := goodIn_app (goodIn_of _ (by decide +kernel)) ggX1_extreme_X0_together
theorem dX1_extreme_0 : decode cX1_extreme 0 = .ok (.iload_n 3, 1) := by decide +kernel
theorem dX1_extreme_1 : decode cX1_extreme 1 = .ok (.iconst 1, 1) := by decide +kernel
theorem dX1_extreme_2 : decode cX1_extreme 2 = .ok (.if_icmp .eq 10, 3) := by decide +kernel
theorem dX1_extreme_5 : decode cX1_extreme 5 = .ok (.iload_n 3, 1) := by decide +kernel
theorem dX1_extreme_6 : decode cX1_extreme 6 = .ok (.iconst (-1), 1) := by decide +kernel
theorem dX1_extreme_7 : decode cX1_extreme 7 = .ok (.if_icmp .eq 5, 3) := by decide +kernel
theorem dX1_extreme_10 : decode cX1_extreme 10 = .ok (.iconst 0, 1) := by decide +kernel
theorem dX1_extreme_11 : decode cX1_extreme 11 = .ok (.ireturn, 1) := by decide +kernel
theorem dX1_extreme_12 : decode cX1_extreme 12 = .ok (.aload_n 0, 1) := by decide +kernel
theorem dX1_extreme_13 : decode cX1_extreme 13 = .ok (.iload_n 1, 1) := by decide +kernel
theorem dX1_extreme_14 : decode cX1_extreme 14 = .ok (.invokevirtual 56, 3) := by decide +kernel
theorem dX1_extreme_17 : decode cX1_extreme 17 = .ok (.istore 4, 2) := by decide +kernel
theorem dX1_extreme_19 : decode cX1_extreme 19 = .ok (.aload_n 0, 1) := by decide +kernel
theorem dX1_extreme_20 : decode cX1_extreme 20 = .ok (.getfield 23, 3) := by decide +kernel
theorem dX1_extreme_23 : decode cX1_extreme 23 = .ok (.iload 4, 2) := by decide +kernel
theorem dX1_extreme_25 : decode cX1_extreme 25 = .ok (.aload_n 0, 1) := by decide +kernel
theorem dX1_extreme_26 : decode cX1_extreme 26 = .ok (.iload 4, 2) := by decide +kernel
theorem dX1_extreme_28 : decode cX1_extreme 28 = .ok (.iload_n 2, 1) := by decide +kernel
theorem dX1_extreme_29 : decode cX1_extreme 29 = .ok (.invokevirtual 59, 3) := by decide +kernel
theorem dX1_extreme_32 : decode cX1_extreme 32 = .ok (.iload_n 3, 1) := by decide +kernel
theorem dX1_extreme_33 : decode cX1_extreme 33 = .ok (.ifCond .ge 7, 3) := by decide +kernel
theorem dX1_extreme_36 : decode cX1_extreme 36 = .ok (.iconst 0, 1) := by decide +kernel
theorem dX1_extreme_37 : decode cX1_extreme 37 = .ok (.goto 4, 3) := by decide +kernel
theorem dX1_extreme_40 : decode cX1_extreme 40 = .ok (.iconst 1, 1) := by decide +kernel
theorem dX1_extreme_41 : decode cX1_extreme 41 = .ok (.invokevirtual 62, 3) := by decide +kernel
theorem dX1_extreme_44 : decode cX1_extreme 44 = .ok (.ireturn, 1) := by decide +kernel
set_option maxRecDepth 20000 in
theorem ggX1_sum_X1_firstIn : GoodIn wsX1_sum wsX1_firstIn := goodIn_r _ [5, 6, 7, 8, 9, 10, 11, 12, 13, 14, 15, 16, 17, 18, 19, 20, 21, 22, 23, 24, 25, 26, 27, 41, 42, 43, 44, 45, 46, 47, 48, 49, 50, 51, 52] (by decide +kernel) (by decide +kernel)
set_option maxRecDepth 20000 in
theorem gX1_sum_X1_firstIn : GoodIn wsX1_sum (wsV RX1 56 RX1 yX1_firstIn wsX1_firstIn) := goodIn_app (goodIn_of _ (by decide +kernel)) ggX1_sum_X1_firstIn
set_option maxRecDepth 20000 in
theorem ggX1_sum_X1_endOf : GoodIn wsX1_sum wsX1_endOf := goodIn_r _ [31, 6, 7, 8, 9, 10, 11, 12, 13, 14, 15, 16, 17, 18, 19, 20, 21, 22, 23, 24, 25, 26, 27, 41, 42, 43, 44, 45, 46, 47, 48, 49, 50, 51, 52] (by decide +kernel) (by decide +kernel)
set_option maxRecDepth 20000 in
theorem gX1_sum_X1_endOf : GoodIn wsX1_sum (wsV RX1 59 RX1 yX1_endOf wsX1_endOf) := goodIn_app (goodIn_of _ (by decide +kernel)) ggX1_sum_X1_endOf
set_option maxRecDepth 20000 in
theorem ggX1_sum_X1_valueOf : GoodIn wsX1_sum wsX1_valueOf := goodIn_r _ [35, 6, 36, 37, 38, 10, 39, 40, 18, 19, 20, 21, 12, 22, 23, 24, 25, 26, 27, 41, 42, 43, 44, 45, 46, 47, 48, 49, 50, 51, 52] (by decide +kernel) (by decide +kernel)
set_option maxRecDepth 20000 in
theorem gX1_sum_X1_valueOf : GoodIn wsX1_sum (wsV RX1 65 RX1 yX1_valueOf wsX1_valueOf) := goodIn_app (goodIn_of _ (by decide +kernel)) ggX1_sum_X1_valueOf
theorem dX1_sum_0 : decode cX1_sum 0 = .ok (.aload_n 0, 1) := by decide +kernel
theorem dX1_sum_1 : decode cX1_sum 1 = .ok (.iload_n 1, 1) := by decide +kernel
theorem dX1_sum_2 : decode cX1_sum 2 = .ok (.invokevirtual 56, 3) := by decide +kernel
theorem dX1_sum_5 : decode cX1_sum 5 = .ok (.istore_n 3, 1) := by decide +kernel
theorem dX1_sum_6 : decode cX1_sum 6 = .ok (.aload_n 0, 1) := by decide +kernel
theorem dX1_sum_7 : decode cX1_sum 7 = .ok (.iload_n 3, 1) := by decide +kernel
theorem dX1_sum_8 : decode cX1_sum 8 = .ok (.iload_n 2, 1) := by decide +kernel
theorem dX1_sum_9 : decode cX1_sum 9 = .ok (.invokevirtual 59, 3) := by decide +kernel
theorem dX1_sum_12 : decode cX1_sum 12 = .ok (.istore 4, 2) := by decide +kernel
theorem dX1_sum_14 : decode cX1_sum 14 = .ok (.lconst 0, 1) := by decide +kernel
theorem dX1_sum_15 : decode cX1_sum 15 = .ok (.lstore 5, 2) := by decide +kernel
theorem dX1_sum_17 : decode cX1_sum 17 = .ok (.iload_n 3, 1) := by decide +kernel
theorem dX1_sum_18 : decode cX1_sum 18 = .ok (.istore 7, 2) := by decide +kernel
theorem dX1_sum_20 : decode cX1_sum 20 = .ok (.iload 7, 2) := by decide +kernel
theorem dX1_sum_22 : decode cX1_sum 22 = .ok (.iload 4, 2) := by decide +kernel
theorem dX1_sum_24 : decode cX1_sum 24 = .ok (.if_icmp .ge 21, 3) := by decide +kernel
theorem dX1_sum_27 : decode cX1_sum 27 = .ok (.lload 5, 2) := by decide +kernel
theorem dX1_sum_29 : decode cX1_sum 29 = .ok (.aload_n 0, 1) := by decide +kernel
theorem dX1_sum_30 : decode cX1_sum 30 = .ok (.iload 7, 2) := by decide +kernel
theorem dX1_sum_32 : decode cX1_sum 32 = .ok (.invokevirtual 65, 3) := by decide +kernel
theorem dX1_sum_35 : decode cX1_sum 35 = .ok (.i2l, 1) := by decide +kernel
theorem dX1_sum_36 : decode cX1_sum 36 = .ok (.ladd, 1) := by decide +kernel
theorem dX1_sum_37 : decode cX1_sum 37 = .ok (.lstore 5, 2) := by decide +kernel
theorem dX1_sum_39 : decode cX1_sum 39 = .ok (.iinc 7 1, 3) := by decide +kernel
theorem dX1_sum_42 : decode cX1_sum 42 = .ok (.goto (-22), 3) := by decide +kernel
theorem dX1_sum_45 : decode cX1_sum 45 = .ok (.lload 5, 2) := by decide +kernel
theorem dX1_sum_47 : decode cX1_sum 47 = .ok (.lreturn, 1) := by decide +kernel
set_option maxRecDepth 20000 in
theorem ggX1_at_X0_firstFrom : GoodIn wsX1_at wsX0_firstFrom := goodIn_r _ [6, 7, 8, 9, 10, 5, 11, 12, 13, 14, 15, 16, 17, 18, 19, 20, 21, 22, 51, 52, 53, 54, 55, 56, 57] (by decide +kernel) (by decide +kernel)
set_option maxRecDepth 20000 in
theorem gX1_at_X0_firstFrom : GoodIn wsX1_at (wsV RX1 68 RX0 yX0_firstFrom wsX0_firstFrom) := goodIn_app (goodIn_of _ (by decide +kernel)) ggX1_at_X0_firstFrom
set_option maxRecDepth 20000 in
theorem ggX1_at_X0_size : GoodIn wsX1_at wsX0_size := goodIn_r _ [26, 7, 51, 52, 53, 54, 55, 56, 57] (by decide +kernel) (by decide +kernel)
set_option maxRecDepth 20000 in
theorem gX1_at_X0_size : GoodIn wsX1_at (wsV RX1 44 RX0 yX0_size wsX0_size) := goodIn_app (goodIn_of _ (by decide +kernel)) ggX1_at_X0_size
set_option maxRecDepth 20000 in
theorem ggX1_at_X1_onLine : GoodIn wsX1_at wsX1_onLine := goodIn_r _ [31, 1, 32, 9, 10, 5, 11, 12, 13, 14, 15, 16, 7, 17, 18, 19, 20, 21, 22, 33, 34, 35, 30, 36, 37, 38, 39, 40, 41, 42, 43, 44, 45, 46, 47, 48, 49, 50, 51, 52, 53, 54, 55, 56, 57] (by decide +kernel) (by decide +kernel)
set_option maxRecDepth 20000 in
theorem gX1_at_X1_onLine : GoodIn wsX1_at (wsV RX1 72 RX1 yX1_onLine wsX1_onLine) := goodIn_app (goodIn_of _ (by decide +kernel)) ggX1_at_X1_onLine
set_option maxRecDepth 20000 in
theorem ggX1_at_X1_valueOf : GoodIn wsX1_at wsX1_valueOf := goodIn_r _ [36, 1, 37, 38, 39, 5, 40, 41, 13, 14, 15, 16, 7, 17, 18, 19, 20, 21, 22, 46, 47, 48, 49, 50, 51, 52, 53, 54, 55, 56, 57] (by decide +kernel) (by decide +kernel)
set_option maxRecDepth 20000 in
theorem gX1_at_X1_valueOf : GoodIn wsX1_at (wsV RX1 65 RX1 yX1_valueOf wsX1_valueOf) := goodIn_app (goodIn_of _ (by decide +kernel)) ggX1_at_X1_valueOf
theorem dX1_at_0 : decode cX1_at 0 = .ok (.aload_n 0, 1) := by decide +kernel
theorem dX1_at_1 : decode cX1_at 1 = .ok (.getfield 23, 3) := by decide +kernel
theorem dX1_at_4 : decode cX1_at 4 = .ok (.iconst 0, 1) := by decide +kernel
theorem dX1_at_5 : decode cX1_at 5 = .ok (.iload_n 1, 1) := by decide +kernel
theorem dX1_at_6 : decode cX1_at 6 = .ok (.i2l, 1) := by decide +kernel
theorem dX1_at_7 : decode cX1_at 7 = .ok (.lconst 1, 1) := by decide +kernel
theorem dX1_at_8 : decode cX1_at 8 = .ok (.ladd, 1) := by decide +kernel
theorem dX1_at_9 : decode cX1_at 9 = .ok (.invokevirtual 68, 3) := by decide +kernel
theorem dX1_at_12 : decode cX1_at 12 = .ok (.istore_n 3, 1) := by decide +kernel
theorem dX1_at_13 : decode cX1_at 13 = .ok (.iload_n 3, 1) := by decide +kernel
theorem dX1_at_14 : decode cX1_at 14 = .ok (.ifCond .ne 5, 3) := by decide +kernel
theorem dX1_at_17 : decode cX1_at 17 = .ok (.iconst 0, 1) := by decide +kernel
theorem dX1_at_18 : decode cX1_at 18 = .ok (.ireturn, 1) := by decide +kernel
theorem dX1_at_19 : decode cX1_at 19 = .ok (.iload_n 2, 1) := by decide +kernel
theorem dX1_at_20 : decode cX1_at 20 = .ok (.ifCond .eq 18, 3) := by decide +kernel
theorem dX1_at_23 : decode cX1_at 23 = .ok (.iload_n 3, 1) := by decide +kernel
theorem dX1_at_24 : decode cX1_at 24 = .ok (.aload_n 0, 1) := by decide +kernel
theorem dX1_at_25 : decode cX1_at 25 = .ok (.getfield 23, 3) := by decide +kernel
theorem dX1_at_28 : decode cX1_at 28 = .ok (.invokevirtual 44, 3) := by decide +kernel
theorem dX1_at_31 : decode cX1_at 31 = .ok (.if_icmp .ge 7, 3) := by decide +kernel
theorem dX1_at_34 : decode cX1_at 34 = .ok (.iconst 1, 1) := by decide +kernel
theorem dX1_at_35 : decode cX1_at 35 = .ok (.goto 4, 3) := by decide +kernel
theorem dX1_at_38 : decode cX1_at 38 = .ok (.iconst 0, 1) := by decide +kernel
theorem dX1_at_39 : decode cX1_at 39 = .ok (.istore 4, 2) := by decide +kernel
theorem dX1_at_41 : decode cX1_at 41 = .ok (.iload 4, 2) := by decide +kernel
theorem dX1_at_43 : decode cX1_at 43 = .ok (.ifCond .eq 14, 3) := by decide +kernel
theorem dX1_at_46 : decode cX1_at 46 = .ok (.aload_n 0, 1) := by decide +kernel
theorem dX1_at_47 : decode cX1_at 47 = .ok (.iload_n 3, 1) := by decide +kernel
theorem dX1_at_48 : decode cX1_at 48 = .ok (.iconst 1, 1) := by decide +kernel
theorem dX1_at_49 : decode cX1_at 49 = .ok (.isub, 1) := by decide +kernel
theorem dX1_at_50 : decode cX1_at 50 = .ok (.iload_n 1, 1) := by decide +kernel
theorem dX1_at_51 : decode cX1_at 51 = .ok (.invokevirtual 72, 3) := by decide +kernel
theorem dX1_at_54 : decode cX1_at 54 = .ok (.goto 10, 3) := by decide +kernel
theorem dX1_at_57 : decode cX1_at 57 = .ok (.aload_n 0, 1) := by decide +kernel
theorem dX1_at_58 : decode cX1_at 58 = .ok (.iload_n 3, 1) := by decide +kernel
theorem dX1_at_59 : decode cX1_at 59 = .ok (.iconst 1, 1) := by decide +kernel
theorem dX1_at_60 : decode cX1_at 60 = .ok (.isub, 1) := by decide +kernel
theorem dX1_at_61 : decode cX1_at 61 = .ok (.invokevirtual 65, 3) := by decide +kernel
theorem dX1_at_64 : decode cX1_at 64 = .ok (.ireturn, 1) := by decide +kernel
set_option maxRecDepth 20000 in
theorem ggX1_steepest_X1_firstIn : GoodIn wsX1_steepest wsX1_firstIn := goodIn_r _ [5, 6, 7, 8, 9, 10, 11, 12, 13, 14, 15, 16, 17, 18, 19, 20, 21, 22, 23, 24, 25, 26, 27, 45, 46, 47, 48, 49, 50, 51, 52, 53, 54, 55, 56] (by decide +kernel) (by decide +kernel)
set_option maxRecDepth 20000 in
theorem gX1_steepest_X1_firstIn : GoodIn wsX1_steepest (wsV RX1 56 RX1 yX1_firstIn wsX1_firstIn) := goodIn_app (goodIn_of _ (by decide +kernel)) ggX1_steepest_X1_firstIn
set_option maxRecDepth 20000 in
theorem ggX1_steepest_X1_endOf : GoodIn wsX1_steepest wsX1_endOf := goodIn_r _ [31, 6, 7, 8, 9, 10, 11, 12, 13, 14, 15, 16, 17, 18, 19, 20, 21, 22, 23, 24, 25, 26, 27, 45, 46, 47, 48, 49, 50, 51, 52, 53, 54, 55, 56] (by decide +kernel) (by decide +kernel)
set_option maxRecDepth 20000 in
theorem gX1_steepest_X1_endOf : GoodIn wsX1_steepest (wsV RX1 59 RX1 yX1_endOf wsX1_endOf) := goodIn_app (goodIn_of _ (by decide +kernel)) ggX1_steepest_X1_endOf
set_option maxRecDepth 20000 in
theorem ggX1_steepest_X1_riseTo : GoodIn wsX1_steepest wsX1_riseTo := goodIn_r _ [35, 36, 37, 38, 4, 39, 6, 40, 41, 42, 10, 43, 44, 18, 19, 20, 21, 12, 22, 23, 24, 25, 26, 27, 45, 46, 47, 48, 49, 50, 51, 52, 53, 54, 55, 56] (by decide +kernel) (by decide +kernel)
set_option maxRecDepth 20000 in
theorem gX1_steepest_X1_riseTo : GoodIn wsX1_steepest (wsV RX1 75 RX1 yX1_riseTo wsX1_riseTo) := goodIn_app (goodIn_of _ (by decide +kernel)) ggX1_steepest_X1_riseTo
theorem dX1_steepest_0 : decode cX1_steepest 0 = .ok (.aload_n 0, 1) := by decide +kernel
theorem dX1_steepest_1 : decode cX1_steepest 1 = .ok (.iload_n 1, 1) := by decide +kernel
theorem dX1_steepest_2 : decode cX1_steepest 2 = .ok (.invokevirtual 56, 3) := by decide +kernel
theorem dX1_steepest_5 : decode cX1_steepest 5 = .ok (.istore_n 3, 1) := by decide +kernel
theorem dX1_steepest_6 : decode cX1_steepest 6 = .ok (.aload_n 0, 1) := by decide +kernel
theorem dX1_steepest_7 : decode cX1_steepest 7 = .ok (.iload_n 3, 1) := by decide +kernel
theorem dX1_steepest_8 : decode cX1_steepest 8 = .ok (.iload_n 2, 1) := by decide +kernel
theorem dX1_steepest_9 : decode cX1_steepest 9 = .ok (.invokevirtual 59, 3) := by decide +kernel
theorem dX1_steepest_12 : decode cX1_steepest 12 = .ok (.istore 4, 2) := by decide +kernel
theorem dX1_steepest_14 : decode cX1_steepest 14 = .ok (.iconst (-1), 1) := by decide +kernel
theorem dX1_steepest_15 : decode cX1_steepest 15 = .ok (.istore 5, 2) := by decide +kernel
theorem dX1_steepest_17 : decode cX1_steepest 17 = .ok (.lconst 0, 1) := by decide +kernel
theorem dX1_steepest_18 : decode cX1_steepest 18 = .ok (.lstore 6, 2) := by decide +kernel
theorem dX1_steepest_20 : decode cX1_steepest 20 = .ok (.iload_n 3, 1) := by decide +kernel
theorem dX1_steepest_21 : decode cX1_steepest 21 = .ok (.iconst 1, 1) := by decide +kernel
theorem dX1_steepest_22 : decode cX1_steepest 22 = .ok (.iadd, 1) := by decide +kernel
theorem dX1_steepest_23 : decode cX1_steepest 23 = .ok (.istore 8, 2) := by decide +kernel
theorem dX1_steepest_25 : decode cX1_steepest 25 = .ok (.iload 8, 2) := by decide +kernel
theorem dX1_steepest_27 : decode cX1_steepest 27 = .ok (.iload 4, 2) := by decide +kernel
theorem dX1_steepest_29 : decode cX1_steepest 29 = .ok (.if_icmp .ge 39, 3) := by decide +kernel
theorem dX1_steepest_32 : decode cX1_steepest 32 = .ok (.aload_n 0, 1) := by decide +kernel
theorem dX1_steepest_33 : decode cX1_steepest 33 = .ok (.iload 8, 2) := by decide +kernel
theorem dX1_steepest_35 : decode cX1_steepest 35 = .ok (.invokevirtual 75, 3) := by decide +kernel
theorem dX1_steepest_38 : decode cX1_steepest 38 = .ok (.lstore 9, 2) := by decide +kernel
theorem dX1_steepest_40 : decode cX1_steepest 40 = .ok (.iload 5, 2) := by decide +kernel
theorem dX1_steepest_42 : decode cX1_steepest 42 = .ok (.iconst (-1), 1) := by decide +kernel
theorem dX1_steepest_43 : decode cX1_steepest 43 = .ok (.if_icmp .eq 11, 3) := by decide +kernel
theorem dX1_steepest_46 : decode cX1_steepest 46 = .ok (.lload 9, 2) := by decide +kernel
theorem dX1_steepest_48 : decode cX1_steepest 48 = .ok (.lload 6, 2) := by decide +kernel
theorem dX1_steepest_50 : decode cX1_steepest 50 = .ok (.lcmp, 1) := by decide +kernel
theorem dX1_steepest_51 : decode cX1_steepest 51 = .ok (.ifCond .le 11, 3) := by decide +kernel
theorem dX1_steepest_54 : decode cX1_steepest 54 = .ok (.iload 8, 2) := by decide +kernel
theorem dX1_steepest_56 : decode cX1_steepest 56 = .ok (.istore 5, 2) := by decide +kernel
theorem dX1_steepest_58 : decode cX1_steepest 58 = .ok (.lload 9, 2) := by decide +kernel
theorem dX1_steepest_60 : decode cX1_steepest 60 = .ok (.lstore 6, 2) := by decide +kernel
theorem dX1_steepest_62 : decode cX1_steepest 62 = .ok (.iinc 8 1, 3) := by decide +kernel
theorem dX1_steepest_65 : decode cX1_steepest 65 = .ok (.goto (-40), 3) := by decide +kernel
theorem dX1_steepest_68 : decode cX1_steepest 68 = .ok (.iload 5, 2) := by decide +kernel
theorem dX1_steepest_70 : decode cX1_steepest 70 = .ok (.ireturn, 1) := by decide +kernel
set_option maxRecDepth 20000 in
theorem ggX1_median_X1_firstIn : GoodIn wsX1_median wsX1_firstIn := goodIn_r _ [6, 7, 8, 9, 10, 11, 12, 13, 14, 15, 16, 17, 18, 19, 20, 21, 22, 23, 24, 25, 26, 27, 28, 46, 47, 48, 49, 50, 51, 52, 53, 54, 55, 56, 57] (by decide +kernel) (by decide +kernel)
set_option maxRecDepth 20000 in
theorem gX1_median_X1_firstIn : GoodIn wsX1_median (wsV RX1 56 RX1 yX1_firstIn wsX1_firstIn) := goodIn_app (goodIn_of _ (by decide +kernel)) ggX1_median_X1_firstIn
set_option maxRecDepth 20000 in
theorem ggX1_median_X1_endOf : GoodIn wsX1_median wsX1_endOf := goodIn_r _ [32, 7, 8, 9, 10, 11, 12, 13, 14, 15, 16, 17, 18, 19, 20, 21, 22, 23, 24, 25, 26, 27, 28, 46, 47, 48, 49, 50, 51, 52, 53, 54, 55, 56, 57] (by decide +kernel) (by decide +kernel)
set_option maxRecDepth 20000 in
theorem gX1_median_X1_endOf : GoodIn wsX1_median (wsV RX1 59 RX1 yX1_endOf wsX1_endOf) := goodIn_app (goodIn_of _ (by decide +kernel)) ggX1_median_X1_endOf
set_option maxRecDepth 20000 in
theorem ggX1_median_X1_valueOf : GoodIn wsX1_median wsX1_valueOf := goodIn_r _ [36, 7, 37, 38, 39, 11, 40, 41, 19, 20, 21, 22, 13, 23, 24, 25, 26, 27, 28, 46, 47, 48, 49, 50, 51, 52, 53, 54, 55, 56, 57] (by decide +kernel) (by decide +kernel)
set_option maxRecDepth 20000 in
theorem gX1_median_X1_valueOf : GoodIn wsX1_median (wsV RX1 65 RX1 yX1_valueOf wsX1_valueOf) := goodIn_app (goodIn_of _ (by decide +kernel)) ggX1_median_X1_valueOf
set_option maxRecDepth 20000 in
theorem ggX1_median_X1_insertSorted : GoodIn wsX1_median wsX1_insertSorted := goodIn_r _ [45, 1, 46, 47, 48, 49, 50] (by decide +kernel) (by decide +kernel)
set_option maxRecDepth 20000 in
theorem gX1_median_X1_insertSorted : GoodIn wsX1_median (wsV RX1 79 RX1 yX1_insertSorted wsX1_insertSorted) := goodIn_app (goodIn_of _ (by decide +kernel)) ggX1_median_X1_insertSorted
theorem dX1_median_0 : decode cX1_median 0 = .ok (.aload_n 0, 1) := by decide +kernel
theorem dX1_median_1 : decode cX1_median 1 = .ok (.iload_n 1, 1) := by decide +kernel
theorem dX1_median_2 : decode cX1_median 2 = .ok (.invokevirtual 56, 3) := by decide +kernel
theorem dX1_median_5 : decode cX1_median 5 = .ok (.istore_n 3, 1) := by decide +kernel
theorem dX1_median_6 : decode cX1_median 6 = .ok (.aload_n 0, 1) := by decide +kernel
theorem dX1_median_7 : decode cX1_median 7 = .ok (.iload_n 3, 1) := by decide +kernel
theorem dX1_median_8 : decode cX1_median 8 = .ok (.iload_n 2, 1) := by decide +kernel
theorem dX1_median_9 : decode cX1_median 9 = .ok (.invokevirtual 59, 3) := by decide +kernel
theorem dX1_median_12 : decode cX1_median 12 = .ok (.istore 4, 2) := by decide +kernel
theorem dX1_median_14 : decode cX1_median 14 = .ok (.iload_n 3, 1) := by decide +kernel
theorem dX1_median_15 : decode cX1_median 15 = .ok (.iload 4, 2) := by decide +kernel
theorem dX1_median_17 : decode cX1_median 17 = .ok (.if_icmp .ne 5, 3) := by decide +kernel
theorem dX1_median_20 : decode cX1_median 20 = .ok (.iconst 0, 1) := by decide +kernel
theorem dX1_median_21 : decode cX1_median 21 = .ok (.ireturn, 1) := by decide +kernel
theorem dX1_median_22 : decode cX1_median 22 = .ok (.iload_n 3, 1) := by decide +kernel
theorem dX1_median_23 : decode cX1_median 23 = .ok (.istore 5, 2) := by decide +kernel
theorem dX1_median_25 : decode cX1_median 25 = .ok (.iload 5, 2) := by decide +kernel
theorem dX1_median_27 : decode cX1_median 27 = .ok (.iload 4, 2) := by decide +kernel
theorem dX1_median_29 : decode cX1_median 29 = .ok (.if_icmp .ge 23, 3) := by decide +kernel
theorem dX1_median_32 : decode cX1_median 32 = .ok (.aload_n 0, 1) := by decide +kernel
theorem dX1_median_33 : decode cX1_median 33 = .ok (.iload 5, 2) := by decide +kernel
theorem dX1_median_35 : decode cX1_median 35 = .ok (.iload_n 3, 1) := by decide +kernel
theorem dX1_median_36 : decode cX1_median 36 = .ok (.isub, 1) := by decide +kernel
theorem dX1_median_37 : decode cX1_median 37 = .ok (.aload_n 0, 1) := by decide +kernel
theorem dX1_median_38 : decode cX1_median 38 = .ok (.iload 5, 2) := by decide +kernel
theorem dX1_median_40 : decode cX1_median 40 = .ok (.invokevirtual 65, 3) := by decide +kernel
theorem dX1_median_43 : decode cX1_median 43 = .ok (.invokevirtual 79, 3) := by decide +kernel
theorem dX1_median_46 : decode cX1_median 46 = .ok (.iinc 5 1, 3) := by decide +kernel
theorem dX1_median_49 : decode cX1_median 49 = .ok (.goto (-24), 3) := by decide +kernel
theorem dX1_median_52 : decode cX1_median 52 = .ok (.aload_n 0, 1) := by decide +kernel
theorem dX1_median_53 : decode cX1_median 53 = .ok (.getfield 33, 3) := by decide +kernel
theorem dX1_median_56 : decode cX1_median 56 = .ok (.iload 4, 2) := by decide +kernel
theorem dX1_median_58 : decode cX1_median 58 = .ok (.iload_n 3, 1) := by decide +kernel
theorem dX1_median_59 : decode cX1_median 59 = .ok (.isub, 1) := by decide +kernel
theorem dX1_median_60 : decode cX1_median 60 = .ok (.iconst 1, 1) := by decide +kernel
theorem dX1_median_61 : decode cX1_median 61 = .ok (.isub, 1) := by decide +kernel
theorem dX1_median_62 : decode cX1_median 62 = .ok (.iconst 2, 1) := by decide +kernel
theorem dX1_median_63 : decode cX1_median 63 = .ok (.idiv, 1) := by decide +kernel
theorem dX1_median_64 : decode cX1_median 64 = .ok (.iaload, 1) := by decide +kernel
theorem dX1_median_65 : decode cX1_median 65 = .ok (.ireturn, 1) := by decide +kernel
set_option maxRecDepth 20000 in
theorem ggX1_reach_X0_manyWhollyIn : GoodIn wsX1_reach wsX0_manyWhollyIn := goodIn_r _ [12, 13, 14, 15, 16, 11, 17, 18, 19, 20, 21, 22, 23, 24, 25, 26, 27, 28, 29, 30, 31, 32, 33, 34, 35, 36, 37, 38, 45, 46, 47, 48, 49, 50, 51] (by decide +kernel) (by decide +kernel)
set_option maxRecDepth 20000 in
theorem gX1_reach_X0_manyWhollyIn : GoodIn wsX1_reach (wsV RX1 82 RX0 yX0_manyWhollyIn wsX0_manyWhollyIn) := goodIn_app (goodIn_of _ (by decide +kernel)) ggX1_reach_X0_manyWhollyIn
set_option maxRecDepth 20000 in
theorem ggX1_reach_X0_startOf : GoodIn wsX1_reach wsX0_startOf := goodIn_r _ [17, 18, 19, 20, 21, 11, 22, 13, 23, 24, 25, 26, 27, 28, 45, 46, 47, 48, 49, 50, 51] (by decide +kernel) (by decide +kernel)
set_option maxRecDepth 20000 in
theorem gX1_reach_X0_startOf : GoodIn wsX1_reach (wsV RX1 48 RX0 yX0_startOf wsX0_startOf) := goodIn_app (goodIn_of _ (by decide +kernel)) ggX1_reach_X0_startOf
theorem dX1_reach_0 : decode cX1_reach 0 = .ok (.aload_n 0, 1) := by decide +kernel
theorem dX1_reach_1 : decode cX1_reach 1 = .ok (.getfield 23, 3) := by decide +kernel
theorem dX1_reach_4 : decode cX1_reach 4 = .ok (.iload_n 1, 1) := by decide +kernel
theorem dX1_reach_5 : decode cX1_reach 5 = .ok (.i2l, 1) := by decide +kernel
theorem dX1_reach_6 : decode cX1_reach 6 = .ok (.iload_n 2, 1) := by decide +kernel
theorem dX1_reach_7 : decode cX1_reach 7 = .ok (.i2l, 1) := by decide +kernel
theorem dX1_reach_8 : decode cX1_reach 8 = .ok (.invokevirtual 82, 3) := by decide +kernel
theorem dX1_reach_11 : decode cX1_reach 11 = .ok (.lstore_n 3, 1) := by decide +kernel
theorem dX1_reach_12 : decode cX1_reach 12 = .ok (.iload_n 2, 1) := by decide +kernel
theorem dX1_reach_13 : decode cX1_reach 13 = .ok (.i2l, 1) := by decide +kernel
theorem dX1_reach_14 : decode cX1_reach 14 = .ok (.aload_n 0, 1) := by decide +kernel
theorem dX1_reach_15 : decode cX1_reach 15 = .ok (.getfield 23, 3) := by decide +kernel
theorem dX1_reach_18 : decode cX1_reach 18 = .ok (.iconst 0, 1) := by decide +kernel
theorem dX1_reach_19 : decode cX1_reach 19 = .ok (.invokevirtual 48, 3) := by decide +kernel
theorem dX1_reach_22 : decode cX1_reach 22 = .ok (.i2l, 1) := by decide +kernel
theorem dX1_reach_23 : decode cX1_reach 23 = .ok (.lconst 1, 1) := by decide +kernel
theorem dX1_reach_24 : decode cX1_reach 24 = .ok (.lsub, 1) := by decide +kernel
theorem dX1_reach_25 : decode cX1_reach 25 = .ok (.invokestatic 86, 3) := by decide +kernel
theorem dX1_reach_28 : decode cX1_reach 28 = .ok (.lstore 5, 2) := by decide +kernel
theorem dX1_reach_30 : decode cX1_reach 30 = .ok (.lload_n 3, 1) := by decide +kernel
theorem dX1_reach_31 : decode cX1_reach 31 = .ok (.aload_n 0, 1) := by decide +kernel
theorem dX1_reach_32 : decode cX1_reach 32 = .ok (.getfield 27, 3) := by decide +kernel
theorem dX1_reach_35 : decode cX1_reach 35 = .ok (.iload_n 1, 1) := by decide +kernel
theorem dX1_reach_36 : decode cX1_reach 36 = .ok (.i2l, 1) := by decide +kernel
theorem dX1_reach_37 : decode cX1_reach 37 = .ok (.lload 5, 2) := by decide +kernel
theorem dX1_reach_39 : decode cX1_reach 39 = .ok (.invokevirtual 82, 3) := by decide +kernel
theorem dX1_reach_42 : decode cX1_reach 42 = .ok (.ladd, 1) := by decide +kernel
theorem dX1_reach_43 : decode cX1_reach 43 = .ok (.lstore_n 3, 1) := by decide +kernel
theorem dX1_reach_44 : decode cX1_reach 44 = .ok (.lload 5, 2) := by decide +kernel
theorem dX1_reach_46 : decode cX1_reach 46 = .ok (.aload_n 0, 1) := by decide +kernel
theorem dX1_reach_47 : decode cX1_reach 47 = .ok (.getfield 27, 3) := by decide +kernel
theorem dX1_reach_50 : decode cX1_reach 50 = .ok (.iconst 0, 1) := by decide +kernel
theorem dX1_reach_51 : decode cX1_reach 51 = .ok (.invokevirtual 48, 3) := by decide +kernel
theorem dX1_reach_54 : decode cX1_reach 54 = .ok (.i2l, 1) := by decide +kernel
theorem dX1_reach_55 : decode cX1_reach 55 = .ok (.lconst 1, 1) := by decide +kernel
theorem dX1_reach_56 : decode cX1_reach 56 = .ok (.lsub, 1) := by decide +kernel
theorem dX1_reach_57 : decode cX1_reach 57 = .ok (.invokestatic 86, 3) := by decide +kernel
theorem dX1_reach_60 : decode cX1_reach 60 = .ok (.lstore 5, 2) := by decide +kernel
theorem dX1_reach_62 : decode cX1_reach 62 = .ok (.lload_n 3, 1) := by decide +kernel
theorem dX1_reach_63 : decode cX1_reach 63 = .ok (.aload_n 0, 1) := by decide +kernel
theorem dX1_reach_64 : decode cX1_reach 64 = .ok (.getfield 30, 3) := by decide +kernel
theorem dX1_reach_67 : decode cX1_reach 67 = .ok (.iload_n 1, 1) := by decide +kernel
theorem dX1_reach_68 : decode cX1_reach 68 = .ok (.i2l, 1) := by decide +kernel
theorem dX1_reach_69 : decode cX1_reach 69 = .ok (.lload 5, 2) := by decide +kernel
theorem dX1_reach_71 : decode cX1_reach 71 = .ok (.invokevirtual 82, 3) := by decide +kernel
theorem dX1_reach_74 : decode cX1_reach 74 = .ok (.ladd, 1) := by decide +kernel
theorem dX1_reach_75 : decode cX1_reach 75 = .ok (.lreturn, 1) := by decide +kernel
set_option maxRecDepth 20000 in
theorem ggX1_sound_X0_agreesWith : GoodIn wsX1_sound wsX0_agreesWith := goodIn_r _ [8, 9, 10, 11, 12, 13, 7, 14, 15, 16, 17, 18, 19, 20, 21, 22, 23, 24, 25, 26, 27, 28, 29, 30, 31, 32, 33, 34, 35, 36, 37, 38, 39, 40, 41, 42, 43, 44, 45, 46, 47, 48, 49, 50, 51, 52, 53, 54, 55, 56, 57, 63, 64, 65, 66, 67, 68, 69] (by decide +kernel) (by decide +kernel)
set_option maxRecDepth 20000 in
theorem gX1_sound_X0_agreesWith : GoodIn wsX1_sound (wsV RX1 91 RX0 yX0_agreesWith wsX0_agreesWith) := goodIn_app (goodIn_of _ (by decide +kernel)) ggX1_sound_X0_agreesWith
theorem dX1_sound_0 : decode cX1_sound 0 = .ok (.aload_n 0, 1) := by decide +kernel
theorem dX1_sound_1 : decode cX1_sound 1 = .ok (.getfield 30, 3) := by decide +kernel
theorem dX1_sound_4 : decode cX1_sound 4 = .ok (.aload_n 0, 1) := by decide +kernel
theorem dX1_sound_5 : decode cX1_sound 5 = .ok (.getfield 27, 3) := by decide +kernel
theorem dX1_sound_8 : decode cX1_sound 8 = .ok (.invokevirtual 91, 3) := by decide +kernel
theorem dX1_sound_11 : decode cX1_sound 11 = .ok (.ifCond .eq 21, 3) := by decide +kernel
theorem dX1_sound_14 : decode cX1_sound 14 = .ok (.aload_n 0, 1) := by decide +kernel
theorem dX1_sound_15 : decode cX1_sound 15 = .ok (.getfield 27, 3) := by decide +kernel
theorem dX1_sound_18 : decode cX1_sound 18 = .ok (.aload_n 0, 1) := by decide +kernel
theorem dX1_sound_19 : decode cX1_sound 19 = .ok (.getfield 23, 3) := by decide +kernel
theorem dX1_sound_22 : decode cX1_sound 22 = .ok (.invokevirtual 91, 3) := by decide +kernel
theorem dX1_sound_25 : decode cX1_sound 25 = .ok (.ifCond .eq 7, 3) := by decide +kernel
theorem dX1_sound_28 : decode cX1_sound 28 = .ok (.iconst 1, 1) := by decide +kernel
theorem dX1_sound_29 : decode cX1_sound 29 = .ok (.goto 4, 3) := by decide +kernel
theorem dX1_sound_32 : decode cX1_sound 32 = .ok (.iconst 0, 1) := by decide +kernel
theorem dX1_sound_33 : decode cX1_sound 33 = .ok (.ireturn, 1) := by decide +kernel
theorem dX1_within_0 : decode cX1_within 0 = .ok (.iload_n 1, 1) := by decide +kernel
theorem dX1_within_1 : decode cX1_within 1 = .ok (.iload_n 2, 1) := by decide +kernel
theorem dX1_within_2 : decode cX1_within 2 = .ok (.iload_n 0, 1) := by decide +kernel
theorem dX1_within_3 : decode cX1_within 3 = .ok (.invokestatic 95, 3) := by decide +kernel
theorem dX1_within_6 : decode cX1_within 6 = .ok (.invokestatic 97, 3) := by decide +kernel
theorem dX1_within_9 : decode cX1_within 9 = .ok (.ireturn, 1) := by decide +kernel
theorem dX1_ringOf_0 : decode cX1_ringOf 0 = .ok (.iload_n 1, 1) := by decide +kernel
theorem dX1_ringOf_1 : decode cX1_ringOf 1 = .ok (.tableswitch 42 0 2 #[27, 32, 37], 27) := by decide +kernel
theorem dX1_ringOf_28 : decode cX1_ringOf 28 = .ok (.aload_n 0, 1) := by decide +kernel
theorem dX1_ringOf_29 : decode cX1_ringOf 29 = .ok (.getfield 23, 3) := by decide +kernel
theorem dX1_ringOf_32 : decode cX1_ringOf 32 = .ok (.areturn, 1) := by decide +kernel
theorem dX1_ringOf_33 : decode cX1_ringOf 33 = .ok (.aload_n 0, 1) := by decide +kernel
theorem dX1_ringOf_34 : decode cX1_ringOf 34 = .ok (.getfield 27, 3) := by decide +kernel
theorem dX1_ringOf_37 : decode cX1_ringOf 37 = .ok (.areturn, 1) := by decide +kernel
theorem dX1_ringOf_38 : decode cX1_ringOf 38 = .ok (.aload_n 0, 1) := by decide +kernel
theorem dX1_ringOf_39 : decode cX1_ringOf 39 = .ok (.getfield 30, 3) := by decide +kernel
theorem dX1_ringOf_42 : decode cX1_ringOf 42 = .ok (.areturn, 1) := by decide +kernel
theorem dX1_ringOf_43 : decode cX1_ringOf 43 = .ok (.aconst_null, 1) := by decide +kernel
theorem dX1_ringOf_44 : decode cX1_ringOf 44 = .ok (.areturn, 1) := by decide +kernel
set_option maxRecDepth 20000 in
theorem ggX1_firstIn_X0_firstFrom : GoodIn wsX1_firstIn wsX0_firstFrom := goodIn_r _ [6, 7, 8, 9, 10, 5, 11, 12, 13, 14, 15, 16, 17, 18, 19, 20, 21, 22, 28, 29, 30, 31, 32, 33, 34] (by decide +kernel) (by decide +kernel)
set_option maxRecDepth 20000 in
theorem gX1_firstIn_X0_firstFrom : GoodIn wsX1_firstIn (wsV RX1 68 RX0 yX0_firstFrom wsX0_firstFrom) := goodIn_app (goodIn_of _ (by decide +kernel)) ggX1_firstIn_X0_firstFrom
theorem dX1_firstIn_0 : decode cX1_firstIn 0 = .ok (.aload_n 0, 1) := by decide +kernel
theorem dX1_firstIn_1 : decode cX1_firstIn 1 = .ok (.getfield 23, 3) := by decide +kernel
theorem dX1_firstIn_4 : decode cX1_firstIn 4 = .ok (.iconst 0, 1) := by decide +kernel
theorem dX1_firstIn_5 : decode cX1_firstIn 5 = .ok (.iload_n 1, 1) := by decide +kernel
theorem dX1_firstIn_6 : decode cX1_firstIn 6 = .ok (.i2l, 1) := by decide +kernel
theorem dX1_firstIn_7 : decode cX1_firstIn 7 = .ok (.invokevirtual 68, 3) := by decide +kernel
theorem dX1_firstIn_10 : decode cX1_firstIn 10 = .ok (.ireturn, 1) := by decide +kernel
set_option maxRecDepth 20000 in
theorem ggX1_endOf_X0_firstFrom : GoodIn wsX1_endOf wsX0_firstFrom := goodIn_r _ [6, 7, 8, 9, 10, 5, 11, 12, 13, 14, 15, 16, 17, 18, 19, 20, 21, 22, 28, 29, 30, 31, 32, 33, 34] (by decide +kernel) (by decide +kernel)
set_option maxRecDepth 20000 in
theorem gX1_endOf_X0_firstFrom : GoodIn wsX1_endOf (wsV RX1 68 RX0 yX0_firstFrom wsX0_firstFrom) := goodIn_app (goodIn_of _ (by decide +kernel)) ggX1_endOf_X0_firstFrom
theorem dX1_endOf_0 : decode cX1_endOf 0 = .ok (.aload_n 0, 1) := by decide +kernel
theorem dX1_endOf_1 : decode cX1_endOf 1 = .ok (.getfield 23, 3) := by decide +kernel
theorem dX1_endOf_4 : decode cX1_endOf 4 = .ok (.iload_n 1, 1) := by decide +kernel
theorem dX1_endOf_5 : decode cX1_endOf 5 = .ok (.iload_n 2, 1) := by decide +kernel
theorem dX1_endOf_6 : decode cX1_endOf 6 = .ok (.i2l, 1) := by decide +kernel
theorem dX1_endOf_7 : decode cX1_endOf 7 = .ok (.lconst 1, 1) := by decide +kernel
theorem dX1_endOf_8 : decode cX1_endOf 8 = .ok (.ladd, 1) := by decide +kernel
theorem dX1_endOf_9 : decode cX1_endOf 9 = .ok (.invokevirtual 68, 3) := by decide +kernel
theorem dX1_endOf_12 : decode cX1_endOf 12 = .ok (.ireturn, 1) := by decide +kernel
set_option maxRecDepth 20000 in
theorem ggX1_valueOf_X0_figureOf : GoodIn wsX1_valueOf wsX0_figureOf := goodIn_r _ [6, 7, 8, 9, 10, 5, 11, 12, 13, 14, 15, 16, 17, 18, 24, 25, 26, 27, 28, 29, 30] (by decide +kernel) (by decide +kernel)
set_option maxRecDepth 20000 in
theorem gX1_valueOf_X0_figureOf : GoodIn wsX1_valueOf (wsV RX1 52 RX0 yX0_figureOf wsX0_figureOf) := goodIn_app (goodIn_of _ (by decide +kernel)) ggX1_valueOf_X0_figureOf
theorem dX1_valueOf_0 : decode cX1_valueOf 0 = .ok (.aload_n 0, 1) := by decide +kernel
theorem dX1_valueOf_1 : decode cX1_valueOf 1 = .ok (.getfield 23, 3) := by decide +kernel
theorem dX1_valueOf_4 : decode cX1_valueOf 4 = .ok (.iload_n 1, 1) := by decide +kernel
theorem dX1_valueOf_5 : decode cX1_valueOf 5 = .ok (.iconst 2, 1) := by decide +kernel
theorem dX1_valueOf_6 : decode cX1_valueOf 6 = .ok (.invokevirtual 52, 3) := by decide +kernel
theorem dX1_valueOf_9 : decode cX1_valueOf 9 = .ok (.ireturn, 1) := by decide +kernel
set_option maxRecDepth 20000 in
theorem ggX1_riseTo_X1_valueOf : GoodIn wsX1_riseTo wsX1_valueOf := goodIn_r _ [5, 6, 7, 8, 9, 10, 11, 12, 13, 14, 15, 16, 17, 18, 19, 20, 21, 22, 23, 24, 25, 26, 27, 28, 29, 30, 31, 32, 33, 34, 35] (by decide +kernel) (by decide +kernel)
set_option maxRecDepth 20000 in
theorem gX1_riseTo_X1_valueOf : GoodIn wsX1_riseTo (wsV RX1 65 RX1 yX1_valueOf wsX1_valueOf) := goodIn_app (goodIn_of _ (by decide +kernel)) ggX1_riseTo_X1_valueOf
theorem dX1_riseTo_0 : decode cX1_riseTo 0 = .ok (.aload_n 0, 1) := by decide +kernel
theorem dX1_riseTo_1 : decode cX1_riseTo 1 = .ok (.iload_n 1, 1) := by decide +kernel
theorem dX1_riseTo_2 : decode cX1_riseTo 2 = .ok (.invokevirtual 65, 3) := by decide +kernel
theorem dX1_riseTo_5 : decode cX1_riseTo 5 = .ok (.i2l, 1) := by decide +kernel
theorem dX1_riseTo_6 : decode cX1_riseTo 6 = .ok (.aload_n 0, 1) := by decide +kernel
theorem dX1_riseTo_7 : decode cX1_riseTo 7 = .ok (.iload_n 1, 1) := by decide +kernel
theorem dX1_riseTo_8 : decode cX1_riseTo 8 = .ok (.iconst 1, 1) := by decide +kernel
theorem dX1_riseTo_9 : decode cX1_riseTo 9 = .ok (.isub, 1) := by decide +kernel
theorem dX1_riseTo_10 : decode cX1_riseTo 10 = .ok (.invokevirtual 65, 3) := by decide +kernel
theorem dX1_riseTo_13 : decode cX1_riseTo 13 = .ok (.i2l, 1) := by decide +kernel
theorem dX1_riseTo_14 : decode cX1_riseTo 14 = .ok (.lsub, 1) := by decide +kernel
theorem dX1_riseTo_15 : decode cX1_riseTo 15 = .ok (.lreturn, 1) := by decide +kernel
set_option maxRecDepth 20000 in
theorem ggX1_onLine_X0_startOf : GoodIn wsX1_onLine wsX0_startOf := goodIn_r _ [6, 7, 8, 9, 10, 5, 11, 12, 13, 14, 15, 16, 17, 18, 38, 39, 40, 41, 42, 43, 44] (by decide +kernel) (by decide +kernel)
set_option maxRecDepth 20000 in
theorem gX1_onLine_X0_startOf : GoodIn wsX1_onLine (wsV RX1 48 RX0 yX0_startOf wsX0_startOf) := goodIn_app (goodIn_of _ (by decide +kernel)) ggX1_onLine_X0_startOf
set_option maxRecDepth 20000 in
theorem ggX1_onLine_X1_valueOf : GoodIn wsX1_onLine wsX1_valueOf := goodIn_r _ [23, 1, 24, 25, 26, 5, 27, 28, 8, 9, 10, 11, 12, 13, 14, 15, 16, 17, 18, 33, 34, 35, 36, 37, 38, 39, 40, 41, 42, 43, 44] (by decide +kernel) (by decide +kernel)
set_option maxRecDepth 20000 in
theorem gX1_onLine_X1_valueOf : GoodIn wsX1_onLine (wsV RX1 65 RX1 yX1_valueOf wsX1_valueOf) := goodIn_app (goodIn_of _ (by decide +kernel)) ggX1_onLine_X1_valueOf
set_option maxRecDepth 20000 in
theorem ggX1_onLine_X1_riseTo : GoodIn wsX1_onLine wsX1_riseTo := goodIn_r _ [32, 19, 20, 21, 22, 23, 1, 24, 25, 26, 5, 27, 28, 8, 9, 10, 11, 12, 13, 14, 15, 16, 17, 18, 33, 34, 35, 36, 37, 38, 39, 40, 41, 42, 43, 44] (by decide +kernel) (by decide +kernel)
set_option maxRecDepth 20000 in
theorem gX1_onLine_X1_riseTo : GoodIn wsX1_onLine (wsV RX1 75 RX1 yX1_riseTo wsX1_riseTo) := goodIn_app (goodIn_of _ (by decide +kernel)) ggX1_onLine_X1_riseTo
theorem dX1_onLine_0 : decode cX1_onLine 0 = .ok (.aload_n 0, 1) := by decide +kernel
theorem dX1_onLine_1 : decode cX1_onLine 1 = .ok (.getfield 23, 3) := by decide +kernel
theorem dX1_onLine_4 : decode cX1_onLine 4 = .ok (.iload_n 1, 1) := by decide +kernel
theorem dX1_onLine_5 : decode cX1_onLine 5 = .ok (.invokevirtual 48, 3) := by decide +kernel
theorem dX1_onLine_8 : decode cX1_onLine 8 = .ok (.istore_n 3, 1) := by decide +kernel
theorem dX1_onLine_9 : decode cX1_onLine 9 = .ok (.aload_n 0, 1) := by decide +kernel
theorem dX1_onLine_10 : decode cX1_onLine 10 = .ok (.getfield 23, 3) := by decide +kernel
theorem dX1_onLine_13 : decode cX1_onLine 13 = .ok (.iload_n 1, 1) := by decide +kernel
theorem dX1_onLine_14 : decode cX1_onLine 14 = .ok (.iconst 1, 1) := by decide +kernel
theorem dX1_onLine_15 : decode cX1_onLine 15 = .ok (.iadd, 1) := by decide +kernel
theorem dX1_onLine_16 : decode cX1_onLine 16 = .ok (.invokevirtual 48, 3) := by decide +kernel
theorem dX1_onLine_19 : decode cX1_onLine 19 = .ok (.i2l, 1) := by decide +kernel
theorem dX1_onLine_20 : decode cX1_onLine 20 = .ok (.iload_n 3, 1) := by decide +kernel
theorem dX1_onLine_21 : decode cX1_onLine 21 = .ok (.i2l, 1) := by decide +kernel
theorem dX1_onLine_22 : decode cX1_onLine 22 = .ok (.lsub, 1) := by decide +kernel
theorem dX1_onLine_23 : decode cX1_onLine 23 = .ok (.lstore 4, 2) := by decide +kernel
theorem dX1_onLine_25 : decode cX1_onLine 25 = .ok (.lload 4, 2) := by decide +kernel
theorem dX1_onLine_27 : decode cX1_onLine 27 = .ok (.lconst 0, 1) := by decide +kernel
theorem dX1_onLine_28 : decode cX1_onLine 28 = .ok (.lcmp, 1) := by decide +kernel
theorem dX1_onLine_29 : decode cX1_onLine 29 = .ok (.ifCond .gt 9, 3) := by decide +kernel
theorem dX1_onLine_32 : decode cX1_onLine 32 = .ok (.aload_n 0, 1) := by decide +kernel
theorem dX1_onLine_33 : decode cX1_onLine 33 = .ok (.iload_n 1, 1) := by decide +kernel
theorem dX1_onLine_34 : decode cX1_onLine 34 = .ok (.invokevirtual 65, 3) := by decide +kernel
theorem dX1_onLine_37 : decode cX1_onLine 37 = .ok (.ireturn, 1) := by decide +kernel
theorem dX1_onLine_38 : decode cX1_onLine 38 = .ok (.aload_n 0, 1) := by decide +kernel
theorem dX1_onLine_39 : decode cX1_onLine 39 = .ok (.iload_n 1, 1) := by decide +kernel
theorem dX1_onLine_40 : decode cX1_onLine 40 = .ok (.iconst 1, 1) := by decide +kernel
theorem dX1_onLine_41 : decode cX1_onLine 41 = .ok (.iadd, 1) := by decide +kernel
theorem dX1_onLine_42 : decode cX1_onLine 42 = .ok (.invokevirtual 75, 3) := by decide +kernel
theorem dX1_onLine_45 : decode cX1_onLine 45 = .ok (.iload_n 2, 1) := by decide +kernel
theorem dX1_onLine_46 : decode cX1_onLine 46 = .ok (.i2l, 1) := by decide +kernel
theorem dX1_onLine_47 : decode cX1_onLine 47 = .ok (.iload_n 3, 1) := by decide +kernel
theorem dX1_onLine_48 : decode cX1_onLine 48 = .ok (.i2l, 1) := by decide +kernel
theorem dX1_onLine_49 : decode cX1_onLine 49 = .ok (.lsub, 1) := by decide +kernel
theorem dX1_onLine_50 : decode cX1_onLine 50 = .ok (.lmul, 1) := by decide +kernel
theorem dX1_onLine_51 : decode cX1_onLine 51 = .ok (.lload 4, 2) := by decide +kernel
theorem dX1_onLine_53 : decode cX1_onLine 53 = .ok (.ldiv, 1) := by decide +kernel
theorem dX1_onLine_54 : decode cX1_onLine 54 = .ok (.lstore 6, 2) := by decide +kernel
theorem dX1_onLine_56 : decode cX1_onLine 56 = .ok (.aload_n 0, 1) := by decide +kernel
theorem dX1_onLine_57 : decode cX1_onLine 57 = .ok (.iload_n 1, 1) := by decide +kernel
theorem dX1_onLine_58 : decode cX1_onLine 58 = .ok (.invokevirtual 65, 3) := by decide +kernel
theorem dX1_onLine_61 : decode cX1_onLine 61 = .ok (.i2l, 1) := by decide +kernel
theorem dX1_onLine_62 : decode cX1_onLine 62 = .ok (.lload 6, 2) := by decide +kernel
theorem dX1_onLine_64 : decode cX1_onLine 64 = .ok (.ladd, 1) := by decide +kernel
theorem dX1_onLine_65 : decode cX1_onLine 65 = .ok (.l2i, 1) := by decide +kernel
theorem dX1_onLine_66 : decode cX1_onLine 66 = .ok (.ireturn, 1) := by decide +kernel
theorem dX1_insertSorted_0 : decode cX1_insertSorted 0 = .ok (.iload_n 1, 1) := by decide +kernel
theorem dX1_insertSorted_1 : decode cX1_insertSorted 1 = .ok (.istore_n 3, 1) := by decide +kernel
theorem dX1_insertSorted_2 : decode cX1_insertSorted 2 = .ok (.iload_n 3, 1) := by decide +kernel
theorem dX1_insertSorted_3 : decode cX1_insertSorted 3 = .ok (.ifCond .le 35, 3) := by decide +kernel
theorem dX1_insertSorted_6 : decode cX1_insertSorted 6 = .ok (.aload_n 0, 1) := by decide +kernel
theorem dX1_insertSorted_7 : decode cX1_insertSorted 7 = .ok (.getfield 33, 3) := by decide +kernel
theorem dX1_insertSorted_10 : decode cX1_insertSorted 10 = .ok (.iload_n 3, 1) := by decide +kernel
theorem dX1_insertSorted_11 : decode cX1_insertSorted 11 = .ok (.iconst 1, 1) := by decide +kernel
theorem dX1_insertSorted_12 : decode cX1_insertSorted 12 = .ok (.isub, 1) := by decide +kernel
theorem dX1_insertSorted_13 : decode cX1_insertSorted 13 = .ok (.iaload, 1) := by decide +kernel
theorem dX1_insertSorted_14 : decode cX1_insertSorted 14 = .ok (.iload_n 2, 1) := by decide +kernel
theorem dX1_insertSorted_15 : decode cX1_insertSorted 15 = .ok (.if_icmp .le 23, 3) := by decide +kernel
theorem dX1_insertSorted_18 : decode cX1_insertSorted 18 = .ok (.aload_n 0, 1) := by decide +kernel
theorem dX1_insertSorted_19 : decode cX1_insertSorted 19 = .ok (.getfield 33, 3) := by decide +kernel
theorem dX1_insertSorted_22 : decode cX1_insertSorted 22 = .ok (.iload_n 3, 1) := by decide +kernel
theorem dX1_insertSorted_23 : decode cX1_insertSorted 23 = .ok (.aload_n 0, 1) := by decide +kernel
theorem dX1_insertSorted_24 : decode cX1_insertSorted 24 = .ok (.getfield 33, 3) := by decide +kernel
theorem dX1_insertSorted_27 : decode cX1_insertSorted 27 = .ok (.iload_n 3, 1) := by decide +kernel
theorem dX1_insertSorted_28 : decode cX1_insertSorted 28 = .ok (.iconst 1, 1) := by decide +kernel
theorem dX1_insertSorted_29 : decode cX1_insertSorted 29 = .ok (.isub, 1) := by decide +kernel
theorem dX1_insertSorted_30 : decode cX1_insertSorted 30 = .ok (.iaload, 1) := by decide +kernel
theorem dX1_insertSorted_31 : decode cX1_insertSorted 31 = .ok (.iastore, 1) := by decide +kernel
theorem dX1_insertSorted_32 : decode cX1_insertSorted 32 = .ok (.iinc 3 (-1), 3) := by decide +kernel
theorem dX1_insertSorted_35 : decode cX1_insertSorted 35 = .ok (.goto (-33), 3) := by decide +kernel
theorem dX1_insertSorted_38 : decode cX1_insertSorted 38 = .ok (.aload_n 0, 1) := by decide +kernel
theorem dX1_insertSorted_39 : decode cX1_insertSorted 39 = .ok (.getfield 33, 3) := by decide +kernel
theorem dX1_insertSorted_42 : decode cX1_insertSorted 42 = .ok (.iload_n 3, 1) := by decide +kernel
theorem dX1_insertSorted_43 : decode cX1_insertSorted 43 = .ok (.iload_n 2, 1) := by decide +kernel
theorem dX1_insertSorted_44 : decode cX1_insertSorted 44 = .ok (.iastore, 1) := by decide +kernel
theorem dX1_insertSorted_45 : decode cX1_insertSorted 45 = .ok (.return_, 1) := by decide +kernel
end
section
set_option maxRecDepth 20000 in
theorem ggX2_init_X2_within : GoodIn wsX2_init wsX2_within := goodIn_r _ [14] (by decide +kernel) (by decide +kernel)
set_option maxRecDepth 20000 in
theorem gX2_init_X2_within : GoodIn wsX2_init (va_wsS RX2 23 yX2_within wsX2_within) := goodIn_app (goodIn_of _ (by decide +kernel)) ggX2_init_X2_within
theorem dX2_init_0 : decode cX2_init 0 = .ok (.aload_n 0, 1) := by decide +kernel
theorem dX2_init_1 : decode cX2_init 1 = .ok (.invokespecial 1, 3) := by decide +kernel
theorem dX2_init_4 : decode cX2_init 4 = .ok (.aload_n 0, 1) := by decide +kernel
theorem dX2_init_5 : decode cX2_init 5 = .ok (.iconst 3, 1) := by decide +kernel
theorem dX2_init_6 : decode cX2_init 6 = .ok (.newarray .int, 2) := by decide +kernel
theorem dX2_init_8 : decode cX2_init 8 = .ok (.putfield 7, 3) := by decide +kernel
theorem dX2_init_11 : decode cX2_init 11 = .ok (.aload_n 0, 1) := by decide +kernel
theorem dX2_init_12 : decode cX2_init 12 = .ok (.iconst 3, 1) := by decide +kernel
theorem dX2_init_13 : decode cX2_init 13 = .ok (.newarray .long, 2) := by decide +kernel
theorem dX2_init_15 : decode cX2_init 15 = .ok (.putfield 13, 3) := by decide +kernel
theorem dX2_init_18 : decode cX2_init 18 = .ok (.aload_n 0, 1) := by decide +kernel
theorem dX2_init_19 : decode cX2_init 19 = .ok (.sipush 1024, 3) := by decide +kernel
theorem dX2_init_22 : decode cX2_init 22 = .ok (.newarray .int, 2) := by decide +kernel
theorem dX2_init_24 : decode cX2_init 24 = .ok (.putfield 17, 3) := by decide +kernel
theorem dX2_init_27 : decode cX2_init 27 = .ok (.aload_n 0, 1) := by decide +kernel
theorem dX2_init_28 : decode cX2_init 28 = .ok (.sipush 1024, 3) := by decide +kernel
theorem dX2_init_31 : decode cX2_init 31 = .ok (.newarray .int, 2) := by decide +kernel
theorem dX2_init_33 : decode cX2_init 33 = .ok (.putfield 20, 3) := by decide +kernel
theorem dX2_init_36 : decode cX2_init 36 = .ok (.aload_n 0, 1) := by decide +kernel
theorem dX2_init_37 : decode cX2_init 37 = .ok (.getfield 7, 3) := by decide +kernel
theorem dX2_init_40 : decode cX2_init 40 = .ok (.iconst 0, 1) := by decide +kernel
theorem dX2_init_41 : decode cX2_init 41 = .ok (.iload_n 1, 1) := by decide +kernel
theorem dX2_init_42 : decode cX2_init 42 = .ok (.iconst 1, 1) := by decide +kernel
theorem dX2_init_43 : decode cX2_init 43 = .ok (.bipush 60, 2) := by decide +kernel
theorem dX2_init_45 : decode cX2_init 45 = .ok (.invokestatic 23, 3) := by decide +kernel
theorem dX2_init_48 : decode cX2_init 48 = .ok (.iastore, 1) := by decide +kernel
theorem dX2_init_49 : decode cX2_init 49 = .ok (.aload_n 0, 1) := by decide +kernel
theorem dX2_init_50 : decode cX2_init 50 = .ok (.getfield 7, 3) := by decide +kernel
theorem dX2_init_53 : decode cX2_init 53 = .ok (.iconst 1, 1) := by decide +kernel
theorem dX2_init_54 : decode cX2_init 54 = .ok (.iload_n 2, 1) := by decide +kernel
theorem dX2_init_55 : decode cX2_init 55 = .ok (.iconst 1, 1) := by decide +kernel
theorem dX2_init_56 : decode cX2_init 56 = .ok (.bipush 60, 2) := by decide +kernel
theorem dX2_init_58 : decode cX2_init 58 = .ok (.invokestatic 23, 3) := by decide +kernel
theorem dX2_init_61 : decode cX2_init 61 = .ok (.iastore, 1) := by decide +kernel
theorem dX2_init_62 : decode cX2_init 62 = .ok (.aload_n 0, 1) := by decide +kernel
theorem dX2_init_63 : decode cX2_init 63 = .ok (.getfield 7, 3) := by decide +kernel
theorem dX2_init_66 : decode cX2_init 66 = .ok (.iconst 2, 1) := by decide +kernel
theorem dX2_init_67 : decode cX2_init 67 = .ok (.iload_n 3, 1) := by decide +kernel
theorem dX2_init_68 : decode cX2_init 68 = .ok (.iconst 1, 1) := by decide +kernel
theorem dX2_init_69 : decode cX2_init 69 = .ok (.bipush 60, 2) := by decide +kernel
theorem dX2_init_71 : decode cX2_init 71 = .ok (.invokestatic 23, 3) := by decide +kernel
theorem dX2_init_74 : decode cX2_init 74 = .ok (.iastore, 1) := by decide +kernel
theorem dX2_init_75 : decode cX2_init 75 = .ok (.aload_n 0, 1) := by decide +kernel
theorem dX2_init_76 : decode cX2_init 76 = .ok (.getfield 13, 3) := by decide +kernel
theorem dX2_init_79 : decode cX2_init 79 = .ok (.iconst 0, 1) := by decide +kernel
theorem dX2_init_80 : decode cX2_init 80 = .ok (.lconst 1, 1) := by decide +kernel
theorem dX2_init_81 : decode cX2_init 81 = .ok (.lastore, 1) := by decide +kernel
theorem dX2_init_82 : decode cX2_init 82 = .ok (.aload_n 0, 1) := by decide +kernel
theorem dX2_init_83 : decode cX2_init 83 = .ok (.getfield 13, 3) := by decide +kernel
theorem dX2_init_86 : decode cX2_init 86 = .ok (.iconst 1, 1) := by decide +kernel
theorem dX2_init_87 : decode cX2_init 87 = .ok (.iload 4, 2) := by decide +kernel
theorem dX2_init_89 : decode cX2_init 89 = .ok (.iconst 1, 1) := by decide +kernel
theorem dX2_init_90 : decode cX2_init 90 = .ok (.ldc 27, 2) := by decide +kernel
theorem dX2_init_92 : decode cX2_init 92 = .ok (.invokestatic 23, 3) := by decide +kernel
theorem dX2_init_95 : decode cX2_init 95 = .ok (.i2l, 1) := by decide +kernel
theorem dX2_init_96 : decode cX2_init 96 = .ok (.lastore, 1) := by decide +kernel
theorem dX2_init_97 : decode cX2_init 97 = .ok (.aload_n 0, 1) := by decide +kernel
theorem dX2_init_98 : decode cX2_init 98 = .ok (.getfield 13, 3) := by decide +kernel
theorem dX2_init_101 : decode cX2_init 101 = .ok (.iconst 2, 1) := by decide +kernel
theorem dX2_init_102 : decode cX2_init 102 = .ok (.aload_n 0, 1) := by decide +kernel
theorem dX2_init_103 : decode cX2_init 103 = .ok (.getfield 13, 3) := by decide +kernel
theorem dX2_init_106 : decode cX2_init 106 = .ok (.iconst 1, 1) := by decide +kernel
theorem dX2_init_107 : decode cX2_init 107 = .ok (.laload, 1) := by decide +kernel
theorem dX2_init_108 : decode cX2_init 108 = .ok (.iload 5, 2) := by decide +kernel
theorem dX2_init_110 : decode cX2_init 110 = .ok (.iconst 2, 1) := by decide +kernel
theorem dX2_init_111 : decode cX2_init 111 = .ok (.sipush 1000, 3) := by decide +kernel
theorem dX2_init_114 : decode cX2_init 114 = .ok (.invokestatic 23, 3) := by decide +kernel
theorem dX2_init_117 : decode cX2_init 117 = .ok (.i2l, 1) := by decide +kernel
theorem dX2_init_118 : decode cX2_init 118 = .ok (.lmul, 1) := by decide +kernel
theorem dX2_init_119 : decode cX2_init 119 = .ok (.lastore, 1) := by decide +kernel
theorem dX2_init_120 : decode cX2_init 120 = .ok (.return_, 1) := by decide +kernel
theorem dX2_within_0 : decode cX2_within 0 = .ok (.iload_n 0, 1) := by decide +kernel
theorem dX2_within_1 : decode cX2_within 1 = .ok (.iload_n 1, 1) := by decide +kernel
theorem dX2_within_2 : decode cX2_within 2 = .ok (.if_icmp .ge 7, 3) := by decide +kernel
theorem dX2_within_5 : decode cX2_within 5 = .ok (.iload_n 1, 1) := by decide +kernel
theorem dX2_within_6 : decode cX2_within 6 = .ok (.goto 13, 3) := by decide +kernel
theorem dX2_within_9 : decode cX2_within 9 = .ok (.iload_n 0, 1) := by decide +kernel
theorem dX2_within_10 : decode cX2_within 10 = .ok (.iload_n 2, 1) := by decide +kernel
theorem dX2_within_11 : decode cX2_within 11 = .ok (.if_icmp .le 7, 3) := by decide +kernel
theorem dX2_within_14 : decode cX2_within 14 = .ok (.iload_n 2, 1) := by decide +kernel
theorem dX2_within_15 : decode cX2_within 15 = .ok (.goto 4, 3) := by decide +kernel
theorem dX2_within_18 : decode cX2_within 18 = .ok (.iload_n 0, 1) := by decide +kernel
theorem dX2_within_19 : decode cX2_within 19 = .ok (.ireturn, 1) := by decide +kernel
theorem dX2_append_0 : decode cX2_append 0 = .ok (.iload_n 1, 1) := by decide +kernel
theorem dX2_append_1 : decode cX2_append 1 = .ok (.ifCond .lt 25, 3) := by decide +kernel
theorem dX2_append_4 : decode cX2_append 4 = .ok (.aload_n 0, 1) := by decide +kernel
theorem dX2_append_5 : decode cX2_append 5 = .ok (.getfield 32, 3) := by decide +kernel
theorem dX2_append_8 : decode cX2_append 8 = .ok (.ifCond .le 20, 3) := by decide +kernel
theorem dX2_append_11 : decode cX2_append 11 = .ok (.iload_n 1, 1) := by decide +kernel
theorem dX2_append_12 : decode cX2_append 12 = .ok (.aload_n 0, 1) := by decide +kernel
theorem dX2_append_13 : decode cX2_append 13 = .ok (.getfield 17, 3) := by decide +kernel
theorem dX2_append_16 : decode cX2_append 16 = .ok (.aload_n 0, 1) := by decide +kernel
theorem dX2_append_17 : decode cX2_append 17 = .ok (.getfield 32, 3) := by decide +kernel
theorem dX2_append_20 : decode cX2_append 20 = .ok (.iconst 1, 1) := by decide +kernel
theorem dX2_append_21 : decode cX2_append 21 = .ok (.isub, 1) := by decide +kernel
theorem dX2_append_22 : decode cX2_append 22 = .ok (.iaload, 1) := by decide +kernel
theorem dX2_append_23 : decode cX2_append 23 = .ok (.if_icmp .gt 5, 3) := by decide +kernel
theorem dX2_append_26 : decode cX2_append 26 = .ok (.iconst 1, 1) := by decide +kernel
theorem dX2_append_27 : decode cX2_append 27 = .ok (.ireturn, 1) := by decide +kernel
theorem dX2_append_28 : decode cX2_append 28 = .ok (.aload_n 0, 1) := by decide +kernel
theorem dX2_append_29 : decode cX2_append 29 = .ok (.getfield 17, 3) := by decide +kernel
theorem dX2_append_32 : decode cX2_append 32 = .ok (.aload_n 0, 1) := by decide +kernel
theorem dX2_append_33 : decode cX2_append 33 = .ok (.getfield 32, 3) := by decide +kernel
theorem dX2_append_36 : decode cX2_append 36 = .ok (.iload_n 1, 1) := by decide +kernel
theorem dX2_append_37 : decode cX2_append 37 = .ok (.iastore, 1) := by decide +kernel
theorem dX2_append_38 : decode cX2_append 38 = .ok (.aload_n 0, 1) := by decide +kernel
theorem dX2_append_39 : decode cX2_append 39 = .ok (.getfield 20, 3) := by decide +kernel
theorem dX2_append_42 : decode cX2_append 42 = .ok (.aload_n 0, 1) := by decide +kernel
theorem dX2_append_43 : decode cX2_append 43 = .ok (.getfield 32, 3) := by decide +kernel
theorem dX2_append_46 : decode cX2_append 46 = .ok (.iload_n 2, 1) := by decide +kernel
theorem dX2_append_47 : decode cX2_append 47 = .ok (.iastore, 1) := by decide +kernel
theorem dX2_append_48 : decode cX2_append 48 = .ok (.aload_n 0, 1) := by decide +kernel
theorem dX2_append_49 : decode cX2_append 49 = .ok (.dup, 1) := by decide +kernel
theorem dX2_append_50 : decode cX2_append 50 = .ok (.getfield 32, 3) := by decide +kernel
theorem dX2_append_53 : decode cX2_append 53 = .ok (.iconst 1, 1) := by decide +kernel
theorem dX2_append_54 : decode cX2_append 54 = .ok (.iadd, 1) := by decide +kernel
theorem dX2_append_55 : decode cX2_append 55 = .ok (.putfield 32, 3) := by decide +kernel
theorem dX2_append_58 : decode cX2_append 58 = .ok (.iconst 0, 1) := by decide +kernel
theorem dX2_append_59 : decode cX2_append 59 = .ok (.ireturn, 1) := by decide +kernel
theorem dX2_isSame_0 : decode cX2_isSame 0 = .ok (.aload_n 0, 1) := by decide +kernel
theorem dX2_isSame_1 : decode cX2_isSame 1 = .ok (.getfield 17, 3) := by decide +kernel
theorem dX2_isSame_4 : decode cX2_isSame 4 = .ok (.iload_n 2, 1) := by decide +kernel
theorem dX2_isSame_5 : decode cX2_isSame 5 = .ok (.iaload, 1) := by decide +kernel
theorem dX2_isSame_6 : decode cX2_isSame 6 = .ok (.i2l, 1) := by decide +kernel
theorem dX2_isSame_7 : decode cX2_isSame 7 = .ok (.aload_n 0, 1) := by decide +kernel
theorem dX2_isSame_8 : decode cX2_isSame 8 = .ok (.getfield 13, 3) := by decide +kernel
theorem dX2_isSame_11 : decode cX2_isSame 11 = .ok (.iload_n 1, 1) := by decide +kernel
theorem dX2_isSame_12 : decode cX2_isSame 12 = .ok (.laload, 1) := by decide +kernel
theorem dX2_isSame_13 : decode cX2_isSame 13 = .ok (.ldiv, 1) := by decide +kernel
theorem dX2_isSame_14 : decode cX2_isSame 14 = .ok (.aload_n 0, 1) := by decide +kernel
theorem dX2_isSame_15 : decode cX2_isSame 15 = .ok (.getfield 17, 3) := by decide +kernel
theorem dX2_isSame_18 : decode cX2_isSame 18 = .ok (.iload_n 3, 1) := by decide +kernel
theorem dX2_isSame_19 : decode cX2_isSame 19 = .ok (.iaload, 1) := by decide +kernel
theorem dX2_isSame_20 : decode cX2_isSame 20 = .ok (.i2l, 1) := by decide +kernel
theorem dX2_isSame_21 : decode cX2_isSame 21 = .ok (.aload_n 0, 1) := by decide +kernel
theorem dX2_isSame_22 : decode cX2_isSame 22 = .ok (.getfield 13, 3) := by decide +kernel
theorem dX2_isSame_25 : decode cX2_isSame 25 = .ok (.iload_n 1, 1) := by decide +kernel
theorem dX2_isSame_26 : decode cX2_isSame 26 = .ok (.laload, 1) := by decide +kernel
theorem dX2_isSame_27 : decode cX2_isSame 27 = .ok (.ldiv, 1) := by decide +kernel
theorem dX2_isSame_28 : decode cX2_isSame 28 = .ok (.lcmp, 1) := by decide +kernel
theorem dX2_isSame_29 : decode cX2_isSame 29 = .ok (.ifCond .ne 7, 3) := by decide +kernel
theorem dX2_isSame_32 : decode cX2_isSame 32 = .ok (.iconst 1, 1) := by decide +kernel
theorem dX2_isSame_33 : decode cX2_isSame 33 = .ok (.goto 4, 3) := by decide +kernel
theorem dX2_isSame_36 : decode cX2_isSame 36 = .ok (.iconst 0, 1) := by decide +kernel
theorem dX2_isSame_37 : decode cX2_isSame 37 = .ok (.ireturn, 1) := by decide +kernel
set_option maxRecDepth 20000 in
theorem ggX2_all_X2_isSame : GoodIn wsX2_all wsX2_isSame := goodIn_r _ [6, 7, 8, 9, 10, 11, 12, 13, 14] (by decide +kernel) (by decide +kernel)
set_option maxRecDepth 20000 in
theorem gX2_all_X2_isSame : GoodIn wsX2_all (wsV RX2 35 RX2 yX2_isSame wsX2_isSame) := goodIn_app (goodIn_of _ (by decide +kernel)) ggX2_all_X2_isSame
theorem dX2_all_0 : decode cX2_all 0 = .ok (.iconst 0, 1) := by decide +kernel
theorem dX2_all_1 : decode cX2_all 1 = .ok (.istore_n 2, 1) := by decide +kernel
theorem dX2_all_2 : decode cX2_all 2 = .ok (.iconst 0, 1) := by decide +kernel
theorem dX2_all_3 : decode cX2_all 3 = .ok (.istore_n 3, 1) := by decide +kernel
theorem dX2_all_4 : decode cX2_all 4 = .ok (.iload_n 3, 1) := by decide +kernel
theorem dX2_all_5 : decode cX2_all 5 = .ok (.aload_n 0, 1) := by decide +kernel
theorem dX2_all_6 : decode cX2_all 6 = .ok (.getfield 32, 3) := by decide +kernel
theorem dX2_all_9 : decode cX2_all 9 = .ok (.if_icmp .ge 33, 3) := by decide +kernel
theorem dX2_all_12 : decode cX2_all 12 = .ok (.iload_n 3, 1) := by decide +kernel
theorem dX2_all_13 : decode cX2_all 13 = .ok (.ifCond .eq 15, 3) := by decide +kernel
theorem dX2_all_16 : decode cX2_all 16 = .ok (.aload_n 0, 1) := by decide +kernel
theorem dX2_all_17 : decode cX2_all 17 = .ok (.iload_n 1, 1) := by decide +kernel
theorem dX2_all_18 : decode cX2_all 18 = .ok (.iload_n 3, 1) := by decide +kernel
theorem dX2_all_19 : decode cX2_all 19 = .ok (.iconst 1, 1) := by decide +kernel
theorem dX2_all_20 : decode cX2_all 20 = .ok (.isub, 1) := by decide +kernel
theorem dX2_all_21 : decode cX2_all 21 = .ok (.iload_n 3, 1) := by decide +kernel
theorem dX2_all_22 : decode cX2_all 22 = .ok (.invokevirtual 35, 3) := by decide +kernel
theorem dX2_all_25 : decode cX2_all 25 = .ok (.ifCond .ne 9, 3) := by decide +kernel
theorem dX2_all_28 : decode cX2_all 28 = .ok (.iload_n 2, 1) := by decide +kernel
theorem dX2_all_29 : decode cX2_all 29 = .ok (.iconst 1, 1) := by decide +kernel
theorem dX2_all_30 : decode cX2_all 30 = .ok (.iadd, 1) := by decide +kernel
theorem dX2_all_31 : decode cX2_all 31 = .ok (.goto 4, 3) := by decide +kernel
theorem dX2_all_34 : decode cX2_all 34 = .ok (.iload_n 2, 1) := by decide +kernel
theorem dX2_all_35 : decode cX2_all 35 = .ok (.istore_n 2, 1) := by decide +kernel
theorem dX2_all_36 : decode cX2_all 36 = .ok (.iinc 3 1, 3) := by decide +kernel
theorem dX2_all_39 : decode cX2_all 39 = .ok (.goto (-35), 3) := by decide +kernel
theorem dX2_all_42 : decode cX2_all 42 = .ok (.iload_n 2, 1) := by decide +kernel
theorem dX2_all_43 : decode cX2_all 43 = .ok (.ireturn, 1) := by decide +kernel
set_option maxRecDepth 20000 in
theorem ggX2_kept_X2_all : GoodIn wsX2_kept wsX2_all := goodIn_r _ [7, 1, 8, 9, 10, 6, 11, 12, 13, 14, 15, 16, 17, 18, 19] (by decide +kernel) (by decide +kernel)
set_option maxRecDepth 20000 in
theorem gX2_kept_X2_all : GoodIn wsX2_kept (wsV RX2 39 RX2 yX2_all wsX2_all) := goodIn_app (goodIn_of _ (by decide +kernel)) ggX2_kept_X2_all
theorem dX2_kept_0 : decode cX2_kept 0 = .ok (.iload_n 1, 1) := by decide +kernel
theorem dX2_kept_1 : decode cX2_kept 1 = .ok (.ifCond .ne 10, 3) := by decide +kernel
theorem dX2_kept_4 : decode cX2_kept 4 = .ok (.aload_n 0, 1) := by decide +kernel
theorem dX2_kept_5 : decode cX2_kept 5 = .ok (.getfield 32, 3) := by decide +kernel
theorem dX2_kept_8 : decode cX2_kept 8 = .ok (.goto 8, 3) := by decide +kernel
theorem dX2_kept_11 : decode cX2_kept 11 = .ok (.aload_n 0, 1) := by decide +kernel
theorem dX2_kept_12 : decode cX2_kept 12 = .ok (.iload_n 1, 1) := by decide +kernel
theorem dX2_kept_13 : decode cX2_kept 13 = .ok (.invokevirtual 39, 3) := by decide +kernel
theorem dX2_kept_16 : decode cX2_kept 16 = .ok (.istore_n 2, 1) := by decide +kernel
theorem dX2_kept_17 : decode cX2_kept 17 = .ok (.iload_n 2, 1) := by decide +kernel
theorem dX2_kept_18 : decode cX2_kept 18 = .ok (.aload_n 0, 1) := by decide +kernel
theorem dX2_kept_19 : decode cX2_kept 19 = .ok (.getfield 7, 3) := by decide +kernel
theorem dX2_kept_22 : decode cX2_kept 22 = .ok (.iload_n 1, 1) := by decide +kernel
theorem dX2_kept_23 : decode cX2_kept 23 = .ok (.iaload, 1) := by decide +kernel
theorem dX2_kept_24 : decode cX2_kept 24 = .ok (.if_icmp .ge 7, 3) := by decide +kernel
theorem dX2_kept_27 : decode cX2_kept 27 = .ok (.iload_n 2, 1) := by decide +kernel
theorem dX2_kept_28 : decode cX2_kept 28 = .ok (.goto 9, 3) := by decide +kernel
theorem dX2_kept_31 : decode cX2_kept 31 = .ok (.aload_n 0, 1) := by decide +kernel
theorem dX2_kept_32 : decode cX2_kept 32 = .ok (.getfield 7, 3) := by decide +kernel
theorem dX2_kept_35 : decode cX2_kept 35 = .ok (.iload_n 1, 1) := by decide +kernel
theorem dX2_kept_36 : decode cX2_kept 36 = .ok (.iaload, 1) := by decide +kernel
theorem dX2_kept_37 : decode cX2_kept 37 = .ok (.ireturn, 1) := by decide +kernel
set_option maxRecDepth 20000 in
theorem ggX2_first_X2_all : GoodIn wsX2_first wsX2_all := goodIn_r _ [5, 6, 7, 8, 9, 4, 10, 11, 12, 18, 19, 20, 21, 22, 23] (by decide +kernel) (by decide +kernel)
set_option maxRecDepth 20000 in
theorem gX2_first_X2_all : GoodIn wsX2_first (wsV RX2 39 RX2 yX2_all wsX2_all) := goodIn_app (goodIn_of _ (by decide +kernel)) ggX2_first_X2_all
set_option maxRecDepth 20000 in
theorem ggX2_first_X2_kept : GoodIn wsX2_first wsX2_kept := goodIn_r _ [16, 6, 17, 1, 2, 3, 4, 5, 7, 8, 9, 10, 11, 12, 18, 19, 20, 21, 22, 23] (by decide +kernel) (by decide +kernel)
set_option maxRecDepth 20000 in
theorem gX2_first_X2_kept : GoodIn wsX2_first (wsV RX2 43 RX2 yX2_kept wsX2_kept) := goodIn_app (goodIn_of _ (by decide +kernel)) ggX2_first_X2_kept
set_option maxRecDepth 20000 in
theorem ggX2_first_X2_isSame : GoodIn wsX2_first wsX2_isSame := goodIn_r _ [10, 11, 12, 18, 19, 20, 21, 22, 23] (by decide +kernel) (by decide +kernel)
set_option maxRecDepth 20000 in
theorem gX2_first_X2_isSame : GoodIn wsX2_first (wsV RX2 35 RX2 yX2_isSame wsX2_isSame) := goodIn_app (goodIn_of _ (by decide +kernel)) ggX2_first_X2_isSame
theorem dX2_first_0 : decode cX2_first 0 = .ok (.aload_n 0, 1) := by decide +kernel
theorem dX2_first_1 : decode cX2_first 1 = .ok (.iload_n 1, 1) := by decide +kernel
theorem dX2_first_2 : decode cX2_first 2 = .ok (.invokevirtual 39, 3) := by decide +kernel
theorem dX2_first_5 : decode cX2_first 5 = .ok (.aload_n 0, 1) := by decide +kernel
theorem dX2_first_6 : decode cX2_first 6 = .ok (.iload_n 1, 1) := by decide +kernel
theorem dX2_first_7 : decode cX2_first 7 = .ok (.invokevirtual 43, 3) := by decide +kernel
theorem dX2_first_10 : decode cX2_first 10 = .ok (.isub, 1) := by decide +kernel
theorem dX2_first_11 : decode cX2_first 11 = .ok (.iload_n 2, 1) := by decide +kernel
theorem dX2_first_12 : decode cX2_first 12 = .ok (.iadd, 1) := by decide +kernel
theorem dX2_first_13 : decode cX2_first 13 = .ok (.istore_n 3, 1) := by decide +kernel
theorem dX2_first_14 : decode cX2_first 14 = .ok (.iconst (-1), 1) := by decide +kernel
theorem dX2_first_15 : decode cX2_first 15 = .ok (.istore 4, 2) := by decide +kernel
theorem dX2_first_17 : decode cX2_first 17 = .ok (.iconst (-1), 1) := by decide +kernel
theorem dX2_first_18 : decode cX2_first 18 = .ok (.istore 5, 2) := by decide +kernel
theorem dX2_first_20 : decode cX2_first 20 = .ok (.iload 4, 2) := by decide +kernel
theorem dX2_first_22 : decode cX2_first 22 = .ok (.iload_n 3, 1) := by decide +kernel
theorem dX2_first_23 : decode cX2_first 23 = .ok (.if_icmp .ge 39, 3) := by decide +kernel
theorem dX2_first_26 : decode cX2_first 26 = .ok (.iinc 5 1, 3) := by decide +kernel
theorem dX2_first_29 : decode cX2_first 29 = .ok (.iload 5, 2) := by decide +kernel
theorem dX2_first_31 : decode cX2_first 31 = .ok (.ifCond .eq 17, 3) := by decide +kernel
theorem dX2_first_34 : decode cX2_first 34 = .ok (.aload_n 0, 1) := by decide +kernel
theorem dX2_first_35 : decode cX2_first 35 = .ok (.iload_n 1, 1) := by decide +kernel
theorem dX2_first_36 : decode cX2_first 36 = .ok (.iload 5, 2) := by decide +kernel
theorem dX2_first_38 : decode cX2_first 38 = .ok (.iconst 1, 1) := by decide +kernel
theorem dX2_first_39 : decode cX2_first 39 = .ok (.isub, 1) := by decide +kernel
theorem dX2_first_40 : decode cX2_first 40 = .ok (.iload 5, 2) := by decide +kernel
theorem dX2_first_42 : decode cX2_first 42 = .ok (.invokevirtual 35, 3) := by decide +kernel
theorem dX2_first_45 : decode cX2_first 45 = .ok (.ifCond .ne 10, 3) := by decide +kernel
theorem dX2_first_48 : decode cX2_first 48 = .ok (.iload 4, 2) := by decide +kernel
theorem dX2_first_50 : decode cX2_first 50 = .ok (.iconst 1, 1) := by decide +kernel
theorem dX2_first_51 : decode cX2_first 51 = .ok (.iadd, 1) := by decide +kernel
theorem dX2_first_52 : decode cX2_first 52 = .ok (.goto 5, 3) := by decide +kernel
theorem dX2_first_55 : decode cX2_first 55 = .ok (.iload 4, 2) := by decide +kernel
theorem dX2_first_57 : decode cX2_first 57 = .ok (.istore 4, 2) := by decide +kernel
theorem dX2_first_59 : decode cX2_first 59 = .ok (.goto (-39), 3) := by decide +kernel
theorem dX2_first_62 : decode cX2_first 62 = .ok (.iload 5, 2) := by decide +kernel
theorem dX2_first_64 : decode cX2_first 64 = .ok (.ireturn, 1) := by decide +kernel
set_option maxRecDepth 20000 in
theorem ggX2_isEntry_X2_kept : GoodIn wsX2_isEntry wsX2_kept := goodIn_r _ [5, 6, 7, 8, 9, 10, 4, 11, 12, 13, 14, 15, 16, 17, 18, 19, 20, 21, 22, 23] (by decide +kernel) (by decide +kernel)
set_option maxRecDepth 20000 in
theorem gX2_isEntry_X2_kept : GoodIn wsX2_isEntry (wsV RX2 43 RX2 yX2_kept wsX2_kept) := goodIn_app (goodIn_of _ (by decide +kernel)) ggX2_isEntry_X2_kept
theorem dX2_isEntry_0 : decode cX2_isEntry 0 = .ok (.iload_n 1, 1) := by decide +kernel
theorem dX2_isEntry_1 : decode cX2_isEntry 1 = .ok (.ifCond .lt 25, 3) := by decide +kernel
theorem dX2_isEntry_4 : decode cX2_isEntry 4 = .ok (.iload_n 1, 1) := by decide +kernel
theorem dX2_isEntry_5 : decode cX2_isEntry 5 = .ok (.iconst 2, 1) := by decide +kernel
theorem dX2_isEntry_6 : decode cX2_isEntry 6 = .ok (.if_icmp .gt 20, 3) := by decide +kernel
theorem dX2_isEntry_9 : decode cX2_isEntry 9 = .ok (.iload_n 2, 1) := by decide +kernel
theorem dX2_isEntry_10 : decode cX2_isEntry 10 = .ok (.ifCond .lt 16, 3) := by decide +kernel
theorem dX2_isEntry_13 : decode cX2_isEntry 13 = .ok (.iload_n 2, 1) := by decide +kernel
theorem dX2_isEntry_14 : decode cX2_isEntry 14 = .ok (.aload_n 0, 1) := by decide +kernel
theorem dX2_isEntry_15 : decode cX2_isEntry 15 = .ok (.iload_n 1, 1) := by decide +kernel
theorem dX2_isEntry_16 : decode cX2_isEntry 16 = .ok (.invokevirtual 43, 3) := by decide +kernel
theorem dX2_isEntry_19 : decode cX2_isEntry 19 = .ok (.if_icmp .ge 7, 3) := by decide +kernel
theorem dX2_isEntry_22 : decode cX2_isEntry 22 = .ok (.iconst 1, 1) := by decide +kernel
theorem dX2_isEntry_23 : decode cX2_isEntry 23 = .ok (.goto 4, 3) := by decide +kernel
theorem dX2_isEntry_26 : decode cX2_isEntry 26 = .ok (.iconst 0, 1) := by decide +kernel
theorem dX2_isEntry_27 : decode cX2_isEntry 27 = .ok (.ireturn, 1) := by decide +kernel
set_option maxRecDepth 20000 in
theorem ggX2_count_X2_kept : GoodIn wsX2_count wsX2_kept := goodIn_r _ [5, 6, 7, 8, 9, 10, 4, 11, 12, 13, 14, 15, 16, 17, 18, 19, 20, 21, 22, 23] (by decide +kernel) (by decide +kernel)
set_option maxRecDepth 20000 in
theorem gX2_count_X2_kept : GoodIn wsX2_count (wsV RX2 43 RX2 yX2_kept wsX2_kept) := goodIn_app (goodIn_of _ (by decide +kernel)) ggX2_count_X2_kept
theorem dX2_count_0 : decode cX2_count 0 = .ok (.iload_n 1, 1) := by decide +kernel
theorem dX2_count_1 : decode cX2_count 1 = .ok (.ifCond .lt 16, 3) := by decide +kernel
theorem dX2_count_4 : decode cX2_count 4 = .ok (.iload_n 1, 1) := by decide +kernel
theorem dX2_count_5 : decode cX2_count 5 = .ok (.iconst 2, 1) := by decide +kernel
theorem dX2_count_6 : decode cX2_count 6 = .ok (.if_icmp .gt 11, 3) := by decide +kernel
theorem dX2_count_9 : decode cX2_count 9 = .ok (.aload_n 0, 1) := by decide +kernel
theorem dX2_count_10 : decode cX2_count 10 = .ok (.iload_n 1, 1) := by decide +kernel
theorem dX2_count_11 : decode cX2_count 11 = .ok (.invokevirtual 43, 3) := by decide +kernel
theorem dX2_count_14 : decode cX2_count 14 = .ok (.goto 4, 3) := by decide +kernel
theorem dX2_count_17 : decode cX2_count 17 = .ok (.iconst (-1), 1) := by decide +kernel
theorem dX2_count_18 : decode cX2_count 18 = .ok (.ireturn, 1) := by decide +kernel
set_option maxRecDepth 20000 in
theorem ggX2_begin_X2_first : GoodIn wsX2_begin wsX2_first := goodIn_r _ [7, 8, 9, 10, 6, 11, 12, 13, 14, 15, 16, 1, 2, 17, 18, 19, 20, 21, 22, 23, 24, 25, 26, 27] (by decide +kernel) (by decide +kernel)
set_option maxRecDepth 20000 in
theorem gX2_begin_X2_first : GoodIn wsX2_begin (wsV RX2 46 RX2 yX2_first wsX2_first) := goodIn_app (goodIn_of _ (by decide +kernel)) ggX2_begin_X2_first
theorem dX2_begin_0 : decode cX2_begin 0 = .ok (.aload_n 0, 1) := by decide +kernel
theorem dX2_begin_1 : decode cX2_begin 1 = .ok (.getfield 17, 3) := by decide +kernel
theorem dX2_begin_4 : decode cX2_begin 4 = .ok (.aload_n 0, 1) := by decide +kernel
theorem dX2_begin_5 : decode cX2_begin 5 = .ok (.iload_n 1, 1) := by decide +kernel
theorem dX2_begin_6 : decode cX2_begin 6 = .ok (.iload_n 2, 1) := by decide +kernel
theorem dX2_begin_7 : decode cX2_begin 7 = .ok (.invokevirtual 46, 3) := by decide +kernel
theorem dX2_begin_10 : decode cX2_begin 10 = .ok (.iaload, 1) := by decide +kernel
theorem dX2_begin_11 : decode cX2_begin 11 = .ok (.i2l, 1) := by decide +kernel
theorem dX2_begin_12 : decode cX2_begin 12 = .ok (.lstore_n 3, 1) := by decide +kernel
theorem dX2_begin_13 : decode cX2_begin 13 = .ok (.lload_n 3, 1) := by decide +kernel
theorem dX2_begin_14 : decode cX2_begin 14 = .ok (.aload_n 0, 1) := by decide +kernel
theorem dX2_begin_15 : decode cX2_begin 15 = .ok (.getfield 13, 3) := by decide +kernel
theorem dX2_begin_18 : decode cX2_begin 18 = .ok (.iload_n 1, 1) := by decide +kernel
theorem dX2_begin_19 : decode cX2_begin 19 = .ok (.laload, 1) := by decide +kernel
theorem dX2_begin_20 : decode cX2_begin 20 = .ok (.ldiv, 1) := by decide +kernel
theorem dX2_begin_21 : decode cX2_begin 21 = .ok (.aload_n 0, 1) := by decide +kernel
theorem dX2_begin_22 : decode cX2_begin 22 = .ok (.getfield 13, 3) := by decide +kernel
theorem dX2_begin_25 : decode cX2_begin 25 = .ok (.iload_n 1, 1) := by decide +kernel
theorem dX2_begin_26 : decode cX2_begin 26 = .ok (.laload, 1) := by decide +kernel
theorem dX2_begin_27 : decode cX2_begin 27 = .ok (.lmul, 1) := by decide +kernel
theorem dX2_begin_28 : decode cX2_begin 28 = .ok (.lreturn, 1) := by decide +kernel
set_option maxRecDepth 20000 in
theorem ggX2_start_X2_isEntry : GoodIn wsX2_start wsX2_isEntry := goodIn_r _ [5, 6, 7, 8, 4, 9, 10, 11, 12, 13, 14, 15, 16, 17, 18, 19, 20, 21, 30, 31, 32, 33, 34, 35] (by decide +kernel) (by decide +kernel)
set_option maxRecDepth 20000 in
theorem gX2_start_X2_isEntry : GoodIn wsX2_start (wsV RX2 50 RX2 yX2_isEntry wsX2_isEntry) := goodIn_app (goodIn_of _ (by decide +kernel)) ggX2_start_X2_isEntry
set_option maxRecDepth 20000 in
theorem ggX2_start_X2_begin : GoodIn wsX2_start wsX2_begin := goodIn_r _ [25, 20, 21, 26, 27, 28, 4, 29, 12, 13, 14, 15, 10, 16, 17, 18, 19, 6, 7, 8, 9, 11, 30, 31, 32, 33, 34, 35] (by decide +kernel) (by decide +kernel)
set_option maxRecDepth 20000 in
theorem gX2_start_X2_begin : GoodIn wsX2_start (wsV RX2 54 RX2 yX2_begin wsX2_begin) := goodIn_app (goodIn_of _ (by decide +kernel)) ggX2_start_X2_begin
theorem dX2_start_0 : decode cX2_start 0 = .ok (.aload_n 0, 1) := by decide +kernel
theorem dX2_start_1 : decode cX2_start 1 = .ok (.iload_n 1, 1) := by decide +kernel
theorem dX2_start_2 : decode cX2_start 2 = .ok (.iload_n 2, 1) := by decide +kernel
theorem dX2_start_3 : decode cX2_start 3 = .ok (.invokevirtual 50, 3) := by decide +kernel
theorem dX2_start_6 : decode cX2_start 6 = .ok (.ifCond .eq 13, 3) := by decide +kernel
theorem dX2_start_9 : decode cX2_start 9 = .ok (.aload_n 0, 1) := by decide +kernel
theorem dX2_start_10 : decode cX2_start 10 = .ok (.iload_n 1, 1) := by decide +kernel
theorem dX2_start_11 : decode cX2_start 11 = .ok (.iload_n 2, 1) := by decide +kernel
theorem dX2_start_12 : decode cX2_start 12 = .ok (.invokevirtual 54, 3) := by decide +kernel
theorem dX2_start_15 : decode cX2_start 15 = .ok (.l2i, 1) := by decide +kernel
theorem dX2_start_16 : decode cX2_start 16 = .ok (.goto 4, 3) := by decide +kernel
theorem dX2_start_19 : decode cX2_start 19 = .ok (.iconst (-1), 1) := by decide +kernel
theorem dX2_start_20 : decode cX2_start 20 = .ok (.ireturn, 1) := by decide +kernel
set_option maxRecDepth 20000 in
theorem ggX2_figure_X2_isEntry : GoodIn wsX2_figure wsX2_isEntry := goodIn_r _ [7, 8, 9, 10, 6, 11, 2, 12, 13, 14, 15, 16, 17, 18, 19, 20, 21, 22, 27, 28, 29, 30, 31, 32] (by decide +kernel) (by decide +kernel)
set_option maxRecDepth 20000 in
theorem gX2_figure_X2_isEntry : GoodIn wsX2_figure (wsV RX2 50 RX2 yX2_isEntry wsX2_isEntry) := goodIn_app (goodIn_of _ (by decide +kernel)) ggX2_figure_X2_isEntry
set_option maxRecDepth 20000 in
theorem ggX2_figure_X2_first : GoodIn wsX2_figure wsX2_first := goodIn_r _ [26, 13, 14, 15, 6, 16, 2, 17, 18, 19, 20, 21, 22, 8, 9, 10, 11, 12, 27, 28, 29, 30, 31, 32] (by decide +kernel) (by decide +kernel)
set_option maxRecDepth 20000 in
theorem gX2_figure_X2_first : GoodIn wsX2_figure (wsV RX2 46 RX2 yX2_first wsX2_first) := goodIn_app (goodIn_of _ (by decide +kernel)) ggX2_figure_X2_first
set_option maxRecDepth 20000 in
theorem ggX2_figure_X2_isSame : GoodIn wsX2_figure wsX2_isSame := goodIn_r _ [20, 21, 22, 27, 28, 29, 30, 31, 32] (by decide +kernel) (by decide +kernel)
set_option maxRecDepth 20000 in
theorem gX2_figure_X2_isSame : GoodIn wsX2_figure (wsV RX2 35 RX2 yX2_isSame wsX2_isSame) := goodIn_app (goodIn_of _ (by decide +kernel)) ggX2_figure_X2_isSame
theorem dX2_figure_0 : decode cX2_figure 0 = .ok (.aload_n 0, 1) := by decide +kernel
theorem dX2_figure_1 : decode cX2_figure 1 = .ok (.iload_n 1, 1) := by decide +kernel
theorem dX2_figure_2 : decode cX2_figure 2 = .ok (.iload_n 2, 1) := by decide +kernel
theorem dX2_figure_3 : decode cX2_figure 3 = .ok (.invokevirtual 50, 3) := by decide +kernel
theorem dX2_figure_6 : decode cX2_figure 6 = .ok (.ifCond .ne 5, 3) := by decide +kernel
theorem dX2_figure_9 : decode cX2_figure 9 = .ok (.iconst 0, 1) := by decide +kernel
theorem dX2_figure_10 : decode cX2_figure 10 = .ok (.ireturn, 1) := by decide +kernel
theorem dX2_figure_11 : decode cX2_figure 11 = .ok (.aload_n 0, 1) := by decide +kernel
theorem dX2_figure_12 : decode cX2_figure 12 = .ok (.iload_n 1, 1) := by decide +kernel
theorem dX2_figure_13 : decode cX2_figure 13 = .ok (.iload_n 2, 1) := by decide +kernel
theorem dX2_figure_14 : decode cX2_figure 14 = .ok (.invokevirtual 46, 3) := by decide +kernel
theorem dX2_figure_17 : decode cX2_figure 17 = .ok (.istore 4, 2) := by decide +kernel
theorem dX2_figure_19 : decode cX2_figure 19 = .ok (.aload_n 0, 1) := by decide +kernel
theorem dX2_figure_20 : decode cX2_figure 20 = .ok (.getfield 20, 3) := by decide +kernel
theorem dX2_figure_23 : decode cX2_figure 23 = .ok (.iload 4, 2) := by decide +kernel
theorem dX2_figure_25 : decode cX2_figure 25 = .ok (.iaload, 1) := by decide +kernel
theorem dX2_figure_26 : decode cX2_figure 26 = .ok (.istore 5, 2) := by decide +kernel
theorem dX2_figure_28 : decode cX2_figure 28 = .ok (.aload_n 0, 1) := by decide +kernel
theorem dX2_figure_29 : decode cX2_figure 29 = .ok (.getfield 20, 3) := by decide +kernel
theorem dX2_figure_32 : decode cX2_figure 32 = .ok (.iload 4, 2) := by decide +kernel
theorem dX2_figure_34 : decode cX2_figure 34 = .ok (.iaload, 1) := by decide +kernel
theorem dX2_figure_35 : decode cX2_figure 35 = .ok (.istore 6, 2) := by decide +kernel
theorem dX2_figure_37 : decode cX2_figure 37 = .ok (.iconst 0, 1) := by decide +kernel
theorem dX2_figure_38 : decode cX2_figure 38 = .ok (.istore 7, 2) := by decide +kernel
theorem dX2_figure_40 : decode cX2_figure 40 = .ok (.iconst 0, 1) := by decide +kernel
theorem dX2_figure_41 : decode cX2_figure 41 = .ok (.istore 8, 2) := by decide +kernel
theorem dX2_figure_43 : decode cX2_figure 43 = .ok (.iload 4, 2) := by decide +kernel
theorem dX2_figure_45 : decode cX2_figure 45 = .ok (.istore 9, 2) := by decide +kernel
theorem dX2_figure_47 : decode cX2_figure 47 = .ok (.iload 9, 2) := by decide +kernel
theorem dX2_figure_49 : decode cX2_figure 49 = .ok (.aload_n 0, 1) := by decide +kernel
theorem dX2_figure_50 : decode cX2_figure 50 = .ok (.getfield 32, 3) := by decide +kernel
theorem dX2_figure_53 : decode cX2_figure 53 = .ok (.if_icmp .ge 88, 3) := by decide +kernel
theorem dX2_figure_56 : decode cX2_figure 56 = .ok (.aload_n 0, 1) := by decide +kernel
theorem dX2_figure_57 : decode cX2_figure 57 = .ok (.iload_n 1, 1) := by decide +kernel
theorem dX2_figure_58 : decode cX2_figure 58 = .ok (.iload 4, 2) := by decide +kernel
theorem dX2_figure_60 : decode cX2_figure 60 = .ok (.iload 9, 2) := by decide +kernel
theorem dX2_figure_62 : decode cX2_figure 62 = .ok (.invokevirtual 35, 3) := by decide +kernel
theorem dX2_figure_65 : decode cX2_figure 65 = .ok (.ifCond .eq 76, 3) := by decide +kernel
theorem dX2_figure_68 : decode cX2_figure 68 = .ok (.aload_n 0, 1) := by decide +kernel
theorem dX2_figure_69 : decode cX2_figure 69 = .ok (.getfield 20, 3) := by decide +kernel
theorem dX2_figure_72 : decode cX2_figure 72 = .ok (.iload 9, 2) := by decide +kernel
theorem dX2_figure_74 : decode cX2_figure 74 = .ok (.iaload, 1) := by decide +kernel
theorem dX2_figure_75 : decode cX2_figure 75 = .ok (.iload 5, 2) := by decide +kernel
theorem dX2_figure_77 : decode cX2_figure 77 = .ok (.if_icmp .ge 13, 3) := by decide +kernel
theorem dX2_figure_80 : decode cX2_figure 80 = .ok (.aload_n 0, 1) := by decide +kernel
theorem dX2_figure_81 : decode cX2_figure 81 = .ok (.getfield 20, 3) := by decide +kernel
theorem dX2_figure_84 : decode cX2_figure 84 = .ok (.iload 9, 2) := by decide +kernel
theorem dX2_figure_86 : decode cX2_figure 86 = .ok (.iaload, 1) := by decide +kernel
theorem dX2_figure_87 : decode cX2_figure 87 = .ok (.goto 5, 3) := by decide +kernel
theorem dX2_figure_90 : decode cX2_figure 90 = .ok (.iload 5, 2) := by decide +kernel
theorem dX2_figure_92 : decode cX2_figure 92 = .ok (.istore 5, 2) := by decide +kernel
theorem dX2_figure_94 : decode cX2_figure 94 = .ok (.aload_n 0, 1) := by decide +kernel
theorem dX2_figure_95 : decode cX2_figure 95 = .ok (.getfield 20, 3) := by decide +kernel
theorem dX2_figure_98 : decode cX2_figure 98 = .ok (.iload 9, 2) := by decide +kernel
theorem dX2_figure_100 : decode cX2_figure 100 = .ok (.iaload, 1) := by decide +kernel
theorem dX2_figure_101 : decode cX2_figure 101 = .ok (.iload 6, 2) := by decide +kernel
theorem dX2_figure_103 : decode cX2_figure 103 = .ok (.if_icmp .le 13, 3) := by decide +kernel
theorem dX2_figure_106 : decode cX2_figure 106 = .ok (.aload_n 0, 1) := by decide +kernel
theorem dX2_figure_107 : decode cX2_figure 107 = .ok (.getfield 20, 3) := by decide +kernel
theorem dX2_figure_110 : decode cX2_figure 110 = .ok (.iload 9, 2) := by decide +kernel
theorem dX2_figure_112 : decode cX2_figure 112 = .ok (.iaload, 1) := by decide +kernel
theorem dX2_figure_113 : decode cX2_figure 113 = .ok (.goto 5, 3) := by decide +kernel
theorem dX2_figure_116 : decode cX2_figure 116 = .ok (.iload 6, 2) := by decide +kernel
theorem dX2_figure_118 : decode cX2_figure 118 = .ok (.istore 6, 2) := by decide +kernel
theorem dX2_figure_120 : decode cX2_figure 120 = .ok (.iload 7, 2) := by decide +kernel
theorem dX2_figure_122 : decode cX2_figure 122 = .ok (.aload_n 0, 1) := by decide +kernel
theorem dX2_figure_123 : decode cX2_figure 123 = .ok (.getfield 20, 3) := by decide +kernel
theorem dX2_figure_126 : decode cX2_figure 126 = .ok (.iload 9, 2) := by decide +kernel
theorem dX2_figure_128 : decode cX2_figure 128 = .ok (.iaload, 1) := by decide +kernel
theorem dX2_figure_129 : decode cX2_figure 129 = .ok (.iadd, 1) := by decide +kernel
theorem dX2_figure_130 : decode cX2_figure 130 = .ok (.istore 7, 2) := by decide +kernel
theorem dX2_figure_132 : decode cX2_figure 132 = .ok (.iinc 8 1, 3) := by decide +kernel
theorem dX2_figure_135 : decode cX2_figure 135 = .ok (.iinc 9 1, 3) := by decide +kernel
theorem dX2_figure_138 : decode cX2_figure 138 = .ok (.goto (-91), 3) := by decide +kernel
theorem dX2_figure_141 : decode cX2_figure 141 = .ok (.iload_n 3, 1) := by decide +kernel
theorem dX2_figure_142 : decode cX2_figure 142 = .ok (.ifCond .ne 8, 3) := by decide +kernel
theorem dX2_figure_145 : decode cX2_figure 145 = .ok (.iload 5, 2) := by decide +kernel
theorem dX2_figure_147 : decode cX2_figure 147 = .ok (.goto 34, 3) := by decide +kernel
theorem dX2_figure_150 : decode cX2_figure 150 = .ok (.iload_n 3, 1) := by decide +kernel
theorem dX2_figure_151 : decode cX2_figure 151 = .ok (.iconst 1, 1) := by decide +kernel
theorem dX2_figure_152 : decode cX2_figure 152 = .ok (.if_icmp .ne 8, 3) := by decide +kernel
theorem dX2_figure_155 : decode cX2_figure 155 = .ok (.iload 6, 2) := by decide +kernel
theorem dX2_figure_157 : decode cX2_figure 157 = .ok (.goto 24, 3) := by decide +kernel
theorem dX2_figure_160 : decode cX2_figure 160 = .ok (.iload_n 3, 1) := by decide +kernel
theorem dX2_figure_161 : decode cX2_figure 161 = .ok (.iconst 2, 1) := by decide +kernel
theorem dX2_figure_162 : decode cX2_figure 162 = .ok (.if_icmp .ne 8, 3) := by decide +kernel
theorem dX2_figure_165 : decode cX2_figure 165 = .ok (.iload 7, 2) := by decide +kernel
theorem dX2_figure_167 : decode cX2_figure 167 = .ok (.goto 14, 3) := by decide +kernel
theorem dX2_figure_170 : decode cX2_figure 170 = .ok (.iload_n 3, 1) := by decide +kernel
theorem dX2_figure_171 : decode cX2_figure 171 = .ok (.iconst 3, 1) := by decide +kernel
theorem dX2_figure_172 : decode cX2_figure 172 = .ok (.if_icmp .ne 8, 3) := by decide +kernel
theorem dX2_figure_175 : decode cX2_figure 175 = .ok (.iload 8, 2) := by decide +kernel
theorem dX2_figure_177 : decode cX2_figure 177 = .ok (.goto 4, 3) := by decide +kernel
theorem dX2_figure_180 : decode cX2_figure 180 = .ok (.iconst 0, 1) := by decide +kernel
theorem dX2_figure_181 : decode cX2_figure 181 = .ok (.ireturn, 1) := by decide +kernel
set_option maxRecDepth 20000 in
theorem ggX2_isIn_X2_kept : GoodIn wsX2_isIn wsX2_kept := goodIn_r _ [7, 1, 8, 9, 10, 11, 6, 12, 13, 14, 15, 16, 2, 17, 18, 19, 20, 21, 22, 23] (by decide +kernel) (by decide +kernel)
set_option maxRecDepth 20000 in
theorem gX2_isIn_X2_kept : GoodIn wsX2_isIn (wsV RX2 43 RX2 yX2_kept wsX2_kept) := goodIn_app (goodIn_of _ (by decide +kernel)) ggX2_isIn_X2_kept
theorem dX2_isIn_0 : decode cX2_isIn 0 = .ok (.iload_n 1, 1) := by decide +kernel
theorem dX2_isIn_1 : decode cX2_isIn 1 = .ok (.aload_n 0, 1) := by decide +kernel
theorem dX2_isIn_2 : decode cX2_isIn 2 = .ok (.getfield 32, 3) := by decide +kernel
theorem dX2_isIn_5 : decode cX2_isIn 5 = .ok (.aload_n 0, 1) := by decide +kernel
theorem dX2_isIn_6 : decode cX2_isIn 6 = .ok (.iconst 0, 1) := by decide +kernel
theorem dX2_isIn_7 : decode cX2_isIn 7 = .ok (.invokevirtual 43, 3) := by decide +kernel
theorem dX2_isIn_10 : decode cX2_isIn 10 = .ok (.isub, 1) := by decide +kernel
theorem dX2_isIn_11 : decode cX2_isIn 11 = .ok (.if_icmp .lt 35, 3) := by decide +kernel
theorem dX2_isIn_14 : decode cX2_isIn 14 = .ok (.iload_n 1, 1) := by decide +kernel
theorem dX2_isIn_15 : decode cX2_isIn 15 = .ok (.aload_n 0, 1) := by decide +kernel
theorem dX2_isIn_16 : decode cX2_isIn 16 = .ok (.getfield 32, 3) := by decide +kernel
theorem dX2_isIn_19 : decode cX2_isIn 19 = .ok (.if_icmp .ge 27, 3) := by decide +kernel
theorem dX2_isIn_22 : decode cX2_isIn 22 = .ok (.aload_n 0, 1) := by decide +kernel
theorem dX2_isIn_23 : decode cX2_isIn 23 = .ok (.getfield 17, 3) := by decide +kernel
theorem dX2_isIn_26 : decode cX2_isIn 26 = .ok (.iload_n 1, 1) := by decide +kernel
theorem dX2_isIn_27 : decode cX2_isIn 27 = .ok (.iaload, 1) := by decide +kernel
theorem dX2_isIn_28 : decode cX2_isIn 28 = .ok (.iload_n 2, 1) := by decide +kernel
theorem dX2_isIn_29 : decode cX2_isIn 29 = .ok (.if_icmp .lt 17, 3) := by decide +kernel
theorem dX2_isIn_32 : decode cX2_isIn 32 = .ok (.aload_n 0, 1) := by decide +kernel
theorem dX2_isIn_33 : decode cX2_isIn 33 = .ok (.getfield 17, 3) := by decide +kernel
theorem dX2_isIn_36 : decode cX2_isIn 36 = .ok (.iload_n 1, 1) := by decide +kernel
theorem dX2_isIn_37 : decode cX2_isIn 37 = .ok (.iaload, 1) := by decide +kernel
theorem dX2_isIn_38 : decode cX2_isIn 38 = .ok (.iload_n 3, 1) := by decide +kernel
theorem dX2_isIn_39 : decode cX2_isIn 39 = .ok (.if_icmp .gt 7, 3) := by decide +kernel
theorem dX2_isIn_42 : decode cX2_isIn 42 = .ok (.iconst 1, 1) := by decide +kernel
theorem dX2_isIn_43 : decode cX2_isIn 43 = .ok (.goto 4, 3) := by decide +kernel
theorem dX2_isIn_46 : decode cX2_isIn 46 = .ok (.iconst 0, 1) := by decide +kernel
theorem dX2_isIn_47 : decode cX2_isIn 47 = .ok (.ireturn, 1) := by decide +kernel
set_option maxRecDepth 20000 in
theorem ggX2_many_X2_isIn : GoodIn wsX2_many wsX2_isIn := goodIn_r _ [6, 1, 7, 8, 9, 10, 5, 11, 12, 13, 14, 15, 16, 17, 18, 19, 20, 21, 22, 23, 24, 25, 26, 27] (by decide +kernel) (by decide +kernel)
set_option maxRecDepth 20000 in
theorem gX2_many_X2_isIn : GoodIn wsX2_many (wsV RX2 58 RX2 yX2_isIn wsX2_isIn) := goodIn_app (goodIn_of _ (by decide +kernel)) ggX2_many_X2_isIn
theorem dX2_many_0 : decode cX2_many 0 = .ok (.iconst 0, 1) := by decide +kernel
theorem dX2_many_1 : decode cX2_many 1 = .ok (.istore_n 3, 1) := by decide +kernel
theorem dX2_many_2 : decode cX2_many 2 = .ok (.iconst 0, 1) := by decide +kernel
theorem dX2_many_3 : decode cX2_many 3 = .ok (.istore 4, 2) := by decide +kernel
theorem dX2_many_5 : decode cX2_many 5 = .ok (.iload 4, 2) := by decide +kernel
theorem dX2_many_7 : decode cX2_many 7 = .ok (.aload_n 0, 1) := by decide +kernel
theorem dX2_many_8 : decode cX2_many 8 = .ok (.getfield 32, 3) := by decide +kernel
theorem dX2_many_11 : decode cX2_many 11 = .ok (.if_icmp .ge 28, 3) := by decide +kernel
theorem dX2_many_14 : decode cX2_many 14 = .ok (.aload_n 0, 1) := by decide +kernel
theorem dX2_many_15 : decode cX2_many 15 = .ok (.iload 4, 2) := by decide +kernel
theorem dX2_many_17 : decode cX2_many 17 = .ok (.iload_n 1, 1) := by decide +kernel
theorem dX2_many_18 : decode cX2_many 18 = .ok (.iload_n 2, 1) := by decide +kernel
theorem dX2_many_19 : decode cX2_many 19 = .ok (.invokevirtual 58, 3) := by decide +kernel
theorem dX2_many_22 : decode cX2_many 22 = .ok (.ifCond .eq 9, 3) := by decide +kernel
theorem dX2_many_25 : decode cX2_many 25 = .ok (.iload_n 3, 1) := by decide +kernel
theorem dX2_many_26 : decode cX2_many 26 = .ok (.iconst 1, 1) := by decide +kernel
theorem dX2_many_27 : decode cX2_many 27 = .ok (.iadd, 1) := by decide +kernel
theorem dX2_many_28 : decode cX2_many 28 = .ok (.goto 4, 3) := by decide +kernel
theorem dX2_many_31 : decode cX2_many 31 = .ok (.iload_n 3, 1) := by decide +kernel
theorem dX2_many_32 : decode cX2_many 32 = .ok (.istore_n 3, 1) := by decide +kernel
theorem dX2_many_33 : decode cX2_many 33 = .ok (.iinc 4 1, 3) := by decide +kernel
theorem dX2_many_36 : decode cX2_many 36 = .ok (.goto (-31), 3) := by decide +kernel
theorem dX2_many_39 : decode cX2_many 39 = .ok (.iload_n 3, 1) := by decide +kernel
theorem dX2_many_40 : decode cX2_many 40 = .ok (.ireturn, 1) := by decide +kernel
set_option maxRecDepth 20000 in
theorem ggX2_extreme_X2_isIn : GoodIn wsX2_extreme wsX2_isIn := goodIn_r _ [7, 1, 8, 9, 10, 11, 6, 12, 13, 14, 15, 16, 17, 18, 19, 20, 21, 22, 23, 24, 25, 26, 27, 28] (by decide +kernel) (by decide +kernel)
set_option maxRecDepth 20000 in
theorem gX2_extreme_X2_isIn : GoodIn wsX2_extreme (wsV RX2 58 RX2 yX2_isIn wsX2_isIn) := goodIn_app (goodIn_of _ (by decide +kernel)) ggX2_extreme_X2_isIn
theorem dX2_extreme_0 : decode cX2_extreme 0 = .ok (.iconst 0, 1) := by decide +kernel
theorem dX2_extreme_1 : decode cX2_extreme 1 = .ok (.istore 4, 2) := by decide +kernel
theorem dX2_extreme_3 : decode cX2_extreme 3 = .ok (.iconst 0, 1) := by decide +kernel
theorem dX2_extreme_4 : decode cX2_extreme 4 = .ok (.istore 5, 2) := by decide +kernel
theorem dX2_extreme_6 : decode cX2_extreme 6 = .ok (.iconst 0, 1) := by decide +kernel
theorem dX2_extreme_7 : decode cX2_extreme 7 = .ok (.istore 6, 2) := by decide +kernel
theorem dX2_extreme_9 : decode cX2_extreme 9 = .ok (.iload 6, 2) := by decide +kernel
theorem dX2_extreme_11 : decode cX2_extreme 11 = .ok (.aload_n 0, 1) := by decide +kernel
theorem dX2_extreme_12 : decode cX2_extreme 12 = .ok (.getfield 32, 3) := by decide +kernel
theorem dX2_extreme_15 : decode cX2_extreme 15 = .ok (.if_icmp .ge 85, 3) := by decide +kernel
theorem dX2_extreme_18 : decode cX2_extreme 18 = .ok (.aload_n 0, 1) := by decide +kernel
theorem dX2_extreme_19 : decode cX2_extreme 19 = .ok (.iload 6, 2) := by decide +kernel
theorem dX2_extreme_21 : decode cX2_extreme 21 = .ok (.iload_n 1, 1) := by decide +kernel
theorem dX2_extreme_22 : decode cX2_extreme 22 = .ok (.iload_n 2, 1) := by decide +kernel
theorem dX2_extreme_23 : decode cX2_extreme 23 = .ok (.invokevirtual 58, 3) := by decide +kernel
theorem dX2_extreme_26 : decode cX2_extreme 26 = .ok (.ifCond .eq 68, 3) := by decide +kernel
theorem dX2_extreme_29 : decode cX2_extreme 29 = .ok (.iload 4, 2) := by decide +kernel
theorem dX2_extreme_31 : decode cX2_extreme 31 = .ok (.ifCond .eq 34, 3) := by decide +kernel
theorem dX2_extreme_34 : decode cX2_extreme 34 = .ok (.iload_n 3, 1) := by decide +kernel
theorem dX2_extreme_35 : decode cX2_extreme 35 = .ok (.ifCond .ge 18, 3) := by decide +kernel
theorem dX2_extreme_38 : decode cX2_extreme 38 = .ok (.aload_n 0, 1) := by decide +kernel
theorem dX2_extreme_39 : decode cX2_extreme 39 = .ok (.getfield 20, 3) := by decide +kernel
theorem dX2_extreme_42 : decode cX2_extreme 42 = .ok (.iload 6, 2) := by decide +kernel
theorem dX2_extreme_44 : decode cX2_extreme 44 = .ok (.iaload, 1) := by decide +kernel
theorem dX2_extreme_45 : decode cX2_extreme 45 = .ok (.iload 5, 2) := by decide +kernel
theorem dX2_extreme_47 : decode cX2_extreme 47 = .ok (.if_icmp .ge 22, 3) := by decide +kernel
theorem dX2_extreme_50 : decode cX2_extreme 50 = .ok (.goto 15, 3) := by decide +kernel
theorem dX2_extreme_53 : decode cX2_extreme 53 = .ok (.aload_n 0, 1) := by decide +kernel
theorem dX2_extreme_54 : decode cX2_extreme 54 = .ok (.getfield 20, 3) := by decide +kernel
theorem dX2_extreme_57 : decode cX2_extreme 57 = .ok (.iload 6, 2) := by decide +kernel
theorem dX2_extreme_59 : decode cX2_extreme 59 = .ok (.iaload, 1) := by decide +kernel
theorem dX2_extreme_60 : decode cX2_extreme 60 = .ok (.iload 5, 2) := by decide +kernel
theorem dX2_extreme_62 : decode cX2_extreme 62 = .ok (.if_icmp .le 7, 3) := by decide +kernel
theorem dX2_extreme_65 : decode cX2_extreme 65 = .ok (.iconst 1, 1) := by decide +kernel
theorem dX2_extreme_66 : decode cX2_extreme 66 = .ok (.goto 4, 3) := by decide +kernel
theorem dX2_extreme_69 : decode cX2_extreme 69 = .ok (.iconst 0, 1) := by decide +kernel
theorem dX2_extreme_70 : decode cX2_extreme 70 = .ok (.istore 7, 2) := by decide +kernel
theorem dX2_extreme_72 : decode cX2_extreme 72 = .ok (.iload 7, 2) := by decide +kernel
theorem dX2_extreme_74 : decode cX2_extreme 74 = .ok (.ifCond .eq 13, 3) := by decide +kernel
theorem dX2_extreme_77 : decode cX2_extreme 77 = .ok (.aload_n 0, 1) := by decide +kernel
theorem dX2_extreme_78 : decode cX2_extreme 78 = .ok (.getfield 20, 3) := by decide +kernel
theorem dX2_extreme_81 : decode cX2_extreme 81 = .ok (.iload 6, 2) := by decide +kernel
theorem dX2_extreme_83 : decode cX2_extreme 83 = .ok (.iaload, 1) := by decide +kernel
theorem dX2_extreme_84 : decode cX2_extreme 84 = .ok (.goto 5, 3) := by decide +kernel
theorem dX2_extreme_87 : decode cX2_extreme 87 = .ok (.iload 5, 2) := by decide +kernel
theorem dX2_extreme_89 : decode cX2_extreme 89 = .ok (.istore 5, 2) := by decide +kernel
theorem dX2_extreme_91 : decode cX2_extreme 91 = .ok (.iconst 1, 1) := by decide +kernel
theorem dX2_extreme_92 : decode cX2_extreme 92 = .ok (.istore 4, 2) := by decide +kernel
theorem dX2_extreme_94 : decode cX2_extreme 94 = .ok (.iinc 6 1, 3) := by decide +kernel
theorem dX2_extreme_97 : decode cX2_extreme 97 = .ok (.goto (-88), 3) := by decide +kernel
theorem dX2_extreme_100 : decode cX2_extreme 100 = .ok (.iload_n 3, 1) := by decide +kernel
theorem dX2_extreme_101 : decode cX2_extreme 101 = .ok (.iconst 1, 1) := by decide +kernel
theorem dX2_extreme_102 : decode cX2_extreme 102 = .ok (.if_icmp .eq 8, 3) := by decide +kernel
theorem dX2_extreme_105 : decode cX2_extreme 105 = .ok (.iload_n 3, 1) := by decide +kernel
theorem dX2_extreme_106 : decode cX2_extreme 106 = .ok (.iconst (-1), 1) := by decide +kernel
theorem dX2_extreme_107 : decode cX2_extreme 107 = .ok (.if_icmp .ne 8, 3) := by decide +kernel
theorem dX2_extreme_110 : decode cX2_extreme 110 = .ok (.iload 5, 2) := by decide +kernel
theorem dX2_extreme_112 : decode cX2_extreme 112 = .ok (.goto 4, 3) := by decide +kernel
theorem dX2_extreme_115 : decode cX2_extreme 115 = .ok (.iconst 0, 1) := by decide +kernel
theorem dX2_extreme_116 : decode cX2_extreme 116 = .ok (.ireturn, 1) := by decide +kernel
set_option maxRecDepth 20000 in
theorem ggX2_sum_X2_isIn : GoodIn wsX2_sum wsX2_isIn := goodIn_r _ [7, 1, 8, 9, 10, 11, 6, 12, 13, 14, 15, 16, 17, 18, 19, 20, 21, 22, 23, 24, 25, 26, 27, 28] (by decide +kernel) (by decide +kernel)
set_option maxRecDepth 20000 in
theorem gX2_sum_X2_isIn : GoodIn wsX2_sum (wsV RX2 58 RX2 yX2_isIn wsX2_isIn) := goodIn_app (goodIn_of _ (by decide +kernel)) ggX2_sum_X2_isIn
theorem dX2_sum_0 : decode cX2_sum 0 = .ok (.lconst 0, 1) := by decide +kernel
theorem dX2_sum_1 : decode cX2_sum 1 = .ok (.lstore_n 3, 1) := by decide +kernel
theorem dX2_sum_2 : decode cX2_sum 2 = .ok (.iconst 0, 1) := by decide +kernel
theorem dX2_sum_3 : decode cX2_sum 3 = .ok (.istore 5, 2) := by decide +kernel
theorem dX2_sum_5 : decode cX2_sum 5 = .ok (.iload 5, 2) := by decide +kernel
theorem dX2_sum_7 : decode cX2_sum 7 = .ok (.aload_n 0, 1) := by decide +kernel
theorem dX2_sum_8 : decode cX2_sum 8 = .ok (.getfield 32, 3) := by decide +kernel
theorem dX2_sum_11 : decode cX2_sum 11 = .ok (.if_icmp .ge 35, 3) := by decide +kernel
theorem dX2_sum_14 : decode cX2_sum 14 = .ok (.aload_n 0, 1) := by decide +kernel
theorem dX2_sum_15 : decode cX2_sum 15 = .ok (.iload 5, 2) := by decide +kernel
theorem dX2_sum_17 : decode cX2_sum 17 = .ok (.iload_n 1, 1) := by decide +kernel
theorem dX2_sum_18 : decode cX2_sum 18 = .ok (.iload_n 2, 1) := by decide +kernel
theorem dX2_sum_19 : decode cX2_sum 19 = .ok (.invokevirtual 58, 3) := by decide +kernel
theorem dX2_sum_22 : decode cX2_sum 22 = .ok (.ifCond .eq 16, 3) := by decide +kernel
theorem dX2_sum_25 : decode cX2_sum 25 = .ok (.lload_n 3, 1) := by decide +kernel
theorem dX2_sum_26 : decode cX2_sum 26 = .ok (.aload_n 0, 1) := by decide +kernel
theorem dX2_sum_27 : decode cX2_sum 27 = .ok (.getfield 20, 3) := by decide +kernel
theorem dX2_sum_30 : decode cX2_sum 30 = .ok (.iload 5, 2) := by decide +kernel
theorem dX2_sum_32 : decode cX2_sum 32 = .ok (.iaload, 1) := by decide +kernel
theorem dX2_sum_33 : decode cX2_sum 33 = .ok (.i2l, 1) := by decide +kernel
theorem dX2_sum_34 : decode cX2_sum 34 = .ok (.ladd, 1) := by decide +kernel
theorem dX2_sum_35 : decode cX2_sum 35 = .ok (.goto 4, 3) := by decide +kernel
theorem dX2_sum_38 : decode cX2_sum 38 = .ok (.lload_n 3, 1) := by decide +kernel
theorem dX2_sum_39 : decode cX2_sum 39 = .ok (.lstore_n 3, 1) := by decide +kernel
theorem dX2_sum_40 : decode cX2_sum 40 = .ok (.iinc 5 1, 3) := by decide +kernel
theorem dX2_sum_43 : decode cX2_sum 43 = .ok (.goto (-38), 3) := by decide +kernel
theorem dX2_sum_46 : decode cX2_sum 46 = .ok (.lload_n 3, 1) := by decide +kernel
theorem dX2_sum_47 : decode cX2_sum 47 = .ok (.lreturn, 1) := by decide +kernel
set_option maxRecDepth 20000 in
theorem ggX2_at_X2_kept : GoodIn wsX2_at wsX2_kept := goodIn_r _ [8, 1, 9, 10, 11, 12, 7, 13, 14, 15, 16, 17, 2, 18, 19, 20, 21, 22, 23, 24] (by decide +kernel) (by decide +kernel)
set_option maxRecDepth 20000 in
theorem gX2_at_X2_kept : GoodIn wsX2_at (wsV RX2 43 RX2 yX2_kept wsX2_kept) := goodIn_app (goodIn_of _ (by decide +kernel)) ggX2_at_X2_kept
theorem dX2_at_0 : decode cX2_at 0 = .ok (.iconst (-1), 1) := by decide +kernel
theorem dX2_at_1 : decode cX2_at 1 = .ok (.istore_n 3, 1) := by decide +kernel
theorem dX2_at_2 : decode cX2_at 2 = .ok (.aload_n 0, 1) := by decide +kernel
theorem dX2_at_3 : decode cX2_at 3 = .ok (.getfield 32, 3) := by decide +kernel
theorem dX2_at_6 : decode cX2_at 6 = .ok (.aload_n 0, 1) := by decide +kernel
theorem dX2_at_7 : decode cX2_at 7 = .ok (.iconst 0, 1) := by decide +kernel
theorem dX2_at_8 : decode cX2_at 8 = .ok (.invokevirtual 43, 3) := by decide +kernel
theorem dX2_at_11 : decode cX2_at 11 = .ok (.isub, 1) := by decide +kernel
theorem dX2_at_12 : decode cX2_at 12 = .ok (.istore 4, 2) := by decide +kernel
theorem dX2_at_14 : decode cX2_at 14 = .ok (.iload 4, 2) := by decide +kernel
theorem dX2_at_16 : decode cX2_at 16 = .ok (.aload_n 0, 1) := by decide +kernel
theorem dX2_at_17 : decode cX2_at 17 = .ok (.getfield 32, 3) := by decide +kernel
theorem dX2_at_20 : decode cX2_at 20 = .ok (.if_icmp .ge 27, 3) := by decide +kernel
theorem dX2_at_23 : decode cX2_at 23 = .ok (.aload_n 0, 1) := by decide +kernel
theorem dX2_at_24 : decode cX2_at 24 = .ok (.getfield 17, 3) := by decide +kernel
theorem dX2_at_27 : decode cX2_at 27 = .ok (.iload 4, 2) := by decide +kernel
theorem dX2_at_29 : decode cX2_at 29 = .ok (.iaload, 1) := by decide +kernel
theorem dX2_at_30 : decode cX2_at 30 = .ok (.iload_n 1, 1) := by decide +kernel
theorem dX2_at_31 : decode cX2_at 31 = .ok (.if_icmp .gt 8, 3) := by decide +kernel
theorem dX2_at_34 : decode cX2_at 34 = .ok (.iload 4, 2) := by decide +kernel
theorem dX2_at_36 : decode cX2_at 36 = .ok (.goto 4, 3) := by decide +kernel
theorem dX2_at_39 : decode cX2_at 39 = .ok (.iload_n 3, 1) := by decide +kernel
theorem dX2_at_40 : decode cX2_at 40 = .ok (.istore_n 3, 1) := by decide +kernel
theorem dX2_at_41 : decode cX2_at 41 = .ok (.iinc 4 1, 3) := by decide +kernel
theorem dX2_at_44 : decode cX2_at 44 = .ok (.goto (-30), 3) := by decide +kernel
theorem dX2_at_47 : decode cX2_at 47 = .ok (.iload_n 3, 1) := by decide +kernel
theorem dX2_at_48 : decode cX2_at 48 = .ok (.ifCond .ge 5, 3) := by decide +kernel
theorem dX2_at_51 : decode cX2_at 51 = .ok (.iconst 0, 1) := by decide +kernel
theorem dX2_at_52 : decode cX2_at 52 = .ok (.ireturn, 1) := by decide +kernel
theorem dX2_at_53 : decode cX2_at 53 = .ok (.iload_n 2, 1) := by decide +kernel
theorem dX2_at_54 : decode cX2_at 54 = .ok (.ifCond .eq 13, 3) := by decide +kernel
theorem dX2_at_57 : decode cX2_at 57 = .ok (.iload_n 3, 1) := by decide +kernel
theorem dX2_at_58 : decode cX2_at 58 = .ok (.aload_n 0, 1) := by decide +kernel
theorem dX2_at_59 : decode cX2_at 59 = .ok (.getfield 32, 3) := by decide +kernel
theorem dX2_at_62 : decode cX2_at 62 = .ok (.iconst 1, 1) := by decide +kernel
theorem dX2_at_63 : decode cX2_at 63 = .ok (.isub, 1) := by decide +kernel
theorem dX2_at_64 : decode cX2_at 64 = .ok (.if_icmp .ne 10, 3) := by decide +kernel
theorem dX2_at_67 : decode cX2_at 67 = .ok (.aload_n 0, 1) := by decide +kernel
theorem dX2_at_68 : decode cX2_at 68 = .ok (.getfield 20, 3) := by decide +kernel
theorem dX2_at_71 : decode cX2_at 71 = .ok (.iload_n 3, 1) := by decide +kernel
theorem dX2_at_72 : decode cX2_at 72 = .ok (.iaload, 1) := by decide +kernel
theorem dX2_at_73 : decode cX2_at 73 = .ok (.ireturn, 1) := by decide +kernel
theorem dX2_at_74 : decode cX2_at 74 = .ok (.aload_n 0, 1) := by decide +kernel
theorem dX2_at_75 : decode cX2_at 75 = .ok (.getfield 20, 3) := by decide +kernel
theorem dX2_at_78 : decode cX2_at 78 = .ok (.iload_n 3, 1) := by decide +kernel
theorem dX2_at_79 : decode cX2_at 79 = .ok (.iconst 1, 1) := by decide +kernel
theorem dX2_at_80 : decode cX2_at 80 = .ok (.iadd, 1) := by decide +kernel
theorem dX2_at_81 : decode cX2_at 81 = .ok (.iaload, 1) := by decide +kernel
theorem dX2_at_82 : decode cX2_at 82 = .ok (.i2l, 1) := by decide +kernel
theorem dX2_at_83 : decode cX2_at 83 = .ok (.aload_n 0, 1) := by decide +kernel
theorem dX2_at_84 : decode cX2_at 84 = .ok (.getfield 20, 3) := by decide +kernel
theorem dX2_at_87 : decode cX2_at 87 = .ok (.iload_n 3, 1) := by decide +kernel
theorem dX2_at_88 : decode cX2_at 88 = .ok (.iaload, 1) := by decide +kernel
theorem dX2_at_89 : decode cX2_at 89 = .ok (.i2l, 1) := by decide +kernel
theorem dX2_at_90 : decode cX2_at 90 = .ok (.lsub, 1) := by decide +kernel
theorem dX2_at_91 : decode cX2_at 91 = .ok (.lstore 4, 2) := by decide +kernel
theorem dX2_at_93 : decode cX2_at 93 = .ok (.iload_n 1, 1) := by decide +kernel
theorem dX2_at_94 : decode cX2_at 94 = .ok (.i2l, 1) := by decide +kernel
theorem dX2_at_95 : decode cX2_at 95 = .ok (.aload_n 0, 1) := by decide +kernel
theorem dX2_at_96 : decode cX2_at 96 = .ok (.getfield 17, 3) := by decide +kernel
theorem dX2_at_99 : decode cX2_at 99 = .ok (.iload_n 3, 1) := by decide +kernel
theorem dX2_at_100 : decode cX2_at 100 = .ok (.iaload, 1) := by decide +kernel
theorem dX2_at_101 : decode cX2_at 101 = .ok (.i2l, 1) := by decide +kernel
theorem dX2_at_102 : decode cX2_at 102 = .ok (.lsub, 1) := by decide +kernel
theorem dX2_at_103 : decode cX2_at 103 = .ok (.lstore 6, 2) := by decide +kernel
theorem dX2_at_105 : decode cX2_at 105 = .ok (.aload_n 0, 1) := by decide +kernel
theorem dX2_at_106 : decode cX2_at 106 = .ok (.getfield 20, 3) := by decide +kernel
theorem dX2_at_109 : decode cX2_at 109 = .ok (.iload_n 3, 1) := by decide +kernel
theorem dX2_at_110 : decode cX2_at 110 = .ok (.iaload, 1) := by decide +kernel
theorem dX2_at_111 : decode cX2_at 111 = .ok (.i2l, 1) := by decide +kernel
theorem dX2_at_112 : decode cX2_at 112 = .ok (.lload 4, 2) := by decide +kernel
theorem dX2_at_114 : decode cX2_at 114 = .ok (.lload 6, 2) := by decide +kernel
theorem dX2_at_116 : decode cX2_at 116 = .ok (.lmul, 1) := by decide +kernel
theorem dX2_at_117 : decode cX2_at 117 = .ok (.aload_n 0, 1) := by decide +kernel
theorem dX2_at_118 : decode cX2_at 118 = .ok (.getfield 17, 3) := by decide +kernel
theorem dX2_at_121 : decode cX2_at 121 = .ok (.iload_n 3, 1) := by decide +kernel
theorem dX2_at_122 : decode cX2_at 122 = .ok (.iconst 1, 1) := by decide +kernel
theorem dX2_at_123 : decode cX2_at 123 = .ok (.iadd, 1) := by decide +kernel
theorem dX2_at_124 : decode cX2_at 124 = .ok (.iaload, 1) := by decide +kernel
theorem dX2_at_125 : decode cX2_at 125 = .ok (.aload_n 0, 1) := by decide +kernel
theorem dX2_at_126 : decode cX2_at 126 = .ok (.getfield 17, 3) := by decide +kernel
theorem dX2_at_129 : decode cX2_at 129 = .ok (.iload_n 3, 1) := by decide +kernel
theorem dX2_at_130 : decode cX2_at 130 = .ok (.iaload, 1) := by decide +kernel
theorem dX2_at_131 : decode cX2_at 131 = .ok (.isub, 1) := by decide +kernel
theorem dX2_at_132 : decode cX2_at 132 = .ok (.i2l, 1) := by decide +kernel
theorem dX2_at_133 : decode cX2_at 133 = .ok (.ldiv, 1) := by decide +kernel
theorem dX2_at_134 : decode cX2_at 134 = .ok (.ladd, 1) := by decide +kernel
theorem dX2_at_135 : decode cX2_at 135 = .ok (.l2i, 1) := by decide +kernel
theorem dX2_at_136 : decode cX2_at 136 = .ok (.ireturn, 1) := by decide +kernel
set_option maxRecDepth 20000 in
theorem ggX2_steepest_X2_kept : GoodIn wsX2_steepest wsX2_kept := goodIn_r _ [7, 1, 8, 9, 10, 11, 6, 12, 13, 14, 15, 16, 17, 18, 23, 24, 25, 26, 27, 28] (by decide +kernel) (by decide +kernel)
set_option maxRecDepth 20000 in
theorem gX2_steepest_X2_kept : GoodIn wsX2_steepest (wsV RX2 43 RX2 yX2_kept wsX2_kept) := goodIn_app (goodIn_of _ (by decide +kernel)) ggX2_steepest_X2_kept
set_option maxRecDepth 20000 in
theorem ggX2_steepest_X2_isIn : GoodIn wsX2_steepest wsX2_isIn := goodIn_r _ [22, 1, 17, 3, 4, 5, 6, 7, 8, 9, 10, 11, 12, 13, 14, 15, 16, 18, 23, 24, 25, 26, 27, 28] (by decide +kernel) (by decide +kernel)
set_option maxRecDepth 20000 in
theorem gX2_steepest_X2_isIn : GoodIn wsX2_steepest (wsV RX2 58 RX2 yX2_isIn wsX2_isIn) := goodIn_app (goodIn_of _ (by decide +kernel)) ggX2_steepest_X2_isIn
theorem dX2_steepest_0 : decode cX2_steepest 0 = .ok (.aload_n 0, 1) := by decide +kernel
theorem dX2_steepest_1 : decode cX2_steepest 1 = .ok (.getfield 32, 3) := by decide +kernel
theorem dX2_steepest_4 : decode cX2_steepest 4 = .ok (.aload_n 0, 1) := by decide +kernel
theorem dX2_steepest_5 : decode cX2_steepest 5 = .ok (.iconst 0, 1) := by decide +kernel
theorem dX2_steepest_6 : decode cX2_steepest 6 = .ok (.invokevirtual 43, 3) := by decide +kernel
theorem dX2_steepest_9 : decode cX2_steepest 9 = .ok (.isub, 1) := by decide +kernel
theorem dX2_steepest_10 : decode cX2_steepest 10 = .ok (.istore_n 3, 1) := by decide +kernel
theorem dX2_steepest_11 : decode cX2_steepest 11 = .ok (.iconst (-1), 1) := by decide +kernel
theorem dX2_steepest_12 : decode cX2_steepest 12 = .ok (.istore 4, 2) := by decide +kernel
theorem dX2_steepest_14 : decode cX2_steepest 14 = .ok (.lconst 0, 1) := by decide +kernel
theorem dX2_steepest_15 : decode cX2_steepest 15 = .ok (.lstore 5, 2) := by decide +kernel
theorem dX2_steepest_17 : decode cX2_steepest 17 = .ok (.iload_n 3, 1) := by decide +kernel
theorem dX2_steepest_18 : decode cX2_steepest 18 = .ok (.iconst 1, 1) := by decide +kernel
theorem dX2_steepest_19 : decode cX2_steepest 19 = .ok (.iadd, 1) := by decide +kernel
theorem dX2_steepest_20 : decode cX2_steepest 20 = .ok (.istore 7, 2) := by decide +kernel
theorem dX2_steepest_22 : decode cX2_steepest 22 = .ok (.iload 7, 2) := by decide +kernel
theorem dX2_steepest_24 : decode cX2_steepest 24 = .ok (.aload_n 0, 1) := by decide +kernel
theorem dX2_steepest_25 : decode cX2_steepest 25 = .ok (.getfield 32, 3) := by decide +kernel
theorem dX2_steepest_28 : decode cX2_steepest 28 = .ok (.if_icmp .ge 78, 3) := by decide +kernel
theorem dX2_steepest_31 : decode cX2_steepest 31 = .ok (.aload_n 0, 1) := by decide +kernel
theorem dX2_steepest_32 : decode cX2_steepest 32 = .ok (.getfield 20, 3) := by decide +kernel
theorem dX2_steepest_35 : decode cX2_steepest 35 = .ok (.iload 7, 2) := by decide +kernel
theorem dX2_steepest_37 : decode cX2_steepest 37 = .ok (.iaload, 1) := by decide +kernel
theorem dX2_steepest_38 : decode cX2_steepest 38 = .ok (.i2l, 1) := by decide +kernel
theorem dX2_steepest_39 : decode cX2_steepest 39 = .ok (.aload_n 0, 1) := by decide +kernel
theorem dX2_steepest_40 : decode cX2_steepest 40 = .ok (.getfield 20, 3) := by decide +kernel
theorem dX2_steepest_43 : decode cX2_steepest 43 = .ok (.iload 7, 2) := by decide +kernel
theorem dX2_steepest_45 : decode cX2_steepest 45 = .ok (.iconst 1, 1) := by decide +kernel
theorem dX2_steepest_46 : decode cX2_steepest 46 = .ok (.isub, 1) := by decide +kernel
theorem dX2_steepest_47 : decode cX2_steepest 47 = .ok (.iaload, 1) := by decide +kernel
theorem dX2_steepest_48 : decode cX2_steepest 48 = .ok (.i2l, 1) := by decide +kernel
theorem dX2_steepest_49 : decode cX2_steepest 49 = .ok (.lsub, 1) := by decide +kernel
theorem dX2_steepest_50 : decode cX2_steepest 50 = .ok (.lstore 8, 2) := by decide +kernel
theorem dX2_steepest_52 : decode cX2_steepest 52 = .ok (.aload_n 0, 1) := by decide +kernel
theorem dX2_steepest_53 : decode cX2_steepest 53 = .ok (.iload 7, 2) := by decide +kernel
theorem dX2_steepest_55 : decode cX2_steepest 55 = .ok (.iconst 1, 1) := by decide +kernel
theorem dX2_steepest_56 : decode cX2_steepest 56 = .ok (.isub, 1) := by decide +kernel
theorem dX2_steepest_57 : decode cX2_steepest 57 = .ok (.iload_n 1, 1) := by decide +kernel
theorem dX2_steepest_58 : decode cX2_steepest 58 = .ok (.iload_n 2, 1) := by decide +kernel
theorem dX2_steepest_59 : decode cX2_steepest 59 = .ok (.invokevirtual 58, 3) := by decide +kernel
theorem dX2_steepest_62 : decode cX2_steepest 62 = .ok (.ifCond .eq 38, 3) := by decide +kernel
theorem dX2_steepest_65 : decode cX2_steepest 65 = .ok (.aload_n 0, 1) := by decide +kernel
theorem dX2_steepest_66 : decode cX2_steepest 66 = .ok (.iload 7, 2) := by decide +kernel
theorem dX2_steepest_68 : decode cX2_steepest 68 = .ok (.iload_n 1, 1) := by decide +kernel
theorem dX2_steepest_69 : decode cX2_steepest 69 = .ok (.iload_n 2, 1) := by decide +kernel
theorem dX2_steepest_70 : decode cX2_steepest 70 = .ok (.invokevirtual 58, 3) := by decide +kernel
theorem dX2_steepest_73 : decode cX2_steepest 73 = .ok (.ifCond .eq 27, 3) := by decide +kernel
theorem dX2_steepest_76 : decode cX2_steepest 76 = .ok (.iload 4, 2) := by decide +kernel
theorem dX2_steepest_78 : decode cX2_steepest 78 = .ok (.iconst (-1), 1) := by decide +kernel
theorem dX2_steepest_79 : decode cX2_steepest 79 = .ok (.if_icmp .eq 11, 3) := by decide +kernel
theorem dX2_steepest_82 : decode cX2_steepest 82 = .ok (.lload 8, 2) := by decide +kernel
theorem dX2_steepest_84 : decode cX2_steepest 84 = .ok (.lload 5, 2) := by decide +kernel
theorem dX2_steepest_86 : decode cX2_steepest 86 = .ok (.lcmp, 1) := by decide +kernel
theorem dX2_steepest_87 : decode cX2_steepest 87 = .ok (.ifCond .le 13, 3) := by decide +kernel
theorem dX2_steepest_90 : decode cX2_steepest 90 = .ok (.iload 7, 2) := by decide +kernel
theorem dX2_steepest_92 : decode cX2_steepest 92 = .ok (.iload_n 3, 1) := by decide +kernel
theorem dX2_steepest_93 : decode cX2_steepest 93 = .ok (.isub, 1) := by decide +kernel
theorem dX2_steepest_94 : decode cX2_steepest 94 = .ok (.istore 4, 2) := by decide +kernel
theorem dX2_steepest_96 : decode cX2_steepest 96 = .ok (.lload 8, 2) := by decide +kernel
theorem dX2_steepest_98 : decode cX2_steepest 98 = .ok (.lstore 5, 2) := by decide +kernel
theorem dX2_steepest_100 : decode cX2_steepest 100 = .ok (.iinc 7 1, 3) := by decide +kernel
theorem dX2_steepest_103 : decode cX2_steepest 103 = .ok (.goto (-81), 3) := by decide +kernel
theorem dX2_steepest_106 : decode cX2_steepest 106 = .ok (.iload 4, 2) := by decide +kernel
theorem dX2_steepest_108 : decode cX2_steepest 108 = .ok (.ireturn, 1) := by decide +kernel
set_option maxRecDepth 20000 in
theorem ggX2_median_X2_many : GoodIn wsX2_median wsX2_many := goodIn_r _ [7, 1, 8, 9, 10, 6, 11, 12, 13, 14, 15, 16, 17, 18, 19, 20, 21, 22, 23, 24, 25, 26, 27, 28, 29, 30, 31, 32] (by decide +kernel) (by decide +kernel)
set_option maxRecDepth 20000 in
theorem gX2_median_X2_many : GoodIn wsX2_median (wsV RX2 61 RX2 yX2_many wsX2_many) := goodIn_app (goodIn_of _ (by decide +kernel)) ggX2_median_X2_many
set_option maxRecDepth 20000 in
theorem ggX2_median_X2_isIn : GoodIn wsX2_median wsX2_isIn := goodIn_r _ [11, 1, 12, 13, 14, 15, 6, 16, 17, 18, 19, 20, 21, 22, 23, 24, 25, 26, 27, 28, 29, 30, 31, 32] (by decide +kernel) (by decide +kernel)
set_option maxRecDepth 20000 in
theorem gX2_median_X2_isIn : GoodIn wsX2_median (wsV RX2 58 RX2 yX2_isIn wsX2_isIn) := goodIn_app (goodIn_of _ (by decide +kernel)) ggX2_median_X2_isIn
theorem dX2_median_0 : decode cX2_median 0 = .ok (.aload_n 0, 1) := by decide +kernel
theorem dX2_median_1 : decode cX2_median 1 = .ok (.iload_n 1, 1) := by decide +kernel
theorem dX2_median_2 : decode cX2_median 2 = .ok (.iload_n 2, 1) := by decide +kernel
theorem dX2_median_3 : decode cX2_median 3 = .ok (.invokevirtual 61, 3) := by decide +kernel
theorem dX2_median_6 : decode cX2_median 6 = .ok (.istore_n 3, 1) := by decide +kernel
theorem dX2_median_7 : decode cX2_median 7 = .ok (.iconst 0, 1) := by decide +kernel
theorem dX2_median_8 : decode cX2_median 8 = .ok (.istore 4, 2) := by decide +kernel
theorem dX2_median_10 : decode cX2_median 10 = .ok (.iload 4, 2) := by decide +kernel
theorem dX2_median_12 : decode cX2_median 12 = .ok (.aload_n 0, 1) := by decide +kernel
theorem dX2_median_13 : decode cX2_median 13 = .ok (.getfield 32, 3) := by decide +kernel
theorem dX2_median_16 : decode cX2_median 16 = .ok (.if_icmp .ge 158, 3) := by decide +kernel
theorem dX2_median_19 : decode cX2_median 19 = .ok (.iload_n 3, 1) := by decide +kernel
theorem dX2_median_20 : decode cX2_median 20 = .ok (.ifCond .le 154, 3) := by decide +kernel
theorem dX2_median_23 : decode cX2_median 23 = .ok (.iconst 0, 1) := by decide +kernel
theorem dX2_median_24 : decode cX2_median 24 = .ok (.istore 5, 2) := by decide +kernel
theorem dX2_median_26 : decode cX2_median 26 = .ok (.iconst 0, 1) := by decide +kernel
theorem dX2_median_27 : decode cX2_median 27 = .ok (.istore 6, 2) := by decide +kernel
theorem dX2_median_29 : decode cX2_median 29 = .ok (.iconst 0, 1) := by decide +kernel
theorem dX2_median_30 : decode cX2_median 30 = .ok (.istore 7, 2) := by decide +kernel
theorem dX2_median_32 : decode cX2_median 32 = .ok (.iload 7, 2) := by decide +kernel
theorem dX2_median_34 : decode cX2_median 34 = .ok (.aload_n 0, 1) := by decide +kernel
theorem dX2_median_35 : decode cX2_median 35 = .ok (.getfield 32, 3) := by decide +kernel
theorem dX2_median_38 : decode cX2_median 38 = .ok (.if_icmp .ge 87, 3) := by decide +kernel
theorem dX2_median_41 : decode cX2_median 41 = .ok (.aload_n 0, 1) := by decide +kernel
theorem dX2_median_42 : decode cX2_median 42 = .ok (.iload 7, 2) := by decide +kernel
theorem dX2_median_44 : decode cX2_median 44 = .ok (.iload_n 1, 1) := by decide +kernel
theorem dX2_median_45 : decode cX2_median 45 = .ok (.iload_n 2, 1) := by decide +kernel
theorem dX2_median_46 : decode cX2_median 46 = .ok (.invokevirtual 58, 3) := by decide +kernel
theorem dX2_median_49 : decode cX2_median 49 = .ok (.ifCond .eq 27, 3) := by decide +kernel
theorem dX2_median_52 : decode cX2_median 52 = .ok (.aload_n 0, 1) := by decide +kernel
theorem dX2_median_53 : decode cX2_median 53 = .ok (.getfield 20, 3) := by decide +kernel
theorem dX2_median_56 : decode cX2_median 56 = .ok (.iload 7, 2) := by decide +kernel
theorem dX2_median_58 : decode cX2_median 58 = .ok (.iaload, 1) := by decide +kernel
theorem dX2_median_59 : decode cX2_median 59 = .ok (.aload_n 0, 1) := by decide +kernel
theorem dX2_median_60 : decode cX2_median 60 = .ok (.getfield 20, 3) := by decide +kernel
theorem dX2_median_63 : decode cX2_median 63 = .ok (.iload 4, 2) := by decide +kernel
theorem dX2_median_65 : decode cX2_median 65 = .ok (.iaload, 1) := by decide +kernel
theorem dX2_median_66 : decode cX2_median 66 = .ok (.if_icmp .ge 10, 3) := by decide +kernel
theorem dX2_median_69 : decode cX2_median 69 = .ok (.iload 5, 2) := by decide +kernel
theorem dX2_median_71 : decode cX2_median 71 = .ok (.iconst 1, 1) := by decide +kernel
theorem dX2_median_72 : decode cX2_median 72 = .ok (.iadd, 1) := by decide +kernel
theorem dX2_median_73 : decode cX2_median 73 = .ok (.goto 5, 3) := by decide +kernel
theorem dX2_median_76 : decode cX2_median 76 = .ok (.iload 5, 2) := by decide +kernel
theorem dX2_median_78 : decode cX2_median 78 = .ok (.istore 5, 2) := by decide +kernel
theorem dX2_median_80 : decode cX2_median 80 = .ok (.aload_n 0, 1) := by decide +kernel
theorem dX2_median_81 : decode cX2_median 81 = .ok (.iload 7, 2) := by decide +kernel
theorem dX2_median_83 : decode cX2_median 83 = .ok (.iload_n 1, 1) := by decide +kernel
theorem dX2_median_84 : decode cX2_median 84 = .ok (.iload_n 2, 1) := by decide +kernel
theorem dX2_median_85 : decode cX2_median 85 = .ok (.invokevirtual 58, 3) := by decide +kernel
theorem dX2_median_88 : decode cX2_median 88 = .ok (.ifCond .eq 27, 3) := by decide +kernel
theorem dX2_median_91 : decode cX2_median 91 = .ok (.aload_n 0, 1) := by decide +kernel
theorem dX2_median_92 : decode cX2_median 92 = .ok (.getfield 20, 3) := by decide +kernel
theorem dX2_median_95 : decode cX2_median 95 = .ok (.iload 7, 2) := by decide +kernel
theorem dX2_median_97 : decode cX2_median 97 = .ok (.iaload, 1) := by decide +kernel
theorem dX2_median_98 : decode cX2_median 98 = .ok (.aload_n 0, 1) := by decide +kernel
theorem dX2_median_99 : decode cX2_median 99 = .ok (.getfield 20, 3) := by decide +kernel
theorem dX2_median_102 : decode cX2_median 102 = .ok (.iload 4, 2) := by decide +kernel
theorem dX2_median_104 : decode cX2_median 104 = .ok (.iaload, 1) := by decide +kernel
theorem dX2_median_105 : decode cX2_median 105 = .ok (.if_icmp .ne 10, 3) := by decide +kernel
theorem dX2_median_108 : decode cX2_median 108 = .ok (.iload 6, 2) := by decide +kernel
theorem dX2_median_110 : decode cX2_median 110 = .ok (.iconst 1, 1) := by decide +kernel
theorem dX2_median_111 : decode cX2_median 111 = .ok (.iadd, 1) := by decide +kernel
theorem dX2_median_112 : decode cX2_median 112 = .ok (.goto 5, 3) := by decide +kernel
theorem dX2_median_115 : decode cX2_median 115 = .ok (.iload 6, 2) := by decide +kernel
theorem dX2_median_117 : decode cX2_median 117 = .ok (.istore 6, 2) := by decide +kernel
theorem dX2_median_119 : decode cX2_median 119 = .ok (.iinc 7 1, 3) := by decide +kernel
theorem dX2_median_122 : decode cX2_median 122 = .ok (.goto (-90), 3) := by decide +kernel
theorem dX2_median_125 : decode cX2_median 125 = .ok (.iload_n 3, 1) := by decide +kernel
theorem dX2_median_126 : decode cX2_median 126 = .ok (.iconst 1, 1) := by decide +kernel
theorem dX2_median_127 : decode cX2_median 127 = .ok (.isub, 1) := by decide +kernel
theorem dX2_median_128 : decode cX2_median 128 = .ok (.iconst 2, 1) := by decide +kernel
theorem dX2_median_129 : decode cX2_median 129 = .ok (.idiv, 1) := by decide +kernel
theorem dX2_median_130 : decode cX2_median 130 = .ok (.istore 7, 2) := by decide +kernel
theorem dX2_median_132 : decode cX2_median 132 = .ok (.aload_n 0, 1) := by decide +kernel
theorem dX2_median_133 : decode cX2_median 133 = .ok (.iload 4, 2) := by decide +kernel
theorem dX2_median_135 : decode cX2_median 135 = .ok (.iload_n 1, 1) := by decide +kernel
theorem dX2_median_136 : decode cX2_median 136 = .ok (.iload_n 2, 1) := by decide +kernel
theorem dX2_median_137 : decode cX2_median 137 = .ok (.invokevirtual 58, 3) := by decide +kernel
theorem dX2_median_140 : decode cX2_median 140 = .ok (.ifCond .eq 28, 3) := by decide +kernel
theorem dX2_median_143 : decode cX2_median 143 = .ok (.iload 5, 2) := by decide +kernel
theorem dX2_median_145 : decode cX2_median 145 = .ok (.iload 7, 2) := by decide +kernel
theorem dX2_median_147 : decode cX2_median 147 = .ok (.if_icmp .gt 21, 3) := by decide +kernel
theorem dX2_median_150 : decode cX2_median 150 = .ok (.iload 7, 2) := by decide +kernel
theorem dX2_median_152 : decode cX2_median 152 = .ok (.iload 5, 2) := by decide +kernel
theorem dX2_median_154 : decode cX2_median 154 = .ok (.iload 6, 2) := by decide +kernel
theorem dX2_median_156 : decode cX2_median 156 = .ok (.iadd, 1) := by decide +kernel
theorem dX2_median_157 : decode cX2_median 157 = .ok (.if_icmp .ge 11, 3) := by decide +kernel
theorem dX2_median_160 : decode cX2_median 160 = .ok (.aload_n 0, 1) := by decide +kernel
theorem dX2_median_161 : decode cX2_median 161 = .ok (.getfield 20, 3) := by decide +kernel
theorem dX2_median_164 : decode cX2_median 164 = .ok (.iload 4, 2) := by decide +kernel
theorem dX2_median_166 : decode cX2_median 166 = .ok (.iaload, 1) := by decide +kernel
theorem dX2_median_167 : decode cX2_median 167 = .ok (.ireturn, 1) := by decide +kernel
theorem dX2_median_168 : decode cX2_median 168 = .ok (.iinc 4 1, 3) := by decide +kernel
theorem dX2_median_171 : decode cX2_median 171 = .ok (.goto (-161), 3) := by decide +kernel
theorem dX2_median_174 : decode cX2_median 174 = .ok (.iconst 0, 1) := by decide +kernel
theorem dX2_median_175 : decode cX2_median 175 = .ok (.ireturn, 1) := by decide +kernel
set_option maxRecDepth 20000 in
theorem ggX2_whole_X2_kept : GoodIn wsX2_whole wsX2_kept := goodIn_r _ [6, 7, 8, 9, 10, 11, 5, 12, 13, 14, 15, 16, 17, 1, 35, 36, 37, 38, 39, 40] (by decide +kernel) (by decide +kernel)
set_option maxRecDepth 20000 in
theorem gX2_whole_X2_kept : GoodIn wsX2_whole (wsV RX2 43 RX2 yX2_kept wsX2_kept) := goodIn_app (goodIn_of _ (by decide +kernel)) ggX2_whole_X2_kept
set_option maxRecDepth 20000 in
theorem ggX2_whole_X2_begin : GoodIn wsX2_whole wsX2_begin := goodIn_r _ [21, 17, 1, 22, 23, 24, 5, 25, 9, 10, 11, 12, 7, 13, 14, 15, 16, 2, 3, 4, 6, 8, 35, 36, 37, 38, 39, 40] (by decide +kernel) (by decide +kernel)
set_option maxRecDepth 20000 in
theorem gX2_whole_X2_begin : GoodIn wsX2_whole (wsV RX2 54 RX2 yX2_begin wsX2_begin) := goodIn_app (goodIn_of _ (by decide +kernel)) ggX2_whole_X2_begin
set_option maxRecDepth 20000 in
theorem ggX2_whole_X2_figure : GoodIn wsX2_whole wsX2_figure := goodIn_r _ [29, 30, 7, 31, 32, 33, 5, 34, 2, 3, 4, 6, 8, 9, 10, 11, 12, 13, 14, 15, 16, 17, 1, 22, 23, 24, 25, 35, 36, 37, 38, 39, 40] (by decide +kernel) (by decide +kernel)
set_option maxRecDepth 20000 in
theorem gX2_whole_X2_figure : GoodIn wsX2_whole (wsV RX2 64 RX2 yX2_figure wsX2_figure) := goodIn_app (goodIn_of _ (by decide +kernel)) ggX2_whole_X2_figure
theorem dX2_whole_0 : decode cX2_whole 0 = .ok (.lconst 0, 1) := by decide +kernel
theorem dX2_whole_1 : decode cX2_whole 1 = .ok (.lstore 6, 2) := by decide +kernel
theorem dX2_whole_3 : decode cX2_whole 3 = .ok (.iconst 0, 1) := by decide +kernel
theorem dX2_whole_4 : decode cX2_whole 4 = .ok (.istore 8, 2) := by decide +kernel
theorem dX2_whole_6 : decode cX2_whole 6 = .ok (.iload 8, 2) := by decide +kernel
theorem dX2_whole_8 : decode cX2_whole 8 = .ok (.aload_n 0, 1) := by decide +kernel
theorem dX2_whole_9 : decode cX2_whole 9 = .ok (.iload_n 1, 1) := by decide +kernel
theorem dX2_whole_10 : decode cX2_whole 10 = .ok (.invokevirtual 43, 3) := by decide +kernel
theorem dX2_whole_13 : decode cX2_whole 13 = .ok (.if_icmp .ge 74, 3) := by decide +kernel
theorem dX2_whole_16 : decode cX2_whole 16 = .ok (.aload_n 0, 1) := by decide +kernel
theorem dX2_whole_17 : decode cX2_whole 17 = .ok (.iload_n 1, 1) := by decide +kernel
theorem dX2_whole_18 : decode cX2_whole 18 = .ok (.iload 8, 2) := by decide +kernel
theorem dX2_whole_20 : decode cX2_whole 20 = .ok (.invokevirtual 54, 3) := by decide +kernel
theorem dX2_whole_23 : decode cX2_whole 23 = .ok (.lstore 9, 2) := by decide +kernel
theorem dX2_whole_25 : decode cX2_whole 25 = .ok (.lload 9, 2) := by decide +kernel
theorem dX2_whole_27 : decode cX2_whole 27 = .ok (.aload_n 0, 1) := by decide +kernel
theorem dX2_whole_28 : decode cX2_whole 28 = .ok (.getfield 13, 3) := by decide +kernel
theorem dX2_whole_31 : decode cX2_whole 31 = .ok (.iload_n 1, 1) := by decide +kernel
theorem dX2_whole_32 : decode cX2_whole 32 = .ok (.laload, 1) := by decide +kernel
theorem dX2_whole_33 : decode cX2_whole 33 = .ok (.ladd, 1) := by decide +kernel
theorem dX2_whole_34 : decode cX2_whole 34 = .ok (.lconst 1, 1) := by decide +kernel
theorem dX2_whole_35 : decode cX2_whole 35 = .ok (.lsub, 1) := by decide +kernel
theorem dX2_whole_36 : decode cX2_whole 36 = .ok (.lstore 11, 2) := by decide +kernel
theorem dX2_whole_38 : decode cX2_whole 38 = .ok (.lload 9, 2) := by decide +kernel
theorem dX2_whole_40 : decode cX2_whole 40 = .ok (.iload_n 2, 1) := by decide +kernel
theorem dX2_whole_41 : decode cX2_whole 41 = .ok (.i2l, 1) := by decide +kernel
theorem dX2_whole_42 : decode cX2_whole 42 = .ok (.lcmp, 1) := by decide +kernel
theorem dX2_whole_43 : decode cX2_whole 43 = .ok (.ifCond .lt 34, 3) := by decide +kernel
theorem dX2_whole_46 : decode cX2_whole 46 = .ok (.lload 11, 2) := by decide +kernel
theorem dX2_whole_48 : decode cX2_whole 48 = .ok (.iload_n 3, 1) := by decide +kernel
theorem dX2_whole_49 : decode cX2_whole 49 = .ok (.i2l, 1) := by decide +kernel
theorem dX2_whole_50 : decode cX2_whole 50 = .ok (.lcmp, 1) := by decide +kernel
theorem dX2_whole_51 : decode cX2_whole 51 = .ok (.ifCond .gt 26, 3) := by decide +kernel
theorem dX2_whole_54 : decode cX2_whole 54 = .ok (.lload 11, 2) := by decide +kernel
theorem dX2_whole_56 : decode cX2_whole 56 = .ok (.lload 4, 2) := by decide +kernel
theorem dX2_whole_58 : decode cX2_whole 58 = .ok (.lcmp, 1) := by decide +kernel
theorem dX2_whole_59 : decode cX2_whole 59 = .ok (.ifCond .ge 18, 3) := by decide +kernel
theorem dX2_whole_62 : decode cX2_whole 62 = .ok (.lload 6, 2) := by decide +kernel
theorem dX2_whole_64 : decode cX2_whole 64 = .ok (.aload_n 0, 1) := by decide +kernel
theorem dX2_whole_65 : decode cX2_whole 65 = .ok (.iload_n 1, 1) := by decide +kernel
theorem dX2_whole_66 : decode cX2_whole 66 = .ok (.iload 8, 2) := by decide +kernel
theorem dX2_whole_68 : decode cX2_whole 68 = .ok (.iconst 3, 1) := by decide +kernel
theorem dX2_whole_69 : decode cX2_whole 69 = .ok (.invokevirtual 64, 3) := by decide +kernel
theorem dX2_whole_72 : decode cX2_whole 72 = .ok (.i2l, 1) := by decide +kernel
theorem dX2_whole_73 : decode cX2_whole 73 = .ok (.ladd, 1) := by decide +kernel
theorem dX2_whole_74 : decode cX2_whole 74 = .ok (.goto 5, 3) := by decide +kernel
theorem dX2_whole_77 : decode cX2_whole 77 = .ok (.lload 6, 2) := by decide +kernel
theorem dX2_whole_79 : decode cX2_whole 79 = .ok (.lstore 6, 2) := by decide +kernel
theorem dX2_whole_81 : decode cX2_whole 81 = .ok (.iinc 8 1, 3) := by decide +kernel
theorem dX2_whole_84 : decode cX2_whole 84 = .ok (.goto (-78), 3) := by decide +kernel
theorem dX2_whole_87 : decode cX2_whole 87 = .ok (.lload 6, 2) := by decide +kernel
theorem dX2_whole_89 : decode cX2_whole 89 = .ok (.lreturn, 1) := by decide +kernel
set_option maxRecDepth 20000 in
theorem ggX2_reach_X2_kept : GoodIn wsX2_reach wsX2_kept := goodIn_r _ [7, 1, 8, 9, 10, 11, 6, 12, 13, 14, 15, 16, 2, 17, 47, 48, 49, 50, 51, 52] (by decide +kernel) (by decide +kernel)
set_option maxRecDepth 20000 in
theorem gX2_reach_X2_kept : GoodIn wsX2_reach (wsV RX2 43 RX2 yX2_kept wsX2_kept) := goodIn_app (goodIn_of _ (by decide +kernel)) ggX2_reach_X2_kept
set_option maxRecDepth 20000 in
theorem ggX2_reach_X2_begin : GoodIn wsX2_reach wsX2_begin := goodIn_r _ [21, 2, 17, 22, 23, 24, 6, 25, 9, 10, 11, 12, 1, 13, 14, 15, 16, 3, 4, 5, 7, 8, 47, 48, 49, 50, 51, 52] (by decide +kernel) (by decide +kernel)
set_option maxRecDepth 20000 in
theorem gX2_reach_X2_begin : GoodIn wsX2_reach (wsV RX2 54 RX2 yX2_begin wsX2_begin) := goodIn_app (goodIn_of _ (by decide +kernel)) ggX2_reach_X2_begin
set_option maxRecDepth 20000 in
theorem ggX2_reach_X2_many : GoodIn wsX2_reach wsX2_many := goodIn_r _ [29, 1, 30, 31, 32, 6, 33, 2, 3, 4, 5, 7, 8, 9, 10, 11, 12, 13, 14, 15, 16, 17, 47, 48, 49, 50, 51, 52] (by decide +kernel) (by decide +kernel)
set_option maxRecDepth 20000 in
theorem gX2_reach_X2_many : GoodIn wsX2_reach (wsV RX2 61 RX2 yX2_many wsX2_many) := goodIn_app (goodIn_of _ (by decide +kernel)) ggX2_reach_X2_many
set_option maxRecDepth 20000 in
theorem ggX2_reach_X2_whole : GoodIn wsX2_reach wsX2_whole := goodIn_r _ [37, 17, 3, 4, 5, 6, 7, 1, 8, 9, 10, 11, 12, 13, 14, 15, 16, 2, 18, 19, 20, 21, 22, 23, 24, 25, 38, 39, 40, 41, 42, 43, 44, 45, 46, 47, 48, 49, 50, 51, 52] (by decide +kernel) (by decide +kernel)
set_option maxRecDepth 20000 in
theorem gX2_reach_X2_whole : GoodIn wsX2_reach (wsV RX2 67 RX2 yX2_whole wsX2_whole) := goodIn_app (goodIn_of _ (by decide +kernel)) ggX2_reach_X2_whole
theorem dX2_reach_0 : decode cX2_reach 0 = .ok (.aload_n 0, 1) := by decide +kernel
theorem dX2_reach_1 : decode cX2_reach 1 = .ok (.getfield 32, 3) := by decide +kernel
theorem dX2_reach_4 : decode cX2_reach 4 = .ok (.ifCond .ne 5, 3) := by decide +kernel
theorem dX2_reach_7 : decode cX2_reach 7 = .ok (.lconst 0, 1) := by decide +kernel
theorem dX2_reach_8 : decode cX2_reach 8 = .ok (.lreturn, 1) := by decide +kernel
theorem dX2_reach_9 : decode cX2_reach 9 = .ok (.aload_n 0, 1) := by decide +kernel
theorem dX2_reach_10 : decode cX2_reach 10 = .ok (.getfield 17, 3) := by decide +kernel
theorem dX2_reach_13 : decode cX2_reach 13 = .ok (.aload_n 0, 1) := by decide +kernel
theorem dX2_reach_14 : decode cX2_reach 14 = .ok (.getfield 32, 3) := by decide +kernel
theorem dX2_reach_17 : decode cX2_reach 17 = .ok (.aload_n 0, 1) := by decide +kernel
theorem dX2_reach_18 : decode cX2_reach 18 = .ok (.iconst 0, 1) := by decide +kernel
theorem dX2_reach_19 : decode cX2_reach 19 = .ok (.invokevirtual 43, 3) := by decide +kernel
theorem dX2_reach_22 : decode cX2_reach 22 = .ok (.isub, 1) := by decide +kernel
theorem dX2_reach_23 : decode cX2_reach 23 = .ok (.iaload, 1) := by decide +kernel
theorem dX2_reach_24 : decode cX2_reach 24 = .ok (.i2l, 1) := by decide +kernel
theorem dX2_reach_25 : decode cX2_reach 25 = .ok (.lstore_n 3, 1) := by decide +kernel
theorem dX2_reach_26 : decode cX2_reach 26 = .ok (.aload_n 0, 1) := by decide +kernel
theorem dX2_reach_27 : decode cX2_reach 27 = .ok (.iconst 1, 1) := by decide +kernel
theorem dX2_reach_28 : decode cX2_reach 28 = .ok (.iconst 0, 1) := by decide +kernel
theorem dX2_reach_29 : decode cX2_reach 29 = .ok (.invokevirtual 54, 3) := by decide +kernel
theorem dX2_reach_32 : decode cX2_reach 32 = .ok (.lstore 5, 2) := by decide +kernel
theorem dX2_reach_34 : decode cX2_reach 34 = .ok (.aload_n 0, 1) := by decide +kernel
theorem dX2_reach_35 : decode cX2_reach 35 = .ok (.iload_n 1, 1) := by decide +kernel
theorem dX2_reach_36 : decode cX2_reach 36 = .ok (.iload_n 2, 1) := by decide +kernel
theorem dX2_reach_37 : decode cX2_reach 37 = .ok (.invokevirtual 61, 3) := by decide +kernel
theorem dX2_reach_40 : decode cX2_reach 40 = .ok (.i2l, 1) := by decide +kernel
theorem dX2_reach_41 : decode cX2_reach 41 = .ok (.aload_n 0, 1) := by decide +kernel
theorem dX2_reach_42 : decode cX2_reach 42 = .ok (.iconst 1, 1) := by decide +kernel
theorem dX2_reach_43 : decode cX2_reach 43 = .ok (.iload_n 1, 1) := by decide +kernel
theorem dX2_reach_44 : decode cX2_reach 44 = .ok (.iload_n 2, 1) := by decide +kernel
theorem dX2_reach_45 : decode cX2_reach 45 = .ok (.lload_n 3, 1) := by decide +kernel
theorem dX2_reach_46 : decode cX2_reach 46 = .ok (.invokevirtual 67, 3) := by decide +kernel
theorem dX2_reach_49 : decode cX2_reach 49 = .ok (.ladd, 1) := by decide +kernel
theorem dX2_reach_50 : decode cX2_reach 50 = .ok (.aload_n 0, 1) := by decide +kernel
theorem dX2_reach_51 : decode cX2_reach 51 = .ok (.iconst 2, 1) := by decide +kernel
theorem dX2_reach_52 : decode cX2_reach 52 = .ok (.iload_n 1, 1) := by decide +kernel
theorem dX2_reach_53 : decode cX2_reach 53 = .ok (.iload_n 2, 1) := by decide +kernel
theorem dX2_reach_54 : decode cX2_reach 54 = .ok (.lload 5, 2) := by decide +kernel
theorem dX2_reach_56 : decode cX2_reach 56 = .ok (.lload_n 3, 1) := by decide +kernel
theorem dX2_reach_57 : decode cX2_reach 57 = .ok (.lcmp, 1) := by decide +kernel
theorem dX2_reach_58 : decode cX2_reach 58 = .ok (.ifCond .ge 8, 3) := by decide +kernel
theorem dX2_reach_61 : decode cX2_reach 61 = .ok (.lload 5, 2) := by decide +kernel
theorem dX2_reach_63 : decode cX2_reach 63 = .ok (.goto 4, 3) := by decide +kernel
theorem dX2_reach_66 : decode cX2_reach 66 = .ok (.lload_n 3, 1) := by decide +kernel
theorem dX2_reach_67 : decode cX2_reach 67 = .ok (.invokevirtual 67, 3) := by decide +kernel
theorem dX2_reach_70 : decode cX2_reach 70 = .ok (.ladd, 1) := by decide +kernel
theorem dX2_reach_71 : decode cX2_reach 71 = .ok (.lreturn, 1) := by decide +kernel
theorem dX2_sound_0 : decode cX2_sound 0 = .ok (.iconst 1, 1) := by decide +kernel
theorem dX2_sound_1 : decode cX2_sound 1 = .ok (.ireturn, 1) := by decide +kernel
theorem dJ9_max_7cf53_0 : decode cJ9_max_7cf53 0 = .ok (.iload_n 0, 1) := by decide +kernel
theorem dJ9_max_7cf53_1 : decode cJ9_max_7cf53 1 = .ok (.iload_n 1, 1) := by decide +kernel
theorem dJ9_max_7cf53_2 : decode cJ9_max_7cf53 2 = .ok (.if_icmp .lt 7, 3) := by decide +kernel
theorem dJ9_max_7cf53_5 : decode cJ9_max_7cf53 5 = .ok (.iload_n 0, 1) := by decide +kernel
theorem dJ9_max_7cf53_6 : decode cJ9_max_7cf53 6 = .ok (.goto 4, 3) := by decide +kernel
theorem dJ9_max_7cf53_9 : decode cJ9_max_7cf53 9 = .ok (.iload_n 1, 1) := by decide +kernel
theorem dJ9_max_7cf53_10 : decode cJ9_max_7cf53 10 = .ok (.ireturn, 1) := by decide +kernel
theorem dJ9_min_7cf53_0 : decode cJ9_min_7cf53 0 = .ok (.iload_n 0, 1) := by decide +kernel
theorem dJ9_min_7cf53_1 : decode cJ9_min_7cf53 1 = .ok (.iload_n 1, 1) := by decide +kernel
theorem dJ9_min_7cf53_2 : decode cJ9_min_7cf53 2 = .ok (.if_icmp .gt 7, 3) := by decide +kernel
theorem dJ9_min_7cf53_5 : decode cJ9_min_7cf53 5 = .ok (.iload_n 0, 1) := by decide +kernel
theorem dJ9_min_7cf53_6 : decode cJ9_min_7cf53 6 = .ok (.goto 4, 3) := by decide +kernel
theorem dJ9_min_7cf53_9 : decode cJ9_min_7cf53 9 = .ok (.iload_n 1, 1) := by decide +kernel
theorem dJ9_min_7cf53_10 : decode cJ9_min_7cf53 10 = .ok (.ireturn, 1) := by decide +kernel
theorem dJ9_min_f86c9_0 : decode cJ9_min_f86c9 0 = .ok (.lload_n 0, 1) := by decide +kernel
theorem dJ9_min_f86c9_1 : decode cJ9_min_f86c9 1 = .ok (.lload_n 2, 1) := by decide +kernel
theorem dJ9_min_f86c9_2 : decode cJ9_min_f86c9 2 = .ok (.lcmp, 1) := by decide +kernel
theorem dJ9_min_f86c9_3 : decode cJ9_min_f86c9 3 = .ok (.ifCond .gt 7, 3) := by decide +kernel
theorem dJ9_min_f86c9_6 : decode cJ9_min_f86c9 6 = .ok (.lload_n 0, 1) := by decide +kernel
theorem dJ9_min_f86c9_7 : decode cJ9_min_f86c9 7 = .ok (.goto 4, 3) := by decide +kernel
theorem dJ9_min_f86c9_10 : decode cJ9_min_f86c9 10 = .ok (.lload_n 2, 1) := by decide +kernel
theorem dJ9_min_f86c9_11 : decode cJ9_min_f86c9 11 = .ok (.lreturn, 1) := by decide +kernel
end
section
theorem dL_cell_0 : decode cL_cell 0 = .ok (.iload_n 1, 1) := by decide +kernel
theorem dL_cell_1 : decode cL_cell 1 = .ok (.aload_n 0, 1) := by decide +kernel
theorem dL_cell_2 : decode cL_cell 2 = .ok (.arraylength, 1) := by decide +kernel
theorem dL_cell_3 : decode cL_cell 3 = .ok (.if_icmp .ge 9, 3) := by decide +kernel
theorem dL_cell_6 : decode cL_cell 6 = .ok (.aload_n 0, 1) := by decide +kernel
theorem dL_cell_7 : decode cL_cell 7 = .ok (.iload_n 1, 1) := by decide +kernel
theorem dL_cell_8 : decode cL_cell 8 = .ok (.iaload, 1) := by decide +kernel
theorem dL_cell_9 : decode cL_cell 9 = .ok (.goto 4, 3) := by decide +kernel
theorem dL_cell_12 : decode cL_cell 12 = .ok (.iconst 0, 1) := by decide +kernel
theorem dL_cell_13 : decode cL_cell 13 = .ok (.ireturn, 1) := by decide +kernel
set_option maxRecDepth 20000 in
theorem ggL_law_L_cell : GoodIn wsL_law wsL_cell := goodIn_r _ [9] (by decide +kernel) (by decide +kernel)
set_option maxRecDepth 20000 in
theorem gL_law_L_cell : GoodIn wsL_law (va_wsS RL 9 yL_cell wsL_cell) := goodIn_app (goodIn_of _ (by decide +kernel)) ggL_law_L_cell
set_option maxRecDepth 20000 in
theorem ggL_law_X1_init : GoodIn wsL_law wsX1_init := goodIn_r _ [12, 13, 14, 15, 16, 17, 18, 19, 20, 21, 22, 23, 24, 25, 26, 27, 2, 28, 29, 30, 31, 32, 33, 34, 35, 36, 37, 38, 39, 40, 41, 42, 43, 44, 45, 284, 285, 286, 287, 288, 295, 296, 297, 298, 299, 300, 301] (by decide +kernel) (by decide +kernel)
set_option maxRecDepth 20000 in
theorem gL_law_X1_init : GoodIn wsL_law (wsX1_init) := ggL_law_X1_init
set_option maxRecDepth 20000 in
theorem ggL_law_X2_init : GoodIn wsL_law wsX2_init := goodIn_r _ [48, 49, 14, 15, 24, 50, 51, 52, 53, 54, 55, 56, 57, 5, 58, 289, 290, 291, 292, 293, 294] (by decide +kernel) (by decide +kernel)
set_option maxRecDepth 20000 in
theorem gL_law_X2_init : GoodIn wsL_law (wsX2_init) := ggL_law_X2_init
set_option maxRecDepth 20000 in
theorem ggL_law_X1_append : GoodIn wsL_law wsX1_append := goodIn_r _ [62, 16, 21, 22, 23, 63, 64, 65, 20, 66, 42, 67, 45, 68, 69, 70, 71, 43, 72, 73, 74, 75, 76, 77, 78, 79, 80, 41, 81, 82, 83, 84, 40, 85, 86, 87, 88, 30, 31, 32, 89, 34, 35, 284, 285, 286, 287, 288, 295, 296, 297, 298, 299, 300, 301] (by decide +kernel) (by decide +kernel)
set_option maxRecDepth 20000 in
theorem gL_law_X1_append : GoodIn wsL_law (wsV RL 21 RX1 yX1_append wsX1_append) := goodIn_app (goodIn_of _ (by decide +kernel)) ggL_law_X1_append
set_option maxRecDepth 20000 in
theorem ggL_law_X2_append : GoodIn wsL_law wsX2_append := goodIn_r _ [93, 94, 53, 54, 289, 290, 291, 292, 293, 294] (by decide +kernel) (by decide +kernel)
set_option maxRecDepth 20000 in
theorem gL_law_X2_append : GoodIn wsL_law (wsV RL 25 RX2 yX2_append wsX2_append) := goodIn_app (goodIn_of _ (by decide +kernel)) ggL_law_X2_append
set_option maxRecDepth 20000 in
theorem ggL_law_X1_count : GoodIn wsL_law wsX1_count := goodIn_r _ [98, 99, 100, 101, 2, 102, 21, 22, 23, 103, 104, 105, 20, 106, 67, 284, 285, 286, 287, 288, 295, 296, 297, 298, 299, 300, 301] (by decide +kernel) (by decide +kernel)
set_option maxRecDepth 20000 in
theorem gL_law_X1_count : GoodIn wsL_law (wsV RL 26 RX1 yX1_count wsX1_count) := goodIn_app (goodIn_of _ (by decide +kernel)) ggL_law_X1_count
set_option maxRecDepth 20000 in
theorem ggL_law_X2_count : GoodIn wsL_law wsX2_count := goodIn_r _ [110, 111, 112, 113, 5, 114, 94, 50, 115, 116, 117, 118, 119, 120, 121, 122, 53, 52, 289, 290, 291, 292, 293, 294] (by decide +kernel) (by decide +kernel)
set_option maxRecDepth 20000 in
theorem gL_law_X2_count : GoodIn wsL_law (wsV RL 30 RX2 yX2_count wsX2_count) := goodIn_app (goodIn_of _ (by decide +kernel)) ggL_law_X2_count
set_option maxRecDepth 20000 in
theorem ggL_law_X1_start : GoodIn wsL_law wsX1_start := goodIn_r _ [126, 99, 100, 101, 2, 102, 21, 22, 23, 127, 69, 70, 20, 71, 43, 72, 73, 74, 75, 67, 76, 77, 78, 79, 80, 41, 284, 285, 286, 287, 288, 295, 296, 297, 298, 299, 300, 301] (by decide +kernel) (by decide +kernel)
set_option maxRecDepth 20000 in
theorem gL_law_X1_start : GoodIn wsL_law (wsV RL 31 RX1 yX1_start wsX1_start) := goodIn_app (goodIn_of _ (by decide +kernel)) ggL_law_X1_start
set_option maxRecDepth 20000 in
theorem ggL_law_X2_start : GoodIn wsL_law wsX2_start := goodIn_r _ [131, 132, 133, 134, 5, 135, 111, 112, 113, 114, 94, 50, 115, 116, 117, 118, 119, 120, 121, 122, 53, 52, 136, 137, 138, 139, 140, 141, 142, 143, 289, 290, 291, 292, 293, 294] (by decide +kernel) (by decide +kernel)
set_option maxRecDepth 20000 in
theorem gL_law_X2_start : GoodIn wsL_law (wsV RL 34 RX2 yX2_start wsX2_start) := goodIn_app (goodIn_of _ (by decide +kernel)) ggL_law_X2_start
set_option maxRecDepth 20000 in
theorem ggL_law_X1_figure : GoodIn wsL_law wsX1_figure := goodIn_r _ [147, 99, 100, 101, 2, 102, 21, 22, 23, 148, 149, 150, 20, 151, 45, 72, 73, 74, 75, 67, 76, 77, 78, 79, 80, 41, 284, 285, 286, 287, 288, 295, 296, 297, 298, 299, 300, 301] (by decide +kernel) (by decide +kernel)
set_option maxRecDepth 20000 in
theorem gL_law_X1_figure : GoodIn wsL_law (wsV RL 35 RX1 yX1_figure wsX1_figure) := goodIn_app (goodIn_of _ (by decide +kernel)) ggL_law_X1_figure
set_option maxRecDepth 20000 in
theorem ggL_law_X2_figure : GoodIn wsL_law wsX2_figure := goodIn_r _ [155, 54, 94, 132, 133, 134, 5, 135, 111, 112, 113, 114, 50, 115, 116, 117, 118, 119, 120, 121, 122, 53, 52, 140, 141, 142, 143, 289, 290, 291, 292, 293, 294] (by decide +kernel) (by decide +kernel)
set_option maxRecDepth 20000 in
theorem gL_law_X2_figure : GoodIn wsL_law (wsV RL 39 RX2 yX2_figure wsX2_figure) := goodIn_app (goodIn_of _ (by decide +kernel)) ggL_law_X2_figure
set_option maxRecDepth 20000 in
theorem ggL_law_X1_many : GoodIn wsL_law wsX1_many := goodIn_r _ [159, 160, 161, 162, 2, 163, 21, 164, 165, 166, 20, 167, 67, 68, 69, 70, 71, 43, 72, 73, 74, 75, 76, 77, 78, 79, 80, 41, 168, 169, 170, 171, 284, 285, 286, 287, 288, 295, 296, 297, 298, 299, 300, 301] (by decide +kernel) (by decide +kernel)
set_option maxRecDepth 20000 in
theorem gL_law_X1_many : GoodIn wsL_law (wsV RL 40 RX1 yX1_many wsX1_many) := goodIn_app (goodIn_of _ (by decide +kernel)) ggL_law_X1_many
set_option maxRecDepth 20000 in
theorem ggL_law_X2_many : GoodIn wsL_law wsX2_many := goodIn_r _ [175, 94, 176, 177, 178, 5, 179, 53, 111, 112, 113, 114, 50, 115, 116, 117, 118, 119, 120, 121, 122, 52, 289, 290, 291, 292, 293, 294] (by decide +kernel) (by decide +kernel)
set_option maxRecDepth 20000 in
theorem gL_law_X2_many : GoodIn wsL_law (wsV RL 43 RX2 yX2_many wsX2_many) := goodIn_app (goodIn_of _ (by decide +kernel)) ggL_law_X2_many
set_option maxRecDepth 20000 in
theorem ggL_law_X1_extreme : GoodIn wsL_law wsX1_extreme := goodIn_r _ [183, 21, 160, 161, 162, 2, 163, 164, 165, 166, 20, 167, 67, 68, 69, 70, 71, 43, 72, 73, 74, 75, 76, 77, 78, 79, 80, 41, 168, 169, 170, 171, 184, 185, 186, 187, 188, 149, 150, 151, 45, 85, 86, 87, 88, 30, 31, 32, 89, 34, 35, 284, 285, 286, 287, 288, 295, 296, 297, 298, 299, 300, 301] (by decide +kernel) (by decide +kernel)
set_option maxRecDepth 20000 in
theorem gL_law_X1_extreme : GoodIn wsL_law (wsV RL 44 RX1 yX1_extreme wsX1_extreme) := goodIn_app (goodIn_of _ (by decide +kernel)) ggL_law_X1_extreme
set_option maxRecDepth 20000 in
theorem ggL_law_X2_extreme : GoodIn wsL_law wsX2_extreme := goodIn_r _ [192, 94, 54, 176, 177, 178, 5, 179, 53, 111, 112, 113, 114, 50, 115, 116, 117, 118, 119, 120, 121, 122, 52, 289, 290, 291, 292, 293, 294] (by decide +kernel) (by decide +kernel)
set_option maxRecDepth 20000 in
theorem gL_law_X2_extreme : GoodIn wsL_law (wsV RL 47 RX2 yX2_extreme wsX2_extreme) := goodIn_app (goodIn_of _ (by decide +kernel)) ggL_law_X2_extreme
set_option maxRecDepth 20000 in
theorem ggL_law_X1_sum : GoodIn wsL_law wsX1_sum := goodIn_r _ [196, 160, 161, 162, 2, 163, 21, 164, 165, 166, 20, 167, 67, 68, 69, 70, 71, 43, 72, 73, 74, 75, 76, 77, 78, 79, 80, 41, 168, 169, 170, 171, 197, 198, 199, 200, 148, 149, 150, 151, 45, 284, 285, 286, 287, 288, 295, 296, 297, 298, 299, 300, 301] (by decide +kernel) (by decide +kernel)
set_option maxRecDepth 20000 in
theorem gL_law_X1_sum : GoodIn wsL_law (wsV RL 48 RX1 yX1_sum wsX1_sum) := goodIn_app (goodIn_of _ (by decide +kernel)) ggL_law_X1_sum
set_option maxRecDepth 20000 in
theorem ggL_law_X2_sum : GoodIn wsL_law wsX2_sum := goodIn_r _ [204, 94, 54, 176, 177, 178, 5, 179, 53, 111, 112, 113, 114, 50, 115, 116, 117, 118, 119, 120, 121, 122, 52, 289, 290, 291, 292, 293, 294] (by decide +kernel) (by decide +kernel)
set_option maxRecDepth 20000 in
theorem gL_law_X2_sum : GoodIn wsL_law (wsV RL 52 RX2 yX2_sum wsX2_sum) := goodIn_app (goodIn_of _ (by decide +kernel)) ggL_law_X2_sum
set_option maxRecDepth 20000 in
theorem ggL_law_X1_at : GoodIn wsL_law wsX1_at := goodIn_r _ [208, 21, 164, 165, 166, 20, 167, 67, 68, 69, 70, 71, 43, 72, 73, 74, 75, 76, 77, 78, 79, 80, 41, 103, 104, 105, 106, 209, 210, 211, 2, 212, 127, 197, 198, 199, 200, 148, 149, 150, 151, 45, 213, 214, 215, 216, 284, 285, 286, 287, 288, 295, 296, 297, 298, 299, 300, 301] (by decide +kernel) (by decide +kernel)
set_option maxRecDepth 20000 in
theorem gL_law_X1_at : GoodIn wsL_law (wsV RL 53 RX1 yX1_at wsX1_at) := goodIn_app (goodIn_of _ (by decide +kernel)) ggL_law_X1_at
set_option maxRecDepth 20000 in
theorem ggL_law_X2_at : GoodIn wsL_law wsX2_at := goodIn_r _ [220, 94, 53, 54, 111, 112, 113, 5, 114, 50, 115, 116, 117, 118, 119, 120, 121, 122, 52, 289, 290, 291, 292, 293, 294] (by decide +kernel) (by decide +kernel)
set_option maxRecDepth 20000 in
theorem gL_law_X2_at : GoodIn wsL_law (wsV RL 57 RX2 yX2_at wsX2_at) := goodIn_app (goodIn_of _ (by decide +kernel)) ggL_law_X2_at
set_option maxRecDepth 20000 in
theorem ggL_law_X1_steepest : GoodIn wsL_law wsX1_steepest := goodIn_r _ [224, 160, 161, 162, 2, 163, 21, 164, 165, 166, 20, 167, 67, 68, 69, 70, 71, 43, 72, 73, 74, 75, 76, 77, 78, 79, 80, 41, 168, 169, 170, 171, 213, 214, 215, 216, 197, 198, 199, 200, 148, 149, 150, 151, 45, 284, 285, 286, 287, 288, 295, 296, 297, 298, 299, 300, 301] (by decide +kernel) (by decide +kernel)
set_option maxRecDepth 20000 in
theorem gL_law_X1_steepest : GoodIn wsL_law (wsV RL 58 RX1 yX1_steepest wsX1_steepest) := goodIn_app (goodIn_of _ (by decide +kernel)) ggL_law_X1_steepest
set_option maxRecDepth 20000 in
theorem ggL_law_X2_steepest : GoodIn wsL_law wsX2_steepest := goodIn_r _ [228, 94, 54, 111, 112, 113, 5, 114, 50, 115, 116, 117, 118, 119, 120, 121, 122, 53, 52, 176, 177, 178, 179, 289, 290, 291, 292, 293, 294] (by decide +kernel) (by decide +kernel)
set_option maxRecDepth 20000 in
theorem gL_law_X2_steepest : GoodIn wsL_law (wsV RL 61 RX2 yX2_steepest wsX2_steepest) := goodIn_app (goodIn_of _ (by decide +kernel)) ggL_law_X2_steepest
set_option maxRecDepth 20000 in
theorem ggL_law_X1_median : GoodIn wsL_law wsX1_median := goodIn_r _ [232, 25, 160, 161, 162, 2, 163, 21, 164, 165, 166, 20, 167, 67, 68, 69, 70, 71, 43, 72, 73, 74, 75, 76, 77, 78, 79, 80, 41, 168, 169, 170, 171, 197, 198, 199, 200, 148, 149, 150, 151, 45, 233, 234, 235, 236, 284, 285, 286, 287, 288, 295, 296, 297, 298, 299, 300, 301] (by decide +kernel) (by decide +kernel)
set_option maxRecDepth 20000 in
theorem gL_law_X1_median : GoodIn wsL_law (wsV RL 62 RX1 yX1_median wsX1_median) := goodIn_app (goodIn_of _ (by decide +kernel)) ggL_law_X1_median
set_option maxRecDepth 20000 in
theorem ggL_law_X2_median : GoodIn wsL_law wsX2_median := goodIn_r _ [240, 94, 54, 241, 173, 174, 5, 175, 176, 177, 178, 179, 53, 111, 112, 113, 114, 50, 115, 116, 117, 118, 119, 120, 121, 122, 52, 289, 290, 291, 292, 293, 294] (by decide +kernel) (by decide +kernel)
set_option maxRecDepth 20000 in
theorem gL_law_X2_median : GoodIn wsL_law (wsV RL 65 RX2 yX2_median wsX2_median) := goodIn_app (goodIn_of _ (by decide +kernel)) ggL_law_X2_median
set_option maxRecDepth 20000 in
theorem ggL_law_X1_reach : GoodIn wsL_law wsX1_reach := goodIn_r _ [245, 21, 246, 247, 31, 248, 22, 23, 249, 250, 251, 20, 252, 67, 68, 69, 70, 71, 43, 72, 73, 74, 75, 76, 77, 78, 79, 80, 41, 253, 254, 255, 256, 42, 188, 149, 150, 151, 45, 127, 284, 285, 286, 287, 288, 295, 296, 297, 298, 299, 300, 301] (by decide +kernel) (by decide +kernel)
set_option maxRecDepth 20000 in
theorem gL_law_X1_reach : GoodIn wsL_law (wsV RL 66 RX1 yX1_reach wsX1_reach) := goodIn_app (goodIn_of _ (by decide +kernel)) ggL_law_X1_reach
set_option maxRecDepth 20000 in
theorem ggL_law_X2_reach : GoodIn wsL_law wsX2_reach := goodIn_r _ [260, 94, 53, 111, 112, 113, 5, 114, 50, 115, 116, 117, 118, 119, 120, 121, 122, 52, 136, 137, 138, 139, 140, 141, 142, 143, 241, 173, 174, 175, 176, 177, 178, 179, 261, 262, 263, 264, 265, 153, 154, 155, 54, 132, 133, 134, 135, 289, 290, 291, 292, 293, 294] (by decide +kernel) (by decide +kernel)
set_option maxRecDepth 20000 in
theorem gL_law_X2_reach : GoodIn wsL_law (wsV RL 69 RX2 yX2_reach wsX2_reach) := goodIn_app (goodIn_of _ (by decide +kernel)) ggL_law_X2_reach
set_option maxRecDepth 20000 in
theorem ggL_law_X1_sound : GoodIn wsL_law wsX1_sound := goodIn_r _ [269, 23, 22, 21, 270, 271, 272, 20, 273, 67, 40, 68, 69, 70, 71, 43, 72, 73, 74, 75, 76, 77, 78, 79, 80, 41, 274, 165, 166, 167, 253, 254, 255, 256, 42, 275, 276, 277, 278, 188, 149, 150, 151, 45, 279, 185, 186, 187, 85, 86, 87, 88, 30, 31, 32, 89, 34, 35, 284, 285, 286, 287, 288, 295, 296, 297, 298, 299, 300, 301] (by decide +kernel) (by decide +kernel)
set_option maxRecDepth 20000 in
theorem gL_law_X1_sound : GoodIn wsL_law (wsV RL 70 RX1 yX1_sound wsX1_sound) := goodIn_app (goodIn_of _ (by decide +kernel)) ggL_law_X1_sound
set_option maxRecDepth 20000 in
theorem ggL_law_X2_sound : GoodIn wsL_law wsX2_sound := goodIn_r _ [283] (by decide +kernel) (by decide +kernel)
set_option maxRecDepth 20000 in
theorem gL_law_X2_sound : GoodIn wsL_law (wsV RL 74 RX2 yX2_sound wsX2_sound) := goodIn_app (goodIn_of _ (by decide +kernel)) ggL_law_X2_sound
theorem dL_law_0 : decode cL_law 0 = .ok (.new 7, 3) := by decide +kernel
theorem dL_law_3 : decode cL_law 3 = .ok (.dup, 1) := by decide +kernel
theorem dL_law_4 : decode cL_law 4 = .ok (.aload_n 0, 1) := by decide +kernel
theorem dL_law_5 : decode cL_law 5 = .ok (.iconst 0, 1) := by decide +kernel
theorem dL_law_6 : decode cL_law 6 = .ok (.invokestatic 9, 3) := by decide +kernel
theorem dL_law_9 : decode cL_law 9 = .ok (.aload_n 0, 1) := by decide +kernel
theorem dL_law_10 : decode cL_law 10 = .ok (.iconst 1, 1) := by decide +kernel
theorem dL_law_11 : decode cL_law 11 = .ok (.invokestatic 9, 3) := by decide +kernel
theorem dL_law_14 : decode cL_law 14 = .ok (.aload_n 0, 1) := by decide +kernel
theorem dL_law_15 : decode cL_law 15 = .ok (.iconst 2, 1) := by decide +kernel
theorem dL_law_16 : decode cL_law 16 = .ok (.invokestatic 9, 3) := by decide +kernel
theorem dL_law_19 : decode cL_law 19 = .ok (.aload_n 0, 1) := by decide +kernel
theorem dL_law_20 : decode cL_law 20 = .ok (.iconst 3, 1) := by decide +kernel
theorem dL_law_21 : decode cL_law 21 = .ok (.invokestatic 9, 3) := by decide +kernel
theorem dL_law_24 : decode cL_law 24 = .ok (.aload_n 0, 1) := by decide +kernel
theorem dL_law_25 : decode cL_law 25 = .ok (.iconst 4, 1) := by decide +kernel
theorem dL_law_26 : decode cL_law 26 = .ok (.invokestatic 9, 3) := by decide +kernel
theorem dL_law_29 : decode cL_law 29 = .ok (.invokespecial 15, 3) := by decide +kernel
theorem dL_law_32 : decode cL_law 32 = .ok (.astore_n 1, 1) := by decide +kernel
theorem dL_law_33 : decode cL_law 33 = .ok (.new 18, 3) := by decide +kernel
theorem dL_law_36 : decode cL_law 36 = .ok (.dup, 1) := by decide +kernel
theorem dL_law_37 : decode cL_law 37 = .ok (.aload_n 0, 1) := by decide +kernel
theorem dL_law_38 : decode cL_law 38 = .ok (.iconst 0, 1) := by decide +kernel
theorem dL_law_39 : decode cL_law 39 = .ok (.invokestatic 9, 3) := by decide +kernel
theorem dL_law_42 : decode cL_law 42 = .ok (.aload_n 0, 1) := by decide +kernel
theorem dL_law_43 : decode cL_law 43 = .ok (.iconst 1, 1) := by decide +kernel
theorem dL_law_44 : decode cL_law 44 = .ok (.invokestatic 9, 3) := by decide +kernel
theorem dL_law_47 : decode cL_law 47 = .ok (.aload_n 0, 1) := by decide +kernel
theorem dL_law_48 : decode cL_law 48 = .ok (.iconst 2, 1) := by decide +kernel
theorem dL_law_49 : decode cL_law 49 = .ok (.invokestatic 9, 3) := by decide +kernel
theorem dL_law_52 : decode cL_law 52 = .ok (.aload_n 0, 1) := by decide +kernel
theorem dL_law_53 : decode cL_law 53 = .ok (.iconst 3, 1) := by decide +kernel
theorem dL_law_54 : decode cL_law 54 = .ok (.invokestatic 9, 3) := by decide +kernel
theorem dL_law_57 : decode cL_law 57 = .ok (.aload_n 0, 1) := by decide +kernel
theorem dL_law_58 : decode cL_law 58 = .ok (.iconst 4, 1) := by decide +kernel
theorem dL_law_59 : decode cL_law 59 = .ok (.invokestatic 9, 3) := by decide +kernel
theorem dL_law_62 : decode cL_law 62 = .ok (.invokespecial 20, 3) := by decide +kernel
theorem dL_law_65 : decode cL_law 65 = .ok (.astore_n 2, 1) := by decide +kernel
theorem dL_law_66 : decode cL_law 66 = .ok (.iconst 5, 1) := by decide +kernel
theorem dL_law_67 : decode cL_law 67 = .ok (.istore_n 3, 1) := by decide +kernel
theorem dL_law_68 : decode cL_law 68 = .ok (.iload_n 3, 1) := by decide +kernel
theorem dL_law_69 : decode cL_law 69 = .ok (.aload_n 0, 1) := by decide +kernel
theorem dL_law_70 : decode cL_law 70 = .ok (.arraylength, 1) := by decide +kernel
theorem dL_law_71 : decode cL_law 71 = .ok (.iconst 4, 1) := by decide +kernel
theorem dL_law_72 : decode cL_law 72 = .ok (.isub, 1) := by decide +kernel
theorem dL_law_73 : decode cL_law 73 = .ok (.if_icmp .gt 481, 3) := by decide +kernel
theorem dL_law_76 : decode cL_law 76 = .ok (.aload_n 0, 1) := by decide +kernel
theorem dL_law_77 : decode cL_law 77 = .ok (.iload_n 3, 1) := by decide +kernel
theorem dL_law_78 : decode cL_law 78 = .ok (.iaload, 1) := by decide +kernel
theorem dL_law_79 : decode cL_law 79 = .ok (.bipush 15, 2) := by decide +kernel
theorem dL_law_81 : decode cL_law 81 = .ok (.iand, 1) := by decide +kernel
theorem dL_law_82 : decode cL_law 82 = .ok (.tableswitch 466 0 11 #[62, 95, 118, 151, 194, 227, 270, 304, 353, 386, 419, 453], 62) := by decide +kernel
theorem dL_law_144 : decode cL_law 144 = .ok (.aload_n 1, 1) := by decide +kernel
theorem dL_law_145 : decode cL_law 145 = .ok (.aload_n 0, 1) := by decide +kernel
theorem dL_law_146 : decode cL_law 146 = .ok (.iload_n 3, 1) := by decide +kernel
theorem dL_law_147 : decode cL_law 147 = .ok (.iconst 1, 1) := by decide +kernel
theorem dL_law_148 : decode cL_law 148 = .ok (.iadd, 1) := by decide +kernel
theorem dL_law_149 : decode cL_law 149 = .ok (.iaload, 1) := by decide +kernel
theorem dL_law_150 : decode cL_law 150 = .ok (.aload_n 0, 1) := by decide +kernel
theorem dL_law_151 : decode cL_law 151 = .ok (.iload_n 3, 1) := by decide +kernel
theorem dL_law_152 : decode cL_law 152 = .ok (.iconst 2, 1) := by decide +kernel
theorem dL_law_153 : decode cL_law 153 = .ok (.iadd, 1) := by decide +kernel
theorem dL_law_154 : decode cL_law 154 = .ok (.iaload, 1) := by decide +kernel
theorem dL_law_155 : decode cL_law 155 = .ok (.invokevirtual 21, 3) := by decide +kernel
theorem dL_law_158 : decode cL_law 158 = .ok (.aload_n 2, 1) := by decide +kernel
theorem dL_law_159 : decode cL_law 159 = .ok (.aload_n 0, 1) := by decide +kernel
theorem dL_law_160 : decode cL_law 160 = .ok (.iload_n 3, 1) := by decide +kernel
theorem dL_law_161 : decode cL_law 161 = .ok (.iconst 1, 1) := by decide +kernel
theorem dL_law_162 : decode cL_law 162 = .ok (.iadd, 1) := by decide +kernel
theorem dL_law_163 : decode cL_law 163 = .ok (.iaload, 1) := by decide +kernel
theorem dL_law_164 : decode cL_law 164 = .ok (.aload_n 0, 1) := by decide +kernel
theorem dL_law_165 : decode cL_law 165 = .ok (.iload_n 3, 1) := by decide +kernel
theorem dL_law_166 : decode cL_law 166 = .ok (.iconst 2, 1) := by decide +kernel
theorem dL_law_167 : decode cL_law 167 = .ok (.iadd, 1) := by decide +kernel
theorem dL_law_168 : decode cL_law 168 = .ok (.iaload, 1) := by decide +kernel
theorem dL_law_169 : decode cL_law 169 = .ok (.invokevirtual 25, 3) := by decide +kernel
theorem dL_law_172 : decode cL_law 172 = .ok (.if_icmp .eq 376, 3) := by decide +kernel
theorem dL_law_175 : decode cL_law 175 = .ok (.iconst 0, 1) := by decide +kernel
theorem dL_law_176 : decode cL_law 176 = .ok (.ireturn, 1) := by decide +kernel
theorem dL_law_177 : decode cL_law 177 = .ok (.aload_n 1, 1) := by decide +kernel
theorem dL_law_178 : decode cL_law 178 = .ok (.aload_n 0, 1) := by decide +kernel
theorem dL_law_179 : decode cL_law 179 = .ok (.iload_n 3, 1) := by decide +kernel
theorem dL_law_180 : decode cL_law 180 = .ok (.iconst 1, 1) := by decide +kernel
theorem dL_law_181 : decode cL_law 181 = .ok (.iadd, 1) := by decide +kernel
theorem dL_law_182 : decode cL_law 182 = .ok (.iaload, 1) := by decide +kernel
theorem dL_law_183 : decode cL_law 183 = .ok (.invokevirtual 26, 3) := by decide +kernel
theorem dL_law_186 : decode cL_law 186 = .ok (.aload_n 2, 1) := by decide +kernel
theorem dL_law_187 : decode cL_law 187 = .ok (.aload_n 0, 1) := by decide +kernel
theorem dL_law_188 : decode cL_law 188 = .ok (.iload_n 3, 1) := by decide +kernel
theorem dL_law_189 : decode cL_law 189 = .ok (.iconst 1, 1) := by decide +kernel
theorem dL_law_190 : decode cL_law 190 = .ok (.iadd, 1) := by decide +kernel
theorem dL_law_191 : decode cL_law 191 = .ok (.iaload, 1) := by decide +kernel
theorem dL_law_192 : decode cL_law 192 = .ok (.invokevirtual 30, 3) := by decide +kernel
theorem dL_law_195 : decode cL_law 195 = .ok (.if_icmp .eq 353, 3) := by decide +kernel
theorem dL_law_198 : decode cL_law 198 = .ok (.iconst 0, 1) := by decide +kernel
theorem dL_law_199 : decode cL_law 199 = .ok (.ireturn, 1) := by decide +kernel
theorem dL_law_200 : decode cL_law 200 = .ok (.aload_n 1, 1) := by decide +kernel
theorem dL_law_201 : decode cL_law 201 = .ok (.aload_n 0, 1) := by decide +kernel
theorem dL_law_202 : decode cL_law 202 = .ok (.iload_n 3, 1) := by decide +kernel
theorem dL_law_203 : decode cL_law 203 = .ok (.iconst 1, 1) := by decide +kernel
theorem dL_law_204 : decode cL_law 204 = .ok (.iadd, 1) := by decide +kernel
theorem dL_law_205 : decode cL_law 205 = .ok (.iaload, 1) := by decide +kernel
theorem dL_law_206 : decode cL_law 206 = .ok (.aload_n 0, 1) := by decide +kernel
theorem dL_law_207 : decode cL_law 207 = .ok (.iload_n 3, 1) := by decide +kernel
theorem dL_law_208 : decode cL_law 208 = .ok (.iconst 2, 1) := by decide +kernel
theorem dL_law_209 : decode cL_law 209 = .ok (.iadd, 1) := by decide +kernel
theorem dL_law_210 : decode cL_law 210 = .ok (.iaload, 1) := by decide +kernel
theorem dL_law_211 : decode cL_law 211 = .ok (.invokevirtual 31, 3) := by decide +kernel
theorem dL_law_214 : decode cL_law 214 = .ok (.aload_n 2, 1) := by decide +kernel
theorem dL_law_215 : decode cL_law 215 = .ok (.aload_n 0, 1) := by decide +kernel
theorem dL_law_216 : decode cL_law 216 = .ok (.iload_n 3, 1) := by decide +kernel
theorem dL_law_217 : decode cL_law 217 = .ok (.iconst 1, 1) := by decide +kernel
theorem dL_law_218 : decode cL_law 218 = .ok (.iadd, 1) := by decide +kernel
theorem dL_law_219 : decode cL_law 219 = .ok (.iaload, 1) := by decide +kernel
theorem dL_law_220 : decode cL_law 220 = .ok (.aload_n 0, 1) := by decide +kernel
theorem dL_law_221 : decode cL_law 221 = .ok (.iload_n 3, 1) := by decide +kernel
theorem dL_law_222 : decode cL_law 222 = .ok (.iconst 2, 1) := by decide +kernel
theorem dL_law_223 : decode cL_law 223 = .ok (.iadd, 1) := by decide +kernel
theorem dL_law_224 : decode cL_law 224 = .ok (.iaload, 1) := by decide +kernel
theorem dL_law_225 : decode cL_law 225 = .ok (.invokevirtual 34, 3) := by decide +kernel
theorem dL_law_228 : decode cL_law 228 = .ok (.if_icmp .eq 320, 3) := by decide +kernel
theorem dL_law_231 : decode cL_law 231 = .ok (.iconst 0, 1) := by decide +kernel
theorem dL_law_232 : decode cL_law 232 = .ok (.ireturn, 1) := by decide +kernel
theorem dL_law_233 : decode cL_law 233 = .ok (.aload_n 1, 1) := by decide +kernel
theorem dL_law_234 : decode cL_law 234 = .ok (.aload_n 0, 1) := by decide +kernel
theorem dL_law_235 : decode cL_law 235 = .ok (.iload_n 3, 1) := by decide +kernel
theorem dL_law_236 : decode cL_law 236 = .ok (.iconst 1, 1) := by decide +kernel
theorem dL_law_237 : decode cL_law 237 = .ok (.iadd, 1) := by decide +kernel
theorem dL_law_238 : decode cL_law 238 = .ok (.iaload, 1) := by decide +kernel
theorem dL_law_239 : decode cL_law 239 = .ok (.aload_n 0, 1) := by decide +kernel
theorem dL_law_240 : decode cL_law 240 = .ok (.iload_n 3, 1) := by decide +kernel
theorem dL_law_241 : decode cL_law 241 = .ok (.iconst 2, 1) := by decide +kernel
theorem dL_law_242 : decode cL_law 242 = .ok (.iadd, 1) := by decide +kernel
theorem dL_law_243 : decode cL_law 243 = .ok (.iaload, 1) := by decide +kernel
theorem dL_law_244 : decode cL_law 244 = .ok (.aload_n 0, 1) := by decide +kernel
theorem dL_law_245 : decode cL_law 245 = .ok (.iload_n 3, 1) := by decide +kernel
theorem dL_law_246 : decode cL_law 246 = .ok (.iconst 3, 1) := by decide +kernel
theorem dL_law_247 : decode cL_law 247 = .ok (.iadd, 1) := by decide +kernel
theorem dL_law_248 : decode cL_law 248 = .ok (.iaload, 1) := by decide +kernel
theorem dL_law_249 : decode cL_law 249 = .ok (.invokevirtual 35, 3) := by decide +kernel
theorem dL_law_252 : decode cL_law 252 = .ok (.aload_n 2, 1) := by decide +kernel
theorem dL_law_253 : decode cL_law 253 = .ok (.aload_n 0, 1) := by decide +kernel
theorem dL_law_254 : decode cL_law 254 = .ok (.iload_n 3, 1) := by decide +kernel
theorem dL_law_255 : decode cL_law 255 = .ok (.iconst 1, 1) := by decide +kernel
theorem dL_law_256 : decode cL_law 256 = .ok (.iadd, 1) := by decide +kernel
theorem dL_law_257 : decode cL_law 257 = .ok (.iaload, 1) := by decide +kernel
theorem dL_law_258 : decode cL_law 258 = .ok (.aload_n 0, 1) := by decide +kernel
theorem dL_law_259 : decode cL_law 259 = .ok (.iload_n 3, 1) := by decide +kernel
theorem dL_law_260 : decode cL_law 260 = .ok (.iconst 2, 1) := by decide +kernel
theorem dL_law_261 : decode cL_law 261 = .ok (.iadd, 1) := by decide +kernel
theorem dL_law_262 : decode cL_law 262 = .ok (.iaload, 1) := by decide +kernel
theorem dL_law_263 : decode cL_law 263 = .ok (.aload_n 0, 1) := by decide +kernel
theorem dL_law_264 : decode cL_law 264 = .ok (.iload_n 3, 1) := by decide +kernel
theorem dL_law_265 : decode cL_law 265 = .ok (.iconst 3, 1) := by decide +kernel
theorem dL_law_266 : decode cL_law 266 = .ok (.iadd, 1) := by decide +kernel
theorem dL_law_267 : decode cL_law 267 = .ok (.iaload, 1) := by decide +kernel
theorem dL_law_268 : decode cL_law 268 = .ok (.invokevirtual 39, 3) := by decide +kernel
theorem dL_law_271 : decode cL_law 271 = .ok (.if_icmp .eq 277, 3) := by decide +kernel
theorem dL_law_274 : decode cL_law 274 = .ok (.iconst 0, 1) := by decide +kernel
theorem dL_law_275 : decode cL_law 275 = .ok (.ireturn, 1) := by decide +kernel
theorem dL_law_276 : decode cL_law 276 = .ok (.aload_n 1, 1) := by decide +kernel
theorem dL_law_277 : decode cL_law 277 = .ok (.aload_n 0, 1) := by decide +kernel
theorem dL_law_278 : decode cL_law 278 = .ok (.iload_n 3, 1) := by decide +kernel
theorem dL_law_279 : decode cL_law 279 = .ok (.iconst 1, 1) := by decide +kernel
theorem dL_law_280 : decode cL_law 280 = .ok (.iadd, 1) := by decide +kernel
theorem dL_law_281 : decode cL_law 281 = .ok (.iaload, 1) := by decide +kernel
theorem dL_law_282 : decode cL_law 282 = .ok (.aload_n 0, 1) := by decide +kernel
theorem dL_law_283 : decode cL_law 283 = .ok (.iload_n 3, 1) := by decide +kernel
theorem dL_law_284 : decode cL_law 284 = .ok (.iconst 2, 1) := by decide +kernel
theorem dL_law_285 : decode cL_law 285 = .ok (.iadd, 1) := by decide +kernel
theorem dL_law_286 : decode cL_law 286 = .ok (.iaload, 1) := by decide +kernel
theorem dL_law_287 : decode cL_law 287 = .ok (.invokevirtual 40, 3) := by decide +kernel
theorem dL_law_290 : decode cL_law 290 = .ok (.aload_n 2, 1) := by decide +kernel
theorem dL_law_291 : decode cL_law 291 = .ok (.aload_n 0, 1) := by decide +kernel
theorem dL_law_292 : decode cL_law 292 = .ok (.iload_n 3, 1) := by decide +kernel
theorem dL_law_293 : decode cL_law 293 = .ok (.iconst 1, 1) := by decide +kernel
theorem dL_law_294 : decode cL_law 294 = .ok (.iadd, 1) := by decide +kernel
theorem dL_law_295 : decode cL_law 295 = .ok (.iaload, 1) := by decide +kernel
theorem dL_law_296 : decode cL_law 296 = .ok (.aload_n 0, 1) := by decide +kernel
theorem dL_law_297 : decode cL_law 297 = .ok (.iload_n 3, 1) := by decide +kernel
theorem dL_law_298 : decode cL_law 298 = .ok (.iconst 2, 1) := by decide +kernel
theorem dL_law_299 : decode cL_law 299 = .ok (.iadd, 1) := by decide +kernel
theorem dL_law_300 : decode cL_law 300 = .ok (.iaload, 1) := by decide +kernel
theorem dL_law_301 : decode cL_law 301 = .ok (.invokevirtual 43, 3) := by decide +kernel
theorem dL_law_304 : decode cL_law 304 = .ok (.if_icmp .eq 244, 3) := by decide +kernel
theorem dL_law_307 : decode cL_law 307 = .ok (.iconst 0, 1) := by decide +kernel
theorem dL_law_308 : decode cL_law 308 = .ok (.ireturn, 1) := by decide +kernel
theorem dL_law_309 : decode cL_law 309 = .ok (.aload_n 1, 1) := by decide +kernel
theorem dL_law_310 : decode cL_law 310 = .ok (.aload_n 0, 1) := by decide +kernel
theorem dL_law_311 : decode cL_law 311 = .ok (.iload_n 3, 1) := by decide +kernel
theorem dL_law_312 : decode cL_law 312 = .ok (.iconst 1, 1) := by decide +kernel
theorem dL_law_313 : decode cL_law 313 = .ok (.iadd, 1) := by decide +kernel
theorem dL_law_314 : decode cL_law 314 = .ok (.iaload, 1) := by decide +kernel
theorem dL_law_315 : decode cL_law 315 = .ok (.aload_n 0, 1) := by decide +kernel
theorem dL_law_316 : decode cL_law 316 = .ok (.iload_n 3, 1) := by decide +kernel
theorem dL_law_317 : decode cL_law 317 = .ok (.iconst 2, 1) := by decide +kernel
theorem dL_law_318 : decode cL_law 318 = .ok (.iadd, 1) := by decide +kernel
theorem dL_law_319 : decode cL_law 319 = .ok (.iaload, 1) := by decide +kernel
theorem dL_law_320 : decode cL_law 320 = .ok (.aload_n 0, 1) := by decide +kernel
theorem dL_law_321 : decode cL_law 321 = .ok (.iload_n 3, 1) := by decide +kernel
theorem dL_law_322 : decode cL_law 322 = .ok (.iconst 3, 1) := by decide +kernel
theorem dL_law_323 : decode cL_law 323 = .ok (.iadd, 1) := by decide +kernel
theorem dL_law_324 : decode cL_law 324 = .ok (.iaload, 1) := by decide +kernel
theorem dL_law_325 : decode cL_law 325 = .ok (.invokevirtual 44, 3) := by decide +kernel
theorem dL_law_328 : decode cL_law 328 = .ok (.aload_n 2, 1) := by decide +kernel
theorem dL_law_329 : decode cL_law 329 = .ok (.aload_n 0, 1) := by decide +kernel
theorem dL_law_330 : decode cL_law 330 = .ok (.iload_n 3, 1) := by decide +kernel
theorem dL_law_331 : decode cL_law 331 = .ok (.iconst 1, 1) := by decide +kernel
theorem dL_law_332 : decode cL_law 332 = .ok (.iadd, 1) := by decide +kernel
theorem dL_law_333 : decode cL_law 333 = .ok (.iaload, 1) := by decide +kernel
theorem dL_law_334 : decode cL_law 334 = .ok (.aload_n 0, 1) := by decide +kernel
theorem dL_law_335 : decode cL_law 335 = .ok (.iload_n 3, 1) := by decide +kernel
theorem dL_law_336 : decode cL_law 336 = .ok (.iconst 2, 1) := by decide +kernel
theorem dL_law_337 : decode cL_law 337 = .ok (.iadd, 1) := by decide +kernel
theorem dL_law_338 : decode cL_law 338 = .ok (.iaload, 1) := by decide +kernel
theorem dL_law_339 : decode cL_law 339 = .ok (.aload_n 0, 1) := by decide +kernel
theorem dL_law_340 : decode cL_law 340 = .ok (.iload_n 3, 1) := by decide +kernel
theorem dL_law_341 : decode cL_law 341 = .ok (.iconst 3, 1) := by decide +kernel
theorem dL_law_342 : decode cL_law 342 = .ok (.iadd, 1) := by decide +kernel
theorem dL_law_343 : decode cL_law 343 = .ok (.iaload, 1) := by decide +kernel
theorem dL_law_344 : decode cL_law 344 = .ok (.invokevirtual 47, 3) := by decide +kernel
theorem dL_law_347 : decode cL_law 347 = .ok (.if_icmp .eq 201, 3) := by decide +kernel
theorem dL_law_350 : decode cL_law 350 = .ok (.iconst 0, 1) := by decide +kernel
theorem dL_law_351 : decode cL_law 351 = .ok (.ireturn, 1) := by decide +kernel
theorem dL_law_352 : decode cL_law 352 = .ok (.aload_n 1, 1) := by decide +kernel
theorem dL_law_353 : decode cL_law 353 = .ok (.aload_n 0, 1) := by decide +kernel
theorem dL_law_354 : decode cL_law 354 = .ok (.iload_n 3, 1) := by decide +kernel
theorem dL_law_355 : decode cL_law 355 = .ok (.iconst 1, 1) := by decide +kernel
theorem dL_law_356 : decode cL_law 356 = .ok (.iadd, 1) := by decide +kernel
theorem dL_law_357 : decode cL_law 357 = .ok (.iaload, 1) := by decide +kernel
theorem dL_law_358 : decode cL_law 358 = .ok (.aload_n 0, 1) := by decide +kernel
theorem dL_law_359 : decode cL_law 359 = .ok (.iload_n 3, 1) := by decide +kernel
theorem dL_law_360 : decode cL_law 360 = .ok (.iconst 2, 1) := by decide +kernel
theorem dL_law_361 : decode cL_law 361 = .ok (.iadd, 1) := by decide +kernel
theorem dL_law_362 : decode cL_law 362 = .ok (.iaload, 1) := by decide +kernel
theorem dL_law_363 : decode cL_law 363 = .ok (.invokevirtual 48, 3) := by decide +kernel
theorem dL_law_366 : decode cL_law 366 = .ok (.aload_n 2, 1) := by decide +kernel
theorem dL_law_367 : decode cL_law 367 = .ok (.aload_n 0, 1) := by decide +kernel
theorem dL_law_368 : decode cL_law 368 = .ok (.iload_n 3, 1) := by decide +kernel
theorem dL_law_369 : decode cL_law 369 = .ok (.iconst 1, 1) := by decide +kernel
theorem dL_law_370 : decode cL_law 370 = .ok (.iadd, 1) := by decide +kernel
theorem dL_law_371 : decode cL_law 371 = .ok (.iaload, 1) := by decide +kernel
theorem dL_law_372 : decode cL_law 372 = .ok (.aload_n 0, 1) := by decide +kernel
theorem dL_law_373 : decode cL_law 373 = .ok (.iload_n 3, 1) := by decide +kernel
theorem dL_law_374 : decode cL_law 374 = .ok (.iconst 2, 1) := by decide +kernel
theorem dL_law_375 : decode cL_law 375 = .ok (.iadd, 1) := by decide +kernel
theorem dL_law_376 : decode cL_law 376 = .ok (.iaload, 1) := by decide +kernel
theorem dL_law_377 : decode cL_law 377 = .ok (.invokevirtual 52, 3) := by decide +kernel
theorem dL_law_380 : decode cL_law 380 = .ok (.lcmp, 1) := by decide +kernel
theorem dL_law_381 : decode cL_law 381 = .ok (.ifCond .eq 167, 3) := by decide +kernel
theorem dL_law_384 : decode cL_law 384 = .ok (.iconst 0, 1) := by decide +kernel
theorem dL_law_385 : decode cL_law 385 = .ok (.ireturn, 1) := by decide +kernel
theorem dL_law_386 : decode cL_law 386 = .ok (.aload_n 1, 1) := by decide +kernel
theorem dL_law_387 : decode cL_law 387 = .ok (.aload_n 0, 1) := by decide +kernel
theorem dL_law_388 : decode cL_law 388 = .ok (.iload_n 3, 1) := by decide +kernel
theorem dL_law_389 : decode cL_law 389 = .ok (.iconst 1, 1) := by decide +kernel
theorem dL_law_390 : decode cL_law 390 = .ok (.iadd, 1) := by decide +kernel
theorem dL_law_391 : decode cL_law 391 = .ok (.iaload, 1) := by decide +kernel
theorem dL_law_392 : decode cL_law 392 = .ok (.aload_n 0, 1) := by decide +kernel
theorem dL_law_393 : decode cL_law 393 = .ok (.iload_n 3, 1) := by decide +kernel
theorem dL_law_394 : decode cL_law 394 = .ok (.iconst 2, 1) := by decide +kernel
theorem dL_law_395 : decode cL_law 395 = .ok (.iadd, 1) := by decide +kernel
theorem dL_law_396 : decode cL_law 396 = .ok (.iaload, 1) := by decide +kernel
theorem dL_law_397 : decode cL_law 397 = .ok (.ifCond .eq 7, 3) := by decide +kernel
theorem dL_law_400 : decode cL_law 400 = .ok (.iconst 1, 1) := by decide +kernel
theorem dL_law_401 : decode cL_law 401 = .ok (.goto 4, 3) := by decide +kernel
theorem dL_law_404 : decode cL_law 404 = .ok (.iconst 0, 1) := by decide +kernel
theorem dL_law_405 : decode cL_law 405 = .ok (.invokevirtual 53, 3) := by decide +kernel
theorem dL_law_408 : decode cL_law 408 = .ok (.aload_n 2, 1) := by decide +kernel
theorem dL_law_409 : decode cL_law 409 = .ok (.aload_n 0, 1) := by decide +kernel
theorem dL_law_410 : decode cL_law 410 = .ok (.iload_n 3, 1) := by decide +kernel
theorem dL_law_411 : decode cL_law 411 = .ok (.iconst 1, 1) := by decide +kernel
theorem dL_law_412 : decode cL_law 412 = .ok (.iadd, 1) := by decide +kernel
theorem dL_law_413 : decode cL_law 413 = .ok (.iaload, 1) := by decide +kernel
theorem dL_law_414 : decode cL_law 414 = .ok (.aload_n 0, 1) := by decide +kernel
theorem dL_law_415 : decode cL_law 415 = .ok (.iload_n 3, 1) := by decide +kernel
theorem dL_law_416 : decode cL_law 416 = .ok (.iconst 2, 1) := by decide +kernel
theorem dL_law_417 : decode cL_law 417 = .ok (.iadd, 1) := by decide +kernel
theorem dL_law_418 : decode cL_law 418 = .ok (.iaload, 1) := by decide +kernel
theorem dL_law_419 : decode cL_law 419 = .ok (.ifCond .eq 7, 3) := by decide +kernel
theorem dL_law_422 : decode cL_law 422 = .ok (.iconst 1, 1) := by decide +kernel
theorem dL_law_423 : decode cL_law 423 = .ok (.goto 4, 3) := by decide +kernel
theorem dL_law_426 : decode cL_law 426 = .ok (.iconst 0, 1) := by decide +kernel
theorem dL_law_427 : decode cL_law 427 = .ok (.invokevirtual 57, 3) := by decide +kernel
theorem dL_law_430 : decode cL_law 430 = .ok (.if_icmp .eq 118, 3) := by decide +kernel
theorem dL_law_433 : decode cL_law 433 = .ok (.iconst 0, 1) := by decide +kernel
theorem dL_law_434 : decode cL_law 434 = .ok (.ireturn, 1) := by decide +kernel
theorem dL_law_435 : decode cL_law 435 = .ok (.aload_n 1, 1) := by decide +kernel
theorem dL_law_436 : decode cL_law 436 = .ok (.aload_n 0, 1) := by decide +kernel
theorem dL_law_437 : decode cL_law 437 = .ok (.iload_n 3, 1) := by decide +kernel
theorem dL_law_438 : decode cL_law 438 = .ok (.iconst 1, 1) := by decide +kernel
theorem dL_law_439 : decode cL_law 439 = .ok (.iadd, 1) := by decide +kernel
theorem dL_law_440 : decode cL_law 440 = .ok (.iaload, 1) := by decide +kernel
theorem dL_law_441 : decode cL_law 441 = .ok (.aload_n 0, 1) := by decide +kernel
theorem dL_law_442 : decode cL_law 442 = .ok (.iload_n 3, 1) := by decide +kernel
theorem dL_law_443 : decode cL_law 443 = .ok (.iconst 2, 1) := by decide +kernel
theorem dL_law_444 : decode cL_law 444 = .ok (.iadd, 1) := by decide +kernel
theorem dL_law_445 : decode cL_law 445 = .ok (.iaload, 1) := by decide +kernel
theorem dL_law_446 : decode cL_law 446 = .ok (.invokevirtual 58, 3) := by decide +kernel
theorem dL_law_449 : decode cL_law 449 = .ok (.aload_n 2, 1) := by decide +kernel
theorem dL_law_450 : decode cL_law 450 = .ok (.aload_n 0, 1) := by decide +kernel
theorem dL_law_451 : decode cL_law 451 = .ok (.iload_n 3, 1) := by decide +kernel
theorem dL_law_452 : decode cL_law 452 = .ok (.iconst 1, 1) := by decide +kernel
theorem dL_law_453 : decode cL_law 453 = .ok (.iadd, 1) := by decide +kernel
theorem dL_law_454 : decode cL_law 454 = .ok (.iaload, 1) := by decide +kernel
theorem dL_law_455 : decode cL_law 455 = .ok (.aload_n 0, 1) := by decide +kernel
theorem dL_law_456 : decode cL_law 456 = .ok (.iload_n 3, 1) := by decide +kernel
theorem dL_law_457 : decode cL_law 457 = .ok (.iconst 2, 1) := by decide +kernel
theorem dL_law_458 : decode cL_law 458 = .ok (.iadd, 1) := by decide +kernel
theorem dL_law_459 : decode cL_law 459 = .ok (.iaload, 1) := by decide +kernel
theorem dL_law_460 : decode cL_law 460 = .ok (.invokevirtual 61, 3) := by decide +kernel
theorem dL_law_463 : decode cL_law 463 = .ok (.if_icmp .eq 85, 3) := by decide +kernel
theorem dL_law_466 : decode cL_law 466 = .ok (.iconst 0, 1) := by decide +kernel
theorem dL_law_467 : decode cL_law 467 = .ok (.ireturn, 1) := by decide +kernel
theorem dL_law_468 : decode cL_law 468 = .ok (.aload_n 1, 1) := by decide +kernel
theorem dL_law_469 : decode cL_law 469 = .ok (.aload_n 0, 1) := by decide +kernel
theorem dL_law_470 : decode cL_law 470 = .ok (.iload_n 3, 1) := by decide +kernel
theorem dL_law_471 : decode cL_law 471 = .ok (.iconst 1, 1) := by decide +kernel
theorem dL_law_472 : decode cL_law 472 = .ok (.iadd, 1) := by decide +kernel
theorem dL_law_473 : decode cL_law 473 = .ok (.iaload, 1) := by decide +kernel
theorem dL_law_474 : decode cL_law 474 = .ok (.aload_n 0, 1) := by decide +kernel
theorem dL_law_475 : decode cL_law 475 = .ok (.iload_n 3, 1) := by decide +kernel
theorem dL_law_476 : decode cL_law 476 = .ok (.iconst 2, 1) := by decide +kernel
theorem dL_law_477 : decode cL_law 477 = .ok (.iadd, 1) := by decide +kernel
theorem dL_law_478 : decode cL_law 478 = .ok (.iaload, 1) := by decide +kernel
theorem dL_law_479 : decode cL_law 479 = .ok (.invokevirtual 62, 3) := by decide +kernel
theorem dL_law_482 : decode cL_law 482 = .ok (.aload_n 2, 1) := by decide +kernel
theorem dL_law_483 : decode cL_law 483 = .ok (.aload_n 0, 1) := by decide +kernel
theorem dL_law_484 : decode cL_law 484 = .ok (.iload_n 3, 1) := by decide +kernel
theorem dL_law_485 : decode cL_law 485 = .ok (.iconst 1, 1) := by decide +kernel
theorem dL_law_486 : decode cL_law 486 = .ok (.iadd, 1) := by decide +kernel
theorem dL_law_487 : decode cL_law 487 = .ok (.iaload, 1) := by decide +kernel
theorem dL_law_488 : decode cL_law 488 = .ok (.aload_n 0, 1) := by decide +kernel
theorem dL_law_489 : decode cL_law 489 = .ok (.iload_n 3, 1) := by decide +kernel
theorem dL_law_490 : decode cL_law 490 = .ok (.iconst 2, 1) := by decide +kernel
theorem dL_law_491 : decode cL_law 491 = .ok (.iadd, 1) := by decide +kernel
theorem dL_law_492 : decode cL_law 492 = .ok (.iaload, 1) := by decide +kernel
theorem dL_law_493 : decode cL_law 493 = .ok (.invokevirtual 65, 3) := by decide +kernel
theorem dL_law_496 : decode cL_law 496 = .ok (.if_icmp .eq 52, 3) := by decide +kernel
theorem dL_law_499 : decode cL_law 499 = .ok (.iconst 0, 1) := by decide +kernel
theorem dL_law_500 : decode cL_law 500 = .ok (.ireturn, 1) := by decide +kernel
theorem dL_law_501 : decode cL_law 501 = .ok (.aload_n 1, 1) := by decide +kernel
theorem dL_law_502 : decode cL_law 502 = .ok (.aload_n 0, 1) := by decide +kernel
theorem dL_law_503 : decode cL_law 503 = .ok (.iload_n 3, 1) := by decide +kernel
theorem dL_law_504 : decode cL_law 504 = .ok (.iconst 1, 1) := by decide +kernel
theorem dL_law_505 : decode cL_law 505 = .ok (.iadd, 1) := by decide +kernel
theorem dL_law_506 : decode cL_law 506 = .ok (.iaload, 1) := by decide +kernel
theorem dL_law_507 : decode cL_law 507 = .ok (.aload_n 0, 1) := by decide +kernel
theorem dL_law_508 : decode cL_law 508 = .ok (.iload_n 3, 1) := by decide +kernel
theorem dL_law_509 : decode cL_law 509 = .ok (.iconst 2, 1) := by decide +kernel
theorem dL_law_510 : decode cL_law 510 = .ok (.iadd, 1) := by decide +kernel
theorem dL_law_511 : decode cL_law 511 = .ok (.iaload, 1) := by decide +kernel
theorem dL_law_512 : decode cL_law 512 = .ok (.invokevirtual 66, 3) := by decide +kernel
theorem dL_law_515 : decode cL_law 515 = .ok (.aload_n 2, 1) := by decide +kernel
theorem dL_law_516 : decode cL_law 516 = .ok (.aload_n 0, 1) := by decide +kernel
theorem dL_law_517 : decode cL_law 517 = .ok (.iload_n 3, 1) := by decide +kernel
theorem dL_law_518 : decode cL_law 518 = .ok (.iconst 1, 1) := by decide +kernel
theorem dL_law_519 : decode cL_law 519 = .ok (.iadd, 1) := by decide +kernel
theorem dL_law_520 : decode cL_law 520 = .ok (.iaload, 1) := by decide +kernel
theorem dL_law_521 : decode cL_law 521 = .ok (.aload_n 0, 1) := by decide +kernel
theorem dL_law_522 : decode cL_law 522 = .ok (.iload_n 3, 1) := by decide +kernel
theorem dL_law_523 : decode cL_law 523 = .ok (.iconst 2, 1) := by decide +kernel
theorem dL_law_524 : decode cL_law 524 = .ok (.iadd, 1) := by decide +kernel
theorem dL_law_525 : decode cL_law 525 = .ok (.iaload, 1) := by decide +kernel
theorem dL_law_526 : decode cL_law 526 = .ok (.invokevirtual 69, 3) := by decide +kernel
theorem dL_law_529 : decode cL_law 529 = .ok (.lcmp, 1) := by decide +kernel
theorem dL_law_530 : decode cL_law 530 = .ok (.ifCond .eq 18, 3) := by decide +kernel
theorem dL_law_533 : decode cL_law 533 = .ok (.iconst 0, 1) := by decide +kernel
theorem dL_law_534 : decode cL_law 534 = .ok (.ireturn, 1) := by decide +kernel
theorem dL_law_535 : decode cL_law 535 = .ok (.aload_n 1, 1) := by decide +kernel
theorem dL_law_536 : decode cL_law 536 = .ok (.invokevirtual 70, 3) := by decide +kernel
theorem dL_law_539 : decode cL_law 539 = .ok (.aload_n 2, 1) := by decide +kernel
theorem dL_law_540 : decode cL_law 540 = .ok (.invokevirtual 74, 3) := by decide +kernel
theorem dL_law_543 : decode cL_law 543 = .ok (.if_icmp .eq 5, 3) := by decide +kernel
theorem dL_law_546 : decode cL_law 546 = .ok (.iconst 0, 1) := by decide +kernel
theorem dL_law_547 : decode cL_law 547 = .ok (.ireturn, 1) := by decide +kernel
theorem dL_law_548 : decode cL_law 548 = .ok (.iinc 3 4, 3) := by decide +kernel
theorem dL_law_551 : decode cL_law 551 = .ok (.goto (-483), 3) := by decide +kernel
theorem dL_law_554 : decode cL_law 554 = .ok (.iconst 1, 1) := by decide +kernel
theorem dL_law_555 : decode cL_law 555 = .ok (.ireturn, 1) := by decide +kernel
end
section
/-! Calls that write nothing: the heap is a parameter of the contract, all that is known of it stands outside the contract. -/
def ro_no : Nat → Prop := fun _ => False
def ro_P (D : va_G) (cl : List vw_C) (tys : List (ClassId × FieldType)) (H : Heap) (av : List Value) : Array Value → State → Prop := va_Pc av (fun U => U.heap = H ∧ va_K D cl tys U)
def ro_Q (v : Value) (H : Heap) : Array Value → State → Outcome → State → Prop := fun _ _ oc t => oc = .returned (some v) ∧ t.heap = H
theorem ro_blind {D : va_G} {cl : List vw_C} {tys : List (ClassId × FieldType)} {H : Heap} {av : List Value} : FrameBlind (ro_P D cl tys H av) := fun a U g mk q => ⟨q.1, q.2.1, va_K.moved (u := U) (U := U.calling g mk a) (Vm.Alike.refl U.vm) q.2.2⟩
theorem ro_preV {D : va_G} {cl : List vw_C} {tys : List (ClassId × FieldType)} {H : Heap} {s : State} {C : String} {b : Nat} {As : List Value} (hK : va_K D cl tys s) (hr : ∃ cell : Cell, H[b]? = some cell ∧ cell.vm.isStatics = false ∧ s.vm.findClass C = some cell.cls) : PreV s H C b (ro_P D cl tys H (.ref b :: As)) As := ⟨ro_blind, hr, fun _ hU hW => ⟨rfl, hU, va_K.moved hW.alike hK⟩⟩
theorem ro_preS {D : va_G} {cl : List vw_C} {tys : List (ClassId × FieldType)} {H : Heap} {s : State} {As : List Value} (hK : va_K D cl tys s) : PreS s H (ro_P D cl tys H As) As := ⟨ro_blind, fun _ hU hW => ⟨rfl, hU, va_K.moved hW.alike hK⟩⟩
section RO
variable {p : Program} {l : Launch} {e : Env} {R : Room} {s : State} {m : MethodId} {args : Array Value} {below : List Frame} {meth : Method} {c : Code} {H : Heap} {locs : List Loc} {cells slots : Nat} {Q : State → Prop}
variable {pc : Nat} {ls : Array Slot} {rest st0 : List Value} {a : Array Value}
theorem ro_call {v : Value} (hr : va_Run p l e R s m args below meth c H locs cells slots 0 0 (F0 m pc ls st0) rest (ro_Q v H a) ro_no) (kk : W p l e R s m args below meth c H locs cells slots Q (F0 m (pc + 3) ls (v :: rest))) : W p l e R s m args below meth c H locs cells slots Q (F0 m pc ls st0) := by
  intro T hT X
  obtain ⟨v', st₀, t, T', L, h0, X', hL, e1, e2, ⟨hv, hh⟩, st⟩ := hr T hT X
  cases hv
  have hL0 : L = [] := List.eq_nil_iff_forall_not_mem.mpr (fun q hq => (hL q hq).elim)
  subst hL0
  rw [List.append_nil] at X'
  obtain ⟨t2, a1, b1⟩ := kk T' (by rw [e1, hh]) X'
  exact ⟨t2, st t2 a1, b1⟩
/-- the int on top, by an equation -/
theorem top_i {x y : Int32} (h : x = y) (k : W p l e R s m args below meth c H locs cells slots Q (F0 m pc ls (.int y :: rest))) : W p l e R s m args below meth c H locs cells slots Q (F0 m pc ls (.int x :: rest)) := h ▸ k
theorem top_l {x y : Int64} (h : x = y) (k : W p l e R s m args below meth c H locs cells slots Q (F0 m pc ls (.long y :: rest))) : W p l e R s m args below meth c H locs cells slots Q (F0 m pc ls (.long x :: rest)) := h ▸ k
end RO
section ROR
variable {p : Program} {l : Launch} {e : Env} {R : Room} {s : State} {m : MethodId} {args : Array Value} {below : List Frame} {meth : Method} {c : Code} {H : Heap} {cells slots : Nat}
variable {cc : ByteArray} {pc : Nat} {ls : Array Slot}
theorem ro_iret (hexec : p.tables.exec = Jvm.exec) (hb : c.code = cc) (hr : meth.sig.returnType = some .int) {v w : Int32} (hv : v = w) (hdg : decode cc pc = .ok (.ireturn, 1)) (hlocks : meth.locks = false) : W p l e R s m args below meth c H [] cells slots (MQ below (ro_Q (.int w) H) args s cells slots ro_no) (F0 m pc ls [.int v]) := by
  subst hv
  exact W.iret hexec hb hr (fun t ht _ => ⟨rfl, ht⟩) (fun q hq => by cases hq) hdg hlocks
theorem ro_zret (hexec : p.tables.exec = Jvm.exec) (hb : c.code = cc) {ty : FieldType} (hr : meth.sig.returnType = some ty) {v w : Int32} (hn : narrow ty (.int v) = .int v) (hv : v = w) (hdg : decode cc pc = .ok (.ireturn, 1)) (hlocks : meth.locks = false) : W p l e R s m args below meth c H [] cells slots (MQ below (ro_Q (.int w) H) args s cells slots ro_no) (F0 m pc ls [.int v]) := by
  subst hv
  exact W.zret hexec hb hr hn (fun t ht _ => ⟨rfl, ht⟩) (fun q hq => by cases hq) hdg hlocks
theorem ro_lret (hexec : p.tables.exec = Jvm.exec) (hb : c.code = cc) (hr : meth.sig.returnType = some .long) {v w : Int64} (hv : v = w) (hdg : decode cc pc = .ok (.lreturn, 1)) (hlocks : meth.locks = false) : W p l e R s m args below meth c H [] cells slots (MQ below (ro_Q (.long w) H) args s cells slots ro_no) (F0 m pc ls [.long v]) := by
  subst hv
  exact W.lret hexec hb hr (fun t ht _ => ⟨rfl, ht⟩) (fun q hq => by cases hq) hdg hlocks
theorem ro_aret (hexec : p.tables.exec = Jvm.exec) (hb : c.code = cc) {C : String} (hr : meth.sig.returnType = some (.object C)) {v w : Value} (hn : w = .null ∨ ∃ a, w = .ref a) (hv : v = w) (hdg : decode cc pc = .ok (.areturn, 1)) (hlocks : meth.locks = false) : W p l e R s m args below meth c H [] cells slots (MQ below (ro_Q w H) args s cells slots ro_no) (F0 m pc ls [v]) := by
  subst hv
  exact W.aret hexec hb hr (Or.inl ⟨C, rfl⟩) hn (fun t ht _ => ⟨rfl, ht⟩) (fun q hq => by cases hq) hdg hlocks
end ROR
section ALD
variable {p : Program} {l : Launch} {e : Env} {R : Room} {s : State} {m : MethodId} {args : Array Value} {below : List Frame} {meth : Method} {c : Code} {H : Heap} {locs : List Loc} {cells slots : Nat} {Q : State → Prop}
variable {cc : ByteArray} {pc : Nat} {ls : Array Slot} {rest : List Value} {D : va_G} {cl : List vw_C} {a : Nat} {tys : List (ClassId × FieldType)} {ws : va_W}
theorem ald_i {j : Nat} (hexec : p.tables.exec = Jvm.exec) (hb : c.code = cc) (hK : va_K D cl tys s) (hP : va_P D cl ws H) (q0 t0 : Nat) {cA : ClassId} {n : Nat} {f : Nat → Int32} (ha : ws[q0]? = some (a, .inl (cA, n, .inl f))) (ht : tys[t0]? = some (cA, .int)) (hj : j < n) (hn : n < 2 ^ 31) (hdg : decode cc pc = .ok (.iaload, 1))
    (kk : W p l e R s m args below meth c H locs cells slots Q (F0 m (pc + 1) ls (.int (f j) :: rest))) : W p l e R s m args below meth c H locs cells slots Q (F0 m pc ls (.int (nI j) :: .ref a :: rest)) :=
  va_iald hexec hb hK hP q0 t0 ha ht (vp_in_nI hj hn) hdg (by rw [nI_clamp (Nat.lt_trans hj hn)]; exact kk)
theorem ald_l {j : Nat} (hexec : p.tables.exec = Jvm.exec) (hb : c.code = cc) (hK : va_K D cl tys s) (hP : va_P D cl ws H) (q0 t0 : Nat) {cA : ClassId} {n : Nat} {f : Nat → Int64} (ha : ws[q0]? = some (a, .inl (cA, n, .inr (.inl f)))) (ht : tys[t0]? = some (cA, .long)) (hj : j < n) (hn : n < 2 ^ 31) (hdg : decode cc pc = .ok (.laload, 1))
    (kk : W p l e R s m args below meth c H locs cells slots Q (F0 m (pc + 1) ls (.long (f j) :: rest))) : W p l e R s m args below meth c H locs cells slots Q (F0 m pc ls (.int (nI j) :: .ref a :: rest)) :=
  va_lald hexec hb hK hP q0 t0 ha ht (vp_in_nI hj hn) hdg (by rw [nI_clamp (Nat.lt_trans hj hn)]; exact kk)
/-- a row of an array of int arrays -/
theorem ald_a {j : Nat} (hexec : p.tables.exec = Jvm.exec) (hb : c.code = cc) (hK : va_K D cl tys s) (hP : va_P D cl ws H) (q0 t0 : Nat) {cA : ClassId} {n : Nat} {f : Nat → Nat} (ha : ws[q0]? = some (a, .inl (cA, n, .inr (.inr (.inr (.inr (fun k => some (f k)))))))) (ht : tys[t0]? = some (cA, .array .int)) (hj : j < n) (hn : n < 2 ^ 31) (hdg : decode cc pc = .ok (.aaload, 1))
    (kk : W p l e R s m args below meth c H locs cells slots Q (F0 m (pc + 1) ls (.ref (f j) :: rest))) : W p l e R s m args below meth c H locs cells slots Q (F0 m pc ls (.int (nI j) :: .ref a :: rest)) :=
  W.aald (v := .ref (f j)) (ty := .array .int) hexec hb (hP q0 _ ha) ((hK.2 t0 _ ht).1 n (fun j => va_rf (some (f j)))) rfl (fun q => by cases q) (by show ¬ (nI j < 0 ∨ (arrV _ _ _).slots.size ≤ _); rw [arrV_size]; exact nI_in hj hn) (by show (arrV _ _ _).slots[_]? = _; rw [nI_clamp (Nat.lt_trans hj hn), arrV_read _ _ hj]; rfl) rfl rfl hdg kk
end ALD
theorem inc1 (a : Nat) : nI a + Int32.ofInt 1 = nI (a + 1) := nI_1 a
theorem dec1 (a : Nat) : nI (a + 1) + Int32.ofInt (-1) = nI a := pk_m1 a
abbrev tyL (cI cA cJ : ClassId) : List (ClassId × FieldType) := [(cI, .int), (cA, .array .int), (cJ, .long)]
end
section
/-! A ring: where its cells lie, what they hold. -/
abbrev rgA : Type := Nat × Nat × Nat × (Nat → Nat)
def a_o (A : rgA) : Nat := A.1
def a_s (A : rgA) : Nat := A.2.1
def a_f (A : rgA) : Nat := A.2.2.1
def a_b (A : rgA) : Nat → Nat := A.2.2.2
/-- room, width, oldest, held, gone, starts, figures -/
abbrev rgV : Type := Nat × Nat × Nat × Nat × Int32 × (Nat → Int32) × (Nat → Nat → Int32)
def v_N (r : rgV) : Nat := r.1
def v_w (r : rgV) : Nat := r.2.1
def v_o (r : rgV) : Nat := r.2.2.1
def v_h (r : rgV) : Nat := r.2.2.2.1
def v_g (r : rgV) : Int32 := r.2.2.2.2.1
def v_S (r : rgV) : Nat → Int32 := r.2.2.2.2.2.1
def v_F (r : rgV) : Nat → Nat → Int32 := r.2.2.2.2.2.2
def rgW (cI cA : ClassId) (A : rgA) (r : rgV) : va_W :=
  [(a_o A, .inr (0, [.int (nI (v_N r)), .int (nI (v_w r)), .ref (a_s A), .ref (a_f A), .int (nI (v_o r)), .int (nI (v_h r)), .int (v_g r)])),
   (a_s A, .inl (cI, v_N r, .inl (v_S r))),
   (a_f A, .inl (cA, 4, .inr (.inr (.inr (.inr (fun k => some (a_b A k))))))),
   (a_b A 0, .inl (cI, v_N r, .inl (v_F r 0))), (a_b A 1, .inl (cI, v_N r, .inl (v_F r 1))), (a_b A 2, .inl (cI, v_N r, .inl (v_F r 2))), (a_b A 3, .inl (cI, v_N r, .inl (v_F r 3)))]
theorem rgW_row {cI cA : ClassId} {A : rgA} {r : rgV} {k : Nat} (hk : k < 4) : (rgW cI cA A r)[3 + k]? = some (a_b A k, .inl (cI, v_N r, .inl (v_F r k))) := by
  rcases (show k = 0 ∨ k = 1 ∨ k = 2 ∨ k = 3 by omega) with rfl | rfl | rfl | rfl <;> rfl
def r_ok (r : rgV) : Prop := 1 ≤ v_N r ∧ v_N r ≤ 60 ∧ v_o r < v_N r ∧ v_h r ≤ v_N r ∧ 1 ≤ v_w r ∧ v_w r ≤ 1000000000
/-- an int that names an entry of h -/
abbrev ix (h : Nat) (i : Int32) : Prop := ¬ i < 0 ∧ i < nI h
theorem ix_cases (h : Nat) (hh : h < 2 ^ 31) (i : Int32) : (∃ j : Nat, j < h ∧ i = nI j) ∨ ¬ ix h i := by
  rcases pk_ix i hh with q | q | q
  · exact Or.inr (fun z => z.1 q)
  · refine Or.inr (fun z => ?_)
    have h1 := z.2
    rw [Int32.lt_iff_toInt_lt] at h1
    rw [Int32.le_iff_toInt_le] at q
    omega
  · exact Or.inl q
theorem ix_nI {h j : Nat} (hj : j < h) (hh : h < 2 ^ 31) : ix h (nI j) := ⟨nI_pos (by omega), nI_lt hj hh⟩
theorem ix_nix {h : Nat} {i : Int32} (hn : ¬ ix h i) : i < 0 ∨ nI h ≤ i := by
  by_cases h0 : i < 0
  · exact Or.inl h0
  · refine Or.inr ?_
    have h1 : ¬ i < nI h := fun z => hn ⟨h0, z⟩
    rw [Int32.lt_iff_toInt_lt] at h1
    rw [Int32.le_iff_toInt_le]
    omega
/-- the place of entry j -/
def sl (r : rgV) (j : Nat) : Nat := if v_o r + j < v_N r then v_o r + j else v_o r + j - v_N r
theorem sl_lt {r : rgV} (hk : r_ok r) {j : Nat} (hj : j < v_N r) : sl r j < v_N r := by
  obtain ⟨h1, h2, h3, h4, h5, h6⟩ := hk
  unfold sl
  split <;> omega
/-- the start of entry j, its figure k -/
def v_E (r : rgV) (j : Nat) : Int32 := v_S r (sl r j)
def v_G (r : rgV) (k j : Nat) : Int32 := v_F r k (sl r j)
/-- two figures joined -/
def jn (k : Nat) (x y : Int32) : Int32 := if k = 0 then (if y < x then y else x) else if k = 1 then (if x < y then y else x) else x + y
/-- the first entry from i on whose start is not below t -/
def ffr (r : rgV) (t : Int64) : Nat → Nat → Nat
  | 0, i => i
  | n + 1, i => if (v_E r i).toInt64 < t then ffr r t n (i + 1) else i
def ff (r : rgV) (t : Int64) (i : Nat) : Nat := ffr r t (v_h r - i) i
/-- figure k of the entries i, .., joined to x -/
def tgr (r : rgV) (k : Nat) : Nat → Nat → Int32 → Int32
  | 0, _, x => x
  | n + 1, i, x => tgr r k n (i + 1) (jn k x (v_G r k i))
def tg (r : rgV) (k a b : Nat) : Int32 := if a < b then tgr r k (b - (a + 1)) (a + 1) (v_G r k a) else 0
/-- the end of entry j -/
def v_X (r : rgV) (j : Nat) : Int64 := (v_E r j).toInt64 + (nI (v_w r)).toInt64
/-- the numbers of the entries that lie wholly in a span -/
def mwr (r : rgV) (f t : Int64) : Nat → Nat → Int64 → Int64
  | 0, _, x => x
  | n + 1, i, x => mwr r f t n (i + 1) (if f ≤ (v_E r i).toInt64 ∧ v_X r i ≤ t + 1 then x + (v_G r 3 i).toInt64 else x)
def mw (r : rgV) (f t : Int64) : Int64 := mwr r f t (v_h r) 0 0
/-- do the figures agree -/
def hfr (r q : rgV) (a b j : Nat) : Prop := ∀ k, k < 4 → v_G r k j = tg q k a b
end
section
theorem jn_off {k : Nat} (h : 2 ≤ k) : Op.lookupswitch.offset [(0, 27), (1, 33)] 39 (k : Int) = 39 := by
  rw [Op.lookupswitch.offset_cons, if_neg (by omega), Op.lookupswitch.offset_cons, if_neg (by omega)]
  rfl
set_option maxHeartbeats 4000000 in
set_option maxRecDepth 100000 in
/-- size() -/
theorem c_X0_size (l : Launch) {D : va_G} {cI cA cJ : ClassId} {H : Heap} (A : rgA) (r : rgV) (hk : r_ok r) (hR : va_P D vwCl (rgW cI cA A r) H) : Met l yX0_size wsX0_size ({ frames := 0, cells := 0, slots := 0, locals := 0 }) (ro_P D vwCl (tyL cI cA cJ) H [.ref (a_o A)]) (ro_Q (.int (nI (v_h r))) H) 0 0 ro_no := by
  refine Met.ofW (cc := cX0_size) (maxL := 1) (ret := (some .int)) (by decide) rfl ?_
  intro p e s m args below meth c s₁ B hml hv
  obtain ⟨rfl, hh, hK⟩ := hv
  subst hh
  have hx := B.exec
  have hb := B.bytes
  have hr := B.returns
  have hlocks := B.notSynchronized
  have hts := atoms_spec (ws := wsX0_size) B.pre
  have hown : s.vm.findClass RX0 = some m.cls := findClass_of_methodNamed B.named
  have hi0 : ∀ w ∈ wsX00, w ∈ wsX0_size := fun w h => List.mem_cons_of_mem _ (List.mem_append_right _ h)
  have hl := lv_entry ([.ref (a_o A)]) (n := 1) (Nat.le_of_ble_eq_true rfl)
  rw [lg_entry_eq]
  generalize (lg_sl ([.ref (a_o A)]) ++ List.replicate (1 - (lg_sl ([.ref (a_o A)])).length) Slot.unset).toArray = ls at hl ⊢
  have hl : lv_has ls 1 [(0, .ref (a_o A))] := hl
  obtain ⟨k1, k2, k3, k4, k5, k6⟩ := id hk
  refine lv_aload_n hx hb dX0_size_0 rfl (lv_at hl 0 rfl) ?_
  refine va_get (D := D) (ci := 0) (v := .int (nI (v_h r))) (C := RX0) (T := TX0) (N := 7) hx hb hts hi0 hown hK hR 0 rfl rfl 5 (by decide) (hts (.fieldLink RX0 30 "RingSeries$Ring" "held" "I") (by decide +kernel)) (fun _ h9 => h9) rfl dX0_size_1 ?_
  exact ro_iret hx hb hr rfl dX0_size_4 hlocks
set_option maxHeartbeats 4000000 in
set_option maxRecDepth 100000 in
/-- has(i) -/
theorem c_X0_has_t (l : Launch) {D : va_G} {cI cA cJ : ClassId} {H : Heap} (A : rgA) (r : rgV) (hk : r_ok r) (hR : va_P D vwCl (rgW cI cA A r) H) (j : Nat) (hj : j < v_h r) : Met l yX0_has wsX0_has ({ frames := 0, cells := 0, slots := 0, locals := 0 }) (ro_P D vwCl (tyL cI cA cJ) H [.ref (a_o A), .int (nI j)]) (ro_Q (.int 1) H) 0 0 ro_no := by
  refine Met.ofW (cc := cX0_has) (maxL := 2) (ret := (some .boolean)) (by decide) rfl ?_
  intro p e s m args below meth c s₁ B hml hv
  obtain ⟨rfl, hh, hK⟩ := hv
  subst hh
  have hx := B.exec
  have hb := B.bytes
  have hr := B.returns
  have hlocks := B.notSynchronized
  have hts := atoms_spec (ws := wsX0_has) B.pre
  have hown : s.vm.findClass RX0 = some m.cls := findClass_of_methodNamed B.named
  have hi0 : ∀ w ∈ wsX00, w ∈ wsX0_has := fun w h => List.mem_cons_of_mem _ (List.mem_append_right _ h)
  have hl := lv_entry ([.ref (a_o A), .int (nI j)]) (n := 2) (Nat.le_of_ble_eq_true rfl)
  rw [lg_entry_eq]
  generalize (lg_sl ([.ref (a_o A), .int (nI j)]) ++ List.replicate (2 - (lg_sl ([.ref (a_o A), .int (nI j)])).length) Slot.unset).toArray = ls at hl ⊢
  have hl : lv_has ls 2 [(0, .ref (a_o A)), (1, .int (nI j))] := hl
  obtain ⟨k1, k2, k3, k4, k5, k6⟩ := id hk
  refine lv_iload_n hx hb dX0_has_0 rfl (lv_at hl 1 rfl) ?_
  refine lv_if_lt (tgt := 16) hx hb dX0_has_1 (by decide) (fun c_1 => ?_) (fun c_1 => ?_)
  · exact absurd c_1 (nI_pos (by omega))
  · refine lv_iload_n hx hb dX0_has_4 rfl (lv_at hl 1 rfl) ?_
    refine lv_aload_n hx hb dX0_has_5 rfl (lv_at hl 0 rfl) ?_
    refine va_get (D := D) (ci := 0) (v := .int (nI (v_h r))) (C := RX0) (T := TX0) (N := 7) hx hb hts hi0 hown hK hR 0 rfl rfl 5 (by decide) (hts (.fieldLink RX0 30 "RingSeries$Ring" "held" "I") (by decide +kernel)) (fun _ h9 => h9) rfl dX0_has_6 ?_
    refine lv_icmp_ge (tgt := 16) hx hb dX0_has_9 (by decide) (fun c_9 => ?_) (fun c_9 => ?_)
    · have c_9 := (nI_leI (a := v_h r) (b := j) (by omega) (by omega)).mp c_9
      exact absurd c_9 (by omega)
    · have c_9 := mt (nI_leI (a := v_h r) (b := j) (by omega) (by omega)).mpr c_9
      refine lv_iconst (v := 1) hx hb dX0_has_12 (by decide) ?_
      refine lv_goto (tgt := 17) hx hb dX0_has_13 (by decide) ?_
      exact ro_zret hx hb hr (by first | rfl | decide) rfl dX0_has_17 hlocks
set_option maxHeartbeats 4000000 in
set_option maxRecDepth 100000 in
/-- has(i) -/
theorem c_X0_has_f (l : Launch) {D : va_G} {cI cA cJ : ClassId} {H : Heap} (A : rgA) (r : rgV) (hk : r_ok r) (hR : va_P D vwCl (rgW cI cA A r) H) (i : Int32) (hn : ¬ ix (v_h r) i) : Met l yX0_has wsX0_has ({ frames := 0, cells := 0, slots := 0, locals := 0 }) (ro_P D vwCl (tyL cI cA cJ) H [.ref (a_o A), .int i]) (ro_Q (.int 0) H) 0 0 ro_no := by
  refine Met.ofW (cc := cX0_has) (maxL := 2) (ret := (some .boolean)) (by decide) rfl ?_
  intro p e s m args below meth c s₁ B hml hv
  obtain ⟨rfl, hh, hK⟩ := hv
  subst hh
  have hx := B.exec
  have hb := B.bytes
  have hr := B.returns
  have hlocks := B.notSynchronized
  have hts := atoms_spec (ws := wsX0_has) B.pre
  have hown : s.vm.findClass RX0 = some m.cls := findClass_of_methodNamed B.named
  have hi0 : ∀ w ∈ wsX00, w ∈ wsX0_has := fun w h => List.mem_cons_of_mem _ (List.mem_append_right _ h)
  have hl := lv_entry ([.ref (a_o A), .int i]) (n := 2) (Nat.le_of_ble_eq_true rfl)
  rw [lg_entry_eq]
  generalize (lg_sl ([.ref (a_o A), .int i]) ++ List.replicate (2 - (lg_sl ([.ref (a_o A), .int i])).length) Slot.unset).toArray = ls at hl ⊢
  have hl : lv_has ls 2 [(0, .ref (a_o A)), (1, .int i)] := hl
  obtain ⟨k1, k2, k3, k4, k5, k6⟩ := id hk
  refine lv_iload_n hx hb dX0_has_0 rfl (lv_at hl 1 rfl) ?_
  refine lv_if_lt (tgt := 16) hx hb dX0_has_1 (by decide) (fun c_1 => ?_) (fun c_1 => ?_)
  · refine lv_iconst (v := 0) hx hb dX0_has_16 (by decide) ?_
    exact ro_zret hx hb hr (by first | rfl | decide) rfl dX0_has_17 hlocks
  · refine lv_iload_n hx hb dX0_has_4 rfl (lv_at hl 1 rfl) ?_
    refine lv_aload_n hx hb dX0_has_5 rfl (lv_at hl 0 rfl) ?_
    refine va_get (D := D) (ci := 0) (v := .int (nI (v_h r))) (C := RX0) (T := TX0) (N := 7) hx hb hts hi0 hown hK hR 0 rfl rfl 5 (by decide) (hts (.fieldLink RX0 30 "RingSeries$Ring" "held" "I") (by decide +kernel)) (fun _ h9 => h9) rfl dX0_has_6 ?_
    refine lv_icmp_ge (tgt := 16) hx hb dX0_has_9 (by decide) (fun c_9 => ?_) (fun c_9 => ?_)
    · refine lv_iconst (v := 0) hx hb dX0_has_16 (by decide) ?_
      exact ro_zret hx hb hr (by first | rfl | decide) rfl dX0_has_17 hlocks
    · exact absurd (ix_nix hn) (fun q => q.elim c_1 c_9)
set_option maxHeartbeats 4000000 in
set_option maxRecDepth 100000 in
/-- slot(i) -/
theorem c_X0_slot (l : Launch) {D : va_G} {cI cA cJ : ClassId} {H : Heap} (A : rgA) (r : rgV) (hk : r_ok r) (hR : va_P D vwCl (rgW cI cA A r) H) (j : Nat) (hj : j < v_N r) : Met l yX0_slot wsX0_slot ({ frames := 0, cells := 0, slots := 0, locals := 0 }) (ro_P D vwCl (tyL cI cA cJ) H [.ref (a_o A), .int (nI j)]) (ro_Q (.int (nI (sl r j))) H) 0 0 ro_no := by
  refine Met.ofW (cc := cX0_slot) (maxL := 3) (ret := (some .int)) (by decide) rfl ?_
  intro p e s m args below meth c s₁ B hml hv
  obtain ⟨rfl, hh, hK⟩ := hv
  subst hh
  have hx := B.exec
  have hb := B.bytes
  have hr := B.returns
  have hlocks := B.notSynchronized
  have hts := atoms_spec (ws := wsX0_slot) B.pre
  have hown : s.vm.findClass RX0 = some m.cls := findClass_of_methodNamed B.named
  have hi0 : ∀ w ∈ wsX00, w ∈ wsX0_slot := fun w h => List.mem_cons_of_mem _ (List.mem_append_right _ h)
  have hl := lv_entry ([.ref (a_o A), .int (nI j)]) (n := 3) (Nat.le_of_ble_eq_true rfl)
  rw [lg_entry_eq]
  generalize (lg_sl ([.ref (a_o A), .int (nI j)]) ++ List.replicate (3 - (lg_sl ([.ref (a_o A), .int (nI j)])).length) Slot.unset).toArray = ls at hl ⊢
  have hl : lv_has ls 3 [(0, .ref (a_o A)), (1, .int (nI j))] := hl
  obtain ⟨k1, k2, k3, k4, k5, k6⟩ := id hk
  refine lv_aload_n hx hb dX0_slot_0 rfl (lv_at hl 0 rfl) ?_
  refine va_get (D := D) (ci := 0) (v := .int (nI (v_o r))) (C := RX0) (T := TX0) (N := 7) hx hb hts hi0 hown hK hR 0 rfl rfl 4 (by decide) (hts (.fieldLink RX0 79 "RingSeries$Ring" "oldest" "I") (by decide +kernel)) (fun _ h9 => h9) rfl dX0_slot_1 ?_
  refine lv_iload_n hx hb dX0_slot_4 rfl (lv_at hl 1 rfl) ?_
  refine lv_iadd hx hb dX0_slot_5 ?_
  refine top_i (nI_add _ _) ?_
  refine lv_istore_n (lv' := [(2, .int (nI ((v_o r) + j))), (0, .ref (a_o A)), (1, .int (nI j))]) hx hb dX0_slot_6 rfl hl (by decide) rfl (fun ls hl => ?_)
  refine lv_iload_n hx hb dX0_slot_7 rfl (lv_at hl 0 rfl) ?_
  refine lv_aload_n hx hb dX0_slot_8 rfl (lv_at hl 1 rfl) ?_
  refine va_get (D := D) (ci := 0) (v := .int (nI (v_N r))) (C := RX0) (T := TX0) (N := 7) hx hb hts hi0 hown hK hR 0 rfl rfl 0 (by decide) (hts (.fieldLink RX0 15 "RingSeries$Ring" "room" "I") (by decide +kernel)) (fun _ h9 => h9) rfl dX0_slot_9 ?_
  refine lv_icmp_ge (tgt := 19) hx hb dX0_slot_12 (by decide) (fun c_12 => ?_) (fun c_12 => ?_)
  · have c_12 := (nI_leI (a := v_N r) (b := (v_o r) + j) (by omega) (by omega)).mp c_12
    refine lv_iload_n hx hb dX0_slot_19 rfl (lv_at hl 0 rfl) ?_
    refine lv_aload_n hx hb dX0_slot_20 rfl (lv_at hl 1 rfl) ?_
    refine va_get (D := D) (ci := 0) (v := .int (nI (v_N r))) (C := RX0) (T := TX0) (N := 7) hx hb hts hi0 hown hK hR 0 rfl rfl 0 (by decide) (hts (.fieldLink RX0 15 "RingSeries$Ring" "room" "I") (by decide +kernel)) (fun _ h9 => h9) rfl dX0_slot_21 ?_
    refine lv_isub hx hb dX0_slot_24 ?_
    refine top_i (pk_sub (by omega)) ?_
    exact ro_iret hx hb hr (by unfold sl; rw [if_neg (by omega)]) dX0_slot_25 hlocks
  · have c_12 := mt (nI_leI (a := v_N r) (b := (v_o r) + j) (by omega) (by omega)).mpr c_12
    refine lv_iload_n hx hb dX0_slot_15 rfl (lv_at hl 0 rfl) ?_
    refine lv_goto (tgt := 25) hx hb dX0_slot_16 (by decide) ?_
    exact ro_iret hx hb hr (by unfold sl; rw [if_pos (by omega)]) dX0_slot_25 hlocks
set_option maxHeartbeats 4000000 in
set_option maxRecDepth 100000 in
/-- startOf(i), an entry -/
theorem c_X0_startOf (l : Launch) {D : va_G} {cI cA cJ : ClassId} {H : Heap} (A : rgA) (r : rgV) (hk : r_ok r) (hR : va_P D vwCl (rgW cI cA A r) H) (j : Nat) (hj : j < v_h r) : Met l yX0_startOf wsX0_startOf ({ frames := 1, cells := 0, slots := 0, locals := 22 }) (ro_P D vwCl (tyL cI cA cJ) H [.ref (a_o A), .int (nI j)]) (ro_Q (.int (v_E r j)) H) 0 0 ro_no := by
  refine Met.ofW (cc := cX0_startOf) (maxL := 2) (ret := (some .int)) (by decide) rfl ?_
  intro p e s m args below meth c s₁ B hml hv
  obtain ⟨rfl, hh, hK⟩ := hv
  subst hh
  have hx := B.exec
  have hb := B.bytes
  have hr := B.returns
  have hlocks := B.notSynchronized
  have hts := atoms_spec (ws := wsX0_startOf) B.pre
  have hown : s.vm.findClass RX0 = some m.cls := findClass_of_methodNamed B.named
  have hi0 : ∀ w ∈ wsX00, w ∈ wsX0_startOf := fun w h => List.mem_cons_of_mem _ (List.mem_append_right _ h)
  have hl := lv_entry ([.ref (a_o A), .int (nI j)]) (n := 2) (Nat.le_of_ble_eq_true rfl)
  rw [lg_entry_eq]
  generalize (lg_sl ([.ref (a_o A), .int (nI j)]) ++ List.replicate (2 - (lg_sl ([.ref (a_o A), .int (nI j)])).length) Slot.unset).toArray = ls at hl ⊢
  have hl : lv_has ls 2 [(0, .ref (a_o A)), (1, .int (nI j))] := hl
  obtain ⟨k1, k2, k3, k4, k5, k6⟩ := id hk
  refine lv_aload_n hx hb dX0_startOf_0 rfl (lv_at hl 0 rfl) ?_
  refine lv_iload_n hx hb dX0_startOf_1 rfl (lv_at hl 1 rfl) ?_
  refine ro_call (va_runV (As := [.int (nI j)]) (rest := []) ⟨hx, hb, hml, hown, hts⟩ (c_X0_has_t l A r hk hR j (by omega)) (cwV 1 hts gX0_startOf_X0_has rfl rfl rfl (by decide +kernel) ⟨Nat.le_of_ble_eq_true rfl, Nat.le_of_ble_eq_true rfl⟩) (ro_preV hK (va_recv hK hR (ci := 0) (q0 := 0) rfl rfl)) rfl rfl hl.1 rfl (lv_room (Nat.le_of_ble_eq_true rfl)) dX0_startOf_2 ⟨Nat.zero_le _, Nat.zero_le _⟩) ?_
  refine lv_if_eq (tgt := 21) hx hb dX0_startOf_5 (by decide) (fun c_5 => ?_) (fun c_5 => ?_)
  · exact absurd c_5 (by decide)
  · refine lv_aload_n hx hb dX0_startOf_8 rfl (lv_at hl 0 rfl) ?_
    refine va_get (D := D) (ci := 0) (v := .ref (a_s A)) (C := RX0) (T := TX0) (N := 7) hx hb hts hi0 hown hK hR 0 rfl rfl 2 (by decide) (hts (.fieldLink RX0 21 "RingSeries$Ring" "starts" "[I") (by decide +kernel)) (fun _ h9 => h9) rfl dX0_startOf_9 ?_
    refine lv_aload_n hx hb dX0_startOf_12 rfl (lv_at hl 0 rfl) ?_
    refine lv_iload_n hx hb dX0_startOf_13 rfl (lv_at hl 1 rfl) ?_
    refine ro_call (va_runV (As := [.int (nI j)]) (rest := [.ref (a_s A)]) ⟨hx, hb, hml, hown, hts⟩ (c_X0_slot l A r hk hR j (by omega)) (cwV 1 hts gX0_startOf_X0_slot rfl rfl rfl (by decide +kernel) ⟨Nat.le_of_ble_eq_true rfl, Nat.le_of_ble_eq_true rfl⟩) (ro_preV hK (va_recv hK hR (ci := 0) (q0 := 0) rfl rfl)) rfl rfl hl.1 rfl (lv_room (Nat.le_of_ble_eq_true rfl)) dX0_startOf_14 ⟨Nat.zero_le _, Nat.zero_le _⟩) ?_
    refine ald_i (j := (sl r j)) hx hb hK hR 1 0 rfl rfl (sl_lt hk (by omega)) (by omega) dX0_startOf_17 ?_
    refine lv_goto (tgt := 22) hx hb dX0_startOf_18 (by decide) ?_
    exact ro_iret hx hb hr rfl dX0_startOf_22 hlocks
set_option maxHeartbeats 4000000 in
set_option maxRecDepth 100000 in
/-- startOf(i), no entry -/
theorem c_X0_startOf_n (l : Launch) {D : va_G} {cI cA cJ : ClassId} {H : Heap} (A : rgA) (r : rgV) (hk : r_ok r) (hR : va_P D vwCl (rgW cI cA A r) H) (i : Int32) (hn : ¬ ix (v_h r) i) : Met l yX0_startOf wsX0_startOf ({ frames := 1, cells := 0, slots := 0, locals := 22 }) (ro_P D vwCl (tyL cI cA cJ) H [.ref (a_o A), .int i]) (ro_Q (.int (-1)) H) 0 0 ro_no := by
  refine Met.ofW (cc := cX0_startOf) (maxL := 2) (ret := (some .int)) (by decide) rfl ?_
  intro p e s m args below meth c s₁ B hml hv
  obtain ⟨rfl, hh, hK⟩ := hv
  subst hh
  have hx := B.exec
  have hb := B.bytes
  have hr := B.returns
  have hlocks := B.notSynchronized
  have hts := atoms_spec (ws := wsX0_startOf) B.pre
  have hown : s.vm.findClass RX0 = some m.cls := findClass_of_methodNamed B.named
  have hi0 : ∀ w ∈ wsX00, w ∈ wsX0_startOf := fun w h => List.mem_cons_of_mem _ (List.mem_append_right _ h)
  have hl := lv_entry ([.ref (a_o A), .int i]) (n := 2) (Nat.le_of_ble_eq_true rfl)
  rw [lg_entry_eq]
  generalize (lg_sl ([.ref (a_o A), .int i]) ++ List.replicate (2 - (lg_sl ([.ref (a_o A), .int i])).length) Slot.unset).toArray = ls at hl ⊢
  have hl : lv_has ls 2 [(0, .ref (a_o A)), (1, .int i)] := hl
  obtain ⟨k1, k2, k3, k4, k5, k6⟩ := id hk
  refine lv_aload_n hx hb dX0_startOf_0 rfl (lv_at hl 0 rfl) ?_
  refine lv_iload_n hx hb dX0_startOf_1 rfl (lv_at hl 1 rfl) ?_
  refine ro_call (va_runV (As := [.int i]) (rest := []) ⟨hx, hb, hml, hown, hts⟩ (c_X0_has_f l A r hk hR i hn) (cwV 1 hts gX0_startOf_X0_has rfl rfl rfl (by decide +kernel) ⟨Nat.le_of_ble_eq_true rfl, Nat.le_of_ble_eq_true rfl⟩) (ro_preV hK (va_recv hK hR (ci := 0) (q0 := 0) rfl rfl)) rfl rfl hl.1 rfl (lv_room (Nat.le_of_ble_eq_true rfl)) dX0_startOf_2 ⟨Nat.zero_le _, Nat.zero_le _⟩) ?_
  refine lv_if_eq (tgt := 21) hx hb dX0_startOf_5 (by decide) (fun c_5 => ?_) (fun c_5 => ?_)
  · refine lv_iconst (v := (-1)) hx hb dX0_startOf_21 (by decide) ?_
    exact ro_iret hx hb hr rfl dX0_startOf_22 hlocks
  · exact absurd rfl c_5
set_option maxHeartbeats 4000000 in
set_option maxRecDepth 100000 in
/-- figureOf(i, what), an entry -/
theorem c_X0_figureOf (l : Launch) {D : va_G} {cI cA cJ : ClassId} {H : Heap} (A : rgA) (r : rgV) (hk : r_ok r) (hR : va_P D vwCl (rgW cI cA A r) H) (j k : Nat) (hj : j < v_h r) (hq : k < 4) : Met l yX0_figureOf wsX0_figureOf ({ frames := 1, cells := 0, slots := 0, locals := 22 }) (ro_P D vwCl (tyL cI cA cJ) H [.ref (a_o A), .int (nI j), .int (nI k)]) (ro_Q (.int (v_G r k j)) H) 0 0 ro_no := by
  refine Met.ofW (cc := cX0_figureOf) (maxL := 3) (ret := (some .int)) (by decide) rfl ?_
  intro p e s m args below meth c s₁ B hml hv
  obtain ⟨rfl, hh, hK⟩ := hv
  subst hh
  have hx := B.exec
  have hb := B.bytes
  have hr := B.returns
  have hlocks := B.notSynchronized
  have hts := atoms_spec (ws := wsX0_figureOf) B.pre
  have hown : s.vm.findClass RX0 = some m.cls := findClass_of_methodNamed B.named
  have hi0 : ∀ w ∈ wsX00, w ∈ wsX0_figureOf := fun w h => List.mem_cons_of_mem _ (List.mem_append_right _ h)
  have hl := lv_entry ([.ref (a_o A), .int (nI j), .int (nI k)]) (n := 3) (Nat.le_of_ble_eq_true rfl)
  rw [lg_entry_eq]
  generalize (lg_sl ([.ref (a_o A), .int (nI j), .int (nI k)]) ++ List.replicate (3 - (lg_sl ([.ref (a_o A), .int (nI j), .int (nI k)])).length) Slot.unset).toArray = ls at hl ⊢
  have hl : lv_has ls 3 [(0, .ref (a_o A)), (1, .int (nI j)), (2, .int (nI k))] := hl
  obtain ⟨k1, k2, k3, k4, k5, k6⟩ := id hk
  refine lv_aload_n hx hb dX0_figureOf_0 rfl (lv_at hl 0 rfl) ?_
  refine lv_iload_n hx hb dX0_figureOf_1 rfl (lv_at hl 1 rfl) ?_
  refine ro_call (va_runV (As := [.int (nI j)]) (rest := []) ⟨hx, hb, hml, hown, hts⟩ (c_X0_has_t l A r hk hR j (by omega)) (cwV 1 hts gX0_figureOf_X0_has rfl rfl rfl (by decide +kernel) ⟨Nat.le_of_ble_eq_true rfl, Nat.le_of_ble_eq_true rfl⟩) (ro_preV hK (va_recv hK hR (ci := 0) (q0 := 0) rfl rfl)) rfl rfl hl.1 rfl (lv_room (Nat.le_of_ble_eq_true rfl)) dX0_figureOf_2 ⟨Nat.zero_le _, Nat.zero_le _⟩) ?_
  refine lv_if_eq (tgt := 32) hx hb dX0_figureOf_5 (by decide) (fun c_5 => ?_) (fun c_5 => ?_)
  · exact absurd c_5 (by decide)
  · refine lv_iload_n hx hb dX0_figureOf_8 rfl (lv_at hl 2 rfl) ?_
    refine lv_if_lt (tgt := 32) hx hb dX0_figureOf_9 (by decide) (fun c_9 => ?_) (fun c_9 => ?_)
    · exact absurd c_9 (nI_pos (by omega))
    · refine lv_iload_n hx hb dX0_figureOf_12 rfl (lv_at hl 2 rfl) ?_
      refine lv_iconst (v := 4) hx hb dX0_figureOf_13 (by decide) ?_
      refine lv_icmp_ge (tgt := 32) hx hb dX0_figureOf_14 (by decide) (fun c_14 => ?_) (fun c_14 => ?_)
      · have c_14 := (nI_leI (a := 4) (b := k) (by omega) (by omega)).mp c_14
        exact absurd c_14 (by omega)
      · have c_14 := mt (nI_leI (a := 4) (b := k) (by omega) (by omega)).mpr c_14
        refine lv_aload_n hx hb dX0_figureOf_17 rfl (lv_at hl 0 rfl) ?_
        refine va_get (D := D) (ci := 0) (v := .ref (a_f A)) (C := RX0) (T := TX0) (N := 7) hx hb hts hi0 hown hK hR 0 rfl rfl 3 (by decide) (hts (.fieldLink RX0 27 "RingSeries$Ring" "figures" "[[I") (by decide +kernel)) (fun _ h9 => h9) rfl dX0_figureOf_18 ?_
        refine lv_iload_n hx hb dX0_figureOf_21 rfl (lv_at hl 2 rfl) ?_
        refine ald_a (j := k) hx hb hK hR 2 1 rfl rfl (by omega) (by omega) dX0_figureOf_22 ?_
        refine lv_aload_n hx hb dX0_figureOf_23 rfl (lv_at hl 0 rfl) ?_
        refine lv_iload_n hx hb dX0_figureOf_24 rfl (lv_at hl 1 rfl) ?_
        refine ro_call (va_runV (As := [.int (nI j)]) (rest := [.ref (a_b A k)]) ⟨hx, hb, hml, hown, hts⟩ (c_X0_slot l A r hk hR j (by omega)) (cwV 1 hts gX0_figureOf_X0_slot rfl rfl rfl (by decide +kernel) ⟨Nat.le_of_ble_eq_true rfl, Nat.le_of_ble_eq_true rfl⟩) (ro_preV hK (va_recv hK hR (ci := 0) (q0 := 0) rfl rfl)) rfl rfl hl.1 rfl (lv_room (Nat.le_of_ble_eq_true rfl)) dX0_figureOf_25 ⟨Nat.zero_le _, Nat.zero_le _⟩) ?_
        refine ald_i (j := (sl r j)) hx hb hK hR (3 + k) 0 (rgW_row (by omega)) rfl (sl_lt hk (by omega)) (by omega) dX0_figureOf_28 ?_
        refine lv_goto (tgt := 33) hx hb dX0_figureOf_29 (by decide) ?_
        exact ro_iret hx hb hr rfl dX0_figureOf_33 hlocks
set_option maxHeartbeats 4000000 in
set_option maxRecDepth 100000 in
/-- figureOf(i, what), no entry -/
theorem c_X0_figureOf_n (l : Launch) {D : va_G} {cI cA cJ : ClassId} {H : Heap} (A : rgA) (r : rgV) (hk : r_ok r) (hR : va_P D vwCl (rgW cI cA A r) H) (i k : Int32) (hn : ¬ ix (v_h r) i) : Met l yX0_figureOf wsX0_figureOf ({ frames := 1, cells := 0, slots := 0, locals := 22 }) (ro_P D vwCl (tyL cI cA cJ) H [.ref (a_o A), .int i, .int k]) (ro_Q (.int 0) H) 0 0 ro_no := by
  refine Met.ofW (cc := cX0_figureOf) (maxL := 3) (ret := (some .int)) (by decide) rfl ?_
  intro p e s m args below meth c s₁ B hml hv
  obtain ⟨rfl, hh, hK⟩ := hv
  subst hh
  have hx := B.exec
  have hb := B.bytes
  have hr := B.returns
  have hlocks := B.notSynchronized
  have hts := atoms_spec (ws := wsX0_figureOf) B.pre
  have hown : s.vm.findClass RX0 = some m.cls := findClass_of_methodNamed B.named
  have hi0 : ∀ w ∈ wsX00, w ∈ wsX0_figureOf := fun w h => List.mem_cons_of_mem _ (List.mem_append_right _ h)
  have hl := lv_entry ([.ref (a_o A), .int i, .int k]) (n := 3) (Nat.le_of_ble_eq_true rfl)
  rw [lg_entry_eq]
  generalize (lg_sl ([.ref (a_o A), .int i, .int k]) ++ List.replicate (3 - (lg_sl ([.ref (a_o A), .int i, .int k])).length) Slot.unset).toArray = ls at hl ⊢
  have hl : lv_has ls 3 [(0, .ref (a_o A)), (1, .int i), (2, .int k)] := hl
  obtain ⟨k1, k2, k3, k4, k5, k6⟩ := id hk
  refine lv_aload_n hx hb dX0_figureOf_0 rfl (lv_at hl 0 rfl) ?_
  refine lv_iload_n hx hb dX0_figureOf_1 rfl (lv_at hl 1 rfl) ?_
  refine ro_call (va_runV (As := [.int i]) (rest := []) ⟨hx, hb, hml, hown, hts⟩ (c_X0_has_f l A r hk hR i hn) (cwV 1 hts gX0_figureOf_X0_has rfl rfl rfl (by decide +kernel) ⟨Nat.le_of_ble_eq_true rfl, Nat.le_of_ble_eq_true rfl⟩) (ro_preV hK (va_recv hK hR (ci := 0) (q0 := 0) rfl rfl)) rfl rfl hl.1 rfl (lv_room (Nat.le_of_ble_eq_true rfl)) dX0_figureOf_2 ⟨Nat.zero_le _, Nat.zero_le _⟩) ?_
  refine lv_if_eq (tgt := 32) hx hb dX0_figureOf_5 (by decide) (fun c_5 => ?_) (fun c_5 => ?_)
  · refine lv_iconst (v := 0) hx hb dX0_figureOf_32 (by decide) ?_
    exact ro_iret hx hb hr rfl dX0_figureOf_33 hlocks
  · exact absurd rfl c_5
set_option maxHeartbeats 4000000 in
set_option maxRecDepth 100000 in
/-- figureOf(i, what), no figure -/
theorem c_X0_figureOf_m (l : Launch) {D : va_G} {cI cA cJ : ClassId} {H : Heap} (A : rgA) (r : rgV) (hk : r_ok r) (hR : va_P D vwCl (rgW cI cA A r) H) (j : Nat) (k : Int32) (hj : j < v_h r) (hn : ¬ ix 4 k) : Met l yX0_figureOf wsX0_figureOf ({ frames := 1, cells := 0, slots := 0, locals := 22 }) (ro_P D vwCl (tyL cI cA cJ) H [.ref (a_o A), .int (nI j), .int k]) (ro_Q (.int 0) H) 0 0 ro_no := by
  refine Met.ofW (cc := cX0_figureOf) (maxL := 3) (ret := (some .int)) (by decide) rfl ?_
  intro p e s m args below meth c s₁ B hml hv
  obtain ⟨rfl, hh, hK⟩ := hv
  subst hh
  have hx := B.exec
  have hb := B.bytes
  have hr := B.returns
  have hlocks := B.notSynchronized
  have hts := atoms_spec (ws := wsX0_figureOf) B.pre
  have hown : s.vm.findClass RX0 = some m.cls := findClass_of_methodNamed B.named
  have hi0 : ∀ w ∈ wsX00, w ∈ wsX0_figureOf := fun w h => List.mem_cons_of_mem _ (List.mem_append_right _ h)
  have hl := lv_entry ([.ref (a_o A), .int (nI j), .int k]) (n := 3) (Nat.le_of_ble_eq_true rfl)
  rw [lg_entry_eq]
  generalize (lg_sl ([.ref (a_o A), .int (nI j), .int k]) ++ List.replicate (3 - (lg_sl ([.ref (a_o A), .int (nI j), .int k])).length) Slot.unset).toArray = ls at hl ⊢
  have hl : lv_has ls 3 [(0, .ref (a_o A)), (1, .int (nI j)), (2, .int k)] := hl
  obtain ⟨k1, k2, k3, k4, k5, k6⟩ := id hk
  refine lv_aload_n hx hb dX0_figureOf_0 rfl (lv_at hl 0 rfl) ?_
  refine lv_iload_n hx hb dX0_figureOf_1 rfl (lv_at hl 1 rfl) ?_
  refine ro_call (va_runV (As := [.int (nI j)]) (rest := []) ⟨hx, hb, hml, hown, hts⟩ (c_X0_has_t l A r hk hR j (by omega)) (cwV 1 hts gX0_figureOf_X0_has rfl rfl rfl (by decide +kernel) ⟨Nat.le_of_ble_eq_true rfl, Nat.le_of_ble_eq_true rfl⟩) (ro_preV hK (va_recv hK hR (ci := 0) (q0 := 0) rfl rfl)) rfl rfl hl.1 rfl (lv_room (Nat.le_of_ble_eq_true rfl)) dX0_figureOf_2 ⟨Nat.zero_le _, Nat.zero_le _⟩) ?_
  refine lv_if_eq (tgt := 32) hx hb dX0_figureOf_5 (by decide) (fun c_5 => ?_) (fun c_5 => ?_)
  · exact absurd c_5 (by decide)
  · refine lv_iload_n hx hb dX0_figureOf_8 rfl (lv_at hl 2 rfl) ?_
    refine lv_if_lt (tgt := 32) hx hb dX0_figureOf_9 (by decide) (fun c_9 => ?_) (fun c_9 => ?_)
    · refine lv_iconst (v := 0) hx hb dX0_figureOf_32 (by decide) ?_
      exact ro_iret hx hb hr rfl dX0_figureOf_33 hlocks
    · refine lv_iload_n hx hb dX0_figureOf_12 rfl (lv_at hl 2 rfl) ?_
      refine lv_iconst (v := 4) hx hb dX0_figureOf_13 (by decide) ?_
      refine lv_icmp_ge (tgt := 32) hx hb dX0_figureOf_14 (by decide) (fun c_14 => ?_) (fun c_14 => ?_)
      · refine lv_iconst (v := 0) hx hb dX0_figureOf_32 (by decide) ?_
        exact ro_iret hx hb hr rfl dX0_figureOf_33 hlocks
      · exact absurd (ix_nix (h := 4) hn) (fun q => q.elim c_9 c_14)
set_option maxHeartbeats 4000000 in
set_option maxRecDepth 100000 in
/-- endOfEntry(i) -/
theorem c_X0_endOfEntry (l : Launch) {D : va_G} {cI cA cJ : ClassId} {H : Heap} (A : rgA) (r : rgV) (hk : r_ok r) (hR : va_P D vwCl (rgW cI cA A r) H) (j : Nat) (hj : j < v_h r) : Met l yX0_endOfEntry wsX0_endOfEntry ({ frames := 2, cells := 0, slots := 0, locals := 43 }) (ro_P D vwCl (tyL cI cA cJ) H [.ref (a_o A), .int (nI j)]) (ro_Q (.long (v_X r j)) H) 0 0 ro_no := by
  refine Met.ofW (cc := cX0_endOfEntry) (maxL := 2) (ret := (some .long)) (by decide) rfl ?_
  intro p e s m args below meth c s₁ B hml hv
  obtain ⟨rfl, hh, hK⟩ := hv
  subst hh
  have hx := B.exec
  have hb := B.bytes
  have hr := B.returns
  have hlocks := B.notSynchronized
  have hts := atoms_spec (ws := wsX0_endOfEntry) B.pre
  have hown : s.vm.findClass RX0 = some m.cls := findClass_of_methodNamed B.named
  have hi0 : ∀ w ∈ wsX00, w ∈ wsX0_endOfEntry := fun w h => List.mem_cons_of_mem _ (List.mem_append_right _ h)
  have hl := lv_entry ([.ref (a_o A), .int (nI j)]) (n := 2) (Nat.le_of_ble_eq_true rfl)
  rw [lg_entry_eq]
  generalize (lg_sl ([.ref (a_o A), .int (nI j)]) ++ List.replicate (2 - (lg_sl ([.ref (a_o A), .int (nI j)])).length) Slot.unset).toArray = ls at hl ⊢
  have hl : lv_has ls 2 [(0, .ref (a_o A)), (1, .int (nI j))] := hl
  obtain ⟨k1, k2, k3, k4, k5, k6⟩ := id hk
  refine lv_aload_n hx hb dX0_endOfEntry_0 rfl (lv_at hl 0 rfl) ?_
  refine lv_iload_n hx hb dX0_endOfEntry_1 rfl (lv_at hl 1 rfl) ?_
  refine ro_call (va_runV (As := [.int (nI j)]) (rest := []) ⟨hx, hb, hml, hown, hts⟩ (c_X0_startOf l A r hk hR j (by omega)) (cwV 1 hts gX0_endOfEntry_X0_startOf rfl rfl rfl (by decide +kernel) ⟨Nat.le_of_ble_eq_true rfl, Nat.le_of_ble_eq_true rfl⟩) (ro_preV hK (va_recv hK hR (ci := 0) (q0 := 0) rfl rfl)) rfl rfl hl.1 rfl (lv_room (Nat.le_of_ble_eq_true rfl)) dX0_endOfEntry_2 ⟨Nat.zero_le _, Nat.zero_le _⟩) ?_
  refine lv_i2l hx hb dX0_endOfEntry_5 rfl ?_
  refine lv_aload_n hx hb dX0_endOfEntry_6 rfl (lv_at hl 0 rfl) ?_
  refine va_get (D := D) (ci := 0) (v := .int (nI (v_w r))) (C := RX0) (T := TX0) (N := 7) hx hb hts hi0 hown hK hR 0 rfl rfl 1 (by decide) (hts (.fieldLink RX0 18 "RingSeries$Ring" "width" "I") (by decide +kernel)) (fun _ h9 => h9) rfl dX0_endOfEntry_7 ?_
  refine lv_i2l hx hb dX0_endOfEntry_10 rfl ?_
  refine lv_ladd hx hb dX0_endOfEntry_11 ?_
  exact ro_lret hx hb hr rfl dX0_endOfEntry_12 hlocks
set_option maxHeartbeats 4000000 in
set_option maxRecDepth 100000 in
/-- joined(one, other, what) -/
theorem c_X0_joined_0 (l : Launch) {D : va_G} {cI cA cJ : ClassId} {H : Heap} (x y : Int32) : Met l yX0_joined wsX0_joined ({ frames := 1, cells := 0, slots := 0, locals := 21 }) (ro_P D vwCl (tyL cI cA cJ) H [.int x, .int y, .int 0]) (ro_Q (.int (jn 0 x y)) H) 0 0 ro_no := by
  refine Met.ofW (cc := cX0_joined) (maxL := 3) (ret := (some .int)) (by decide) rfl ?_
  intro p e s m args below meth c s₁ B hml hv
  obtain ⟨rfl, hh, hK⟩ := hv
  subst hh
  have hx := B.exec
  have hb := B.bytes
  have hr := B.returns
  have hlocks := B.notSynchronized
  have hts := atoms_spec (ws := wsX0_joined) B.pre
  have hown : s.vm.findClass RX0 = some m.cls := findClass_of_methodNamed B.named
  have hl := lv_entry ([.int x, .int y, .int 0]) (n := 3) (Nat.le_of_ble_eq_true rfl)
  rw [lg_entry_eq]
  generalize (lg_sl ([.int x, .int y, .int 0]) ++ List.replicate (3 - (lg_sl ([.int x, .int y, .int 0])).length) Slot.unset).toArray = ls at hl ⊢
  have hl : lv_has ls 3 [(0, .int x), (1, .int y), (2, .int 0)] := hl
  refine lv_iload_n hx hb dX0_joined_0 rfl (lv_at hl 2 rfl) ?_
  refine lv_lookup (off := 27) (tgt := 28) hx hb dX0_joined_1 (by decide) (by decide +kernel) (by decide) ?_
  refine lv_iload_n hx hb dX0_joined_28 rfl (lv_at hl 0 rfl) ?_
  refine lv_iload_n hx hb dX0_joined_29 rfl (lv_at hl 1 rfl) ?_
  refine va_mmin hx hb (hml.trans hl.1.symm) hown (hts (.methodLink RX0 71 Lib.Math.min.name) (by decide +kernel)) (hts (.static Lib.Math.min.name) (by decide +kernel)) (hts (.initialized "java/lang/Math") (by decide +kernel)) (hts (.code Lib.Math.min.name Lib.Math.min.code 2 (some .int)) (by decide +kernel)) (Nat.le_of_ble_eq_true rfl) (Nat.le_of_ble_eq_true rfl) (Nat.zero_le _) (Nat.zero_le _) dX0_joined_30 ?_
  exact ro_iret hx hb hr rfl dX0_joined_33 hlocks
set_option maxHeartbeats 4000000 in
set_option maxRecDepth 100000 in
/-- joined(one, other, what) -/
theorem c_X0_joined_1 (l : Launch) {D : va_G} {cI cA cJ : ClassId} {H : Heap} (x y : Int32) : Met l yX0_joined wsX0_joined ({ frames := 1, cells := 0, slots := 0, locals := 21 }) (ro_P D vwCl (tyL cI cA cJ) H [.int x, .int y, .int 1]) (ro_Q (.int (jn 1 x y)) H) 0 0 ro_no := by
  refine Met.ofW (cc := cX0_joined) (maxL := 3) (ret := (some .int)) (by decide) rfl ?_
  intro p e s m args below meth c s₁ B hml hv
  obtain ⟨rfl, hh, hK⟩ := hv
  subst hh
  have hx := B.exec
  have hb := B.bytes
  have hr := B.returns
  have hlocks := B.notSynchronized
  have hts := atoms_spec (ws := wsX0_joined) B.pre
  have hown : s.vm.findClass RX0 = some m.cls := findClass_of_methodNamed B.named
  have hl := lv_entry ([.int x, .int y, .int 1]) (n := 3) (Nat.le_of_ble_eq_true rfl)
  rw [lg_entry_eq]
  generalize (lg_sl ([.int x, .int y, .int 1]) ++ List.replicate (3 - (lg_sl ([.int x, .int y, .int 1])).length) Slot.unset).toArray = ls at hl ⊢
  have hl : lv_has ls 3 [(0, .int x), (1, .int y), (2, .int 1)] := hl
  refine lv_iload_n hx hb dX0_joined_0 rfl (lv_at hl 2 rfl) ?_
  refine lv_lookup (off := 33) (tgt := 34) hx hb dX0_joined_1 (by decide) (by decide +kernel) (by decide) ?_
  refine lv_iload_n hx hb dX0_joined_34 rfl (lv_at hl 0 rfl) ?_
  refine lv_iload_n hx hb dX0_joined_35 rfl (lv_at hl 1 rfl) ?_
  refine va_mmax hx hb (hml.trans hl.1.symm) hown (hts (.methodLink RX0 76 Lib.Math.max.name) (by decide +kernel)) (hts (.static Lib.Math.max.name) (by decide +kernel)) (hts (.initialized "java/lang/Math") (by decide +kernel)) (hts (.code Lib.Math.max.name Lib.Math.max.code 2 (some .int)) (by decide +kernel)) (Nat.le_of_ble_eq_true rfl) (Nat.le_of_ble_eq_true rfl) (Nat.zero_le _) (Nat.zero_le _) dX0_joined_36 ?_
  exact ro_iret hx hb hr rfl dX0_joined_39 hlocks
set_option maxHeartbeats 4000000 in
set_option maxRecDepth 100000 in
/-- joined(one, other, what) -/
theorem c_X0_joined_2 (l : Launch) {D : va_G} {cI cA cJ : ClassId} {H : Heap} (x y : Int32) (k : Nat) (h2 : 2 ≤ k) (h4 : k < 4) : Met l yX0_joined wsX0_joined ({ frames := 1, cells := 0, slots := 0, locals := 21 }) (ro_P D vwCl (tyL cI cA cJ) H [.int x, .int y, .int (nI k)]) (ro_Q (.int (jn k x y)) H) 0 0 ro_no := by
  refine Met.ofW (cc := cX0_joined) (maxL := 3) (ret := (some .int)) (by decide) rfl ?_
  intro p e s m args below meth c s₁ B hml hv
  obtain ⟨rfl, hh, hK⟩ := hv
  subst hh
  have hx := B.exec
  have hb := B.bytes
  have hr := B.returns
  have hlocks := B.notSynchronized
  have hts := atoms_spec (ws := wsX0_joined) B.pre
  have hown : s.vm.findClass RX0 = some m.cls := findClass_of_methodNamed B.named
  have hl := lv_entry ([.int x, .int y, .int (nI k)]) (n := 3) (Nat.le_of_ble_eq_true rfl)
  rw [lg_entry_eq]
  generalize (lg_sl ([.int x, .int y, .int (nI k)]) ++ List.replicate (3 - (lg_sl ([.int x, .int y, .int (nI k)])).length) Slot.unset).toArray = ls at hl ⊢
  have hl : lv_has ls 3 [(0, .int x), (1, .int y), (2, .int (nI k))] := hl
  refine lv_iload_n hx hb dX0_joined_0 rfl (lv_at hl 2 rfl) ?_
  refine lv_lookup (off := 39) (tgt := 40) hx hb dX0_joined_1 (by decide) (by rw [nI_toInt (by omega)]; exact jn_off h2) (by decide) ?_
  refine lv_iload_n hx hb dX0_joined_40 rfl (lv_at hl 0 rfl) ?_
  refine lv_iload_n hx hb dX0_joined_41 rfl (lv_at hl 1 rfl) ?_
  refine lv_iadd hx hb dX0_joined_42 ?_
  exact ro_iret hx hb hr (by unfold jn; rw [if_neg (by omega), if_neg (by omega)]) dX0_joined_43 hlocks
end
section
theorem ffr_le (r : rgV) (t : Int64) : ∀ n i : Nat, i ≤ ffr r t n i ∧ ffr r t n i ≤ i + n
  | 0, i => ⟨Nat.le_refl _, Nat.le_refl _⟩
  | n + 1, i => by
    unfold ffr
    have h := ffr_le r t n (i + 1)
    split <;> omega
theorem ff_le {r : rgV} {t : Int64} {i : Nat} (hi : i ≤ v_h r) : ff r t i ≤ v_h r := by
  have h := ffr_le r t (v_h r - i) i
  unfold ff
  omega
theorem ff_ge {r : rgV} {t : Int64} {i : Nat} : i ≤ ff r t i := (ffr_le r t (v_h r - i) i).1
theorem c_X0_joined_any (l : Launch) {D : va_G} {cI cA cJ : ClassId} {H : Heap} {k : Nat} (h4 : k < 4) (x y : Int32) : Met l yX0_joined wsX0_joined ({ frames := 1, cells := 0, slots := 0, locals := 21 }) (ro_P D vwCl (tyL cI cA cJ) H [.int x, .int y, .int (nI k)]) (ro_Q (.int (jn k x y)) H) 0 0 ro_no := by
  rcases (show k = 0 ∨ k = 1 ∨ 2 ≤ k by omega) with rfl | rfl | h
  · exact c_X0_joined_0 l x y
  · exact c_X0_joined_1 l x y
  · exact c_X0_joined_2 l x y k h h4
set_option maxHeartbeats 4000000 in
set_option maxRecDepth 100000 in
/-- firstFrom(i, time) -/
theorem c_X0_firstFrom (l : Launch) {D : va_G} {cI cA cJ : ClassId} {H : Heap} (A : rgA) (r : rgV) (hk : r_ok r) (hR : va_P D vwCl (rgW cI cA A r) H) (i0 : Nat) (t : Int64) (hi0 : i0 ≤ v_h r) : Met l yX0_firstFrom wsX0_firstFrom ({ frames := 2, cells := 0, slots := 0, locals := 43 }) (ro_P D vwCl (tyL cI cA cJ) H [.ref (a_o A), .int (nI i0), .long t]) (ro_Q (.int (nI (ff r t i0))) H) 0 0 ro_no := by
  refine Met.ofW (cc := cX0_firstFrom) (maxL := 5) (ret := (some .int)) (by decide) rfl ?_
  intro p e s m args below meth c s₁ B hml hv
  obtain ⟨rfl, hh, hK⟩ := hv
  subst hh
  have hx := B.exec
  have hb := B.bytes
  have hr := B.returns
  have hlocks := B.notSynchronized
  have hts := atoms_spec (ws := wsX0_firstFrom) B.pre
  have hown : s.vm.findClass RX0 = some m.cls := findClass_of_methodNamed B.named
  have hi0 : ∀ w ∈ wsX00, w ∈ wsX0_firstFrom := fun w h => List.mem_cons_of_mem _ (List.mem_append_right _ h)
  have hl := lv_entry ([.ref (a_o A), .int (nI i0), .long t]) (n := 5) (Nat.le_of_ble_eq_true rfl)
  rw [lg_entry_eq]
  generalize (lg_sl ([.ref (a_o A), .int (nI i0), .long t]) ++ List.replicate (5 - (lg_sl ([.ref (a_o A), .int (nI i0), .long t])).length) Slot.unset).toArray = ls at hl ⊢
  have hl : lv_has ls 5 [(0, .ref (a_o A)), (1, .int (nI i0)), (2, .long t)] := hl
  obtain ⟨k1, k2, k3, k4, k5, k6⟩ := id hk
  have loop : ∀ (n : Nat) (i : Nat) (ls : Array Slot), i + n = v_h r → ffr r t n i = ff r t i0 → lv_has ls 5 [(4, .int (nI i)), (0, .ref (a_o A)), (1, .int (nI i0)), (2, .long t)] → W p l e (headSpec wsX0_firstFrom ({ frames := 2, cells := 0, slots := 0, locals := 43 })).room s m ([.ref (a_o A), .int (nI i0), .long t] : List Value).toArray below meth c s.heap [] 0 0 (MQ below (ro_Q (.int (nI (ff r t i0))) s.heap) ([.ref (a_o A), .int (nI i0), .long t] : List Value).toArray s 0 0 ro_no) (F0 m 3 ls []) := by
    intro n
    induction n with
    | zero =>
      intro i ls hi hf hl
      refine lv_iload hx hb dX0_firstFrom_3 (lv_at hl 0 rfl) ?_
      refine lv_aload_n hx hb dX0_firstFrom_5 rfl (lv_at hl 1 rfl) ?_
      refine va_get (D := D) (ci := 0) (v := .int (nI (v_h r))) (C := RX0) (T := TX0) (N := 7) hx hb hts hi0 hown hK hR 0 rfl rfl 5 (by decide) (hts (.fieldLink RX0 30 "RingSeries$Ring" "held" "I") (by decide +kernel)) (fun _ h9 => h9) rfl dX0_firstFrom_6 ?_
      refine lv_icmp_ge (tgt := 30) hx hb dX0_firstFrom_9 (by decide) (fun c_9 => ?_) (fun c_9 => ?_)
      · have c_9 := (nI_leI (a := v_h r) (b := i) (by omega) (by omega)).mp c_9
        refine lv_iload hx hb dX0_firstFrom_30 (lv_at hl 0 rfl) ?_
        exact ro_iret hx hb hr (by rw [← hf]; rfl) dX0_firstFrom_32 hlocks
      · have c_9 := mt (nI_leI (a := v_h r) (b := i) (by omega) (by omega)).mpr c_9
        exact absurd c_9 (by omega)
    | succ n ih =>
      intro i ls hi hf hl
      refine lv_iload hx hb dX0_firstFrom_3 (lv_at hl 0 rfl) ?_
      refine lv_aload_n hx hb dX0_firstFrom_5 rfl (lv_at hl 1 rfl) ?_
      refine va_get (D := D) (ci := 0) (v := .int (nI (v_h r))) (C := RX0) (T := TX0) (N := 7) hx hb hts hi0 hown hK hR 0 rfl rfl 5 (by decide) (hts (.fieldLink RX0 30 "RingSeries$Ring" "held" "I") (by decide +kernel)) (fun _ h9 => h9) rfl dX0_firstFrom_6 ?_
      refine lv_icmp_ge (tgt := 30) hx hb dX0_firstFrom_9 (by decide) (fun c_9 => ?_) (fun c_9 => ?_)
      · have c_9 := (nI_leI (a := v_h r) (b := i) (by omega) (by omega)).mp c_9
        exact absurd c_9 (by omega)
      · have c_9 := mt (nI_leI (a := v_h r) (b := i) (by omega) (by omega)).mpr c_9
        refine lv_aload_n hx hb dX0_firstFrom_12 rfl (lv_at hl 1 rfl) ?_
        refine lv_iload hx hb dX0_firstFrom_13 (lv_at hl 0 rfl) ?_
        refine ro_call (va_runV (As := [.int (nI i)]) (rest := []) ⟨hx, hb, hml, hown, hts⟩ (c_X0_startOf l A r hk hR i (by omega)) (cwV 1 hts gX0_firstFrom_X0_startOf rfl rfl rfl (by decide +kernel) ⟨Nat.le_of_ble_eq_true rfl, Nat.le_of_ble_eq_true rfl⟩) (ro_preV hK (va_recv hK hR (ci := 0) (q0 := 0) rfl rfl)) rfl rfl hl.1 rfl (lv_room (Nat.le_of_ble_eq_true rfl)) dX0_firstFrom_15 ⟨Nat.zero_le _, Nat.zero_le _⟩) ?_
        refine lv_i2l hx hb dX0_firstFrom_18 rfl ?_
        refine lv_lload_n hx hb dX0_firstFrom_19 rfl (lv_at hl 3 rfl) ?_
        refine W.lcmp hx hb dX0_firstFrom_20 ?_
        refine lv_if_ge (tgt := 30) hx hb dX0_firstFrom_21 (by decide) (fun c_21 => ?_) (fun c_21 => ?_)
        · have c_21 := (lg_cmp_ge _ _).mp c_21
          refine lv_iload hx hb dX0_firstFrom_30 (lv_at hl 0 rfl) ?_
          exact ro_iret hx hb hr (by rw [← hf, ffr, if_neg (by rw [Int64.not_lt]; exact c_21)]) dX0_firstFrom_32 hlocks
        · have c_21 := mt (lg_cmp_ge _ _).mpr c_21
          refine lv_iinc (v := nI (i + 1)) (lv' := [(4, .int (nI (i + 1))), (0, .ref (a_o A)), (1, .int (nI i0)), (2, .long t)]) hx hb dX0_firstFrom_24 hl (k := 0) rfl (inc1 _) (by decide) rfl (fun ls hl => ?_)
          refine lv_goto (tgt := 3) hx hb dX0_firstFrom_27 (by decide) ?_
          exact ih (i + 1) ls (by omega) (by rw [← hf, ffr, if_pos (by rw [← Int64.not_le]; exact c_21)]) (lv_sub hl [0, 1, 2, 3] rfl)
  refine lv_iload_n hx hb dX0_firstFrom_0 rfl (lv_at hl 1 rfl) ?_
  refine lv_istore (lv' := [(4, .int (nI i0)), (0, .ref (a_o A)), (1, .int (nI i0)), (2, .long t)]) hx hb dX0_firstFrom_1 hl (by decide) rfl (fun ls hl => ?_)
  exact loop (v_h r - i0) i0 ls (by omega) rfl (lv_sub hl [0, 1, 2, 3] rfl)
set_option maxHeartbeats 4000000 in
set_option maxRecDepth 100000 in
/-- together(first, end, what) -/
theorem c_X0_together (l : Launch) {D : va_G} {cI cA cJ : ClassId} {H : Heap} (A : rgA) (r : rgV) (hk : r_ok r) (hR : va_P D vwCl (rgW cI cA A r) H) (k a b : Nat) (hq : k < 4) (hb1 : b ≤ v_h r) (ha1 : a ≤ v_h r) : Met l yX0_together wsX0_together ({ frames := 2, cells := 0, slots := 0, locals := 44 }) (ro_P D vwCl (tyL cI cA cJ) H [.ref (a_o A), .int (nI a), .int (nI b), .int (nI k)]) (ro_Q (.int (tg r k a b)) H) 0 0 ro_no := by
  refine Met.ofW (cc := cX0_together) (maxL := 6) (ret := (some .int)) (by decide) rfl ?_
  intro p e s m args below meth c s₁ B hml hv
  obtain ⟨rfl, hh, hK⟩ := hv
  subst hh
  have hx := B.exec
  have hb := B.bytes
  have hr := B.returns
  have hlocks := B.notSynchronized
  have hts := atoms_spec (ws := wsX0_together) B.pre
  have hown : s.vm.findClass RX0 = some m.cls := findClass_of_methodNamed B.named
  have hi0 : ∀ w ∈ wsX00, w ∈ wsX0_together := fun w h => List.mem_cons_of_mem _ (List.mem_append_right _ h)
  have hl := lv_entry ([.ref (a_o A), .int (nI a), .int (nI b), .int (nI k)]) (n := 6) (Nat.le_of_ble_eq_true rfl)
  rw [lg_entry_eq]
  generalize (lg_sl ([.ref (a_o A), .int (nI a), .int (nI b), .int (nI k)]) ++ List.replicate (6 - (lg_sl ([.ref (a_o A), .int (nI a), .int (nI b), .int (nI k)])).length) Slot.unset).toArray = ls at hl ⊢
  have hl : lv_has ls 6 [(0, .ref (a_o A)), (1, .int (nI a)), (2, .int (nI b)), (3, .int (nI k))] := hl
  obtain ⟨k1, k2, k3, k4, k5, k6⟩ := id hk
  have loop : ∀ (n : Nat) (i : Nat) (x : Int32) (ls : Array Slot), (b ≤ i ∧ n = 0 ∨ i + n = b) ∧ i ≤ v_h r + 1 → tgr r k n i x = tg r k a b → lv_has ls 6 [(5, .int (nI i)), (4, .int x), (0, .ref (a_o A)), (1, .int (nI a)), (2, .int (nI b)), (3, .int (nI k))] → W p l e (headSpec wsX0_together ({ frames := 2, cells := 0, slots := 0, locals := 44 })).room s m ([.ref (a_o A), .int (nI a), .int (nI b), .int (nI k)] : List Value).toArray below meth c s.heap [] 0 0 (MQ below (ro_Q (.int (tg r k a b)) s.heap) ([.ref (a_o A), .int (nI a), .int (nI b), .int (nI k)] : List Value).toArray s 0 0 ro_no) (F0 m 22 ls []) := by
    intro n
    induction n with
    | zero =>
      intro i x ls hi hf hl
      refine lv_iload hx hb dX0_together_22 (lv_at hl 0 rfl) ?_
      refine lv_iload_n hx hb dX0_together_24 rfl (lv_at hl 4 rfl) ?_
      refine lv_icmp_ge (tgt := 49) hx hb dX0_together_25 (by decide) (fun c_25 => ?_) (fun c_25 => ?_)
      · have c_25 := (nI_leI (a := b) (b := i) (by omega) (by omega)).mp c_25
        refine lv_iload hx hb dX0_together_49 (lv_at hl 1 rfl) ?_
        exact ro_iret hx hb hr (by rw [← hf]; rfl) dX0_together_51 hlocks
      · have c_25 := mt (nI_leI (a := b) (b := i) (by omega) (by omega)).mpr c_25
        exact absurd c_25 (by omega)
    | succ n ih =>
      intro i x ls hi hf hl
      refine lv_iload hx hb dX0_together_22 (lv_at hl 0 rfl) ?_
      refine lv_iload_n hx hb dX0_together_24 rfl (lv_at hl 4 rfl) ?_
      refine lv_icmp_ge (tgt := 49) hx hb dX0_together_25 (by decide) (fun c_25 => ?_) (fun c_25 => ?_)
      · have c_25 := (nI_leI (a := b) (b := i) (by omega) (by omega)).mp c_25
        exact absurd c_25 (by omega)
      · have c_25 := mt (nI_leI (a := b) (b := i) (by omega) (by omega)).mpr c_25
        refine lv_iload hx hb dX0_together_28 (lv_at hl 1 rfl) ?_
        refine lv_aload_n hx hb dX0_together_30 rfl (lv_at hl 2 rfl) ?_
        refine lv_iload hx hb dX0_together_31 (lv_at hl 0 rfl) ?_
        refine lv_iload_n hx hb dX0_together_33 rfl (lv_at hl 5 rfl) ?_
        refine ro_call (va_runV (As := [.int (nI i), .int (nI k)]) (rest := [.int x]) ⟨hx, hb, hml, hown, hts⟩ (c_X0_figureOf l A r hk hR i k (by omega) (by omega)) (cwV 2 hts gX0_together_X0_figureOf rfl rfl rfl (by decide +kernel) ⟨Nat.le_of_ble_eq_true rfl, Nat.le_of_ble_eq_true rfl⟩) (ro_preV hK (va_recv hK hR (ci := 0) (q0 := 0) rfl rfl)) rfl rfl hl.1 rfl (lv_room (Nat.le_of_ble_eq_true rfl)) dX0_together_34 ⟨Nat.zero_le _, Nat.zero_le _⟩) ?_
        refine lv_iload_n hx hb dX0_together_37 rfl (lv_at hl 5 rfl) ?_
        refine ro_call (va_runS (As := [.int x, .int (v_G r k i), .int (nI k)]) (rest := []) ⟨hx, hb, hml, hown, hts⟩ (c_X0_joined_any l (by omega) x (v_G r k i)) (va_cwS 3 hts gX0_together_X0_joined rfl rfl rfl (by decide +kernel) ⟨Nat.le_of_ble_eq_true rfl, Nat.le_of_ble_eq_true rfl⟩) (ro_preS hK) rfl rfl hl.1 rfl (lv_room (Nat.le_of_ble_eq_true rfl)) dX0_together_38 ⟨Nat.zero_le _, Nat.zero_le _⟩) ?_
        refine lv_istore (lv' := [(4, .int (jn k x (v_G r k i))), (5, .int (nI i)), (0, .ref (a_o A)), (1, .int (nI a)), (2, .int (nI b)), (3, .int (nI k))]) hx hb dX0_together_41 hl (by decide) rfl (fun ls hl => ?_)
        refine lv_iinc (v := nI (i + 1)) (lv' := [(5, .int (nI (i + 1))), (4, .int (jn k x (v_G r k i))), (0, .ref (a_o A)), (1, .int (nI a)), (2, .int (nI b)), (3, .int (nI k))]) hx hb dX0_together_43 hl (k := 1) rfl (inc1 _) (by decide) rfl (fun ls hl => ?_)
        refine lv_goto (tgt := 22) hx hb dX0_together_46 (by decide) ?_
        exact ih (i + 1) _ ls (by omega) hf (lv_sub hl [0, 1, 2, 3, 4, 5] rfl)
  refine lv_iload_n hx hb dX0_together_0 rfl (lv_at hl 1 rfl) ?_
  refine lv_iload_n hx hb dX0_together_1 rfl (lv_at hl 2 rfl) ?_
  refine lv_icmp_ge (tgt := 14) hx hb dX0_together_2 (by decide) (fun c_2 => ?_) (fun c_2 => ?_)
  · have c_2 := (nI_leI (a := b) (b := a) (by omega) (by omega)).mp c_2
    refine lv_iconst (v := 0) hx hb dX0_together_14 (by decide) ?_
    refine lv_istore (lv' := [(4, .int 0), (0, .ref (a_o A)), (1, .int (nI a)), (2, .int (nI b)), (3, .int (nI k))]) hx hb dX0_together_15 hl (by decide) rfl (fun ls hl => ?_)
    refine lv_iload_n hx hb dX0_together_17 rfl (lv_at hl 2 rfl) ?_
    refine lv_iconst (v := 1) hx hb dX0_together_18 (by decide) ?_
    refine lv_iadd hx hb dX0_together_19 ?_
    refine top_i (nI_add _ 1) ?_
    refine lv_istore (lv' := [(5, .int (nI (a + 1))), (4, .int 0), (0, .ref (a_o A)), (1, .int (nI a)), (2, .int (nI b)), (3, .int (nI k))]) hx hb dX0_together_20 hl (by decide) rfl (fun ls hl => ?_)
    exact loop 0 (a + 1) 0 ls (by omega) (by unfold tg; rw [if_neg (by omega)]; rfl) (lv_sub hl [0, 1, 2, 3, 4, 5] rfl)
  · have c_2 := mt (nI_leI (a := b) (b := a) (by omega) (by omega)).mpr c_2
    refine lv_aload_n hx hb dX0_together_5 rfl (lv_at hl 0 rfl) ?_
    refine lv_iload_n hx hb dX0_together_6 rfl (lv_at hl 1 rfl) ?_
    refine lv_iload_n hx hb dX0_together_7 rfl (lv_at hl 3 rfl) ?_
    refine ro_call (va_runV (As := [.int (nI a), .int (nI k)]) (rest := []) ⟨hx, hb, hml, hown, hts⟩ (c_X0_figureOf l A r hk hR a k (by omega) (by omega)) (cwV 2 hts gX0_together_X0_figureOf rfl rfl rfl (by decide +kernel) ⟨Nat.le_of_ble_eq_true rfl, Nat.le_of_ble_eq_true rfl⟩) (ro_preV hK (va_recv hK hR (ci := 0) (q0 := 0) rfl rfl)) rfl rfl hl.1 rfl (lv_room (Nat.le_of_ble_eq_true rfl)) dX0_together_8 ⟨Nat.zero_le _, Nat.zero_le _⟩) ?_
    refine lv_goto (tgt := 15) hx hb dX0_together_11 (by decide) ?_
    refine lv_istore (lv' := [(4, .int (v_G r k a)), (0, .ref (a_o A)), (1, .int (nI a)), (2, .int (nI b)), (3, .int (nI k))]) hx hb dX0_together_15 hl (by decide) rfl (fun ls hl => ?_)
    refine lv_iload_n hx hb dX0_together_17 rfl (lv_at hl 2 rfl) ?_
    refine lv_iconst (v := 1) hx hb dX0_together_18 (by decide) ?_
    refine lv_iadd hx hb dX0_together_19 ?_
    refine top_i (nI_add _ 1) ?_
    refine lv_istore (lv' := [(5, .int (nI (a + 1))), (4, .int (v_G r k a)), (0, .ref (a_o A)), (1, .int (nI a)), (2, .int (nI b)), (3, .int (nI k))]) hx hb dX0_together_20 hl (by decide) rfl (fun ls hl => ?_)
    exact loop (b - (a + 1)) (a + 1) _ ls (by omega) (by unfold tg; rw [if_pos (by omega)]) (lv_sub hl [0, 1, 2, 3, 4, 5] rfl)
set_option maxHeartbeats 4000000 in
set_option maxRecDepth 100000 in
/-- manyWhollyIn(from, last) -/
theorem c_X0_manyWhollyIn (l : Launch) {D : va_G} {cI cA cJ : ClassId} {H : Heap} (A : rgA) (r : rgV) (hk : r_ok r) (hR : va_P D vwCl (rgW cI cA A r) H) (f t : Int64) : Met l yX0_manyWhollyIn wsX0_manyWhollyIn ({ frames := 3, cells := 0, slots := 0, locals := 64 }) (ro_P D vwCl (tyL cI cA cJ) H [.ref (a_o A), .long f, .long t]) (ro_Q (.long (mw r f t)) H) 0 0 ro_no := by
  refine Met.ofW (cc := cX0_manyWhollyIn) (maxL := 8) (ret := (some .long)) (by decide) rfl ?_
  intro p e s m args below meth c s₁ B hml hv
  obtain ⟨rfl, hh, hK⟩ := hv
  subst hh
  have hx := B.exec
  have hb := B.bytes
  have hr := B.returns
  have hlocks := B.notSynchronized
  have hts := atoms_spec (ws := wsX0_manyWhollyIn) B.pre
  have hown : s.vm.findClass RX0 = some m.cls := findClass_of_methodNamed B.named
  have hi0 : ∀ w ∈ wsX00, w ∈ wsX0_manyWhollyIn := fun w h => List.mem_cons_of_mem _ (List.mem_append_right _ h)
  have hl := lv_entry ([.ref (a_o A), .long f, .long t]) (n := 8) (Nat.le_of_ble_eq_true rfl)
  rw [lg_entry_eq]
  generalize (lg_sl ([.ref (a_o A), .long f, .long t]) ++ List.replicate (8 - (lg_sl ([.ref (a_o A), .long f, .long t])).length) Slot.unset).toArray = ls at hl ⊢
  have hl : lv_has ls 8 [(0, .ref (a_o A)), (1, .long f), (3, .long t)] := hl
  obtain ⟨k1, k2, k3, k4, k5, k6⟩ := id hk
  have loop : ∀ (n : Nat) (i : Nat) (x : Int64) (ls : Array Slot), i + n = v_h r → mwr r f t n i x = mw r f t → lv_has ls 8 [(7, .int (nI i)), (5, .long x), (0, .ref (a_o A)), (1, .long f), (3, .long t)] → W p l e (headSpec wsX0_manyWhollyIn ({ frames := 3, cells := 0, slots := 0, locals := 64 })).room s m ([.ref (a_o A), .long f, .long t] : List Value).toArray below meth c s.heap [] 0 0 (MQ below (ro_Q (.long (mw r f t)) s.heap) ([.ref (a_o A), .long f, .long t] : List Value).toArray s 0 0 ro_no) (F0 m 6 ls []) := by
    intro n
    induction n with
    | zero =>
      intro i x ls hi hf hl
      refine lv_iload hx hb dX0_manyWhollyIn_6 (lv_at hl 0 rfl) ?_
      refine lv_aload_n hx hb dX0_manyWhollyIn_8 rfl (lv_at hl 2 rfl) ?_
      refine va_get (D := D) (ci := 0) (v := .int (nI (v_h r))) (C := RX0) (T := TX0) (N := 7) hx hb hts hi0 hown hK hR 0 rfl rfl 5 (by decide) (hts (.fieldLink RX0 30 "RingSeries$Ring" "held" "I") (by decide +kernel)) (fun _ h9 => h9) rfl dX0_manyWhollyIn_9 ?_
      refine lv_icmp_ge (tgt := 59) hx hb dX0_manyWhollyIn_12 (by decide) (fun c_12 => ?_) (fun c_12 => ?_)
      · have c_12 := (nI_leI (a := v_h r) (b := i) (by omega) (by omega)).mp c_12
        refine lv_lload hx hb dX0_manyWhollyIn_59 (lv_at hl 1 rfl) ?_
        exact ro_lret hx hb hr (by rw [← hf]; rfl) dX0_manyWhollyIn_61 hlocks
      · have c_12 := mt (nI_leI (a := v_h r) (b := i) (by omega) (by omega)).mpr c_12
        exact absurd c_12 (by omega)
    | succ n ih =>
      intro i x ls hi hf hl
      refine lv_iload hx hb dX0_manyWhollyIn_6 (lv_at hl 0 rfl) ?_
      refine lv_aload_n hx hb dX0_manyWhollyIn_8 rfl (lv_at hl 2 rfl) ?_
      refine va_get (D := D) (ci := 0) (v := .int (nI (v_h r))) (C := RX0) (T := TX0) (N := 7) hx hb hts hi0 hown hK hR 0 rfl rfl 5 (by decide) (hts (.fieldLink RX0 30 "RingSeries$Ring" "held" "I") (by decide +kernel)) (fun _ h9 => h9) rfl dX0_manyWhollyIn_9 ?_
      refine lv_icmp_ge (tgt := 59) hx hb dX0_manyWhollyIn_12 (by decide) (fun c_12 => ?_) (fun c_12 => ?_)
      · have c_12 := (nI_leI (a := v_h r) (b := i) (by omega) (by omega)).mp c_12
        exact absurd c_12 (by omega)
      · have c_12 := mt (nI_leI (a := v_h r) (b := i) (by omega) (by omega)).mpr c_12
        refine lv_aload_n hx hb dX0_manyWhollyIn_15 rfl (lv_at hl 2 rfl) ?_
        refine lv_iload hx hb dX0_manyWhollyIn_16 (lv_at hl 0 rfl) ?_
        refine ro_call (va_runV (As := [.int (nI i)]) (rest := []) ⟨hx, hb, hml, hown, hts⟩ (c_X0_startOf l A r hk hR i (by omega)) (cwV 1 hts gX0_manyWhollyIn_X0_startOf rfl rfl rfl (by decide +kernel) ⟨Nat.le_of_ble_eq_true rfl, Nat.le_of_ble_eq_true rfl⟩) (ro_preV hK (va_recv hK hR (ci := 0) (q0 := 0) rfl rfl)) rfl rfl hl.1 rfl (lv_room (Nat.le_of_ble_eq_true rfl)) dX0_manyWhollyIn_18 ⟨Nat.zero_le _, Nat.zero_le _⟩) ?_
        refine lv_i2l hx hb dX0_manyWhollyIn_21 rfl ?_
        refine lv_lload_n hx hb dX0_manyWhollyIn_22 rfl (lv_at hl 3 rfl) ?_
        refine W.lcmp hx hb dX0_manyWhollyIn_23 ?_
        refine lv_if_lt (tgt := 53) hx hb dX0_manyWhollyIn_24 (by decide) (fun c_24 => ?_) (fun c_24 => ?_)
        · have c_24 := (lg_cmp_lt _ _).mp c_24
          refine lv_iinc (v := nI (i + 1)) (lv' := [(7, .int (nI (i + 1))), (5, .long x), (0, .ref (a_o A)), (1, .long f), (3, .long t)]) hx hb dX0_manyWhollyIn_53 hl (k := 0) rfl (inc1 _) (by decide) rfl (fun ls hl => ?_)
          refine lv_goto (tgt := 6) hx hb dX0_manyWhollyIn_56 (by decide) ?_
          exact ih (i + 1) x ls (by omega) (by rw [← hf, mwr, if_neg (fun z => Int64.not_le.mpr c_24 z.1)]) (lv_sub hl [0, 1, 2, 3, 4] rfl)
        · have c_24 := mt (lg_cmp_lt _ _).mpr c_24
          refine lv_aload_n hx hb dX0_manyWhollyIn_27 rfl (lv_at hl 2 rfl) ?_
          refine lv_iload hx hb dX0_manyWhollyIn_28 (lv_at hl 0 rfl) ?_
          refine ro_call (va_runV (As := [.int (nI i)]) (rest := []) ⟨hx, hb, hml, hown, hts⟩ (c_X0_endOfEntry l A r hk hR i (by omega)) (cwV 1 hts gX0_manyWhollyIn_X0_endOfEntry rfl rfl rfl (by decide +kernel) ⟨Nat.le_of_ble_eq_true rfl, Nat.le_of_ble_eq_true rfl⟩) (ro_preV hK (va_recv hK hR (ci := 0) (q0 := 0) rfl rfl)) rfl rfl hl.1 rfl (lv_room (Nat.le_of_ble_eq_true rfl)) dX0_manyWhollyIn_30 ⟨Nat.zero_le _, Nat.zero_le _⟩) ?_
          refine lv_lload_n hx hb dX0_manyWhollyIn_33 rfl (lv_at hl 4 rfl) ?_
          refine lv_lconst (v := 1) hx hb dX0_manyWhollyIn_34 (by decide) ?_
          refine lv_ladd hx hb dX0_manyWhollyIn_35 ?_
          refine W.lcmp hx hb dX0_manyWhollyIn_36 ?_
          refine lv_if_gt (tgt := 53) hx hb dX0_manyWhollyIn_37 (by decide) (fun c_37 => ?_) (fun c_37 => ?_)
          · have c_37 := (lg_cmp_gt _ _).mp c_37
            refine lv_iinc (v := nI (i + 1)) (lv' := [(7, .int (nI (i + 1))), (5, .long x), (0, .ref (a_o A)), (1, .long f), (3, .long t)]) hx hb dX0_manyWhollyIn_53 hl (k := 0) rfl (inc1 _) (by decide) rfl (fun ls hl => ?_)
            refine lv_goto (tgt := 6) hx hb dX0_manyWhollyIn_56 (by decide) ?_
            exact ih (i + 1) x ls (by omega) (by rw [← hf, mwr, if_neg (fun z => Int64.not_le.mpr c_37 z.2)]) (lv_sub hl [0, 1, 2, 3, 4] rfl)
          · have c_37 := mt (lg_cmp_gt _ _).mpr c_37
            refine lv_lload hx hb dX0_manyWhollyIn_40 (lv_at hl 1 rfl) ?_
            refine lv_aload_n hx hb dX0_manyWhollyIn_42 rfl (lv_at hl 2 rfl) ?_
            refine lv_iload hx hb dX0_manyWhollyIn_43 (lv_at hl 0 rfl) ?_
            refine lv_iconst (v := 3) hx hb dX0_manyWhollyIn_45 (by decide) ?_
            refine ro_call (va_runV (As := [.int (nI i), .int 3]) (rest := [.long x]) ⟨hx, hb, hml, hown, hts⟩ (c_X0_figureOf l A r hk hR i 3 (by omega) (by omega)) (cwV 2 hts gX0_manyWhollyIn_X0_figureOf rfl rfl rfl (by decide +kernel) ⟨Nat.le_of_ble_eq_true rfl, Nat.le_of_ble_eq_true rfl⟩) (ro_preV hK (va_recv hK hR (ci := 0) (q0 := 0) rfl rfl)) rfl rfl hl.1 rfl (lv_room (Nat.le_of_ble_eq_true rfl)) dX0_manyWhollyIn_46 ⟨Nat.zero_le _, Nat.zero_le _⟩) ?_
            refine lv_i2l hx hb dX0_manyWhollyIn_49 rfl ?_
            refine lv_ladd hx hb dX0_manyWhollyIn_50 ?_
            refine lv_lstore (lv' := [(5, .long (x + ((v_G r 3 i).toInt64))), (7, .int (nI i)), (0, .ref (a_o A)), (1, .long f), (3, .long t)]) hx hb dX0_manyWhollyIn_51 hl (by decide) rfl (fun ls hl => ?_)
            refine lv_iinc (v := nI (i + 1)) (lv' := [(7, .int (nI (i + 1))), (5, .long (x + ((v_G r 3 i).toInt64))), (0, .ref (a_o A)), (1, .long f), (3, .long t)]) hx hb dX0_manyWhollyIn_53 hl (k := 1) rfl (inc1 _) (by decide) rfl (fun ls hl => ?_)
            refine lv_goto (tgt := 6) hx hb dX0_manyWhollyIn_56 (by decide) ?_
            exact ih (i + 1) _ ls (by omega) (by rw [← hf, mwr, if_pos ⟨Int64.not_lt.mp c_24, Int64.not_lt.mp c_37⟩]) (lv_sub hl [0, 1, 2, 3, 4] rfl)
  refine lv_lconst (v := 0) hx hb dX0_manyWhollyIn_0 (by decide) ?_
  refine lv_lstore (lv' := [(5, .long 0), (0, .ref (a_o A)), (1, .long f), (3, .long t)]) hx hb dX0_manyWhollyIn_1 hl (by decide) rfl (fun ls hl => ?_)
  refine lv_iconst (v := 0) hx hb dX0_manyWhollyIn_3 (by decide) ?_
  refine lv_istore (lv' := [(7, .int 0), (5, .long 0), (0, .ref (a_o A)), (1, .long f), (3, .long t)]) hx hb dX0_manyWhollyIn_4 hl (by decide) rfl (fun ls hl => ?_)
  exact loop (v_h r) 0 0 ls (by omega) rfl (lv_sub hl [0, 1, 2, 3, 4] rfl)
set_option maxHeartbeats 4000000 in
set_option maxRecDepth 100000 in
/-- hasFiguresOf -/
theorem c_X0_hasFiguresOf_t (l : Launch) {D : va_G} {cI cA cJ : ClassId} {H : Heap} (A : rgA) (r : rgV) (hk : r_ok r) (hR : va_P D vwCl (rgW cI cA A r) H) (A2 : rgA) (q : rgV) (hk2 : r_ok q) (hR2 : va_P D vwCl (rgW cI cA A2 q) H) (a b j : Nat) (hj : j < v_h r) (hb1 : b ≤ v_h q) (ha1 : a ≤ v_h q) (hfg : hfr r q a b j) : Met l yX0_hasFiguresOf wsX0_hasFiguresOf ({ frames := 3, cells := 0, slots := 0, locals := 69 }) (ro_P D vwCl (tyL cI cA cJ) H [.ref (a_o A), .ref (a_o A2), .int (nI a), .int (nI b), .int (nI j)]) (ro_Q (.int 1) H) 0 0 ro_no := by
  refine Met.ofW (cc := cX0_hasFiguresOf) (maxL := 6) (ret := (some .boolean)) (by decide) rfl ?_
  intro p e s m args below meth c s₁ B hml hv
  obtain ⟨rfl, hh, hK⟩ := hv
  subst hh
  have hx := B.exec
  have hb := B.bytes
  have hr := B.returns
  have hlocks := B.notSynchronized
  have hts := atoms_spec (ws := wsX0_hasFiguresOf) B.pre
  have hown : s.vm.findClass RX0 = some m.cls := findClass_of_methodNamed B.named
  have hi0 : ∀ w ∈ wsX00, w ∈ wsX0_hasFiguresOf := fun w h => List.mem_cons_of_mem _ (List.mem_append_right _ h)
  have hl := lv_entry ([.ref (a_o A), .ref (a_o A2), .int (nI a), .int (nI b), .int (nI j)]) (n := 6) (Nat.le_of_ble_eq_true rfl)
  rw [lg_entry_eq]
  generalize (lg_sl ([.ref (a_o A), .ref (a_o A2), .int (nI a), .int (nI b), .int (nI j)]) ++ List.replicate (6 - (lg_sl ([.ref (a_o A), .ref (a_o A2), .int (nI a), .int (nI b), .int (nI j)])).length) Slot.unset).toArray = ls at hl ⊢
  have hl : lv_has ls 6 [(0, .ref (a_o A)), (1, .ref (a_o A2)), (2, .int (nI a)), (3, .int (nI b)), (4, .int (nI j))] := hl
  obtain ⟨k1, k2, k3, k4, k5, k6⟩ := id hk
  obtain ⟨m1, m2, m3, m4, m5, m6⟩ := id hk2
  have loop : ∀ (n : Nat) (k : Nat) (ls : Array Slot), k + n = 4 → lv_has ls 6 [(5, .int (nI k)), (0, .ref (a_o A)), (1, .ref (a_o A2)), (2, .int (nI a)), (3, .int (nI b)), (4, .int (nI j))] → W p l e (headSpec wsX0_hasFiguresOf ({ frames := 3, cells := 0, slots := 0, locals := 69 })).room s m ([.ref (a_o A), .ref (a_o A2), .int (nI a), .int (nI b), .int (nI j)] : List Value).toArray below meth c s.heap [] 0 0 (MQ below (ro_Q (.int 1) s.heap) ([.ref (a_o A), .ref (a_o A2), .int (nI a), .int (nI b), .int (nI j)] : List Value).toArray s 0 0 ro_no) (F0 m 3 ls []) := by
    intro n
    induction n with
    | zero =>
      intro k ls hi hl
      refine lv_iload hx hb dX0_hasFiguresOf_3 (lv_at hl 0 rfl) ?_
      refine lv_iconst (v := 4) hx hb dX0_hasFiguresOf_5 (by decide) ?_
      refine lv_icmp_ge (tgt := 36) hx hb dX0_hasFiguresOf_6 (by decide) (fun c_6 => ?_) (fun c_6 => ?_)
      · have c_6 := (nI_leI (a := 4) (b := k) (by omega) (by omega)).mp c_6
        refine lv_iconst (v := 1) hx hb dX0_hasFiguresOf_36 (by decide) ?_
        exact ro_zret hx hb hr (by first | rfl | decide) rfl dX0_hasFiguresOf_37 hlocks
      · have c_6 := mt (nI_leI (a := 4) (b := k) (by omega) (by omega)).mpr c_6
        exact absurd c_6 (by omega)
    | succ n ih =>
      intro k ls hi hl
      refine lv_iload hx hb dX0_hasFiguresOf_3 (lv_at hl 0 rfl) ?_
      refine lv_iconst (v := 4) hx hb dX0_hasFiguresOf_5 (by decide) ?_
      refine lv_icmp_ge (tgt := 36) hx hb dX0_hasFiguresOf_6 (by decide) (fun c_6 => ?_) (fun c_6 => ?_)
      · have c_6 := (nI_leI (a := 4) (b := k) (by omega) (by omega)).mp c_6
        exact absurd c_6 (by omega)
      · have c_6 := mt (nI_leI (a := 4) (b := k) (by omega) (by omega)).mpr c_6
        refine lv_aload_n hx hb dX0_hasFiguresOf_9 rfl (lv_at hl 1 rfl) ?_
        refine lv_iload hx hb dX0_hasFiguresOf_10 (lv_at hl 5 rfl) ?_
        refine lv_iload hx hb dX0_hasFiguresOf_12 (lv_at hl 0 rfl) ?_
        refine ro_call (va_runV (As := [.int (nI j), .int (nI k)]) (rest := []) ⟨hx, hb, hml, hown, hts⟩ (c_X0_figureOf l A r hk hR j k (by omega) (by omega)) (cwV 2 hts gX0_hasFiguresOf_X0_figureOf rfl rfl rfl (by decide +kernel) ⟨Nat.le_of_ble_eq_true rfl, Nat.le_of_ble_eq_true rfl⟩) (ro_preV hK (va_recv hK hR (ci := 0) (q0 := 0) rfl rfl)) rfl rfl hl.1 rfl (lv_room (Nat.le_of_ble_eq_true rfl)) dX0_hasFiguresOf_14 ⟨Nat.zero_le _, Nat.zero_le _⟩) ?_
        refine lv_aload_n hx hb dX0_hasFiguresOf_17 rfl (lv_at hl 2 rfl) ?_
        refine lv_iload_n hx hb dX0_hasFiguresOf_18 rfl (lv_at hl 3 rfl) ?_
        refine lv_iload_n hx hb dX0_hasFiguresOf_19 rfl (lv_at hl 4 rfl) ?_
        refine lv_iload hx hb dX0_hasFiguresOf_20 (lv_at hl 0 rfl) ?_
        refine ro_call (va_runV (As := [.int (nI a), .int (nI b), .int (nI k)]) (rest := [.int (v_G r k j)]) ⟨hx, hb, hml, hown, hts⟩ (c_X0_together l A2 q hk2 hR2 k a b (by omega) (by omega) (by omega)) (cwV 3 hts gX0_hasFiguresOf_X0_together rfl rfl rfl (by decide +kernel) ⟨Nat.le_of_ble_eq_true rfl, Nat.le_of_ble_eq_true rfl⟩) (ro_preV hK (va_recv hK hR2 (ci := 0) (q0 := 0) rfl rfl)) rfl rfl hl.1 rfl (lv_room (Nat.le_of_ble_eq_true rfl)) dX0_hasFiguresOf_22 ⟨Nat.zero_le _, Nat.zero_le _⟩) ?_
        refine lv_icmp_eq (tgt := 30) hx hb dX0_hasFiguresOf_25 (by decide) (fun c_25 => ?_) (fun c_25 => ?_)
        · refine lv_iinc (v := nI (k + 1)) (lv' := [(5, .int (nI (k + 1))), (0, .ref (a_o A)), (1, .ref (a_o A2)), (2, .int (nI a)), (3, .int (nI b)), (4, .int (nI j))]) hx hb dX0_hasFiguresOf_30 hl (k := 0) rfl (inc1 _) (by decide) rfl (fun ls hl => ?_)
          refine lv_goto (tgt := 3) hx hb dX0_hasFiguresOf_33 (by decide) ?_
          exact ih (k + 1) ls (by omega) (lv_sub hl [0, 1, 2, 3, 4, 5] rfl)
        · exact absurd (hfg k (by omega)) c_25
  refine lv_iconst (v := 0) hx hb dX0_hasFiguresOf_0 (by decide) ?_
  refine lv_istore (lv' := [(5, .int 0), (0, .ref (a_o A)), (1, .ref (a_o A2)), (2, .int (nI a)), (3, .int (nI b)), (4, .int (nI j))]) hx hb dX0_hasFiguresOf_1 hl (by decide) rfl (fun ls hl => ?_)
  exact loop 4 0 ls (by omega) (lv_sub hl [0, 1, 2, 3, 4, 5] rfl)
set_option maxHeartbeats 4000000 in
set_option maxRecDepth 100000 in
/-- hasFiguresOf -/
theorem c_X0_hasFiguresOf_f (l : Launch) {D : va_G} {cI cA cJ : ClassId} {H : Heap} (A : rgA) (r : rgV) (hk : r_ok r) (hR : va_P D vwCl (rgW cI cA A r) H) (A2 : rgA) (q : rgV) (hk2 : r_ok q) (hR2 : va_P D vwCl (rgW cI cA A2 q) H) (a b j : Nat) (hj : j < v_h r) (hb1 : b ≤ v_h q) (ha1 : a ≤ v_h q) (hfg : ¬ hfr r q a b j) : Met l yX0_hasFiguresOf wsX0_hasFiguresOf ({ frames := 3, cells := 0, slots := 0, locals := 69 }) (ro_P D vwCl (tyL cI cA cJ) H [.ref (a_o A), .ref (a_o A2), .int (nI a), .int (nI b), .int (nI j)]) (ro_Q (.int 0) H) 0 0 ro_no := by
  refine Met.ofW (cc := cX0_hasFiguresOf) (maxL := 6) (ret := (some .boolean)) (by decide) rfl ?_
  intro p e s m args below meth c s₁ B hml hv
  obtain ⟨rfl, hh, hK⟩ := hv
  subst hh
  have hx := B.exec
  have hb := B.bytes
  have hr := B.returns
  have hlocks := B.notSynchronized
  have hts := atoms_spec (ws := wsX0_hasFiguresOf) B.pre
  have hown : s.vm.findClass RX0 = some m.cls := findClass_of_methodNamed B.named
  have hi0 : ∀ w ∈ wsX00, w ∈ wsX0_hasFiguresOf := fun w h => List.mem_cons_of_mem _ (List.mem_append_right _ h)
  have hl := lv_entry ([.ref (a_o A), .ref (a_o A2), .int (nI a), .int (nI b), .int (nI j)]) (n := 6) (Nat.le_of_ble_eq_true rfl)
  rw [lg_entry_eq]
  generalize (lg_sl ([.ref (a_o A), .ref (a_o A2), .int (nI a), .int (nI b), .int (nI j)]) ++ List.replicate (6 - (lg_sl ([.ref (a_o A), .ref (a_o A2), .int (nI a), .int (nI b), .int (nI j)])).length) Slot.unset).toArray = ls at hl ⊢
  have hl : lv_has ls 6 [(0, .ref (a_o A)), (1, .ref (a_o A2)), (2, .int (nI a)), (3, .int (nI b)), (4, .int (nI j))] := hl
  obtain ⟨k1, k2, k3, k4, k5, k6⟩ := id hk
  obtain ⟨m1, m2, m3, m4, m5, m6⟩ := id hk2
  have loop : ∀ (n : Nat) (k : Nat) (ls : Array Slot), k + n = 4 → (∀ k9, k9 < k → v_G r k9 j = tg q k9 a b) → lv_has ls 6 [(5, .int (nI k)), (0, .ref (a_o A)), (1, .ref (a_o A2)), (2, .int (nI a)), (3, .int (nI b)), (4, .int (nI j))] → W p l e (headSpec wsX0_hasFiguresOf ({ frames := 3, cells := 0, slots := 0, locals := 69 })).room s m ([.ref (a_o A), .ref (a_o A2), .int (nI a), .int (nI b), .int (nI j)] : List Value).toArray below meth c s.heap [] 0 0 (MQ below (ro_Q (.int 0) s.heap) ([.ref (a_o A), .ref (a_o A2), .int (nI a), .int (nI b), .int (nI j)] : List Value).toArray s 0 0 ro_no) (F0 m 3 ls []) := by
    intro n
    induction n with
    | zero =>
      intro k ls hi hall hl
      refine lv_iload hx hb dX0_hasFiguresOf_3 (lv_at hl 0 rfl) ?_
      refine lv_iconst (v := 4) hx hb dX0_hasFiguresOf_5 (by decide) ?_
      refine lv_icmp_ge (tgt := 36) hx hb dX0_hasFiguresOf_6 (by decide) (fun c_6 => ?_) (fun c_6 => ?_)
      · have c_6 := (nI_leI (a := 4) (b := k) (by omega) (by omega)).mp c_6
        exact absurd (fun k9 h9 => hall k9 (by omega)) hfg
      · have c_6 := mt (nI_leI (a := 4) (b := k) (by omega) (by omega)).mpr c_6
        exact absurd c_6 (by omega)
    | succ n ih =>
      intro k ls hi hall hl
      refine lv_iload hx hb dX0_hasFiguresOf_3 (lv_at hl 0 rfl) ?_
      refine lv_iconst (v := 4) hx hb dX0_hasFiguresOf_5 (by decide) ?_
      refine lv_icmp_ge (tgt := 36) hx hb dX0_hasFiguresOf_6 (by decide) (fun c_6 => ?_) (fun c_6 => ?_)
      · have c_6 := (nI_leI (a := 4) (b := k) (by omega) (by omega)).mp c_6
        exact absurd c_6 (by omega)
      · have c_6 := mt (nI_leI (a := 4) (b := k) (by omega) (by omega)).mpr c_6
        refine lv_aload_n hx hb dX0_hasFiguresOf_9 rfl (lv_at hl 1 rfl) ?_
        refine lv_iload hx hb dX0_hasFiguresOf_10 (lv_at hl 5 rfl) ?_
        refine lv_iload hx hb dX0_hasFiguresOf_12 (lv_at hl 0 rfl) ?_
        refine ro_call (va_runV (As := [.int (nI j), .int (nI k)]) (rest := []) ⟨hx, hb, hml, hown, hts⟩ (c_X0_figureOf l A r hk hR j k (by omega) (by omega)) (cwV 2 hts gX0_hasFiguresOf_X0_figureOf rfl rfl rfl (by decide +kernel) ⟨Nat.le_of_ble_eq_true rfl, Nat.le_of_ble_eq_true rfl⟩) (ro_preV hK (va_recv hK hR (ci := 0) (q0 := 0) rfl rfl)) rfl rfl hl.1 rfl (lv_room (Nat.le_of_ble_eq_true rfl)) dX0_hasFiguresOf_14 ⟨Nat.zero_le _, Nat.zero_le _⟩) ?_
        refine lv_aload_n hx hb dX0_hasFiguresOf_17 rfl (lv_at hl 2 rfl) ?_
        refine lv_iload_n hx hb dX0_hasFiguresOf_18 rfl (lv_at hl 3 rfl) ?_
        refine lv_iload_n hx hb dX0_hasFiguresOf_19 rfl (lv_at hl 4 rfl) ?_
        refine lv_iload hx hb dX0_hasFiguresOf_20 (lv_at hl 0 rfl) ?_
        refine ro_call (va_runV (As := [.int (nI a), .int (nI b), .int (nI k)]) (rest := [.int (v_G r k j)]) ⟨hx, hb, hml, hown, hts⟩ (c_X0_together l A2 q hk2 hR2 k a b (by omega) (by omega) (by omega)) (cwV 3 hts gX0_hasFiguresOf_X0_together rfl rfl rfl (by decide +kernel) ⟨Nat.le_of_ble_eq_true rfl, Nat.le_of_ble_eq_true rfl⟩) (ro_preV hK (va_recv hK hR2 (ci := 0) (q0 := 0) rfl rfl)) rfl rfl hl.1 rfl (lv_room (Nat.le_of_ble_eq_true rfl)) dX0_hasFiguresOf_22 ⟨Nat.zero_le _, Nat.zero_le _⟩) ?_
        refine lv_icmp_eq (tgt := 30) hx hb dX0_hasFiguresOf_25 (by decide) (fun c_25 => ?_) (fun c_25 => ?_)
        · refine lv_iinc (v := nI (k + 1)) (lv' := [(5, .int (nI (k + 1))), (0, .ref (a_o A)), (1, .ref (a_o A2)), (2, .int (nI a)), (3, .int (nI b)), (4, .int (nI j))]) hx hb dX0_hasFiguresOf_30 hl (k := 0) rfl (inc1 _) (by decide) rfl (fun ls hl => ?_)
          refine lv_goto (tgt := 3) hx hb dX0_hasFiguresOf_33 (by decide) ?_
          exact ih (k + 1) ls (by omega) (fun k9 h9 => (Nat.lt_or_eq_of_le (Nat.le_of_lt_succ h9)).elim (fun z => hall k9 z) (fun z => by rw [z]; exact c_25)) (lv_sub hl [0, 1, 2, 3, 4, 5] rfl)
        · refine lv_iconst (v := 0) hx hb dX0_hasFiguresOf_28 (by decide) ?_
          exact ro_zret hx hb hr (by first | rfl | decide) rfl dX0_hasFiguresOf_29 hlocks
  refine lv_iconst (v := 0) hx hb dX0_hasFiguresOf_0 (by decide) ?_
  refine lv_istore (lv' := [(5, .int 0), (0, .ref (a_o A)), (1, .ref (a_o A2)), (2, .int (nI a)), (3, .int (nI b)), (4, .int (nI j))]) hx hb dX0_hasFiguresOf_1 hl (by decide) rfl (fun ls hl => ?_)
  exact loop 4 0 ls (by omega) (fun k9 h9 => absurd h9 (by omega)) (lv_sub hl [0, 1, 2, 3, 4, 5] rfl)
set_option maxHeartbeats 4000000 in
set_option maxRecDepth 100000 in
/-- agreesWith(finer), where all agree -/
theorem c_X0_agreesWith (l : Launch) {D : va_G} {cI cA cJ : ClassId} {H : Heap} (A : rgA) (r : rgV) (hk : r_ok r) (hR : va_P D vwCl (rgW cI cA A r) H) (A2 : rgA) (q : rgV) (hk2 : r_ok q) (hR2 : va_P D vwCl (rgW cI cA A2 q) H) (hag : ∀ i a : Nat, i < v_h r → a ≤ v_h q → ¬ v_E r i ≤ v_g q → hfr r q (ff q (v_E r i).toInt64 a) (ff q (v_X r i) (ff q (v_E r i).toInt64 a)) i) : Met l yX0_agreesWith wsX0_agreesWith ({ frames := 4, cells := 0, slots := 0, locals := 94 }) (ro_P D vwCl (tyL cI cA cJ) H [.ref (a_o A), .ref (a_o A2)]) (ro_Q (.int 1) H) 0 0 ro_no := by
  refine Met.ofW (cc := cX0_agreesWith) (maxL := 6) (ret := (some .boolean)) (by decide) rfl ?_
  intro p e s m args below meth c s₁ B hml hv
  obtain ⟨rfl, hh, hK⟩ := hv
  subst hh
  have hx := B.exec
  have hb := B.bytes
  have hr := B.returns
  have hlocks := B.notSynchronized
  have hts := atoms_spec (ws := wsX0_agreesWith) B.pre
  have hown : s.vm.findClass RX0 = some m.cls := findClass_of_methodNamed B.named
  have hi0 : ∀ w ∈ wsX00, w ∈ wsX0_agreesWith := fun w h => List.mem_cons_of_mem _ (List.mem_append_right _ h)
  have hl := lv_entry ([.ref (a_o A), .ref (a_o A2)]) (n := 6) (Nat.le_of_ble_eq_true rfl)
  rw [lg_entry_eq]
  generalize (lg_sl ([.ref (a_o A), .ref (a_o A2)]) ++ List.replicate (6 - (lg_sl ([.ref (a_o A), .ref (a_o A2)])).length) Slot.unset).toArray = ls at hl ⊢
  have hl : lv_has ls 6 [(0, .ref (a_o A)), (1, .ref (a_o A2))] := hl
  obtain ⟨k1, k2, k3, k4, k5, k6⟩ := id hk
  obtain ⟨m1, m2, m3, m4, m5, m6⟩ := id hk2
  have loop : ∀ (n : Nat) (i a : Nat) (ls : Array Slot), i + n = v_h r → a ≤ v_h q → lv_has ls 6 [(3, .int (nI i)), (2, .int (nI a)), (0, .ref (a_o A)), (1, .ref (a_o A2))] → W p l e (headSpec wsX0_agreesWith ({ frames := 4, cells := 0, slots := 0, locals := 94 })).room s m ([.ref (a_o A), .ref (a_o A2)] : List Value).toArray below meth c s.heap [] 0 0 (MQ below (ro_Q (.int 1) s.heap) ([.ref (a_o A), .ref (a_o A2)] : List Value).toArray s 0 0 ro_no) (F0 m 4 ls []) := by
    intro n
    induction n with
    | zero =>
      intro i a ls hi ha hl
      refine lv_iload_n hx hb dX0_agreesWith_4 rfl (lv_at hl 0 rfl) ?_
      refine lv_aload_n hx hb dX0_agreesWith_5 rfl (lv_at hl 2 rfl) ?_
      refine va_get (D := D) (ci := 0) (v := .int (nI (v_h r))) (C := RX0) (T := TX0) (N := 7) hx hb hts hi0 hown hK hR 0 rfl rfl 5 (by decide) (hts (.fieldLink RX0 30 "RingSeries$Ring" "held" "I") (by decide +kernel)) (fun _ h9 => h9) rfl dX0_agreesWith_6 ?_
      refine lv_icmp_ge (tgt := 83) hx hb dX0_agreesWith_9 (by decide) (fun c_9 => ?_) (fun c_9 => ?_)
      · have c_9 := (nI_leI (a := v_h r) (b := i) (by omega) (by omega)).mp c_9
        refine lv_iconst (v := 1) hx hb dX0_agreesWith_83 (by decide) ?_
        exact ro_zret hx hb hr (by first | rfl | decide) rfl dX0_agreesWith_84 hlocks
      · have c_9 := mt (nI_leI (a := v_h r) (b := i) (by omega) (by omega)).mpr c_9
        exact absurd c_9 (by omega)
    | succ n ih =>
      intro i a ls hi ha hl
      refine lv_iload_n hx hb dX0_agreesWith_4 rfl (lv_at hl 0 rfl) ?_
      refine lv_aload_n hx hb dX0_agreesWith_5 rfl (lv_at hl 2 rfl) ?_
      refine va_get (D := D) (ci := 0) (v := .int (nI (v_h r))) (C := RX0) (T := TX0) (N := 7) hx hb hts hi0 hown hK hR 0 rfl rfl 5 (by decide) (hts (.fieldLink RX0 30 "RingSeries$Ring" "held" "I") (by decide +kernel)) (fun _ h9 => h9) rfl dX0_agreesWith_6 ?_
      refine lv_icmp_ge (tgt := 83) hx hb dX0_agreesWith_9 (by decide) (fun c_9 => ?_) (fun c_9 => ?_)
      · have c_9 := (nI_leI (a := v_h r) (b := i) (by omega) (by omega)).mp c_9
        exact absurd c_9 (by omega)
      · have c_9 := mt (nI_leI (a := v_h r) (b := i) (by omega) (by omega)).mpr c_9
        refine lv_aload_n hx hb dX0_agreesWith_12 rfl (lv_at hl 3 rfl) ?_
        refine lv_iload_n hx hb dX0_agreesWith_13 rfl (lv_at hl 1 rfl) ?_
        refine lv_aload_n hx hb dX0_agreesWith_14 rfl (lv_at hl 2 rfl) ?_
        refine lv_iload_n hx hb dX0_agreesWith_15 rfl (lv_at hl 0 rfl) ?_
        refine ro_call (va_runV (As := [.int (nI i)]) (rest := [.int (nI a), .ref (a_o A2)]) ⟨hx, hb, hml, hown, hts⟩ (c_X0_startOf l A r hk hR i (by omega)) (cwV 1 hts gX0_agreesWith_X0_startOf rfl rfl rfl (by decide +kernel) ⟨Nat.le_of_ble_eq_true rfl, Nat.le_of_ble_eq_true rfl⟩) (ro_preV hK (va_recv hK hR (ci := 0) (q0 := 0) rfl rfl)) rfl rfl hl.1 rfl (lv_room (Nat.le_of_ble_eq_true rfl)) dX0_agreesWith_16 ⟨Nat.zero_le _, Nat.zero_le _⟩) ?_
        refine lv_i2l hx hb dX0_agreesWith_19 rfl ?_
        refine ro_call (va_runV (As := [.int (nI a), .long ((v_E r i).toInt64)]) (rest := []) ⟨hx, hb, hml, hown, hts⟩ (c_X0_firstFrom l A2 q hk2 hR2 a ((v_E r i).toInt64) ha) (cwV 2 hts gX0_agreesWith_X0_firstFrom rfl rfl rfl (by decide +kernel) ⟨Nat.le_of_ble_eq_true rfl, Nat.le_of_ble_eq_true rfl⟩) (ro_preV hK (va_recv hK hR2 (ci := 0) (q0 := 0) rfl rfl)) rfl rfl hl.1 rfl (lv_room (Nat.le_of_ble_eq_true rfl)) dX0_agreesWith_20 ⟨Nat.zero_le _, Nat.zero_le _⟩) ?_
        refine lv_istore_n (lv' := [(2, .int (nI (ff q ((v_E r i).toInt64) a))), (3, .int (nI i)), (0, .ref (a_o A)), (1, .ref (a_o A2))]) hx hb dX0_agreesWith_23 rfl hl (by decide) rfl (fun ls hl => ?_)
        refine lv_aload_n hx hb dX0_agreesWith_24 rfl (lv_at hl 3 rfl) ?_
        refine lv_iload_n hx hb dX0_agreesWith_25 rfl (lv_at hl 0 rfl) ?_
        refine lv_aload_n hx hb dX0_agreesWith_26 rfl (lv_at hl 2 rfl) ?_
        refine lv_iload_n hx hb dX0_agreesWith_27 rfl (lv_at hl 1 rfl) ?_
        refine ro_call (va_runV (As := [.int (nI i)]) (rest := [.int (nI (ff q ((v_E r i).toInt64) a)), .ref (a_o A2)]) ⟨hx, hb, hml, hown, hts⟩ (c_X0_endOfEntry l A r hk hR i (by omega)) (cwV 1 hts gX0_agreesWith_X0_endOfEntry rfl rfl rfl (by decide +kernel) ⟨Nat.le_of_ble_eq_true rfl, Nat.le_of_ble_eq_true rfl⟩) (ro_preV hK (va_recv hK hR (ci := 0) (q0 := 0) rfl rfl)) rfl rfl hl.1 rfl (lv_room (Nat.le_of_ble_eq_true rfl)) dX0_agreesWith_28 ⟨Nat.zero_le _, Nat.zero_le _⟩) ?_
        refine ro_call (va_runV (As := [.int (nI (ff q ((v_E r i).toInt64) a)), .long (v_X r i)]) (rest := []) ⟨hx, hb, hml, hown, hts⟩ (c_X0_firstFrom l A2 q hk2 hR2 (ff q ((v_E r i).toInt64) a) (v_X r i) (ff_le (by first | exact ha | exact ff_le ha))) (cwV 2 hts gX0_agreesWith_X0_firstFrom rfl rfl rfl (by decide +kernel) ⟨Nat.le_of_ble_eq_true rfl, Nat.le_of_ble_eq_true rfl⟩) (ro_preV hK (va_recv hK hR2 (ci := 0) (q0 := 0) rfl rfl)) rfl rfl hl.1 rfl (lv_room (Nat.le_of_ble_eq_true rfl)) dX0_agreesWith_31 ⟨Nat.zero_le _, Nat.zero_le _⟩) ?_
        refine lv_istore (lv' := [(4, .int (nI (ff q (v_X r i) (ff q ((v_E r i).toInt64) a)))), (2, .int (nI (ff q ((v_E r i).toInt64) a))), (3, .int (nI i)), (0, .ref (a_o A)), (1, .ref (a_o A2))]) hx hb dX0_agreesWith_34 hl (by decide) rfl (fun ls hl => ?_)
        refine lv_aload_n hx hb dX0_agreesWith_36 rfl (lv_at hl 4 rfl) ?_
        refine va_get (D := D) (ci := 0) (v := .int (v_g q)) (C := RX0) (T := TX0) (N := 7) hx hb hts hi0 hown hK hR2 0 rfl rfl 6 (by decide) (hts (.fieldLink RX0 9 "RingSeries$Ring" "gone" "I") (by decide +kernel)) (fun _ h9 => h9) rfl dX0_agreesWith_37 ?_
        refine lv_aload_n hx hb dX0_agreesWith_40 rfl (lv_at hl 3 rfl) ?_
        refine lv_iload_n hx hb dX0_agreesWith_41 rfl (lv_at hl 2 rfl) ?_
        refine ro_call (va_runV (As := [.int (nI i)]) (rest := [.int (v_g q)]) ⟨hx, hb, hml, hown, hts⟩ (c_X0_startOf l A r hk hR i (by omega)) (cwV 1 hts gX0_agreesWith_X0_startOf rfl rfl rfl (by decide +kernel) ⟨Nat.le_of_ble_eq_true rfl, Nat.le_of_ble_eq_true rfl⟩) (ro_preV hK (va_recv hK hR (ci := 0) (q0 := 0) rfl rfl)) rfl rfl hl.1 rfl (lv_room (Nat.le_of_ble_eq_true rfl)) dX0_agreesWith_42 ⟨Nat.zero_le _, Nat.zero_le _⟩) ?_
        refine lv_icmp_ge (tgt := 52) hx hb dX0_agreesWith_45 (by decide) (fun c_45 => ?_) (fun c_45 => ?_)
        · refine lv_iconst (v := 0) hx hb dX0_agreesWith_52 (by decide) ?_
          refine lv_istore (lv' := [(5, .int 0), (4, .int (nI (ff q (v_X r i) (ff q ((v_E r i).toInt64) a)))), (2, .int (nI (ff q ((v_E r i).toInt64) a))), (3, .int (nI i)), (0, .ref (a_o A)), (1, .ref (a_o A2))]) hx hb dX0_agreesWith_53 hl (by decide) rfl (fun ls hl => ?_)
          refine lv_iload hx hb dX0_agreesWith_55 (lv_at hl 0 rfl) ?_
          refine lv_if_eq (tgt := 74) hx hb dX0_agreesWith_57 (by decide) (fun c_57 => ?_) (fun c_57 => ?_)
          · refine lv_iload hx hb dX0_agreesWith_74 (lv_at hl 1 rfl) ?_
            refine lv_istore_n (lv' := [(2, .int (nI (ff q (v_X r i) (ff q ((v_E r i).toInt64) a)))), (5, .int 0), (4, .int (nI (ff q (v_X r i) (ff q ((v_E r i).toInt64) a)))), (3, .int (nI i)), (0, .ref (a_o A)), (1, .ref (a_o A2))]) hx hb dX0_agreesWith_76 rfl hl (by decide) rfl (fun ls hl => ?_)
            refine lv_iinc (v := nI (i + 1)) (lv' := [(3, .int (nI (i + 1))), (2, .int (nI (ff q (v_X r i) (ff q ((v_E r i).toInt64) a)))), (5, .int 0), (4, .int (nI (ff q (v_X r i) (ff q ((v_E r i).toInt64) a)))), (0, .ref (a_o A)), (1, .ref (a_o A2))]) hx hb dX0_agreesWith_77 hl (k := 3) rfl (inc1 _) (by decide) rfl (fun ls hl => ?_)
            refine lv_goto (tgt := 4) hx hb dX0_agreesWith_80 (by decide) ?_
            exact ih (i + 1) _ ls (by omega) (ff_le (by first | exact ha | exact ff_le ha)) (lv_sub hl [0, 1, 4, 5] rfl)
          · exact absurd rfl c_57
        · refine lv_iconst (v := 1) hx hb dX0_agreesWith_48 (by decide) ?_
          refine lv_goto (tgt := 53) hx hb dX0_agreesWith_49 (by decide) ?_
          refine lv_istore (lv' := [(5, .int 1), (4, .int (nI (ff q (v_X r i) (ff q ((v_E r i).toInt64) a)))), (2, .int (nI (ff q ((v_E r i).toInt64) a))), (3, .int (nI i)), (0, .ref (a_o A)), (1, .ref (a_o A2))]) hx hb dX0_agreesWith_53 hl (by decide) rfl (fun ls hl => ?_)
          refine lv_iload hx hb dX0_agreesWith_55 (lv_at hl 0 rfl) ?_
          refine lv_if_eq (tgt := 74) hx hb dX0_agreesWith_57 (by decide) (fun c_57 => ?_) (fun c_57 => ?_)
          · exact absurd c_57 (by decide)
          · refine lv_aload_n hx hb dX0_agreesWith_60 rfl (lv_at hl 4 rfl) ?_
            refine lv_aload_n hx hb dX0_agreesWith_61 rfl (lv_at hl 5 rfl) ?_
            refine lv_iload_n hx hb dX0_agreesWith_62 rfl (lv_at hl 2 rfl) ?_
            refine lv_iload hx hb dX0_agreesWith_63 (lv_at hl 1 rfl) ?_
            refine lv_iload_n hx hb dX0_agreesWith_65 rfl (lv_at hl 3 rfl) ?_
            refine ro_call (va_runV (As := [.ref (a_o A2), .int (nI (ff q ((v_E r i).toInt64) a)), .int (nI (ff q (v_X r i) (ff q ((v_E r i).toInt64) a))), .int (nI i)]) (rest := []) ⟨hx, hb, hml, hown, hts⟩ (c_X0_hasFiguresOf_t l A r hk hR A2 q hk2 hR2 (ff q ((v_E r i).toInt64) a) (ff q (v_X r i) (ff q ((v_E r i).toInt64) a)) i (by omega) (ff_le (by first | exact ha | exact ff_le ha)) (ff_le (by first | exact ha | exact ff_le ha)) (hag i a (by omega) ha c_45)) (cwV 4 hts gX0_agreesWith_X0_hasFiguresOf rfl rfl rfl (by decide +kernel) ⟨Nat.le_of_ble_eq_true rfl, Nat.le_of_ble_eq_true rfl⟩) (ro_preV hK (va_recv hK hR (ci := 0) (q0 := 0) rfl rfl)) rfl rfl hl.1 rfl (lv_room (Nat.le_of_ble_eq_true rfl)) dX0_agreesWith_66 ⟨Nat.zero_le _, Nat.zero_le _⟩) ?_
            refine lv_if_ne (tgt := 74) hx hb dX0_agreesWith_69 (by decide) (fun c_69 => ?_) (fun c_69 => ?_)
            · refine lv_iload hx hb dX0_agreesWith_74 (lv_at hl 1 rfl) ?_
              refine lv_istore_n (lv' := [(2, .int (nI (ff q (v_X r i) (ff q ((v_E r i).toInt64) a)))), (5, .int 1), (4, .int (nI (ff q (v_X r i) (ff q ((v_E r i).toInt64) a)))), (3, .int (nI i)), (0, .ref (a_o A)), (1, .ref (a_o A2))]) hx hb dX0_agreesWith_76 rfl hl (by decide) rfl (fun ls hl => ?_)
              refine lv_iinc (v := nI (i + 1)) (lv' := [(3, .int (nI (i + 1))), (2, .int (nI (ff q (v_X r i) (ff q ((v_E r i).toInt64) a)))), (5, .int 1), (4, .int (nI (ff q (v_X r i) (ff q ((v_E r i).toInt64) a)))), (0, .ref (a_o A)), (1, .ref (a_o A2))]) hx hb dX0_agreesWith_77 hl (k := 3) rfl (inc1 _) (by decide) rfl (fun ls hl => ?_)
              refine lv_goto (tgt := 4) hx hb dX0_agreesWith_80 (by decide) ?_
              exact ih (i + 1) _ ls (by omega) (ff_le (by first | exact ha | exact ff_le ha)) (lv_sub hl [0, 1, 4, 5] rfl)
            · exact absurd c_69 (by decide)
  refine lv_iconst (v := 0) hx hb dX0_agreesWith_0 (by decide) ?_
  refine lv_istore_n (lv' := [(2, .int 0), (0, .ref (a_o A)), (1, .ref (a_o A2))]) hx hb dX0_agreesWith_1 rfl hl (by decide) rfl (fun ls hl => ?_)
  refine lv_iconst (v := 0) hx hb dX0_agreesWith_2 (by decide) ?_
  refine lv_istore_n (lv' := [(3, .int 0), (2, .int 0), (0, .ref (a_o A)), (1, .ref (a_o A2))]) hx hb dX0_agreesWith_3 rfl hl (by decide) rfl (fun ls hl => ?_)
  exact loop (v_h r) 0 0 ls (by omega) (by omega) (lv_sub hl [0, 1, 2, 3] rfl)
end
section
/-! The series: its own cell, and what its questions answer, in words of the rings. -/
def xW (x sq : Nat) (lt : Int32) (A0 A1 A2 : rgA) : va_W := [(x, .inr (1, [.ref (a_o A0), .ref (a_o A1), .ref (a_o A2), .ref sq, .int lt]))]
def sA (r : rgV) (f : Int32) : Nat := ff r f.toInt64 0
def sB (r : rgV) (f t : Int32) : Nat := ff r (t.toInt64 + 1) (sA r f)
theorem sA_le (r : rgV) (f : Int32) : sA r f ≤ v_h r := ff_le (Nat.zero_le _)
theorem sB_le (r : rgV) (f t : Int32) : sB r f t ≤ v_h r := ff_le (sA_le r f)
theorem sB_ge (r : rgV) (f t : Int32) : sA r f ≤ sB r f t := ff_ge
/-- the rise to entry j -/
def rz (r : rgV) (j : Nat) : Int64 := (v_G r 2 j).toInt64 - (v_G r 2 (j - 1)).toInt64
def onl (r : rgV) (j : Nat) (t : Int32) : Int32 :=
  if 0 < (v_E r (j + 1)).toInt64 - (v_E r j).toInt64 then ((v_G r 2 j).toInt64 + rz r (j + 1) * (t.toInt64 - (v_E r j).toInt64) / ((v_E r (j + 1)).toInt64 - (v_E r j).toInt64)).toInt32 else v_G r 2 j
def smr (r : rgV) : Nat → Nat → Int64 → Int64
  | 0, _, x => x
  | n + 1, i, x => smr r n (i + 1) (x + (v_G r 2 i).toInt64)
def atV (r : rgV) (t sm : Int32) : Int32 :=
  if ff r (t.toInt64 + 1) 0 = 0 then 0 else if ¬ sm = 0 ∧ ff r (t.toInt64 + 1) 0 < v_h r then onl r (ff r (t.toInt64 + 1) 0 - 1) t else v_G r 2 (ff r (t.toInt64 + 1) 0 - 1)
def spr (r : rgV) : Nat → Nat → Int32 → Int64 → Int32
  | 0, _, b, _ => b
  | n + 1, i, b, x => if b = -1 ∨ x < rz r i then spr r n (i + 1) (nI i) (rz r i) else spr r n (i + 1) b x
def spV (r : rgV) (f t : Int32) : Int32 := spr r (sB r f t - (sA r f + 1)) (sA r f + 1) (-1) 0
def st0 (r : rgV) : Int32 := if 0 < v_h r then v_E r 0 else -1
def mnl (x y : Int64) : Int64 := if y < x then y else x
def rcV (r0 r1 r2 : rgV) (f t : Int32) : Int64 :=
  mw r0 f.toInt64 t.toInt64 + mw r1 f.toInt64 (mnl t.toInt64 ((st0 r0).toInt64 - 1)) + mw r2 f.toInt64 (mnl (mnl t.toInt64 ((st0 r0).toInt64 - 1)) ((st0 r1).toInt64 - 1))
/-- every entry of r agrees with what q has of it, if q has all of it -/
def agr (r q : rgV) : Prop := ∀ i a : Nat, i < v_h r → a ≤ v_h q → ¬ v_E r i ≤ v_g q → hfr r q (ff q (v_E r i).toInt64 a) (ff q (v_X r i) (ff q (v_E r i).toInt64 a)) i
end
section
theorem nix3 {v : Int32} (hn : ¬ ix 3 v) : v.toInt < 0 ∨ 2 < v.toInt := by
  rcases ix_nix hn with h | h
  · rw [Int32.lt_iff_toInt_lt] at h
    exact Or.inl h
  · rw [Int32.le_iff_toInt_le, nI_toInt (by decide)] at h
    exact Or.inr (by omega)
theorem c_X0_startOf_0 (l : Launch) {D : va_G} {cI cA cJ : ClassId} {H : Heap} (A : rgA) (r : rgV) (hk : r_ok r) (hR : va_P D vwCl (rgW cI cA A r) H) : Met l yX0_startOf wsX0_startOf ({ frames := 1, cells := 0, slots := 0, locals := 22 }) (ro_P D vwCl (tyL cI cA cJ) H [.ref (a_o A), .int 0]) (ro_Q (.int (st0 r)) H) 0 0 ro_no := by
  by_cases h : 0 < v_h r
  · have := c_X0_startOf (cJ := cJ) l A r hk hR 0 h
    rw [nI_0] at this
    rw [show st0 r = v_E r 0 by unfold st0; rw [if_pos h]]
    exact this
  · rw [show st0 r = -1 by unfold st0; rw [if_neg h]]
    refine c_X0_startOf_n l A r hk hR 0 (fun z => ?_)
    rw [show v_h r = 0 by omega] at z
    exact absurd z.2 (by decide)
def wiV (n lo hi : Int32) : Int32 := if lo < (if n < hi then n else hi) then (if n < hi then n else hi) else lo
set_option maxHeartbeats 4000000 in
set_option maxRecDepth 100000 in
/-- firstIn(from) -/
theorem c_X1_firstIn (l : Launch) {D : va_G} {cI cA cJ : ClassId} {H : Heap} (x sq : Nat) (lt : Int32) (A0 A1 A2 : rgA) (hX : va_P D vwCl (xW x sq lt A0 A1 A2) H) (r0 : rgV) (hk0 : r_ok r0) (hR0 : va_P D vwCl (rgW cI cA A0 r0) H) (f : Int32) : Met l yX1_firstIn wsX1_firstIn ({ frames := 3, cells := 0, slots := 0, locals := 67 }) (ro_P D vwCl (tyL cI cA cJ) H [.ref x, .int f]) (ro_Q (.int (nI (sA r0 f))) H) 0 0 ro_no := by
  refine Met.ofW (cc := cX1_firstIn) (maxL := 2) (ret := (some .int)) (by decide) rfl ?_
  intro p e s m args below meth c s₁ B hml hv
  obtain ⟨rfl, hh, hK⟩ := hv
  subst hh
  have hx := B.exec
  have hb := B.bytes
  have hr := B.returns
  have hlocks := B.notSynchronized
  have hts := atoms_spec (ws := wsX1_firstIn) B.pre
  have hown : s.vm.findClass RX1 = some m.cls := findClass_of_methodNamed B.named
  have hi1 : ∀ w ∈ wsX10, w ∈ wsX1_firstIn := fun w h => List.mem_cons_of_mem _ (List.mem_append_left _ (List.mem_append_right _ h))
  have hi0 : ∀ w ∈ wsX00, w ∈ wsX1_firstIn := fun w h => List.mem_cons_of_mem _ (List.mem_append_right _ h)
  have hl := lv_entry ([.ref x, .int f]) (n := 2) (Nat.le_of_ble_eq_true rfl)
  rw [lg_entry_eq]
  generalize (lg_sl ([.ref x, .int f]) ++ List.replicate (2 - (lg_sl ([.ref x, .int f])).length) Slot.unset).toArray = ls at hl ⊢
  have hl : lv_has ls 2 [(0, .ref x), (1, .int f)] := hl
  obtain ⟨k10, k20, k30, k40, k50, k60⟩ := id hk0
  refine lv_aload_n hx hb dX1_firstIn_0 rfl (lv_at hl 0 rfl) ?_
  refine va_get (D := D) (ci := 1) (v := .ref (a_o A0)) (C := RX1) (T := TX1) (N := 5) hx hb hts hi1 hown hK hX 0 rfl rfl 0 (by decide) (hts (.fieldLink RX1 23 "RingSeries" "points" "LRingSeries$Ring;") (by decide +kernel)) (fun _ h9 => h9) rfl dX1_firstIn_1 ?_
  refine lv_iconst (v := 0) hx hb dX1_firstIn_4 (by decide) ?_
  refine lv_iload_n hx hb dX1_firstIn_5 rfl (lv_at hl 1 rfl) ?_
  refine lv_i2l hx hb dX1_firstIn_6 rfl ?_
  refine ro_call (va_runV (As := [.int 0, .long ((f).toInt64)]) (rest := []) ⟨hx, hb, hml, hown, hts⟩ (c_X0_firstFrom l A0 r0 hk0 hR0 0 ((f).toInt64) (by omega)) (cwV 2 hts gX1_firstIn_X0_firstFrom rfl rfl rfl (by decide +kernel) ⟨Nat.le_of_ble_eq_true rfl, Nat.le_of_ble_eq_true rfl⟩) (ro_preV hK (va_recv hK hR0 (ci := 0) (q0 := 0) rfl rfl)) rfl rfl hl.1 rfl (lv_room (Nat.le_of_ble_eq_true rfl)) dX1_firstIn_7 ⟨Nat.zero_le _, Nat.zero_le _⟩) ?_
  exact ro_iret hx hb hr rfl dX1_firstIn_10 hlocks
set_option maxHeartbeats 4000000 in
set_option maxRecDepth 100000 in
/-- endOf(first, to) -/
theorem c_X1_endOf (l : Launch) {D : va_G} {cI cA cJ : ClassId} {H : Heap} (x sq : Nat) (lt : Int32) (A0 A1 A2 : rgA) (hX : va_P D vwCl (xW x sq lt A0 A1 A2) H) (r0 : rgV) (hk0 : r_ok r0) (hR0 : va_P D vwCl (rgW cI cA A0 r0) H) (i : Nat) (hi : i ≤ v_h r0) (t : Int32) : Met l yX1_endOf wsX1_endOf ({ frames := 3, cells := 0, slots := 0, locals := 67 }) (ro_P D vwCl (tyL cI cA cJ) H [.ref x, .int (nI i), .int t]) (ro_Q (.int (nI (ff r0 (t.toInt64 + 1) i))) H) 0 0 ro_no := by
  refine Met.ofW (cc := cX1_endOf) (maxL := 3) (ret := (some .int)) (by decide) rfl ?_
  intro p e s m args below meth c s₁ B hml hv
  obtain ⟨rfl, hh, hK⟩ := hv
  subst hh
  have hx := B.exec
  have hb := B.bytes
  have hr := B.returns
  have hlocks := B.notSynchronized
  have hts := atoms_spec (ws := wsX1_endOf) B.pre
  have hown : s.vm.findClass RX1 = some m.cls := findClass_of_methodNamed B.named
  have hi1 : ∀ w ∈ wsX10, w ∈ wsX1_endOf := fun w h => List.mem_cons_of_mem _ (List.mem_append_left _ (List.mem_append_right _ h))
  have hi0 : ∀ w ∈ wsX00, w ∈ wsX1_endOf := fun w h => List.mem_cons_of_mem _ (List.mem_append_right _ h)
  have hl := lv_entry ([.ref x, .int (nI i), .int t]) (n := 3) (Nat.le_of_ble_eq_true rfl)
  rw [lg_entry_eq]
  generalize (lg_sl ([.ref x, .int (nI i), .int t]) ++ List.replicate (3 - (lg_sl ([.ref x, .int (nI i), .int t])).length) Slot.unset).toArray = ls at hl ⊢
  have hl : lv_has ls 3 [(0, .ref x), (1, .int (nI i)), (2, .int t)] := hl
  obtain ⟨k10, k20, k30, k40, k50, k60⟩ := id hk0
  refine lv_aload_n hx hb dX1_endOf_0 rfl (lv_at hl 0 rfl) ?_
  refine va_get (D := D) (ci := 1) (v := .ref (a_o A0)) (C := RX1) (T := TX1) (N := 5) hx hb hts hi1 hown hK hX 0 rfl rfl 0 (by decide) (hts (.fieldLink RX1 23 "RingSeries" "points" "LRingSeries$Ring;") (by decide +kernel)) (fun _ h9 => h9) rfl dX1_endOf_1 ?_
  refine lv_iload_n hx hb dX1_endOf_4 rfl (lv_at hl 1 rfl) ?_
  refine lv_iload_n hx hb dX1_endOf_5 rfl (lv_at hl 2 rfl) ?_
  refine lv_i2l hx hb dX1_endOf_6 rfl ?_
  refine lv_lconst (v := 1) hx hb dX1_endOf_7 (by decide) ?_
  refine lv_ladd hx hb dX1_endOf_8 ?_
  refine ro_call (va_runV (As := [.int (nI i), .long (((t).toInt64) + 1)]) (rest := []) ⟨hx, hb, hml, hown, hts⟩ (c_X0_firstFrom l A0 r0 hk0 hR0 i (((t).toInt64) + 1) (by omega)) (cwV 2 hts gX1_endOf_X0_firstFrom rfl rfl rfl (by decide +kernel) ⟨Nat.le_of_ble_eq_true rfl, Nat.le_of_ble_eq_true rfl⟩) (ro_preV hK (va_recv hK hR0 (ci := 0) (q0 := 0) rfl rfl)) rfl rfl hl.1 rfl (lv_room (Nat.le_of_ble_eq_true rfl)) dX1_endOf_9 ⟨Nat.zero_le _, Nat.zero_le _⟩) ?_
  exact ro_iret hx hb hr rfl dX1_endOf_12 hlocks
set_option maxHeartbeats 4000000 in
set_option maxRecDepth 100000 in
/-- valueOf(i) -/
theorem c_X1_valueOf (l : Launch) {D : va_G} {cI cA cJ : ClassId} {H : Heap} (x sq : Nat) (lt : Int32) (A0 A1 A2 : rgA) (hX : va_P D vwCl (xW x sq lt A0 A1 A2) H) (r0 : rgV) (hk0 : r_ok r0) (hR0 : va_P D vwCl (rgW cI cA A0 r0) H) (j : Nat) (hj : j < v_h r0) : Met l yX1_valueOf wsX1_valueOf ({ frames := 2, cells := 0, slots := 0, locals := 44 }) (ro_P D vwCl (tyL cI cA cJ) H [.ref x, .int (nI j)]) (ro_Q (.int (v_G r0 2 j)) H) 0 0 ro_no := by
  refine Met.ofW (cc := cX1_valueOf) (maxL := 2) (ret := (some .int)) (by decide) rfl ?_
  intro p e s m args below meth c s₁ B hml hv
  obtain ⟨rfl, hh, hK⟩ := hv
  subst hh
  have hx := B.exec
  have hb := B.bytes
  have hr := B.returns
  have hlocks := B.notSynchronized
  have hts := atoms_spec (ws := wsX1_valueOf) B.pre
  have hown : s.vm.findClass RX1 = some m.cls := findClass_of_methodNamed B.named
  have hi1 : ∀ w ∈ wsX10, w ∈ wsX1_valueOf := fun w h => List.mem_cons_of_mem _ (List.mem_append_left _ (List.mem_append_right _ h))
  have hi0 : ∀ w ∈ wsX00, w ∈ wsX1_valueOf := fun w h => List.mem_cons_of_mem _ (List.mem_append_right _ h)
  have hl := lv_entry ([.ref x, .int (nI j)]) (n := 2) (Nat.le_of_ble_eq_true rfl)
  rw [lg_entry_eq]
  generalize (lg_sl ([.ref x, .int (nI j)]) ++ List.replicate (2 - (lg_sl ([.ref x, .int (nI j)])).length) Slot.unset).toArray = ls at hl ⊢
  have hl : lv_has ls 2 [(0, .ref x), (1, .int (nI j))] := hl
  obtain ⟨k10, k20, k30, k40, k50, k60⟩ := id hk0
  refine lv_aload_n hx hb dX1_valueOf_0 rfl (lv_at hl 0 rfl) ?_
  refine va_get (D := D) (ci := 1) (v := .ref (a_o A0)) (C := RX1) (T := TX1) (N := 5) hx hb hts hi1 hown hK hX 0 rfl rfl 0 (by decide) (hts (.fieldLink RX1 23 "RingSeries" "points" "LRingSeries$Ring;") (by decide +kernel)) (fun _ h9 => h9) rfl dX1_valueOf_1 ?_
  refine lv_iload_n hx hb dX1_valueOf_4 rfl (lv_at hl 1 rfl) ?_
  refine lv_iconst (v := 2) hx hb dX1_valueOf_5 (by decide) ?_
  refine ro_call (va_runV (As := [.int (nI j), .int 2]) (rest := []) ⟨hx, hb, hml, hown, hts⟩ (c_X0_figureOf l A0 r0 hk0 hR0 j 2 (by omega) (by omega)) (cwV 2 hts gX1_valueOf_X0_figureOf rfl rfl rfl (by decide +kernel) ⟨Nat.le_of_ble_eq_true rfl, Nat.le_of_ble_eq_true rfl⟩) (ro_preV hK (va_recv hK hR0 (ci := 0) (q0 := 0) rfl rfl)) rfl rfl hl.1 rfl (lv_room (Nat.le_of_ble_eq_true rfl)) dX1_valueOf_6 ⟨Nat.zero_le _, Nat.zero_le _⟩) ?_
  exact ro_iret hx hb hr rfl dX1_valueOf_9 hlocks
set_option maxHeartbeats 4000000 in
set_option maxRecDepth 100000 in
/-- riseTo(i) -/
theorem c_X1_riseTo (l : Launch) {D : va_G} {cI cA cJ : ClassId} {H : Heap} (x sq : Nat) (lt : Int32) (A0 A1 A2 : rgA) (hX : va_P D vwCl (xW x sq lt A0 A1 A2) H) (r0 : rgV) (hk0 : r_ok r0) (hR0 : va_P D vwCl (rgW cI cA A0 r0) H) (j : Nat) (hj : j < v_h r0) (h1 : 1 ≤ j) : Met l yX1_riseTo wsX1_riseTo ({ frames := 3, cells := 0, slots := 0, locals := 65 }) (ro_P D vwCl (tyL cI cA cJ) H [.ref x, .int (nI j)]) (ro_Q (.long (rz r0 j)) H) 0 0 ro_no := by
  refine Met.ofW (cc := cX1_riseTo) (maxL := 2) (ret := (some .long)) (by decide) rfl ?_
  intro p e s m args below meth c s₁ B hml hv
  obtain ⟨rfl, hh, hK⟩ := hv
  subst hh
  have hx := B.exec
  have hb := B.bytes
  have hr := B.returns
  have hlocks := B.notSynchronized
  have hts := atoms_spec (ws := wsX1_riseTo) B.pre
  have hown : s.vm.findClass RX1 = some m.cls := findClass_of_methodNamed B.named
  have hi1 : ∀ w ∈ wsX10, w ∈ wsX1_riseTo := fun w h => List.mem_cons_of_mem _ (List.mem_append_left _ (List.mem_append_right _ h))
  have hi0 : ∀ w ∈ wsX00, w ∈ wsX1_riseTo := fun w h => List.mem_cons_of_mem _ (List.mem_append_right _ h)
  have hl := lv_entry ([.ref x, .int (nI j)]) (n := 2) (Nat.le_of_ble_eq_true rfl)
  rw [lg_entry_eq]
  generalize (lg_sl ([.ref x, .int (nI j)]) ++ List.replicate (2 - (lg_sl ([.ref x, .int (nI j)])).length) Slot.unset).toArray = ls at hl ⊢
  have hl : lv_has ls 2 [(0, .ref x), (1, .int (nI j))] := hl
  obtain ⟨k10, k20, k30, k40, k50, k60⟩ := id hk0
  refine lv_aload_n hx hb dX1_riseTo_0 rfl (lv_at hl 0 rfl) ?_
  refine lv_iload_n hx hb dX1_riseTo_1 rfl (lv_at hl 1 rfl) ?_
  refine ro_call (va_runV (As := [.int (nI j)]) (rest := []) ⟨hx, hb, hml, hown, hts⟩ (c_X1_valueOf l x sq lt A0 A1 A2 hX r0 hk0 hR0 j (by omega)) (cwV 1 hts gX1_riseTo_X1_valueOf rfl rfl rfl (by decide +kernel) ⟨Nat.le_of_ble_eq_true rfl, Nat.le_of_ble_eq_true rfl⟩) (ro_preV hK (va_recv hK hX (ci := 1) (q0 := 0) rfl rfl)) rfl rfl hl.1 rfl (lv_room (Nat.le_of_ble_eq_true rfl)) dX1_riseTo_2 ⟨Nat.zero_le _, Nat.zero_le _⟩) ?_
  refine lv_i2l hx hb dX1_riseTo_5 rfl ?_
  refine lv_aload_n hx hb dX1_riseTo_6 rfl (lv_at hl 0 rfl) ?_
  refine lv_iload_n hx hb dX1_riseTo_7 rfl (lv_at hl 1 rfl) ?_
  refine lv_iconst (v := 1) hx hb dX1_riseTo_8 (by decide) ?_
  refine lv_isub hx hb dX1_riseTo_9 ?_
  refine top_i (pk_sub (b := 1) (by omega)) ?_
  refine ro_call (va_runV (As := [.int (nI (j - 1))]) (rest := [.long ((v_G r0 2 j).toInt64)]) ⟨hx, hb, hml, hown, hts⟩ (c_X1_valueOf l x sq lt A0 A1 A2 hX r0 hk0 hR0 (j - 1) (by omega)) (cwV 1 hts gX1_riseTo_X1_valueOf rfl rfl rfl (by decide +kernel) ⟨Nat.le_of_ble_eq_true rfl, Nat.le_of_ble_eq_true rfl⟩) (ro_preV hK (va_recv hK hX (ci := 1) (q0 := 0) rfl rfl)) rfl rfl hl.1 rfl (lv_room (Nat.le_of_ble_eq_true rfl)) dX1_riseTo_10 ⟨Nat.zero_le _, Nat.zero_le _⟩) ?_
  refine lv_i2l hx hb dX1_riseTo_13 rfl ?_
  refine lv_lsub hx hb dX1_riseTo_14 ?_
  exact ro_lret hx hb hr rfl dX1_riseTo_15 hlocks
set_option maxHeartbeats 4000000 in
set_option maxRecDepth 100000 in
/-- onLine(earlier, time) -/
theorem c_X1_onLine (l : Launch) {D : va_G} {cI cA cJ : ClassId} {H : Heap} (x sq : Nat) (lt : Int32) (A0 A1 A2 : rgA) (hX : va_P D vwCl (xW x sq lt A0 A1 A2) H) (r0 : rgV) (hk0 : r_ok r0) (hR0 : va_P D vwCl (rgW cI cA A0 r0) H) (j : Nat) (hj : j + 1 < v_h r0) (t : Int32) : Met l yX1_onLine wsX1_onLine ({ frames := 4, cells := 0, slots := 0, locals := 86 }) (ro_P D vwCl (tyL cI cA cJ) H [.ref x, .int (nI j), .int t]) (ro_Q (.int (onl r0 j t)) H) 0 0 ro_no := by
  refine Met.ofW (cc := cX1_onLine) (maxL := 8) (ret := (some .int)) (by decide) rfl ?_
  intro p e s m args below meth c s₁ B hml hv
  obtain ⟨rfl, hh, hK⟩ := hv
  subst hh
  have hx := B.exec
  have hb := B.bytes
  have hr := B.returns
  have hlocks := B.notSynchronized
  have hts := atoms_spec (ws := wsX1_onLine) B.pre
  have hown : s.vm.findClass RX1 = some m.cls := findClass_of_methodNamed B.named
  have hi1 : ∀ w ∈ wsX10, w ∈ wsX1_onLine := fun w h => List.mem_cons_of_mem _ (List.mem_append_left _ (List.mem_append_right _ h))
  have hi0 : ∀ w ∈ wsX00, w ∈ wsX1_onLine := fun w h => List.mem_cons_of_mem _ (List.mem_append_right _ h)
  have hl := lv_entry ([.ref x, .int (nI j), .int t]) (n := 8) (Nat.le_of_ble_eq_true rfl)
  rw [lg_entry_eq]
  generalize (lg_sl ([.ref x, .int (nI j), .int t]) ++ List.replicate (8 - (lg_sl ([.ref x, .int (nI j), .int t])).length) Slot.unset).toArray = ls at hl ⊢
  have hl : lv_has ls 8 [(0, .ref x), (1, .int (nI j)), (2, .int t)] := hl
  obtain ⟨k10, k20, k30, k40, k50, k60⟩ := id hk0
  refine lv_aload_n hx hb dX1_onLine_0 rfl (lv_at hl 0 rfl) ?_
  refine va_get (D := D) (ci := 1) (v := .ref (a_o A0)) (C := RX1) (T := TX1) (N := 5) hx hb hts hi1 hown hK hX 0 rfl rfl 0 (by decide) (hts (.fieldLink RX1 23 "RingSeries" "points" "LRingSeries$Ring;") (by decide +kernel)) (fun _ h9 => h9) rfl dX1_onLine_1 ?_
  refine lv_iload_n hx hb dX1_onLine_4 rfl (lv_at hl 1 rfl) ?_
  refine ro_call (va_runV (As := [.int (nI j)]) (rest := []) ⟨hx, hb, hml, hown, hts⟩ (c_X0_startOf l A0 r0 hk0 hR0 j (by omega)) (cwV 1 hts gX1_onLine_X0_startOf rfl rfl rfl (by decide +kernel) ⟨Nat.le_of_ble_eq_true rfl, Nat.le_of_ble_eq_true rfl⟩) (ro_preV hK (va_recv hK hR0 (ci := 0) (q0 := 0) rfl rfl)) rfl rfl hl.1 rfl (lv_room (Nat.le_of_ble_eq_true rfl)) dX1_onLine_5 ⟨Nat.zero_le _, Nat.zero_le _⟩) ?_
  refine lv_istore_n (lv' := [(3, .int (v_E r0 j)), (0, .ref x), (1, .int (nI j)), (2, .int t)]) hx hb dX1_onLine_8 rfl hl (by decide) rfl (fun ls hl => ?_)
  refine lv_aload_n hx hb dX1_onLine_9 rfl (lv_at hl 1 rfl) ?_
  refine va_get (D := D) (ci := 1) (v := .ref (a_o A0)) (C := RX1) (T := TX1) (N := 5) hx hb hts hi1 hown hK hX 0 rfl rfl 0 (by decide) (hts (.fieldLink RX1 23 "RingSeries" "points" "LRingSeries$Ring;") (by decide +kernel)) (fun _ h9 => h9) rfl dX1_onLine_10 ?_
  refine lv_iload_n hx hb dX1_onLine_13 rfl (lv_at hl 2 rfl) ?_
  refine lv_iconst (v := 1) hx hb dX1_onLine_14 (by decide) ?_
  refine lv_iadd hx hb dX1_onLine_15 ?_
  refine top_i (nI_add _ 1) ?_
  refine ro_call (va_runV (As := [.int (nI (j + 1))]) (rest := []) ⟨hx, hb, hml, hown, hts⟩ (c_X0_startOf l A0 r0 hk0 hR0 (j + 1) (by omega)) (cwV 1 hts gX1_onLine_X0_startOf rfl rfl rfl (by decide +kernel) ⟨Nat.le_of_ble_eq_true rfl, Nat.le_of_ble_eq_true rfl⟩) (ro_preV hK (va_recv hK hR0 (ci := 0) (q0 := 0) rfl rfl)) rfl rfl hl.1 rfl (lv_room (Nat.le_of_ble_eq_true rfl)) dX1_onLine_16 ⟨Nat.zero_le _, Nat.zero_le _⟩) ?_
  refine lv_i2l hx hb dX1_onLine_19 rfl ?_
  refine lv_iload_n hx hb dX1_onLine_20 rfl (lv_at hl 0 rfl) ?_
  refine lv_i2l hx hb dX1_onLine_21 rfl ?_
  refine lv_lsub hx hb dX1_onLine_22 ?_
  refine lv_lstore (lv' := [(4, .long (((v_E r0 (j + 1)).toInt64) - ((v_E r0 j).toInt64))), (3, .int (v_E r0 j)), (0, .ref x), (1, .int (nI j)), (2, .int t)]) hx hb dX1_onLine_23 hl (by decide) rfl (fun ls hl => ?_)
  refine lv_lload hx hb dX1_onLine_25 (lv_at hl 0 rfl) ?_
  refine lv_lconst (v := 0) hx hb dX1_onLine_27 (by decide) ?_
  refine W.lcmp hx hb dX1_onLine_28 ?_
  refine lv_if_gt (tgt := 38) hx hb dX1_onLine_29 (by decide) (fun c_29 => ?_) (fun c_29 => ?_)
  · have c_29 := (lg_cmp_gt _ _).mp c_29
    refine lv_aload_n hx hb dX1_onLine_38 rfl (lv_at hl 2 rfl) ?_
    refine lv_iload_n hx hb dX1_onLine_39 rfl (lv_at hl 3 rfl) ?_
    refine lv_iconst (v := 1) hx hb dX1_onLine_40 (by decide) ?_
    refine lv_iadd hx hb dX1_onLine_41 ?_
    refine top_i (nI_add _ 1) ?_
    refine ro_call (va_runV (As := [.int (nI (j + 1))]) (rest := []) ⟨hx, hb, hml, hown, hts⟩ (c_X1_riseTo l x sq lt A0 A1 A2 hX r0 hk0 hR0 (j + 1) (by omega) (by omega)) (cwV 1 hts gX1_onLine_X1_riseTo rfl rfl rfl (by decide +kernel) ⟨Nat.le_of_ble_eq_true rfl, Nat.le_of_ble_eq_true rfl⟩) (ro_preV hK (va_recv hK hX (ci := 1) (q0 := 0) rfl rfl)) rfl rfl hl.1 rfl (lv_room (Nat.le_of_ble_eq_true rfl)) dX1_onLine_42 ⟨Nat.zero_le _, Nat.zero_le _⟩) ?_
    refine lv_iload_n hx hb dX1_onLine_45 rfl (lv_at hl 4 rfl) ?_
    refine lv_i2l hx hb dX1_onLine_46 rfl ?_
    refine lv_iload_n hx hb dX1_onLine_47 rfl (lv_at hl 1 rfl) ?_
    refine lv_i2l hx hb dX1_onLine_48 rfl ?_
    refine lv_lsub hx hb dX1_onLine_49 ?_
    refine lv_lmul hx hb dX1_onLine_50 ?_
    refine lv_lload hx hb dX1_onLine_51 (lv_at hl 0 rfl) ?_
    refine lv_ldiv hx hb dX1_onLine_53 (fun z => by rw [z] at c_29; exact absurd c_29 (by decide)) ?_
    refine lv_lstore (lv' := [(6, .long (((rz r0 (j + 1)) * (((t).toInt64) - ((v_E r0 j).toInt64))) / (((v_E r0 (j + 1)).toInt64) - ((v_E r0 j).toInt64)))), (4, .long (((v_E r0 (j + 1)).toInt64) - ((v_E r0 j).toInt64))), (3, .int (v_E r0 j)), (0, .ref x), (1, .int (nI j)), (2, .int t)]) hx hb dX1_onLine_54 hl (by decide) rfl (fun ls hl => ?_)
    refine lv_aload_n hx hb dX1_onLine_56 rfl (lv_at hl 3 rfl) ?_
    refine lv_iload_n hx hb dX1_onLine_57 rfl (lv_at hl 4 rfl) ?_
    refine ro_call (va_runV (As := [.int (nI j)]) (rest := []) ⟨hx, hb, hml, hown, hts⟩ (c_X1_valueOf l x sq lt A0 A1 A2 hX r0 hk0 hR0 j (by omega)) (cwV 1 hts gX1_onLine_X1_valueOf rfl rfl rfl (by decide +kernel) ⟨Nat.le_of_ble_eq_true rfl, Nat.le_of_ble_eq_true rfl⟩) (ro_preV hK (va_recv hK hX (ci := 1) (q0 := 0) rfl rfl)) rfl rfl hl.1 rfl (lv_room (Nat.le_of_ble_eq_true rfl)) dX1_onLine_58 ⟨Nat.zero_le _, Nat.zero_le _⟩) ?_
    refine lv_i2l hx hb dX1_onLine_61 rfl ?_
    refine lv_lload hx hb dX1_onLine_62 (lv_at hl 0 rfl) ?_
    refine lv_ladd hx hb dX1_onLine_64 ?_
    refine lv_l2i hx hb dX1_onLine_65 rfl ?_
    exact ro_iret hx hb hr (by unfold onl; rw [if_pos c_29]) dX1_onLine_66 hlocks
  · have c_29 := mt (lg_cmp_gt _ _).mpr c_29
    refine lv_aload_n hx hb dX1_onLine_32 rfl (lv_at hl 2 rfl) ?_
    refine lv_iload_n hx hb dX1_onLine_33 rfl (lv_at hl 3 rfl) ?_
    refine ro_call (va_runV (As := [.int (nI j)]) (rest := []) ⟨hx, hb, hml, hown, hts⟩ (c_X1_valueOf l x sq lt A0 A1 A2 hX r0 hk0 hR0 j (by omega)) (cwV 1 hts gX1_onLine_X1_valueOf rfl rfl rfl (by decide +kernel) ⟨Nat.le_of_ble_eq_true rfl, Nat.le_of_ble_eq_true rfl⟩) (ro_preV hK (va_recv hK hX (ci := 1) (q0 := 0) rfl rfl)) rfl rfl hl.1 rfl (lv_room (Nat.le_of_ble_eq_true rfl)) dX1_onLine_34 ⟨Nat.zero_le _, Nat.zero_le _⟩) ?_
    exact ro_iret hx hb hr (by unfold onl; rw [if_neg c_29]) dX1_onLine_37 hlocks
set_option maxHeartbeats 4000000 in
set_option maxRecDepth 100000 in
/-- ringOf(level) -/
theorem c_X1_ringOf_0 (l : Launch) {D : va_G} {cI cA cJ : ClassId} {H : Heap} (x sq : Nat) (lt : Int32) (A0 A1 A2 : rgA) (hX : va_P D vwCl (xW x sq lt A0 A1 A2) H) : Met l yX1_ringOf wsX1_ringOf ({ frames := 0, cells := 0, slots := 0, locals := 0 }) (ro_P D vwCl (tyL cI cA cJ) H [.ref x, .int 0]) (ro_Q (.ref (a_o A0)) H) 0 0 ro_no := by
  refine Met.ofW (cc := cX1_ringOf) (maxL := 2) (ret := (some (.object "RingSeries$Ring"))) (by decide) rfl ?_
  intro p e s m args below meth c s₁ B hml hv
  obtain ⟨rfl, hh, hK⟩ := hv
  subst hh
  have hx := B.exec
  have hb := B.bytes
  have hr := B.returns
  have hlocks := B.notSynchronized
  have hts := atoms_spec (ws := wsX1_ringOf) B.pre
  have hown : s.vm.findClass RX1 = some m.cls := findClass_of_methodNamed B.named
  have hi1 : ∀ w ∈ wsX10, w ∈ wsX1_ringOf := fun w h => List.mem_cons_of_mem _ (List.mem_append_right _ h)
  have hl := lv_entry ([.ref x, .int 0]) (n := 2) (Nat.le_of_ble_eq_true rfl)
  rw [lg_entry_eq]
  generalize (lg_sl ([.ref x, .int 0]) ++ List.replicate (2 - (lg_sl ([.ref x, .int 0])).length) Slot.unset).toArray = ls at hl ⊢
  have hl : lv_has ls 2 [(0, .ref x), (1, .int 0)] := hl
  refine lv_iload_n hx hb dX1_ringOf_0 rfl (lv_at hl 1 rfl) ?_
  refine lv_tableIn (off := 27) (tgt := 28) hx hb dX1_ringOf_1 (by decide) (by decide) (by decide) (by decide) ?_
  refine lv_aload_n hx hb dX1_ringOf_28 rfl (lv_at hl 0 rfl) ?_
  refine va_get (D := D) (ci := 1) (v := .ref (a_o A0)) (C := RX1) (T := TX1) (N := 5) hx hb hts hi1 hown hK hX 0 rfl rfl 0 (by decide) (hts (.fieldLink RX1 23 "RingSeries" "points" "LRingSeries$Ring;") (by decide +kernel)) (fun _ h9 => h9) rfl dX1_ringOf_29 ?_
  exact ro_aret hx hb hr (Or.inr ⟨_, rfl⟩) rfl dX1_ringOf_32 hlocks
set_option maxHeartbeats 4000000 in
set_option maxRecDepth 100000 in
/-- ringOf(level) -/
theorem c_X1_ringOf_1 (l : Launch) {D : va_G} {cI cA cJ : ClassId} {H : Heap} (x sq : Nat) (lt : Int32) (A0 A1 A2 : rgA) (hX : va_P D vwCl (xW x sq lt A0 A1 A2) H) : Met l yX1_ringOf wsX1_ringOf ({ frames := 0, cells := 0, slots := 0, locals := 0 }) (ro_P D vwCl (tyL cI cA cJ) H [.ref x, .int 1]) (ro_Q (.ref (a_o A1)) H) 0 0 ro_no := by
  refine Met.ofW (cc := cX1_ringOf) (maxL := 2) (ret := (some (.object "RingSeries$Ring"))) (by decide) rfl ?_
  intro p e s m args below meth c s₁ B hml hv
  obtain ⟨rfl, hh, hK⟩ := hv
  subst hh
  have hx := B.exec
  have hb := B.bytes
  have hr := B.returns
  have hlocks := B.notSynchronized
  have hts := atoms_spec (ws := wsX1_ringOf) B.pre
  have hown : s.vm.findClass RX1 = some m.cls := findClass_of_methodNamed B.named
  have hi1 : ∀ w ∈ wsX10, w ∈ wsX1_ringOf := fun w h => List.mem_cons_of_mem _ (List.mem_append_right _ h)
  have hl := lv_entry ([.ref x, .int 1]) (n := 2) (Nat.le_of_ble_eq_true rfl)
  rw [lg_entry_eq]
  generalize (lg_sl ([.ref x, .int 1]) ++ List.replicate (2 - (lg_sl ([.ref x, .int 1])).length) Slot.unset).toArray = ls at hl ⊢
  have hl : lv_has ls 2 [(0, .ref x), (1, .int 1)] := hl
  refine lv_iload_n hx hb dX1_ringOf_0 rfl (lv_at hl 1 rfl) ?_
  refine lv_tableIn (off := 32) (tgt := 33) hx hb dX1_ringOf_1 (by decide) (by decide) (by decide) (by decide) ?_
  refine lv_aload_n hx hb dX1_ringOf_33 rfl (lv_at hl 0 rfl) ?_
  refine va_get (D := D) (ci := 1) (v := .ref (a_o A1)) (C := RX1) (T := TX1) (N := 5) hx hb hts hi1 hown hK hX 0 rfl rfl 1 (by decide) (hts (.fieldLink RX1 27 "RingSeries" "fine" "LRingSeries$Ring;") (by decide +kernel)) (fun _ h9 => h9) rfl dX1_ringOf_34 ?_
  exact ro_aret hx hb hr (Or.inr ⟨_, rfl⟩) rfl dX1_ringOf_37 hlocks
set_option maxHeartbeats 4000000 in
set_option maxRecDepth 100000 in
/-- ringOf(level) -/
theorem c_X1_ringOf_2 (l : Launch) {D : va_G} {cI cA cJ : ClassId} {H : Heap} (x sq : Nat) (lt : Int32) (A0 A1 A2 : rgA) (hX : va_P D vwCl (xW x sq lt A0 A1 A2) H) : Met l yX1_ringOf wsX1_ringOf ({ frames := 0, cells := 0, slots := 0, locals := 0 }) (ro_P D vwCl (tyL cI cA cJ) H [.ref x, .int 2]) (ro_Q (.ref (a_o A2)) H) 0 0 ro_no := by
  refine Met.ofW (cc := cX1_ringOf) (maxL := 2) (ret := (some (.object "RingSeries$Ring"))) (by decide) rfl ?_
  intro p e s m args below meth c s₁ B hml hv
  obtain ⟨rfl, hh, hK⟩ := hv
  subst hh
  have hx := B.exec
  have hb := B.bytes
  have hr := B.returns
  have hlocks := B.notSynchronized
  have hts := atoms_spec (ws := wsX1_ringOf) B.pre
  have hown : s.vm.findClass RX1 = some m.cls := findClass_of_methodNamed B.named
  have hi1 : ∀ w ∈ wsX10, w ∈ wsX1_ringOf := fun w h => List.mem_cons_of_mem _ (List.mem_append_right _ h)
  have hl := lv_entry ([.ref x, .int 2]) (n := 2) (Nat.le_of_ble_eq_true rfl)
  rw [lg_entry_eq]
  generalize (lg_sl ([.ref x, .int 2]) ++ List.replicate (2 - (lg_sl ([.ref x, .int 2])).length) Slot.unset).toArray = ls at hl ⊢
  have hl : lv_has ls 2 [(0, .ref x), (1, .int 2)] := hl
  refine lv_iload_n hx hb dX1_ringOf_0 rfl (lv_at hl 1 rfl) ?_
  refine lv_tableIn (off := 37) (tgt := 38) hx hb dX1_ringOf_1 (by decide) (by decide) (by decide) (by decide) ?_
  refine lv_aload_n hx hb dX1_ringOf_38 rfl (lv_at hl 0 rfl) ?_
  refine va_get (D := D) (ci := 1) (v := .ref (a_o A2)) (C := RX1) (T := TX1) (N := 5) hx hb hts hi1 hown hK hX 0 rfl rfl 2 (by decide) (hts (.fieldLink RX1 30 "RingSeries" "coarse" "LRingSeries$Ring;") (by decide +kernel)) (fun _ h9 => h9) rfl dX1_ringOf_39 ?_
  exact ro_aret hx hb hr (Or.inr ⟨_, rfl⟩) rfl dX1_ringOf_42 hlocks
set_option maxHeartbeats 4000000 in
set_option maxRecDepth 100000 in
/-- ringOf(level) -/
theorem c_X1_ringOf_3 (l : Launch) {D : va_G} {cI cA cJ : ClassId} {H : Heap} (x sq : Nat) (lt : Int32) (A0 A1 A2 : rgA) (hX : va_P D vwCl (xW x sq lt A0 A1 A2) H) (v : Int32) (hn : ¬ ix 3 v) : Met l yX1_ringOf wsX1_ringOf ({ frames := 0, cells := 0, slots := 0, locals := 0 }) (ro_P D vwCl (tyL cI cA cJ) H [.ref x, .int v]) (ro_Q (.null) H) 0 0 ro_no := by
  refine Met.ofW (cc := cX1_ringOf) (maxL := 2) (ret := (some (.object "RingSeries$Ring"))) (by decide) rfl ?_
  intro p e s m args below meth c s₁ B hml hv
  obtain ⟨rfl, hh, hK⟩ := hv
  subst hh
  have hx := B.exec
  have hb := B.bytes
  have hr := B.returns
  have hlocks := B.notSynchronized
  have hts := atoms_spec (ws := wsX1_ringOf) B.pre
  have hown : s.vm.findClass RX1 = some m.cls := findClass_of_methodNamed B.named
  have hi1 : ∀ w ∈ wsX10, w ∈ wsX1_ringOf := fun w h => List.mem_cons_of_mem _ (List.mem_append_right _ h)
  have hl := lv_entry ([.ref x, .int v]) (n := 2) (Nat.le_of_ble_eq_true rfl)
  rw [lg_entry_eq]
  generalize (lg_sl ([.ref x, .int v]) ++ List.replicate (2 - (lg_sl ([.ref x, .int v])).length) Slot.unset).toArray = ls at hl ⊢
  have hl : lv_has ls 2 [(0, .ref x), (1, .int v)] := hl
  refine lv_iload_n hx hb dX1_ringOf_0 rfl (lv_at hl 1 rfl) ?_
  refine lv_tableOut (tgt := 43) hx hb dX1_ringOf_1 (nix3 hn) (by decide) ?_
  refine lv_null hx hb dX1_ringOf_43 ?_
  exact ro_aret hx hb hr (Or.inl rfl) rfl dX1_ringOf_44 hlocks
set_option maxHeartbeats 4000000 in
set_option maxRecDepth 100000 in
/-- count(level) -/
theorem c_X1_count_0 (l : Launch) {D : va_G} {cI cA cJ : ClassId} {H : Heap} (x sq : Nat) (lt : Int32) (A0 A1 A2 : rgA) (hX : va_P D vwCl (xW x sq lt A0 A1 A2) H) (r0 : rgV) (hk0 : r_ok r0) (hR0 : va_P D vwCl (rgW cI cA A0 r0) H) : Met l yX1_count wsX1_count ({ frames := 1, cells := 0, slots := 0, locals := 21 }) (ro_P D vwCl (tyL cI cA cJ) H [.ref x, .int 0]) (ro_Q (.int (nI (v_h r0))) H) 0 0 ro_no := by
  refine Met.ofW (cc := cX1_count) (maxL := 3) (ret := (some .int)) (by decide) rfl ?_
  intro p e s m args below meth c s₁ B hml hv
  obtain ⟨rfl, hh, hK⟩ := hv
  subst hh
  have hx := B.exec
  have hb := B.bytes
  have hr := B.returns
  have hlocks := B.notSynchronized
  have hts := atoms_spec (ws := wsX1_count) B.pre
  have hown : s.vm.findClass RX1 = some m.cls := findClass_of_methodNamed B.named
  have hi1 : ∀ w ∈ wsX10, w ∈ wsX1_count := fun w h => List.mem_cons_of_mem _ (List.mem_append_left _ (List.mem_append_right _ h))
  have hi0 : ∀ w ∈ wsX00, w ∈ wsX1_count := fun w h => List.mem_cons_of_mem _ (List.mem_append_right _ h)
  have hl := lv_entry ([.ref x, .int 0]) (n := 3) (Nat.le_of_ble_eq_true rfl)
  rw [lg_entry_eq]
  generalize (lg_sl ([.ref x, .int 0]) ++ List.replicate (3 - (lg_sl ([.ref x, .int 0])).length) Slot.unset).toArray = ls at hl ⊢
  have hl : lv_has ls 3 [(0, .ref x), (1, .int 0)] := hl
  obtain ⟨k10, k20, k30, k40, k50, k60⟩ := id hk0
  refine lv_aload_n hx hb dX1_count_0 rfl (lv_at hl 0 rfl) ?_
  refine lv_iload_n hx hb dX1_count_1 rfl (lv_at hl 1 rfl) ?_
  refine ro_call (va_runV (As := [.int 0]) (rest := []) ⟨hx, hb, hml, hown, hts⟩ (c_X1_ringOf_0 l x sq lt A0 A1 A2 hX) (cwV 1 hts gX1_count_X1_ringOf rfl rfl rfl (by decide +kernel) ⟨Nat.le_of_ble_eq_true rfl, Nat.le_of_ble_eq_true rfl⟩) (ro_preV hK (va_recv hK hX (ci := 1) (q0 := 0) rfl rfl)) rfl rfl hl.1 rfl (lv_room (Nat.le_of_ble_eq_true rfl)) dX1_count_2 ⟨Nat.zero_le _, Nat.zero_le _⟩) ?_
  refine lv_astore_n (lv' := [(2, .ref (a_o A0)), (0, .ref x), (1, .int 0)]) hx hb dX1_count_5 rfl hl (by decide) rfl (fun ls hl => ?_)
  refine lv_aload_n hx hb dX1_count_6 rfl (lv_at hl 0 rfl) ?_
  refine lv_ifnonnull (tgt := 14) hx hb dX1_count_7 (by decide) ?_
  refine lv_aload_n hx hb dX1_count_14 rfl (lv_at hl 0 rfl) ?_
  refine ro_call (va_runV (As := []) (rest := []) ⟨hx, hb, hml, hown, hts⟩ (c_X0_size l A0 r0 hk0 hR0) (cwV 0 hts gX1_count_X0_size rfl rfl rfl (by decide +kernel) ⟨Nat.le_of_ble_eq_true rfl, Nat.le_of_ble_eq_true rfl⟩) (ro_preV hK (va_recv hK hR0 (ci := 0) (q0 := 0) rfl rfl)) rfl rfl hl.1 rfl (lv_room (Nat.le_of_ble_eq_true rfl)) dX1_count_15 ⟨Nat.zero_le _, Nat.zero_le _⟩) ?_
  exact ro_iret hx hb hr rfl dX1_count_18 hlocks
set_option maxHeartbeats 4000000 in
set_option maxRecDepth 100000 in
/-- count(level) -/
theorem c_X1_count_1 (l : Launch) {D : va_G} {cI cA cJ : ClassId} {H : Heap} (x sq : Nat) (lt : Int32) (A0 A1 A2 : rgA) (hX : va_P D vwCl (xW x sq lt A0 A1 A2) H) (r1 : rgV) (hk1 : r_ok r1) (hR1 : va_P D vwCl (rgW cI cA A1 r1) H) : Met l yX1_count wsX1_count ({ frames := 1, cells := 0, slots := 0, locals := 21 }) (ro_P D vwCl (tyL cI cA cJ) H [.ref x, .int 1]) (ro_Q (.int (nI (v_h r1))) H) 0 0 ro_no := by
  refine Met.ofW (cc := cX1_count) (maxL := 3) (ret := (some .int)) (by decide) rfl ?_
  intro p e s m args below meth c s₁ B hml hv
  obtain ⟨rfl, hh, hK⟩ := hv
  subst hh
  have hx := B.exec
  have hb := B.bytes
  have hr := B.returns
  have hlocks := B.notSynchronized
  have hts := atoms_spec (ws := wsX1_count) B.pre
  have hown : s.vm.findClass RX1 = some m.cls := findClass_of_methodNamed B.named
  have hi1 : ∀ w ∈ wsX10, w ∈ wsX1_count := fun w h => List.mem_cons_of_mem _ (List.mem_append_left _ (List.mem_append_right _ h))
  have hi0 : ∀ w ∈ wsX00, w ∈ wsX1_count := fun w h => List.mem_cons_of_mem _ (List.mem_append_right _ h)
  have hl := lv_entry ([.ref x, .int 1]) (n := 3) (Nat.le_of_ble_eq_true rfl)
  rw [lg_entry_eq]
  generalize (lg_sl ([.ref x, .int 1]) ++ List.replicate (3 - (lg_sl ([.ref x, .int 1])).length) Slot.unset).toArray = ls at hl ⊢
  have hl : lv_has ls 3 [(0, .ref x), (1, .int 1)] := hl
  obtain ⟨k11, k21, k31, k41, k51, k61⟩ := id hk1
  refine lv_aload_n hx hb dX1_count_0 rfl (lv_at hl 0 rfl) ?_
  refine lv_iload_n hx hb dX1_count_1 rfl (lv_at hl 1 rfl) ?_
  refine ro_call (va_runV (As := [.int 1]) (rest := []) ⟨hx, hb, hml, hown, hts⟩ (c_X1_ringOf_1 l x sq lt A0 A1 A2 hX) (cwV 1 hts gX1_count_X1_ringOf rfl rfl rfl (by decide +kernel) ⟨Nat.le_of_ble_eq_true rfl, Nat.le_of_ble_eq_true rfl⟩) (ro_preV hK (va_recv hK hX (ci := 1) (q0 := 0) rfl rfl)) rfl rfl hl.1 rfl (lv_room (Nat.le_of_ble_eq_true rfl)) dX1_count_2 ⟨Nat.zero_le _, Nat.zero_le _⟩) ?_
  refine lv_astore_n (lv' := [(2, .ref (a_o A1)), (0, .ref x), (1, .int 1)]) hx hb dX1_count_5 rfl hl (by decide) rfl (fun ls hl => ?_)
  refine lv_aload_n hx hb dX1_count_6 rfl (lv_at hl 0 rfl) ?_
  refine lv_ifnonnull (tgt := 14) hx hb dX1_count_7 (by decide) ?_
  refine lv_aload_n hx hb dX1_count_14 rfl (lv_at hl 0 rfl) ?_
  refine ro_call (va_runV (As := []) (rest := []) ⟨hx, hb, hml, hown, hts⟩ (c_X0_size l A1 r1 hk1 hR1) (cwV 0 hts gX1_count_X0_size rfl rfl rfl (by decide +kernel) ⟨Nat.le_of_ble_eq_true rfl, Nat.le_of_ble_eq_true rfl⟩) (ro_preV hK (va_recv hK hR1 (ci := 0) (q0 := 0) rfl rfl)) rfl rfl hl.1 rfl (lv_room (Nat.le_of_ble_eq_true rfl)) dX1_count_15 ⟨Nat.zero_le _, Nat.zero_le _⟩) ?_
  exact ro_iret hx hb hr rfl dX1_count_18 hlocks
set_option maxHeartbeats 4000000 in
set_option maxRecDepth 100000 in
/-- count(level) -/
theorem c_X1_count_2 (l : Launch) {D : va_G} {cI cA cJ : ClassId} {H : Heap} (x sq : Nat) (lt : Int32) (A0 A1 A2 : rgA) (hX : va_P D vwCl (xW x sq lt A0 A1 A2) H) (r2 : rgV) (hk2 : r_ok r2) (hR2 : va_P D vwCl (rgW cI cA A2 r2) H) : Met l yX1_count wsX1_count ({ frames := 1, cells := 0, slots := 0, locals := 21 }) (ro_P D vwCl (tyL cI cA cJ) H [.ref x, .int 2]) (ro_Q (.int (nI (v_h r2))) H) 0 0 ro_no := by
  refine Met.ofW (cc := cX1_count) (maxL := 3) (ret := (some .int)) (by decide) rfl ?_
  intro p e s m args below meth c s₁ B hml hv
  obtain ⟨rfl, hh, hK⟩ := hv
  subst hh
  have hx := B.exec
  have hb := B.bytes
  have hr := B.returns
  have hlocks := B.notSynchronized
  have hts := atoms_spec (ws := wsX1_count) B.pre
  have hown : s.vm.findClass RX1 = some m.cls := findClass_of_methodNamed B.named
  have hi1 : ∀ w ∈ wsX10, w ∈ wsX1_count := fun w h => List.mem_cons_of_mem _ (List.mem_append_left _ (List.mem_append_right _ h))
  have hi0 : ∀ w ∈ wsX00, w ∈ wsX1_count := fun w h => List.mem_cons_of_mem _ (List.mem_append_right _ h)
  have hl := lv_entry ([.ref x, .int 2]) (n := 3) (Nat.le_of_ble_eq_true rfl)
  rw [lg_entry_eq]
  generalize (lg_sl ([.ref x, .int 2]) ++ List.replicate (3 - (lg_sl ([.ref x, .int 2])).length) Slot.unset).toArray = ls at hl ⊢
  have hl : lv_has ls 3 [(0, .ref x), (1, .int 2)] := hl
  obtain ⟨k12, k22, k32, k42, k52, k62⟩ := id hk2
  refine lv_aload_n hx hb dX1_count_0 rfl (lv_at hl 0 rfl) ?_
  refine lv_iload_n hx hb dX1_count_1 rfl (lv_at hl 1 rfl) ?_
  refine ro_call (va_runV (As := [.int 2]) (rest := []) ⟨hx, hb, hml, hown, hts⟩ (c_X1_ringOf_2 l x sq lt A0 A1 A2 hX) (cwV 1 hts gX1_count_X1_ringOf rfl rfl rfl (by decide +kernel) ⟨Nat.le_of_ble_eq_true rfl, Nat.le_of_ble_eq_true rfl⟩) (ro_preV hK (va_recv hK hX (ci := 1) (q0 := 0) rfl rfl)) rfl rfl hl.1 rfl (lv_room (Nat.le_of_ble_eq_true rfl)) dX1_count_2 ⟨Nat.zero_le _, Nat.zero_le _⟩) ?_
  refine lv_astore_n (lv' := [(2, .ref (a_o A2)), (0, .ref x), (1, .int 2)]) hx hb dX1_count_5 rfl hl (by decide) rfl (fun ls hl => ?_)
  refine lv_aload_n hx hb dX1_count_6 rfl (lv_at hl 0 rfl) ?_
  refine lv_ifnonnull (tgt := 14) hx hb dX1_count_7 (by decide) ?_
  refine lv_aload_n hx hb dX1_count_14 rfl (lv_at hl 0 rfl) ?_
  refine ro_call (va_runV (As := []) (rest := []) ⟨hx, hb, hml, hown, hts⟩ (c_X0_size l A2 r2 hk2 hR2) (cwV 0 hts gX1_count_X0_size rfl rfl rfl (by decide +kernel) ⟨Nat.le_of_ble_eq_true rfl, Nat.le_of_ble_eq_true rfl⟩) (ro_preV hK (va_recv hK hR2 (ci := 0) (q0 := 0) rfl rfl)) rfl rfl hl.1 rfl (lv_room (Nat.le_of_ble_eq_true rfl)) dX1_count_15 ⟨Nat.zero_le _, Nat.zero_le _⟩) ?_
  exact ro_iret hx hb hr rfl dX1_count_18 hlocks
set_option maxHeartbeats 4000000 in
set_option maxRecDepth 100000 in
/-- count(level) -/
theorem c_X1_count_3 (l : Launch) {D : va_G} {cI cA cJ : ClassId} {H : Heap} (x sq : Nat) (lt : Int32) (A0 A1 A2 : rgA) (hX : va_P D vwCl (xW x sq lt A0 A1 A2) H) (v : Int32) (hn : ¬ ix 3 v) : Met l yX1_count wsX1_count ({ frames := 1, cells := 0, slots := 0, locals := 21 }) (ro_P D vwCl (tyL cI cA cJ) H [.ref x, .int v]) (ro_Q (.int (-1)) H) 0 0 ro_no := by
  refine Met.ofW (cc := cX1_count) (maxL := 3) (ret := (some .int)) (by decide) rfl ?_
  intro p e s m args below meth c s₁ B hml hv
  obtain ⟨rfl, hh, hK⟩ := hv
  subst hh
  have hx := B.exec
  have hb := B.bytes
  have hr := B.returns
  have hlocks := B.notSynchronized
  have hts := atoms_spec (ws := wsX1_count) B.pre
  have hown : s.vm.findClass RX1 = some m.cls := findClass_of_methodNamed B.named
  have hi1 : ∀ w ∈ wsX10, w ∈ wsX1_count := fun w h => List.mem_cons_of_mem _ (List.mem_append_left _ (List.mem_append_right _ h))
  have hi0 : ∀ w ∈ wsX00, w ∈ wsX1_count := fun w h => List.mem_cons_of_mem _ (List.mem_append_right _ h)
  have hl := lv_entry ([.ref x, .int v]) (n := 3) (Nat.le_of_ble_eq_true rfl)
  rw [lg_entry_eq]
  generalize (lg_sl ([.ref x, .int v]) ++ List.replicate (3 - (lg_sl ([.ref x, .int v])).length) Slot.unset).toArray = ls at hl ⊢
  have hl : lv_has ls 3 [(0, .ref x), (1, .int v)] := hl
  refine lv_aload_n hx hb dX1_count_0 rfl (lv_at hl 0 rfl) ?_
  refine lv_iload_n hx hb dX1_count_1 rfl (lv_at hl 1 rfl) ?_
  refine ro_call (va_runV (As := [.int v]) (rest := []) ⟨hx, hb, hml, hown, hts⟩ (c_X1_ringOf_3 l x sq lt A0 A1 A2 hX v hn) (cwV 1 hts gX1_count_X1_ringOf rfl rfl rfl (by decide +kernel) ⟨Nat.le_of_ble_eq_true rfl, Nat.le_of_ble_eq_true rfl⟩) (ro_preV hK (va_recv hK hX (ci := 1) (q0 := 0) rfl rfl)) rfl rfl hl.1 rfl (lv_room (Nat.le_of_ble_eq_true rfl)) dX1_count_2 ⟨Nat.zero_le _, Nat.zero_le _⟩) ?_
  refine lv_astore_nN (lv' := [(2, .null), (0, .ref x), (1, .int v)]) hx hb dX1_count_5 rfl hl (by decide) rfl (fun ls hl => ?_)
  refine lv_aload_nN hx hb dX1_count_6 rfl (lv_at hl 0 rfl) ?_
  refine lv_ifnonnullN hx hb dX1_count_7 ?_
  refine lv_iconst (v := (-1)) hx hb dX1_count_10 (by decide) ?_
  refine lv_goto (tgt := 18) hx hb dX1_count_11 (by decide) ?_
  exact ro_iret hx hb hr rfl dX1_count_18 hlocks
set_option maxHeartbeats 4000000 in
set_option maxRecDepth 100000 in
/-- start(level, i) -/
theorem c_X1_start_0 (l : Launch) {D : va_G} {cI cA cJ : ClassId} {H : Heap} (x sq : Nat) (lt : Int32) (A0 A1 A2 : rgA) (hX : va_P D vwCl (xW x sq lt A0 A1 A2) H) (r0 : rgV) (hk0 : r_ok r0) (hR0 : va_P D vwCl (rgW cI cA A0 r0) H) (j : Nat) (hj : j < v_h r0) : Met l yX1_start wsX1_start ({ frames := 2, cells := 0, slots := 0, locals := 43 }) (ro_P D vwCl (tyL cI cA cJ) H [.ref x, .int 0, .int (nI j)]) (ro_Q (.int (v_E r0 j)) H) 0 0 ro_no := by
  refine Met.ofW (cc := cX1_start) (maxL := 4) (ret := (some .int)) (by decide) rfl ?_
  intro p e s m args below meth c s₁ B hml hv
  obtain ⟨rfl, hh, hK⟩ := hv
  subst hh
  have hx := B.exec
  have hb := B.bytes
  have hr := B.returns
  have hlocks := B.notSynchronized
  have hts := atoms_spec (ws := wsX1_start) B.pre
  have hown : s.vm.findClass RX1 = some m.cls := findClass_of_methodNamed B.named
  have hi1 : ∀ w ∈ wsX10, w ∈ wsX1_start := fun w h => List.mem_cons_of_mem _ (List.mem_append_left _ (List.mem_append_right _ h))
  have hi0 : ∀ w ∈ wsX00, w ∈ wsX1_start := fun w h => List.mem_cons_of_mem _ (List.mem_append_right _ h)
  have hl := lv_entry ([.ref x, .int 0, .int (nI j)]) (n := 4) (Nat.le_of_ble_eq_true rfl)
  rw [lg_entry_eq]
  generalize (lg_sl ([.ref x, .int 0, .int (nI j)]) ++ List.replicate (4 - (lg_sl ([.ref x, .int 0, .int (nI j)])).length) Slot.unset).toArray = ls at hl ⊢
  have hl : lv_has ls 4 [(0, .ref x), (1, .int 0), (2, .int (nI j))] := hl
  obtain ⟨k10, k20, k30, k40, k50, k60⟩ := id hk0
  refine lv_aload_n hx hb dX1_start_0 rfl (lv_at hl 0 rfl) ?_
  refine lv_iload_n hx hb dX1_start_1 rfl (lv_at hl 1 rfl) ?_
  refine ro_call (va_runV (As := [.int 0]) (rest := []) ⟨hx, hb, hml, hown, hts⟩ (c_X1_ringOf_0 l x sq lt A0 A1 A2 hX) (cwV 1 hts gX1_start_X1_ringOf rfl rfl rfl (by decide +kernel) ⟨Nat.le_of_ble_eq_true rfl, Nat.le_of_ble_eq_true rfl⟩) (ro_preV hK (va_recv hK hX (ci := 1) (q0 := 0) rfl rfl)) rfl rfl hl.1 rfl (lv_room (Nat.le_of_ble_eq_true rfl)) dX1_start_2 ⟨Nat.zero_le _, Nat.zero_le _⟩) ?_
  refine lv_astore_n (lv' := [(3, .ref (a_o A0)), (0, .ref x), (1, .int 0), (2, .int (nI j))]) hx hb dX1_start_5 rfl hl (by decide) rfl (fun ls hl => ?_)
  refine lv_aload_n hx hb dX1_start_6 rfl (lv_at hl 0 rfl) ?_
  refine lv_ifnonnull (tgt := 14) hx hb dX1_start_7 (by decide) ?_
  refine lv_aload_n hx hb dX1_start_14 rfl (lv_at hl 0 rfl) ?_
  refine lv_iload_n hx hb dX1_start_15 rfl (lv_at hl 3 rfl) ?_
  refine ro_call (va_runV (As := [.int (nI j)]) (rest := []) ⟨hx, hb, hml, hown, hts⟩ (c_X0_startOf l A0 r0 hk0 hR0 j (by omega)) (cwV 1 hts gX1_start_X0_startOf rfl rfl rfl (by decide +kernel) ⟨Nat.le_of_ble_eq_true rfl, Nat.le_of_ble_eq_true rfl⟩) (ro_preV hK (va_recv hK hR0 (ci := 0) (q0 := 0) rfl rfl)) rfl rfl hl.1 rfl (lv_room (Nat.le_of_ble_eq_true rfl)) dX1_start_16 ⟨Nat.zero_le _, Nat.zero_le _⟩) ?_
  exact ro_iret hx hb hr rfl dX1_start_19 hlocks
set_option maxHeartbeats 4000000 in
set_option maxRecDepth 100000 in
/-- start(level, i) -/
theorem c_X1_start_0_n (l : Launch) {D : va_G} {cI cA cJ : ClassId} {H : Heap} (x sq : Nat) (lt : Int32) (A0 A1 A2 : rgA) (hX : va_P D vwCl (xW x sq lt A0 A1 A2) H) (r0 : rgV) (hk0 : r_ok r0) (hR0 : va_P D vwCl (rgW cI cA A0 r0) H) (i : Int32) (hi : ¬ ix (v_h r0) i) : Met l yX1_start wsX1_start ({ frames := 2, cells := 0, slots := 0, locals := 43 }) (ro_P D vwCl (tyL cI cA cJ) H [.ref x, .int 0, .int i]) (ro_Q (.int (-1)) H) 0 0 ro_no := by
  refine Met.ofW (cc := cX1_start) (maxL := 4) (ret := (some .int)) (by decide) rfl ?_
  intro p e s m args below meth c s₁ B hml hv
  obtain ⟨rfl, hh, hK⟩ := hv
  subst hh
  have hx := B.exec
  have hb := B.bytes
  have hr := B.returns
  have hlocks := B.notSynchronized
  have hts := atoms_spec (ws := wsX1_start) B.pre
  have hown : s.vm.findClass RX1 = some m.cls := findClass_of_methodNamed B.named
  have hi1 : ∀ w ∈ wsX10, w ∈ wsX1_start := fun w h => List.mem_cons_of_mem _ (List.mem_append_left _ (List.mem_append_right _ h))
  have hi0 : ∀ w ∈ wsX00, w ∈ wsX1_start := fun w h => List.mem_cons_of_mem _ (List.mem_append_right _ h)
  have hl := lv_entry ([.ref x, .int 0, .int i]) (n := 4) (Nat.le_of_ble_eq_true rfl)
  rw [lg_entry_eq]
  generalize (lg_sl ([.ref x, .int 0, .int i]) ++ List.replicate (4 - (lg_sl ([.ref x, .int 0, .int i])).length) Slot.unset).toArray = ls at hl ⊢
  have hl : lv_has ls 4 [(0, .ref x), (1, .int 0), (2, .int i)] := hl
  obtain ⟨k10, k20, k30, k40, k50, k60⟩ := id hk0
  refine lv_aload_n hx hb dX1_start_0 rfl (lv_at hl 0 rfl) ?_
  refine lv_iload_n hx hb dX1_start_1 rfl (lv_at hl 1 rfl) ?_
  refine ro_call (va_runV (As := [.int 0]) (rest := []) ⟨hx, hb, hml, hown, hts⟩ (c_X1_ringOf_0 l x sq lt A0 A1 A2 hX) (cwV 1 hts gX1_start_X1_ringOf rfl rfl rfl (by decide +kernel) ⟨Nat.le_of_ble_eq_true rfl, Nat.le_of_ble_eq_true rfl⟩) (ro_preV hK (va_recv hK hX (ci := 1) (q0 := 0) rfl rfl)) rfl rfl hl.1 rfl (lv_room (Nat.le_of_ble_eq_true rfl)) dX1_start_2 ⟨Nat.zero_le _, Nat.zero_le _⟩) ?_
  refine lv_astore_n (lv' := [(3, .ref (a_o A0)), (0, .ref x), (1, .int 0), (2, .int i)]) hx hb dX1_start_5 rfl hl (by decide) rfl (fun ls hl => ?_)
  refine lv_aload_n hx hb dX1_start_6 rfl (lv_at hl 0 rfl) ?_
  refine lv_ifnonnull (tgt := 14) hx hb dX1_start_7 (by decide) ?_
  refine lv_aload_n hx hb dX1_start_14 rfl (lv_at hl 0 rfl) ?_
  refine lv_iload_n hx hb dX1_start_15 rfl (lv_at hl 3 rfl) ?_
  refine ro_call (va_runV (As := [.int i]) (rest := []) ⟨hx, hb, hml, hown, hts⟩ (c_X0_startOf_n l A0 r0 hk0 hR0 i hi) (cwV 1 hts gX1_start_X0_startOf rfl rfl rfl (by decide +kernel) ⟨Nat.le_of_ble_eq_true rfl, Nat.le_of_ble_eq_true rfl⟩) (ro_preV hK (va_recv hK hR0 (ci := 0) (q0 := 0) rfl rfl)) rfl rfl hl.1 rfl (lv_room (Nat.le_of_ble_eq_true rfl)) dX1_start_16 ⟨Nat.zero_le _, Nat.zero_le _⟩) ?_
  exact ro_iret hx hb hr rfl dX1_start_19 hlocks
set_option maxHeartbeats 4000000 in
set_option maxRecDepth 100000 in
/-- start(level, i) -/
theorem c_X1_start_1 (l : Launch) {D : va_G} {cI cA cJ : ClassId} {H : Heap} (x sq : Nat) (lt : Int32) (A0 A1 A2 : rgA) (hX : va_P D vwCl (xW x sq lt A0 A1 A2) H) (r1 : rgV) (hk1 : r_ok r1) (hR1 : va_P D vwCl (rgW cI cA A1 r1) H) (j : Nat) (hj : j < v_h r1) : Met l yX1_start wsX1_start ({ frames := 2, cells := 0, slots := 0, locals := 43 }) (ro_P D vwCl (tyL cI cA cJ) H [.ref x, .int 1, .int (nI j)]) (ro_Q (.int (v_E r1 j)) H) 0 0 ro_no := by
  refine Met.ofW (cc := cX1_start) (maxL := 4) (ret := (some .int)) (by decide) rfl ?_
  intro p e s m args below meth c s₁ B hml hv
  obtain ⟨rfl, hh, hK⟩ := hv
  subst hh
  have hx := B.exec
  have hb := B.bytes
  have hr := B.returns
  have hlocks := B.notSynchronized
  have hts := atoms_spec (ws := wsX1_start) B.pre
  have hown : s.vm.findClass RX1 = some m.cls := findClass_of_methodNamed B.named
  have hi1 : ∀ w ∈ wsX10, w ∈ wsX1_start := fun w h => List.mem_cons_of_mem _ (List.mem_append_left _ (List.mem_append_right _ h))
  have hi0 : ∀ w ∈ wsX00, w ∈ wsX1_start := fun w h => List.mem_cons_of_mem _ (List.mem_append_right _ h)
  have hl := lv_entry ([.ref x, .int 1, .int (nI j)]) (n := 4) (Nat.le_of_ble_eq_true rfl)
  rw [lg_entry_eq]
  generalize (lg_sl ([.ref x, .int 1, .int (nI j)]) ++ List.replicate (4 - (lg_sl ([.ref x, .int 1, .int (nI j)])).length) Slot.unset).toArray = ls at hl ⊢
  have hl : lv_has ls 4 [(0, .ref x), (1, .int 1), (2, .int (nI j))] := hl
  obtain ⟨k11, k21, k31, k41, k51, k61⟩ := id hk1
  refine lv_aload_n hx hb dX1_start_0 rfl (lv_at hl 0 rfl) ?_
  refine lv_iload_n hx hb dX1_start_1 rfl (lv_at hl 1 rfl) ?_
  refine ro_call (va_runV (As := [.int 1]) (rest := []) ⟨hx, hb, hml, hown, hts⟩ (c_X1_ringOf_1 l x sq lt A0 A1 A2 hX) (cwV 1 hts gX1_start_X1_ringOf rfl rfl rfl (by decide +kernel) ⟨Nat.le_of_ble_eq_true rfl, Nat.le_of_ble_eq_true rfl⟩) (ro_preV hK (va_recv hK hX (ci := 1) (q0 := 0) rfl rfl)) rfl rfl hl.1 rfl (lv_room (Nat.le_of_ble_eq_true rfl)) dX1_start_2 ⟨Nat.zero_le _, Nat.zero_le _⟩) ?_
  refine lv_astore_n (lv' := [(3, .ref (a_o A1)), (0, .ref x), (1, .int 1), (2, .int (nI j))]) hx hb dX1_start_5 rfl hl (by decide) rfl (fun ls hl => ?_)
  refine lv_aload_n hx hb dX1_start_6 rfl (lv_at hl 0 rfl) ?_
  refine lv_ifnonnull (tgt := 14) hx hb dX1_start_7 (by decide) ?_
  refine lv_aload_n hx hb dX1_start_14 rfl (lv_at hl 0 rfl) ?_
  refine lv_iload_n hx hb dX1_start_15 rfl (lv_at hl 3 rfl) ?_
  refine ro_call (va_runV (As := [.int (nI j)]) (rest := []) ⟨hx, hb, hml, hown, hts⟩ (c_X0_startOf l A1 r1 hk1 hR1 j (by omega)) (cwV 1 hts gX1_start_X0_startOf rfl rfl rfl (by decide +kernel) ⟨Nat.le_of_ble_eq_true rfl, Nat.le_of_ble_eq_true rfl⟩) (ro_preV hK (va_recv hK hR1 (ci := 0) (q0 := 0) rfl rfl)) rfl rfl hl.1 rfl (lv_room (Nat.le_of_ble_eq_true rfl)) dX1_start_16 ⟨Nat.zero_le _, Nat.zero_le _⟩) ?_
  exact ro_iret hx hb hr rfl dX1_start_19 hlocks
set_option maxHeartbeats 4000000 in
set_option maxRecDepth 100000 in
/-- start(level, i) -/
theorem c_X1_start_1_n (l : Launch) {D : va_G} {cI cA cJ : ClassId} {H : Heap} (x sq : Nat) (lt : Int32) (A0 A1 A2 : rgA) (hX : va_P D vwCl (xW x sq lt A0 A1 A2) H) (r1 : rgV) (hk1 : r_ok r1) (hR1 : va_P D vwCl (rgW cI cA A1 r1) H) (i : Int32) (hi : ¬ ix (v_h r1) i) : Met l yX1_start wsX1_start ({ frames := 2, cells := 0, slots := 0, locals := 43 }) (ro_P D vwCl (tyL cI cA cJ) H [.ref x, .int 1, .int i]) (ro_Q (.int (-1)) H) 0 0 ro_no := by
  refine Met.ofW (cc := cX1_start) (maxL := 4) (ret := (some .int)) (by decide) rfl ?_
  intro p e s m args below meth c s₁ B hml hv
  obtain ⟨rfl, hh, hK⟩ := hv
  subst hh
  have hx := B.exec
  have hb := B.bytes
  have hr := B.returns
  have hlocks := B.notSynchronized
  have hts := atoms_spec (ws := wsX1_start) B.pre
  have hown : s.vm.findClass RX1 = some m.cls := findClass_of_methodNamed B.named
  have hi1 : ∀ w ∈ wsX10, w ∈ wsX1_start := fun w h => List.mem_cons_of_mem _ (List.mem_append_left _ (List.mem_append_right _ h))
  have hi0 : ∀ w ∈ wsX00, w ∈ wsX1_start := fun w h => List.mem_cons_of_mem _ (List.mem_append_right _ h)
  have hl := lv_entry ([.ref x, .int 1, .int i]) (n := 4) (Nat.le_of_ble_eq_true rfl)
  rw [lg_entry_eq]
  generalize (lg_sl ([.ref x, .int 1, .int i]) ++ List.replicate (4 - (lg_sl ([.ref x, .int 1, .int i])).length) Slot.unset).toArray = ls at hl ⊢
  have hl : lv_has ls 4 [(0, .ref x), (1, .int 1), (2, .int i)] := hl
  obtain ⟨k11, k21, k31, k41, k51, k61⟩ := id hk1
  refine lv_aload_n hx hb dX1_start_0 rfl (lv_at hl 0 rfl) ?_
  refine lv_iload_n hx hb dX1_start_1 rfl (lv_at hl 1 rfl) ?_
  refine ro_call (va_runV (As := [.int 1]) (rest := []) ⟨hx, hb, hml, hown, hts⟩ (c_X1_ringOf_1 l x sq lt A0 A1 A2 hX) (cwV 1 hts gX1_start_X1_ringOf rfl rfl rfl (by decide +kernel) ⟨Nat.le_of_ble_eq_true rfl, Nat.le_of_ble_eq_true rfl⟩) (ro_preV hK (va_recv hK hX (ci := 1) (q0 := 0) rfl rfl)) rfl rfl hl.1 rfl (lv_room (Nat.le_of_ble_eq_true rfl)) dX1_start_2 ⟨Nat.zero_le _, Nat.zero_le _⟩) ?_
  refine lv_astore_n (lv' := [(3, .ref (a_o A1)), (0, .ref x), (1, .int 1), (2, .int i)]) hx hb dX1_start_5 rfl hl (by decide) rfl (fun ls hl => ?_)
  refine lv_aload_n hx hb dX1_start_6 rfl (lv_at hl 0 rfl) ?_
  refine lv_ifnonnull (tgt := 14) hx hb dX1_start_7 (by decide) ?_
  refine lv_aload_n hx hb dX1_start_14 rfl (lv_at hl 0 rfl) ?_
  refine lv_iload_n hx hb dX1_start_15 rfl (lv_at hl 3 rfl) ?_
  refine ro_call (va_runV (As := [.int i]) (rest := []) ⟨hx, hb, hml, hown, hts⟩ (c_X0_startOf_n l A1 r1 hk1 hR1 i hi) (cwV 1 hts gX1_start_X0_startOf rfl rfl rfl (by decide +kernel) ⟨Nat.le_of_ble_eq_true rfl, Nat.le_of_ble_eq_true rfl⟩) (ro_preV hK (va_recv hK hR1 (ci := 0) (q0 := 0) rfl rfl)) rfl rfl hl.1 rfl (lv_room (Nat.le_of_ble_eq_true rfl)) dX1_start_16 ⟨Nat.zero_le _, Nat.zero_le _⟩) ?_
  exact ro_iret hx hb hr rfl dX1_start_19 hlocks
set_option maxHeartbeats 4000000 in
set_option maxRecDepth 100000 in
/-- start(level, i) -/
theorem c_X1_start_2 (l : Launch) {D : va_G} {cI cA cJ : ClassId} {H : Heap} (x sq : Nat) (lt : Int32) (A0 A1 A2 : rgA) (hX : va_P D vwCl (xW x sq lt A0 A1 A2) H) (r2 : rgV) (hk2 : r_ok r2) (hR2 : va_P D vwCl (rgW cI cA A2 r2) H) (j : Nat) (hj : j < v_h r2) : Met l yX1_start wsX1_start ({ frames := 2, cells := 0, slots := 0, locals := 43 }) (ro_P D vwCl (tyL cI cA cJ) H [.ref x, .int 2, .int (nI j)]) (ro_Q (.int (v_E r2 j)) H) 0 0 ro_no := by
  refine Met.ofW (cc := cX1_start) (maxL := 4) (ret := (some .int)) (by decide) rfl ?_
  intro p e s m args below meth c s₁ B hml hv
  obtain ⟨rfl, hh, hK⟩ := hv
  subst hh
  have hx := B.exec
  have hb := B.bytes
  have hr := B.returns
  have hlocks := B.notSynchronized
  have hts := atoms_spec (ws := wsX1_start) B.pre
  have hown : s.vm.findClass RX1 = some m.cls := findClass_of_methodNamed B.named
  have hi1 : ∀ w ∈ wsX10, w ∈ wsX1_start := fun w h => List.mem_cons_of_mem _ (List.mem_append_left _ (List.mem_append_right _ h))
  have hi0 : ∀ w ∈ wsX00, w ∈ wsX1_start := fun w h => List.mem_cons_of_mem _ (List.mem_append_right _ h)
  have hl := lv_entry ([.ref x, .int 2, .int (nI j)]) (n := 4) (Nat.le_of_ble_eq_true rfl)
  rw [lg_entry_eq]
  generalize (lg_sl ([.ref x, .int 2, .int (nI j)]) ++ List.replicate (4 - (lg_sl ([.ref x, .int 2, .int (nI j)])).length) Slot.unset).toArray = ls at hl ⊢
  have hl : lv_has ls 4 [(0, .ref x), (1, .int 2), (2, .int (nI j))] := hl
  obtain ⟨k12, k22, k32, k42, k52, k62⟩ := id hk2
  refine lv_aload_n hx hb dX1_start_0 rfl (lv_at hl 0 rfl) ?_
  refine lv_iload_n hx hb dX1_start_1 rfl (lv_at hl 1 rfl) ?_
  refine ro_call (va_runV (As := [.int 2]) (rest := []) ⟨hx, hb, hml, hown, hts⟩ (c_X1_ringOf_2 l x sq lt A0 A1 A2 hX) (cwV 1 hts gX1_start_X1_ringOf rfl rfl rfl (by decide +kernel) ⟨Nat.le_of_ble_eq_true rfl, Nat.le_of_ble_eq_true rfl⟩) (ro_preV hK (va_recv hK hX (ci := 1) (q0 := 0) rfl rfl)) rfl rfl hl.1 rfl (lv_room (Nat.le_of_ble_eq_true rfl)) dX1_start_2 ⟨Nat.zero_le _, Nat.zero_le _⟩) ?_
  refine lv_astore_n (lv' := [(3, .ref (a_o A2)), (0, .ref x), (1, .int 2), (2, .int (nI j))]) hx hb dX1_start_5 rfl hl (by decide) rfl (fun ls hl => ?_)
  refine lv_aload_n hx hb dX1_start_6 rfl (lv_at hl 0 rfl) ?_
  refine lv_ifnonnull (tgt := 14) hx hb dX1_start_7 (by decide) ?_
  refine lv_aload_n hx hb dX1_start_14 rfl (lv_at hl 0 rfl) ?_
  refine lv_iload_n hx hb dX1_start_15 rfl (lv_at hl 3 rfl) ?_
  refine ro_call (va_runV (As := [.int (nI j)]) (rest := []) ⟨hx, hb, hml, hown, hts⟩ (c_X0_startOf l A2 r2 hk2 hR2 j (by omega)) (cwV 1 hts gX1_start_X0_startOf rfl rfl rfl (by decide +kernel) ⟨Nat.le_of_ble_eq_true rfl, Nat.le_of_ble_eq_true rfl⟩) (ro_preV hK (va_recv hK hR2 (ci := 0) (q0 := 0) rfl rfl)) rfl rfl hl.1 rfl (lv_room (Nat.le_of_ble_eq_true rfl)) dX1_start_16 ⟨Nat.zero_le _, Nat.zero_le _⟩) ?_
  exact ro_iret hx hb hr rfl dX1_start_19 hlocks
set_option maxHeartbeats 4000000 in
set_option maxRecDepth 100000 in
/-- start(level, i) -/
theorem c_X1_start_2_n (l : Launch) {D : va_G} {cI cA cJ : ClassId} {H : Heap} (x sq : Nat) (lt : Int32) (A0 A1 A2 : rgA) (hX : va_P D vwCl (xW x sq lt A0 A1 A2) H) (r2 : rgV) (hk2 : r_ok r2) (hR2 : va_P D vwCl (rgW cI cA A2 r2) H) (i : Int32) (hi : ¬ ix (v_h r2) i) : Met l yX1_start wsX1_start ({ frames := 2, cells := 0, slots := 0, locals := 43 }) (ro_P D vwCl (tyL cI cA cJ) H [.ref x, .int 2, .int i]) (ro_Q (.int (-1)) H) 0 0 ro_no := by
  refine Met.ofW (cc := cX1_start) (maxL := 4) (ret := (some .int)) (by decide) rfl ?_
  intro p e s m args below meth c s₁ B hml hv
  obtain ⟨rfl, hh, hK⟩ := hv
  subst hh
  have hx := B.exec
  have hb := B.bytes
  have hr := B.returns
  have hlocks := B.notSynchronized
  have hts := atoms_spec (ws := wsX1_start) B.pre
  have hown : s.vm.findClass RX1 = some m.cls := findClass_of_methodNamed B.named
  have hi1 : ∀ w ∈ wsX10, w ∈ wsX1_start := fun w h => List.mem_cons_of_mem _ (List.mem_append_left _ (List.mem_append_right _ h))
  have hi0 : ∀ w ∈ wsX00, w ∈ wsX1_start := fun w h => List.mem_cons_of_mem _ (List.mem_append_right _ h)
  have hl := lv_entry ([.ref x, .int 2, .int i]) (n := 4) (Nat.le_of_ble_eq_true rfl)
  rw [lg_entry_eq]
  generalize (lg_sl ([.ref x, .int 2, .int i]) ++ List.replicate (4 - (lg_sl ([.ref x, .int 2, .int i])).length) Slot.unset).toArray = ls at hl ⊢
  have hl : lv_has ls 4 [(0, .ref x), (1, .int 2), (2, .int i)] := hl
  obtain ⟨k12, k22, k32, k42, k52, k62⟩ := id hk2
  refine lv_aload_n hx hb dX1_start_0 rfl (lv_at hl 0 rfl) ?_
  refine lv_iload_n hx hb dX1_start_1 rfl (lv_at hl 1 rfl) ?_
  refine ro_call (va_runV (As := [.int 2]) (rest := []) ⟨hx, hb, hml, hown, hts⟩ (c_X1_ringOf_2 l x sq lt A0 A1 A2 hX) (cwV 1 hts gX1_start_X1_ringOf rfl rfl rfl (by decide +kernel) ⟨Nat.le_of_ble_eq_true rfl, Nat.le_of_ble_eq_true rfl⟩) (ro_preV hK (va_recv hK hX (ci := 1) (q0 := 0) rfl rfl)) rfl rfl hl.1 rfl (lv_room (Nat.le_of_ble_eq_true rfl)) dX1_start_2 ⟨Nat.zero_le _, Nat.zero_le _⟩) ?_
  refine lv_astore_n (lv' := [(3, .ref (a_o A2)), (0, .ref x), (1, .int 2), (2, .int i)]) hx hb dX1_start_5 rfl hl (by decide) rfl (fun ls hl => ?_)
  refine lv_aload_n hx hb dX1_start_6 rfl (lv_at hl 0 rfl) ?_
  refine lv_ifnonnull (tgt := 14) hx hb dX1_start_7 (by decide) ?_
  refine lv_aload_n hx hb dX1_start_14 rfl (lv_at hl 0 rfl) ?_
  refine lv_iload_n hx hb dX1_start_15 rfl (lv_at hl 3 rfl) ?_
  refine ro_call (va_runV (As := [.int i]) (rest := []) ⟨hx, hb, hml, hown, hts⟩ (c_X0_startOf_n l A2 r2 hk2 hR2 i hi) (cwV 1 hts gX1_start_X0_startOf rfl rfl rfl (by decide +kernel) ⟨Nat.le_of_ble_eq_true rfl, Nat.le_of_ble_eq_true rfl⟩) (ro_preV hK (va_recv hK hR2 (ci := 0) (q0 := 0) rfl rfl)) rfl rfl hl.1 rfl (lv_room (Nat.le_of_ble_eq_true rfl)) dX1_start_16 ⟨Nat.zero_le _, Nat.zero_le _⟩) ?_
  exact ro_iret hx hb hr rfl dX1_start_19 hlocks
set_option maxHeartbeats 4000000 in
set_option maxRecDepth 100000 in
/-- start(level, i) -/
theorem c_X1_start_3 (l : Launch) {D : va_G} {cI cA cJ : ClassId} {H : Heap} (x sq : Nat) (lt : Int32) (A0 A1 A2 : rgA) (hX : va_P D vwCl (xW x sq lt A0 A1 A2) H) (i v : Int32) (hn : ¬ ix 3 v) : Met l yX1_start wsX1_start ({ frames := 2, cells := 0, slots := 0, locals := 43 }) (ro_P D vwCl (tyL cI cA cJ) H [.ref x, .int v, .int i]) (ro_Q (.int (-1)) H) 0 0 ro_no := by
  refine Met.ofW (cc := cX1_start) (maxL := 4) (ret := (some .int)) (by decide) rfl ?_
  intro p e s m args below meth c s₁ B hml hv
  obtain ⟨rfl, hh, hK⟩ := hv
  subst hh
  have hx := B.exec
  have hb := B.bytes
  have hr := B.returns
  have hlocks := B.notSynchronized
  have hts := atoms_spec (ws := wsX1_start) B.pre
  have hown : s.vm.findClass RX1 = some m.cls := findClass_of_methodNamed B.named
  have hi1 : ∀ w ∈ wsX10, w ∈ wsX1_start := fun w h => List.mem_cons_of_mem _ (List.mem_append_left _ (List.mem_append_right _ h))
  have hi0 : ∀ w ∈ wsX00, w ∈ wsX1_start := fun w h => List.mem_cons_of_mem _ (List.mem_append_right _ h)
  have hl := lv_entry ([.ref x, .int v, .int i]) (n := 4) (Nat.le_of_ble_eq_true rfl)
  rw [lg_entry_eq]
  generalize (lg_sl ([.ref x, .int v, .int i]) ++ List.replicate (4 - (lg_sl ([.ref x, .int v, .int i])).length) Slot.unset).toArray = ls at hl ⊢
  have hl : lv_has ls 4 [(0, .ref x), (1, .int v), (2, .int i)] := hl
  refine lv_aload_n hx hb dX1_start_0 rfl (lv_at hl 0 rfl) ?_
  refine lv_iload_n hx hb dX1_start_1 rfl (lv_at hl 1 rfl) ?_
  refine ro_call (va_runV (As := [.int v]) (rest := []) ⟨hx, hb, hml, hown, hts⟩ (c_X1_ringOf_3 l x sq lt A0 A1 A2 hX v hn) (cwV 1 hts gX1_start_X1_ringOf rfl rfl rfl (by decide +kernel) ⟨Nat.le_of_ble_eq_true rfl, Nat.le_of_ble_eq_true rfl⟩) (ro_preV hK (va_recv hK hX (ci := 1) (q0 := 0) rfl rfl)) rfl rfl hl.1 rfl (lv_room (Nat.le_of_ble_eq_true rfl)) dX1_start_2 ⟨Nat.zero_le _, Nat.zero_le _⟩) ?_
  refine lv_astore_nN (lv' := [(3, .null), (0, .ref x), (1, .int v), (2, .int i)]) hx hb dX1_start_5 rfl hl (by decide) rfl (fun ls hl => ?_)
  refine lv_aload_nN hx hb dX1_start_6 rfl (lv_at hl 0 rfl) ?_
  refine lv_ifnonnullN hx hb dX1_start_7 ?_
  refine lv_iconst (v := (-1)) hx hb dX1_start_10 (by decide) ?_
  refine lv_goto (tgt := 19) hx hb dX1_start_11 (by decide) ?_
  exact ro_iret hx hb hr rfl dX1_start_19 hlocks
set_option maxHeartbeats 4000000 in
set_option maxRecDepth 100000 in
/-- figure(level, i, what) -/
theorem c_X1_figure_0 (l : Launch) {D : va_G} {cI cA cJ : ClassId} {H : Heap} (x sq : Nat) (lt : Int32) (A0 A1 A2 : rgA) (hX : va_P D vwCl (xW x sq lt A0 A1 A2) H) (r0 : rgV) (hk0 : r_ok r0) (hR0 : va_P D vwCl (rgW cI cA A0 r0) H) (j w : Nat) (hj : j < v_h r0) (hw : w < 4) : Met l yX1_figure wsX1_figure ({ frames := 2, cells := 0, slots := 0, locals := 44 }) (ro_P D vwCl (tyL cI cA cJ) H [.ref x, .int 0, .int (nI j), .int (nI w)]) (ro_Q (.int (v_G r0 w j)) H) 0 0 ro_no := by
  refine Met.ofW (cc := cX1_figure) (maxL := 5) (ret := (some .int)) (by decide) rfl ?_
  intro p e s m args below meth c s₁ B hml hv
  obtain ⟨rfl, hh, hK⟩ := hv
  subst hh
  have hx := B.exec
  have hb := B.bytes
  have hr := B.returns
  have hlocks := B.notSynchronized
  have hts := atoms_spec (ws := wsX1_figure) B.pre
  have hown : s.vm.findClass RX1 = some m.cls := findClass_of_methodNamed B.named
  have hi1 : ∀ w ∈ wsX10, w ∈ wsX1_figure := fun w h => List.mem_cons_of_mem _ (List.mem_append_left _ (List.mem_append_right _ h))
  have hi0 : ∀ w ∈ wsX00, w ∈ wsX1_figure := fun w h => List.mem_cons_of_mem _ (List.mem_append_right _ h)
  have hl := lv_entry ([.ref x, .int 0, .int (nI j), .int (nI w)]) (n := 5) (Nat.le_of_ble_eq_true rfl)
  rw [lg_entry_eq]
  generalize (lg_sl ([.ref x, .int 0, .int (nI j), .int (nI w)]) ++ List.replicate (5 - (lg_sl ([.ref x, .int 0, .int (nI j), .int (nI w)])).length) Slot.unset).toArray = ls at hl ⊢
  have hl : lv_has ls 5 [(0, .ref x), (1, .int 0), (2, .int (nI j)), (3, .int (nI w))] := hl
  obtain ⟨k10, k20, k30, k40, k50, k60⟩ := id hk0
  refine lv_aload_n hx hb dX1_figure_0 rfl (lv_at hl 0 rfl) ?_
  refine lv_iload_n hx hb dX1_figure_1 rfl (lv_at hl 1 rfl) ?_
  refine ro_call (va_runV (As := [.int 0]) (rest := []) ⟨hx, hb, hml, hown, hts⟩ (c_X1_ringOf_0 l x sq lt A0 A1 A2 hX) (cwV 1 hts gX1_figure_X1_ringOf rfl rfl rfl (by decide +kernel) ⟨Nat.le_of_ble_eq_true rfl, Nat.le_of_ble_eq_true rfl⟩) (ro_preV hK (va_recv hK hX (ci := 1) (q0 := 0) rfl rfl)) rfl rfl hl.1 rfl (lv_room (Nat.le_of_ble_eq_true rfl)) dX1_figure_2 ⟨Nat.zero_le _, Nat.zero_le _⟩) ?_
  refine lv_astore (lv' := [(4, .ref (a_o A0)), (0, .ref x), (1, .int 0), (2, .int (nI j)), (3, .int (nI w))]) hx hb dX1_figure_5 hl (by decide) rfl (fun ls hl => ?_)
  refine lv_aload hx hb dX1_figure_7 (lv_at hl 0 rfl) ?_
  refine lv_ifnonnull (tgt := 16) hx hb dX1_figure_9 (by decide) ?_
  refine lv_aload hx hb dX1_figure_16 (lv_at hl 0 rfl) ?_
  refine lv_iload_n hx hb dX1_figure_18 rfl (lv_at hl 3 rfl) ?_
  refine lv_iload_n hx hb dX1_figure_19 rfl (lv_at hl 4 rfl) ?_
  refine ro_call (va_runV (As := [.int (nI j), .int (nI w)]) (rest := []) ⟨hx, hb, hml, hown, hts⟩ (c_X0_figureOf l A0 r0 hk0 hR0 j w (by omega) (by omega)) (cwV 2 hts gX1_figure_X0_figureOf rfl rfl rfl (by decide +kernel) ⟨Nat.le_of_ble_eq_true rfl, Nat.le_of_ble_eq_true rfl⟩) (ro_preV hK (va_recv hK hR0 (ci := 0) (q0 := 0) rfl rfl)) rfl rfl hl.1 rfl (lv_room (Nat.le_of_ble_eq_true rfl)) dX1_figure_20 ⟨Nat.zero_le _, Nat.zero_le _⟩) ?_
  exact ro_iret hx hb hr rfl dX1_figure_23 hlocks
set_option maxHeartbeats 4000000 in
set_option maxRecDepth 100000 in
/-- figure(level, i, what) -/
theorem c_X1_figure_0_n (l : Launch) {D : va_G} {cI cA cJ : ClassId} {H : Heap} (x sq : Nat) (lt : Int32) (A0 A1 A2 : rgA) (hX : va_P D vwCl (xW x sq lt A0 A1 A2) H) (r0 : rgV) (hk0 : r_ok r0) (hR0 : va_P D vwCl (rgW cI cA A0 r0) H) (i w : Int32) (hi : ¬ ix (v_h r0) i) : Met l yX1_figure wsX1_figure ({ frames := 2, cells := 0, slots := 0, locals := 44 }) (ro_P D vwCl (tyL cI cA cJ) H [.ref x, .int 0, .int i, .int w]) (ro_Q (.int 0) H) 0 0 ro_no := by
  refine Met.ofW (cc := cX1_figure) (maxL := 5) (ret := (some .int)) (by decide) rfl ?_
  intro p e s m args below meth c s₁ B hml hv
  obtain ⟨rfl, hh, hK⟩ := hv
  subst hh
  have hx := B.exec
  have hb := B.bytes
  have hr := B.returns
  have hlocks := B.notSynchronized
  have hts := atoms_spec (ws := wsX1_figure) B.pre
  have hown : s.vm.findClass RX1 = some m.cls := findClass_of_methodNamed B.named
  have hi1 : ∀ w ∈ wsX10, w ∈ wsX1_figure := fun w h => List.mem_cons_of_mem _ (List.mem_append_left _ (List.mem_append_right _ h))
  have hi0 : ∀ w ∈ wsX00, w ∈ wsX1_figure := fun w h => List.mem_cons_of_mem _ (List.mem_append_right _ h)
  have hl := lv_entry ([.ref x, .int 0, .int i, .int w]) (n := 5) (Nat.le_of_ble_eq_true rfl)
  rw [lg_entry_eq]
  generalize (lg_sl ([.ref x, .int 0, .int i, .int w]) ++ List.replicate (5 - (lg_sl ([.ref x, .int 0, .int i, .int w])).length) Slot.unset).toArray = ls at hl ⊢
  have hl : lv_has ls 5 [(0, .ref x), (1, .int 0), (2, .int i), (3, .int w)] := hl
  obtain ⟨k10, k20, k30, k40, k50, k60⟩ := id hk0
  refine lv_aload_n hx hb dX1_figure_0 rfl (lv_at hl 0 rfl) ?_
  refine lv_iload_n hx hb dX1_figure_1 rfl (lv_at hl 1 rfl) ?_
  refine ro_call (va_runV (As := [.int 0]) (rest := []) ⟨hx, hb, hml, hown, hts⟩ (c_X1_ringOf_0 l x sq lt A0 A1 A2 hX) (cwV 1 hts gX1_figure_X1_ringOf rfl rfl rfl (by decide +kernel) ⟨Nat.le_of_ble_eq_true rfl, Nat.le_of_ble_eq_true rfl⟩) (ro_preV hK (va_recv hK hX (ci := 1) (q0 := 0) rfl rfl)) rfl rfl hl.1 rfl (lv_room (Nat.le_of_ble_eq_true rfl)) dX1_figure_2 ⟨Nat.zero_le _, Nat.zero_le _⟩) ?_
  refine lv_astore (lv' := [(4, .ref (a_o A0)), (0, .ref x), (1, .int 0), (2, .int i), (3, .int w)]) hx hb dX1_figure_5 hl (by decide) rfl (fun ls hl => ?_)
  refine lv_aload hx hb dX1_figure_7 (lv_at hl 0 rfl) ?_
  refine lv_ifnonnull (tgt := 16) hx hb dX1_figure_9 (by decide) ?_
  refine lv_aload hx hb dX1_figure_16 (lv_at hl 0 rfl) ?_
  refine lv_iload_n hx hb dX1_figure_18 rfl (lv_at hl 3 rfl) ?_
  refine lv_iload_n hx hb dX1_figure_19 rfl (lv_at hl 4 rfl) ?_
  refine ro_call (va_runV (As := [.int i, .int w]) (rest := []) ⟨hx, hb, hml, hown, hts⟩ (c_X0_figureOf_n l A0 r0 hk0 hR0 i w hi) (cwV 2 hts gX1_figure_X0_figureOf rfl rfl rfl (by decide +kernel) ⟨Nat.le_of_ble_eq_true rfl, Nat.le_of_ble_eq_true rfl⟩) (ro_preV hK (va_recv hK hR0 (ci := 0) (q0 := 0) rfl rfl)) rfl rfl hl.1 rfl (lv_room (Nat.le_of_ble_eq_true rfl)) dX1_figure_20 ⟨Nat.zero_le _, Nat.zero_le _⟩) ?_
  exact ro_iret hx hb hr rfl dX1_figure_23 hlocks
set_option maxHeartbeats 4000000 in
set_option maxRecDepth 100000 in
/-- figure(level, i, what) -/
theorem c_X1_figure_0_m (l : Launch) {D : va_G} {cI cA cJ : ClassId} {H : Heap} (x sq : Nat) (lt : Int32) (A0 A1 A2 : rgA) (hX : va_P D vwCl (xW x sq lt A0 A1 A2) H) (r0 : rgV) (hk0 : r_ok r0) (hR0 : va_P D vwCl (rgW cI cA A0 r0) H) (j : Nat) (w : Int32) (hj : j < v_h r0) (hw : ¬ ix 4 w) : Met l yX1_figure wsX1_figure ({ frames := 2, cells := 0, slots := 0, locals := 44 }) (ro_P D vwCl (tyL cI cA cJ) H [.ref x, .int 0, .int (nI j), .int w]) (ro_Q (.int 0) H) 0 0 ro_no := by
  refine Met.ofW (cc := cX1_figure) (maxL := 5) (ret := (some .int)) (by decide) rfl ?_
  intro p e s m args below meth c s₁ B hml hv
  obtain ⟨rfl, hh, hK⟩ := hv
  subst hh
  have hx := B.exec
  have hb := B.bytes
  have hr := B.returns
  have hlocks := B.notSynchronized
  have hts := atoms_spec (ws := wsX1_figure) B.pre
  have hown : s.vm.findClass RX1 = some m.cls := findClass_of_methodNamed B.named
  have hi1 : ∀ w ∈ wsX10, w ∈ wsX1_figure := fun w h => List.mem_cons_of_mem _ (List.mem_append_left _ (List.mem_append_right _ h))
  have hi0 : ∀ w ∈ wsX00, w ∈ wsX1_figure := fun w h => List.mem_cons_of_mem _ (List.mem_append_right _ h)
  have hl := lv_entry ([.ref x, .int 0, .int (nI j), .int w]) (n := 5) (Nat.le_of_ble_eq_true rfl)
  rw [lg_entry_eq]
  generalize (lg_sl ([.ref x, .int 0, .int (nI j), .int w]) ++ List.replicate (5 - (lg_sl ([.ref x, .int 0, .int (nI j), .int w])).length) Slot.unset).toArray = ls at hl ⊢
  have hl : lv_has ls 5 [(0, .ref x), (1, .int 0), (2, .int (nI j)), (3, .int w)] := hl
  obtain ⟨k10, k20, k30, k40, k50, k60⟩ := id hk0
  refine lv_aload_n hx hb dX1_figure_0 rfl (lv_at hl 0 rfl) ?_
  refine lv_iload_n hx hb dX1_figure_1 rfl (lv_at hl 1 rfl) ?_
  refine ro_call (va_runV (As := [.int 0]) (rest := []) ⟨hx, hb, hml, hown, hts⟩ (c_X1_ringOf_0 l x sq lt A0 A1 A2 hX) (cwV 1 hts gX1_figure_X1_ringOf rfl rfl rfl (by decide +kernel) ⟨Nat.le_of_ble_eq_true rfl, Nat.le_of_ble_eq_true rfl⟩) (ro_preV hK (va_recv hK hX (ci := 1) (q0 := 0) rfl rfl)) rfl rfl hl.1 rfl (lv_room (Nat.le_of_ble_eq_true rfl)) dX1_figure_2 ⟨Nat.zero_le _, Nat.zero_le _⟩) ?_
  refine lv_astore (lv' := [(4, .ref (a_o A0)), (0, .ref x), (1, .int 0), (2, .int (nI j)), (3, .int w)]) hx hb dX1_figure_5 hl (by decide) rfl (fun ls hl => ?_)
  refine lv_aload hx hb dX1_figure_7 (lv_at hl 0 rfl) ?_
  refine lv_ifnonnull (tgt := 16) hx hb dX1_figure_9 (by decide) ?_
  refine lv_aload hx hb dX1_figure_16 (lv_at hl 0 rfl) ?_
  refine lv_iload_n hx hb dX1_figure_18 rfl (lv_at hl 3 rfl) ?_
  refine lv_iload_n hx hb dX1_figure_19 rfl (lv_at hl 4 rfl) ?_
  refine ro_call (va_runV (As := [.int (nI j), .int w]) (rest := []) ⟨hx, hb, hml, hown, hts⟩ (c_X0_figureOf_m l A0 r0 hk0 hR0 j w hj hw) (cwV 2 hts gX1_figure_X0_figureOf rfl rfl rfl (by decide +kernel) ⟨Nat.le_of_ble_eq_true rfl, Nat.le_of_ble_eq_true rfl⟩) (ro_preV hK (va_recv hK hR0 (ci := 0) (q0 := 0) rfl rfl)) rfl rfl hl.1 rfl (lv_room (Nat.le_of_ble_eq_true rfl)) dX1_figure_20 ⟨Nat.zero_le _, Nat.zero_le _⟩) ?_
  exact ro_iret hx hb hr rfl dX1_figure_23 hlocks
set_option maxHeartbeats 4000000 in
set_option maxRecDepth 100000 in
/-- figure(level, i, what) -/
theorem c_X1_figure_1 (l : Launch) {D : va_G} {cI cA cJ : ClassId} {H : Heap} (x sq : Nat) (lt : Int32) (A0 A1 A2 : rgA) (hX : va_P D vwCl (xW x sq lt A0 A1 A2) H) (r1 : rgV) (hk1 : r_ok r1) (hR1 : va_P D vwCl (rgW cI cA A1 r1) H) (j w : Nat) (hj : j < v_h r1) (hw : w < 4) : Met l yX1_figure wsX1_figure ({ frames := 2, cells := 0, slots := 0, locals := 44 }) (ro_P D vwCl (tyL cI cA cJ) H [.ref x, .int 1, .int (nI j), .int (nI w)]) (ro_Q (.int (v_G r1 w j)) H) 0 0 ro_no := by
  refine Met.ofW (cc := cX1_figure) (maxL := 5) (ret := (some .int)) (by decide) rfl ?_
  intro p e s m args below meth c s₁ B hml hv
  obtain ⟨rfl, hh, hK⟩ := hv
  subst hh
  have hx := B.exec
  have hb := B.bytes
  have hr := B.returns
  have hlocks := B.notSynchronized
  have hts := atoms_spec (ws := wsX1_figure) B.pre
  have hown : s.vm.findClass RX1 = some m.cls := findClass_of_methodNamed B.named
  have hi1 : ∀ w ∈ wsX10, w ∈ wsX1_figure := fun w h => List.mem_cons_of_mem _ (List.mem_append_left _ (List.mem_append_right _ h))
  have hi0 : ∀ w ∈ wsX00, w ∈ wsX1_figure := fun w h => List.mem_cons_of_mem _ (List.mem_append_right _ h)
  have hl := lv_entry ([.ref x, .int 1, .int (nI j), .int (nI w)]) (n := 5) (Nat.le_of_ble_eq_true rfl)
  rw [lg_entry_eq]
  generalize (lg_sl ([.ref x, .int 1, .int (nI j), .int (nI w)]) ++ List.replicate (5 - (lg_sl ([.ref x, .int 1, .int (nI j), .int (nI w)])).length) Slot.unset).toArray = ls at hl ⊢
  have hl : lv_has ls 5 [(0, .ref x), (1, .int 1), (2, .int (nI j)), (3, .int (nI w))] := hl
  obtain ⟨k11, k21, k31, k41, k51, k61⟩ := id hk1
  refine lv_aload_n hx hb dX1_figure_0 rfl (lv_at hl 0 rfl) ?_
  refine lv_iload_n hx hb dX1_figure_1 rfl (lv_at hl 1 rfl) ?_
  refine ro_call (va_runV (As := [.int 1]) (rest := []) ⟨hx, hb, hml, hown, hts⟩ (c_X1_ringOf_1 l x sq lt A0 A1 A2 hX) (cwV 1 hts gX1_figure_X1_ringOf rfl rfl rfl (by decide +kernel) ⟨Nat.le_of_ble_eq_true rfl, Nat.le_of_ble_eq_true rfl⟩) (ro_preV hK (va_recv hK hX (ci := 1) (q0 := 0) rfl rfl)) rfl rfl hl.1 rfl (lv_room (Nat.le_of_ble_eq_true rfl)) dX1_figure_2 ⟨Nat.zero_le _, Nat.zero_le _⟩) ?_
  refine lv_astore (lv' := [(4, .ref (a_o A1)), (0, .ref x), (1, .int 1), (2, .int (nI j)), (3, .int (nI w))]) hx hb dX1_figure_5 hl (by decide) rfl (fun ls hl => ?_)
  refine lv_aload hx hb dX1_figure_7 (lv_at hl 0 rfl) ?_
  refine lv_ifnonnull (tgt := 16) hx hb dX1_figure_9 (by decide) ?_
  refine lv_aload hx hb dX1_figure_16 (lv_at hl 0 rfl) ?_
  refine lv_iload_n hx hb dX1_figure_18 rfl (lv_at hl 3 rfl) ?_
  refine lv_iload_n hx hb dX1_figure_19 rfl (lv_at hl 4 rfl) ?_
  refine ro_call (va_runV (As := [.int (nI j), .int (nI w)]) (rest := []) ⟨hx, hb, hml, hown, hts⟩ (c_X0_figureOf l A1 r1 hk1 hR1 j w (by omega) (by omega)) (cwV 2 hts gX1_figure_X0_figureOf rfl rfl rfl (by decide +kernel) ⟨Nat.le_of_ble_eq_true rfl, Nat.le_of_ble_eq_true rfl⟩) (ro_preV hK (va_recv hK hR1 (ci := 0) (q0 := 0) rfl rfl)) rfl rfl hl.1 rfl (lv_room (Nat.le_of_ble_eq_true rfl)) dX1_figure_20 ⟨Nat.zero_le _, Nat.zero_le _⟩) ?_
  exact ro_iret hx hb hr rfl dX1_figure_23 hlocks
set_option maxHeartbeats 4000000 in
set_option maxRecDepth 100000 in
/-- figure(level, i, what) -/
theorem c_X1_figure_1_n (l : Launch) {D : va_G} {cI cA cJ : ClassId} {H : Heap} (x sq : Nat) (lt : Int32) (A0 A1 A2 : rgA) (hX : va_P D vwCl (xW x sq lt A0 A1 A2) H) (r1 : rgV) (hk1 : r_ok r1) (hR1 : va_P D vwCl (rgW cI cA A1 r1) H) (i w : Int32) (hi : ¬ ix (v_h r1) i) : Met l yX1_figure wsX1_figure ({ frames := 2, cells := 0, slots := 0, locals := 44 }) (ro_P D vwCl (tyL cI cA cJ) H [.ref x, .int 1, .int i, .int w]) (ro_Q (.int 0) H) 0 0 ro_no := by
  refine Met.ofW (cc := cX1_figure) (maxL := 5) (ret := (some .int)) (by decide) rfl ?_
  intro p e s m args below meth c s₁ B hml hv
  obtain ⟨rfl, hh, hK⟩ := hv
  subst hh
  have hx := B.exec
  have hb := B.bytes
  have hr := B.returns
  have hlocks := B.notSynchronized
  have hts := atoms_spec (ws := wsX1_figure) B.pre
  have hown : s.vm.findClass RX1 = some m.cls := findClass_of_methodNamed B.named
  have hi1 : ∀ w ∈ wsX10, w ∈ wsX1_figure := fun w h => List.mem_cons_of_mem _ (List.mem_append_left _ (List.mem_append_right _ h))
  have hi0 : ∀ w ∈ wsX00, w ∈ wsX1_figure := fun w h => List.mem_cons_of_mem _ (List.mem_append_right _ h)
  have hl := lv_entry ([.ref x, .int 1, .int i, .int w]) (n := 5) (Nat.le_of_ble_eq_true rfl)
  rw [lg_entry_eq]
  generalize (lg_sl ([.ref x, .int 1, .int i, .int w]) ++ List.replicate (5 - (lg_sl ([.ref x, .int 1, .int i, .int w])).length) Slot.unset).toArray = ls at hl ⊢
  have hl : lv_has ls 5 [(0, .ref x), (1, .int 1), (2, .int i), (3, .int w)] := hl
  obtain ⟨k11, k21, k31, k41, k51, k61⟩ := id hk1
  refine lv_aload_n hx hb dX1_figure_0 rfl (lv_at hl 0 rfl) ?_
  refine lv_iload_n hx hb dX1_figure_1 rfl (lv_at hl 1 rfl) ?_
  refine ro_call (va_runV (As := [.int 1]) (rest := []) ⟨hx, hb, hml, hown, hts⟩ (c_X1_ringOf_1 l x sq lt A0 A1 A2 hX) (cwV 1 hts gX1_figure_X1_ringOf rfl rfl rfl (by decide +kernel) ⟨Nat.le_of_ble_eq_true rfl, Nat.le_of_ble_eq_true rfl⟩) (ro_preV hK (va_recv hK hX (ci := 1) (q0 := 0) rfl rfl)) rfl rfl hl.1 rfl (lv_room (Nat.le_of_ble_eq_true rfl)) dX1_figure_2 ⟨Nat.zero_le _, Nat.zero_le _⟩) ?_
  refine lv_astore (lv' := [(4, .ref (a_o A1)), (0, .ref x), (1, .int 1), (2, .int i), (3, .int w)]) hx hb dX1_figure_5 hl (by decide) rfl (fun ls hl => ?_)
  refine lv_aload hx hb dX1_figure_7 (lv_at hl 0 rfl) ?_
  refine lv_ifnonnull (tgt := 16) hx hb dX1_figure_9 (by decide) ?_
  refine lv_aload hx hb dX1_figure_16 (lv_at hl 0 rfl) ?_
  refine lv_iload_n hx hb dX1_figure_18 rfl (lv_at hl 3 rfl) ?_
  refine lv_iload_n hx hb dX1_figure_19 rfl (lv_at hl 4 rfl) ?_
  refine ro_call (va_runV (As := [.int i, .int w]) (rest := []) ⟨hx, hb, hml, hown, hts⟩ (c_X0_figureOf_n l A1 r1 hk1 hR1 i w hi) (cwV 2 hts gX1_figure_X0_figureOf rfl rfl rfl (by decide +kernel) ⟨Nat.le_of_ble_eq_true rfl, Nat.le_of_ble_eq_true rfl⟩) (ro_preV hK (va_recv hK hR1 (ci := 0) (q0 := 0) rfl rfl)) rfl rfl hl.1 rfl (lv_room (Nat.le_of_ble_eq_true rfl)) dX1_figure_20 ⟨Nat.zero_le _, Nat.zero_le _⟩) ?_
  exact ro_iret hx hb hr rfl dX1_figure_23 hlocks
set_option maxHeartbeats 4000000 in
set_option maxRecDepth 100000 in
/-- figure(level, i, what) -/
theorem c_X1_figure_1_m (l : Launch) {D : va_G} {cI cA cJ : ClassId} {H : Heap} (x sq : Nat) (lt : Int32) (A0 A1 A2 : rgA) (hX : va_P D vwCl (xW x sq lt A0 A1 A2) H) (r1 : rgV) (hk1 : r_ok r1) (hR1 : va_P D vwCl (rgW cI cA A1 r1) H) (j : Nat) (w : Int32) (hj : j < v_h r1) (hw : ¬ ix 4 w) : Met l yX1_figure wsX1_figure ({ frames := 2, cells := 0, slots := 0, locals := 44 }) (ro_P D vwCl (tyL cI cA cJ) H [.ref x, .int 1, .int (nI j), .int w]) (ro_Q (.int 0) H) 0 0 ro_no := by
  refine Met.ofW (cc := cX1_figure) (maxL := 5) (ret := (some .int)) (by decide) rfl ?_
  intro p e s m args below meth c s₁ B hml hv
  obtain ⟨rfl, hh, hK⟩ := hv
  subst hh
  have hx := B.exec
  have hb := B.bytes
  have hr := B.returns
  have hlocks := B.notSynchronized
  have hts := atoms_spec (ws := wsX1_figure) B.pre
  have hown : s.vm.findClass RX1 = some m.cls := findClass_of_methodNamed B.named
  have hi1 : ∀ w ∈ wsX10, w ∈ wsX1_figure := fun w h => List.mem_cons_of_mem _ (List.mem_append_left _ (List.mem_append_right _ h))
  have hi0 : ∀ w ∈ wsX00, w ∈ wsX1_figure := fun w h => List.mem_cons_of_mem _ (List.mem_append_right _ h)
  have hl := lv_entry ([.ref x, .int 1, .int (nI j), .int w]) (n := 5) (Nat.le_of_ble_eq_true rfl)
  rw [lg_entry_eq]
  generalize (lg_sl ([.ref x, .int 1, .int (nI j), .int w]) ++ List.replicate (5 - (lg_sl ([.ref x, .int 1, .int (nI j), .int w])).length) Slot.unset).toArray = ls at hl ⊢
  have hl : lv_has ls 5 [(0, .ref x), (1, .int 1), (2, .int (nI j)), (3, .int w)] := hl
  obtain ⟨k11, k21, k31, k41, k51, k61⟩ := id hk1
  refine lv_aload_n hx hb dX1_figure_0 rfl (lv_at hl 0 rfl) ?_
  refine lv_iload_n hx hb dX1_figure_1 rfl (lv_at hl 1 rfl) ?_
  refine ro_call (va_runV (As := [.int 1]) (rest := []) ⟨hx, hb, hml, hown, hts⟩ (c_X1_ringOf_1 l x sq lt A0 A1 A2 hX) (cwV 1 hts gX1_figure_X1_ringOf rfl rfl rfl (by decide +kernel) ⟨Nat.le_of_ble_eq_true rfl, Nat.le_of_ble_eq_true rfl⟩) (ro_preV hK (va_recv hK hX (ci := 1) (q0 := 0) rfl rfl)) rfl rfl hl.1 rfl (lv_room (Nat.le_of_ble_eq_true rfl)) dX1_figure_2 ⟨Nat.zero_le _, Nat.zero_le _⟩) ?_
  refine lv_astore (lv' := [(4, .ref (a_o A1)), (0, .ref x), (1, .int 1), (2, .int (nI j)), (3, .int w)]) hx hb dX1_figure_5 hl (by decide) rfl (fun ls hl => ?_)
  refine lv_aload hx hb dX1_figure_7 (lv_at hl 0 rfl) ?_
  refine lv_ifnonnull (tgt := 16) hx hb dX1_figure_9 (by decide) ?_
  refine lv_aload hx hb dX1_figure_16 (lv_at hl 0 rfl) ?_
  refine lv_iload_n hx hb dX1_figure_18 rfl (lv_at hl 3 rfl) ?_
  refine lv_iload_n hx hb dX1_figure_19 rfl (lv_at hl 4 rfl) ?_
  refine ro_call (va_runV (As := [.int (nI j), .int w]) (rest := []) ⟨hx, hb, hml, hown, hts⟩ (c_X0_figureOf_m l A1 r1 hk1 hR1 j w hj hw) (cwV 2 hts gX1_figure_X0_figureOf rfl rfl rfl (by decide +kernel) ⟨Nat.le_of_ble_eq_true rfl, Nat.le_of_ble_eq_true rfl⟩) (ro_preV hK (va_recv hK hR1 (ci := 0) (q0 := 0) rfl rfl)) rfl rfl hl.1 rfl (lv_room (Nat.le_of_ble_eq_true rfl)) dX1_figure_20 ⟨Nat.zero_le _, Nat.zero_le _⟩) ?_
  exact ro_iret hx hb hr rfl dX1_figure_23 hlocks
set_option maxHeartbeats 4000000 in
set_option maxRecDepth 100000 in
/-- figure(level, i, what) -/
theorem c_X1_figure_2 (l : Launch) {D : va_G} {cI cA cJ : ClassId} {H : Heap} (x sq : Nat) (lt : Int32) (A0 A1 A2 : rgA) (hX : va_P D vwCl (xW x sq lt A0 A1 A2) H) (r2 : rgV) (hk2 : r_ok r2) (hR2 : va_P D vwCl (rgW cI cA A2 r2) H) (j w : Nat) (hj : j < v_h r2) (hw : w < 4) : Met l yX1_figure wsX1_figure ({ frames := 2, cells := 0, slots := 0, locals := 44 }) (ro_P D vwCl (tyL cI cA cJ) H [.ref x, .int 2, .int (nI j), .int (nI w)]) (ro_Q (.int (v_G r2 w j)) H) 0 0 ro_no := by
  refine Met.ofW (cc := cX1_figure) (maxL := 5) (ret := (some .int)) (by decide) rfl ?_
  intro p e s m args below meth c s₁ B hml hv
  obtain ⟨rfl, hh, hK⟩ := hv
  subst hh
  have hx := B.exec
  have hb := B.bytes
  have hr := B.returns
  have hlocks := B.notSynchronized
  have hts := atoms_spec (ws := wsX1_figure) B.pre
  have hown : s.vm.findClass RX1 = some m.cls := findClass_of_methodNamed B.named
  have hi1 : ∀ w ∈ wsX10, w ∈ wsX1_figure := fun w h => List.mem_cons_of_mem _ (List.mem_append_left _ (List.mem_append_right _ h))
  have hi0 : ∀ w ∈ wsX00, w ∈ wsX1_figure := fun w h => List.mem_cons_of_mem _ (List.mem_append_right _ h)
  have hl := lv_entry ([.ref x, .int 2, .int (nI j), .int (nI w)]) (n := 5) (Nat.le_of_ble_eq_true rfl)
  rw [lg_entry_eq]
  generalize (lg_sl ([.ref x, .int 2, .int (nI j), .int (nI w)]) ++ List.replicate (5 - (lg_sl ([.ref x, .int 2, .int (nI j), .int (nI w)])).length) Slot.unset).toArray = ls at hl ⊢
  have hl : lv_has ls 5 [(0, .ref x), (1, .int 2), (2, .int (nI j)), (3, .int (nI w))] := hl
  obtain ⟨k12, k22, k32, k42, k52, k62⟩ := id hk2
  refine lv_aload_n hx hb dX1_figure_0 rfl (lv_at hl 0 rfl) ?_
  refine lv_iload_n hx hb dX1_figure_1 rfl (lv_at hl 1 rfl) ?_
  refine ro_call (va_runV (As := [.int 2]) (rest := []) ⟨hx, hb, hml, hown, hts⟩ (c_X1_ringOf_2 l x sq lt A0 A1 A2 hX) (cwV 1 hts gX1_figure_X1_ringOf rfl rfl rfl (by decide +kernel) ⟨Nat.le_of_ble_eq_true rfl, Nat.le_of_ble_eq_true rfl⟩) (ro_preV hK (va_recv hK hX (ci := 1) (q0 := 0) rfl rfl)) rfl rfl hl.1 rfl (lv_room (Nat.le_of_ble_eq_true rfl)) dX1_figure_2 ⟨Nat.zero_le _, Nat.zero_le _⟩) ?_
  refine lv_astore (lv' := [(4, .ref (a_o A2)), (0, .ref x), (1, .int 2), (2, .int (nI j)), (3, .int (nI w))]) hx hb dX1_figure_5 hl (by decide) rfl (fun ls hl => ?_)
  refine lv_aload hx hb dX1_figure_7 (lv_at hl 0 rfl) ?_
  refine lv_ifnonnull (tgt := 16) hx hb dX1_figure_9 (by decide) ?_
  refine lv_aload hx hb dX1_figure_16 (lv_at hl 0 rfl) ?_
  refine lv_iload_n hx hb dX1_figure_18 rfl (lv_at hl 3 rfl) ?_
  refine lv_iload_n hx hb dX1_figure_19 rfl (lv_at hl 4 rfl) ?_
  refine ro_call (va_runV (As := [.int (nI j), .int (nI w)]) (rest := []) ⟨hx, hb, hml, hown, hts⟩ (c_X0_figureOf l A2 r2 hk2 hR2 j w (by omega) (by omega)) (cwV 2 hts gX1_figure_X0_figureOf rfl rfl rfl (by decide +kernel) ⟨Nat.le_of_ble_eq_true rfl, Nat.le_of_ble_eq_true rfl⟩) (ro_preV hK (va_recv hK hR2 (ci := 0) (q0 := 0) rfl rfl)) rfl rfl hl.1 rfl (lv_room (Nat.le_of_ble_eq_true rfl)) dX1_figure_20 ⟨Nat.zero_le _, Nat.zero_le _⟩) ?_
  exact ro_iret hx hb hr rfl dX1_figure_23 hlocks
set_option maxHeartbeats 4000000 in
set_option maxRecDepth 100000 in
/-- figure(level, i, what) -/
theorem c_X1_figure_2_n (l : Launch) {D : va_G} {cI cA cJ : ClassId} {H : Heap} (x sq : Nat) (lt : Int32) (A0 A1 A2 : rgA) (hX : va_P D vwCl (xW x sq lt A0 A1 A2) H) (r2 : rgV) (hk2 : r_ok r2) (hR2 : va_P D vwCl (rgW cI cA A2 r2) H) (i w : Int32) (hi : ¬ ix (v_h r2) i) : Met l yX1_figure wsX1_figure ({ frames := 2, cells := 0, slots := 0, locals := 44 }) (ro_P D vwCl (tyL cI cA cJ) H [.ref x, .int 2, .int i, .int w]) (ro_Q (.int 0) H) 0 0 ro_no := by
  refine Met.ofW (cc := cX1_figure) (maxL := 5) (ret := (some .int)) (by decide) rfl ?_
  intro p e s m args below meth c s₁ B hml hv
  obtain ⟨rfl, hh, hK⟩ := hv
  subst hh
  have hx := B.exec
  have hb := B.bytes
  have hr := B.returns
  have hlocks := B.notSynchronized
  have hts := atoms_spec (ws := wsX1_figure) B.pre
  have hown : s.vm.findClass RX1 = some m.cls := findClass_of_methodNamed B.named
  have hi1 : ∀ w ∈ wsX10, w ∈ wsX1_figure := fun w h => List.mem_cons_of_mem _ (List.mem_append_left _ (List.mem_append_right _ h))
  have hi0 : ∀ w ∈ wsX00, w ∈ wsX1_figure := fun w h => List.mem_cons_of_mem _ (List.mem_append_right _ h)
  have hl := lv_entry ([.ref x, .int 2, .int i, .int w]) (n := 5) (Nat.le_of_ble_eq_true rfl)
  rw [lg_entry_eq]
  generalize (lg_sl ([.ref x, .int 2, .int i, .int w]) ++ List.replicate (5 - (lg_sl ([.ref x, .int 2, .int i, .int w])).length) Slot.unset).toArray = ls at hl ⊢
  have hl : lv_has ls 5 [(0, .ref x), (1, .int 2), (2, .int i), (3, .int w)] := hl
  obtain ⟨k12, k22, k32, k42, k52, k62⟩ := id hk2
  refine lv_aload_n hx hb dX1_figure_0 rfl (lv_at hl 0 rfl) ?_
  refine lv_iload_n hx hb dX1_figure_1 rfl (lv_at hl 1 rfl) ?_
  refine ro_call (va_runV (As := [.int 2]) (rest := []) ⟨hx, hb, hml, hown, hts⟩ (c_X1_ringOf_2 l x sq lt A0 A1 A2 hX) (cwV 1 hts gX1_figure_X1_ringOf rfl rfl rfl (by decide +kernel) ⟨Nat.le_of_ble_eq_true rfl, Nat.le_of_ble_eq_true rfl⟩) (ro_preV hK (va_recv hK hX (ci := 1) (q0 := 0) rfl rfl)) rfl rfl hl.1 rfl (lv_room (Nat.le_of_ble_eq_true rfl)) dX1_figure_2 ⟨Nat.zero_le _, Nat.zero_le _⟩) ?_
  refine lv_astore (lv' := [(4, .ref (a_o A2)), (0, .ref x), (1, .int 2), (2, .int i), (3, .int w)]) hx hb dX1_figure_5 hl (by decide) rfl (fun ls hl => ?_)
  refine lv_aload hx hb dX1_figure_7 (lv_at hl 0 rfl) ?_
  refine lv_ifnonnull (tgt := 16) hx hb dX1_figure_9 (by decide) ?_
  refine lv_aload hx hb dX1_figure_16 (lv_at hl 0 rfl) ?_
  refine lv_iload_n hx hb dX1_figure_18 rfl (lv_at hl 3 rfl) ?_
  refine lv_iload_n hx hb dX1_figure_19 rfl (lv_at hl 4 rfl) ?_
  refine ro_call (va_runV (As := [.int i, .int w]) (rest := []) ⟨hx, hb, hml, hown, hts⟩ (c_X0_figureOf_n l A2 r2 hk2 hR2 i w hi) (cwV 2 hts gX1_figure_X0_figureOf rfl rfl rfl (by decide +kernel) ⟨Nat.le_of_ble_eq_true rfl, Nat.le_of_ble_eq_true rfl⟩) (ro_preV hK (va_recv hK hR2 (ci := 0) (q0 := 0) rfl rfl)) rfl rfl hl.1 rfl (lv_room (Nat.le_of_ble_eq_true rfl)) dX1_figure_20 ⟨Nat.zero_le _, Nat.zero_le _⟩) ?_
  exact ro_iret hx hb hr rfl dX1_figure_23 hlocks
set_option maxHeartbeats 4000000 in
set_option maxRecDepth 100000 in
/-- figure(level, i, what) -/
theorem c_X1_figure_2_m (l : Launch) {D : va_G} {cI cA cJ : ClassId} {H : Heap} (x sq : Nat) (lt : Int32) (A0 A1 A2 : rgA) (hX : va_P D vwCl (xW x sq lt A0 A1 A2) H) (r2 : rgV) (hk2 : r_ok r2) (hR2 : va_P D vwCl (rgW cI cA A2 r2) H) (j : Nat) (w : Int32) (hj : j < v_h r2) (hw : ¬ ix 4 w) : Met l yX1_figure wsX1_figure ({ frames := 2, cells := 0, slots := 0, locals := 44 }) (ro_P D vwCl (tyL cI cA cJ) H [.ref x, .int 2, .int (nI j), .int w]) (ro_Q (.int 0) H) 0 0 ro_no := by
  refine Met.ofW (cc := cX1_figure) (maxL := 5) (ret := (some .int)) (by decide) rfl ?_
  intro p e s m args below meth c s₁ B hml hv
  obtain ⟨rfl, hh, hK⟩ := hv
  subst hh
  have hx := B.exec
  have hb := B.bytes
  have hr := B.returns
  have hlocks := B.notSynchronized
  have hts := atoms_spec (ws := wsX1_figure) B.pre
  have hown : s.vm.findClass RX1 = some m.cls := findClass_of_methodNamed B.named
  have hi1 : ∀ w ∈ wsX10, w ∈ wsX1_figure := fun w h => List.mem_cons_of_mem _ (List.mem_append_left _ (List.mem_append_right _ h))
  have hi0 : ∀ w ∈ wsX00, w ∈ wsX1_figure := fun w h => List.mem_cons_of_mem _ (List.mem_append_right _ h)
  have hl := lv_entry ([.ref x, .int 2, .int (nI j), .int w]) (n := 5) (Nat.le_of_ble_eq_true rfl)
  rw [lg_entry_eq]
  generalize (lg_sl ([.ref x, .int 2, .int (nI j), .int w]) ++ List.replicate (5 - (lg_sl ([.ref x, .int 2, .int (nI j), .int w])).length) Slot.unset).toArray = ls at hl ⊢
  have hl : lv_has ls 5 [(0, .ref x), (1, .int 2), (2, .int (nI j)), (3, .int w)] := hl
  obtain ⟨k12, k22, k32, k42, k52, k62⟩ := id hk2
  refine lv_aload_n hx hb dX1_figure_0 rfl (lv_at hl 0 rfl) ?_
  refine lv_iload_n hx hb dX1_figure_1 rfl (lv_at hl 1 rfl) ?_
  refine ro_call (va_runV (As := [.int 2]) (rest := []) ⟨hx, hb, hml, hown, hts⟩ (c_X1_ringOf_2 l x sq lt A0 A1 A2 hX) (cwV 1 hts gX1_figure_X1_ringOf rfl rfl rfl (by decide +kernel) ⟨Nat.le_of_ble_eq_true rfl, Nat.le_of_ble_eq_true rfl⟩) (ro_preV hK (va_recv hK hX (ci := 1) (q0 := 0) rfl rfl)) rfl rfl hl.1 rfl (lv_room (Nat.le_of_ble_eq_true rfl)) dX1_figure_2 ⟨Nat.zero_le _, Nat.zero_le _⟩) ?_
  refine lv_astore (lv' := [(4, .ref (a_o A2)), (0, .ref x), (1, .int 2), (2, .int (nI j)), (3, .int w)]) hx hb dX1_figure_5 hl (by decide) rfl (fun ls hl => ?_)
  refine lv_aload hx hb dX1_figure_7 (lv_at hl 0 rfl) ?_
  refine lv_ifnonnull (tgt := 16) hx hb dX1_figure_9 (by decide) ?_
  refine lv_aload hx hb dX1_figure_16 (lv_at hl 0 rfl) ?_
  refine lv_iload_n hx hb dX1_figure_18 rfl (lv_at hl 3 rfl) ?_
  refine lv_iload_n hx hb dX1_figure_19 rfl (lv_at hl 4 rfl) ?_
  refine ro_call (va_runV (As := [.int (nI j), .int w]) (rest := []) ⟨hx, hb, hml, hown, hts⟩ (c_X0_figureOf_m l A2 r2 hk2 hR2 j w hj hw) (cwV 2 hts gX1_figure_X0_figureOf rfl rfl rfl (by decide +kernel) ⟨Nat.le_of_ble_eq_true rfl, Nat.le_of_ble_eq_true rfl⟩) (ro_preV hK (va_recv hK hR2 (ci := 0) (q0 := 0) rfl rfl)) rfl rfl hl.1 rfl (lv_room (Nat.le_of_ble_eq_true rfl)) dX1_figure_20 ⟨Nat.zero_le _, Nat.zero_le _⟩) ?_
  exact ro_iret hx hb hr rfl dX1_figure_23 hlocks
set_option maxHeartbeats 4000000 in
set_option maxRecDepth 100000 in
/-- figure(level, i, what) -/
theorem c_X1_figure_3 (l : Launch) {D : va_G} {cI cA cJ : ClassId} {H : Heap} (x sq : Nat) (lt : Int32) (A0 A1 A2 : rgA) (hX : va_P D vwCl (xW x sq lt A0 A1 A2) H) (i w v : Int32) (hn : ¬ ix 3 v) : Met l yX1_figure wsX1_figure ({ frames := 2, cells := 0, slots := 0, locals := 44 }) (ro_P D vwCl (tyL cI cA cJ) H [.ref x, .int v, .int i, .int w]) (ro_Q (.int 0) H) 0 0 ro_no := by
  refine Met.ofW (cc := cX1_figure) (maxL := 5) (ret := (some .int)) (by decide) rfl ?_
  intro p e s m args below meth c s₁ B hml hv
  obtain ⟨rfl, hh, hK⟩ := hv
  subst hh
  have hx := B.exec
  have hb := B.bytes
  have hr := B.returns
  have hlocks := B.notSynchronized
  have hts := atoms_spec (ws := wsX1_figure) B.pre
  have hown : s.vm.findClass RX1 = some m.cls := findClass_of_methodNamed B.named
  have hi1 : ∀ w ∈ wsX10, w ∈ wsX1_figure := fun w h => List.mem_cons_of_mem _ (List.mem_append_left _ (List.mem_append_right _ h))
  have hi0 : ∀ w ∈ wsX00, w ∈ wsX1_figure := fun w h => List.mem_cons_of_mem _ (List.mem_append_right _ h)
  have hl := lv_entry ([.ref x, .int v, .int i, .int w]) (n := 5) (Nat.le_of_ble_eq_true rfl)
  rw [lg_entry_eq]
  generalize (lg_sl ([.ref x, .int v, .int i, .int w]) ++ List.replicate (5 - (lg_sl ([.ref x, .int v, .int i, .int w])).length) Slot.unset).toArray = ls at hl ⊢
  have hl : lv_has ls 5 [(0, .ref x), (1, .int v), (2, .int i), (3, .int w)] := hl
  refine lv_aload_n hx hb dX1_figure_0 rfl (lv_at hl 0 rfl) ?_
  refine lv_iload_n hx hb dX1_figure_1 rfl (lv_at hl 1 rfl) ?_
  refine ro_call (va_runV (As := [.int v]) (rest := []) ⟨hx, hb, hml, hown, hts⟩ (c_X1_ringOf_3 l x sq lt A0 A1 A2 hX v hn) (cwV 1 hts gX1_figure_X1_ringOf rfl rfl rfl (by decide +kernel) ⟨Nat.le_of_ble_eq_true rfl, Nat.le_of_ble_eq_true rfl⟩) (ro_preV hK (va_recv hK hX (ci := 1) (q0 := 0) rfl rfl)) rfl rfl hl.1 rfl (lv_room (Nat.le_of_ble_eq_true rfl)) dX1_figure_2 ⟨Nat.zero_le _, Nat.zero_le _⟩) ?_
  refine lv_astoreN (lv' := [(4, .null), (0, .ref x), (1, .int v), (2, .int i), (3, .int w)]) hx hb dX1_figure_5 hl (by decide) rfl (fun ls hl => ?_)
  refine lv_aloadN hx hb dX1_figure_7 (lv_at hl 0 rfl) ?_
  refine lv_ifnonnullN hx hb dX1_figure_9 ?_
  refine lv_iconst (v := 0) hx hb dX1_figure_12 (by decide) ?_
  refine lv_goto (tgt := 23) hx hb dX1_figure_13 (by decide) ?_
  exact ro_iret hx hb hr rfl dX1_figure_23 hlocks
set_option maxHeartbeats 4000000 in
set_option maxRecDepth 100000 in
/-- many(from, to) -/
theorem c_X1_many (l : Launch) {D : va_G} {cI cA cJ : ClassId} {H : Heap} (x sq : Nat) (lt : Int32) (A0 A1 A2 : rgA) (hX : va_P D vwCl (xW x sq lt A0 A1 A2) H) (r0 : rgV) (hk0 : r_ok r0) (hR0 : va_P D vwCl (rgW cI cA A0 r0) H) (f t : Int32) : Met l yX1_many wsX1_many ({ frames := 4, cells := 0, slots := 0, locals := 89 }) (ro_P D vwCl (tyL cI cA cJ) H [.ref x, .int f, .int t]) (ro_Q (.int (nI (sB r0 f t - sA r0 f))) H) 0 0 ro_no := by
  refine Met.ofW (cc := cX1_many) (maxL := 4) (ret := (some .int)) (by decide) rfl ?_
  intro p e s m args below meth c s₁ B hml hv
  obtain ⟨rfl, hh, hK⟩ := hv
  subst hh
  have hx := B.exec
  have hb := B.bytes
  have hr := B.returns
  have hlocks := B.notSynchronized
  have hts := atoms_spec (ws := wsX1_many) B.pre
  have hown : s.vm.findClass RX1 = some m.cls := findClass_of_methodNamed B.named
  have hi1 : ∀ w ∈ wsX10, w ∈ wsX1_many := fun w h => List.mem_cons_of_mem _ (List.mem_append_left _ (List.mem_append_right _ h))
  have hi0 : ∀ w ∈ wsX00, w ∈ wsX1_many := fun w h => List.mem_cons_of_mem _ (List.mem_append_right _ h)
  have hl := lv_entry ([.ref x, .int f, .int t]) (n := 4) (Nat.le_of_ble_eq_true rfl)
  rw [lg_entry_eq]
  generalize (lg_sl ([.ref x, .int f, .int t]) ++ List.replicate (4 - (lg_sl ([.ref x, .int f, .int t])).length) Slot.unset).toArray = ls at hl ⊢
  have hl : lv_has ls 4 [(0, .ref x), (1, .int f), (2, .int t)] := hl
  obtain ⟨k10, k20, k30, k40, k50, k60⟩ := id hk0
  refine lv_aload_n hx hb dX1_many_0 rfl (lv_at hl 0 rfl) ?_
  refine lv_iload_n hx hb dX1_many_1 rfl (lv_at hl 1 rfl) ?_
  refine ro_call (va_runV (As := [.int f]) (rest := []) ⟨hx, hb, hml, hown, hts⟩ (c_X1_firstIn l x sq lt A0 A1 A2 hX r0 hk0 hR0 f) (cwV 1 hts gX1_many_X1_firstIn rfl rfl rfl (by decide +kernel) ⟨Nat.le_of_ble_eq_true rfl, Nat.le_of_ble_eq_true rfl⟩) (ro_preV hK (va_recv hK hX (ci := 1) (q0 := 0) rfl rfl)) rfl rfl hl.1 rfl (lv_room (Nat.le_of_ble_eq_true rfl)) dX1_many_2 ⟨Nat.zero_le _, Nat.zero_le _⟩) ?_
  refine lv_istore_n (lv' := [(3, .int (nI (sA r0 f))), (0, .ref x), (1, .int f), (2, .int t)]) hx hb dX1_many_5 rfl hl (by decide) rfl (fun ls hl => ?_)
  refine lv_aload_n hx hb dX1_many_6 rfl (lv_at hl 1 rfl) ?_
  refine lv_iload_n hx hb dX1_many_7 rfl (lv_at hl 0 rfl) ?_
  refine lv_iload_n hx hb dX1_many_8 rfl (lv_at hl 3 rfl) ?_
  refine ro_call (va_runV (As := [.int (nI (sA r0 f)), .int t]) (rest := []) ⟨hx, hb, hml, hown, hts⟩ (c_X1_endOf l x sq lt A0 A1 A2 hX r0 hk0 hR0 (sA r0 f) (sA_le _ _) t) (cwV 2 hts gX1_many_X1_endOf rfl rfl rfl (by decide +kernel) ⟨Nat.le_of_ble_eq_true rfl, Nat.le_of_ble_eq_true rfl⟩) (ro_preV hK (va_recv hK hX (ci := 1) (q0 := 0) rfl rfl)) rfl rfl hl.1 rfl (lv_room (Nat.le_of_ble_eq_true rfl)) dX1_many_9 ⟨Nat.zero_le _, Nat.zero_le _⟩) ?_
  refine lv_iload_n hx hb dX1_many_12 rfl (lv_at hl 0 rfl) ?_
  refine lv_isub hx hb dX1_many_13 ?_
  refine top_i (pk_sub (sB_ge _ _ _)) ?_
  exact ro_iret hx hb hr rfl dX1_many_14 hlocks
set_option maxHeartbeats 4000000 in
set_option maxRecDepth 100000 in
/-- extreme(from, to, sign) -/
theorem c_X1_extreme_1 (l : Launch) {D : va_G} {cI cA cJ : ClassId} {H : Heap} (x sq : Nat) (lt : Int32) (A0 A1 A2 : rgA) (hX : va_P D vwCl (xW x sq lt A0 A1 A2) H) (r0 : rgV) (hk0 : r_ok r0) (hR0 : va_P D vwCl (rgW cI cA A0 r0) H) (f t : Int32) : Met l yX1_extreme wsX1_extreme ({ frames := 4, cells := 0, slots := 0, locals := 89 }) (ro_P D vwCl (tyL cI cA cJ) H [.ref x, .int f, .int t, .int 1]) (ro_Q (.int (tg r0 1 (sA r0 f) (sB r0 f t))) H) 0 0 ro_no := by
  refine Met.ofW (cc := cX1_extreme) (maxL := 5) (ret := (some .int)) (by decide) rfl ?_
  intro p e s m args below meth c s₁ B hml hv
  obtain ⟨rfl, hh, hK⟩ := hv
  subst hh
  have hx := B.exec
  have hb := B.bytes
  have hr := B.returns
  have hlocks := B.notSynchronized
  have hts := atoms_spec (ws := wsX1_extreme) B.pre
  have hown : s.vm.findClass RX1 = some m.cls := findClass_of_methodNamed B.named
  have hi1 : ∀ w ∈ wsX10, w ∈ wsX1_extreme := fun w h => List.mem_cons_of_mem _ (List.mem_append_left _ (List.mem_append_right _ h))
  have hi0 : ∀ w ∈ wsX00, w ∈ wsX1_extreme := fun w h => List.mem_cons_of_mem _ (List.mem_append_right _ h)
  have hl := lv_entry ([.ref x, .int f, .int t, .int 1]) (n := 5) (Nat.le_of_ble_eq_true rfl)
  rw [lg_entry_eq]
  generalize (lg_sl ([.ref x, .int f, .int t, .int 1]) ++ List.replicate (5 - (lg_sl ([.ref x, .int f, .int t, .int 1])).length) Slot.unset).toArray = ls at hl ⊢
  have hl : lv_has ls 5 [(0, .ref x), (1, .int f), (2, .int t), (3, .int 1)] := hl
  obtain ⟨k10, k20, k30, k40, k50, k60⟩ := id hk0
  refine lv_iload_n hx hb dX1_extreme_0 rfl (lv_at hl 3 rfl) ?_
  refine lv_iconst (v := 1) hx hb dX1_extreme_1 (by decide) ?_
  refine lv_icmp_eq (tgt := 12) hx hb dX1_extreme_2 (by decide) (fun c_2 => ?_) (fun c_2 => ?_)
  · refine lv_aload_n hx hb dX1_extreme_12 rfl (lv_at hl 0 rfl) ?_
    refine lv_iload_n hx hb dX1_extreme_13 rfl (lv_at hl 1 rfl) ?_
    refine ro_call (va_runV (As := [.int f]) (rest := []) ⟨hx, hb, hml, hown, hts⟩ (c_X1_firstIn l x sq lt A0 A1 A2 hX r0 hk0 hR0 f) (cwV 1 hts gX1_extreme_X1_firstIn rfl rfl rfl (by decide +kernel) ⟨Nat.le_of_ble_eq_true rfl, Nat.le_of_ble_eq_true rfl⟩) (ro_preV hK (va_recv hK hX (ci := 1) (q0 := 0) rfl rfl)) rfl rfl hl.1 rfl (lv_room (Nat.le_of_ble_eq_true rfl)) dX1_extreme_14 ⟨Nat.zero_le _, Nat.zero_le _⟩) ?_
    refine lv_istore (lv' := [(4, .int (nI (sA r0 f))), (0, .ref x), (1, .int f), (2, .int t), (3, .int 1)]) hx hb dX1_extreme_17 hl (by decide) rfl (fun ls hl => ?_)
    refine lv_aload_n hx hb dX1_extreme_19 rfl (lv_at hl 1 rfl) ?_
    refine va_get (D := D) (ci := 1) (v := .ref (a_o A0)) (C := RX1) (T := TX1) (N := 5) hx hb hts hi1 hown hK hX 0 rfl rfl 0 (by decide) (hts (.fieldLink RX1 23 "RingSeries" "points" "LRingSeries$Ring;") (by decide +kernel)) (fun _ h9 => h9) rfl dX1_extreme_20 ?_
    refine lv_iload hx hb dX1_extreme_23 (lv_at hl 0 rfl) ?_
    refine lv_aload_n hx hb dX1_extreme_25 rfl (lv_at hl 1 rfl) ?_
    refine lv_iload hx hb dX1_extreme_26 (lv_at hl 0 rfl) ?_
    refine lv_iload_n hx hb dX1_extreme_28 rfl (lv_at hl 3 rfl) ?_
    refine ro_call (va_runV (As := [.int (nI (sA r0 f)), .int t]) (rest := [.int (nI (sA r0 f)), .ref (a_o A0)]) ⟨hx, hb, hml, hown, hts⟩ (c_X1_endOf l x sq lt A0 A1 A2 hX r0 hk0 hR0 (sA r0 f) (sA_le _ _) t) (cwV 2 hts gX1_extreme_X1_endOf rfl rfl rfl (by decide +kernel) ⟨Nat.le_of_ble_eq_true rfl, Nat.le_of_ble_eq_true rfl⟩) (ro_preV hK (va_recv hK hX (ci := 1) (q0 := 0) rfl rfl)) rfl rfl hl.1 rfl (lv_room (Nat.le_of_ble_eq_true rfl)) dX1_extreme_29 ⟨Nat.zero_le _, Nat.zero_le _⟩) ?_
    refine lv_iload_n hx hb dX1_extreme_32 rfl (lv_at hl 4 rfl) ?_
    refine lv_if_ge (tgt := 40) hx hb dX1_extreme_33 (by decide) (fun c_33 => ?_) (fun c_33 => ?_)
    · refine lv_iconst (v := 1) hx hb dX1_extreme_40 (by decide) ?_
      refine ro_call (va_runV (As := [.int (nI (sA r0 f)), .int (nI (sB r0 f t)), .int 1]) (rest := []) ⟨hx, hb, hml, hown, hts⟩ (c_X0_together l A0 r0 hk0 hR0 1 (sA r0 f) (sB r0 f t) (by omega) (sB_le _ _ _) (sA_le _ _)) (cwV 3 hts gX1_extreme_X0_together rfl rfl rfl (by decide +kernel) ⟨Nat.le_of_ble_eq_true rfl, Nat.le_of_ble_eq_true rfl⟩) (ro_preV hK (va_recv hK hR0 (ci := 0) (q0 := 0) rfl rfl)) rfl rfl hl.1 rfl (lv_room (Nat.le_of_ble_eq_true rfl)) dX1_extreme_41 ⟨Nat.zero_le _, Nat.zero_le _⟩) ?_
      exact ro_iret hx hb hr rfl dX1_extreme_44 hlocks
    · exact absurd c_33 (by decide)
  · exact absurd rfl c_2
set_option maxHeartbeats 4000000 in
set_option maxRecDepth 100000 in
/-- extreme(from, to, sign) -/
theorem c_X1_extreme_m (l : Launch) {D : va_G} {cI cA cJ : ClassId} {H : Heap} (x sq : Nat) (lt : Int32) (A0 A1 A2 : rgA) (hX : va_P D vwCl (xW x sq lt A0 A1 A2) H) (r0 : rgV) (hk0 : r_ok r0) (hR0 : va_P D vwCl (rgW cI cA A0 r0) H) (f t : Int32) : Met l yX1_extreme wsX1_extreme ({ frames := 4, cells := 0, slots := 0, locals := 89 }) (ro_P D vwCl (tyL cI cA cJ) H [.ref x, .int f, .int t, .int (-1)]) (ro_Q (.int (tg r0 0 (sA r0 f) (sB r0 f t))) H) 0 0 ro_no := by
  refine Met.ofW (cc := cX1_extreme) (maxL := 5) (ret := (some .int)) (by decide) rfl ?_
  intro p e s m args below meth c s₁ B hml hv
  obtain ⟨rfl, hh, hK⟩ := hv
  subst hh
  have hx := B.exec
  have hb := B.bytes
  have hr := B.returns
  have hlocks := B.notSynchronized
  have hts := atoms_spec (ws := wsX1_extreme) B.pre
  have hown : s.vm.findClass RX1 = some m.cls := findClass_of_methodNamed B.named
  have hi1 : ∀ w ∈ wsX10, w ∈ wsX1_extreme := fun w h => List.mem_cons_of_mem _ (List.mem_append_left _ (List.mem_append_right _ h))
  have hi0 : ∀ w ∈ wsX00, w ∈ wsX1_extreme := fun w h => List.mem_cons_of_mem _ (List.mem_append_right _ h)
  have hl := lv_entry ([.ref x, .int f, .int t, .int (-1)]) (n := 5) (Nat.le_of_ble_eq_true rfl)
  rw [lg_entry_eq]
  generalize (lg_sl ([.ref x, .int f, .int t, .int (-1)]) ++ List.replicate (5 - (lg_sl ([.ref x, .int f, .int t, .int (-1)])).length) Slot.unset).toArray = ls at hl ⊢
  have hl : lv_has ls 5 [(0, .ref x), (1, .int f), (2, .int t), (3, .int (-1))] := hl
  obtain ⟨k10, k20, k30, k40, k50, k60⟩ := id hk0
  refine lv_iload_n hx hb dX1_extreme_0 rfl (lv_at hl 3 rfl) ?_
  refine lv_iconst (v := 1) hx hb dX1_extreme_1 (by decide) ?_
  refine lv_icmp_eq (tgt := 12) hx hb dX1_extreme_2 (by decide) (fun c_2 => ?_) (fun c_2 => ?_)
  · exact absurd c_2 (by decide)
  · refine lv_iload_n hx hb dX1_extreme_5 rfl (lv_at hl 3 rfl) ?_
    refine lv_iconst (v := (-1)) hx hb dX1_extreme_6 (by decide) ?_
    refine lv_icmp_eq (tgt := 12) hx hb dX1_extreme_7 (by decide) (fun c_7 => ?_) (fun c_7 => ?_)
    · refine lv_aload_n hx hb dX1_extreme_12 rfl (lv_at hl 0 rfl) ?_
      refine lv_iload_n hx hb dX1_extreme_13 rfl (lv_at hl 1 rfl) ?_
      refine ro_call (va_runV (As := [.int f]) (rest := []) ⟨hx, hb, hml, hown, hts⟩ (c_X1_firstIn l x sq lt A0 A1 A2 hX r0 hk0 hR0 f) (cwV 1 hts gX1_extreme_X1_firstIn rfl rfl rfl (by decide +kernel) ⟨Nat.le_of_ble_eq_true rfl, Nat.le_of_ble_eq_true rfl⟩) (ro_preV hK (va_recv hK hX (ci := 1) (q0 := 0) rfl rfl)) rfl rfl hl.1 rfl (lv_room (Nat.le_of_ble_eq_true rfl)) dX1_extreme_14 ⟨Nat.zero_le _, Nat.zero_le _⟩) ?_
      refine lv_istore (lv' := [(4, .int (nI (sA r0 f))), (0, .ref x), (1, .int f), (2, .int t), (3, .int (-1))]) hx hb dX1_extreme_17 hl (by decide) rfl (fun ls hl => ?_)
      refine lv_aload_n hx hb dX1_extreme_19 rfl (lv_at hl 1 rfl) ?_
      refine va_get (D := D) (ci := 1) (v := .ref (a_o A0)) (C := RX1) (T := TX1) (N := 5) hx hb hts hi1 hown hK hX 0 rfl rfl 0 (by decide) (hts (.fieldLink RX1 23 "RingSeries" "points" "LRingSeries$Ring;") (by decide +kernel)) (fun _ h9 => h9) rfl dX1_extreme_20 ?_
      refine lv_iload hx hb dX1_extreme_23 (lv_at hl 0 rfl) ?_
      refine lv_aload_n hx hb dX1_extreme_25 rfl (lv_at hl 1 rfl) ?_
      refine lv_iload hx hb dX1_extreme_26 (lv_at hl 0 rfl) ?_
      refine lv_iload_n hx hb dX1_extreme_28 rfl (lv_at hl 3 rfl) ?_
      refine ro_call (va_runV (As := [.int (nI (sA r0 f)), .int t]) (rest := [.int (nI (sA r0 f)), .ref (a_o A0)]) ⟨hx, hb, hml, hown, hts⟩ (c_X1_endOf l x sq lt A0 A1 A2 hX r0 hk0 hR0 (sA r0 f) (sA_le _ _) t) (cwV 2 hts gX1_extreme_X1_endOf rfl rfl rfl (by decide +kernel) ⟨Nat.le_of_ble_eq_true rfl, Nat.le_of_ble_eq_true rfl⟩) (ro_preV hK (va_recv hK hX (ci := 1) (q0 := 0) rfl rfl)) rfl rfl hl.1 rfl (lv_room (Nat.le_of_ble_eq_true rfl)) dX1_extreme_29 ⟨Nat.zero_le _, Nat.zero_le _⟩) ?_
      refine lv_iload_n hx hb dX1_extreme_32 rfl (lv_at hl 4 rfl) ?_
      refine lv_if_ge (tgt := 40) hx hb dX1_extreme_33 (by decide) (fun c_33 => ?_) (fun c_33 => ?_)
      · exact absurd c_33 (by decide)
      · refine lv_iconst (v := 0) hx hb dX1_extreme_36 (by decide) ?_
        refine lv_goto (tgt := 41) hx hb dX1_extreme_37 (by decide) ?_
        refine ro_call (va_runV (As := [.int (nI (sA r0 f)), .int (nI (sB r0 f t)), .int 0]) (rest := []) ⟨hx, hb, hml, hown, hts⟩ (c_X0_together l A0 r0 hk0 hR0 0 (sA r0 f) (sB r0 f t) (by omega) (sB_le _ _ _) (sA_le _ _)) (cwV 3 hts gX1_extreme_X0_together rfl rfl rfl (by decide +kernel) ⟨Nat.le_of_ble_eq_true rfl, Nat.le_of_ble_eq_true rfl⟩) (ro_preV hK (va_recv hK hR0 (ci := 0) (q0 := 0) rfl rfl)) rfl rfl hl.1 rfl (lv_room (Nat.le_of_ble_eq_true rfl)) dX1_extreme_41 ⟨Nat.zero_le _, Nat.zero_le _⟩) ?_
        exact ro_iret hx hb hr rfl dX1_extreme_44 hlocks
    · exact absurd rfl c_7
set_option maxHeartbeats 4000000 in
set_option maxRecDepth 100000 in
/-- extreme(from, to, sign) -/
theorem c_X1_extreme_o (l : Launch) {D : va_G} {cI cA cJ : ClassId} {H : Heap} (x sq : Nat) (lt : Int32) (A0 A1 A2 : rgA) (hX : va_P D vwCl (xW x sq lt A0 A1 A2) H) (r0 : rgV) (hk0 : r_ok r0) (hR0 : va_P D vwCl (rgW cI cA A0 r0) H) (f t : Int32) (g : Int32) (h1 : ¬ g = 1) (h2 : ¬ g = -1) : Met l yX1_extreme wsX1_extreme ({ frames := 4, cells := 0, slots := 0, locals := 89 }) (ro_P D vwCl (tyL cI cA cJ) H [.ref x, .int f, .int t, .int g]) (ro_Q (.int 0) H) 0 0 ro_no := by
  refine Met.ofW (cc := cX1_extreme) (maxL := 5) (ret := (some .int)) (by decide) rfl ?_
  intro p e s m args below meth c s₁ B hml hv
  obtain ⟨rfl, hh, hK⟩ := hv
  subst hh
  have hx := B.exec
  have hb := B.bytes
  have hr := B.returns
  have hlocks := B.notSynchronized
  have hts := atoms_spec (ws := wsX1_extreme) B.pre
  have hown : s.vm.findClass RX1 = some m.cls := findClass_of_methodNamed B.named
  have hi1 : ∀ w ∈ wsX10, w ∈ wsX1_extreme := fun w h => List.mem_cons_of_mem _ (List.mem_append_left _ (List.mem_append_right _ h))
  have hi0 : ∀ w ∈ wsX00, w ∈ wsX1_extreme := fun w h => List.mem_cons_of_mem _ (List.mem_append_right _ h)
  have hl := lv_entry ([.ref x, .int f, .int t, .int g]) (n := 5) (Nat.le_of_ble_eq_true rfl)
  rw [lg_entry_eq]
  generalize (lg_sl ([.ref x, .int f, .int t, .int g]) ++ List.replicate (5 - (lg_sl ([.ref x, .int f, .int t, .int g])).length) Slot.unset).toArray = ls at hl ⊢
  have hl : lv_has ls 5 [(0, .ref x), (1, .int f), (2, .int t), (3, .int g)] := hl
  obtain ⟨k10, k20, k30, k40, k50, k60⟩ := id hk0
  refine lv_iload_n hx hb dX1_extreme_0 rfl (lv_at hl 3 rfl) ?_
  refine lv_iconst (v := 1) hx hb dX1_extreme_1 (by decide) ?_
  refine lv_icmp_eq (tgt := 12) hx hb dX1_extreme_2 (by decide) (fun c_2 => ?_) (fun c_2 => ?_)
  · exact absurd c_2 h1
  · refine lv_iload_n hx hb dX1_extreme_5 rfl (lv_at hl 3 rfl) ?_
    refine lv_iconst (v := (-1)) hx hb dX1_extreme_6 (by decide) ?_
    refine lv_icmp_eq (tgt := 12) hx hb dX1_extreme_7 (by decide) (fun c_7 => ?_) (fun c_7 => ?_)
    · exact absurd c_7 h2
    · refine lv_iconst (v := 0) hx hb dX1_extreme_10 (by decide) ?_
      exact ro_iret hx hb hr rfl dX1_extreme_11 hlocks
set_option maxHeartbeats 4000000 in
set_option maxRecDepth 100000 in
/-- sum(from, to) -/
theorem c_X1_sum (l : Launch) {D : va_G} {cI cA cJ : ClassId} {H : Heap} (x sq : Nat) (lt : Int32) (A0 A1 A2 : rgA) (hX : va_P D vwCl (xW x sq lt A0 A1 A2) H) (r0 : rgV) (hk0 : r_ok r0) (hR0 : va_P D vwCl (rgW cI cA A0 r0) H) (f t : Int32) : Met l yX1_sum wsX1_sum ({ frames := 4, cells := 0, slots := 0, locals := 89 }) (ro_P D vwCl (tyL cI cA cJ) H [.ref x, .int f, .int t]) (ro_Q (.long (smr r0 (sB r0 f t - sA r0 f) (sA r0 f) 0)) H) 0 0 ro_no := by
  refine Met.ofW (cc := cX1_sum) (maxL := 8) (ret := (some .long)) (by decide) rfl ?_
  intro p e s m args below meth c s₁ B hml hv
  obtain ⟨rfl, hh, hK⟩ := hv
  subst hh
  have hx := B.exec
  have hb := B.bytes
  have hr := B.returns
  have hlocks := B.notSynchronized
  have hts := atoms_spec (ws := wsX1_sum) B.pre
  have hown : s.vm.findClass RX1 = some m.cls := findClass_of_methodNamed B.named
  have hi1 : ∀ w ∈ wsX10, w ∈ wsX1_sum := fun w h => List.mem_cons_of_mem _ (List.mem_append_left _ (List.mem_append_right _ h))
  have hi0 : ∀ w ∈ wsX00, w ∈ wsX1_sum := fun w h => List.mem_cons_of_mem _ (List.mem_append_right _ h)
  have hl := lv_entry ([.ref x, .int f, .int t]) (n := 8) (Nat.le_of_ble_eq_true rfl)
  rw [lg_entry_eq]
  generalize (lg_sl ([.ref x, .int f, .int t]) ++ List.replicate (8 - (lg_sl ([.ref x, .int f, .int t])).length) Slot.unset).toArray = ls at hl ⊢
  have hl : lv_has ls 8 [(0, .ref x), (1, .int f), (2, .int t)] := hl
  obtain ⟨k10, k20, k30, k40, k50, k60⟩ := id hk0
  have b1 := sA_le r0 f
  have b2 := sB_le r0 f t
  have b3 := sB_ge r0 f t
  have loop : ∀ (n : Nat) (i : Nat) (y : Int64) (ls : Array Slot), i + n = sB r0 f t → smr r0 n i y = smr r0 (sB r0 f t - sA r0 f) (sA r0 f) 0 → lv_has ls 8 [(7, .int (nI i)), (5, .long y), (0, .ref x), (1, .int f), (2, .int t), (3, .int (nI (sA r0 f))), (4, .int (nI (sB r0 f t)))] → W p l e (headSpec wsX1_sum ({ frames := 4, cells := 0, slots := 0, locals := 89 })).room s m ([.ref x, .int f, .int t] : List Value).toArray below meth c s.heap [] 0 0 (MQ below (ro_Q (.long (smr r0 (sB r0 f t - sA r0 f) (sA r0 f) 0)) s.heap) ([.ref x, .int f, .int t] : List Value).toArray s 0 0 ro_no) (F0 m 20 ls []) := by
    intro n
    induction n with
    | zero =>
      intro i y ls hi hf hl
      refine lv_iload hx hb dX1_sum_20 (lv_at hl 0 rfl) ?_
      refine lv_iload hx hb dX1_sum_22 (lv_at hl 6 rfl) ?_
      refine lv_icmp_ge (tgt := 45) hx hb dX1_sum_24 (by decide) (fun c_24 => ?_) (fun c_24 => ?_)
      · have c_24 := (nI_leI (a := sB r0 f t) (b := i) (by omega) (by omega)).mp c_24
        refine lv_lload hx hb dX1_sum_45 (lv_at hl 1 rfl) ?_
        exact ro_lret hx hb hr (by rw [← hf]; rfl) dX1_sum_47 hlocks
      · have c_24 := mt (nI_leI (a := sB r0 f t) (b := i) (by omega) (by omega)).mpr c_24
        exact absurd c_24 (by omega)
    | succ n ih =>
      intro i y ls hi hf hl
      refine lv_iload hx hb dX1_sum_20 (lv_at hl 0 rfl) ?_
      refine lv_iload hx hb dX1_sum_22 (lv_at hl 6 rfl) ?_
      refine lv_icmp_ge (tgt := 45) hx hb dX1_sum_24 (by decide) (fun c_24 => ?_) (fun c_24 => ?_)
      · have c_24 := (nI_leI (a := sB r0 f t) (b := i) (by omega) (by omega)).mp c_24
        exact absurd c_24 (by omega)
      · have c_24 := mt (nI_leI (a := sB r0 f t) (b := i) (by omega) (by omega)).mpr c_24
        refine lv_lload hx hb dX1_sum_27 (lv_at hl 1 rfl) ?_
        refine lv_aload_n hx hb dX1_sum_29 rfl (lv_at hl 2 rfl) ?_
        refine lv_iload hx hb dX1_sum_30 (lv_at hl 0 rfl) ?_
        refine ro_call (va_runV (As := [.int (nI i)]) (rest := [.long y]) ⟨hx, hb, hml, hown, hts⟩ (c_X1_valueOf l x sq lt A0 A1 A2 hX r0 hk0 hR0 i (by omega)) (cwV 1 hts gX1_sum_X1_valueOf rfl rfl rfl (by decide +kernel) ⟨Nat.le_of_ble_eq_true rfl, Nat.le_of_ble_eq_true rfl⟩) (ro_preV hK (va_recv hK hX (ci := 1) (q0 := 0) rfl rfl)) rfl rfl hl.1 rfl (lv_room (Nat.le_of_ble_eq_true rfl)) dX1_sum_32 ⟨Nat.zero_le _, Nat.zero_le _⟩) ?_
        refine lv_i2l hx hb dX1_sum_35 rfl ?_
        refine lv_ladd hx hb dX1_sum_36 ?_
        refine lv_lstore (lv' := [(5, .long (y + ((v_G r0 2 i).toInt64))), (7, .int (nI i)), (0, .ref x), (1, .int f), (2, .int t), (3, .int (nI (sA r0 f))), (4, .int (nI (sB r0 f t)))]) hx hb dX1_sum_37 hl (by decide) rfl (fun ls hl => ?_)
        refine lv_iinc (v := nI (i + 1)) (lv' := [(7, .int (nI (i + 1))), (5, .long (y + ((v_G r0 2 i).toInt64))), (0, .ref x), (1, .int f), (2, .int t), (3, .int (nI (sA r0 f))), (4, .int (nI (sB r0 f t)))]) hx hb dX1_sum_39 hl (k := 1) rfl (inc1 _) (by decide) rfl (fun ls hl => ?_)
        refine lv_goto (tgt := 20) hx hb dX1_sum_42 (by decide) ?_
        exact ih (i + 1) _ ls (by omega) hf (lv_sub hl [0, 1, 2, 3, 4, 5, 6] rfl)
  refine lv_aload_n hx hb dX1_sum_0 rfl (lv_at hl 0 rfl) ?_
  refine lv_iload_n hx hb dX1_sum_1 rfl (lv_at hl 1 rfl) ?_
  refine ro_call (va_runV (As := [.int f]) (rest := []) ⟨hx, hb, hml, hown, hts⟩ (c_X1_firstIn l x sq lt A0 A1 A2 hX r0 hk0 hR0 f) (cwV 1 hts gX1_sum_X1_firstIn rfl rfl rfl (by decide +kernel) ⟨Nat.le_of_ble_eq_true rfl, Nat.le_of_ble_eq_true rfl⟩) (ro_preV hK (va_recv hK hX (ci := 1) (q0 := 0) rfl rfl)) rfl rfl hl.1 rfl (lv_room (Nat.le_of_ble_eq_true rfl)) dX1_sum_2 ⟨Nat.zero_le _, Nat.zero_le _⟩) ?_
  refine lv_istore_n (lv' := [(3, .int (nI (sA r0 f))), (0, .ref x), (1, .int f), (2, .int t)]) hx hb dX1_sum_5 rfl hl (by decide) rfl (fun ls hl => ?_)
  refine lv_aload_n hx hb dX1_sum_6 rfl (lv_at hl 1 rfl) ?_
  refine lv_iload_n hx hb dX1_sum_7 rfl (lv_at hl 0 rfl) ?_
  refine lv_iload_n hx hb dX1_sum_8 rfl (lv_at hl 3 rfl) ?_
  refine ro_call (va_runV (As := [.int (nI (sA r0 f)), .int t]) (rest := []) ⟨hx, hb, hml, hown, hts⟩ (c_X1_endOf l x sq lt A0 A1 A2 hX r0 hk0 hR0 (sA r0 f) (sA_le _ _) t) (cwV 2 hts gX1_sum_X1_endOf rfl rfl rfl (by decide +kernel) ⟨Nat.le_of_ble_eq_true rfl, Nat.le_of_ble_eq_true rfl⟩) (ro_preV hK (va_recv hK hX (ci := 1) (q0 := 0) rfl rfl)) rfl rfl hl.1 rfl (lv_room (Nat.le_of_ble_eq_true rfl)) dX1_sum_9 ⟨Nat.zero_le _, Nat.zero_le _⟩) ?_
  refine lv_istore (lv' := [(4, .int (nI (sB r0 f t))), (3, .int (nI (sA r0 f))), (0, .ref x), (1, .int f), (2, .int t)]) hx hb dX1_sum_12 hl (by decide) rfl (fun ls hl => ?_)
  refine lv_lconst (v := 0) hx hb dX1_sum_14 (by decide) ?_
  refine lv_lstore (lv' := [(5, .long 0), (4, .int (nI (sB r0 f t))), (3, .int (nI (sA r0 f))), (0, .ref x), (1, .int f), (2, .int t)]) hx hb dX1_sum_15 hl (by decide) rfl (fun ls hl => ?_)
  refine lv_iload_n hx hb dX1_sum_17 rfl (lv_at hl 2 rfl) ?_
  refine lv_istore (lv' := [(7, .int (nI (sA r0 f))), (5, .long 0), (4, .int (nI (sB r0 f t))), (3, .int (nI (sA r0 f))), (0, .ref x), (1, .int f), (2, .int t)]) hx hb dX1_sum_18 hl (by decide) rfl (fun ls hl => ?_)
  exact loop (sB r0 f t - sA r0 f) (sA r0 f) 0 ls (by omega) rfl (lv_sub hl [0, 1, 4, 5, 6, 3, 2] rfl)
set_option maxHeartbeats 4000000 in
set_option maxRecDepth 100000 in
/-- at(time, smooth) -/
theorem c_X1_at (l : Launch) {D : va_G} {cI cA cJ : ClassId} {H : Heap} (x sq : Nat) (lt : Int32) (A0 A1 A2 : rgA) (hX : va_P D vwCl (xW x sq lt A0 A1 A2) H) (r0 : rgV) (hk0 : r_ok r0) (hR0 : va_P D vwCl (rgW cI cA A0 r0) H) (t sm : Int32) : Met l yX1_at wsX1_at ({ frames := 5, cells := 0, slots := 0, locals := 113 }) (ro_P D vwCl (tyL cI cA cJ) H [.ref x, .int t, .int sm]) (ro_Q (.int (atV r0 t sm)) H) 0 0 ro_no := by
  refine Met.ofW (cc := cX1_at) (maxL := 5) (ret := (some .int)) (by decide) rfl ?_
  intro p e s m args below meth c s₁ B hml hv
  obtain ⟨rfl, hh, hK⟩ := hv
  subst hh
  have hx := B.exec
  have hb := B.bytes
  have hr := B.returns
  have hlocks := B.notSynchronized
  have hts := atoms_spec (ws := wsX1_at) B.pre
  have hown : s.vm.findClass RX1 = some m.cls := findClass_of_methodNamed B.named
  have hi1 : ∀ w ∈ wsX10, w ∈ wsX1_at := fun w h => List.mem_cons_of_mem _ (List.mem_append_left _ (List.mem_append_right _ h))
  have hi0 : ∀ w ∈ wsX00, w ∈ wsX1_at := fun w h => List.mem_cons_of_mem _ (List.mem_append_right _ h)
  have hl := lv_entry ([.ref x, .int t, .int sm]) (n := 5) (Nat.le_of_ble_eq_true rfl)
  rw [lg_entry_eq]
  generalize (lg_sl ([.ref x, .int t, .int sm]) ++ List.replicate (5 - (lg_sl ([.ref x, .int t, .int sm])).length) Slot.unset).toArray = ls at hl ⊢
  have hl : lv_has ls 5 [(0, .ref x), (1, .int t), (2, .int sm)] := hl
  obtain ⟨k10, k20, k30, k40, k50, k60⟩ := id hk0
  have b1 : ff r0 (t.toInt64 + 1) 0 ≤ v_h r0 := ff_le (Nat.zero_le _)
  refine lv_aload_n hx hb dX1_at_0 rfl (lv_at hl 0 rfl) ?_
  refine va_get (D := D) (ci := 1) (v := .ref (a_o A0)) (C := RX1) (T := TX1) (N := 5) hx hb hts hi1 hown hK hX 0 rfl rfl 0 (by decide) (hts (.fieldLink RX1 23 "RingSeries" "points" "LRingSeries$Ring;") (by decide +kernel)) (fun _ h9 => h9) rfl dX1_at_1 ?_
  refine lv_iconst (v := 0) hx hb dX1_at_4 (by decide) ?_
  refine lv_iload_n hx hb dX1_at_5 rfl (lv_at hl 1 rfl) ?_
  refine lv_i2l hx hb dX1_at_6 rfl ?_
  refine lv_lconst (v := 1) hx hb dX1_at_7 (by decide) ?_
  refine lv_ladd hx hb dX1_at_8 ?_
  refine ro_call (va_runV (As := [.int 0, .long (((t).toInt64) + 1)]) (rest := []) ⟨hx, hb, hml, hown, hts⟩ (c_X0_firstFrom l A0 r0 hk0 hR0 0 (((t).toInt64) + 1) (by omega)) (cwV 2 hts gX1_at_X0_firstFrom rfl rfl rfl (by decide +kernel) ⟨Nat.le_of_ble_eq_true rfl, Nat.le_of_ble_eq_true rfl⟩) (ro_preV hK (va_recv hK hR0 (ci := 0) (q0 := 0) rfl rfl)) rfl rfl hl.1 rfl (lv_room (Nat.le_of_ble_eq_true rfl)) dX1_at_9 ⟨Nat.zero_le _, Nat.zero_le _⟩) ?_
  refine lv_istore_n (lv' := [(3, .int (nI (ff r0 (((t).toInt64) + 1) 0))), (0, .ref x), (1, .int t), (2, .int sm)]) hx hb dX1_at_12 rfl hl (by decide) rfl (fun ls hl => ?_)
  refine lv_iload_n hx hb dX1_at_13 rfl (lv_at hl 0 rfl) ?_
  refine lv_if_ne (tgt := 19) hx hb dX1_at_14 (by decide) (fun c_14 => ?_) (fun c_14 => ?_)
  · have c_14 := mt (nI_eq (a := ff r0 (((t).toInt64) + 1) 0) (b := 0) (by omega) (by omega)).mpr c_14
    refine lv_iload_n hx hb dX1_at_19 rfl (lv_at hl 3 rfl) ?_
    refine lv_if_eq (tgt := 38) hx hb dX1_at_20 (by decide) (fun c_20 => ?_) (fun c_20 => ?_)
    · refine lv_iconst (v := 0) hx hb dX1_at_38 (by decide) ?_
      refine lv_istore (lv' := [(4, .int 0), (3, .int (nI (ff r0 (((t).toInt64) + 1) 0))), (0, .ref x), (1, .int t), (2, .int sm)]) hx hb dX1_at_39 hl (by decide) rfl (fun ls hl => ?_)
      refine lv_iload hx hb dX1_at_41 (lv_at hl 0 rfl) ?_
      refine lv_if_eq (tgt := 57) hx hb dX1_at_43 (by decide) (fun c_43 => ?_) (fun c_43 => ?_)
      · refine lv_aload_n hx hb dX1_at_57 rfl (lv_at hl 2 rfl) ?_
        refine lv_iload_n hx hb dX1_at_58 rfl (lv_at hl 1 rfl) ?_
        refine lv_iconst (v := 1) hx hb dX1_at_59 (by decide) ?_
        refine lv_isub hx hb dX1_at_60 ?_
        refine top_i (pk_sub (b := 1) (by omega)) ?_
        refine ro_call (va_runV (As := [.int (nI ((ff r0 (((t).toInt64) + 1) 0) - 1))]) (rest := []) ⟨hx, hb, hml, hown, hts⟩ (c_X1_valueOf l x sq lt A0 A1 A2 hX r0 hk0 hR0 ((ff r0 (((t).toInt64) + 1) 0) - 1) (by omega)) (cwV 1 hts gX1_at_X1_valueOf rfl rfl rfl (by decide +kernel) ⟨Nat.le_of_ble_eq_true rfl, Nat.le_of_ble_eq_true rfl⟩) (ro_preV hK (va_recv hK hX (ci := 1) (q0 := 0) rfl rfl)) rfl rfl hl.1 rfl (lv_room (Nat.le_of_ble_eq_true rfl)) dX1_at_61 ⟨Nat.zero_le _, Nat.zero_le _⟩) ?_
        exact ro_iret hx hb hr (by unfold atV; rw [if_neg c_14, if_neg (fun z => z.1 c_20)]) dX1_at_64 hlocks
      · exact absurd rfl c_43
    · refine lv_iload_n hx hb dX1_at_23 rfl (lv_at hl 0 rfl) ?_
      refine lv_aload_n hx hb dX1_at_24 rfl (lv_at hl 1 rfl) ?_
      refine va_get (D := D) (ci := 1) (v := .ref (a_o A0)) (C := RX1) (T := TX1) (N := 5) hx hb hts hi1 hown hK hX 0 rfl rfl 0 (by decide) (hts (.fieldLink RX1 23 "RingSeries" "points" "LRingSeries$Ring;") (by decide +kernel)) (fun _ h9 => h9) rfl dX1_at_25 ?_
      refine ro_call (va_runV (As := []) (rest := [.int (nI (ff r0 (((t).toInt64) + 1) 0))]) ⟨hx, hb, hml, hown, hts⟩ (c_X0_size l A0 r0 hk0 hR0) (cwV 0 hts gX1_at_X0_size rfl rfl rfl (by decide +kernel) ⟨Nat.le_of_ble_eq_true rfl, Nat.le_of_ble_eq_true rfl⟩) (ro_preV hK (va_recv hK hR0 (ci := 0) (q0 := 0) rfl rfl)) rfl rfl hl.1 rfl (lv_room (Nat.le_of_ble_eq_true rfl)) dX1_at_28 ⟨Nat.zero_le _, Nat.zero_le _⟩) ?_
      refine lv_icmp_ge (tgt := 38) hx hb dX1_at_31 (by decide) (fun c_31 => ?_) (fun c_31 => ?_)
      · have c_31 := (nI_leI (a := v_h r0) (b := ff r0 (((t).toInt64) + 1) 0) (by omega) (by omega)).mp c_31
        refine lv_iconst (v := 0) hx hb dX1_at_38 (by decide) ?_
        refine lv_istore (lv' := [(4, .int 0), (3, .int (nI (ff r0 (((t).toInt64) + 1) 0))), (0, .ref x), (1, .int t), (2, .int sm)]) hx hb dX1_at_39 hl (by decide) rfl (fun ls hl => ?_)
        refine lv_iload hx hb dX1_at_41 (lv_at hl 0 rfl) ?_
        refine lv_if_eq (tgt := 57) hx hb dX1_at_43 (by decide) (fun c_43 => ?_) (fun c_43 => ?_)
        · refine lv_aload_n hx hb dX1_at_57 rfl (lv_at hl 2 rfl) ?_
          refine lv_iload_n hx hb dX1_at_58 rfl (lv_at hl 1 rfl) ?_
          refine lv_iconst (v := 1) hx hb dX1_at_59 (by decide) ?_
          refine lv_isub hx hb dX1_at_60 ?_
          refine top_i (pk_sub (b := 1) (by omega)) ?_
          refine ro_call (va_runV (As := [.int (nI ((ff r0 (((t).toInt64) + 1) 0) - 1))]) (rest := []) ⟨hx, hb, hml, hown, hts⟩ (c_X1_valueOf l x sq lt A0 A1 A2 hX r0 hk0 hR0 ((ff r0 (((t).toInt64) + 1) 0) - 1) (by omega)) (cwV 1 hts gX1_at_X1_valueOf rfl rfl rfl (by decide +kernel) ⟨Nat.le_of_ble_eq_true rfl, Nat.le_of_ble_eq_true rfl⟩) (ro_preV hK (va_recv hK hX (ci := 1) (q0 := 0) rfl rfl)) rfl rfl hl.1 rfl (lv_room (Nat.le_of_ble_eq_true rfl)) dX1_at_61 ⟨Nat.zero_le _, Nat.zero_le _⟩) ?_
          exact ro_iret hx hb hr (by unfold atV; rw [if_neg c_14, if_neg (fun z => absurd z.2 (by omega))]) dX1_at_64 hlocks
        · exact absurd rfl c_43
      · have c_31 := mt (nI_leI (a := v_h r0) (b := ff r0 (((t).toInt64) + 1) 0) (by omega) (by omega)).mpr c_31
        refine lv_iconst (v := 1) hx hb dX1_at_34 (by decide) ?_
        refine lv_goto (tgt := 39) hx hb dX1_at_35 (by decide) ?_
        refine lv_istore (lv' := [(4, .int 1), (3, .int (nI (ff r0 (((t).toInt64) + 1) 0))), (0, .ref x), (1, .int t), (2, .int sm)]) hx hb dX1_at_39 hl (by decide) rfl (fun ls hl => ?_)
        refine lv_iload hx hb dX1_at_41 (lv_at hl 0 rfl) ?_
        refine lv_if_eq (tgt := 57) hx hb dX1_at_43 (by decide) (fun c_43 => ?_) (fun c_43 => ?_)
        · exact absurd c_43 (by decide)
        · refine lv_aload_n hx hb dX1_at_46 rfl (lv_at hl 2 rfl) ?_
          refine lv_iload_n hx hb dX1_at_47 rfl (lv_at hl 1 rfl) ?_
          refine lv_iconst (v := 1) hx hb dX1_at_48 (by decide) ?_
          refine lv_isub hx hb dX1_at_49 ?_
          refine top_i (pk_sub (b := 1) (by omega)) ?_
          refine lv_iload_n hx hb dX1_at_50 rfl (lv_at hl 3 rfl) ?_
          refine ro_call (va_runV (As := [.int (nI ((ff r0 (((t).toInt64) + 1) 0) - 1)), .int t]) (rest := []) ⟨hx, hb, hml, hown, hts⟩ (c_X1_onLine l x sq lt A0 A1 A2 hX r0 hk0 hR0 ((ff r0 (((t).toInt64) + 1) 0) - 1) (by omega) t) (cwV 2 hts gX1_at_X1_onLine rfl rfl rfl (by decide +kernel) ⟨Nat.le_of_ble_eq_true rfl, Nat.le_of_ble_eq_true rfl⟩) (ro_preV hK (va_recv hK hX (ci := 1) (q0 := 0) rfl rfl)) rfl rfl hl.1 rfl (lv_room (Nat.le_of_ble_eq_true rfl)) dX1_at_51 ⟨Nat.zero_le _, Nat.zero_le _⟩) ?_
          refine lv_goto (tgt := 64) hx hb dX1_at_54 (by decide) ?_
          exact ro_iret hx hb hr (by unfold atV; rw [if_neg c_14, if_pos ⟨c_20, by omega⟩]) dX1_at_64 hlocks
  · have c_14 := (nI_eq (a := ff r0 (((t).toInt64) + 1) 0) (b := 0) (by omega) (by omega)).mp c_14
    refine lv_iconst (v := 0) hx hb dX1_at_17 (by decide) ?_
    exact ro_iret hx hb hr (by unfold atV; rw [if_pos c_14]) dX1_at_18 hlocks
set_option maxHeartbeats 4000000 in
set_option maxRecDepth 100000 in
/-- steepest(from, to) -/
theorem c_X1_steepest (l : Launch) {D : va_G} {cI cA cJ : ClassId} {H : Heap} (x sq : Nat) (lt : Int32) (A0 A1 A2 : rgA) (hX : va_P D vwCl (xW x sq lt A0 A1 A2) H) (r0 : rgV) (hk0 : r_ok r0) (hR0 : va_P D vwCl (rgW cI cA A0 r0) H) (f t : Int32) : Met l yX1_steepest wsX1_steepest ({ frames := 4, cells := 0, slots := 0, locals := 89 }) (ro_P D vwCl (tyL cI cA cJ) H [.ref x, .int f, .int t]) (ro_Q (.int (spV r0 f t)) H) 0 0 ro_no := by
  refine Met.ofW (cc := cX1_steepest) (maxL := 11) (ret := (some .int)) (by decide) rfl ?_
  intro p e s m args below meth c s₁ B hml hv
  obtain ⟨rfl, hh, hK⟩ := hv
  subst hh
  have hx := B.exec
  have hb := B.bytes
  have hr := B.returns
  have hlocks := B.notSynchronized
  have hts := atoms_spec (ws := wsX1_steepest) B.pre
  have hown : s.vm.findClass RX1 = some m.cls := findClass_of_methodNamed B.named
  have hi1 : ∀ w ∈ wsX10, w ∈ wsX1_steepest := fun w h => List.mem_cons_of_mem _ (List.mem_append_left _ (List.mem_append_right _ h))
  have hi0 : ∀ w ∈ wsX00, w ∈ wsX1_steepest := fun w h => List.mem_cons_of_mem _ (List.mem_append_right _ h)
  have hl := lv_entry ([.ref x, .int f, .int t]) (n := 11) (Nat.le_of_ble_eq_true rfl)
  rw [lg_entry_eq]
  generalize (lg_sl ([.ref x, .int f, .int t]) ++ List.replicate (11 - (lg_sl ([.ref x, .int f, .int t])).length) Slot.unset).toArray = ls at hl ⊢
  have hl : lv_has ls 11 [(0, .ref x), (1, .int f), (2, .int t)] := hl
  obtain ⟨k10, k20, k30, k40, k50, k60⟩ := id hk0
  have b1 := sA_le r0 f
  have b2 := sB_le r0 f t
  have b3 := sB_ge r0 f t
  have loop : ∀ (n : Nat) (i : Nat) (y : Int64) (bs : Int32) (ls : Array Slot), ((sB r0 f t ≤ i ∧ n = 0) ∨ i + n = sB r0 f t) ∧ 1 ≤ i ∧ i ≤ v_h r0 + 1 → spr r0 n i bs y = spV r0 f t → lv_has ls 11 [(8, .int (nI i)), (6, .long y), (5, .int bs), (0, .ref x), (1, .int f), (2, .int t), (3, .int (nI (sA r0 f))), (4, .int (nI (sB r0 f t)))] → W p l e (headSpec wsX1_steepest ({ frames := 4, cells := 0, slots := 0, locals := 89 })).room s m ([.ref x, .int f, .int t] : List Value).toArray below meth c s.heap [] 0 0 (MQ below (ro_Q (.int (spV r0 f t)) s.heap) ([.ref x, .int f, .int t] : List Value).toArray s 0 0 ro_no) (F0 m 25 ls []) := by
    intro n
    induction n with
    | zero =>
      intro i y bs ls hi hf hl
      refine lv_iload hx hb dX1_steepest_25 (lv_at hl 0 rfl) ?_
      refine lv_iload hx hb dX1_steepest_27 (lv_at hl 7 rfl) ?_
      refine lv_icmp_ge (tgt := 68) hx hb dX1_steepest_29 (by decide) (fun c_29 => ?_) (fun c_29 => ?_)
      · have c_29 := (nI_leI (a := sB r0 f t) (b := i) (by omega) (by omega)).mp c_29
        refine lv_iload hx hb dX1_steepest_68 (lv_at hl 2 rfl) ?_
        exact ro_iret hx hb hr (by rw [← hf]; rfl) dX1_steepest_70 hlocks
      · have c_29 := mt (nI_leI (a := sB r0 f t) (b := i) (by omega) (by omega)).mpr c_29
        exact absurd c_29 (by omega)
    | succ n ih =>
      intro i y bs ls hi hf hl
      refine lv_iload hx hb dX1_steepest_25 (lv_at hl 0 rfl) ?_
      refine lv_iload hx hb dX1_steepest_27 (lv_at hl 7 rfl) ?_
      refine lv_icmp_ge (tgt := 68) hx hb dX1_steepest_29 (by decide) (fun c_29 => ?_) (fun c_29 => ?_)
      · have c_29 := (nI_leI (a := sB r0 f t) (b := i) (by omega) (by omega)).mp c_29
        exact absurd c_29 (by omega)
      · have c_29 := mt (nI_leI (a := sB r0 f t) (b := i) (by omega) (by omega)).mpr c_29
        refine lv_aload_n hx hb dX1_steepest_32 rfl (lv_at hl 3 rfl) ?_
        refine lv_iload hx hb dX1_steepest_33 (lv_at hl 0 rfl) ?_
        refine ro_call (va_runV (As := [.int (nI i)]) (rest := []) ⟨hx, hb, hml, hown, hts⟩ (c_X1_riseTo l x sq lt A0 A1 A2 hX r0 hk0 hR0 i (by omega) (by omega)) (cwV 1 hts gX1_steepest_X1_riseTo rfl rfl rfl (by decide +kernel) ⟨Nat.le_of_ble_eq_true rfl, Nat.le_of_ble_eq_true rfl⟩) (ro_preV hK (va_recv hK hX (ci := 1) (q0 := 0) rfl rfl)) rfl rfl hl.1 rfl (lv_room (Nat.le_of_ble_eq_true rfl)) dX1_steepest_35 ⟨Nat.zero_le _, Nat.zero_le _⟩) ?_
        refine lv_lstore (lv' := [(9, .long (rz r0 i)), (8, .int (nI i)), (6, .long y), (5, .int bs), (0, .ref x), (1, .int f), (2, .int t), (3, .int (nI (sA r0 f))), (4, .int (nI (sB r0 f t)))]) hx hb dX1_steepest_38 hl (by decide) rfl (fun ls hl => ?_)
        refine lv_iload hx hb dX1_steepest_40 (lv_at hl 3 rfl) ?_
        refine lv_iconst (v := (-1)) hx hb dX1_steepest_42 (by decide) ?_
        refine lv_icmp_eq (tgt := 54) hx hb dX1_steepest_43 (by decide) (fun c_43 => ?_) (fun c_43 => ?_)
        · refine lv_iload hx hb dX1_steepest_54 (lv_at hl 1 rfl) ?_
          refine lv_istore (lv' := [(5, .int (nI i)), (9, .long (rz r0 i)), (8, .int (nI i)), (6, .long y), (0, .ref x), (1, .int f), (2, .int t), (3, .int (nI (sA r0 f))), (4, .int (nI (sB r0 f t)))]) hx hb dX1_steepest_56 hl (by decide) rfl (fun ls hl => ?_)
          refine lv_lload hx hb dX1_steepest_58 (lv_at hl 1 rfl) ?_
          refine lv_lstore (lv' := [(6, .long (rz r0 i)), (5, .int (nI i)), (9, .long (rz r0 i)), (8, .int (nI i)), (0, .ref x), (1, .int f), (2, .int t), (3, .int (nI (sA r0 f))), (4, .int (nI (sB r0 f t)))]) hx hb dX1_steepest_60 hl (by decide) rfl (fun ls hl => ?_)
          refine lv_iinc (v := nI (i + 1)) (lv' := [(8, .int (nI (i + 1))), (6, .long (rz r0 i)), (5, .int (nI i)), (9, .long (rz r0 i)), (0, .ref x), (1, .int f), (2, .int t), (3, .int (nI (sA r0 f))), (4, .int (nI (sB r0 f t)))]) hx hb dX1_steepest_62 hl (k := 3) rfl (inc1 _) (by decide) rfl (fun ls hl => ?_)
          refine lv_goto (tgt := 25) hx hb dX1_steepest_65 (by decide) ?_
          exact ih (i + 1) _ _ ls (by omega) (by rw [← hf, spr, if_pos (Or.inl c_43)]) (lv_sub hl [0, 1, 2, 4, 5, 6, 7, 8] rfl)
        · refine lv_lload hx hb dX1_steepest_46 (lv_at hl 0 rfl) ?_
          refine lv_lload hx hb dX1_steepest_48 (lv_at hl 2 rfl) ?_
          refine W.lcmp hx hb dX1_steepest_50 ?_
          refine lv_if_le (tgt := 62) hx hb dX1_steepest_51 (by decide) (fun c_51 => ?_) (fun c_51 => ?_)
          · have c_51 := (lg_cmp_le _ _).mp c_51
            refine lv_iinc (v := nI (i + 1)) (lv' := [(8, .int (nI (i + 1))), (9, .long (rz r0 i)), (6, .long y), (5, .int bs), (0, .ref x), (1, .int f), (2, .int t), (3, .int (nI (sA r0 f))), (4, .int (nI (sB r0 f t)))]) hx hb dX1_steepest_62 hl (k := 1) rfl (inc1 _) (by decide) rfl (fun ls hl => ?_)
            refine lv_goto (tgt := 25) hx hb dX1_steepest_65 (by decide) ?_
            exact ih (i + 1) _ _ ls (by omega) (by rw [← hf, spr, if_neg (fun z => z.elim c_43 (fun z => Int64.not_lt.mpr c_51 z))]) (lv_sub hl [0, 2, 3, 4, 5, 6, 7, 8] rfl)
          · have c_51 := mt (lg_cmp_le _ _).mpr c_51
            refine lv_iload hx hb dX1_steepest_54 (lv_at hl 1 rfl) ?_
            refine lv_istore (lv' := [(5, .int (nI i)), (9, .long (rz r0 i)), (8, .int (nI i)), (6, .long y), (0, .ref x), (1, .int f), (2, .int t), (3, .int (nI (sA r0 f))), (4, .int (nI (sB r0 f t)))]) hx hb dX1_steepest_56 hl (by decide) rfl (fun ls hl => ?_)
            refine lv_lload hx hb dX1_steepest_58 (lv_at hl 1 rfl) ?_
            refine lv_lstore (lv' := [(6, .long (rz r0 i)), (5, .int (nI i)), (9, .long (rz r0 i)), (8, .int (nI i)), (0, .ref x), (1, .int f), (2, .int t), (3, .int (nI (sA r0 f))), (4, .int (nI (sB r0 f t)))]) hx hb dX1_steepest_60 hl (by decide) rfl (fun ls hl => ?_)
            refine lv_iinc (v := nI (i + 1)) (lv' := [(8, .int (nI (i + 1))), (6, .long (rz r0 i)), (5, .int (nI i)), (9, .long (rz r0 i)), (0, .ref x), (1, .int f), (2, .int t), (3, .int (nI (sA r0 f))), (4, .int (nI (sB r0 f t)))]) hx hb dX1_steepest_62 hl (k := 3) rfl (inc1 _) (by decide) rfl (fun ls hl => ?_)
            refine lv_goto (tgt := 25) hx hb dX1_steepest_65 (by decide) ?_
            exact ih (i + 1) _ _ ls (by omega) (by rw [← hf, spr, if_pos (Or.inr (Int64.not_le.mp c_51))]) (lv_sub hl [0, 1, 2, 4, 5, 6, 7, 8] rfl)
  refine lv_aload_n hx hb dX1_steepest_0 rfl (lv_at hl 0 rfl) ?_
  refine lv_iload_n hx hb dX1_steepest_1 rfl (lv_at hl 1 rfl) ?_
  refine ro_call (va_runV (As := [.int f]) (rest := []) ⟨hx, hb, hml, hown, hts⟩ (c_X1_firstIn l x sq lt A0 A1 A2 hX r0 hk0 hR0 f) (cwV 1 hts gX1_steepest_X1_firstIn rfl rfl rfl (by decide +kernel) ⟨Nat.le_of_ble_eq_true rfl, Nat.le_of_ble_eq_true rfl⟩) (ro_preV hK (va_recv hK hX (ci := 1) (q0 := 0) rfl rfl)) rfl rfl hl.1 rfl (lv_room (Nat.le_of_ble_eq_true rfl)) dX1_steepest_2 ⟨Nat.zero_le _, Nat.zero_le _⟩) ?_
  refine lv_istore_n (lv' := [(3, .int (nI (sA r0 f))), (0, .ref x), (1, .int f), (2, .int t)]) hx hb dX1_steepest_5 rfl hl (by decide) rfl (fun ls hl => ?_)
  refine lv_aload_n hx hb dX1_steepest_6 rfl (lv_at hl 1 rfl) ?_
  refine lv_iload_n hx hb dX1_steepest_7 rfl (lv_at hl 0 rfl) ?_
  refine lv_iload_n hx hb dX1_steepest_8 rfl (lv_at hl 3 rfl) ?_
  refine ro_call (va_runV (As := [.int (nI (sA r0 f)), .int t]) (rest := []) ⟨hx, hb, hml, hown, hts⟩ (c_X1_endOf l x sq lt A0 A1 A2 hX r0 hk0 hR0 (sA r0 f) (sA_le _ _) t) (cwV 2 hts gX1_steepest_X1_endOf rfl rfl rfl (by decide +kernel) ⟨Nat.le_of_ble_eq_true rfl, Nat.le_of_ble_eq_true rfl⟩) (ro_preV hK (va_recv hK hX (ci := 1) (q0 := 0) rfl rfl)) rfl rfl hl.1 rfl (lv_room (Nat.le_of_ble_eq_true rfl)) dX1_steepest_9 ⟨Nat.zero_le _, Nat.zero_le _⟩) ?_
  refine lv_istore (lv' := [(4, .int (nI (sB r0 f t))), (3, .int (nI (sA r0 f))), (0, .ref x), (1, .int f), (2, .int t)]) hx hb dX1_steepest_12 hl (by decide) rfl (fun ls hl => ?_)
  refine lv_iconst (v := (-1)) hx hb dX1_steepest_14 (by decide) ?_
  refine lv_istore (lv' := [(5, .int (-1)), (4, .int (nI (sB r0 f t))), (3, .int (nI (sA r0 f))), (0, .ref x), (1, .int f), (2, .int t)]) hx hb dX1_steepest_15 hl (by decide) rfl (fun ls hl => ?_)
  refine lv_lconst (v := 0) hx hb dX1_steepest_17 (by decide) ?_
  refine lv_lstore (lv' := [(6, .long 0), (5, .int (-1)), (4, .int (nI (sB r0 f t))), (3, .int (nI (sA r0 f))), (0, .ref x), (1, .int f), (2, .int t)]) hx hb dX1_steepest_18 hl (by decide) rfl (fun ls hl => ?_)
  refine lv_iload_n hx hb dX1_steepest_20 rfl (lv_at hl 3 rfl) ?_
  refine lv_iconst (v := 1) hx hb dX1_steepest_21 (by decide) ?_
  refine lv_iadd hx hb dX1_steepest_22 ?_
  refine top_i (nI_add _ 1) ?_
  refine lv_istore (lv' := [(8, .int (nI ((sA r0 f) + 1))), (6, .long 0), (5, .int (-1)), (4, .int (nI (sB r0 f t))), (3, .int (nI (sA r0 f))), (0, .ref x), (1, .int f), (2, .int t)]) hx hb dX1_steepest_23 hl (by decide) rfl (fun ls hl => ?_)
  exact loop (sB r0 f t - (sA r0 f + 1)) (sA r0 f + 1) 0 (-1) ls (by omega) rfl (lv_sub hl [0, 1, 2, 5, 6, 7, 4, 3] rfl)
set_option maxHeartbeats 4000000 in
set_option maxRecDepth 100000 in
/-- reach(from, to) -/
theorem c_X1_reach (l : Launch) {D : va_G} {cI cA cJ : ClassId} {H : Heap} (x sq : Nat) (lt : Int32) (A0 A1 A2 : rgA) (hX : va_P D vwCl (xW x sq lt A0 A1 A2) H) (r0 : rgV) (hk0 : r_ok r0) (hR0 : va_P D vwCl (rgW cI cA A0 r0) H) (r1 : rgV) (hk1 : r_ok r1) (hR1 : va_P D vwCl (rgW cI cA A1 r1) H) (r2 : rgV) (hk2 : r_ok r2) (hR2 : va_P D vwCl (rgW cI cA A2 r2) H) (f t : Int32) : Met l yX1_reach wsX1_reach ({ frames := 4, cells := 0, slots := 0, locals := 91 }) (ro_P D vwCl (tyL cI cA cJ) H [.ref x, .int f, .int t]) (ro_Q (.long (rcV r0 r1 r2 f t)) H) 0 0 ro_no := by
  refine Met.ofW (cc := cX1_reach) (maxL := 7) (ret := (some .long)) (by decide) rfl ?_
  intro p e s m args below meth c s₁ B hml hv
  obtain ⟨rfl, hh, hK⟩ := hv
  subst hh
  have hx := B.exec
  have hb := B.bytes
  have hr := B.returns
  have hlocks := B.notSynchronized
  have hts := atoms_spec (ws := wsX1_reach) B.pre
  have hown : s.vm.findClass RX1 = some m.cls := findClass_of_methodNamed B.named
  have hi1 : ∀ w ∈ wsX10, w ∈ wsX1_reach := fun w h => List.mem_cons_of_mem _ (List.mem_append_left _ (List.mem_append_right _ h))
  have hi0 : ∀ w ∈ wsX00, w ∈ wsX1_reach := fun w h => List.mem_cons_of_mem _ (List.mem_append_right _ h)
  have hl := lv_entry ([.ref x, .int f, .int t]) (n := 7) (Nat.le_of_ble_eq_true rfl)
  rw [lg_entry_eq]
  generalize (lg_sl ([.ref x, .int f, .int t]) ++ List.replicate (7 - (lg_sl ([.ref x, .int f, .int t])).length) Slot.unset).toArray = ls at hl ⊢
  have hl : lv_has ls 7 [(0, .ref x), (1, .int f), (2, .int t)] := hl
  refine lv_aload_n hx hb dX1_reach_0 rfl (lv_at hl 0 rfl) ?_
  refine va_get (D := D) (ci := 1) (v := .ref (a_o A0)) (C := RX1) (T := TX1) (N := 5) hx hb hts hi1 hown hK hX 0 rfl rfl 0 (by decide) (hts (.fieldLink RX1 23 "RingSeries" "points" "LRingSeries$Ring;") (by decide +kernel)) (fun _ h9 => h9) rfl dX1_reach_1 ?_
  refine lv_iload_n hx hb dX1_reach_4 rfl (lv_at hl 1 rfl) ?_
  refine lv_i2l hx hb dX1_reach_5 rfl ?_
  refine lv_iload_n hx hb dX1_reach_6 rfl (lv_at hl 2 rfl) ?_
  refine lv_i2l hx hb dX1_reach_7 rfl ?_
  refine ro_call (va_runV (As := [.long ((f).toInt64), .long ((t).toInt64)]) (rest := []) ⟨hx, hb, hml, hown, hts⟩ (c_X0_manyWhollyIn l A0 r0 hk0 hR0 ((f).toInt64) ((t).toInt64)) (cwV 2 hts gX1_reach_X0_manyWhollyIn rfl rfl rfl (by decide +kernel) ⟨Nat.le_of_ble_eq_true rfl, Nat.le_of_ble_eq_true rfl⟩) (ro_preV hK (va_recv hK hR0 (ci := 0) (q0 := 0) rfl rfl)) rfl rfl hl.1 rfl (lv_room (Nat.le_of_ble_eq_true rfl)) dX1_reach_8 ⟨Nat.zero_le _, Nat.zero_le _⟩) ?_
  refine lv_lstore_n (lv' := [(3, .long (mw r0 ((f).toInt64) ((t).toInt64))), (0, .ref x), (1, .int f), (2, .int t)]) hx hb dX1_reach_11 rfl hl (by decide) rfl (fun ls hl => ?_)
  refine lv_iload_n hx hb dX1_reach_12 rfl (lv_at hl 3 rfl) ?_
  refine lv_i2l hx hb dX1_reach_13 rfl ?_
  refine lv_aload_n hx hb dX1_reach_14 rfl (lv_at hl 1 rfl) ?_
  refine va_get (D := D) (ci := 1) (v := .ref (a_o A0)) (C := RX1) (T := TX1) (N := 5) hx hb hts hi1 hown hK hX 0 rfl rfl 0 (by decide) (hts (.fieldLink RX1 23 "RingSeries" "points" "LRingSeries$Ring;") (by decide +kernel)) (fun _ h9 => h9) rfl dX1_reach_15 ?_
  refine lv_iconst (v := 0) hx hb dX1_reach_18 (by decide) ?_
  refine ro_call (va_runV (As := [.int 0]) (rest := [.long ((t).toInt64)]) ⟨hx, hb, hml, hown, hts⟩ (c_X0_startOf_0 l A0 r0 hk0 hR0) (cwV 1 hts gX1_reach_X0_startOf rfl rfl rfl (by decide +kernel) ⟨Nat.le_of_ble_eq_true rfl, Nat.le_of_ble_eq_true rfl⟩) (ro_preV hK (va_recv hK hR0 (ci := 0) (q0 := 0) rfl rfl)) rfl rfl hl.1 rfl (lv_room (Nat.le_of_ble_eq_true rfl)) dX1_reach_19 ⟨Nat.zero_le _, Nat.zero_le _⟩) ?_
  refine lv_i2l hx hb dX1_reach_22 rfl ?_
  refine lv_lconst (v := 1) hx hb dX1_reach_23 (by decide) ?_
  refine lv_lsub hx hb dX1_reach_24 ?_
  refine va_mmin_long hx hb (hml.trans hl.1.symm) hown (hts (.methodLink RX1 86 Lib.MathLoose.min_long.x) (by decide +kernel)) (hts (.static Lib.MathLoose.min_long.x) (by decide +kernel)) (hts (.initialized "java/lang/Math") (by decide +kernel)) (hts (.code Lib.MathLoose.min_long.x Lib.MathLoose.min_long.code 4 (some .long)) (by decide +kernel)) (Nat.le_of_ble_eq_true rfl) (Nat.le_of_ble_eq_true rfl) (Nat.zero_le _) (Nat.zero_le _) dX1_reach_25 ?_
  refine lv_lstore (lv' := [(5, .long (if (((st0 r0).toInt64) - 1) < ((t).toInt64) then (((st0 r0).toInt64) - 1) else ((t).toInt64))), (3, .long (mw r0 ((f).toInt64) ((t).toInt64))), (0, .ref x), (1, .int f), (2, .int t)]) hx hb dX1_reach_28 hl (by decide) rfl (fun ls hl => ?_)
  refine lv_lload_n hx hb dX1_reach_30 rfl (lv_at hl 1 rfl) ?_
  refine lv_aload_n hx hb dX1_reach_31 rfl (lv_at hl 2 rfl) ?_
  refine va_get (D := D) (ci := 1) (v := .ref (a_o A1)) (C := RX1) (T := TX1) (N := 5) hx hb hts hi1 hown hK hX 0 rfl rfl 1 (by decide) (hts (.fieldLink RX1 27 "RingSeries" "fine" "LRingSeries$Ring;") (by decide +kernel)) (fun _ h9 => h9) rfl dX1_reach_32 ?_
  refine lv_iload_n hx hb dX1_reach_35 rfl (lv_at hl 3 rfl) ?_
  refine lv_i2l hx hb dX1_reach_36 rfl ?_
  refine lv_lload hx hb dX1_reach_37 (lv_at hl 0 rfl) ?_
  refine ro_call (va_runV (As := [.long ((f).toInt64), .long (if (((st0 r0).toInt64) - 1) < ((t).toInt64) then (((st0 r0).toInt64) - 1) else ((t).toInt64))]) (rest := [.long (mw r0 ((f).toInt64) ((t).toInt64))]) ⟨hx, hb, hml, hown, hts⟩ (c_X0_manyWhollyIn l A1 r1 hk1 hR1 ((f).toInt64) (if (((st0 r0).toInt64) - 1) < ((t).toInt64) then (((st0 r0).toInt64) - 1) else ((t).toInt64))) (cwV 2 hts gX1_reach_X0_manyWhollyIn rfl rfl rfl (by decide +kernel) ⟨Nat.le_of_ble_eq_true rfl, Nat.le_of_ble_eq_true rfl⟩) (ro_preV hK (va_recv hK hR1 (ci := 0) (q0 := 0) rfl rfl)) rfl rfl hl.1 rfl (lv_room (Nat.le_of_ble_eq_true rfl)) dX1_reach_39 ⟨Nat.zero_le _, Nat.zero_le _⟩) ?_
  refine lv_ladd hx hb dX1_reach_42 ?_
  refine lv_lstore_n (lv' := [(3, .long ((mw r0 ((f).toInt64) ((t).toInt64)) + (mw r1 ((f).toInt64) (if (((st0 r0).toInt64) - 1) < ((t).toInt64) then (((st0 r0).toInt64) - 1) else ((t).toInt64))))), (5, .long (if (((st0 r0).toInt64) - 1) < ((t).toInt64) then (((st0 r0).toInt64) - 1) else ((t).toInt64))), (0, .ref x), (1, .int f), (2, .int t)]) hx hb dX1_reach_43 rfl hl (by decide) rfl (fun ls hl => ?_)
  refine lv_lload hx hb dX1_reach_44 (lv_at hl 1 rfl) ?_
  refine lv_aload_n hx hb dX1_reach_46 rfl (lv_at hl 2 rfl) ?_
  refine va_get (D := D) (ci := 1) (v := .ref (a_o A1)) (C := RX1) (T := TX1) (N := 5) hx hb hts hi1 hown hK hX 0 rfl rfl 1 (by decide) (hts (.fieldLink RX1 27 "RingSeries" "fine" "LRingSeries$Ring;") (by decide +kernel)) (fun _ h9 => h9) rfl dX1_reach_47 ?_
  refine lv_iconst (v := 0) hx hb dX1_reach_50 (by decide) ?_
  refine ro_call (va_runV (As := [.int 0]) (rest := [.long (if (((st0 r0).toInt64) - 1) < ((t).toInt64) then (((st0 r0).toInt64) - 1) else ((t).toInt64))]) ⟨hx, hb, hml, hown, hts⟩ (c_X0_startOf_0 l A1 r1 hk1 hR1) (cwV 1 hts gX1_reach_X0_startOf rfl rfl rfl (by decide +kernel) ⟨Nat.le_of_ble_eq_true rfl, Nat.le_of_ble_eq_true rfl⟩) (ro_preV hK (va_recv hK hR1 (ci := 0) (q0 := 0) rfl rfl)) rfl rfl hl.1 rfl (lv_room (Nat.le_of_ble_eq_true rfl)) dX1_reach_51 ⟨Nat.zero_le _, Nat.zero_le _⟩) ?_
  refine lv_i2l hx hb dX1_reach_54 rfl ?_
  refine lv_lconst (v := 1) hx hb dX1_reach_55 (by decide) ?_
  refine lv_lsub hx hb dX1_reach_56 ?_
  refine va_mmin_long hx hb (hml.trans hl.1.symm) hown (hts (.methodLink RX1 86 Lib.MathLoose.min_long.x) (by decide +kernel)) (hts (.static Lib.MathLoose.min_long.x) (by decide +kernel)) (hts (.initialized "java/lang/Math") (by decide +kernel)) (hts (.code Lib.MathLoose.min_long.x Lib.MathLoose.min_long.code 4 (some .long)) (by decide +kernel)) (Nat.le_of_ble_eq_true rfl) (Nat.le_of_ble_eq_true rfl) (Nat.zero_le _) (Nat.zero_le _) dX1_reach_57 ?_
  refine lv_lstore (lv' := [(5, .long (if (((st0 r1).toInt64) - 1) < (if (((st0 r0).toInt64) - 1) < ((t).toInt64) then (((st0 r0).toInt64) - 1) else ((t).toInt64)) then (((st0 r1).toInt64) - 1) else (if (((st0 r0).toInt64) - 1) < ((t).toInt64) then (((st0 r0).toInt64) - 1) else ((t).toInt64)))), (3, .long ((mw r0 ((f).toInt64) ((t).toInt64)) + (mw r1 ((f).toInt64) (if (((st0 r0).toInt64) - 1) < ((t).toInt64) then (((st0 r0).toInt64) - 1) else ((t).toInt64))))), (0, .ref x), (1, .int f), (2, .int t)]) hx hb dX1_reach_60 hl (by decide) rfl (fun ls hl => ?_)
  refine lv_lload_n hx hb dX1_reach_62 rfl (lv_at hl 1 rfl) ?_
  refine lv_aload_n hx hb dX1_reach_63 rfl (lv_at hl 2 rfl) ?_
  refine va_get (D := D) (ci := 1) (v := .ref (a_o A2)) (C := RX1) (T := TX1) (N := 5) hx hb hts hi1 hown hK hX 0 rfl rfl 2 (by decide) (hts (.fieldLink RX1 30 "RingSeries" "coarse" "LRingSeries$Ring;") (by decide +kernel)) (fun _ h9 => h9) rfl dX1_reach_64 ?_
  refine lv_iload_n hx hb dX1_reach_67 rfl (lv_at hl 3 rfl) ?_
  refine lv_i2l hx hb dX1_reach_68 rfl ?_
  refine lv_lload hx hb dX1_reach_69 (lv_at hl 0 rfl) ?_
  refine ro_call (va_runV (As := [.long ((f).toInt64), .long (if (((st0 r1).toInt64) - 1) < (if (((st0 r0).toInt64) - 1) < ((t).toInt64) then (((st0 r0).toInt64) - 1) else ((t).toInt64)) then (((st0 r1).toInt64) - 1) else (if (((st0 r0).toInt64) - 1) < ((t).toInt64) then (((st0 r0).toInt64) - 1) else ((t).toInt64)))]) (rest := [.long ((mw r0 ((f).toInt64) ((t).toInt64)) + (mw r1 ((f).toInt64) (if (((st0 r0).toInt64) - 1) < ((t).toInt64) then (((st0 r0).toInt64) - 1) else ((t).toInt64))))]) ⟨hx, hb, hml, hown, hts⟩ (c_X0_manyWhollyIn l A2 r2 hk2 hR2 ((f).toInt64) (if (((st0 r1).toInt64) - 1) < (if (((st0 r0).toInt64) - 1) < ((t).toInt64) then (((st0 r0).toInt64) - 1) else ((t).toInt64)) then (((st0 r1).toInt64) - 1) else (if (((st0 r0).toInt64) - 1) < ((t).toInt64) then (((st0 r0).toInt64) - 1) else ((t).toInt64)))) (cwV 2 hts gX1_reach_X0_manyWhollyIn rfl rfl rfl (by decide +kernel) ⟨Nat.le_of_ble_eq_true rfl, Nat.le_of_ble_eq_true rfl⟩) (ro_preV hK (va_recv hK hR2 (ci := 0) (q0 := 0) rfl rfl)) rfl rfl hl.1 rfl (lv_room (Nat.le_of_ble_eq_true rfl)) dX1_reach_71 ⟨Nat.zero_le _, Nat.zero_le _⟩) ?_
  refine lv_ladd hx hb dX1_reach_74 ?_
  exact ro_lret hx hb hr rfl dX1_reach_75 hlocks
set_option maxHeartbeats 4000000 in
set_option maxRecDepth 100000 in
/-- sound() -/
theorem c_X1_sound (l : Launch) {D : va_G} {cI cA cJ : ClassId} {H : Heap} (x sq : Nat) (lt : Int32) (A0 A1 A2 : rgA) (hX : va_P D vwCl (xW x sq lt A0 A1 A2) H) (r0 : rgV) (hk0 : r_ok r0) (hR0 : va_P D vwCl (rgW cI cA A0 r0) H) (r1 : rgV) (hk1 : r_ok r1) (hR1 : va_P D vwCl (rgW cI cA A1 r1) H) (r2 : rgV) (hk2 : r_ok r2) (hR2 : va_P D vwCl (rgW cI cA A2 r2) H) (ag2 : agr r2 r1) (ag1 : agr r1 r0) : Met l yX1_sound wsX1_sound ({ frames := 5, cells := 0, slots := 0, locals := 119 }) (ro_P D vwCl (tyL cI cA cJ) H [.ref x]) (ro_Q (.int 1) H) 0 0 ro_no := by
  refine Met.ofW (cc := cX1_sound) (maxL := 1) (ret := (some .boolean)) (by decide) rfl ?_
  intro p e s m args below meth c s₁ B hml hv
  obtain ⟨rfl, hh, hK⟩ := hv
  subst hh
  have hx := B.exec
  have hb := B.bytes
  have hr := B.returns
  have hlocks := B.notSynchronized
  have hts := atoms_spec (ws := wsX1_sound) B.pre
  have hown : s.vm.findClass RX1 = some m.cls := findClass_of_methodNamed B.named
  have hi1 : ∀ w ∈ wsX10, w ∈ wsX1_sound := fun w h => List.mem_cons_of_mem _ (List.mem_append_left _ (List.mem_append_right _ h))
  have hi0 : ∀ w ∈ wsX00, w ∈ wsX1_sound := fun w h => List.mem_cons_of_mem _ (List.mem_append_right _ h)
  have hl := lv_entry ([.ref x]) (n := 1) (Nat.le_of_ble_eq_true rfl)
  rw [lg_entry_eq]
  generalize (lg_sl ([.ref x]) ++ List.replicate (1 - (lg_sl ([.ref x])).length) Slot.unset).toArray = ls at hl ⊢
  have hl : lv_has ls 1 [(0, .ref x)] := hl
  refine lv_aload_n hx hb dX1_sound_0 rfl (lv_at hl 0 rfl) ?_
  refine va_get (D := D) (ci := 1) (v := .ref (a_o A2)) (C := RX1) (T := TX1) (N := 5) hx hb hts hi1 hown hK hX 0 rfl rfl 2 (by decide) (hts (.fieldLink RX1 30 "RingSeries" "coarse" "LRingSeries$Ring;") (by decide +kernel)) (fun _ h9 => h9) rfl dX1_sound_1 ?_
  refine lv_aload_n hx hb dX1_sound_4 rfl (lv_at hl 0 rfl) ?_
  refine va_get (D := D) (ci := 1) (v := .ref (a_o A1)) (C := RX1) (T := TX1) (N := 5) hx hb hts hi1 hown hK hX 0 rfl rfl 1 (by decide) (hts (.fieldLink RX1 27 "RingSeries" "fine" "LRingSeries$Ring;") (by decide +kernel)) (fun _ h9 => h9) rfl dX1_sound_5 ?_
  refine ro_call (va_runV (As := [.ref (a_o A1)]) (rest := []) ⟨hx, hb, hml, hown, hts⟩ (c_X0_agreesWith l A2 r2 hk2 hR2 A1 r1 hk1 hR1 ag2) (cwV 1 hts gX1_sound_X0_agreesWith rfl rfl rfl (by decide +kernel) ⟨Nat.le_of_ble_eq_true rfl, Nat.le_of_ble_eq_true rfl⟩) (ro_preV hK (va_recv hK hR2 (ci := 0) (q0 := 0) rfl rfl)) rfl rfl hl.1 rfl (lv_room (Nat.le_of_ble_eq_true rfl)) dX1_sound_8 ⟨Nat.zero_le _, Nat.zero_le _⟩) ?_
  refine lv_if_eq (tgt := 32) hx hb dX1_sound_11 (by decide) (fun c_11 => ?_) (fun c_11 => ?_)
  · exact absurd c_11 (by decide)
  · refine lv_aload_n hx hb dX1_sound_14 rfl (lv_at hl 0 rfl) ?_
    refine va_get (D := D) (ci := 1) (v := .ref (a_o A1)) (C := RX1) (T := TX1) (N := 5) hx hb hts hi1 hown hK hX 0 rfl rfl 1 (by decide) (hts (.fieldLink RX1 27 "RingSeries" "fine" "LRingSeries$Ring;") (by decide +kernel)) (fun _ h9 => h9) rfl dX1_sound_15 ?_
    refine lv_aload_n hx hb dX1_sound_18 rfl (lv_at hl 0 rfl) ?_
    refine va_get (D := D) (ci := 1) (v := .ref (a_o A0)) (C := RX1) (T := TX1) (N := 5) hx hb hts hi1 hown hK hX 0 rfl rfl 0 (by decide) (hts (.fieldLink RX1 23 "RingSeries" "points" "LRingSeries$Ring;") (by decide +kernel)) (fun _ h9 => h9) rfl dX1_sound_19 ?_
    refine ro_call (va_runV (As := [.ref (a_o A0)]) (rest := []) ⟨hx, hb, hml, hown, hts⟩ (c_X0_agreesWith l A1 r1 hk1 hR1 A0 r0 hk0 hR0 ag1) (cwV 1 hts gX1_sound_X0_agreesWith rfl rfl rfl (by decide +kernel) ⟨Nat.le_of_ble_eq_true rfl, Nat.le_of_ble_eq_true rfl⟩) (ro_preV hK (va_recv hK hR1 (ci := 0) (q0 := 0) rfl rfl)) rfl rfl hl.1 rfl (lv_room (Nat.le_of_ble_eq_true rfl)) dX1_sound_22 ⟨Nat.zero_le _, Nat.zero_le _⟩) ?_
    refine lv_if_eq (tgt := 32) hx hb dX1_sound_25 (by decide) (fun c_25 => ?_) (fun c_25 => ?_)
    · exact absurd c_25 (by decide)
    · refine lv_iconst (v := 1) hx hb dX1_sound_28 (by decide) ?_
      refine lv_goto (tgt := 33) hx hb dX1_sound_29 (by decide) ?_
      exact ro_zret hx hb hr (by first | rfl | decide) rfl dX1_sound_33 hlocks
set_option maxHeartbeats 4000000 in
set_option maxRecDepth 100000 in
/-- within(number, least, most) -/
theorem c_X1_within (l : Launch) {D : va_G} {cI cA cJ : ClassId} {H : Heap} (n lo hi : Int32) : Met l yX1_within wsX1_within ({ frames := 1, cells := 0, slots := 0, locals := 22 }) (ro_P D vwCl (tyL cI cA cJ) H [.int n, .int lo, .int hi]) (ro_Q (.int (wiV n lo hi)) H) 0 0 ro_no := by
  refine Met.ofW (cc := cX1_within) (maxL := 3) (ret := (some .int)) (by decide) rfl ?_
  intro p e s m args below meth c s₁ B hml hv
  obtain ⟨rfl, hh, hK⟩ := hv
  subst hh
  have hx := B.exec
  have hb := B.bytes
  have hr := B.returns
  have hlocks := B.notSynchronized
  have hts := atoms_spec (ws := wsX1_within) B.pre
  have hown : s.vm.findClass RX1 = some m.cls := findClass_of_methodNamed B.named
  have hl := lv_entry ([.int n, .int lo, .int hi]) (n := 3) (Nat.le_of_ble_eq_true rfl)
  rw [lg_entry_eq]
  generalize (lg_sl ([.int n, .int lo, .int hi]) ++ List.replicate (3 - (lg_sl ([.int n, .int lo, .int hi])).length) Slot.unset).toArray = ls at hl ⊢
  have hl : lv_has ls 3 [(0, .int n), (1, .int lo), (2, .int hi)] := hl
  refine lv_iload_n hx hb dX1_within_0 rfl (lv_at hl 1 rfl) ?_
  refine lv_iload_n hx hb dX1_within_1 rfl (lv_at hl 2 rfl) ?_
  refine lv_iload_n hx hb dX1_within_2 rfl (lv_at hl 0 rfl) ?_
  refine va_mmin hx hb (hml.trans hl.1.symm) hown (hts (.methodLink RX1 95 Lib.Math.min.name) (by decide +kernel)) (hts (.static Lib.Math.min.name) (by decide +kernel)) (hts (.initialized "java/lang/Math") (by decide +kernel)) (hts (.code Lib.Math.min.name Lib.Math.min.code 2 (some .int)) (by decide +kernel)) (Nat.le_of_ble_eq_true rfl) (Nat.le_of_ble_eq_true rfl) (Nat.zero_le _) (Nat.zero_le _) dX1_within_3 ?_
  refine va_mmax hx hb (hml.trans hl.1.symm) hown (hts (.methodLink RX1 97 Lib.Math.max.name) (by decide +kernel)) (hts (.static Lib.Math.max.name) (by decide +kernel)) (hts (.initialized "java/lang/Math") (by decide +kernel)) (hts (.code Lib.Math.max.name Lib.Math.max.code 2 (some .int)) (by decide +kernel)) (Nat.le_of_ble_eq_true rfl) (Nat.le_of_ble_eq_true rfl) (Nat.zero_le _) (Nat.zero_le _) dX1_within_6 ?_
  exact ro_iret hx hb hr rfl dX1_within_9 hlocks
end
section
/-! The reference: where its cells lie, what they hold; what its methods answer. -/
theorem bi_eq {P : Prop} [Decidable P] (h : (if P then (1 : Int32) else 0) = 0) : ¬ P := fun q => by rw [if_pos q] at h; exact absurd h (by decide)
theorem bi_ne {P : Prop} [Decidable P] (h : ¬ (if P then (1 : Int32) else 0) = 0) : P := Decidable.byContradiction fun q => h (if_neg q)
abbrev mA : Type := Nat × Nat × Nat × Nat × Nat
def b_o (B : mA) : Nat := B.1
def b_r (B : mA) : Nat := B.2.1
def b_w (B : mA) : Nat := B.2.2.1
def b_t (B : mA) : Nat := B.2.2.2.1
def b_v (B : mA) : Nat := B.2.2.2.2
/-- how many points, their times, their values, the rooms, the widths -/
abbrev mv : Type := Nat × (Nat → Nat) × (Nat → Int32) × (Nat → Nat) × (Nat → Nat)
def m_P (q : mv) : Nat := q.1
def m_T (q : mv) : Nat → Nat := q.2.1
def m_V (q : mv) : Nat → Int32 := q.2.2.1
def m_R (q : mv) : Nat → Nat := q.2.2.2.1
def m_W (q : mv) : Nat → Nat := q.2.2.2.2
def mW (cI cJ : ClassId) (B : mA) (q : mv) : va_W :=
  [(b_o B, .inr (2, [.int 0, .ref (b_r B), .ref (b_w B), .int (nI (m_P q)), .ref (b_t B), .ref (b_v B)])),
   (b_r B, .inl (cI, 3, .inl (fun k => nI (m_R q k)))), (b_w B, .inl (cJ, 3, .inr (.inl (fun k => lN (m_W q k))))),
   (b_t B, .inl (cI, 1024, .inl (fun p => nI (m_T q p)))), (b_v B, .inl (cI, 1024, .inl (m_V q)))]
/-- two points in one bucket of level k -/
abbrev sm (q : mv) (k a b : Nat) : Prop := m_T q a / m_W q k = m_T q b / m_W q k
/-- buckets of level k among the first p points -/
def ng (q : mv) (k : Nat) : Nat → Nat
  | 0 => 0
  | p + 1 => if p = 0 ∨ ¬ sm q k (p - 1) p then ng q k p + 1 else ng q k p
def nE (q : mv) (k : Nat) : Nat := if k = 0 then m_P q else ng q k (m_P q)
def kp (q : mv) (k : Nat) : Nat := if nE q k < m_R q k then nE q k else m_R q k
def m_ok (q : mv) : Prop := m_P q ≤ 512 ∧ (∀ p, m_T q p < 2 ^ 31) ∧ (∀ k, k < 3 → 1 ≤ m_R q k ∧ m_R q k ≤ 60 ∧ 1 ≤ m_W q k ∧ m_W q k ≤ 1000000000) ∧ (∀ k, k < 3 → kp q k ≤ ng q k (m_P q))
theorem ng_le (q : mv) (k : Nat) : ∀ p, ng q k p ≤ p
  | 0 => Nat.le_refl _
  | p + 1 => by
    have h := ng_le q k p
    unfold ng
    split <;> omega
theorem ng_mono (q : mv) (k a : Nat) : ∀ n, ng q k a ≤ ng q k (a + n)
  | 0 => Nat.le_refl _
  | n + 1 => by
    have h := ng_mono q k a n
    rw [show a + (n + 1) = (a + n) + 1 from rfl, ng]
    split <;> omega
/-- the first point of bucket g of level k -/
def fsr (q : mv) (k g : Nat) : Nat → Nat → Nat
  | 0, p => p - 1
  | n + 1, p => if g + 1 ≤ ng q k p then p - 1 else fsr q k g n (p + 1)
def gn (q : mv) (k j : Nat) : Nat := ng q k (m_P q) - kp q k + j
def fs (q : mv) (k j : Nat) : Nat := fsr q k (gn q k j) (m_P q) 0
theorem fsr_lt (q : mv) (k g : Nat) (hg : g + 1 ≤ ng q k (m_P q)) : ∀ n p, p + n = m_P q → fsr q k g n p < m_P q := by
  have hP : 0 < m_P q := by have := ng_le q k (m_P q); omega
  intro n
  induction n with
  | zero => intro p hp; unfold fsr; omega
  | succ n ih =>
    intro p hp
    unfold fsr
    split
    · omega
    · exact ih (p + 1) (by omega)
theorem gn_lt {q : mv} {k j : Nat} (h : kp q k ≤ ng q k (m_P q)) (hj : j < kp q k) : gn q k j + 1 ≤ ng q k (m_P q) := by unfold gn; omega
theorem fs_lt {q : mv} {k j : Nat} (h : kp q k ≤ ng q k (m_P q)) (hj : j < kp q k) : fs q k j < m_P q := fsr_lt q k _ (gn_lt h hj) _ _ (Nat.zero_add _)
/-- where entry j of level k begins -/
def bg (q : mv) (k j : Nat) : Nat := m_T q (fs q k j) / m_W q k * m_W q k
/-- the figures of the bucket that begins with point p: least, greatest, sum, number -/
def fgr (q : mv) (k p : Nat) : Nat → Nat → Int32 → Int32 → Int32 → Nat → Nat → Int32
  | 0, _, a, b, c, d => fun w => if w = 0 then a else if w = 1 then b else if w = 2 then c else nI d
  | n + 1, x, a, b, c, d => if sm q k p x then fgr q k p n (x + 1) (if m_V q x < a then m_V q x else a) (if b < m_V q x then m_V q x else b) (c + m_V q x) (d + 1) else fun w => if w = 0 then a else if w = 1 then b else if w = 2 then c else nI d
def fg (q : mv) (k j : Nat) : Nat → Int32 := fgr q k (fs q k j) (m_P q - fs q k j) (fs q k j) (m_V q (fs q k j)) (m_V q (fs q k j)) 0 0
/-- is a point kept, and in the span -/
abbrev inS (q : mv) (f t : Int32) (p : Nat) : Prop := m_P q - kp q 0 ≤ p ∧ p < m_P q ∧ ¬ nI (m_T q p) < f ∧ ¬ t < nI (m_T q p)
def mnc (q : mv) (f t : Int32) : Nat → Nat
  | 0 => 0
  | p + 1 => if inS q f t p then mnc q f t p + 1 else mnc q f t p
theorem mnc_le (q : mv) (f t : Int32) : ∀ p, mnc q f t p ≤ p
  | 0 => Nat.le_refl _
  | p + 1 => by
    have h := mnc_le q f t p
    unfold mnc
    split <;> omega
def exq (q : mv) (f t g : Int32) : Nat → Int32
  | 0 => 0
  | p + 1 => if inS q f t p then (if mnc q f t p = 0 ∨ (if g < 0 then m_V q p < exq q f t g p else exq q f t g p < m_V q p) then m_V q p else exq q f t g p) else exq q f t g p
def smq (q : mv) (f t : Int32) : Nat → Int64
  | 0 => 0
  | p + 1 => if inS q f t p then smq q f t p + (m_V q p).toInt64 else smq q f t p
/-- the last kept point not later than t, of those from b on -/
def atq (q : mv) (t : Int32) (b : Nat) : Nat → Int32
  | 0 => -1
  | n + 1 => if t < nI (m_T q (b + n)) then atq q t b n else nI (b + n)
theorem atq_cases (q : mv) (t : Int32) (b : Nat) : ∀ n, atq q t b n = -1 ∨ ∃ j, b ≤ j ∧ j < b + n ∧ atq q t b n = nI j
  | 0 => Or.inl rfl
  | n + 1 => by
    unfold atq
    split
    · rcases atq_cases q t b n with h | ⟨j, h1, h2, h3⟩
      · exact Or.inl h
      · exact Or.inr ⟨j, h1, by omega, h3⟩
    · exact Or.inr ⟨b + n, by omega, by omega, rfl⟩
def atM (q : mv) (t sm : Int32) : Int32 :=
  if atq q t (m_P q - kp q 0) (kp q 0) < 0 then 0
  else if sm = 0 ∨ atq q t (m_P q - kp q 0) (kp q 0) = nI (m_P q - 1) then m_V q (atq q t (m_P q - kp q 0) (kp q 0)).toNatClampNeg
  else ((m_V q (atq q t (m_P q - kp q 0) (kp q 0)).toNatClampNeg).toInt64 + ((m_V q ((atq q t (m_P q - kp q 0) (kp q 0)).toNatClampNeg + 1)).toInt64 - (m_V q (atq q t (m_P q - kp q 0) (kp q 0)).toNatClampNeg).toInt64) * (t.toInt64 - (nI (m_T q (atq q t (m_P q - kp q 0) (kp q 0)).toNatClampNeg)).toInt64) / (nI (m_T q ((atq q t (m_P q - kp q 0) (kp q 0)).toNatClampNeg + 1)) - nI (m_T q (atq q t (m_P q - kp q 0) (kp q 0)).toNatClampNeg)).toInt64).toInt32
def rzq (q : mv) (p : Nat) : Int64 := (m_V q p).toInt64 - (m_V q (p - 1)).toInt64
/-- the steepest rise; b is where the kept points begin -/
def spq (q : mv) (f t : Int32) (b : Nat) : Nat → Nat → Int32 → Int64 → Int32
  | 0, _, x, _ => x
  | n + 1, p, x, y => if inS q f t (p - 1) ∧ inS q f t p ∧ (x = -1 ∨ y < rzq q p) then spq q f t b n (p + 1) (nI (p - b)) (rzq q p) else spq q f t b n (p + 1) x y
def spM (q : mv) (f t : Int32) : Int32 := spq q f t (m_P q - kp q 0) (kp q 0 - 1) (m_P q - kp q 0 + 1) (-1) 0
def blw (q : mv) (f t v : Int32) : Nat → Nat
  | 0 => 0
  | p + 1 => if inS q f t p ∧ m_V q p < v then blw q f t v p + 1 else blw q f t v p
def eqv (q : mv) (f t v : Int32) : Nat → Nat
  | 0 => 0
  | p + 1 => if inS q f t p ∧ m_V q p = v then eqv q f t v p + 1 else eqv q f t v p
theorem blw_le (q : mv) (f t v : Int32) : ∀ p, blw q f t v p ≤ p
  | 0 => Nat.le_refl _
  | p + 1 => by
    have h := blw_le q f t v p
    unfold blw
    split <;> omega
theorem eqv_le (q : mv) (f t v : Int32) : ∀ p, eqv q f t v p ≤ p
  | 0 => Nat.le_refl _
  | p + 1 => by
    have h := eqv_le q f t v p
    unfold eqv
    split <;> omega
abbrev mdc (q : mv) (f t : Int32) (p : Nat) : Prop := inS q f t p ∧ blw q f t (m_V q p) (m_P q) ≤ (mnc q f t (m_P q) - 1) / 2 ∧ (mnc q f t (m_P q) - 1) / 2 < blw q f t (m_V q p) (m_P q) + eqv q f t (m_V q p) (m_P q)
def mdr (q : mv) (f t : Int32) : Nat → Nat → Int32
  | 0, _ => 0
  | n + 1, p => if mdc q f t p then m_V q p else mdr q f t n (p + 1)
def mdM (q : mv) (f t : Int32) : Int32 := if mnc q f t (m_P q) = 0 then 0 else mdr q f t (m_P q) 0
def whq (q : mv) (k : Nat) (f t : Int32) (b : Int64) : Nat → Int64
  | 0 => 0
  | i + 1 => if f.toInt64 ≤ lN (bg q k i) ∧ lN (bg q k i + m_W q k - 1) ≤ t.toInt64 ∧ lN (bg q k i + m_W q k - 1) < b then whq q k f t b i + (fg q k i 3).toInt64 else whq q k f t b i
def rcM (q : mv) (f t : Int32) : Int64 :=
  if m_P q = 0 then 0 else
    (nI (mnc q f t (m_P q))).toInt64 + whq q 1 f t (nI (m_T q (m_P q - kp q 0))).toInt64 (kp q 1) +
      whq q 2 f t (if lN (bg q 1 0) < (nI (m_T q (m_P q - kp q 0))).toInt64 then lN (bg q 1 0) else (nI (m_T q (m_P q - kp q 0))).toInt64) (kp q 2)
end
section
def wjV (n lo hi : Int32) : Int32 := if n < lo then lo else if hi < n then hi else n
theorem nix3b {v : Int32} (hn : ¬ ix 3 v) : v < 0 ∨ 2 < v := by
  rcases nix3 hn with h | h
  · exact Or.inl (Int32.lt_iff_toInt_lt.mpr h)
  · exact Or.inr (Int32.lt_iff_toInt_lt.mpr h)
theorem ge_m1 {g a : Nat} (hg : g < 2 ^ 31) (ha : a < 2 ^ 31) : nI g ≤ nI a - 1 ↔ g + 1 ≤ a := by
  rcases Nat.eq_zero_or_pos a with h | h
  · subst h
    constructor
    · intro h
      rw [Int32.le_iff_toInt_le, nI_toInt hg] at h
      have : (nI 0 - 1).toInt = -1 := by decide
      omega
    · intro h
      omega
  · obtain ⟨b, rfl⟩ : ∃ b, a = b + 1 := ⟨a - 1, by omega⟩
    rw [nI_pred, nI_leI hg (by omega)]
    omega
set_option maxHeartbeats 4000000 in
set_option maxRecDepth 100000 in
/-- within(v, low, high) -/
theorem c_X2_within (l : Launch) {D : va_G} {cI cA cJ : ClassId} {H : Heap} (n lo hi : Int32) : Met l yX2_within wsX2_within ({ frames := 0, cells := 0, slots := 0, locals := 0 }) (ro_P D vwCl (tyL cI cA cJ) H [.int n, .int lo, .int hi]) (ro_Q (.int (wjV n lo hi)) H) 0 0 ro_no := by
  refine Met.ofW (cc := cX2_within) (maxL := 3) (ret := (some .int)) (by decide) rfl ?_
  intro p e s m args below meth c s₁ B hml hv
  obtain ⟨rfl, hh, hK⟩ := hv
  subst hh
  have hx := B.exec
  have hb := B.bytes
  have hr := B.returns
  have hlocks := B.notSynchronized
  have hts := atoms_spec (ws := wsX2_within) B.pre
  have hown : s.vm.findClass RX2 = some m.cls := findClass_of_methodNamed B.named
  have hl := lv_entry ([.int n, .int lo, .int hi]) (n := 3) (Nat.le_of_ble_eq_true rfl)
  rw [lg_entry_eq]
  generalize (lg_sl ([.int n, .int lo, .int hi]) ++ List.replicate (3 - (lg_sl ([.int n, .int lo, .int hi])).length) Slot.unset).toArray = ls at hl ⊢
  have hl : lv_has ls 3 [(0, .int n), (1, .int lo), (2, .int hi)] := hl
  refine lv_iload_n hx hb dX2_within_0 rfl (lv_at hl 0 rfl) ?_
  refine lv_iload_n hx hb dX2_within_1 rfl (lv_at hl 1 rfl) ?_
  refine lv_icmp_ge (tgt := 9) hx hb dX2_within_2 (by decide) (fun c_2 => ?_) (fun c_2 => ?_)
  · refine lv_iload_n hx hb dX2_within_9 rfl (lv_at hl 0 rfl) ?_
    refine lv_iload_n hx hb dX2_within_10 rfl (lv_at hl 2 rfl) ?_
    refine lv_icmp_le (tgt := 18) hx hb dX2_within_11 (by decide) (fun c_11 => ?_) (fun c_11 => ?_)
    · refine lv_iload_n hx hb dX2_within_18 rfl (lv_at hl 0 rfl) ?_
      exact ro_iret hx hb hr (by unfold wjV; rw [if_neg (Int32.not_lt.mpr c_2), if_neg (Int32.not_lt.mpr c_11)]) dX2_within_19 hlocks
    · refine lv_iload_n hx hb dX2_within_14 rfl (lv_at hl 2 rfl) ?_
      refine lv_goto (tgt := 19) hx hb dX2_within_15 (by decide) ?_
      exact ro_iret hx hb hr (by unfold wjV; rw [if_neg (Int32.not_lt.mpr c_2), if_pos (Int32.not_le.mp c_11)]) dX2_within_19 hlocks
  · refine lv_iload_n hx hb dX2_within_5 rfl (lv_at hl 1 rfl) ?_
    refine lv_goto (tgt := 19) hx hb dX2_within_6 (by decide) ?_
    exact ro_iret hx hb hr (by unfold wjV; rw [if_pos (Int32.not_le.mp c_2)]) dX2_within_19 hlocks
set_option maxHeartbeats 4000000 in
set_option maxRecDepth 100000 in
/-- isSame(level, p, q) -/
theorem c_X2_isSame (l : Launch) {D : va_G} {cI cA cJ : ClassId} {H : Heap} (Y : mA) (q : mv) (hm : m_ok q) (hM : va_P D vwCl (mW cI cJ Y q) H) (k x y : Nat) (hq : k < 3) (hx0 : x < m_P q) (hy0 : y < m_P q) : Met l yX2_isSame wsX2_isSame ({ frames := 0, cells := 0, slots := 0, locals := 0 }) (ro_P D vwCl (tyL cI cA cJ) H [.ref (b_o Y), .int (nI k), .int (nI x), .int (nI y)]) (ro_Q (.int (if sm q k x y then 1 else 0)) H) 0 0 ro_no := by
  refine Met.ofW (cc := cX2_isSame) (maxL := 4) (ret := (some .boolean)) (by decide) rfl ?_
  intro p e s m args below meth c s₁ B hml hv
  obtain ⟨rfl, hh, hK⟩ := hv
  subst hh
  have hx := B.exec
  have hb := B.bytes
  have hr := B.returns
  have hlocks := B.notSynchronized
  have hts := atoms_spec (ws := wsX2_isSame) B.pre
  have hown : s.vm.findClass RX2 = some m.cls := findClass_of_methodNamed B.named
  have hi2 : ∀ w ∈ wsX20, w ∈ wsX2_isSame := fun w h => List.mem_cons_of_mem _ (List.mem_append_right _ h)
  have hl := lv_entry ([.ref (b_o Y), .int (nI k), .int (nI x), .int (nI y)]) (n := 4) (Nat.le_of_ble_eq_true rfl)
  rw [lg_entry_eq]
  generalize (lg_sl ([.ref (b_o Y), .int (nI k), .int (nI x), .int (nI y)]) ++ List.replicate (4 - (lg_sl ([.ref (b_o Y), .int (nI k), .int (nI x), .int (nI y)])).length) Slot.unset).toArray = ls at hl ⊢
  have hl : lv_has ls 4 [(0, .ref (b_o Y)), (1, .int (nI k)), (2, .int (nI x)), (3, .int (nI y))] := hl
  obtain ⟨hp, hT, hRW, hkn⟩ := id hm
  obtain ⟨w1, w2, w3, w4⟩ := hRW k (by omega)
  have w5 := hkn k (by omega)
  have w6 := ng_le q k (m_P q)
  refine lv_aload_n hx hb dX2_isSame_0 rfl (lv_at hl 0 rfl) ?_
  refine va_get (D := D) (ci := 2) (v := .ref (b_t Y)) (C := RX2) (T := TX2) (N := 6) hx hb hts hi2 hown hK hM 0 rfl rfl 4 (by decide) (hts (.fieldLink RX2 17 "RingSeriesModel" "times" "[I") (by decide +kernel)) (fun _ h9 => h9) rfl dX2_isSame_1 ?_
  refine lv_iload_n hx hb dX2_isSame_4 rfl (lv_at hl 2 rfl) ?_
  refine ald_i (j := x) hx hb hK hM 3 0 rfl rfl (by omega) (by omega) dX2_isSame_5 ?_
  refine lv_i2l hx hb dX2_isSame_6 rfl ?_
  refine top_l (nI_l (hT _)) ?_
  refine lv_aload_n hx hb dX2_isSame_7 rfl (lv_at hl 0 rfl) ?_
  refine va_get (D := D) (ci := 2) (v := .ref (b_w Y)) (C := RX2) (T := TX2) (N := 6) hx hb hts hi2 hown hK hM 0 rfl rfl 2 (by decide) (hts (.fieldLink RX2 13 "RingSeriesModel" "widths" "[J") (by decide +kernel)) (fun _ h9 => h9) rfl dX2_isSame_8 ?_
  refine lv_iload_n hx hb dX2_isSame_11 rfl (lv_at hl 1 rfl) ?_
  refine ald_l (j := k) hx hb hK hM 2 2 rfl rfl (by omega) (by omega) dX2_isSame_12 ?_
  refine lv_ldiv hx hb dX2_isSame_13 (fun z => absurd ((pk_lEQ (b := 0) (by omega) (by omega)).mp z) (by omega)) ?_
  refine top_l (pk_lDiv (by have := hT x; omega) (by omega) (by omega)) ?_
  refine lv_aload_n hx hb dX2_isSame_14 rfl (lv_at hl 0 rfl) ?_
  refine va_get (D := D) (ci := 2) (v := .ref (b_t Y)) (C := RX2) (T := TX2) (N := 6) hx hb hts hi2 hown hK hM 0 rfl rfl 4 (by decide) (hts (.fieldLink RX2 17 "RingSeriesModel" "times" "[I") (by decide +kernel)) (fun _ h9 => h9) rfl dX2_isSame_15 ?_
  refine lv_iload_n hx hb dX2_isSame_18 rfl (lv_at hl 3 rfl) ?_
  refine ald_i (j := y) hx hb hK hM 3 0 rfl rfl (by omega) (by omega) dX2_isSame_19 ?_
  refine lv_i2l hx hb dX2_isSame_20 rfl ?_
  refine top_l (nI_l (hT _)) ?_
  refine lv_aload_n hx hb dX2_isSame_21 rfl (lv_at hl 0 rfl) ?_
  refine va_get (D := D) (ci := 2) (v := .ref (b_w Y)) (C := RX2) (T := TX2) (N := 6) hx hb hts hi2 hown hK hM 0 rfl rfl 2 (by decide) (hts (.fieldLink RX2 13 "RingSeriesModel" "widths" "[J") (by decide +kernel)) (fun _ h9 => h9) rfl dX2_isSame_22 ?_
  refine lv_iload_n hx hb dX2_isSame_25 rfl (lv_at hl 1 rfl) ?_
  refine ald_l (j := k) hx hb hK hM 2 2 rfl rfl (by omega) (by omega) dX2_isSame_26 ?_
  refine lv_ldiv hx hb dX2_isSame_27 (fun z => absurd ((pk_lEQ (b := 0) (by omega) (by omega)).mp z) (by omega)) ?_
  refine top_l (pk_lDiv (by have := hT y; omega) (by omega) (by omega)) ?_
  refine W.lcmp hx hb dX2_isSame_28 ?_
  refine lv_if_ne (tgt := 36) hx hb dX2_isSame_29 (by decide) (fun c_29 => ?_) (fun c_29 => ?_)
  · have c_29 := mt (lg_cmp_eq _ _).mpr c_29
    refine lv_iconst (v := 0) hx hb dX2_isSame_36 (by decide) ?_
    exact ro_zret hx hb hr (by first | rfl | decide) (by rw [if_neg (fun z => c_29 (congrArg lN z))]) dX2_isSame_37 hlocks
  · have c_29 := (lg_cmp_eq _ _).mp c_29
    refine lv_iconst (v := 1) hx hb dX2_isSame_32 (by decide) ?_
    refine lv_goto (tgt := 37) hx hb dX2_isSame_33 (by decide) ?_
    exact ro_zret hx hb hr (by first | rfl | decide) (by rw [if_pos ((pk_lEQ (Nat.lt_of_le_of_lt (Nat.div_le_self _ _) (by have := hT x; omega)) (Nat.lt_of_le_of_lt (Nat.div_le_self _ _) (by have := hT y; omega))).mp c_29)]) dX2_isSame_37 hlocks
set_option maxHeartbeats 4000000 in
set_option maxRecDepth 100000 in
/-- all(level) -/
theorem c_X2_all (l : Launch) {D : va_G} {cI cA cJ : ClassId} {H : Heap} (Y : mA) (q : mv) (hm : m_ok q) (hM : va_P D vwCl (mW cI cJ Y q) H) (k : Nat) (hq : k < 3) : Met l yX2_all wsX2_all ({ frames := 1, cells := 0, slots := 0, locals := 23 }) (ro_P D vwCl (tyL cI cA cJ) H [.ref (b_o Y), .int (nI k)]) (ro_Q (.int (nI (ng q k (m_P q)))) H) 0 0 ro_no := by
  refine Met.ofW (cc := cX2_all) (maxL := 4) (ret := (some .int)) (by decide) rfl ?_
  intro p e s m args below meth c s₁ B hml hv
  obtain ⟨rfl, hh, hK⟩ := hv
  subst hh
  have hx := B.exec
  have hb := B.bytes
  have hr := B.returns
  have hlocks := B.notSynchronized
  have hts := atoms_spec (ws := wsX2_all) B.pre
  have hown : s.vm.findClass RX2 = some m.cls := findClass_of_methodNamed B.named
  have hi2 : ∀ w ∈ wsX20, w ∈ wsX2_all := fun w h => List.mem_cons_of_mem _ (List.mem_append_right _ h)
  have hl := lv_entry ([.ref (b_o Y), .int (nI k)]) (n := 4) (Nat.le_of_ble_eq_true rfl)
  rw [lg_entry_eq]
  generalize (lg_sl ([.ref (b_o Y), .int (nI k)]) ++ List.replicate (4 - (lg_sl ([.ref (b_o Y), .int (nI k)])).length) Slot.unset).toArray = ls at hl ⊢
  have hl : lv_has ls 4 [(0, .ref (b_o Y)), (1, .int (nI k))] := hl
  obtain ⟨hp, hT, hRW, hkn⟩ := id hm
  obtain ⟨w1, w2, w3, w4⟩ := hRW k (by omega)
  have w5 := hkn k (by omega)
  have w6 := ng_le q k (m_P q)
  have loop : ∀ (n : Nat) (p0 : Nat) (ls : Array Slot), p0 + n = m_P q → lv_has ls 4 [(3, .int (nI p0)), (2, .int (nI (ng q k p0))), (0, .ref (b_o Y)), (1, .int (nI k))] → W p l e (headSpec wsX2_all ({ frames := 1, cells := 0, slots := 0, locals := 23 })).room s m ([.ref (b_o Y), .int (nI k)] : List Value).toArray below meth c s.heap [] 0 0 (MQ below (ro_Q (.int (nI (ng q k (m_P q)))) s.heap) ([.ref (b_o Y), .int (nI k)] : List Value).toArray s 0 0 ro_no) (F0 m 4 ls []) := by
    intro n
    induction n with
    | zero =>
      intro p0 ls hi hl
      have g0 := ng_le q k p0
      refine lv_iload_n hx hb dX2_all_4 rfl (lv_at hl 0 rfl) ?_
      refine lv_aload_n hx hb dX2_all_5 rfl (lv_at hl 2 rfl) ?_
      refine va_get (D := D) (ci := 2) (v := .int (nI (m_P q))) (C := RX2) (T := TX2) (N := 6) hx hb hts hi2 hown hK hM 0 rfl rfl 3 (by decide) (hts (.fieldLink RX2 32 "RingSeriesModel" "points" "I") (by decide +kernel)) (fun _ h9 => h9) rfl dX2_all_6 ?_
      refine lv_icmp_ge (tgt := 42) hx hb dX2_all_9 (by decide) (fun c_9 => ?_) (fun c_9 => ?_)
      · have c_9 := (nI_leI (a := m_P q) (b := p0) (by omega) (by omega)).mp c_9
        refine lv_iload_n hx hb dX2_all_42 rfl (lv_at hl 1 rfl) ?_
        exact ro_iret hx hb hr (by rw [show p0 = m_P q by omega]) dX2_all_43 hlocks
      · have c_9 := mt (nI_leI (a := m_P q) (b := p0) (by omega) (by omega)).mpr c_9
        exact absurd c_9 (by omega)
    | succ n ih =>
      intro p0 ls hi hl
      have g0 := ng_le q k p0
      refine lv_iload_n hx hb dX2_all_4 rfl (lv_at hl 0 rfl) ?_
      refine lv_aload_n hx hb dX2_all_5 rfl (lv_at hl 2 rfl) ?_
      refine va_get (D := D) (ci := 2) (v := .int (nI (m_P q))) (C := RX2) (T := TX2) (N := 6) hx hb hts hi2 hown hK hM 0 rfl rfl 3 (by decide) (hts (.fieldLink RX2 32 "RingSeriesModel" "points" "I") (by decide +kernel)) (fun _ h9 => h9) rfl dX2_all_6 ?_
      refine lv_icmp_ge (tgt := 42) hx hb dX2_all_9 (by decide) (fun c_9 => ?_) (fun c_9 => ?_)
      · have c_9 := (nI_leI (a := m_P q) (b := p0) (by omega) (by omega)).mp c_9
        exact absurd c_9 (by omega)
      · have c_9 := mt (nI_leI (a := m_P q) (b := p0) (by omega) (by omega)).mpr c_9
        refine lv_iload_n hx hb dX2_all_12 rfl (lv_at hl 0 rfl) ?_
        refine lv_if_eq (tgt := 28) hx hb dX2_all_13 (by decide) (fun c_13 => ?_) (fun c_13 => ?_)
        · have c_13 := (nI_eq (a := p0) (b := 0) (by omega) (by omega)).mp c_13
          refine lv_iload_n hx hb dX2_all_28 rfl (lv_at hl 1 rfl) ?_
          refine lv_iconst (v := 1) hx hb dX2_all_29 (by decide) ?_
          refine lv_iadd hx hb dX2_all_30 ?_
          refine top_i (nI_add _ 1) ?_
          refine lv_goto (tgt := 35) hx hb dX2_all_31 (by decide) ?_
          refine lv_istore_n (lv' := [(2, .int (nI ((ng q k p0) + 1))), (3, .int (nI p0)), (0, .ref (b_o Y)), (1, .int (nI k))]) hx hb dX2_all_35 rfl hl (by decide) rfl (fun ls hl => ?_)
          refine lv_iinc (v := nI (p0 + 1)) (lv' := [(3, .int (nI (p0 + 1))), (2, .int (nI ((ng q k p0) + 1))), (0, .ref (b_o Y)), (1, .int (nI k))]) hx hb dX2_all_36 hl (k := 1) rfl (inc1 _) (by decide) rfl (fun ls hl => ?_)
          refine lv_goto (tgt := 4) hx hb dX2_all_39 (by decide) ?_
          have e9 : ng q k (p0 + 1) = (ng q k p0) + 1 := by rw [ng, if_pos (Or.inl c_13)]
          exact ih (p0 + 1) ls (by omega) (by rw [e9]; exact (lv_sub hl [0, 1, 2, 3] rfl))
        · have c_13 := mt (nI_eq (a := p0) (b := 0) (by omega) (by omega)).mpr c_13
          refine lv_aload_n hx hb dX2_all_16 rfl (lv_at hl 2 rfl) ?_
          refine lv_iload_n hx hb dX2_all_17 rfl (lv_at hl 3 rfl) ?_
          refine lv_iload_n hx hb dX2_all_18 rfl (lv_at hl 0 rfl) ?_
          refine lv_iconst (v := 1) hx hb dX2_all_19 (by decide) ?_
          refine lv_isub hx hb dX2_all_20 ?_
          refine top_i (pk_sub (a := p0) (b := 1) (by omega)) ?_
          refine lv_iload_n hx hb dX2_all_21 rfl (lv_at hl 0 rfl) ?_
          refine ro_call (va_runV (As := [.int (nI k), .int (nI (p0 - 1)), .int (nI p0)]) (rest := []) ⟨hx, hb, hml, hown, hts⟩ (c_X2_isSame l Y q hm hM k (p0 - 1) p0 (by omega) (by omega) (by omega)) (cwV 3 hts gX2_all_X2_isSame rfl rfl rfl (by decide +kernel) ⟨Nat.le_of_ble_eq_true rfl, Nat.le_of_ble_eq_true rfl⟩) (ro_preV hK (va_recv hK hM (ci := 2) (q0 := 0) rfl rfl)) rfl rfl hl.1 rfl (lv_room (Nat.le_of_ble_eq_true rfl)) dX2_all_22 ⟨Nat.zero_le _, Nat.zero_le _⟩) ?_
          refine lv_if_ne (tgt := 34) hx hb dX2_all_25 (by decide) (fun c_25 => ?_) (fun c_25 => ?_)
          · have c_25 := bi_ne c_25
            refine lv_iload_n hx hb dX2_all_34 rfl (lv_at hl 1 rfl) ?_
            refine lv_istore_n (lv' := [(2, .int (nI (ng q k p0))), (3, .int (nI p0)), (0, .ref (b_o Y)), (1, .int (nI k))]) hx hb dX2_all_35 rfl hl (by decide) rfl (fun ls hl => ?_)
            refine lv_iinc (v := nI (p0 + 1)) (lv' := [(3, .int (nI (p0 + 1))), (2, .int (nI (ng q k p0))), (0, .ref (b_o Y)), (1, .int (nI k))]) hx hb dX2_all_36 hl (k := 1) rfl (inc1 _) (by decide) rfl (fun ls hl => ?_)
            refine lv_goto (tgt := 4) hx hb dX2_all_39 (by decide) ?_
            have e9 : ng q k (p0 + 1) = ng q k p0 := by rw [ng, if_neg (fun z => z.elim c_13 (fun z => z c_25))]
            exact ih (p0 + 1) ls (by omega) (by rw [e9]; exact (lv_sub hl [0, 1, 2, 3] rfl))
          · have c_25 := bi_eq c_25
            refine lv_iload_n hx hb dX2_all_28 rfl (lv_at hl 1 rfl) ?_
            refine lv_iconst (v := 1) hx hb dX2_all_29 (by decide) ?_
            refine lv_iadd hx hb dX2_all_30 ?_
            refine top_i (nI_add _ 1) ?_
            refine lv_goto (tgt := 35) hx hb dX2_all_31 (by decide) ?_
            refine lv_istore_n (lv' := [(2, .int (nI ((ng q k p0) + 1))), (3, .int (nI p0)), (0, .ref (b_o Y)), (1, .int (nI k))]) hx hb dX2_all_35 rfl hl (by decide) rfl (fun ls hl => ?_)
            refine lv_iinc (v := nI (p0 + 1)) (lv' := [(3, .int (nI (p0 + 1))), (2, .int (nI ((ng q k p0) + 1))), (0, .ref (b_o Y)), (1, .int (nI k))]) hx hb dX2_all_36 hl (k := 1) rfl (inc1 _) (by decide) rfl (fun ls hl => ?_)
            refine lv_goto (tgt := 4) hx hb dX2_all_39 (by decide) ?_
            have e9 : ng q k (p0 + 1) = (ng q k p0) + 1 := by rw [ng, if_pos (Or.inr c_25)]
            exact ih (p0 + 1) ls (by omega) (by rw [e9]; exact (lv_sub hl [0, 1, 2, 3] rfl))
  refine lv_iconst (v := 0) hx hb dX2_all_0 (by decide) ?_
  refine lv_istore_n (lv' := [(2, .int 0), (0, .ref (b_o Y)), (1, .int (nI k))]) hx hb dX2_all_1 rfl hl (by decide) rfl (fun ls hl => ?_)
  refine lv_iconst (v := 0) hx hb dX2_all_2 (by decide) ?_
  refine lv_istore_n (lv' := [(3, .int 0), (2, .int 0), (0, .ref (b_o Y)), (1, .int (nI k))]) hx hb dX2_all_3 rfl hl (by decide) rfl (fun ls hl => ?_)
  exact loop (m_P q) 0 ls (by omega) (lv_sub hl [0, 1, 2, 3] rfl)
set_option maxHeartbeats 4000000 in
set_option maxRecDepth 100000 in
/-- kept(level) -/
theorem c_X2_kept (l : Launch) {D : va_G} {cI cA cJ : ClassId} {H : Heap} (Y : mA) (q : mv) (hm : m_ok q) (hM : va_P D vwCl (mW cI cJ Y q) H) (k : Nat) (hq : k < 3) : Met l yX2_kept wsX2_kept ({ frames := 2, cells := 0, slots := 0, locals := 46 }) (ro_P D vwCl (tyL cI cA cJ) H [.ref (b_o Y), .int (nI k)]) (ro_Q (.int (nI (kp q k))) H) 0 0 ro_no := by
  refine Met.ofW (cc := cX2_kept) (maxL := 3) (ret := (some .int)) (by decide) rfl ?_
  intro p e s m args below meth c s₁ B hml hv
  obtain ⟨rfl, hh, hK⟩ := hv
  subst hh
  have hx := B.exec
  have hb := B.bytes
  have hr := B.returns
  have hlocks := B.notSynchronized
  have hts := atoms_spec (ws := wsX2_kept) B.pre
  have hown : s.vm.findClass RX2 = some m.cls := findClass_of_methodNamed B.named
  have hi2 : ∀ w ∈ wsX20, w ∈ wsX2_kept := fun w h => List.mem_cons_of_mem _ (List.mem_append_right _ h)
  have hl := lv_entry ([.ref (b_o Y), .int (nI k)]) (n := 3) (Nat.le_of_ble_eq_true rfl)
  rw [lg_entry_eq]
  generalize (lg_sl ([.ref (b_o Y), .int (nI k)]) ++ List.replicate (3 - (lg_sl ([.ref (b_o Y), .int (nI k)])).length) Slot.unset).toArray = ls at hl ⊢
  have hl : lv_has ls 3 [(0, .ref (b_o Y)), (1, .int (nI k))] := hl
  obtain ⟨hp, hT, hRW, hkn⟩ := id hm
  obtain ⟨w1, w2, w3, w4⟩ := hRW k (by omega)
  have w5 := hkn k (by omega)
  have w6 := ng_le q k (m_P q)
  refine lv_iload_n hx hb dX2_kept_0 rfl (lv_at hl 1 rfl) ?_
  refine lv_if_ne (tgt := 11) hx hb dX2_kept_1 (by decide) (fun c_1 => ?_) (fun c_1 => ?_)
  · have c_1 := mt (nI_eq (a := k) (b := 0) (by omega) (by omega)).mpr c_1
    refine lv_aload_n hx hb dX2_kept_11 rfl (lv_at hl 0 rfl) ?_
    refine lv_iload_n hx hb dX2_kept_12 rfl (lv_at hl 1 rfl) ?_
    refine ro_call (va_runV (As := [.int (nI k)]) (rest := []) ⟨hx, hb, hml, hown, hts⟩ (c_X2_all l Y q hm hM k (by omega)) (cwV 1 hts gX2_kept_X2_all rfl rfl rfl (by decide +kernel) ⟨Nat.le_of_ble_eq_true rfl, Nat.le_of_ble_eq_true rfl⟩) (ro_preV hK (va_recv hK hM (ci := 2) (q0 := 0) rfl rfl)) rfl rfl hl.1 rfl (lv_room (Nat.le_of_ble_eq_true rfl)) dX2_kept_13 ⟨Nat.zero_le _, Nat.zero_le _⟩) ?_
    refine lv_istore_n (lv' := [(2, .int (nI (ng q k (m_P q)))), (0, .ref (b_o Y)), (1, .int (nI k))]) hx hb dX2_kept_16 rfl hl (by decide) rfl (fun ls hl => ?_)
    refine lv_iload_n hx hb dX2_kept_17 rfl (lv_at hl 0 rfl) ?_
    refine lv_aload_n hx hb dX2_kept_18 rfl (lv_at hl 1 rfl) ?_
    refine va_get (D := D) (ci := 2) (v := .ref (b_r Y)) (C := RX2) (T := TX2) (N := 6) hx hb hts hi2 hown hK hM 0 rfl rfl 1 (by decide) (hts (.fieldLink RX2 7 "RingSeriesModel" "room" "[I") (by decide +kernel)) (fun _ h9 => h9) rfl dX2_kept_19 ?_
    refine lv_iload_n hx hb dX2_kept_22 rfl (lv_at hl 2 rfl) ?_
    refine ald_i (j := k) hx hb hK hM 1 0 rfl rfl (by omega) (by omega) dX2_kept_23 ?_
    refine lv_icmp_ge (tgt := 31) hx hb dX2_kept_24 (by decide) (fun c_24 => ?_) (fun c_24 => ?_)
    · have c_24 := (nI_leI (a := m_R q k) (b := ng q k (m_P q)) (by omega) (by omega)).mp c_24
      refine lv_aload_n hx hb dX2_kept_31 rfl (lv_at hl 1 rfl) ?_
      refine va_get (D := D) (ci := 2) (v := .ref (b_r Y)) (C := RX2) (T := TX2) (N := 6) hx hb hts hi2 hown hK hM 0 rfl rfl 1 (by decide) (hts (.fieldLink RX2 7 "RingSeriesModel" "room" "[I") (by decide +kernel)) (fun _ h9 => h9) rfl dX2_kept_32 ?_
      refine lv_iload_n hx hb dX2_kept_35 rfl (lv_at hl 2 rfl) ?_
      refine ald_i (j := k) hx hb hK hM 1 0 rfl rfl (by omega) (by omega) dX2_kept_36 ?_
      exact ro_iret hx hb hr (by unfold kp; rw [show nE q k = ng q k (m_P q) by unfold nE; rw [if_neg c_1], if_neg (by omega)]) dX2_kept_37 hlocks
    · have c_24 := mt (nI_leI (a := m_R q k) (b := ng q k (m_P q)) (by omega) (by omega)).mpr c_24
      refine lv_iload_n hx hb dX2_kept_27 rfl (lv_at hl 0 rfl) ?_
      refine lv_goto (tgt := 37) hx hb dX2_kept_28 (by decide) ?_
      exact ro_iret hx hb hr (by unfold kp; rw [show nE q k = ng q k (m_P q) by unfold nE; rw [if_neg c_1], if_pos (by omega)]) dX2_kept_37 hlocks
  · have c_1 := (nI_eq (a := k) (b := 0) (by omega) (by omega)).mp c_1
    refine lv_aload_n hx hb dX2_kept_4 rfl (lv_at hl 0 rfl) ?_
    refine va_get (D := D) (ci := 2) (v := .int (nI (m_P q))) (C := RX2) (T := TX2) (N := 6) hx hb hts hi2 hown hK hM 0 rfl rfl 3 (by decide) (hts (.fieldLink RX2 32 "RingSeriesModel" "points" "I") (by decide +kernel)) (fun _ h9 => h9) rfl dX2_kept_5 ?_
    refine lv_goto (tgt := 16) hx hb dX2_kept_8 (by decide) ?_
    refine lv_istore_n (lv' := [(2, .int (nI (m_P q))), (0, .ref (b_o Y)), (1, .int (nI k))]) hx hb dX2_kept_16 rfl hl (by decide) rfl (fun ls hl => ?_)
    refine lv_iload_n hx hb dX2_kept_17 rfl (lv_at hl 0 rfl) ?_
    refine lv_aload_n hx hb dX2_kept_18 rfl (lv_at hl 1 rfl) ?_
    refine va_get (D := D) (ci := 2) (v := .ref (b_r Y)) (C := RX2) (T := TX2) (N := 6) hx hb hts hi2 hown hK hM 0 rfl rfl 1 (by decide) (hts (.fieldLink RX2 7 "RingSeriesModel" "room" "[I") (by decide +kernel)) (fun _ h9 => h9) rfl dX2_kept_19 ?_
    refine lv_iload_n hx hb dX2_kept_22 rfl (lv_at hl 2 rfl) ?_
    refine ald_i (j := k) hx hb hK hM 1 0 rfl rfl (by omega) (by omega) dX2_kept_23 ?_
    refine lv_icmp_ge (tgt := 31) hx hb dX2_kept_24 (by decide) (fun c_24 => ?_) (fun c_24 => ?_)
    · have c_24 := (nI_leI (a := m_R q k) (b := m_P q) (by omega) (by omega)).mp c_24
      refine lv_aload_n hx hb dX2_kept_31 rfl (lv_at hl 1 rfl) ?_
      refine va_get (D := D) (ci := 2) (v := .ref (b_r Y)) (C := RX2) (T := TX2) (N := 6) hx hb hts hi2 hown hK hM 0 rfl rfl 1 (by decide) (hts (.fieldLink RX2 7 "RingSeriesModel" "room" "[I") (by decide +kernel)) (fun _ h9 => h9) rfl dX2_kept_32 ?_
      refine lv_iload_n hx hb dX2_kept_35 rfl (lv_at hl 2 rfl) ?_
      refine ald_i (j := k) hx hb hK hM 1 0 rfl rfl (by omega) (by omega) dX2_kept_36 ?_
      exact ro_iret hx hb hr (by unfold kp; rw [show nE q k = m_P q by unfold nE; rw [if_pos c_1], if_neg (by omega)]) dX2_kept_37 hlocks
    · have c_24 := mt (nI_leI (a := m_R q k) (b := m_P q) (by omega) (by omega)).mpr c_24
      refine lv_iload_n hx hb dX2_kept_27 rfl (lv_at hl 0 rfl) ?_
      refine lv_goto (tgt := 37) hx hb dX2_kept_28 (by decide) ?_
      exact ro_iret hx hb hr (by unfold kp; rw [show nE q k = m_P q by unfold nE; rw [if_pos c_1], if_pos (by omega)]) dX2_kept_37 hlocks
set_option maxHeartbeats 4000000 in
set_option maxRecDepth 100000 in
/-- first(level, i) -/
theorem c_X2_first (l : Launch) {D : va_G} {cI cA cJ : ClassId} {H : Heap} (Y : mA) (q : mv) (hm : m_ok q) (hM : va_P D vwCl (mW cI cJ Y q) H) (k j : Nat) (hq : k < 3) (hj : j < kp q k) : Met l yX2_first wsX2_first ({ frames := 3, cells := 0, slots := 0, locals := 68 }) (ro_P D vwCl (tyL cI cA cJ) H [.ref (b_o Y), .int (nI k), .int (nI j)]) (ro_Q (.int (nI (fs q k j))) H) 0 0 ro_no := by
  refine Met.ofW (cc := cX2_first) (maxL := 6) (ret := (some .int)) (by decide) rfl ?_
  intro p e s m args below meth c s₁ B hml hv
  obtain ⟨rfl, hh, hK⟩ := hv
  subst hh
  have hx := B.exec
  have hb := B.bytes
  have hr := B.returns
  have hlocks := B.notSynchronized
  have hts := atoms_spec (ws := wsX2_first) B.pre
  have hown : s.vm.findClass RX2 = some m.cls := findClass_of_methodNamed B.named
  have hi2 : ∀ w ∈ wsX20, w ∈ wsX2_first := fun w h => List.mem_cons_of_mem _ (List.mem_append_right _ h)
  have hl := lv_entry ([.ref (b_o Y), .int (nI k), .int (nI j)]) (n := 6) (Nat.le_of_ble_eq_true rfl)
  rw [lg_entry_eq]
  generalize (lg_sl ([.ref (b_o Y), .int (nI k), .int (nI j)]) ++ List.replicate (6 - (lg_sl ([.ref (b_o Y), .int (nI k), .int (nI j)])).length) Slot.unset).toArray = ls at hl ⊢
  have hl : lv_has ls 6 [(0, .ref (b_o Y)), (1, .int (nI k)), (2, .int (nI j))] := hl
  obtain ⟨hp, hT, hRW, hkn⟩ := id hm
  obtain ⟨w1, w2, w3, w4⟩ := hRW k (by omega)
  have w5 := hkn k (by omega)
  have w6 := ng_le q k (m_P q)
  have g9 : gn q k j + 1 ≤ ng q k (m_P q) := gn_lt w5 hj
  have loop : ∀ (n : Nat) (p0 : Nat) (ls : Array Slot), p0 + n = m_P q → fsr q k (gn q k j) n p0 = fs q k j → lv_has ls 6 [(5, .int (nI p0 - 1)), (4, .int (nI (ng q k p0) - 1)), (3, .int (nI (gn q k j))), (0, .ref (b_o Y)), (1, .int (nI k)), (2, .int (nI j))] → W p l e (headSpec wsX2_first ({ frames := 3, cells := 0, slots := 0, locals := 68 })).room s m ([.ref (b_o Y), .int (nI k), .int (nI j)] : List Value).toArray below meth c s.heap [] 0 0 (MQ below (ro_Q (.int (nI (fs q k j))) s.heap) ([.ref (b_o Y), .int (nI k), .int (nI j)] : List Value).toArray s 0 0 ro_no) (F0 m 20 ls []) := by
    intro n
    induction n with
    | zero =>
      intro p0 ls hi hf hl
      have g0 := ng_le q k p0
      have gz : ng q k 0 = 0 := rfl
      have g1 : 0 < p0 := by omega
      refine lv_iload hx hb dX2_first_20 (lv_at hl 1 rfl) ?_
      refine lv_iload_n hx hb dX2_first_22 rfl (lv_at hl 2 rfl) ?_
      refine lv_icmp_ge (tgt := 62) hx hb dX2_first_23 (by decide) (fun c_23 => ?_) (fun c_23 => ?_)
      · refine lv_iload hx hb dX2_first_62 (lv_at hl 0 rfl) ?_
        have c_23 := (ge_m1 (by omega) (by omega)).mp c_23
        exact ro_iret hx hb hr (by rw [← hf]; exact (pk_sub (b := 1) (by omega))) dX2_first_64 hlocks
      · exact absurd ((ge_m1 (by omega) (by omega)).mpr (by rw [show p0 = m_P q by omega]; exact g9)) c_23
    | succ n ih =>
      intro p0 ls hi hf hl
      have g0 := ng_le q k p0
      have gz : ng q k 0 = 0 := rfl
      have g7 : 0 < ng q k p0 → 0 < p0 := by omega
      refine lv_iload hx hb dX2_first_20 (lv_at hl 1 rfl) ?_
      refine lv_iload_n hx hb dX2_first_22 rfl (lv_at hl 2 rfl) ?_
      refine lv_icmp_ge (tgt := 62) hx hb dX2_first_23 (by decide) (fun c_23 => ?_) (fun c_23 => ?_)
      · refine lv_iload hx hb dX2_first_62 (lv_at hl 0 rfl) ?_
        have c_23 := (ge_m1 (by omega) (by omega)).mp c_23
        exact ro_iret hx hb hr (by rw [← hf]; exact (by rw [fsr, if_pos c_23]; exact pk_sub (b := 1) (by omega))) dX2_first_64 hlocks
      · have c_23 := mt (ge_m1 (by omega) (by omega)).mpr c_23
        have g1 : ¬ p0 = m_P q := fun z => c_23 (by rw [z]; exact g9)
        refine lv_iinc (v := nI p0) (lv' := [(5, .int (nI p0)), (4, .int (nI (ng q k p0) - 1)), (3, .int (nI (gn q k j))), (0, .ref (b_o Y)), (1, .int (nI k)), (2, .int (nI j))]) hx hb dX2_first_26 hl (k := 0) rfl (Int32.sub_add_cancel _ _) (by decide) rfl (fun ls hl => ?_)
        refine lv_iload hx hb dX2_first_29 (lv_at hl 0 rfl) ?_
        refine lv_if_eq (tgt := 48) hx hb dX2_first_31 (by decide) (fun c_31 => ?_) (fun c_31 => ?_)
        · have c_31 := (nI_eq (a := p0) (b := 0) (by omega) (by omega)).mp c_31
          refine lv_iload hx hb dX2_first_48 (lv_at hl 1 rfl) ?_
          refine lv_iconst (v := 1) hx hb dX2_first_50 (by decide) ?_
          refine lv_iadd hx hb dX2_first_51 ?_
          refine top_i (Int32.sub_add_cancel _ _) ?_
          refine lv_goto (tgt := 57) hx hb dX2_first_52 (by decide) ?_
          refine lv_istore (lv' := [(4, .int (nI (ng q k p0))), (5, .int (nI p0)), (3, .int (nI (gn q k j))), (0, .ref (b_o Y)), (1, .int (nI k)), (2, .int (nI j))]) hx hb dX2_first_57 hl (by decide) rfl (fun ls hl => ?_)
          refine lv_goto (tgt := 20) hx hb dX2_first_59 (by decide) ?_
          have e9 : ng q k (p0 + 1) = ng q k p0 + 1 := by rw [ng, if_pos (Or.inl c_31)]
          exact ih (p0 + 1) ls (by omega) (by rw [← hf, fsr, if_neg c_23]) (by rw [e9, show nI (ng q k p0 + 1) - 1 = nI (ng q k p0) from nI_pred _, show nI (p0 + 1) - 1 = nI p0 from nI_pred p0]; exact (lv_sub hl [1, 0, 2, 3, 4, 5] rfl))
        · have c_31 := mt (nI_eq (a := p0) (b := 0) (by omega) (by omega)).mpr c_31
          refine lv_aload_n hx hb dX2_first_34 rfl (lv_at hl 3 rfl) ?_
          refine lv_iload_n hx hb dX2_first_35 rfl (lv_at hl 4 rfl) ?_
          refine lv_iload hx hb dX2_first_36 (lv_at hl 0 rfl) ?_
          refine lv_iconst (v := 1) hx hb dX2_first_38 (by decide) ?_
          refine lv_isub hx hb dX2_first_39 ?_
          refine top_i (pk_sub (a := p0) (b := 1) (by omega)) ?_
          refine lv_iload hx hb dX2_first_40 (lv_at hl 0 rfl) ?_
          refine ro_call (va_runV (As := [.int (nI k), .int (nI (p0 - 1)), .int (nI p0)]) (rest := []) ⟨hx, hb, hml, hown, hts⟩ (c_X2_isSame l Y q hm hM k (p0 - 1) p0 (by omega) (by omega) (by omega)) (cwV 3 hts gX2_first_X2_isSame rfl rfl rfl (by decide +kernel) ⟨Nat.le_of_ble_eq_true rfl, Nat.le_of_ble_eq_true rfl⟩) (ro_preV hK (va_recv hK hM (ci := 2) (q0 := 0) rfl rfl)) rfl rfl hl.1 rfl (lv_room (Nat.le_of_ble_eq_true rfl)) dX2_first_42 ⟨Nat.zero_le _, Nat.zero_le _⟩) ?_
          refine lv_if_ne (tgt := 55) hx hb dX2_first_45 (by decide) (fun c_45 => ?_) (fun c_45 => ?_)
          · have c_45 := bi_ne c_45
            refine lv_iload hx hb dX2_first_55 (lv_at hl 1 rfl) ?_
            refine lv_istore (lv' := [(4, .int (nI (ng q k p0) - 1)), (5, .int (nI p0)), (3, .int (nI (gn q k j))), (0, .ref (b_o Y)), (1, .int (nI k)), (2, .int (nI j))]) hx hb dX2_first_57 hl (by decide) rfl (fun ls hl => ?_)
            refine lv_goto (tgt := 20) hx hb dX2_first_59 (by decide) ?_
            have e9 : ng q k (p0 + 1) = ng q k p0 := by rw [ng, if_neg (fun z => z.elim c_31 (fun z => z c_45))]
            exact ih (p0 + 1) ls (by omega) (by rw [← hf, fsr, if_neg c_23]) (by rw [e9, show nI (p0 + 1) - 1 = nI p0 from nI_pred p0]; exact (lv_sub hl [1, 0, 2, 3, 4, 5] rfl))
          · have c_45 := bi_eq c_45
            refine lv_iload hx hb dX2_first_48 (lv_at hl 1 rfl) ?_
            refine lv_iconst (v := 1) hx hb dX2_first_50 (by decide) ?_
            refine lv_iadd hx hb dX2_first_51 ?_
            refine top_i (Int32.sub_add_cancel _ _) ?_
            refine lv_goto (tgt := 57) hx hb dX2_first_52 (by decide) ?_
            refine lv_istore (lv' := [(4, .int (nI (ng q k p0))), (5, .int (nI p0)), (3, .int (nI (gn q k j))), (0, .ref (b_o Y)), (1, .int (nI k)), (2, .int (nI j))]) hx hb dX2_first_57 hl (by decide) rfl (fun ls hl => ?_)
            refine lv_goto (tgt := 20) hx hb dX2_first_59 (by decide) ?_
            have e9 : ng q k (p0 + 1) = ng q k p0 + 1 := by rw [ng, if_pos (Or.inr c_45)]
            exact ih (p0 + 1) ls (by omega) (by rw [← hf, fsr, if_neg c_23]) (by rw [e9, show nI (ng q k p0 + 1) - 1 = nI (ng q k p0) from nI_pred _, show nI (p0 + 1) - 1 = nI p0 from nI_pred p0]; exact (lv_sub hl [1, 0, 2, 3, 4, 5] rfl))
  refine lv_aload_n hx hb dX2_first_0 rfl (lv_at hl 0 rfl) ?_
  refine lv_iload_n hx hb dX2_first_1 rfl (lv_at hl 1 rfl) ?_
  refine ro_call (va_runV (As := [.int (nI k)]) (rest := []) ⟨hx, hb, hml, hown, hts⟩ (c_X2_all l Y q hm hM k (by omega)) (cwV 1 hts gX2_first_X2_all rfl rfl rfl (by decide +kernel) ⟨Nat.le_of_ble_eq_true rfl, Nat.le_of_ble_eq_true rfl⟩) (ro_preV hK (va_recv hK hM (ci := 2) (q0 := 0) rfl rfl)) rfl rfl hl.1 rfl (lv_room (Nat.le_of_ble_eq_true rfl)) dX2_first_2 ⟨Nat.zero_le _, Nat.zero_le _⟩) ?_
  refine lv_aload_n hx hb dX2_first_5 rfl (lv_at hl 0 rfl) ?_
  refine lv_iload_n hx hb dX2_first_6 rfl (lv_at hl 1 rfl) ?_
  refine ro_call (va_runV (As := [.int (nI k)]) (rest := [.int (nI (ng q k (m_P q)))]) ⟨hx, hb, hml, hown, hts⟩ (c_X2_kept l Y q hm hM k (by omega)) (cwV 1 hts gX2_first_X2_kept rfl rfl rfl (by decide +kernel) ⟨Nat.le_of_ble_eq_true rfl, Nat.le_of_ble_eq_true rfl⟩) (ro_preV hK (va_recv hK hM (ci := 2) (q0 := 0) rfl rfl)) rfl rfl hl.1 rfl (lv_room (Nat.le_of_ble_eq_true rfl)) dX2_first_7 ⟨Nat.zero_le _, Nat.zero_le _⟩) ?_
  refine lv_isub hx hb dX2_first_10 ?_
  refine top_i (pk_sub (a := ng q k (m_P q)) (b := kp q k) w5) ?_
  refine lv_iload_n hx hb dX2_first_11 rfl (lv_at hl 2 rfl) ?_
  refine lv_iadd hx hb dX2_first_12 ?_
  refine top_i (nI_add _ _) ?_
  refine lv_istore_n (lv' := [(3, .int (nI (((ng q k (m_P q)) - (kp q k)) + j))), (0, .ref (b_o Y)), (1, .int (nI k)), (2, .int (nI j))]) hx hb dX2_first_13 rfl hl (by decide) rfl (fun ls hl => ?_)
  refine lv_iconst (v := (-1)) hx hb dX2_first_14 (by decide) ?_
  refine lv_istore (lv' := [(4, .int (-1)), (3, .int (nI (((ng q k (m_P q)) - (kp q k)) + j))), (0, .ref (b_o Y)), (1, .int (nI k)), (2, .int (nI j))]) hx hb dX2_first_15 hl (by decide) rfl (fun ls hl => ?_)
  refine lv_iconst (v := (-1)) hx hb dX2_first_17 (by decide) ?_
  refine lv_istore (lv' := [(5, .int (-1)), (4, .int (-1)), (3, .int (nI (((ng q k (m_P q)) - (kp q k)) + j))), (0, .ref (b_o Y)), (1, .int (nI k)), (2, .int (nI j))]) hx hb dX2_first_18 hl (by decide) rfl (fun ls hl => ?_)
  exact loop (m_P q) 0 ls (by omega) rfl (lv_sub hl [0, 1, 2, 3, 4, 5] rfl)
set_option maxHeartbeats 4000000 in
set_option maxRecDepth 100000 in
/-- isEntry, one -/
theorem c_X2_isEntry_t (l : Launch) {D : va_G} {cI cA cJ : ClassId} {H : Heap} (Y : mA) (q : mv) (hm : m_ok q) (hM : va_P D vwCl (mW cI cJ Y q) H) (k j : Nat) (hq : k < 3) (hj : j < kp q k) : Met l yX2_isEntry wsX2_isEntry ({ frames := 3, cells := 0, slots := 0, locals := 68 }) (ro_P D vwCl (tyL cI cA cJ) H [.ref (b_o Y), .int (nI k), .int (nI j)]) (ro_Q (.int 1) H) 0 0 ro_no := by
  refine Met.ofW (cc := cX2_isEntry) (maxL := 3) (ret := (some .boolean)) (by decide) rfl ?_
  intro p e s m args below meth c s₁ B hml hv
  obtain ⟨rfl, hh, hK⟩ := hv
  subst hh
  have hx := B.exec
  have hb := B.bytes
  have hr := B.returns
  have hlocks := B.notSynchronized
  have hts := atoms_spec (ws := wsX2_isEntry) B.pre
  have hown : s.vm.findClass RX2 = some m.cls := findClass_of_methodNamed B.named
  have hi2 : ∀ w ∈ wsX20, w ∈ wsX2_isEntry := fun w h => List.mem_cons_of_mem _ (List.mem_append_right _ h)
  have hl := lv_entry ([.ref (b_o Y), .int (nI k), .int (nI j)]) (n := 3) (Nat.le_of_ble_eq_true rfl)
  rw [lg_entry_eq]
  generalize (lg_sl ([.ref (b_o Y), .int (nI k), .int (nI j)]) ++ List.replicate (3 - (lg_sl ([.ref (b_o Y), .int (nI k), .int (nI j)])).length) Slot.unset).toArray = ls at hl ⊢
  have hl : lv_has ls 3 [(0, .ref (b_o Y)), (1, .int (nI k)), (2, .int (nI j))] := hl
  obtain ⟨hp, hT, hRW, hkn⟩ := id hm
  obtain ⟨w1, w2, w3, w4⟩ := hRW k (by omega)
  have w5 := hkn k (by omega)
  have w6 := ng_le q k (m_P q)
  refine lv_iload_n hx hb dX2_isEntry_0 rfl (lv_at hl 1 rfl) ?_
  refine lv_if_lt (tgt := 26) hx hb dX2_isEntry_1 (by decide) (fun c_1 => ?_) (fun c_1 => ?_)
  · exact absurd c_1 (nI_pos (by omega))
  · refine lv_iload_n hx hb dX2_isEntry_4 rfl (lv_at hl 1 rfl) ?_
    refine lv_iconst (v := 2) hx hb dX2_isEntry_5 (by decide) ?_
    refine lv_icmp_gt (tgt := 26) hx hb dX2_isEntry_6 (by decide) (fun c_6 => ?_) (fun c_6 => ?_)
    · have c_6 := (nI_ltI (a := 2) (b := k) (by omega) (by omega)).mp c_6
      exact absurd c_6 (by omega)
    · have c_6 := mt (nI_ltI (a := 2) (b := k) (by omega) (by omega)).mpr c_6
      refine lv_iload_n hx hb dX2_isEntry_9 rfl (lv_at hl 2 rfl) ?_
      refine lv_if_lt (tgt := 26) hx hb dX2_isEntry_10 (by decide) (fun c_10 => ?_) (fun c_10 => ?_)
      · exact absurd c_10 (nI_pos (by omega))
      · refine lv_iload_n hx hb dX2_isEntry_13 rfl (lv_at hl 2 rfl) ?_
        refine lv_aload_n hx hb dX2_isEntry_14 rfl (lv_at hl 0 rfl) ?_
        refine lv_iload_n hx hb dX2_isEntry_15 rfl (lv_at hl 1 rfl) ?_
        refine ro_call (va_runV (As := [.int (nI k)]) (rest := [.int (nI j)]) ⟨hx, hb, hml, hown, hts⟩ (c_X2_kept l Y q hm hM k (by omega)) (cwV 1 hts gX2_isEntry_X2_kept rfl rfl rfl (by decide +kernel) ⟨Nat.le_of_ble_eq_true rfl, Nat.le_of_ble_eq_true rfl⟩) (ro_preV hK (va_recv hK hM (ci := 2) (q0 := 0) rfl rfl)) rfl rfl hl.1 rfl (lv_room (Nat.le_of_ble_eq_true rfl)) dX2_isEntry_16 ⟨Nat.zero_le _, Nat.zero_le _⟩) ?_
        refine lv_icmp_ge (tgt := 26) hx hb dX2_isEntry_19 (by decide) (fun c_19 => ?_) (fun c_19 => ?_)
        · have c_19 := (nI_leI (a := kp q k) (b := j) (by omega) (by omega)).mp c_19
          exact absurd c_19 (by omega)
        · have c_19 := mt (nI_leI (a := kp q k) (b := j) (by omega) (by omega)).mpr c_19
          refine lv_iconst (v := 1) hx hb dX2_isEntry_22 (by decide) ?_
          refine lv_goto (tgt := 27) hx hb dX2_isEntry_23 (by decide) ?_
          exact ro_zret hx hb hr (by first | rfl | decide) rfl dX2_isEntry_27 hlocks
set_option maxHeartbeats 4000000 in
set_option maxRecDepth 100000 in
/-- isEntry, none -/
theorem c_X2_isEntry_n (l : Launch) {D : va_G} {cI cA cJ : ClassId} {H : Heap} (Y : mA) (q : mv) (hm : m_ok q) (hM : va_P D vwCl (mW cI cJ Y q) H) (k : Nat) (i : Int32) (hq : k < 3) (hi : ¬ ix (kp q k) i) : Met l yX2_isEntry wsX2_isEntry ({ frames := 3, cells := 0, slots := 0, locals := 68 }) (ro_P D vwCl (tyL cI cA cJ) H [.ref (b_o Y), .int (nI k), .int i]) (ro_Q (.int 0) H) 0 0 ro_no := by
  refine Met.ofW (cc := cX2_isEntry) (maxL := 3) (ret := (some .boolean)) (by decide) rfl ?_
  intro p e s m args below meth c s₁ B hml hv
  obtain ⟨rfl, hh, hK⟩ := hv
  subst hh
  have hx := B.exec
  have hb := B.bytes
  have hr := B.returns
  have hlocks := B.notSynchronized
  have hts := atoms_spec (ws := wsX2_isEntry) B.pre
  have hown : s.vm.findClass RX2 = some m.cls := findClass_of_methodNamed B.named
  have hi2 : ∀ w ∈ wsX20, w ∈ wsX2_isEntry := fun w h => List.mem_cons_of_mem _ (List.mem_append_right _ h)
  have hl := lv_entry ([.ref (b_o Y), .int (nI k), .int i]) (n := 3) (Nat.le_of_ble_eq_true rfl)
  rw [lg_entry_eq]
  generalize (lg_sl ([.ref (b_o Y), .int (nI k), .int i]) ++ List.replicate (3 - (lg_sl ([.ref (b_o Y), .int (nI k), .int i])).length) Slot.unset).toArray = ls at hl ⊢
  have hl : lv_has ls 3 [(0, .ref (b_o Y)), (1, .int (nI k)), (2, .int i)] := hl
  obtain ⟨hp, hT, hRW, hkn⟩ := id hm
  obtain ⟨w1, w2, w3, w4⟩ := hRW k (by omega)
  have w5 := hkn k (by omega)
  have w6 := ng_le q k (m_P q)
  refine lv_iload_n hx hb dX2_isEntry_0 rfl (lv_at hl 1 rfl) ?_
  refine lv_if_lt (tgt := 26) hx hb dX2_isEntry_1 (by decide) (fun c_1 => ?_) (fun c_1 => ?_)
  · exact absurd c_1 (nI_pos (by omega))
  · refine lv_iload_n hx hb dX2_isEntry_4 rfl (lv_at hl 1 rfl) ?_
    refine lv_iconst (v := 2) hx hb dX2_isEntry_5 (by decide) ?_
    refine lv_icmp_gt (tgt := 26) hx hb dX2_isEntry_6 (by decide) (fun c_6 => ?_) (fun c_6 => ?_)
    · have c_6 := (nI_ltI (a := 2) (b := k) (by omega) (by omega)).mp c_6
      exact absurd c_6 (by omega)
    · have c_6 := mt (nI_ltI (a := 2) (b := k) (by omega) (by omega)).mpr c_6
      refine lv_iload_n hx hb dX2_isEntry_9 rfl (lv_at hl 2 rfl) ?_
      refine lv_if_lt (tgt := 26) hx hb dX2_isEntry_10 (by decide) (fun c_10 => ?_) (fun c_10 => ?_)
      · refine lv_iconst (v := 0) hx hb dX2_isEntry_26 (by decide) ?_
        exact ro_zret hx hb hr (by first | rfl | decide) rfl dX2_isEntry_27 hlocks
      · refine lv_iload_n hx hb dX2_isEntry_13 rfl (lv_at hl 2 rfl) ?_
        refine lv_aload_n hx hb dX2_isEntry_14 rfl (lv_at hl 0 rfl) ?_
        refine lv_iload_n hx hb dX2_isEntry_15 rfl (lv_at hl 1 rfl) ?_
        refine ro_call (va_runV (As := [.int (nI k)]) (rest := [.int i]) ⟨hx, hb, hml, hown, hts⟩ (c_X2_kept l Y q hm hM k (by omega)) (cwV 1 hts gX2_isEntry_X2_kept rfl rfl rfl (by decide +kernel) ⟨Nat.le_of_ble_eq_true rfl, Nat.le_of_ble_eq_true rfl⟩) (ro_preV hK (va_recv hK hM (ci := 2) (q0 := 0) rfl rfl)) rfl rfl hl.1 rfl (lv_room (Nat.le_of_ble_eq_true rfl)) dX2_isEntry_16 ⟨Nat.zero_le _, Nat.zero_le _⟩) ?_
        refine lv_icmp_ge (tgt := 26) hx hb dX2_isEntry_19 (by decide) (fun c_19 => ?_) (fun c_19 => ?_)
        · refine lv_iconst (v := 0) hx hb dX2_isEntry_26 (by decide) ?_
          exact ro_zret hx hb hr (by first | rfl | decide) rfl dX2_isEntry_27 hlocks
        · exact absurd (ix_nix hi) (fun z => z.elim c_10 c_19)
set_option maxHeartbeats 4000000 in
set_option maxRecDepth 100000 in
/-- isEntry, no level -/
theorem c_X2_isEntry_x (l : Launch) {D : va_G} {cI cA cJ : ClassId} {H : Heap} (Y : mA) (q : mv) (hm : m_ok q) (hM : va_P D vwCl (mW cI cJ Y q) H) (v i : Int32) (hn : ¬ ix 3 v) : Met l yX2_isEntry wsX2_isEntry ({ frames := 3, cells := 0, slots := 0, locals := 68 }) (ro_P D vwCl (tyL cI cA cJ) H [.ref (b_o Y), .int v, .int i]) (ro_Q (.int 0) H) 0 0 ro_no := by
  refine Met.ofW (cc := cX2_isEntry) (maxL := 3) (ret := (some .boolean)) (by decide) rfl ?_
  intro p e s m args below meth c s₁ B hml hv
  obtain ⟨rfl, hh, hK⟩ := hv
  subst hh
  have hx := B.exec
  have hb := B.bytes
  have hr := B.returns
  have hlocks := B.notSynchronized
  have hts := atoms_spec (ws := wsX2_isEntry) B.pre
  have hown : s.vm.findClass RX2 = some m.cls := findClass_of_methodNamed B.named
  have hi2 : ∀ w ∈ wsX20, w ∈ wsX2_isEntry := fun w h => List.mem_cons_of_mem _ (List.mem_append_right _ h)
  have hl := lv_entry ([.ref (b_o Y), .int v, .int i]) (n := 3) (Nat.le_of_ble_eq_true rfl)
  rw [lg_entry_eq]
  generalize (lg_sl ([.ref (b_o Y), .int v, .int i]) ++ List.replicate (3 - (lg_sl ([.ref (b_o Y), .int v, .int i])).length) Slot.unset).toArray = ls at hl ⊢
  have hl : lv_has ls 3 [(0, .ref (b_o Y)), (1, .int v), (2, .int i)] := hl
  obtain ⟨hp, hT, hRW, hkn⟩ := id hm
  refine lv_iload_n hx hb dX2_isEntry_0 rfl (lv_at hl 1 rfl) ?_
  refine lv_if_lt (tgt := 26) hx hb dX2_isEntry_1 (by decide) (fun c_1 => ?_) (fun c_1 => ?_)
  · refine lv_iconst (v := 0) hx hb dX2_isEntry_26 (by decide) ?_
    exact ro_zret hx hb hr (by first | rfl | decide) rfl dX2_isEntry_27 hlocks
  · refine lv_iload_n hx hb dX2_isEntry_4 rfl (lv_at hl 1 rfl) ?_
    refine lv_iconst (v := 2) hx hb dX2_isEntry_5 (by decide) ?_
    refine lv_icmp_gt (tgt := 26) hx hb dX2_isEntry_6 (by decide) (fun c_6 => ?_) (fun c_6 => ?_)
    · refine lv_iconst (v := 0) hx hb dX2_isEntry_26 (by decide) ?_
      exact ro_zret hx hb hr (by first | rfl | decide) rfl dX2_isEntry_27 hlocks
    · exact absurd (nix3b hn) (fun z => z.elim c_1 c_6)
set_option maxHeartbeats 4000000 in
set_option maxRecDepth 100000 in
/-- count(level) -/
theorem c_X2_count (l : Launch) {D : va_G} {cI cA cJ : ClassId} {H : Heap} (Y : mA) (q : mv) (hm : m_ok q) (hM : va_P D vwCl (mW cI cJ Y q) H) (k : Nat) (hq : k < 3) : Met l yX2_count wsX2_count ({ frames := 3, cells := 0, slots := 0, locals := 68 }) (ro_P D vwCl (tyL cI cA cJ) H [.ref (b_o Y), .int (nI k)]) (ro_Q (.int (nI (kp q k))) H) 0 0 ro_no := by
  refine Met.ofW (cc := cX2_count) (maxL := 2) (ret := (some .int)) (by decide) rfl ?_
  intro p e s m args below meth c s₁ B hml hv
  obtain ⟨rfl, hh, hK⟩ := hv
  subst hh
  have hx := B.exec
  have hb := B.bytes
  have hr := B.returns
  have hlocks := B.notSynchronized
  have hts := atoms_spec (ws := wsX2_count) B.pre
  have hown : s.vm.findClass RX2 = some m.cls := findClass_of_methodNamed B.named
  have hi2 : ∀ w ∈ wsX20, w ∈ wsX2_count := fun w h => List.mem_cons_of_mem _ (List.mem_append_right _ h)
  have hl := lv_entry ([.ref (b_o Y), .int (nI k)]) (n := 2) (Nat.le_of_ble_eq_true rfl)
  rw [lg_entry_eq]
  generalize (lg_sl ([.ref (b_o Y), .int (nI k)]) ++ List.replicate (2 - (lg_sl ([.ref (b_o Y), .int (nI k)])).length) Slot.unset).toArray = ls at hl ⊢
  have hl : lv_has ls 2 [(0, .ref (b_o Y)), (1, .int (nI k))] := hl
  obtain ⟨hp, hT, hRW, hkn⟩ := id hm
  obtain ⟨w1, w2, w3, w4⟩ := hRW k (by omega)
  have w5 := hkn k (by omega)
  have w6 := ng_le q k (m_P q)
  refine lv_iload_n hx hb dX2_count_0 rfl (lv_at hl 1 rfl) ?_
  refine lv_if_lt (tgt := 17) hx hb dX2_count_1 (by decide) (fun c_1 => ?_) (fun c_1 => ?_)
  · exact absurd c_1 (nI_pos (by omega))
  · refine lv_iload_n hx hb dX2_count_4 rfl (lv_at hl 1 rfl) ?_
    refine lv_iconst (v := 2) hx hb dX2_count_5 (by decide) ?_
    refine lv_icmp_gt (tgt := 17) hx hb dX2_count_6 (by decide) (fun c_6 => ?_) (fun c_6 => ?_)
    · have c_6 := (nI_ltI (a := 2) (b := k) (by omega) (by omega)).mp c_6
      exact absurd c_6 (by omega)
    · have c_6 := mt (nI_ltI (a := 2) (b := k) (by omega) (by omega)).mpr c_6
      refine lv_aload_n hx hb dX2_count_9 rfl (lv_at hl 0 rfl) ?_
      refine lv_iload_n hx hb dX2_count_10 rfl (lv_at hl 1 rfl) ?_
      refine ro_call (va_runV (As := [.int (nI k)]) (rest := []) ⟨hx, hb, hml, hown, hts⟩ (c_X2_kept l Y q hm hM k (by omega)) (cwV 1 hts gX2_count_X2_kept rfl rfl rfl (by decide +kernel) ⟨Nat.le_of_ble_eq_true rfl, Nat.le_of_ble_eq_true rfl⟩) (ro_preV hK (va_recv hK hM (ci := 2) (q0 := 0) rfl rfl)) rfl rfl hl.1 rfl (lv_room (Nat.le_of_ble_eq_true rfl)) dX2_count_11 ⟨Nat.zero_le _, Nat.zero_le _⟩) ?_
      refine lv_goto (tgt := 18) hx hb dX2_count_14 (by decide) ?_
      exact ro_iret hx hb hr rfl dX2_count_18 hlocks
set_option maxHeartbeats 4000000 in
set_option maxRecDepth 100000 in
/-- count, no level -/
theorem c_X2_count_x (l : Launch) {D : va_G} {cI cA cJ : ClassId} {H : Heap} (Y : mA) (q : mv) (hm : m_ok q) (hM : va_P D vwCl (mW cI cJ Y q) H) (v : Int32) (hn : ¬ ix 3 v) : Met l yX2_count wsX2_count ({ frames := 3, cells := 0, slots := 0, locals := 68 }) (ro_P D vwCl (tyL cI cA cJ) H [.ref (b_o Y), .int v]) (ro_Q (.int (-1)) H) 0 0 ro_no := by
  refine Met.ofW (cc := cX2_count) (maxL := 2) (ret := (some .int)) (by decide) rfl ?_
  intro p e s m args below meth c s₁ B hml hv
  obtain ⟨rfl, hh, hK⟩ := hv
  subst hh
  have hx := B.exec
  have hb := B.bytes
  have hr := B.returns
  have hlocks := B.notSynchronized
  have hts := atoms_spec (ws := wsX2_count) B.pre
  have hown : s.vm.findClass RX2 = some m.cls := findClass_of_methodNamed B.named
  have hi2 : ∀ w ∈ wsX20, w ∈ wsX2_count := fun w h => List.mem_cons_of_mem _ (List.mem_append_right _ h)
  have hl := lv_entry ([.ref (b_o Y), .int v]) (n := 2) (Nat.le_of_ble_eq_true rfl)
  rw [lg_entry_eq]
  generalize (lg_sl ([.ref (b_o Y), .int v]) ++ List.replicate (2 - (lg_sl ([.ref (b_o Y), .int v])).length) Slot.unset).toArray = ls at hl ⊢
  have hl : lv_has ls 2 [(0, .ref (b_o Y)), (1, .int v)] := hl
  obtain ⟨hp, hT, hRW, hkn⟩ := id hm
  refine lv_iload_n hx hb dX2_count_0 rfl (lv_at hl 1 rfl) ?_
  refine lv_if_lt (tgt := 17) hx hb dX2_count_1 (by decide) (fun c_1 => ?_) (fun c_1 => ?_)
  · refine lv_iconst (v := (-1)) hx hb dX2_count_17 (by decide) ?_
    exact ro_iret hx hb hr rfl dX2_count_18 hlocks
  · refine lv_iload_n hx hb dX2_count_4 rfl (lv_at hl 1 rfl) ?_
    refine lv_iconst (v := 2) hx hb dX2_count_5 (by decide) ?_
    refine lv_icmp_gt (tgt := 17) hx hb dX2_count_6 (by decide) (fun c_6 => ?_) (fun c_6 => ?_)
    · refine lv_iconst (v := (-1)) hx hb dX2_count_17 (by decide) ?_
      exact ro_iret hx hb hr rfl dX2_count_18 hlocks
    · exact absurd (nix3b hn) (fun z => z.elim c_1 c_6)
set_option maxHeartbeats 4000000 in
set_option maxRecDepth 100000 in
/-- begin(level, i) -/
theorem c_X2_begin (l : Launch) {D : va_G} {cI cA cJ : ClassId} {H : Heap} (Y : mA) (q : mv) (hm : m_ok q) (hM : va_P D vwCl (mW cI cJ Y q) H) (k j : Nat) (hq : k < 3) (hj : j < kp q k) : Met l yX2_begin wsX2_begin ({ frames := 4, cells := 0, slots := 0, locals := 93 }) (ro_P D vwCl (tyL cI cA cJ) H [.ref (b_o Y), .int (nI k), .int (nI j)]) (ro_Q (.long (lN (bg q k j))) H) 0 0 ro_no := by
  refine Met.ofW (cc := cX2_begin) (maxL := 5) (ret := (some .long)) (by decide) rfl ?_
  intro p e s m args below meth c s₁ B hml hv
  obtain ⟨rfl, hh, hK⟩ := hv
  subst hh
  have hx := B.exec
  have hb := B.bytes
  have hr := B.returns
  have hlocks := B.notSynchronized
  have hts := atoms_spec (ws := wsX2_begin) B.pre
  have hown : s.vm.findClass RX2 = some m.cls := findClass_of_methodNamed B.named
  have hi2 : ∀ w ∈ wsX20, w ∈ wsX2_begin := fun w h => List.mem_cons_of_mem _ (List.mem_append_right _ h)
  have hl := lv_entry ([.ref (b_o Y), .int (nI k), .int (nI j)]) (n := 5) (Nat.le_of_ble_eq_true rfl)
  rw [lg_entry_eq]
  generalize (lg_sl ([.ref (b_o Y), .int (nI k), .int (nI j)]) ++ List.replicate (5 - (lg_sl ([.ref (b_o Y), .int (nI k), .int (nI j)])).length) Slot.unset).toArray = ls at hl ⊢
  have hl : lv_has ls 5 [(0, .ref (b_o Y)), (1, .int (nI k)), (2, .int (nI j))] := hl
  obtain ⟨hp, hT, hRW, hkn⟩ := id hm
  obtain ⟨w1, w2, w3, w4⟩ := hRW k (by omega)
  have w5 := hkn k (by omega)
  have w6 := ng_le q k (m_P q)
  have f1 := fs_lt w5 hj
  refine lv_aload_n hx hb dX2_begin_0 rfl (lv_at hl 0 rfl) ?_
  refine va_get (D := D) (ci := 2) (v := .ref (b_t Y)) (C := RX2) (T := TX2) (N := 6) hx hb hts hi2 hown hK hM 0 rfl rfl 4 (by decide) (hts (.fieldLink RX2 17 "RingSeriesModel" "times" "[I") (by decide +kernel)) (fun _ h9 => h9) rfl dX2_begin_1 ?_
  refine lv_aload_n hx hb dX2_begin_4 rfl (lv_at hl 0 rfl) ?_
  refine lv_iload_n hx hb dX2_begin_5 rfl (lv_at hl 1 rfl) ?_
  refine lv_iload_n hx hb dX2_begin_6 rfl (lv_at hl 2 rfl) ?_
  refine ro_call (va_runV (As := [.int (nI k), .int (nI j)]) (rest := [.ref (b_t Y)]) ⟨hx, hb, hml, hown, hts⟩ (c_X2_first l Y q hm hM k j (by omega) (by omega)) (cwV 2 hts gX2_begin_X2_first rfl rfl rfl (by decide +kernel) ⟨Nat.le_of_ble_eq_true rfl, Nat.le_of_ble_eq_true rfl⟩) (ro_preV hK (va_recv hK hM (ci := 2) (q0 := 0) rfl rfl)) rfl rfl hl.1 rfl (lv_room (Nat.le_of_ble_eq_true rfl)) dX2_begin_7 ⟨Nat.zero_le _, Nat.zero_le _⟩) ?_
  refine ald_i (j := (fs q k j)) hx hb hK hM 3 0 rfl rfl (by omega) (by omega) dX2_begin_10 ?_
  refine lv_i2l hx hb dX2_begin_11 rfl ?_
  refine top_l (nI_l (hT _)) ?_
  refine lv_lstore_n (lv' := [(3, .long (lN (m_T q (fs q k j)))), (0, .ref (b_o Y)), (1, .int (nI k)), (2, .int (nI j))]) hx hb dX2_begin_12 rfl hl (by decide) rfl (fun ls hl => ?_)
  refine lv_lload_n hx hb dX2_begin_13 rfl (lv_at hl 0 rfl) ?_
  refine lv_aload_n hx hb dX2_begin_14 rfl (lv_at hl 1 rfl) ?_
  refine va_get (D := D) (ci := 2) (v := .ref (b_w Y)) (C := RX2) (T := TX2) (N := 6) hx hb hts hi2 hown hK hM 0 rfl rfl 2 (by decide) (hts (.fieldLink RX2 13 "RingSeriesModel" "widths" "[J") (by decide +kernel)) (fun _ h9 => h9) rfl dX2_begin_15 ?_
  refine lv_iload_n hx hb dX2_begin_18 rfl (lv_at hl 2 rfl) ?_
  refine ald_l (j := k) hx hb hK hM 2 2 rfl rfl (by omega) (by omega) dX2_begin_19 ?_
  refine lv_ldiv hx hb dX2_begin_20 (fun z => absurd ((pk_lEQ (b := 0) (by omega) (by omega)).mp z) (by omega)) ?_
  refine top_l (pk_lDiv (by have := hT (fs q k j); omega) (by omega) (by omega)) ?_
  refine lv_aload_n hx hb dX2_begin_21 rfl (lv_at hl 1 rfl) ?_
  refine va_get (D := D) (ci := 2) (v := .ref (b_w Y)) (C := RX2) (T := TX2) (N := 6) hx hb hts hi2 hown hK hM 0 rfl rfl 2 (by decide) (hts (.fieldLink RX2 13 "RingSeriesModel" "widths" "[J") (by decide +kernel)) (fun _ h9 => h9) rfl dX2_begin_22 ?_
  refine lv_iload_n hx hb dX2_begin_25 rfl (lv_at hl 2 rfl) ?_
  refine ald_l (j := k) hx hb hK hM 2 2 rfl rfl (by omega) (by omega) dX2_begin_26 ?_
  refine lv_lmul hx hb dX2_begin_27 ?_
  refine top_l (lN_mul _ _) ?_
  exact ro_lret hx hb hr rfl dX2_begin_28 hlocks
set_option maxHeartbeats 4000000 in
set_option maxRecDepth 100000 in
/-- start(level, i) -/
theorem c_X2_start (l : Launch) {D : va_G} {cI cA cJ : ClassId} {H : Heap} (Y : mA) (q : mv) (hm : m_ok q) (hM : va_P D vwCl (mW cI cJ Y q) H) (k j : Nat) (hq : k < 3) (hj : j < kp q k) : Met l yX2_start wsX2_start ({ frames := 5, cells := 0, slots := 0, locals := 117 }) (ro_P D vwCl (tyL cI cA cJ) H [.ref (b_o Y), .int (nI k), .int (nI j)]) (ro_Q (.int (nI (bg q k j))) H) 0 0 ro_no := by
  refine Met.ofW (cc := cX2_start) (maxL := 3) (ret := (some .int)) (by decide) rfl ?_
  intro p e s m args below meth c s₁ B hml hv
  obtain ⟨rfl, hh, hK⟩ := hv
  subst hh
  have hx := B.exec
  have hb := B.bytes
  have hr := B.returns
  have hlocks := B.notSynchronized
  have hts := atoms_spec (ws := wsX2_start) B.pre
  have hown : s.vm.findClass RX2 = some m.cls := findClass_of_methodNamed B.named
  have hi2 : ∀ w ∈ wsX20, w ∈ wsX2_start := fun w h => List.mem_cons_of_mem _ (List.mem_append_right _ h)
  have hl := lv_entry ([.ref (b_o Y), .int (nI k), .int (nI j)]) (n := 3) (Nat.le_of_ble_eq_true rfl)
  rw [lg_entry_eq]
  generalize (lg_sl ([.ref (b_o Y), .int (nI k), .int (nI j)]) ++ List.replicate (3 - (lg_sl ([.ref (b_o Y), .int (nI k), .int (nI j)])).length) Slot.unset).toArray = ls at hl ⊢
  have hl : lv_has ls 3 [(0, .ref (b_o Y)), (1, .int (nI k)), (2, .int (nI j))] := hl
  obtain ⟨hp, hT, hRW, hkn⟩ := id hm
  obtain ⟨w1, w2, w3, w4⟩ := hRW k (by omega)
  have w5 := hkn k (by omega)
  have w6 := ng_le q k (m_P q)
  refine lv_aload_n hx hb dX2_start_0 rfl (lv_at hl 0 rfl) ?_
  refine lv_iload_n hx hb dX2_start_1 rfl (lv_at hl 1 rfl) ?_
  refine lv_iload_n hx hb dX2_start_2 rfl (lv_at hl 2 rfl) ?_
  refine ro_call (va_runV (As := [.int (nI k), .int (nI j)]) (rest := []) ⟨hx, hb, hml, hown, hts⟩ (c_X2_isEntry_t l Y q hm hM k j (by omega) (by omega)) (cwV 2 hts gX2_start_X2_isEntry rfl rfl rfl (by decide +kernel) ⟨Nat.le_of_ble_eq_true rfl, Nat.le_of_ble_eq_true rfl⟩) (ro_preV hK (va_recv hK hM (ci := 2) (q0 := 0) rfl rfl)) rfl rfl hl.1 rfl (lv_room (Nat.le_of_ble_eq_true rfl)) dX2_start_3 ⟨Nat.zero_le _, Nat.zero_le _⟩) ?_
  refine lv_if_eq (tgt := 19) hx hb dX2_start_6 (by decide) (fun c_6 => ?_) (fun c_6 => ?_)
  · exact absurd c_6 (by decide)
  · refine lv_aload_n hx hb dX2_start_9 rfl (lv_at hl 0 rfl) ?_
    refine lv_iload_n hx hb dX2_start_10 rfl (lv_at hl 1 rfl) ?_
    refine lv_iload_n hx hb dX2_start_11 rfl (lv_at hl 2 rfl) ?_
    refine ro_call (va_runV (As := [.int (nI k), .int (nI j)]) (rest := []) ⟨hx, hb, hml, hown, hts⟩ (c_X2_begin l Y q hm hM k j (by omega) (by omega)) (cwV 2 hts gX2_start_X2_begin rfl rfl rfl (by decide +kernel) ⟨Nat.le_of_ble_eq_true rfl, Nat.le_of_ble_eq_true rfl⟩) (ro_preV hK (va_recv hK hM (ci := 2) (q0 := 0) rfl rfl)) rfl rfl hl.1 rfl (lv_room (Nat.le_of_ble_eq_true rfl)) dX2_start_12 ⟨Nat.zero_le _, Nat.zero_le _⟩) ?_
    refine lv_l2i hx hb dX2_start_15 rfl ?_
    refine top_i (lN_i _) ?_
    refine lv_goto (tgt := 20) hx hb dX2_start_16 (by decide) ?_
    exact ro_iret hx hb hr rfl dX2_start_20 hlocks
set_option maxHeartbeats 4000000 in
set_option maxRecDepth 100000 in
/-- start, none -/
theorem c_X2_start_n (l : Launch) {D : va_G} {cI cA cJ : ClassId} {H : Heap} (Y : mA) (q : mv) (hm : m_ok q) (hM : va_P D vwCl (mW cI cJ Y q) H) (k : Nat) (i : Int32) (hq : k < 3) (hi : ¬ ix (kp q k) i) : Met l yX2_start wsX2_start ({ frames := 5, cells := 0, slots := 0, locals := 117 }) (ro_P D vwCl (tyL cI cA cJ) H [.ref (b_o Y), .int (nI k), .int i]) (ro_Q (.int (-1)) H) 0 0 ro_no := by
  refine Met.ofW (cc := cX2_start) (maxL := 3) (ret := (some .int)) (by decide) rfl ?_
  intro p e s m args below meth c s₁ B hml hv
  obtain ⟨rfl, hh, hK⟩ := hv
  subst hh
  have hx := B.exec
  have hb := B.bytes
  have hr := B.returns
  have hlocks := B.notSynchronized
  have hts := atoms_spec (ws := wsX2_start) B.pre
  have hown : s.vm.findClass RX2 = some m.cls := findClass_of_methodNamed B.named
  have hi2 : ∀ w ∈ wsX20, w ∈ wsX2_start := fun w h => List.mem_cons_of_mem _ (List.mem_append_right _ h)
  have hl := lv_entry ([.ref (b_o Y), .int (nI k), .int i]) (n := 3) (Nat.le_of_ble_eq_true rfl)
  rw [lg_entry_eq]
  generalize (lg_sl ([.ref (b_o Y), .int (nI k), .int i]) ++ List.replicate (3 - (lg_sl ([.ref (b_o Y), .int (nI k), .int i])).length) Slot.unset).toArray = ls at hl ⊢
  have hl : lv_has ls 3 [(0, .ref (b_o Y)), (1, .int (nI k)), (2, .int i)] := hl
  obtain ⟨hp, hT, hRW, hkn⟩ := id hm
  obtain ⟨w1, w2, w3, w4⟩ := hRW k (by omega)
  have w5 := hkn k (by omega)
  have w6 := ng_le q k (m_P q)
  refine lv_aload_n hx hb dX2_start_0 rfl (lv_at hl 0 rfl) ?_
  refine lv_iload_n hx hb dX2_start_1 rfl (lv_at hl 1 rfl) ?_
  refine lv_iload_n hx hb dX2_start_2 rfl (lv_at hl 2 rfl) ?_
  refine ro_call (va_runV (As := [.int (nI k), .int i]) (rest := []) ⟨hx, hb, hml, hown, hts⟩ (c_X2_isEntry_n l Y q hm hM k i (by omega) hi) (cwV 2 hts gX2_start_X2_isEntry rfl rfl rfl (by decide +kernel) ⟨Nat.le_of_ble_eq_true rfl, Nat.le_of_ble_eq_true rfl⟩) (ro_preV hK (va_recv hK hM (ci := 2) (q0 := 0) rfl rfl)) rfl rfl hl.1 rfl (lv_room (Nat.le_of_ble_eq_true rfl)) dX2_start_3 ⟨Nat.zero_le _, Nat.zero_le _⟩) ?_
  refine lv_if_eq (tgt := 19) hx hb dX2_start_6 (by decide) (fun c_6 => ?_) (fun c_6 => ?_)
  · refine lv_iconst (v := (-1)) hx hb dX2_start_19 (by decide) ?_
    exact ro_iret hx hb hr rfl dX2_start_20 hlocks
  · exact absurd rfl c_6
set_option maxHeartbeats 4000000 in
set_option maxRecDepth 100000 in
/-- start, no level -/
theorem c_X2_start_x (l : Launch) {D : va_G} {cI cA cJ : ClassId} {H : Heap} (Y : mA) (q : mv) (hm : m_ok q) (hM : va_P D vwCl (mW cI cJ Y q) H) (v i : Int32) (hn : ¬ ix 3 v) : Met l yX2_start wsX2_start ({ frames := 5, cells := 0, slots := 0, locals := 117 }) (ro_P D vwCl (tyL cI cA cJ) H [.ref (b_o Y), .int v, .int i]) (ro_Q (.int (-1)) H) 0 0 ro_no := by
  refine Met.ofW (cc := cX2_start) (maxL := 3) (ret := (some .int)) (by decide) rfl ?_
  intro p e s m args below meth c s₁ B hml hv
  obtain ⟨rfl, hh, hK⟩ := hv
  subst hh
  have hx := B.exec
  have hb := B.bytes
  have hr := B.returns
  have hlocks := B.notSynchronized
  have hts := atoms_spec (ws := wsX2_start) B.pre
  have hown : s.vm.findClass RX2 = some m.cls := findClass_of_methodNamed B.named
  have hi2 : ∀ w ∈ wsX20, w ∈ wsX2_start := fun w h => List.mem_cons_of_mem _ (List.mem_append_right _ h)
  have hl := lv_entry ([.ref (b_o Y), .int v, .int i]) (n := 3) (Nat.le_of_ble_eq_true rfl)
  rw [lg_entry_eq]
  generalize (lg_sl ([.ref (b_o Y), .int v, .int i]) ++ List.replicate (3 - (lg_sl ([.ref (b_o Y), .int v, .int i])).length) Slot.unset).toArray = ls at hl ⊢
  have hl : lv_has ls 3 [(0, .ref (b_o Y)), (1, .int v), (2, .int i)] := hl
  obtain ⟨hp, hT, hRW, hkn⟩ := id hm
  refine lv_aload_n hx hb dX2_start_0 rfl (lv_at hl 0 rfl) ?_
  refine lv_iload_n hx hb dX2_start_1 rfl (lv_at hl 1 rfl) ?_
  refine lv_iload_n hx hb dX2_start_2 rfl (lv_at hl 2 rfl) ?_
  refine ro_call (va_runV (As := [.int v, .int i]) (rest := []) ⟨hx, hb, hml, hown, hts⟩ (c_X2_isEntry_x l Y q hm hM v i hn) (cwV 2 hts gX2_start_X2_isEntry rfl rfl rfl (by decide +kernel) ⟨Nat.le_of_ble_eq_true rfl, Nat.le_of_ble_eq_true rfl⟩) (ro_preV hK (va_recv hK hM (ci := 2) (q0 := 0) rfl rfl)) rfl rfl hl.1 rfl (lv_room (Nat.le_of_ble_eq_true rfl)) dX2_start_3 ⟨Nat.zero_le _, Nat.zero_le _⟩) ?_
  refine lv_if_eq (tgt := 19) hx hb dX2_start_6 (by decide) (fun c_6 => ?_) (fun c_6 => ?_)
  · refine lv_iconst (v := (-1)) hx hb dX2_start_19 (by decide) ?_
    exact ro_iret hx hb hr rfl dX2_start_20 hlocks
  · exact absurd rfl c_6
set_option maxHeartbeats 4000000 in
set_option maxRecDepth 100000 in
/-- figure, none -/
theorem c_X2_figure_n (l : Launch) {D : va_G} {cI cA cJ : ClassId} {H : Heap} (Y : mA) (q : mv) (hm : m_ok q) (hM : va_P D vwCl (mW cI cJ Y q) H) (k : Nat) (i w : Int32) (hq : k < 3) (hi : ¬ ix (kp q k) i) : Met l yX2_figure wsX2_figure ({ frames := 4, cells := 0, slots := 0, locals := 93 }) (ro_P D vwCl (tyL cI cA cJ) H [.ref (b_o Y), .int (nI k), .int i, .int w]) (ro_Q (.int 0) H) 0 0 ro_no := by
  refine Met.ofW (cc := cX2_figure) (maxL := 10) (ret := (some .int)) (by decide) rfl ?_
  intro p e s m args below meth c s₁ B hml hv
  obtain ⟨rfl, hh, hK⟩ := hv
  subst hh
  have hx := B.exec
  have hb := B.bytes
  have hr := B.returns
  have hlocks := B.notSynchronized
  have hts := atoms_spec (ws := wsX2_figure) B.pre
  have hown : s.vm.findClass RX2 = some m.cls := findClass_of_methodNamed B.named
  have hi2 : ∀ w ∈ wsX20, w ∈ wsX2_figure := fun w h => List.mem_cons_of_mem _ (List.mem_append_right _ h)
  have hl := lv_entry ([.ref (b_o Y), .int (nI k), .int i, .int w]) (n := 10) (Nat.le_of_ble_eq_true rfl)
  rw [lg_entry_eq]
  generalize (lg_sl ([.ref (b_o Y), .int (nI k), .int i, .int w]) ++ List.replicate (10 - (lg_sl ([.ref (b_o Y), .int (nI k), .int i, .int w])).length) Slot.unset).toArray = ls at hl ⊢
  have hl : lv_has ls 10 [(0, .ref (b_o Y)), (1, .int (nI k)), (2, .int i), (3, .int w)] := hl
  obtain ⟨hp, hT, hRW, hkn⟩ := id hm
  obtain ⟨w1, w2, w3, w4⟩ := hRW k (by omega)
  have w5 := hkn k (by omega)
  have w6 := ng_le q k (m_P q)
  refine lv_aload_n hx hb dX2_figure_0 rfl (lv_at hl 0 rfl) ?_
  refine lv_iload_n hx hb dX2_figure_1 rfl (lv_at hl 1 rfl) ?_
  refine lv_iload_n hx hb dX2_figure_2 rfl (lv_at hl 2 rfl) ?_
  refine ro_call (va_runV (As := [.int (nI k), .int i]) (rest := []) ⟨hx, hb, hml, hown, hts⟩ (c_X2_isEntry_n l Y q hm hM k i (by omega) hi) (cwV 2 hts gX2_figure_X2_isEntry rfl rfl rfl (by decide +kernel) ⟨Nat.le_of_ble_eq_true rfl, Nat.le_of_ble_eq_true rfl⟩) (ro_preV hK (va_recv hK hM (ci := 2) (q0 := 0) rfl rfl)) rfl rfl hl.1 rfl (lv_room (Nat.le_of_ble_eq_true rfl)) dX2_figure_3 ⟨Nat.zero_le _, Nat.zero_le _⟩) ?_
  refine lv_if_ne (tgt := 11) hx hb dX2_figure_6 (by decide) (fun c_6 => ?_) (fun c_6 => ?_)
  · exact absurd rfl c_6
  · refine lv_iconst (v := 0) hx hb dX2_figure_9 (by decide) ?_
    exact ro_iret hx hb hr rfl dX2_figure_10 hlocks
set_option maxHeartbeats 4000000 in
set_option maxRecDepth 100000 in
/-- figure, no level -/
theorem c_X2_figure_x (l : Launch) {D : va_G} {cI cA cJ : ClassId} {H : Heap} (Y : mA) (q : mv) (hm : m_ok q) (hM : va_P D vwCl (mW cI cJ Y q) H) (v i w : Int32) (hn : ¬ ix 3 v) : Met l yX2_figure wsX2_figure ({ frames := 4, cells := 0, slots := 0, locals := 93 }) (ro_P D vwCl (tyL cI cA cJ) H [.ref (b_o Y), .int v, .int i, .int w]) (ro_Q (.int 0) H) 0 0 ro_no := by
  refine Met.ofW (cc := cX2_figure) (maxL := 10) (ret := (some .int)) (by decide) rfl ?_
  intro p e s m args below meth c s₁ B hml hv
  obtain ⟨rfl, hh, hK⟩ := hv
  subst hh
  have hx := B.exec
  have hb := B.bytes
  have hr := B.returns
  have hlocks := B.notSynchronized
  have hts := atoms_spec (ws := wsX2_figure) B.pre
  have hown : s.vm.findClass RX2 = some m.cls := findClass_of_methodNamed B.named
  have hi2 : ∀ w ∈ wsX20, w ∈ wsX2_figure := fun w h => List.mem_cons_of_mem _ (List.mem_append_right _ h)
  have hl := lv_entry ([.ref (b_o Y), .int v, .int i, .int w]) (n := 10) (Nat.le_of_ble_eq_true rfl)
  rw [lg_entry_eq]
  generalize (lg_sl ([.ref (b_o Y), .int v, .int i, .int w]) ++ List.replicate (10 - (lg_sl ([.ref (b_o Y), .int v, .int i, .int w])).length) Slot.unset).toArray = ls at hl ⊢
  have hl : lv_has ls 10 [(0, .ref (b_o Y)), (1, .int v), (2, .int i), (3, .int w)] := hl
  obtain ⟨hp, hT, hRW, hkn⟩ := id hm
  refine lv_aload_n hx hb dX2_figure_0 rfl (lv_at hl 0 rfl) ?_
  refine lv_iload_n hx hb dX2_figure_1 rfl (lv_at hl 1 rfl) ?_
  refine lv_iload_n hx hb dX2_figure_2 rfl (lv_at hl 2 rfl) ?_
  refine ro_call (va_runV (As := [.int v, .int i]) (rest := []) ⟨hx, hb, hml, hown, hts⟩ (c_X2_isEntry_x l Y q hm hM v i hn) (cwV 2 hts gX2_figure_X2_isEntry rfl rfl rfl (by decide +kernel) ⟨Nat.le_of_ble_eq_true rfl, Nat.le_of_ble_eq_true rfl⟩) (ro_preV hK (va_recv hK hM (ci := 2) (q0 := 0) rfl rfl)) rfl rfl hl.1 rfl (lv_room (Nat.le_of_ble_eq_true rfl)) dX2_figure_3 ⟨Nat.zero_le _, Nat.zero_le _⟩) ?_
  refine lv_if_ne (tgt := 11) hx hb dX2_figure_6 (by decide) (fun c_6 => ?_) (fun c_6 => ?_)
  · exact absurd rfl c_6
  · refine lv_iconst (v := 0) hx hb dX2_figure_9 (by decide) ?_
    exact ro_iret hx hb hr rfl dX2_figure_10 hlocks
set_option maxHeartbeats 4000000 in
set_option maxRecDepth 100000 in
/-- figure(level, i, what) -/
theorem c_X2_figure (l : Launch) {D : va_G} {cI cA cJ : ClassId} {H : Heap} (Y : mA) (q : mv) (hm : m_ok q) (hM : va_P D vwCl (mW cI cJ Y q) H) (k j : Nat) (hq : k < 3) (hj : j < kp q k) (w : Nat) (hw : w < 4) : Met l yX2_figure wsX2_figure ({ frames := 4, cells := 0, slots := 0, locals := 93 }) (ro_P D vwCl (tyL cI cA cJ) H [.ref (b_o Y), .int (nI k), .int (nI j), .int (nI w)]) (ro_Q (.int (fg q k j w)) H) 0 0 ro_no := by
  refine Met.ofW (cc := cX2_figure) (maxL := 10) (ret := (some .int)) (by decide) rfl ?_
  intro p e s m args below meth c s₁ B hml hv
  obtain ⟨rfl, hh, hK⟩ := hv
  subst hh
  have hx := B.exec
  have hb := B.bytes
  have hr := B.returns
  have hlocks := B.notSynchronized
  have hts := atoms_spec (ws := wsX2_figure) B.pre
  have hown : s.vm.findClass RX2 = some m.cls := findClass_of_methodNamed B.named
  have hi2 : ∀ w ∈ wsX20, w ∈ wsX2_figure := fun w h => List.mem_cons_of_mem _ (List.mem_append_right _ h)
  have hl := lv_entry ([.ref (b_o Y), .int (nI k), .int (nI j), .int (nI w)]) (n := 10) (Nat.le_of_ble_eq_true rfl)
  rw [lg_entry_eq]
  generalize (lg_sl ([.ref (b_o Y), .int (nI k), .int (nI j), .int (nI w)]) ++ List.replicate (10 - (lg_sl ([.ref (b_o Y), .int (nI k), .int (nI j), .int (nI w)])).length) Slot.unset).toArray = ls at hl ⊢
  have hl : lv_has ls 10 [(0, .ref (b_o Y)), (1, .int (nI k)), (2, .int (nI j)), (3, .int (nI w))] := hl
  obtain ⟨hp, hT, hRW, hkn⟩ := id hm
  obtain ⟨w1, w2, w3, w4⟩ := hRW k (by omega)
  have w5 := hkn k (by omega)
  have w6 := ng_le q k (m_P q)
  have f1 := fs_lt w5 hj
  have loop : ∀ (n : Nat) (y d0 : Nat) (su mo le : Int32) (ls : Array Slot), y + n = m_P q → d0 + fs q k j = y → fgr q k (fs q k j) n y le mo su d0 = fg q k j → lv_has ls 10 [(9, .int (nI y)), (8, .int (nI d0)), (7, .int su), (6, .int mo), (5, .int le), (4, .int (nI (fs q k j))), (0, .ref (b_o Y)), (1, .int (nI k)), (2, .int (nI j)), (3, .int (nI w))] → W p l e (headSpec wsX2_figure ({ frames := 4, cells := 0, slots := 0, locals := 93 })).room s m ([.ref (b_o Y), .int (nI k), .int (nI j), .int (nI w)] : List Value).toArray below meth c s.heap [] 0 0 (MQ below (ro_Q (.int (fg q k j w)) s.heap) ([.ref (b_o Y), .int (nI k), .int (nI j), .int (nI w)] : List Value).toArray s 0 0 ro_no) (F0 m 47 ls []) := by
    intro n
    induction n with
    | zero =>
      intro y d0 su mo le ls hi hd hf hl
      refine lv_iload hx hb dX2_figure_47 (lv_at hl 0 rfl) ?_
      refine lv_aload_n hx hb dX2_figure_49 rfl (lv_at hl 6 rfl) ?_
      refine va_get (D := D) (ci := 2) (v := .int (nI (m_P q))) (C := RX2) (T := TX2) (N := 6) hx hb hts hi2 hown hK hM 0 rfl rfl 3 (by decide) (hts (.fieldLink RX2 32 "RingSeriesModel" "points" "I") (by decide +kernel)) (fun _ h9 => h9) rfl dX2_figure_50 ?_
      refine lv_icmp_ge (tgt := 141) hx hb dX2_figure_53 (by decide) (fun c_53 => ?_) (fun c_53 => ?_)
      · have c_53 := (nI_leI (a := m_P q) (b := y) (by omega) (by omega)).mp c_53
        refine lv_iload_n hx hb dX2_figure_141 rfl (lv_at hl 9 rfl) ?_
        refine lv_if_ne (tgt := 150) hx hb dX2_figure_142 (by decide) (fun c_142 => ?_) (fun c_142 => ?_)
        · have c_142 := mt (nI_eq (a := w) (b := 0) (by omega) (by omega)).mpr c_142
          refine lv_iload_n hx hb dX2_figure_150 rfl (lv_at hl 9 rfl) ?_
          refine lv_iconst (v := 1) hx hb dX2_figure_151 (by decide) ?_
          refine lv_icmp_ne (tgt := 160) hx hb dX2_figure_152 (by decide) (fun c_152 => ?_) (fun c_152 => ?_)
          · have c_152 := mt (nI_eq (a := w) (b := 1) (by omega) (by omega)).mpr c_152
            refine lv_iload_n hx hb dX2_figure_160 rfl (lv_at hl 9 rfl) ?_
            refine lv_iconst (v := 2) hx hb dX2_figure_161 (by decide) ?_
            refine lv_icmp_ne (tgt := 170) hx hb dX2_figure_162 (by decide) (fun c_162 => ?_) (fun c_162 => ?_)
            · have c_162 := mt (nI_eq (a := w) (b := 2) (by omega) (by omega)).mpr c_162
              refine lv_iload_n hx hb dX2_figure_170 rfl (lv_at hl 9 rfl) ?_
              refine lv_iconst (v := 3) hx hb dX2_figure_171 (by decide) ?_
              refine lv_icmp_ne (tgt := 180) hx hb dX2_figure_172 (by decide) (fun c_172 => ?_) (fun c_172 => ?_)
              · have c_172 := mt (nI_eq (a := w) (b := 3) (by omega) (by omega)).mpr c_172
                refine lv_iconst (v := 0) hx hb dX2_figure_180 (by decide) ?_
                exact ro_iret hx hb hr (by rw [← hf]; rw [fgr]; (try dsimp only); exact absurd c_172 (by omega)) dX2_figure_181 hlocks
              · have c_172 := (nI_eq (a := w) (b := 3) (by omega) (by omega)).mp c_172
                refine lv_iload hx hb dX2_figure_175 (lv_at hl 1 rfl) ?_
                refine lv_goto (tgt := 181) hx hb dX2_figure_177 (by decide) ?_
                exact ro_iret hx hb hr (by rw [← hf]; rw [fgr]; (try dsimp only); rw [if_neg c_142, if_neg c_152, if_neg c_162]) dX2_figure_181 hlocks
            · have c_162 := (nI_eq (a := w) (b := 2) (by omega) (by omega)).mp c_162
              refine lv_iload hx hb dX2_figure_165 (lv_at hl 2 rfl) ?_
              refine lv_goto (tgt := 181) hx hb dX2_figure_167 (by decide) ?_
              exact ro_iret hx hb hr (by rw [← hf]; rw [fgr]; (try dsimp only); rw [if_neg c_142, if_neg c_152, if_pos c_162]) dX2_figure_181 hlocks
          · have c_152 := (nI_eq (a := w) (b := 1) (by omega) (by omega)).mp c_152
            refine lv_iload hx hb dX2_figure_155 (lv_at hl 3 rfl) ?_
            refine lv_goto (tgt := 181) hx hb dX2_figure_157 (by decide) ?_
            exact ro_iret hx hb hr (by rw [← hf]; rw [fgr]; (try dsimp only); rw [if_neg c_142, if_pos c_152]) dX2_figure_181 hlocks
        · have c_142 := (nI_eq (a := w) (b := 0) (by omega) (by omega)).mp c_142
          refine lv_iload hx hb dX2_figure_145 (lv_at hl 4 rfl) ?_
          refine lv_goto (tgt := 181) hx hb dX2_figure_147 (by decide) ?_
          exact ro_iret hx hb hr (by rw [← hf]; rw [fgr]; (try dsimp only); rw [if_pos c_142]) dX2_figure_181 hlocks
      · have c_53 := mt (nI_leI (a := m_P q) (b := y) (by omega) (by omega)).mpr c_53
        exact absurd c_53 (by omega)
    | succ n ih =>
      intro y d0 su mo le ls hi hd hf hl
      refine lv_iload hx hb dX2_figure_47 (lv_at hl 0 rfl) ?_
      refine lv_aload_n hx hb dX2_figure_49 rfl (lv_at hl 6 rfl) ?_
      refine va_get (D := D) (ci := 2) (v := .int (nI (m_P q))) (C := RX2) (T := TX2) (N := 6) hx hb hts hi2 hown hK hM 0 rfl rfl 3 (by decide) (hts (.fieldLink RX2 32 "RingSeriesModel" "points" "I") (by decide +kernel)) (fun _ h9 => h9) rfl dX2_figure_50 ?_
      refine lv_icmp_ge (tgt := 141) hx hb dX2_figure_53 (by decide) (fun c_53 => ?_) (fun c_53 => ?_)
      · have c_53 := (nI_leI (a := m_P q) (b := y) (by omega) (by omega)).mp c_53
        exact absurd c_53 (by omega)
      · have c_53 := mt (nI_leI (a := m_P q) (b := y) (by omega) (by omega)).mpr c_53
        refine lv_aload_n hx hb dX2_figure_56 rfl (lv_at hl 6 rfl) ?_
        refine lv_iload_n hx hb dX2_figure_57 rfl (lv_at hl 7 rfl) ?_
        refine lv_iload hx hb dX2_figure_58 (lv_at hl 5 rfl) ?_
        refine lv_iload hx hb dX2_figure_60 (lv_at hl 0 rfl) ?_
        refine ro_call (va_runV (As := [.int (nI k), .int (nI (fs q k j)), .int (nI y)]) (rest := []) ⟨hx, hb, hml, hown, hts⟩ (c_X2_isSame l Y q hm hM k (fs q k j) y (by omega) (by omega) (by omega)) (cwV 3 hts gX2_figure_X2_isSame rfl rfl rfl (by decide +kernel) ⟨Nat.le_of_ble_eq_true rfl, Nat.le_of_ble_eq_true rfl⟩) (ro_preV hK (va_recv hK hM (ci := 2) (q0 := 0) rfl rfl)) rfl rfl hl.1 rfl (lv_room (Nat.le_of_ble_eq_true rfl)) dX2_figure_62 ⟨Nat.zero_le _, Nat.zero_le _⟩) ?_
        refine lv_if_eq (tgt := 141) hx hb dX2_figure_65 (by decide) (fun c_65 => ?_) (fun c_65 => ?_)
        · have c_65 := bi_eq c_65
          refine lv_iload_n hx hb dX2_figure_141 rfl (lv_at hl 9 rfl) ?_
          refine lv_if_ne (tgt := 150) hx hb dX2_figure_142 (by decide) (fun c_142 => ?_) (fun c_142 => ?_)
          · have c_142 := mt (nI_eq (a := w) (b := 0) (by omega) (by omega)).mpr c_142
            refine lv_iload_n hx hb dX2_figure_150 rfl (lv_at hl 9 rfl) ?_
            refine lv_iconst (v := 1) hx hb dX2_figure_151 (by decide) ?_
            refine lv_icmp_ne (tgt := 160) hx hb dX2_figure_152 (by decide) (fun c_152 => ?_) (fun c_152 => ?_)
            · have c_152 := mt (nI_eq (a := w) (b := 1) (by omega) (by omega)).mpr c_152
              refine lv_iload_n hx hb dX2_figure_160 rfl (lv_at hl 9 rfl) ?_
              refine lv_iconst (v := 2) hx hb dX2_figure_161 (by decide) ?_
              refine lv_icmp_ne (tgt := 170) hx hb dX2_figure_162 (by decide) (fun c_162 => ?_) (fun c_162 => ?_)
              · have c_162 := mt (nI_eq (a := w) (b := 2) (by omega) (by omega)).mpr c_162
                refine lv_iload_n hx hb dX2_figure_170 rfl (lv_at hl 9 rfl) ?_
                refine lv_iconst (v := 3) hx hb dX2_figure_171 (by decide) ?_
                refine lv_icmp_ne (tgt := 180) hx hb dX2_figure_172 (by decide) (fun c_172 => ?_) (fun c_172 => ?_)
                · have c_172 := mt (nI_eq (a := w) (b := 3) (by omega) (by omega)).mpr c_172
                  refine lv_iconst (v := 0) hx hb dX2_figure_180 (by decide) ?_
                  exact ro_iret hx hb hr (by rw [← hf]; rw [fgr, if_neg c_65]; (try dsimp only); exact absurd c_172 (by omega)) dX2_figure_181 hlocks
                · have c_172 := (nI_eq (a := w) (b := 3) (by omega) (by omega)).mp c_172
                  refine lv_iload hx hb dX2_figure_175 (lv_at hl 1 rfl) ?_
                  refine lv_goto (tgt := 181) hx hb dX2_figure_177 (by decide) ?_
                  exact ro_iret hx hb hr (by rw [← hf]; rw [fgr, if_neg c_65]; (try dsimp only); rw [if_neg c_142, if_neg c_152, if_neg c_162]) dX2_figure_181 hlocks
              · have c_162 := (nI_eq (a := w) (b := 2) (by omega) (by omega)).mp c_162
                refine lv_iload hx hb dX2_figure_165 (lv_at hl 2 rfl) ?_
                refine lv_goto (tgt := 181) hx hb dX2_figure_167 (by decide) ?_
                exact ro_iret hx hb hr (by rw [← hf]; rw [fgr, if_neg c_65]; (try dsimp only); rw [if_neg c_142, if_neg c_152, if_pos c_162]) dX2_figure_181 hlocks
            · have c_152 := (nI_eq (a := w) (b := 1) (by omega) (by omega)).mp c_152
              refine lv_iload hx hb dX2_figure_155 (lv_at hl 3 rfl) ?_
              refine lv_goto (tgt := 181) hx hb dX2_figure_157 (by decide) ?_
              exact ro_iret hx hb hr (by rw [← hf]; rw [fgr, if_neg c_65]; (try dsimp only); rw [if_neg c_142, if_pos c_152]) dX2_figure_181 hlocks
          · have c_142 := (nI_eq (a := w) (b := 0) (by omega) (by omega)).mp c_142
            refine lv_iload hx hb dX2_figure_145 (lv_at hl 4 rfl) ?_
            refine lv_goto (tgt := 181) hx hb dX2_figure_147 (by decide) ?_
            exact ro_iret hx hb hr (by rw [← hf]; rw [fgr, if_neg c_65]; (try dsimp only); rw [if_pos c_142]) dX2_figure_181 hlocks
        · have c_65 := bi_ne c_65
          refine lv_aload_n hx hb dX2_figure_68 rfl (lv_at hl 6 rfl) ?_
          refine va_get (D := D) (ci := 2) (v := .ref (b_v Y)) (C := RX2) (T := TX2) (N := 6) hx hb hts hi2 hown hK hM 0 rfl rfl 5 (by decide) (hts (.fieldLink RX2 20 "RingSeriesModel" "values" "[I") (by decide +kernel)) (fun _ h9 => h9) rfl dX2_figure_69 ?_
          refine lv_iload hx hb dX2_figure_72 (lv_at hl 0 rfl) ?_
          refine ald_i (j := y) hx hb hK hM 4 0 rfl rfl (by omega) (by omega) dX2_figure_74 ?_
          refine lv_iload hx hb dX2_figure_75 (lv_at hl 4 rfl) ?_
          refine lv_icmp_ge (tgt := 90) hx hb dX2_figure_77 (by decide) (fun c_77 => ?_) (fun c_77 => ?_)
          · refine lv_iload hx hb dX2_figure_90 (lv_at hl 4 rfl) ?_
            refine lv_istore (lv' := [(5, .int le), (9, .int (nI y)), (8, .int (nI d0)), (7, .int su), (6, .int mo), (4, .int (nI (fs q k j))), (0, .ref (b_o Y)), (1, .int (nI k)), (2, .int (nI j)), (3, .int (nI w))]) hx hb dX2_figure_92 hl (by decide) rfl (fun ls hl => ?_)
            refine lv_aload_n hx hb dX2_figure_94 rfl (lv_at hl 6 rfl) ?_
            refine va_get (D := D) (ci := 2) (v := .ref (b_v Y)) (C := RX2) (T := TX2) (N := 6) hx hb hts hi2 hown hK hM 0 rfl rfl 5 (by decide) (hts (.fieldLink RX2 20 "RingSeriesModel" "values" "[I") (by decide +kernel)) (fun _ h9 => h9) rfl dX2_figure_95 ?_
            refine lv_iload hx hb dX2_figure_98 (lv_at hl 1 rfl) ?_
            refine ald_i (j := y) hx hb hK hM 4 0 rfl rfl (by omega) (by omega) dX2_figure_100 ?_
            refine lv_iload hx hb dX2_figure_101 (lv_at hl 4 rfl) ?_
            refine lv_icmp_le (tgt := 116) hx hb dX2_figure_103 (by decide) (fun c_103 => ?_) (fun c_103 => ?_)
            · refine lv_iload hx hb dX2_figure_116 (lv_at hl 4 rfl) ?_
              refine lv_istore (lv' := [(6, .int mo), (5, .int le), (9, .int (nI y)), (8, .int (nI d0)), (7, .int su), (4, .int (nI (fs q k j))), (0, .ref (b_o Y)), (1, .int (nI k)), (2, .int (nI j)), (3, .int (nI w))]) hx hb dX2_figure_118 hl (by decide) rfl (fun ls hl => ?_)
              refine lv_iload hx hb dX2_figure_120 (lv_at hl 4 rfl) ?_
              refine lv_aload_n hx hb dX2_figure_122 rfl (lv_at hl 6 rfl) ?_
              refine va_get (D := D) (ci := 2) (v := .ref (b_v Y)) (C := RX2) (T := TX2) (N := 6) hx hb hts hi2 hown hK hM 0 rfl rfl 5 (by decide) (hts (.fieldLink RX2 20 "RingSeriesModel" "values" "[I") (by decide +kernel)) (fun _ h9 => h9) rfl dX2_figure_123 ?_
              refine lv_iload hx hb dX2_figure_126 (lv_at hl 2 rfl) ?_
              refine ald_i (j := y) hx hb hK hM 4 0 rfl rfl (by omega) (by omega) dX2_figure_128 ?_
              refine lv_iadd hx hb dX2_figure_129 ?_
              refine lv_istore (lv' := [(7, .int (su + (m_V q y))), (6, .int mo), (5, .int le), (9, .int (nI y)), (8, .int (nI d0)), (4, .int (nI (fs q k j))), (0, .ref (b_o Y)), (1, .int (nI k)), (2, .int (nI j)), (3, .int (nI w))]) hx hb dX2_figure_130 hl (by decide) rfl (fun ls hl => ?_)
              refine lv_iinc (v := nI (d0 + 1)) (lv' := [(8, .int (nI (d0 + 1))), (7, .int (su + (m_V q y))), (6, .int mo), (5, .int le), (9, .int (nI y)), (4, .int (nI (fs q k j))), (0, .ref (b_o Y)), (1, .int (nI k)), (2, .int (nI j)), (3, .int (nI w))]) hx hb dX2_figure_132 hl (k := 4) rfl (inc1 _) (by decide) rfl (fun ls hl => ?_)
              refine lv_iinc (v := nI (y + 1)) (lv' := [(9, .int (nI (y + 1))), (8, .int (nI (d0 + 1))), (7, .int (su + (m_V q y))), (6, .int mo), (5, .int le), (4, .int (nI (fs q k j))), (0, .ref (b_o Y)), (1, .int (nI k)), (2, .int (nI j)), (3, .int (nI w))]) hx hb dX2_figure_135 hl (k := 4) rfl (inc1 _) (by decide) rfl (fun ls hl => ?_)
              refine lv_goto (tgt := 47) hx hb dX2_figure_138 (by decide) ?_
              exact ih (y + 1) (d0 + 1) _ _ _ ls (by omega) (by omega) (by rw [← hf, fgr, if_pos c_65, if_neg (Int32.not_lt.mpr c_77), if_neg (Int32.not_lt.mpr c_103)]) (lv_sub hl [0, 1, 2, 3, 4, 5, 6, 7, 8, 9] rfl)
            · refine lv_aload_n hx hb dX2_figure_106 rfl (lv_at hl 6 rfl) ?_
              refine va_get (D := D) (ci := 2) (v := .ref (b_v Y)) (C := RX2) (T := TX2) (N := 6) hx hb hts hi2 hown hK hM 0 rfl rfl 5 (by decide) (hts (.fieldLink RX2 20 "RingSeriesModel" "values" "[I") (by decide +kernel)) (fun _ h9 => h9) rfl dX2_figure_107 ?_
              refine lv_iload hx hb dX2_figure_110 (lv_at hl 1 rfl) ?_
              refine ald_i (j := y) hx hb hK hM 4 0 rfl rfl (by omega) (by omega) dX2_figure_112 ?_
              refine lv_goto (tgt := 118) hx hb dX2_figure_113 (by decide) ?_
              refine lv_istore (lv' := [(6, .int (m_V q y)), (5, .int le), (9, .int (nI y)), (8, .int (nI d0)), (7, .int su), (4, .int (nI (fs q k j))), (0, .ref (b_o Y)), (1, .int (nI k)), (2, .int (nI j)), (3, .int (nI w))]) hx hb dX2_figure_118 hl (by decide) rfl (fun ls hl => ?_)
              refine lv_iload hx hb dX2_figure_120 (lv_at hl 4 rfl) ?_
              refine lv_aload_n hx hb dX2_figure_122 rfl (lv_at hl 6 rfl) ?_
              refine va_get (D := D) (ci := 2) (v := .ref (b_v Y)) (C := RX2) (T := TX2) (N := 6) hx hb hts hi2 hown hK hM 0 rfl rfl 5 (by decide) (hts (.fieldLink RX2 20 "RingSeriesModel" "values" "[I") (by decide +kernel)) (fun _ h9 => h9) rfl dX2_figure_123 ?_
              refine lv_iload hx hb dX2_figure_126 (lv_at hl 2 rfl) ?_
              refine ald_i (j := y) hx hb hK hM 4 0 rfl rfl (by omega) (by omega) dX2_figure_128 ?_
              refine lv_iadd hx hb dX2_figure_129 ?_
              refine lv_istore (lv' := [(7, .int (su + (m_V q y))), (6, .int (m_V q y)), (5, .int le), (9, .int (nI y)), (8, .int (nI d0)), (4, .int (nI (fs q k j))), (0, .ref (b_o Y)), (1, .int (nI k)), (2, .int (nI j)), (3, .int (nI w))]) hx hb dX2_figure_130 hl (by decide) rfl (fun ls hl => ?_)
              refine lv_iinc (v := nI (d0 + 1)) (lv' := [(8, .int (nI (d0 + 1))), (7, .int (su + (m_V q y))), (6, .int (m_V q y)), (5, .int le), (9, .int (nI y)), (4, .int (nI (fs q k j))), (0, .ref (b_o Y)), (1, .int (nI k)), (2, .int (nI j)), (3, .int (nI w))]) hx hb dX2_figure_132 hl (k := 4) rfl (inc1 _) (by decide) rfl (fun ls hl => ?_)
              refine lv_iinc (v := nI (y + 1)) (lv' := [(9, .int (nI (y + 1))), (8, .int (nI (d0 + 1))), (7, .int (su + (m_V q y))), (6, .int (m_V q y)), (5, .int le), (4, .int (nI (fs q k j))), (0, .ref (b_o Y)), (1, .int (nI k)), (2, .int (nI j)), (3, .int (nI w))]) hx hb dX2_figure_135 hl (k := 4) rfl (inc1 _) (by decide) rfl (fun ls hl => ?_)
              refine lv_goto (tgt := 47) hx hb dX2_figure_138 (by decide) ?_
              exact ih (y + 1) (d0 + 1) _ _ _ ls (by omega) (by omega) (by rw [← hf, fgr, if_pos c_65, if_neg (Int32.not_lt.mpr c_77), if_pos (Int32.not_le.mp c_103)]) (lv_sub hl [0, 1, 2, 3, 4, 5, 6, 7, 8, 9] rfl)
          · refine lv_aload_n hx hb dX2_figure_80 rfl (lv_at hl 6 rfl) ?_
            refine va_get (D := D) (ci := 2) (v := .ref (b_v Y)) (C := RX2) (T := TX2) (N := 6) hx hb hts hi2 hown hK hM 0 rfl rfl 5 (by decide) (hts (.fieldLink RX2 20 "RingSeriesModel" "values" "[I") (by decide +kernel)) (fun _ h9 => h9) rfl dX2_figure_81 ?_
            refine lv_iload hx hb dX2_figure_84 (lv_at hl 0 rfl) ?_
            refine ald_i (j := y) hx hb hK hM 4 0 rfl rfl (by omega) (by omega) dX2_figure_86 ?_
            refine lv_goto (tgt := 92) hx hb dX2_figure_87 (by decide) ?_
            refine lv_istore (lv' := [(5, .int (m_V q y)), (9, .int (nI y)), (8, .int (nI d0)), (7, .int su), (6, .int mo), (4, .int (nI (fs q k j))), (0, .ref (b_o Y)), (1, .int (nI k)), (2, .int (nI j)), (3, .int (nI w))]) hx hb dX2_figure_92 hl (by decide) rfl (fun ls hl => ?_)
            refine lv_aload_n hx hb dX2_figure_94 rfl (lv_at hl 6 rfl) ?_
            refine va_get (D := D) (ci := 2) (v := .ref (b_v Y)) (C := RX2) (T := TX2) (N := 6) hx hb hts hi2 hown hK hM 0 rfl rfl 5 (by decide) (hts (.fieldLink RX2 20 "RingSeriesModel" "values" "[I") (by decide +kernel)) (fun _ h9 => h9) rfl dX2_figure_95 ?_
            refine lv_iload hx hb dX2_figure_98 (lv_at hl 1 rfl) ?_
            refine ald_i (j := y) hx hb hK hM 4 0 rfl rfl (by omega) (by omega) dX2_figure_100 ?_
            refine lv_iload hx hb dX2_figure_101 (lv_at hl 4 rfl) ?_
            refine lv_icmp_le (tgt := 116) hx hb dX2_figure_103 (by decide) (fun c_103 => ?_) (fun c_103 => ?_)
            · refine lv_iload hx hb dX2_figure_116 (lv_at hl 4 rfl) ?_
              refine lv_istore (lv' := [(6, .int mo), (5, .int (m_V q y)), (9, .int (nI y)), (8, .int (nI d0)), (7, .int su), (4, .int (nI (fs q k j))), (0, .ref (b_o Y)), (1, .int (nI k)), (2, .int (nI j)), (3, .int (nI w))]) hx hb dX2_figure_118 hl (by decide) rfl (fun ls hl => ?_)
              refine lv_iload hx hb dX2_figure_120 (lv_at hl 4 rfl) ?_
              refine lv_aload_n hx hb dX2_figure_122 rfl (lv_at hl 6 rfl) ?_
              refine va_get (D := D) (ci := 2) (v := .ref (b_v Y)) (C := RX2) (T := TX2) (N := 6) hx hb hts hi2 hown hK hM 0 rfl rfl 5 (by decide) (hts (.fieldLink RX2 20 "RingSeriesModel" "values" "[I") (by decide +kernel)) (fun _ h9 => h9) rfl dX2_figure_123 ?_
              refine lv_iload hx hb dX2_figure_126 (lv_at hl 2 rfl) ?_
              refine ald_i (j := y) hx hb hK hM 4 0 rfl rfl (by omega) (by omega) dX2_figure_128 ?_
              refine lv_iadd hx hb dX2_figure_129 ?_
              refine lv_istore (lv' := [(7, .int (su + (m_V q y))), (6, .int mo), (5, .int (m_V q y)), (9, .int (nI y)), (8, .int (nI d0)), (4, .int (nI (fs q k j))), (0, .ref (b_o Y)), (1, .int (nI k)), (2, .int (nI j)), (3, .int (nI w))]) hx hb dX2_figure_130 hl (by decide) rfl (fun ls hl => ?_)
              refine lv_iinc (v := nI (d0 + 1)) (lv' := [(8, .int (nI (d0 + 1))), (7, .int (su + (m_V q y))), (6, .int mo), (5, .int (m_V q y)), (9, .int (nI y)), (4, .int (nI (fs q k j))), (0, .ref (b_o Y)), (1, .int (nI k)), (2, .int (nI j)), (3, .int (nI w))]) hx hb dX2_figure_132 hl (k := 4) rfl (inc1 _) (by decide) rfl (fun ls hl => ?_)
              refine lv_iinc (v := nI (y + 1)) (lv' := [(9, .int (nI (y + 1))), (8, .int (nI (d0 + 1))), (7, .int (su + (m_V q y))), (6, .int mo), (5, .int (m_V q y)), (4, .int (nI (fs q k j))), (0, .ref (b_o Y)), (1, .int (nI k)), (2, .int (nI j)), (3, .int (nI w))]) hx hb dX2_figure_135 hl (k := 4) rfl (inc1 _) (by decide) rfl (fun ls hl => ?_)
              refine lv_goto (tgt := 47) hx hb dX2_figure_138 (by decide) ?_
              exact ih (y + 1) (d0 + 1) _ _ _ ls (by omega) (by omega) (by rw [← hf, fgr, if_pos c_65, if_pos (Int32.not_le.mp c_77), if_neg (Int32.not_lt.mpr c_103)]) (lv_sub hl [0, 1, 2, 3, 4, 5, 6, 7, 8, 9] rfl)
            · refine lv_aload_n hx hb dX2_figure_106 rfl (lv_at hl 6 rfl) ?_
              refine va_get (D := D) (ci := 2) (v := .ref (b_v Y)) (C := RX2) (T := TX2) (N := 6) hx hb hts hi2 hown hK hM 0 rfl rfl 5 (by decide) (hts (.fieldLink RX2 20 "RingSeriesModel" "values" "[I") (by decide +kernel)) (fun _ h9 => h9) rfl dX2_figure_107 ?_
              refine lv_iload hx hb dX2_figure_110 (lv_at hl 1 rfl) ?_
              refine ald_i (j := y) hx hb hK hM 4 0 rfl rfl (by omega) (by omega) dX2_figure_112 ?_
              refine lv_goto (tgt := 118) hx hb dX2_figure_113 (by decide) ?_
              refine lv_istore (lv' := [(6, .int (m_V q y)), (5, .int (m_V q y)), (9, .int (nI y)), (8, .int (nI d0)), (7, .int su), (4, .int (nI (fs q k j))), (0, .ref (b_o Y)), (1, .int (nI k)), (2, .int (nI j)), (3, .int (nI w))]) hx hb dX2_figure_118 hl (by decide) rfl (fun ls hl => ?_)
              refine lv_iload hx hb dX2_figure_120 (lv_at hl 4 rfl) ?_
              refine lv_aload_n hx hb dX2_figure_122 rfl (lv_at hl 6 rfl) ?_
              refine va_get (D := D) (ci := 2) (v := .ref (b_v Y)) (C := RX2) (T := TX2) (N := 6) hx hb hts hi2 hown hK hM 0 rfl rfl 5 (by decide) (hts (.fieldLink RX2 20 "RingSeriesModel" "values" "[I") (by decide +kernel)) (fun _ h9 => h9) rfl dX2_figure_123 ?_
              refine lv_iload hx hb dX2_figure_126 (lv_at hl 2 rfl) ?_
              refine ald_i (j := y) hx hb hK hM 4 0 rfl rfl (by omega) (by omega) dX2_figure_128 ?_
              refine lv_iadd hx hb dX2_figure_129 ?_
              refine lv_istore (lv' := [(7, .int (su + (m_V q y))), (6, .int (m_V q y)), (5, .int (m_V q y)), (9, .int (nI y)), (8, .int (nI d0)), (4, .int (nI (fs q k j))), (0, .ref (b_o Y)), (1, .int (nI k)), (2, .int (nI j)), (3, .int (nI w))]) hx hb dX2_figure_130 hl (by decide) rfl (fun ls hl => ?_)
              refine lv_iinc (v := nI (d0 + 1)) (lv' := [(8, .int (nI (d0 + 1))), (7, .int (su + (m_V q y))), (6, .int (m_V q y)), (5, .int (m_V q y)), (9, .int (nI y)), (4, .int (nI (fs q k j))), (0, .ref (b_o Y)), (1, .int (nI k)), (2, .int (nI j)), (3, .int (nI w))]) hx hb dX2_figure_132 hl (k := 4) rfl (inc1 _) (by decide) rfl (fun ls hl => ?_)
              refine lv_iinc (v := nI (y + 1)) (lv' := [(9, .int (nI (y + 1))), (8, .int (nI (d0 + 1))), (7, .int (su + (m_V q y))), (6, .int (m_V q y)), (5, .int (m_V q y)), (4, .int (nI (fs q k j))), (0, .ref (b_o Y)), (1, .int (nI k)), (2, .int (nI j)), (3, .int (nI w))]) hx hb dX2_figure_135 hl (k := 4) rfl (inc1 _) (by decide) rfl (fun ls hl => ?_)
              refine lv_goto (tgt := 47) hx hb dX2_figure_138 (by decide) ?_
              exact ih (y + 1) (d0 + 1) _ _ _ ls (by omega) (by omega) (by rw [← hf, fgr, if_pos c_65, if_pos (Int32.not_le.mp c_77), if_pos (Int32.not_le.mp c_103)]) (lv_sub hl [0, 1, 2, 3, 4, 5, 6, 7, 8, 9] rfl)
  refine lv_aload_n hx hb dX2_figure_0 rfl (lv_at hl 0 rfl) ?_
  refine lv_iload_n hx hb dX2_figure_1 rfl (lv_at hl 1 rfl) ?_
  refine lv_iload_n hx hb dX2_figure_2 rfl (lv_at hl 2 rfl) ?_
  refine ro_call (va_runV (As := [.int (nI k), .int (nI j)]) (rest := []) ⟨hx, hb, hml, hown, hts⟩ (c_X2_isEntry_t l Y q hm hM k j (by omega) (by omega)) (cwV 2 hts gX2_figure_X2_isEntry rfl rfl rfl (by decide +kernel) ⟨Nat.le_of_ble_eq_true rfl, Nat.le_of_ble_eq_true rfl⟩) (ro_preV hK (va_recv hK hM (ci := 2) (q0 := 0) rfl rfl)) rfl rfl hl.1 rfl (lv_room (Nat.le_of_ble_eq_true rfl)) dX2_figure_3 ⟨Nat.zero_le _, Nat.zero_le _⟩) ?_
  refine lv_if_ne (tgt := 11) hx hb dX2_figure_6 (by decide) (fun c_6 => ?_) (fun c_6 => ?_)
  · refine lv_aload_n hx hb dX2_figure_11 rfl (lv_at hl 0 rfl) ?_
    refine lv_iload_n hx hb dX2_figure_12 rfl (lv_at hl 1 rfl) ?_
    refine lv_iload_n hx hb dX2_figure_13 rfl (lv_at hl 2 rfl) ?_
    refine ro_call (va_runV (As := [.int (nI k), .int (nI j)]) (rest := []) ⟨hx, hb, hml, hown, hts⟩ (c_X2_first l Y q hm hM k j (by omega) (by omega)) (cwV 2 hts gX2_figure_X2_first rfl rfl rfl (by decide +kernel) ⟨Nat.le_of_ble_eq_true rfl, Nat.le_of_ble_eq_true rfl⟩) (ro_preV hK (va_recv hK hM (ci := 2) (q0 := 0) rfl rfl)) rfl rfl hl.1 rfl (lv_room (Nat.le_of_ble_eq_true rfl)) dX2_figure_14 ⟨Nat.zero_le _, Nat.zero_le _⟩) ?_
    refine lv_istore (lv' := [(4, .int (nI (fs q k j))), (0, .ref (b_o Y)), (1, .int (nI k)), (2, .int (nI j)), (3, .int (nI w))]) hx hb dX2_figure_17 hl (by decide) rfl (fun ls hl => ?_)
    refine lv_aload_n hx hb dX2_figure_19 rfl (lv_at hl 1 rfl) ?_
    refine va_get (D := D) (ci := 2) (v := .ref (b_v Y)) (C := RX2) (T := TX2) (N := 6) hx hb hts hi2 hown hK hM 0 rfl rfl 5 (by decide) (hts (.fieldLink RX2 20 "RingSeriesModel" "values" "[I") (by decide +kernel)) (fun _ h9 => h9) rfl dX2_figure_20 ?_
    refine lv_iload hx hb dX2_figure_23 (lv_at hl 0 rfl) ?_
    refine ald_i (j := (fs q k j)) hx hb hK hM 4 0 rfl rfl (by omega) (by omega) dX2_figure_25 ?_
    refine lv_istore (lv' := [(5, .int (m_V q (fs q k j))), (4, .int (nI (fs q k j))), (0, .ref (b_o Y)), (1, .int (nI k)), (2, .int (nI j)), (3, .int (nI w))]) hx hb dX2_figure_26 hl (by decide) rfl (fun ls hl => ?_)
    refine lv_aload_n hx hb dX2_figure_28 rfl (lv_at hl 2 rfl) ?_
    refine va_get (D := D) (ci := 2) (v := .ref (b_v Y)) (C := RX2) (T := TX2) (N := 6) hx hb hts hi2 hown hK hM 0 rfl rfl 5 (by decide) (hts (.fieldLink RX2 20 "RingSeriesModel" "values" "[I") (by decide +kernel)) (fun _ h9 => h9) rfl dX2_figure_29 ?_
    refine lv_iload hx hb dX2_figure_32 (lv_at hl 1 rfl) ?_
    refine ald_i (j := (fs q k j)) hx hb hK hM 4 0 rfl rfl (by omega) (by omega) dX2_figure_34 ?_
    refine lv_istore (lv' := [(6, .int (m_V q (fs q k j))), (5, .int (m_V q (fs q k j))), (4, .int (nI (fs q k j))), (0, .ref (b_o Y)), (1, .int (nI k)), (2, .int (nI j)), (3, .int (nI w))]) hx hb dX2_figure_35 hl (by decide) rfl (fun ls hl => ?_)
    refine lv_iconst (v := 0) hx hb dX2_figure_37 (by decide) ?_
    refine lv_istore (lv' := [(7, .int 0), (6, .int (m_V q (fs q k j))), (5, .int (m_V q (fs q k j))), (4, .int (nI (fs q k j))), (0, .ref (b_o Y)), (1, .int (nI k)), (2, .int (nI j)), (3, .int (nI w))]) hx hb dX2_figure_38 hl (by decide) rfl (fun ls hl => ?_)
    refine lv_iconst (v := 0) hx hb dX2_figure_40 (by decide) ?_
    refine lv_istore (lv' := [(8, .int 0), (7, .int 0), (6, .int (m_V q (fs q k j))), (5, .int (m_V q (fs q k j))), (4, .int (nI (fs q k j))), (0, .ref (b_o Y)), (1, .int (nI k)), (2, .int (nI j)), (3, .int (nI w))]) hx hb dX2_figure_41 hl (by decide) rfl (fun ls hl => ?_)
    refine lv_iload hx hb dX2_figure_43 (lv_at hl 4 rfl) ?_
    refine lv_istore (lv' := [(9, .int (nI (fs q k j))), (8, .int 0), (7, .int 0), (6, .int (m_V q (fs q k j))), (5, .int (m_V q (fs q k j))), (4, .int (nI (fs q k j))), (0, .ref (b_o Y)), (1, .int (nI k)), (2, .int (nI j)), (3, .int (nI w))]) hx hb dX2_figure_45 hl (by decide) rfl (fun ls hl => ?_)
    exact loop (m_P q - fs q k j) (fs q k j) 0 0 _ _ ls (by omega) (by omega) rfl (lv_sub hl [0, 1, 2, 3, 4, 5, 6, 7, 8, 9] rfl)
  · exact absurd c_6 (by decide)
set_option maxHeartbeats 4000000 in
set_option maxRecDepth 100000 in
/-- figure(level, i, what) -/
theorem c_X2_figure_m (l : Launch) {D : va_G} {cI cA cJ : ClassId} {H : Heap} (Y : mA) (q : mv) (hm : m_ok q) (hM : va_P D vwCl (mW cI cJ Y q) H) (k j : Nat) (hq : k < 3) (hj : j < kp q k) (w : Int32) (hw : ¬ ix 4 w) : Met l yX2_figure wsX2_figure ({ frames := 4, cells := 0, slots := 0, locals := 93 }) (ro_P D vwCl (tyL cI cA cJ) H [.ref (b_o Y), .int (nI k), .int (nI j), .int w]) (ro_Q (.int 0) H) 0 0 ro_no := by
  refine Met.ofW (cc := cX2_figure) (maxL := 10) (ret := (some .int)) (by decide) rfl ?_
  intro p e s m args below meth c s₁ B hml hv
  obtain ⟨rfl, hh, hK⟩ := hv
  subst hh
  have hx := B.exec
  have hb := B.bytes
  have hr := B.returns
  have hlocks := B.notSynchronized
  have hts := atoms_spec (ws := wsX2_figure) B.pre
  have hown : s.vm.findClass RX2 = some m.cls := findClass_of_methodNamed B.named
  have hi2 : ∀ w ∈ wsX20, w ∈ wsX2_figure := fun w h => List.mem_cons_of_mem _ (List.mem_append_right _ h)
  have hl := lv_entry ([.ref (b_o Y), .int (nI k), .int (nI j), .int w]) (n := 10) (Nat.le_of_ble_eq_true rfl)
  rw [lg_entry_eq]
  generalize (lg_sl ([.ref (b_o Y), .int (nI k), .int (nI j), .int w]) ++ List.replicate (10 - (lg_sl ([.ref (b_o Y), .int (nI k), .int (nI j), .int w])).length) Slot.unset).toArray = ls at hl ⊢
  have hl : lv_has ls 10 [(0, .ref (b_o Y)), (1, .int (nI k)), (2, .int (nI j)), (3, .int w)] := hl
  obtain ⟨hp, hT, hRW, hkn⟩ := id hm
  obtain ⟨w1, w2, w3, w4⟩ := hRW k (by omega)
  have w5 := hkn k (by omega)
  have w6 := ng_le q k (m_P q)
  have f1 := fs_lt w5 hj
  have loop : ∀ (n : Nat) (y d0 : Nat) (su mo le : Int32) (ls : Array Slot), y + n = m_P q → d0 + fs q k j = y → fgr q k (fs q k j) n y le mo su d0 = fg q k j → lv_has ls 10 [(9, .int (nI y)), (8, .int (nI d0)), (7, .int su), (6, .int mo), (5, .int le), (4, .int (nI (fs q k j))), (0, .ref (b_o Y)), (1, .int (nI k)), (2, .int (nI j)), (3, .int w)] → W p l e (headSpec wsX2_figure ({ frames := 4, cells := 0, slots := 0, locals := 93 })).room s m ([.ref (b_o Y), .int (nI k), .int (nI j), .int w] : List Value).toArray below meth c s.heap [] 0 0 (MQ below (ro_Q (.int 0) s.heap) ([.ref (b_o Y), .int (nI k), .int (nI j), .int w] : List Value).toArray s 0 0 ro_no) (F0 m 47 ls []) := by
    intro n
    induction n with
    | zero =>
      intro y d0 su mo le ls hi hd hf hl
      refine lv_iload hx hb dX2_figure_47 (lv_at hl 0 rfl) ?_
      refine lv_aload_n hx hb dX2_figure_49 rfl (lv_at hl 6 rfl) ?_
      refine va_get (D := D) (ci := 2) (v := .int (nI (m_P q))) (C := RX2) (T := TX2) (N := 6) hx hb hts hi2 hown hK hM 0 rfl rfl 3 (by decide) (hts (.fieldLink RX2 32 "RingSeriesModel" "points" "I") (by decide +kernel)) (fun _ h9 => h9) rfl dX2_figure_50 ?_
      refine lv_icmp_ge (tgt := 141) hx hb dX2_figure_53 (by decide) (fun c_53 => ?_) (fun c_53 => ?_)
      · have c_53 := (nI_leI (a := m_P q) (b := y) (by omega) (by omega)).mp c_53
        refine lv_iload_n hx hb dX2_figure_141 rfl (lv_at hl 9 rfl) ?_
        refine lv_if_ne (tgt := 150) hx hb dX2_figure_142 (by decide) (fun c_142 => ?_) (fun c_142 => ?_)
        · refine lv_iload_n hx hb dX2_figure_150 rfl (lv_at hl 9 rfl) ?_
          refine lv_iconst (v := 1) hx hb dX2_figure_151 (by decide) ?_
          refine lv_icmp_ne (tgt := 160) hx hb dX2_figure_152 (by decide) (fun c_152 => ?_) (fun c_152 => ?_)
          · refine lv_iload_n hx hb dX2_figure_160 rfl (lv_at hl 9 rfl) ?_
            refine lv_iconst (v := 2) hx hb dX2_figure_161 (by decide) ?_
            refine lv_icmp_ne (tgt := 170) hx hb dX2_figure_162 (by decide) (fun c_162 => ?_) (fun c_162 => ?_)
            · refine lv_iload_n hx hb dX2_figure_170 rfl (lv_at hl 9 rfl) ?_
              refine lv_iconst (v := 3) hx hb dX2_figure_171 (by decide) ?_
              refine lv_icmp_ne (tgt := 180) hx hb dX2_figure_172 (by decide) (fun c_172 => ?_) (fun c_172 => ?_)
              · refine lv_iconst (v := 0) hx hb dX2_figure_180 (by decide) ?_
                exact ro_iret hx hb hr rfl dX2_figure_181 hlocks
              · exact absurd (by rw [c_172]; exact ix_nI (j := 3) (by decide) (by decide)) hw
            · exact absurd (by rw [c_162]; exact ix_nI (j := 2) (by decide) (by decide)) hw
          · exact absurd (by rw [c_152]; exact ix_nI (j := 1) (by decide) (by decide)) hw
        · exact absurd (by rw [c_142]; exact ix_nI (j := 0) (by decide) (by decide)) hw
      · have c_53 := mt (nI_leI (a := m_P q) (b := y) (by omega) (by omega)).mpr c_53
        exact absurd c_53 (by omega)
    | succ n ih =>
      intro y d0 su mo le ls hi hd hf hl
      refine lv_iload hx hb dX2_figure_47 (lv_at hl 0 rfl) ?_
      refine lv_aload_n hx hb dX2_figure_49 rfl (lv_at hl 6 rfl) ?_
      refine va_get (D := D) (ci := 2) (v := .int (nI (m_P q))) (C := RX2) (T := TX2) (N := 6) hx hb hts hi2 hown hK hM 0 rfl rfl 3 (by decide) (hts (.fieldLink RX2 32 "RingSeriesModel" "points" "I") (by decide +kernel)) (fun _ h9 => h9) rfl dX2_figure_50 ?_
      refine lv_icmp_ge (tgt := 141) hx hb dX2_figure_53 (by decide) (fun c_53 => ?_) (fun c_53 => ?_)
      · have c_53 := (nI_leI (a := m_P q) (b := y) (by omega) (by omega)).mp c_53
        exact absurd c_53 (by omega)
      · have c_53 := mt (nI_leI (a := m_P q) (b := y) (by omega) (by omega)).mpr c_53
        refine lv_aload_n hx hb dX2_figure_56 rfl (lv_at hl 6 rfl) ?_
        refine lv_iload_n hx hb dX2_figure_57 rfl (lv_at hl 7 rfl) ?_
        refine lv_iload hx hb dX2_figure_58 (lv_at hl 5 rfl) ?_
        refine lv_iload hx hb dX2_figure_60 (lv_at hl 0 rfl) ?_
        refine ro_call (va_runV (As := [.int (nI k), .int (nI (fs q k j)), .int (nI y)]) (rest := []) ⟨hx, hb, hml, hown, hts⟩ (c_X2_isSame l Y q hm hM k (fs q k j) y (by omega) (by omega) (by omega)) (cwV 3 hts gX2_figure_X2_isSame rfl rfl rfl (by decide +kernel) ⟨Nat.le_of_ble_eq_true rfl, Nat.le_of_ble_eq_true rfl⟩) (ro_preV hK (va_recv hK hM (ci := 2) (q0 := 0) rfl rfl)) rfl rfl hl.1 rfl (lv_room (Nat.le_of_ble_eq_true rfl)) dX2_figure_62 ⟨Nat.zero_le _, Nat.zero_le _⟩) ?_
        refine lv_if_eq (tgt := 141) hx hb dX2_figure_65 (by decide) (fun c_65 => ?_) (fun c_65 => ?_)
        · have c_65 := bi_eq c_65
          refine lv_iload_n hx hb dX2_figure_141 rfl (lv_at hl 9 rfl) ?_
          refine lv_if_ne (tgt := 150) hx hb dX2_figure_142 (by decide) (fun c_142 => ?_) (fun c_142 => ?_)
          · refine lv_iload_n hx hb dX2_figure_150 rfl (lv_at hl 9 rfl) ?_
            refine lv_iconst (v := 1) hx hb dX2_figure_151 (by decide) ?_
            refine lv_icmp_ne (tgt := 160) hx hb dX2_figure_152 (by decide) (fun c_152 => ?_) (fun c_152 => ?_)
            · refine lv_iload_n hx hb dX2_figure_160 rfl (lv_at hl 9 rfl) ?_
              refine lv_iconst (v := 2) hx hb dX2_figure_161 (by decide) ?_
              refine lv_icmp_ne (tgt := 170) hx hb dX2_figure_162 (by decide) (fun c_162 => ?_) (fun c_162 => ?_)
              · refine lv_iload_n hx hb dX2_figure_170 rfl (lv_at hl 9 rfl) ?_
                refine lv_iconst (v := 3) hx hb dX2_figure_171 (by decide) ?_
                refine lv_icmp_ne (tgt := 180) hx hb dX2_figure_172 (by decide) (fun c_172 => ?_) (fun c_172 => ?_)
                · refine lv_iconst (v := 0) hx hb dX2_figure_180 (by decide) ?_
                  exact ro_iret hx hb hr rfl dX2_figure_181 hlocks
                · exact absurd (by rw [c_172]; exact ix_nI (j := 3) (by decide) (by decide)) hw
              · exact absurd (by rw [c_162]; exact ix_nI (j := 2) (by decide) (by decide)) hw
            · exact absurd (by rw [c_152]; exact ix_nI (j := 1) (by decide) (by decide)) hw
          · exact absurd (by rw [c_142]; exact ix_nI (j := 0) (by decide) (by decide)) hw
        · have c_65 := bi_ne c_65
          refine lv_aload_n hx hb dX2_figure_68 rfl (lv_at hl 6 rfl) ?_
          refine va_get (D := D) (ci := 2) (v := .ref (b_v Y)) (C := RX2) (T := TX2) (N := 6) hx hb hts hi2 hown hK hM 0 rfl rfl 5 (by decide) (hts (.fieldLink RX2 20 "RingSeriesModel" "values" "[I") (by decide +kernel)) (fun _ h9 => h9) rfl dX2_figure_69 ?_
          refine lv_iload hx hb dX2_figure_72 (lv_at hl 0 rfl) ?_
          refine ald_i (j := y) hx hb hK hM 4 0 rfl rfl (by omega) (by omega) dX2_figure_74 ?_
          refine lv_iload hx hb dX2_figure_75 (lv_at hl 4 rfl) ?_
          refine lv_icmp_ge (tgt := 90) hx hb dX2_figure_77 (by decide) (fun c_77 => ?_) (fun c_77 => ?_)
          · refine lv_iload hx hb dX2_figure_90 (lv_at hl 4 rfl) ?_
            refine lv_istore (lv' := [(5, .int le), (9, .int (nI y)), (8, .int (nI d0)), (7, .int su), (6, .int mo), (4, .int (nI (fs q k j))), (0, .ref (b_o Y)), (1, .int (nI k)), (2, .int (nI j)), (3, .int w)]) hx hb dX2_figure_92 hl (by decide) rfl (fun ls hl => ?_)
            refine lv_aload_n hx hb dX2_figure_94 rfl (lv_at hl 6 rfl) ?_
            refine va_get (D := D) (ci := 2) (v := .ref (b_v Y)) (C := RX2) (T := TX2) (N := 6) hx hb hts hi2 hown hK hM 0 rfl rfl 5 (by decide) (hts (.fieldLink RX2 20 "RingSeriesModel" "values" "[I") (by decide +kernel)) (fun _ h9 => h9) rfl dX2_figure_95 ?_
            refine lv_iload hx hb dX2_figure_98 (lv_at hl 1 rfl) ?_
            refine ald_i (j := y) hx hb hK hM 4 0 rfl rfl (by omega) (by omega) dX2_figure_100 ?_
            refine lv_iload hx hb dX2_figure_101 (lv_at hl 4 rfl) ?_
            refine lv_icmp_le (tgt := 116) hx hb dX2_figure_103 (by decide) (fun c_103 => ?_) (fun c_103 => ?_)
            · refine lv_iload hx hb dX2_figure_116 (lv_at hl 4 rfl) ?_
              refine lv_istore (lv' := [(6, .int mo), (5, .int le), (9, .int (nI y)), (8, .int (nI d0)), (7, .int su), (4, .int (nI (fs q k j))), (0, .ref (b_o Y)), (1, .int (nI k)), (2, .int (nI j)), (3, .int w)]) hx hb dX2_figure_118 hl (by decide) rfl (fun ls hl => ?_)
              refine lv_iload hx hb dX2_figure_120 (lv_at hl 4 rfl) ?_
              refine lv_aload_n hx hb dX2_figure_122 rfl (lv_at hl 6 rfl) ?_
              refine va_get (D := D) (ci := 2) (v := .ref (b_v Y)) (C := RX2) (T := TX2) (N := 6) hx hb hts hi2 hown hK hM 0 rfl rfl 5 (by decide) (hts (.fieldLink RX2 20 "RingSeriesModel" "values" "[I") (by decide +kernel)) (fun _ h9 => h9) rfl dX2_figure_123 ?_
              refine lv_iload hx hb dX2_figure_126 (lv_at hl 2 rfl) ?_
              refine ald_i (j := y) hx hb hK hM 4 0 rfl rfl (by omega) (by omega) dX2_figure_128 ?_
              refine lv_iadd hx hb dX2_figure_129 ?_
              refine lv_istore (lv' := [(7, .int (su + (m_V q y))), (6, .int mo), (5, .int le), (9, .int (nI y)), (8, .int (nI d0)), (4, .int (nI (fs q k j))), (0, .ref (b_o Y)), (1, .int (nI k)), (2, .int (nI j)), (3, .int w)]) hx hb dX2_figure_130 hl (by decide) rfl (fun ls hl => ?_)
              refine lv_iinc (v := nI (d0 + 1)) (lv' := [(8, .int (nI (d0 + 1))), (7, .int (su + (m_V q y))), (6, .int mo), (5, .int le), (9, .int (nI y)), (4, .int (nI (fs q k j))), (0, .ref (b_o Y)), (1, .int (nI k)), (2, .int (nI j)), (3, .int w)]) hx hb dX2_figure_132 hl (k := 4) rfl (inc1 _) (by decide) rfl (fun ls hl => ?_)
              refine lv_iinc (v := nI (y + 1)) (lv' := [(9, .int (nI (y + 1))), (8, .int (nI (d0 + 1))), (7, .int (su + (m_V q y))), (6, .int mo), (5, .int le), (4, .int (nI (fs q k j))), (0, .ref (b_o Y)), (1, .int (nI k)), (2, .int (nI j)), (3, .int w)]) hx hb dX2_figure_135 hl (k := 4) rfl (inc1 _) (by decide) rfl (fun ls hl => ?_)
              refine lv_goto (tgt := 47) hx hb dX2_figure_138 (by decide) ?_
              exact ih (y + 1) (d0 + 1) _ _ _ ls (by omega) (by omega) (by rw [← hf, fgr, if_pos c_65, if_neg (Int32.not_lt.mpr c_77), if_neg (Int32.not_lt.mpr c_103)]) (lv_sub hl [0, 1, 2, 3, 4, 5, 6, 7, 8, 9] rfl)
            · refine lv_aload_n hx hb dX2_figure_106 rfl (lv_at hl 6 rfl) ?_
              refine va_get (D := D) (ci := 2) (v := .ref (b_v Y)) (C := RX2) (T := TX2) (N := 6) hx hb hts hi2 hown hK hM 0 rfl rfl 5 (by decide) (hts (.fieldLink RX2 20 "RingSeriesModel" "values" "[I") (by decide +kernel)) (fun _ h9 => h9) rfl dX2_figure_107 ?_
              refine lv_iload hx hb dX2_figure_110 (lv_at hl 1 rfl) ?_
              refine ald_i (j := y) hx hb hK hM 4 0 rfl rfl (by omega) (by omega) dX2_figure_112 ?_
              refine lv_goto (tgt := 118) hx hb dX2_figure_113 (by decide) ?_
              refine lv_istore (lv' := [(6, .int (m_V q y)), (5, .int le), (9, .int (nI y)), (8, .int (nI d0)), (7, .int su), (4, .int (nI (fs q k j))), (0, .ref (b_o Y)), (1, .int (nI k)), (2, .int (nI j)), (3, .int w)]) hx hb dX2_figure_118 hl (by decide) rfl (fun ls hl => ?_)
              refine lv_iload hx hb dX2_figure_120 (lv_at hl 4 rfl) ?_
              refine lv_aload_n hx hb dX2_figure_122 rfl (lv_at hl 6 rfl) ?_
              refine va_get (D := D) (ci := 2) (v := .ref (b_v Y)) (C := RX2) (T := TX2) (N := 6) hx hb hts hi2 hown hK hM 0 rfl rfl 5 (by decide) (hts (.fieldLink RX2 20 "RingSeriesModel" "values" "[I") (by decide +kernel)) (fun _ h9 => h9) rfl dX2_figure_123 ?_
              refine lv_iload hx hb dX2_figure_126 (lv_at hl 2 rfl) ?_
              refine ald_i (j := y) hx hb hK hM 4 0 rfl rfl (by omega) (by omega) dX2_figure_128 ?_
              refine lv_iadd hx hb dX2_figure_129 ?_
              refine lv_istore (lv' := [(7, .int (su + (m_V q y))), (6, .int (m_V q y)), (5, .int le), (9, .int (nI y)), (8, .int (nI d0)), (4, .int (nI (fs q k j))), (0, .ref (b_o Y)), (1, .int (nI k)), (2, .int (nI j)), (3, .int w)]) hx hb dX2_figure_130 hl (by decide) rfl (fun ls hl => ?_)
              refine lv_iinc (v := nI (d0 + 1)) (lv' := [(8, .int (nI (d0 + 1))), (7, .int (su + (m_V q y))), (6, .int (m_V q y)), (5, .int le), (9, .int (nI y)), (4, .int (nI (fs q k j))), (0, .ref (b_o Y)), (1, .int (nI k)), (2, .int (nI j)), (3, .int w)]) hx hb dX2_figure_132 hl (k := 4) rfl (inc1 _) (by decide) rfl (fun ls hl => ?_)
              refine lv_iinc (v := nI (y + 1)) (lv' := [(9, .int (nI (y + 1))), (8, .int (nI (d0 + 1))), (7, .int (su + (m_V q y))), (6, .int (m_V q y)), (5, .int le), (4, .int (nI (fs q k j))), (0, .ref (b_o Y)), (1, .int (nI k)), (2, .int (nI j)), (3, .int w)]) hx hb dX2_figure_135 hl (k := 4) rfl (inc1 _) (by decide) rfl (fun ls hl => ?_)
              refine lv_goto (tgt := 47) hx hb dX2_figure_138 (by decide) ?_
              exact ih (y + 1) (d0 + 1) _ _ _ ls (by omega) (by omega) (by rw [← hf, fgr, if_pos c_65, if_neg (Int32.not_lt.mpr c_77), if_pos (Int32.not_le.mp c_103)]) (lv_sub hl [0, 1, 2, 3, 4, 5, 6, 7, 8, 9] rfl)
          · refine lv_aload_n hx hb dX2_figure_80 rfl (lv_at hl 6 rfl) ?_
            refine va_get (D := D) (ci := 2) (v := .ref (b_v Y)) (C := RX2) (T := TX2) (N := 6) hx hb hts hi2 hown hK hM 0 rfl rfl 5 (by decide) (hts (.fieldLink RX2 20 "RingSeriesModel" "values" "[I") (by decide +kernel)) (fun _ h9 => h9) rfl dX2_figure_81 ?_
            refine lv_iload hx hb dX2_figure_84 (lv_at hl 0 rfl) ?_
            refine ald_i (j := y) hx hb hK hM 4 0 rfl rfl (by omega) (by omega) dX2_figure_86 ?_
            refine lv_goto (tgt := 92) hx hb dX2_figure_87 (by decide) ?_
            refine lv_istore (lv' := [(5, .int (m_V q y)), (9, .int (nI y)), (8, .int (nI d0)), (7, .int su), (6, .int mo), (4, .int (nI (fs q k j))), (0, .ref (b_o Y)), (1, .int (nI k)), (2, .int (nI j)), (3, .int w)]) hx hb dX2_figure_92 hl (by decide) rfl (fun ls hl => ?_)
            refine lv_aload_n hx hb dX2_figure_94 rfl (lv_at hl 6 rfl) ?_
            refine va_get (D := D) (ci := 2) (v := .ref (b_v Y)) (C := RX2) (T := TX2) (N := 6) hx hb hts hi2 hown hK hM 0 rfl rfl 5 (by decide) (hts (.fieldLink RX2 20 "RingSeriesModel" "values" "[I") (by decide +kernel)) (fun _ h9 => h9) rfl dX2_figure_95 ?_
            refine lv_iload hx hb dX2_figure_98 (lv_at hl 1 rfl) ?_
            refine ald_i (j := y) hx hb hK hM 4 0 rfl rfl (by omega) (by omega) dX2_figure_100 ?_
            refine lv_iload hx hb dX2_figure_101 (lv_at hl 4 rfl) ?_
            refine lv_icmp_le (tgt := 116) hx hb dX2_figure_103 (by decide) (fun c_103 => ?_) (fun c_103 => ?_)
            · refine lv_iload hx hb dX2_figure_116 (lv_at hl 4 rfl) ?_
              refine lv_istore (lv' := [(6, .int mo), (5, .int (m_V q y)), (9, .int (nI y)), (8, .int (nI d0)), (7, .int su), (4, .int (nI (fs q k j))), (0, .ref (b_o Y)), (1, .int (nI k)), (2, .int (nI j)), (3, .int w)]) hx hb dX2_figure_118 hl (by decide) rfl (fun ls hl => ?_)
              refine lv_iload hx hb dX2_figure_120 (lv_at hl 4 rfl) ?_
              refine lv_aload_n hx hb dX2_figure_122 rfl (lv_at hl 6 rfl) ?_
              refine va_get (D := D) (ci := 2) (v := .ref (b_v Y)) (C := RX2) (T := TX2) (N := 6) hx hb hts hi2 hown hK hM 0 rfl rfl 5 (by decide) (hts (.fieldLink RX2 20 "RingSeriesModel" "values" "[I") (by decide +kernel)) (fun _ h9 => h9) rfl dX2_figure_123 ?_
              refine lv_iload hx hb dX2_figure_126 (lv_at hl 2 rfl) ?_
              refine ald_i (j := y) hx hb hK hM 4 0 rfl rfl (by omega) (by omega) dX2_figure_128 ?_
              refine lv_iadd hx hb dX2_figure_129 ?_
              refine lv_istore (lv' := [(7, .int (su + (m_V q y))), (6, .int mo), (5, .int (m_V q y)), (9, .int (nI y)), (8, .int (nI d0)), (4, .int (nI (fs q k j))), (0, .ref (b_o Y)), (1, .int (nI k)), (2, .int (nI j)), (3, .int w)]) hx hb dX2_figure_130 hl (by decide) rfl (fun ls hl => ?_)
              refine lv_iinc (v := nI (d0 + 1)) (lv' := [(8, .int (nI (d0 + 1))), (7, .int (su + (m_V q y))), (6, .int mo), (5, .int (m_V q y)), (9, .int (nI y)), (4, .int (nI (fs q k j))), (0, .ref (b_o Y)), (1, .int (nI k)), (2, .int (nI j)), (3, .int w)]) hx hb dX2_figure_132 hl (k := 4) rfl (inc1 _) (by decide) rfl (fun ls hl => ?_)
              refine lv_iinc (v := nI (y + 1)) (lv' := [(9, .int (nI (y + 1))), (8, .int (nI (d0 + 1))), (7, .int (su + (m_V q y))), (6, .int mo), (5, .int (m_V q y)), (4, .int (nI (fs q k j))), (0, .ref (b_o Y)), (1, .int (nI k)), (2, .int (nI j)), (3, .int w)]) hx hb dX2_figure_135 hl (k := 4) rfl (inc1 _) (by decide) rfl (fun ls hl => ?_)
              refine lv_goto (tgt := 47) hx hb dX2_figure_138 (by decide) ?_
              exact ih (y + 1) (d0 + 1) _ _ _ ls (by omega) (by omega) (by rw [← hf, fgr, if_pos c_65, if_pos (Int32.not_le.mp c_77), if_neg (Int32.not_lt.mpr c_103)]) (lv_sub hl [0, 1, 2, 3, 4, 5, 6, 7, 8, 9] rfl)
            · refine lv_aload_n hx hb dX2_figure_106 rfl (lv_at hl 6 rfl) ?_
              refine va_get (D := D) (ci := 2) (v := .ref (b_v Y)) (C := RX2) (T := TX2) (N := 6) hx hb hts hi2 hown hK hM 0 rfl rfl 5 (by decide) (hts (.fieldLink RX2 20 "RingSeriesModel" "values" "[I") (by decide +kernel)) (fun _ h9 => h9) rfl dX2_figure_107 ?_
              refine lv_iload hx hb dX2_figure_110 (lv_at hl 1 rfl) ?_
              refine ald_i (j := y) hx hb hK hM 4 0 rfl rfl (by omega) (by omega) dX2_figure_112 ?_
              refine lv_goto (tgt := 118) hx hb dX2_figure_113 (by decide) ?_
              refine lv_istore (lv' := [(6, .int (m_V q y)), (5, .int (m_V q y)), (9, .int (nI y)), (8, .int (nI d0)), (7, .int su), (4, .int (nI (fs q k j))), (0, .ref (b_o Y)), (1, .int (nI k)), (2, .int (nI j)), (3, .int w)]) hx hb dX2_figure_118 hl (by decide) rfl (fun ls hl => ?_)
              refine lv_iload hx hb dX2_figure_120 (lv_at hl 4 rfl) ?_
              refine lv_aload_n hx hb dX2_figure_122 rfl (lv_at hl 6 rfl) ?_
              refine va_get (D := D) (ci := 2) (v := .ref (b_v Y)) (C := RX2) (T := TX2) (N := 6) hx hb hts hi2 hown hK hM 0 rfl rfl 5 (by decide) (hts (.fieldLink RX2 20 "RingSeriesModel" "values" "[I") (by decide +kernel)) (fun _ h9 => h9) rfl dX2_figure_123 ?_
              refine lv_iload hx hb dX2_figure_126 (lv_at hl 2 rfl) ?_
              refine ald_i (j := y) hx hb hK hM 4 0 rfl rfl (by omega) (by omega) dX2_figure_128 ?_
              refine lv_iadd hx hb dX2_figure_129 ?_
              refine lv_istore (lv' := [(7, .int (su + (m_V q y))), (6, .int (m_V q y)), (5, .int (m_V q y)), (9, .int (nI y)), (8, .int (nI d0)), (4, .int (nI (fs q k j))), (0, .ref (b_o Y)), (1, .int (nI k)), (2, .int (nI j)), (3, .int w)]) hx hb dX2_figure_130 hl (by decide) rfl (fun ls hl => ?_)
              refine lv_iinc (v := nI (d0 + 1)) (lv' := [(8, .int (nI (d0 + 1))), (7, .int (su + (m_V q y))), (6, .int (m_V q y)), (5, .int (m_V q y)), (9, .int (nI y)), (4, .int (nI (fs q k j))), (0, .ref (b_o Y)), (1, .int (nI k)), (2, .int (nI j)), (3, .int w)]) hx hb dX2_figure_132 hl (k := 4) rfl (inc1 _) (by decide) rfl (fun ls hl => ?_)
              refine lv_iinc (v := nI (y + 1)) (lv' := [(9, .int (nI (y + 1))), (8, .int (nI (d0 + 1))), (7, .int (su + (m_V q y))), (6, .int (m_V q y)), (5, .int (m_V q y)), (4, .int (nI (fs q k j))), (0, .ref (b_o Y)), (1, .int (nI k)), (2, .int (nI j)), (3, .int w)]) hx hb dX2_figure_135 hl (k := 4) rfl (inc1 _) (by decide) rfl (fun ls hl => ?_)
              refine lv_goto (tgt := 47) hx hb dX2_figure_138 (by decide) ?_
              exact ih (y + 1) (d0 + 1) _ _ _ ls (by omega) (by omega) (by rw [← hf, fgr, if_pos c_65, if_pos (Int32.not_le.mp c_77), if_pos (Int32.not_le.mp c_103)]) (lv_sub hl [0, 1, 2, 3, 4, 5, 6, 7, 8, 9] rfl)
  refine lv_aload_n hx hb dX2_figure_0 rfl (lv_at hl 0 rfl) ?_
  refine lv_iload_n hx hb dX2_figure_1 rfl (lv_at hl 1 rfl) ?_
  refine lv_iload_n hx hb dX2_figure_2 rfl (lv_at hl 2 rfl) ?_
  refine ro_call (va_runV (As := [.int (nI k), .int (nI j)]) (rest := []) ⟨hx, hb, hml, hown, hts⟩ (c_X2_isEntry_t l Y q hm hM k j (by omega) (by omega)) (cwV 2 hts gX2_figure_X2_isEntry rfl rfl rfl (by decide +kernel) ⟨Nat.le_of_ble_eq_true rfl, Nat.le_of_ble_eq_true rfl⟩) (ro_preV hK (va_recv hK hM (ci := 2) (q0 := 0) rfl rfl)) rfl rfl hl.1 rfl (lv_room (Nat.le_of_ble_eq_true rfl)) dX2_figure_3 ⟨Nat.zero_le _, Nat.zero_le _⟩) ?_
  refine lv_if_ne (tgt := 11) hx hb dX2_figure_6 (by decide) (fun c_6 => ?_) (fun c_6 => ?_)
  · refine lv_aload_n hx hb dX2_figure_11 rfl (lv_at hl 0 rfl) ?_
    refine lv_iload_n hx hb dX2_figure_12 rfl (lv_at hl 1 rfl) ?_
    refine lv_iload_n hx hb dX2_figure_13 rfl (lv_at hl 2 rfl) ?_
    refine ro_call (va_runV (As := [.int (nI k), .int (nI j)]) (rest := []) ⟨hx, hb, hml, hown, hts⟩ (c_X2_first l Y q hm hM k j (by omega) (by omega)) (cwV 2 hts gX2_figure_X2_first rfl rfl rfl (by decide +kernel) ⟨Nat.le_of_ble_eq_true rfl, Nat.le_of_ble_eq_true rfl⟩) (ro_preV hK (va_recv hK hM (ci := 2) (q0 := 0) rfl rfl)) rfl rfl hl.1 rfl (lv_room (Nat.le_of_ble_eq_true rfl)) dX2_figure_14 ⟨Nat.zero_le _, Nat.zero_le _⟩) ?_
    refine lv_istore (lv' := [(4, .int (nI (fs q k j))), (0, .ref (b_o Y)), (1, .int (nI k)), (2, .int (nI j)), (3, .int w)]) hx hb dX2_figure_17 hl (by decide) rfl (fun ls hl => ?_)
    refine lv_aload_n hx hb dX2_figure_19 rfl (lv_at hl 1 rfl) ?_
    refine va_get (D := D) (ci := 2) (v := .ref (b_v Y)) (C := RX2) (T := TX2) (N := 6) hx hb hts hi2 hown hK hM 0 rfl rfl 5 (by decide) (hts (.fieldLink RX2 20 "RingSeriesModel" "values" "[I") (by decide +kernel)) (fun _ h9 => h9) rfl dX2_figure_20 ?_
    refine lv_iload hx hb dX2_figure_23 (lv_at hl 0 rfl) ?_
    refine ald_i (j := (fs q k j)) hx hb hK hM 4 0 rfl rfl (by omega) (by omega) dX2_figure_25 ?_
    refine lv_istore (lv' := [(5, .int (m_V q (fs q k j))), (4, .int (nI (fs q k j))), (0, .ref (b_o Y)), (1, .int (nI k)), (2, .int (nI j)), (3, .int w)]) hx hb dX2_figure_26 hl (by decide) rfl (fun ls hl => ?_)
    refine lv_aload_n hx hb dX2_figure_28 rfl (lv_at hl 2 rfl) ?_
    refine va_get (D := D) (ci := 2) (v := .ref (b_v Y)) (C := RX2) (T := TX2) (N := 6) hx hb hts hi2 hown hK hM 0 rfl rfl 5 (by decide) (hts (.fieldLink RX2 20 "RingSeriesModel" "values" "[I") (by decide +kernel)) (fun _ h9 => h9) rfl dX2_figure_29 ?_
    refine lv_iload hx hb dX2_figure_32 (lv_at hl 1 rfl) ?_
    refine ald_i (j := (fs q k j)) hx hb hK hM 4 0 rfl rfl (by omega) (by omega) dX2_figure_34 ?_
    refine lv_istore (lv' := [(6, .int (m_V q (fs q k j))), (5, .int (m_V q (fs q k j))), (4, .int (nI (fs q k j))), (0, .ref (b_o Y)), (1, .int (nI k)), (2, .int (nI j)), (3, .int w)]) hx hb dX2_figure_35 hl (by decide) rfl (fun ls hl => ?_)
    refine lv_iconst (v := 0) hx hb dX2_figure_37 (by decide) ?_
    refine lv_istore (lv' := [(7, .int 0), (6, .int (m_V q (fs q k j))), (5, .int (m_V q (fs q k j))), (4, .int (nI (fs q k j))), (0, .ref (b_o Y)), (1, .int (nI k)), (2, .int (nI j)), (3, .int w)]) hx hb dX2_figure_38 hl (by decide) rfl (fun ls hl => ?_)
    refine lv_iconst (v := 0) hx hb dX2_figure_40 (by decide) ?_
    refine lv_istore (lv' := [(8, .int 0), (7, .int 0), (6, .int (m_V q (fs q k j))), (5, .int (m_V q (fs q k j))), (4, .int (nI (fs q k j))), (0, .ref (b_o Y)), (1, .int (nI k)), (2, .int (nI j)), (3, .int w)]) hx hb dX2_figure_41 hl (by decide) rfl (fun ls hl => ?_)
    refine lv_iload hx hb dX2_figure_43 (lv_at hl 4 rfl) ?_
    refine lv_istore (lv' := [(9, .int (nI (fs q k j))), (8, .int 0), (7, .int 0), (6, .int (m_V q (fs q k j))), (5, .int (m_V q (fs q k j))), (4, .int (nI (fs q k j))), (0, .ref (b_o Y)), (1, .int (nI k)), (2, .int (nI j)), (3, .int w)]) hx hb dX2_figure_45 hl (by decide) rfl (fun ls hl => ?_)
    exact loop (m_P q - fs q k j) (fs q k j) 0 0 _ _ ls (by omega) (by omega) rfl (lv_sub hl [0, 1, 2, 3, 4, 5, 6, 7, 8, 9] rfl)
  · exact absurd c_6 (by decide)
end
section
def exM (q : mv) (f t g : Int32) : Int32 := if g = 1 ∨ g = -1 then exq q f t g (m_P q) else 0
theorem so_eq {n : Nat} (h : (if n = 0 then (0 : Int32) else 1) = 0) : n = 0 := Decidable.byContradiction fun q => by rw [if_neg q] at h; exact absurd h (by decide)
theorem so_ne {n : Nat} (h : ¬ (if n = 0 then (0 : Int32) else 1) = 0) : ¬ n = 0 := fun q => h (if_pos q)
set_option maxHeartbeats 4000000 in
set_option maxRecDepth 100000 in
/-- isIn(p, from, to) -/
theorem c_X2_isIn (l : Launch) {D : va_G} {cI cA cJ : ClassId} {H : Heap} (Y : mA) (q : mv) (hm : m_ok q) (hM : va_P D vwCl (mW cI cJ Y q) H) (y : Nat) (hy : y < m_P q) (f t : Int32) : Met l yX2_isIn wsX2_isIn ({ frames := 3, cells := 0, slots := 0, locals := 68 }) (ro_P D vwCl (tyL cI cA cJ) H [.ref (b_o Y), .int (nI y), .int f, .int t]) (ro_Q (.int (if inS q f t y then 1 else 0)) H) 0 0 ro_no := by
  refine Met.ofW (cc := cX2_isIn) (maxL := 4) (ret := (some .boolean)) (by decide) rfl ?_
  intro p e s m args below meth c s₁ B hml hv
  obtain ⟨rfl, hh, hK⟩ := hv
  subst hh
  have hx := B.exec
  have hb := B.bytes
  have hr := B.returns
  have hlocks := B.notSynchronized
  have hts := atoms_spec (ws := wsX2_isIn) B.pre
  have hown : s.vm.findClass RX2 = some m.cls := findClass_of_methodNamed B.named
  have hi2 : ∀ w ∈ wsX20, w ∈ wsX2_isIn := fun w h => List.mem_cons_of_mem _ (List.mem_append_right _ h)
  have hl := lv_entry ([.ref (b_o Y), .int (nI y), .int f, .int t]) (n := 4) (Nat.le_of_ble_eq_true rfl)
  rw [lg_entry_eq]
  generalize (lg_sl ([.ref (b_o Y), .int (nI y), .int f, .int t]) ++ List.replicate (4 - (lg_sl ([.ref (b_o Y), .int (nI y), .int f, .int t])).length) Slot.unset).toArray = ls at hl ⊢
  have hl : lv_has ls 4 [(0, .ref (b_o Y)), (1, .int (nI y)), (2, .int f), (3, .int t)] := hl
  obtain ⟨hp, hT, hRW, hkn⟩ := id hm
  have w0 : kp q 0 ≤ ng q 0 (m_P q) := hkn 0 (by omega)
  have w6 := ng_le q 0 (m_P q)
  refine lv_iload_n hx hb dX2_isIn_0 rfl (lv_at hl 1 rfl) ?_
  refine lv_aload_n hx hb dX2_isIn_1 rfl (lv_at hl 0 rfl) ?_
  refine va_get (D := D) (ci := 2) (v := .int (nI (m_P q))) (C := RX2) (T := TX2) (N := 6) hx hb hts hi2 hown hK hM 0 rfl rfl 3 (by decide) (hts (.fieldLink RX2 32 "RingSeriesModel" "points" "I") (by decide +kernel)) (fun _ h9 => h9) rfl dX2_isIn_2 ?_
  refine lv_aload_n hx hb dX2_isIn_5 rfl (lv_at hl 0 rfl) ?_
  refine lv_iconst (v := 0) hx hb dX2_isIn_6 (by decide) ?_
  refine ro_call (va_runV (As := [.int 0]) (rest := [.int (nI (m_P q)), .int (nI y)]) ⟨hx, hb, hml, hown, hts⟩ (c_X2_kept l Y q hm hM 0 (by omega)) (cwV 1 hts gX2_isIn_X2_kept rfl rfl rfl (by decide +kernel) ⟨Nat.le_of_ble_eq_true rfl, Nat.le_of_ble_eq_true rfl⟩) (ro_preV hK (va_recv hK hM (ci := 2) (q0 := 0) rfl rfl)) rfl rfl hl.1 rfl (lv_room (Nat.le_of_ble_eq_true rfl)) dX2_isIn_7 ⟨Nat.zero_le _, Nat.zero_le _⟩) ?_
  refine lv_isub hx hb dX2_isIn_10 ?_
  refine top_i (pk_sub (a := m_P q) (b := kp q 0) (by omega)) ?_
  refine lv_icmp_lt (tgt := 46) hx hb dX2_isIn_11 (by decide) (fun c_11 => ?_) (fun c_11 => ?_)
  · have c_11 := (nI_ltI (a := y) (b := (m_P q) - (kp q 0)) (by omega) (by omega)).mp c_11
    refine lv_iconst (v := 0) hx hb dX2_isIn_46 (by decide) ?_
    exact ro_zret hx hb hr (by first | rfl | decide) (by rw [if_neg (fun z => absurd z.1 (by omega))]) dX2_isIn_47 hlocks
  · have c_11 := mt (nI_ltI (a := y) (b := (m_P q) - (kp q 0)) (by omega) (by omega)).mpr c_11
    refine lv_iload_n hx hb dX2_isIn_14 rfl (lv_at hl 1 rfl) ?_
    refine lv_aload_n hx hb dX2_isIn_15 rfl (lv_at hl 0 rfl) ?_
    refine va_get (D := D) (ci := 2) (v := .int (nI (m_P q))) (C := RX2) (T := TX2) (N := 6) hx hb hts hi2 hown hK hM 0 rfl rfl 3 (by decide) (hts (.fieldLink RX2 32 "RingSeriesModel" "points" "I") (by decide +kernel)) (fun _ h9 => h9) rfl dX2_isIn_16 ?_
    refine lv_icmp_ge (tgt := 46) hx hb dX2_isIn_19 (by decide) (fun c_19 => ?_) (fun c_19 => ?_)
    · have c_19 := (nI_leI (a := m_P q) (b := y) (by omega) (by omega)).mp c_19
      exact absurd c_19 (by omega)
    · have c_19 := mt (nI_leI (a := m_P q) (b := y) (by omega) (by omega)).mpr c_19
      refine lv_aload_n hx hb dX2_isIn_22 rfl (lv_at hl 0 rfl) ?_
      refine va_get (D := D) (ci := 2) (v := .ref (b_t Y)) (C := RX2) (T := TX2) (N := 6) hx hb hts hi2 hown hK hM 0 rfl rfl 4 (by decide) (hts (.fieldLink RX2 17 "RingSeriesModel" "times" "[I") (by decide +kernel)) (fun _ h9 => h9) rfl dX2_isIn_23 ?_
      refine lv_iload_n hx hb dX2_isIn_26 rfl (lv_at hl 1 rfl) ?_
      refine ald_i (j := y) hx hb hK hM 3 0 rfl rfl (by omega) (by omega) dX2_isIn_27 ?_
      refine lv_iload_n hx hb dX2_isIn_28 rfl (lv_at hl 2 rfl) ?_
      refine lv_icmp_lt (tgt := 46) hx hb dX2_isIn_29 (by decide) (fun c_29 => ?_) (fun c_29 => ?_)
      · refine lv_iconst (v := 0) hx hb dX2_isIn_46 (by decide) ?_
        exact ro_zret hx hb hr (by first | rfl | decide) (by rw [if_neg (fun z => z.2.2.1 c_29)]) dX2_isIn_47 hlocks
      · refine lv_aload_n hx hb dX2_isIn_32 rfl (lv_at hl 0 rfl) ?_
        refine va_get (D := D) (ci := 2) (v := .ref (b_t Y)) (C := RX2) (T := TX2) (N := 6) hx hb hts hi2 hown hK hM 0 rfl rfl 4 (by decide) (hts (.fieldLink RX2 17 "RingSeriesModel" "times" "[I") (by decide +kernel)) (fun _ h9 => h9) rfl dX2_isIn_33 ?_
        refine lv_iload_n hx hb dX2_isIn_36 rfl (lv_at hl 1 rfl) ?_
        refine ald_i (j := y) hx hb hK hM 3 0 rfl rfl (by omega) (by omega) dX2_isIn_37 ?_
        refine lv_iload_n hx hb dX2_isIn_38 rfl (lv_at hl 3 rfl) ?_
        refine lv_icmp_gt (tgt := 46) hx hb dX2_isIn_39 (by decide) (fun c_39 => ?_) (fun c_39 => ?_)
        · refine lv_iconst (v := 0) hx hb dX2_isIn_46 (by decide) ?_
          exact ro_zret hx hb hr (by first | rfl | decide) (by rw [if_neg (fun z => z.2.2.2 c_39)]) dX2_isIn_47 hlocks
        · refine lv_iconst (v := 1) hx hb dX2_isIn_42 (by decide) ?_
          refine lv_goto (tgt := 47) hx hb dX2_isIn_43 (by decide) ?_
          exact ro_zret hx hb hr (by first | rfl | decide) (by rw [if_pos ⟨by omega, by omega, c_29, c_39⟩]) dX2_isIn_47 hlocks
set_option maxHeartbeats 4000000 in
set_option maxRecDepth 100000 in
/-- many(from, to) -/
theorem c_X2_many (l : Launch) {D : va_G} {cI cA cJ : ClassId} {H : Heap} (Y : mA) (q : mv) (hm : m_ok q) (hM : va_P D vwCl (mW cI cJ Y q) H) (f t : Int32) : Met l yX2_many wsX2_many ({ frames := 4, cells := 0, slots := 0, locals := 91 }) (ro_P D vwCl (tyL cI cA cJ) H [.ref (b_o Y), .int f, .int t]) (ro_Q (.int (nI (mnc q f t (m_P q)))) H) 0 0 ro_no := by
  refine Met.ofW (cc := cX2_many) (maxL := 5) (ret := (some .int)) (by decide) rfl ?_
  intro p e s m args below meth c s₁ B hml hv
  obtain ⟨rfl, hh, hK⟩ := hv
  subst hh
  have hx := B.exec
  have hb := B.bytes
  have hr := B.returns
  have hlocks := B.notSynchronized
  have hts := atoms_spec (ws := wsX2_many) B.pre
  have hown : s.vm.findClass RX2 = some m.cls := findClass_of_methodNamed B.named
  have hi2 : ∀ w ∈ wsX20, w ∈ wsX2_many := fun w h => List.mem_cons_of_mem _ (List.mem_append_right _ h)
  have hl := lv_entry ([.ref (b_o Y), .int f, .int t]) (n := 5) (Nat.le_of_ble_eq_true rfl)
  rw [lg_entry_eq]
  generalize (lg_sl ([.ref (b_o Y), .int f, .int t]) ++ List.replicate (5 - (lg_sl ([.ref (b_o Y), .int f, .int t])).length) Slot.unset).toArray = ls at hl ⊢
  have hl : lv_has ls 5 [(0, .ref (b_o Y)), (1, .int f), (2, .int t)] := hl
  obtain ⟨hp, hT, hRW, hkn⟩ := id hm
  have w0 : kp q 0 ≤ ng q 0 (m_P q) := hkn 0 (by omega)
  have w6 := ng_le q 0 (m_P q)
  have loop : ∀ (n : Nat) (p0 : Nat) (ls : Array Slot), p0 + n = m_P q → lv_has ls 5 [(4, .int (nI p0)), (3, .int (nI (mnc q f t p0))), (0, .ref (b_o Y)), (1, .int f), (2, .int t)] → W p l e (headSpec wsX2_many ({ frames := 4, cells := 0, slots := 0, locals := 91 })).room s m ([.ref (b_o Y), .int f, .int t] : List Value).toArray below meth c s.heap [] 0 0 (MQ below (ro_Q (.int (nI (mnc q f t (m_P q)))) s.heap) ([.ref (b_o Y), .int f, .int t] : List Value).toArray s 0 0 ro_no) (F0 m 5 ls []) := by
    intro n
    induction n with
    | zero =>
      intro p0 ls hi hl
      have g0 := mnc_le q f t p0
      refine lv_iload hx hb dX2_many_5 (lv_at hl 0 rfl) ?_
      refine lv_aload_n hx hb dX2_many_7 rfl (lv_at hl 2 rfl) ?_
      refine va_get (D := D) (ci := 2) (v := .int (nI (m_P q))) (C := RX2) (T := TX2) (N := 6) hx hb hts hi2 hown hK hM 0 rfl rfl 3 (by decide) (hts (.fieldLink RX2 32 "RingSeriesModel" "points" "I") (by decide +kernel)) (fun _ h9 => h9) rfl dX2_many_8 ?_
      refine lv_icmp_ge (tgt := 39) hx hb dX2_many_11 (by decide) (fun c_11 => ?_) (fun c_11 => ?_)
      · have c_11 := (nI_leI (a := m_P q) (b := p0) (by omega) (by omega)).mp c_11
        refine lv_iload_n hx hb dX2_many_39 rfl (lv_at hl 1 rfl) ?_
        exact ro_iret hx hb hr (by rw [show p0 = m_P q by omega]) dX2_many_40 hlocks
      · have c_11 := mt (nI_leI (a := m_P q) (b := p0) (by omega) (by omega)).mpr c_11
        exact absurd c_11 (by omega)
    | succ n ih =>
      intro p0 ls hi hl
      have g0 := mnc_le q f t p0
      refine lv_iload hx hb dX2_many_5 (lv_at hl 0 rfl) ?_
      refine lv_aload_n hx hb dX2_many_7 rfl (lv_at hl 2 rfl) ?_
      refine va_get (D := D) (ci := 2) (v := .int (nI (m_P q))) (C := RX2) (T := TX2) (N := 6) hx hb hts hi2 hown hK hM 0 rfl rfl 3 (by decide) (hts (.fieldLink RX2 32 "RingSeriesModel" "points" "I") (by decide +kernel)) (fun _ h9 => h9) rfl dX2_many_8 ?_
      refine lv_icmp_ge (tgt := 39) hx hb dX2_many_11 (by decide) (fun c_11 => ?_) (fun c_11 => ?_)
      · have c_11 := (nI_leI (a := m_P q) (b := p0) (by omega) (by omega)).mp c_11
        exact absurd c_11 (by omega)
      · have c_11 := mt (nI_leI (a := m_P q) (b := p0) (by omega) (by omega)).mpr c_11
        refine lv_aload_n hx hb dX2_many_14 rfl (lv_at hl 2 rfl) ?_
        refine lv_iload hx hb dX2_many_15 (lv_at hl 0 rfl) ?_
        refine lv_iload_n hx hb dX2_many_17 rfl (lv_at hl 3 rfl) ?_
        refine lv_iload_n hx hb dX2_many_18 rfl (lv_at hl 4 rfl) ?_
        refine ro_call (va_runV (As := [.int (nI p0), .int f, .int t]) (rest := []) ⟨hx, hb, hml, hown, hts⟩ (c_X2_isIn l Y q hm hM p0 (by omega) f t) (cwV 3 hts gX2_many_X2_isIn rfl rfl rfl (by decide +kernel) ⟨Nat.le_of_ble_eq_true rfl, Nat.le_of_ble_eq_true rfl⟩) (ro_preV hK (va_recv hK hM (ci := 2) (q0 := 0) rfl rfl)) rfl rfl hl.1 rfl (lv_room (Nat.le_of_ble_eq_true rfl)) dX2_many_19 ⟨Nat.zero_le _, Nat.zero_le _⟩) ?_
        refine lv_if_eq (tgt := 31) hx hb dX2_many_22 (by decide) (fun c_22 => ?_) (fun c_22 => ?_)
        · have c_22 := bi_eq c_22
          refine lv_iload_n hx hb dX2_many_31 rfl (lv_at hl 1 rfl) ?_
          refine lv_istore_n (lv' := [(3, .int (nI (mnc q f t p0))), (4, .int (nI p0)), (0, .ref (b_o Y)), (1, .int f), (2, .int t)]) hx hb dX2_many_32 rfl hl (by decide) rfl (fun ls hl => ?_)
          refine lv_iinc (v := nI (p0 + 1)) (lv' := [(4, .int (nI (p0 + 1))), (3, .int (nI (mnc q f t p0))), (0, .ref (b_o Y)), (1, .int f), (2, .int t)]) hx hb dX2_many_33 hl (k := 1) rfl (inc1 _) (by decide) rfl (fun ls hl => ?_)
          refine lv_goto (tgt := 5) hx hb dX2_many_36 (by decide) ?_
          have e9 : mnc q f t (p0 + 1) = mnc q f t p0 := by rw [mnc, if_neg c_22]
          exact ih (p0 + 1) ls (by omega) (by rw [e9]; exact (lv_sub hl [0, 1, 2, 3, 4] rfl))
        · have c_22 := bi_ne c_22
          refine lv_iload_n hx hb dX2_many_25 rfl (lv_at hl 1 rfl) ?_
          refine lv_iconst (v := 1) hx hb dX2_many_26 (by decide) ?_
          refine lv_iadd hx hb dX2_many_27 ?_
          refine top_i (nI_add _ 1) ?_
          refine lv_goto (tgt := 32) hx hb dX2_many_28 (by decide) ?_
          refine lv_istore_n (lv' := [(3, .int (nI ((mnc q f t p0) + 1))), (4, .int (nI p0)), (0, .ref (b_o Y)), (1, .int f), (2, .int t)]) hx hb dX2_many_32 rfl hl (by decide) rfl (fun ls hl => ?_)
          refine lv_iinc (v := nI (p0 + 1)) (lv' := [(4, .int (nI (p0 + 1))), (3, .int (nI ((mnc q f t p0) + 1))), (0, .ref (b_o Y)), (1, .int f), (2, .int t)]) hx hb dX2_many_33 hl (k := 1) rfl (inc1 _) (by decide) rfl (fun ls hl => ?_)
          refine lv_goto (tgt := 5) hx hb dX2_many_36 (by decide) ?_
          have e9 : mnc q f t (p0 + 1) = (mnc q f t p0) + 1 := by rw [mnc, if_pos c_22]
          exact ih (p0 + 1) ls (by omega) (by rw [e9]; exact (lv_sub hl [0, 1, 2, 3, 4] rfl))
  refine lv_iconst (v := 0) hx hb dX2_many_0 (by decide) ?_
  refine lv_istore_n (lv' := [(3, .int 0), (0, .ref (b_o Y)), (1, .int f), (2, .int t)]) hx hb dX2_many_1 rfl hl (by decide) rfl (fun ls hl => ?_)
  refine lv_iconst (v := 0) hx hb dX2_many_2 (by decide) ?_
  refine lv_istore (lv' := [(4, .int 0), (3, .int 0), (0, .ref (b_o Y)), (1, .int f), (2, .int t)]) hx hb dX2_many_3 hl (by decide) rfl (fun ls hl => ?_)
  exact loop (m_P q) 0 ls (by omega) (lv_sub hl [0, 1, 2, 3, 4] rfl)
set_option maxHeartbeats 4000000 in
set_option maxRecDepth 100000 in
/-- sum(from, to) -/
theorem c_X2_sum (l : Launch) {D : va_G} {cI cA cJ : ClassId} {H : Heap} (Y : mA) (q : mv) (hm : m_ok q) (hM : va_P D vwCl (mW cI cJ Y q) H) (f t : Int32) : Met l yX2_sum wsX2_sum ({ frames := 4, cells := 0, slots := 0, locals := 91 }) (ro_P D vwCl (tyL cI cA cJ) H [.ref (b_o Y), .int f, .int t]) (ro_Q (.long (smq q f t (m_P q))) H) 0 0 ro_no := by
  refine Met.ofW (cc := cX2_sum) (maxL := 6) (ret := (some .long)) (by decide) rfl ?_
  intro p e s m args below meth c s₁ B hml hv
  obtain ⟨rfl, hh, hK⟩ := hv
  subst hh
  have hx := B.exec
  have hb := B.bytes
  have hr := B.returns
  have hlocks := B.notSynchronized
  have hts := atoms_spec (ws := wsX2_sum) B.pre
  have hown : s.vm.findClass RX2 = some m.cls := findClass_of_methodNamed B.named
  have hi2 : ∀ w ∈ wsX20, w ∈ wsX2_sum := fun w h => List.mem_cons_of_mem _ (List.mem_append_right _ h)
  have hl := lv_entry ([.ref (b_o Y), .int f, .int t]) (n := 6) (Nat.le_of_ble_eq_true rfl)
  rw [lg_entry_eq]
  generalize (lg_sl ([.ref (b_o Y), .int f, .int t]) ++ List.replicate (6 - (lg_sl ([.ref (b_o Y), .int f, .int t])).length) Slot.unset).toArray = ls at hl ⊢
  have hl : lv_has ls 6 [(0, .ref (b_o Y)), (1, .int f), (2, .int t)] := hl
  obtain ⟨hp, hT, hRW, hkn⟩ := id hm
  have w0 : kp q 0 ≤ ng q 0 (m_P q) := hkn 0 (by omega)
  have w6 := ng_le q 0 (m_P q)
  have loop : ∀ (n : Nat) (p0 : Nat) (ls : Array Slot), p0 + n = m_P q → lv_has ls 6 [(5, .int (nI p0)), (3, .long (smq q f t p0)), (0, .ref (b_o Y)), (1, .int f), (2, .int t)] → W p l e (headSpec wsX2_sum ({ frames := 4, cells := 0, slots := 0, locals := 91 })).room s m ([.ref (b_o Y), .int f, .int t] : List Value).toArray below meth c s.heap [] 0 0 (MQ below (ro_Q (.long (smq q f t (m_P q))) s.heap) ([.ref (b_o Y), .int f, .int t] : List Value).toArray s 0 0 ro_no) (F0 m 5 ls []) := by
    intro n
    induction n with
    | zero =>
      intro p0 ls hi hl
      have g0 := mnc_le q f t p0
      refine lv_iload hx hb dX2_sum_5 (lv_at hl 0 rfl) ?_
      refine lv_aload_n hx hb dX2_sum_7 rfl (lv_at hl 2 rfl) ?_
      refine va_get (D := D) (ci := 2) (v := .int (nI (m_P q))) (C := RX2) (T := TX2) (N := 6) hx hb hts hi2 hown hK hM 0 rfl rfl 3 (by decide) (hts (.fieldLink RX2 32 "RingSeriesModel" "points" "I") (by decide +kernel)) (fun _ h9 => h9) rfl dX2_sum_8 ?_
      refine lv_icmp_ge (tgt := 46) hx hb dX2_sum_11 (by decide) (fun c_11 => ?_) (fun c_11 => ?_)
      · have c_11 := (nI_leI (a := m_P q) (b := p0) (by omega) (by omega)).mp c_11
        refine lv_lload_n hx hb dX2_sum_46 rfl (lv_at hl 1 rfl) ?_
        exact ro_lret hx hb hr (by rw [show p0 = m_P q by omega]) dX2_sum_47 hlocks
      · have c_11 := mt (nI_leI (a := m_P q) (b := p0) (by omega) (by omega)).mpr c_11
        exact absurd c_11 (by omega)
    | succ n ih =>
      intro p0 ls hi hl
      have g0 := mnc_le q f t p0
      refine lv_iload hx hb dX2_sum_5 (lv_at hl 0 rfl) ?_
      refine lv_aload_n hx hb dX2_sum_7 rfl (lv_at hl 2 rfl) ?_
      refine va_get (D := D) (ci := 2) (v := .int (nI (m_P q))) (C := RX2) (T := TX2) (N := 6) hx hb hts hi2 hown hK hM 0 rfl rfl 3 (by decide) (hts (.fieldLink RX2 32 "RingSeriesModel" "points" "I") (by decide +kernel)) (fun _ h9 => h9) rfl dX2_sum_8 ?_
      refine lv_icmp_ge (tgt := 46) hx hb dX2_sum_11 (by decide) (fun c_11 => ?_) (fun c_11 => ?_)
      · have c_11 := (nI_leI (a := m_P q) (b := p0) (by omega) (by omega)).mp c_11
        exact absurd c_11 (by omega)
      · have c_11 := mt (nI_leI (a := m_P q) (b := p0) (by omega) (by omega)).mpr c_11
        refine lv_aload_n hx hb dX2_sum_14 rfl (lv_at hl 2 rfl) ?_
        refine lv_iload hx hb dX2_sum_15 (lv_at hl 0 rfl) ?_
        refine lv_iload_n hx hb dX2_sum_17 rfl (lv_at hl 3 rfl) ?_
        refine lv_iload_n hx hb dX2_sum_18 rfl (lv_at hl 4 rfl) ?_
        refine ro_call (va_runV (As := [.int (nI p0), .int f, .int t]) (rest := []) ⟨hx, hb, hml, hown, hts⟩ (c_X2_isIn l Y q hm hM p0 (by omega) f t) (cwV 3 hts gX2_sum_X2_isIn rfl rfl rfl (by decide +kernel) ⟨Nat.le_of_ble_eq_true rfl, Nat.le_of_ble_eq_true rfl⟩) (ro_preV hK (va_recv hK hM (ci := 2) (q0 := 0) rfl rfl)) rfl rfl hl.1 rfl (lv_room (Nat.le_of_ble_eq_true rfl)) dX2_sum_19 ⟨Nat.zero_le _, Nat.zero_le _⟩) ?_
        refine lv_if_eq (tgt := 38) hx hb dX2_sum_22 (by decide) (fun c_22 => ?_) (fun c_22 => ?_)
        · have c_22 := bi_eq c_22
          refine lv_lload_n hx hb dX2_sum_38 rfl (lv_at hl 1 rfl) ?_
          refine lv_lstore_n (lv' := [(3, .long (smq q f t p0)), (5, .int (nI p0)), (0, .ref (b_o Y)), (1, .int f), (2, .int t)]) hx hb dX2_sum_39 rfl hl (by decide) rfl (fun ls hl => ?_)
          refine lv_iinc (v := nI (p0 + 1)) (lv' := [(5, .int (nI (p0 + 1))), (3, .long (smq q f t p0)), (0, .ref (b_o Y)), (1, .int f), (2, .int t)]) hx hb dX2_sum_40 hl (k := 1) rfl (inc1 _) (by decide) rfl (fun ls hl => ?_)
          refine lv_goto (tgt := 5) hx hb dX2_sum_43 (by decide) ?_
          have e9 : smq q f t (p0 + 1) = smq q f t p0 := by rw [smq, if_neg c_22]
          exact ih (p0 + 1) ls (by omega) (by rw [e9]; exact (lv_sub hl [0, 1, 2, 3, 4] rfl))
        · have c_22 := bi_ne c_22
          refine lv_lload_n hx hb dX2_sum_25 rfl (lv_at hl 1 rfl) ?_
          refine lv_aload_n hx hb dX2_sum_26 rfl (lv_at hl 2 rfl) ?_
          refine va_get (D := D) (ci := 2) (v := .ref (b_v Y)) (C := RX2) (T := TX2) (N := 6) hx hb hts hi2 hown hK hM 0 rfl rfl 5 (by decide) (hts (.fieldLink RX2 20 "RingSeriesModel" "values" "[I") (by decide +kernel)) (fun _ h9 => h9) rfl dX2_sum_27 ?_
          refine lv_iload hx hb dX2_sum_30 (lv_at hl 0 rfl) ?_
          refine ald_i (j := p0) hx hb hK hM 4 0 rfl rfl (by omega) (by omega) dX2_sum_32 ?_
          refine lv_i2l hx hb dX2_sum_33 rfl ?_
          refine lv_ladd hx hb dX2_sum_34 ?_
          refine lv_goto (tgt := 39) hx hb dX2_sum_35 (by decide) ?_
          refine lv_lstore_n (lv' := [(3, .long ((smq q f t p0) + ((m_V q p0).toInt64))), (5, .int (nI p0)), (0, .ref (b_o Y)), (1, .int f), (2, .int t)]) hx hb dX2_sum_39 rfl hl (by decide) rfl (fun ls hl => ?_)
          refine lv_iinc (v := nI (p0 + 1)) (lv' := [(5, .int (nI (p0 + 1))), (3, .long ((smq q f t p0) + ((m_V q p0).toInt64))), (0, .ref (b_o Y)), (1, .int f), (2, .int t)]) hx hb dX2_sum_40 hl (k := 1) rfl (inc1 _) (by decide) rfl (fun ls hl => ?_)
          refine lv_goto (tgt := 5) hx hb dX2_sum_43 (by decide) ?_
          have e9 : smq q f t (p0 + 1) = (smq q f t p0) + ((m_V q p0).toInt64) := by rw [smq, if_pos c_22]
          exact ih (p0 + 1) ls (by omega) (by rw [e9]; exact (lv_sub hl [0, 1, 2, 3, 4] rfl))
  refine lv_lconst (v := 0) hx hb dX2_sum_0 (by decide) ?_
  refine lv_lstore_n (lv' := [(3, .long 0), (0, .ref (b_o Y)), (1, .int f), (2, .int t)]) hx hb dX2_sum_1 rfl hl (by decide) rfl (fun ls hl => ?_)
  refine lv_iconst (v := 0) hx hb dX2_sum_2 (by decide) ?_
  refine lv_istore (lv' := [(5, .int 0), (3, .long 0), (0, .ref (b_o Y)), (1, .int f), (2, .int t)]) hx hb dX2_sum_3 hl (by decide) rfl (fun ls hl => ?_)
  exact loop (m_P q) 0 ls (by omega) (lv_sub hl [0, 1, 2, 3, 4] rfl)
set_option maxHeartbeats 4000000 in
set_option maxRecDepth 100000 in
/-- extreme(from, to, sign) -/
theorem c_X2_extreme (l : Launch) {D : va_G} {cI cA cJ : ClassId} {H : Heap} (Y : mA) (q : mv) (hm : m_ok q) (hM : va_P D vwCl (mW cI cJ Y q) H) (f t g : Int32) : Met l yX2_extreme wsX2_extreme ({ frames := 4, cells := 0, slots := 0, locals := 91 }) (ro_P D vwCl (tyL cI cA cJ) H [.ref (b_o Y), .int f, .int t, .int g]) (ro_Q (.int (exM q f t g)) H) 0 0 ro_no := by
  refine Met.ofW (cc := cX2_extreme) (maxL := 8) (ret := (some .int)) (by decide) rfl ?_
  intro p e s m args below meth c s₁ B hml hv
  obtain ⟨rfl, hh, hK⟩ := hv
  subst hh
  have hx := B.exec
  have hb := B.bytes
  have hr := B.returns
  have hlocks := B.notSynchronized
  have hts := atoms_spec (ws := wsX2_extreme) B.pre
  have hown : s.vm.findClass RX2 = some m.cls := findClass_of_methodNamed B.named
  have hi2 : ∀ w ∈ wsX20, w ∈ wsX2_extreme := fun w h => List.mem_cons_of_mem _ (List.mem_append_right _ h)
  have hl := lv_entry ([.ref (b_o Y), .int f, .int t, .int g]) (n := 8) (Nat.le_of_ble_eq_true rfl)
  rw [lg_entry_eq]
  generalize (lg_sl ([.ref (b_o Y), .int f, .int t, .int g]) ++ List.replicate (8 - (lg_sl ([.ref (b_o Y), .int f, .int t, .int g])).length) Slot.unset).toArray = ls at hl ⊢
  have hl : lv_has ls 8 [(0, .ref (b_o Y)), (1, .int f), (2, .int t), (3, .int g)] := hl
  obtain ⟨hp, hT, hRW, hkn⟩ := id hm
  have w0 : kp q 0 ≤ ng q 0 (m_P q) := hkn 0 (by omega)
  have w6 := ng_le q 0 (m_P q)
  have loop : ∀ (n : Nat) (p0 : Nat) (ls : Array Slot), p0 + n = m_P q → lv_has ls 8 [(6, .int (nI p0)), (5, .int (exq q f t g p0)), (4, .int (if mnc q f t p0 = 0 then 0 else 1)), (0, .ref (b_o Y)), (1, .int f), (2, .int t), (3, .int g)] → W p l e (headSpec wsX2_extreme ({ frames := 4, cells := 0, slots := 0, locals := 91 })).room s m ([.ref (b_o Y), .int f, .int t, .int g] : List Value).toArray below meth c s.heap [] 0 0 (MQ below (ro_Q (.int (exM q f t g)) s.heap) ([.ref (b_o Y), .int f, .int t, .int g] : List Value).toArray s 0 0 ro_no) (F0 m 9 ls []) := by
    intro n
    induction n with
    | zero =>
      intro p0 ls hi hl
      have g0 := mnc_le q f t p0
      refine lv_iload hx hb dX2_extreme_9 (lv_at hl 0 rfl) ?_
      refine lv_aload_n hx hb dX2_extreme_11 rfl (lv_at hl 3 rfl) ?_
      refine va_get (D := D) (ci := 2) (v := .int (nI (m_P q))) (C := RX2) (T := TX2) (N := 6) hx hb hts hi2 hown hK hM 0 rfl rfl 3 (by decide) (hts (.fieldLink RX2 32 "RingSeriesModel" "points" "I") (by decide +kernel)) (fun _ h9 => h9) rfl dX2_extreme_12 ?_
      refine lv_icmp_ge (tgt := 100) hx hb dX2_extreme_15 (by decide) (fun c_15 => ?_) (fun c_15 => ?_)
      · have c_15 := (nI_leI (a := m_P q) (b := p0) (by omega) (by omega)).mp c_15
        refine lv_iload_n hx hb dX2_extreme_100 rfl (lv_at hl 6 rfl) ?_
        refine lv_iconst (v := 1) hx hb dX2_extreme_101 (by decide) ?_
        refine lv_icmp_eq (tgt := 110) hx hb dX2_extreme_102 (by decide) (fun c_102 => ?_) (fun c_102 => ?_)
        · refine lv_iload hx hb dX2_extreme_110 (lv_at hl 1 rfl) ?_
          refine lv_goto (tgt := 116) hx hb dX2_extreme_112 (by decide) ?_
          exact ro_iret hx hb hr (by unfold exM; rw [if_pos (Or.inl c_102), show p0 = m_P q by omega]) dX2_extreme_116 hlocks
        · refine lv_iload_n hx hb dX2_extreme_105 rfl (lv_at hl 6 rfl) ?_
          refine lv_iconst (v := (-1)) hx hb dX2_extreme_106 (by decide) ?_
          refine lv_icmp_ne (tgt := 115) hx hb dX2_extreme_107 (by decide) (fun c_107 => ?_) (fun c_107 => ?_)
          · refine lv_iconst (v := 0) hx hb dX2_extreme_115 (by decide) ?_
            exact ro_iret hx hb hr (by unfold exM; rw [if_neg (fun z => z.elim c_102 c_107)]) dX2_extreme_116 hlocks
          · refine lv_iload hx hb dX2_extreme_110 (lv_at hl 1 rfl) ?_
            refine lv_goto (tgt := 116) hx hb dX2_extreme_112 (by decide) ?_
            exact ro_iret hx hb hr (by unfold exM; rw [if_pos (Or.inr c_107), show p0 = m_P q by omega]) dX2_extreme_116 hlocks
      · have c_15 := mt (nI_leI (a := m_P q) (b := p0) (by omega) (by omega)).mpr c_15
        exact absurd c_15 (by omega)
    | succ n ih =>
      intro p0 ls hi hl
      have g0 := mnc_le q f t p0
      refine lv_iload hx hb dX2_extreme_9 (lv_at hl 0 rfl) ?_
      refine lv_aload_n hx hb dX2_extreme_11 rfl (lv_at hl 3 rfl) ?_
      refine va_get (D := D) (ci := 2) (v := .int (nI (m_P q))) (C := RX2) (T := TX2) (N := 6) hx hb hts hi2 hown hK hM 0 rfl rfl 3 (by decide) (hts (.fieldLink RX2 32 "RingSeriesModel" "points" "I") (by decide +kernel)) (fun _ h9 => h9) rfl dX2_extreme_12 ?_
      refine lv_icmp_ge (tgt := 100) hx hb dX2_extreme_15 (by decide) (fun c_15 => ?_) (fun c_15 => ?_)
      · have c_15 := (nI_leI (a := m_P q) (b := p0) (by omega) (by omega)).mp c_15
        exact absurd c_15 (by omega)
      · have c_15 := mt (nI_leI (a := m_P q) (b := p0) (by omega) (by omega)).mpr c_15
        refine lv_aload_n hx hb dX2_extreme_18 rfl (lv_at hl 3 rfl) ?_
        refine lv_iload hx hb dX2_extreme_19 (lv_at hl 0 rfl) ?_
        refine lv_iload_n hx hb dX2_extreme_21 rfl (lv_at hl 4 rfl) ?_
        refine lv_iload_n hx hb dX2_extreme_22 rfl (lv_at hl 5 rfl) ?_
        refine ro_call (va_runV (As := [.int (nI p0), .int f, .int t]) (rest := []) ⟨hx, hb, hml, hown, hts⟩ (c_X2_isIn l Y q hm hM p0 (by omega) f t) (cwV 3 hts gX2_extreme_X2_isIn rfl rfl rfl (by decide +kernel) ⟨Nat.le_of_ble_eq_true rfl, Nat.le_of_ble_eq_true rfl⟩) (ro_preV hK (va_recv hK hM (ci := 2) (q0 := 0) rfl rfl)) rfl rfl hl.1 rfl (lv_room (Nat.le_of_ble_eq_true rfl)) dX2_extreme_23 ⟨Nat.zero_le _, Nat.zero_le _⟩) ?_
        refine lv_if_eq (tgt := 94) hx hb dX2_extreme_26 (by decide) (fun c_26 => ?_) (fun c_26 => ?_)
        · have c_26 := bi_eq c_26
          refine lv_iinc (v := nI (p0 + 1)) (lv' := [(6, .int (nI (p0 + 1))), (5, .int (exq q f t g p0)), (4, .int (if mnc q f t p0 = 0 then 0 else 1)), (0, .ref (b_o Y)), (1, .int f), (2, .int t), (3, .int g)]) hx hb dX2_extreme_94 hl (k := 0) rfl (inc1 _) (by decide) rfl (fun ls hl => ?_)
          refine lv_goto (tgt := 9) hx hb dX2_extreme_97 (by decide) ?_
          have e9 : exq q f t g (p0 + 1) = exq q f t g p0 := by rw [exq, if_neg c_26]
          have e8 : mnc q f t (p0 + 1) = mnc q f t p0 := by rw [mnc, if_neg c_26]
          exact ih (p0 + 1) ls (by omega) (by rw [e9, e8]; exact (lv_sub hl [0, 1, 2, 3, 4, 5, 6] rfl))
        · have c_26 := bi_ne c_26
          refine lv_iload hx hb dX2_extreme_29 (lv_at hl 2 rfl) ?_
          refine lv_if_eq (tgt := 65) hx hb dX2_extreme_31 (by decide) (fun c_31 => ?_) (fun c_31 => ?_)
          · have c_31 := so_eq c_31
            refine lv_iconst (v := 1) hx hb dX2_extreme_65 (by decide) ?_
            refine lv_goto (tgt := 70) hx hb dX2_extreme_66 (by decide) ?_
            refine lv_istore (lv' := [(7, .int 1), (6, .int (nI p0)), (5, .int (exq q f t g p0)), (4, .int (if mnc q f t p0 = 0 then 0 else 1)), (0, .ref (b_o Y)), (1, .int f), (2, .int t), (3, .int g)]) hx hb dX2_extreme_70 hl (by decide) rfl (fun ls hl => ?_)
            refine lv_iload hx hb dX2_extreme_72 (lv_at hl 0 rfl) ?_
            refine lv_if_eq (tgt := 87) hx hb dX2_extreme_74 (by decide) (fun c_74 => ?_) (fun c_74 => ?_)
            · exact absurd c_74 (by decide)
            · refine lv_aload_n hx hb dX2_extreme_77 rfl (lv_at hl 4 rfl) ?_
              refine va_get (D := D) (ci := 2) (v := .ref (b_v Y)) (C := RX2) (T := TX2) (N := 6) hx hb hts hi2 hown hK hM 0 rfl rfl 5 (by decide) (hts (.fieldLink RX2 20 "RingSeriesModel" "values" "[I") (by decide +kernel)) (fun _ h9 => h9) rfl dX2_extreme_78 ?_
              refine lv_iload hx hb dX2_extreme_81 (lv_at hl 1 rfl) ?_
              refine ald_i (j := p0) hx hb hK hM 4 0 rfl rfl (by omega) (by omega) dX2_extreme_83 ?_
              refine lv_goto (tgt := 89) hx hb dX2_extreme_84 (by decide) ?_
              refine lv_istore (lv' := [(5, .int (m_V q p0)), (7, .int 1), (6, .int (nI p0)), (4, .int (if mnc q f t p0 = 0 then 0 else 1)), (0, .ref (b_o Y)), (1, .int f), (2, .int t), (3, .int g)]) hx hb dX2_extreme_89 hl (by decide) rfl (fun ls hl => ?_)
              refine lv_iconst (v := 1) hx hb dX2_extreme_91 (by decide) ?_
              refine lv_istore (lv' := [(4, .int 1), (5, .int (m_V q p0)), (7, .int 1), (6, .int (nI p0)), (0, .ref (b_o Y)), (1, .int f), (2, .int t), (3, .int g)]) hx hb dX2_extreme_92 hl (by decide) rfl (fun ls hl => ?_)
              refine lv_iinc (v := nI (p0 + 1)) (lv' := [(6, .int (nI (p0 + 1))), (4, .int 1), (5, .int (m_V q p0)), (7, .int 1), (0, .ref (b_o Y)), (1, .int f), (2, .int t), (3, .int g)]) hx hb dX2_extreme_94 hl (k := 3) rfl (inc1 _) (by decide) rfl (fun ls hl => ?_)
              refine lv_goto (tgt := 9) hx hb dX2_extreme_97 (by decide) ?_
              have e9 : exq q f t g (p0 + 1) = m_V q p0 := by rw [exq, if_pos c_26, if_pos (Or.inl c_31)]
              have e8 : (if mnc q f t (p0 + 1) = 0 then (0 : Int32) else 1) = 1 := by rw [mnc, if_pos c_26, if_neg (by omega)]
              exact ih (p0 + 1) ls (by omega) (by rw [e9, e8]; exact (lv_sub hl [0, 2, 1, 4, 5, 6, 7] rfl))
          · have c_31 := so_ne c_31
            refine lv_iload_n hx hb dX2_extreme_34 rfl (lv_at hl 6 rfl) ?_
            refine lv_if_ge (tgt := 53) hx hb dX2_extreme_35 (by decide) (fun c_35 => ?_) (fun c_35 => ?_)
            · refine lv_aload_n hx hb dX2_extreme_53 rfl (lv_at hl 3 rfl) ?_
              refine va_get (D := D) (ci := 2) (v := .ref (b_v Y)) (C := RX2) (T := TX2) (N := 6) hx hb hts hi2 hown hK hM 0 rfl rfl 5 (by decide) (hts (.fieldLink RX2 20 "RingSeriesModel" "values" "[I") (by decide +kernel)) (fun _ h9 => h9) rfl dX2_extreme_54 ?_
              refine lv_iload hx hb dX2_extreme_57 (lv_at hl 0 rfl) ?_
              refine ald_i (j := p0) hx hb hK hM 4 0 rfl rfl (by omega) (by omega) dX2_extreme_59 ?_
              refine lv_iload hx hb dX2_extreme_60 (lv_at hl 1 rfl) ?_
              refine lv_icmp_le (tgt := 69) hx hb dX2_extreme_62 (by decide) (fun c_62 => ?_) (fun c_62 => ?_)
              · refine lv_iconst (v := 0) hx hb dX2_extreme_69 (by decide) ?_
                refine lv_istore (lv' := [(7, .int 0), (6, .int (nI p0)), (5, .int (exq q f t g p0)), (4, .int (if mnc q f t p0 = 0 then 0 else 1)), (0, .ref (b_o Y)), (1, .int f), (2, .int t), (3, .int g)]) hx hb dX2_extreme_70 hl (by decide) rfl (fun ls hl => ?_)
                refine lv_iload hx hb dX2_extreme_72 (lv_at hl 0 rfl) ?_
                refine lv_if_eq (tgt := 87) hx hb dX2_extreme_74 (by decide) (fun c_74 => ?_) (fun c_74 => ?_)
                · refine lv_iload hx hb dX2_extreme_87 (lv_at hl 2 rfl) ?_
                  refine lv_istore (lv' := [(5, .int (exq q f t g p0)), (7, .int 0), (6, .int (nI p0)), (4, .int (if mnc q f t p0 = 0 then 0 else 1)), (0, .ref (b_o Y)), (1, .int f), (2, .int t), (3, .int g)]) hx hb dX2_extreme_89 hl (by decide) rfl (fun ls hl => ?_)
                  refine lv_iconst (v := 1) hx hb dX2_extreme_91 (by decide) ?_
                  refine lv_istore (lv' := [(4, .int 1), (5, .int (exq q f t g p0)), (7, .int 0), (6, .int (nI p0)), (0, .ref (b_o Y)), (1, .int f), (2, .int t), (3, .int g)]) hx hb dX2_extreme_92 hl (by decide) rfl (fun ls hl => ?_)
                  refine lv_iinc (v := nI (p0 + 1)) (lv' := [(6, .int (nI (p0 + 1))), (4, .int 1), (5, .int (exq q f t g p0)), (7, .int 0), (0, .ref (b_o Y)), (1, .int f), (2, .int t), (3, .int g)]) hx hb dX2_extreme_94 hl (k := 3) rfl (inc1 _) (by decide) rfl (fun ls hl => ?_)
                  refine lv_goto (tgt := 9) hx hb dX2_extreme_97 (by decide) ?_
                  have e9 : exq q f t g (p0 + 1) = exq q f t g p0 := by rw [exq, if_pos c_26, if_neg (fun z => z.elim c_31 (fun z => by rw [if_neg (Int32.not_lt.mpr c_35)] at z; exact Int32.not_lt.mpr c_62 z))]
                  have e8 : (if mnc q f t (p0 + 1) = 0 then (0 : Int32) else 1) = 1 := by rw [mnc, if_pos c_26, if_neg (by omega)]
                  exact ih (p0 + 1) ls (by omega) (by rw [e9, e8]; exact (lv_sub hl [0, 2, 1, 4, 5, 6, 7] rfl))
                · exact absurd rfl c_74
              · refine lv_iconst (v := 1) hx hb dX2_extreme_65 (by decide) ?_
                refine lv_goto (tgt := 70) hx hb dX2_extreme_66 (by decide) ?_
                refine lv_istore (lv' := [(7, .int 1), (6, .int (nI p0)), (5, .int (exq q f t g p0)), (4, .int (if mnc q f t p0 = 0 then 0 else 1)), (0, .ref (b_o Y)), (1, .int f), (2, .int t), (3, .int g)]) hx hb dX2_extreme_70 hl (by decide) rfl (fun ls hl => ?_)
                refine lv_iload hx hb dX2_extreme_72 (lv_at hl 0 rfl) ?_
                refine lv_if_eq (tgt := 87) hx hb dX2_extreme_74 (by decide) (fun c_74 => ?_) (fun c_74 => ?_)
                · exact absurd c_74 (by decide)
                · refine lv_aload_n hx hb dX2_extreme_77 rfl (lv_at hl 4 rfl) ?_
                  refine va_get (D := D) (ci := 2) (v := .ref (b_v Y)) (C := RX2) (T := TX2) (N := 6) hx hb hts hi2 hown hK hM 0 rfl rfl 5 (by decide) (hts (.fieldLink RX2 20 "RingSeriesModel" "values" "[I") (by decide +kernel)) (fun _ h9 => h9) rfl dX2_extreme_78 ?_
                  refine lv_iload hx hb dX2_extreme_81 (lv_at hl 1 rfl) ?_
                  refine ald_i (j := p0) hx hb hK hM 4 0 rfl rfl (by omega) (by omega) dX2_extreme_83 ?_
                  refine lv_goto (tgt := 89) hx hb dX2_extreme_84 (by decide) ?_
                  refine lv_istore (lv' := [(5, .int (m_V q p0)), (7, .int 1), (6, .int (nI p0)), (4, .int (if mnc q f t p0 = 0 then 0 else 1)), (0, .ref (b_o Y)), (1, .int f), (2, .int t), (3, .int g)]) hx hb dX2_extreme_89 hl (by decide) rfl (fun ls hl => ?_)
                  refine lv_iconst (v := 1) hx hb dX2_extreme_91 (by decide) ?_
                  refine lv_istore (lv' := [(4, .int 1), (5, .int (m_V q p0)), (7, .int 1), (6, .int (nI p0)), (0, .ref (b_o Y)), (1, .int f), (2, .int t), (3, .int g)]) hx hb dX2_extreme_92 hl (by decide) rfl (fun ls hl => ?_)
                  refine lv_iinc (v := nI (p0 + 1)) (lv' := [(6, .int (nI (p0 + 1))), (4, .int 1), (5, .int (m_V q p0)), (7, .int 1), (0, .ref (b_o Y)), (1, .int f), (2, .int t), (3, .int g)]) hx hb dX2_extreme_94 hl (k := 3) rfl (inc1 _) (by decide) rfl (fun ls hl => ?_)
                  refine lv_goto (tgt := 9) hx hb dX2_extreme_97 (by decide) ?_
                  have e9 : exq q f t g (p0 + 1) = m_V q p0 := by rw [exq, if_pos c_26, if_pos (Or.inr (by rw [if_neg (Int32.not_lt.mpr c_35)]; exact Int32.not_le.mp c_62))]
                  have e8 : (if mnc q f t (p0 + 1) = 0 then (0 : Int32) else 1) = 1 := by rw [mnc, if_pos c_26, if_neg (by omega)]
                  exact ih (p0 + 1) ls (by omega) (by rw [e9, e8]; exact (lv_sub hl [0, 2, 1, 4, 5, 6, 7] rfl))
            · refine lv_aload_n hx hb dX2_extreme_38 rfl (lv_at hl 3 rfl) ?_
              refine va_get (D := D) (ci := 2) (v := .ref (b_v Y)) (C := RX2) (T := TX2) (N := 6) hx hb hts hi2 hown hK hM 0 rfl rfl 5 (by decide) (hts (.fieldLink RX2 20 "RingSeriesModel" "values" "[I") (by decide +kernel)) (fun _ h9 => h9) rfl dX2_extreme_39 ?_
              refine lv_iload hx hb dX2_extreme_42 (lv_at hl 0 rfl) ?_
              refine ald_i (j := p0) hx hb hK hM 4 0 rfl rfl (by omega) (by omega) dX2_extreme_44 ?_
              refine lv_iload hx hb dX2_extreme_45 (lv_at hl 1 rfl) ?_
              refine lv_icmp_ge (tgt := 69) hx hb dX2_extreme_47 (by decide) (fun c_47 => ?_) (fun c_47 => ?_)
              · refine lv_iconst (v := 0) hx hb dX2_extreme_69 (by decide) ?_
                refine lv_istore (lv' := [(7, .int 0), (6, .int (nI p0)), (5, .int (exq q f t g p0)), (4, .int (if mnc q f t p0 = 0 then 0 else 1)), (0, .ref (b_o Y)), (1, .int f), (2, .int t), (3, .int g)]) hx hb dX2_extreme_70 hl (by decide) rfl (fun ls hl => ?_)
                refine lv_iload hx hb dX2_extreme_72 (lv_at hl 0 rfl) ?_
                refine lv_if_eq (tgt := 87) hx hb dX2_extreme_74 (by decide) (fun c_74 => ?_) (fun c_74 => ?_)
                · refine lv_iload hx hb dX2_extreme_87 (lv_at hl 2 rfl) ?_
                  refine lv_istore (lv' := [(5, .int (exq q f t g p0)), (7, .int 0), (6, .int (nI p0)), (4, .int (if mnc q f t p0 = 0 then 0 else 1)), (0, .ref (b_o Y)), (1, .int f), (2, .int t), (3, .int g)]) hx hb dX2_extreme_89 hl (by decide) rfl (fun ls hl => ?_)
                  refine lv_iconst (v := 1) hx hb dX2_extreme_91 (by decide) ?_
                  refine lv_istore (lv' := [(4, .int 1), (5, .int (exq q f t g p0)), (7, .int 0), (6, .int (nI p0)), (0, .ref (b_o Y)), (1, .int f), (2, .int t), (3, .int g)]) hx hb dX2_extreme_92 hl (by decide) rfl (fun ls hl => ?_)
                  refine lv_iinc (v := nI (p0 + 1)) (lv' := [(6, .int (nI (p0 + 1))), (4, .int 1), (5, .int (exq q f t g p0)), (7, .int 0), (0, .ref (b_o Y)), (1, .int f), (2, .int t), (3, .int g)]) hx hb dX2_extreme_94 hl (k := 3) rfl (inc1 _) (by decide) rfl (fun ls hl => ?_)
                  refine lv_goto (tgt := 9) hx hb dX2_extreme_97 (by decide) ?_
                  have e9 : exq q f t g (p0 + 1) = exq q f t g p0 := by rw [exq, if_pos c_26, if_neg (fun z => z.elim c_31 (fun z => by rw [if_pos (Int32.not_le.mp c_35)] at z; exact Int32.not_lt.mpr c_47 z))]
                  have e8 : (if mnc q f t (p0 + 1) = 0 then (0 : Int32) else 1) = 1 := by rw [mnc, if_pos c_26, if_neg (by omega)]
                  exact ih (p0 + 1) ls (by omega) (by rw [e9, e8]; exact (lv_sub hl [0, 2, 1, 4, 5, 6, 7] rfl))
                · exact absurd rfl c_74
              · refine lv_goto (tgt := 65) hx hb dX2_extreme_50 (by decide) ?_
                refine lv_iconst (v := 1) hx hb dX2_extreme_65 (by decide) ?_
                refine lv_goto (tgt := 70) hx hb dX2_extreme_66 (by decide) ?_
                refine lv_istore (lv' := [(7, .int 1), (6, .int (nI p0)), (5, .int (exq q f t g p0)), (4, .int (if mnc q f t p0 = 0 then 0 else 1)), (0, .ref (b_o Y)), (1, .int f), (2, .int t), (3, .int g)]) hx hb dX2_extreme_70 hl (by decide) rfl (fun ls hl => ?_)
                refine lv_iload hx hb dX2_extreme_72 (lv_at hl 0 rfl) ?_
                refine lv_if_eq (tgt := 87) hx hb dX2_extreme_74 (by decide) (fun c_74 => ?_) (fun c_74 => ?_)
                · exact absurd c_74 (by decide)
                · refine lv_aload_n hx hb dX2_extreme_77 rfl (lv_at hl 4 rfl) ?_
                  refine va_get (D := D) (ci := 2) (v := .ref (b_v Y)) (C := RX2) (T := TX2) (N := 6) hx hb hts hi2 hown hK hM 0 rfl rfl 5 (by decide) (hts (.fieldLink RX2 20 "RingSeriesModel" "values" "[I") (by decide +kernel)) (fun _ h9 => h9) rfl dX2_extreme_78 ?_
                  refine lv_iload hx hb dX2_extreme_81 (lv_at hl 1 rfl) ?_
                  refine ald_i (j := p0) hx hb hK hM 4 0 rfl rfl (by omega) (by omega) dX2_extreme_83 ?_
                  refine lv_goto (tgt := 89) hx hb dX2_extreme_84 (by decide) ?_
                  refine lv_istore (lv' := [(5, .int (m_V q p0)), (7, .int 1), (6, .int (nI p0)), (4, .int (if mnc q f t p0 = 0 then 0 else 1)), (0, .ref (b_o Y)), (1, .int f), (2, .int t), (3, .int g)]) hx hb dX2_extreme_89 hl (by decide) rfl (fun ls hl => ?_)
                  refine lv_iconst (v := 1) hx hb dX2_extreme_91 (by decide) ?_
                  refine lv_istore (lv' := [(4, .int 1), (5, .int (m_V q p0)), (7, .int 1), (6, .int (nI p0)), (0, .ref (b_o Y)), (1, .int f), (2, .int t), (3, .int g)]) hx hb dX2_extreme_92 hl (by decide) rfl (fun ls hl => ?_)
                  refine lv_iinc (v := nI (p0 + 1)) (lv' := [(6, .int (nI (p0 + 1))), (4, .int 1), (5, .int (m_V q p0)), (7, .int 1), (0, .ref (b_o Y)), (1, .int f), (2, .int t), (3, .int g)]) hx hb dX2_extreme_94 hl (k := 3) rfl (inc1 _) (by decide) rfl (fun ls hl => ?_)
                  refine lv_goto (tgt := 9) hx hb dX2_extreme_97 (by decide) ?_
                  have e9 : exq q f t g (p0 + 1) = m_V q p0 := by rw [exq, if_pos c_26, if_pos (Or.inr (by rw [if_pos (Int32.not_le.mp c_35)]; exact Int32.not_le.mp c_47))]
                  have e8 : (if mnc q f t (p0 + 1) = 0 then (0 : Int32) else 1) = 1 := by rw [mnc, if_pos c_26, if_neg (by omega)]
                  exact ih (p0 + 1) ls (by omega) (by rw [e9, e8]; exact (lv_sub hl [0, 2, 1, 4, 5, 6, 7] rfl))
  refine lv_iconst (v := 0) hx hb dX2_extreme_0 (by decide) ?_
  refine lv_istore (lv' := [(4, .int 0), (0, .ref (b_o Y)), (1, .int f), (2, .int t), (3, .int g)]) hx hb dX2_extreme_1 hl (by decide) rfl (fun ls hl => ?_)
  refine lv_iconst (v := 0) hx hb dX2_extreme_3 (by decide) ?_
  refine lv_istore (lv' := [(5, .int 0), (4, .int 0), (0, .ref (b_o Y)), (1, .int f), (2, .int t), (3, .int g)]) hx hb dX2_extreme_4 hl (by decide) rfl (fun ls hl => ?_)
  refine lv_iconst (v := 0) hx hb dX2_extreme_6 (by decide) ?_
  refine lv_istore (lv' := [(6, .int 0), (5, .int 0), (4, .int 0), (0, .ref (b_o Y)), (1, .int f), (2, .int t), (3, .int g)]) hx hb dX2_extreme_7 hl (by decide) rfl (fun ls hl => ?_)
  exact loop (m_P q) 0 ls (by omega) (lv_sub hl [0, 1, 2, 3, 4, 5, 6] rfl)
set_option maxHeartbeats 4000000 in
set_option maxRecDepth 100000 in
/-- at(time, smooth) -/
theorem c_X2_at (l : Launch) {D : va_G} {cI cA cJ : ClassId} {H : Heap} (Y : mA) (q : mv) (hm : m_ok q) (hM : va_P D vwCl (mW cI cJ Y q) H) (hne : ∀ j : Nat, j + 1 < m_P q → ¬ (nI (m_T q (j + 1)) - nI (m_T q j)).toInt64 = 0) (t sw : Int32) : Met l yX2_at wsX2_at ({ frames := 3, cells := 0, slots := 0, locals := 68 }) (ro_P D vwCl (tyL cI cA cJ) H [.ref (b_o Y), .int t, .int sw]) (ro_Q (.int (atM q t sw)) H) 0 0 ro_no := by
  refine Met.ofW (cc := cX2_at) (maxL := 8) (ret := (some .int)) (by decide) rfl ?_
  intro p e s m args below meth c s₁ B hml hv
  obtain ⟨rfl, hh, hK⟩ := hv
  subst hh
  have hx := B.exec
  have hb := B.bytes
  have hr := B.returns
  have hlocks := B.notSynchronized
  have hts := atoms_spec (ws := wsX2_at) B.pre
  have hown : s.vm.findClass RX2 = some m.cls := findClass_of_methodNamed B.named
  have hi2 : ∀ w ∈ wsX20, w ∈ wsX2_at := fun w h => List.mem_cons_of_mem _ (List.mem_append_right _ h)
  have hl := lv_entry ([.ref (b_o Y), .int t, .int sw]) (n := 8) (Nat.le_of_ble_eq_true rfl)
  rw [lg_entry_eq]
  generalize (lg_sl ([.ref (b_o Y), .int t, .int sw]) ++ List.replicate (8 - (lg_sl ([.ref (b_o Y), .int t, .int sw])).length) Slot.unset).toArray = ls at hl ⊢
  have hl : lv_has ls 8 [(0, .ref (b_o Y)), (1, .int t), (2, .int sw)] := hl
  obtain ⟨hp, hT, hRW, hkn⟩ := id hm
  have w0 : kp q 0 ≤ ng q 0 (m_P q) := hkn 0 (by omega)
  have w6 := ng_le q 0 (m_P q)
  have loop : ∀ (n : Nat) (p0 d0 : Nat) (ls : Array Slot), p0 + n = m_P q ∧ p0 = m_P q - kp q 0 + d0 → lv_has ls 8 [(4, .int (nI p0)), (3, .int (atq q t (m_P q - kp q 0) d0)), (0, .ref (b_o Y)), (1, .int t), (2, .int sw)] → W p l e (headSpec wsX2_at ({ frames := 3, cells := 0, slots := 0, locals := 68 })).room s m ([.ref (b_o Y), .int t, .int sw] : List Value).toArray below meth c s.heap [] 0 0 (MQ below (ro_Q (.int (atM q t sw)) s.heap) ([.ref (b_o Y), .int t, .int sw] : List Value).toArray s 0 0 ro_no) (F0 m 14 ls []) := by
    intro n
    induction n with
    | zero =>
      intro p0 d0 ls hi hl
      refine lv_iload hx hb dX2_at_14 (lv_at hl 0 rfl) ?_
      refine lv_aload_n hx hb dX2_at_16 rfl (lv_at hl 2 rfl) ?_
      refine va_get (D := D) (ci := 2) (v := .int (nI (m_P q))) (C := RX2) (T := TX2) (N := 6) hx hb hts hi2 hown hK hM 0 rfl rfl 3 (by decide) (hts (.fieldLink RX2 32 "RingSeriesModel" "points" "I") (by decide +kernel)) (fun _ h9 => h9) rfl dX2_at_17 ?_
      refine lv_icmp_ge (tgt := 47) hx hb dX2_at_20 (by decide) (fun c_20 => ?_) (fun c_20 => ?_)
      · have c_20 := (nI_leI (a := m_P q) (b := p0) (by omega) (by omega)).mp c_20
        obtain rfl : d0 = kp q 0 := by omega
        rcases atq_cases q t (m_P q - kp q 0) (kp q 0) with h9 | ⟨j, h1, h2, h9⟩
        · rw [h9] at hl
          refine lv_iload_n hx hb dX2_at_47 rfl (lv_at hl 1 rfl) ?_
          refine lv_if_ge (tgt := 53) hx hb dX2_at_48 (by decide) (fun c_48 => ?_) (fun c_48 => ?_)
          · exact absurd c_48 (by decide)
          · refine lv_iconst (v := 0) hx hb dX2_at_51 (by decide) ?_
            exact ro_iret hx hb hr (by unfold atM; rw [h9, if_pos (by decide)]) dX2_at_52 hlocks
        · rw [h9] at hl
          refine lv_iload_n hx hb dX2_at_47 rfl (lv_at hl 1 rfl) ?_
          refine lv_if_ge (tgt := 53) hx hb dX2_at_48 (by decide) (fun c_48 => ?_) (fun c_48 => ?_)
          · refine lv_iload_n hx hb dX2_at_53 rfl (lv_at hl 4 rfl) ?_
            refine lv_if_eq (tgt := 67) hx hb dX2_at_54 (by decide) (fun c_54 => ?_) (fun c_54 => ?_)
            · refine lv_aload_n hx hb dX2_at_67 rfl (lv_at hl 2 rfl) ?_
              refine va_get (D := D) (ci := 2) (v := .ref (b_v Y)) (C := RX2) (T := TX2) (N := 6) hx hb hts hi2 hown hK hM 0 rfl rfl 5 (by decide) (hts (.fieldLink RX2 20 "RingSeriesModel" "values" "[I") (by decide +kernel)) (fun _ h9 => h9) rfl dX2_at_68 ?_
              refine lv_iload_n hx hb dX2_at_71 rfl (lv_at hl 1 rfl) ?_
              refine ald_i (j := j) hx hb hK hM 4 0 rfl rfl (by omega) (by omega) dX2_at_72 ?_
              exact ro_iret hx hb hr (by unfold atM; rw [h9, if_neg (nI_pos (by omega)), nI_clamp (by omega), if_pos (Or.inl c_54)]) dX2_at_73 hlocks
            · refine lv_iload_n hx hb dX2_at_57 rfl (lv_at hl 1 rfl) ?_
              refine lv_aload_n hx hb dX2_at_58 rfl (lv_at hl 2 rfl) ?_
              refine va_get (D := D) (ci := 2) (v := .int (nI (m_P q))) (C := RX2) (T := TX2) (N := 6) hx hb hts hi2 hown hK hM 0 rfl rfl 3 (by decide) (hts (.fieldLink RX2 32 "RingSeriesModel" "points" "I") (by decide +kernel)) (fun _ h9 => h9) rfl dX2_at_59 ?_
              refine lv_iconst (v := 1) hx hb dX2_at_62 (by decide) ?_
              refine lv_isub hx hb dX2_at_63 ?_
              refine top_i (pk_sub (a := m_P q) (b := 1) (by omega)) ?_
              refine lv_icmp_ne (tgt := 74) hx hb dX2_at_64 (by decide) (fun c_64 => ?_) (fun c_64 => ?_)
              · have c_64 := mt (nI_eq (a := j) (b := (m_P q) - 1) (by omega) (by omega)).mpr c_64
                refine lv_aload_n hx hb dX2_at_74 rfl (lv_at hl 2 rfl) ?_
                refine va_get (D := D) (ci := 2) (v := .ref (b_v Y)) (C := RX2) (T := TX2) (N := 6) hx hb hts hi2 hown hK hM 0 rfl rfl 5 (by decide) (hts (.fieldLink RX2 20 "RingSeriesModel" "values" "[I") (by decide +kernel)) (fun _ h9 => h9) rfl dX2_at_75 ?_
                refine lv_iload_n hx hb dX2_at_78 rfl (lv_at hl 1 rfl) ?_
                refine lv_iconst (v := 1) hx hb dX2_at_79 (by decide) ?_
                refine lv_iadd hx hb dX2_at_80 ?_
                refine top_i (nI_add _ 1) ?_
                refine ald_i (j := (j + 1)) hx hb hK hM 4 0 rfl rfl (by omega) (by omega) dX2_at_81 ?_
                refine lv_i2l hx hb dX2_at_82 rfl ?_
                refine lv_aload_n hx hb dX2_at_83 rfl (lv_at hl 2 rfl) ?_
                refine va_get (D := D) (ci := 2) (v := .ref (b_v Y)) (C := RX2) (T := TX2) (N := 6) hx hb hts hi2 hown hK hM 0 rfl rfl 5 (by decide) (hts (.fieldLink RX2 20 "RingSeriesModel" "values" "[I") (by decide +kernel)) (fun _ h9 => h9) rfl dX2_at_84 ?_
                refine lv_iload_n hx hb dX2_at_87 rfl (lv_at hl 1 rfl) ?_
                refine ald_i (j := j) hx hb hK hM 4 0 rfl rfl (by omega) (by omega) dX2_at_88 ?_
                refine lv_i2l hx hb dX2_at_89 rfl ?_
                refine lv_lsub hx hb dX2_at_90 ?_
                refine lv_lstore (lv' := [(4, .long (((m_V q (j + 1)).toInt64) - ((m_V q j).toInt64))), (3, .int (nI j)), (0, .ref (b_o Y)), (1, .int t), (2, .int sw)]) hx hb dX2_at_91 hl (by decide) rfl (fun ls hl => ?_)
                refine lv_iload_n hx hb dX2_at_93 rfl (lv_at hl 3 rfl) ?_
                refine lv_i2l hx hb dX2_at_94 rfl ?_
                refine lv_aload_n hx hb dX2_at_95 rfl (lv_at hl 2 rfl) ?_
                refine va_get (D := D) (ci := 2) (v := .ref (b_t Y)) (C := RX2) (T := TX2) (N := 6) hx hb hts hi2 hown hK hM 0 rfl rfl 4 (by decide) (hts (.fieldLink RX2 17 "RingSeriesModel" "times" "[I") (by decide +kernel)) (fun _ h9 => h9) rfl dX2_at_96 ?_
                refine lv_iload_n hx hb dX2_at_99 rfl (lv_at hl 1 rfl) ?_
                refine ald_i (j := j) hx hb hK hM 3 0 rfl rfl (by omega) (by omega) dX2_at_100 ?_
                refine lv_i2l hx hb dX2_at_101 rfl ?_
                refine lv_lsub hx hb dX2_at_102 ?_
                refine lv_lstore (lv' := [(6, .long (((t).toInt64) - ((nI (m_T q j)).toInt64))), (4, .long (((m_V q (j + 1)).toInt64) - ((m_V q j).toInt64))), (3, .int (nI j)), (0, .ref (b_o Y)), (1, .int t), (2, .int sw)]) hx hb dX2_at_103 hl (by decide) rfl (fun ls hl => ?_)
                refine lv_aload_n hx hb dX2_at_105 rfl (lv_at hl 3 rfl) ?_
                refine va_get (D := D) (ci := 2) (v := .ref (b_v Y)) (C := RX2) (T := TX2) (N := 6) hx hb hts hi2 hown hK hM 0 rfl rfl 5 (by decide) (hts (.fieldLink RX2 20 "RingSeriesModel" "values" "[I") (by decide +kernel)) (fun _ h9 => h9) rfl dX2_at_106 ?_
                refine lv_iload_n hx hb dX2_at_109 rfl (lv_at hl 2 rfl) ?_
                refine ald_i (j := j) hx hb hK hM 4 0 rfl rfl (by omega) (by omega) dX2_at_110 ?_
                refine lv_i2l hx hb dX2_at_111 rfl ?_
                refine lv_lload hx hb dX2_at_112 (lv_at hl 1 rfl) ?_
                refine lv_lload hx hb dX2_at_114 (lv_at hl 0 rfl) ?_
                refine lv_lmul hx hb dX2_at_116 ?_
                refine lv_aload_n hx hb dX2_at_117 rfl (lv_at hl 3 rfl) ?_
                refine va_get (D := D) (ci := 2) (v := .ref (b_t Y)) (C := RX2) (T := TX2) (N := 6) hx hb hts hi2 hown hK hM 0 rfl rfl 4 (by decide) (hts (.fieldLink RX2 17 "RingSeriesModel" "times" "[I") (by decide +kernel)) (fun _ h9 => h9) rfl dX2_at_118 ?_
                refine lv_iload_n hx hb dX2_at_121 rfl (lv_at hl 2 rfl) ?_
                refine lv_iconst (v := 1) hx hb dX2_at_122 (by decide) ?_
                refine lv_iadd hx hb dX2_at_123 ?_
                refine top_i (nI_add _ 1) ?_
                refine ald_i (j := (j + 1)) hx hb hK hM 3 0 rfl rfl (by omega) (by omega) dX2_at_124 ?_
                refine lv_aload_n hx hb dX2_at_125 rfl (lv_at hl 3 rfl) ?_
                refine va_get (D := D) (ci := 2) (v := .ref (b_t Y)) (C := RX2) (T := TX2) (N := 6) hx hb hts hi2 hown hK hM 0 rfl rfl 4 (by decide) (hts (.fieldLink RX2 17 "RingSeriesModel" "times" "[I") (by decide +kernel)) (fun _ h9 => h9) rfl dX2_at_126 ?_
                refine lv_iload_n hx hb dX2_at_129 rfl (lv_at hl 2 rfl) ?_
                refine ald_i (j := j) hx hb hK hM 3 0 rfl rfl (by omega) (by omega) dX2_at_130 ?_
                refine lv_isub hx hb dX2_at_131 ?_
                refine lv_i2l hx hb dX2_at_132 rfl ?_
                refine lv_ldiv hx hb dX2_at_133 (hne j (by omega)) ?_
                refine lv_ladd hx hb dX2_at_134 ?_
                refine lv_l2i hx hb dX2_at_135 rfl ?_
                exact ro_iret hx hb hr (by unfold atM; rw [h9, if_neg (nI_pos (by omega)), nI_clamp (by omega), if_neg (fun z => z.elim c_54 (fun z => c_64 ((nI_eq (by omega) (by omega)).mp z)))]) dX2_at_136 hlocks
              · have c_64 := (nI_eq (a := j) (b := (m_P q) - 1) (by omega) (by omega)).mp c_64
                refine lv_aload_n hx hb dX2_at_67 rfl (lv_at hl 2 rfl) ?_
                refine va_get (D := D) (ci := 2) (v := .ref (b_v Y)) (C := RX2) (T := TX2) (N := 6) hx hb hts hi2 hown hK hM 0 rfl rfl 5 (by decide) (hts (.fieldLink RX2 20 "RingSeriesModel" "values" "[I") (by decide +kernel)) (fun _ h9 => h9) rfl dX2_at_68 ?_
                refine lv_iload_n hx hb dX2_at_71 rfl (lv_at hl 1 rfl) ?_
                refine ald_i (j := j) hx hb hK hM 4 0 rfl rfl (by omega) (by omega) dX2_at_72 ?_
                exact ro_iret hx hb hr (by unfold atM; rw [h9, if_neg (nI_pos (by omega)), nI_clamp (by omega), if_pos (Or.inr (by rw [c_64]))]) dX2_at_73 hlocks
          · exact absurd (nI_pos' (by omega)) c_48
      · have c_20 := mt (nI_leI (a := m_P q) (b := p0) (by omega) (by omega)).mpr c_20
        exact absurd c_20 (by omega)
    | succ n ih =>
      intro p0 d0 ls hi hl
      refine lv_iload hx hb dX2_at_14 (lv_at hl 0 rfl) ?_
      refine lv_aload_n hx hb dX2_at_16 rfl (lv_at hl 2 rfl) ?_
      refine va_get (D := D) (ci := 2) (v := .int (nI (m_P q))) (C := RX2) (T := TX2) (N := 6) hx hb hts hi2 hown hK hM 0 rfl rfl 3 (by decide) (hts (.fieldLink RX2 32 "RingSeriesModel" "points" "I") (by decide +kernel)) (fun _ h9 => h9) rfl dX2_at_17 ?_
      refine lv_icmp_ge (tgt := 47) hx hb dX2_at_20 (by decide) (fun c_20 => ?_) (fun c_20 => ?_)
      · have c_20 := (nI_leI (a := m_P q) (b := p0) (by omega) (by omega)).mp c_20
        exact absurd c_20 (by omega)
      · have c_20 := mt (nI_leI (a := m_P q) (b := p0) (by omega) (by omega)).mpr c_20
        refine lv_aload_n hx hb dX2_at_23 rfl (lv_at hl 2 rfl) ?_
        refine va_get (D := D) (ci := 2) (v := .ref (b_t Y)) (C := RX2) (T := TX2) (N := 6) hx hb hts hi2 hown hK hM 0 rfl rfl 4 (by decide) (hts (.fieldLink RX2 17 "RingSeriesModel" "times" "[I") (by decide +kernel)) (fun _ h9 => h9) rfl dX2_at_24 ?_
        refine lv_iload hx hb dX2_at_27 (lv_at hl 0 rfl) ?_
        refine ald_i (j := p0) hx hb hK hM 3 0 rfl rfl (by omega) (by omega) dX2_at_29 ?_
        refine lv_iload_n hx hb dX2_at_30 rfl (lv_at hl 3 rfl) ?_
        refine lv_icmp_gt (tgt := 39) hx hb dX2_at_31 (by decide) (fun c_31 => ?_) (fun c_31 => ?_)
        · refine lv_iload_n hx hb dX2_at_39 rfl (lv_at hl 1 rfl) ?_
          refine lv_istore_n (lv' := [(3, .int (atq q t (m_P q - kp q 0) d0)), (4, .int (nI p0)), (0, .ref (b_o Y)), (1, .int t), (2, .int sw)]) hx hb dX2_at_40 rfl hl (by decide) rfl (fun ls hl => ?_)
          refine lv_iinc (v := nI (p0 + 1)) (lv' := [(4, .int (nI (p0 + 1))), (3, .int (atq q t (m_P q - kp q 0) d0)), (0, .ref (b_o Y)), (1, .int t), (2, .int sw)]) hx hb dX2_at_41 hl (k := 1) rfl (inc1 _) (by decide) rfl (fun ls hl => ?_)
          refine lv_goto (tgt := 14) hx hb dX2_at_44 (by decide) ?_
          have e9 : atq q t (m_P q - kp q 0) (d0 + 1) = atq q t (m_P q - kp q 0) d0 := by rw [atq, show m_P q - kp q 0 + d0 = p0 by omega, if_pos c_31]
          exact ih (p0 + 1) (d0 + 1) ls (by omega) (by rw [e9]; exact (lv_sub hl [0, 1, 2, 3, 4] rfl))
        · refine lv_iload hx hb dX2_at_34 (lv_at hl 0 rfl) ?_
          refine lv_goto (tgt := 40) hx hb dX2_at_36 (by decide) ?_
          refine lv_istore_n (lv' := [(3, .int (nI p0)), (4, .int (nI p0)), (0, .ref (b_o Y)), (1, .int t), (2, .int sw)]) hx hb dX2_at_40 rfl hl (by decide) rfl (fun ls hl => ?_)
          refine lv_iinc (v := nI (p0 + 1)) (lv' := [(4, .int (nI (p0 + 1))), (3, .int (nI p0)), (0, .ref (b_o Y)), (1, .int t), (2, .int sw)]) hx hb dX2_at_41 hl (k := 1) rfl (inc1 _) (by decide) rfl (fun ls hl => ?_)
          refine lv_goto (tgt := 14) hx hb dX2_at_44 (by decide) ?_
          have e9 : atq q t (m_P q - kp q 0) (d0 + 1) = nI p0 := by rw [atq, show m_P q - kp q 0 + d0 = p0 by omega, if_neg c_31]
          exact ih (p0 + 1) (d0 + 1) ls (by omega) (by rw [e9]; exact (lv_sub hl [0, 1, 2, 3, 4] rfl))
  refine lv_iconst (v := (-1)) hx hb dX2_at_0 (by decide) ?_
  refine lv_istore_n (lv' := [(3, .int (-1)), (0, .ref (b_o Y)), (1, .int t), (2, .int sw)]) hx hb dX2_at_1 rfl hl (by decide) rfl (fun ls hl => ?_)
  refine lv_aload_n hx hb dX2_at_2 rfl (lv_at hl 1 rfl) ?_
  refine va_get (D := D) (ci := 2) (v := .int (nI (m_P q))) (C := RX2) (T := TX2) (N := 6) hx hb hts hi2 hown hK hM 0 rfl rfl 3 (by decide) (hts (.fieldLink RX2 32 "RingSeriesModel" "points" "I") (by decide +kernel)) (fun _ h9 => h9) rfl dX2_at_3 ?_
  refine lv_aload_n hx hb dX2_at_6 rfl (lv_at hl 1 rfl) ?_
  refine lv_iconst (v := 0) hx hb dX2_at_7 (by decide) ?_
  refine ro_call (va_runV (As := [.int 0]) (rest := [.int (nI (m_P q))]) ⟨hx, hb, hml, hown, hts⟩ (c_X2_kept l Y q hm hM 0 (by omega)) (cwV 1 hts gX2_at_X2_kept rfl rfl rfl (by decide +kernel) ⟨Nat.le_of_ble_eq_true rfl, Nat.le_of_ble_eq_true rfl⟩) (ro_preV hK (va_recv hK hM (ci := 2) (q0 := 0) rfl rfl)) rfl rfl hl.1 rfl (lv_room (Nat.le_of_ble_eq_true rfl)) dX2_at_8 ⟨Nat.zero_le _, Nat.zero_le _⟩) ?_
  refine lv_isub hx hb dX2_at_11 ?_
  refine top_i (pk_sub (a := m_P q) (b := kp q 0) (by omega)) ?_
  refine lv_istore (lv' := [(4, .int (nI ((m_P q) - (kp q 0)))), (3, .int (-1)), (0, .ref (b_o Y)), (1, .int t), (2, .int sw)]) hx hb dX2_at_12 hl (by decide) rfl (fun ls hl => ?_)
  exact loop (kp q 0) (m_P q - kp q 0) 0 ls (by omega) (lv_sub hl [0, 1, 2, 3, 4] rfl)
set_option maxHeartbeats 4000000 in
set_option maxRecDepth 100000 in
/-- steepest(from, to) -/
theorem c_X2_steepest (l : Launch) {D : va_G} {cI cA cJ : ClassId} {H : Heap} (Y : mA) (q : mv) (hm : m_ok q) (hM : va_P D vwCl (mW cI cJ Y q) H) (f t : Int32) : Met l yX2_steepest wsX2_steepest ({ frames := 4, cells := 0, slots := 0, locals := 91 }) (ro_P D vwCl (tyL cI cA cJ) H [.ref (b_o Y), .int f, .int t]) (ro_Q (.int (spM q f t)) H) 0 0 ro_no := by
  refine Met.ofW (cc := cX2_steepest) (maxL := 10) (ret := (some .int)) (by decide) rfl ?_
  intro p e s m args below meth c s₁ B hml hv
  obtain ⟨rfl, hh, hK⟩ := hv
  subst hh
  have hx := B.exec
  have hb := B.bytes
  have hr := B.returns
  have hlocks := B.notSynchronized
  have hts := atoms_spec (ws := wsX2_steepest) B.pre
  have hown : s.vm.findClass RX2 = some m.cls := findClass_of_methodNamed B.named
  have hi2 : ∀ w ∈ wsX20, w ∈ wsX2_steepest := fun w h => List.mem_cons_of_mem _ (List.mem_append_right _ h)
  have hl := lv_entry ([.ref (b_o Y), .int f, .int t]) (n := 10) (Nat.le_of_ble_eq_true rfl)
  rw [lg_entry_eq]
  generalize (lg_sl ([.ref (b_o Y), .int f, .int t]) ++ List.replicate (10 - (lg_sl ([.ref (b_o Y), .int f, .int t])).length) Slot.unset).toArray = ls at hl ⊢
  have hl : lv_has ls 10 [(0, .ref (b_o Y)), (1, .int f), (2, .int t)] := hl
  obtain ⟨hp, hT, hRW, hkn⟩ := id hm
  have w0 : kp q 0 ≤ ng q 0 (m_P q) := hkn 0 (by omega)
  have w6 := ng_le q 0 (m_P q)
  have loop : ∀ (n : Nat) (p0 : Nat) (ys : Int64) (bs : Int32) (ls : Array Slot), ((m_P q ≤ p0 ∧ n = 0) ∨ p0 + n = m_P q) ∧ m_P q - kp q 0 + 1 ≤ p0 ∧ p0 ≤ m_P q + 1 → spq q f t (m_P q - kp q 0) n p0 bs ys = spM q f t → lv_has ls 10 [(7, .int (nI p0)), (5, .long ys), (4, .int bs), (3, .int (nI (m_P q - kp q 0))), (0, .ref (b_o Y)), (1, .int f), (2, .int t)] → W p l e (headSpec wsX2_steepest ({ frames := 4, cells := 0, slots := 0, locals := 91 })).room s m ([.ref (b_o Y), .int f, .int t] : List Value).toArray below meth c s.heap [] 0 0 (MQ below (ro_Q (.int (spM q f t)) s.heap) ([.ref (b_o Y), .int f, .int t] : List Value).toArray s 0 0 ro_no) (F0 m 22 ls []) := by
    intro n
    induction n with
    | zero =>
      intro p0 ys bs ls hi hf hl
      refine lv_iload hx hb dX2_steepest_22 (lv_at hl 0 rfl) ?_
      refine lv_aload_n hx hb dX2_steepest_24 rfl (lv_at hl 4 rfl) ?_
      refine va_get (D := D) (ci := 2) (v := .int (nI (m_P q))) (C := RX2) (T := TX2) (N := 6) hx hb hts hi2 hown hK hM 0 rfl rfl 3 (by decide) (hts (.fieldLink RX2 32 "RingSeriesModel" "points" "I") (by decide +kernel)) (fun _ h9 => h9) rfl dX2_steepest_25 ?_
      refine lv_icmp_ge (tgt := 106) hx hb dX2_steepest_28 (by decide) (fun c_28 => ?_) (fun c_28 => ?_)
      · have c_28 := (nI_leI (a := m_P q) (b := p0) (by omega) (by omega)).mp c_28
        refine lv_iload hx hb dX2_steepest_106 (lv_at hl 2 rfl) ?_
        exact ro_iret hx hb hr (by rw [← hf]; rfl) dX2_steepest_108 hlocks
      · have c_28 := mt (nI_leI (a := m_P q) (b := p0) (by omega) (by omega)).mpr c_28
        exact absurd c_28 (by omega)
    | succ n ih =>
      intro p0 ys bs ls hi hf hl
      refine lv_iload hx hb dX2_steepest_22 (lv_at hl 0 rfl) ?_
      refine lv_aload_n hx hb dX2_steepest_24 rfl (lv_at hl 4 rfl) ?_
      refine va_get (D := D) (ci := 2) (v := .int (nI (m_P q))) (C := RX2) (T := TX2) (N := 6) hx hb hts hi2 hown hK hM 0 rfl rfl 3 (by decide) (hts (.fieldLink RX2 32 "RingSeriesModel" "points" "I") (by decide +kernel)) (fun _ h9 => h9) rfl dX2_steepest_25 ?_
      refine lv_icmp_ge (tgt := 106) hx hb dX2_steepest_28 (by decide) (fun c_28 => ?_) (fun c_28 => ?_)
      · have c_28 := (nI_leI (a := m_P q) (b := p0) (by omega) (by omega)).mp c_28
        exact absurd c_28 (by omega)
      · have c_28 := mt (nI_leI (a := m_P q) (b := p0) (by omega) (by omega)).mpr c_28
        refine lv_aload_n hx hb dX2_steepest_31 rfl (lv_at hl 4 rfl) ?_
        refine va_get (D := D) (ci := 2) (v := .ref (b_v Y)) (C := RX2) (T := TX2) (N := 6) hx hb hts hi2 hown hK hM 0 rfl rfl 5 (by decide) (hts (.fieldLink RX2 20 "RingSeriesModel" "values" "[I") (by decide +kernel)) (fun _ h9 => h9) rfl dX2_steepest_32 ?_
        refine lv_iload hx hb dX2_steepest_35 (lv_at hl 0 rfl) ?_
        refine ald_i (j := p0) hx hb hK hM 4 0 rfl rfl (by omega) (by omega) dX2_steepest_37 ?_
        refine lv_i2l hx hb dX2_steepest_38 rfl ?_
        refine lv_aload_n hx hb dX2_steepest_39 rfl (lv_at hl 4 rfl) ?_
        refine va_get (D := D) (ci := 2) (v := .ref (b_v Y)) (C := RX2) (T := TX2) (N := 6) hx hb hts hi2 hown hK hM 0 rfl rfl 5 (by decide) (hts (.fieldLink RX2 20 "RingSeriesModel" "values" "[I") (by decide +kernel)) (fun _ h9 => h9) rfl dX2_steepest_40 ?_
        refine lv_iload hx hb dX2_steepest_43 (lv_at hl 0 rfl) ?_
        refine lv_iconst (v := 1) hx hb dX2_steepest_45 (by decide) ?_
        refine lv_isub hx hb dX2_steepest_46 ?_
        refine top_i (pk_sub (a := p0) (b := 1) (by omega)) ?_
        refine ald_i (j := (p0 - 1)) hx hb hK hM 4 0 rfl rfl (by omega) (by omega) dX2_steepest_47 ?_
        refine lv_i2l hx hb dX2_steepest_48 rfl ?_
        refine lv_lsub hx hb dX2_steepest_49 ?_
        refine lv_lstore (lv' := [(8, .long (((m_V q p0).toInt64) - ((m_V q (p0 - 1)).toInt64))), (7, .int (nI p0)), (5, .long ys), (4, .int bs), (3, .int (nI (m_P q - kp q 0))), (0, .ref (b_o Y)), (1, .int f), (2, .int t)]) hx hb dX2_steepest_50 hl (by decide) rfl (fun ls hl => ?_)
        refine lv_aload_n hx hb dX2_steepest_52 rfl (lv_at hl 5 rfl) ?_
        refine lv_iload hx hb dX2_steepest_53 (lv_at hl 1 rfl) ?_
        refine lv_iconst (v := 1) hx hb dX2_steepest_55 (by decide) ?_
        refine lv_isub hx hb dX2_steepest_56 ?_
        refine top_i (pk_sub (a := p0) (b := 1) (by omega)) ?_
        refine lv_iload_n hx hb dX2_steepest_57 rfl (lv_at hl 6 rfl) ?_
        refine lv_iload_n hx hb dX2_steepest_58 rfl (lv_at hl 7 rfl) ?_
        refine ro_call (va_runV (As := [.int (nI (p0 - 1)), .int f, .int t]) (rest := []) ⟨hx, hb, hml, hown, hts⟩ (c_X2_isIn l Y q hm hM (p0 - 1) (by omega) f t) (cwV 3 hts gX2_steepest_X2_isIn rfl rfl rfl (by decide +kernel) ⟨Nat.le_of_ble_eq_true rfl, Nat.le_of_ble_eq_true rfl⟩) (ro_preV hK (va_recv hK hM (ci := 2) (q0 := 0) rfl rfl)) rfl rfl hl.1 rfl (lv_room (Nat.le_of_ble_eq_true rfl)) dX2_steepest_59 ⟨Nat.zero_le _, Nat.zero_le _⟩) ?_
        refine lv_if_eq (tgt := 100) hx hb dX2_steepest_62 (by decide) (fun c_62 => ?_) (fun c_62 => ?_)
        · have c_62 := bi_eq c_62
          refine lv_iinc (v := nI (p0 + 1)) (lv' := [(7, .int (nI (p0 + 1))), (8, .long (((m_V q p0).toInt64) - ((m_V q (p0 - 1)).toInt64))), (5, .long ys), (4, .int bs), (3, .int (nI (m_P q - kp q 0))), (0, .ref (b_o Y)), (1, .int f), (2, .int t)]) hx hb dX2_steepest_100 hl (k := 1) rfl (inc1 _) (by decide) rfl (fun ls hl => ?_)
          refine lv_goto (tgt := 22) hx hb dX2_steepest_103 (by decide) ?_
          exact ih (p0 + 1) _ _ ls (by omega) (by rw [← hf, spq, if_neg (fun z => c_62 z.1)]) (lv_sub hl [0, 2, 3, 4, 5, 6, 7] rfl)
        · have c_62 := bi_ne c_62
          refine lv_aload_n hx hb dX2_steepest_65 rfl (lv_at hl 5 rfl) ?_
          refine lv_iload hx hb dX2_steepest_66 (lv_at hl 1 rfl) ?_
          refine lv_iload_n hx hb dX2_steepest_68 rfl (lv_at hl 6 rfl) ?_
          refine lv_iload_n hx hb dX2_steepest_69 rfl (lv_at hl 7 rfl) ?_
          refine ro_call (va_runV (As := [.int (nI p0), .int f, .int t]) (rest := []) ⟨hx, hb, hml, hown, hts⟩ (c_X2_isIn l Y q hm hM p0 (by omega) f t) (cwV 3 hts gX2_steepest_X2_isIn rfl rfl rfl (by decide +kernel) ⟨Nat.le_of_ble_eq_true rfl, Nat.le_of_ble_eq_true rfl⟩) (ro_preV hK (va_recv hK hM (ci := 2) (q0 := 0) rfl rfl)) rfl rfl hl.1 rfl (lv_room (Nat.le_of_ble_eq_true rfl)) dX2_steepest_70 ⟨Nat.zero_le _, Nat.zero_le _⟩) ?_
          refine lv_if_eq (tgt := 100) hx hb dX2_steepest_73 (by decide) (fun c_73 => ?_) (fun c_73 => ?_)
          · have c_73 := bi_eq c_73
            refine lv_iinc (v := nI (p0 + 1)) (lv' := [(7, .int (nI (p0 + 1))), (8, .long (((m_V q p0).toInt64) - ((m_V q (p0 - 1)).toInt64))), (5, .long ys), (4, .int bs), (3, .int (nI (m_P q - kp q 0))), (0, .ref (b_o Y)), (1, .int f), (2, .int t)]) hx hb dX2_steepest_100 hl (k := 1) rfl (inc1 _) (by decide) rfl (fun ls hl => ?_)
            refine lv_goto (tgt := 22) hx hb dX2_steepest_103 (by decide) ?_
            exact ih (p0 + 1) _ _ ls (by omega) (by rw [← hf, spq, if_neg (fun z => c_73 z.2.1)]) (lv_sub hl [0, 2, 3, 4, 5, 6, 7] rfl)
          · have c_73 := bi_ne c_73
            refine lv_iload hx hb dX2_steepest_76 (lv_at hl 3 rfl) ?_
            refine lv_iconst (v := (-1)) hx hb dX2_steepest_78 (by decide) ?_
            refine lv_icmp_eq (tgt := 90) hx hb dX2_steepest_79 (by decide) (fun c_79 => ?_) (fun c_79 => ?_)
            · refine lv_iload hx hb dX2_steepest_90 (lv_at hl 1 rfl) ?_
              refine lv_iload_n hx hb dX2_steepest_92 rfl (lv_at hl 4 rfl) ?_
              refine lv_isub hx hb dX2_steepest_93 ?_
              refine top_i (pk_sub (a := p0) (b := m_P q - kp q 0) (by omega)) ?_
              refine lv_istore (lv' := [(4, .int (nI (p0 - (m_P q - kp q 0)))), (8, .long (((m_V q p0).toInt64) - ((m_V q (p0 - 1)).toInt64))), (7, .int (nI p0)), (5, .long ys), (3, .int (nI (m_P q - kp q 0))), (0, .ref (b_o Y)), (1, .int f), (2, .int t)]) hx hb dX2_steepest_94 hl (by decide) rfl (fun ls hl => ?_)
              refine lv_lload hx hb dX2_steepest_96 (lv_at hl 1 rfl) ?_
              refine lv_lstore (lv' := [(5, .long (((m_V q p0).toInt64) - ((m_V q (p0 - 1)).toInt64))), (4, .int (nI (p0 - (m_P q - kp q 0)))), (8, .long (((m_V q p0).toInt64) - ((m_V q (p0 - 1)).toInt64))), (7, .int (nI p0)), (3, .int (nI (m_P q - kp q 0))), (0, .ref (b_o Y)), (1, .int f), (2, .int t)]) hx hb dX2_steepest_98 hl (by decide) rfl (fun ls hl => ?_)
              refine lv_iinc (v := nI (p0 + 1)) (lv' := [(7, .int (nI (p0 + 1))), (5, .long (((m_V q p0).toInt64) - ((m_V q (p0 - 1)).toInt64))), (4, .int (nI (p0 - (m_P q - kp q 0)))), (8, .long (((m_V q p0).toInt64) - ((m_V q (p0 - 1)).toInt64))), (3, .int (nI (m_P q - kp q 0))), (0, .ref (b_o Y)), (1, .int f), (2, .int t)]) hx hb dX2_steepest_100 hl (k := 3) rfl (inc1 _) (by decide) rfl (fun ls hl => ?_)
              refine lv_goto (tgt := 22) hx hb dX2_steepest_103 (by decide) ?_
              exact ih (p0 + 1) _ _ ls (by omega) (by rw [← hf, spq, if_pos ⟨c_62, c_73, Or.inl c_79⟩]; rfl) (lv_sub hl [0, 1, 2, 4, 5, 6, 7] rfl)
            · refine lv_lload hx hb dX2_steepest_82 (lv_at hl 0 rfl) ?_
              refine lv_lload hx hb dX2_steepest_84 (lv_at hl 2 rfl) ?_
              refine W.lcmp hx hb dX2_steepest_86 ?_
              refine lv_if_le (tgt := 100) hx hb dX2_steepest_87 (by decide) (fun c_87 => ?_) (fun c_87 => ?_)
              · have c_87 := (lg_cmp_le _ _).mp c_87
                refine lv_iinc (v := nI (p0 + 1)) (lv' := [(7, .int (nI (p0 + 1))), (8, .long (((m_V q p0).toInt64) - ((m_V q (p0 - 1)).toInt64))), (5, .long ys), (4, .int bs), (3, .int (nI (m_P q - kp q 0))), (0, .ref (b_o Y)), (1, .int f), (2, .int t)]) hx hb dX2_steepest_100 hl (k := 1) rfl (inc1 _) (by decide) rfl (fun ls hl => ?_)
                refine lv_goto (tgt := 22) hx hb dX2_steepest_103 (by decide) ?_
                exact ih (p0 + 1) _ _ ls (by omega) (by rw [← hf, spq, if_neg (fun z => z.2.2.elim c_79 (fun z => Int64.not_lt.mpr c_87 z))]) (lv_sub hl [0, 2, 3, 4, 5, 6, 7] rfl)
              · have c_87 := mt (lg_cmp_le _ _).mpr c_87
                refine lv_iload hx hb dX2_steepest_90 (lv_at hl 1 rfl) ?_
                refine lv_iload_n hx hb dX2_steepest_92 rfl (lv_at hl 4 rfl) ?_
                refine lv_isub hx hb dX2_steepest_93 ?_
                refine top_i (pk_sub (a := p0) (b := m_P q - kp q 0) (by omega)) ?_
                refine lv_istore (lv' := [(4, .int (nI (p0 - (m_P q - kp q 0)))), (8, .long (((m_V q p0).toInt64) - ((m_V q (p0 - 1)).toInt64))), (7, .int (nI p0)), (5, .long ys), (3, .int (nI (m_P q - kp q 0))), (0, .ref (b_o Y)), (1, .int f), (2, .int t)]) hx hb dX2_steepest_94 hl (by decide) rfl (fun ls hl => ?_)
                refine lv_lload hx hb dX2_steepest_96 (lv_at hl 1 rfl) ?_
                refine lv_lstore (lv' := [(5, .long (((m_V q p0).toInt64) - ((m_V q (p0 - 1)).toInt64))), (4, .int (nI (p0 - (m_P q - kp q 0)))), (8, .long (((m_V q p0).toInt64) - ((m_V q (p0 - 1)).toInt64))), (7, .int (nI p0)), (3, .int (nI (m_P q - kp q 0))), (0, .ref (b_o Y)), (1, .int f), (2, .int t)]) hx hb dX2_steepest_98 hl (by decide) rfl (fun ls hl => ?_)
                refine lv_iinc (v := nI (p0 + 1)) (lv' := [(7, .int (nI (p0 + 1))), (5, .long (((m_V q p0).toInt64) - ((m_V q (p0 - 1)).toInt64))), (4, .int (nI (p0 - (m_P q - kp q 0)))), (8, .long (((m_V q p0).toInt64) - ((m_V q (p0 - 1)).toInt64))), (3, .int (nI (m_P q - kp q 0))), (0, .ref (b_o Y)), (1, .int f), (2, .int t)]) hx hb dX2_steepest_100 hl (k := 3) rfl (inc1 _) (by decide) rfl (fun ls hl => ?_)
                refine lv_goto (tgt := 22) hx hb dX2_steepest_103 (by decide) ?_
                exact ih (p0 + 1) _ _ ls (by omega) (by rw [← hf, spq, if_pos ⟨c_62, c_73, Or.inr (Int64.not_le.mp c_87)⟩]; rfl) (lv_sub hl [0, 1, 2, 4, 5, 6, 7] rfl)
  refine lv_aload_n hx hb dX2_steepest_0 rfl (lv_at hl 0 rfl) ?_
  refine va_get (D := D) (ci := 2) (v := .int (nI (m_P q))) (C := RX2) (T := TX2) (N := 6) hx hb hts hi2 hown hK hM 0 rfl rfl 3 (by decide) (hts (.fieldLink RX2 32 "RingSeriesModel" "points" "I") (by decide +kernel)) (fun _ h9 => h9) rfl dX2_steepest_1 ?_
  refine lv_aload_n hx hb dX2_steepest_4 rfl (lv_at hl 0 rfl) ?_
  refine lv_iconst (v := 0) hx hb dX2_steepest_5 (by decide) ?_
  refine ro_call (va_runV (As := [.int 0]) (rest := [.int (nI (m_P q))]) ⟨hx, hb, hml, hown, hts⟩ (c_X2_kept l Y q hm hM 0 (by omega)) (cwV 1 hts gX2_steepest_X2_kept rfl rfl rfl (by decide +kernel) ⟨Nat.le_of_ble_eq_true rfl, Nat.le_of_ble_eq_true rfl⟩) (ro_preV hK (va_recv hK hM (ci := 2) (q0 := 0) rfl rfl)) rfl rfl hl.1 rfl (lv_room (Nat.le_of_ble_eq_true rfl)) dX2_steepest_6 ⟨Nat.zero_le _, Nat.zero_le _⟩) ?_
  refine lv_isub hx hb dX2_steepest_9 ?_
  refine top_i (pk_sub (a := m_P q) (b := kp q 0) (by omega)) ?_
  refine lv_istore_n (lv' := [(3, .int (nI ((m_P q) - (kp q 0)))), (0, .ref (b_o Y)), (1, .int f), (2, .int t)]) hx hb dX2_steepest_10 rfl hl (by decide) rfl (fun ls hl => ?_)
  refine lv_iconst (v := (-1)) hx hb dX2_steepest_11 (by decide) ?_
  refine lv_istore (lv' := [(4, .int (-1)), (3, .int (nI ((m_P q) - (kp q 0)))), (0, .ref (b_o Y)), (1, .int f), (2, .int t)]) hx hb dX2_steepest_12 hl (by decide) rfl (fun ls hl => ?_)
  refine lv_lconst (v := 0) hx hb dX2_steepest_14 (by decide) ?_
  refine lv_lstore (lv' := [(5, .long 0), (4, .int (-1)), (3, .int (nI ((m_P q) - (kp q 0)))), (0, .ref (b_o Y)), (1, .int f), (2, .int t)]) hx hb dX2_steepest_15 hl (by decide) rfl (fun ls hl => ?_)
  refine lv_iload_n hx hb dX2_steepest_17 rfl (lv_at hl 2 rfl) ?_
  refine lv_iconst (v := 1) hx hb dX2_steepest_18 (by decide) ?_
  refine lv_iadd hx hb dX2_steepest_19 ?_
  refine top_i (nI_add _ 1) ?_
  refine lv_istore (lv' := [(7, .int (nI (((m_P q) - (kp q 0)) + 1))), (5, .long 0), (4, .int (-1)), (3, .int (nI ((m_P q) - (kp q 0)))), (0, .ref (b_o Y)), (1, .int f), (2, .int t)]) hx hb dX2_steepest_20 hl (by decide) rfl (fun ls hl => ?_)
  exact loop (kp q 0 - 1) (m_P q - kp q 0 + 1) 0 (-1) ls (by omega) rfl (lv_sub hl [0, 1, 2, 3, 4, 5, 6] rfl)
set_option maxHeartbeats 4000000 in
set_option maxRecDepth 100000 in
/-- median(from, to) -/
theorem c_X2_median (l : Launch) {D : va_G} {cI cA cJ : ClassId} {H : Heap} (Y : mA) (q : mv) (hm : m_ok q) (hM : va_P D vwCl (mW cI cJ Y q) H) (f t : Int32) : Met l yX2_median wsX2_median ({ frames := 5, cells := 0, slots := 0, locals := 115 }) (ro_P D vwCl (tyL cI cA cJ) H [.ref (b_o Y), .int f, .int t]) (ro_Q (.int (mdM q f t)) H) 0 0 ro_no := by
  refine Met.ofW (cc := cX2_median) (maxL := 8) (ret := (some .int)) (by decide) rfl ?_
  intro p e s m args below meth c s₁ B hml hv
  obtain ⟨rfl, hh, hK⟩ := hv
  subst hh
  have hx := B.exec
  have hb := B.bytes
  have hr := B.returns
  have hlocks := B.notSynchronized
  have hts := atoms_spec (ws := wsX2_median) B.pre
  have hown : s.vm.findClass RX2 = some m.cls := findClass_of_methodNamed B.named
  have hi2 : ∀ w ∈ wsX20, w ∈ wsX2_median := fun w h => List.mem_cons_of_mem _ (List.mem_append_right _ h)
  have hl := lv_entry ([.ref (b_o Y), .int f, .int t]) (n := 8) (Nat.le_of_ble_eq_true rfl)
  rw [lg_entry_eq]
  generalize (lg_sl ([.ref (b_o Y), .int f, .int t]) ++ List.replicate (8 - (lg_sl ([.ref (b_o Y), .int f, .int t])).length) Slot.unset).toArray = ls at hl ⊢
  have hl : lv_has ls 8 [(0, .ref (b_o Y)), (1, .int f), (2, .int t)] := hl
  obtain ⟨hp, hT, hRW, hkn⟩ := id hm
  have w0 : kp q 0 ≤ ng q 0 (m_P q) := hkn 0 (by omega)
  have w6 := ng_le q 0 (m_P q)
  have nq := mnc_le q f t (m_P q)
  by_cases hz : 0 < mnc q f t (m_P q)
  · have loop : ∀ (n : Nat) (p0 : Nat) (ls : Array Slot), p0 + n = m_P q → mdr q f t n p0 = mdM q f t → lv_has ls 8 [(4, .int (nI p0)), (3, .int (nI (mnc q f t (m_P q)))), (0, .ref (b_o Y)), (1, .int f), (2, .int t)] → W p l e (headSpec wsX2_median ({ frames := 5, cells := 0, slots := 0, locals := 115 })).room s m ([.ref (b_o Y), .int f, .int t] : List Value).toArray below meth c s.heap [] 0 0 (MQ below (ro_Q (.int (mdM q f t)) s.heap) ([.ref (b_o Y), .int f, .int t] : List Value).toArray s 0 0 ro_no) (F0 m 10 ls []) := by
      intro n
      induction n with
      | zero =>
        intro p0 ls hi hf hl
        refine lv_iload hx hb dX2_median_10 (lv_at hl 0 rfl) ?_
        refine lv_aload_n hx hb dX2_median_12 rfl (lv_at hl 2 rfl) ?_
        refine va_get (D := D) (ci := 2) (v := .int (nI (m_P q))) (C := RX2) (T := TX2) (N := 6) hx hb hts hi2 hown hK hM 0 rfl rfl 3 (by decide) (hts (.fieldLink RX2 32 "RingSeriesModel" "points" "I") (by decide +kernel)) (fun _ h9 => h9) rfl dX2_median_13 ?_
        refine lv_icmp_ge (tgt := 174) hx hb dX2_median_16 (by decide) (fun c_16 => ?_) (fun c_16 => ?_)
        · have c_16 := (nI_leI (a := m_P q) (b := p0) (by omega) (by omega)).mp c_16
          refine lv_iconst (v := 0) hx hb dX2_median_174 (by decide) ?_
          exact ro_iret hx hb hr (by rw [← hf]; rfl) dX2_median_175 hlocks
        · have c_16 := mt (nI_leI (a := m_P q) (b := p0) (by omega) (by omega)).mpr c_16
          exact absurd c_16 (by omega)
      | succ n ih =>
        intro p0 ls hi hf hl
        have inner : (∀ ls : Array Slot, lv_has ls 8 [(7, .int (nI (m_P q))), (6, .int (nI (eqv q f t (m_V q p0) (m_P q)))), (5, .int (nI (blw q f t (m_V q p0) (m_P q)))), (4, .int (nI p0)), (3, .int (nI (mnc q f t (m_P q)))), (0, .ref (b_o Y)), (1, .int f), (2, .int t)] → W p l e (headSpec wsX2_median ({ frames := 5, cells := 0, slots := 0, locals := 115 })).room s m ([.ref (b_o Y), .int f, .int t] : List Value).toArray below meth c s.heap [] 0 0 (MQ below (ro_Q (.int (mdM q f t)) s.heap) ([.ref (b_o Y), .int f, .int t] : List Value).toArray s 0 0 ro_no) (F0 m 125 ls [])) → ∀ (n2 y : Nat) (ls : Array Slot), y + n2 = m_P q → lv_has ls 8 [(7, .int (nI y)), (6, .int (nI (eqv q f t (m_V q p0) y))), (5, .int (nI (blw q f t (m_V q p0) y))), (4, .int (nI p0)), (3, .int (nI (mnc q f t (m_P q)))), (0, .ref (b_o Y)), (1, .int f), (2, .int t)] → W p l e (headSpec wsX2_median ({ frames := 5, cells := 0, slots := 0, locals := 115 })).room s m ([.ref (b_o Y), .int f, .int t] : List Value).toArray below meth c s.heap [] 0 0 (MQ below (ro_Q (.int (mdM q f t)) s.heap) ([.ref (b_o Y), .int f, .int t] : List Value).toArray s 0 0 ro_no) (F0 m 32 ls []) := by
          intro kk n2
          induction n2 with
          | zero =>
            intro y ls hy2 hl
            have g0 := blw_le q f t (m_V q p0) y
            have g1 := eqv_le q f t (m_V q p0) y
            refine lv_iload hx hb dX2_median_32 (lv_at hl 0 rfl) ?_
            refine lv_aload_n hx hb dX2_median_34 rfl (lv_at hl 5 rfl) ?_
            refine va_get (D := D) (ci := 2) (v := .int (nI (m_P q))) (C := RX2) (T := TX2) (N := 6) hx hb hts hi2 hown hK hM 0 rfl rfl 3 (by decide) (hts (.fieldLink RX2 32 "RingSeriesModel" "points" "I") (by decide +kernel)) (fun _ h9 => h9) rfl dX2_median_35 ?_
            refine lv_icmp_ge (tgt := 125) hx hb dX2_median_38 (by decide) (fun c_38 => ?_) (fun c_38 => ?_)
            · have c_38 := (nI_leI (a := m_P q) (b := y) (by omega) (by omega)).mp c_38
              exact kk ls (by rw [show y = m_P q by omega] at hl; exact (lv_sub hl [0, 1, 2, 3, 4, 5, 6, 7] rfl))
            · have c_38 := mt (nI_leI (a := m_P q) (b := y) (by omega) (by omega)).mpr c_38
              exact absurd c_38 (by omega)
          | succ n2 ih2 =>
            intro y ls hy2 hl
            have g0 := blw_le q f t (m_V q p0) y
            have g1 := eqv_le q f t (m_V q p0) y
            refine lv_iload hx hb dX2_median_32 (lv_at hl 0 rfl) ?_
            refine lv_aload_n hx hb dX2_median_34 rfl (lv_at hl 5 rfl) ?_
            refine va_get (D := D) (ci := 2) (v := .int (nI (m_P q))) (C := RX2) (T := TX2) (N := 6) hx hb hts hi2 hown hK hM 0 rfl rfl 3 (by decide) (hts (.fieldLink RX2 32 "RingSeriesModel" "points" "I") (by decide +kernel)) (fun _ h9 => h9) rfl dX2_median_35 ?_
            refine lv_icmp_ge (tgt := 125) hx hb dX2_median_38 (by decide) (fun c_38 => ?_) (fun c_38 => ?_)
            · have c_38 := (nI_leI (a := m_P q) (b := y) (by omega) (by omega)).mp c_38
              exact absurd c_38 (by omega)
            · have c_38 := mt (nI_leI (a := m_P q) (b := y) (by omega) (by omega)).mpr c_38
              refine lv_aload_n hx hb dX2_median_41 rfl (lv_at hl 5 rfl) ?_
              refine lv_iload hx hb dX2_median_42 (lv_at hl 0 rfl) ?_
              refine lv_iload_n hx hb dX2_median_44 rfl (lv_at hl 6 rfl) ?_
              refine lv_iload_n hx hb dX2_median_45 rfl (lv_at hl 7 rfl) ?_
              refine ro_call (va_runV (As := [.int (nI y), .int f, .int t]) (rest := []) ⟨hx, hb, hml, hown, hts⟩ (c_X2_isIn l Y q hm hM y (by omega) f t) (cwV 3 hts gX2_median_X2_isIn rfl rfl rfl (by decide +kernel) ⟨Nat.le_of_ble_eq_true rfl, Nat.le_of_ble_eq_true rfl⟩) (ro_preV hK (va_recv hK hM (ci := 2) (q0 := 0) rfl rfl)) rfl rfl hl.1 rfl (lv_room (Nat.le_of_ble_eq_true rfl)) dX2_median_46 ⟨Nat.zero_le _, Nat.zero_le _⟩) ?_
              refine lv_if_eq (tgt := 76) hx hb dX2_median_49 (by decide) (fun c_49 => ?_) (fun c_49 => ?_)
              · have c_49 := bi_eq c_49
                refine lv_iload hx hb dX2_median_76 (lv_at hl 2 rfl) ?_
                refine lv_istore (lv' := [(5, .int (nI (blw q f t (m_V q p0) y))), (7, .int (nI y)), (6, .int (nI (eqv q f t (m_V q p0) y))), (4, .int (nI p0)), (3, .int (nI (mnc q f t (m_P q)))), (0, .ref (b_o Y)), (1, .int f), (2, .int t)]) hx hb dX2_median_78 hl (by decide) rfl (fun ls hl => ?_)
                refine lv_aload_n hx hb dX2_median_80 rfl (lv_at hl 5 rfl) ?_
                refine lv_iload hx hb dX2_median_81 (lv_at hl 1 rfl) ?_
                refine lv_iload_n hx hb dX2_median_83 rfl (lv_at hl 6 rfl) ?_
                refine lv_iload_n hx hb dX2_median_84 rfl (lv_at hl 7 rfl) ?_
                refine ro_call (va_runV (As := [.int (nI y), .int f, .int t]) (rest := []) ⟨hx, hb, hml, hown, hts⟩ (c_X2_isIn l Y q hm hM y (by omega) f t) (cwV 3 hts gX2_median_X2_isIn rfl rfl rfl (by decide +kernel) ⟨Nat.le_of_ble_eq_true rfl, Nat.le_of_ble_eq_true rfl⟩) (ro_preV hK (va_recv hK hM (ci := 2) (q0 := 0) rfl rfl)) rfl rfl hl.1 rfl (lv_room (Nat.le_of_ble_eq_true rfl)) dX2_median_85 ⟨Nat.zero_le _, Nat.zero_le _⟩) ?_
                refine lv_if_eq (tgt := 115) hx hb dX2_median_88 (by decide) (fun c_88 => ?_) (fun c_88 => ?_)
                · have c_88 := bi_eq c_88
                  refine lv_iload hx hb dX2_median_115 (lv_at hl 2 rfl) ?_
                  refine lv_istore (lv' := [(6, .int (nI (eqv q f t (m_V q p0) y))), (5, .int (nI (blw q f t (m_V q p0) y))), (7, .int (nI y)), (4, .int (nI p0)), (3, .int (nI (mnc q f t (m_P q)))), (0, .ref (b_o Y)), (1, .int f), (2, .int t)]) hx hb dX2_median_117 hl (by decide) rfl (fun ls hl => ?_)
                  refine lv_iinc (v := nI (y + 1)) (lv' := [(7, .int (nI (y + 1))), (6, .int (nI (eqv q f t (m_V q p0) y))), (5, .int (nI (blw q f t (m_V q p0) y))), (4, .int (nI p0)), (3, .int (nI (mnc q f t (m_P q)))), (0, .ref (b_o Y)), (1, .int f), (2, .int t)]) hx hb dX2_median_119 hl (k := 2) rfl (inc1 _) (by decide) rfl (fun ls hl => ?_)
                  refine lv_goto (tgt := 32) hx hb dX2_median_122 (by decide) ?_
                  have e5 : blw q f t (m_V q p0) (y + 1) = blw q f t (m_V q p0) y := by rw [blw, if_neg (fun z => c_49 z.1)]
                  have e6 : eqv q f t (m_V q p0) (y + 1) = eqv q f t (m_V q p0) y := by rw [eqv, if_neg (fun z => c_88 z.1)]
                  exact ih2 (y + 1) ls (by omega) (by rw [e5, e6]; exact (lv_sub hl [0, 1, 2, 3, 4, 5, 6, 7] rfl))
                · have c_88 := bi_ne c_88
                  refine lv_aload_n hx hb dX2_median_91 rfl (lv_at hl 5 rfl) ?_
                  refine va_get (D := D) (ci := 2) (v := .ref (b_v Y)) (C := RX2) (T := TX2) (N := 6) hx hb hts hi2 hown hK hM 0 rfl rfl 5 (by decide) (hts (.fieldLink RX2 20 "RingSeriesModel" "values" "[I") (by decide +kernel)) (fun _ h9 => h9) rfl dX2_median_92 ?_
                  refine lv_iload hx hb dX2_median_95 (lv_at hl 1 rfl) ?_
                  refine ald_i (j := y) hx hb hK hM 4 0 rfl rfl (by omega) (by omega) dX2_median_97 ?_
                  refine lv_aload_n hx hb dX2_median_98 rfl (lv_at hl 5 rfl) ?_
                  refine va_get (D := D) (ci := 2) (v := .ref (b_v Y)) (C := RX2) (T := TX2) (N := 6) hx hb hts hi2 hown hK hM 0 rfl rfl 5 (by decide) (hts (.fieldLink RX2 20 "RingSeriesModel" "values" "[I") (by decide +kernel)) (fun _ h9 => h9) rfl dX2_median_99 ?_
                  refine lv_iload hx hb dX2_median_102 (lv_at hl 3 rfl) ?_
                  refine ald_i (j := p0) hx hb hK hM 4 0 rfl rfl (by omega) (by omega) dX2_median_104 ?_
                  refine lv_icmp_ne (tgt := 115) hx hb dX2_median_105 (by decide) (fun c_105 => ?_) (fun c_105 => ?_)
                  · refine lv_iload hx hb dX2_median_115 (lv_at hl 2 rfl) ?_
                    refine lv_istore (lv' := [(6, .int (nI (eqv q f t (m_V q p0) y))), (5, .int (nI (blw q f t (m_V q p0) y))), (7, .int (nI y)), (4, .int (nI p0)), (3, .int (nI (mnc q f t (m_P q)))), (0, .ref (b_o Y)), (1, .int f), (2, .int t)]) hx hb dX2_median_117 hl (by decide) rfl (fun ls hl => ?_)
                    refine lv_iinc (v := nI (y + 1)) (lv' := [(7, .int (nI (y + 1))), (6, .int (nI (eqv q f t (m_V q p0) y))), (5, .int (nI (blw q f t (m_V q p0) y))), (4, .int (nI p0)), (3, .int (nI (mnc q f t (m_P q)))), (0, .ref (b_o Y)), (1, .int f), (2, .int t)]) hx hb dX2_median_119 hl (k := 2) rfl (inc1 _) (by decide) rfl (fun ls hl => ?_)
                    refine lv_goto (tgt := 32) hx hb dX2_median_122 (by decide) ?_
                    have e5 : blw q f t (m_V q p0) (y + 1) = blw q f t (m_V q p0) y := by rw [blw, if_neg (fun z => c_49 z.1)]
                    have e6 : eqv q f t (m_V q p0) (y + 1) = eqv q f t (m_V q p0) y := by rw [eqv, if_neg (fun z => c_105 z.2)]
                    exact ih2 (y + 1) ls (by omega) (by rw [e5, e6]; exact (lv_sub hl [0, 1, 2, 3, 4, 5, 6, 7] rfl))
                  · refine lv_iload hx hb dX2_median_108 (lv_at hl 2 rfl) ?_
                    refine lv_iconst (v := 1) hx hb dX2_median_110 (by decide) ?_
                    refine lv_iadd hx hb dX2_median_111 ?_
                    refine top_i (nI_add _ 1) ?_
                    refine lv_goto (tgt := 117) hx hb dX2_median_112 (by decide) ?_
                    refine lv_istore (lv' := [(6, .int (nI ((eqv q f t (m_V q p0) y) + 1))), (5, .int (nI (blw q f t (m_V q p0) y))), (7, .int (nI y)), (4, .int (nI p0)), (3, .int (nI (mnc q f t (m_P q)))), (0, .ref (b_o Y)), (1, .int f), (2, .int t)]) hx hb dX2_median_117 hl (by decide) rfl (fun ls hl => ?_)
                    refine lv_iinc (v := nI (y + 1)) (lv' := [(7, .int (nI (y + 1))), (6, .int (nI ((eqv q f t (m_V q p0) y) + 1))), (5, .int (nI (blw q f t (m_V q p0) y))), (4, .int (nI p0)), (3, .int (nI (mnc q f t (m_P q)))), (0, .ref (b_o Y)), (1, .int f), (2, .int t)]) hx hb dX2_median_119 hl (k := 2) rfl (inc1 _) (by decide) rfl (fun ls hl => ?_)
                    refine lv_goto (tgt := 32) hx hb dX2_median_122 (by decide) ?_
                    have e5 : blw q f t (m_V q p0) (y + 1) = blw q f t (m_V q p0) y := by rw [blw, if_neg (fun z => c_49 z.1)]
                    have e6 : eqv q f t (m_V q p0) (y + 1) = (eqv q f t (m_V q p0) y) + 1 := by rw [eqv, if_pos ⟨c_88, c_105⟩]
                    exact ih2 (y + 1) ls (by omega) (by rw [e5, e6]; exact (lv_sub hl [0, 1, 2, 3, 4, 5, 6, 7] rfl))
              · have c_49 := bi_ne c_49
                refine lv_aload_n hx hb dX2_median_52 rfl (lv_at hl 5 rfl) ?_
                refine va_get (D := D) (ci := 2) (v := .ref (b_v Y)) (C := RX2) (T := TX2) (N := 6) hx hb hts hi2 hown hK hM 0 rfl rfl 5 (by decide) (hts (.fieldLink RX2 20 "RingSeriesModel" "values" "[I") (by decide +kernel)) (fun _ h9 => h9) rfl dX2_median_53 ?_
                refine lv_iload hx hb dX2_median_56 (lv_at hl 0 rfl) ?_
                refine ald_i (j := y) hx hb hK hM 4 0 rfl rfl (by omega) (by omega) dX2_median_58 ?_
                refine lv_aload_n hx hb dX2_median_59 rfl (lv_at hl 5 rfl) ?_
                refine va_get (D := D) (ci := 2) (v := .ref (b_v Y)) (C := RX2) (T := TX2) (N := 6) hx hb hts hi2 hown hK hM 0 rfl rfl 5 (by decide) (hts (.fieldLink RX2 20 "RingSeriesModel" "values" "[I") (by decide +kernel)) (fun _ h9 => h9) rfl dX2_median_60 ?_
                refine lv_iload hx hb dX2_median_63 (lv_at hl 3 rfl) ?_
                refine ald_i (j := p0) hx hb hK hM 4 0 rfl rfl (by omega) (by omega) dX2_median_65 ?_
                refine lv_icmp_ge (tgt := 76) hx hb dX2_median_66 (by decide) (fun c_66 => ?_) (fun c_66 => ?_)
                · refine lv_iload hx hb dX2_median_76 (lv_at hl 2 rfl) ?_
                  refine lv_istore (lv' := [(5, .int (nI (blw q f t (m_V q p0) y))), (7, .int (nI y)), (6, .int (nI (eqv q f t (m_V q p0) y))), (4, .int (nI p0)), (3, .int (nI (mnc q f t (m_P q)))), (0, .ref (b_o Y)), (1, .int f), (2, .int t)]) hx hb dX2_median_78 hl (by decide) rfl (fun ls hl => ?_)
                  refine lv_aload_n hx hb dX2_median_80 rfl (lv_at hl 5 rfl) ?_
                  refine lv_iload hx hb dX2_median_81 (lv_at hl 1 rfl) ?_
                  refine lv_iload_n hx hb dX2_median_83 rfl (lv_at hl 6 rfl) ?_
                  refine lv_iload_n hx hb dX2_median_84 rfl (lv_at hl 7 rfl) ?_
                  refine ro_call (va_runV (As := [.int (nI y), .int f, .int t]) (rest := []) ⟨hx, hb, hml, hown, hts⟩ (c_X2_isIn l Y q hm hM y (by omega) f t) (cwV 3 hts gX2_median_X2_isIn rfl rfl rfl (by decide +kernel) ⟨Nat.le_of_ble_eq_true rfl, Nat.le_of_ble_eq_true rfl⟩) (ro_preV hK (va_recv hK hM (ci := 2) (q0 := 0) rfl rfl)) rfl rfl hl.1 rfl (lv_room (Nat.le_of_ble_eq_true rfl)) dX2_median_85 ⟨Nat.zero_le _, Nat.zero_le _⟩) ?_
                  refine lv_if_eq (tgt := 115) hx hb dX2_median_88 (by decide) (fun c_88 => ?_) (fun c_88 => ?_)
                  · have c_88 := bi_eq c_88
                    refine lv_iload hx hb dX2_median_115 (lv_at hl 2 rfl) ?_
                    refine lv_istore (lv' := [(6, .int (nI (eqv q f t (m_V q p0) y))), (5, .int (nI (blw q f t (m_V q p0) y))), (7, .int (nI y)), (4, .int (nI p0)), (3, .int (nI (mnc q f t (m_P q)))), (0, .ref (b_o Y)), (1, .int f), (2, .int t)]) hx hb dX2_median_117 hl (by decide) rfl (fun ls hl => ?_)
                    refine lv_iinc (v := nI (y + 1)) (lv' := [(7, .int (nI (y + 1))), (6, .int (nI (eqv q f t (m_V q p0) y))), (5, .int (nI (blw q f t (m_V q p0) y))), (4, .int (nI p0)), (3, .int (nI (mnc q f t (m_P q)))), (0, .ref (b_o Y)), (1, .int f), (2, .int t)]) hx hb dX2_median_119 hl (k := 2) rfl (inc1 _) (by decide) rfl (fun ls hl => ?_)
                    refine lv_goto (tgt := 32) hx hb dX2_median_122 (by decide) ?_
                    have e5 : blw q f t (m_V q p0) (y + 1) = blw q f t (m_V q p0) y := by rw [blw, if_neg (fun z => Int32.not_lt.mpr c_66 z.2)]
                    have e6 : eqv q f t (m_V q p0) (y + 1) = eqv q f t (m_V q p0) y := by rw [eqv, if_neg (fun z => c_88 z.1)]
                    exact ih2 (y + 1) ls (by omega) (by rw [e5, e6]; exact (lv_sub hl [0, 1, 2, 3, 4, 5, 6, 7] rfl))
                  · have c_88 := bi_ne c_88
                    refine lv_aload_n hx hb dX2_median_91 rfl (lv_at hl 5 rfl) ?_
                    refine va_get (D := D) (ci := 2) (v := .ref (b_v Y)) (C := RX2) (T := TX2) (N := 6) hx hb hts hi2 hown hK hM 0 rfl rfl 5 (by decide) (hts (.fieldLink RX2 20 "RingSeriesModel" "values" "[I") (by decide +kernel)) (fun _ h9 => h9) rfl dX2_median_92 ?_
                    refine lv_iload hx hb dX2_median_95 (lv_at hl 1 rfl) ?_
                    refine ald_i (j := y) hx hb hK hM 4 0 rfl rfl (by omega) (by omega) dX2_median_97 ?_
                    refine lv_aload_n hx hb dX2_median_98 rfl (lv_at hl 5 rfl) ?_
                    refine va_get (D := D) (ci := 2) (v := .ref (b_v Y)) (C := RX2) (T := TX2) (N := 6) hx hb hts hi2 hown hK hM 0 rfl rfl 5 (by decide) (hts (.fieldLink RX2 20 "RingSeriesModel" "values" "[I") (by decide +kernel)) (fun _ h9 => h9) rfl dX2_median_99 ?_
                    refine lv_iload hx hb dX2_median_102 (lv_at hl 3 rfl) ?_
                    refine ald_i (j := p0) hx hb hK hM 4 0 rfl rfl (by omega) (by omega) dX2_median_104 ?_
                    refine lv_icmp_ne (tgt := 115) hx hb dX2_median_105 (by decide) (fun c_105 => ?_) (fun c_105 => ?_)
                    · refine lv_iload hx hb dX2_median_115 (lv_at hl 2 rfl) ?_
                      refine lv_istore (lv' := [(6, .int (nI (eqv q f t (m_V q p0) y))), (5, .int (nI (blw q f t (m_V q p0) y))), (7, .int (nI y)), (4, .int (nI p0)), (3, .int (nI (mnc q f t (m_P q)))), (0, .ref (b_o Y)), (1, .int f), (2, .int t)]) hx hb dX2_median_117 hl (by decide) rfl (fun ls hl => ?_)
                      refine lv_iinc (v := nI (y + 1)) (lv' := [(7, .int (nI (y + 1))), (6, .int (nI (eqv q f t (m_V q p0) y))), (5, .int (nI (blw q f t (m_V q p0) y))), (4, .int (nI p0)), (3, .int (nI (mnc q f t (m_P q)))), (0, .ref (b_o Y)), (1, .int f), (2, .int t)]) hx hb dX2_median_119 hl (k := 2) rfl (inc1 _) (by decide) rfl (fun ls hl => ?_)
                      refine lv_goto (tgt := 32) hx hb dX2_median_122 (by decide) ?_
                      have e5 : blw q f t (m_V q p0) (y + 1) = blw q f t (m_V q p0) y := by rw [blw, if_neg (fun z => Int32.not_lt.mpr c_66 z.2)]
                      have e6 : eqv q f t (m_V q p0) (y + 1) = eqv q f t (m_V q p0) y := by rw [eqv, if_neg (fun z => c_105 z.2)]
                      exact ih2 (y + 1) ls (by omega) (by rw [e5, e6]; exact (lv_sub hl [0, 1, 2, 3, 4, 5, 6, 7] rfl))
                    · refine lv_iload hx hb dX2_median_108 (lv_at hl 2 rfl) ?_
                      refine lv_iconst (v := 1) hx hb dX2_median_110 (by decide) ?_
                      refine lv_iadd hx hb dX2_median_111 ?_
                      refine top_i (nI_add _ 1) ?_
                      refine lv_goto (tgt := 117) hx hb dX2_median_112 (by decide) ?_
                      refine lv_istore (lv' := [(6, .int (nI ((eqv q f t (m_V q p0) y) + 1))), (5, .int (nI (blw q f t (m_V q p0) y))), (7, .int (nI y)), (4, .int (nI p0)), (3, .int (nI (mnc q f t (m_P q)))), (0, .ref (b_o Y)), (1, .int f), (2, .int t)]) hx hb dX2_median_117 hl (by decide) rfl (fun ls hl => ?_)
                      refine lv_iinc (v := nI (y + 1)) (lv' := [(7, .int (nI (y + 1))), (6, .int (nI ((eqv q f t (m_V q p0) y) + 1))), (5, .int (nI (blw q f t (m_V q p0) y))), (4, .int (nI p0)), (3, .int (nI (mnc q f t (m_P q)))), (0, .ref (b_o Y)), (1, .int f), (2, .int t)]) hx hb dX2_median_119 hl (k := 2) rfl (inc1 _) (by decide) rfl (fun ls hl => ?_)
                      refine lv_goto (tgt := 32) hx hb dX2_median_122 (by decide) ?_
                      have e5 : blw q f t (m_V q p0) (y + 1) = blw q f t (m_V q p0) y := by rw [blw, if_neg (fun z => Int32.not_lt.mpr c_66 z.2)]
                      have e6 : eqv q f t (m_V q p0) (y + 1) = (eqv q f t (m_V q p0) y) + 1 := by rw [eqv, if_pos ⟨c_88, c_105⟩]
                      exact ih2 (y + 1) ls (by omega) (by rw [e5, e6]; exact (lv_sub hl [0, 1, 2, 3, 4, 5, 6, 7] rfl))
                · refine lv_iload hx hb dX2_median_69 (lv_at hl 2 rfl) ?_
                  refine lv_iconst (v := 1) hx hb dX2_median_71 (by decide) ?_
                  refine lv_iadd hx hb dX2_median_72 ?_
                  refine top_i (nI_add _ 1) ?_
                  refine lv_goto (tgt := 78) hx hb dX2_median_73 (by decide) ?_
                  refine lv_istore (lv' := [(5, .int (nI ((blw q f t (m_V q p0) y) + 1))), (7, .int (nI y)), (6, .int (nI (eqv q f t (m_V q p0) y))), (4, .int (nI p0)), (3, .int (nI (mnc q f t (m_P q)))), (0, .ref (b_o Y)), (1, .int f), (2, .int t)]) hx hb dX2_median_78 hl (by decide) rfl (fun ls hl => ?_)
                  refine lv_aload_n hx hb dX2_median_80 rfl (lv_at hl 5 rfl) ?_
                  refine lv_iload hx hb dX2_median_81 (lv_at hl 1 rfl) ?_
                  refine lv_iload_n hx hb dX2_median_83 rfl (lv_at hl 6 rfl) ?_
                  refine lv_iload_n hx hb dX2_median_84 rfl (lv_at hl 7 rfl) ?_
                  refine ro_call (va_runV (As := [.int (nI y), .int f, .int t]) (rest := []) ⟨hx, hb, hml, hown, hts⟩ (c_X2_isIn l Y q hm hM y (by omega) f t) (cwV 3 hts gX2_median_X2_isIn rfl rfl rfl (by decide +kernel) ⟨Nat.le_of_ble_eq_true rfl, Nat.le_of_ble_eq_true rfl⟩) (ro_preV hK (va_recv hK hM (ci := 2) (q0 := 0) rfl rfl)) rfl rfl hl.1 rfl (lv_room (Nat.le_of_ble_eq_true rfl)) dX2_median_85 ⟨Nat.zero_le _, Nat.zero_le _⟩) ?_
                  refine lv_if_eq (tgt := 115) hx hb dX2_median_88 (by decide) (fun c_88 => ?_) (fun c_88 => ?_)
                  · have c_88 := bi_eq c_88
                    refine lv_iload hx hb dX2_median_115 (lv_at hl 2 rfl) ?_
                    refine lv_istore (lv' := [(6, .int (nI (eqv q f t (m_V q p0) y))), (5, .int (nI ((blw q f t (m_V q p0) y) + 1))), (7, .int (nI y)), (4, .int (nI p0)), (3, .int (nI (mnc q f t (m_P q)))), (0, .ref (b_o Y)), (1, .int f), (2, .int t)]) hx hb dX2_median_117 hl (by decide) rfl (fun ls hl => ?_)
                    refine lv_iinc (v := nI (y + 1)) (lv' := [(7, .int (nI (y + 1))), (6, .int (nI (eqv q f t (m_V q p0) y))), (5, .int (nI ((blw q f t (m_V q p0) y) + 1))), (4, .int (nI p0)), (3, .int (nI (mnc q f t (m_P q)))), (0, .ref (b_o Y)), (1, .int f), (2, .int t)]) hx hb dX2_median_119 hl (k := 2) rfl (inc1 _) (by decide) rfl (fun ls hl => ?_)
                    refine lv_goto (tgt := 32) hx hb dX2_median_122 (by decide) ?_
                    have e5 : blw q f t (m_V q p0) (y + 1) = (blw q f t (m_V q p0) y) + 1 := by rw [blw, if_pos ⟨c_49, Int32.not_le.mp c_66⟩]
                    have e6 : eqv q f t (m_V q p0) (y + 1) = eqv q f t (m_V q p0) y := by rw [eqv, if_neg (fun z => c_88 z.1)]
                    exact ih2 (y + 1) ls (by omega) (by rw [e5, e6]; exact (lv_sub hl [0, 1, 2, 3, 4, 5, 6, 7] rfl))
                  · have c_88 := bi_ne c_88
                    refine lv_aload_n hx hb dX2_median_91 rfl (lv_at hl 5 rfl) ?_
                    refine va_get (D := D) (ci := 2) (v := .ref (b_v Y)) (C := RX2) (T := TX2) (N := 6) hx hb hts hi2 hown hK hM 0 rfl rfl 5 (by decide) (hts (.fieldLink RX2 20 "RingSeriesModel" "values" "[I") (by decide +kernel)) (fun _ h9 => h9) rfl dX2_median_92 ?_
                    refine lv_iload hx hb dX2_median_95 (lv_at hl 1 rfl) ?_
                    refine ald_i (j := y) hx hb hK hM 4 0 rfl rfl (by omega) (by omega) dX2_median_97 ?_
                    refine lv_aload_n hx hb dX2_median_98 rfl (lv_at hl 5 rfl) ?_
                    refine va_get (D := D) (ci := 2) (v := .ref (b_v Y)) (C := RX2) (T := TX2) (N := 6) hx hb hts hi2 hown hK hM 0 rfl rfl 5 (by decide) (hts (.fieldLink RX2 20 "RingSeriesModel" "values" "[I") (by decide +kernel)) (fun _ h9 => h9) rfl dX2_median_99 ?_
                    refine lv_iload hx hb dX2_median_102 (lv_at hl 3 rfl) ?_
                    refine ald_i (j := p0) hx hb hK hM 4 0 rfl rfl (by omega) (by omega) dX2_median_104 ?_
                    refine lv_icmp_ne (tgt := 115) hx hb dX2_median_105 (by decide) (fun c_105 => ?_) (fun c_105 => ?_)
                    · refine lv_iload hx hb dX2_median_115 (lv_at hl 2 rfl) ?_
                      refine lv_istore (lv' := [(6, .int (nI (eqv q f t (m_V q p0) y))), (5, .int (nI ((blw q f t (m_V q p0) y) + 1))), (7, .int (nI y)), (4, .int (nI p0)), (3, .int (nI (mnc q f t (m_P q)))), (0, .ref (b_o Y)), (1, .int f), (2, .int t)]) hx hb dX2_median_117 hl (by decide) rfl (fun ls hl => ?_)
                      refine lv_iinc (v := nI (y + 1)) (lv' := [(7, .int (nI (y + 1))), (6, .int (nI (eqv q f t (m_V q p0) y))), (5, .int (nI ((blw q f t (m_V q p0) y) + 1))), (4, .int (nI p0)), (3, .int (nI (mnc q f t (m_P q)))), (0, .ref (b_o Y)), (1, .int f), (2, .int t)]) hx hb dX2_median_119 hl (k := 2) rfl (inc1 _) (by decide) rfl (fun ls hl => ?_)
                      refine lv_goto (tgt := 32) hx hb dX2_median_122 (by decide) ?_
                      have e5 : blw q f t (m_V q p0) (y + 1) = (blw q f t (m_V q p0) y) + 1 := by rw [blw, if_pos ⟨c_49, Int32.not_le.mp c_66⟩]
                      have e6 : eqv q f t (m_V q p0) (y + 1) = eqv q f t (m_V q p0) y := by rw [eqv, if_neg (fun z => c_105 z.2)]
                      exact ih2 (y + 1) ls (by omega) (by rw [e5, e6]; exact (lv_sub hl [0, 1, 2, 3, 4, 5, 6, 7] rfl))
                    · refine lv_iload hx hb dX2_median_108 (lv_at hl 2 rfl) ?_
                      refine lv_iconst (v := 1) hx hb dX2_median_110 (by decide) ?_
                      refine lv_iadd hx hb dX2_median_111 ?_
                      refine top_i (nI_add _ 1) ?_
                      refine lv_goto (tgt := 117) hx hb dX2_median_112 (by decide) ?_
                      refine lv_istore (lv' := [(6, .int (nI ((eqv q f t (m_V q p0) y) + 1))), (5, .int (nI ((blw q f t (m_V q p0) y) + 1))), (7, .int (nI y)), (4, .int (nI p0)), (3, .int (nI (mnc q f t (m_P q)))), (0, .ref (b_o Y)), (1, .int f), (2, .int t)]) hx hb dX2_median_117 hl (by decide) rfl (fun ls hl => ?_)
                      refine lv_iinc (v := nI (y + 1)) (lv' := [(7, .int (nI (y + 1))), (6, .int (nI ((eqv q f t (m_V q p0) y) + 1))), (5, .int (nI ((blw q f t (m_V q p0) y) + 1))), (4, .int (nI p0)), (3, .int (nI (mnc q f t (m_P q)))), (0, .ref (b_o Y)), (1, .int f), (2, .int t)]) hx hb dX2_median_119 hl (k := 2) rfl (inc1 _) (by decide) rfl (fun ls hl => ?_)
                      refine lv_goto (tgt := 32) hx hb dX2_median_122 (by decide) ?_
                      have e5 : blw q f t (m_V q p0) (y + 1) = (blw q f t (m_V q p0) y) + 1 := by rw [blw, if_pos ⟨c_49, Int32.not_le.mp c_66⟩]
                      have e6 : eqv q f t (m_V q p0) (y + 1) = (eqv q f t (m_V q p0) y) + 1 := by rw [eqv, if_pos ⟨c_88, c_105⟩]
                      exact ih2 (y + 1) ls (by omega) (by rw [e5, e6]; exact (lv_sub hl [0, 1, 2, 3, 4, 5, 6, 7] rfl))
        refine lv_iload hx hb dX2_median_10 (lv_at hl 0 rfl) ?_
        refine lv_aload_n hx hb dX2_median_12 rfl (lv_at hl 2 rfl) ?_
        refine va_get (D := D) (ci := 2) (v := .int (nI (m_P q))) (C := RX2) (T := TX2) (N := 6) hx hb hts hi2 hown hK hM 0 rfl rfl 3 (by decide) (hts (.fieldLink RX2 32 "RingSeriesModel" "points" "I") (by decide +kernel)) (fun _ h9 => h9) rfl dX2_median_13 ?_
        refine lv_icmp_ge (tgt := 174) hx hb dX2_median_16 (by decide) (fun c_16 => ?_) (fun c_16 => ?_)
        · have c_16 := (nI_leI (a := m_P q) (b := p0) (by omega) (by omega)).mp c_16
          exact absurd c_16 (by omega)
        · have c_16 := mt (nI_leI (a := m_P q) (b := p0) (by omega) (by omega)).mpr c_16
          refine lv_iload_n hx hb dX2_median_19 rfl (lv_at hl 1 rfl) ?_
          refine lv_if_le (tgt := 174) hx hb dX2_median_20 (by decide) (fun c_20 => ?_) (fun c_20 => ?_)
          · have c_20 := (nI_leI (a := mnc q f t (m_P q)) (b := 0) (by omega) (by omega)).mp c_20
            exact absurd c_20 (by omega)
          · have c_20 := mt (nI_leI (a := mnc q f t (m_P q)) (b := 0) (by omega) (by omega)).mpr c_20
            refine lv_iconst (v := 0) hx hb dX2_median_23 (by decide) ?_
            refine lv_istore (lv' := [(5, .int 0), (4, .int (nI p0)), (3, .int (nI (mnc q f t (m_P q)))), (0, .ref (b_o Y)), (1, .int f), (2, .int t)]) hx hb dX2_median_24 hl (by decide) rfl (fun ls hl => ?_)
            refine lv_iconst (v := 0) hx hb dX2_median_26 (by decide) ?_
            refine lv_istore (lv' := [(6, .int 0), (5, .int 0), (4, .int (nI p0)), (3, .int (nI (mnc q f t (m_P q)))), (0, .ref (b_o Y)), (1, .int f), (2, .int t)]) hx hb dX2_median_27 hl (by decide) rfl (fun ls hl => ?_)
            refine lv_iconst (v := 0) hx hb dX2_median_29 (by decide) ?_
            refine lv_istore (lv' := [(7, .int 0), (6, .int 0), (5, .int 0), (4, .int (nI p0)), (3, .int (nI (mnc q f t (m_P q)))), (0, .ref (b_o Y)), (1, .int f), (2, .int t)]) hx hb dX2_median_30 hl (by decide) rfl (fun ls hl => ?_)
            refine inner (fun ls hl => ?_) (m_P q) 0 ls (by omega) (lv_sub hl [0, 1, 2, 3, 4, 5, 6, 7] rfl)
            have g0 := blw_le q f t (m_V q p0) (m_P q)
            have g1 := eqv_le q f t (m_V q p0) (m_P q)
            refine lv_iload_n hx hb dX2_median_125 rfl (lv_at hl 4 rfl) ?_
            refine lv_iconst (v := 1) hx hb dX2_median_126 (by decide) ?_
            refine lv_isub hx hb dX2_median_127 ?_
            refine top_i (pk_sub (a := mnc q f t (m_P q)) (b := 1) (by omega)) ?_
            refine lv_iconst (v := 2) hx hb dX2_median_128 (by decide) ?_
            refine lv_idiv hx hb dX2_median_129 (by decide) ?_
            refine top_i (pk_div (a := (mnc q f t (m_P q)) - 1) (d := 2) (by omega) (by omega) (by omega)) ?_
            refine lv_istore (lv' := [(7, .int (nI (((mnc q f t (m_P q)) - 1) / 2))), (6, .int (nI (eqv q f t (m_V q p0) (m_P q)))), (5, .int (nI (blw q f t (m_V q p0) (m_P q)))), (4, .int (nI p0)), (3, .int (nI (mnc q f t (m_P q)))), (0, .ref (b_o Y)), (1, .int f), (2, .int t)]) hx hb dX2_median_130 hl (by decide) rfl (fun ls hl => ?_)
            refine lv_aload_n hx hb dX2_median_132 rfl (lv_at hl 5 rfl) ?_
            refine lv_iload hx hb dX2_median_133 (lv_at hl 3 rfl) ?_
            refine lv_iload_n hx hb dX2_median_135 rfl (lv_at hl 6 rfl) ?_
            refine lv_iload_n hx hb dX2_median_136 rfl (lv_at hl 7 rfl) ?_
            refine ro_call (va_runV (As := [.int (nI p0), .int f, .int t]) (rest := []) ⟨hx, hb, hml, hown, hts⟩ (c_X2_isIn l Y q hm hM p0 (by omega) f t) (cwV 3 hts gX2_median_X2_isIn rfl rfl rfl (by decide +kernel) ⟨Nat.le_of_ble_eq_true rfl, Nat.le_of_ble_eq_true rfl⟩) (ro_preV hK (va_recv hK hM (ci := 2) (q0 := 0) rfl rfl)) rfl rfl hl.1 rfl (lv_room (Nat.le_of_ble_eq_true rfl)) dX2_median_137 ⟨Nat.zero_le _, Nat.zero_le _⟩) ?_
            refine lv_if_eq (tgt := 168) hx hb dX2_median_140 (by decide) (fun c_140 => ?_) (fun c_140 => ?_)
            · have c_140 := bi_eq c_140
              refine lv_iinc (v := nI (p0 + 1)) (lv' := [(4, .int (nI (p0 + 1))), (7, .int (nI (((mnc q f t (m_P q)) - 1) / 2))), (6, .int (nI (eqv q f t (m_V q p0) (m_P q)))), (5, .int (nI (blw q f t (m_V q p0) (m_P q)))), (3, .int (nI (mnc q f t (m_P q)))), (0, .ref (b_o Y)), (1, .int f), (2, .int t)]) hx hb dX2_median_168 hl (k := 3) rfl (inc1 _) (by decide) rfl (fun ls hl => ?_)
              refine lv_goto (tgt := 10) hx hb dX2_median_171 (by decide) ?_
              exact ih (p0 + 1) ls (by omega) (by rw [← hf, mdr, if_neg (fun z => c_140 z.1)]) (lv_sub hl [0, 4, 5, 6, 7] rfl)
            · have c_140 := bi_ne c_140
              refine lv_iload hx hb dX2_median_143 (lv_at hl 2 rfl) ?_
              refine lv_iload hx hb dX2_median_145 (lv_at hl 0 rfl) ?_
              refine lv_icmp_gt (tgt := 168) hx hb dX2_median_147 (by decide) (fun c_147 => ?_) (fun c_147 => ?_)
              · have c_147 := (nI_ltI (a := ((mnc q f t (m_P q)) - 1) / 2) (b := blw q f t (m_V q p0) (m_P q)) (by omega) (by omega)).mp c_147
                refine lv_iinc (v := nI (p0 + 1)) (lv' := [(4, .int (nI (p0 + 1))), (7, .int (nI (((mnc q f t (m_P q)) - 1) / 2))), (6, .int (nI (eqv q f t (m_V q p0) (m_P q)))), (5, .int (nI (blw q f t (m_V q p0) (m_P q)))), (3, .int (nI (mnc q f t (m_P q)))), (0, .ref (b_o Y)), (1, .int f), (2, .int t)]) hx hb dX2_median_168 hl (k := 3) rfl (inc1 _) (by decide) rfl (fun ls hl => ?_)
                refine lv_goto (tgt := 10) hx hb dX2_median_171 (by decide) ?_
                exact ih (p0 + 1) ls (by omega) (by rw [← hf, mdr, if_neg (fun z => absurd z.2.1 (by omega))]) (lv_sub hl [0, 4, 5, 6, 7] rfl)
              · have c_147 := mt (nI_ltI (a := ((mnc q f t (m_P q)) - 1) / 2) (b := blw q f t (m_V q p0) (m_P q)) (by omega) (by omega)).mpr c_147
                refine lv_iload hx hb dX2_median_150 (lv_at hl 0 rfl) ?_
                refine lv_iload hx hb dX2_median_152 (lv_at hl 2 rfl) ?_
                refine lv_iload hx hb dX2_median_154 (lv_at hl 1 rfl) ?_
                refine lv_iadd hx hb dX2_median_156 ?_
                refine top_i (nI_add _ _) ?_
                refine lv_icmp_ge (tgt := 168) hx hb dX2_median_157 (by decide) (fun c_157 => ?_) (fun c_157 => ?_)
                · have c_157 := (nI_leI (a := (blw q f t (m_V q p0) (m_P q)) + (eqv q f t (m_V q p0) (m_P q))) (b := ((mnc q f t (m_P q)) - 1) / 2) (by omega) (by omega)).mp c_157
                  refine lv_iinc (v := nI (p0 + 1)) (lv' := [(4, .int (nI (p0 + 1))), (7, .int (nI (((mnc q f t (m_P q)) - 1) / 2))), (6, .int (nI (eqv q f t (m_V q p0) (m_P q)))), (5, .int (nI (blw q f t (m_V q p0) (m_P q)))), (3, .int (nI (mnc q f t (m_P q)))), (0, .ref (b_o Y)), (1, .int f), (2, .int t)]) hx hb dX2_median_168 hl (k := 3) rfl (inc1 _) (by decide) rfl (fun ls hl => ?_)
                  refine lv_goto (tgt := 10) hx hb dX2_median_171 (by decide) ?_
                  exact ih (p0 + 1) ls (by omega) (by rw [← hf, mdr, if_neg (fun z => absurd z.2.2 (by omega))]) (lv_sub hl [0, 4, 5, 6, 7] rfl)
                · have c_157 := mt (nI_leI (a := (blw q f t (m_V q p0) (m_P q)) + (eqv q f t (m_V q p0) (m_P q))) (b := ((mnc q f t (m_P q)) - 1) / 2) (by omega) (by omega)).mpr c_157
                  refine lv_aload_n hx hb dX2_median_160 rfl (lv_at hl 5 rfl) ?_
                  refine va_get (D := D) (ci := 2) (v := .ref (b_v Y)) (C := RX2) (T := TX2) (N := 6) hx hb hts hi2 hown hK hM 0 rfl rfl 5 (by decide) (hts (.fieldLink RX2 20 "RingSeriesModel" "values" "[I") (by decide +kernel)) (fun _ h9 => h9) rfl dX2_median_161 ?_
                  refine lv_iload hx hb dX2_median_164 (lv_at hl 3 rfl) ?_
                  refine ald_i (j := p0) hx hb hK hM 4 0 rfl rfl (by omega) (by omega) dX2_median_166 ?_
                  exact ro_iret hx hb hr (by rw [← hf, mdr, if_pos ⟨c_140, by omega, by omega⟩]) dX2_median_167 hlocks
    refine lv_aload_n hx hb dX2_median_0 rfl (lv_at hl 0 rfl) ?_
    refine lv_iload_n hx hb dX2_median_1 rfl (lv_at hl 1 rfl) ?_
    refine lv_iload_n hx hb dX2_median_2 rfl (lv_at hl 2 rfl) ?_
    refine ro_call (va_runV (As := [.int f, .int t]) (rest := []) ⟨hx, hb, hml, hown, hts⟩ (c_X2_many l Y q hm hM f t) (cwV 2 hts gX2_median_X2_many rfl rfl rfl (by decide +kernel) ⟨Nat.le_of_ble_eq_true rfl, Nat.le_of_ble_eq_true rfl⟩) (ro_preV hK (va_recv hK hM (ci := 2) (q0 := 0) rfl rfl)) rfl rfl hl.1 rfl (lv_room (Nat.le_of_ble_eq_true rfl)) dX2_median_3 ⟨Nat.zero_le _, Nat.zero_le _⟩) ?_
    refine lv_istore_n (lv' := [(3, .int (nI (mnc q f t (m_P q)))), (0, .ref (b_o Y)), (1, .int f), (2, .int t)]) hx hb dX2_median_6 rfl hl (by decide) rfl (fun ls hl => ?_)
    refine lv_iconst (v := 0) hx hb dX2_median_7 (by decide) ?_
    refine lv_istore (lv' := [(4, .int 0), (3, .int (nI (mnc q f t (m_P q)))), (0, .ref (b_o Y)), (1, .int f), (2, .int t)]) hx hb dX2_median_8 hl (by decide) rfl (fun ls hl => ?_)
    exact loop (m_P q) 0 ls (by omega) (by unfold mdM; rw [if_neg (by omega)]) (lv_sub hl [0, 1, 2, 3, 4] rfl)
  · refine lv_aload_n hx hb dX2_median_0 rfl (lv_at hl 0 rfl) ?_
    refine lv_iload_n hx hb dX2_median_1 rfl (lv_at hl 1 rfl) ?_
    refine lv_iload_n hx hb dX2_median_2 rfl (lv_at hl 2 rfl) ?_
    refine ro_call (va_runV (As := [.int f, .int t]) (rest := []) ⟨hx, hb, hml, hown, hts⟩ (c_X2_many l Y q hm hM f t) (cwV 2 hts gX2_median_X2_many rfl rfl rfl (by decide +kernel) ⟨Nat.le_of_ble_eq_true rfl, Nat.le_of_ble_eq_true rfl⟩) (ro_preV hK (va_recv hK hM (ci := 2) (q0 := 0) rfl rfl)) rfl rfl hl.1 rfl (lv_room (Nat.le_of_ble_eq_true rfl)) dX2_median_3 ⟨Nat.zero_le _, Nat.zero_le _⟩) ?_
    refine lv_istore_n (lv' := [(3, .int (nI (mnc q f t (m_P q)))), (0, .ref (b_o Y)), (1, .int f), (2, .int t)]) hx hb dX2_median_6 rfl hl (by decide) rfl (fun ls hl => ?_)
    refine lv_iconst (v := 0) hx hb dX2_median_7 (by decide) ?_
    refine lv_istore (lv' := [(4, .int 0), (3, .int (nI (mnc q f t (m_P q)))), (0, .ref (b_o Y)), (1, .int f), (2, .int t)]) hx hb dX2_median_8 hl (by decide) rfl (fun ls hl => ?_)
    refine lv_iload hx hb dX2_median_10 (lv_at hl 0 rfl) ?_
    refine lv_aload_n hx hb dX2_median_12 rfl (lv_at hl 2 rfl) ?_
    refine va_get (D := D) (ci := 2) (v := .int (nI (m_P q))) (C := RX2) (T := TX2) (N := 6) hx hb hts hi2 hown hK hM 0 rfl rfl 3 (by decide) (hts (.fieldLink RX2 32 "RingSeriesModel" "points" "I") (by decide +kernel)) (fun _ h9 => h9) rfl dX2_median_13 ?_
    refine lv_icmp_ge (tgt := 174) hx hb dX2_median_16 (by decide) (fun c_16 => ?_) (fun c_16 => ?_)
    · have c_16 := (nI_leI (a := m_P q) (b := 0) (by omega) (by omega)).mp c_16
      refine lv_iconst (v := 0) hx hb dX2_median_174 (by decide) ?_
      exact ro_iret hx hb hr (by unfold mdM; rw [if_pos (by omega)]) dX2_median_175 hlocks
    · have c_16 := mt (nI_leI (a := m_P q) (b := 0) (by omega) (by omega)).mpr c_16
      refine lv_iload_n hx hb dX2_median_19 rfl (lv_at hl 1 rfl) ?_
      refine lv_if_le (tgt := 174) hx hb dX2_median_20 (by decide) (fun c_20 => ?_) (fun c_20 => ?_)
      · have c_20 := (nI_leI (a := mnc q f t (m_P q)) (b := 0) (by omega) (by omega)).mp c_20
        refine lv_iconst (v := 0) hx hb dX2_median_174 (by decide) ?_
        exact ro_iret hx hb hr (by unfold mdM; rw [if_pos (by omega)]) dX2_median_175 hlocks
      · have c_20 := mt (nI_leI (a := mnc q f t (m_P q)) (b := 0) (by omega) (by omega)).mpr c_20
        exact absurd c_20 (by omega)
set_option maxHeartbeats 4000000 in
set_option maxRecDepth 100000 in
/-- whole(level, from, to, before) -/
theorem c_X2_whole (l : Launch) {D : va_G} {cI cA cJ : ClassId} {H : Heap} (Y : mA) (q : mv) (hm : m_ok q) (hM : va_P D vwCl (mW cI cJ Y q) H) (k : Nat) (hq : k < 3) (f t : Int32) (b0 : Int64) : Met l yX2_whole wsX2_whole ({ frames := 5, cells := 0, slots := 0, locals := 122 }) (ro_P D vwCl (tyL cI cA cJ) H [.ref (b_o Y), .int (nI k), .int f, .int t, .long b0]) (ro_Q (.long (whq q k f t b0 (kp q k))) H) 0 0 ro_no := by
  refine Met.ofW (cc := cX2_whole) (maxL := 13) (ret := (some .long)) (by decide) rfl ?_
  intro p e s m args below meth c s₁ B hml hv
  obtain ⟨rfl, hh, hK⟩ := hv
  subst hh
  have hx := B.exec
  have hb := B.bytes
  have hr := B.returns
  have hlocks := B.notSynchronized
  have hts := atoms_spec (ws := wsX2_whole) B.pre
  have hown : s.vm.findClass RX2 = some m.cls := findClass_of_methodNamed B.named
  have hi2 : ∀ w ∈ wsX20, w ∈ wsX2_whole := fun w h => List.mem_cons_of_mem _ (List.mem_append_right _ h)
  have hl := lv_entry ([.ref (b_o Y), .int (nI k), .int f, .int t, .long b0]) (n := 13) (Nat.le_of_ble_eq_true rfl)
  rw [lg_entry_eq]
  generalize (lg_sl ([.ref (b_o Y), .int (nI k), .int f, .int t, .long b0]) ++ List.replicate (13 - (lg_sl ([.ref (b_o Y), .int (nI k), .int f, .int t, .long b0])).length) Slot.unset).toArray = ls at hl ⊢
  have hl : lv_has ls 13 [(0, .ref (b_o Y)), (1, .int (nI k)), (2, .int f), (3, .int t), (4, .long b0)] := hl
  obtain ⟨hp, hT, hRW, hkn⟩ := id hm
  obtain ⟨w1, w2, w3, w4⟩ := hRW k (by omega)
  have w5 := hkn k (by omega)
  have w6 := ng_le q k (m_P q)
  have loop : ∀ (n : Nat) (i : Nat) (ls : Array Slot), i + n = kp q k → lv_has ls 13 [(8, .int (nI i)), (6, .long (whq q k f t b0 i)), (0, .ref (b_o Y)), (1, .int (nI k)), (2, .int f), (3, .int t), (4, .long b0)] → W p l e (headSpec wsX2_whole ({ frames := 5, cells := 0, slots := 0, locals := 122 })).room s m ([.ref (b_o Y), .int (nI k), .int f, .int t, .long b0] : List Value).toArray below meth c s.heap [] 0 0 (MQ below (ro_Q (.long (whq q k f t b0 (kp q k))) s.heap) ([.ref (b_o Y), .int (nI k), .int f, .int t, .long b0] : List Value).toArray s 0 0 ro_no) (F0 m 6 ls []) := by
    intro n
    induction n with
    | zero =>
      intro i ls hi hl
      refine lv_iload hx hb dX2_whole_6 (lv_at hl 0 rfl) ?_
      refine lv_aload_n hx hb dX2_whole_8 rfl (lv_at hl 2 rfl) ?_
      refine lv_iload_n hx hb dX2_whole_9 rfl (lv_at hl 3 rfl) ?_
      refine ro_call (va_runV (As := [.int (nI k)]) (rest := [.int (nI i)]) ⟨hx, hb, hml, hown, hts⟩ (c_X2_kept l Y q hm hM k (by omega)) (cwV 1 hts gX2_whole_X2_kept rfl rfl rfl (by decide +kernel) ⟨Nat.le_of_ble_eq_true rfl, Nat.le_of_ble_eq_true rfl⟩) (ro_preV hK (va_recv hK hM (ci := 2) (q0 := 0) rfl rfl)) rfl rfl hl.1 rfl (lv_room (Nat.le_of_ble_eq_true rfl)) dX2_whole_10 ⟨Nat.zero_le _, Nat.zero_le _⟩) ?_
      refine lv_icmp_ge (tgt := 87) hx hb dX2_whole_13 (by decide) (fun c_13 => ?_) (fun c_13 => ?_)
      · have c_13 := (nI_leI (a := kp q k) (b := i) (by omega) (by omega)).mp c_13
        refine lv_lload hx hb dX2_whole_87 (lv_at hl 1 rfl) ?_
        exact ro_lret hx hb hr (by rw [show i = kp q k by omega]) dX2_whole_89 hlocks
      · have c_13 := mt (nI_leI (a := kp q k) (b := i) (by omega) (by omega)).mpr c_13
        exact absurd c_13 (by omega)
    | succ n ih =>
      intro i ls hi hl
      refine lv_iload hx hb dX2_whole_6 (lv_at hl 0 rfl) ?_
      refine lv_aload_n hx hb dX2_whole_8 rfl (lv_at hl 2 rfl) ?_
      refine lv_iload_n hx hb dX2_whole_9 rfl (lv_at hl 3 rfl) ?_
      refine ro_call (va_runV (As := [.int (nI k)]) (rest := [.int (nI i)]) ⟨hx, hb, hml, hown, hts⟩ (c_X2_kept l Y q hm hM k (by omega)) (cwV 1 hts gX2_whole_X2_kept rfl rfl rfl (by decide +kernel) ⟨Nat.le_of_ble_eq_true rfl, Nat.le_of_ble_eq_true rfl⟩) (ro_preV hK (va_recv hK hM (ci := 2) (q0 := 0) rfl rfl)) rfl rfl hl.1 rfl (lv_room (Nat.le_of_ble_eq_true rfl)) dX2_whole_10 ⟨Nat.zero_le _, Nat.zero_le _⟩) ?_
      refine lv_icmp_ge (tgt := 87) hx hb dX2_whole_13 (by decide) (fun c_13 => ?_) (fun c_13 => ?_)
      · have c_13 := (nI_leI (a := kp q k) (b := i) (by omega) (by omega)).mp c_13
        exact absurd c_13 (by omega)
      · have c_13 := mt (nI_leI (a := kp q k) (b := i) (by omega) (by omega)).mpr c_13
        refine lv_aload_n hx hb dX2_whole_16 rfl (lv_at hl 2 rfl) ?_
        refine lv_iload_n hx hb dX2_whole_17 rfl (lv_at hl 3 rfl) ?_
        refine lv_iload hx hb dX2_whole_18 (lv_at hl 0 rfl) ?_
        refine ro_call (va_runV (As := [.int (nI k), .int (nI i)]) (rest := []) ⟨hx, hb, hml, hown, hts⟩ (c_X2_begin l Y q hm hM k i (by omega) (by omega)) (cwV 2 hts gX2_whole_X2_begin rfl rfl rfl (by decide +kernel) ⟨Nat.le_of_ble_eq_true rfl, Nat.le_of_ble_eq_true rfl⟩) (ro_preV hK (va_recv hK hM (ci := 2) (q0 := 0) rfl rfl)) rfl rfl hl.1 rfl (lv_room (Nat.le_of_ble_eq_true rfl)) dX2_whole_20 ⟨Nat.zero_le _, Nat.zero_le _⟩) ?_
        refine lv_lstore (lv' := [(9, .long (lN (bg q k i))), (8, .int (nI i)), (6, .long (whq q k f t b0 i)), (0, .ref (b_o Y)), (1, .int (nI k)), (2, .int f), (3, .int t), (4, .long b0)]) hx hb dX2_whole_23 hl (by decide) rfl (fun ls hl => ?_)
        refine lv_lload hx hb dX2_whole_25 (lv_at hl 0 rfl) ?_
        refine lv_aload_n hx hb dX2_whole_27 rfl (lv_at hl 3 rfl) ?_
        refine va_get (D := D) (ci := 2) (v := .ref (b_w Y)) (C := RX2) (T := TX2) (N := 6) hx hb hts hi2 hown hK hM 0 rfl rfl 2 (by decide) (hts (.fieldLink RX2 13 "RingSeriesModel" "widths" "[J") (by decide +kernel)) (fun _ h9 => h9) rfl dX2_whole_28 ?_
        refine lv_iload_n hx hb dX2_whole_31 rfl (lv_at hl 4 rfl) ?_
        refine ald_l (j := k) hx hb hK hM 2 2 rfl rfl (by omega) (by omega) dX2_whole_32 ?_
        refine lv_ladd hx hb dX2_whole_33 ?_
        refine top_l (lN_add _ _) ?_
        refine lv_lconst (v := 1) hx hb dX2_whole_34 (by decide) ?_
        refine lv_lsub hx hb dX2_whole_35 ?_
        refine top_l (lN_sub (a := (bg q k i) + (m_W q k)) (b := 1) (by omega)) ?_
        refine lv_lstore (lv' := [(11, .long (lN (((bg q k i) + (m_W q k)) - 1))), (9, .long (lN (bg q k i))), (8, .int (nI i)), (6, .long (whq q k f t b0 i)), (0, .ref (b_o Y)), (1, .int (nI k)), (2, .int f), (3, .int t), (4, .long b0)]) hx hb dX2_whole_36 hl (by decide) rfl (fun ls hl => ?_)
        refine lv_lload hx hb dX2_whole_38 (lv_at hl 1 rfl) ?_
        refine lv_iload_n hx hb dX2_whole_40 rfl (lv_at hl 6 rfl) ?_
        refine lv_i2l hx hb dX2_whole_41 rfl ?_
        refine W.lcmp hx hb dX2_whole_42 ?_
        refine lv_if_lt (tgt := 77) hx hb dX2_whole_43 (by decide) (fun c_43 => ?_) (fun c_43 => ?_)
        · have c_43 := (lg_cmp_lt _ _).mp c_43
          refine lv_lload hx hb dX2_whole_77 (lv_at hl 3 rfl) ?_
          refine lv_lstore (lv' := [(6, .long (whq q k f t b0 i)), (11, .long (lN (((bg q k i) + (m_W q k)) - 1))), (9, .long (lN (bg q k i))), (8, .int (nI i)), (0, .ref (b_o Y)), (1, .int (nI k)), (2, .int f), (3, .int t), (4, .long b0)]) hx hb dX2_whole_79 hl (by decide) rfl (fun ls hl => ?_)
          refine lv_iinc (v := nI (i + 1)) (lv' := [(8, .int (nI (i + 1))), (6, .long (whq q k f t b0 i)), (11, .long (lN (((bg q k i) + (m_W q k)) - 1))), (9, .long (lN (bg q k i))), (0, .ref (b_o Y)), (1, .int (nI k)), (2, .int f), (3, .int t), (4, .long b0)]) hx hb dX2_whole_81 hl (k := 3) rfl (inc1 _) (by decide) rfl (fun ls hl => ?_)
          refine lv_goto (tgt := 6) hx hb dX2_whole_84 (by decide) ?_
          have e9 : whq q k f t b0 (i + 1) = whq q k f t b0 i := by rw [whq, if_neg (fun z => Int64.not_le.mpr c_43 z.1)]
          exact ih (i + 1) ls (by omega) (by rw [e9]; exact (lv_sub hl [0, 1, 4, 5, 6, 7, 8] rfl))
        · have c_43 := mt (lg_cmp_lt _ _).mpr c_43
          refine lv_lload hx hb dX2_whole_46 (lv_at hl 0 rfl) ?_
          refine lv_iload_n hx hb dX2_whole_48 rfl (lv_at hl 7 rfl) ?_
          refine lv_i2l hx hb dX2_whole_49 rfl ?_
          refine W.lcmp hx hb dX2_whole_50 ?_
          refine lv_if_gt (tgt := 77) hx hb dX2_whole_51 (by decide) (fun c_51 => ?_) (fun c_51 => ?_)
          · have c_51 := (lg_cmp_gt _ _).mp c_51
            refine lv_lload hx hb dX2_whole_77 (lv_at hl 3 rfl) ?_
            refine lv_lstore (lv' := [(6, .long (whq q k f t b0 i)), (11, .long (lN (((bg q k i) + (m_W q k)) - 1))), (9, .long (lN (bg q k i))), (8, .int (nI i)), (0, .ref (b_o Y)), (1, .int (nI k)), (2, .int f), (3, .int t), (4, .long b0)]) hx hb dX2_whole_79 hl (by decide) rfl (fun ls hl => ?_)
            refine lv_iinc (v := nI (i + 1)) (lv' := [(8, .int (nI (i + 1))), (6, .long (whq q k f t b0 i)), (11, .long (lN (((bg q k i) + (m_W q k)) - 1))), (9, .long (lN (bg q k i))), (0, .ref (b_o Y)), (1, .int (nI k)), (2, .int f), (3, .int t), (4, .long b0)]) hx hb dX2_whole_81 hl (k := 3) rfl (inc1 _) (by decide) rfl (fun ls hl => ?_)
            refine lv_goto (tgt := 6) hx hb dX2_whole_84 (by decide) ?_
            have e9 : whq q k f t b0 (i + 1) = whq q k f t b0 i := by rw [whq, if_neg (fun z => Int64.not_le.mpr c_51 z.2.1)]
            exact ih (i + 1) ls (by omega) (by rw [e9]; exact (lv_sub hl [0, 1, 4, 5, 6, 7, 8] rfl))
          · have c_51 := mt (lg_cmp_gt _ _).mpr c_51
            refine lv_lload hx hb dX2_whole_54 (lv_at hl 0 rfl) ?_
            refine lv_lload hx hb dX2_whole_56 (lv_at hl 8 rfl) ?_
            refine W.lcmp hx hb dX2_whole_58 ?_
            refine lv_if_ge (tgt := 77) hx hb dX2_whole_59 (by decide) (fun c_59 => ?_) (fun c_59 => ?_)
            · have c_59 := (lg_cmp_ge _ _).mp c_59
              refine lv_lload hx hb dX2_whole_77 (lv_at hl 3 rfl) ?_
              refine lv_lstore (lv' := [(6, .long (whq q k f t b0 i)), (11, .long (lN (((bg q k i) + (m_W q k)) - 1))), (9, .long (lN (bg q k i))), (8, .int (nI i)), (0, .ref (b_o Y)), (1, .int (nI k)), (2, .int f), (3, .int t), (4, .long b0)]) hx hb dX2_whole_79 hl (by decide) rfl (fun ls hl => ?_)
              refine lv_iinc (v := nI (i + 1)) (lv' := [(8, .int (nI (i + 1))), (6, .long (whq q k f t b0 i)), (11, .long (lN (((bg q k i) + (m_W q k)) - 1))), (9, .long (lN (bg q k i))), (0, .ref (b_o Y)), (1, .int (nI k)), (2, .int f), (3, .int t), (4, .long b0)]) hx hb dX2_whole_81 hl (k := 3) rfl (inc1 _) (by decide) rfl (fun ls hl => ?_)
              refine lv_goto (tgt := 6) hx hb dX2_whole_84 (by decide) ?_
              have e9 : whq q k f t b0 (i + 1) = whq q k f t b0 i := by rw [whq, if_neg (fun z => Int64.not_lt.mpr c_59 z.2.2)]
              exact ih (i + 1) ls (by omega) (by rw [e9]; exact (lv_sub hl [0, 1, 4, 5, 6, 7, 8] rfl))
            · have c_59 := mt (lg_cmp_ge _ _).mpr c_59
              refine lv_lload hx hb dX2_whole_62 (lv_at hl 3 rfl) ?_
              refine lv_aload_n hx hb dX2_whole_64 rfl (lv_at hl 4 rfl) ?_
              refine lv_iload_n hx hb dX2_whole_65 rfl (lv_at hl 5 rfl) ?_
              refine lv_iload hx hb dX2_whole_66 (lv_at hl 2 rfl) ?_
              refine lv_iconst (v := 3) hx hb dX2_whole_68 (by decide) ?_
              refine ro_call (va_runV (As := [.int (nI k), .int (nI i), .int 3]) (rest := [.long (whq q k f t b0 i)]) ⟨hx, hb, hml, hown, hts⟩ (c_X2_figure l Y q hm hM k i (by omega) (by omega) 3 (by omega)) (cwV 3 hts gX2_whole_X2_figure rfl rfl rfl (by decide +kernel) ⟨Nat.le_of_ble_eq_true rfl, Nat.le_of_ble_eq_true rfl⟩) (ro_preV hK (va_recv hK hM (ci := 2) (q0 := 0) rfl rfl)) rfl rfl hl.1 rfl (lv_room (Nat.le_of_ble_eq_true rfl)) dX2_whole_69 ⟨Nat.zero_le _, Nat.zero_le _⟩) ?_
              refine lv_i2l hx hb dX2_whole_72 rfl ?_
              refine lv_ladd hx hb dX2_whole_73 ?_
              refine lv_goto (tgt := 79) hx hb dX2_whole_74 (by decide) ?_
              refine lv_lstore (lv' := [(6, .long ((whq q k f t b0 i) + ((fg q k i 3).toInt64))), (11, .long (lN (((bg q k i) + (m_W q k)) - 1))), (9, .long (lN (bg q k i))), (8, .int (nI i)), (0, .ref (b_o Y)), (1, .int (nI k)), (2, .int f), (3, .int t), (4, .long b0)]) hx hb dX2_whole_79 hl (by decide) rfl (fun ls hl => ?_)
              refine lv_iinc (v := nI (i + 1)) (lv' := [(8, .int (nI (i + 1))), (6, .long ((whq q k f t b0 i) + ((fg q k i 3).toInt64))), (11, .long (lN (((bg q k i) + (m_W q k)) - 1))), (9, .long (lN (bg q k i))), (0, .ref (b_o Y)), (1, .int (nI k)), (2, .int f), (3, .int t), (4, .long b0)]) hx hb dX2_whole_81 hl (k := 3) rfl (inc1 _) (by decide) rfl (fun ls hl => ?_)
              refine lv_goto (tgt := 6) hx hb dX2_whole_84 (by decide) ?_
              have e9 : whq q k f t b0 (i + 1) = (whq q k f t b0 i) + ((fg q k i 3).toInt64) := by rw [whq, if_pos ⟨Int64.not_lt.mp c_43, Int64.not_lt.mp c_51, Int64.not_le.mp c_59⟩]
              exact ih (i + 1) ls (by omega) (by rw [e9]; exact (lv_sub hl [0, 1, 4, 5, 6, 7, 8] rfl))
  refine lv_lconst (v := 0) hx hb dX2_whole_0 (by decide) ?_
  refine lv_lstore (lv' := [(6, .long 0), (0, .ref (b_o Y)), (1, .int (nI k)), (2, .int f), (3, .int t), (4, .long b0)]) hx hb dX2_whole_1 hl (by decide) rfl (fun ls hl => ?_)
  refine lv_iconst (v := 0) hx hb dX2_whole_3 (by decide) ?_
  refine lv_istore (lv' := [(8, .int 0), (6, .long 0), (0, .ref (b_o Y)), (1, .int (nI k)), (2, .int f), (3, .int t), (4, .long b0)]) hx hb dX2_whole_4 hl (by decide) rfl (fun ls hl => ?_)
  exact loop (kp q k) 0 ls (by omega) (lv_sub hl [0, 1, 2, 3, 4, 5, 6] rfl)
set_option maxHeartbeats 4000000 in
set_option maxRecDepth 100000 in
/-- reach(from, to) -/
theorem c_X2_reach (l : Launch) {D : va_G} {cI cA cJ : ClassId} {H : Heap} (Y : mA) (q : mv) (hm : m_ok q) (hM : va_P D vwCl (mW cI cJ Y q) H) (hps : ¬ m_P q = 0 → 1 ≤ kp q 0 ∧ 1 ≤ kp q 1) (f t : Int32) : Met l yX2_reach wsX2_reach ({ frames := 6, cells := 0, slots := 0, locals := 154 }) (ro_P D vwCl (tyL cI cA cJ) H [.ref (b_o Y), .int f, .int t]) (ro_Q (.long (rcM q f t)) H) 0 0 ro_no := by
  refine Met.ofW (cc := cX2_reach) (maxL := 7) (ret := (some .long)) (by decide) rfl ?_
  intro p e s m args below meth c s₁ B hml hv
  obtain ⟨rfl, hh, hK⟩ := hv
  subst hh
  have hx := B.exec
  have hb := B.bytes
  have hr := B.returns
  have hlocks := B.notSynchronized
  have hts := atoms_spec (ws := wsX2_reach) B.pre
  have hown : s.vm.findClass RX2 = some m.cls := findClass_of_methodNamed B.named
  have hi2 : ∀ w ∈ wsX20, w ∈ wsX2_reach := fun w h => List.mem_cons_of_mem _ (List.mem_append_right _ h)
  have hl := lv_entry ([.ref (b_o Y), .int f, .int t]) (n := 7) (Nat.le_of_ble_eq_true rfl)
  rw [lg_entry_eq]
  generalize (lg_sl ([.ref (b_o Y), .int f, .int t]) ++ List.replicate (7 - (lg_sl ([.ref (b_o Y), .int f, .int t])).length) Slot.unset).toArray = ls at hl ⊢
  have hl : lv_has ls 7 [(0, .ref (b_o Y)), (1, .int f), (2, .int t)] := hl
  obtain ⟨hp, hT, hRW, hkn⟩ := id hm
  have w0 : kp q 0 ≤ ng q 0 (m_P q) := hkn 0 (by omega)
  have w6 := ng_le q 0 (m_P q)
  have nq := mnc_le q f t (m_P q)
  refine lv_aload_n hx hb dX2_reach_0 rfl (lv_at hl 0 rfl) ?_
  refine va_get (D := D) (ci := 2) (v := .int (nI (m_P q))) (C := RX2) (T := TX2) (N := 6) hx hb hts hi2 hown hK hM 0 rfl rfl 3 (by decide) (hts (.fieldLink RX2 32 "RingSeriesModel" "points" "I") (by decide +kernel)) (fun _ h9 => h9) rfl dX2_reach_1 ?_
  refine lv_if_ne (tgt := 9) hx hb dX2_reach_4 (by decide) (fun c_4 => ?_) (fun c_4 => ?_)
  · have c_4 := mt (nI_eq (a := m_P q) (b := 0) (by omega) (by omega)).mpr c_4
    obtain ⟨p1, p2⟩ := hps c_4
    refine lv_aload_n hx hb dX2_reach_9 rfl (lv_at hl 0 rfl) ?_
    refine va_get (D := D) (ci := 2) (v := .ref (b_t Y)) (C := RX2) (T := TX2) (N := 6) hx hb hts hi2 hown hK hM 0 rfl rfl 4 (by decide) (hts (.fieldLink RX2 17 "RingSeriesModel" "times" "[I") (by decide +kernel)) (fun _ h9 => h9) rfl dX2_reach_10 ?_
    refine lv_aload_n hx hb dX2_reach_13 rfl (lv_at hl 0 rfl) ?_
    refine va_get (D := D) (ci := 2) (v := .int (nI (m_P q))) (C := RX2) (T := TX2) (N := 6) hx hb hts hi2 hown hK hM 0 rfl rfl 3 (by decide) (hts (.fieldLink RX2 32 "RingSeriesModel" "points" "I") (by decide +kernel)) (fun _ h9 => h9) rfl dX2_reach_14 ?_
    refine lv_aload_n hx hb dX2_reach_17 rfl (lv_at hl 0 rfl) ?_
    refine lv_iconst (v := 0) hx hb dX2_reach_18 (by decide) ?_
    refine ro_call (va_runV (As := [.int 0]) (rest := [.int (nI (m_P q)), .ref (b_t Y)]) ⟨hx, hb, hml, hown, hts⟩ (c_X2_kept l Y q hm hM 0 (by omega)) (cwV 1 hts gX2_reach_X2_kept rfl rfl rfl (by decide +kernel) ⟨Nat.le_of_ble_eq_true rfl, Nat.le_of_ble_eq_true rfl⟩) (ro_preV hK (va_recv hK hM (ci := 2) (q0 := 0) rfl rfl)) rfl rfl hl.1 rfl (lv_room (Nat.le_of_ble_eq_true rfl)) dX2_reach_19 ⟨Nat.zero_le _, Nat.zero_le _⟩) ?_
    refine lv_isub hx hb dX2_reach_22 ?_
    refine top_i (pk_sub (a := m_P q) (b := kp q 0) (by omega)) ?_
    refine ald_i (j := ((m_P q) - (kp q 0))) hx hb hK hM 3 0 rfl rfl (by omega) (by omega) dX2_reach_23 ?_
    refine lv_i2l hx hb dX2_reach_24 rfl ?_
    refine lv_lstore_n (lv' := [(3, .long ((nI (m_T q ((m_P q) - (kp q 0)))).toInt64)), (0, .ref (b_o Y)), (1, .int f), (2, .int t)]) hx hb dX2_reach_25 rfl hl (by decide) rfl (fun ls hl => ?_)
    refine lv_aload_n hx hb dX2_reach_26 rfl (lv_at hl 1 rfl) ?_
    refine lv_iconst (v := 1) hx hb dX2_reach_27 (by decide) ?_
    refine lv_iconst (v := 0) hx hb dX2_reach_28 (by decide) ?_
    refine ro_call (va_runV (As := [.int 1, .int 0]) (rest := []) ⟨hx, hb, hml, hown, hts⟩ (c_X2_begin l Y q hm hM 1 0 (by omega) (by omega)) (cwV 2 hts gX2_reach_X2_begin rfl rfl rfl (by decide +kernel) ⟨Nat.le_of_ble_eq_true rfl, Nat.le_of_ble_eq_true rfl⟩) (ro_preV hK (va_recv hK hM (ci := 2) (q0 := 0) rfl rfl)) rfl rfl hl.1 rfl (lv_room (Nat.le_of_ble_eq_true rfl)) dX2_reach_29 ⟨Nat.zero_le _, Nat.zero_le _⟩) ?_
    refine lv_lstore (lv' := [(5, .long (lN (bg q 1 0))), (3, .long ((nI (m_T q ((m_P q) - (kp q 0)))).toInt64)), (0, .ref (b_o Y)), (1, .int f), (2, .int t)]) hx hb dX2_reach_32 hl (by decide) rfl (fun ls hl => ?_)
    refine lv_aload_n hx hb dX2_reach_34 rfl (lv_at hl 2 rfl) ?_
    refine lv_iload_n hx hb dX2_reach_35 rfl (lv_at hl 3 rfl) ?_
    refine lv_iload_n hx hb dX2_reach_36 rfl (lv_at hl 4 rfl) ?_
    refine ro_call (va_runV (As := [.int f, .int t]) (rest := []) ⟨hx, hb, hml, hown, hts⟩ (c_X2_many l Y q hm hM f t) (cwV 2 hts gX2_reach_X2_many rfl rfl rfl (by decide +kernel) ⟨Nat.le_of_ble_eq_true rfl, Nat.le_of_ble_eq_true rfl⟩) (ro_preV hK (va_recv hK hM (ci := 2) (q0 := 0) rfl rfl)) rfl rfl hl.1 rfl (lv_room (Nat.le_of_ble_eq_true rfl)) dX2_reach_37 ⟨Nat.zero_le _, Nat.zero_le _⟩) ?_
    refine lv_i2l hx hb dX2_reach_40 rfl ?_
    refine lv_aload_n hx hb dX2_reach_41 rfl (lv_at hl 2 rfl) ?_
    refine lv_iconst (v := 1) hx hb dX2_reach_42 (by decide) ?_
    refine lv_iload_n hx hb dX2_reach_43 rfl (lv_at hl 3 rfl) ?_
    refine lv_iload_n hx hb dX2_reach_44 rfl (lv_at hl 4 rfl) ?_
    refine lv_lload_n hx hb dX2_reach_45 rfl (lv_at hl 1 rfl) ?_
    refine ro_call (va_runV (As := [.int 1, .int f, .int t, .long ((nI (m_T q ((m_P q) - (kp q 0)))).toInt64)]) (rest := [.long ((nI (mnc q f t (m_P q))).toInt64)]) ⟨hx, hb, hml, hown, hts⟩ (c_X2_whole l Y q hm hM 1 (by omega) f t ((nI (m_T q ((m_P q) - (kp q 0)))).toInt64)) (cwV 4 hts gX2_reach_X2_whole rfl rfl rfl (by decide +kernel) ⟨Nat.le_of_ble_eq_true rfl, Nat.le_of_ble_eq_true rfl⟩) (ro_preV hK (va_recv hK hM (ci := 2) (q0 := 0) rfl rfl)) rfl rfl hl.1 rfl (lv_room (Nat.le_of_ble_eq_true rfl)) dX2_reach_46 ⟨Nat.zero_le _, Nat.zero_le _⟩) ?_
    refine lv_ladd hx hb dX2_reach_49 ?_
    refine lv_aload_n hx hb dX2_reach_50 rfl (lv_at hl 2 rfl) ?_
    refine lv_iconst (v := 2) hx hb dX2_reach_51 (by decide) ?_
    refine lv_iload_n hx hb dX2_reach_52 rfl (lv_at hl 3 rfl) ?_
    refine lv_iload_n hx hb dX2_reach_53 rfl (lv_at hl 4 rfl) ?_
    refine lv_lload hx hb dX2_reach_54 (lv_at hl 0 rfl) ?_
    refine lv_lload_n hx hb dX2_reach_56 rfl (lv_at hl 1 rfl) ?_
    refine W.lcmp hx hb dX2_reach_57 ?_
    refine lv_if_ge (tgt := 66) hx hb dX2_reach_58 (by decide) (fun c_58 => ?_) (fun c_58 => ?_)
    · have c_58 := (lg_cmp_ge _ _).mp c_58
      refine lv_lload_n hx hb dX2_reach_66 rfl (lv_at hl 1 rfl) ?_
      refine ro_call (va_runV (As := [.int 2, .int f, .int t, .long ((nI (m_T q ((m_P q) - (kp q 0)))).toInt64)]) (rest := [.long (((nI (mnc q f t (m_P q))).toInt64) + (whq q 1 f t ((nI (m_T q ((m_P q) - (kp q 0)))).toInt64) (kp q 1)))]) ⟨hx, hb, hml, hown, hts⟩ (c_X2_whole l Y q hm hM 2 (by omega) f t ((nI (m_T q ((m_P q) - (kp q 0)))).toInt64)) (cwV 4 hts gX2_reach_X2_whole rfl rfl rfl (by decide +kernel) ⟨Nat.le_of_ble_eq_true rfl, Nat.le_of_ble_eq_true rfl⟩) (ro_preV hK (va_recv hK hM (ci := 2) (q0 := 0) rfl rfl)) rfl rfl hl.1 rfl (lv_room (Nat.le_of_ble_eq_true rfl)) dX2_reach_67 ⟨Nat.zero_le _, Nat.zero_le _⟩) ?_
      refine lv_ladd hx hb dX2_reach_70 ?_
      exact ro_lret hx hb hr (by unfold rcM; rw [if_neg c_4, if_neg (Int64.not_lt.mpr c_58)]) dX2_reach_71 hlocks
    · have c_58 := mt (lg_cmp_ge _ _).mpr c_58
      refine lv_lload hx hb dX2_reach_61 (lv_at hl 0 rfl) ?_
      refine lv_goto (tgt := 67) hx hb dX2_reach_63 (by decide) ?_
      refine ro_call (va_runV (As := [.int 2, .int f, .int t, .long (lN (bg q 1 0))]) (rest := [.long (((nI (mnc q f t (m_P q))).toInt64) + (whq q 1 f t ((nI (m_T q ((m_P q) - (kp q 0)))).toInt64) (kp q 1)))]) ⟨hx, hb, hml, hown, hts⟩ (c_X2_whole l Y q hm hM 2 (by omega) f t (lN (bg q 1 0))) (cwV 4 hts gX2_reach_X2_whole rfl rfl rfl (by decide +kernel) ⟨Nat.le_of_ble_eq_true rfl, Nat.le_of_ble_eq_true rfl⟩) (ro_preV hK (va_recv hK hM (ci := 2) (q0 := 0) rfl rfl)) rfl rfl hl.1 rfl (lv_room (Nat.le_of_ble_eq_true rfl)) dX2_reach_67 ⟨Nat.zero_le _, Nat.zero_le _⟩) ?_
      refine lv_ladd hx hb dX2_reach_70 ?_
      exact ro_lret hx hb hr (by unfold rcM; rw [if_neg c_4, if_pos (Int64.not_le.mp c_58)]) dX2_reach_71 hlocks
  · have c_4 := (nI_eq (a := m_P q) (b := 0) (by omega) (by omega)).mp c_4
    refine lv_lconst (v := 0) hx hb dX2_reach_7 (by decide) ?_
    exact ro_lret hx hb hr (by unfold rcM; rw [if_pos c_4]) dX2_reach_8 hlocks
set_option maxHeartbeats 4000000 in
set_option maxRecDepth 100000 in
/-- sound() -/
theorem c_X2_sound (l : Launch) {D : va_G} {cI cA cJ : ClassId} {H : Heap} (Y : mA) (q : mv) (hm : m_ok q) (hM : va_P D vwCl (mW cI cJ Y q) H) : Met l yX2_sound wsX2_sound ({ frames := 0, cells := 0, slots := 0, locals := 0 }) (ro_P D vwCl (tyL cI cA cJ) H [.ref (b_o Y)]) (ro_Q (.int 1) H) 0 0 ro_no := by
  refine Met.ofW (cc := cX2_sound) (maxL := 1) (ret := (some .boolean)) (by decide) rfl ?_
  intro p e s m args below meth c s₁ B hml hv
  obtain ⟨rfl, hh, hK⟩ := hv
  subst hh
  have hx := B.exec
  have hb := B.bytes
  have hr := B.returns
  have hlocks := B.notSynchronized
  have hts := atoms_spec (ws := wsX2_sound) B.pre
  have hown : s.vm.findClass RX2 = some m.cls := findClass_of_methodNamed B.named
  have hl := lv_entry ([.ref (b_o Y)]) (n := 1) (Nat.le_of_ble_eq_true rfl)
  rw [lg_entry_eq]
  generalize (lg_sl ([.ref (b_o Y)]) ++ List.replicate (1 - (lg_sl ([.ref (b_o Y)])).length) Slot.unset).toArray = ls at hl ⊢
  have hl : lv_has ls 1 [(0, .ref (b_o Y))] := hl
  refine lv_iconst (v := 1) hx hb dX2_sound_0 (by decide) ?_
  exact ro_zret hx hb hr (by first | rfl | decide) rfl dX2_sound_1 hlocks
end
section
/-! Methods that write: the world before, the world behind; all else stays. -/
def wr_Q (v : Option Value) (D : va_G) (cl : List vw_C) (H : Heap) (ws ws' : va_W) : Array Value → State → Outcome → State → Prop := fun _ _ oc t => oc = .returned v ∧ va_P D cl ws' t.heap ∧ H.size ≤ t.heap.size ∧ ∀ q : Nat, q < H.size → ¬ va_A ws H.size q → t.heap[q]? = H[q]?
theorem va_D_of {A : Nat → Prop} {ws ws' : va_W} (hm : ws'.map (·.1) = ws.map (·.1)) (h : va_D A ws) : va_D A ws' := by
  have key : ∀ (k : Nat) (x : Nat × va_E), ws'[k]? = some x → ∃ y, ws[k]? = some y ∧ y.1 = x.1 := by
    intro k x hx
    have h1 : (ws'.map (·.1))[k]? = some x.1 := by rw [List.getElem?_map, hx]; rfl
    rw [hm, List.getElem?_map] at h1
    cases hy : ws[k]? with
    | none => rw [hy] at h1; cases h1
    | some y => rw [hy] at h1; exact ⟨y, rfl, Option.some.inj h1⟩
  refine ⟨fun i j x y hi hj hxy => ?_, fun k x hx => ?_⟩
  · obtain ⟨x', hx', ex⟩ := key i x hi
    obtain ⟨y', hy', ey⟩ := key j y hj
    exact h.1 i j x' y' hx' hy' (by rw [ex, ey, hxy])
  · obtain ⟨x', hx', ex⟩ := key k x hx
    rw [← ex]
    exact h.2 k x' hx'
section WR
variable {p : Program} {l : Launch} {e : Env} {R : Room} {s : State} {m : MethodId} {args : Array Value} {below : List Frame} {meth : Method} {c : Code} {H H0 : Heap} {locs : List Loc} {cells slots mc ms : Nat} {Q : State → Prop}
variable {cc : ByteArray} {pc : Nat} {ls : Array Slot} {rest st0 : List Value} {a : Array Value} {D : va_G} {cl : List vw_C} {A0 : Nat → Prop} {wc wc' ws ws' : va_W} {b : Nat} {tys : List (ClassId × FieldType)} {A : Nat → Prop}
theorem wr_call {v : Option Value} (hr : va_Run p l e R s m args below meth c H locs cells slots mc ms (F0 m pc ls st0) rest (wr_Q v D cl H wc wc' a) (va_A wc H.size)) (hS : va_S A0 H0 H locs) (hF : ∀ q, va_A wc H.size q → A0 q)
    (kk : ∀ (H1 : Heap) (locs1 : List Loc), va_P D cl wc' H1 → H.size ≤ H1.size → (∀ q : Nat, q < H.size → ¬ va_A wc H.size q → H1[q]? = H[q]?) → va_S A0 H0 H1 locs1 → W p l e R s m args below meth c H1 locs1 (cells + mc) (slots + ms) Q (F0 m (pc + 3) ls (v.toList ++ rest))) : W p l e R s m args below meth c H locs cells slots Q (F0 m pc ls st0) := by
  intro T hT X
  obtain ⟨v', st₀, t, T', L, h0, X', hL, e1, e2, ⟨hv, hp, hz, hk⟩, st⟩ := hr T hT X
  cases hv
  obtain ⟨t2, a1, b1⟩ := kk T'.heap (locs ++ L) (by rw [e1]; exact hp) (by rw [e1]; exact hz) (fun q h1 h2 => by rw [e1]; exact hk q h1 h2)
    ⟨Nat.le_trans hS.1 (by rw [e1]; exact hz), fun q h1 h2 => by rw [e1, hk q (Nat.lt_of_lt_of_le h1 hS.1) (fun z => h2 (hF q z))]; exact hS.2.1 q h1 h2, fun q hq => by
      rcases List.mem_append.mp hq with h | h
      · exact hS.2.2 q h
      · exact hF _ (hL q h)⟩ T' rfl X'
  exact ⟨t2, st t2 a1, b1⟩
theorem wr_vret (hexec : p.tables.exec = Jvm.exec) (hb : c.code = cc) (hr : meth.sig.returnType = none) (hP : va_P D cl ws' H) (hS : va_S (va_A ws H0.size) H0 H locs) (hdg : decode cc pc = .ok (.return_, 1)) (hlocks : meth.locks = false) : W p l e R s m args below meth c H locs cells slots (MQ below (wr_Q none D cl H0 ws ws') args s cells slots (va_A ws H0.size)) (F0 m pc ls []) :=
  W.vret hexec hb hr (fun t ht _ => ⟨rfl, by rw [ht]; exact hP, by rw [ht]; exact hS.1, fun q h1 h2 => by rw [ht]; exact hS.2.1 q h1 h2⟩) hS.2.2 hdg hlocks
theorem wr_iret (hexec : p.tables.exec = Jvm.exec) (hb : c.code = cc) (hr : meth.sig.returnType = some .int) {v w : Int32} (hv : v = w) (hP : va_P D cl ws' H) (hS : va_S (va_A ws H0.size) H0 H locs) (hdg : decode cc pc = .ok (.ireturn, 1)) (hlocks : meth.locks = false) : W p l e R s m args below meth c H locs cells slots (MQ below (wr_Q (some (.int w)) D cl H0 ws ws') args s cells slots (va_A ws H0.size)) (F0 m pc ls [.int v]) := by
  subst hv
  exact W.iret hexec hb hr (fun t ht _ => ⟨rfl, by rw [ht]; exact hP, by rw [ht]; exact hS.1, fun q h1 h2 => by rw [ht]; exact hS.2.1 q h1 h2⟩) hS.2.2 hdg hlocks
theorem ast_i {j : Nat} (hexec : p.tables.exec = Jvm.exec) (hb : c.code = cc) (hK : va_K D cl tys s) (hP : va_P D cl ws H) (hD : va_D A ws) (hS : va_S A H0 H locs) (q0 t0 : Nat) {cA : ClassId} {n : Nat} {f : Nat → Int32} (ha : ws[q0]? = some (b, .inl (cA, n, .inl f))) (ht : tys[t0]? = some (cA, .int)) (hj : j < n) (hn : n < 2 ^ 31) {x : Int32} (hdg : decode cc pc = .ok (.iastore, 1))
    (kk : ∀ (H1 : Heap) (locs1 : List Loc), va_P D cl (ws.set q0 (b, .inl (cA, n, .inl (upd f j x)))) H1 → va_D A (ws.set q0 (b, .inl (cA, n, .inl (upd f j x)))) → va_S A H0 H1 locs1 → W p l e R s m args below meth c H1 locs1 cells slots Q (F0 m (pc + 1) ls rest)) : W p l e R s m args below meth c H locs cells slots Q (F0 m pc ls (.int x :: .int (nI j) :: .ref b :: rest)) := by
  refine va_iast hexec hb hK hP hD hS q0 t0 ha ht (vp_in_nI hj hn) hdg ?_
  rw [nI_clamp (Nat.lt_trans hj hn)]
  exact kk
theorem ast_l {j : Nat} (hexec : p.tables.exec = Jvm.exec) (hb : c.code = cc) (hK : va_K D cl tys s) (hP : va_P D cl ws H) (hD : va_D A ws) (hS : va_S A H0 H locs) (q0 t0 : Nat) {cA : ClassId} {n : Nat} {f : Nat → Int64} (ha : ws[q0]? = some (b, .inl (cA, n, .inr (.inl f)))) (ht : tys[t0]? = some (cA, .long)) (hj : j < n) (hn : n < 2 ^ 31) {x : Int64} (hdg : decode cc pc = .ok (.lastore, 1))
    (kk : ∀ (H1 : Heap) (locs1 : List Loc), va_P D cl (ws.set q0 (b, .inl (cA, n, .inr (.inl (vp_updL f j x))))) H1 → va_D A (ws.set q0 (b, .inl (cA, n, .inr (.inl (vp_updL f j x))))) → va_S A H0 H1 locs1 → W p l e R s m args below meth c H1 locs1 cells slots Q (F0 m (pc + 1) ls rest)) : W p l e R s m args below meth c H locs cells slots Q (F0 m pc ls (.long x :: .int (nI j) :: .ref b :: rest)) := by
  refine va_last hexec hb hK hP hD hS q0 t0 ha ht (vp_in_nI hj hn) hdg ?_
  rw [nI_clamp (Nat.lt_trans hj hn)]
  exact kk
end WR
/-! a ring with one part anew -/
def u_h (r : rgV) (x : Nat) : rgV := (v_N r, v_w r, v_o r, x, v_g r, v_S r, v_F r)
def u_o (r : rgV) (x : Nat) : rgV := (v_N r, v_w r, x, v_h r, v_g r, v_S r, v_F r)
def u_g (r : rgV) (x : Int32) : rgV := (v_N r, v_w r, v_o r, v_h r, x, v_S r, v_F r)
def u_S (r : rgV) (x : Nat → Int32) : rgV := (v_N r, v_w r, v_o r, v_h r, v_g r, x, v_F r)
def u_F (r : rgV) (x : Nat → Nat → Int32) : rgV := (v_N r, v_w r, v_o r, v_h r, v_g r, v_S r, x)
theorem ok_h {r : rgV} {x : Nat} (hk : r_ok r) (hx : x ≤ v_N r) : r_ok (u_h r x) := by obtain ⟨k1, k2, k3, k4, k5, k6⟩ := hk; unfold r_ok; exact ⟨k1, k2, k3, hx, k5, k6⟩
theorem ok_o {r : rgV} {x : Nat} (hk : r_ok r) (hx : x < v_N r) : r_ok (u_o r x) := by obtain ⟨k1, k2, k3, k4, k5, k6⟩ := hk; unfold r_ok; exact ⟨k1, k2, hx, k4, k5, k6⟩
theorem ok_g {r : rgV} {x : Int32} (hk : r_ok r) : r_ok (u_g r x) := by obtain ⟨k1, k2, k3, k4, k5, k6⟩ := hk; unfold r_ok; exact ⟨k1, k2, k3, k4, k5, k6⟩
theorem ok_S {r : rgV} {x : Nat → Int32} (hk : r_ok r) : r_ok (u_S r x) := by obtain ⟨k1, k2, k3, k4, k5, k6⟩ := hk; unfold r_ok; exact ⟨k1, k2, k3, k4, k5, k6⟩
theorem ok_F {r : rgV} {x : Nat → Nat → Int32} (hk : r_ok r) : r_ok (u_F r x) := by obtain ⟨k1, k2, k3, k4, k5, k6⟩ := hk; unfold r_ok; exact ⟨k1, k2, k3, k4, k5, k6⟩
/-- one row anew -/
def fU (F : Nat → Nat → Int32) (k0 : Nat) (f : Nat → Int32) : Nat → Nat → Int32 := fun k => bif k == k0 then f else F k
/-- the place behind the oldest one -/
def nxo (r : rgV) : Nat := if v_o r + 1 < v_N r then v_o r + 1 else 0
/-- a new entry: where there is room, and where there is none -/
def opA (r : rgV) (b : Int32) : rgV := u_S (u_h r (v_h r + 1)) (upd (v_S r) (sl (u_h r (v_h r + 1)) (v_h r)) b)
def opB (r : rgV) (b : Int32) : rgV := u_S (u_o (u_g r (v_S r (v_o r))) (nxo r)) (upd (v_S r) (sl (u_o (u_g r (v_S r (v_o r))) (nxo r)) (v_h r - 1)) b)
def opV (r : rgV) (b : Int32) : rgV := if v_h r < v_N r then opA r b else opB r b
end
section
theorem rgW_D {X : Nat → Prop} {cI cA : ClassId} {A : rgA} {r q : rgV} (h : va_D X (rgW cI cA A r)) : va_D X (rgW cI cA A q) := va_D_of (ws := rgW cI cA A r) (by rfl) h
set_option maxHeartbeats 4000000 in
set_option maxRecDepth 100000 in
/-- open(begin), there is room -/
theorem c_X0_open_a (l : Launch) {D : va_G} {cI cA cJ : ClassId} {H : Heap} (A : rgA) (r : rgV) (hk : r_ok r) (hP : va_P D vwCl (rgW cI cA A r) H) {A0 : Nat → Prop} (hD0 : va_D A0 (rgW cI cA A r)) (b : Int32) (hh1 : v_h r < v_N r) : Met l yX0_open wsX0_open ({ frames := 1, cells := 0, slots := 0, locals := 22 }) (ro_P D vwCl (tyL cI cA cJ) H [.ref (a_o A), .int b]) (wr_Q (none) D vwCl H (rgW cI cA A r) (rgW cI cA A (opA r b))) 0 0 (va_A (rgW cI cA A r) H.size) := by
  refine Met.ofW (cc := cX0_open) (maxL := 2) (ret := none) (by decide) rfl ?_
  intro p e s m args below meth c s₁ B hml hv
  obtain ⟨rfl, hh, hK⟩ := hv
  subst hh
  have hx := B.exec
  have hb := B.bytes
  have hr := B.returns
  have hlocks := B.notSynchronized
  have hts := atoms_spec (ws := wsX0_open) B.pre
  have hown : s.vm.findClass RX0 = some m.cls := findClass_of_methodNamed B.named
  have hi0 : ∀ w ∈ wsX00, w ∈ wsX0_open := fun w h => List.mem_cons_of_mem _ (List.mem_append_right _ h)
  have hl := lv_entry ([.ref (a_o A), .int b]) (n := 2) (Nat.le_of_ble_eq_true rfl)
  rw [lg_entry_eq]
  generalize (lg_sl ([.ref (a_o A), .int b]) ++ List.replicate (2 - (lg_sl ([.ref (a_o A), .int b])).length) Slot.unset).toArray = ls at hl ⊢
  have hl : lv_has ls 2 [(0, .ref (a_o A)), (1, .int b)] := hl
  have hD := hD0.self (sz := s.heap.size)
  have hA : ∀ z : Nat, s.heap.size ≤ z → va_A (rgW cI cA A r) s.heap.size z := fun z h => Or.inr h
  have hS : va_S (va_A (rgW cI cA A r) s.heap.size) s.heap s.heap [] := va_S.rf
  obtain ⟨k1, k2, k3, k4, k5, k6⟩ := id hk
  have hP : va_P D vwCl [(a_o A, .inr (0, [.int (nI (v_N r)), .int (nI (v_w r)), .ref (a_s A), .ref (a_f A), .int (nI (v_o r)), .int (nI (v_h r)), .int (v_g r)])), (a_s A, .inl (cI, v_N r, .inl (v_S r))), (a_f A, .inl (cA, 4, .inr (.inr (.inr (.inr (fun k => some (a_b A k))))))), (a_b A 0, .inl (cI, v_N r, .inl (v_F r 0))), (a_b A 1, .inl (cI, v_N r, .inl (v_F r 1))), (a_b A 2, .inl (cI, v_N r, .inl (v_F r 2))), (a_b A 3, .inl (cI, v_N r, .inl (v_F r 3)))] s.heap := hP
  have hD : va_D (va_A (rgW cI cA A r) s.heap.size) [(a_o A, .inr (0, [.int (nI (v_N r)), .int (nI (v_w r)), .ref (a_s A), .ref (a_f A), .int (nI (v_o r)), .int (nI (v_h r)), .int (v_g r)])), (a_s A, .inl (cI, v_N r, .inl (v_S r))), (a_f A, .inl (cA, 4, .inr (.inr (.inr (.inr (fun k => some (a_b A k))))))), (a_b A 0, .inl (cI, v_N r, .inl (v_F r 0))), (a_b A 1, .inl (cI, v_N r, .inl (v_F r 1))), (a_b A 2, .inl (cI, v_N r, .inl (v_F r 2))), (a_b A 3, .inl (cI, v_N r, .inl (v_F r 3)))] := hD
  refine lv_aload_n hx hb dX0_open_0 rfl (lv_at hl 0 rfl) ?_
  refine va_get (D := D) (ci := 0) (v := .int (nI (v_h r))) (C := RX0) (T := TX0) (N := 7) hx hb hts hi0 hown hK hP 0 rfl rfl 5 (by decide) (hts (.fieldLink RX0 30 "RingSeries$Ring" "held" "I") (by decide +kernel)) (fun _ h9 => h9) rfl dX0_open_1 ?_
  refine lv_aload_n hx hb dX0_open_4 rfl (lv_at hl 0 rfl) ?_
  refine va_get (D := D) (ci := 0) (v := .int (nI (v_N r))) (C := RX0) (T := TX0) (N := 7) hx hb hts hi0 hown hK hP 0 rfl rfl 0 (by decide) (hts (.fieldLink RX0 15 "RingSeries$Ring" "room" "I") (by decide +kernel)) (fun _ h9 => h9) rfl dX0_open_5 ?_
  refine lv_icmp_ge (tgt := 24) hx hb dX0_open_8 (by decide) (fun c_8 => ?_) (fun c_8 => ?_)
  · have c_8 := (nI_leI (a := v_N r) (b := v_h r) (by omega) (by omega)).mp c_8
    exact absurd c_8 (by omega)
  · have c_8 := mt (nI_leI (a := v_N r) (b := v_h r) (by omega) (by omega)).mpr c_8
    refine lv_aload_n hx hb dX0_open_11 rfl (lv_at hl 0 rfl) ?_
    refine lv_dup hx hb dX0_open_12 rfl ?_
    refine va_get (D := D) (ci := 0) (v := .int (nI (v_h r))) (C := RX0) (T := TX0) (N := 7) hx hb hts hi0 hown hK hP 0 rfl rfl 5 (by decide) (hts (.fieldLink RX0 30 "RingSeries$Ring" "held" "I") (by decide +kernel)) (fun _ h9 => h9) rfl dX0_open_13 ?_
    refine lv_iconst (v := 1) hx hb dX0_open_16 (by decide) ?_
    refine lv_iadd hx hb dX0_open_17 ?_
    refine top_i (nI_add _ 1) ?_
    refine va_put (D := D) (ci := 0) (v := .int (nI ((v_h r) + 1))) (ty := .int) (C := RX0) (T := TX0) (N := 7) hx hb hts hi0 tyX0 tyX0_ok nmX0 hown hK hP hD hS 0 rfl rfl 5 (by decide) (hts (.fieldLink RX0 30 "RingSeries$Ring" "held" "I") (by decide +kernel)) (fun _ h9 => h9) rfl (by decide +kernel) rfl rfl (Nat.le_of_ble_eq_true rfl) dX0_open_18 (fun H locs hP hD hS => ?_)
    have hP : va_P D vwCl [(a_o A, .inr (0, [.int (nI (v_N r)), .int (nI (v_w r)), .ref (a_s A), .ref (a_f A), .int (nI (v_o r)), .int (nI ((v_h r) + 1)), .int (v_g r)])), (a_s A, .inl (cI, v_N r, .inl (v_S r))), (a_f A, .inl (cA, 4, .inr (.inr (.inr (.inr (fun k => some (a_b A k))))))), (a_b A 0, .inl (cI, v_N r, .inl (v_F r 0))), (a_b A 1, .inl (cI, v_N r, .inl (v_F r 1))), (a_b A 2, .inl (cI, v_N r, .inl (v_F r 2))), (a_b A 3, .inl (cI, v_N r, .inl (v_F r 3)))] H := hP
    have hD : va_D (va_A (rgW cI cA A r) s.heap.size) [(a_o A, .inr (0, [.int (nI (v_N r)), .int (nI (v_w r)), .ref (a_s A), .ref (a_f A), .int (nI (v_o r)), .int (nI ((v_h r) + 1)), .int (v_g r)])), (a_s A, .inl (cI, v_N r, .inl (v_S r))), (a_f A, .inl (cA, 4, .inr (.inr (.inr (.inr (fun k => some (a_b A k))))))), (a_b A 0, .inl (cI, v_N r, .inl (v_F r 0))), (a_b A 1, .inl (cI, v_N r, .inl (v_F r 1))), (a_b A 2, .inl (cI, v_N r, .inl (v_F r 2))), (a_b A 3, .inl (cI, v_N r, .inl (v_F r 3)))] := hD
    refine lv_goto (tgt := 64) hx hb dX0_open_21 (by decide) ?_
    refine lv_aload_n hx hb dX0_open_64 rfl (lv_at hl 0 rfl) ?_
    refine va_get (D := D) (ci := 0) (v := .ref (a_s A)) (C := RX0) (T := TX0) (N := 7) hx hb hts hi0 hown hK hP 0 rfl rfl 2 (by decide) (hts (.fieldLink RX0 21 "RingSeries$Ring" "starts" "[I") (by decide +kernel)) (fun _ h9 => h9) rfl dX0_open_65 ?_
    refine lv_aload_n hx hb dX0_open_68 rfl (lv_at hl 0 rfl) ?_
    refine lv_aload_n hx hb dX0_open_69 rfl (lv_at hl 0 rfl) ?_
    refine va_get (D := D) (ci := 0) (v := .int (nI ((v_h r) + 1))) (C := RX0) (T := TX0) (N := 7) hx hb hts hi0 hown hK hP 0 rfl rfl 5 (by decide) (hts (.fieldLink RX0 30 "RingSeries$Ring" "held" "I") (by decide +kernel)) (fun _ h9 => h9) rfl dX0_open_70 ?_
    refine lv_iconst (v := 1) hx hb dX0_open_73 (by decide) ?_
    refine lv_isub hx hb dX0_open_74 ?_
    refine top_i (pk_sub (a := (v_h r) + 1) (b := 1) (by omega)) ?_
    refine top_i (congrArg nI (Nat.add_sub_cancel (n := v_h r) (m := 1))) ?_
    refine ro_call (va_runV (As := [.int (nI (v_h r))]) (rest := [.ref (a_s A)]) ⟨hx, hb, hml, hown, hts⟩ (c_X0_slot l A (u_h r ((v_h r) + 1)) (ok_h hk (by omega)) (show va_P D vwCl (rgW cI cA A (u_h r ((v_h r) + 1))) _ from hP) (v_h r) (by show _ < v_N r; omega)) (cwV 1 hts gX0_open_X0_slot rfl rfl rfl (by decide +kernel) ⟨Nat.le_of_ble_eq_true rfl, Nat.le_of_ble_eq_true rfl⟩) (ro_preV hK (va_recv hK hP (ci := 0) (q0 := 0) rfl rfl)) rfl rfl hl.1 rfl (lv_room (Nat.le_of_ble_eq_true rfl)) dX0_open_75 ⟨Nat.zero_le _, Nat.zero_le _⟩) ?_
    refine lv_iload_n hx hb dX0_open_78 rfl (lv_at hl 1 rfl) ?_
    refine ast_i (j := (sl (u_h r ((v_h r) + 1)) (v_h r))) hx hb hK hP hD hS 1 0 rfl rfl (sl_lt (ok_h hk (by omega)) (by show _ < v_N r; omega)) (by omega) dX0_open_79 (fun H locs hP hD hS => ?_)
    have hP : va_P D vwCl [(a_o A, .inr (0, [.int (nI (v_N r)), .int (nI (v_w r)), .ref (a_s A), .ref (a_f A), .int (nI (v_o r)), .int (nI ((v_h r) + 1)), .int (v_g r)])), (a_s A, .inl (cI, v_N r, .inl (upd (v_S r) (sl (u_h r ((v_h r) + 1)) (v_h r)) b))), (a_f A, .inl (cA, 4, .inr (.inr (.inr (.inr (fun k => some (a_b A k))))))), (a_b A 0, .inl (cI, v_N r, .inl (v_F r 0))), (a_b A 1, .inl (cI, v_N r, .inl (v_F r 1))), (a_b A 2, .inl (cI, v_N r, .inl (v_F r 2))), (a_b A 3, .inl (cI, v_N r, .inl (v_F r 3)))] H := hP
    have hD : va_D (va_A (rgW cI cA A r) s.heap.size) [(a_o A, .inr (0, [.int (nI (v_N r)), .int (nI (v_w r)), .ref (a_s A), .ref (a_f A), .int (nI (v_o r)), .int (nI ((v_h r) + 1)), .int (v_g r)])), (a_s A, .inl (cI, v_N r, .inl (upd (v_S r) (sl (u_h r ((v_h r) + 1)) (v_h r)) b))), (a_f A, .inl (cA, 4, .inr (.inr (.inr (.inr (fun k => some (a_b A k))))))), (a_b A 0, .inl (cI, v_N r, .inl (v_F r 0))), (a_b A 1, .inl (cI, v_N r, .inl (v_F r 1))), (a_b A 2, .inl (cI, v_N r, .inl (v_F r 2))), (a_b A 3, .inl (cI, v_N r, .inl (v_F r 3)))] := hD
    exact wr_vret hx hb hr (show va_P D vwCl (rgW cI cA A (opA r b)) _ from hP) hS dX0_open_80 hlocks
set_option maxHeartbeats 4000000 in
set_option maxRecDepth 100000 in
/-- open(begin), there is no room -/
theorem c_X0_open_b (l : Launch) {D : va_G} {cI cA cJ : ClassId} {H : Heap} (A : rgA) (r : rgV) (hk : r_ok r) (hP : va_P D vwCl (rgW cI cA A r) H) {A0 : Nat → Prop} (hD0 : va_D A0 (rgW cI cA A r)) (b : Int32) (hh1 : ¬ v_h r < v_N r) : Met l yX0_open wsX0_open ({ frames := 1, cells := 0, slots := 0, locals := 22 }) (ro_P D vwCl (tyL cI cA cJ) H [.ref (a_o A), .int b]) (wr_Q (none) D vwCl H (rgW cI cA A r) (rgW cI cA A (opB r b))) 0 0 (va_A (rgW cI cA A r) H.size) := by
  refine Met.ofW (cc := cX0_open) (maxL := 2) (ret := none) (by decide) rfl ?_
  intro p e s m args below meth c s₁ B hml hv
  obtain ⟨rfl, hh, hK⟩ := hv
  subst hh
  have hx := B.exec
  have hb := B.bytes
  have hr := B.returns
  have hlocks := B.notSynchronized
  have hts := atoms_spec (ws := wsX0_open) B.pre
  have hown : s.vm.findClass RX0 = some m.cls := findClass_of_methodNamed B.named
  have hi0 : ∀ w ∈ wsX00, w ∈ wsX0_open := fun w h => List.mem_cons_of_mem _ (List.mem_append_right _ h)
  have hl := lv_entry ([.ref (a_o A), .int b]) (n := 2) (Nat.le_of_ble_eq_true rfl)
  rw [lg_entry_eq]
  generalize (lg_sl ([.ref (a_o A), .int b]) ++ List.replicate (2 - (lg_sl ([.ref (a_o A), .int b])).length) Slot.unset).toArray = ls at hl ⊢
  have hl : lv_has ls 2 [(0, .ref (a_o A)), (1, .int b)] := hl
  have hD := hD0.self (sz := s.heap.size)
  have hA : ∀ z : Nat, s.heap.size ≤ z → va_A (rgW cI cA A r) s.heap.size z := fun z h => Or.inr h
  have hS : va_S (va_A (rgW cI cA A r) s.heap.size) s.heap s.heap [] := va_S.rf
  obtain ⟨k1, k2, k3, k4, k5, k6⟩ := id hk
  have nx9 : nxo r < v_N r := by unfold nxo; split <;> omega
  have hP : va_P D vwCl [(a_o A, .inr (0, [.int (nI (v_N r)), .int (nI (v_w r)), .ref (a_s A), .ref (a_f A), .int (nI (v_o r)), .int (nI (v_h r)), .int (v_g r)])), (a_s A, .inl (cI, v_N r, .inl (v_S r))), (a_f A, .inl (cA, 4, .inr (.inr (.inr (.inr (fun k => some (a_b A k))))))), (a_b A 0, .inl (cI, v_N r, .inl (v_F r 0))), (a_b A 1, .inl (cI, v_N r, .inl (v_F r 1))), (a_b A 2, .inl (cI, v_N r, .inl (v_F r 2))), (a_b A 3, .inl (cI, v_N r, .inl (v_F r 3)))] s.heap := hP
  have hD : va_D (va_A (rgW cI cA A r) s.heap.size) [(a_o A, .inr (0, [.int (nI (v_N r)), .int (nI (v_w r)), .ref (a_s A), .ref (a_f A), .int (nI (v_o r)), .int (nI (v_h r)), .int (v_g r)])), (a_s A, .inl (cI, v_N r, .inl (v_S r))), (a_f A, .inl (cA, 4, .inr (.inr (.inr (.inr (fun k => some (a_b A k))))))), (a_b A 0, .inl (cI, v_N r, .inl (v_F r 0))), (a_b A 1, .inl (cI, v_N r, .inl (v_F r 1))), (a_b A 2, .inl (cI, v_N r, .inl (v_F r 2))), (a_b A 3, .inl (cI, v_N r, .inl (v_F r 3)))] := hD
  refine lv_aload_n hx hb dX0_open_0 rfl (lv_at hl 0 rfl) ?_
  refine va_get (D := D) (ci := 0) (v := .int (nI (v_h r))) (C := RX0) (T := TX0) (N := 7) hx hb hts hi0 hown hK hP 0 rfl rfl 5 (by decide) (hts (.fieldLink RX0 30 "RingSeries$Ring" "held" "I") (by decide +kernel)) (fun _ h9 => h9) rfl dX0_open_1 ?_
  refine lv_aload_n hx hb dX0_open_4 rfl (lv_at hl 0 rfl) ?_
  refine va_get (D := D) (ci := 0) (v := .int (nI (v_N r))) (C := RX0) (T := TX0) (N := 7) hx hb hts hi0 hown hK hP 0 rfl rfl 0 (by decide) (hts (.fieldLink RX0 15 "RingSeries$Ring" "room" "I") (by decide +kernel)) (fun _ h9 => h9) rfl dX0_open_5 ?_
  refine lv_icmp_ge (tgt := 24) hx hb dX0_open_8 (by decide) (fun c_8 => ?_) (fun c_8 => ?_)
  · have c_8 := (nI_leI (a := v_N r) (b := v_h r) (by omega) (by omega)).mp c_8
    refine lv_aload_n hx hb dX0_open_24 rfl (lv_at hl 0 rfl) ?_
    refine lv_aload_n hx hb dX0_open_25 rfl (lv_at hl 0 rfl) ?_
    refine va_get (D := D) (ci := 0) (v := .ref (a_s A)) (C := RX0) (T := TX0) (N := 7) hx hb hts hi0 hown hK hP 0 rfl rfl 2 (by decide) (hts (.fieldLink RX0 21 "RingSeries$Ring" "starts" "[I") (by decide +kernel)) (fun _ h9 => h9) rfl dX0_open_26 ?_
    refine lv_aload_n hx hb dX0_open_29 rfl (lv_at hl 0 rfl) ?_
    refine va_get (D := D) (ci := 0) (v := .int (nI (v_o r))) (C := RX0) (T := TX0) (N := 7) hx hb hts hi0 hown hK hP 0 rfl rfl 4 (by decide) (hts (.fieldLink RX0 79 "RingSeries$Ring" "oldest" "I") (by decide +kernel)) (fun _ h9 => h9) rfl dX0_open_30 ?_
    refine ald_i (j := (v_o r)) hx hb hK hP 1 0 rfl rfl (by omega) (by omega) dX0_open_33 ?_
    refine va_put (D := D) (ci := 0) (v := .int ((v_S r) (v_o r))) (ty := .int) (C := RX0) (T := TX0) (N := 7) hx hb hts hi0 tyX0 tyX0_ok nmX0 hown hK hP hD hS 0 rfl rfl 6 (by decide) (hts (.fieldLink RX0 9 "RingSeries$Ring" "gone" "I") (by decide +kernel)) (fun _ h9 => h9) rfl (by decide +kernel) rfl rfl (Nat.le_of_ble_eq_true rfl) dX0_open_34 (fun H locs hP hD hS => ?_)
    have hP : va_P D vwCl [(a_o A, .inr (0, [.int (nI (v_N r)), .int (nI (v_w r)), .ref (a_s A), .ref (a_f A), .int (nI (v_o r)), .int (nI (v_h r)), .int ((v_S r) (v_o r))])), (a_s A, .inl (cI, v_N r, .inl (v_S r))), (a_f A, .inl (cA, 4, .inr (.inr (.inr (.inr (fun k => some (a_b A k))))))), (a_b A 0, .inl (cI, v_N r, .inl (v_F r 0))), (a_b A 1, .inl (cI, v_N r, .inl (v_F r 1))), (a_b A 2, .inl (cI, v_N r, .inl (v_F r 2))), (a_b A 3, .inl (cI, v_N r, .inl (v_F r 3)))] H := hP
    have hD : va_D (va_A (rgW cI cA A r) s.heap.size) [(a_o A, .inr (0, [.int (nI (v_N r)), .int (nI (v_w r)), .ref (a_s A), .ref (a_f A), .int (nI (v_o r)), .int (nI (v_h r)), .int ((v_S r) (v_o r))])), (a_s A, .inl (cI, v_N r, .inl (v_S r))), (a_f A, .inl (cA, 4, .inr (.inr (.inr (.inr (fun k => some (a_b A k))))))), (a_b A 0, .inl (cI, v_N r, .inl (v_F r 0))), (a_b A 1, .inl (cI, v_N r, .inl (v_F r 1))), (a_b A 2, .inl (cI, v_N r, .inl (v_F r 2))), (a_b A 3, .inl (cI, v_N r, .inl (v_F r 3)))] := hD
    refine lv_aload_n hx hb dX0_open_37 rfl (lv_at hl 0 rfl) ?_
    refine lv_aload_n hx hb dX0_open_38 rfl (lv_at hl 0 rfl) ?_
    refine va_get (D := D) (ci := 0) (v := .int (nI (v_o r))) (C := RX0) (T := TX0) (N := 7) hx hb hts hi0 hown hK hP 0 rfl rfl 4 (by decide) (hts (.fieldLink RX0 79 "RingSeries$Ring" "oldest" "I") (by decide +kernel)) (fun _ h9 => h9) rfl dX0_open_39 ?_
    refine lv_iconst (v := 1) hx hb dX0_open_42 (by decide) ?_
    refine lv_iadd hx hb dX0_open_43 ?_
    refine top_i (nI_add _ 1) ?_
    refine lv_aload_n hx hb dX0_open_44 rfl (lv_at hl 0 rfl) ?_
    refine va_get (D := D) (ci := 0) (v := .int (nI (v_N r))) (C := RX0) (T := TX0) (N := 7) hx hb hts hi0 hown hK hP 0 rfl rfl 0 (by decide) (hts (.fieldLink RX0 15 "RingSeries$Ring" "room" "I") (by decide +kernel)) (fun _ h9 => h9) rfl dX0_open_45 ?_
    refine lv_icmp_ge (tgt := 60) hx hb dX0_open_48 (by decide) (fun c_48 => ?_) (fun c_48 => ?_)
    · have c_48 := (nI_leI (a := v_N r) (b := (v_o r) + 1) (by omega) (by omega)).mp c_48
      refine lv_iconst (v := 0) hx hb dX0_open_60 (by decide) ?_
      refine top_i (show (0 : Int32) = nI (nxo r) by unfold nxo; rw [if_neg (by omega)]; rfl) ?_
      refine va_put (D := D) (ci := 0) (v := .int (nI (nxo r))) (ty := .int) (C := RX0) (T := TX0) (N := 7) hx hb hts hi0 tyX0 tyX0_ok nmX0 hown hK hP hD hS 0 rfl rfl 4 (by decide) (hts (.fieldLink RX0 79 "RingSeries$Ring" "oldest" "I") (by decide +kernel)) (fun _ h9 => h9) rfl (by decide +kernel) rfl rfl (Nat.le_of_ble_eq_true rfl) dX0_open_61 (fun H locs hP hD hS => ?_)
      have hP : va_P D vwCl [(a_o A, .inr (0, [.int (nI (v_N r)), .int (nI (v_w r)), .ref (a_s A), .ref (a_f A), .int (nI (nxo r)), .int (nI (v_h r)), .int ((v_S r) (v_o r))])), (a_s A, .inl (cI, v_N r, .inl (v_S r))), (a_f A, .inl (cA, 4, .inr (.inr (.inr (.inr (fun k => some (a_b A k))))))), (a_b A 0, .inl (cI, v_N r, .inl (v_F r 0))), (a_b A 1, .inl (cI, v_N r, .inl (v_F r 1))), (a_b A 2, .inl (cI, v_N r, .inl (v_F r 2))), (a_b A 3, .inl (cI, v_N r, .inl (v_F r 3)))] H := hP
      have hD : va_D (va_A (rgW cI cA A r) s.heap.size) [(a_o A, .inr (0, [.int (nI (v_N r)), .int (nI (v_w r)), .ref (a_s A), .ref (a_f A), .int (nI (nxo r)), .int (nI (v_h r)), .int ((v_S r) (v_o r))])), (a_s A, .inl (cI, v_N r, .inl (v_S r))), (a_f A, .inl (cA, 4, .inr (.inr (.inr (.inr (fun k => some (a_b A k))))))), (a_b A 0, .inl (cI, v_N r, .inl (v_F r 0))), (a_b A 1, .inl (cI, v_N r, .inl (v_F r 1))), (a_b A 2, .inl (cI, v_N r, .inl (v_F r 2))), (a_b A 3, .inl (cI, v_N r, .inl (v_F r 3)))] := hD
      refine lv_aload_n hx hb dX0_open_64 rfl (lv_at hl 0 rfl) ?_
      refine va_get (D := D) (ci := 0) (v := .ref (a_s A)) (C := RX0) (T := TX0) (N := 7) hx hb hts hi0 hown hK hP 0 rfl rfl 2 (by decide) (hts (.fieldLink RX0 21 "RingSeries$Ring" "starts" "[I") (by decide +kernel)) (fun _ h9 => h9) rfl dX0_open_65 ?_
      refine lv_aload_n hx hb dX0_open_68 rfl (lv_at hl 0 rfl) ?_
      refine lv_aload_n hx hb dX0_open_69 rfl (lv_at hl 0 rfl) ?_
      refine va_get (D := D) (ci := 0) (v := .int (nI (v_h r))) (C := RX0) (T := TX0) (N := 7) hx hb hts hi0 hown hK hP 0 rfl rfl 5 (by decide) (hts (.fieldLink RX0 30 "RingSeries$Ring" "held" "I") (by decide +kernel)) (fun _ h9 => h9) rfl dX0_open_70 ?_
      refine lv_iconst (v := 1) hx hb dX0_open_73 (by decide) ?_
      refine lv_isub hx hb dX0_open_74 ?_
      refine top_i (pk_sub (a := v_h r) (b := 1) (by omega)) ?_
      refine ro_call (va_runV (As := [.int (nI ((v_h r) - 1))]) (rest := [.ref (a_s A)]) ⟨hx, hb, hml, hown, hts⟩ (c_X0_slot l A (u_o (u_g r ((v_S r) (v_o r))) (nxo r)) (ok_o (ok_g hk) nx9) (show va_P D vwCl (rgW cI cA A (u_o (u_g r ((v_S r) (v_o r))) (nxo r))) _ from hP) ((v_h r) - 1) (by show _ < v_N r; omega)) (cwV 1 hts gX0_open_X0_slot rfl rfl rfl (by decide +kernel) ⟨Nat.le_of_ble_eq_true rfl, Nat.le_of_ble_eq_true rfl⟩) (ro_preV hK (va_recv hK hP (ci := 0) (q0 := 0) rfl rfl)) rfl rfl hl.1 rfl (lv_room (Nat.le_of_ble_eq_true rfl)) dX0_open_75 ⟨Nat.zero_le _, Nat.zero_le _⟩) ?_
      refine lv_iload_n hx hb dX0_open_78 rfl (lv_at hl 1 rfl) ?_
      refine ast_i (j := (sl (u_o (u_g r ((v_S r) (v_o r))) (nxo r)) ((v_h r) - 1))) hx hb hK hP hD hS 1 0 rfl rfl (sl_lt (ok_o (ok_g hk) nx9) (by show _ < v_N r; omega)) (by omega) dX0_open_79 (fun H locs hP hD hS => ?_)
      have hP : va_P D vwCl [(a_o A, .inr (0, [.int (nI (v_N r)), .int (nI (v_w r)), .ref (a_s A), .ref (a_f A), .int (nI (nxo r)), .int (nI (v_h r)), .int ((v_S r) (v_o r))])), (a_s A, .inl (cI, v_N r, .inl (upd (v_S r) (sl (u_o (u_g r ((v_S r) (v_o r))) (nxo r)) ((v_h r) - 1)) b))), (a_f A, .inl (cA, 4, .inr (.inr (.inr (.inr (fun k => some (a_b A k))))))), (a_b A 0, .inl (cI, v_N r, .inl (v_F r 0))), (a_b A 1, .inl (cI, v_N r, .inl (v_F r 1))), (a_b A 2, .inl (cI, v_N r, .inl (v_F r 2))), (a_b A 3, .inl (cI, v_N r, .inl (v_F r 3)))] H := hP
      have hD : va_D (va_A (rgW cI cA A r) s.heap.size) [(a_o A, .inr (0, [.int (nI (v_N r)), .int (nI (v_w r)), .ref (a_s A), .ref (a_f A), .int (nI (nxo r)), .int (nI (v_h r)), .int ((v_S r) (v_o r))])), (a_s A, .inl (cI, v_N r, .inl (upd (v_S r) (sl (u_o (u_g r ((v_S r) (v_o r))) (nxo r)) ((v_h r) - 1)) b))), (a_f A, .inl (cA, 4, .inr (.inr (.inr (.inr (fun k => some (a_b A k))))))), (a_b A 0, .inl (cI, v_N r, .inl (v_F r 0))), (a_b A 1, .inl (cI, v_N r, .inl (v_F r 1))), (a_b A 2, .inl (cI, v_N r, .inl (v_F r 2))), (a_b A 3, .inl (cI, v_N r, .inl (v_F r 3)))] := hD
      exact wr_vret hx hb hr (show va_P D vwCl (rgW cI cA A (opB r b)) _ from hP) hS dX0_open_80 hlocks
    · have c_48 := mt (nI_leI (a := v_N r) (b := (v_o r) + 1) (by omega) (by omega)).mpr c_48
      refine lv_aload_n hx hb dX0_open_51 rfl (lv_at hl 0 rfl) ?_
      refine va_get (D := D) (ci := 0) (v := .int (nI (v_o r))) (C := RX0) (T := TX0) (N := 7) hx hb hts hi0 hown hK hP 0 rfl rfl 4 (by decide) (hts (.fieldLink RX0 79 "RingSeries$Ring" "oldest" "I") (by decide +kernel)) (fun _ h9 => h9) rfl dX0_open_52 ?_
      refine lv_iconst (v := 1) hx hb dX0_open_55 (by decide) ?_
      refine lv_iadd hx hb dX0_open_56 ?_
      refine top_i (nI_add _ 1) ?_
      refine lv_goto (tgt := 61) hx hb dX0_open_57 (by decide) ?_
      refine top_i (show nI (v_o r + 1) = nI (nxo r) by unfold nxo; rw [if_pos (by omega)]) ?_
      refine va_put (D := D) (ci := 0) (v := .int (nI (nxo r))) (ty := .int) (C := RX0) (T := TX0) (N := 7) hx hb hts hi0 tyX0 tyX0_ok nmX0 hown hK hP hD hS 0 rfl rfl 4 (by decide) (hts (.fieldLink RX0 79 "RingSeries$Ring" "oldest" "I") (by decide +kernel)) (fun _ h9 => h9) rfl (by decide +kernel) rfl rfl (Nat.le_of_ble_eq_true rfl) dX0_open_61 (fun H locs hP hD hS => ?_)
      have hP : va_P D vwCl [(a_o A, .inr (0, [.int (nI (v_N r)), .int (nI (v_w r)), .ref (a_s A), .ref (a_f A), .int (nI (nxo r)), .int (nI (v_h r)), .int ((v_S r) (v_o r))])), (a_s A, .inl (cI, v_N r, .inl (v_S r))), (a_f A, .inl (cA, 4, .inr (.inr (.inr (.inr (fun k => some (a_b A k))))))), (a_b A 0, .inl (cI, v_N r, .inl (v_F r 0))), (a_b A 1, .inl (cI, v_N r, .inl (v_F r 1))), (a_b A 2, .inl (cI, v_N r, .inl (v_F r 2))), (a_b A 3, .inl (cI, v_N r, .inl (v_F r 3)))] H := hP
      have hD : va_D (va_A (rgW cI cA A r) s.heap.size) [(a_o A, .inr (0, [.int (nI (v_N r)), .int (nI (v_w r)), .ref (a_s A), .ref (a_f A), .int (nI (nxo r)), .int (nI (v_h r)), .int ((v_S r) (v_o r))])), (a_s A, .inl (cI, v_N r, .inl (v_S r))), (a_f A, .inl (cA, 4, .inr (.inr (.inr (.inr (fun k => some (a_b A k))))))), (a_b A 0, .inl (cI, v_N r, .inl (v_F r 0))), (a_b A 1, .inl (cI, v_N r, .inl (v_F r 1))), (a_b A 2, .inl (cI, v_N r, .inl (v_F r 2))), (a_b A 3, .inl (cI, v_N r, .inl (v_F r 3)))] := hD
      refine lv_aload_n hx hb dX0_open_64 rfl (lv_at hl 0 rfl) ?_
      refine va_get (D := D) (ci := 0) (v := .ref (a_s A)) (C := RX0) (T := TX0) (N := 7) hx hb hts hi0 hown hK hP 0 rfl rfl 2 (by decide) (hts (.fieldLink RX0 21 "RingSeries$Ring" "starts" "[I") (by decide +kernel)) (fun _ h9 => h9) rfl dX0_open_65 ?_
      refine lv_aload_n hx hb dX0_open_68 rfl (lv_at hl 0 rfl) ?_
      refine lv_aload_n hx hb dX0_open_69 rfl (lv_at hl 0 rfl) ?_
      refine va_get (D := D) (ci := 0) (v := .int (nI (v_h r))) (C := RX0) (T := TX0) (N := 7) hx hb hts hi0 hown hK hP 0 rfl rfl 5 (by decide) (hts (.fieldLink RX0 30 "RingSeries$Ring" "held" "I") (by decide +kernel)) (fun _ h9 => h9) rfl dX0_open_70 ?_
      refine lv_iconst (v := 1) hx hb dX0_open_73 (by decide) ?_
      refine lv_isub hx hb dX0_open_74 ?_
      refine top_i (pk_sub (a := v_h r) (b := 1) (by omega)) ?_
      refine ro_call (va_runV (As := [.int (nI ((v_h r) - 1))]) (rest := [.ref (a_s A)]) ⟨hx, hb, hml, hown, hts⟩ (c_X0_slot l A (u_o (u_g r ((v_S r) (v_o r))) (nxo r)) (ok_o (ok_g hk) nx9) (show va_P D vwCl (rgW cI cA A (u_o (u_g r ((v_S r) (v_o r))) (nxo r))) _ from hP) ((v_h r) - 1) (by show _ < v_N r; omega)) (cwV 1 hts gX0_open_X0_slot rfl rfl rfl (by decide +kernel) ⟨Nat.le_of_ble_eq_true rfl, Nat.le_of_ble_eq_true rfl⟩) (ro_preV hK (va_recv hK hP (ci := 0) (q0 := 0) rfl rfl)) rfl rfl hl.1 rfl (lv_room (Nat.le_of_ble_eq_true rfl)) dX0_open_75 ⟨Nat.zero_le _, Nat.zero_le _⟩) ?_
      refine lv_iload_n hx hb dX0_open_78 rfl (lv_at hl 1 rfl) ?_
      refine ast_i (j := (sl (u_o (u_g r ((v_S r) (v_o r))) (nxo r)) ((v_h r) - 1))) hx hb hK hP hD hS 1 0 rfl rfl (sl_lt (ok_o (ok_g hk) nx9) (by show _ < v_N r; omega)) (by omega) dX0_open_79 (fun H locs hP hD hS => ?_)
      have hP : va_P D vwCl [(a_o A, .inr (0, [.int (nI (v_N r)), .int (nI (v_w r)), .ref (a_s A), .ref (a_f A), .int (nI (nxo r)), .int (nI (v_h r)), .int ((v_S r) (v_o r))])), (a_s A, .inl (cI, v_N r, .inl (upd (v_S r) (sl (u_o (u_g r ((v_S r) (v_o r))) (nxo r)) ((v_h r) - 1)) b))), (a_f A, .inl (cA, 4, .inr (.inr (.inr (.inr (fun k => some (a_b A k))))))), (a_b A 0, .inl (cI, v_N r, .inl (v_F r 0))), (a_b A 1, .inl (cI, v_N r, .inl (v_F r 1))), (a_b A 2, .inl (cI, v_N r, .inl (v_F r 2))), (a_b A 3, .inl (cI, v_N r, .inl (v_F r 3)))] H := hP
      have hD : va_D (va_A (rgW cI cA A r) s.heap.size) [(a_o A, .inr (0, [.int (nI (v_N r)), .int (nI (v_w r)), .ref (a_s A), .ref (a_f A), .int (nI (nxo r)), .int (nI (v_h r)), .int ((v_S r) (v_o r))])), (a_s A, .inl (cI, v_N r, .inl (upd (v_S r) (sl (u_o (u_g r ((v_S r) (v_o r))) (nxo r)) ((v_h r) - 1)) b))), (a_f A, .inl (cA, 4, .inr (.inr (.inr (.inr (fun k => some (a_b A k))))))), (a_b A 0, .inl (cI, v_N r, .inl (v_F r 0))), (a_b A 1, .inl (cI, v_N r, .inl (v_F r 1))), (a_b A 2, .inl (cI, v_N r, .inl (v_F r 2))), (a_b A 3, .inl (cI, v_N r, .inl (v_F r 3)))] := hD
      exact wr_vret hx hb hr (show va_P D vwCl (rgW cI cA A (opB r b)) _ from hP) hS dX0_open_80 hlocks
  · have c_8 := mt (nI_leI (a := v_N r) (b := v_h r) (by omega) (by omega)).mpr c_8
    exact absurd c_8 (by omega)
theorem c_X0_open (l : Launch) {D : va_G} {cI cA cJ : ClassId} {H : Heap} (A : rgA) (r : rgV) (hk : r_ok r) (hP : va_P D vwCl (rgW cI cA A r) H) {A0 : Nat → Prop} (hD0 : va_D A0 (rgW cI cA A r)) (b : Int32) : Met l yX0_open wsX0_open ({ frames := 1, cells := 0, slots := 0, locals := 22 }) (ro_P D vwCl (tyL cI cA cJ) H [.ref (a_o A), .int b]) (wr_Q none D vwCl H (rgW cI cA A r) (rgW cI cA A (opV r b))) 0 0 (va_A (rgW cI cA A r) H.size) := by
  unfold opV
  by_cases h : v_h r < v_N r
  · rw [if_pos h]; exact c_X0_open_a l A r hk hP hD0 b h
  · rw [if_neg h]; exact c_X0_open_b l A r hk hP hD0 b h
theorem opV_ok {r : rgV} {b : Int32} (hk : r_ok r) : r_ok (opV r b) ∧ v_N (opV r b) = v_N r ∧ v_w (opV r b) = v_w r ∧ v_F (opV r b) = v_F r ∧ 1 ≤ v_h (opV r b) := by
  obtain ⟨k1, k2, k3, k4, k5, k6⟩ := id hk
  unfold opV
  by_cases h : v_h r < v_N r
  · rw [if_pos h]
    exact ⟨ok_S (ok_h hk (by omega)), rfl, rfl, rfl, Nat.le_add_left 1 (v_h r)⟩
  · rw [if_neg h]
    refine ⟨ok_S (ok_o (ok_g hk) ?_), rfl, rfl, rfl, (show 1 ≤ v_h r by omega)⟩
    show nxo r < v_N r
    unfold nxo
    split <;> omega
/-- figures of a point joined to an entry's, or alone -/
def ow (k : Nat) (v : Int32) : Int32 := if k = 3 then 1 else v
def rowN (r : rgV) (v : Int32) : rgV := u_F r (fU (fU (fU (fU (v_F r) 0 (upd (v_F r 0) (sl r (v_h r - 1)) v)) 1 (upd (v_F r 1) (sl r (v_h r - 1)) v)) 2 (upd (v_F r 2) (sl r (v_h r - 1)) v)) 3 (upd (v_F r 3) (sl r (v_h r - 1)) 1))
def rowJ (r : rgV) (v : Int32) : rgV := u_F r (fU (fU (fU (fU (v_F r) 0 (upd (v_F r 0) (sl r (v_h r - 1)) (jn 0 (v_F r 0 (sl r (v_h r - 1))) v))) 1 (upd (v_F r 1) (sl r (v_h r - 1)) (jn 1 (v_F r 1 (sl r (v_h r - 1))) v))) 2 (upd (v_F r 2) (sl r (v_h r - 1)) (jn 2 (v_F r 2 (sl r (v_h r - 1))) v))) 3 (upd (v_F r 3) (sl r (v_h r - 1)) (jn 3 (v_F r 3 (sl r (v_h r - 1))) 1)))
/-- a point comes to a ring -/
abbrev opn (r : rgV) (tm : Nat) : Prop := v_h r = 0 ∨ ¬ v_E r (v_h r - 1) = nI (tm - tm % v_w r)
def tkV (r : rgV) (tm : Nat) (v : Int32) : rgV := if opn r tm then rowN (opV r (nI (tm - tm % v_w r))) v else rowJ r v
set_option maxHeartbeats 4000000 in
set_option maxRecDepth 100000 in
/-- take(time, value) -/
theorem c_X0_take_a (l : Launch) {D : va_G} {cI cA cJ : ClassId} {H : Heap} (A : rgA) (r : rgV) (hk : r_ok r) (hP : va_P D vwCl (rgW cI cA A r) H) {A0 : Nat → Prop} (hD0 : va_D A0 (rgW cI cA A r)) (tm : Nat) (ht : tm < 2 ^ 31) (v : Int32) (ho : opn r tm) : Met l yX0_take wsX0_take ({ frames := 2, cells := 0, slots := 0, locals := 43 }) (ro_P D vwCl (tyL cI cA cJ) H [.ref (a_o A), .int (nI tm), .int v]) (wr_Q (none) D vwCl H (rgW cI cA A r) (rgW cI cA A (rowN (opV r (nI (tm - tm % v_w r))) v))) 0 0 (va_A (rgW cI cA A r) H.size) := by
  refine Met.ofW (cc := cX0_take) (maxL := 9) (ret := none) (by decide) rfl ?_
  intro p e s m args below meth c s₁ B hml hv
  obtain ⟨rfl, hh, hK⟩ := hv
  subst hh
  have hx := B.exec
  have hb := B.bytes
  have hr := B.returns
  have hlocks := B.notSynchronized
  have hts := atoms_spec (ws := wsX0_take) B.pre
  have hown : s.vm.findClass RX0 = some m.cls := findClass_of_methodNamed B.named
  have hi0 : ∀ w ∈ wsX00, w ∈ wsX0_take := fun w h => List.mem_cons_of_mem _ (List.mem_append_right _ h)
  have hl := lv_entry ([.ref (a_o A), .int (nI tm), .int v]) (n := 9) (Nat.le_of_ble_eq_true rfl)
  rw [lg_entry_eq]
  generalize (lg_sl ([.ref (a_o A), .int (nI tm), .int v]) ++ List.replicate (9 - (lg_sl ([.ref (a_o A), .int (nI tm), .int v])).length) Slot.unset).toArray = ls at hl ⊢
  have hl : lv_has ls 9 [(0, .ref (a_o A)), (1, .int (nI tm)), (2, .int v)] := hl
  have hD := hD0.self (sz := s.heap.size)
  have hA : ∀ z : Nat, s.heap.size ≤ z → va_A (rgW cI cA A r) s.heap.size z := fun z h => Or.inr h
  have hS : va_S (va_A (rgW cI cA A r) s.heap.size) s.heap s.heap [] := va_S.rf
  obtain ⟨k1, k2, k3, k4, k5, k6⟩ := id hk
  have q9 : tm % v_w r ≤ tm := Nat.mod_le _ _
  have hP : va_P D vwCl [(a_o A, .inr (0, [.int (nI (v_N r)), .int (nI (v_w r)), .ref (a_s A), .ref (a_f A), .int (nI (v_o r)), .int (nI (v_h r)), .int (v_g r)])), (a_s A, .inl (cI, v_N r, .inl (v_S r))), (a_f A, .inl (cA, 4, .inr (.inr (.inr (.inr (fun k => some (a_b A k))))))), (a_b A 0, .inl (cI, v_N r, .inl (v_F r 0))), (a_b A 1, .inl (cI, v_N r, .inl (v_F r 1))), (a_b A 2, .inl (cI, v_N r, .inl (v_F r 2))), (a_b A 3, .inl (cI, v_N r, .inl (v_F r 3)))] s.heap := hP
  have hD : va_D (va_A (rgW cI cA A r) s.heap.size) [(a_o A, .inr (0, [.int (nI (v_N r)), .int (nI (v_w r)), .ref (a_s A), .ref (a_f A), .int (nI (v_o r)), .int (nI (v_h r)), .int (v_g r)])), (a_s A, .inl (cI, v_N r, .inl (v_S r))), (a_f A, .inl (cA, 4, .inr (.inr (.inr (.inr (fun k => some (a_b A k))))))), (a_b A 0, .inl (cI, v_N r, .inl (v_F r 0))), (a_b A 1, .inl (cI, v_N r, .inl (v_F r 1))), (a_b A 2, .inl (cI, v_N r, .inl (v_F r 2))), (a_b A 3, .inl (cI, v_N r, .inl (v_F r 3)))] := hD
  refine lv_iload_n hx hb dX0_take_0 rfl (lv_at hl 1 rfl) ?_
  refine lv_iload_n hx hb dX0_take_1 rfl (lv_at hl 1 rfl) ?_
  refine lv_aload_n hx hb dX0_take_2 rfl (lv_at hl 0 rfl) ?_
  refine va_get (D := D) (ci := 0) (v := .int (nI (v_w r))) (C := RX0) (T := TX0) (N := 7) hx hb hts hi0 hown hK hP 0 rfl rfl 1 (by decide) (hts (.fieldLink RX0 18 "RingSeries$Ring" "width" "I") (by decide +kernel)) (fun _ h9 => h9) rfl dX0_take_3 ?_
  refine lv_irem hx hb dX0_take_6 (nI_ne0 (by omega) (by omega)) ?_
  refine top_i (pk_rem (by omega) (by omega) (by omega)) ?_
  refine lv_isub hx hb dX0_take_7 ?_
  refine top_i (pk_sub (a := tm) (b := tm % v_w r) (Nat.mod_le _ _)) ?_
  refine lv_istore_n (lv' := [(3, .int (nI (tm - (tm % v_w r)))), (0, .ref (a_o A)), (1, .int (nI tm)), (2, .int v)]) hx hb dX0_take_8 rfl hl (by decide) rfl (fun ls hl => ?_)
  refine lv_aload_n hx hb dX0_take_9 rfl (lv_at hl 1 rfl) ?_
  refine va_get (D := D) (ci := 0) (v := .int (nI (v_h r))) (C := RX0) (T := TX0) (N := 7) hx hb hts hi0 hown hK hP 0 rfl rfl 5 (by decide) (hts (.fieldLink RX0 30 "RingSeries$Ring" "held" "I") (by decide +kernel)) (fun _ h9 => h9) rfl dX0_take_10 ?_
  refine lv_if_eq (tgt := 30) hx hb dX0_take_13 (by decide) (fun c_13 => ?_) (fun c_13 => ?_)
  · have c_13 := (nI_eq (a := v_h r) (b := 0) (by omega) (by omega)).mp c_13
    refine lv_iconst (v := 1) hx hb dX0_take_30 (by decide) ?_
    refine lv_goto (tgt := 35) hx hb dX0_take_31 (by decide) ?_
    refine lv_istore (lv' := [(4, .int 1), (3, .int (nI (tm - (tm % v_w r)))), (0, .ref (a_o A)), (1, .int (nI tm)), (2, .int v)]) hx hb dX0_take_35 hl (by decide) rfl (fun ls hl => ?_)
    refine lv_iload hx hb dX0_take_37 (lv_at hl 0 rfl) ?_
    refine lv_if_eq (tgt := 47) hx hb dX0_take_39 (by decide) (fun c_39 => ?_) (fun c_39 => ?_)
    · exact absurd c_39 (by decide)
    · refine lv_aload_n hx hb dX0_take_42 rfl (lv_at hl 2 rfl) ?_
      refine lv_iload_n hx hb dX0_take_43 rfl (lv_at hl 1 rfl) ?_
      refine wr_call (va_runV (As := [.int (nI (tm - (tm % v_w r)))]) (rest := []) ⟨hx, hb, hml, hown, hts⟩ (c_X0_open l A r hk (show va_P D vwCl (rgW cI cA A r) _ from hP) hD (nI (tm - tm % v_w r))) (cwV 1 hts gX0_take_X0_open rfl rfl rfl (by decide +kernel) ⟨Nat.le_of_ble_eq_true rfl, Nat.le_of_ble_eq_true rfl⟩) (ro_preV hK (va_recv hK hP (ci := 0) (q0 := 0) rfl rfl)) rfl rfl hl.1 rfl (lv_room (Nat.le_of_ble_eq_true rfl)) dX0_take_44 ⟨Nat.zero_le _, Nat.zero_le _⟩) hS (fun q h => h) (fun H locs hP _ _ hS => ?_)
      have hD : va_D (va_A (rgW cI cA A r) s.heap.size) (rgW cI cA A (opV r (nI (tm - tm % v_w r)))) := rgW_D (r := r) hD
      obtain ⟨o1, o2, o3, o4, o5⟩ := opV_ok (b := nI (tm - tm % v_w r)) hk
      generalize opV r (nI (tm - tm % v_w r)) = r1 at hP hD o1 o2 o3 o4 o5 ⊢
      obtain ⟨z1, z2, z3, z4, z5, z6⟩ := id o1
      have s9 : sl r1 (v_h r1 - 1) < v_N r1 := sl_lt o1 (by omega)
      have hP : va_P D vwCl [(a_o A, .inr (0, [.int (nI (v_N r1)), .int (nI (v_w r1)), .ref (a_s A), .ref (a_f A), .int (nI (v_o r1)), .int (nI (v_h r1)), .int (v_g r1)])), (a_s A, .inl (cI, v_N r1, .inl (v_S r1))), (a_f A, .inl (cA, 4, .inr (.inr (.inr (.inr (fun k => some (a_b A k))))))), (a_b A 0, .inl (cI, v_N r1, .inl (v_F r1 0))), (a_b A 1, .inl (cI, v_N r1, .inl (v_F r1 1))), (a_b A 2, .inl (cI, v_N r1, .inl (v_F r1 2))), (a_b A 3, .inl (cI, v_N r1, .inl (v_F r1 3)))] _ := hP
      have hD : va_D (va_A (rgW cI cA A r) s.heap.size) [(a_o A, .inr (0, [.int (nI (v_N r1)), .int (nI (v_w r1)), .ref (a_s A), .ref (a_f A), .int (nI (v_o r1)), .int (nI (v_h r1)), .int (v_g r1)])), (a_s A, .inl (cI, v_N r1, .inl (v_S r1))), (a_f A, .inl (cA, 4, .inr (.inr (.inr (.inr (fun k => some (a_b A k))))))), (a_b A 0, .inl (cI, v_N r1, .inl (v_F r1 0))), (a_b A 1, .inl (cI, v_N r1, .inl (v_F r1 1))), (a_b A 2, .inl (cI, v_N r1, .inl (v_F r1 2))), (a_b A 3, .inl (cI, v_N r1, .inl (v_F r1 3)))] := hD
      refine lv_aload_n hx hb dX0_take_47 rfl (lv_at hl 2 rfl) ?_
      refine lv_aload_n hx hb dX0_take_48 rfl (lv_at hl 2 rfl) ?_
      refine va_get (D := D) (ci := 0) (v := .int (nI (v_h r1))) (C := RX0) (T := TX0) (N := 7) hx hb hts hi0 hown hK hP 0 rfl rfl 5 (by decide) (hts (.fieldLink RX0 30 "RingSeries$Ring" "held" "I") (by decide +kernel)) (fun _ h9 => h9) rfl dX0_take_49 ?_
      refine lv_iconst (v := 1) hx hb dX0_take_52 (by decide) ?_
      refine lv_isub hx hb dX0_take_53 ?_
      refine top_i (pk_sub (a := v_h r1) (b := 1) (by omega)) ?_
      refine ro_call (va_runV (As := [.int (nI ((v_h r1) - 1))]) (rest := []) ⟨hx, hb, hml, hown, hts⟩ (c_X0_slot l A r1 o1 (show va_P D vwCl (rgW cI cA A r1) _ from hP) ((v_h r1) - 1) (by omega)) (cwV 1 hts gX0_take_X0_slot rfl rfl rfl (by decide +kernel) ⟨Nat.le_of_ble_eq_true rfl, Nat.le_of_ble_eq_true rfl⟩) (ro_preV hK (va_recv hK hP (ci := 0) (q0 := 0) rfl rfl)) rfl rfl hl.1 rfl (lv_room (Nat.le_of_ble_eq_true rfl)) dX0_take_54 ⟨Nat.zero_le _, Nat.zero_le _⟩) ?_
      refine lv_istore (lv' := [(5, .int (nI (sl r1 ((v_h r1) - 1)))), (4, .int 1), (3, .int (nI (tm - tm % v_w r))), (0, .ref (a_o A)), (1, .int (nI tm)), (2, .int v)]) hx hb dX0_take_57 hl (by decide) rfl (fun ls hl => ?_)
      refine lv_iconst (v := 0) hx hb dX0_take_59 (by decide) ?_
      refine lv_istore (lv' := [(6, .int 0), (5, .int (nI (sl r1 ((v_h r1) - 1)))), (4, .int 1), (3, .int (nI (tm - tm % v_w r))), (0, .ref (a_o A)), (1, .int (nI tm)), (2, .int v)]) hx hb dX0_take_60 hl (by decide) rfl (fun ls hl => ?_)
      refine lv_iload hx hb dX0_take_62 (lv_at hl 0 rfl) ?_
      refine lv_iconst (v := 4) hx hb dX0_take_64 (by decide) ?_
      refine lv_icmp_ge (tgt := 123) hx hb dX0_take_65 (by decide) (fun c_65 => ?_) (fun c_65 => ?_)
      · exact absurd c_65 (by decide)
      · refine lv_iload hx hb dX0_take_68 (lv_at hl 0 rfl) ?_
        refine lv_iconst (v := 3) hx hb dX0_take_70 (by decide) ?_
        refine lv_icmp_ne (tgt := 78) hx hb dX0_take_71 (by decide) (fun c_71 => ?_) (fun c_71 => ?_)
        · refine lv_iload_n hx hb dX0_take_78 rfl (lv_at hl 6 rfl) ?_
          refine lv_istore (lv' := [(7, .int v), (6, .int 0), (5, .int (nI (sl r1 ((v_h r1) - 1)))), (4, .int 1), (3, .int (nI (tm - tm % v_w r))), (0, .ref (a_o A)), (1, .int (nI tm)), (2, .int v)]) hx hb dX0_take_79 hl (by decide) rfl (fun ls hl => ?_)
          refine lv_aload_n hx hb dX0_take_81 rfl (lv_at hl 5 rfl) ?_
          refine va_get (D := D) (ci := 0) (v := .ref (a_f A)) (C := RX0) (T := TX0) (N := 7) hx hb hts hi0 hown hK hP 0 rfl rfl 3 (by decide) (hts (.fieldLink RX0 27 "RingSeries$Ring" "figures" "[[I") (by decide +kernel)) (fun _ h9 => h9) rfl dX0_take_82 ?_
          refine lv_iload hx hb dX0_take_85 (lv_at hl 1 rfl) ?_
          refine ald_a (j := 0) hx hb hK hP 2 1 rfl rfl (by omega) (by omega) dX0_take_87 ?_
          refine lv_astore (lv' := [(8, .ref (a_b A 0)), (7, .int v), (6, .int 0), (5, .int (nI (sl r1 ((v_h r1) - 1)))), (4, .int 1), (3, .int (nI (tm - tm % v_w r))), (0, .ref (a_o A)), (1, .int (nI tm)), (2, .int v)]) hx hb dX0_take_88 hl (by decide) rfl (fun ls hl => ?_)
          refine lv_aload hx hb dX0_take_90 (lv_at hl 0 rfl) ?_
          refine lv_iload hx hb dX0_take_92 (lv_at hl 3 rfl) ?_
          refine lv_iload hx hb dX0_take_94 (lv_at hl 4 rfl) ?_
          refine lv_if_eq (tgt := 104) hx hb dX0_take_96 (by decide) (fun c_96 => ?_) (fun c_96 => ?_)
          · exact absurd c_96 (by decide)
          · refine lv_iload hx hb dX0_take_99 (lv_at hl 1 rfl) ?_
            refine lv_goto (tgt := 116) hx hb dX0_take_101 (by decide) ?_
            refine ast_i (j := (sl r1 ((v_h r1) - 1))) hx hb hK hP hD hS 3 0 rfl rfl s9 (by omega) dX0_take_116 (fun H locs hP hD hS => ?_)
            have hP : va_P D vwCl [(a_o A, .inr (0, [.int (nI (v_N r1)), .int (nI (v_w r1)), .ref (a_s A), .ref (a_f A), .int (nI (v_o r1)), .int (nI (v_h r1)), .int (v_g r1)])), (a_s A, .inl (cI, v_N r1, .inl (v_S r1))), (a_f A, .inl (cA, 4, .inr (.inr (.inr (.inr (fun k => some (a_b A k))))))), (a_b A 0, .inl (cI, v_N r1, .inl (upd (v_F r1 0) (sl r1 ((v_h r1) - 1)) v))), (a_b A 1, .inl (cI, v_N r1, .inl (v_F r1 1))), (a_b A 2, .inl (cI, v_N r1, .inl (v_F r1 2))), (a_b A 3, .inl (cI, v_N r1, .inl (v_F r1 3)))] H := hP
            have hD : va_D (va_A (rgW cI cA A r) s.heap.size) [(a_o A, .inr (0, [.int (nI (v_N r1)), .int (nI (v_w r1)), .ref (a_s A), .ref (a_f A), .int (nI (v_o r1)), .int (nI (v_h r1)), .int (v_g r1)])), (a_s A, .inl (cI, v_N r1, .inl (v_S r1))), (a_f A, .inl (cA, 4, .inr (.inr (.inr (.inr (fun k => some (a_b A k))))))), (a_b A 0, .inl (cI, v_N r1, .inl (upd (v_F r1 0) (sl r1 ((v_h r1) - 1)) v))), (a_b A 1, .inl (cI, v_N r1, .inl (v_F r1 1))), (a_b A 2, .inl (cI, v_N r1, .inl (v_F r1 2))), (a_b A 3, .inl (cI, v_N r1, .inl (v_F r1 3)))] := hD
            refine lv_iinc (v := 1) (lv' := [(6, .int 1), (8, .ref (a_b A 0)), (7, .int v), (5, .int (nI (sl r1 ((v_h r1) - 1)))), (4, .int 1), (3, .int (nI (tm - tm % v_w r))), (0, .ref (a_o A)), (1, .int (nI tm)), (2, .int v)]) hx hb dX0_take_117 hl (k := 2) rfl (by decide) (by decide) rfl (fun ls hl => ?_)
            refine lv_goto (tgt := 62) hx hb dX0_take_120 (by decide) ?_
            refine lv_iload hx hb dX0_take_62 (lv_at hl 0 rfl) ?_
            refine lv_iconst (v := 4) hx hb dX0_take_64 (by decide) ?_
            refine lv_icmp_ge (tgt := 123) hx hb dX0_take_65 (by decide) (fun c_65 => ?_) (fun c_65 => ?_)
            · exact absurd c_65 (by decide)
            · refine lv_iload hx hb dX0_take_68 (lv_at hl 0 rfl) ?_
              refine lv_iconst (v := 3) hx hb dX0_take_70 (by decide) ?_
              refine lv_icmp_ne (tgt := 78) hx hb dX0_take_71 (by decide) (fun c_71 => ?_) (fun c_71 => ?_)
              · refine lv_iload_n hx hb dX0_take_78 rfl (lv_at hl 8 rfl) ?_
                refine lv_istore (lv' := [(7, .int v), (6, .int 1), (8, .ref (a_b A 0)), (5, .int (nI (sl r1 ((v_h r1) - 1)))), (4, .int 1), (3, .int (nI (tm - tm % v_w r))), (0, .ref (a_o A)), (1, .int (nI tm)), (2, .int v)]) hx hb dX0_take_79 hl (by decide) rfl (fun ls hl => ?_)
                refine lv_aload_n hx hb dX0_take_81 rfl (lv_at hl 6 rfl) ?_
                refine va_get (D := D) (ci := 0) (v := .ref (a_f A)) (C := RX0) (T := TX0) (N := 7) hx hb hts hi0 hown hK hP 0 rfl rfl 3 (by decide) (hts (.fieldLink RX0 27 "RingSeries$Ring" "figures" "[[I") (by decide +kernel)) (fun _ h9 => h9) rfl dX0_take_82 ?_
                refine lv_iload hx hb dX0_take_85 (lv_at hl 1 rfl) ?_
                refine ald_a (j := 1) hx hb hK hP 2 1 rfl rfl (by omega) (by omega) dX0_take_87 ?_
                refine lv_astore (lv' := [(8, .ref (a_b A 1)), (7, .int v), (6, .int 1), (5, .int (nI (sl r1 ((v_h r1) - 1)))), (4, .int 1), (3, .int (nI (tm - tm % v_w r))), (0, .ref (a_o A)), (1, .int (nI tm)), (2, .int v)]) hx hb dX0_take_88 hl (by decide) rfl (fun ls hl => ?_)
                refine lv_aload hx hb dX0_take_90 (lv_at hl 0 rfl) ?_
                refine lv_iload hx hb dX0_take_92 (lv_at hl 3 rfl) ?_
                refine lv_iload hx hb dX0_take_94 (lv_at hl 4 rfl) ?_
                refine lv_if_eq (tgt := 104) hx hb dX0_take_96 (by decide) (fun c_96 => ?_) (fun c_96 => ?_)
                · exact absurd c_96 (by decide)
                · refine lv_iload hx hb dX0_take_99 (lv_at hl 1 rfl) ?_
                  refine lv_goto (tgt := 116) hx hb dX0_take_101 (by decide) ?_
                  refine ast_i (j := (sl r1 ((v_h r1) - 1))) hx hb hK hP hD hS 4 0 rfl rfl s9 (by omega) dX0_take_116 (fun H locs hP hD hS => ?_)
                  have hP : va_P D vwCl [(a_o A, .inr (0, [.int (nI (v_N r1)), .int (nI (v_w r1)), .ref (a_s A), .ref (a_f A), .int (nI (v_o r1)), .int (nI (v_h r1)), .int (v_g r1)])), (a_s A, .inl (cI, v_N r1, .inl (v_S r1))), (a_f A, .inl (cA, 4, .inr (.inr (.inr (.inr (fun k => some (a_b A k))))))), (a_b A 0, .inl (cI, v_N r1, .inl (upd (v_F r1 0) (sl r1 ((v_h r1) - 1)) v))), (a_b A 1, .inl (cI, v_N r1, .inl (upd (v_F r1 1) (sl r1 ((v_h r1) - 1)) v))), (a_b A 2, .inl (cI, v_N r1, .inl (v_F r1 2))), (a_b A 3, .inl (cI, v_N r1, .inl (v_F r1 3)))] H := hP
                  have hD : va_D (va_A (rgW cI cA A r) s.heap.size) [(a_o A, .inr (0, [.int (nI (v_N r1)), .int (nI (v_w r1)), .ref (a_s A), .ref (a_f A), .int (nI (v_o r1)), .int (nI (v_h r1)), .int (v_g r1)])), (a_s A, .inl (cI, v_N r1, .inl (v_S r1))), (a_f A, .inl (cA, 4, .inr (.inr (.inr (.inr (fun k => some (a_b A k))))))), (a_b A 0, .inl (cI, v_N r1, .inl (upd (v_F r1 0) (sl r1 ((v_h r1) - 1)) v))), (a_b A 1, .inl (cI, v_N r1, .inl (upd (v_F r1 1) (sl r1 ((v_h r1) - 1)) v))), (a_b A 2, .inl (cI, v_N r1, .inl (v_F r1 2))), (a_b A 3, .inl (cI, v_N r1, .inl (v_F r1 3)))] := hD
                  refine lv_iinc (v := 2) (lv' := [(6, .int 2), (8, .ref (a_b A 1)), (7, .int v), (5, .int (nI (sl r1 ((v_h r1) - 1)))), (4, .int 1), (3, .int (nI (tm - tm % v_w r))), (0, .ref (a_o A)), (1, .int (nI tm)), (2, .int v)]) hx hb dX0_take_117 hl (k := 2) rfl (by decide) (by decide) rfl (fun ls hl => ?_)
                  refine lv_goto (tgt := 62) hx hb dX0_take_120 (by decide) ?_
                  refine lv_iload hx hb dX0_take_62 (lv_at hl 0 rfl) ?_
                  refine lv_iconst (v := 4) hx hb dX0_take_64 (by decide) ?_
                  refine lv_icmp_ge (tgt := 123) hx hb dX0_take_65 (by decide) (fun c_65 => ?_) (fun c_65 => ?_)
                  · exact absurd c_65 (by decide)
                  · refine lv_iload hx hb dX0_take_68 (lv_at hl 0 rfl) ?_
                    refine lv_iconst (v := 3) hx hb dX0_take_70 (by decide) ?_
                    refine lv_icmp_ne (tgt := 78) hx hb dX0_take_71 (by decide) (fun c_71 => ?_) (fun c_71 => ?_)
                    · refine lv_iload_n hx hb dX0_take_78 rfl (lv_at hl 8 rfl) ?_
                      refine lv_istore (lv' := [(7, .int v), (6, .int 2), (8, .ref (a_b A 1)), (5, .int (nI (sl r1 ((v_h r1) - 1)))), (4, .int 1), (3, .int (nI (tm - tm % v_w r))), (0, .ref (a_o A)), (1, .int (nI tm)), (2, .int v)]) hx hb dX0_take_79 hl (by decide) rfl (fun ls hl => ?_)
                      refine lv_aload_n hx hb dX0_take_81 rfl (lv_at hl 6 rfl) ?_
                      refine va_get (D := D) (ci := 0) (v := .ref (a_f A)) (C := RX0) (T := TX0) (N := 7) hx hb hts hi0 hown hK hP 0 rfl rfl 3 (by decide) (hts (.fieldLink RX0 27 "RingSeries$Ring" "figures" "[[I") (by decide +kernel)) (fun _ h9 => h9) rfl dX0_take_82 ?_
                      refine lv_iload hx hb dX0_take_85 (lv_at hl 1 rfl) ?_
                      refine ald_a (j := 2) hx hb hK hP 2 1 rfl rfl (by omega) (by omega) dX0_take_87 ?_
                      refine lv_astore (lv' := [(8, .ref (a_b A 2)), (7, .int v), (6, .int 2), (5, .int (nI (sl r1 ((v_h r1) - 1)))), (4, .int 1), (3, .int (nI (tm - tm % v_w r))), (0, .ref (a_o A)), (1, .int (nI tm)), (2, .int v)]) hx hb dX0_take_88 hl (by decide) rfl (fun ls hl => ?_)
                      refine lv_aload hx hb dX0_take_90 (lv_at hl 0 rfl) ?_
                      refine lv_iload hx hb dX0_take_92 (lv_at hl 3 rfl) ?_
                      refine lv_iload hx hb dX0_take_94 (lv_at hl 4 rfl) ?_
                      refine lv_if_eq (tgt := 104) hx hb dX0_take_96 (by decide) (fun c_96 => ?_) (fun c_96 => ?_)
                      · exact absurd c_96 (by decide)
                      · refine lv_iload hx hb dX0_take_99 (lv_at hl 1 rfl) ?_
                        refine lv_goto (tgt := 116) hx hb dX0_take_101 (by decide) ?_
                        refine ast_i (j := (sl r1 ((v_h r1) - 1))) hx hb hK hP hD hS 5 0 rfl rfl s9 (by omega) dX0_take_116 (fun H locs hP hD hS => ?_)
                        have hP : va_P D vwCl [(a_o A, .inr (0, [.int (nI (v_N r1)), .int (nI (v_w r1)), .ref (a_s A), .ref (a_f A), .int (nI (v_o r1)), .int (nI (v_h r1)), .int (v_g r1)])), (a_s A, .inl (cI, v_N r1, .inl (v_S r1))), (a_f A, .inl (cA, 4, .inr (.inr (.inr (.inr (fun k => some (a_b A k))))))), (a_b A 0, .inl (cI, v_N r1, .inl (upd (v_F r1 0) (sl r1 ((v_h r1) - 1)) v))), (a_b A 1, .inl (cI, v_N r1, .inl (upd (v_F r1 1) (sl r1 ((v_h r1) - 1)) v))), (a_b A 2, .inl (cI, v_N r1, .inl (upd (v_F r1 2) (sl r1 ((v_h r1) - 1)) v))), (a_b A 3, .inl (cI, v_N r1, .inl (v_F r1 3)))] H := hP
                        have hD : va_D (va_A (rgW cI cA A r) s.heap.size) [(a_o A, .inr (0, [.int (nI (v_N r1)), .int (nI (v_w r1)), .ref (a_s A), .ref (a_f A), .int (nI (v_o r1)), .int (nI (v_h r1)), .int (v_g r1)])), (a_s A, .inl (cI, v_N r1, .inl (v_S r1))), (a_f A, .inl (cA, 4, .inr (.inr (.inr (.inr (fun k => some (a_b A k))))))), (a_b A 0, .inl (cI, v_N r1, .inl (upd (v_F r1 0) (sl r1 ((v_h r1) - 1)) v))), (a_b A 1, .inl (cI, v_N r1, .inl (upd (v_F r1 1) (sl r1 ((v_h r1) - 1)) v))), (a_b A 2, .inl (cI, v_N r1, .inl (upd (v_F r1 2) (sl r1 ((v_h r1) - 1)) v))), (a_b A 3, .inl (cI, v_N r1, .inl (v_F r1 3)))] := hD
                        refine lv_iinc (v := 3) (lv' := [(6, .int 3), (8, .ref (a_b A 2)), (7, .int v), (5, .int (nI (sl r1 ((v_h r1) - 1)))), (4, .int 1), (3, .int (nI (tm - tm % v_w r))), (0, .ref (a_o A)), (1, .int (nI tm)), (2, .int v)]) hx hb dX0_take_117 hl (k := 2) rfl (by decide) (by decide) rfl (fun ls hl => ?_)
                        refine lv_goto (tgt := 62) hx hb dX0_take_120 (by decide) ?_
                        refine lv_iload hx hb dX0_take_62 (lv_at hl 0 rfl) ?_
                        refine lv_iconst (v := 4) hx hb dX0_take_64 (by decide) ?_
                        refine lv_icmp_ge (tgt := 123) hx hb dX0_take_65 (by decide) (fun c_65 => ?_) (fun c_65 => ?_)
                        · exact absurd c_65 (by decide)
                        · refine lv_iload hx hb dX0_take_68 (lv_at hl 0 rfl) ?_
                          refine lv_iconst (v := 3) hx hb dX0_take_70 (by decide) ?_
                          refine lv_icmp_ne (tgt := 78) hx hb dX0_take_71 (by decide) (fun c_71 => ?_) (fun c_71 => ?_)
                          · exact absurd rfl c_71
                          · refine lv_iconst (v := 1) hx hb dX0_take_74 (by decide) ?_
                            refine lv_goto (tgt := 79) hx hb dX0_take_75 (by decide) ?_
                            refine lv_istore (lv' := [(7, .int 1), (6, .int 3), (8, .ref (a_b A 2)), (5, .int (nI (sl r1 ((v_h r1) - 1)))), (4, .int 1), (3, .int (nI (tm - tm % v_w r))), (0, .ref (a_o A)), (1, .int (nI tm)), (2, .int v)]) hx hb dX0_take_79 hl (by decide) rfl (fun ls hl => ?_)
                            refine lv_aload_n hx hb dX0_take_81 rfl (lv_at hl 6 rfl) ?_
                            refine va_get (D := D) (ci := 0) (v := .ref (a_f A)) (C := RX0) (T := TX0) (N := 7) hx hb hts hi0 hown hK hP 0 rfl rfl 3 (by decide) (hts (.fieldLink RX0 27 "RingSeries$Ring" "figures" "[[I") (by decide +kernel)) (fun _ h9 => h9) rfl dX0_take_82 ?_
                            refine lv_iload hx hb dX0_take_85 (lv_at hl 1 rfl) ?_
                            refine ald_a (j := 3) hx hb hK hP 2 1 rfl rfl (by omega) (by omega) dX0_take_87 ?_
                            refine lv_astore (lv' := [(8, .ref (a_b A 3)), (7, .int 1), (6, .int 3), (5, .int (nI (sl r1 ((v_h r1) - 1)))), (4, .int 1), (3, .int (nI (tm - tm % v_w r))), (0, .ref (a_o A)), (1, .int (nI tm)), (2, .int v)]) hx hb dX0_take_88 hl (by decide) rfl (fun ls hl => ?_)
                            refine lv_aload hx hb dX0_take_90 (lv_at hl 0 rfl) ?_
                            refine lv_iload hx hb dX0_take_92 (lv_at hl 3 rfl) ?_
                            refine lv_iload hx hb dX0_take_94 (lv_at hl 4 rfl) ?_
                            refine lv_if_eq (tgt := 104) hx hb dX0_take_96 (by decide) (fun c_96 => ?_) (fun c_96 => ?_)
                            · exact absurd c_96 (by decide)
                            · refine lv_iload hx hb dX0_take_99 (lv_at hl 1 rfl) ?_
                              refine lv_goto (tgt := 116) hx hb dX0_take_101 (by decide) ?_
                              refine ast_i (j := (sl r1 ((v_h r1) - 1))) hx hb hK hP hD hS 6 0 rfl rfl s9 (by omega) dX0_take_116 (fun H locs hP hD hS => ?_)
                              have hP : va_P D vwCl [(a_o A, .inr (0, [.int (nI (v_N r1)), .int (nI (v_w r1)), .ref (a_s A), .ref (a_f A), .int (nI (v_o r1)), .int (nI (v_h r1)), .int (v_g r1)])), (a_s A, .inl (cI, v_N r1, .inl (v_S r1))), (a_f A, .inl (cA, 4, .inr (.inr (.inr (.inr (fun k => some (a_b A k))))))), (a_b A 0, .inl (cI, v_N r1, .inl (upd (v_F r1 0) (sl r1 ((v_h r1) - 1)) v))), (a_b A 1, .inl (cI, v_N r1, .inl (upd (v_F r1 1) (sl r1 ((v_h r1) - 1)) v))), (a_b A 2, .inl (cI, v_N r1, .inl (upd (v_F r1 2) (sl r1 ((v_h r1) - 1)) v))), (a_b A 3, .inl (cI, v_N r1, .inl (upd (v_F r1 3) (sl r1 ((v_h r1) - 1)) 1)))] H := hP
                              have hD : va_D (va_A (rgW cI cA A r) s.heap.size) [(a_o A, .inr (0, [.int (nI (v_N r1)), .int (nI (v_w r1)), .ref (a_s A), .ref (a_f A), .int (nI (v_o r1)), .int (nI (v_h r1)), .int (v_g r1)])), (a_s A, .inl (cI, v_N r1, .inl (v_S r1))), (a_f A, .inl (cA, 4, .inr (.inr (.inr (.inr (fun k => some (a_b A k))))))), (a_b A 0, .inl (cI, v_N r1, .inl (upd (v_F r1 0) (sl r1 ((v_h r1) - 1)) v))), (a_b A 1, .inl (cI, v_N r1, .inl (upd (v_F r1 1) (sl r1 ((v_h r1) - 1)) v))), (a_b A 2, .inl (cI, v_N r1, .inl (upd (v_F r1 2) (sl r1 ((v_h r1) - 1)) v))), (a_b A 3, .inl (cI, v_N r1, .inl (upd (v_F r1 3) (sl r1 ((v_h r1) - 1)) 1)))] := hD
                              refine lv_iinc (v := 4) (lv' := [(6, .int 4), (8, .ref (a_b A 3)), (7, .int 1), (5, .int (nI (sl r1 ((v_h r1) - 1)))), (4, .int 1), (3, .int (nI (tm - tm % v_w r))), (0, .ref (a_o A)), (1, .int (nI tm)), (2, .int v)]) hx hb dX0_take_117 hl (k := 2) rfl (by decide) (by decide) rfl (fun ls hl => ?_)
                              refine lv_goto (tgt := 62) hx hb dX0_take_120 (by decide) ?_
                              refine lv_iload hx hb dX0_take_62 (lv_at hl 0 rfl) ?_
                              refine lv_iconst (v := 4) hx hb dX0_take_64 (by decide) ?_
                              refine lv_icmp_ge (tgt := 123) hx hb dX0_take_65 (by decide) (fun c_65 => ?_) (fun c_65 => ?_)
                              · exact wr_vret hx hb hr (show va_P D vwCl (rgW cI cA A (rowN r1 v)) _ from hP) hS dX0_take_123 hlocks
                              · exact absurd (show (4 : Int32) ≤ 4 by decide) c_65
                    · exact absurd c_71 (by decide)
              · exact absurd c_71 (by decide)
        · exact absurd c_71 (by decide)
  · have c_13 := mt (nI_eq (a := v_h r) (b := 0) (by omega) (by omega)).mpr c_13
    refine lv_aload_n hx hb dX0_take_16 rfl (lv_at hl 1 rfl) ?_
    refine lv_aload_n hx hb dX0_take_17 rfl (lv_at hl 1 rfl) ?_
    refine va_get (D := D) (ci := 0) (v := .int (nI (v_h r))) (C := RX0) (T := TX0) (N := 7) hx hb hts hi0 hown hK hP 0 rfl rfl 5 (by decide) (hts (.fieldLink RX0 30 "RingSeries$Ring" "held" "I") (by decide +kernel)) (fun _ h9 => h9) rfl dX0_take_18 ?_
    refine lv_iconst (v := 1) hx hb dX0_take_21 (by decide) ?_
    refine lv_isub hx hb dX0_take_22 ?_
    refine top_i (pk_sub (a := v_h r) (b := 1) (by omega)) ?_
    refine ro_call (va_runV (As := [.int (nI ((v_h r) - 1))]) (rest := []) ⟨hx, hb, hml, hown, hts⟩ (c_X0_startOf l A r hk (show va_P D vwCl (rgW cI cA A r) _ from hP) ((v_h r) - 1) (by omega)) (cwV 1 hts gX0_take_X0_startOf rfl rfl rfl (by decide +kernel) ⟨Nat.le_of_ble_eq_true rfl, Nat.le_of_ble_eq_true rfl⟩) (ro_preV hK (va_recv hK hP (ci := 0) (q0 := 0) rfl rfl)) rfl rfl hl.1 rfl (lv_room (Nat.le_of_ble_eq_true rfl)) dX0_take_23 ⟨Nat.zero_le _, Nat.zero_le _⟩) ?_
    refine lv_iload_n hx hb dX0_take_26 rfl (lv_at hl 0 rfl) ?_
    refine lv_icmp_eq (tgt := 34) hx hb dX0_take_27 (by decide) (fun c_27 => ?_) (fun c_27 => ?_)
    · exact absurd ho (fun z => z.elim c_13 (fun z => z c_27))
    · refine lv_iconst (v := 1) hx hb dX0_take_30 (by decide) ?_
      refine lv_goto (tgt := 35) hx hb dX0_take_31 (by decide) ?_
      refine lv_istore (lv' := [(4, .int 1), (3, .int (nI (tm - (tm % v_w r)))), (0, .ref (a_o A)), (1, .int (nI tm)), (2, .int v)]) hx hb dX0_take_35 hl (by decide) rfl (fun ls hl => ?_)
      refine lv_iload hx hb dX0_take_37 (lv_at hl 0 rfl) ?_
      refine lv_if_eq (tgt := 47) hx hb dX0_take_39 (by decide) (fun c_39 => ?_) (fun c_39 => ?_)
      · exact absurd c_39 (by decide)
      · refine lv_aload_n hx hb dX0_take_42 rfl (lv_at hl 2 rfl) ?_
        refine lv_iload_n hx hb dX0_take_43 rfl (lv_at hl 1 rfl) ?_
        refine wr_call (va_runV (As := [.int (nI (tm - (tm % v_w r)))]) (rest := []) ⟨hx, hb, hml, hown, hts⟩ (c_X0_open l A r hk (show va_P D vwCl (rgW cI cA A r) _ from hP) hD (nI (tm - tm % v_w r))) (cwV 1 hts gX0_take_X0_open rfl rfl rfl (by decide +kernel) ⟨Nat.le_of_ble_eq_true rfl, Nat.le_of_ble_eq_true rfl⟩) (ro_preV hK (va_recv hK hP (ci := 0) (q0 := 0) rfl rfl)) rfl rfl hl.1 rfl (lv_room (Nat.le_of_ble_eq_true rfl)) dX0_take_44 ⟨Nat.zero_le _, Nat.zero_le _⟩) hS (fun q h => h) (fun H locs hP _ _ hS => ?_)
        have hD : va_D (va_A (rgW cI cA A r) s.heap.size) (rgW cI cA A (opV r (nI (tm - tm % v_w r)))) := rgW_D (r := r) hD
        obtain ⟨o1, o2, o3, o4, o5⟩ := opV_ok (b := nI (tm - tm % v_w r)) hk
        generalize opV r (nI (tm - tm % v_w r)) = r1 at hP hD o1 o2 o3 o4 o5 ⊢
        obtain ⟨z1, z2, z3, z4, z5, z6⟩ := id o1
        have s9 : sl r1 (v_h r1 - 1) < v_N r1 := sl_lt o1 (by omega)
        have hP : va_P D vwCl [(a_o A, .inr (0, [.int (nI (v_N r1)), .int (nI (v_w r1)), .ref (a_s A), .ref (a_f A), .int (nI (v_o r1)), .int (nI (v_h r1)), .int (v_g r1)])), (a_s A, .inl (cI, v_N r1, .inl (v_S r1))), (a_f A, .inl (cA, 4, .inr (.inr (.inr (.inr (fun k => some (a_b A k))))))), (a_b A 0, .inl (cI, v_N r1, .inl (v_F r1 0))), (a_b A 1, .inl (cI, v_N r1, .inl (v_F r1 1))), (a_b A 2, .inl (cI, v_N r1, .inl (v_F r1 2))), (a_b A 3, .inl (cI, v_N r1, .inl (v_F r1 3)))] _ := hP
        have hD : va_D (va_A (rgW cI cA A r) s.heap.size) [(a_o A, .inr (0, [.int (nI (v_N r1)), .int (nI (v_w r1)), .ref (a_s A), .ref (a_f A), .int (nI (v_o r1)), .int (nI (v_h r1)), .int (v_g r1)])), (a_s A, .inl (cI, v_N r1, .inl (v_S r1))), (a_f A, .inl (cA, 4, .inr (.inr (.inr (.inr (fun k => some (a_b A k))))))), (a_b A 0, .inl (cI, v_N r1, .inl (v_F r1 0))), (a_b A 1, .inl (cI, v_N r1, .inl (v_F r1 1))), (a_b A 2, .inl (cI, v_N r1, .inl (v_F r1 2))), (a_b A 3, .inl (cI, v_N r1, .inl (v_F r1 3)))] := hD
        refine lv_aload_n hx hb dX0_take_47 rfl (lv_at hl 2 rfl) ?_
        refine lv_aload_n hx hb dX0_take_48 rfl (lv_at hl 2 rfl) ?_
        refine va_get (D := D) (ci := 0) (v := .int (nI (v_h r1))) (C := RX0) (T := TX0) (N := 7) hx hb hts hi0 hown hK hP 0 rfl rfl 5 (by decide) (hts (.fieldLink RX0 30 "RingSeries$Ring" "held" "I") (by decide +kernel)) (fun _ h9 => h9) rfl dX0_take_49 ?_
        refine lv_iconst (v := 1) hx hb dX0_take_52 (by decide) ?_
        refine lv_isub hx hb dX0_take_53 ?_
        refine top_i (pk_sub (a := v_h r1) (b := 1) (by omega)) ?_
        refine ro_call (va_runV (As := [.int (nI ((v_h r1) - 1))]) (rest := []) ⟨hx, hb, hml, hown, hts⟩ (c_X0_slot l A r1 o1 (show va_P D vwCl (rgW cI cA A r1) _ from hP) ((v_h r1) - 1) (by omega)) (cwV 1 hts gX0_take_X0_slot rfl rfl rfl (by decide +kernel) ⟨Nat.le_of_ble_eq_true rfl, Nat.le_of_ble_eq_true rfl⟩) (ro_preV hK (va_recv hK hP (ci := 0) (q0 := 0) rfl rfl)) rfl rfl hl.1 rfl (lv_room (Nat.le_of_ble_eq_true rfl)) dX0_take_54 ⟨Nat.zero_le _, Nat.zero_le _⟩) ?_
        refine lv_istore (lv' := [(5, .int (nI (sl r1 ((v_h r1) - 1)))), (4, .int 1), (3, .int (nI (tm - tm % v_w r))), (0, .ref (a_o A)), (1, .int (nI tm)), (2, .int v)]) hx hb dX0_take_57 hl (by decide) rfl (fun ls hl => ?_)
        refine lv_iconst (v := 0) hx hb dX0_take_59 (by decide) ?_
        refine lv_istore (lv' := [(6, .int 0), (5, .int (nI (sl r1 ((v_h r1) - 1)))), (4, .int 1), (3, .int (nI (tm - tm % v_w r))), (0, .ref (a_o A)), (1, .int (nI tm)), (2, .int v)]) hx hb dX0_take_60 hl (by decide) rfl (fun ls hl => ?_)
        refine lv_iload hx hb dX0_take_62 (lv_at hl 0 rfl) ?_
        refine lv_iconst (v := 4) hx hb dX0_take_64 (by decide) ?_
        refine lv_icmp_ge (tgt := 123) hx hb dX0_take_65 (by decide) (fun c_65 => ?_) (fun c_65 => ?_)
        · exact absurd c_65 (by decide)
        · refine lv_iload hx hb dX0_take_68 (lv_at hl 0 rfl) ?_
          refine lv_iconst (v := 3) hx hb dX0_take_70 (by decide) ?_
          refine lv_icmp_ne (tgt := 78) hx hb dX0_take_71 (by decide) (fun c_71 => ?_) (fun c_71 => ?_)
          · refine lv_iload_n hx hb dX0_take_78 rfl (lv_at hl 6 rfl) ?_
            refine lv_istore (lv' := [(7, .int v), (6, .int 0), (5, .int (nI (sl r1 ((v_h r1) - 1)))), (4, .int 1), (3, .int (nI (tm - tm % v_w r))), (0, .ref (a_o A)), (1, .int (nI tm)), (2, .int v)]) hx hb dX0_take_79 hl (by decide) rfl (fun ls hl => ?_)
            refine lv_aload_n hx hb dX0_take_81 rfl (lv_at hl 5 rfl) ?_
            refine va_get (D := D) (ci := 0) (v := .ref (a_f A)) (C := RX0) (T := TX0) (N := 7) hx hb hts hi0 hown hK hP 0 rfl rfl 3 (by decide) (hts (.fieldLink RX0 27 "RingSeries$Ring" "figures" "[[I") (by decide +kernel)) (fun _ h9 => h9) rfl dX0_take_82 ?_
            refine lv_iload hx hb dX0_take_85 (lv_at hl 1 rfl) ?_
            refine ald_a (j := 0) hx hb hK hP 2 1 rfl rfl (by omega) (by omega) dX0_take_87 ?_
            refine lv_astore (lv' := [(8, .ref (a_b A 0)), (7, .int v), (6, .int 0), (5, .int (nI (sl r1 ((v_h r1) - 1)))), (4, .int 1), (3, .int (nI (tm - tm % v_w r))), (0, .ref (a_o A)), (1, .int (nI tm)), (2, .int v)]) hx hb dX0_take_88 hl (by decide) rfl (fun ls hl => ?_)
            refine lv_aload hx hb dX0_take_90 (lv_at hl 0 rfl) ?_
            refine lv_iload hx hb dX0_take_92 (lv_at hl 3 rfl) ?_
            refine lv_iload hx hb dX0_take_94 (lv_at hl 4 rfl) ?_
            refine lv_if_eq (tgt := 104) hx hb dX0_take_96 (by decide) (fun c_96 => ?_) (fun c_96 => ?_)
            · exact absurd c_96 (by decide)
            · refine lv_iload hx hb dX0_take_99 (lv_at hl 1 rfl) ?_
              refine lv_goto (tgt := 116) hx hb dX0_take_101 (by decide) ?_
              refine ast_i (j := (sl r1 ((v_h r1) - 1))) hx hb hK hP hD hS 3 0 rfl rfl s9 (by omega) dX0_take_116 (fun H locs hP hD hS => ?_)
              have hP : va_P D vwCl [(a_o A, .inr (0, [.int (nI (v_N r1)), .int (nI (v_w r1)), .ref (a_s A), .ref (a_f A), .int (nI (v_o r1)), .int (nI (v_h r1)), .int (v_g r1)])), (a_s A, .inl (cI, v_N r1, .inl (v_S r1))), (a_f A, .inl (cA, 4, .inr (.inr (.inr (.inr (fun k => some (a_b A k))))))), (a_b A 0, .inl (cI, v_N r1, .inl (upd (v_F r1 0) (sl r1 ((v_h r1) - 1)) v))), (a_b A 1, .inl (cI, v_N r1, .inl (v_F r1 1))), (a_b A 2, .inl (cI, v_N r1, .inl (v_F r1 2))), (a_b A 3, .inl (cI, v_N r1, .inl (v_F r1 3)))] H := hP
              have hD : va_D (va_A (rgW cI cA A r) s.heap.size) [(a_o A, .inr (0, [.int (nI (v_N r1)), .int (nI (v_w r1)), .ref (a_s A), .ref (a_f A), .int (nI (v_o r1)), .int (nI (v_h r1)), .int (v_g r1)])), (a_s A, .inl (cI, v_N r1, .inl (v_S r1))), (a_f A, .inl (cA, 4, .inr (.inr (.inr (.inr (fun k => some (a_b A k))))))), (a_b A 0, .inl (cI, v_N r1, .inl (upd (v_F r1 0) (sl r1 ((v_h r1) - 1)) v))), (a_b A 1, .inl (cI, v_N r1, .inl (v_F r1 1))), (a_b A 2, .inl (cI, v_N r1, .inl (v_F r1 2))), (a_b A 3, .inl (cI, v_N r1, .inl (v_F r1 3)))] := hD
              refine lv_iinc (v := 1) (lv' := [(6, .int 1), (8, .ref (a_b A 0)), (7, .int v), (5, .int (nI (sl r1 ((v_h r1) - 1)))), (4, .int 1), (3, .int (nI (tm - tm % v_w r))), (0, .ref (a_o A)), (1, .int (nI tm)), (2, .int v)]) hx hb dX0_take_117 hl (k := 2) rfl (by decide) (by decide) rfl (fun ls hl => ?_)
              refine lv_goto (tgt := 62) hx hb dX0_take_120 (by decide) ?_
              refine lv_iload hx hb dX0_take_62 (lv_at hl 0 rfl) ?_
              refine lv_iconst (v := 4) hx hb dX0_take_64 (by decide) ?_
              refine lv_icmp_ge (tgt := 123) hx hb dX0_take_65 (by decide) (fun c_65 => ?_) (fun c_65 => ?_)
              · exact absurd c_65 (by decide)
              · refine lv_iload hx hb dX0_take_68 (lv_at hl 0 rfl) ?_
                refine lv_iconst (v := 3) hx hb dX0_take_70 (by decide) ?_
                refine lv_icmp_ne (tgt := 78) hx hb dX0_take_71 (by decide) (fun c_71 => ?_) (fun c_71 => ?_)
                · refine lv_iload_n hx hb dX0_take_78 rfl (lv_at hl 8 rfl) ?_
                  refine lv_istore (lv' := [(7, .int v), (6, .int 1), (8, .ref (a_b A 0)), (5, .int (nI (sl r1 ((v_h r1) - 1)))), (4, .int 1), (3, .int (nI (tm - tm % v_w r))), (0, .ref (a_o A)), (1, .int (nI tm)), (2, .int v)]) hx hb dX0_take_79 hl (by decide) rfl (fun ls hl => ?_)
                  refine lv_aload_n hx hb dX0_take_81 rfl (lv_at hl 6 rfl) ?_
                  refine va_get (D := D) (ci := 0) (v := .ref (a_f A)) (C := RX0) (T := TX0) (N := 7) hx hb hts hi0 hown hK hP 0 rfl rfl 3 (by decide) (hts (.fieldLink RX0 27 "RingSeries$Ring" "figures" "[[I") (by decide +kernel)) (fun _ h9 => h9) rfl dX0_take_82 ?_
                  refine lv_iload hx hb dX0_take_85 (lv_at hl 1 rfl) ?_
                  refine ald_a (j := 1) hx hb hK hP 2 1 rfl rfl (by omega) (by omega) dX0_take_87 ?_
                  refine lv_astore (lv' := [(8, .ref (a_b A 1)), (7, .int v), (6, .int 1), (5, .int (nI (sl r1 ((v_h r1) - 1)))), (4, .int 1), (3, .int (nI (tm - tm % v_w r))), (0, .ref (a_o A)), (1, .int (nI tm)), (2, .int v)]) hx hb dX0_take_88 hl (by decide) rfl (fun ls hl => ?_)
                  refine lv_aload hx hb dX0_take_90 (lv_at hl 0 rfl) ?_
                  refine lv_iload hx hb dX0_take_92 (lv_at hl 3 rfl) ?_
                  refine lv_iload hx hb dX0_take_94 (lv_at hl 4 rfl) ?_
                  refine lv_if_eq (tgt := 104) hx hb dX0_take_96 (by decide) (fun c_96 => ?_) (fun c_96 => ?_)
                  · exact absurd c_96 (by decide)
                  · refine lv_iload hx hb dX0_take_99 (lv_at hl 1 rfl) ?_
                    refine lv_goto (tgt := 116) hx hb dX0_take_101 (by decide) ?_
                    refine ast_i (j := (sl r1 ((v_h r1) - 1))) hx hb hK hP hD hS 4 0 rfl rfl s9 (by omega) dX0_take_116 (fun H locs hP hD hS => ?_)
                    have hP : va_P D vwCl [(a_o A, .inr (0, [.int (nI (v_N r1)), .int (nI (v_w r1)), .ref (a_s A), .ref (a_f A), .int (nI (v_o r1)), .int (nI (v_h r1)), .int (v_g r1)])), (a_s A, .inl (cI, v_N r1, .inl (v_S r1))), (a_f A, .inl (cA, 4, .inr (.inr (.inr (.inr (fun k => some (a_b A k))))))), (a_b A 0, .inl (cI, v_N r1, .inl (upd (v_F r1 0) (sl r1 ((v_h r1) - 1)) v))), (a_b A 1, .inl (cI, v_N r1, .inl (upd (v_F r1 1) (sl r1 ((v_h r1) - 1)) v))), (a_b A 2, .inl (cI, v_N r1, .inl (v_F r1 2))), (a_b A 3, .inl (cI, v_N r1, .inl (v_F r1 3)))] H := hP
                    have hD : va_D (va_A (rgW cI cA A r) s.heap.size) [(a_o A, .inr (0, [.int (nI (v_N r1)), .int (nI (v_w r1)), .ref (a_s A), .ref (a_f A), .int (nI (v_o r1)), .int (nI (v_h r1)), .int (v_g r1)])), (a_s A, .inl (cI, v_N r1, .inl (v_S r1))), (a_f A, .inl (cA, 4, .inr (.inr (.inr (.inr (fun k => some (a_b A k))))))), (a_b A 0, .inl (cI, v_N r1, .inl (upd (v_F r1 0) (sl r1 ((v_h r1) - 1)) v))), (a_b A 1, .inl (cI, v_N r1, .inl (upd (v_F r1 1) (sl r1 ((v_h r1) - 1)) v))), (a_b A 2, .inl (cI, v_N r1, .inl (v_F r1 2))), (a_b A 3, .inl (cI, v_N r1, .inl (v_F r1 3)))] := hD
                    refine lv_iinc (v := 2) (lv' := [(6, .int 2), (8, .ref (a_b A 1)), (7, .int v), (5, .int (nI (sl r1 ((v_h r1) - 1)))), (4, .int 1), (3, .int (nI (tm - tm % v_w r))), (0, .ref (a_o A)), (1, .int (nI tm)), (2, .int v)]) hx hb dX0_take_117 hl (k := 2) rfl (by decide) (by decide) rfl (fun ls hl => ?_)
                    refine lv_goto (tgt := 62) hx hb dX0_take_120 (by decide) ?_
                    refine lv_iload hx hb dX0_take_62 (lv_at hl 0 rfl) ?_
                    refine lv_iconst (v := 4) hx hb dX0_take_64 (by decide) ?_
                    refine lv_icmp_ge (tgt := 123) hx hb dX0_take_65 (by decide) (fun c_65 => ?_) (fun c_65 => ?_)
                    · exact absurd c_65 (by decide)
                    · refine lv_iload hx hb dX0_take_68 (lv_at hl 0 rfl) ?_
                      refine lv_iconst (v := 3) hx hb dX0_take_70 (by decide) ?_
                      refine lv_icmp_ne (tgt := 78) hx hb dX0_take_71 (by decide) (fun c_71 => ?_) (fun c_71 => ?_)
                      · refine lv_iload_n hx hb dX0_take_78 rfl (lv_at hl 8 rfl) ?_
                        refine lv_istore (lv' := [(7, .int v), (6, .int 2), (8, .ref (a_b A 1)), (5, .int (nI (sl r1 ((v_h r1) - 1)))), (4, .int 1), (3, .int (nI (tm - tm % v_w r))), (0, .ref (a_o A)), (1, .int (nI tm)), (2, .int v)]) hx hb dX0_take_79 hl (by decide) rfl (fun ls hl => ?_)
                        refine lv_aload_n hx hb dX0_take_81 rfl (lv_at hl 6 rfl) ?_
                        refine va_get (D := D) (ci := 0) (v := .ref (a_f A)) (C := RX0) (T := TX0) (N := 7) hx hb hts hi0 hown hK hP 0 rfl rfl 3 (by decide) (hts (.fieldLink RX0 27 "RingSeries$Ring" "figures" "[[I") (by decide +kernel)) (fun _ h9 => h9) rfl dX0_take_82 ?_
                        refine lv_iload hx hb dX0_take_85 (lv_at hl 1 rfl) ?_
                        refine ald_a (j := 2) hx hb hK hP 2 1 rfl rfl (by omega) (by omega) dX0_take_87 ?_
                        refine lv_astore (lv' := [(8, .ref (a_b A 2)), (7, .int v), (6, .int 2), (5, .int (nI (sl r1 ((v_h r1) - 1)))), (4, .int 1), (3, .int (nI (tm - tm % v_w r))), (0, .ref (a_o A)), (1, .int (nI tm)), (2, .int v)]) hx hb dX0_take_88 hl (by decide) rfl (fun ls hl => ?_)
                        refine lv_aload hx hb dX0_take_90 (lv_at hl 0 rfl) ?_
                        refine lv_iload hx hb dX0_take_92 (lv_at hl 3 rfl) ?_
                        refine lv_iload hx hb dX0_take_94 (lv_at hl 4 rfl) ?_
                        refine lv_if_eq (tgt := 104) hx hb dX0_take_96 (by decide) (fun c_96 => ?_) (fun c_96 => ?_)
                        · exact absurd c_96 (by decide)
                        · refine lv_iload hx hb dX0_take_99 (lv_at hl 1 rfl) ?_
                          refine lv_goto (tgt := 116) hx hb dX0_take_101 (by decide) ?_
                          refine ast_i (j := (sl r1 ((v_h r1) - 1))) hx hb hK hP hD hS 5 0 rfl rfl s9 (by omega) dX0_take_116 (fun H locs hP hD hS => ?_)
                          have hP : va_P D vwCl [(a_o A, .inr (0, [.int (nI (v_N r1)), .int (nI (v_w r1)), .ref (a_s A), .ref (a_f A), .int (nI (v_o r1)), .int (nI (v_h r1)), .int (v_g r1)])), (a_s A, .inl (cI, v_N r1, .inl (v_S r1))), (a_f A, .inl (cA, 4, .inr (.inr (.inr (.inr (fun k => some (a_b A k))))))), (a_b A 0, .inl (cI, v_N r1, .inl (upd (v_F r1 0) (sl r1 ((v_h r1) - 1)) v))), (a_b A 1, .inl (cI, v_N r1, .inl (upd (v_F r1 1) (sl r1 ((v_h r1) - 1)) v))), (a_b A 2, .inl (cI, v_N r1, .inl (upd (v_F r1 2) (sl r1 ((v_h r1) - 1)) v))), (a_b A 3, .inl (cI, v_N r1, .inl (v_F r1 3)))] H := hP
                          have hD : va_D (va_A (rgW cI cA A r) s.heap.size) [(a_o A, .inr (0, [.int (nI (v_N r1)), .int (nI (v_w r1)), .ref (a_s A), .ref (a_f A), .int (nI (v_o r1)), .int (nI (v_h r1)), .int (v_g r1)])), (a_s A, .inl (cI, v_N r1, .inl (v_S r1))), (a_f A, .inl (cA, 4, .inr (.inr (.inr (.inr (fun k => some (a_b A k))))))), (a_b A 0, .inl (cI, v_N r1, .inl (upd (v_F r1 0) (sl r1 ((v_h r1) - 1)) v))), (a_b A 1, .inl (cI, v_N r1, .inl (upd (v_F r1 1) (sl r1 ((v_h r1) - 1)) v))), (a_b A 2, .inl (cI, v_N r1, .inl (upd (v_F r1 2) (sl r1 ((v_h r1) - 1)) v))), (a_b A 3, .inl (cI, v_N r1, .inl (v_F r1 3)))] := hD
                          refine lv_iinc (v := 3) (lv' := [(6, .int 3), (8, .ref (a_b A 2)), (7, .int v), (5, .int (nI (sl r1 ((v_h r1) - 1)))), (4, .int 1), (3, .int (nI (tm - tm % v_w r))), (0, .ref (a_o A)), (1, .int (nI tm)), (2, .int v)]) hx hb dX0_take_117 hl (k := 2) rfl (by decide) (by decide) rfl (fun ls hl => ?_)
                          refine lv_goto (tgt := 62) hx hb dX0_take_120 (by decide) ?_
                          refine lv_iload hx hb dX0_take_62 (lv_at hl 0 rfl) ?_
                          refine lv_iconst (v := 4) hx hb dX0_take_64 (by decide) ?_
                          refine lv_icmp_ge (tgt := 123) hx hb dX0_take_65 (by decide) (fun c_65 => ?_) (fun c_65 => ?_)
                          · exact absurd c_65 (by decide)
                          · refine lv_iload hx hb dX0_take_68 (lv_at hl 0 rfl) ?_
                            refine lv_iconst (v := 3) hx hb dX0_take_70 (by decide) ?_
                            refine lv_icmp_ne (tgt := 78) hx hb dX0_take_71 (by decide) (fun c_71 => ?_) (fun c_71 => ?_)
                            · exact absurd rfl c_71
                            · refine lv_iconst (v := 1) hx hb dX0_take_74 (by decide) ?_
                              refine lv_goto (tgt := 79) hx hb dX0_take_75 (by decide) ?_
                              refine lv_istore (lv' := [(7, .int 1), (6, .int 3), (8, .ref (a_b A 2)), (5, .int (nI (sl r1 ((v_h r1) - 1)))), (4, .int 1), (3, .int (nI (tm - tm % v_w r))), (0, .ref (a_o A)), (1, .int (nI tm)), (2, .int v)]) hx hb dX0_take_79 hl (by decide) rfl (fun ls hl => ?_)
                              refine lv_aload_n hx hb dX0_take_81 rfl (lv_at hl 6 rfl) ?_
                              refine va_get (D := D) (ci := 0) (v := .ref (a_f A)) (C := RX0) (T := TX0) (N := 7) hx hb hts hi0 hown hK hP 0 rfl rfl 3 (by decide) (hts (.fieldLink RX0 27 "RingSeries$Ring" "figures" "[[I") (by decide +kernel)) (fun _ h9 => h9) rfl dX0_take_82 ?_
                              refine lv_iload hx hb dX0_take_85 (lv_at hl 1 rfl) ?_
                              refine ald_a (j := 3) hx hb hK hP 2 1 rfl rfl (by omega) (by omega) dX0_take_87 ?_
                              refine lv_astore (lv' := [(8, .ref (a_b A 3)), (7, .int 1), (6, .int 3), (5, .int (nI (sl r1 ((v_h r1) - 1)))), (4, .int 1), (3, .int (nI (tm - tm % v_w r))), (0, .ref (a_o A)), (1, .int (nI tm)), (2, .int v)]) hx hb dX0_take_88 hl (by decide) rfl (fun ls hl => ?_)
                              refine lv_aload hx hb dX0_take_90 (lv_at hl 0 rfl) ?_
                              refine lv_iload hx hb dX0_take_92 (lv_at hl 3 rfl) ?_
                              refine lv_iload hx hb dX0_take_94 (lv_at hl 4 rfl) ?_
                              refine lv_if_eq (tgt := 104) hx hb dX0_take_96 (by decide) (fun c_96 => ?_) (fun c_96 => ?_)
                              · exact absurd c_96 (by decide)
                              · refine lv_iload hx hb dX0_take_99 (lv_at hl 1 rfl) ?_
                                refine lv_goto (tgt := 116) hx hb dX0_take_101 (by decide) ?_
                                refine ast_i (j := (sl r1 ((v_h r1) - 1))) hx hb hK hP hD hS 6 0 rfl rfl s9 (by omega) dX0_take_116 (fun H locs hP hD hS => ?_)
                                have hP : va_P D vwCl [(a_o A, .inr (0, [.int (nI (v_N r1)), .int (nI (v_w r1)), .ref (a_s A), .ref (a_f A), .int (nI (v_o r1)), .int (nI (v_h r1)), .int (v_g r1)])), (a_s A, .inl (cI, v_N r1, .inl (v_S r1))), (a_f A, .inl (cA, 4, .inr (.inr (.inr (.inr (fun k => some (a_b A k))))))), (a_b A 0, .inl (cI, v_N r1, .inl (upd (v_F r1 0) (sl r1 ((v_h r1) - 1)) v))), (a_b A 1, .inl (cI, v_N r1, .inl (upd (v_F r1 1) (sl r1 ((v_h r1) - 1)) v))), (a_b A 2, .inl (cI, v_N r1, .inl (upd (v_F r1 2) (sl r1 ((v_h r1) - 1)) v))), (a_b A 3, .inl (cI, v_N r1, .inl (upd (v_F r1 3) (sl r1 ((v_h r1) - 1)) 1)))] H := hP
                                have hD : va_D (va_A (rgW cI cA A r) s.heap.size) [(a_o A, .inr (0, [.int (nI (v_N r1)), .int (nI (v_w r1)), .ref (a_s A), .ref (a_f A), .int (nI (v_o r1)), .int (nI (v_h r1)), .int (v_g r1)])), (a_s A, .inl (cI, v_N r1, .inl (v_S r1))), (a_f A, .inl (cA, 4, .inr (.inr (.inr (.inr (fun k => some (a_b A k))))))), (a_b A 0, .inl (cI, v_N r1, .inl (upd (v_F r1 0) (sl r1 ((v_h r1) - 1)) v))), (a_b A 1, .inl (cI, v_N r1, .inl (upd (v_F r1 1) (sl r1 ((v_h r1) - 1)) v))), (a_b A 2, .inl (cI, v_N r1, .inl (upd (v_F r1 2) (sl r1 ((v_h r1) - 1)) v))), (a_b A 3, .inl (cI, v_N r1, .inl (upd (v_F r1 3) (sl r1 ((v_h r1) - 1)) 1)))] := hD
                                refine lv_iinc (v := 4) (lv' := [(6, .int 4), (8, .ref (a_b A 3)), (7, .int 1), (5, .int (nI (sl r1 ((v_h r1) - 1)))), (4, .int 1), (3, .int (nI (tm - tm % v_w r))), (0, .ref (a_o A)), (1, .int (nI tm)), (2, .int v)]) hx hb dX0_take_117 hl (k := 2) rfl (by decide) (by decide) rfl (fun ls hl => ?_)
                                refine lv_goto (tgt := 62) hx hb dX0_take_120 (by decide) ?_
                                refine lv_iload hx hb dX0_take_62 (lv_at hl 0 rfl) ?_
                                refine lv_iconst (v := 4) hx hb dX0_take_64 (by decide) ?_
                                refine lv_icmp_ge (tgt := 123) hx hb dX0_take_65 (by decide) (fun c_65 => ?_) (fun c_65 => ?_)
                                · exact wr_vret hx hb hr (show va_P D vwCl (rgW cI cA A (rowN r1 v)) _ from hP) hS dX0_take_123 hlocks
                                · exact absurd (show (4 : Int32) ≤ 4 by decide) c_65
                      · exact absurd c_71 (by decide)
                · exact absurd c_71 (by decide)
          · exact absurd c_71 (by decide)
set_option maxHeartbeats 4000000 in
set_option maxRecDepth 100000 in
/-- take(time, value) -/
theorem c_X0_take_b (l : Launch) {D : va_G} {cI cA cJ : ClassId} {H : Heap} (A : rgA) (r : rgV) (hk : r_ok r) (hP : va_P D vwCl (rgW cI cA A r) H) {A0 : Nat → Prop} (hD0 : va_D A0 (rgW cI cA A r)) (tm : Nat) (ht : tm < 2 ^ 31) (v : Int32) (ho : ¬ opn r tm) : Met l yX0_take wsX0_take ({ frames := 2, cells := 0, slots := 0, locals := 43 }) (ro_P D vwCl (tyL cI cA cJ) H [.ref (a_o A), .int (nI tm), .int v]) (wr_Q (none) D vwCl H (rgW cI cA A r) (rgW cI cA A (rowJ r v))) 0 0 (va_A (rgW cI cA A r) H.size) := by
  refine Met.ofW (cc := cX0_take) (maxL := 9) (ret := none) (by decide) rfl ?_
  intro p e s m args below meth c s₁ B hml hv
  obtain ⟨rfl, hh, hK⟩ := hv
  subst hh
  have hx := B.exec
  have hb := B.bytes
  have hr := B.returns
  have hlocks := B.notSynchronized
  have hts := atoms_spec (ws := wsX0_take) B.pre
  have hown : s.vm.findClass RX0 = some m.cls := findClass_of_methodNamed B.named
  have hi0 : ∀ w ∈ wsX00, w ∈ wsX0_take := fun w h => List.mem_cons_of_mem _ (List.mem_append_right _ h)
  have hl := lv_entry ([.ref (a_o A), .int (nI tm), .int v]) (n := 9) (Nat.le_of_ble_eq_true rfl)
  rw [lg_entry_eq]
  generalize (lg_sl ([.ref (a_o A), .int (nI tm), .int v]) ++ List.replicate (9 - (lg_sl ([.ref (a_o A), .int (nI tm), .int v])).length) Slot.unset).toArray = ls at hl ⊢
  have hl : lv_has ls 9 [(0, .ref (a_o A)), (1, .int (nI tm)), (2, .int v)] := hl
  have hD := hD0.self (sz := s.heap.size)
  have hA : ∀ z : Nat, s.heap.size ≤ z → va_A (rgW cI cA A r) s.heap.size z := fun z h => Or.inr h
  have hS : va_S (va_A (rgW cI cA A r) s.heap.size) s.heap s.heap [] := va_S.rf
  obtain ⟨k1, k2, k3, k4, k5, k6⟩ := id hk
  have q9 : tm % v_w r ≤ tm := Nat.mod_le _ _
  have hP : va_P D vwCl [(a_o A, .inr (0, [.int (nI (v_N r)), .int (nI (v_w r)), .ref (a_s A), .ref (a_f A), .int (nI (v_o r)), .int (nI (v_h r)), .int (v_g r)])), (a_s A, .inl (cI, v_N r, .inl (v_S r))), (a_f A, .inl (cA, 4, .inr (.inr (.inr (.inr (fun k => some (a_b A k))))))), (a_b A 0, .inl (cI, v_N r, .inl (v_F r 0))), (a_b A 1, .inl (cI, v_N r, .inl (v_F r 1))), (a_b A 2, .inl (cI, v_N r, .inl (v_F r 2))), (a_b A 3, .inl (cI, v_N r, .inl (v_F r 3)))] s.heap := hP
  have hD : va_D (va_A (rgW cI cA A r) s.heap.size) [(a_o A, .inr (0, [.int (nI (v_N r)), .int (nI (v_w r)), .ref (a_s A), .ref (a_f A), .int (nI (v_o r)), .int (nI (v_h r)), .int (v_g r)])), (a_s A, .inl (cI, v_N r, .inl (v_S r))), (a_f A, .inl (cA, 4, .inr (.inr (.inr (.inr (fun k => some (a_b A k))))))), (a_b A 0, .inl (cI, v_N r, .inl (v_F r 0))), (a_b A 1, .inl (cI, v_N r, .inl (v_F r 1))), (a_b A 2, .inl (cI, v_N r, .inl (v_F r 2))), (a_b A 3, .inl (cI, v_N r, .inl (v_F r 3)))] := hD
  refine lv_iload_n hx hb dX0_take_0 rfl (lv_at hl 1 rfl) ?_
  refine lv_iload_n hx hb dX0_take_1 rfl (lv_at hl 1 rfl) ?_
  refine lv_aload_n hx hb dX0_take_2 rfl (lv_at hl 0 rfl) ?_
  refine va_get (D := D) (ci := 0) (v := .int (nI (v_w r))) (C := RX0) (T := TX0) (N := 7) hx hb hts hi0 hown hK hP 0 rfl rfl 1 (by decide) (hts (.fieldLink RX0 18 "RingSeries$Ring" "width" "I") (by decide +kernel)) (fun _ h9 => h9) rfl dX0_take_3 ?_
  refine lv_irem hx hb dX0_take_6 (nI_ne0 (by omega) (by omega)) ?_
  refine top_i (pk_rem (by omega) (by omega) (by omega)) ?_
  refine lv_isub hx hb dX0_take_7 ?_
  refine top_i (pk_sub (a := tm) (b := tm % v_w r) (Nat.mod_le _ _)) ?_
  refine lv_istore_n (lv' := [(3, .int (nI (tm - (tm % v_w r)))), (0, .ref (a_o A)), (1, .int (nI tm)), (2, .int v)]) hx hb dX0_take_8 rfl hl (by decide) rfl (fun ls hl => ?_)
  refine lv_aload_n hx hb dX0_take_9 rfl (lv_at hl 1 rfl) ?_
  refine va_get (D := D) (ci := 0) (v := .int (nI (v_h r))) (C := RX0) (T := TX0) (N := 7) hx hb hts hi0 hown hK hP 0 rfl rfl 5 (by decide) (hts (.fieldLink RX0 30 "RingSeries$Ring" "held" "I") (by decide +kernel)) (fun _ h9 => h9) rfl dX0_take_10 ?_
  refine lv_if_eq (tgt := 30) hx hb dX0_take_13 (by decide) (fun c_13 => ?_) (fun c_13 => ?_)
  · have c_13 := (nI_eq (a := v_h r) (b := 0) (by omega) (by omega)).mp c_13
    exact absurd (Or.inl c_13) ho
  · have c_13 := mt (nI_eq (a := v_h r) (b := 0) (by omega) (by omega)).mpr c_13
    refine lv_aload_n hx hb dX0_take_16 rfl (lv_at hl 1 rfl) ?_
    refine lv_aload_n hx hb dX0_take_17 rfl (lv_at hl 1 rfl) ?_
    refine va_get (D := D) (ci := 0) (v := .int (nI (v_h r))) (C := RX0) (T := TX0) (N := 7) hx hb hts hi0 hown hK hP 0 rfl rfl 5 (by decide) (hts (.fieldLink RX0 30 "RingSeries$Ring" "held" "I") (by decide +kernel)) (fun _ h9 => h9) rfl dX0_take_18 ?_
    refine lv_iconst (v := 1) hx hb dX0_take_21 (by decide) ?_
    refine lv_isub hx hb dX0_take_22 ?_
    refine top_i (pk_sub (a := v_h r) (b := 1) (by omega)) ?_
    refine ro_call (va_runV (As := [.int (nI ((v_h r) - 1))]) (rest := []) ⟨hx, hb, hml, hown, hts⟩ (c_X0_startOf l A r hk (show va_P D vwCl (rgW cI cA A r) _ from hP) ((v_h r) - 1) (by omega)) (cwV 1 hts gX0_take_X0_startOf rfl rfl rfl (by decide +kernel) ⟨Nat.le_of_ble_eq_true rfl, Nat.le_of_ble_eq_true rfl⟩) (ro_preV hK (va_recv hK hP (ci := 0) (q0 := 0) rfl rfl)) rfl rfl hl.1 rfl (lv_room (Nat.le_of_ble_eq_true rfl)) dX0_take_23 ⟨Nat.zero_le _, Nat.zero_le _⟩) ?_
    refine lv_iload_n hx hb dX0_take_26 rfl (lv_at hl 0 rfl) ?_
    refine lv_icmp_eq (tgt := 34) hx hb dX0_take_27 (by decide) (fun c_27 => ?_) (fun c_27 => ?_)
    · refine lv_iconst (v := 0) hx hb dX0_take_34 (by decide) ?_
      refine lv_istore (lv' := [(4, .int 0), (3, .int (nI (tm - (tm % v_w r)))), (0, .ref (a_o A)), (1, .int (nI tm)), (2, .int v)]) hx hb dX0_take_35 hl (by decide) rfl (fun ls hl => ?_)
      refine lv_iload hx hb dX0_take_37 (lv_at hl 0 rfl) ?_
      refine lv_if_eq (tgt := 47) hx hb dX0_take_39 (by decide) (fun c_39 => ?_) (fun c_39 => ?_)
      · have o1 := hk
        have s9 : sl r (v_h r - 1) < v_N r := sl_lt hk (by omega)
        have hP : va_P D vwCl [(a_o A, .inr (0, [.int (nI (v_N r)), .int (nI (v_w r)), .ref (a_s A), .ref (a_f A), .int (nI (v_o r)), .int (nI (v_h r)), .int (v_g r)])), (a_s A, .inl (cI, v_N r, .inl (v_S r))), (a_f A, .inl (cA, 4, .inr (.inr (.inr (.inr (fun k => some (a_b A k))))))), (a_b A 0, .inl (cI, v_N r, .inl (v_F r 0))), (a_b A 1, .inl (cI, v_N r, .inl (v_F r 1))), (a_b A 2, .inl (cI, v_N r, .inl (v_F r 2))), (a_b A 3, .inl (cI, v_N r, .inl (v_F r 3)))] _ := hP
        have hD : va_D (va_A (rgW cI cA A r) s.heap.size) [(a_o A, .inr (0, [.int (nI (v_N r)), .int (nI (v_w r)), .ref (a_s A), .ref (a_f A), .int (nI (v_o r)), .int (nI (v_h r)), .int (v_g r)])), (a_s A, .inl (cI, v_N r, .inl (v_S r))), (a_f A, .inl (cA, 4, .inr (.inr (.inr (.inr (fun k => some (a_b A k))))))), (a_b A 0, .inl (cI, v_N r, .inl (v_F r 0))), (a_b A 1, .inl (cI, v_N r, .inl (v_F r 1))), (a_b A 2, .inl (cI, v_N r, .inl (v_F r 2))), (a_b A 3, .inl (cI, v_N r, .inl (v_F r 3)))] := hD
        refine lv_aload_n hx hb dX0_take_47 rfl (lv_at hl 2 rfl) ?_
        refine lv_aload_n hx hb dX0_take_48 rfl (lv_at hl 2 rfl) ?_
        refine va_get (D := D) (ci := 0) (v := .int (nI (v_h r))) (C := RX0) (T := TX0) (N := 7) hx hb hts hi0 hown hK hP 0 rfl rfl 5 (by decide) (hts (.fieldLink RX0 30 "RingSeries$Ring" "held" "I") (by decide +kernel)) (fun _ h9 => h9) rfl dX0_take_49 ?_
        refine lv_iconst (v := 1) hx hb dX0_take_52 (by decide) ?_
        refine lv_isub hx hb dX0_take_53 ?_
        refine top_i (pk_sub (a := v_h r) (b := 1) (by omega)) ?_
        refine ro_call (va_runV (As := [.int (nI ((v_h r) - 1))]) (rest := []) ⟨hx, hb, hml, hown, hts⟩ (c_X0_slot l A r o1 (show va_P D vwCl (rgW cI cA A r) _ from hP) ((v_h r) - 1) (by omega)) (cwV 1 hts gX0_take_X0_slot rfl rfl rfl (by decide +kernel) ⟨Nat.le_of_ble_eq_true rfl, Nat.le_of_ble_eq_true rfl⟩) (ro_preV hK (va_recv hK hP (ci := 0) (q0 := 0) rfl rfl)) rfl rfl hl.1 rfl (lv_room (Nat.le_of_ble_eq_true rfl)) dX0_take_54 ⟨Nat.zero_le _, Nat.zero_le _⟩) ?_
        refine lv_istore (lv' := [(5, .int (nI (sl r ((v_h r) - 1)))), (4, .int 0), (3, .int (nI (tm - tm % v_w r))), (0, .ref (a_o A)), (1, .int (nI tm)), (2, .int v)]) hx hb dX0_take_57 hl (by decide) rfl (fun ls hl => ?_)
        refine lv_iconst (v := 0) hx hb dX0_take_59 (by decide) ?_
        refine lv_istore (lv' := [(6, .int 0), (5, .int (nI (sl r ((v_h r) - 1)))), (4, .int 0), (3, .int (nI (tm - tm % v_w r))), (0, .ref (a_o A)), (1, .int (nI tm)), (2, .int v)]) hx hb dX0_take_60 hl (by decide) rfl (fun ls hl => ?_)
        refine lv_iload hx hb dX0_take_62 (lv_at hl 0 rfl) ?_
        refine lv_iconst (v := 4) hx hb dX0_take_64 (by decide) ?_
        refine lv_icmp_ge (tgt := 123) hx hb dX0_take_65 (by decide) (fun c_65 => ?_) (fun c_65 => ?_)
        · exact absurd c_65 (by decide)
        · refine lv_iload hx hb dX0_take_68 (lv_at hl 0 rfl) ?_
          refine lv_iconst (v := 3) hx hb dX0_take_70 (by decide) ?_
          refine lv_icmp_ne (tgt := 78) hx hb dX0_take_71 (by decide) (fun c_71 => ?_) (fun c_71 => ?_)
          · refine lv_iload_n hx hb dX0_take_78 rfl (lv_at hl 6 rfl) ?_
            refine lv_istore (lv' := [(7, .int v), (6, .int 0), (5, .int (nI (sl r ((v_h r) - 1)))), (4, .int 0), (3, .int (nI (tm - tm % v_w r))), (0, .ref (a_o A)), (1, .int (nI tm)), (2, .int v)]) hx hb dX0_take_79 hl (by decide) rfl (fun ls hl => ?_)
            refine lv_aload_n hx hb dX0_take_81 rfl (lv_at hl 5 rfl) ?_
            refine va_get (D := D) (ci := 0) (v := .ref (a_f A)) (C := RX0) (T := TX0) (N := 7) hx hb hts hi0 hown hK hP 0 rfl rfl 3 (by decide) (hts (.fieldLink RX0 27 "RingSeries$Ring" "figures" "[[I") (by decide +kernel)) (fun _ h9 => h9) rfl dX0_take_82 ?_
            refine lv_iload hx hb dX0_take_85 (lv_at hl 1 rfl) ?_
            refine ald_a (j := 0) hx hb hK hP 2 1 rfl rfl (by omega) (by omega) dX0_take_87 ?_
            refine lv_astore (lv' := [(8, .ref (a_b A 0)), (7, .int v), (6, .int 0), (5, .int (nI (sl r ((v_h r) - 1)))), (4, .int 0), (3, .int (nI (tm - tm % v_w r))), (0, .ref (a_o A)), (1, .int (nI tm)), (2, .int v)]) hx hb dX0_take_88 hl (by decide) rfl (fun ls hl => ?_)
            refine lv_aload hx hb dX0_take_90 (lv_at hl 0 rfl) ?_
            refine lv_iload hx hb dX0_take_92 (lv_at hl 3 rfl) ?_
            refine lv_iload hx hb dX0_take_94 (lv_at hl 4 rfl) ?_
            refine lv_if_eq (tgt := 104) hx hb dX0_take_96 (by decide) (fun c_96 => ?_) (fun c_96 => ?_)
            · refine lv_aload hx hb dX0_take_104 (lv_at hl 0 rfl) ?_
              refine lv_iload hx hb dX0_take_106 (lv_at hl 3 rfl) ?_
              refine ald_i (j := (sl r ((v_h r) - 1))) hx hb hK hP 3 0 rfl rfl s9 (by omega) dX0_take_108 ?_
              refine lv_iload hx hb dX0_take_109 (lv_at hl 1 rfl) ?_
              refine lv_iload hx hb dX0_take_111 (lv_at hl 2 rfl) ?_
              refine ro_call (va_runS (As := [.int ((v_F r 0) (sl r ((v_h r) - 1))), .int v, .int 0]) (rest := [.int (nI (sl r ((v_h r) - 1))), .ref (a_b A 0)]) ⟨hx, hb, hml, hown, hts⟩ (c_X0_joined_any l (k := 0) (by omega) ((v_F r 0) (sl r ((v_h r) - 1))) v) (va_cwS 3 hts gX0_take_X0_joined rfl rfl rfl (by decide +kernel) ⟨Nat.le_of_ble_eq_true rfl, Nat.le_of_ble_eq_true rfl⟩) (ro_preS hK) rfl rfl hl.1 rfl (lv_room (Nat.le_of_ble_eq_true rfl)) dX0_take_113 ⟨Nat.zero_le _, Nat.zero_le _⟩) ?_
              refine ast_i (j := (sl r ((v_h r) - 1))) hx hb hK hP hD hS 3 0 rfl rfl s9 (by omega) dX0_take_116 (fun H locs hP hD hS => ?_)
              have hP : va_P D vwCl [(a_o A, .inr (0, [.int (nI (v_N r)), .int (nI (v_w r)), .ref (a_s A), .ref (a_f A), .int (nI (v_o r)), .int (nI (v_h r)), .int (v_g r)])), (a_s A, .inl (cI, v_N r, .inl (v_S r))), (a_f A, .inl (cA, 4, .inr (.inr (.inr (.inr (fun k => some (a_b A k))))))), (a_b A 0, .inl (cI, v_N r, .inl (upd (v_F r 0) (sl r ((v_h r) - 1)) (jn 0 ((v_F r 0) (sl r ((v_h r) - 1))) v)))), (a_b A 1, .inl (cI, v_N r, .inl (v_F r 1))), (a_b A 2, .inl (cI, v_N r, .inl (v_F r 2))), (a_b A 3, .inl (cI, v_N r, .inl (v_F r 3)))] H := hP
              have hD : va_D (va_A (rgW cI cA A r) s.heap.size) [(a_o A, .inr (0, [.int (nI (v_N r)), .int (nI (v_w r)), .ref (a_s A), .ref (a_f A), .int (nI (v_o r)), .int (nI (v_h r)), .int (v_g r)])), (a_s A, .inl (cI, v_N r, .inl (v_S r))), (a_f A, .inl (cA, 4, .inr (.inr (.inr (.inr (fun k => some (a_b A k))))))), (a_b A 0, .inl (cI, v_N r, .inl (upd (v_F r 0) (sl r ((v_h r) - 1)) (jn 0 ((v_F r 0) (sl r ((v_h r) - 1))) v)))), (a_b A 1, .inl (cI, v_N r, .inl (v_F r 1))), (a_b A 2, .inl (cI, v_N r, .inl (v_F r 2))), (a_b A 3, .inl (cI, v_N r, .inl (v_F r 3)))] := hD
              refine lv_iinc (v := 1) (lv' := [(6, .int 1), (8, .ref (a_b A 0)), (7, .int v), (5, .int (nI (sl r ((v_h r) - 1)))), (4, .int 0), (3, .int (nI (tm - tm % v_w r))), (0, .ref (a_o A)), (1, .int (nI tm)), (2, .int v)]) hx hb dX0_take_117 hl (k := 2) rfl (by decide) (by decide) rfl (fun ls hl => ?_)
              refine lv_goto (tgt := 62) hx hb dX0_take_120 (by decide) ?_
              refine lv_iload hx hb dX0_take_62 (lv_at hl 0 rfl) ?_
              refine lv_iconst (v := 4) hx hb dX0_take_64 (by decide) ?_
              refine lv_icmp_ge (tgt := 123) hx hb dX0_take_65 (by decide) (fun c_65 => ?_) (fun c_65 => ?_)
              · exact absurd c_65 (by decide)
              · refine lv_iload hx hb dX0_take_68 (lv_at hl 0 rfl) ?_
                refine lv_iconst (v := 3) hx hb dX0_take_70 (by decide) ?_
                refine lv_icmp_ne (tgt := 78) hx hb dX0_take_71 (by decide) (fun c_71 => ?_) (fun c_71 => ?_)
                · refine lv_iload_n hx hb dX0_take_78 rfl (lv_at hl 8 rfl) ?_
                  refine lv_istore (lv' := [(7, .int v), (6, .int 1), (8, .ref (a_b A 0)), (5, .int (nI (sl r ((v_h r) - 1)))), (4, .int 0), (3, .int (nI (tm - tm % v_w r))), (0, .ref (a_o A)), (1, .int (nI tm)), (2, .int v)]) hx hb dX0_take_79 hl (by decide) rfl (fun ls hl => ?_)
                  refine lv_aload_n hx hb dX0_take_81 rfl (lv_at hl 6 rfl) ?_
                  refine va_get (D := D) (ci := 0) (v := .ref (a_f A)) (C := RX0) (T := TX0) (N := 7) hx hb hts hi0 hown hK hP 0 rfl rfl 3 (by decide) (hts (.fieldLink RX0 27 "RingSeries$Ring" "figures" "[[I") (by decide +kernel)) (fun _ h9 => h9) rfl dX0_take_82 ?_
                  refine lv_iload hx hb dX0_take_85 (lv_at hl 1 rfl) ?_
                  refine ald_a (j := 1) hx hb hK hP 2 1 rfl rfl (by omega) (by omega) dX0_take_87 ?_
                  refine lv_astore (lv' := [(8, .ref (a_b A 1)), (7, .int v), (6, .int 1), (5, .int (nI (sl r ((v_h r) - 1)))), (4, .int 0), (3, .int (nI (tm - tm % v_w r))), (0, .ref (a_o A)), (1, .int (nI tm)), (2, .int v)]) hx hb dX0_take_88 hl (by decide) rfl (fun ls hl => ?_)
                  refine lv_aload hx hb dX0_take_90 (lv_at hl 0 rfl) ?_
                  refine lv_iload hx hb dX0_take_92 (lv_at hl 3 rfl) ?_
                  refine lv_iload hx hb dX0_take_94 (lv_at hl 4 rfl) ?_
                  refine lv_if_eq (tgt := 104) hx hb dX0_take_96 (by decide) (fun c_96 => ?_) (fun c_96 => ?_)
                  · refine lv_aload hx hb dX0_take_104 (lv_at hl 0 rfl) ?_
                    refine lv_iload hx hb dX0_take_106 (lv_at hl 3 rfl) ?_
                    refine ald_i (j := (sl r ((v_h r) - 1))) hx hb hK hP 4 0 rfl rfl s9 (by omega) dX0_take_108 ?_
                    refine lv_iload hx hb dX0_take_109 (lv_at hl 1 rfl) ?_
                    refine lv_iload hx hb dX0_take_111 (lv_at hl 2 rfl) ?_
                    refine ro_call (va_runS (As := [.int ((v_F r 1) (sl r ((v_h r) - 1))), .int v, .int 1]) (rest := [.int (nI (sl r ((v_h r) - 1))), .ref (a_b A 1)]) ⟨hx, hb, hml, hown, hts⟩ (c_X0_joined_any l (k := 1) (by omega) ((v_F r 1) (sl r ((v_h r) - 1))) v) (va_cwS 3 hts gX0_take_X0_joined rfl rfl rfl (by decide +kernel) ⟨Nat.le_of_ble_eq_true rfl, Nat.le_of_ble_eq_true rfl⟩) (ro_preS hK) rfl rfl hl.1 rfl (lv_room (Nat.le_of_ble_eq_true rfl)) dX0_take_113 ⟨Nat.zero_le _, Nat.zero_le _⟩) ?_
                    refine ast_i (j := (sl r ((v_h r) - 1))) hx hb hK hP hD hS 4 0 rfl rfl s9 (by omega) dX0_take_116 (fun H locs hP hD hS => ?_)
                    have hP : va_P D vwCl [(a_o A, .inr (0, [.int (nI (v_N r)), .int (nI (v_w r)), .ref (a_s A), .ref (a_f A), .int (nI (v_o r)), .int (nI (v_h r)), .int (v_g r)])), (a_s A, .inl (cI, v_N r, .inl (v_S r))), (a_f A, .inl (cA, 4, .inr (.inr (.inr (.inr (fun k => some (a_b A k))))))), (a_b A 0, .inl (cI, v_N r, .inl (upd (v_F r 0) (sl r ((v_h r) - 1)) (jn 0 ((v_F r 0) (sl r ((v_h r) - 1))) v)))), (a_b A 1, .inl (cI, v_N r, .inl (upd (v_F r 1) (sl r ((v_h r) - 1)) (jn 1 ((v_F r 1) (sl r ((v_h r) - 1))) v)))), (a_b A 2, .inl (cI, v_N r, .inl (v_F r 2))), (a_b A 3, .inl (cI, v_N r, .inl (v_F r 3)))] H := hP
                    have hD : va_D (va_A (rgW cI cA A r) s.heap.size) [(a_o A, .inr (0, [.int (nI (v_N r)), .int (nI (v_w r)), .ref (a_s A), .ref (a_f A), .int (nI (v_o r)), .int (nI (v_h r)), .int (v_g r)])), (a_s A, .inl (cI, v_N r, .inl (v_S r))), (a_f A, .inl (cA, 4, .inr (.inr (.inr (.inr (fun k => some (a_b A k))))))), (a_b A 0, .inl (cI, v_N r, .inl (upd (v_F r 0) (sl r ((v_h r) - 1)) (jn 0 ((v_F r 0) (sl r ((v_h r) - 1))) v)))), (a_b A 1, .inl (cI, v_N r, .inl (upd (v_F r 1) (sl r ((v_h r) - 1)) (jn 1 ((v_F r 1) (sl r ((v_h r) - 1))) v)))), (a_b A 2, .inl (cI, v_N r, .inl (v_F r 2))), (a_b A 3, .inl (cI, v_N r, .inl (v_F r 3)))] := hD
                    refine lv_iinc (v := 2) (lv' := [(6, .int 2), (8, .ref (a_b A 1)), (7, .int v), (5, .int (nI (sl r ((v_h r) - 1)))), (4, .int 0), (3, .int (nI (tm - tm % v_w r))), (0, .ref (a_o A)), (1, .int (nI tm)), (2, .int v)]) hx hb dX0_take_117 hl (k := 2) rfl (by decide) (by decide) rfl (fun ls hl => ?_)
                    refine lv_goto (tgt := 62) hx hb dX0_take_120 (by decide) ?_
                    refine lv_iload hx hb dX0_take_62 (lv_at hl 0 rfl) ?_
                    refine lv_iconst (v := 4) hx hb dX0_take_64 (by decide) ?_
                    refine lv_icmp_ge (tgt := 123) hx hb dX0_take_65 (by decide) (fun c_65 => ?_) (fun c_65 => ?_)
                    · exact absurd c_65 (by decide)
                    · refine lv_iload hx hb dX0_take_68 (lv_at hl 0 rfl) ?_
                      refine lv_iconst (v := 3) hx hb dX0_take_70 (by decide) ?_
                      refine lv_icmp_ne (tgt := 78) hx hb dX0_take_71 (by decide) (fun c_71 => ?_) (fun c_71 => ?_)
                      · refine lv_iload_n hx hb dX0_take_78 rfl (lv_at hl 8 rfl) ?_
                        refine lv_istore (lv' := [(7, .int v), (6, .int 2), (8, .ref (a_b A 1)), (5, .int (nI (sl r ((v_h r) - 1)))), (4, .int 0), (3, .int (nI (tm - tm % v_w r))), (0, .ref (a_o A)), (1, .int (nI tm)), (2, .int v)]) hx hb dX0_take_79 hl (by decide) rfl (fun ls hl => ?_)
                        refine lv_aload_n hx hb dX0_take_81 rfl (lv_at hl 6 rfl) ?_
                        refine va_get (D := D) (ci := 0) (v := .ref (a_f A)) (C := RX0) (T := TX0) (N := 7) hx hb hts hi0 hown hK hP 0 rfl rfl 3 (by decide) (hts (.fieldLink RX0 27 "RingSeries$Ring" "figures" "[[I") (by decide +kernel)) (fun _ h9 => h9) rfl dX0_take_82 ?_
                        refine lv_iload hx hb dX0_take_85 (lv_at hl 1 rfl) ?_
                        refine ald_a (j := 2) hx hb hK hP 2 1 rfl rfl (by omega) (by omega) dX0_take_87 ?_
                        refine lv_astore (lv' := [(8, .ref (a_b A 2)), (7, .int v), (6, .int 2), (5, .int (nI (sl r ((v_h r) - 1)))), (4, .int 0), (3, .int (nI (tm - tm % v_w r))), (0, .ref (a_o A)), (1, .int (nI tm)), (2, .int v)]) hx hb dX0_take_88 hl (by decide) rfl (fun ls hl => ?_)
                        refine lv_aload hx hb dX0_take_90 (lv_at hl 0 rfl) ?_
                        refine lv_iload hx hb dX0_take_92 (lv_at hl 3 rfl) ?_
                        refine lv_iload hx hb dX0_take_94 (lv_at hl 4 rfl) ?_
                        refine lv_if_eq (tgt := 104) hx hb dX0_take_96 (by decide) (fun c_96 => ?_) (fun c_96 => ?_)
                        · refine lv_aload hx hb dX0_take_104 (lv_at hl 0 rfl) ?_
                          refine lv_iload hx hb dX0_take_106 (lv_at hl 3 rfl) ?_
                          refine ald_i (j := (sl r ((v_h r) - 1))) hx hb hK hP 5 0 rfl rfl s9 (by omega) dX0_take_108 ?_
                          refine lv_iload hx hb dX0_take_109 (lv_at hl 1 rfl) ?_
                          refine lv_iload hx hb dX0_take_111 (lv_at hl 2 rfl) ?_
                          refine ro_call (va_runS (As := [.int ((v_F r 2) (sl r ((v_h r) - 1))), .int v, .int 2]) (rest := [.int (nI (sl r ((v_h r) - 1))), .ref (a_b A 2)]) ⟨hx, hb, hml, hown, hts⟩ (c_X0_joined_any l (k := 2) (by omega) ((v_F r 2) (sl r ((v_h r) - 1))) v) (va_cwS 3 hts gX0_take_X0_joined rfl rfl rfl (by decide +kernel) ⟨Nat.le_of_ble_eq_true rfl, Nat.le_of_ble_eq_true rfl⟩) (ro_preS hK) rfl rfl hl.1 rfl (lv_room (Nat.le_of_ble_eq_true rfl)) dX0_take_113 ⟨Nat.zero_le _, Nat.zero_le _⟩) ?_
                          refine ast_i (j := (sl r ((v_h r) - 1))) hx hb hK hP hD hS 5 0 rfl rfl s9 (by omega) dX0_take_116 (fun H locs hP hD hS => ?_)
                          have hP : va_P D vwCl [(a_o A, .inr (0, [.int (nI (v_N r)), .int (nI (v_w r)), .ref (a_s A), .ref (a_f A), .int (nI (v_o r)), .int (nI (v_h r)), .int (v_g r)])), (a_s A, .inl (cI, v_N r, .inl (v_S r))), (a_f A, .inl (cA, 4, .inr (.inr (.inr (.inr (fun k => some (a_b A k))))))), (a_b A 0, .inl (cI, v_N r, .inl (upd (v_F r 0) (sl r ((v_h r) - 1)) (jn 0 ((v_F r 0) (sl r ((v_h r) - 1))) v)))), (a_b A 1, .inl (cI, v_N r, .inl (upd (v_F r 1) (sl r ((v_h r) - 1)) (jn 1 ((v_F r 1) (sl r ((v_h r) - 1))) v)))), (a_b A 2, .inl (cI, v_N r, .inl (upd (v_F r 2) (sl r ((v_h r) - 1)) (jn 2 ((v_F r 2) (sl r ((v_h r) - 1))) v)))), (a_b A 3, .inl (cI, v_N r, .inl (v_F r 3)))] H := hP
                          have hD : va_D (va_A (rgW cI cA A r) s.heap.size) [(a_o A, .inr (0, [.int (nI (v_N r)), .int (nI (v_w r)), .ref (a_s A), .ref (a_f A), .int (nI (v_o r)), .int (nI (v_h r)), .int (v_g r)])), (a_s A, .inl (cI, v_N r, .inl (v_S r))), (a_f A, .inl (cA, 4, .inr (.inr (.inr (.inr (fun k => some (a_b A k))))))), (a_b A 0, .inl (cI, v_N r, .inl (upd (v_F r 0) (sl r ((v_h r) - 1)) (jn 0 ((v_F r 0) (sl r ((v_h r) - 1))) v)))), (a_b A 1, .inl (cI, v_N r, .inl (upd (v_F r 1) (sl r ((v_h r) - 1)) (jn 1 ((v_F r 1) (sl r ((v_h r) - 1))) v)))), (a_b A 2, .inl (cI, v_N r, .inl (upd (v_F r 2) (sl r ((v_h r) - 1)) (jn 2 ((v_F r 2) (sl r ((v_h r) - 1))) v)))), (a_b A 3, .inl (cI, v_N r, .inl (v_F r 3)))] := hD
                          refine lv_iinc (v := 3) (lv' := [(6, .int 3), (8, .ref (a_b A 2)), (7, .int v), (5, .int (nI (sl r ((v_h r) - 1)))), (4, .int 0), (3, .int (nI (tm - tm % v_w r))), (0, .ref (a_o A)), (1, .int (nI tm)), (2, .int v)]) hx hb dX0_take_117 hl (k := 2) rfl (by decide) (by decide) rfl (fun ls hl => ?_)
                          refine lv_goto (tgt := 62) hx hb dX0_take_120 (by decide) ?_
                          refine lv_iload hx hb dX0_take_62 (lv_at hl 0 rfl) ?_
                          refine lv_iconst (v := 4) hx hb dX0_take_64 (by decide) ?_
                          refine lv_icmp_ge (tgt := 123) hx hb dX0_take_65 (by decide) (fun c_65 => ?_) (fun c_65 => ?_)
                          · exact absurd c_65 (by decide)
                          · refine lv_iload hx hb dX0_take_68 (lv_at hl 0 rfl) ?_
                            refine lv_iconst (v := 3) hx hb dX0_take_70 (by decide) ?_
                            refine lv_icmp_ne (tgt := 78) hx hb dX0_take_71 (by decide) (fun c_71 => ?_) (fun c_71 => ?_)
                            · exact absurd rfl c_71
                            · refine lv_iconst (v := 1) hx hb dX0_take_74 (by decide) ?_
                              refine lv_goto (tgt := 79) hx hb dX0_take_75 (by decide) ?_
                              refine lv_istore (lv' := [(7, .int 1), (6, .int 3), (8, .ref (a_b A 2)), (5, .int (nI (sl r ((v_h r) - 1)))), (4, .int 0), (3, .int (nI (tm - tm % v_w r))), (0, .ref (a_o A)), (1, .int (nI tm)), (2, .int v)]) hx hb dX0_take_79 hl (by decide) rfl (fun ls hl => ?_)
                              refine lv_aload_n hx hb dX0_take_81 rfl (lv_at hl 6 rfl) ?_
                              refine va_get (D := D) (ci := 0) (v := .ref (a_f A)) (C := RX0) (T := TX0) (N := 7) hx hb hts hi0 hown hK hP 0 rfl rfl 3 (by decide) (hts (.fieldLink RX0 27 "RingSeries$Ring" "figures" "[[I") (by decide +kernel)) (fun _ h9 => h9) rfl dX0_take_82 ?_
                              refine lv_iload hx hb dX0_take_85 (lv_at hl 1 rfl) ?_
                              refine ald_a (j := 3) hx hb hK hP 2 1 rfl rfl (by omega) (by omega) dX0_take_87 ?_
                              refine lv_astore (lv' := [(8, .ref (a_b A 3)), (7, .int 1), (6, .int 3), (5, .int (nI (sl r ((v_h r) - 1)))), (4, .int 0), (3, .int (nI (tm - tm % v_w r))), (0, .ref (a_o A)), (1, .int (nI tm)), (2, .int v)]) hx hb dX0_take_88 hl (by decide) rfl (fun ls hl => ?_)
                              refine lv_aload hx hb dX0_take_90 (lv_at hl 0 rfl) ?_
                              refine lv_iload hx hb dX0_take_92 (lv_at hl 3 rfl) ?_
                              refine lv_iload hx hb dX0_take_94 (lv_at hl 4 rfl) ?_
                              refine lv_if_eq (tgt := 104) hx hb dX0_take_96 (by decide) (fun c_96 => ?_) (fun c_96 => ?_)
                              · refine lv_aload hx hb dX0_take_104 (lv_at hl 0 rfl) ?_
                                refine lv_iload hx hb dX0_take_106 (lv_at hl 3 rfl) ?_
                                refine ald_i (j := (sl r ((v_h r) - 1))) hx hb hK hP 6 0 rfl rfl s9 (by omega) dX0_take_108 ?_
                                refine lv_iload hx hb dX0_take_109 (lv_at hl 1 rfl) ?_
                                refine lv_iload hx hb dX0_take_111 (lv_at hl 2 rfl) ?_
                                refine ro_call (va_runS (As := [.int ((v_F r 3) (sl r ((v_h r) - 1))), .int 1, .int 3]) (rest := [.int (nI (sl r ((v_h r) - 1))), .ref (a_b A 3)]) ⟨hx, hb, hml, hown, hts⟩ (c_X0_joined_any l (k := 3) (by omega) ((v_F r 3) (sl r ((v_h r) - 1))) 1) (va_cwS 3 hts gX0_take_X0_joined rfl rfl rfl (by decide +kernel) ⟨Nat.le_of_ble_eq_true rfl, Nat.le_of_ble_eq_true rfl⟩) (ro_preS hK) rfl rfl hl.1 rfl (lv_room (Nat.le_of_ble_eq_true rfl)) dX0_take_113 ⟨Nat.zero_le _, Nat.zero_le _⟩) ?_
                                refine ast_i (j := (sl r ((v_h r) - 1))) hx hb hK hP hD hS 6 0 rfl rfl s9 (by omega) dX0_take_116 (fun H locs hP hD hS => ?_)
                                have hP : va_P D vwCl [(a_o A, .inr (0, [.int (nI (v_N r)), .int (nI (v_w r)), .ref (a_s A), .ref (a_f A), .int (nI (v_o r)), .int (nI (v_h r)), .int (v_g r)])), (a_s A, .inl (cI, v_N r, .inl (v_S r))), (a_f A, .inl (cA, 4, .inr (.inr (.inr (.inr (fun k => some (a_b A k))))))), (a_b A 0, .inl (cI, v_N r, .inl (upd (v_F r 0) (sl r ((v_h r) - 1)) (jn 0 ((v_F r 0) (sl r ((v_h r) - 1))) v)))), (a_b A 1, .inl (cI, v_N r, .inl (upd (v_F r 1) (sl r ((v_h r) - 1)) (jn 1 ((v_F r 1) (sl r ((v_h r) - 1))) v)))), (a_b A 2, .inl (cI, v_N r, .inl (upd (v_F r 2) (sl r ((v_h r) - 1)) (jn 2 ((v_F r 2) (sl r ((v_h r) - 1))) v)))), (a_b A 3, .inl (cI, v_N r, .inl (upd (v_F r 3) (sl r ((v_h r) - 1)) (jn 3 ((v_F r 3) (sl r ((v_h r) - 1))) 1))))] H := hP
                                have hD : va_D (va_A (rgW cI cA A r) s.heap.size) [(a_o A, .inr (0, [.int (nI (v_N r)), .int (nI (v_w r)), .ref (a_s A), .ref (a_f A), .int (nI (v_o r)), .int (nI (v_h r)), .int (v_g r)])), (a_s A, .inl (cI, v_N r, .inl (v_S r))), (a_f A, .inl (cA, 4, .inr (.inr (.inr (.inr (fun k => some (a_b A k))))))), (a_b A 0, .inl (cI, v_N r, .inl (upd (v_F r 0) (sl r ((v_h r) - 1)) (jn 0 ((v_F r 0) (sl r ((v_h r) - 1))) v)))), (a_b A 1, .inl (cI, v_N r, .inl (upd (v_F r 1) (sl r ((v_h r) - 1)) (jn 1 ((v_F r 1) (sl r ((v_h r) - 1))) v)))), (a_b A 2, .inl (cI, v_N r, .inl (upd (v_F r 2) (sl r ((v_h r) - 1)) (jn 2 ((v_F r 2) (sl r ((v_h r) - 1))) v)))), (a_b A 3, .inl (cI, v_N r, .inl (upd (v_F r 3) (sl r ((v_h r) - 1)) (jn 3 ((v_F r 3) (sl r ((v_h r) - 1))) 1))))] := hD
                                refine lv_iinc (v := 4) (lv' := [(6, .int 4), (8, .ref (a_b A 3)), (7, .int 1), (5, .int (nI (sl r ((v_h r) - 1)))), (4, .int 0), (3, .int (nI (tm - tm % v_w r))), (0, .ref (a_o A)), (1, .int (nI tm)), (2, .int v)]) hx hb dX0_take_117 hl (k := 2) rfl (by decide) (by decide) rfl (fun ls hl => ?_)
                                refine lv_goto (tgt := 62) hx hb dX0_take_120 (by decide) ?_
                                refine lv_iload hx hb dX0_take_62 (lv_at hl 0 rfl) ?_
                                refine lv_iconst (v := 4) hx hb dX0_take_64 (by decide) ?_
                                refine lv_icmp_ge (tgt := 123) hx hb dX0_take_65 (by decide) (fun c_65 => ?_) (fun c_65 => ?_)
                                · exact wr_vret hx hb hr (show va_P D vwCl (rgW cI cA A (rowJ r v)) _ from hP) hS dX0_take_123 hlocks
                                · exact absurd (show (4 : Int32) ≤ 4 by decide) c_65
                              · exact absurd rfl c_96
                        · exact absurd rfl c_96
                      · exact absurd c_71 (by decide)
                  · exact absurd rfl c_96
                · exact absurd c_71 (by decide)
            · exact absurd rfl c_96
          · exact absurd c_71 (by decide)
      · exact absurd rfl c_39
    · exact absurd (Or.inr c_27) ho
theorem c_X0_take (l : Launch) {D : va_G} {cI cA cJ : ClassId} {H : Heap} (A : rgA) (r : rgV) (hk : r_ok r) (hP : va_P D vwCl (rgW cI cA A r) H) {A0 : Nat → Prop} (hD0 : va_D A0 (rgW cI cA A r)) (tm : Nat) (ht : tm < 2 ^ 31) (v : Int32) : Met l yX0_take wsX0_take ({ frames := 2, cells := 0, slots := 0, locals := 43 }) (ro_P D vwCl (tyL cI cA cJ) H [.ref (a_o A), .int (nI tm), .int v]) (wr_Q none D vwCl H (rgW cI cA A r) (rgW cI cA A (tkV r tm v))) 0 0 (va_A (rgW cI cA A r) H.size) := by
  unfold tkV
  by_cases h : opn r tm
  · rw [if_pos h]; exact c_X0_take_a l A r hk hP hD0 tm ht v h
  · rw [if_neg h]; exact c_X0_take_b l A r hk hP hD0 tm ht v h
end
section
/-! Worlds beside each other. -/
def apt (l1 l2 : List Nat) : Prop := ∀ x ∈ l1, ∀ y ∈ l2, x ≠ y
theorem apt_symm {l1 l2 : List Nat} (h : apt l1 l2) : apt l2 l1 := fun x hx y hy e => h y hy x hx e.symm
theorem keepP {D : va_G} {cl : List vw_C} {w wc : va_W} {H H1 : Heap} (ap : apt (w.map (·.1)) (wc.map (·.1))) (hP : va_P D cl w H) (hk : ∀ q : Nat, q < H.size → ¬ va_A wc H.size q → H1[q]? = H[q]?) : va_P D cl w H1 := by
  intro k q hq
  have hl := (hP k q hq).lt
  refine (hP k q hq).kept (hk q.1 hl (fun z => ?_))
  rcases z with ⟨i, e, z⟩ | z
  · exact ap q.1 (List.mem_map.mpr ⟨q, List.mem_of_getElem? hq, rfl⟩) q.1 (List.mem_map.mpr ⟨(q.1, e), List.mem_of_getElem? z, rfl⟩) rfl
  · omega
theorem va_P_l {D : va_G} {cl : List vw_C} {w1 w2 : va_W} {H : Heap} (h : va_P D cl (w1 ++ w2) H) : va_P D cl w1 H := fun k q hq => h k q (by rw [List.getElem?_append_left (List.getElem?_eq_some_iff.mp hq).1]; exact hq)
theorem va_P_r {D : va_G} {cl : List vw_C} {w1 w2 : va_W} {H : Heap} (h : va_P D cl (w1 ++ w2) H) : va_P D cl w2 H := fun k q hq => h (w1.length + k) q (by rw [List.getElem?_append_right (Nat.le_add_right _ _), Nat.add_sub_cancel_left]; exact hq)
theorem va_D_l {A : Nat → Prop} {w1 w2 : va_W} (h : va_D A (w1 ++ w2)) : va_D A w1 := ⟨fun i j p q hi hj e => h.1 i j p q (by rw [List.getElem?_append_left (List.getElem?_eq_some_iff.mp hi).1]; exact hi) (by rw [List.getElem?_append_left (List.getElem?_eq_some_iff.mp hj).1]; exact hj) e, fun k q hq => h.2 k q (by rw [List.getElem?_append_left (List.getElem?_eq_some_iff.mp hq).1]; exact hq)⟩
theorem va_D_r {A : Nat → Prop} {w1 w2 : va_W} (h : va_D A (w1 ++ w2)) : va_D A w2 := ⟨fun i j p q hi hj e => by
    have := h.1 (w1.length + i) (w1.length + j) p q (by rw [List.getElem?_append_right (Nat.le_add_right _ _), Nat.add_sub_cancel_left]; exact hi) (by rw [List.getElem?_append_right (Nat.le_add_right _ _), Nat.add_sub_cancel_left]; exact hj) e
    omega, fun k q hq => h.2 (w1.length + k) q (by rw [List.getElem?_append_right (Nat.le_add_right _ _), Nat.add_sub_cancel_left]; exact hq)⟩
theorem va_D_apt {A : Nat → Prop} {w1 w2 : va_W} (h : va_D A (w1 ++ w2)) : apt (w1.map (·.1)) (w2.map (·.1)) := by
  intro x hx y hy e
  obtain ⟨p, hp, rfl⟩ := List.mem_map.mp hx
  obtain ⟨q, hq, rfl⟩ := List.mem_map.mp hy
  obtain ⟨i, hi⟩ := List.getElem?_of_mem hp
  obtain ⟨j, hj⟩ := List.getElem?_of_mem hq
  have hl := (List.getElem?_eq_some_iff.mp hi).1
  have := h.1 i (w1.length + j) p q (by rw [List.getElem?_append_left hl]; exact hi) (by rw [List.getElem?_append_right (Nat.le_add_right _ _), Nat.add_sub_cancel_left]; exact hj) e
  omega
/-- a sub-world's cells are among the whole's -/
theorem va_A_sub {w wc : va_W} {n n' : Nat} (hm : ∀ x ∈ wc.map (·.1), x ∈ w.map (·.1)) (hn : n ≤ n') : ∀ q, va_A wc n' q → va_A w n q := by
  intro q h
  rcases h with ⟨k, e, h⟩ | h
  · obtain ⟨p, hp, hpq⟩ := List.mem_map.mp (hm q (List.mem_map.mpr ⟨(q, e), List.mem_of_getElem? h, rfl⟩))
    obtain ⟨i, hi⟩ := List.getElem?_of_mem hp
    exact Or.inl ⟨i, p.2, by rw [hi, ← hpq]⟩
  · exact Or.inr (Nat.le_trans hn h)
/-- one value put in its place among the n first, which stay in order -/
def insr (v : Int32) : Nat → (Nat → Int32) → Nat → Int32
  | 0, g => upd g 0 v
  | p + 1, g => if v < g p then insr v p (upd g (p + 1) (g p)) else upd g (p + 1) v
def msr (r : rgV) : Nat → Nat → Nat → (Nat → Int32) → Nat → Int32
  | 0, _, _, g => g
  | n + 1, i, len, g => msr r n (i + 1) (len + 1) (insr (v_G r 2 i) len g)
def sqW (cI : ClassId) (sq SN : Nat) (g : Nat → Int32) : va_W := [(sq, .inl (cI, SN, .inl g))]
def mdV (r : rgV) (g : Nat → Int32) (f t : Int32) : Int32 := if sA r f = sB r f t then 0 else msr r (sB r f t - sA r f) (sA r f) 0 g ((sB r f t - sA r f - 1) / 2)
def mdG (r : rgV) (g : Nat → Int32) (f t : Int32) : Nat → Int32 := if sA r f = sB r f t then g else msr r (sB r f t - sA r f) (sA r f) 0 g
def apM (q : mv) (tm : Nat) (v : Int32) : mv := (m_P q + 1, fun p => if p = m_P q then tm else m_T q p, upd (m_V q) (m_P q) v, m_R q, m_W q)
theorem apM_W {cI cJ : ClassId} {Y : mA} {q : mv} {tm : Nat} {v : Int32} : mW cI cJ Y (apM q tm v) = [(b_o Y, .inr (2, [.int 0, .ref (b_r Y), .ref (b_w Y), .int (nI (m_P q + 1)), .ref (b_t Y), .ref (b_v Y)])), (b_r Y, .inl (cI, 3, .inl (fun k => nI (m_R q k)))), (b_w Y, .inl (cJ, 3, .inr (.inl (fun k => lN (m_W q k))))), (b_t Y, .inl (cI, 1024, .inl (upd (fun p => nI (m_T q p)) (m_P q) (nI tm)))), (b_v Y, .inl (cI, 1024, .inl (upd (m_V q) (m_P q) v)))] := by
  have h : (fun p => nI (m_T (apM q tm v) p)) = upd (fun p => nI (m_T q p)) (m_P q) (nI tm) := by
    funext p
    show nI (if p = m_P q then tm else m_T q p) = _
    unfold upd
    split <;> rfl
  unfold mW
  rw [h]
  rfl
set_option maxHeartbeats 4000000 in
set_option maxRecDepth 100000 in
/-- insertSorted(length, value) -/
theorem c_X1_insertSorted (l : Launch) {D : va_G} {cI cA cJ : ClassId} {H : Heap} (x sq : Nat) (lt : Int32) (A0 A1 A2 : rgA) (SN : Nat) (hSN : SN ≤ 60) (g : Nat → Int32) (hP : va_P D vwCl (xW x sq lt A0 A1 A2 ++ sqW cI sq SN g) H) {X0 : Nat → Prop} (hD0 : va_D X0 (xW x sq lt A0 A1 A2 ++ sqW cI sq SN g)) (ln : Nat) (hln : ln < SN) (v : Int32) : Met l yX1_insertSorted wsX1_insertSorted ({ frames := 0, cells := 0, slots := 0, locals := 0 }) (ro_P D vwCl (tyL cI cA cJ) H [.ref x, .int (nI ln), .int v]) (wr_Q (none) D vwCl H (xW x sq lt A0 A1 A2 ++ sqW cI sq SN g) (xW x sq lt A0 A1 A2 ++ sqW cI sq SN (insr v ln g))) 0 0 (va_A (xW x sq lt A0 A1 A2 ++ sqW cI sq SN g) H.size) := by
  refine Met.ofW (cc := cX1_insertSorted) (maxL := 4) (ret := none) (by decide) rfl ?_
  intro p e s m args below meth c s₁ B hml hv
  obtain ⟨rfl, hh, hK⟩ := hv
  subst hh
  have hx := B.exec
  have hb := B.bytes
  have hr := B.returns
  have hlocks := B.notSynchronized
  have hts := atoms_spec (ws := wsX1_insertSorted) B.pre
  have hown : s.vm.findClass RX1 = some m.cls := findClass_of_methodNamed B.named
  have hi1 : ∀ w ∈ wsX10, w ∈ wsX1_insertSorted := fun w h => List.mem_cons_of_mem _ (List.mem_append_right _ h)
  have hl := lv_entry ([.ref x, .int (nI ln), .int v]) (n := 4) (Nat.le_of_ble_eq_true rfl)
  rw [lg_entry_eq]
  generalize (lg_sl ([.ref x, .int (nI ln), .int v]) ++ List.replicate (4 - (lg_sl ([.ref x, .int (nI ln), .int v])).length) Slot.unset).toArray = ls at hl ⊢
  have hl : lv_has ls 4 [(0, .ref x), (1, .int (nI ln)), (2, .int v)] := hl
  have hD := hD0.self (sz := s.heap.size)
  have hA : ∀ z : Nat, s.heap.size ≤ z → va_A (xW x sq lt A0 A1 A2 ++ sqW cI sq SN g) s.heap.size z := fun z h => Or.inr h
  have hS : va_S (va_A (xW x sq lt A0 A1 A2 ++ sqW cI sq SN g) s.heap.size) s.heap s.heap [] := va_S.rf
  have loop : ∀ (n : Nat) (g1 : Nat → Int32) (H : Heap) (locs : List Loc) (ls : Array Slot), n < SN → insr v n g1 = insr v ln g → va_P D vwCl (xW x sq lt A0 A1 A2 ++ sqW cI sq SN g1) H → va_D (va_A (xW x sq lt A0 A1 A2 ++ sqW cI sq SN g) s.heap.size) (xW x sq lt A0 A1 A2 ++ sqW cI sq SN g1) → va_S (va_A (xW x sq lt A0 A1 A2 ++ sqW cI sq SN g) s.heap.size) s.heap H locs → lv_has ls 4 [(3, .int (nI n)), (0, .ref x), (1, .int (nI ln)), (2, .int v)] → W p l e (headSpec wsX1_insertSorted ({ frames := 0, cells := 0, slots := 0, locals := 0 })).room s m ([.ref x, .int (nI ln), .int v] : List Value).toArray below meth c H locs 0 0 (MQ below (wr_Q none D vwCl s.heap (xW x sq lt A0 A1 A2 ++ sqW cI sq SN g) (xW x sq lt A0 A1 A2 ++ sqW cI sq SN (insr v ln g))) ([.ref x, .int (nI ln), .int v] : List Value).toArray s 0 0 (va_A (xW x sq lt A0 A1 A2 ++ sqW cI sq SN g) s.heap.size)) (F0 m 2 ls []) := by
    intro n
    induction n with
    | zero =>
      intro g1 H locs ls hn hf hP hD hS hl
      refine lv_iload_n hx hb dX1_insertSorted_2 rfl (lv_at hl 0 rfl) ?_
      refine lv_if_le (tgt := 38) hx hb dX1_insertSorted_3 (by decide) (fun c_3 => ?_) (fun c_3 => ?_)
      · refine lv_aload_n hx hb dX1_insertSorted_38 rfl (lv_at hl 1 rfl) ?_
        refine va_get (D := D) (ci := 1) (v := .ref sq) (C := RX1) (T := TX1) (N := 5) hx hb hts hi1 hown hK hP 0 rfl rfl 3 (by decide) (hts (.fieldLink RX1 33 "RingSeries" "sorted" "[I") (by decide +kernel)) (fun _ h9 => h9) rfl dX1_insertSorted_39 ?_
        refine lv_iload_n hx hb dX1_insertSorted_42 rfl (lv_at hl 0 rfl) ?_
        refine lv_iload_n hx hb dX1_insertSorted_43 rfl (lv_at hl 3 rfl) ?_
        refine ast_i (j := 0) hx hb hK hP hD hS 1 0 rfl rfl (by omega) (by omega) dX1_insertSorted_44 (fun H locs hP hD hS => ?_)
        have hP : va_P D vwCl (xW x sq lt A0 A1 A2 ++ sqW cI sq SN (upd g1 0 v)) H := hP
        have hD : va_D (va_A (xW x sq lt A0 A1 A2 ++ sqW cI sq SN g) s.heap.size) (xW x sq lt A0 A1 A2 ++ sqW cI sq SN (upd g1 0 v)) := hD
        exact wr_vret hx hb hr (by rw [← hf]; exact hP) hS dX1_insertSorted_45 hlocks
      · exact absurd (by decide) c_3
    | succ n ih =>
      intro g1 H locs ls hn hf hP hD hS hl
      refine lv_iload_n hx hb dX1_insertSorted_2 rfl (lv_at hl 0 rfl) ?_
      refine lv_if_le (tgt := 38) hx hb dX1_insertSorted_3 (by decide) (fun c_3 => ?_) (fun c_3 => ?_)
      · exact absurd c_3 (nI_nle (by omega) (by omega))
      · refine lv_aload_n hx hb dX1_insertSorted_6 rfl (lv_at hl 1 rfl) ?_
        refine va_get (D := D) (ci := 1) (v := .ref sq) (C := RX1) (T := TX1) (N := 5) hx hb hts hi1 hown hK hP 0 rfl rfl 3 (by decide) (hts (.fieldLink RX1 33 "RingSeries" "sorted" "[I") (by decide +kernel)) (fun _ h9 => h9) rfl dX1_insertSorted_7 ?_
        refine lv_iload_n hx hb dX1_insertSorted_10 rfl (lv_at hl 0 rfl) ?_
        refine lv_iconst (v := 1) hx hb dX1_insertSorted_11 (by decide) ?_
        refine lv_isub hx hb dX1_insertSorted_12 ?_
        refine top_i (pk_sub (a := n + 1) (b := 1) (by omega)) ?_
        refine ald_i (j := ((n + 1) - 1)) hx hb hK hP 1 0 rfl rfl (by omega) (by omega) dX1_insertSorted_13 ?_
        refine lv_iload_n hx hb dX1_insertSorted_14 rfl (lv_at hl 3 rfl) ?_
        refine lv_icmp_le (tgt := 38) hx hb dX1_insertSorted_15 (by decide) (fun c_15 => ?_) (fun c_15 => ?_)
        · refine lv_aload_n hx hb dX1_insertSorted_38 rfl (lv_at hl 1 rfl) ?_
          refine va_get (D := D) (ci := 1) (v := .ref sq) (C := RX1) (T := TX1) (N := 5) hx hb hts hi1 hown hK hP 0 rfl rfl 3 (by decide) (hts (.fieldLink RX1 33 "RingSeries" "sorted" "[I") (by decide +kernel)) (fun _ h9 => h9) rfl dX1_insertSorted_39 ?_
          refine lv_iload_n hx hb dX1_insertSorted_42 rfl (lv_at hl 0 rfl) ?_
          refine lv_iload_n hx hb dX1_insertSorted_43 rfl (lv_at hl 3 rfl) ?_
          refine ast_i (j := (n + 1)) hx hb hK hP hD hS 1 0 rfl rfl (by omega) (by omega) dX1_insertSorted_44 (fun H locs hP hD hS => ?_)
          have hP : va_P D vwCl (xW x sq lt A0 A1 A2 ++ sqW cI sq SN (upd g1 (n + 1) v)) H := hP
          have hD : va_D (va_A (xW x sq lt A0 A1 A2 ++ sqW cI sq SN g) s.heap.size) (xW x sq lt A0 A1 A2 ++ sqW cI sq SN (upd g1 (n + 1) v)) := hD
          exact wr_vret hx hb hr (by rw [← hf]; exact (by rw [insr, if_neg (c := v < g1 n) (Int32.not_lt.mpr c_15)]; exact hP)) hS dX1_insertSorted_45 hlocks
        · refine lv_aload_n hx hb dX1_insertSorted_18 rfl (lv_at hl 1 rfl) ?_
          refine va_get (D := D) (ci := 1) (v := .ref sq) (C := RX1) (T := TX1) (N := 5) hx hb hts hi1 hown hK hP 0 rfl rfl 3 (by decide) (hts (.fieldLink RX1 33 "RingSeries" "sorted" "[I") (by decide +kernel)) (fun _ h9 => h9) rfl dX1_insertSorted_19 ?_
          refine lv_iload_n hx hb dX1_insertSorted_22 rfl (lv_at hl 0 rfl) ?_
          refine lv_aload_n hx hb dX1_insertSorted_23 rfl (lv_at hl 1 rfl) ?_
          refine va_get (D := D) (ci := 1) (v := .ref sq) (C := RX1) (T := TX1) (N := 5) hx hb hts hi1 hown hK hP 0 rfl rfl 3 (by decide) (hts (.fieldLink RX1 33 "RingSeries" "sorted" "[I") (by decide +kernel)) (fun _ h9 => h9) rfl dX1_insertSorted_24 ?_
          refine lv_iload_n hx hb dX1_insertSorted_27 rfl (lv_at hl 0 rfl) ?_
          refine lv_iconst (v := 1) hx hb dX1_insertSorted_28 (by decide) ?_
          refine lv_isub hx hb dX1_insertSorted_29 ?_
          refine top_i (pk_sub (a := n + 1) (b := 1) (by omega)) ?_
          refine ald_i (j := ((n + 1) - 1)) hx hb hK hP 1 0 rfl rfl (by omega) (by omega) dX1_insertSorted_30 ?_
          refine ast_i (j := (n + 1)) hx hb hK hP hD hS 1 0 rfl rfl (by omega) (by omega) dX1_insertSorted_31 (fun H locs hP hD hS => ?_)
          have hP : va_P D vwCl (xW x sq lt A0 A1 A2 ++ sqW cI sq SN (upd g1 (n + 1) (g1 ((n + 1) - 1)))) H := hP
          have hD : va_D (va_A (xW x sq lt A0 A1 A2 ++ sqW cI sq SN g) s.heap.size) (xW x sq lt A0 A1 A2 ++ sqW cI sq SN (upd g1 (n + 1) (g1 ((n + 1) - 1)))) := hD
          refine lv_iinc (v := nI n) (lv' := [(3, .int (nI n)), (0, .ref x), (1, .int (nI ln)), (2, .int v)]) hx hb dX1_insertSorted_32 hl (k := 0) rfl (dec1 _) (by decide) rfl (fun ls hl => ?_)
          refine lv_goto (tgt := 2) hx hb dX1_insertSorted_35 (by decide) ?_
          exact ih _ H locs ls (by omega) (by rw [← hf, insr, if_pos (c := v < g1 n) (Int32.not_le.mp c_15)]; rfl) hP hD hS (lv_sub hl [0, 1, 2, 3] rfl)
  refine lv_iload_n hx hb dX1_insertSorted_0 rfl (lv_at hl 1 rfl) ?_
  refine lv_istore_n (lv' := [(3, .int (nI ln)), (0, .ref x), (1, .int (nI ln)), (2, .int v)]) hx hb dX1_insertSorted_1 rfl hl (by decide) rfl (fun ls hl => ?_)
  exact loop ln g s.heap [] ls hln rfl hP hD hS (lv_sub hl [0, 1, 2, 3] rfl)
set_option maxHeartbeats 4000000 in
set_option maxRecDepth 100000 in
/-- median(from, to) -/
theorem c_X1_median (l : Launch) {D : va_G} {cI cA cJ : ClassId} {H : Heap} (x sq : Nat) (lt : Int32) (A0 A1 A2 : rgA) (r0 : rgV) (hk0 : r_ok r0) (hR0 : va_P D vwCl (rgW cI cA A0 r0) H) (g : Nat → Int32) (hP : va_P D vwCl (xW x sq lt A0 A1 A2 ++ sqW cI sq (v_N r0) g) H) {X0 : Nat → Prop} (hD0 : va_D X0 (xW x sq lt A0 A1 A2 ++ sqW cI sq (v_N r0) g)) (ap : apt ((rgW cI cA A0 r0).map (·.1)) ((xW x sq lt A0 A1 A2 ++ sqW cI sq (v_N r0) g).map (·.1))) (f t : Int32) : Met l yX1_median wsX1_median ({ frames := 4, cells := 0, slots := 0, locals := 89 }) (ro_P D vwCl (tyL cI cA cJ) H [.ref x, .int f, .int t]) (wr_Q (some (.int (mdV r0 g f t))) D vwCl H (xW x sq lt A0 A1 A2 ++ sqW cI sq (v_N r0) g) (xW x sq lt A0 A1 A2 ++ sqW cI sq (v_N r0) (mdG r0 g f t))) 0 0 (va_A (xW x sq lt A0 A1 A2 ++ sqW cI sq (v_N r0) g) H.size) := by
  refine Met.ofW (cc := cX1_median) (maxL := 6) (ret := (some .int)) (by decide) rfl ?_
  intro p e s m args below meth c s₁ B hml hv
  obtain ⟨rfl, hh, hK⟩ := hv
  subst hh
  have hx := B.exec
  have hb := B.bytes
  have hr := B.returns
  have hlocks := B.notSynchronized
  have hts := atoms_spec (ws := wsX1_median) B.pre
  have hown : s.vm.findClass RX1 = some m.cls := findClass_of_methodNamed B.named
  have hi1 : ∀ w ∈ wsX10, w ∈ wsX1_median := fun w h => List.mem_cons_of_mem _ (List.mem_append_left _ (List.mem_append_right _ h))
  have hi0 : ∀ w ∈ wsX00, w ∈ wsX1_median := fun w h => List.mem_cons_of_mem _ (List.mem_append_right _ h)
  have hl := lv_entry ([.ref x, .int f, .int t]) (n := 6) (Nat.le_of_ble_eq_true rfl)
  rw [lg_entry_eq]
  generalize (lg_sl ([.ref x, .int f, .int t]) ++ List.replicate (6 - (lg_sl ([.ref x, .int f, .int t])).length) Slot.unset).toArray = ls at hl ⊢
  have hl : lv_has ls 6 [(0, .ref x), (1, .int f), (2, .int t)] := hl
  have hD := hD0.self (sz := s.heap.size)
  have hA : ∀ z : Nat, s.heap.size ≤ z → va_A (xW x sq lt A0 A1 A2 ++ sqW cI sq (v_N r0) g) s.heap.size z := fun z h => Or.inr h
  have hS : va_S (va_A (xW x sq lt A0 A1 A2 ++ sqW cI sq (v_N r0) g) s.heap.size) s.heap s.heap [] := va_S.rf
  obtain ⟨k10, k20, k30, k40, k50, k60⟩ := id hk0
  have b1 := sA_le r0 f
  have b2 := sB_le r0 f t
  have b3 := sB_ge r0 f t
  have loop : ¬ sA r0 f = sB r0 f t → ∀ (n i : Nat) (g1 : Nat → Int32) (H : Heap) (locs : List Loc) (ls : Array Slot), i + n = sB r0 f t ∧ sA r0 f ≤ i → msr r0 n i (i - sA r0 f) g1 = msr r0 (sB r0 f t - sA r0 f) (sA r0 f) 0 g → va_P D vwCl (rgW cI cA A0 r0) H → va_P D vwCl (xW x sq lt A0 A1 A2 ++ sqW cI sq (v_N r0) g1) H → va_D (va_A (xW x sq lt A0 A1 A2 ++ sqW cI sq (v_N r0) g) s.heap.size) (xW x sq lt A0 A1 A2 ++ sqW cI sq (v_N r0) g1) → va_S (va_A (xW x sq lt A0 A1 A2 ++ sqW cI sq (v_N r0) g) s.heap.size) s.heap H locs → lv_has ls 6 [(5, .int (nI i)), (0, .ref x), (1, .int f), (2, .int t), (3, .int (nI (sA r0 f))), (4, .int (nI (sB r0 f t)))] → W p l e (headSpec wsX1_median ({ frames := 4, cells := 0, slots := 0, locals := 89 })).room s m ([.ref x, .int f, .int t] : List Value).toArray below meth c H locs 0 0 (MQ below (wr_Q (some (.int (mdV r0 g f t))) D vwCl s.heap (xW x sq lt A0 A1 A2 ++ sqW cI sq (v_N r0) g) (xW x sq lt A0 A1 A2 ++ sqW cI sq (v_N r0) (mdG r0 g f t))) ([.ref x, .int f, .int t] : List Value).toArray s 0 0 (va_A (xW x sq lt A0 A1 A2 ++ sqW cI sq (v_N r0) g) s.heap.size)) (F0 m 25 ls []) := by
    intro hne n
    induction n with
    | zero =>
      intro i g1 H locs ls hi hf hR0 hP hD hS hl
      have hX : va_P D vwCl (xW x sq lt A0 A1 A2) _ := va_P_l hP
      refine lv_iload hx hb dX1_median_25 (lv_at hl 0 rfl) ?_
      refine lv_iload hx hb dX1_median_27 (lv_at hl 5 rfl) ?_
      refine lv_icmp_ge (tgt := 52) hx hb dX1_median_29 (by decide) (fun c_29 => ?_) (fun c_29 => ?_)
      · have c_29 := (nI_leI (a := sB r0 f t) (b := i) (by omega) (by omega)).mp c_29
        refine lv_aload_n hx hb dX1_median_52 rfl (lv_at hl 1 rfl) ?_
        refine va_get (D := D) (ci := 1) (v := .ref sq) (C := RX1) (T := TX1) (N := 5) hx hb hts hi1 hown hK hX 0 rfl rfl 3 (by decide) (hts (.fieldLink RX1 33 "RingSeries" "sorted" "[I") (by decide +kernel)) (fun _ h9 => h9) rfl dX1_median_53 ?_
        refine lv_iload hx hb dX1_median_56 (lv_at hl 5 rfl) ?_
        refine lv_iload_n hx hb dX1_median_58 rfl (lv_at hl 4 rfl) ?_
        refine lv_isub hx hb dX1_median_59 ?_
        refine top_i (pk_sub (a := sB r0 f t) (b := sA r0 f) (by omega)) ?_
        refine lv_iconst (v := 1) hx hb dX1_median_60 (by decide) ?_
        refine lv_isub hx hb dX1_median_61 ?_
        refine top_i (pk_sub (a := (sB r0 f t) - (sA r0 f)) (b := 1) (by omega)) ?_
        refine lv_iconst (v := 2) hx hb dX1_median_62 (by decide) ?_
        refine lv_idiv hx hb dX1_median_63 (by decide) ?_
        refine top_i (pk_div (a := sB r0 f t - sA r0 f - 1) (d := 2) (by omega) (by omega) (by omega)) ?_
        refine ald_i (j := ((sB r0 f t - sA r0 f - 1) / 2)) hx hb hK hP 1 0 rfl rfl (by omega) (by omega) dX1_median_64 ?_
        exact wr_iret hx hb hr (by unfold mdV; rw [if_neg hne, ← hf]; rfl) (by unfold mdG; rw [if_neg hne, ← hf]; exact hP) hS dX1_median_65 hlocks
      · have c_29 := mt (nI_leI (a := sB r0 f t) (b := i) (by omega) (by omega)).mpr c_29
        exact absurd c_29 (by omega)
    | succ n ih =>
      intro i g1 H locs ls hi hf hR0 hP hD hS hl
      have hX : va_P D vwCl (xW x sq lt A0 A1 A2) _ := va_P_l hP
      refine lv_iload hx hb dX1_median_25 (lv_at hl 0 rfl) ?_
      refine lv_iload hx hb dX1_median_27 (lv_at hl 5 rfl) ?_
      refine lv_icmp_ge (tgt := 52) hx hb dX1_median_29 (by decide) (fun c_29 => ?_) (fun c_29 => ?_)
      · have c_29 := (nI_leI (a := sB r0 f t) (b := i) (by omega) (by omega)).mp c_29
        exact absurd c_29 (by omega)
      · have c_29 := mt (nI_leI (a := sB r0 f t) (b := i) (by omega) (by omega)).mpr c_29
        refine lv_aload_n hx hb dX1_median_32 rfl (lv_at hl 1 rfl) ?_
        refine lv_iload hx hb dX1_median_33 (lv_at hl 0 rfl) ?_
        refine lv_iload_n hx hb dX1_median_35 rfl (lv_at hl 4 rfl) ?_
        refine lv_isub hx hb dX1_median_36 ?_
        refine top_i (pk_sub (a := i) (b := sA r0 f) (by omega)) ?_
        refine lv_aload_n hx hb dX1_median_37 rfl (lv_at hl 1 rfl) ?_
        refine lv_iload hx hb dX1_median_38 (lv_at hl 0 rfl) ?_
        refine ro_call (va_runV (As := [.int (nI i)]) (rest := [.int (nI (i - (sA r0 f))), .ref x]) ⟨hx, hb, hml, hown, hts⟩ (c_X1_valueOf l x sq lt A0 A1 A2 hX r0 hk0 hR0 i (by omega)) (cwV 1 hts gX1_median_X1_valueOf rfl rfl rfl (by decide +kernel) ⟨Nat.le_of_ble_eq_true rfl, Nat.le_of_ble_eq_true rfl⟩) (ro_preV hK (va_recv hK hX (ci := 1) (q0 := 0) rfl rfl)) rfl rfl hl.1 rfl (lv_room (Nat.le_of_ble_eq_true rfl)) dX1_median_40 ⟨Nat.zero_le _, Nat.zero_le _⟩) ?_
        refine wr_call (va_runV (As := [.int (nI (i - (sA r0 f))), .int (v_G r0 2 i)]) (rest := []) ⟨hx, hb, hml, hown, hts⟩ (c_X1_insertSorted l x sq lt A0 A1 A2 (v_N r0) (by omega) g1 hP hD (i - (sA r0 f)) (by omega) (v_G r0 2 i)) (cwV 2 hts gX1_median_X1_insertSorted rfl rfl rfl (by decide +kernel) ⟨Nat.le_of_ble_eq_true rfl, Nat.le_of_ble_eq_true rfl⟩) (ro_preV hK (va_recv hK hP (ci := 1) (q0 := 0) rfl rfl)) rfl rfl hl.1 rfl (lv_room (Nat.le_of_ble_eq_true rfl)) dX1_median_43 ⟨Nat.zero_le _, Nat.zero_le _⟩) hS (va_A_sub (by intro z hz; exact hz) hS.1) (fun H2 locs hP hz2 hk2 hS => ?_)
        have hD : va_D (va_A (xW x sq lt A0 A1 A2 ++ sqW cI sq (v_N r0) g) s.heap.size) (xW x sq lt A0 A1 A2 ++ sqW cI sq (v_N r0) (insr (v_G r0 2 i) (i - (sA r0 f)) g1)) := va_D_of (ws := xW x sq lt A0 A1 A2 ++ sqW cI sq (v_N r0) g1) (by rfl) hD
        have hR0 := keepP (wc := xW x sq lt A0 A1 A2 ++ sqW cI sq (v_N r0) g1) ap hR0 hk2
        refine lv_iinc (v := nI (i + 1)) (lv' := [(5, .int (nI (i + 1))), (0, .ref x), (1, .int f), (2, .int t), (3, .int (nI (sA r0 f))), (4, .int (nI (sB r0 f t)))]) hx hb dX1_median_46 hl (k := 0) rfl (inc1 _) (by decide) rfl (fun ls hl => ?_)
        refine lv_goto (tgt := 25) hx hb dX1_median_49 (by decide) ?_
        exact ih (i + 1) _ H2 locs ls (by omega) (by rw [← hf, msr, show i + 1 - sA r0 f = i - sA r0 f + 1 by omega]) hR0 hP hD hS (lv_sub hl [0, 1, 2, 3, 4, 5] rfl)
  have hX : va_P D vwCl (xW x sq lt A0 A1 A2) _ := va_P_l hP
  refine lv_aload_n hx hb dX1_median_0 rfl (lv_at hl 0 rfl) ?_
  refine lv_iload_n hx hb dX1_median_1 rfl (lv_at hl 1 rfl) ?_
  refine ro_call (va_runV (As := [.int f]) (rest := []) ⟨hx, hb, hml, hown, hts⟩ (c_X1_firstIn l x sq lt A0 A1 A2 hX r0 hk0 hR0 f) (cwV 1 hts gX1_median_X1_firstIn rfl rfl rfl (by decide +kernel) ⟨Nat.le_of_ble_eq_true rfl, Nat.le_of_ble_eq_true rfl⟩) (ro_preV hK (va_recv hK hX (ci := 1) (q0 := 0) rfl rfl)) rfl rfl hl.1 rfl (lv_room (Nat.le_of_ble_eq_true rfl)) dX1_median_2 ⟨Nat.zero_le _, Nat.zero_le _⟩) ?_
  refine lv_istore_n (lv' := [(3, .int (nI (sA r0 f))), (0, .ref x), (1, .int f), (2, .int t)]) hx hb dX1_median_5 rfl hl (by decide) rfl (fun ls hl => ?_)
  refine lv_aload_n hx hb dX1_median_6 rfl (lv_at hl 1 rfl) ?_
  refine lv_iload_n hx hb dX1_median_7 rfl (lv_at hl 0 rfl) ?_
  refine lv_iload_n hx hb dX1_median_8 rfl (lv_at hl 3 rfl) ?_
  refine ro_call (va_runV (As := [.int (nI (sA r0 f)), .int t]) (rest := []) ⟨hx, hb, hml, hown, hts⟩ (c_X1_endOf l x sq lt A0 A1 A2 hX r0 hk0 hR0 (sA r0 f) (sA_le _ _) t) (cwV 2 hts gX1_median_X1_endOf rfl rfl rfl (by decide +kernel) ⟨Nat.le_of_ble_eq_true rfl, Nat.le_of_ble_eq_true rfl⟩) (ro_preV hK (va_recv hK hX (ci := 1) (q0 := 0) rfl rfl)) rfl rfl hl.1 rfl (lv_room (Nat.le_of_ble_eq_true rfl)) dX1_median_9 ⟨Nat.zero_le _, Nat.zero_le _⟩) ?_
  refine lv_istore (lv' := [(4, .int (nI (sB r0 f t))), (3, .int (nI (sA r0 f))), (0, .ref x), (1, .int f), (2, .int t)]) hx hb dX1_median_12 hl (by decide) rfl (fun ls hl => ?_)
  refine lv_iload_n hx hb dX1_median_14 rfl (lv_at hl 1 rfl) ?_
  refine lv_iload hx hb dX1_median_15 (lv_at hl 0 rfl) ?_
  refine lv_icmp_ne (tgt := 22) hx hb dX1_median_17 (by decide) (fun c_17 => ?_) (fun c_17 => ?_)
  · have c_17 := mt (nI_eq (a := sA r0 f) (b := sB r0 f t) (by omega) (by omega)).mpr c_17
    refine lv_iload_n hx hb dX1_median_22 rfl (lv_at hl 1 rfl) ?_
    refine lv_istore (lv' := [(5, .int (nI (sA r0 f))), (4, .int (nI (sB r0 f t))), (3, .int (nI (sA r0 f))), (0, .ref x), (1, .int f), (2, .int t)]) hx hb dX1_median_23 hl (by decide) rfl (fun ls hl => ?_)
    exact loop c_17 (sB r0 f t - sA r0 f) (sA r0 f) g s.heap [] ls (by omega) (by rw [Nat.sub_self]) hR0 hP hD hS (lv_sub hl [0, 3, 4, 5, 2, 1] rfl)
  · have c_17 := (nI_eq (a := sA r0 f) (b := sB r0 f t) (by omega) (by omega)).mp c_17
    refine lv_iconst (v := 0) hx hb dX1_median_20 (by decide) ?_
    exact wr_iret hx hb hr (by unfold mdV; rw [if_pos c_17]) (by unfold mdG; rw [if_pos c_17]; exact hP) hS dX1_median_21 hlocks
set_option maxHeartbeats 4000000 in
set_option maxRecDepth 100000 in
/-- append, stale -/
theorem c_X1_append_s (l : Launch) {D : va_G} {cI cA cJ : ClassId} {H : Heap} (x sq : Nat) (lt : Int32) (A0 A1 A2 : rgA) (r0 r1 r2 : rgV) (hk0 : r_ok r0) (hk1 : r_ok r1) (hk2 : r_ok r2) (hP : va_P D vwCl (xW x sq lt A0 A1 A2 ++ (rgW cI cA A0 r0 ++ (rgW cI cA A1 r1 ++ rgW cI cA A2 r2))) H) {X0 : Nat → Prop} (hD0 : va_D X0 (xW x sq lt A0 A1 A2 ++ (rgW cI cA A0 r0 ++ (rgW cI cA A1 r1 ++ rgW cI cA A2 r2)))) (t v : Int32) (hst : ¬ lt < t) : Met l yX1_append wsX1_append ({ frames := 3, cells := 0, slots := 0, locals := 71 }) (ro_P D vwCl (tyL cI cA cJ) H [.ref x, .int t, .int v]) (wr_Q (some (.int 1)) D vwCl H (xW x sq lt A0 A1 A2 ++ (rgW cI cA A0 r0 ++ (rgW cI cA A1 r1 ++ rgW cI cA A2 r2))) (xW x sq lt A0 A1 A2 ++ (rgW cI cA A0 r0 ++ (rgW cI cA A1 r1 ++ rgW cI cA A2 r2)))) 0 0 (va_A (xW x sq lt A0 A1 A2 ++ (rgW cI cA A0 r0 ++ (rgW cI cA A1 r1 ++ rgW cI cA A2 r2))) H.size) := by
  refine Met.ofW (cc := cX1_append) (maxL := 3) (ret := (some .int)) (by decide) rfl ?_
  intro p e s m args below meth c s₁ B hml hv
  obtain ⟨rfl, hh, hK⟩ := hv
  subst hh
  have hx := B.exec
  have hb := B.bytes
  have hr := B.returns
  have hlocks := B.notSynchronized
  have hts := atoms_spec (ws := wsX1_append) B.pre
  have hown : s.vm.findClass RX1 = some m.cls := findClass_of_methodNamed B.named
  have hi1 : ∀ w ∈ wsX10, w ∈ wsX1_append := fun w h => List.mem_cons_of_mem _ (List.mem_append_left _ (List.mem_append_right _ h))
  have hi0 : ∀ w ∈ wsX00, w ∈ wsX1_append := fun w h => List.mem_cons_of_mem _ (List.mem_append_right _ h)
  have hl := lv_entry ([.ref x, .int t, .int v]) (n := 3) (Nat.le_of_ble_eq_true rfl)
  rw [lg_entry_eq]
  generalize (lg_sl ([.ref x, .int t, .int v]) ++ List.replicate (3 - (lg_sl ([.ref x, .int t, .int v])).length) Slot.unset).toArray = ls at hl ⊢
  have hl : lv_has ls 3 [(0, .ref x), (1, .int t), (2, .int v)] := hl
  have hD := hD0.self (sz := s.heap.size)
  have hA : ∀ z : Nat, s.heap.size ≤ z → va_A (xW x sq lt A0 A1 A2 ++ (rgW cI cA A0 r0 ++ (rgW cI cA A1 r1 ++ rgW cI cA A2 r2))) s.heap.size z := fun z h => Or.inr h
  have hS : va_S (va_A (xW x sq lt A0 A1 A2 ++ (rgW cI cA A0 r0 ++ (rgW cI cA A1 r1 ++ rgW cI cA A2 r2))) s.heap.size) s.heap s.heap [] := va_S.rf
  refine lv_iload_n hx hb dX1_append_0 rfl (lv_at hl 1 rfl) ?_
  refine lv_aload_n hx hb dX1_append_1 rfl (lv_at hl 0 rfl) ?_
  refine va_get (D := D) (ci := 1) (v := .int lt) (C := RX1) (T := TX1) (N := 5) hx hb hts hi1 hown hK hP 0 rfl rfl 4 (by decide) (hts (.fieldLink RX1 7 "RingSeries" "lastTime" "I") (by decide +kernel)) (fun _ h9 => h9) rfl dX1_append_2 ?_
  refine lv_icmp_gt (tgt := 10) hx hb dX1_append_5 (by decide) (fun c_5 => ?_) (fun c_5 => ?_)
  · exact absurd c_5 hst
  · refine lv_iconst (v := 1) hx hb dX1_append_8 (by decide) ?_
    exact wr_iret hx hb hr rfl hP hS dX1_append_9 hlocks
set_option maxHeartbeats 4000000 in
set_option maxRecDepth 100000 in
/-- append, a point comes -/
theorem c_X1_append (l : Launch) {D : va_G} {cI cA cJ : ClassId} {H : Heap} (x sq : Nat) (lt : Int32) (A0 A1 A2 : rgA) (r0 r1 r2 : rgV) (hk0 : r_ok r0) (hk1 : r_ok r1) (hk2 : r_ok r2) (hP : va_P D vwCl (xW x sq lt A0 A1 A2 ++ (rgW cI cA A0 r0 ++ (rgW cI cA A1 r1 ++ rgW cI cA A2 r2))) H) {X0 : Nat → Prop} (hD0 : va_D X0 (xW x sq lt A0 A1 A2 ++ (rgW cI cA A0 r0 ++ (rgW cI cA A1 r1 ++ rgW cI cA A2 r2)))) (tm : Nat) (ht : tm < 2 ^ 31) (v : Int32) (hst : lt < nI tm) : Met l yX1_append wsX1_append ({ frames := 3, cells := 0, slots := 0, locals := 71 }) (ro_P D vwCl (tyL cI cA cJ) H [.ref x, .int (nI tm), .int v]) (wr_Q (some (.int 0)) D vwCl H (xW x sq lt A0 A1 A2 ++ (rgW cI cA A0 r0 ++ (rgW cI cA A1 r1 ++ rgW cI cA A2 r2))) (xW x sq (nI tm) A0 A1 A2 ++ (rgW cI cA A0 (tkV r0 tm v) ++ (rgW cI cA A1 (tkV r1 tm v) ++ rgW cI cA A2 (tkV r2 tm v))))) 0 0 (va_A (xW x sq lt A0 A1 A2 ++ (rgW cI cA A0 r0 ++ (rgW cI cA A1 r1 ++ rgW cI cA A2 r2))) H.size) := by
  refine Met.ofW (cc := cX1_append) (maxL := 3) (ret := (some .int)) (by decide) rfl ?_
  intro p e s m args below meth c s₁ B hml hv
  obtain ⟨rfl, hh, hK⟩ := hv
  subst hh
  have hx := B.exec
  have hb := B.bytes
  have hr := B.returns
  have hlocks := B.notSynchronized
  have hts := atoms_spec (ws := wsX1_append) B.pre
  have hown : s.vm.findClass RX1 = some m.cls := findClass_of_methodNamed B.named
  have hi1 : ∀ w ∈ wsX10, w ∈ wsX1_append := fun w h => List.mem_cons_of_mem _ (List.mem_append_left _ (List.mem_append_right _ h))
  have hi0 : ∀ w ∈ wsX00, w ∈ wsX1_append := fun w h => List.mem_cons_of_mem _ (List.mem_append_right _ h)
  have hl := lv_entry ([.ref x, .int (nI tm), .int v]) (n := 3) (Nat.le_of_ble_eq_true rfl)
  rw [lg_entry_eq]
  generalize (lg_sl ([.ref x, .int (nI tm), .int v]) ++ List.replicate (3 - (lg_sl ([.ref x, .int (nI tm), .int v])).length) Slot.unset).toArray = ls at hl ⊢
  have hl : lv_has ls 3 [(0, .ref x), (1, .int (nI tm)), (2, .int v)] := hl
  have hD := hD0.self (sz := s.heap.size)
  have hA : ∀ z : Nat, s.heap.size ≤ z → va_A (xW x sq lt A0 A1 A2 ++ (rgW cI cA A0 r0 ++ (rgW cI cA A1 r1 ++ rgW cI cA A2 r2))) s.heap.size z := fun z h => Or.inr h
  have hS : va_S (va_A (xW x sq lt A0 A1 A2 ++ (rgW cI cA A0 r0 ++ (rgW cI cA A1 r1 ++ rgW cI cA A2 r2))) s.heap.size) s.heap s.heap [] := va_S.rf
  refine lv_iload_n hx hb dX1_append_0 rfl (lv_at hl 1 rfl) ?_
  refine lv_aload_n hx hb dX1_append_1 rfl (lv_at hl 0 rfl) ?_
  refine va_get (D := D) (ci := 1) (v := .int lt) (C := RX1) (T := TX1) (N := 5) hx hb hts hi1 hown hK hP 0 rfl rfl 4 (by decide) (hts (.fieldLink RX1 7 "RingSeries" "lastTime" "I") (by decide +kernel)) (fun _ h9 => h9) rfl dX1_append_2 ?_
  refine lv_icmp_gt (tgt := 10) hx hb dX1_append_5 (by decide) (fun c_5 => ?_) (fun c_5 => ?_)
  · refine lv_aload_n hx hb dX1_append_10 rfl (lv_at hl 0 rfl) ?_
    refine lv_iload_n hx hb dX1_append_11 rfl (lv_at hl 1 rfl) ?_
    refine va_put (D := D) (ci := 1) (v := .int (nI tm)) (ty := .int) (C := RX1) (T := TX1) (N := 5) hx hb hts hi1 tyX1 tyX1_ok nmX1 hown hK hP hD hS 0 rfl rfl 4 (by decide) (hts (.fieldLink RX1 7 "RingSeries" "lastTime" "I") (by decide +kernel)) (fun _ h9 => h9) rfl (by decide +kernel) rfl rfl (Nat.le_of_ble_eq_true rfl) dX1_append_12 (fun H locs hP hD hS => ?_)
    have hP : va_P D vwCl (xW x sq (nI tm) A0 A1 A2 ++ (rgW cI cA A0 r0 ++ (rgW cI cA A1 r1 ++ rgW cI cA A2 r2))) H := hP
    have hD : va_D (va_A (xW x sq lt A0 A1 A2 ++ (rgW cI cA A0 r0 ++ (rgW cI cA A1 r1 ++ rgW cI cA A2 r2))) s.heap.size) (xW x sq (nI tm) A0 A1 A2 ++ (rgW cI cA A0 r0 ++ (rgW cI cA A1 r1 ++ rgW cI cA A2 r2))) := hD
    refine lv_aload_n hx hb dX1_append_15 rfl (lv_at hl 0 rfl) ?_
    refine va_get (D := D) (ci := 1) (v := .ref (a_o A0)) (C := RX1) (T := TX1) (N := 5) hx hb hts hi1 hown hK hP 0 rfl rfl 0 (by decide) (hts (.fieldLink RX1 23 "RingSeries" "points" "LRingSeries$Ring;") (by decide +kernel)) (fun _ h9 => h9) rfl dX1_append_16 ?_
    refine lv_iload_n hx hb dX1_append_19 rfl (lv_at hl 1 rfl) ?_
    refine lv_iload_n hx hb dX1_append_20 rfl (lv_at hl 2 rfl) ?_
    have hX := va_P_l hP
    have h0 := va_P_l (va_P_r hP)
    have h1 := va_P_l (va_P_r (va_P_r hP))
    have h2 := va_P_r (va_P_r (va_P_r hP))
    have d0 := va_D_l (va_D_r hD)
    have d1 := va_D_l (va_D_r (va_D_r hD))
    have d2 := va_D_r (va_D_r (va_D_r hD))
    have ax := va_D_apt hD
    have a0 := va_D_apt (va_D_r hD)
    have a1 := va_D_apt (va_D_r (va_D_r hD))
    have aX0 : apt ((xW x sq (nI tm) A0 A1 A2).map (·.1)) ((rgW cI cA A0 r0).map (·.1)) := fun y hy z hz => ax y hy z (by rw [List.map_append]; exact List.mem_append_left _ hz)
    have aX1 : apt ((xW x sq (nI tm) A0 A1 A2).map (·.1)) ((rgW cI cA A1 r1).map (·.1)) := fun y hy z hz => ax y hy z (by rw [List.map_append, List.map_append]; exact List.mem_append_right _ (List.mem_append_left _ hz))
    have aX2 : apt ((xW x sq (nI tm) A0 A1 A2).map (·.1)) ((rgW cI cA A2 r2).map (·.1)) := fun y hy z hz => ax y hy z (by rw [List.map_append, List.map_append]; exact List.mem_append_right _ (List.mem_append_right _ hz))
    have a01 : apt ((rgW cI cA A0 r0).map (·.1)) ((rgW cI cA A1 r1).map (·.1)) := fun y hy z hz => a0 y hy z (by rw [List.map_append]; exact List.mem_append_left _ hz)
    have a02 : apt ((rgW cI cA A0 r0).map (·.1)) ((rgW cI cA A2 r2).map (·.1)) := fun y hy z hz => a0 y hy z (by rw [List.map_append]; exact List.mem_append_right _ hz)
    have a12 : apt ((rgW cI cA A1 r1).map (·.1)) ((rgW cI cA A2 r2).map (·.1)) := a1
    refine wr_call (va_runV (As := [.int (nI tm), .int v]) (rest := []) ⟨hx, hb, hml, hown, hts⟩ (c_X0_take l A0 r0 hk0 h0 d0 tm ht v) (cwV 2 hts gX1_append_X0_take rfl rfl rfl (by decide +kernel) ⟨Nat.le_of_ble_eq_true rfl, Nat.le_of_ble_eq_true rfl⟩) (ro_preV hK (va_recv hK h0 (ci := 0) (q0 := 0) rfl rfl)) rfl rfl hl.1 rfl (lv_room (Nat.le_of_ble_eq_true rfl)) dX1_append_21 ⟨Nat.zero_le _, Nat.zero_le _⟩) hS (va_A_sub (by intro z hz; rw [List.map_append, List.map_append, List.map_append]; exact List.mem_append_right _ (List.mem_append_left _ hz)) hS.1) (fun H locs h0 hz2 hf2 hS => ?_)
    have hX := keepP (w := xW x sq (nI tm) A0 A1 A2) (wc := rgW cI cA A0 r0) aX0 hX hf2
    have h1 := keepP (w := rgW cI cA A1 r1) (wc := rgW cI cA A0 r0) (apt_symm a01) h1 hf2
    have h2 := keepP (w := rgW cI cA A2 r2) (wc := rgW cI cA A0 r0) (apt_symm a02) h2 hf2
    refine lv_aload_n hx hb dX1_append_24 rfl (lv_at hl 0 rfl) ?_
    refine va_get (D := D) (ci := 1) (v := .ref (a_o A1)) (C := RX1) (T := TX1) (N := 5) hx hb hts hi1 hown hK hX 0 rfl rfl 1 (by decide) (hts (.fieldLink RX1 27 "RingSeries" "fine" "LRingSeries$Ring;") (by decide +kernel)) (fun _ h9 => h9) rfl dX1_append_25 ?_
    refine lv_iload_n hx hb dX1_append_28 rfl (lv_at hl 1 rfl) ?_
    refine lv_iload_n hx hb dX1_append_29 rfl (lv_at hl 2 rfl) ?_
    refine wr_call (va_runV (As := [.int (nI tm), .int v]) (rest := []) ⟨hx, hb, hml, hown, hts⟩ (c_X0_take l A1 r1 hk1 h1 d1 tm ht v) (cwV 2 hts gX1_append_X0_take rfl rfl rfl (by decide +kernel) ⟨Nat.le_of_ble_eq_true rfl, Nat.le_of_ble_eq_true rfl⟩) (ro_preV hK (va_recv hK h1 (ci := 0) (q0 := 0) rfl rfl)) rfl rfl hl.1 rfl (lv_room (Nat.le_of_ble_eq_true rfl)) dX1_append_30 ⟨Nat.zero_le _, Nat.zero_le _⟩) hS (va_A_sub (by intro z hz; rw [List.map_append, List.map_append, List.map_append]; exact List.mem_append_right _ (List.mem_append_right _ (List.mem_append_left _ hz))) hS.1) (fun H locs h1 hz2 hf2 hS => ?_)
    have hX := keepP (w := xW x sq (nI tm) A0 A1 A2) (wc := rgW cI cA A1 r1) aX1 hX hf2
    have h0 := keepP (w := rgW cI cA A0 (tkV r0 tm v)) (wc := rgW cI cA A1 r1) a01 h0 hf2
    have h2 := keepP (w := rgW cI cA A2 r2) (wc := rgW cI cA A1 r1) (apt_symm a12) h2 hf2
    refine lv_aload_n hx hb dX1_append_33 rfl (lv_at hl 0 rfl) ?_
    refine va_get (D := D) (ci := 1) (v := .ref (a_o A2)) (C := RX1) (T := TX1) (N := 5) hx hb hts hi1 hown hK hX 0 rfl rfl 2 (by decide) (hts (.fieldLink RX1 30 "RingSeries" "coarse" "LRingSeries$Ring;") (by decide +kernel)) (fun _ h9 => h9) rfl dX1_append_34 ?_
    refine lv_iload_n hx hb dX1_append_37 rfl (lv_at hl 1 rfl) ?_
    refine lv_iload_n hx hb dX1_append_38 rfl (lv_at hl 2 rfl) ?_
    refine wr_call (va_runV (As := [.int (nI tm), .int v]) (rest := []) ⟨hx, hb, hml, hown, hts⟩ (c_X0_take l A2 r2 hk2 h2 d2 tm ht v) (cwV 2 hts gX1_append_X0_take rfl rfl rfl (by decide +kernel) ⟨Nat.le_of_ble_eq_true rfl, Nat.le_of_ble_eq_true rfl⟩) (ro_preV hK (va_recv hK h2 (ci := 0) (q0 := 0) rfl rfl)) rfl rfl hl.1 rfl (lv_room (Nat.le_of_ble_eq_true rfl)) dX1_append_39 ⟨Nat.zero_le _, Nat.zero_le _⟩) hS (va_A_sub (by intro z hz; rw [List.map_append, List.map_append, List.map_append]; exact List.mem_append_right _ (List.mem_append_right _ (List.mem_append_right _ hz))) hS.1) (fun H locs h2 hz2 hf2 hS => ?_)
    have hX := keepP (w := xW x sq (nI tm) A0 A1 A2) (wc := rgW cI cA A2 r2) aX2 hX hf2
    have h0 := keepP (w := rgW cI cA A0 (tkV r0 tm v)) (wc := rgW cI cA A2 r2) a02 h0 hf2
    have h1 := keepP (w := rgW cI cA A1 (tkV r1 tm v)) (wc := rgW cI cA A2 r2) a12 h1 hf2
    refine lv_iconst (v := 0) hx hb dX1_append_42 (by decide) ?_
    exact wr_iret hx hb hr rfl (hX.app (h0.app (h1.app h2))) hS dX1_append_43 hlocks
  · exact absurd hst c_5
set_option maxHeartbeats 4000000 in
set_option maxRecDepth 100000 in
/-- the reference appends, stale -/
theorem c_X2_append_s (l : Launch) {D : va_G} {cI cA cJ : ClassId} {H : Heap} (Y : mA) (q : mv) (hm : m_ok q) (hP : va_P D vwCl (mW cI cJ Y q) H) {X0 : Nat → Prop} (hD0 : va_D X0 (mW cI cJ Y q)) (t v : Int32) (hst : t < 0 ∨ (0 < m_P q ∧ ¬ nI (m_T q (m_P q - 1)) < t)) : Met l yX2_append wsX2_append ({ frames := 0, cells := 0, slots := 0, locals := 0 }) (ro_P D vwCl (tyL cI cA cJ) H [.ref (b_o Y), .int t, .int v]) (wr_Q (some (.int 1)) D vwCl H (mW cI cJ Y q) (mW cI cJ Y q)) 0 0 (va_A (mW cI cJ Y q) H.size) := by
  refine Met.ofW (cc := cX2_append) (maxL := 3) (ret := (some .int)) (by decide) rfl ?_
  intro p e s m args below meth c s₁ B hml hv
  obtain ⟨rfl, hh, hK⟩ := hv
  subst hh
  have hx := B.exec
  have hb := B.bytes
  have hr := B.returns
  have hlocks := B.notSynchronized
  have hts := atoms_spec (ws := wsX2_append) B.pre
  have hown : s.vm.findClass RX2 = some m.cls := findClass_of_methodNamed B.named
  have hi2 : ∀ w ∈ wsX20, w ∈ wsX2_append := fun w h => List.mem_cons_of_mem _ (List.mem_append_right _ h)
  have hl := lv_entry ([.ref (b_o Y), .int t, .int v]) (n := 3) (Nat.le_of_ble_eq_true rfl)
  rw [lg_entry_eq]
  generalize (lg_sl ([.ref (b_o Y), .int t, .int v]) ++ List.replicate (3 - (lg_sl ([.ref (b_o Y), .int t, .int v])).length) Slot.unset).toArray = ls at hl ⊢
  have hl : lv_has ls 3 [(0, .ref (b_o Y)), (1, .int t), (2, .int v)] := hl
  have hD := hD0.self (sz := s.heap.size)
  have hA : ∀ z : Nat, s.heap.size ≤ z → va_A (mW cI cJ Y q) s.heap.size z := fun z h => Or.inr h
  have hS : va_S (va_A (mW cI cJ Y q) s.heap.size) s.heap s.heap [] := va_S.rf
  obtain ⟨hp, hT, hRW, hkn⟩ := id hm
  have z9 : ¬ nI (m_P q) ≤ 0 → 0 < m_P q := fun z => Nat.pos_of_ne_zero (fun h => z (by rw [h]; decide))
  have hP : va_P D vwCl [(b_o Y, .inr (2, [.int 0, .ref (b_r Y), .ref (b_w Y), .int (nI (m_P q)), .ref (b_t Y), .ref (b_v Y)])), (b_r Y, .inl (cI, 3, .inl (fun k => nI (m_R q k)))), (b_w Y, .inl (cJ, 3, .inr (.inl (fun k => lN (m_W q k))))), (b_t Y, .inl (cI, 1024, .inl (fun p => nI (m_T q p)))), (b_v Y, .inl (cI, 1024, .inl (m_V q)))] s.heap := hP
  have hD : va_D (va_A (mW cI cJ Y q) s.heap.size) [(b_o Y, .inr (2, [.int 0, .ref (b_r Y), .ref (b_w Y), .int (nI (m_P q)), .ref (b_t Y), .ref (b_v Y)])), (b_r Y, .inl (cI, 3, .inl (fun k => nI (m_R q k)))), (b_w Y, .inl (cJ, 3, .inr (.inl (fun k => lN (m_W q k))))), (b_t Y, .inl (cI, 1024, .inl (fun p => nI (m_T q p)))), (b_v Y, .inl (cI, 1024, .inl (m_V q)))] := hD
  refine lv_iload_n hx hb dX2_append_0 rfl (lv_at hl 1 rfl) ?_
  refine lv_if_lt (tgt := 26) hx hb dX2_append_1 (by decide) (fun c_1 => ?_) (fun c_1 => ?_)
  · refine lv_iconst (v := 1) hx hb dX2_append_26 (by decide) ?_
    exact wr_iret hx hb hr rfl hP hS dX2_append_27 hlocks
  · refine lv_aload_n hx hb dX2_append_4 rfl (lv_at hl 0 rfl) ?_
    refine va_get (D := D) (ci := 2) (v := .int (nI (m_P q))) (C := RX2) (T := TX2) (N := 6) hx hb hts hi2 hown hK hP 0 rfl rfl 3 (by decide) (hts (.fieldLink RX2 32 "RingSeriesModel" "points" "I") (by decide +kernel)) (fun _ h9 => h9) rfl dX2_append_5 ?_
    refine lv_if_le (tgt := 28) hx hb dX2_append_8 (by decide) (fun c_8 => ?_) (fun c_8 => ?_)
    · exact absurd hst (fun z => z.elim c_1 (fun z => absurd c_8 (nI_nle (by omega) (by omega))))
    · refine lv_iload_n hx hb dX2_append_11 rfl (lv_at hl 1 rfl) ?_
      refine lv_aload_n hx hb dX2_append_12 rfl (lv_at hl 0 rfl) ?_
      refine va_get (D := D) (ci := 2) (v := .ref (b_t Y)) (C := RX2) (T := TX2) (N := 6) hx hb hts hi2 hown hK hP 0 rfl rfl 4 (by decide) (hts (.fieldLink RX2 17 "RingSeriesModel" "times" "[I") (by decide +kernel)) (fun _ h9 => h9) rfl dX2_append_13 ?_
      refine lv_aload_n hx hb dX2_append_16 rfl (lv_at hl 0 rfl) ?_
      refine va_get (D := D) (ci := 2) (v := .int (nI (m_P q))) (C := RX2) (T := TX2) (N := 6) hx hb hts hi2 hown hK hP 0 rfl rfl 3 (by decide) (hts (.fieldLink RX2 32 "RingSeriesModel" "points" "I") (by decide +kernel)) (fun _ h9 => h9) rfl dX2_append_17 ?_
      refine lv_iconst (v := 1) hx hb dX2_append_20 (by decide) ?_
      refine lv_isub hx hb dX2_append_21 ?_
      refine top_i (pk_sub (a := m_P q) (b := 1) (by have := z9 c_8; omega)) ?_
      refine ald_i (j := ((m_P q) - 1)) hx hb hK hP 3 0 rfl rfl (by omega) (by omega) dX2_append_22 ?_
      refine lv_icmp_gt (tgt := 28) hx hb dX2_append_23 (by decide) (fun c_23 => ?_) (fun c_23 => ?_)
      · exact absurd hst (fun z => z.elim c_1 (fun z => z.2 c_23))
      · refine lv_iconst (v := 1) hx hb dX2_append_26 (by decide) ?_
        exact wr_iret hx hb hr rfl hP hS dX2_append_27 hlocks
set_option maxHeartbeats 4000000 in
set_option maxRecDepth 100000 in
/-- the reference appends -/
theorem c_X2_append (l : Launch) {D : va_G} {cI cA cJ : ClassId} {H : Heap} (Y : mA) (q : mv) (hm : m_ok q) (hP : va_P D vwCl (mW cI cJ Y q) H) {X0 : Nat → Prop} (hD0 : va_D X0 (mW cI cJ Y q)) (hp1 : m_P q < 512) (tm : Nat) (ht : tm < 2 ^ 31) (v : Int32) (hst : 0 < m_P q → m_T q (m_P q - 1) < tm) : Met l yX2_append wsX2_append ({ frames := 0, cells := 0, slots := 0, locals := 0 }) (ro_P D vwCl (tyL cI cA cJ) H [.ref (b_o Y), .int (nI tm), .int v]) (wr_Q (some (.int 0)) D vwCl H (mW cI cJ Y q) (mW cI cJ Y (apM q tm v))) 0 0 (va_A (mW cI cJ Y q) H.size) := by
  refine Met.ofW (cc := cX2_append) (maxL := 3) (ret := (some .int)) (by decide) rfl ?_
  intro p e s m args below meth c s₁ B hml hv
  obtain ⟨rfl, hh, hK⟩ := hv
  subst hh
  have hx := B.exec
  have hb := B.bytes
  have hr := B.returns
  have hlocks := B.notSynchronized
  have hts := atoms_spec (ws := wsX2_append) B.pre
  have hown : s.vm.findClass RX2 = some m.cls := findClass_of_methodNamed B.named
  have hi2 : ∀ w ∈ wsX20, w ∈ wsX2_append := fun w h => List.mem_cons_of_mem _ (List.mem_append_right _ h)
  have hl := lv_entry ([.ref (b_o Y), .int (nI tm), .int v]) (n := 3) (Nat.le_of_ble_eq_true rfl)
  rw [lg_entry_eq]
  generalize (lg_sl ([.ref (b_o Y), .int (nI tm), .int v]) ++ List.replicate (3 - (lg_sl ([.ref (b_o Y), .int (nI tm), .int v])).length) Slot.unset).toArray = ls at hl ⊢
  have hl : lv_has ls 3 [(0, .ref (b_o Y)), (1, .int (nI tm)), (2, .int v)] := hl
  have hD := hD0.self (sz := s.heap.size)
  have hA : ∀ z : Nat, s.heap.size ≤ z → va_A (mW cI cJ Y q) s.heap.size z := fun z h => Or.inr h
  have hS : va_S (va_A (mW cI cJ Y q) s.heap.size) s.heap s.heap [] := va_S.rf
  obtain ⟨hp, hT, hRW, hkn⟩ := id hm
  have z9 : ¬ nI (m_P q) ≤ 0 → m_T q (m_P q - 1) < tm ∧ 0 < m_P q := fun z => have h : 0 < m_P q := Nat.pos_of_ne_zero (fun h => z (by rw [h]; decide)); ⟨hst h, h⟩
  have z8 := hT (m_P q - 1)
  have hP : va_P D vwCl [(b_o Y, .inr (2, [.int 0, .ref (b_r Y), .ref (b_w Y), .int (nI (m_P q)), .ref (b_t Y), .ref (b_v Y)])), (b_r Y, .inl (cI, 3, .inl (fun k => nI (m_R q k)))), (b_w Y, .inl (cJ, 3, .inr (.inl (fun k => lN (m_W q k))))), (b_t Y, .inl (cI, 1024, .inl (fun p => nI (m_T q p)))), (b_v Y, .inl (cI, 1024, .inl (m_V q)))] s.heap := hP
  have hD : va_D (va_A (mW cI cJ Y q) s.heap.size) [(b_o Y, .inr (2, [.int 0, .ref (b_r Y), .ref (b_w Y), .int (nI (m_P q)), .ref (b_t Y), .ref (b_v Y)])), (b_r Y, .inl (cI, 3, .inl (fun k => nI (m_R q k)))), (b_w Y, .inl (cJ, 3, .inr (.inl (fun k => lN (m_W q k))))), (b_t Y, .inl (cI, 1024, .inl (fun p => nI (m_T q p)))), (b_v Y, .inl (cI, 1024, .inl (m_V q)))] := hD
  refine lv_iload_n hx hb dX2_append_0 rfl (lv_at hl 1 rfl) ?_
  refine lv_if_lt (tgt := 26) hx hb dX2_append_1 (by decide) (fun c_1 => ?_) (fun c_1 => ?_)
  · exact absurd c_1 (nI_pos (by omega))
  · refine lv_aload_n hx hb dX2_append_4 rfl (lv_at hl 0 rfl) ?_
    refine va_get (D := D) (ci := 2) (v := .int (nI (m_P q))) (C := RX2) (T := TX2) (N := 6) hx hb hts hi2 hown hK hP 0 rfl rfl 3 (by decide) (hts (.fieldLink RX2 32 "RingSeriesModel" "points" "I") (by decide +kernel)) (fun _ h9 => h9) rfl dX2_append_5 ?_
    refine lv_if_le (tgt := 28) hx hb dX2_append_8 (by decide) (fun c_8 => ?_) (fun c_8 => ?_)
    · refine lv_aload_n hx hb dX2_append_28 rfl (lv_at hl 0 rfl) ?_
      refine va_get (D := D) (ci := 2) (v := .ref (b_t Y)) (C := RX2) (T := TX2) (N := 6) hx hb hts hi2 hown hK hP 0 rfl rfl 4 (by decide) (hts (.fieldLink RX2 17 "RingSeriesModel" "times" "[I") (by decide +kernel)) (fun _ h9 => h9) rfl dX2_append_29 ?_
      refine lv_aload_n hx hb dX2_append_32 rfl (lv_at hl 0 rfl) ?_
      refine va_get (D := D) (ci := 2) (v := .int (nI (m_P q))) (C := RX2) (T := TX2) (N := 6) hx hb hts hi2 hown hK hP 0 rfl rfl 3 (by decide) (hts (.fieldLink RX2 32 "RingSeriesModel" "points" "I") (by decide +kernel)) (fun _ h9 => h9) rfl dX2_append_33 ?_
      refine lv_iload_n hx hb dX2_append_36 rfl (lv_at hl 1 rfl) ?_
      refine ast_i (j := (m_P q)) hx hb hK hP hD hS 3 0 rfl rfl (by omega) (by omega) dX2_append_37 (fun H locs hP hD hS => ?_)
      have hP : va_P D vwCl [(b_o Y, .inr (2, [.int 0, .ref (b_r Y), .ref (b_w Y), .int (nI (m_P q)), .ref (b_t Y), .ref (b_v Y)])), (b_r Y, .inl (cI, 3, .inl (fun k => nI (m_R q k)))), (b_w Y, .inl (cJ, 3, .inr (.inl (fun k => lN (m_W q k))))), (b_t Y, .inl (cI, 1024, .inl (upd (fun p => nI (m_T q p)) (m_P q) (nI tm)))), (b_v Y, .inl (cI, 1024, .inl (m_V q)))] H := hP
      have hD : va_D (va_A (mW cI cJ Y q) s.heap.size) [(b_o Y, .inr (2, [.int 0, .ref (b_r Y), .ref (b_w Y), .int (nI (m_P q)), .ref (b_t Y), .ref (b_v Y)])), (b_r Y, .inl (cI, 3, .inl (fun k => nI (m_R q k)))), (b_w Y, .inl (cJ, 3, .inr (.inl (fun k => lN (m_W q k))))), (b_t Y, .inl (cI, 1024, .inl (upd (fun p => nI (m_T q p)) (m_P q) (nI tm)))), (b_v Y, .inl (cI, 1024, .inl (m_V q)))] := hD
      refine lv_aload_n hx hb dX2_append_38 rfl (lv_at hl 0 rfl) ?_
      refine va_get (D := D) (ci := 2) (v := .ref (b_v Y)) (C := RX2) (T := TX2) (N := 6) hx hb hts hi2 hown hK hP 0 rfl rfl 5 (by decide) (hts (.fieldLink RX2 20 "RingSeriesModel" "values" "[I") (by decide +kernel)) (fun _ h9 => h9) rfl dX2_append_39 ?_
      refine lv_aload_n hx hb dX2_append_42 rfl (lv_at hl 0 rfl) ?_
      refine va_get (D := D) (ci := 2) (v := .int (nI (m_P q))) (C := RX2) (T := TX2) (N := 6) hx hb hts hi2 hown hK hP 0 rfl rfl 3 (by decide) (hts (.fieldLink RX2 32 "RingSeriesModel" "points" "I") (by decide +kernel)) (fun _ h9 => h9) rfl dX2_append_43 ?_
      refine lv_iload_n hx hb dX2_append_46 rfl (lv_at hl 2 rfl) ?_
      refine ast_i (j := (m_P q)) hx hb hK hP hD hS 4 0 rfl rfl (by omega) (by omega) dX2_append_47 (fun H locs hP hD hS => ?_)
      have hP : va_P D vwCl [(b_o Y, .inr (2, [.int 0, .ref (b_r Y), .ref (b_w Y), .int (nI (m_P q)), .ref (b_t Y), .ref (b_v Y)])), (b_r Y, .inl (cI, 3, .inl (fun k => nI (m_R q k)))), (b_w Y, .inl (cJ, 3, .inr (.inl (fun k => lN (m_W q k))))), (b_t Y, .inl (cI, 1024, .inl (upd (fun p => nI (m_T q p)) (m_P q) (nI tm)))), (b_v Y, .inl (cI, 1024, .inl (upd (m_V q) (m_P q) v)))] H := hP
      have hD : va_D (va_A (mW cI cJ Y q) s.heap.size) [(b_o Y, .inr (2, [.int 0, .ref (b_r Y), .ref (b_w Y), .int (nI (m_P q)), .ref (b_t Y), .ref (b_v Y)])), (b_r Y, .inl (cI, 3, .inl (fun k => nI (m_R q k)))), (b_w Y, .inl (cJ, 3, .inr (.inl (fun k => lN (m_W q k))))), (b_t Y, .inl (cI, 1024, .inl (upd (fun p => nI (m_T q p)) (m_P q) (nI tm)))), (b_v Y, .inl (cI, 1024, .inl (upd (m_V q) (m_P q) v)))] := hD
      refine lv_aload_n hx hb dX2_append_48 rfl (lv_at hl 0 rfl) ?_
      refine lv_dup hx hb dX2_append_49 rfl ?_
      refine va_get (D := D) (ci := 2) (v := .int (nI (m_P q))) (C := RX2) (T := TX2) (N := 6) hx hb hts hi2 hown hK hP 0 rfl rfl 3 (by decide) (hts (.fieldLink RX2 32 "RingSeriesModel" "points" "I") (by decide +kernel)) (fun _ h9 => h9) rfl dX2_append_50 ?_
      refine lv_iconst (v := 1) hx hb dX2_append_53 (by decide) ?_
      refine lv_iadd hx hb dX2_append_54 ?_
      refine top_i (nI_add _ 1) ?_
      refine va_put (D := D) (ci := 2) (v := .int (nI ((m_P q) + 1))) (ty := .int) (C := RX2) (T := TX2) (N := 6) hx hb hts hi2 tyX2 tyX2_ok nmX2 hown hK hP hD hS 0 rfl rfl 3 (by decide) (hts (.fieldLink RX2 32 "RingSeriesModel" "points" "I") (by decide +kernel)) (fun _ h9 => h9) rfl (by decide +kernel) rfl rfl (Nat.le_of_ble_eq_true rfl) dX2_append_55 (fun H locs hP hD hS => ?_)
      have hP : va_P D vwCl [(b_o Y, .inr (2, [.int 0, .ref (b_r Y), .ref (b_w Y), .int (nI ((m_P q) + 1)), .ref (b_t Y), .ref (b_v Y)])), (b_r Y, .inl (cI, 3, .inl (fun k => nI (m_R q k)))), (b_w Y, .inl (cJ, 3, .inr (.inl (fun k => lN (m_W q k))))), (b_t Y, .inl (cI, 1024, .inl (upd (fun p => nI (m_T q p)) (m_P q) (nI tm)))), (b_v Y, .inl (cI, 1024, .inl (upd (m_V q) (m_P q) v)))] H := hP
      have hD : va_D (va_A (mW cI cJ Y q) s.heap.size) [(b_o Y, .inr (2, [.int 0, .ref (b_r Y), .ref (b_w Y), .int (nI ((m_P q) + 1)), .ref (b_t Y), .ref (b_v Y)])), (b_r Y, .inl (cI, 3, .inl (fun k => nI (m_R q k)))), (b_w Y, .inl (cJ, 3, .inr (.inl (fun k => lN (m_W q k))))), (b_t Y, .inl (cI, 1024, .inl (upd (fun p => nI (m_T q p)) (m_P q) (nI tm)))), (b_v Y, .inl (cI, 1024, .inl (upd (m_V q) (m_P q) v)))] := hD
      refine lv_iconst (v := 0) hx hb dX2_append_58 (by decide) ?_
      exact wr_iret hx hb hr rfl (by rw [apM_W]; exact hP) hS dX2_append_59 hlocks
    · refine lv_iload_n hx hb dX2_append_11 rfl (lv_at hl 1 rfl) ?_
      refine lv_aload_n hx hb dX2_append_12 rfl (lv_at hl 0 rfl) ?_
      refine va_get (D := D) (ci := 2) (v := .ref (b_t Y)) (C := RX2) (T := TX2) (N := 6) hx hb hts hi2 hown hK hP 0 rfl rfl 4 (by decide) (hts (.fieldLink RX2 17 "RingSeriesModel" "times" "[I") (by decide +kernel)) (fun _ h9 => h9) rfl dX2_append_13 ?_
      refine lv_aload_n hx hb dX2_append_16 rfl (lv_at hl 0 rfl) ?_
      refine va_get (D := D) (ci := 2) (v := .int (nI (m_P q))) (C := RX2) (T := TX2) (N := 6) hx hb hts hi2 hown hK hP 0 rfl rfl 3 (by decide) (hts (.fieldLink RX2 32 "RingSeriesModel" "points" "I") (by decide +kernel)) (fun _ h9 => h9) rfl dX2_append_17 ?_
      refine lv_iconst (v := 1) hx hb dX2_append_20 (by decide) ?_
      refine lv_isub hx hb dX2_append_21 ?_
      refine top_i (pk_sub (a := m_P q) (b := 1) (by have := z9 c_8; omega)) ?_
      refine ald_i (j := ((m_P q) - 1)) hx hb hK hP 3 0 rfl rfl (by omega) (by omega) dX2_append_22 ?_
      refine lv_icmp_gt (tgt := 28) hx hb dX2_append_23 (by decide) (fun c_23 => ?_) (fun c_23 => ?_)
      · have c_23 := (nI_ltI (a := m_T q ((m_P q) - 1)) (b := tm) (by omega) (by omega)).mp c_23
        refine lv_aload_n hx hb dX2_append_28 rfl (lv_at hl 0 rfl) ?_
        refine va_get (D := D) (ci := 2) (v := .ref (b_t Y)) (C := RX2) (T := TX2) (N := 6) hx hb hts hi2 hown hK hP 0 rfl rfl 4 (by decide) (hts (.fieldLink RX2 17 "RingSeriesModel" "times" "[I") (by decide +kernel)) (fun _ h9 => h9) rfl dX2_append_29 ?_
        refine lv_aload_n hx hb dX2_append_32 rfl (lv_at hl 0 rfl) ?_
        refine va_get (D := D) (ci := 2) (v := .int (nI (m_P q))) (C := RX2) (T := TX2) (N := 6) hx hb hts hi2 hown hK hP 0 rfl rfl 3 (by decide) (hts (.fieldLink RX2 32 "RingSeriesModel" "points" "I") (by decide +kernel)) (fun _ h9 => h9) rfl dX2_append_33 ?_
        refine lv_iload_n hx hb dX2_append_36 rfl (lv_at hl 1 rfl) ?_
        refine ast_i (j := (m_P q)) hx hb hK hP hD hS 3 0 rfl rfl (by omega) (by omega) dX2_append_37 (fun H locs hP hD hS => ?_)
        have hP : va_P D vwCl [(b_o Y, .inr (2, [.int 0, .ref (b_r Y), .ref (b_w Y), .int (nI (m_P q)), .ref (b_t Y), .ref (b_v Y)])), (b_r Y, .inl (cI, 3, .inl (fun k => nI (m_R q k)))), (b_w Y, .inl (cJ, 3, .inr (.inl (fun k => lN (m_W q k))))), (b_t Y, .inl (cI, 1024, .inl (upd (fun p => nI (m_T q p)) (m_P q) (nI tm)))), (b_v Y, .inl (cI, 1024, .inl (m_V q)))] H := hP
        have hD : va_D (va_A (mW cI cJ Y q) s.heap.size) [(b_o Y, .inr (2, [.int 0, .ref (b_r Y), .ref (b_w Y), .int (nI (m_P q)), .ref (b_t Y), .ref (b_v Y)])), (b_r Y, .inl (cI, 3, .inl (fun k => nI (m_R q k)))), (b_w Y, .inl (cJ, 3, .inr (.inl (fun k => lN (m_W q k))))), (b_t Y, .inl (cI, 1024, .inl (upd (fun p => nI (m_T q p)) (m_P q) (nI tm)))), (b_v Y, .inl (cI, 1024, .inl (m_V q)))] := hD
        refine lv_aload_n hx hb dX2_append_38 rfl (lv_at hl 0 rfl) ?_
        refine va_get (D := D) (ci := 2) (v := .ref (b_v Y)) (C := RX2) (T := TX2) (N := 6) hx hb hts hi2 hown hK hP 0 rfl rfl 5 (by decide) (hts (.fieldLink RX2 20 "RingSeriesModel" "values" "[I") (by decide +kernel)) (fun _ h9 => h9) rfl dX2_append_39 ?_
        refine lv_aload_n hx hb dX2_append_42 rfl (lv_at hl 0 rfl) ?_
        refine va_get (D := D) (ci := 2) (v := .int (nI (m_P q))) (C := RX2) (T := TX2) (N := 6) hx hb hts hi2 hown hK hP 0 rfl rfl 3 (by decide) (hts (.fieldLink RX2 32 "RingSeriesModel" "points" "I") (by decide +kernel)) (fun _ h9 => h9) rfl dX2_append_43 ?_
        refine lv_iload_n hx hb dX2_append_46 rfl (lv_at hl 2 rfl) ?_
        refine ast_i (j := (m_P q)) hx hb hK hP hD hS 4 0 rfl rfl (by omega) (by omega) dX2_append_47 (fun H locs hP hD hS => ?_)
        have hP : va_P D vwCl [(b_o Y, .inr (2, [.int 0, .ref (b_r Y), .ref (b_w Y), .int (nI (m_P q)), .ref (b_t Y), .ref (b_v Y)])), (b_r Y, .inl (cI, 3, .inl (fun k => nI (m_R q k)))), (b_w Y, .inl (cJ, 3, .inr (.inl (fun k => lN (m_W q k))))), (b_t Y, .inl (cI, 1024, .inl (upd (fun p => nI (m_T q p)) (m_P q) (nI tm)))), (b_v Y, .inl (cI, 1024, .inl (upd (m_V q) (m_P q) v)))] H := hP
        have hD : va_D (va_A (mW cI cJ Y q) s.heap.size) [(b_o Y, .inr (2, [.int 0, .ref (b_r Y), .ref (b_w Y), .int (nI (m_P q)), .ref (b_t Y), .ref (b_v Y)])), (b_r Y, .inl (cI, 3, .inl (fun k => nI (m_R q k)))), (b_w Y, .inl (cJ, 3, .inr (.inl (fun k => lN (m_W q k))))), (b_t Y, .inl (cI, 1024, .inl (upd (fun p => nI (m_T q p)) (m_P q) (nI tm)))), (b_v Y, .inl (cI, 1024, .inl (upd (m_V q) (m_P q) v)))] := hD
        refine lv_aload_n hx hb dX2_append_48 rfl (lv_at hl 0 rfl) ?_
        refine lv_dup hx hb dX2_append_49 rfl ?_
        refine va_get (D := D) (ci := 2) (v := .int (nI (m_P q))) (C := RX2) (T := TX2) (N := 6) hx hb hts hi2 hown hK hP 0 rfl rfl 3 (by decide) (hts (.fieldLink RX2 32 "RingSeriesModel" "points" "I") (by decide +kernel)) (fun _ h9 => h9) rfl dX2_append_50 ?_
        refine lv_iconst (v := 1) hx hb dX2_append_53 (by decide) ?_
        refine lv_iadd hx hb dX2_append_54 ?_
        refine top_i (nI_add _ 1) ?_
        refine va_put (D := D) (ci := 2) (v := .int (nI ((m_P q) + 1))) (ty := .int) (C := RX2) (T := TX2) (N := 6) hx hb hts hi2 tyX2 tyX2_ok nmX2 hown hK hP hD hS 0 rfl rfl 3 (by decide) (hts (.fieldLink RX2 32 "RingSeriesModel" "points" "I") (by decide +kernel)) (fun _ h9 => h9) rfl (by decide +kernel) rfl rfl (Nat.le_of_ble_eq_true rfl) dX2_append_55 (fun H locs hP hD hS => ?_)
        have hP : va_P D vwCl [(b_o Y, .inr (2, [.int 0, .ref (b_r Y), .ref (b_w Y), .int (nI ((m_P q) + 1)), .ref (b_t Y), .ref (b_v Y)])), (b_r Y, .inl (cI, 3, .inl (fun k => nI (m_R q k)))), (b_w Y, .inl (cJ, 3, .inr (.inl (fun k => lN (m_W q k))))), (b_t Y, .inl (cI, 1024, .inl (upd (fun p => nI (m_T q p)) (m_P q) (nI tm)))), (b_v Y, .inl (cI, 1024, .inl (upd (m_V q) (m_P q) v)))] H := hP
        have hD : va_D (va_A (mW cI cJ Y q) s.heap.size) [(b_o Y, .inr (2, [.int 0, .ref (b_r Y), .ref (b_w Y), .int (nI ((m_P q) + 1)), .ref (b_t Y), .ref (b_v Y)])), (b_r Y, .inl (cI, 3, .inl (fun k => nI (m_R q k)))), (b_w Y, .inl (cJ, 3, .inr (.inl (fun k => lN (m_W q k))))), (b_t Y, .inl (cI, 1024, .inl (upd (fun p => nI (m_T q p)) (m_P q) (nI tm)))), (b_v Y, .inl (cI, 1024, .inl (upd (m_V q) (m_P q) v)))] := hD
        refine lv_iconst (v := 0) hx hb dX2_append_58 (by decide) ?_
        exact wr_iret hx hb hr rfl (by rw [apM_W]; exact hP) hS dX2_append_59 hlocks
      · have c_23 := mt (nI_ltI (a := m_T q ((m_P q) - 1)) (b := tm) (by omega) (by omega)).mpr c_23
        exact absurd (by have := z9 c_8; omega) c_23
end
