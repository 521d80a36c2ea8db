section
-- ===== PART A: goes FIRST, ahead of the names: the tables' words, and 'selects' of the private methods out of them =====
/-- a private method of a class that the tables say can be made, by its rows of tables_1 -/
def lw_okq (q : MethodName × Nat) : Prop := (q.1.cls ≠ "java/lang/invoke/MethodHandle" ∧ q.1.cls ≠ "java/lang/invoke/VarHandle") ∧ Cond.instantiable q.1.cls q.2 ∈ tables_1 ∧ Cond.privateMethod q.1 ∈ tables_1 ∧ Cond.instanceMethod q.1 ∈ tables_1
theorem lw_p0 : lw_okq (⟨"RotaryExchange$Exchange", "settingAt", "(I)I"⟩, 16) := ⟨⟨by decide +kernel, by decide +kernel⟩, List.mem_of_getElem? (i := 15) (by decide +kernel), List.mem_of_getElem? (i := 251) (by decide +kernel), List.mem_of_getElem? (i := 252) (by decide +kernel)⟩
theorem lw_p1 : lw_okq (⟨"RotaryExchange$Exchange", "release", "(LRotaryExchange$Finder;)V"⟩, 16) := ⟨⟨by decide +kernel, by decide +kernel⟩, List.mem_of_getElem? (i := 15) (by decide +kernel), List.mem_of_getElem? (i := 278) (by decide +kernel), List.mem_of_getElem? (i := 279) (by decide +kernel)⟩
theorem lw_p2 : lw_okq (⟨"RotaryExchange$Exchange", "takeStep", "(LRotaryExchange$Finder;)V"⟩, 16) := ⟨⟨by decide +kernel, by decide +kernel⟩, List.mem_of_getElem? (i := 15) (by decide +kernel), List.mem_of_getElem? (i := 309) (by decide +kernel), List.mem_of_getElem? (i := 310) (by decide +kernel)⟩
theorem lw_p3 : lw_okq (⟨"RotaryExchange$Exchange", "seek", "(LRotaryExchange$Finder;LRotaryExchange$Line;)V"⟩, 16) := ⟨⟨by decide +kernel, by decide +kernel⟩, List.mem_of_getElem? (i := 15) (by decide +kernel), List.mem_of_getElem? (i := 313) (by decide +kernel), List.mem_of_getElem? (i := 314) (by decide +kernel)⟩
theorem lw_p4 : lw_okq (⟨"RotaryExchange$Exchange", "awaitDigit", "(LRotaryExchange$Finder;LRotaryExchange$Line;I)V"⟩, 16) := ⟨⟨by decide +kernel, by decide +kernel⟩, List.mem_of_getElem? (i := 15) (by decide +kernel), List.mem_of_getElem? (i := 318) (by decide +kernel), List.mem_of_getElem? (i := 319) (by decide +kernel)⟩
theorem lw_p5 : lw_okq (⟨"RotaryExchange$Exchange", "rise", "(LRotaryExchange$Finder;LRotaryExchange$Line;)V"⟩, 16) := ⟨⟨by decide +kernel, by decide +kernel⟩, List.mem_of_getElem? (i := 15) (by decide +kernel), List.mem_of_getElem? (i := 326) (by decide +kernel), List.mem_of_getElem? (i := 327) (by decide +kernel)⟩
theorem lw_p6 : lw_okq (⟨"RotaryExchange$Exchange", "sound", "(LRotaryExchange$Finder;LRotaryExchange$Line;II)V"⟩, 16) := ⟨⟨by decide +kernel, by decide +kernel⟩, List.mem_of_getElem? (i := 15) (by decide +kernel), List.mem_of_getElem? (i := 330) (by decide +kernel), List.mem_of_getElem? (i := 331) (by decide +kernel)⟩
theorem lw_p7 : lw_okq (⟨"RotaryExchange$Exchange", "hunt", "(LRotaryExchange$Finder;LRotaryExchange$Line;)V"⟩, 16) := ⟨⟨by decide +kernel, by decide +kernel⟩, List.mem_of_getElem? (i := 15) (by decide +kernel), List.mem_of_getElem? (i := 334) (by decide +kernel), List.mem_of_getElem? (i := 335) (by decide +kernel)⟩
theorem lw_p8 : lw_okq (⟨"RotaryExchange$Exchange", "stepOn", "(LRotaryExchange$Finder;LRotaryExchange$Line;)V"⟩, 16) := ⟨⟨by decide +kernel, by decide +kernel⟩, List.mem_of_getElem? (i := 15) (by decide +kernel), List.mem_of_getElem? (i := 346) (by decide +kernel), List.mem_of_getElem? (i := 347) (by decide +kernel)⟩
theorem lw_p9 : lw_okq (⟨"RotaryExchange$Exchange", "ringOn", "(LRotaryExchange$Finder;LRotaryExchange$Line;)V"⟩, 16) := ⟨⟨by decide +kernel, by decide +kernel⟩, List.mem_of_getElem? (i := 15) (by decide +kernel), List.mem_of_getElem? (i := 350) (by decide +kernel), List.mem_of_getElem? (i := 351) (by decide +kernel)⟩
theorem lw_p10 : lw_okq (⟨"RotaryExchange$Exchange", "talkOn", "(LRotaryExchange$Finder;LRotaryExchange$Line;)V"⟩, 16) := ⟨⟨by decide +kernel, by decide +kernel⟩, List.mem_of_getElem? (i := 15) (by decide +kernel), List.mem_of_getElem? (i := 354) (by decide +kernel), List.mem_of_getElem? (i := 355) (by decide +kernel)⟩
theorem lw_p11 : lw_okq (⟨"RotaryExchange$Exchange", "soundOn", "(LRotaryExchange$Finder;LRotaryExchange$Line;)V"⟩, 16) := ⟨⟨by decide +kernel, by decide +kernel⟩, List.mem_of_getElem? (i := 15) (by decide +kernel), List.mem_of_getElem? (i := 358) (by decide +kernel), List.mem_of_getElem? (i := 359) (by decide +kernel)⟩
theorem lw_p12 : lw_okq (⟨"RotaryExchange$Exchange", "allotFinder", "()V"⟩, 16) := ⟨⟨by decide +kernel, by decide +kernel⟩, List.mem_of_getElem? (i := 15) (by decide +kernel), List.mem_of_getElem? (i := 362) (by decide +kernel), List.mem_of_getElem? (i := 363) (by decide +kernel)⟩
theorem lw_p13 : lw_okq (⟨"RotaryExchange$Exchange", "nextFreeFinder", "()I"⟩, 16) := ⟨⟨by decide +kernel, by decide +kernel⟩, List.mem_of_getElem? (i := 15) (by decide +kernel), List.mem_of_getElem? (i := 366) (by decide +kernel), List.mem_of_getElem? (i := 367) (by decide +kernel)⟩
theorem lw_p14 : lw_okq (⟨"RotaryExchange$Exchange", "firstWaitingLine", "()I"⟩, 16) := ⟨⟨by decide +kernel, by decide +kernel⟩, List.mem_of_getElem? (i := 15) (by decide +kernel), List.mem_of_getElem? (i := 370) (by decide +kernel), List.mem_of_getElem? (i := 371) (by decide +kernel)⟩
theorem lw_p15 : lw_okq (⟨"RotaryExchange$Exchange", "countParked", "()V"⟩, 16) := ⟨⟨by decide +kernel, by decide +kernel⟩, List.mem_of_getElem? (i := 15) (by decide +kernel), List.mem_of_getElem? (i := 378) (by decide +kernel), List.mem_of_getElem? (i := 379) (by decide +kernel)⟩
def lw_privs_1 : List (MethodName × Nat) := [(⟨"RotaryExchange$Exchange", "settingAt", "(I)I"⟩, 16), (⟨"RotaryExchange$Exchange", "release", "(LRotaryExchange$Finder;)V"⟩, 16), (⟨"RotaryExchange$Exchange", "takeStep", "(LRotaryExchange$Finder;)V"⟩, 16), (⟨"RotaryExchange$Exchange", "seek", "(LRotaryExchange$Finder;LRotaryExchange$Line;)V"⟩, 16), (⟨"RotaryExchange$Exchange", "awaitDigit", "(LRotaryExchange$Finder;LRotaryExchange$Line;I)V"⟩, 16), (⟨"RotaryExchange$Exchange", "rise", "(LRotaryExchange$Finder;LRotaryExchange$Line;)V"⟩, 16), (⟨"RotaryExchange$Exchange", "sound", "(LRotaryExchange$Finder;LRotaryExchange$Line;II)V"⟩, 16), (⟨"RotaryExchange$Exchange", "hunt", "(LRotaryExchange$Finder;LRotaryExchange$Line;)V"⟩, 16), (⟨"RotaryExchange$Exchange", "stepOn", "(LRotaryExchange$Finder;LRotaryExchange$Line;)V"⟩, 16), (⟨"RotaryExchange$Exchange", "ringOn", "(LRotaryExchange$Finder;LRotaryExchange$Line;)V"⟩, 16), (⟨"RotaryExchange$Exchange", "talkOn", "(LRotaryExchange$Finder;LRotaryExchange$Line;)V"⟩, 16), (⟨"RotaryExchange$Exchange", "soundOn", "(LRotaryExchange$Finder;LRotaryExchange$Line;)V"⟩, 16), (⟨"RotaryExchange$Exchange", "allotFinder", "()V"⟩, 16), (⟨"RotaryExchange$Exchange", "nextFreeFinder", "()I"⟩, 16), (⟨"RotaryExchange$Exchange", "firstWaitingLine", "()I"⟩, 16), (⟨"RotaryExchange$Exchange", "countParked", "()V"⟩, 16)]
theorem lw_r1 : ∀ q ∈ lw_privs_1, lw_okq q := List.forall_mem_cons.mpr ⟨lw_p0, List.forall_mem_cons.mpr ⟨lw_p1, List.forall_mem_cons.mpr ⟨lw_p2, List.forall_mem_cons.mpr ⟨lw_p3, List.forall_mem_cons.mpr ⟨lw_p4, List.forall_mem_cons.mpr ⟨lw_p5, List.forall_mem_cons.mpr ⟨lw_p6, List.forall_mem_cons.mpr ⟨lw_p7, List.forall_mem_cons.mpr ⟨lw_p8, List.forall_mem_cons.mpr ⟨lw_p9, List.forall_mem_cons.mpr ⟨lw_p10, List.forall_mem_cons.mpr ⟨lw_p11, List.forall_mem_cons.mpr ⟨lw_p12, List.forall_mem_cons.mpr ⟨lw_p13, List.forall_mem_cons.mpr ⟨lw_p14, List.forall_mem_cons.mpr ⟨lw_p15, fun _ h => absurd h List.not_mem_nil⟩⟩⟩⟩⟩⟩⟩⟩⟩⟩⟩⟩⟩⟩⟩⟩
theorem lw_p16 : lw_okq (⟨"RotaryExchange$Exchange", "partnerOf", "(LRotaryExchange$Line;)I"⟩, 16) := ⟨⟨by decide +kernel, by decide +kernel⟩, List.mem_of_getElem? (i := 15) (by decide +kernel), List.mem_of_getElem? (i := 394) (by decide +kernel), List.mem_of_getElem? (i := 395) (by decide +kernel)⟩
theorem lw_p17 : lw_okq (⟨"RotaryExchange$Exchange", "placeOf", "(LRotaryExchange$Line;)I"⟩, 16) := ⟨⟨by decide +kernel, by decide +kernel⟩, List.mem_of_getElem? (i := 15) (by decide +kernel), List.mem_of_getElem? (i := 402) (by decide +kernel), List.mem_of_getElem? (i := 403) (by decide +kernel)⟩
theorem lw_p18 : lw_okq (⟨"RotaryExchange$Exchange", "freeFinders", "()I"⟩, 16) := ⟨⟨by decide +kernel, by decide +kernel⟩, List.mem_of_getElem? (i := 15) (by decide +kernel), List.mem_of_getElem? (i := 450) (by decide +kernel), List.mem_of_getElem? (i := 451) (by decide +kernel)⟩
theorem lw_p19 : lw_okq (⟨"RotaryExchange$Exchange", "freeConnectors", "()I"⟩, 16) := ⟨⟨by decide +kernel, by decide +kernel⟩, List.mem_of_getElem? (i := 15) (by decide +kernel), List.mem_of_getElem? (i := 454) (by decide +kernel), List.mem_of_getElem? (i := 455) (by decide +kernel)⟩
theorem lw_p20 : lw_okq (⟨"RotaryExchange$Exchange", "sumOfMeters", "()I"⟩, 16) := ⟨⟨by decide +kernel, by decide +kernel⟩, List.mem_of_getElem? (i := 15) (by decide +kernel), List.mem_of_getElem? (i := 458) (by decide +kernel), List.mem_of_getElem? (i := 459) (by decide +kernel)⟩
theorem lw_p21 : lw_okq (⟨"RotaryExchange$Exchange", "liftedLines", "()I"⟩, 16) := ⟨⟨by decide +kernel, by decide +kernel⟩, List.mem_of_getElem? (i := 15) (by decide +kernel), List.mem_of_getElem? (i := 462) (by decide +kernel), List.mem_of_getElem? (i := 463) (by decide +kernel)⟩
def lw_privs_2 : List (MethodName × Nat) := [(⟨"RotaryExchange$Exchange", "partnerOf", "(LRotaryExchange$Line;)I"⟩, 16), (⟨"RotaryExchange$Exchange", "placeOf", "(LRotaryExchange$Line;)I"⟩, 16), (⟨"RotaryExchange$Exchange", "freeFinders", "()I"⟩, 16), (⟨"RotaryExchange$Exchange", "freeConnectors", "()I"⟩, 16), (⟨"RotaryExchange$Exchange", "sumOfMeters", "()I"⟩, 16), (⟨"RotaryExchange$Exchange", "liftedLines", "()I"⟩, 16)]
theorem lw_r2 : ∀ q ∈ lw_privs_2, lw_okq q := List.forall_mem_cons.mpr ⟨lw_p16, List.forall_mem_cons.mpr ⟨lw_p17, List.forall_mem_cons.mpr ⟨lw_p18, List.forall_mem_cons.mpr ⟨lw_p19, List.forall_mem_cons.mpr ⟨lw_p20, List.forall_mem_cons.mpr ⟨lw_p21, fun _ h => absurd h List.not_mem_nil⟩⟩⟩⟩⟩⟩
def lw_privs : List (MethodName × Nat) := lw_privs_1 ++ (lw_privs_2)
def lw_tbl : List Cond := k2_sels lw_privs ++ tables_1
theorem lw_privs_ok : ∀ q ∈ lw_privs, lw_okq q := by
  show ∀ q ∈ lw_privs_1 ++ (lw_privs_2), lw_okq q
  exact List.forall_mem_append.mpr ⟨lw_r1, lw_r2⟩
-- ===== names: by program out of the claim's printed names =====
def RX0 : String := "RotaryExchange$Exchange"
def TX0 : u_T := fun k => match k with
  | 0 => ("RotaryExchange$Exchange", "lines", "[LRotaryExchange$Line;", true)
  | 1 => ("RotaryExchange$Exchange", "finders", "[LRotaryExchange$Finder;", true)
  | 2 => ("RotaryExchange$Exchange", "noLine", "LRotaryExchange$Line;", true)
  | 3 => ("RotaryExchange$Exchange", "noFinder", "LRotaryExchange$Finder;", true)
  | 4 => ("RotaryExchange$Exchange", "settings", "[I", true)
  | 5 => ("RotaryExchange$Exchange", "finderCount", "I", false)
  | 6 => ("RotaryExchange$Exchange", "connectorCount", "I", false)
  | 7 => ("RotaryExchange$Exchange", "time", "I", false)
  | 8 => ("RotaryExchange$Exchange", "lastAllotted", "I", false)
  | 9 => ("RotaryExchange$Exchange", "lifts", "I", false)
  | 10 => ("RotaryExchange$Exchange", "readies", "I", false)
  | 11 => ("RotaryExchange$Exchange", "callings", "I", false)
  | 12 => ("RotaryExchange$Exchange", "throughs", "I", false)
  | 13 => ("RotaryExchange$Exchange", "busies", "I", false)
  | 14 => ("RotaryExchange$Exchange", "vacants", "I", false)
  | _ => ("RotaryExchange$Exchange", "waitsGivenUp", "I", false)
def tyX0 : Nat → FieldType := fun k => match k with
  | 0 => .array (.object "RotaryExchange$Line")
  | 1 => .array (.object "RotaryExchange$Finder")
  | 2 => .object "RotaryExchange$Line"
  | 3 => .object "RotaryExchange$Finder"
  | 4 => .array .int
  | 5 => .int
  | 6 => .int
  | 7 => .int
  | 8 => .int
  | 9 => .int
  | 10 => .int
  | 11 => .int
  | 12 => .int
  | 13 => .int
  | 14 => .int
  | _ => .int
abbrev wsX00 : List Cond := u_ws RX0 TX0 16
theorem nmX0 : ∀ a, a < 16 → ∀ b, b < 16 → a ≠ b → (TX0 a).2.1 ≠ (TX0 b).2.1 := by decide +kernel
theorem tyX0_ok : ∀ k, k < 16 → parseFieldDescriptor (TX0 k).2.2.1 = some (tyX0 k) := by decide +kernel
abbrev cX0_init : ByteArray := prog_2_method_1_code
def yX0_init : MethodName := ⟨RX0, "<init>", "()V"⟩
abbrev cX0_lineAt : ByteArray := prog_2_method_2_code
def yX0_lineAt : MethodName := ⟨RX0, "lineAt", "(I)LRotaryExchange$Line;"⟩
abbrev cX0_finderAt : ByteArray := prog_2_method_3_code
def yX0_finderAt : MethodName := ⟨RX0, "finderAt", "(I)LRotaryExchange$Finder;"⟩
abbrev cX0_settingAt : ByteArray := prog_2_method_4_code
def yX0_settingAt : MethodName := ⟨RX0, "settingAt", "(I)I"⟩
abbrev cX0_changeSetting : ByteArray := prog_2_method_5_code
def yX0_changeSetting : MethodName := ⟨RX0, "changeSetting", "(II)I"⟩
abbrev cX0_renew : ByteArray := prog_2_method_6_code
def yX0_renew : MethodName := ⟨RX0, "renew", "(II)V"⟩
abbrev cX0_copyFrom : ByteArray := prog_2_method_7_code
def yX0_copyFrom : MethodName := ⟨RX0, "copyFrom", "(LRotaryExchange$Exchange;)V"⟩
abbrev cX0_liftLine : ByteArray := prog_2_method_8_code
def yX0_liftLine : MethodName := ⟨RX0, "liftLine", "(I)I"⟩
abbrev cX0_hangLine : ByteArray := prog_2_method_9_code
def yX0_hangLine : MethodName := ⟨RX0, "hangLine", "(I)I"⟩
abbrev cX0_release : ByteArray := prog_2_method_10_code
def yX0_release : MethodName := ⟨RX0, "release", "(LRotaryExchange$Finder;)V"⟩
abbrev cX0_dialDigit : ByteArray := prog_2_method_11_code
def yX0_dialDigit : MethodName := ⟨RX0, "dialDigit", "(II)I"⟩
abbrev cX0_hasTimeFor : ByteArray := prog_2_method_12_code
def yX0_hasTimeFor : MethodName := ⟨RX0, "hasTimeFor", "(I)Z"⟩
abbrev cX0_pass : ByteArray := prog_2_method_13_code
def yX0_pass : MethodName := ⟨RX0, "pass", "(I)V"⟩
abbrev cX0_takeStep : ByteArray := prog_2_method_14_code
def yX0_takeStep : MethodName := ⟨RX0, "takeStep", "(LRotaryExchange$Finder;)V"⟩
abbrev cX0_seek : ByteArray := prog_2_method_15_code
def yX0_seek : MethodName := ⟨RX0, "seek", "(LRotaryExchange$Finder;LRotaryExchange$Line;)V"⟩
abbrev cX0_awaitDigit : ByteArray := prog_2_method_16_code
def yX0_awaitDigit : MethodName := ⟨RX0, "awaitDigit", "(LRotaryExchange$Finder;LRotaryExchange$Line;I)V"⟩
abbrev cX0_rise : ByteArray := prog_2_method_17_code
def yX0_rise : MethodName := ⟨RX0, "rise", "(LRotaryExchange$Finder;LRotaryExchange$Line;)V"⟩
abbrev cX0_hunt : ByteArray := prog_2_method_18_code
def yX0_hunt : MethodName := ⟨RX0, "hunt", "(LRotaryExchange$Finder;LRotaryExchange$Line;)V"⟩
abbrev cX0_stepOn : ByteArray := prog_2_method_19_code
def yX0_stepOn : MethodName := ⟨RX0, "stepOn", "(LRotaryExchange$Finder;LRotaryExchange$Line;)V"⟩
abbrev cX0_ringOn : ByteArray := prog_2_method_20_code
def yX0_ringOn : MethodName := ⟨RX0, "ringOn", "(LRotaryExchange$Finder;LRotaryExchange$Line;)V"⟩
abbrev cX0_talkOn : ByteArray := prog_2_method_21_code
def yX0_talkOn : MethodName := ⟨RX0, "talkOn", "(LRotaryExchange$Finder;LRotaryExchange$Line;)V"⟩
abbrev cX0_soundOn : ByteArray := prog_2_method_22_code
def yX0_soundOn : MethodName := ⟨RX0, "soundOn", "(LRotaryExchange$Finder;LRotaryExchange$Line;)V"⟩
abbrev cX0_sound : ByteArray := prog_2_method_23_code
def yX0_sound : MethodName := ⟨RX0, "sound", "(LRotaryExchange$Finder;LRotaryExchange$Line;II)V"⟩
abbrev cX0_allotFinder : ByteArray := prog_2_method_24_code
def yX0_allotFinder : MethodName := ⟨RX0, "allotFinder", "()V"⟩
abbrev cX0_countParked : ByteArray := prog_2_method_25_code
def yX0_countParked : MethodName := ⟨RX0, "countParked", "()V"⟩
abbrev cX0_nextFreeFinder : ByteArray := prog_2_method_26_code
def yX0_nextFreeFinder : MethodName := ⟨RX0, "nextFreeFinder", "()I"⟩
abbrev cX0_firstWaitingLine : ByteArray := prog_2_method_27_code
def yX0_firstWaitingLine : MethodName := ⟨RX0, "firstWaitingLine", "()I"⟩
abbrev cX0_holderOf : ByteArray := prog_2_method_28_code
def yX0_holderOf : MethodName := ⟨RX0, "holderOf", "(II)I"⟩
abbrev cX0_ticksUntil : ByteArray := prog_2_method_29_code
def yX0_ticksUntil : MethodName := ⟨RX0, "ticksUntil", "(III)I"⟩
abbrev cX0_numberOfLine : ByteArray := prog_2_method_32_code
def yX0_numberOfLine : MethodName := ⟨RX0, "numberOfLine", "(II)I"⟩
abbrev cX0_partnerOf : ByteArray := prog_2_method_33_code
def yX0_partnerOf : MethodName := ⟨RX0, "partnerOf", "(LRotaryExchange$Line;)I"⟩
abbrev cX0_placeOf : ByteArray := prog_2_method_34_code
def yX0_placeOf : MethodName := ⟨RX0, "placeOf", "(LRotaryExchange$Line;)I"⟩
abbrev cX0_traceFrom : ByteArray := prog_2_method_35_code
def yX0_traceFrom : MethodName := ⟨RX0, "traceFrom", "(II)I"⟩
abbrev cX0_numberFor : ByteArray := prog_2_method_36_code
def yX0_numberFor : MethodName := ⟨RX0, "numberFor", "(I)I"⟩
abbrev cX0_freeFinders : ByteArray := prog_2_method_37_code
def yX0_freeFinders : MethodName := ⟨RX0, "freeFinders", "()I"⟩
abbrev cX0_freeConnectors : ByteArray := prog_2_method_38_code
def yX0_freeConnectors : MethodName := ⟨RX0, "freeConnectors", "()I"⟩
abbrev cX0_sumOfMeters : ByteArray := prog_2_method_39_code
def yX0_sumOfMeters : MethodName := ⟨RX0, "sumOfMeters", "()I"⟩
abbrev cX0_liftedLines : ByteArray := prog_2_method_40_code
def yX0_liftedLines : MethodName := ⟨RX0, "liftedLines", "()I"⟩
def RX1 : String := "RotaryExchange$Finder"
def TX1 : u_T := fun k => match k with
  | 0 => ("RotaryExchange$Finder", "state", "I", false)
  | 1 => ("RotaryExchange$Finder", "position", "I", false)
  | 2 => ("RotaryExchange$Finder", "line", "I", false)
  | 3 => ("RotaryExchange$Finder", "level", "I", false)
  | 4 => ("RotaryExchange$Finder", "connector", "I", false)
  | 5 => ("RotaryExchange$Finder", "pulses", "I", false)
  | 6 => ("RotaryExchange$Finder", "steps", "I", false)
  | 7 => ("RotaryExchange$Finder", "timer", "I", false)
  | 8 => ("RotaryExchange$Finder", "clearing", "I", false)
  | _ => ("RotaryExchange$Finder", "called", "I", false)
def tyX1 : Nat → FieldType := fun k => match k with
  | 0 => .int
  | 1 => .int
  | 2 => .int
  | 3 => .int
  | 4 => .int
  | 5 => .int
  | 6 => .int
  | 7 => .int
  | 8 => .int
  | _ => .int
abbrev wsX10 : List Cond := u_ws RX1 TX1 10
theorem nmX1 : ∀ a, a < 10 → ∀ b, b < 10 → a ≠ b → (TX1 a).2.1 ≠ (TX1 b).2.1 := by decide +kernel
theorem tyX1_ok : ∀ k, k < 10 → parseFieldDescriptor (TX1 k).2.2.1 = some (tyX1 k) := by decide +kernel
abbrev cX1_init : ByteArray := prog_3_method_1_code
def yX1_init : MethodName := ⟨RX1, "<init>", "()V"⟩
abbrev cX1_renew : ByteArray := prog_3_method_2_code
def yX1_renew : MethodName := ⟨RX1, "renew", "()V"⟩
abbrev cX1_copyFrom : ByteArray := prog_3_method_3_code
def yX1_copyFrom : MethodName := ⟨RX1, "copyFrom", "(LRotaryExchange$Finder;)V"⟩
abbrev cX1_become : ByteArray := prog_3_method_4_code
def yX1_become : MethodName := ⟨RX1, "become", "(I)V"⟩
abbrev cX1_becomeFree : ByteArray := prog_3_method_5_code
def yX1_becomeFree : MethodName := ⟨RX1, "becomeFree", "()V"⟩
abbrev cX1_holdsConnector : ByteArray := prog_3_method_6_code
def yX1_holdsConnector : MethodName := ⟨RX1, "holdsConnector", "()Z"⟩
abbrev cX1_numberFor : ByteArray := prog_3_method_7_code
def yX1_numberFor : MethodName := ⟨RX1, "numberFor", "(I)I"⟩
def RX2 : String := "RotaryExchange$Line"
def TX2 : u_T := fun k => match k with
  | 0 => ("RotaryExchange$Line", "state", "I", false)
  | 1 => ("RotaryExchange$Line", "lifted", "Z", false)
  | 2 => ("RotaryExchange$Line", "meter", "I", false)
  | 3 => ("RotaryExchange$Line", "reason", "I", false)
  | 4 => ("RotaryExchange$Line", "digits", "I", false)
  | 5 => ("RotaryExchange$Line", "digitCount", "I", false)
  | 6 => ("RotaryExchange$Line", "finder", "I", false)
  | 7 => ("RotaryExchange$Line", "turn", "I", false)
  | _ => ("RotaryExchange$Line", "parking", "I", false)
def tyX2 : Nat → FieldType := fun k => match k with
  | 0 => .int
  | 1 => .boolean
  | 2 => .int
  | 3 => .int
  | 4 => .int
  | 5 => .int
  | 6 => .int
  | 7 => .int
  | _ => .int
abbrev wsX20 : List Cond := u_ws RX2 TX2 9
theorem nmX2 : ∀ a, a < 9 → ∀ b, b < 9 → a ≠ b → (TX2 a).2.1 ≠ (TX2 b).2.1 := by decide +kernel
theorem tyX2_ok : ∀ k, k < 9 → parseFieldDescriptor (TX2 k).2.2.1 = some (tyX2 k) := by decide +kernel
abbrev cX2_init : ByteArray := prog_4_method_1_code
def yX2_init : MethodName := ⟨RX2, "<init>", "()V"⟩
abbrev cX2_renew : ByteArray := prog_4_method_2_code
def yX2_renew : MethodName := ⟨RX2, "renew", "()V"⟩
abbrev cX2_copyFrom : ByteArray := prog_4_method_3_code
def yX2_copyFrom : MethodName := ⟨RX2, "copyFrom", "(LRotaryExchange$Line;)V"⟩
abbrev cX2_waitsUnsought : ByteArray := prog_4_method_4_code
def yX2_waitsUnsought : MethodName := ⟨RX2, "waitsUnsought", "()Z"⟩
abbrev cX2_isCalledByAnother : ByteArray := prog_4_method_5_code
def yX2_isCalledByAnother : MethodName := ⟨RX2, "isCalledByAnother", "()Z"⟩
abbrev cX2_callsAnother : ByteArray := prog_4_method_6_code
def yX2_callsAnother : MethodName := ⟨RX2, "callsAnother", "()Z"⟩
abbrev cX2_appendDigit : ByteArray := prog_4_method_7_code
def yX2_appendDigit : MethodName := ⟨RX2, "appendDigit", "(I)V"⟩
abbrev cX2_takePulses : ByteArray := prog_4_method_8_code
def yX2_takePulses : MethodName := ⟨RX2, "takePulses", "()I"⟩
abbrev cX2_leaveCall : ByteArray := prog_4_method_9_code
def yX2_leaveCall : MethodName := ⟨RX2, "leaveCall", "(I)V"⟩
abbrev cX2_waitParked : ByteArray := prog_4_method_10_code
def yX2_waitParked : MethodName := ⟨RX2, "waitParked", "(I)V"⟩
def RX3 : String := "RotaryExchange$Pad"
def TX3 : u_T := fun k => match k with
  | 0 => ("RotaryExchange$Pad", "codes", "[I", true)
  | _ => ("RotaryExchange$Pad", "length", "I", false)
def tyX3 : Nat → FieldType := fun k => match k with
  | 0 => .array .int
  | _ => .int
abbrev wsX30 : List Cond := u_ws RX3 TX3 2
theorem nmX3 : ∀ a, a < 2 → ∀ b, b < 2 → a ≠ b → (TX3 a).2.1 ≠ (TX3 b).2.1 := by decide +kernel
theorem tyX3_ok : ∀ k, k < 2 → parseFieldDescriptor (TX3 k).2.2.1 = some (tyX3 k) := by decide +kernel
abbrev cX3_init : ByteArray := prog_5_method_1_code
def yX3_init : MethodName := ⟨RX3, "<init>", "()V"⟩
def RX4 : String := "RotaryExchange"
def TX4 : u_T := fun k => match k with
  | 0 => ("RotaryExchange", "exchange", "LRotaryExchange$Exchange;", true)
  | 1 => ("RotaryExchange", "trial", "LRotaryExchange$Exchange;", true)
  | 2 => ("RotaryExchange", "slots", "[LRotaryExchange$Exchange;", true)
  | _ => ("RotaryExchange", "pad", "LRotaryExchange$Pad;", true)
def tyX4 : Nat → FieldType := fun k => match k with
  | 0 => .object "RotaryExchange$Exchange"
  | 1 => .object "RotaryExchange$Exchange"
  | 2 => .array (.object "RotaryExchange$Exchange")
  | _ => .object "RotaryExchange$Pad"
abbrev wsX40 : List Cond := u_ws RX4 TX4 4
theorem nmX4 : ∀ a, a < 4 → ∀ b, b < 4 → a ≠ b → (TX4 a).2.1 ≠ (TX4 b).2.1 := by decide +kernel
theorem tyX4_ok : ∀ k, k < 4 → parseFieldDescriptor (TX4 k).2.2.1 = some (tyX4 k) := by decide +kernel
abbrev cX4_init : ByteArray := prog_1_method_1_code
def yX4_init : MethodName := ⟨RX4, "<init>", "()V"⟩
abbrev cX4_setUp : ByteArray := prog_1_method_2_code
def yX4_setUp : MethodName := ⟨RX4, "setUp", "(II)I"⟩
abbrev cX4_set : ByteArray := prog_1_method_3_code
def yX4_set : MethodName := ⟨RX4, "set", "(II)I"⟩
abbrev cX4_lift : ByteArray := prog_1_method_4_code
def yX4_lift : MethodName := ⟨RX4, "lift", "(I)I"⟩
abbrev cX4_hang : ByteArray := prog_1_method_5_code
def yX4_hang : MethodName := ⟨RX4, "hang", "(I)I"⟩
abbrev cX4_dial : ByteArray := prog_1_method_6_code
def yX4_dial : MethodName := ⟨RX4, "dial", "(II)I"⟩
abbrev cX4_tick : ByteArray := prog_1_method_7_code
def yX4_tick : MethodName := ⟨RX4, "tick", "(I)I"⟩
abbrev cX4_line : ByteArray := prog_1_method_8_code
def yX4_line : MethodName := ⟨RX4, "line", "(II)I"⟩
abbrev cX4_finder : ByteArray := prog_1_method_9_code
def yX4_finder : MethodName := ⟨RX4, "finder", "(II)I"⟩
abbrev cX4_connector : ByteArray := prog_1_method_10_code
def yX4_connector : MethodName := ⟨RX4, "connector", "(II)I"⟩
abbrev cX4_count : ByteArray := prog_1_method_11_code
def yX4_count : MethodName := ⟨RX4, "count", "(I)I"⟩
abbrev cX4_trace : ByteArray := prog_1_method_12_code
def yX4_trace : MethodName := ⟨RX4, "trace", "(II)I"⟩
abbrev cX4_until : ByteArray := prog_1_method_13_code
def yX4_until : MethodName := ⟨RX4, "until", "(III)I"⟩
abbrev cX4_save : ByteArray := prog_1_method_19_code
def yX4_save : MethodName := ⟨RX4, "save", "(I)I"⟩
abbrev cX4_restore : ByteArray := prog_1_method_20_code
def yX4_restore : MethodName := ⟨RX4, "restore", "(I)I"⟩
abbrev cX4_isLine : ByteArray := prog_1_method_23_code
def yX4_isLine : MethodName := ⟨RX4, "isLine", "(I)Z"⟩
abbrev cX4_isWithin : ByteArray := prog_1_method_24_code
def yX4_isWithin : MethodName := ⟨RX4, "isWithin", "(III)Z"⟩
def RX5 : String := "RotaryExchangeModel"
def TX5 : u_T := fun k => match k with
  | _ => ("", "", "", false)
def tyX5 : Nat → FieldType := fun k => match k with
  | _ => .int
abbrev wsX50 : List Cond := u_ws RX5 TX5 0
theorem nmX5 : ∀ a, a < 0 → ∀ b, b < 0 → a ≠ b → (TX5 a).2.1 ≠ (TX5 b).2.1 := by decide +kernel
theorem tyX5_ok : ∀ k, k < 0 → parseFieldDescriptor (TX5 k).2.2.1 = some (tyX5 k) := by decide +kernel
def RL : String := "RotaryExchangeLaw"
abbrev cL_cell : ByteArray := method_2_code
def yL_cell : MethodName := ⟨RL, "cell", "([III)I"⟩
abbrev cL_fits : ByteArray := method_3_code
def yL_fits : MethodName := ⟨RL, "fits", "(LRotaryExchange;)Z"⟩
abbrev cL_next : ByteArray := method_4_code
def yL_next : MethodName := ⟨RL, "next", "(LRotaryExchange;I)I"⟩
abbrev cL_ticks : ByteArray := method_5_code
def yL_ticks : MethodName := ⟨RL, "ticks", "(LRotaryExchange;I)Z"⟩
abbrev cL_law : ByteArray := code
def yL_law : MethodName := ⟨RL, "law", "([I)Z"⟩
abbrev vwCl : List vw_C := [(RX0, TX0, 16), (RX1, TX1, 10), (RX2, TX2, 9), (RX3, TX3, 2), (RX4, TX4, 4)]
def lw_gd : List Cond := lw_tbl.filter goodWord
theorem gd_in {w : Cond} (h : w ∈ lw_tbl) (hg : goodWord w = true) : w ∈ lw_gd := List.mem_filter.mpr ⟨h, hg⟩
theorem gd_good : ∀ w ∈ lw_gd, goodWord w = true := fun _ h => (List.mem_filter.mp h).2
theorem gd_tbl : ∀ w ∈ lw_gd, w ∈ lw_tbl := fun _ h => (List.mem_filter.mp h).1
set_option maxRecDepth 20000 in
theorem inX0 : ∀ w ∈ wsX00, w ∈ lw_gd := fun w h => gd_in ((by decide +kernel : ∀ w ∈ wsX00, w ∈ lw_tbl) w h) ((by decide +kernel : ∀ w ∈ wsX00, goodWord w = true) w h)
set_option maxRecDepth 20000 in
theorem inX1 : ∀ w ∈ wsX10, w ∈ lw_gd := fun w h => gd_in ((by decide +kernel : ∀ w ∈ wsX10, w ∈ lw_tbl) w h) ((by decide +kernel : ∀ w ∈ wsX10, goodWord w = true) w h)
set_option maxRecDepth 20000 in
theorem inX2 : ∀ w ∈ wsX20, w ∈ lw_gd := fun w h => gd_in ((by decide +kernel : ∀ w ∈ wsX20, w ∈ lw_tbl) w h) ((by decide +kernel : ∀ w ∈ wsX20, goodWord w = true) w h)
set_option maxRecDepth 20000 in
theorem inX3 : ∀ w ∈ wsX30, w ∈ lw_gd := fun w h => gd_in ((by decide +kernel : ∀ w ∈ wsX30, w ∈ lw_tbl) w h) ((by decide +kernel : ∀ w ∈ wsX30, goodWord w = true) w h)
set_option maxRecDepth 20000 in
theorem inX4 : ∀ w ∈ wsX40, w ∈ lw_gd := fun w h => gd_in ((by decide +kernel : ∀ w ∈ wsX40, w ∈ lw_tbl) w h) ((by decide +kernel : ∀ w ∈ wsX40, goodWord w = true) w h)
end
section
theorem dX0_init_0 : decode cX0_init 0 = .ok (.aload_n 0, 1) := by decide +kernel
theorem dX0_init_1 : decode cX0_init 1 = .ok (.invokespecial 3, 3) := by decide +kernel
theorem dX0_init_4 : decode cX0_init 4 = .ok (.aload_n 0, 1) := by decide +kernel
theorem dX0_init_5 : decode cX0_init 5 = .ok (.bipush 16, 2) := by decide +kernel
theorem dX0_init_7 : decode cX0_init 7 = .ok (.anewarray 9, 3) := by decide +kernel
theorem dX0_init_10 : decode cX0_init 10 = .ok (.putfield 11, 3) := by decide +kernel
theorem dX0_init_13 : decode cX0_init 13 = .ok (.aload_n 0, 1) := by decide +kernel
theorem dX0_init_14 : decode cX0_init 14 = .ok (.iconst 4, 1) := by decide +kernel
theorem dX0_init_15 : decode cX0_init 15 = .ok (.anewarray 17, 3) := by decide +kernel
theorem dX0_init_18 : decode cX0_init 18 = .ok (.putfield 19, 3) := by decide +kernel
theorem dX0_init_21 : decode cX0_init 21 = .ok (.aload_n 0, 1) := by decide +kernel
theorem dX0_init_22 : decode cX0_init 22 = .ok (.new 9, 3) := by decide +kernel
theorem dX0_init_25 : decode cX0_init 25 = .ok (.dup, 1) := by decide +kernel
theorem dX0_init_26 : decode cX0_init 26 = .ok (.invokespecial 23, 3) := by decide +kernel
theorem dX0_init_29 : decode cX0_init 29 = .ok (.putfield 24, 3) := by decide +kernel
theorem dX0_init_32 : decode cX0_init 32 = .ok (.aload_n 0, 1) := by decide +kernel
theorem dX0_init_33 : decode cX0_init 33 = .ok (.new 17, 3) := by decide +kernel
theorem dX0_init_36 : decode cX0_init 36 = .ok (.dup, 1) := by decide +kernel
theorem dX0_init_37 : decode cX0_init 37 = .ok (.invokespecial 28, 3) := by decide +kernel
theorem dX0_init_40 : decode cX0_init 40 = .ok (.putfield 29, 3) := by decide +kernel
theorem dX0_init_43 : decode cX0_init 43 = .ok (.aload_n 0, 1) := by decide +kernel
theorem dX0_init_44 : decode cX0_init 44 = .ok (.getstatic 33, 3) := by decide +kernel
theorem dX0_init_47 : decode cX0_init 47 = .ok (.invokevirtual 37, 3) := by decide +kernel
theorem dX0_init_50 : decode cX0_init 50 = .ok (.checkcast 38, 3) := by decide +kernel
theorem dX0_init_53 : decode cX0_init 53 = .ok (.putfield 42, 3) := by decide +kernel
theorem dX0_init_56 : decode cX0_init 56 = .ok (.aload_n 0, 1) := by decide +kernel
theorem dX0_init_57 : decode cX0_init 57 = .ok (.iconst 2, 1) := by decide +kernel
theorem dX0_init_58 : decode cX0_init 58 = .ok (.putfield 45, 3) := by decide +kernel
theorem dX0_init_61 : decode cX0_init 61 = .ok (.aload_n 0, 1) := by decide +kernel
theorem dX0_init_62 : decode cX0_init 62 = .ok (.iconst 1, 1) := by decide +kernel
theorem dX0_init_63 : decode cX0_init 63 = .ok (.putfield 49, 3) := by decide +kernel
theorem dX0_init_66 : decode cX0_init 66 = .ok (.aload_n 0, 1) := by decide +kernel
theorem dX0_init_67 : decode cX0_init 67 = .ok (.iconst 0, 1) := by decide +kernel
theorem dX0_init_68 : decode cX0_init 68 = .ok (.putfield 52, 3) := by decide +kernel
theorem dX0_init_71 : decode cX0_init 71 = .ok (.aload_n 0, 1) := by decide +kernel
theorem dX0_init_72 : decode cX0_init 72 = .ok (.iconst (-1), 1) := by decide +kernel
theorem dX0_init_73 : decode cX0_init 73 = .ok (.putfield 55, 3) := by decide +kernel
theorem dX0_init_76 : decode cX0_init 76 = .ok (.aload_n 0, 1) := by decide +kernel
theorem dX0_init_77 : decode cX0_init 77 = .ok (.iconst 0, 1) := by decide +kernel
theorem dX0_init_78 : decode cX0_init 78 = .ok (.putfield 58, 3) := by decide +kernel
theorem dX0_init_81 : decode cX0_init 81 = .ok (.aload_n 0, 1) := by decide +kernel
theorem dX0_init_82 : decode cX0_init 82 = .ok (.iconst 0, 1) := by decide +kernel
theorem dX0_init_83 : decode cX0_init 83 = .ok (.putfield 61, 3) := by decide +kernel
theorem dX0_init_86 : decode cX0_init 86 = .ok (.aload_n 0, 1) := by decide +kernel
theorem dX0_init_87 : decode cX0_init 87 = .ok (.iconst 0, 1) := by decide +kernel
theorem dX0_init_88 : decode cX0_init 88 = .ok (.putfield 64, 3) := by decide +kernel
theorem dX0_init_91 : decode cX0_init 91 = .ok (.aload_n 0, 1) := by decide +kernel
theorem dX0_init_92 : decode cX0_init 92 = .ok (.iconst 0, 1) := by decide +kernel
theorem dX0_init_93 : decode cX0_init 93 = .ok (.putfield 67, 3) := by decide +kernel
theorem dX0_init_96 : decode cX0_init 96 = .ok (.aload_n 0, 1) := by decide +kernel
theorem dX0_init_97 : decode cX0_init 97 = .ok (.iconst 0, 1) := by decide +kernel
theorem dX0_init_98 : decode cX0_init 98 = .ok (.putfield 70, 3) := by decide +kernel
theorem dX0_init_101 : decode cX0_init 101 = .ok (.aload_n 0, 1) := by decide +kernel
theorem dX0_init_102 : decode cX0_init 102 = .ok (.iconst 0, 1) := by decide +kernel
theorem dX0_init_103 : decode cX0_init 103 = .ok (.putfield 73, 3) := by decide +kernel
theorem dX0_init_106 : decode cX0_init 106 = .ok (.aload_n 0, 1) := by decide +kernel
theorem dX0_init_107 : decode cX0_init 107 = .ok (.iconst 0, 1) := by decide +kernel
theorem dX0_init_108 : decode cX0_init 108 = .ok (.putfield 76, 3) := by decide +kernel
theorem dX0_init_111 : decode cX0_init 111 = .ok (.iconst 0, 1) := by decide +kernel
theorem dX0_init_112 : decode cX0_init 112 = .ok (.istore_n 1, 1) := by decide +kernel
theorem dX0_init_113 : decode cX0_init 113 = .ok (.iload_n 1, 1) := by decide +kernel
theorem dX0_init_114 : decode cX0_init 114 = .ok (.aload_n 0, 1) := by decide +kernel
theorem dX0_init_115 : decode cX0_init 115 = .ok (.getfield 11, 3) := by decide +kernel
theorem dX0_init_118 : decode cX0_init 118 = .ok (.arraylength, 1) := by decide +kernel
theorem dX0_init_119 : decode cX0_init 119 = .ok (.if_icmp .ge 22, 3) := by decide +kernel
theorem dX0_init_122 : decode cX0_init 122 = .ok (.aload_n 0, 1) := by decide +kernel
theorem dX0_init_123 : decode cX0_init 123 = .ok (.getfield 11, 3) := by decide +kernel
theorem dX0_init_126 : decode cX0_init 126 = .ok (.iload_n 1, 1) := by decide +kernel
theorem dX0_init_127 : decode cX0_init 127 = .ok (.new 9, 3) := by decide +kernel
theorem dX0_init_130 : decode cX0_init 130 = .ok (.dup, 1) := by decide +kernel
theorem dX0_init_131 : decode cX0_init 131 = .ok (.invokespecial 23, 3) := by decide +kernel
theorem dX0_init_134 : decode cX0_init 134 = .ok (.aastore, 1) := by decide +kernel
theorem dX0_init_135 : decode cX0_init 135 = .ok (.iinc 1 1, 3) := by decide +kernel
theorem dX0_init_138 : decode cX0_init 138 = .ok (.goto (-25), 3) := by decide +kernel
theorem dX0_init_141 : decode cX0_init 141 = .ok (.iconst 0, 1) := by decide +kernel
theorem dX0_init_142 : decode cX0_init 142 = .ok (.istore_n 1, 1) := by decide +kernel
theorem dX0_init_143 : decode cX0_init 143 = .ok (.iload_n 1, 1) := by decide +kernel
theorem dX0_init_144 : decode cX0_init 144 = .ok (.aload_n 0, 1) := by decide +kernel
theorem dX0_init_145 : decode cX0_init 145 = .ok (.getfield 19, 3) := by decide +kernel
theorem dX0_init_148 : decode cX0_init 148 = .ok (.arraylength, 1) := by decide +kernel
theorem dX0_init_149 : decode cX0_init 149 = .ok (.if_icmp .ge 22, 3) := by decide +kernel
theorem dX0_init_152 : decode cX0_init 152 = .ok (.aload_n 0, 1) := by decide +kernel
theorem dX0_init_153 : decode cX0_init 153 = .ok (.getfield 19, 3) := by decide +kernel
theorem dX0_init_156 : decode cX0_init 156 = .ok (.iload_n 1, 1) := by decide +kernel
theorem dX0_init_157 : decode cX0_init 157 = .ok (.new 17, 3) := by decide +kernel
theorem dX0_init_160 : decode cX0_init 160 = .ok (.dup, 1) := by decide +kernel
theorem dX0_init_161 : decode cX0_init 161 = .ok (.invokespecial 28, 3) := by decide +kernel
theorem dX0_init_164 : decode cX0_init 164 = .ok (.aastore, 1) := by decide +kernel
theorem dX0_init_165 : decode cX0_init 165 = .ok (.iinc 1 1, 3) := by decide +kernel
theorem dX0_init_168 : decode cX0_init 168 = .ok (.goto (-25), 3) := by decide +kernel
theorem dX0_init_171 : decode cX0_init 171 = .ok (.return_, 1) := by decide +kernel
theorem dX0_lineAt_0 : decode cX0_lineAt 0 = .ok (.iload_n 1, 1) := by decide +kernel
theorem dX0_lineAt_1 : decode cX0_lineAt 1 = .ok (.ifCond .lt 21, 3) := by decide +kernel
theorem dX0_lineAt_4 : decode cX0_lineAt 4 = .ok (.iload_n 1, 1) := by decide +kernel
theorem dX0_lineAt_5 : decode cX0_lineAt 5 = .ok (.aload_n 0, 1) := by decide +kernel
theorem dX0_lineAt_6 : decode cX0_lineAt 6 = .ok (.getfield 11, 3) := by decide +kernel
theorem dX0_lineAt_9 : decode cX0_lineAt 9 = .ok (.arraylength, 1) := by decide +kernel
theorem dX0_lineAt_10 : decode cX0_lineAt 10 = .ok (.if_icmp .ge 12, 3) := by decide +kernel
theorem dX0_lineAt_13 : decode cX0_lineAt 13 = .ok (.aload_n 0, 1) := by decide +kernel
theorem dX0_lineAt_14 : decode cX0_lineAt 14 = .ok (.getfield 11, 3) := by decide +kernel
theorem dX0_lineAt_17 : decode cX0_lineAt 17 = .ok (.iload_n 1, 1) := by decide +kernel
theorem dX0_lineAt_18 : decode cX0_lineAt 18 = .ok (.aaload, 1) := by decide +kernel
theorem dX0_lineAt_19 : decode cX0_lineAt 19 = .ok (.ifnonnull 8, 3) := by decide +kernel
theorem dX0_lineAt_22 : decode cX0_lineAt 22 = .ok (.aload_n 0, 1) := by decide +kernel
theorem dX0_lineAt_23 : decode cX0_lineAt 23 = .ok (.getfield 24, 3) := by decide +kernel
theorem dX0_lineAt_26 : decode cX0_lineAt 26 = .ok (.areturn, 1) := by decide +kernel
theorem dX0_lineAt_27 : decode cX0_lineAt 27 = .ok (.aload_n 0, 1) := by decide +kernel
theorem dX0_lineAt_28 : decode cX0_lineAt 28 = .ok (.getfield 11, 3) := by decide +kernel
theorem dX0_lineAt_31 : decode cX0_lineAt 31 = .ok (.iload_n 1, 1) := by decide +kernel
theorem dX0_lineAt_32 : decode cX0_lineAt 32 = .ok (.aaload, 1) := by decide +kernel
theorem dX0_lineAt_33 : decode cX0_lineAt 33 = .ok (.areturn, 1) := by decide +kernel
theorem dX0_finderAt_0 : decode cX0_finderAt 0 = .ok (.iload_n 1, 1) := by decide +kernel
theorem dX0_finderAt_1 : decode cX0_finderAt 1 = .ok (.ifCond .lt 21, 3) := by decide +kernel
theorem dX0_finderAt_4 : decode cX0_finderAt 4 = .ok (.iload_n 1, 1) := by decide +kernel
theorem dX0_finderAt_5 : decode cX0_finderAt 5 = .ok (.aload_n 0, 1) := by decide +kernel
theorem dX0_finderAt_6 : decode cX0_finderAt 6 = .ok (.getfield 19, 3) := by decide +kernel
theorem dX0_finderAt_9 : decode cX0_finderAt 9 = .ok (.arraylength, 1) := by decide +kernel
theorem dX0_finderAt_10 : decode cX0_finderAt 10 = .ok (.if_icmp .ge 12, 3) := by decide +kernel
theorem dX0_finderAt_13 : decode cX0_finderAt 13 = .ok (.aload_n 0, 1) := by decide +kernel
theorem dX0_finderAt_14 : decode cX0_finderAt 14 = .ok (.getfield 19, 3) := by decide +kernel
theorem dX0_finderAt_17 : decode cX0_finderAt 17 = .ok (.iload_n 1, 1) := by decide +kernel
theorem dX0_finderAt_18 : decode cX0_finderAt 18 = .ok (.aaload, 1) := by decide +kernel
theorem dX0_finderAt_19 : decode cX0_finderAt 19 = .ok (.ifnonnull 8, 3) := by decide +kernel
theorem dX0_finderAt_22 : decode cX0_finderAt 22 = .ok (.aload_n 0, 1) := by decide +kernel
theorem dX0_finderAt_23 : decode cX0_finderAt 23 = .ok (.getfield 29, 3) := by decide +kernel
theorem dX0_finderAt_26 : decode cX0_finderAt 26 = .ok (.areturn, 1) := by decide +kernel
theorem dX0_finderAt_27 : decode cX0_finderAt 27 = .ok (.aload_n 0, 1) := by decide +kernel
theorem dX0_finderAt_28 : decode cX0_finderAt 28 = .ok (.getfield 19, 3) := by decide +kernel
theorem dX0_finderAt_31 : decode cX0_finderAt 31 = .ok (.iload_n 1, 1) := by decide +kernel
theorem dX0_finderAt_32 : decode cX0_finderAt 32 = .ok (.aaload, 1) := by decide +kernel
theorem dX0_finderAt_33 : decode cX0_finderAt 33 = .ok (.areturn, 1) := by decide +kernel
theorem dX0_settingAt_0 : decode cX0_settingAt 0 = .ok (.iload_n 1, 1) := by decide +kernel
theorem dX0_settingAt_1 : decode cX0_settingAt 1 = .ok (.ifCond .lt 21, 3) := by decide +kernel
theorem dX0_settingAt_4 : decode cX0_settingAt 4 = .ok (.iload_n 1, 1) := by decide +kernel
theorem dX0_settingAt_5 : decode cX0_settingAt 5 = .ok (.aload_n 0, 1) := by decide +kernel
theorem dX0_settingAt_6 : decode cX0_settingAt 6 = .ok (.getfield 42, 3) := by decide +kernel
theorem dX0_settingAt_9 : decode cX0_settingAt 9 = .ok (.arraylength, 1) := by decide +kernel
theorem dX0_settingAt_10 : decode cX0_settingAt 10 = .ok (.if_icmp .ge 12, 3) := by decide +kernel
theorem dX0_settingAt_13 : decode cX0_settingAt 13 = .ok (.aload_n 0, 1) := by decide +kernel
theorem dX0_settingAt_14 : decode cX0_settingAt 14 = .ok (.getfield 42, 3) := by decide +kernel
theorem dX0_settingAt_17 : decode cX0_settingAt 17 = .ok (.iload_n 1, 1) := by decide +kernel
theorem dX0_settingAt_18 : decode cX0_settingAt 18 = .ok (.iaload, 1) := by decide +kernel
theorem dX0_settingAt_19 : decode cX0_settingAt 19 = .ok (.goto 5, 3) := by decide +kernel
theorem dX0_settingAt_22 : decode cX0_settingAt 22 = .ok (.bipush (-2), 2) := by decide +kernel
theorem dX0_settingAt_24 : decode cX0_settingAt 24 = .ok (.ireturn, 1) := by decide +kernel
theorem dX0_changeSetting_0 : decode cX0_changeSetting 0 = .ok (.aload_n 0, 1) := by decide +kernel
theorem dX0_changeSetting_1 : decode cX0_changeSetting 1 = .ok (.iload_n 1, 1) := by decide +kernel
theorem dX0_changeSetting_2 : decode cX0_changeSetting 2 = .ok (.invokevirtual 79, 3) := by decide +kernel
theorem dX0_changeSetting_5 : decode cX0_changeSetting 5 = .ok (.istore_n 3, 1) := by decide +kernel
theorem dX0_changeSetting_6 : decode cX0_changeSetting 6 = .ok (.iload_n 1, 1) := by decide +kernel
theorem dX0_changeSetting_7 : decode cX0_changeSetting 7 = .ok (.ifCond .lt 19, 3) := by decide +kernel
theorem dX0_changeSetting_10 : decode cX0_changeSetting 10 = .ok (.iload_n 1, 1) := by decide +kernel
theorem dX0_changeSetting_11 : decode cX0_changeSetting 11 = .ok (.aload_n 0, 1) := by decide +kernel
theorem dX0_changeSetting_12 : decode cX0_changeSetting 12 = .ok (.getfield 42, 3) := by decide +kernel
theorem dX0_changeSetting_15 : decode cX0_changeSetting 15 = .ok (.arraylength, 1) := by decide +kernel
theorem dX0_changeSetting_16 : decode cX0_changeSetting 16 = .ok (.if_icmp .ge 10, 3) := by decide +kernel
theorem dX0_changeSetting_19 : decode cX0_changeSetting 19 = .ok (.aload_n 0, 1) := by decide +kernel
theorem dX0_changeSetting_20 : decode cX0_changeSetting 20 = .ok (.getfield 42, 3) := by decide +kernel
theorem dX0_changeSetting_23 : decode cX0_changeSetting 23 = .ok (.iload_n 1, 1) := by decide +kernel
theorem dX0_changeSetting_24 : decode cX0_changeSetting 24 = .ok (.iload_n 2, 1) := by decide +kernel
theorem dX0_changeSetting_25 : decode cX0_changeSetting 25 = .ok (.iastore, 1) := by decide +kernel
theorem dX0_changeSetting_26 : decode cX0_changeSetting 26 = .ok (.iload_n 3, 1) := by decide +kernel
theorem dX0_changeSetting_27 : decode cX0_changeSetting 27 = .ok (.ireturn, 1) := by decide +kernel
theorem dX0_renew_0 : decode cX0_renew 0 = .ok (.iconst 0, 1) := by decide +kernel
theorem dX0_renew_1 : decode cX0_renew 1 = .ok (.istore_n 3, 1) := by decide +kernel
theorem dX0_renew_2 : decode cX0_renew 2 = .ok (.iload_n 3, 1) := by decide +kernel
theorem dX0_renew_3 : decode cX0_renew 3 = .ok (.bipush 16, 2) := by decide +kernel
theorem dX0_renew_5 : decode cX0_renew 5 = .ok (.if_icmp .ge 17, 3) := by decide +kernel
theorem dX0_renew_8 : decode cX0_renew 8 = .ok (.aload_n 0, 1) := by decide +kernel
theorem dX0_renew_9 : decode cX0_renew 9 = .ok (.iload_n 3, 1) := by decide +kernel
theorem dX0_renew_10 : decode cX0_renew 10 = .ok (.invokevirtual 83, 3) := by decide +kernel
theorem dX0_renew_13 : decode cX0_renew 13 = .ok (.invokevirtual 87, 3) := by decide +kernel
theorem dX0_renew_16 : decode cX0_renew 16 = .ok (.iinc 3 1, 3) := by decide +kernel
theorem dX0_renew_19 : decode cX0_renew 19 = .ok (.goto (-17), 3) := by decide +kernel
theorem dX0_renew_22 : decode cX0_renew 22 = .ok (.iconst 0, 1) := by decide +kernel
theorem dX0_renew_23 : decode cX0_renew 23 = .ok (.istore_n 3, 1) := by decide +kernel
theorem dX0_renew_24 : decode cX0_renew 24 = .ok (.iload_n 3, 1) := by decide +kernel
theorem dX0_renew_25 : decode cX0_renew 25 = .ok (.iconst 4, 1) := by decide +kernel
theorem dX0_renew_26 : decode cX0_renew 26 = .ok (.if_icmp .ge 17, 3) := by decide +kernel
theorem dX0_renew_29 : decode cX0_renew 29 = .ok (.aload_n 0, 1) := by decide +kernel
theorem dX0_renew_30 : decode cX0_renew 30 = .ok (.iload_n 3, 1) := by decide +kernel
theorem dX0_renew_31 : decode cX0_renew 31 = .ok (.invokevirtual 90, 3) := by decide +kernel
theorem dX0_renew_34 : decode cX0_renew 34 = .ok (.invokevirtual 94, 3) := by decide +kernel
theorem dX0_renew_37 : decode cX0_renew 37 = .ok (.iinc 3 1, 3) := by decide +kernel
theorem dX0_renew_40 : decode cX0_renew 40 = .ok (.goto (-16), 3) := by decide +kernel
theorem dX0_renew_43 : decode cX0_renew 43 = .ok (.aload_n 0, 1) := by decide +kernel
theorem dX0_renew_44 : decode cX0_renew 44 = .ok (.iload_n 1, 1) := by decide +kernel
theorem dX0_renew_45 : decode cX0_renew 45 = .ok (.putfield 45, 3) := by decide +kernel
theorem dX0_renew_48 : decode cX0_renew 48 = .ok (.aload_n 0, 1) := by decide +kernel
theorem dX0_renew_49 : decode cX0_renew 49 = .ok (.iload_n 2, 1) := by decide +kernel
theorem dX0_renew_50 : decode cX0_renew 50 = .ok (.putfield 49, 3) := by decide +kernel
theorem dX0_renew_53 : decode cX0_renew 53 = .ok (.aload_n 0, 1) := by decide +kernel
theorem dX0_renew_54 : decode cX0_renew 54 = .ok (.iconst 0, 1) := by decide +kernel
theorem dX0_renew_55 : decode cX0_renew 55 = .ok (.putfield 52, 3) := by decide +kernel
theorem dX0_renew_58 : decode cX0_renew 58 = .ok (.aload_n 0, 1) := by decide +kernel
theorem dX0_renew_59 : decode cX0_renew 59 = .ok (.iconst (-1), 1) := by decide +kernel
theorem dX0_renew_60 : decode cX0_renew 60 = .ok (.putfield 55, 3) := by decide +kernel
theorem dX0_renew_63 : decode cX0_renew 63 = .ok (.aload_n 0, 1) := by decide +kernel
theorem dX0_renew_64 : decode cX0_renew 64 = .ok (.iconst 0, 1) := by decide +kernel
theorem dX0_renew_65 : decode cX0_renew 65 = .ok (.putfield 58, 3) := by decide +kernel
theorem dX0_renew_68 : decode cX0_renew 68 = .ok (.aload_n 0, 1) := by decide +kernel
theorem dX0_renew_69 : decode cX0_renew 69 = .ok (.iconst 0, 1) := by decide +kernel
theorem dX0_renew_70 : decode cX0_renew 70 = .ok (.putfield 61, 3) := by decide +kernel
theorem dX0_renew_73 : decode cX0_renew 73 = .ok (.aload_n 0, 1) := by decide +kernel
theorem dX0_renew_74 : decode cX0_renew 74 = .ok (.iconst 0, 1) := by decide +kernel
theorem dX0_renew_75 : decode cX0_renew 75 = .ok (.putfield 64, 3) := by decide +kernel
theorem dX0_renew_78 : decode cX0_renew 78 = .ok (.aload_n 0, 1) := by decide +kernel
theorem dX0_renew_79 : decode cX0_renew 79 = .ok (.iconst 0, 1) := by decide +kernel
theorem dX0_renew_80 : decode cX0_renew 80 = .ok (.putfield 67, 3) := by decide +kernel
theorem dX0_renew_83 : decode cX0_renew 83 = .ok (.aload_n 0, 1) := by decide +kernel
theorem dX0_renew_84 : decode cX0_renew 84 = .ok (.iconst 0, 1) := by decide +kernel
theorem dX0_renew_85 : decode cX0_renew 85 = .ok (.putfield 70, 3) := by decide +kernel
theorem dX0_renew_88 : decode cX0_renew 88 = .ok (.aload_n 0, 1) := by decide +kernel
theorem dX0_renew_89 : decode cX0_renew 89 = .ok (.iconst 0, 1) := by decide +kernel
theorem dX0_renew_90 : decode cX0_renew 90 = .ok (.putfield 73, 3) := by decide +kernel
theorem dX0_renew_93 : decode cX0_renew 93 = .ok (.aload_n 0, 1) := by decide +kernel
theorem dX0_renew_94 : decode cX0_renew 94 = .ok (.iconst 0, 1) := by decide +kernel
theorem dX0_renew_95 : decode cX0_renew 95 = .ok (.putfield 76, 3) := by decide +kernel
theorem dX0_renew_98 : decode cX0_renew 98 = .ok (.return_, 1) := by decide +kernel
theorem dX0_copyFrom_0 : decode cX0_copyFrom 0 = .ok (.iconst 0, 1) := by decide +kernel
theorem dX0_copyFrom_1 : decode cX0_copyFrom 1 = .ok (.istore_n 2, 1) := by decide +kernel
theorem dX0_copyFrom_2 : decode cX0_copyFrom 2 = .ok (.iload_n 2, 1) := by decide +kernel
theorem dX0_copyFrom_3 : decode cX0_copyFrom 3 = .ok (.bipush 16, 2) := by decide +kernel
theorem dX0_copyFrom_5 : decode cX0_copyFrom 5 = .ok (.if_icmp .ge 22, 3) := by decide +kernel
theorem dX0_copyFrom_8 : decode cX0_copyFrom 8 = .ok (.aload_n 0, 1) := by decide +kernel
theorem dX0_copyFrom_9 : decode cX0_copyFrom 9 = .ok (.iload_n 2, 1) := by decide +kernel
theorem dX0_copyFrom_10 : decode cX0_copyFrom 10 = .ok (.invokevirtual 83, 3) := by decide +kernel
theorem dX0_copyFrom_13 : decode cX0_copyFrom 13 = .ok (.aload_n 1, 1) := by decide +kernel
theorem dX0_copyFrom_14 : decode cX0_copyFrom 14 = .ok (.iload_n 2, 1) := by decide +kernel
theorem dX0_copyFrom_15 : decode cX0_copyFrom 15 = .ok (.invokevirtual 83, 3) := by decide +kernel
theorem dX0_copyFrom_18 : decode cX0_copyFrom 18 = .ok (.invokevirtual 95, 3) := by decide +kernel
theorem dX0_copyFrom_21 : decode cX0_copyFrom 21 = .ok (.iinc 2 1, 3) := by decide +kernel
theorem dX0_copyFrom_24 : decode cX0_copyFrom 24 = .ok (.goto (-22), 3) := by decide +kernel
theorem dX0_copyFrom_27 : decode cX0_copyFrom 27 = .ok (.iconst 0, 1) := by decide +kernel
theorem dX0_copyFrom_28 : decode cX0_copyFrom 28 = .ok (.istore_n 2, 1) := by decide +kernel
theorem dX0_copyFrom_29 : decode cX0_copyFrom 29 = .ok (.iload_n 2, 1) := by decide +kernel
theorem dX0_copyFrom_30 : decode cX0_copyFrom 30 = .ok (.iconst 4, 1) := by decide +kernel
theorem dX0_copyFrom_31 : decode cX0_copyFrom 31 = .ok (.if_icmp .ge 22, 3) := by decide +kernel
theorem dX0_copyFrom_34 : decode cX0_copyFrom 34 = .ok (.aload_n 0, 1) := by decide +kernel
theorem dX0_copyFrom_35 : decode cX0_copyFrom 35 = .ok (.iload_n 2, 1) := by decide +kernel
theorem dX0_copyFrom_36 : decode cX0_copyFrom 36 = .ok (.invokevirtual 90, 3) := by decide +kernel
theorem dX0_copyFrom_39 : decode cX0_copyFrom 39 = .ok (.aload_n 1, 1) := by decide +kernel
theorem dX0_copyFrom_40 : decode cX0_copyFrom 40 = .ok (.iload_n 2, 1) := by decide +kernel
theorem dX0_copyFrom_41 : decode cX0_copyFrom 41 = .ok (.invokevirtual 90, 3) := by decide +kernel
theorem dX0_copyFrom_44 : decode cX0_copyFrom 44 = .ok (.invokevirtual 99, 3) := by decide +kernel
theorem dX0_copyFrom_47 : decode cX0_copyFrom 47 = .ok (.iinc 2 1, 3) := by decide +kernel
theorem dX0_copyFrom_50 : decode cX0_copyFrom 50 = .ok (.goto (-21), 3) := by decide +kernel
theorem dX0_copyFrom_53 : decode cX0_copyFrom 53 = .ok (.iconst 0, 1) := by decide +kernel
theorem dX0_copyFrom_54 : decode cX0_copyFrom 54 = .ok (.istore_n 2, 1) := by decide +kernel
theorem dX0_copyFrom_55 : decode cX0_copyFrom 55 = .ok (.iload_n 2, 1) := by decide +kernel
theorem dX0_copyFrom_56 : decode cX0_copyFrom 56 = .ok (.aload_n 0, 1) := by decide +kernel
theorem dX0_copyFrom_57 : decode cX0_copyFrom 57 = .ok (.getfield 42, 3) := by decide +kernel
theorem dX0_copyFrom_60 : decode cX0_copyFrom 60 = .ok (.arraylength, 1) := by decide +kernel
theorem dX0_copyFrom_61 : decode cX0_copyFrom 61 = .ok (.if_icmp .ge 20, 3) := by decide +kernel
theorem dX0_copyFrom_64 : decode cX0_copyFrom 64 = .ok (.aload_n 0, 1) := by decide +kernel
theorem dX0_copyFrom_65 : decode cX0_copyFrom 65 = .ok (.getfield 42, 3) := by decide +kernel
theorem dX0_copyFrom_68 : decode cX0_copyFrom 68 = .ok (.iload_n 2, 1) := by decide +kernel
theorem dX0_copyFrom_69 : decode cX0_copyFrom 69 = .ok (.aload_n 1, 1) := by decide +kernel
theorem dX0_copyFrom_70 : decode cX0_copyFrom 70 = .ok (.iload_n 2, 1) := by decide +kernel
theorem dX0_copyFrom_71 : decode cX0_copyFrom 71 = .ok (.invokevirtual 79, 3) := by decide +kernel
theorem dX0_copyFrom_74 : decode cX0_copyFrom 74 = .ok (.iastore, 1) := by decide +kernel
theorem dX0_copyFrom_75 : decode cX0_copyFrom 75 = .ok (.iinc 2 1, 3) := by decide +kernel
theorem dX0_copyFrom_78 : decode cX0_copyFrom 78 = .ok (.goto (-23), 3) := by decide +kernel
theorem dX0_copyFrom_81 : decode cX0_copyFrom 81 = .ok (.aload_n 0, 1) := by decide +kernel
theorem dX0_copyFrom_82 : decode cX0_copyFrom 82 = .ok (.aload_n 1, 1) := by decide +kernel
theorem dX0_copyFrom_83 : decode cX0_copyFrom 83 = .ok (.getfield 45, 3) := by decide +kernel
theorem dX0_copyFrom_86 : decode cX0_copyFrom 86 = .ok (.putfield 45, 3) := by decide +kernel
theorem dX0_copyFrom_89 : decode cX0_copyFrom 89 = .ok (.aload_n 0, 1) := by decide +kernel
theorem dX0_copyFrom_90 : decode cX0_copyFrom 90 = .ok (.aload_n 1, 1) := by decide +kernel
theorem dX0_copyFrom_91 : decode cX0_copyFrom 91 = .ok (.getfield 49, 3) := by decide +kernel
theorem dX0_copyFrom_94 : decode cX0_copyFrom 94 = .ok (.putfield 49, 3) := by decide +kernel
theorem dX0_copyFrom_97 : decode cX0_copyFrom 97 = .ok (.aload_n 0, 1) := by decide +kernel
theorem dX0_copyFrom_98 : decode cX0_copyFrom 98 = .ok (.aload_n 1, 1) := by decide +kernel
theorem dX0_copyFrom_99 : decode cX0_copyFrom 99 = .ok (.getfield 52, 3) := by decide +kernel
theorem dX0_copyFrom_102 : decode cX0_copyFrom 102 = .ok (.putfield 52, 3) := by decide +kernel
theorem dX0_copyFrom_105 : decode cX0_copyFrom 105 = .ok (.aload_n 0, 1) := by decide +kernel
theorem dX0_copyFrom_106 : decode cX0_copyFrom 106 = .ok (.aload_n 1, 1) := by decide +kernel
theorem dX0_copyFrom_107 : decode cX0_copyFrom 107 = .ok (.getfield 55, 3) := by decide +kernel
theorem dX0_copyFrom_110 : decode cX0_copyFrom 110 = .ok (.putfield 55, 3) := by decide +kernel
theorem dX0_copyFrom_113 : decode cX0_copyFrom 113 = .ok (.aload_n 0, 1) := by decide +kernel
theorem dX0_copyFrom_114 : decode cX0_copyFrom 114 = .ok (.aload_n 1, 1) := by decide +kernel
theorem dX0_copyFrom_115 : decode cX0_copyFrom 115 = .ok (.getfield 58, 3) := by decide +kernel
theorem dX0_copyFrom_118 : decode cX0_copyFrom 118 = .ok (.putfield 58, 3) := by decide +kernel
theorem dX0_copyFrom_121 : decode cX0_copyFrom 121 = .ok (.aload_n 0, 1) := by decide +kernel
theorem dX0_copyFrom_122 : decode cX0_copyFrom 122 = .ok (.aload_n 1, 1) := by decide +kernel
theorem dX0_copyFrom_123 : decode cX0_copyFrom 123 = .ok (.getfield 61, 3) := by decide +kernel
theorem dX0_copyFrom_126 : decode cX0_copyFrom 126 = .ok (.putfield 61, 3) := by decide +kernel
theorem dX0_copyFrom_129 : decode cX0_copyFrom 129 = .ok (.aload_n 0, 1) := by decide +kernel
theorem dX0_copyFrom_130 : decode cX0_copyFrom 130 = .ok (.aload_n 1, 1) := by decide +kernel
theorem dX0_copyFrom_131 : decode cX0_copyFrom 131 = .ok (.getfield 64, 3) := by decide +kernel
theorem dX0_copyFrom_134 : decode cX0_copyFrom 134 = .ok (.putfield 64, 3) := by decide +kernel
theorem dX0_copyFrom_137 : decode cX0_copyFrom 137 = .ok (.aload_n 0, 1) := by decide +kernel
theorem dX0_copyFrom_138 : decode cX0_copyFrom 138 = .ok (.aload_n 1, 1) := by decide +kernel
theorem dX0_copyFrom_139 : decode cX0_copyFrom 139 = .ok (.getfield 67, 3) := by decide +kernel
theorem dX0_copyFrom_142 : decode cX0_copyFrom 142 = .ok (.putfield 67, 3) := by decide +kernel
theorem dX0_copyFrom_145 : decode cX0_copyFrom 145 = .ok (.aload_n 0, 1) := by decide +kernel
theorem dX0_copyFrom_146 : decode cX0_copyFrom 146 = .ok (.aload_n 1, 1) := by decide +kernel
theorem dX0_copyFrom_147 : decode cX0_copyFrom 147 = .ok (.getfield 70, 3) := by decide +kernel
theorem dX0_copyFrom_150 : decode cX0_copyFrom 150 = .ok (.putfield 70, 3) := by decide +kernel
theorem dX0_copyFrom_153 : decode cX0_copyFrom 153 = .ok (.aload_n 0, 1) := by decide +kernel
theorem dX0_copyFrom_154 : decode cX0_copyFrom 154 = .ok (.aload_n 1, 1) := by decide +kernel
theorem dX0_copyFrom_155 : decode cX0_copyFrom 155 = .ok (.getfield 73, 3) := by decide +kernel
theorem dX0_copyFrom_158 : decode cX0_copyFrom 158 = .ok (.putfield 73, 3) := by decide +kernel
theorem dX0_copyFrom_161 : decode cX0_copyFrom 161 = .ok (.aload_n 0, 1) := by decide +kernel
theorem dX0_copyFrom_162 : decode cX0_copyFrom 162 = .ok (.aload_n 1, 1) := by decide +kernel
theorem dX0_copyFrom_163 : decode cX0_copyFrom 163 = .ok (.getfield 76, 3) := by decide +kernel
theorem dX0_copyFrom_166 : decode cX0_copyFrom 166 = .ok (.putfield 76, 3) := by decide +kernel
theorem dX0_copyFrom_169 : decode cX0_copyFrom 169 = .ok (.return_, 1) := by decide +kernel
theorem dX0_liftLine_0 : decode cX0_liftLine 0 = .ok (.aload_n 0, 1) := by decide +kernel
theorem dX0_liftLine_1 : decode cX0_liftLine 1 = .ok (.iload_n 1, 1) := by decide +kernel
theorem dX0_liftLine_2 : decode cX0_liftLine 2 = .ok (.invokevirtual 83, 3) := by decide +kernel
theorem dX0_liftLine_5 : decode cX0_liftLine 5 = .ok (.astore_n 2, 1) := by decide +kernel
theorem dX0_liftLine_6 : decode cX0_liftLine 6 = .ok (.aload_n 2, 1) := by decide +kernel
theorem dX0_liftLine_7 : decode cX0_liftLine 7 = .ok (.getfield 102, 3) := by decide +kernel
theorem dX0_liftLine_10 : decode cX0_liftLine 10 = .ok (.ifCond .eq 6, 3) := by decide +kernel
theorem dX0_liftLine_13 : decode cX0_liftLine 13 = .ok (.bipush (-5), 2) := by decide +kernel
theorem dX0_liftLine_15 : decode cX0_liftLine 15 = .ok (.ireturn, 1) := by decide +kernel
theorem dX0_liftLine_16 : decode cX0_liftLine 16 = .ok (.aload_n 2, 1) := by decide +kernel
theorem dX0_liftLine_17 : decode cX0_liftLine 17 = .ok (.iconst 1, 1) := by decide +kernel
theorem dX0_liftLine_18 : decode cX0_liftLine 18 = .ok (.putfield 102, 3) := by decide +kernel
theorem dX0_liftLine_21 : decode cX0_liftLine 21 = .ok (.aload_n 2, 1) := by decide +kernel
theorem dX0_liftLine_22 : decode cX0_liftLine 22 = .ok (.getfield 106, 3) := by decide +kernel
theorem dX0_liftLine_25 : decode cX0_liftLine 25 = .ok (.ifCond .ne 31, 3) := by decide +kernel
theorem dX0_liftLine_28 : decode cX0_liftLine 28 = .ok (.aload_n 2, 1) := by decide +kernel
theorem dX0_liftLine_29 : decode cX0_liftLine 29 = .ok (.iconst 1, 1) := by decide +kernel
theorem dX0_liftLine_30 : decode cX0_liftLine 30 = .ok (.putfield 106, 3) := by decide +kernel
theorem dX0_liftLine_33 : decode cX0_liftLine 33 = .ok (.aload_n 2, 1) := by decide +kernel
theorem dX0_liftLine_34 : decode cX0_liftLine 34 = .ok (.iconst 0, 1) := by decide +kernel
theorem dX0_liftLine_35 : decode cX0_liftLine 35 = .ok (.putfield 109, 3) := by decide +kernel
theorem dX0_liftLine_38 : decode cX0_liftLine 38 = .ok (.aload_n 0, 1) := by decide +kernel
theorem dX0_liftLine_39 : decode cX0_liftLine 39 = .ok (.dup, 1) := by decide +kernel
theorem dX0_liftLine_40 : decode cX0_liftLine 40 = .ok (.getfield 58, 3) := by decide +kernel
theorem dX0_liftLine_43 : decode cX0_liftLine 43 = .ok (.iconst 1, 1) := by decide +kernel
theorem dX0_liftLine_44 : decode cX0_liftLine 44 = .ok (.iadd, 1) := by decide +kernel
theorem dX0_liftLine_45 : decode cX0_liftLine 45 = .ok (.putfield 58, 3) := by decide +kernel
theorem dX0_liftLine_48 : decode cX0_liftLine 48 = .ok (.aload_n 2, 1) := by decide +kernel
theorem dX0_liftLine_49 : decode cX0_liftLine 49 = .ok (.aload_n 0, 1) := by decide +kernel
theorem dX0_liftLine_50 : decode cX0_liftLine 50 = .ok (.getfield 58, 3) := by decide +kernel
theorem dX0_liftLine_53 : decode cX0_liftLine 53 = .ok (.putfield 112, 3) := by decide +kernel
theorem dX0_liftLine_56 : decode cX0_liftLine 56 = .ok (.aload_n 2, 1) := by decide +kernel
theorem dX0_liftLine_57 : decode cX0_liftLine 57 = .ok (.getfield 106, 3) := by decide +kernel
theorem dX0_liftLine_60 : decode cX0_liftLine 60 = .ok (.ireturn, 1) := by decide +kernel
theorem dX0_hangLine_0 : decode cX0_hangLine 0 = .ok (.aload_n 0, 1) := by decide +kernel
theorem dX0_hangLine_1 : decode cX0_hangLine 1 = .ok (.iload_n 1, 1) := by decide +kernel
theorem dX0_hangLine_2 : decode cX0_hangLine 2 = .ok (.invokevirtual 83, 3) := by decide +kernel
theorem dX0_hangLine_5 : decode cX0_hangLine 5 = .ok (.astore_n 2, 1) := by decide +kernel
theorem dX0_hangLine_6 : decode cX0_hangLine 6 = .ok (.aload_n 2, 1) := by decide +kernel
theorem dX0_hangLine_7 : decode cX0_hangLine 7 = .ok (.getfield 102, 3) := by decide +kernel
theorem dX0_hangLine_10 : decode cX0_hangLine 10 = .ok (.ifCond .ne 6, 3) := by decide +kernel
theorem dX0_hangLine_13 : decode cX0_hangLine 13 = .ok (.bipush (-5), 2) := by decide +kernel
theorem dX0_hangLine_15 : decode cX0_hangLine 15 = .ok (.ireturn, 1) := by decide +kernel
theorem dX0_hangLine_16 : decode cX0_hangLine 16 = .ok (.aload_n 2, 1) := by decide +kernel
theorem dX0_hangLine_17 : decode cX0_hangLine 17 = .ok (.getfield 106, 3) := by decide +kernel
theorem dX0_hangLine_20 : decode cX0_hangLine 20 = .ok (.istore_n 3, 1) := by decide +kernel
theorem dX0_hangLine_21 : decode cX0_hangLine 21 = .ok (.aload_n 2, 1) := by decide +kernel
theorem dX0_hangLine_22 : decode cX0_hangLine 22 = .ok (.iconst 0, 1) := by decide +kernel
theorem dX0_hangLine_23 : decode cX0_hangLine 23 = .ok (.putfield 102, 3) := by decide +kernel
theorem dX0_hangLine_26 : decode cX0_hangLine 26 = .ok (.aload_n 2, 1) := by decide +kernel
theorem dX0_hangLine_27 : decode cX0_hangLine 27 = .ok (.invokevirtual 115, 3) := by decide +kernel
theorem dX0_hangLine_30 : decode cX0_hangLine 30 = .ok (.ifCond .ne 29, 3) := by decide +kernel
theorem dX0_hangLine_33 : decode cX0_hangLine 33 = .ok (.aload_n 2, 1) := by decide +kernel
theorem dX0_hangLine_34 : decode cX0_hangLine 34 = .ok (.getfield 119, 3) := by decide +kernel
theorem dX0_hangLine_37 : decode cX0_hangLine 37 = .ok (.bipush (-6), 2) := by decide +kernel
theorem dX0_hangLine_39 : decode cX0_hangLine 39 = .ok (.if_icmp .eq 15, 3) := by decide +kernel
theorem dX0_hangLine_42 : decode cX0_hangLine 42 = .ok (.aload_n 0, 1) := by decide +kernel
theorem dX0_hangLine_43 : decode cX0_hangLine 43 = .ok (.aload_n 0, 1) := by decide +kernel
theorem dX0_hangLine_44 : decode cX0_hangLine 44 = .ok (.aload_n 2, 1) := by decide +kernel
theorem dX0_hangLine_45 : decode cX0_hangLine 45 = .ok (.getfield 119, 3) := by decide +kernel
theorem dX0_hangLine_48 : decode cX0_hangLine 48 = .ok (.invokevirtual 90, 3) := by decide +kernel
theorem dX0_hangLine_51 : decode cX0_hangLine 51 = .ok (.invokevirtual 122, 3) := by decide +kernel
theorem dX0_hangLine_54 : decode cX0_hangLine 54 = .ok (.aload_n 2, 1) := by decide +kernel
theorem dX0_hangLine_55 : decode cX0_hangLine 55 = .ok (.iconst 0, 1) := by decide +kernel
theorem dX0_hangLine_56 : decode cX0_hangLine 56 = .ok (.invokevirtual 125, 3) := by decide +kernel
theorem dX0_hangLine_59 : decode cX0_hangLine 59 = .ok (.iload_n 3, 1) := by decide +kernel
theorem dX0_hangLine_60 : decode cX0_hangLine 60 = .ok (.ireturn, 1) := by decide +kernel
theorem dX0_release_0 : decode cX0_release 0 = .ok (.aload_n 0, 1) := by decide +kernel
theorem dX0_release_1 : decode cX0_release 1 = .ok (.aload_n 1, 1) := by decide +kernel
theorem dX0_release_2 : decode cX0_release 2 = .ok (.getfield 129, 3) := by decide +kernel
theorem dX0_release_5 : decode cX0_release 5 = .ok (.invokevirtual 83, 3) := by decide +kernel
theorem dX0_release_8 : decode cX0_release 8 = .ok (.astore_n 2, 1) := by decide +kernel
theorem dX0_release_9 : decode cX0_release 9 = .ok (.aload_n 2, 1) := by decide +kernel
theorem dX0_release_10 : decode cX0_release 10 = .ok (.invokevirtual 115, 3) := by decide +kernel
theorem dX0_release_13 : decode cX0_release 13 = .ok (.ifCond .eq 25, 3) := by decide +kernel
theorem dX0_release_16 : decode cX0_release 16 = .ok (.aload_n 2, 1) := by decide +kernel
theorem dX0_release_17 : decode cX0_release 17 = .ok (.getfield 102, 3) := by decide +kernel
theorem dX0_release_20 : decode cX0_release 20 = .ok (.ifCond .eq 18, 3) := by decide +kernel
theorem dX0_release_23 : decode cX0_release 23 = .ok (.aload_n 2, 1) := by decide +kernel
theorem dX0_release_24 : decode cX0_release 24 = .ok (.bipush 6, 2) := by decide +kernel
theorem dX0_release_26 : decode cX0_release 26 = .ok (.putfield 109, 3) := by decide +kernel
theorem dX0_release_29 : decode cX0_release 29 = .ok (.aload_n 2, 1) := by decide +kernel
theorem dX0_release_30 : decode cX0_release 30 = .ok (.bipush 10, 2) := by decide +kernel
theorem dX0_release_32 : decode cX0_release 32 = .ok (.invokevirtual 125, 3) := by decide +kernel
theorem dX0_release_35 : decode cX0_release 35 = .ok (.goto 15, 3) := by decide +kernel
theorem dX0_release_38 : decode cX0_release 38 = .ok (.aload_n 2, 1) := by decide +kernel
theorem dX0_release_39 : decode cX0_release 39 = .ok (.invokevirtual 115, 3) := by decide +kernel
theorem dX0_release_42 : decode cX0_release 42 = .ok (.ifCond .eq 8, 3) := by decide +kernel
theorem dX0_release_45 : decode cX0_release 45 = .ok (.aload_n 2, 1) := by decide +kernel
theorem dX0_release_46 : decode cX0_release 46 = .ok (.iconst 0, 1) := by decide +kernel
theorem dX0_release_47 : decode cX0_release 47 = .ok (.invokevirtual 125, 3) := by decide +kernel
theorem dX0_release_50 : decode cX0_release 50 = .ok (.aload_n 1, 1) := by decide +kernel
theorem dX0_release_51 : decode cX0_release 51 = .ok (.invokevirtual 132, 3) := by decide +kernel
theorem dX0_release_54 : decode cX0_release 54 = .ok (.return_, 1) := by decide +kernel
theorem dX0_dialDigit_0 : decode cX0_dialDigit 0 = .ok (.aload_n 0, 1) := by decide +kernel
theorem dX0_dialDigit_1 : decode cX0_dialDigit 1 = .ok (.iload_n 1, 1) := by decide +kernel
theorem dX0_dialDigit_2 : decode cX0_dialDigit 2 = .ok (.invokevirtual 83, 3) := by decide +kernel
theorem dX0_dialDigit_5 : decode cX0_dialDigit 5 = .ok (.astore_n 3, 1) := by decide +kernel
theorem dX0_dialDigit_6 : decode cX0_dialDigit 6 = .ok (.aload_n 3, 1) := by decide +kernel
theorem dX0_dialDigit_7 : decode cX0_dialDigit 7 = .ok (.getfield 106, 3) := by decide +kernel
theorem dX0_dialDigit_10 : decode cX0_dialDigit 10 = .ok (.iconst 2, 1) := by decide +kernel
theorem dX0_dialDigit_11 : decode cX0_dialDigit 11 = .ok (.if_icmp .eq 14, 3) := by decide +kernel
theorem dX0_dialDigit_14 : decode cX0_dialDigit 14 = .ok (.aload_n 3, 1) := by decide +kernel
theorem dX0_dialDigit_15 : decode cX0_dialDigit 15 = .ok (.getfield 106, 3) := by decide +kernel
theorem dX0_dialDigit_18 : decode cX0_dialDigit 18 = .ok (.iconst 3, 1) := by decide +kernel
theorem dX0_dialDigit_19 : decode cX0_dialDigit 19 = .ok (.if_icmp .eq 6, 3) := by decide +kernel
theorem dX0_dialDigit_22 : decode cX0_dialDigit 22 = .ok (.bipush (-5), 2) := by decide +kernel
theorem dX0_dialDigit_24 : decode cX0_dialDigit 24 = .ok (.ireturn, 1) := by decide +kernel
theorem dX0_dialDigit_25 : decode cX0_dialDigit 25 = .ok (.aload_n 3, 1) := by decide +kernel
theorem dX0_dialDigit_26 : decode cX0_dialDigit 26 = .ok (.getfield 135, 3) := by decide +kernel
theorem dX0_dialDigit_29 : decode cX0_dialDigit 29 = .ok (.iconst 4, 1) := by decide +kernel
theorem dX0_dialDigit_30 : decode cX0_dialDigit 30 = .ok (.if_icmp .lt 6, 3) := by decide +kernel
theorem dX0_dialDigit_33 : decode cX0_dialDigit 33 = .ok (.bipush (-4), 2) := by decide +kernel
theorem dX0_dialDigit_35 : decode cX0_dialDigit 35 = .ok (.ireturn, 1) := by decide +kernel
theorem dX0_dialDigit_36 : decode cX0_dialDigit 36 = .ok (.aload_n 3, 1) := by decide +kernel
theorem dX0_dialDigit_37 : decode cX0_dialDigit 37 = .ok (.iload_n 2, 1) := by decide +kernel
theorem dX0_dialDigit_38 : decode cX0_dialDigit 38 = .ok (.invokevirtual 138, 3) := by decide +kernel
theorem dX0_dialDigit_41 : decode cX0_dialDigit 41 = .ok (.aload_n 3, 1) := by decide +kernel
theorem dX0_dialDigit_42 : decode cX0_dialDigit 42 = .ok (.getfield 135, 3) := by decide +kernel
theorem dX0_dialDigit_45 : decode cX0_dialDigit 45 = .ok (.ireturn, 1) := by decide +kernel
theorem dX0_hasTimeFor_0 : decode cX0_hasTimeFor 0 = .ok (.aload_n 0, 1) := by decide +kernel
theorem dX0_hasTimeFor_1 : decode cX0_hasTimeFor 1 = .ok (.getfield 52, 3) := by decide +kernel
theorem dX0_hasTimeFor_4 : decode cX0_hasTimeFor 4 = .ok (.iload_n 1, 1) := by decide +kernel
theorem dX0_hasTimeFor_5 : decode cX0_hasTimeFor 5 = .ok (.iadd, 1) := by decide +kernel
theorem dX0_hasTimeFor_6 : decode cX0_hasTimeFor 6 = .ok (.ldc 141, 2) := by decide +kernel
theorem dX0_hasTimeFor_8 : decode cX0_hasTimeFor 8 = .ok (.if_icmp .gt 7, 3) := by decide +kernel
theorem dX0_hasTimeFor_11 : decode cX0_hasTimeFor 11 = .ok (.iconst 1, 1) := by decide +kernel
theorem dX0_hasTimeFor_12 : decode cX0_hasTimeFor 12 = .ok (.goto 4, 3) := by decide +kernel
theorem dX0_hasTimeFor_15 : decode cX0_hasTimeFor 15 = .ok (.iconst 0, 1) := by decide +kernel
theorem dX0_hasTimeFor_16 : decode cX0_hasTimeFor 16 = .ok (.ireturn, 1) := by decide +kernel
theorem dX0_pass_0 : decode cX0_pass 0 = .ok (.iconst 0, 1) := by decide +kernel
theorem dX0_pass_1 : decode cX0_pass 1 = .ok (.istore_n 2, 1) := by decide +kernel
theorem dX0_pass_2 : decode cX0_pass 2 = .ok (.iload_n 2, 1) := by decide +kernel
theorem dX0_pass_3 : decode cX0_pass 3 = .ok (.iload_n 1, 1) := by decide +kernel
theorem dX0_pass_4 : decode cX0_pass 4 = .ok (.if_icmp .ge 52, 3) := by decide +kernel
theorem dX0_pass_7 : decode cX0_pass 7 = .ok (.iconst 0, 1) := by decide +kernel
theorem dX0_pass_8 : decode cX0_pass 8 = .ok (.istore_n 3, 1) := by decide +kernel
theorem dX0_pass_9 : decode cX0_pass 9 = .ok (.iload_n 3, 1) := by decide +kernel
theorem dX0_pass_10 : decode cX0_pass 10 = .ok (.aload_n 0, 1) := by decide +kernel
theorem dX0_pass_11 : decode cX0_pass 11 = .ok (.getfield 45, 3) := by decide +kernel
theorem dX0_pass_14 : decode cX0_pass 14 = .ok (.if_icmp .ge 18, 3) := by decide +kernel
theorem dX0_pass_17 : decode cX0_pass 17 = .ok (.aload_n 0, 1) := by decide +kernel
theorem dX0_pass_18 : decode cX0_pass 18 = .ok (.aload_n 0, 1) := by decide +kernel
theorem dX0_pass_19 : decode cX0_pass 19 = .ok (.iload_n 3, 1) := by decide +kernel
theorem dX0_pass_20 : decode cX0_pass 20 = .ok (.invokevirtual 90, 3) := by decide +kernel
theorem dX0_pass_23 : decode cX0_pass 23 = .ok (.invokevirtual 142, 3) := by decide +kernel
theorem dX0_pass_26 : decode cX0_pass 26 = .ok (.iinc 3 1, 3) := by decide +kernel
theorem dX0_pass_29 : decode cX0_pass 29 = .ok (.goto (-20), 3) := by decide +kernel
theorem dX0_pass_32 : decode cX0_pass 32 = .ok (.aload_n 0, 1) := by decide +kernel
theorem dX0_pass_33 : decode cX0_pass 33 = .ok (.invokevirtual 145, 3) := by decide +kernel
theorem dX0_pass_36 : decode cX0_pass 36 = .ok (.aload_n 0, 1) := by decide +kernel
theorem dX0_pass_37 : decode cX0_pass 37 = .ok (.invokevirtual 148, 3) := by decide +kernel
theorem dX0_pass_40 : decode cX0_pass 40 = .ok (.aload_n 0, 1) := by decide +kernel
theorem dX0_pass_41 : decode cX0_pass 41 = .ok (.dup, 1) := by decide +kernel
theorem dX0_pass_42 : decode cX0_pass 42 = .ok (.getfield 52, 3) := by decide +kernel
theorem dX0_pass_45 : decode cX0_pass 45 = .ok (.iconst 1, 1) := by decide +kernel
theorem dX0_pass_46 : decode cX0_pass 46 = .ok (.iadd, 1) := by decide +kernel
theorem dX0_pass_47 : decode cX0_pass 47 = .ok (.putfield 52, 3) := by decide +kernel
theorem dX0_pass_50 : decode cX0_pass 50 = .ok (.iinc 2 1, 3) := by decide +kernel
theorem dX0_pass_53 : decode cX0_pass 53 = .ok (.goto (-51), 3) := by decide +kernel
theorem dX0_pass_56 : decode cX0_pass 56 = .ok (.return_, 1) := by decide +kernel
theorem dX0_takeStep_0 : decode cX0_takeStep 0 = .ok (.aload_n 0, 1) := by decide +kernel
theorem dX0_takeStep_1 : decode cX0_takeStep 1 = .ok (.aload_n 1, 1) := by decide +kernel
theorem dX0_takeStep_2 : decode cX0_takeStep 2 = .ok (.getfield 151, 3) := by decide +kernel
theorem dX0_takeStep_5 : decode cX0_takeStep 5 = .ok (.invokevirtual 83, 3) := by decide +kernel
theorem dX0_takeStep_8 : decode cX0_takeStep 8 = .ok (.astore_n 2, 1) := by decide +kernel
theorem dX0_takeStep_9 : decode cX0_takeStep 9 = .ok (.aload_n 1, 1) := by decide +kernel
theorem dX0_takeStep_10 : decode cX0_takeStep 10 = .ok (.getfield 154, 3) := by decide +kernel
theorem dX0_takeStep_13 : decode cX0_takeStep 13 = .ok (.tableswitch 135 1 9 #[51, 60, 70, 79, 88, 99, 108, 117, 126], 51) := by decide +kernel
theorem dX0_takeStep_64 : decode cX0_takeStep 64 = .ok (.aload_n 0, 1) := by decide +kernel
theorem dX0_takeStep_65 : decode cX0_takeStep 65 = .ok (.aload_n 1, 1) := by decide +kernel
theorem dX0_takeStep_66 : decode cX0_takeStep 66 = .ok (.aload_n 2, 1) := by decide +kernel
theorem dX0_takeStep_67 : decode cX0_takeStep 67 = .ok (.invokevirtual 155, 3) := by decide +kernel
theorem dX0_takeStep_70 : decode cX0_takeStep 70 = .ok (.goto 78, 3) := by decide +kernel
theorem dX0_takeStep_73 : decode cX0_takeStep 73 = .ok (.aload_n 0, 1) := by decide +kernel
theorem dX0_takeStep_74 : decode cX0_takeStep 74 = .ok (.aload_n 1, 1) := by decide +kernel
theorem dX0_takeStep_75 : decode cX0_takeStep 75 = .ok (.aload_n 2, 1) := by decide +kernel
theorem dX0_takeStep_76 : decode cX0_takeStep 76 = .ok (.iconst 3, 1) := by decide +kernel
theorem dX0_takeStep_77 : decode cX0_takeStep 77 = .ok (.invokevirtual 159, 3) := by decide +kernel
theorem dX0_takeStep_80 : decode cX0_takeStep 80 = .ok (.goto 68, 3) := by decide +kernel
theorem dX0_takeStep_83 : decode cX0_takeStep 83 = .ok (.aload_n 0, 1) := by decide +kernel
theorem dX0_takeStep_84 : decode cX0_takeStep 84 = .ok (.aload_n 1, 1) := by decide +kernel
theorem dX0_takeStep_85 : decode cX0_takeStep 85 = .ok (.aload_n 2, 1) := by decide +kernel
theorem dX0_takeStep_86 : decode cX0_takeStep 86 = .ok (.invokevirtual 163, 3) := by decide +kernel
theorem dX0_takeStep_89 : decode cX0_takeStep 89 = .ok (.goto 59, 3) := by decide +kernel
theorem dX0_takeStep_92 : decode cX0_takeStep 92 = .ok (.aload_n 0, 1) := by decide +kernel
theorem dX0_takeStep_93 : decode cX0_takeStep 93 = .ok (.aload_n 1, 1) := by decide +kernel
theorem dX0_takeStep_94 : decode cX0_takeStep 94 = .ok (.aload_n 2, 1) := by decide +kernel
theorem dX0_takeStep_95 : decode cX0_takeStep 95 = .ok (.invokevirtual 166, 3) := by decide +kernel
theorem dX0_takeStep_98 : decode cX0_takeStep 98 = .ok (.goto 50, 3) := by decide +kernel
theorem dX0_takeStep_101 : decode cX0_takeStep 101 = .ok (.aload_n 0, 1) := by decide +kernel
theorem dX0_takeStep_102 : decode cX0_takeStep 102 = .ok (.aload_n 1, 1) := by decide +kernel
theorem dX0_takeStep_103 : decode cX0_takeStep 103 = .ok (.aload_n 2, 1) := by decide +kernel
theorem dX0_takeStep_104 : decode cX0_takeStep 104 = .ok (.bipush 6, 2) := by decide +kernel
theorem dX0_takeStep_106 : decode cX0_takeStep 106 = .ok (.invokevirtual 159, 3) := by decide +kernel
theorem dX0_takeStep_109 : decode cX0_takeStep 109 = .ok (.goto 39, 3) := by decide +kernel
theorem dX0_takeStep_112 : decode cX0_takeStep 112 = .ok (.aload_n 0, 1) := by decide +kernel
theorem dX0_takeStep_113 : decode cX0_takeStep 113 = .ok (.aload_n 1, 1) := by decide +kernel
theorem dX0_takeStep_114 : decode cX0_takeStep 114 = .ok (.aload_n 2, 1) := by decide +kernel
theorem dX0_takeStep_115 : decode cX0_takeStep 115 = .ok (.invokevirtual 169, 3) := by decide +kernel
theorem dX0_takeStep_118 : decode cX0_takeStep 118 = .ok (.goto 30, 3) := by decide +kernel
theorem dX0_takeStep_121 : decode cX0_takeStep 121 = .ok (.aload_n 0, 1) := by decide +kernel
theorem dX0_takeStep_122 : decode cX0_takeStep 122 = .ok (.aload_n 1, 1) := by decide +kernel
theorem dX0_takeStep_123 : decode cX0_takeStep 123 = .ok (.aload_n 2, 1) := by decide +kernel
theorem dX0_takeStep_124 : decode cX0_takeStep 124 = .ok (.invokevirtual 172, 3) := by decide +kernel
theorem dX0_takeStep_127 : decode cX0_takeStep 127 = .ok (.goto 21, 3) := by decide +kernel
theorem dX0_takeStep_130 : decode cX0_takeStep 130 = .ok (.aload_n 0, 1) := by decide +kernel
theorem dX0_takeStep_131 : decode cX0_takeStep 131 = .ok (.aload_n 1, 1) := by decide +kernel
theorem dX0_takeStep_132 : decode cX0_takeStep 132 = .ok (.aload_n 2, 1) := by decide +kernel
theorem dX0_takeStep_133 : decode cX0_takeStep 133 = .ok (.invokevirtual 175, 3) := by decide +kernel
theorem dX0_takeStep_136 : decode cX0_takeStep 136 = .ok (.goto 12, 3) := by decide +kernel
theorem dX0_takeStep_139 : decode cX0_takeStep 139 = .ok (.aload_n 0, 1) := by decide +kernel
theorem dX0_takeStep_140 : decode cX0_takeStep 140 = .ok (.aload_n 1, 1) := by decide +kernel
theorem dX0_takeStep_141 : decode cX0_takeStep 141 = .ok (.aload_n 2, 1) := by decide +kernel
theorem dX0_takeStep_142 : decode cX0_takeStep 142 = .ok (.invokevirtual 178, 3) := by decide +kernel
theorem dX0_takeStep_145 : decode cX0_takeStep 145 = .ok (.goto 3, 3) := by decide +kernel
theorem dX0_takeStep_148 : decode cX0_takeStep 148 = .ok (.return_, 1) := by decide +kernel
theorem dX0_seek_0 : decode cX0_seek 0 = .ok (.aload_n 1, 1) := by decide +kernel
theorem dX0_seek_1 : decode cX0_seek 1 = .ok (.getfield 181, 3) := by decide +kernel
theorem dX0_seek_4 : decode cX0_seek 4 = .ok (.aload_n 1, 1) := by decide +kernel
theorem dX0_seek_5 : decode cX0_seek 5 = .ok (.getfield 151, 3) := by decide +kernel
theorem dX0_seek_8 : decode cX0_seek 8 = .ok (.if_icmp .ne 26, 3) := by decide +kernel
theorem dX0_seek_11 : decode cX0_seek 11 = .ok (.aload_n 1, 1) := by decide +kernel
theorem dX0_seek_12 : decode cX0_seek 12 = .ok (.iconst 2, 1) := by decide +kernel
theorem dX0_seek_13 : decode cX0_seek 13 = .ok (.invokevirtual 184, 3) := by decide +kernel
theorem dX0_seek_16 : decode cX0_seek 16 = .ok (.aload_n 2, 1) := by decide +kernel
theorem dX0_seek_17 : decode cX0_seek 17 = .ok (.iconst 2, 1) := by decide +kernel
theorem dX0_seek_18 : decode cX0_seek 18 = .ok (.putfield 106, 3) := by decide +kernel
theorem dX0_seek_21 : decode cX0_seek 21 = .ok (.aload_n 0, 1) := by decide +kernel
theorem dX0_seek_22 : decode cX0_seek 22 = .ok (.dup, 1) := by decide +kernel
theorem dX0_seek_23 : decode cX0_seek 23 = .ok (.getfield 61, 3) := by decide +kernel
theorem dX0_seek_26 : decode cX0_seek 26 = .ok (.iconst 1, 1) := by decide +kernel
theorem dX0_seek_27 : decode cX0_seek 27 = .ok (.iadd, 1) := by decide +kernel
theorem dX0_seek_28 : decode cX0_seek 28 = .ok (.putfield 61, 3) := by decide +kernel
theorem dX0_seek_31 : decode cX0_seek 31 = .ok (.goto 16, 3) := by decide +kernel
theorem dX0_seek_34 : decode cX0_seek 34 = .ok (.aload_n 1, 1) := by decide +kernel
theorem dX0_seek_35 : decode cX0_seek 35 = .ok (.aload_n 1, 1) := by decide +kernel
theorem dX0_seek_36 : decode cX0_seek 36 = .ok (.getfield 181, 3) := by decide +kernel
theorem dX0_seek_39 : decode cX0_seek 39 = .ok (.iconst 1, 1) := by decide +kernel
theorem dX0_seek_40 : decode cX0_seek 40 = .ok (.iadd, 1) := by decide +kernel
theorem dX0_seek_41 : decode cX0_seek 41 = .ok (.bipush 16, 2) := by decide +kernel
theorem dX0_seek_43 : decode cX0_seek 43 = .ok (.irem, 1) := by decide +kernel
theorem dX0_seek_44 : decode cX0_seek 44 = .ok (.putfield 181, 3) := by decide +kernel
theorem dX0_seek_47 : decode cX0_seek 47 = .ok (.return_, 1) := by decide +kernel
theorem dX0_awaitDigit_0 : decode cX0_awaitDigit 0 = .ok (.aload_n 2, 1) := by decide +kernel
theorem dX0_awaitDigit_1 : decode cX0_awaitDigit 1 = .ok (.getfield 135, 3) := by decide +kernel
theorem dX0_awaitDigit_4 : decode cX0_awaitDigit 4 = .ok (.ifCond .le 22, 3) := by decide +kernel
theorem dX0_awaitDigit_7 : decode cX0_awaitDigit 7 = .ok (.aload_n 1, 1) := by decide +kernel
theorem dX0_awaitDigit_8 : decode cX0_awaitDigit 8 = .ok (.iload_n 3, 1) := by decide +kernel
theorem dX0_awaitDigit_9 : decode cX0_awaitDigit 9 = .ok (.invokevirtual 184, 3) := by decide +kernel
theorem dX0_awaitDigit_12 : decode cX0_awaitDigit 12 = .ok (.aload_n 1, 1) := by decide +kernel
theorem dX0_awaitDigit_13 : decode cX0_awaitDigit 13 = .ok (.aload_n 2, 1) := by decide +kernel
theorem dX0_awaitDigit_14 : decode cX0_awaitDigit 14 = .ok (.invokevirtual 187, 3) := by decide +kernel
theorem dX0_awaitDigit_17 : decode cX0_awaitDigit 17 = .ok (.putfield 191, 3) := by decide +kernel
theorem dX0_awaitDigit_20 : decode cX0_awaitDigit 20 = .ok (.aload_n 2, 1) := by decide +kernel
theorem dX0_awaitDigit_21 : decode cX0_awaitDigit 21 = .ok (.iconst 3, 1) := by decide +kernel
theorem dX0_awaitDigit_22 : decode cX0_awaitDigit 22 = .ok (.putfield 106, 3) := by decide +kernel
theorem dX0_awaitDigit_25 : decode cX0_awaitDigit 25 = .ok (.return_, 1) := by decide +kernel
theorem dX0_awaitDigit_26 : decode cX0_awaitDigit 26 = .ok (.aload_n 1, 1) := by decide +kernel
theorem dX0_awaitDigit_27 : decode cX0_awaitDigit 27 = .ok (.dup, 1) := by decide +kernel
theorem dX0_awaitDigit_28 : decode cX0_awaitDigit 28 = .ok (.getfield 194, 3) := by decide +kernel
theorem dX0_awaitDigit_31 : decode cX0_awaitDigit 31 = .ok (.iconst 1, 1) := by decide +kernel
theorem dX0_awaitDigit_32 : decode cX0_awaitDigit 32 = .ok (.iadd, 1) := by decide +kernel
theorem dX0_awaitDigit_33 : decode cX0_awaitDigit 33 = .ok (.putfield 194, 3) := by decide +kernel
theorem dX0_awaitDigit_36 : decode cX0_awaitDigit 36 = .ok (.aload_n 1, 1) := by decide +kernel
theorem dX0_awaitDigit_37 : decode cX0_awaitDigit 37 = .ok (.getfield 194, 3) := by decide +kernel
theorem dX0_awaitDigit_40 : decode cX0_awaitDigit 40 = .ok (.aload_n 0, 1) := by decide +kernel
theorem dX0_awaitDigit_41 : decode cX0_awaitDigit 41 = .ok (.iconst 0, 1) := by decide +kernel
theorem dX0_awaitDigit_42 : decode cX0_awaitDigit 42 = .ok (.invokevirtual 79, 3) := by decide +kernel
theorem dX0_awaitDigit_45 : decode cX0_awaitDigit 45 = .ok (.if_icmp .lt 28, 3) := by decide +kernel
theorem dX0_awaitDigit_48 : decode cX0_awaitDigit 48 = .ok (.aload_n 1, 1) := by decide +kernel
theorem dX0_awaitDigit_49 : decode cX0_awaitDigit 49 = .ok (.invokevirtual 132, 3) := by decide +kernel
theorem dX0_awaitDigit_52 : decode cX0_awaitDigit 52 = .ok (.aload_n 2, 1) := by decide +kernel
theorem dX0_awaitDigit_53 : decode cX0_awaitDigit 53 = .ok (.iconst 5, 1) := by decide +kernel
theorem dX0_awaitDigit_54 : decode cX0_awaitDigit 54 = .ok (.putfield 109, 3) := by decide +kernel
theorem dX0_awaitDigit_57 : decode cX0_awaitDigit 57 = .ok (.aload_n 2, 1) := by decide +kernel
theorem dX0_awaitDigit_58 : decode cX0_awaitDigit 58 = .ok (.bipush 10, 2) := by decide +kernel
theorem dX0_awaitDigit_60 : decode cX0_awaitDigit 60 = .ok (.invokevirtual 125, 3) := by decide +kernel
theorem dX0_awaitDigit_63 : decode cX0_awaitDigit 63 = .ok (.aload_n 0, 1) := by decide +kernel
theorem dX0_awaitDigit_64 : decode cX0_awaitDigit 64 = .ok (.dup, 1) := by decide +kernel
theorem dX0_awaitDigit_65 : decode cX0_awaitDigit 65 = .ok (.getfield 76, 3) := by decide +kernel
theorem dX0_awaitDigit_68 : decode cX0_awaitDigit 68 = .ok (.iconst 1, 1) := by decide +kernel
theorem dX0_awaitDigit_69 : decode cX0_awaitDigit 69 = .ok (.iadd, 1) := by decide +kernel
theorem dX0_awaitDigit_70 : decode cX0_awaitDigit 70 = .ok (.putfield 76, 3) := by decide +kernel
theorem dX0_awaitDigit_73 : decode cX0_awaitDigit 73 = .ok (.return_, 1) := by decide +kernel
theorem dX0_rise_0 : decode cX0_rise 0 = .ok (.aload_n 1, 1) := by decide +kernel
theorem dX0_rise_1 : decode cX0_rise 1 = .ok (.dup, 1) := by decide +kernel
theorem dX0_rise_2 : decode cX0_rise 2 = .ok (.getfield 191, 3) := by decide +kernel
theorem dX0_rise_5 : decode cX0_rise 5 = .ok (.iconst 1, 1) := by decide +kernel
theorem dX0_rise_6 : decode cX0_rise 6 = .ok (.isub, 1) := by decide +kernel
theorem dX0_rise_7 : decode cX0_rise 7 = .ok (.putfield 191, 3) := by decide +kernel
theorem dX0_rise_10 : decode cX0_rise 10 = .ok (.aload_n 1, 1) := by decide +kernel
theorem dX0_rise_11 : decode cX0_rise 11 = .ok (.dup, 1) := by decide +kernel
theorem dX0_rise_12 : decode cX0_rise 12 = .ok (.getfield 197, 3) := by decide +kernel
theorem dX0_rise_15 : decode cX0_rise 15 = .ok (.iconst 1, 1) := by decide +kernel
theorem dX0_rise_16 : decode cX0_rise 16 = .ok (.iadd, 1) := by decide +kernel
theorem dX0_rise_17 : decode cX0_rise 17 = .ok (.putfield 197, 3) := by decide +kernel
theorem dX0_rise_20 : decode cX0_rise 20 = .ok (.aload_n 1, 1) := by decide +kernel
theorem dX0_rise_21 : decode cX0_rise 21 = .ok (.getfield 191, 3) := by decide +kernel
theorem dX0_rise_24 : decode cX0_rise 24 = .ok (.ifCond .le 4, 3) := by decide +kernel
theorem dX0_rise_27 : decode cX0_rise 27 = .ok (.return_, 1) := by decide +kernel
theorem dX0_rise_28 : decode cX0_rise 28 = .ok (.aload_n 1, 1) := by decide +kernel
theorem dX0_rise_29 : decode cX0_rise 29 = .ok (.getfield 197, 3) := by decide +kernel
theorem dX0_rise_32 : decode cX0_rise 32 = .ok (.iconst 4, 1) := by decide +kernel
theorem dX0_rise_33 : decode cX0_rise 33 = .ok (.if_icmp .le 15, 3) := by decide +kernel
theorem dX0_rise_36 : decode cX0_rise 36 = .ok (.aload_n 0, 1) := by decide +kernel
theorem dX0_rise_37 : decode cX0_rise 37 = .ok (.aload_n 1, 1) := by decide +kernel
theorem dX0_rise_38 : decode cX0_rise 38 = .ok (.aload_n 2, 1) := by decide +kernel
theorem dX0_rise_39 : decode cX0_rise 39 = .ok (.bipush 9, 2) := by decide +kernel
theorem dX0_rise_41 : decode cX0_rise 41 = .ok (.iconst 3, 1) := by decide +kernel
theorem dX0_rise_42 : decode cX0_rise 42 = .ok (.invokevirtual 200, 3) := by decide +kernel
theorem dX0_rise_45 : decode cX0_rise 45 = .ok (.goto 13, 3) := by decide +kernel
theorem dX0_rise_48 : decode cX0_rise 48 = .ok (.aload_n 1, 1) := by decide +kernel
theorem dX0_rise_49 : decode cX0_rise 49 = .ok (.iconst 4, 1) := by decide +kernel
theorem dX0_rise_50 : decode cX0_rise 50 = .ok (.invokevirtual 184, 3) := by decide +kernel
theorem dX0_rise_53 : decode cX0_rise 53 = .ok (.aload_n 1, 1) := by decide +kernel
theorem dX0_rise_54 : decode cX0_rise 54 = .ok (.iconst 0, 1) := by decide +kernel
theorem dX0_rise_55 : decode cX0_rise 55 = .ok (.putfield 204, 3) := by decide +kernel
theorem dX0_rise_58 : decode cX0_rise 58 = .ok (.return_, 1) := by decide +kernel
theorem dX0_hunt_0 : decode cX0_hunt 0 = .ok (.aload_n 0, 1) := by decide +kernel
theorem dX0_hunt_1 : decode cX0_hunt 1 = .ok (.aload_n 1, 1) := by decide +kernel
theorem dX0_hunt_2 : decode cX0_hunt 2 = .ok (.getfield 197, 3) := by decide +kernel
theorem dX0_hunt_5 : decode cX0_hunt 5 = .ok (.aload_n 1, 1) := by decide +kernel
theorem dX0_hunt_6 : decode cX0_hunt 6 = .ok (.getfield 204, 3) := by decide +kernel
theorem dX0_hunt_9 : decode cX0_hunt 9 = .ok (.invokevirtual 207, 3) := by decide +kernel
theorem dX0_hunt_12 : decode cX0_hunt 12 = .ok (.bipush (-6), 2) := by decide +kernel
theorem dX0_hunt_14 : decode cX0_hunt 14 = .ok (.if_icmp .ne 9, 3) := by decide +kernel
theorem dX0_hunt_17 : decode cX0_hunt 17 = .ok (.aload_n 1, 1) := by decide +kernel
theorem dX0_hunt_18 : decode cX0_hunt 18 = .ok (.iconst 5, 1) := by decide +kernel
theorem dX0_hunt_19 : decode cX0_hunt 19 = .ok (.invokevirtual 184, 3) := by decide +kernel
theorem dX0_hunt_22 : decode cX0_hunt 22 = .ok (.return_, 1) := by decide +kernel
theorem dX0_hunt_23 : decode cX0_hunt 23 = .ok (.aload_n 1, 1) := by decide +kernel
theorem dX0_hunt_24 : decode cX0_hunt 24 = .ok (.dup, 1) := by decide +kernel
theorem dX0_hunt_25 : decode cX0_hunt 25 = .ok (.getfield 204, 3) := by decide +kernel
theorem dX0_hunt_28 : decode cX0_hunt 28 = .ok (.iconst 1, 1) := by decide +kernel
theorem dX0_hunt_29 : decode cX0_hunt 29 = .ok (.iadd, 1) := by decide +kernel
theorem dX0_hunt_30 : decode cX0_hunt 30 = .ok (.putfield 204, 3) := by decide +kernel
theorem dX0_hunt_33 : decode cX0_hunt 33 = .ok (.aload_n 1, 1) := by decide +kernel
theorem dX0_hunt_34 : decode cX0_hunt 34 = .ok (.getfield 204, 3) := by decide +kernel
theorem dX0_hunt_37 : decode cX0_hunt 37 = .ok (.aload_n 0, 1) := by decide +kernel
theorem dX0_hunt_38 : decode cX0_hunt 38 = .ok (.getfield 49, 3) := by decide +kernel
theorem dX0_hunt_41 : decode cX0_hunt 41 = .ok (.if_icmp .lt 12, 3) := by decide +kernel
theorem dX0_hunt_44 : decode cX0_hunt 44 = .ok (.aload_n 0, 1) := by decide +kernel
theorem dX0_hunt_45 : decode cX0_hunt 45 = .ok (.aload_n 1, 1) := by decide +kernel
theorem dX0_hunt_46 : decode cX0_hunt 46 = .ok (.aload_n 2, 1) := by decide +kernel
theorem dX0_hunt_47 : decode cX0_hunt 47 = .ok (.bipush 8, 2) := by decide +kernel
theorem dX0_hunt_49 : decode cX0_hunt 49 = .ok (.iconst 2, 1) := by decide +kernel
theorem dX0_hunt_50 : decode cX0_hunt 50 = .ok (.invokevirtual 200, 3) := by decide +kernel
theorem dX0_hunt_53 : decode cX0_hunt 53 = .ok (.return_, 1) := by decide +kernel
theorem dX0_stepOn_0 : decode cX0_stepOn 0 = .ok (.aload_n 1, 1) := by decide +kernel
theorem dX0_stepOn_1 : decode cX0_stepOn 1 = .ok (.dup, 1) := by decide +kernel
theorem dX0_stepOn_2 : decode cX0_stepOn 2 = .ok (.getfield 191, 3) := by decide +kernel
theorem dX0_stepOn_5 : decode cX0_stepOn 5 = .ok (.iconst 1, 1) := by decide +kernel
theorem dX0_stepOn_6 : decode cX0_stepOn 6 = .ok (.isub, 1) := by decide +kernel
theorem dX0_stepOn_7 : decode cX0_stepOn 7 = .ok (.putfield 191, 3) := by decide +kernel
theorem dX0_stepOn_10 : decode cX0_stepOn 10 = .ok (.aload_n 1, 1) := by decide +kernel
theorem dX0_stepOn_11 : decode cX0_stepOn 11 = .ok (.dup, 1) := by decide +kernel
theorem dX0_stepOn_12 : decode cX0_stepOn 12 = .ok (.getfield 211, 3) := by decide +kernel
theorem dX0_stepOn_15 : decode cX0_stepOn 15 = .ok (.iconst 1, 1) := by decide +kernel
theorem dX0_stepOn_16 : decode cX0_stepOn 16 = .ok (.iadd, 1) := by decide +kernel
theorem dX0_stepOn_17 : decode cX0_stepOn 17 = .ok (.putfield 211, 3) := by decide +kernel
theorem dX0_stepOn_20 : decode cX0_stepOn 20 = .ok (.aload_n 1, 1) := by decide +kernel
theorem dX0_stepOn_21 : decode cX0_stepOn 21 = .ok (.getfield 191, 3) := by decide +kernel
theorem dX0_stepOn_24 : decode cX0_stepOn 24 = .ok (.ifCond .le 4, 3) := by decide +kernel
theorem dX0_stepOn_27 : decode cX0_stepOn 27 = .ok (.return_, 1) := by decide +kernel
theorem dX0_stepOn_28 : decode cX0_stepOn 28 = .ok (.aload_n 1, 1) := by decide +kernel
theorem dX0_stepOn_29 : decode cX0_stepOn 29 = .ok (.getfield 211, 3) := by decide +kernel
theorem dX0_stepOn_32 : decode cX0_stepOn 32 = .ok (.iconst 4, 1) := by decide +kernel
theorem dX0_stepOn_33 : decode cX0_stepOn 33 = .ok (.if_icmp .le 13, 3) := by decide +kernel
theorem dX0_stepOn_36 : decode cX0_stepOn 36 = .ok (.aload_n 0, 1) := by decide +kernel
theorem dX0_stepOn_37 : decode cX0_stepOn 37 = .ok (.aload_n 1, 1) := by decide +kernel
theorem dX0_stepOn_38 : decode cX0_stepOn 38 = .ok (.aload_n 2, 1) := by decide +kernel
theorem dX0_stepOn_39 : decode cX0_stepOn 39 = .ok (.bipush 9, 2) := by decide +kernel
theorem dX0_stepOn_41 : decode cX0_stepOn 41 = .ok (.iconst 3, 1) := by decide +kernel
theorem dX0_stepOn_42 : decode cX0_stepOn 42 = .ok (.invokevirtual 200, 3) := by decide +kernel
theorem dX0_stepOn_45 : decode cX0_stepOn 45 = .ok (.return_, 1) := by decide +kernel
theorem dX0_stepOn_46 : decode cX0_stepOn 46 = .ok (.iconst 4, 1) := by decide +kernel
theorem dX0_stepOn_47 : decode cX0_stepOn 47 = .ok (.aload_n 1, 1) := by decide +kernel
theorem dX0_stepOn_48 : decode cX0_stepOn 48 = .ok (.getfield 197, 3) := by decide +kernel
theorem dX0_stepOn_51 : decode cX0_stepOn 51 = .ok (.iconst 1, 1) := by decide +kernel
theorem dX0_stepOn_52 : decode cX0_stepOn 52 = .ok (.isub, 1) := by decide +kernel
theorem dX0_stepOn_53 : decode cX0_stepOn 53 = .ok (.imul, 1) := by decide +kernel
theorem dX0_stepOn_54 : decode cX0_stepOn 54 = .ok (.aload_n 1, 1) := by decide +kernel
theorem dX0_stepOn_55 : decode cX0_stepOn 55 = .ok (.getfield 211, 3) := by decide +kernel
theorem dX0_stepOn_58 : decode cX0_stepOn 58 = .ok (.iadd, 1) := by decide +kernel
theorem dX0_stepOn_59 : decode cX0_stepOn 59 = .ok (.iconst 1, 1) := by decide +kernel
theorem dX0_stepOn_60 : decode cX0_stepOn 60 = .ok (.isub, 1) := by decide +kernel
theorem dX0_stepOn_61 : decode cX0_stepOn 61 = .ok (.istore_n 3, 1) := by decide +kernel
theorem dX0_stepOn_62 : decode cX0_stepOn 62 = .ok (.aload_n 0, 1) := by decide +kernel
theorem dX0_stepOn_63 : decode cX0_stepOn 63 = .ok (.iload_n 3, 1) := by decide +kernel
theorem dX0_stepOn_64 : decode cX0_stepOn 64 = .ok (.invokevirtual 83, 3) := by decide +kernel
theorem dX0_stepOn_67 : decode cX0_stepOn 67 = .ok (.astore 4, 2) := by decide +kernel
theorem dX0_stepOn_69 : decode cX0_stepOn 69 = .ok (.aload 4, 2) := by decide +kernel
theorem dX0_stepOn_71 : decode cX0_stepOn 71 = .ok (.getfield 106, 3) := by decide +kernel
theorem dX0_stepOn_74 : decode cX0_stepOn 74 = .ok (.ifCond .eq 13, 3) := by decide +kernel
theorem dX0_stepOn_77 : decode cX0_stepOn 77 = .ok (.aload_n 0, 1) := by decide +kernel
theorem dX0_stepOn_78 : decode cX0_stepOn 78 = .ok (.aload_n 1, 1) := by decide +kernel
theorem dX0_stepOn_79 : decode cX0_stepOn 79 = .ok (.aload_n 2, 1) := by decide +kernel
theorem dX0_stepOn_80 : decode cX0_stepOn 80 = .ok (.bipush 8, 2) := by decide +kernel
theorem dX0_stepOn_82 : decode cX0_stepOn 82 = .ok (.iconst 1, 1) := by decide +kernel
theorem dX0_stepOn_83 : decode cX0_stepOn 83 = .ok (.invokevirtual 200, 3) := by decide +kernel
theorem dX0_stepOn_86 : decode cX0_stepOn 86 = .ok (.return_, 1) := by decide +kernel
theorem dX0_stepOn_87 : decode cX0_stepOn 87 = .ok (.aload_n 1, 1) := by decide +kernel
theorem dX0_stepOn_88 : decode cX0_stepOn 88 = .ok (.bipush 7, 2) := by decide +kernel
theorem dX0_stepOn_90 : decode cX0_stepOn 90 = .ok (.invokevirtual 184, 3) := by decide +kernel
theorem dX0_stepOn_93 : decode cX0_stepOn 93 = .ok (.aload_n 1, 1) := by decide +kernel
theorem dX0_stepOn_94 : decode cX0_stepOn 94 = .ok (.iload_n 3, 1) := by decide +kernel
theorem dX0_stepOn_95 : decode cX0_stepOn 95 = .ok (.putfield 129, 3) := by decide +kernel
theorem dX0_stepOn_98 : decode cX0_stepOn 98 = .ok (.aload_n 2, 1) := by decide +kernel
theorem dX0_stepOn_99 : decode cX0_stepOn 99 = .ok (.iconst 4, 1) := by decide +kernel
theorem dX0_stepOn_100 : decode cX0_stepOn 100 = .ok (.putfield 106, 3) := by decide +kernel
theorem dX0_stepOn_103 : decode cX0_stepOn 103 = .ok (.aload 4, 2) := by decide +kernel
theorem dX0_stepOn_105 : decode cX0_stepOn 105 = .ok (.iconst 5, 1) := by decide +kernel
theorem dX0_stepOn_106 : decode cX0_stepOn 106 = .ok (.putfield 106, 3) := by decide +kernel
theorem dX0_stepOn_109 : decode cX0_stepOn 109 = .ok (.aload 4, 2) := by decide +kernel
theorem dX0_stepOn_111 : decode cX0_stepOn 111 = .ok (.aload_n 2, 1) := by decide +kernel
theorem dX0_stepOn_112 : decode cX0_stepOn 112 = .ok (.getfield 119, 3) := by decide +kernel
theorem dX0_stepOn_115 : decode cX0_stepOn 115 = .ok (.putfield 119, 3) := by decide +kernel
theorem dX0_stepOn_118 : decode cX0_stepOn 118 = .ok (.aload_n 0, 1) := by decide +kernel
theorem dX0_stepOn_119 : decode cX0_stepOn 119 = .ok (.dup, 1) := by decide +kernel
theorem dX0_stepOn_120 : decode cX0_stepOn 120 = .ok (.getfield 64, 3) := by decide +kernel
theorem dX0_stepOn_123 : decode cX0_stepOn 123 = .ok (.iconst 1, 1) := by decide +kernel
theorem dX0_stepOn_124 : decode cX0_stepOn 124 = .ok (.iadd, 1) := by decide +kernel
theorem dX0_stepOn_125 : decode cX0_stepOn 125 = .ok (.putfield 64, 3) := by decide +kernel
theorem dX0_stepOn_128 : decode cX0_stepOn 128 = .ok (.return_, 1) := by decide +kernel
theorem dX0_ringOn_0 : decode cX0_ringOn 0 = .ok (.aload_n 0, 1) := by decide +kernel
theorem dX0_ringOn_1 : decode cX0_ringOn 1 = .ok (.aload_n 1, 1) := by decide +kernel
theorem dX0_ringOn_2 : decode cX0_ringOn 2 = .ok (.getfield 129, 3) := by decide +kernel
theorem dX0_ringOn_5 : decode cX0_ringOn 5 = .ok (.invokevirtual 83, 3) := by decide +kernel
theorem dX0_ringOn_8 : decode cX0_ringOn 8 = .ok (.astore_n 3, 1) := by decide +kernel
theorem dX0_ringOn_9 : decode cX0_ringOn 9 = .ok (.aload_n 3, 1) := by decide +kernel
theorem dX0_ringOn_10 : decode cX0_ringOn 10 = .ok (.getfield 102, 3) := by decide +kernel
theorem dX0_ringOn_13 : decode cX0_ringOn 13 = .ok (.ifCond .eq 42, 3) := by decide +kernel
theorem dX0_ringOn_16 : decode cX0_ringOn 16 = .ok (.aload_n 1, 1) := by decide +kernel
theorem dX0_ringOn_17 : decode cX0_ringOn 17 = .ok (.bipush 8, 2) := by decide +kernel
theorem dX0_ringOn_19 : decode cX0_ringOn 19 = .ok (.invokevirtual 184, 3) := by decide +kernel
theorem dX0_ringOn_22 : decode cX0_ringOn 22 = .ok (.aload_n 2, 1) := by decide +kernel
theorem dX0_ringOn_23 : decode cX0_ringOn 23 = .ok (.bipush 6, 2) := by decide +kernel
theorem dX0_ringOn_25 : decode cX0_ringOn 25 = .ok (.putfield 106, 3) := by decide +kernel
theorem dX0_ringOn_28 : decode cX0_ringOn 28 = .ok (.aload_n 3, 1) := by decide +kernel
theorem dX0_ringOn_29 : decode cX0_ringOn 29 = .ok (.bipush 7, 2) := by decide +kernel
theorem dX0_ringOn_31 : decode cX0_ringOn 31 = .ok (.putfield 106, 3) := by decide +kernel
theorem dX0_ringOn_34 : decode cX0_ringOn 34 = .ok (.aload_n 2, 1) := by decide +kernel
theorem dX0_ringOn_35 : decode cX0_ringOn 35 = .ok (.dup, 1) := by decide +kernel
theorem dX0_ringOn_36 : decode cX0_ringOn 36 = .ok (.getfield 214, 3) := by decide +kernel
theorem dX0_ringOn_39 : decode cX0_ringOn 39 = .ok (.iconst 1, 1) := by decide +kernel
theorem dX0_ringOn_40 : decode cX0_ringOn 40 = .ok (.iadd, 1) := by decide +kernel
theorem dX0_ringOn_41 : decode cX0_ringOn 41 = .ok (.putfield 214, 3) := by decide +kernel
theorem dX0_ringOn_44 : decode cX0_ringOn 44 = .ok (.aload_n 0, 1) := by decide +kernel
theorem dX0_ringOn_45 : decode cX0_ringOn 45 = .ok (.dup, 1) := by decide +kernel
theorem dX0_ringOn_46 : decode cX0_ringOn 46 = .ok (.getfield 67, 3) := by decide +kernel
theorem dX0_ringOn_49 : decode cX0_ringOn 49 = .ok (.iconst 1, 1) := by decide +kernel
theorem dX0_ringOn_50 : decode cX0_ringOn 50 = .ok (.iadd, 1) := by decide +kernel
theorem dX0_ringOn_51 : decode cX0_ringOn 51 = .ok (.putfield 67, 3) := by decide +kernel
theorem dX0_ringOn_54 : decode cX0_ringOn 54 = .ok (.return_, 1) := by decide +kernel
theorem dX0_ringOn_55 : decode cX0_ringOn 55 = .ok (.aload_n 1, 1) := by decide +kernel
theorem dX0_ringOn_56 : decode cX0_ringOn 56 = .ok (.dup, 1) := by decide +kernel
theorem dX0_ringOn_57 : decode cX0_ringOn 57 = .ok (.getfield 194, 3) := by decide +kernel
theorem dX0_ringOn_60 : decode cX0_ringOn 60 = .ok (.iconst 1, 1) := by decide +kernel
theorem dX0_ringOn_61 : decode cX0_ringOn 61 = .ok (.iadd, 1) := by decide +kernel
theorem dX0_ringOn_62 : decode cX0_ringOn 62 = .ok (.putfield 194, 3) := by decide +kernel
theorem dX0_ringOn_65 : decode cX0_ringOn 65 = .ok (.aload_n 1, 1) := by decide +kernel
theorem dX0_ringOn_66 : decode cX0_ringOn 66 = .ok (.getfield 194, 3) := by decide +kernel
theorem dX0_ringOn_69 : decode cX0_ringOn 69 = .ok (.aload_n 0, 1) := by decide +kernel
theorem dX0_ringOn_70 : decode cX0_ringOn 70 = .ok (.iconst 1, 1) := by decide +kernel
theorem dX0_ringOn_71 : decode cX0_ringOn 71 = .ok (.invokevirtual 79, 3) := by decide +kernel
theorem dX0_ringOn_74 : decode cX0_ringOn 74 = .ok (.if_icmp .lt 17, 3) := by decide +kernel
theorem dX0_ringOn_77 : decode cX0_ringOn 77 = .ok (.aload_n 0, 1) := by decide +kernel
theorem dX0_ringOn_78 : decode cX0_ringOn 78 = .ok (.aload_n 1, 1) := by decide +kernel
theorem dX0_ringOn_79 : decode cX0_ringOn 79 = .ok (.aload_n 2, 1) := by decide +kernel
theorem dX0_ringOn_80 : decode cX0_ringOn 80 = .ok (.bipush 8, 2) := by decide +kernel
theorem dX0_ringOn_82 : decode cX0_ringOn 82 = .ok (.iconst 4, 1) := by decide +kernel
theorem dX0_ringOn_83 : decode cX0_ringOn 83 = .ok (.invokevirtual 200, 3) := by decide +kernel
theorem dX0_ringOn_86 : decode cX0_ringOn 86 = .ok (.aload_n 3, 1) := by decide +kernel
theorem dX0_ringOn_87 : decode cX0_ringOn 87 = .ok (.iconst 0, 1) := by decide +kernel
theorem dX0_ringOn_88 : decode cX0_ringOn 88 = .ok (.invokevirtual 125, 3) := by decide +kernel
theorem dX0_ringOn_91 : decode cX0_ringOn 91 = .ok (.return_, 1) := by decide +kernel
theorem dX0_talkOn_0 : decode cX0_talkOn 0 = .ok (.aload_n 0, 1) := by decide +kernel
end
section
theorem dX0_talkOn_1 : decode cX0_talkOn 1 = .ok (.aload_n 1, 1) := by decide +kernel
theorem dX0_talkOn_2 : decode cX0_talkOn 2 = .ok (.getfield 129, 3) := by decide +kernel
theorem dX0_talkOn_5 : decode cX0_talkOn 5 = .ok (.invokevirtual 83, 3) := by decide +kernel
theorem dX0_talkOn_8 : decode cX0_talkOn 8 = .ok (.astore_n 3, 1) := by decide +kernel
theorem dX0_talkOn_9 : decode cX0_talkOn 9 = .ok (.aload_n 3, 1) := by decide +kernel
theorem dX0_talkOn_10 : decode cX0_talkOn 10 = .ok (.getfield 102, 3) := by decide +kernel
theorem dX0_talkOn_13 : decode cX0_talkOn 13 = .ok (.ifCond .eq 11, 3) := by decide +kernel
theorem dX0_talkOn_16 : decode cX0_talkOn 16 = .ok (.aload_n 1, 1) := by decide +kernel
theorem dX0_talkOn_17 : decode cX0_talkOn 17 = .ok (.iconst 0, 1) := by decide +kernel
theorem dX0_talkOn_18 : decode cX0_talkOn 18 = .ok (.putfield 217, 3) := by decide +kernel
theorem dX0_talkOn_21 : decode cX0_talkOn 21 = .ok (.goto 47, 3) := by decide +kernel
theorem dX0_talkOn_24 : decode cX0_talkOn 24 = .ok (.aload_n 1, 1) := by decide +kernel
theorem dX0_talkOn_25 : decode cX0_talkOn 25 = .ok (.dup, 1) := by decide +kernel
theorem dX0_talkOn_26 : decode cX0_talkOn 26 = .ok (.getfield 217, 3) := by decide +kernel
theorem dX0_talkOn_29 : decode cX0_talkOn 29 = .ok (.iconst 1, 1) := by decide +kernel
theorem dX0_talkOn_30 : decode cX0_talkOn 30 = .ok (.iadd, 1) := by decide +kernel
theorem dX0_talkOn_31 : decode cX0_talkOn 31 = .ok (.putfield 217, 3) := by decide +kernel
theorem dX0_talkOn_34 : decode cX0_talkOn 34 = .ok (.aload_n 1, 1) := by decide +kernel
theorem dX0_talkOn_35 : decode cX0_talkOn 35 = .ok (.getfield 217, 3) := by decide +kernel
theorem dX0_talkOn_38 : decode cX0_talkOn 38 = .ok (.aload_n 0, 1) := by decide +kernel
theorem dX0_talkOn_39 : decode cX0_talkOn 39 = .ok (.iconst 3, 1) := by decide +kernel
theorem dX0_talkOn_40 : decode cX0_talkOn 40 = .ok (.invokevirtual 79, 3) := by decide +kernel
theorem dX0_talkOn_43 : decode cX0_talkOn 43 = .ok (.if_icmp .lt 25, 3) := by decide +kernel
theorem dX0_talkOn_46 : decode cX0_talkOn 46 = .ok (.aload_n 1, 1) := by decide +kernel
theorem dX0_talkOn_47 : decode cX0_talkOn 47 = .ok (.invokevirtual 132, 3) := by decide +kernel
theorem dX0_talkOn_50 : decode cX0_talkOn 50 = .ok (.aload_n 2, 1) := by decide +kernel
theorem dX0_talkOn_51 : decode cX0_talkOn 51 = .ok (.bipush 6, 2) := by decide +kernel
theorem dX0_talkOn_53 : decode cX0_talkOn 53 = .ok (.putfield 109, 3) := by decide +kernel
theorem dX0_talkOn_56 : decode cX0_talkOn 56 = .ok (.aload_n 2, 1) := by decide +kernel
theorem dX0_talkOn_57 : decode cX0_talkOn 57 = .ok (.bipush 10, 2) := by decide +kernel
theorem dX0_talkOn_59 : decode cX0_talkOn 59 = .ok (.invokevirtual 125, 3) := by decide +kernel
theorem dX0_talkOn_62 : decode cX0_talkOn 62 = .ok (.aload_n 3, 1) := by decide +kernel
theorem dX0_talkOn_63 : decode cX0_talkOn 63 = .ok (.iconst 0, 1) := by decide +kernel
theorem dX0_talkOn_64 : decode cX0_talkOn 64 = .ok (.invokevirtual 125, 3) := by decide +kernel
theorem dX0_talkOn_67 : decode cX0_talkOn 67 = .ok (.return_, 1) := by decide +kernel
theorem dX0_talkOn_68 : decode cX0_talkOn 68 = .ok (.aload_n 1, 1) := by decide +kernel
theorem dX0_talkOn_69 : decode cX0_talkOn 69 = .ok (.dup, 1) := by decide +kernel
theorem dX0_talkOn_70 : decode cX0_talkOn 70 = .ok (.getfield 194, 3) := by decide +kernel
theorem dX0_talkOn_73 : decode cX0_talkOn 73 = .ok (.iconst 1, 1) := by decide +kernel
theorem dX0_talkOn_74 : decode cX0_talkOn 74 = .ok (.iadd, 1) := by decide +kernel
theorem dX0_talkOn_75 : decode cX0_talkOn 75 = .ok (.putfield 194, 3) := by decide +kernel
theorem dX0_talkOn_78 : decode cX0_talkOn 78 = .ok (.aload_n 0, 1) := by decide +kernel
theorem dX0_talkOn_79 : decode cX0_talkOn 79 = .ok (.iconst 2, 1) := by decide +kernel
theorem dX0_talkOn_80 : decode cX0_talkOn 80 = .ok (.invokevirtual 79, 3) := by decide +kernel
theorem dX0_talkOn_83 : decode cX0_talkOn 83 = .ok (.istore 4, 2) := by decide +kernel
theorem dX0_talkOn_85 : decode cX0_talkOn 85 = .ok (.iload 4, 2) := by decide +kernel
theorem dX0_talkOn_87 : decode cX0_talkOn 87 = .ok (.ifCond .le 23, 3) := by decide +kernel
theorem dX0_talkOn_90 : decode cX0_talkOn 90 = .ok (.aload_n 1, 1) := by decide +kernel
theorem dX0_talkOn_91 : decode cX0_talkOn 91 = .ok (.getfield 194, 3) := by decide +kernel
theorem dX0_talkOn_94 : decode cX0_talkOn 94 = .ok (.iload 4, 2) := by decide +kernel
theorem dX0_talkOn_96 : decode cX0_talkOn 96 = .ok (.irem, 1) := by decide +kernel
theorem dX0_talkOn_97 : decode cX0_talkOn 97 = .ok (.ifCond .ne 13, 3) := by decide +kernel
theorem dX0_talkOn_100 : decode cX0_talkOn 100 = .ok (.aload_n 2, 1) := by decide +kernel
theorem dX0_talkOn_101 : decode cX0_talkOn 101 = .ok (.dup, 1) := by decide +kernel
theorem dX0_talkOn_102 : decode cX0_talkOn 102 = .ok (.getfield 214, 3) := by decide +kernel
theorem dX0_talkOn_105 : decode cX0_talkOn 105 = .ok (.iconst 1, 1) := by decide +kernel
theorem dX0_talkOn_106 : decode cX0_talkOn 106 = .ok (.iadd, 1) := by decide +kernel
theorem dX0_talkOn_107 : decode cX0_talkOn 107 = .ok (.putfield 214, 3) := by decide +kernel
theorem dX0_talkOn_110 : decode cX0_talkOn 110 = .ok (.return_, 1) := by decide +kernel
theorem dX0_soundOn_0 : decode cX0_soundOn 0 = .ok (.aload_n 1, 1) := by decide +kernel
theorem dX0_soundOn_1 : decode cX0_soundOn 1 = .ok (.dup, 1) := by decide +kernel
theorem dX0_soundOn_2 : decode cX0_soundOn 2 = .ok (.getfield 194, 3) := by decide +kernel
theorem dX0_soundOn_5 : decode cX0_soundOn 5 = .ok (.iconst 1, 1) := by decide +kernel
theorem dX0_soundOn_6 : decode cX0_soundOn 6 = .ok (.iadd, 1) := by decide +kernel
theorem dX0_soundOn_7 : decode cX0_soundOn 7 = .ok (.putfield 194, 3) := by decide +kernel
theorem dX0_soundOn_10 : decode cX0_soundOn 10 = .ok (.aload_n 1, 1) := by decide +kernel
theorem dX0_soundOn_11 : decode cX0_soundOn 11 = .ok (.getfield 194, 3) := by decide +kernel
theorem dX0_soundOn_14 : decode cX0_soundOn 14 = .ok (.aload_n 0, 1) := by decide +kernel
theorem dX0_soundOn_15 : decode cX0_soundOn 15 = .ok (.iconst 0, 1) := by decide +kernel
theorem dX0_soundOn_16 : decode cX0_soundOn 16 = .ok (.invokevirtual 79, 3) := by decide +kernel
theorem dX0_soundOn_19 : decode cX0_soundOn 19 = .ok (.if_icmp .lt 13, 3) := by decide +kernel
theorem dX0_soundOn_22 : decode cX0_soundOn 22 = .ok (.aload_n 1, 1) := by decide +kernel
theorem dX0_soundOn_23 : decode cX0_soundOn 23 = .ok (.invokevirtual 132, 3) := by decide +kernel
theorem dX0_soundOn_26 : decode cX0_soundOn 26 = .ok (.aload_n 2, 1) := by decide +kernel
theorem dX0_soundOn_27 : decode cX0_soundOn 27 = .ok (.bipush 10, 2) := by decide +kernel
theorem dX0_soundOn_29 : decode cX0_soundOn 29 = .ok (.invokevirtual 125, 3) := by decide +kernel
theorem dX0_soundOn_32 : decode cX0_soundOn 32 = .ok (.return_, 1) := by decide +kernel
theorem dX0_sound_0 : decode cX0_sound 0 = .ok (.aload_n 1, 1) := by decide +kernel
theorem dX0_sound_1 : decode cX0_sound 1 = .ok (.bipush 9, 2) := by decide +kernel
theorem dX0_sound_3 : decode cX0_sound 3 = .ok (.invokevirtual 184, 3) := by decide +kernel
theorem dX0_sound_6 : decode cX0_sound 6 = .ok (.aload_n 1, 1) := by decide +kernel
theorem dX0_sound_7 : decode cX0_sound 7 = .ok (.bipush (-6), 2) := by decide +kernel
theorem dX0_sound_9 : decode cX0_sound 9 = .ok (.putfield 204, 3) := by decide +kernel
theorem dX0_sound_12 : decode cX0_sound 12 = .ok (.aload_n 1, 1) := by decide +kernel
theorem dX0_sound_13 : decode cX0_sound 13 = .ok (.bipush (-6), 2) := by decide +kernel
theorem dX0_sound_15 : decode cX0_sound 15 = .ok (.putfield 129, 3) := by decide +kernel
theorem dX0_sound_18 : decode cX0_sound 18 = .ok (.aload_n 2, 1) := by decide +kernel
theorem dX0_sound_19 : decode cX0_sound 19 = .ok (.iload_n 3, 1) := by decide +kernel
theorem dX0_sound_20 : decode cX0_sound 20 = .ok (.putfield 106, 3) := by decide +kernel
theorem dX0_sound_23 : decode cX0_sound 23 = .ok (.aload_n 2, 1) := by decide +kernel
theorem dX0_sound_24 : decode cX0_sound 24 = .ok (.iload 4, 2) := by decide +kernel
theorem dX0_sound_26 : decode cX0_sound 26 = .ok (.putfield 109, 3) := by decide +kernel
theorem dX0_sound_29 : decode cX0_sound 29 = .ok (.iload_n 3, 1) := by decide +kernel
theorem dX0_sound_30 : decode cX0_sound 30 = .ok (.bipush 8, 2) := by decide +kernel
theorem dX0_sound_32 : decode cX0_sound 32 = .ok (.if_icmp .ne 16, 3) := by decide +kernel
theorem dX0_sound_35 : decode cX0_sound 35 = .ok (.aload_n 0, 1) := by decide +kernel
theorem dX0_sound_36 : decode cX0_sound 36 = .ok (.dup, 1) := by decide +kernel
theorem dX0_sound_37 : decode cX0_sound 37 = .ok (.getfield 70, 3) := by decide +kernel
theorem dX0_sound_40 : decode cX0_sound 40 = .ok (.iconst 1, 1) := by decide +kernel
theorem dX0_sound_41 : decode cX0_sound 41 = .ok (.iadd, 1) := by decide +kernel
theorem dX0_sound_42 : decode cX0_sound 42 = .ok (.putfield 70, 3) := by decide +kernel
theorem dX0_sound_45 : decode cX0_sound 45 = .ok (.goto 13, 3) := by decide +kernel
theorem dX0_sound_48 : decode cX0_sound 48 = .ok (.aload_n 0, 1) := by decide +kernel
theorem dX0_sound_49 : decode cX0_sound 49 = .ok (.dup, 1) := by decide +kernel
theorem dX0_sound_50 : decode cX0_sound 50 = .ok (.getfield 73, 3) := by decide +kernel
theorem dX0_sound_53 : decode cX0_sound 53 = .ok (.iconst 1, 1) := by decide +kernel
theorem dX0_sound_54 : decode cX0_sound 54 = .ok (.iadd, 1) := by decide +kernel
theorem dX0_sound_55 : decode cX0_sound 55 = .ok (.putfield 73, 3) := by decide +kernel
theorem dX0_sound_58 : decode cX0_sound 58 = .ok (.return_, 1) := by decide +kernel
theorem dX0_allotFinder_0 : decode cX0_allotFinder 0 = .ok (.aload_n 0, 1) := by decide +kernel
theorem dX0_allotFinder_1 : decode cX0_allotFinder 1 = .ok (.invokevirtual 220, 3) := by decide +kernel
theorem dX0_allotFinder_4 : decode cX0_allotFinder 4 = .ok (.istore_n 1, 1) := by decide +kernel
theorem dX0_allotFinder_5 : decode cX0_allotFinder 5 = .ok (.iload_n 1, 1) := by decide +kernel
theorem dX0_allotFinder_6 : decode cX0_allotFinder 6 = .ok (.bipush (-6), 2) := by decide +kernel
theorem dX0_allotFinder_8 : decode cX0_allotFinder 8 = .ok (.if_icmp .ne 4, 3) := by decide +kernel
theorem dX0_allotFinder_11 : decode cX0_allotFinder 11 = .ok (.return_, 1) := by decide +kernel
theorem dX0_allotFinder_12 : decode cX0_allotFinder 12 = .ok (.aload_n 0, 1) := by decide +kernel
theorem dX0_allotFinder_13 : decode cX0_allotFinder 13 = .ok (.invokevirtual 223, 3) := by decide +kernel
theorem dX0_allotFinder_16 : decode cX0_allotFinder 16 = .ok (.istore_n 2, 1) := by decide +kernel
theorem dX0_allotFinder_17 : decode cX0_allotFinder 17 = .ok (.iload_n 2, 1) := by decide +kernel
theorem dX0_allotFinder_18 : decode cX0_allotFinder 18 = .ok (.bipush (-6), 2) := by decide +kernel
theorem dX0_allotFinder_20 : decode cX0_allotFinder 20 = .ok (.if_icmp .ne 4, 3) := by decide +kernel
theorem dX0_allotFinder_23 : decode cX0_allotFinder 23 = .ok (.return_, 1) := by decide +kernel
theorem dX0_allotFinder_24 : decode cX0_allotFinder 24 = .ok (.aload_n 0, 1) := by decide +kernel
theorem dX0_allotFinder_25 : decode cX0_allotFinder 25 = .ok (.iload_n 1, 1) := by decide +kernel
theorem dX0_allotFinder_26 : decode cX0_allotFinder 26 = .ok (.invokevirtual 90, 3) := by decide +kernel
theorem dX0_allotFinder_29 : decode cX0_allotFinder 29 = .ok (.astore_n 3, 1) := by decide +kernel
theorem dX0_allotFinder_30 : decode cX0_allotFinder 30 = .ok (.aload_n 3, 1) := by decide +kernel
theorem dX0_allotFinder_31 : decode cX0_allotFinder 31 = .ok (.iconst 1, 1) := by decide +kernel
theorem dX0_allotFinder_32 : decode cX0_allotFinder 32 = .ok (.invokevirtual 184, 3) := by decide +kernel
theorem dX0_allotFinder_35 : decode cX0_allotFinder 35 = .ok (.aload_n 3, 1) := by decide +kernel
theorem dX0_allotFinder_36 : decode cX0_allotFinder 36 = .ok (.iload_n 2, 1) := by decide +kernel
theorem dX0_allotFinder_37 : decode cX0_allotFinder 37 = .ok (.putfield 151, 3) := by decide +kernel
theorem dX0_allotFinder_40 : decode cX0_allotFinder 40 = .ok (.aload_n 0, 1) := by decide +kernel
theorem dX0_allotFinder_41 : decode cX0_allotFinder 41 = .ok (.iload_n 2, 1) := by decide +kernel
theorem dX0_allotFinder_42 : decode cX0_allotFinder 42 = .ok (.invokevirtual 83, 3) := by decide +kernel
theorem dX0_allotFinder_45 : decode cX0_allotFinder 45 = .ok (.iload_n 1, 1) := by decide +kernel
theorem dX0_allotFinder_46 : decode cX0_allotFinder 46 = .ok (.putfield 119, 3) := by decide +kernel
theorem dX0_allotFinder_49 : decode cX0_allotFinder 49 = .ok (.aload_n 0, 1) := by decide +kernel
theorem dX0_allotFinder_50 : decode cX0_allotFinder 50 = .ok (.iload_n 1, 1) := by decide +kernel
theorem dX0_allotFinder_51 : decode cX0_allotFinder 51 = .ok (.putfield 55, 3) := by decide +kernel
theorem dX0_allotFinder_54 : decode cX0_allotFinder 54 = .ok (.return_, 1) := by decide +kernel
theorem dX0_countParked_0 : decode cX0_countParked 0 = .ok (.aload_n 0, 1) := by decide +kernel
theorem dX0_countParked_1 : decode cX0_countParked 1 = .ok (.iconst 4, 1) := by decide +kernel
theorem dX0_countParked_2 : decode cX0_countParked 2 = .ok (.invokevirtual 79, 3) := by decide +kernel
theorem dX0_countParked_5 : decode cX0_countParked 5 = .ok (.istore_n 1, 1) := by decide +kernel
theorem dX0_countParked_6 : decode cX0_countParked 6 = .ok (.iconst 0, 1) := by decide +kernel
theorem dX0_countParked_7 : decode cX0_countParked 7 = .ok (.istore_n 2, 1) := by decide +kernel
theorem dX0_countParked_8 : decode cX0_countParked 8 = .ok (.iload_n 2, 1) := by decide +kernel
theorem dX0_countParked_9 : decode cX0_countParked 9 = .ok (.bipush 16, 2) := by decide +kernel
theorem dX0_countParked_11 : decode cX0_countParked 11 = .ok (.if_icmp .ge 18, 3) := by decide +kernel
theorem dX0_countParked_14 : decode cX0_countParked 14 = .ok (.aload_n 0, 1) := by decide +kernel
theorem dX0_countParked_15 : decode cX0_countParked 15 = .ok (.iload_n 2, 1) := by decide +kernel
theorem dX0_countParked_16 : decode cX0_countParked 16 = .ok (.invokevirtual 83, 3) := by decide +kernel
theorem dX0_countParked_19 : decode cX0_countParked 19 = .ok (.iload_n 1, 1) := by decide +kernel
theorem dX0_countParked_20 : decode cX0_countParked 20 = .ok (.invokevirtual 226, 3) := by decide +kernel
theorem dX0_countParked_23 : decode cX0_countParked 23 = .ok (.iinc 2 1, 3) := by decide +kernel
theorem dX0_countParked_26 : decode cX0_countParked 26 = .ok (.goto (-18), 3) := by decide +kernel
theorem dX0_countParked_29 : decode cX0_countParked 29 = .ok (.return_, 1) := by decide +kernel
theorem dX0_nextFreeFinder_0 : decode cX0_nextFreeFinder 0 = .ok (.iconst 1, 1) := by decide +kernel
theorem dX0_nextFreeFinder_1 : decode cX0_nextFreeFinder 1 = .ok (.istore_n 1, 1) := by decide +kernel
theorem dX0_nextFreeFinder_2 : decode cX0_nextFreeFinder 2 = .ok (.iload_n 1, 1) := by decide +kernel
theorem dX0_nextFreeFinder_3 : decode cX0_nextFreeFinder 3 = .ok (.aload_n 0, 1) := by decide +kernel
theorem dX0_nextFreeFinder_4 : decode cX0_nextFreeFinder 4 = .ok (.getfield 45, 3) := by decide +kernel
theorem dX0_nextFreeFinder_7 : decode cX0_nextFreeFinder 7 = .ok (.if_icmp .gt 44, 3) := by decide +kernel
theorem dX0_nextFreeFinder_10 : decode cX0_nextFreeFinder 10 = .ok (.aload_n 0, 1) := by decide +kernel
theorem dX0_nextFreeFinder_11 : decode cX0_nextFreeFinder 11 = .ok (.getfield 55, 3) := by decide +kernel
theorem dX0_nextFreeFinder_14 : decode cX0_nextFreeFinder 14 = .ok (.iload_n 1, 1) := by decide +kernel
theorem dX0_nextFreeFinder_15 : decode cX0_nextFreeFinder 15 = .ok (.iadd, 1) := by decide +kernel
theorem dX0_nextFreeFinder_16 : decode cX0_nextFreeFinder 16 = .ok (.istore_n 2, 1) := by decide +kernel
theorem dX0_nextFreeFinder_17 : decode cX0_nextFreeFinder 17 = .ok (.iload_n 2, 1) := by decide +kernel
theorem dX0_nextFreeFinder_18 : decode cX0_nextFreeFinder 18 = .ok (.aload_n 0, 1) := by decide +kernel
theorem dX0_nextFreeFinder_19 : decode cX0_nextFreeFinder 19 = .ok (.getfield 45, 3) := by decide +kernel
theorem dX0_nextFreeFinder_22 : decode cX0_nextFreeFinder 22 = .ok (.if_icmp .lt 10, 3) := by decide +kernel
theorem dX0_nextFreeFinder_25 : decode cX0_nextFreeFinder 25 = .ok (.iload_n 2, 1) := by decide +kernel
theorem dX0_nextFreeFinder_26 : decode cX0_nextFreeFinder 26 = .ok (.aload_n 0, 1) := by decide +kernel
theorem dX0_nextFreeFinder_27 : decode cX0_nextFreeFinder 27 = .ok (.getfield 45, 3) := by decide +kernel
theorem dX0_nextFreeFinder_30 : decode cX0_nextFreeFinder 30 = .ok (.isub, 1) := by decide +kernel
theorem dX0_nextFreeFinder_31 : decode cX0_nextFreeFinder 31 = .ok (.istore_n 2, 1) := by decide +kernel
theorem dX0_nextFreeFinder_32 : decode cX0_nextFreeFinder 32 = .ok (.aload_n 0, 1) := by decide +kernel
theorem dX0_nextFreeFinder_33 : decode cX0_nextFreeFinder 33 = .ok (.iload_n 2, 1) := by decide +kernel
theorem dX0_nextFreeFinder_34 : decode cX0_nextFreeFinder 34 = .ok (.invokevirtual 90, 3) := by decide +kernel
theorem dX0_nextFreeFinder_37 : decode cX0_nextFreeFinder 37 = .ok (.getfield 154, 3) := by decide +kernel
theorem dX0_nextFreeFinder_40 : decode cX0_nextFreeFinder 40 = .ok (.ifCond .ne 5, 3) := by decide +kernel
theorem dX0_nextFreeFinder_43 : decode cX0_nextFreeFinder 43 = .ok (.iload_n 2, 1) := by decide +kernel
theorem dX0_nextFreeFinder_44 : decode cX0_nextFreeFinder 44 = .ok (.ireturn, 1) := by decide +kernel
theorem dX0_nextFreeFinder_45 : decode cX0_nextFreeFinder 45 = .ok (.iinc 1 1, 3) := by decide +kernel
theorem dX0_nextFreeFinder_48 : decode cX0_nextFreeFinder 48 = .ok (.goto (-46), 3) := by decide +kernel
theorem dX0_nextFreeFinder_51 : decode cX0_nextFreeFinder 51 = .ok (.bipush (-6), 2) := by decide +kernel
theorem dX0_nextFreeFinder_53 : decode cX0_nextFreeFinder 53 = .ok (.ireturn, 1) := by decide +kernel
theorem dX0_firstWaitingLine_0 : decode cX0_firstWaitingLine 0 = .ok (.bipush (-6), 2) := by decide +kernel
theorem dX0_firstWaitingLine_2 : decode cX0_firstWaitingLine 2 = .ok (.istore_n 1, 1) := by decide +kernel
theorem dX0_firstWaitingLine_3 : decode cX0_firstWaitingLine 3 = .ok (.iconst 0, 1) := by decide +kernel
theorem dX0_firstWaitingLine_4 : decode cX0_firstWaitingLine 4 = .ok (.istore_n 2, 1) := by decide +kernel
theorem dX0_firstWaitingLine_5 : decode cX0_firstWaitingLine 5 = .ok (.iload_n 2, 1) := by decide +kernel
theorem dX0_firstWaitingLine_6 : decode cX0_firstWaitingLine 6 = .ok (.bipush 16, 2) := by decide +kernel
theorem dX0_firstWaitingLine_8 : decode cX0_firstWaitingLine 8 = .ok (.if_icmp .ge 45, 3) := by decide +kernel
theorem dX0_firstWaitingLine_11 : decode cX0_firstWaitingLine 11 = .ok (.aload_n 0, 1) := by decide +kernel
theorem dX0_firstWaitingLine_12 : decode cX0_firstWaitingLine 12 = .ok (.iload_n 2, 1) := by decide +kernel
theorem dX0_firstWaitingLine_13 : decode cX0_firstWaitingLine 13 = .ok (.invokevirtual 83, 3) := by decide +kernel
theorem dX0_firstWaitingLine_16 : decode cX0_firstWaitingLine 16 = .ok (.astore_n 3, 1) := by decide +kernel
theorem dX0_firstWaitingLine_17 : decode cX0_firstWaitingLine 17 = .ok (.aload_n 3, 1) := by decide +kernel
theorem dX0_firstWaitingLine_18 : decode cX0_firstWaitingLine 18 = .ok (.invokevirtual 229, 3) := by decide +kernel
theorem dX0_firstWaitingLine_21 : decode cX0_firstWaitingLine 21 = .ok (.ifCond .eq 26, 3) := by decide +kernel
theorem dX0_firstWaitingLine_24 : decode cX0_firstWaitingLine 24 = .ok (.iload_n 1, 1) := by decide +kernel
theorem dX0_firstWaitingLine_25 : decode cX0_firstWaitingLine 25 = .ok (.bipush (-6), 2) := by decide +kernel
theorem dX0_firstWaitingLine_27 : decode cX0_firstWaitingLine 27 = .ok (.if_icmp .eq 18, 3) := by decide +kernel
theorem dX0_firstWaitingLine_30 : decode cX0_firstWaitingLine 30 = .ok (.aload_n 3, 1) := by decide +kernel
theorem dX0_firstWaitingLine_31 : decode cX0_firstWaitingLine 31 = .ok (.getfield 112, 3) := by decide +kernel
theorem dX0_firstWaitingLine_34 : decode cX0_firstWaitingLine 34 = .ok (.aload_n 0, 1) := by decide +kernel
theorem dX0_firstWaitingLine_35 : decode cX0_firstWaitingLine 35 = .ok (.iload_n 1, 1) := by decide +kernel
theorem dX0_firstWaitingLine_36 : decode cX0_firstWaitingLine 36 = .ok (.invokevirtual 83, 3) := by decide +kernel
theorem dX0_firstWaitingLine_39 : decode cX0_firstWaitingLine 39 = .ok (.getfield 112, 3) := by decide +kernel
theorem dX0_firstWaitingLine_42 : decode cX0_firstWaitingLine 42 = .ok (.if_icmp .ge 5, 3) := by decide +kernel
theorem dX0_firstWaitingLine_45 : decode cX0_firstWaitingLine 45 = .ok (.iload_n 2, 1) := by decide +kernel
theorem dX0_firstWaitingLine_46 : decode cX0_firstWaitingLine 46 = .ok (.istore_n 1, 1) := by decide +kernel
theorem dX0_firstWaitingLine_47 : decode cX0_firstWaitingLine 47 = .ok (.iinc 2 1, 3) := by decide +kernel
theorem dX0_firstWaitingLine_50 : decode cX0_firstWaitingLine 50 = .ok (.goto (-45), 3) := by decide +kernel
theorem dX0_firstWaitingLine_53 : decode cX0_firstWaitingLine 53 = .ok (.iload_n 1, 1) := by decide +kernel
theorem dX0_firstWaitingLine_54 : decode cX0_firstWaitingLine 54 = .ok (.ireturn, 1) := by decide +kernel
theorem dX0_holderOf_0 : decode cX0_holderOf 0 = .ok (.iconst 0, 1) := by decide +kernel
theorem dX0_holderOf_1 : decode cX0_holderOf 1 = .ok (.istore_n 3, 1) := by decide +kernel
theorem dX0_holderOf_2 : decode cX0_holderOf 2 = .ok (.iload_n 3, 1) := by decide +kernel
theorem dX0_holderOf_3 : decode cX0_holderOf 3 = .ok (.aload_n 0, 1) := by decide +kernel
theorem dX0_holderOf_4 : decode cX0_holderOf 4 = .ok (.getfield 45, 3) := by decide +kernel
theorem dX0_holderOf_7 : decode cX0_holderOf 7 = .ok (.if_icmp .ge 44, 3) := by decide +kernel
theorem dX0_holderOf_10 : decode cX0_holderOf 10 = .ok (.aload_n 0, 1) := by decide +kernel
theorem dX0_holderOf_11 : decode cX0_holderOf 11 = .ok (.iload_n 3, 1) := by decide +kernel
theorem dX0_holderOf_12 : decode cX0_holderOf 12 = .ok (.invokevirtual 90, 3) := by decide +kernel
theorem dX0_holderOf_15 : decode cX0_holderOf 15 = .ok (.astore 4, 2) := by decide +kernel
theorem dX0_holderOf_17 : decode cX0_holderOf 17 = .ok (.aload 4, 2) := by decide +kernel
theorem dX0_holderOf_19 : decode cX0_holderOf 19 = .ok (.invokevirtual 232, 3) := by decide +kernel
theorem dX0_holderOf_22 : decode cX0_holderOf 22 = .ok (.ifCond .eq 23, 3) := by decide +kernel
theorem dX0_holderOf_25 : decode cX0_holderOf 25 = .ok (.aload 4, 2) := by decide +kernel
theorem dX0_holderOf_27 : decode cX0_holderOf 27 = .ok (.getfield 197, 3) := by decide +kernel
theorem dX0_holderOf_30 : decode cX0_holderOf 30 = .ok (.iload_n 1, 1) := by decide +kernel
theorem dX0_holderOf_31 : decode cX0_holderOf 31 = .ok (.if_icmp .ne 14, 3) := by decide +kernel
theorem dX0_holderOf_34 : decode cX0_holderOf 34 = .ok (.aload 4, 2) := by decide +kernel
theorem dX0_holderOf_36 : decode cX0_holderOf 36 = .ok (.getfield 204, 3) := by decide +kernel
theorem dX0_holderOf_39 : decode cX0_holderOf 39 = .ok (.iload_n 2, 1) := by decide +kernel
theorem dX0_holderOf_40 : decode cX0_holderOf 40 = .ok (.if_icmp .ne 5, 3) := by decide +kernel
theorem dX0_holderOf_43 : decode cX0_holderOf 43 = .ok (.iload_n 3, 1) := by decide +kernel
theorem dX0_holderOf_44 : decode cX0_holderOf 44 = .ok (.ireturn, 1) := by decide +kernel
theorem dX0_holderOf_45 : decode cX0_holderOf 45 = .ok (.iinc 3 1, 3) := by decide +kernel
theorem dX0_holderOf_48 : decode cX0_holderOf 48 = .ok (.goto (-46), 3) := by decide +kernel
theorem dX0_holderOf_51 : decode cX0_holderOf 51 = .ok (.bipush (-6), 2) := by decide +kernel
theorem dX0_holderOf_53 : decode cX0_holderOf 53 = .ok (.ireturn, 1) := by decide +kernel
theorem dX0_ticksUntil_0 : decode cX0_ticksUntil 0 = .ok (.iconst 0, 1) := by decide +kernel
theorem dX0_ticksUntil_1 : decode cX0_ticksUntil 1 = .ok (.istore 4, 2) := by decide +kernel
theorem dX0_ticksUntil_3 : decode cX0_ticksUntil 3 = .ok (.iload 4, 2) := by decide +kernel
theorem dX0_ticksUntil_5 : decode cX0_ticksUntil 5 = .ok (.iload_n 3, 1) := by decide +kernel
theorem dX0_ticksUntil_6 : decode cX0_ticksUntil 6 = .ok (.if_icmp .ge 29, 3) := by decide +kernel
theorem dX0_ticksUntil_9 : decode cX0_ticksUntil 9 = .ok (.aload_n 0, 1) := by decide +kernel
theorem dX0_ticksUntil_10 : decode cX0_ticksUntil 10 = .ok (.iload_n 1, 1) := by decide +kernel
theorem dX0_ticksUntil_11 : decode cX0_ticksUntil 11 = .ok (.invokevirtual 83, 3) := by decide +kernel
theorem dX0_ticksUntil_14 : decode cX0_ticksUntil 14 = .ok (.getfield 106, 3) := by decide +kernel
theorem dX0_ticksUntil_17 : decode cX0_ticksUntil 17 = .ok (.iload_n 2, 1) := by decide +kernel
theorem dX0_ticksUntil_18 : decode cX0_ticksUntil 18 = .ok (.if_icmp .ne 6, 3) := by decide +kernel
theorem dX0_ticksUntil_21 : decode cX0_ticksUntil 21 = .ok (.iload 4, 2) := by decide +kernel
theorem dX0_ticksUntil_23 : decode cX0_ticksUntil 23 = .ok (.ireturn, 1) := by decide +kernel
theorem dX0_ticksUntil_24 : decode cX0_ticksUntil 24 = .ok (.aload_n 0, 1) := by decide +kernel
theorem dX0_ticksUntil_25 : decode cX0_ticksUntil 25 = .ok (.iconst 1, 1) := by decide +kernel
theorem dX0_ticksUntil_26 : decode cX0_ticksUntil 26 = .ok (.invokevirtual 235, 3) := by decide +kernel
theorem dX0_ticksUntil_29 : decode cX0_ticksUntil 29 = .ok (.iinc 4 1, 3) := by decide +kernel
theorem dX0_ticksUntil_32 : decode cX0_ticksUntil 32 = .ok (.goto (-29), 3) := by decide +kernel
theorem dX0_ticksUntil_35 : decode cX0_ticksUntil 35 = .ok (.aload_n 0, 1) := by decide +kernel
theorem dX0_ticksUntil_36 : decode cX0_ticksUntil 36 = .ok (.iload_n 1, 1) := by decide +kernel
theorem dX0_ticksUntil_37 : decode cX0_ticksUntil 37 = .ok (.invokevirtual 83, 3) := by decide +kernel
theorem dX0_ticksUntil_40 : decode cX0_ticksUntil 40 = .ok (.getfield 106, 3) := by decide +kernel
theorem dX0_ticksUntil_43 : decode cX0_ticksUntil 43 = .ok (.iload_n 2, 1) := by decide +kernel
theorem dX0_ticksUntil_44 : decode cX0_ticksUntil 44 = .ok (.if_icmp .ne 7, 3) := by decide +kernel
theorem dX0_ticksUntil_47 : decode cX0_ticksUntil 47 = .ok (.iload_n 3, 1) := by decide +kernel
theorem dX0_ticksUntil_48 : decode cX0_ticksUntil 48 = .ok (.goto 5, 3) := by decide +kernel
theorem dX0_ticksUntil_51 : decode cX0_ticksUntil 51 = .ok (.bipush (-6), 2) := by decide +kernel
theorem dX0_ticksUntil_53 : decode cX0_ticksUntil 53 = .ok (.ireturn, 1) := by decide +kernel
theorem dX0_numberOfLine_0 : decode cX0_numberOfLine 0 = .ok (.aload_n 0, 1) := by decide +kernel
theorem dX0_numberOfLine_1 : decode cX0_numberOfLine 1 = .ok (.iload_n 1, 1) := by decide +kernel
theorem dX0_numberOfLine_2 : decode cX0_numberOfLine 2 = .ok (.invokevirtual 83, 3) := by decide +kernel
theorem dX0_numberOfLine_5 : decode cX0_numberOfLine 5 = .ok (.astore_n 3, 1) := by decide +kernel
theorem dX0_numberOfLine_6 : decode cX0_numberOfLine 6 = .ok (.iload_n 2, 1) := by decide +kernel
theorem dX0_numberOfLine_7 : decode cX0_numberOfLine 7 = .ok (.tableswitch 104 0 8 #[49, 54, 67, 72, 78, 83, 88, 93, 99], 49) := by decide +kernel
theorem dX0_numberOfLine_56 : decode cX0_numberOfLine 56 = .ok (.aload_n 3, 1) := by decide +kernel
theorem dX0_numberOfLine_57 : decode cX0_numberOfLine 57 = .ok (.getfield 106, 3) := by decide +kernel
theorem dX0_numberOfLine_60 : decode cX0_numberOfLine 60 = .ok (.ireturn, 1) := by decide +kernel
theorem dX0_numberOfLine_61 : decode cX0_numberOfLine 61 = .ok (.aload_n 3, 1) := by decide +kernel
theorem dX0_numberOfLine_62 : decode cX0_numberOfLine 62 = .ok (.getfield 102, 3) := by decide +kernel
theorem dX0_numberOfLine_65 : decode cX0_numberOfLine 65 = .ok (.ifCond .eq 7, 3) := by decide +kernel
theorem dX0_numberOfLine_68 : decode cX0_numberOfLine 68 = .ok (.iconst 1, 1) := by decide +kernel
theorem dX0_numberOfLine_69 : decode cX0_numberOfLine 69 = .ok (.goto 4, 3) := by decide +kernel
theorem dX0_numberOfLine_72 : decode cX0_numberOfLine 72 = .ok (.iconst 0, 1) := by decide +kernel
theorem dX0_numberOfLine_73 : decode cX0_numberOfLine 73 = .ok (.ireturn, 1) := by decide +kernel
theorem dX0_numberOfLine_74 : decode cX0_numberOfLine 74 = .ok (.aload_n 3, 1) := by decide +kernel
theorem dX0_numberOfLine_75 : decode cX0_numberOfLine 75 = .ok (.getfield 119, 3) := by decide +kernel
theorem dX0_numberOfLine_78 : decode cX0_numberOfLine 78 = .ok (.ireturn, 1) := by decide +kernel
theorem dX0_numberOfLine_79 : decode cX0_numberOfLine 79 = .ok (.aload_n 0, 1) := by decide +kernel
theorem dX0_numberOfLine_80 : decode cX0_numberOfLine 80 = .ok (.aload_n 3, 1) := by decide +kernel
theorem dX0_numberOfLine_81 : decode cX0_numberOfLine 81 = .ok (.invokevirtual 248, 3) := by decide +kernel
theorem dX0_numberOfLine_84 : decode cX0_numberOfLine 84 = .ok (.ireturn, 1) := by decide +kernel
theorem dX0_numberOfLine_85 : decode cX0_numberOfLine 85 = .ok (.aload_n 3, 1) := by decide +kernel
theorem dX0_numberOfLine_86 : decode cX0_numberOfLine 86 = .ok (.getfield 135, 3) := by decide +kernel
theorem dX0_numberOfLine_89 : decode cX0_numberOfLine 89 = .ok (.ireturn, 1) := by decide +kernel
theorem dX0_numberOfLine_90 : decode cX0_numberOfLine 90 = .ok (.aload_n 3, 1) := by decide +kernel
theorem dX0_numberOfLine_91 : decode cX0_numberOfLine 91 = .ok (.getfield 214, 3) := by decide +kernel
theorem dX0_numberOfLine_94 : decode cX0_numberOfLine 94 = .ok (.ireturn, 1) := by decide +kernel
theorem dX0_numberOfLine_95 : decode cX0_numberOfLine 95 = .ok (.aload_n 3, 1) := by decide +kernel
theorem dX0_numberOfLine_96 : decode cX0_numberOfLine 96 = .ok (.getfield 109, 3) := by decide +kernel
theorem dX0_numberOfLine_99 : decode cX0_numberOfLine 99 = .ok (.ireturn, 1) := by decide +kernel
theorem dX0_numberOfLine_100 : decode cX0_numberOfLine 100 = .ok (.aload_n 0, 1) := by decide +kernel
theorem dX0_numberOfLine_101 : decode cX0_numberOfLine 101 = .ok (.aload_n 3, 1) := by decide +kernel
theorem dX0_numberOfLine_102 : decode cX0_numberOfLine 102 = .ok (.invokevirtual 252, 3) := by decide +kernel
theorem dX0_numberOfLine_105 : decode cX0_numberOfLine 105 = .ok (.ireturn, 1) := by decide +kernel
theorem dX0_numberOfLine_106 : decode cX0_numberOfLine 106 = .ok (.aload_n 3, 1) := by decide +kernel
theorem dX0_numberOfLine_107 : decode cX0_numberOfLine 107 = .ok (.getfield 255, 3) := by decide +kernel
theorem dX0_numberOfLine_110 : decode cX0_numberOfLine 110 = .ok (.ireturn, 1) := by decide +kernel
theorem dX0_numberOfLine_111 : decode cX0_numberOfLine 111 = .ok (.bipush (-2), 2) := by decide +kernel
theorem dX0_numberOfLine_113 : decode cX0_numberOfLine 113 = .ok (.ireturn, 1) := by decide +kernel
theorem dX0_partnerOf_0 : decode cX0_partnerOf 0 = .ok (.aload_n 0, 1) := by decide +kernel
theorem dX0_partnerOf_1 : decode cX0_partnerOf 1 = .ok (.aload_n 1, 1) := by decide +kernel
theorem dX0_partnerOf_2 : decode cX0_partnerOf 2 = .ok (.getfield 119, 3) := by decide +kernel
theorem dX0_partnerOf_5 : decode cX0_partnerOf 5 = .ok (.invokevirtual 90, 3) := by decide +kernel
theorem dX0_partnerOf_8 : decode cX0_partnerOf 8 = .ok (.astore_n 2, 1) := by decide +kernel
theorem dX0_partnerOf_9 : decode cX0_partnerOf 9 = .ok (.aload_n 1, 1) := by decide +kernel
theorem dX0_partnerOf_10 : decode cX0_partnerOf 10 = .ok (.invokevirtual 258, 3) := by decide +kernel
theorem dX0_partnerOf_13 : decode cX0_partnerOf 13 = .ok (.ifCond .eq 8, 3) := by decide +kernel
theorem dX0_partnerOf_16 : decode cX0_partnerOf 16 = .ok (.aload_n 2, 1) := by decide +kernel
theorem dX0_partnerOf_17 : decode cX0_partnerOf 17 = .ok (.getfield 129, 3) := by decide +kernel
theorem dX0_partnerOf_20 : decode cX0_partnerOf 20 = .ok (.ireturn, 1) := by decide +kernel
theorem dX0_partnerOf_21 : decode cX0_partnerOf 21 = .ok (.aload_n 1, 1) := by decide +kernel
theorem dX0_partnerOf_22 : decode cX0_partnerOf 22 = .ok (.invokevirtual 115, 3) := by decide +kernel
theorem dX0_partnerOf_25 : decode cX0_partnerOf 25 = .ok (.ifCond .eq 10, 3) := by decide +kernel
theorem dX0_partnerOf_28 : decode cX0_partnerOf 28 = .ok (.aload_n 2, 1) := by decide +kernel
theorem dX0_partnerOf_29 : decode cX0_partnerOf 29 = .ok (.getfield 151, 3) := by decide +kernel
theorem dX0_partnerOf_32 : decode cX0_partnerOf 32 = .ok (.goto 5, 3) := by decide +kernel
theorem dX0_partnerOf_35 : decode cX0_partnerOf 35 = .ok (.bipush (-6), 2) := by decide +kernel
theorem dX0_partnerOf_37 : decode cX0_partnerOf 37 = .ok (.ireturn, 1) := by decide +kernel
theorem dX0_placeOf_0 : decode cX0_placeOf 0 = .ok (.aload_n 1, 1) := by decide +kernel
theorem dX0_placeOf_1 : decode cX0_placeOf 1 = .ok (.invokevirtual 229, 3) := by decide +kernel
theorem dX0_placeOf_4 : decode cX0_placeOf 4 = .ok (.ifCond .ne 6, 3) := by decide +kernel
theorem dX0_placeOf_7 : decode cX0_placeOf 7 = .ok (.bipush (-6), 2) := by decide +kernel
theorem dX0_placeOf_9 : decode cX0_placeOf 9 = .ok (.ireturn, 1) := by decide +kernel
theorem dX0_placeOf_10 : decode cX0_placeOf 10 = .ok (.iconst 0, 1) := by decide +kernel
theorem dX0_placeOf_11 : decode cX0_placeOf 11 = .ok (.istore_n 2, 1) := by decide +kernel
theorem dX0_placeOf_12 : decode cX0_placeOf 12 = .ok (.iconst 0, 1) := by decide +kernel
theorem dX0_placeOf_13 : decode cX0_placeOf 13 = .ok (.istore_n 3, 1) := by decide +kernel
theorem dX0_placeOf_14 : decode cX0_placeOf 14 = .ok (.iload_n 3, 1) := by decide +kernel
theorem dX0_placeOf_15 : decode cX0_placeOf 15 = .ok (.bipush 16, 2) := by decide +kernel
theorem dX0_placeOf_17 : decode cX0_placeOf 17 = .ok (.if_icmp .ge 38, 3) := by decide +kernel
theorem dX0_placeOf_20 : decode cX0_placeOf 20 = .ok (.aload_n 0, 1) := by decide +kernel
theorem dX0_placeOf_21 : decode cX0_placeOf 21 = .ok (.iload_n 3, 1) := by decide +kernel
theorem dX0_placeOf_22 : decode cX0_placeOf 22 = .ok (.invokevirtual 83, 3) := by decide +kernel
theorem dX0_placeOf_25 : decode cX0_placeOf 25 = .ok (.invokevirtual 229, 3) := by decide +kernel
theorem dX0_placeOf_28 : decode cX0_placeOf 28 = .ok (.ifCond .eq 21, 3) := by decide +kernel
theorem dX0_placeOf_31 : decode cX0_placeOf 31 = .ok (.aload_n 0, 1) := by decide +kernel
theorem dX0_placeOf_32 : decode cX0_placeOf 32 = .ok (.iload_n 3, 1) := by decide +kernel
theorem dX0_placeOf_33 : decode cX0_placeOf 33 = .ok (.invokevirtual 83, 3) := by decide +kernel
theorem dX0_placeOf_36 : decode cX0_placeOf 36 = .ok (.getfield 112, 3) := by decide +kernel
theorem dX0_placeOf_39 : decode cX0_placeOf 39 = .ok (.aload_n 1, 1) := by decide +kernel
theorem dX0_placeOf_40 : decode cX0_placeOf 40 = .ok (.getfield 112, 3) := by decide +kernel
theorem dX0_placeOf_43 : decode cX0_placeOf 43 = .ok (.if_icmp .ge 6, 3) := by decide +kernel
theorem dX0_placeOf_46 : decode cX0_placeOf 46 = .ok (.iinc 2 1, 3) := by decide +kernel
theorem dX0_placeOf_49 : decode cX0_placeOf 49 = .ok (.iinc 3 1, 3) := by decide +kernel
theorem dX0_placeOf_52 : decode cX0_placeOf 52 = .ok (.goto (-38), 3) := by decide +kernel
theorem dX0_placeOf_55 : decode cX0_placeOf 55 = .ok (.iload_n 2, 1) := by decide +kernel
theorem dX0_placeOf_56 : decode cX0_placeOf 56 = .ok (.ireturn, 1) := by decide +kernel
theorem dX0_traceFrom_0 : decode cX0_traceFrom 0 = .ok (.aload_n 0, 1) := by decide +kernel
theorem dX0_traceFrom_1 : decode cX0_traceFrom 1 = .ok (.iload_n 1, 1) := by decide +kernel
theorem dX0_traceFrom_2 : decode cX0_traceFrom 2 = .ok (.invokevirtual 83, 3) := by decide +kernel
theorem dX0_traceFrom_5 : decode cX0_traceFrom 5 = .ok (.astore_n 3, 1) := by decide +kernel
theorem dX0_traceFrom_6 : decode cX0_traceFrom 6 = .ok (.aload_n 3, 1) := by decide +kernel
theorem dX0_traceFrom_7 : decode cX0_traceFrom 7 = .ok (.invokevirtual 115, 3) := by decide +kernel
theorem dX0_traceFrom_10 : decode cX0_traceFrom 10 = .ok (.ifCond .ne 6, 3) := by decide +kernel
theorem dX0_traceFrom_13 : decode cX0_traceFrom 13 = .ok (.bipush (-6), 2) := by decide +kernel
theorem dX0_traceFrom_15 : decode cX0_traceFrom 15 = .ok (.ireturn, 1) := by decide +kernel
theorem dX0_traceFrom_16 : decode cX0_traceFrom 16 = .ok (.iload_n 2, 1) := by decide +kernel
theorem dX0_traceFrom_17 : decode cX0_traceFrom 17 = .ok (.iconst 1, 1) := by decide +kernel
theorem dX0_traceFrom_18 : decode cX0_traceFrom 18 = .ok (.if_icmp .ne 8, 3) := by decide +kernel
theorem dX0_traceFrom_21 : decode cX0_traceFrom 21 = .ok (.aload_n 3, 1) := by decide +kernel
theorem dX0_traceFrom_22 : decode cX0_traceFrom 22 = .ok (.getfield 119, 3) := by decide +kernel
theorem dX0_traceFrom_25 : decode cX0_traceFrom 25 = .ok (.ireturn, 1) := by decide +kernel
theorem dX0_traceFrom_26 : decode cX0_traceFrom 26 = .ok (.aload_n 0, 1) := by decide +kernel
theorem dX0_traceFrom_27 : decode cX0_traceFrom 27 = .ok (.aload_n 3, 1) := by decide +kernel
theorem dX0_traceFrom_28 : decode cX0_traceFrom 28 = .ok (.getfield 119, 3) := by decide +kernel
theorem dX0_traceFrom_31 : decode cX0_traceFrom 31 = .ok (.invokevirtual 90, 3) := by decide +kernel
theorem dX0_traceFrom_34 : decode cX0_traceFrom 34 = .ok (.astore 4, 2) := by decide +kernel
theorem dX0_traceFrom_36 : decode cX0_traceFrom 36 = .ok (.iload_n 2, 1) := by decide +kernel
theorem dX0_traceFrom_37 : decode cX0_traceFrom 37 = .ok (.ifCond .ne 11, 3) := by decide +kernel
theorem dX0_traceFrom_40 : decode cX0_traceFrom 40 = .ok (.aload 4, 2) := by decide +kernel
theorem dX0_traceFrom_42 : decode cX0_traceFrom 42 = .ok (.getfield 204, 3) := by decide +kernel
theorem dX0_traceFrom_45 : decode cX0_traceFrom 45 = .ok (.goto 8, 3) := by decide +kernel
theorem dX0_traceFrom_48 : decode cX0_traceFrom 48 = .ok (.aload 4, 2) := by decide +kernel
theorem dX0_traceFrom_50 : decode cX0_traceFrom 50 = .ok (.getfield 151, 3) := by decide +kernel
theorem dX0_traceFrom_53 : decode cX0_traceFrom 53 = .ok (.ireturn, 1) := by decide +kernel
theorem dX0_numberFor_0 : decode cX0_numberFor 0 = .ok (.iload_n 1, 1) := by decide +kernel
theorem dX0_numberFor_1 : decode cX0_numberFor 1 = .ok (.tableswitch 141 0 13 #[71, 76, 81, 86, 91, 96, 101, 106, 111, 116, 121, 126, 131, 136], 71) := by decide +kernel
theorem dX0_numberFor_72 : decode cX0_numberFor 72 = .ok (.aload_n 0, 1) := by decide +kernel
theorem dX0_numberFor_73 : decode cX0_numberFor 73 = .ok (.getfield 52, 3) := by decide +kernel
theorem dX0_numberFor_76 : decode cX0_numberFor 76 = .ok (.ireturn, 1) := by decide +kernel
theorem dX0_numberFor_77 : decode cX0_numberFor 77 = .ok (.aload_n 0, 1) := by decide +kernel
theorem dX0_numberFor_78 : decode cX0_numberFor 78 = .ok (.getfield 45, 3) := by decide +kernel
theorem dX0_numberFor_81 : decode cX0_numberFor 81 = .ok (.ireturn, 1) := by decide +kernel
theorem dX0_numberFor_82 : decode cX0_numberFor 82 = .ok (.aload_n 0, 1) := by decide +kernel
theorem dX0_numberFor_83 : decode cX0_numberFor 83 = .ok (.getfield 49, 3) := by decide +kernel
theorem dX0_numberFor_86 : decode cX0_numberFor 86 = .ok (.ireturn, 1) := by decide +kernel
theorem dX0_numberFor_87 : decode cX0_numberFor 87 = .ok (.aload_n 0, 1) := by decide +kernel
theorem dX0_numberFor_88 : decode cX0_numberFor 88 = .ok (.invokevirtual 261, 3) := by decide +kernel
theorem dX0_numberFor_91 : decode cX0_numberFor 91 = .ok (.ireturn, 1) := by decide +kernel
theorem dX0_numberFor_92 : decode cX0_numberFor 92 = .ok (.aload_n 0, 1) := by decide +kernel
theorem dX0_numberFor_93 : decode cX0_numberFor 93 = .ok (.invokevirtual 264, 3) := by decide +kernel
theorem dX0_numberFor_96 : decode cX0_numberFor 96 = .ok (.ireturn, 1) := by decide +kernel
theorem dX0_numberFor_97 : decode cX0_numberFor 97 = .ok (.aload_n 0, 1) := by decide +kernel
theorem dX0_numberFor_98 : decode cX0_numberFor 98 = .ok (.invokevirtual 267, 3) := by decide +kernel
theorem dX0_numberFor_101 : decode cX0_numberFor 101 = .ok (.ireturn, 1) := by decide +kernel
theorem dX0_numberFor_102 : decode cX0_numberFor 102 = .ok (.aload_n 0, 1) := by decide +kernel
theorem dX0_numberFor_103 : decode cX0_numberFor 103 = .ok (.getfield 58, 3) := by decide +kernel
theorem dX0_numberFor_106 : decode cX0_numberFor 106 = .ok (.ireturn, 1) := by decide +kernel
theorem dX0_numberFor_107 : decode cX0_numberFor 107 = .ok (.aload_n 0, 1) := by decide +kernel
theorem dX0_numberFor_108 : decode cX0_numberFor 108 = .ok (.getfield 61, 3) := by decide +kernel
theorem dX0_numberFor_111 : decode cX0_numberFor 111 = .ok (.ireturn, 1) := by decide +kernel
theorem dX0_numberFor_112 : decode cX0_numberFor 112 = .ok (.aload_n 0, 1) := by decide +kernel
theorem dX0_numberFor_113 : decode cX0_numberFor 113 = .ok (.getfield 64, 3) := by decide +kernel
theorem dX0_numberFor_116 : decode cX0_numberFor 116 = .ok (.ireturn, 1) := by decide +kernel
theorem dX0_numberFor_117 : decode cX0_numberFor 117 = .ok (.aload_n 0, 1) := by decide +kernel
theorem dX0_numberFor_118 : decode cX0_numberFor 118 = .ok (.getfield 67, 3) := by decide +kernel
theorem dX0_numberFor_121 : decode cX0_numberFor 121 = .ok (.ireturn, 1) := by decide +kernel
theorem dX0_numberFor_122 : decode cX0_numberFor 122 = .ok (.aload_n 0, 1) := by decide +kernel
theorem dX0_numberFor_123 : decode cX0_numberFor 123 = .ok (.getfield 70, 3) := by decide +kernel
theorem dX0_numberFor_126 : decode cX0_numberFor 126 = .ok (.ireturn, 1) := by decide +kernel
theorem dX0_numberFor_127 : decode cX0_numberFor 127 = .ok (.aload_n 0, 1) := by decide +kernel
theorem dX0_numberFor_128 : decode cX0_numberFor 128 = .ok (.getfield 73, 3) := by decide +kernel
theorem dX0_numberFor_131 : decode cX0_numberFor 131 = .ok (.ireturn, 1) := by decide +kernel
theorem dX0_numberFor_132 : decode cX0_numberFor 132 = .ok (.aload_n 0, 1) := by decide +kernel
theorem dX0_numberFor_133 : decode cX0_numberFor 133 = .ok (.getfield 76, 3) := by decide +kernel
theorem dX0_numberFor_136 : decode cX0_numberFor 136 = .ok (.ireturn, 1) := by decide +kernel
theorem dX0_numberFor_137 : decode cX0_numberFor 137 = .ok (.aload_n 0, 1) := by decide +kernel
theorem dX0_numberFor_138 : decode cX0_numberFor 138 = .ok (.invokevirtual 270, 3) := by decide +kernel
theorem dX0_numberFor_141 : decode cX0_numberFor 141 = .ok (.ireturn, 1) := by decide +kernel
theorem dX0_numberFor_142 : decode cX0_numberFor 142 = .ok (.aload_n 0, 1) := by decide +kernel
theorem dX0_numberFor_143 : decode cX0_numberFor 143 = .ok (.iload_n 1, 1) := by decide +kernel
theorem dX0_numberFor_144 : decode cX0_numberFor 144 = .ok (.bipush 15, 2) := by decide +kernel
theorem dX0_numberFor_146 : decode cX0_numberFor 146 = .ok (.isub, 1) := by decide +kernel
theorem dX0_numberFor_147 : decode cX0_numberFor 147 = .ok (.invokevirtual 79, 3) := by decide +kernel
theorem dX0_numberFor_150 : decode cX0_numberFor 150 = .ok (.ireturn, 1) := by decide +kernel
theorem dX0_freeFinders_0 : decode cX0_freeFinders 0 = .ok (.iconst 0, 1) := by decide +kernel
theorem dX0_freeFinders_1 : decode cX0_freeFinders 1 = .ok (.istore_n 1, 1) := by decide +kernel
theorem dX0_freeFinders_2 : decode cX0_freeFinders 2 = .ok (.iconst 0, 1) := by decide +kernel
theorem dX0_freeFinders_3 : decode cX0_freeFinders 3 = .ok (.istore_n 2, 1) := by decide +kernel
theorem dX0_freeFinders_4 : decode cX0_freeFinders 4 = .ok (.iload_n 2, 1) := by decide +kernel
theorem dX0_freeFinders_5 : decode cX0_freeFinders 5 = .ok (.aload_n 0, 1) := by decide +kernel
theorem dX0_freeFinders_6 : decode cX0_freeFinders 6 = .ok (.getfield 45, 3) := by decide +kernel
theorem dX0_freeFinders_9 : decode cX0_freeFinders 9 = .ok (.if_icmp .ge 23, 3) := by decide +kernel
theorem dX0_freeFinders_12 : decode cX0_freeFinders 12 = .ok (.aload_n 0, 1) := by decide +kernel
theorem dX0_freeFinders_13 : decode cX0_freeFinders 13 = .ok (.iload_n 2, 1) := by decide +kernel
theorem dX0_freeFinders_14 : decode cX0_freeFinders 14 = .ok (.invokevirtual 90, 3) := by decide +kernel
theorem dX0_freeFinders_17 : decode cX0_freeFinders 17 = .ok (.getfield 154, 3) := by decide +kernel
theorem dX0_freeFinders_20 : decode cX0_freeFinders 20 = .ok (.ifCond .ne 6, 3) := by decide +kernel
theorem dX0_freeFinders_23 : decode cX0_freeFinders 23 = .ok (.iinc 1 1, 3) := by decide +kernel
theorem dX0_freeFinders_26 : decode cX0_freeFinders 26 = .ok (.iinc 2 1, 3) := by decide +kernel
theorem dX0_freeFinders_29 : decode cX0_freeFinders 29 = .ok (.goto (-25), 3) := by decide +kernel
theorem dX0_freeFinders_32 : decode cX0_freeFinders 32 = .ok (.iload_n 1, 1) := by decide +kernel
theorem dX0_freeFinders_33 : decode cX0_freeFinders 33 = .ok (.ireturn, 1) := by decide +kernel
theorem dX0_freeConnectors_0 : decode cX0_freeConnectors 0 = .ok (.iconst 4, 1) := by decide +kernel
theorem dX0_freeConnectors_1 : decode cX0_freeConnectors 1 = .ok (.aload_n 0, 1) := by decide +kernel
theorem dX0_freeConnectors_2 : decode cX0_freeConnectors 2 = .ok (.getfield 49, 3) := by decide +kernel
theorem dX0_freeConnectors_5 : decode cX0_freeConnectors 5 = .ok (.imul, 1) := by decide +kernel
theorem dX0_freeConnectors_6 : decode cX0_freeConnectors 6 = .ok (.istore_n 1, 1) := by decide +kernel
theorem dX0_freeConnectors_7 : decode cX0_freeConnectors 7 = .ok (.iconst 0, 1) := by decide +kernel
theorem dX0_freeConnectors_8 : decode cX0_freeConnectors 8 = .ok (.istore_n 2, 1) := by decide +kernel
theorem dX0_freeConnectors_9 : decode cX0_freeConnectors 9 = .ok (.iload_n 2, 1) := by decide +kernel
theorem dX0_freeConnectors_10 : decode cX0_freeConnectors 10 = .ok (.aload_n 0, 1) := by decide +kernel
theorem dX0_freeConnectors_11 : decode cX0_freeConnectors 11 = .ok (.getfield 45, 3) := by decide +kernel
theorem dX0_freeConnectors_14 : decode cX0_freeConnectors 14 = .ok (.if_icmp .ge 23, 3) := by decide +kernel
theorem dX0_freeConnectors_17 : decode cX0_freeConnectors 17 = .ok (.aload_n 0, 1) := by decide +kernel
theorem dX0_freeConnectors_18 : decode cX0_freeConnectors 18 = .ok (.iload_n 2, 1) := by decide +kernel
theorem dX0_freeConnectors_19 : decode cX0_freeConnectors 19 = .ok (.invokevirtual 90, 3) := by decide +kernel
theorem dX0_freeConnectors_22 : decode cX0_freeConnectors 22 = .ok (.invokevirtual 232, 3) := by decide +kernel
theorem dX0_freeConnectors_25 : decode cX0_freeConnectors 25 = .ok (.ifCond .eq 6, 3) := by decide +kernel
theorem dX0_freeConnectors_28 : decode cX0_freeConnectors 28 = .ok (.iinc 1 (-1), 3) := by decide +kernel
theorem dX0_freeConnectors_31 : decode cX0_freeConnectors 31 = .ok (.iinc 2 1, 3) := by decide +kernel
theorem dX0_freeConnectors_34 : decode cX0_freeConnectors 34 = .ok (.goto (-25), 3) := by decide +kernel
theorem dX0_freeConnectors_37 : decode cX0_freeConnectors 37 = .ok (.iload_n 1, 1) := by decide +kernel
theorem dX0_freeConnectors_38 : decode cX0_freeConnectors 38 = .ok (.ireturn, 1) := by decide +kernel
theorem dX0_sumOfMeters_0 : decode cX0_sumOfMeters 0 = .ok (.iconst 0, 1) := by decide +kernel
theorem dX0_sumOfMeters_1 : decode cX0_sumOfMeters 1 = .ok (.istore_n 1, 1) := by decide +kernel
theorem dX0_sumOfMeters_2 : decode cX0_sumOfMeters 2 = .ok (.iconst 0, 1) := by decide +kernel
theorem dX0_sumOfMeters_3 : decode cX0_sumOfMeters 3 = .ok (.istore_n 2, 1) := by decide +kernel
theorem dX0_sumOfMeters_4 : decode cX0_sumOfMeters 4 = .ok (.iload_n 2, 1) := by decide +kernel
theorem dX0_sumOfMeters_5 : decode cX0_sumOfMeters 5 = .ok (.bipush 16, 2) := by decide +kernel
theorem dX0_sumOfMeters_7 : decode cX0_sumOfMeters 7 = .ok (.if_icmp .ge 20, 3) := by decide +kernel
theorem dX0_sumOfMeters_10 : decode cX0_sumOfMeters 10 = .ok (.iload_n 1, 1) := by decide +kernel
theorem dX0_sumOfMeters_11 : decode cX0_sumOfMeters 11 = .ok (.aload_n 0, 1) := by decide +kernel
theorem dX0_sumOfMeters_12 : decode cX0_sumOfMeters 12 = .ok (.iload_n 2, 1) := by decide +kernel
theorem dX0_sumOfMeters_13 : decode cX0_sumOfMeters 13 = .ok (.invokevirtual 83, 3) := by decide +kernel
theorem dX0_sumOfMeters_16 : decode cX0_sumOfMeters 16 = .ok (.getfield 214, 3) := by decide +kernel
theorem dX0_sumOfMeters_19 : decode cX0_sumOfMeters 19 = .ok (.iadd, 1) := by decide +kernel
theorem dX0_sumOfMeters_20 : decode cX0_sumOfMeters 20 = .ok (.istore_n 1, 1) := by decide +kernel
theorem dX0_sumOfMeters_21 : decode cX0_sumOfMeters 21 = .ok (.iinc 2 1, 3) := by decide +kernel
theorem dX0_sumOfMeters_24 : decode cX0_sumOfMeters 24 = .ok (.goto (-20), 3) := by decide +kernel
theorem dX0_sumOfMeters_27 : decode cX0_sumOfMeters 27 = .ok (.iload_n 1, 1) := by decide +kernel
theorem dX0_sumOfMeters_28 : decode cX0_sumOfMeters 28 = .ok (.ireturn, 1) := by decide +kernel
theorem dX0_liftedLines_0 : decode cX0_liftedLines 0 = .ok (.iconst 0, 1) := by decide +kernel
theorem dX0_liftedLines_1 : decode cX0_liftedLines 1 = .ok (.istore_n 1, 1) := by decide +kernel
theorem dX0_liftedLines_2 : decode cX0_liftedLines 2 = .ok (.iconst 0, 1) := by decide +kernel
theorem dX0_liftedLines_3 : decode cX0_liftedLines 3 = .ok (.istore_n 2, 1) := by decide +kernel
theorem dX0_liftedLines_4 : decode cX0_liftedLines 4 = .ok (.iload_n 2, 1) := by decide +kernel
theorem dX0_liftedLines_5 : decode cX0_liftedLines 5 = .ok (.bipush 16, 2) := by decide +kernel
theorem dX0_liftedLines_7 : decode cX0_liftedLines 7 = .ok (.if_icmp .ge 23, 3) := by decide +kernel
theorem dX0_liftedLines_10 : decode cX0_liftedLines 10 = .ok (.aload_n 0, 1) := by decide +kernel
theorem dX0_liftedLines_11 : decode cX0_liftedLines 11 = .ok (.iload_n 2, 1) := by decide +kernel
theorem dX0_liftedLines_12 : decode cX0_liftedLines 12 = .ok (.invokevirtual 83, 3) := by decide +kernel
theorem dX0_liftedLines_15 : decode cX0_liftedLines 15 = .ok (.getfield 102, 3) := by decide +kernel
theorem dX0_liftedLines_18 : decode cX0_liftedLines 18 = .ok (.ifCond .eq 6, 3) := by decide +kernel
theorem dX0_liftedLines_21 : decode cX0_liftedLines 21 = .ok (.iinc 1 1, 3) := by decide +kernel
theorem dX0_liftedLines_24 : decode cX0_liftedLines 24 = .ok (.iinc 2 1, 3) := by decide +kernel
theorem dX0_liftedLines_27 : decode cX0_liftedLines 27 = .ok (.goto (-23), 3) := by decide +kernel
theorem dX0_liftedLines_30 : decode cX0_liftedLines 30 = .ok (.iload_n 1, 1) := by decide +kernel
theorem dX0_liftedLines_31 : decode cX0_liftedLines 31 = .ok (.ireturn, 1) := by decide +kernel
theorem dX1_init_0 : decode cX1_init 0 = .ok (.aload_n 0, 1) := by decide +kernel
theorem dX1_init_1 : decode cX1_init 1 = .ok (.invokespecial 3, 3) := by decide +kernel
theorem dX1_init_4 : decode cX1_init 4 = .ok (.aload_n 0, 1) := by decide +kernel
theorem dX1_init_5 : decode cX1_init 5 = .ok (.iconst 0, 1) := by decide +kernel
theorem dX1_init_6 : decode cX1_init 6 = .ok (.putfield 9, 3) := by decide +kernel
theorem dX1_init_9 : decode cX1_init 9 = .ok (.aload_n 0, 1) := by decide +kernel
theorem dX1_init_10 : decode cX1_init 10 = .ok (.iconst 0, 1) := by decide +kernel
theorem dX1_init_11 : decode cX1_init 11 = .ok (.putfield 15, 3) := by decide +kernel
theorem dX1_init_14 : decode cX1_init 14 = .ok (.aload_n 0, 1) := by decide +kernel
theorem dX1_init_15 : decode cX1_init 15 = .ok (.bipush (-6), 2) := by decide +kernel
theorem dX1_init_17 : decode cX1_init 17 = .ok (.putfield 18, 3) := by decide +kernel
theorem dX1_init_20 : decode cX1_init 20 = .ok (.aload_n 0, 1) := by decide +kernel
theorem dX1_init_21 : decode cX1_init 21 = .ok (.iconst 0, 1) := by decide +kernel
theorem dX1_init_22 : decode cX1_init 22 = .ok (.putfield 21, 3) := by decide +kernel
theorem dX1_init_25 : decode cX1_init 25 = .ok (.aload_n 0, 1) := by decide +kernel
theorem dX1_init_26 : decode cX1_init 26 = .ok (.bipush (-6), 2) := by decide +kernel
theorem dX1_init_28 : decode cX1_init 28 = .ok (.putfield 24, 3) := by decide +kernel
theorem dX1_init_31 : decode cX1_init 31 = .ok (.aload_n 0, 1) := by decide +kernel
theorem dX1_init_32 : decode cX1_init 32 = .ok (.iconst 0, 1) := by decide +kernel
theorem dX1_init_33 : decode cX1_init 33 = .ok (.putfield 27, 3) := by decide +kernel
theorem dX1_init_36 : decode cX1_init 36 = .ok (.aload_n 0, 1) := by decide +kernel
theorem dX1_init_37 : decode cX1_init 37 = .ok (.iconst 0, 1) := by decide +kernel
theorem dX1_init_38 : decode cX1_init 38 = .ok (.putfield 30, 3) := by decide +kernel
theorem dX1_init_41 : decode cX1_init 41 = .ok (.aload_n 0, 1) := by decide +kernel
theorem dX1_init_42 : decode cX1_init 42 = .ok (.iconst 0, 1) := by decide +kernel
theorem dX1_init_43 : decode cX1_init 43 = .ok (.putfield 33, 3) := by decide +kernel
theorem dX1_init_46 : decode cX1_init 46 = .ok (.aload_n 0, 1) := by decide +kernel
theorem dX1_init_47 : decode cX1_init 47 = .ok (.iconst 0, 1) := by decide +kernel
theorem dX1_init_48 : decode cX1_init 48 = .ok (.putfield 36, 3) := by decide +kernel
theorem dX1_init_51 : decode cX1_init 51 = .ok (.aload_n 0, 1) := by decide +kernel
theorem dX1_init_52 : decode cX1_init 52 = .ok (.bipush (-6), 2) := by decide +kernel
theorem dX1_init_54 : decode cX1_init 54 = .ok (.putfield 39, 3) := by decide +kernel
theorem dX1_init_57 : decode cX1_init 57 = .ok (.return_, 1) := by decide +kernel
theorem dX1_renew_0 : decode cX1_renew 0 = .ok (.aload_n 0, 1) := by decide +kernel
theorem dX1_renew_1 : decode cX1_renew 1 = .ok (.invokevirtual 42, 3) := by decide +kernel
theorem dX1_renew_4 : decode cX1_renew 4 = .ok (.aload_n 0, 1) := by decide +kernel
theorem dX1_renew_5 : decode cX1_renew 5 = .ok (.iconst 0, 1) := by decide +kernel
theorem dX1_renew_6 : decode cX1_renew 6 = .ok (.putfield 15, 3) := by decide +kernel
theorem dX1_renew_9 : decode cX1_renew 9 = .ok (.return_, 1) := by decide +kernel
theorem dX1_copyFrom_0 : decode cX1_copyFrom 0 = .ok (.aload_n 0, 1) := by decide +kernel
theorem dX1_copyFrom_1 : decode cX1_copyFrom 1 = .ok (.aload_n 1, 1) := by decide +kernel
theorem dX1_copyFrom_2 : decode cX1_copyFrom 2 = .ok (.getfield 9, 3) := by decide +kernel
theorem dX1_copyFrom_5 : decode cX1_copyFrom 5 = .ok (.putfield 9, 3) := by decide +kernel
theorem dX1_copyFrom_8 : decode cX1_copyFrom 8 = .ok (.aload_n 0, 1) := by decide +kernel
theorem dX1_copyFrom_9 : decode cX1_copyFrom 9 = .ok (.aload_n 1, 1) := by decide +kernel
theorem dX1_copyFrom_10 : decode cX1_copyFrom 10 = .ok (.getfield 15, 3) := by decide +kernel
theorem dX1_copyFrom_13 : decode cX1_copyFrom 13 = .ok (.putfield 15, 3) := by decide +kernel
theorem dX1_copyFrom_16 : decode cX1_copyFrom 16 = .ok (.aload_n 0, 1) := by decide +kernel
theorem dX1_copyFrom_17 : decode cX1_copyFrom 17 = .ok (.aload_n 1, 1) := by decide +kernel
theorem dX1_copyFrom_18 : decode cX1_copyFrom 18 = .ok (.getfield 18, 3) := by decide +kernel
theorem dX1_copyFrom_21 : decode cX1_copyFrom 21 = .ok (.putfield 18, 3) := by decide +kernel
theorem dX1_copyFrom_24 : decode cX1_copyFrom 24 = .ok (.aload_n 0, 1) := by decide +kernel
theorem dX1_copyFrom_25 : decode cX1_copyFrom 25 = .ok (.aload_n 1, 1) := by decide +kernel
theorem dX1_copyFrom_26 : decode cX1_copyFrom 26 = .ok (.getfield 21, 3) := by decide +kernel
theorem dX1_copyFrom_29 : decode cX1_copyFrom 29 = .ok (.putfield 21, 3) := by decide +kernel
theorem dX1_copyFrom_32 : decode cX1_copyFrom 32 = .ok (.aload_n 0, 1) := by decide +kernel
theorem dX1_copyFrom_33 : decode cX1_copyFrom 33 = .ok (.aload_n 1, 1) := by decide +kernel
theorem dX1_copyFrom_34 : decode cX1_copyFrom 34 = .ok (.getfield 24, 3) := by decide +kernel
theorem dX1_copyFrom_37 : decode cX1_copyFrom 37 = .ok (.putfield 24, 3) := by decide +kernel
theorem dX1_copyFrom_40 : decode cX1_copyFrom 40 = .ok (.aload_n 0, 1) := by decide +kernel
theorem dX1_copyFrom_41 : decode cX1_copyFrom 41 = .ok (.aload_n 1, 1) := by decide +kernel
theorem dX1_copyFrom_42 : decode cX1_copyFrom 42 = .ok (.getfield 27, 3) := by decide +kernel
theorem dX1_copyFrom_45 : decode cX1_copyFrom 45 = .ok (.putfield 27, 3) := by decide +kernel
theorem dX1_copyFrom_48 : decode cX1_copyFrom 48 = .ok (.aload_n 0, 1) := by decide +kernel
theorem dX1_copyFrom_49 : decode cX1_copyFrom 49 = .ok (.aload_n 1, 1) := by decide +kernel
theorem dX1_copyFrom_50 : decode cX1_copyFrom 50 = .ok (.getfield 30, 3) := by decide +kernel
theorem dX1_copyFrom_53 : decode cX1_copyFrom 53 = .ok (.putfield 30, 3) := by decide +kernel
theorem dX1_copyFrom_56 : decode cX1_copyFrom 56 = .ok (.aload_n 0, 1) := by decide +kernel
theorem dX1_copyFrom_57 : decode cX1_copyFrom 57 = .ok (.aload_n 1, 1) := by decide +kernel
theorem dX1_copyFrom_58 : decode cX1_copyFrom 58 = .ok (.getfield 33, 3) := by decide +kernel
theorem dX1_copyFrom_61 : decode cX1_copyFrom 61 = .ok (.putfield 33, 3) := by decide +kernel
theorem dX1_copyFrom_64 : decode cX1_copyFrom 64 = .ok (.aload_n 0, 1) := by decide +kernel
theorem dX1_copyFrom_65 : decode cX1_copyFrom 65 = .ok (.aload_n 1, 1) := by decide +kernel
theorem dX1_copyFrom_66 : decode cX1_copyFrom 66 = .ok (.getfield 36, 3) := by decide +kernel
theorem dX1_copyFrom_69 : decode cX1_copyFrom 69 = .ok (.putfield 36, 3) := by decide +kernel
theorem dX1_copyFrom_72 : decode cX1_copyFrom 72 = .ok (.aload_n 0, 1) := by decide +kernel
theorem dX1_copyFrom_73 : decode cX1_copyFrom 73 = .ok (.aload_n 1, 1) := by decide +kernel
theorem dX1_copyFrom_74 : decode cX1_copyFrom 74 = .ok (.getfield 39, 3) := by decide +kernel
theorem dX1_copyFrom_77 : decode cX1_copyFrom 77 = .ok (.putfield 39, 3) := by decide +kernel
theorem dX1_copyFrom_80 : decode cX1_copyFrom 80 = .ok (.return_, 1) := by decide +kernel
theorem dX1_become_0 : decode cX1_become 0 = .ok (.aload_n 0, 1) := by decide +kernel
theorem dX1_become_1 : decode cX1_become 1 = .ok (.iload_n 1, 1) := by decide +kernel
theorem dX1_become_2 : decode cX1_become 2 = .ok (.putfield 9, 3) := by decide +kernel
theorem dX1_become_5 : decode cX1_become 5 = .ok (.aload_n 0, 1) := by decide +kernel
theorem dX1_become_6 : decode cX1_become 6 = .ok (.iconst 0, 1) := by decide +kernel
theorem dX1_become_7 : decode cX1_become 7 = .ok (.putfield 33, 3) := by decide +kernel
theorem dX1_become_10 : decode cX1_become 10 = .ok (.aload_n 0, 1) := by decide +kernel
theorem dX1_become_11 : decode cX1_become 11 = .ok (.iconst 0, 1) := by decide +kernel
theorem dX1_become_12 : decode cX1_become 12 = .ok (.putfield 36, 3) := by decide +kernel
theorem dX1_become_15 : decode cX1_become 15 = .ok (.return_, 1) := by decide +kernel
theorem dX1_becomeFree_0 : decode cX1_becomeFree 0 = .ok (.aload_n 0, 1) := by decide +kernel
theorem dX1_becomeFree_1 : decode cX1_becomeFree 1 = .ok (.iconst 0, 1) := by decide +kernel
theorem dX1_becomeFree_2 : decode cX1_becomeFree 2 = .ok (.invokevirtual 45, 3) := by decide +kernel
theorem dX1_becomeFree_5 : decode cX1_becomeFree 5 = .ok (.aload_n 0, 1) := by decide +kernel
theorem dX1_becomeFree_6 : decode cX1_becomeFree 6 = .ok (.bipush (-6), 2) := by decide +kernel
theorem dX1_becomeFree_8 : decode cX1_becomeFree 8 = .ok (.putfield 18, 3) := by decide +kernel
theorem dX1_becomeFree_11 : decode cX1_becomeFree 11 = .ok (.aload_n 0, 1) := by decide +kernel
theorem dX1_becomeFree_12 : decode cX1_becomeFree 12 = .ok (.iconst 0, 1) := by decide +kernel
theorem dX1_becomeFree_13 : decode cX1_becomeFree 13 = .ok (.putfield 21, 3) := by decide +kernel
theorem dX1_becomeFree_16 : decode cX1_becomeFree 16 = .ok (.aload_n 0, 1) := by decide +kernel
theorem dX1_becomeFree_17 : decode cX1_becomeFree 17 = .ok (.bipush (-6), 2) := by decide +kernel
theorem dX1_becomeFree_19 : decode cX1_becomeFree 19 = .ok (.putfield 24, 3) := by decide +kernel
theorem dX1_becomeFree_22 : decode cX1_becomeFree 22 = .ok (.aload_n 0, 1) := by decide +kernel
theorem dX1_becomeFree_23 : decode cX1_becomeFree 23 = .ok (.iconst 0, 1) := by decide +kernel
theorem dX1_becomeFree_24 : decode cX1_becomeFree 24 = .ok (.putfield 27, 3) := by decide +kernel
theorem dX1_becomeFree_27 : decode cX1_becomeFree 27 = .ok (.aload_n 0, 1) := by decide +kernel
theorem dX1_becomeFree_28 : decode cX1_becomeFree 28 = .ok (.iconst 0, 1) := by decide +kernel
theorem dX1_becomeFree_29 : decode cX1_becomeFree 29 = .ok (.putfield 30, 3) := by decide +kernel
theorem dX1_becomeFree_32 : decode cX1_becomeFree 32 = .ok (.aload_n 0, 1) := by decide +kernel
theorem dX1_becomeFree_33 : decode cX1_becomeFree 33 = .ok (.bipush (-6), 2) := by decide +kernel
theorem dX1_becomeFree_35 : decode cX1_becomeFree 35 = .ok (.putfield 39, 3) := by decide +kernel
theorem dX1_becomeFree_38 : decode cX1_becomeFree 38 = .ok (.return_, 1) := by decide +kernel
theorem dX1_holdsConnector_0 : decode cX1_holdsConnector 0 = .ok (.aload_n 0, 1) := by decide +kernel
theorem dX1_holdsConnector_1 : decode cX1_holdsConnector 1 = .ok (.getfield 9, 3) := by decide +kernel
theorem dX1_holdsConnector_4 : decode cX1_holdsConnector 4 = .ok (.iconst 5, 1) := by decide +kernel
theorem dX1_holdsConnector_5 : decode cX1_holdsConnector 5 = .ok (.if_icmp .eq 30, 3) := by decide +kernel
theorem dX1_holdsConnector_8 : decode cX1_holdsConnector 8 = .ok (.aload_n 0, 1) := by decide +kernel
theorem dX1_holdsConnector_9 : decode cX1_holdsConnector 9 = .ok (.getfield 9, 3) := by decide +kernel
theorem dX1_holdsConnector_12 : decode cX1_holdsConnector 12 = .ok (.bipush 6, 2) := by decide +kernel
theorem dX1_holdsConnector_14 : decode cX1_holdsConnector 14 = .ok (.if_icmp .eq 21, 3) := by decide +kernel
theorem dX1_holdsConnector_17 : decode cX1_holdsConnector 17 = .ok (.aload_n 0, 1) := by decide +kernel
theorem dX1_holdsConnector_18 : decode cX1_holdsConnector 18 = .ok (.getfield 9, 3) := by decide +kernel
theorem dX1_holdsConnector_21 : decode cX1_holdsConnector 21 = .ok (.bipush 7, 2) := by decide +kernel
theorem dX1_holdsConnector_23 : decode cX1_holdsConnector 23 = .ok (.if_icmp .eq 12, 3) := by decide +kernel
theorem dX1_holdsConnector_26 : decode cX1_holdsConnector 26 = .ok (.aload_n 0, 1) := by decide +kernel
theorem dX1_holdsConnector_27 : decode cX1_holdsConnector 27 = .ok (.getfield 9, 3) := by decide +kernel
theorem dX1_holdsConnector_30 : decode cX1_holdsConnector 30 = .ok (.bipush 8, 2) := by decide +kernel
theorem dX1_holdsConnector_32 : decode cX1_holdsConnector 32 = .ok (.if_icmp .ne 7, 3) := by decide +kernel
theorem dX1_holdsConnector_35 : decode cX1_holdsConnector 35 = .ok (.iconst 1, 1) := by decide +kernel
theorem dX1_holdsConnector_36 : decode cX1_holdsConnector 36 = .ok (.goto 4, 3) := by decide +kernel
theorem dX1_holdsConnector_39 : decode cX1_holdsConnector 39 = .ok (.iconst 0, 1) := by decide +kernel
theorem dX1_holdsConnector_40 : decode cX1_holdsConnector 40 = .ok (.ireturn, 1) := by decide +kernel
theorem dX1_numberFor_0 : decode cX1_numberFor 0 = .ok (.iload_n 1, 1) := by decide +kernel
theorem dX1_numberFor_1 : decode cX1_numberFor 1 = .ok (.tableswitch 87 0 7 #[47, 52, 57, 62, 67, 72, 77, 82], 47) := by decide +kernel
theorem dX1_numberFor_48 : decode cX1_numberFor 48 = .ok (.aload_n 0, 1) := by decide +kernel
theorem dX1_numberFor_49 : decode cX1_numberFor 49 = .ok (.getfield 9, 3) := by decide +kernel
theorem dX1_numberFor_52 : decode cX1_numberFor 52 = .ok (.ireturn, 1) := by decide +kernel
theorem dX1_numberFor_53 : decode cX1_numberFor 53 = .ok (.aload_n 0, 1) := by decide +kernel
theorem dX1_numberFor_54 : decode cX1_numberFor 54 = .ok (.getfield 15, 3) := by decide +kernel
theorem dX1_numberFor_57 : decode cX1_numberFor 57 = .ok (.ireturn, 1) := by decide +kernel
theorem dX1_numberFor_58 : decode cX1_numberFor 58 = .ok (.aload_n 0, 1) := by decide +kernel
theorem dX1_numberFor_59 : decode cX1_numberFor 59 = .ok (.getfield 18, 3) := by decide +kernel
theorem dX1_numberFor_62 : decode cX1_numberFor 62 = .ok (.ireturn, 1) := by decide +kernel
theorem dX1_numberFor_63 : decode cX1_numberFor 63 = .ok (.aload_n 0, 1) := by decide +kernel
theorem dX1_numberFor_64 : decode cX1_numberFor 64 = .ok (.getfield 21, 3) := by decide +kernel
theorem dX1_numberFor_67 : decode cX1_numberFor 67 = .ok (.ireturn, 1) := by decide +kernel
theorem dX1_numberFor_68 : decode cX1_numberFor 68 = .ok (.aload_n 0, 1) := by decide +kernel
theorem dX1_numberFor_69 : decode cX1_numberFor 69 = .ok (.getfield 24, 3) := by decide +kernel
theorem dX1_numberFor_72 : decode cX1_numberFor 72 = .ok (.ireturn, 1) := by decide +kernel
theorem dX1_numberFor_73 : decode cX1_numberFor 73 = .ok (.aload_n 0, 1) := by decide +kernel
theorem dX1_numberFor_74 : decode cX1_numberFor 74 = .ok (.getfield 27, 3) := by decide +kernel
theorem dX1_numberFor_77 : decode cX1_numberFor 77 = .ok (.ireturn, 1) := by decide +kernel
theorem dX1_numberFor_78 : decode cX1_numberFor 78 = .ok (.aload_n 0, 1) := by decide +kernel
theorem dX1_numberFor_79 : decode cX1_numberFor 79 = .ok (.getfield 33, 3) := by decide +kernel
theorem dX1_numberFor_82 : decode cX1_numberFor 82 = .ok (.ireturn, 1) := by decide +kernel
theorem dX1_numberFor_83 : decode cX1_numberFor 83 = .ok (.aload_n 0, 1) := by decide +kernel
theorem dX1_numberFor_84 : decode cX1_numberFor 84 = .ok (.getfield 36, 3) := by decide +kernel
theorem dX1_numberFor_87 : decode cX1_numberFor 87 = .ok (.ireturn, 1) := by decide +kernel
theorem dX1_numberFor_88 : decode cX1_numberFor 88 = .ok (.bipush (-2), 2) := by decide +kernel
theorem dX1_numberFor_90 : decode cX1_numberFor 90 = .ok (.ireturn, 1) := by decide +kernel
theorem dX2_init_0 : decode cX2_init 0 = .ok (.aload_n 0, 1) := by decide +kernel
theorem dX2_init_1 : decode cX2_init 1 = .ok (.invokespecial 3, 3) := by decide +kernel
theorem dX2_init_4 : decode cX2_init 4 = .ok (.aload_n 0, 1) := by decide +kernel
theorem dX2_init_5 : decode cX2_init 5 = .ok (.iconst 0, 1) := by decide +kernel
theorem dX2_init_6 : decode cX2_init 6 = .ok (.putfield 9, 3) := by decide +kernel
theorem dX2_init_9 : decode cX2_init 9 = .ok (.aload_n 0, 1) := by decide +kernel
theorem dX2_init_10 : decode cX2_init 10 = .ok (.iconst 0, 1) := by decide +kernel
theorem dX2_init_11 : decode cX2_init 11 = .ok (.putfield 15, 3) := by decide +kernel
theorem dX2_init_14 : decode cX2_init 14 = .ok (.aload_n 0, 1) := by decide +kernel
theorem dX2_init_15 : decode cX2_init 15 = .ok (.iconst 0, 1) := by decide +kernel
theorem dX2_init_16 : decode cX2_init 16 = .ok (.putfield 19, 3) := by decide +kernel
theorem dX2_init_19 : decode cX2_init 19 = .ok (.aload_n 0, 1) := by decide +kernel
theorem dX2_init_20 : decode cX2_init 20 = .ok (.iconst 0, 1) := by decide +kernel
theorem dX2_init_21 : decode cX2_init 21 = .ok (.putfield 22, 3) := by decide +kernel
theorem dX2_init_24 : decode cX2_init 24 = .ok (.aload_n 0, 1) := by decide +kernel
theorem dX2_init_25 : decode cX2_init 25 = .ok (.iconst 0, 1) := by decide +kernel
theorem dX2_init_26 : decode cX2_init 26 = .ok (.putfield 25, 3) := by decide +kernel
theorem dX2_init_29 : decode cX2_init 29 = .ok (.aload_n 0, 1) := by decide +kernel
theorem dX2_init_30 : decode cX2_init 30 = .ok (.iconst 0, 1) := by decide +kernel
theorem dX2_init_31 : decode cX2_init 31 = .ok (.putfield 28, 3) := by decide +kernel
theorem dX2_init_34 : decode cX2_init 34 = .ok (.aload_n 0, 1) := by decide +kernel
theorem dX2_init_35 : decode cX2_init 35 = .ok (.bipush (-6), 2) := by decide +kernel
theorem dX2_init_37 : decode cX2_init 37 = .ok (.putfield 31, 3) := by decide +kernel
theorem dX2_init_40 : decode cX2_init 40 = .ok (.aload_n 0, 1) := by decide +kernel
theorem dX2_init_41 : decode cX2_init 41 = .ok (.iconst 0, 1) := by decide +kernel
theorem dX2_init_42 : decode cX2_init 42 = .ok (.putfield 34, 3) := by decide +kernel
theorem dX2_init_45 : decode cX2_init 45 = .ok (.aload_n 0, 1) := by decide +kernel
theorem dX2_init_46 : decode cX2_init 46 = .ok (.iconst 0, 1) := by decide +kernel
theorem dX2_init_47 : decode cX2_init 47 = .ok (.putfield 37, 3) := by decide +kernel
theorem dX2_init_50 : decode cX2_init 50 = .ok (.return_, 1) := by decide +kernel
theorem dX2_renew_0 : decode cX2_renew 0 = .ok (.aload_n 0, 1) := by decide +kernel
theorem dX2_renew_1 : decode cX2_renew 1 = .ok (.iconst 0, 1) := by decide +kernel
theorem dX2_renew_2 : decode cX2_renew 2 = .ok (.invokevirtual 40, 3) := by decide +kernel
theorem dX2_renew_5 : decode cX2_renew 5 = .ok (.aload_n 0, 1) := by decide +kernel
theorem dX2_renew_6 : decode cX2_renew 6 = .ok (.iconst 0, 1) := by decide +kernel
theorem dX2_renew_7 : decode cX2_renew 7 = .ok (.putfield 15, 3) := by decide +kernel
theorem dX2_renew_10 : decode cX2_renew 10 = .ok (.aload_n 0, 1) := by decide +kernel
theorem dX2_renew_11 : decode cX2_renew 11 = .ok (.iconst 0, 1) := by decide +kernel
theorem dX2_renew_12 : decode cX2_renew 12 = .ok (.putfield 19, 3) := by decide +kernel
theorem dX2_renew_15 : decode cX2_renew 15 = .ok (.aload_n 0, 1) := by decide +kernel
theorem dX2_renew_16 : decode cX2_renew 16 = .ok (.iconst 0, 1) := by decide +kernel
theorem dX2_renew_17 : decode cX2_renew 17 = .ok (.putfield 22, 3) := by decide +kernel
theorem dX2_renew_20 : decode cX2_renew 20 = .ok (.aload_n 0, 1) := by decide +kernel
theorem dX2_renew_21 : decode cX2_renew 21 = .ok (.iconst 0, 1) := by decide +kernel
theorem dX2_renew_22 : decode cX2_renew 22 = .ok (.putfield 34, 3) := by decide +kernel
theorem dX2_renew_25 : decode cX2_renew 25 = .ok (.return_, 1) := by decide +kernel
theorem dX2_copyFrom_0 : decode cX2_copyFrom 0 = .ok (.aload_n 0, 1) := by decide +kernel
theorem dX2_copyFrom_1 : decode cX2_copyFrom 1 = .ok (.aload_n 1, 1) := by decide +kernel
theorem dX2_copyFrom_2 : decode cX2_copyFrom 2 = .ok (.getfield 9, 3) := by decide +kernel
theorem dX2_copyFrom_5 : decode cX2_copyFrom 5 = .ok (.putfield 9, 3) := by decide +kernel
theorem dX2_copyFrom_8 : decode cX2_copyFrom 8 = .ok (.aload_n 0, 1) := by decide +kernel
theorem dX2_copyFrom_9 : decode cX2_copyFrom 9 = .ok (.aload_n 1, 1) := by decide +kernel
theorem dX2_copyFrom_10 : decode cX2_copyFrom 10 = .ok (.getfield 15, 3) := by decide +kernel
theorem dX2_copyFrom_13 : decode cX2_copyFrom 13 = .ok (.putfield 15, 3) := by decide +kernel
theorem dX2_copyFrom_16 : decode cX2_copyFrom 16 = .ok (.aload_n 0, 1) := by decide +kernel
theorem dX2_copyFrom_17 : decode cX2_copyFrom 17 = .ok (.aload_n 1, 1) := by decide +kernel
theorem dX2_copyFrom_18 : decode cX2_copyFrom 18 = .ok (.getfield 19, 3) := by decide +kernel
theorem dX2_copyFrom_21 : decode cX2_copyFrom 21 = .ok (.putfield 19, 3) := by decide +kernel
theorem dX2_copyFrom_24 : decode cX2_copyFrom 24 = .ok (.aload_n 0, 1) := by decide +kernel
theorem dX2_copyFrom_25 : decode cX2_copyFrom 25 = .ok (.aload_n 1, 1) := by decide +kernel
theorem dX2_copyFrom_26 : decode cX2_copyFrom 26 = .ok (.getfield 22, 3) := by decide +kernel
theorem dX2_copyFrom_29 : decode cX2_copyFrom 29 = .ok (.putfield 22, 3) := by decide +kernel
theorem dX2_copyFrom_32 : decode cX2_copyFrom 32 = .ok (.aload_n 0, 1) := by decide +kernel
theorem dX2_copyFrom_33 : decode cX2_copyFrom 33 = .ok (.aload_n 1, 1) := by decide +kernel
theorem dX2_copyFrom_34 : decode cX2_copyFrom 34 = .ok (.getfield 25, 3) := by decide +kernel
theorem dX2_copyFrom_37 : decode cX2_copyFrom 37 = .ok (.putfield 25, 3) := by decide +kernel
theorem dX2_copyFrom_40 : decode cX2_copyFrom 40 = .ok (.aload_n 0, 1) := by decide +kernel
theorem dX2_copyFrom_41 : decode cX2_copyFrom 41 = .ok (.aload_n 1, 1) := by decide +kernel
theorem dX2_copyFrom_42 : decode cX2_copyFrom 42 = .ok (.getfield 28, 3) := by decide +kernel
theorem dX2_copyFrom_45 : decode cX2_copyFrom 45 = .ok (.putfield 28, 3) := by decide +kernel
theorem dX2_copyFrom_48 : decode cX2_copyFrom 48 = .ok (.aload_n 0, 1) := by decide +kernel
theorem dX2_copyFrom_49 : decode cX2_copyFrom 49 = .ok (.aload_n 1, 1) := by decide +kernel
theorem dX2_copyFrom_50 : decode cX2_copyFrom 50 = .ok (.getfield 31, 3) := by decide +kernel
theorem dX2_copyFrom_53 : decode cX2_copyFrom 53 = .ok (.putfield 31, 3) := by decide +kernel
theorem dX2_copyFrom_56 : decode cX2_copyFrom 56 = .ok (.aload_n 0, 1) := by decide +kernel
theorem dX2_copyFrom_57 : decode cX2_copyFrom 57 = .ok (.aload_n 1, 1) := by decide +kernel
theorem dX2_copyFrom_58 : decode cX2_copyFrom 58 = .ok (.getfield 34, 3) := by decide +kernel
theorem dX2_copyFrom_61 : decode cX2_copyFrom 61 = .ok (.putfield 34, 3) := by decide +kernel
theorem dX2_copyFrom_64 : decode cX2_copyFrom 64 = .ok (.aload_n 0, 1) := by decide +kernel
theorem dX2_copyFrom_65 : decode cX2_copyFrom 65 = .ok (.aload_n 1, 1) := by decide +kernel
theorem dX2_copyFrom_66 : decode cX2_copyFrom 66 = .ok (.getfield 37, 3) := by decide +kernel
theorem dX2_copyFrom_69 : decode cX2_copyFrom 69 = .ok (.putfield 37, 3) := by decide +kernel
theorem dX2_copyFrom_72 : decode cX2_copyFrom 72 = .ok (.return_, 1) := by decide +kernel
theorem dX2_waitsUnsought_0 : decode cX2_waitsUnsought 0 = .ok (.aload_n 0, 1) := by decide +kernel
theorem dX2_waitsUnsought_1 : decode cX2_waitsUnsought 1 = .ok (.getfield 9, 3) := by decide +kernel
theorem dX2_waitsUnsought_4 : decode cX2_waitsUnsought 4 = .ok (.iconst 1, 1) := by decide +kernel
theorem dX2_waitsUnsought_5 : decode cX2_waitsUnsought 5 = .ok (.if_icmp .ne 16, 3) := by decide +kernel
theorem dX2_waitsUnsought_8 : decode cX2_waitsUnsought 8 = .ok (.aload_n 0, 1) := by decide +kernel
theorem dX2_waitsUnsought_9 : decode cX2_waitsUnsought 9 = .ok (.getfield 31, 3) := by decide +kernel
theorem dX2_waitsUnsought_12 : decode cX2_waitsUnsought 12 = .ok (.bipush (-6), 2) := by decide +kernel
theorem dX2_waitsUnsought_14 : decode cX2_waitsUnsought 14 = .ok (.if_icmp .ne 7, 3) := by decide +kernel
theorem dX2_waitsUnsought_17 : decode cX2_waitsUnsought 17 = .ok (.iconst 1, 1) := by decide +kernel
theorem dX2_waitsUnsought_18 : decode cX2_waitsUnsought 18 = .ok (.goto 4, 3) := by decide +kernel
theorem dX2_waitsUnsought_21 : decode cX2_waitsUnsought 21 = .ok (.iconst 0, 1) := by decide +kernel
theorem dX2_waitsUnsought_22 : decode cX2_waitsUnsought 22 = .ok (.ireturn, 1) := by decide +kernel
theorem dX2_isCalledByAnother_0 : decode cX2_isCalledByAnother 0 = .ok (.aload_n 0, 1) := by decide +kernel
theorem dX2_isCalledByAnother_1 : decode cX2_isCalledByAnother 1 = .ok (.getfield 9, 3) := by decide +kernel
theorem dX2_isCalledByAnother_4 : decode cX2_isCalledByAnother 4 = .ok (.iconst 5, 1) := by decide +kernel
theorem dX2_isCalledByAnother_5 : decode cX2_isCalledByAnother 5 = .ok (.if_icmp .eq 12, 3) := by decide +kernel
theorem dX2_isCalledByAnother_8 : decode cX2_isCalledByAnother 8 = .ok (.aload_n 0, 1) := by decide +kernel
theorem dX2_isCalledByAnother_9 : decode cX2_isCalledByAnother 9 = .ok (.getfield 9, 3) := by decide +kernel
theorem dX2_isCalledByAnother_12 : decode cX2_isCalledByAnother 12 = .ok (.bipush 7, 2) := by decide +kernel
theorem dX2_isCalledByAnother_14 : decode cX2_isCalledByAnother 14 = .ok (.if_icmp .ne 7, 3) := by decide +kernel
theorem dX2_isCalledByAnother_17 : decode cX2_isCalledByAnother 17 = .ok (.iconst 1, 1) := by decide +kernel
theorem dX2_isCalledByAnother_18 : decode cX2_isCalledByAnother 18 = .ok (.goto 4, 3) := by decide +kernel
theorem dX2_isCalledByAnother_21 : decode cX2_isCalledByAnother 21 = .ok (.iconst 0, 1) := by decide +kernel
theorem dX2_isCalledByAnother_22 : decode cX2_isCalledByAnother 22 = .ok (.ireturn, 1) := by decide +kernel
theorem dX2_callsAnother_0 : decode cX2_callsAnother 0 = .ok (.aload_n 0, 1) := by decide +kernel
theorem dX2_callsAnother_1 : decode cX2_callsAnother 1 = .ok (.getfield 9, 3) := by decide +kernel
theorem dX2_callsAnother_4 : decode cX2_callsAnother 4 = .ok (.iconst 4, 1) := by decide +kernel
end
section
theorem dX2_callsAnother_5 : decode cX2_callsAnother 5 = .ok (.if_icmp .eq 12, 3) := by decide +kernel
theorem dX2_callsAnother_8 : decode cX2_callsAnother 8 = .ok (.aload_n 0, 1) := by decide +kernel
theorem dX2_callsAnother_9 : decode cX2_callsAnother 9 = .ok (.getfield 9, 3) := by decide +kernel
theorem dX2_callsAnother_12 : decode cX2_callsAnother 12 = .ok (.bipush 6, 2) := by decide +kernel
theorem dX2_callsAnother_14 : decode cX2_callsAnother 14 = .ok (.if_icmp .ne 7, 3) := by decide +kernel
theorem dX2_callsAnother_17 : decode cX2_callsAnother 17 = .ok (.iconst 1, 1) := by decide +kernel
theorem dX2_callsAnother_18 : decode cX2_callsAnother 18 = .ok (.goto 4, 3) := by decide +kernel
theorem dX2_callsAnother_21 : decode cX2_callsAnother 21 = .ok (.iconst 0, 1) := by decide +kernel
theorem dX2_callsAnother_22 : decode cX2_callsAnother 22 = .ok (.ireturn, 1) := by decide +kernel
theorem dX2_appendDigit_0 : decode cX2_appendDigit 0 = .ok (.aload_n 0, 1) := by decide +kernel
theorem dX2_appendDigit_1 : decode cX2_appendDigit 1 = .ok (.dup, 1) := by decide +kernel
theorem dX2_appendDigit_2 : decode cX2_appendDigit 2 = .ok (.getfield 25, 3) := by decide +kernel
theorem dX2_appendDigit_5 : decode cX2_appendDigit 5 = .ok (.iload_n 1, 1) := by decide +kernel
theorem dX2_appendDigit_6 : decode cX2_appendDigit 6 = .ok (.iconst 4, 1) := by decide +kernel
theorem dX2_appendDigit_7 : decode cX2_appendDigit 7 = .ok (.aload_n 0, 1) := by decide +kernel
theorem dX2_appendDigit_8 : decode cX2_appendDigit 8 = .ok (.getfield 28, 3) := by decide +kernel
theorem dX2_appendDigit_11 : decode cX2_appendDigit 11 = .ok (.imul, 1) := by decide +kernel
theorem dX2_appendDigit_12 : decode cX2_appendDigit 12 = .ok (.ishl, 1) := by decide +kernel
theorem dX2_appendDigit_13 : decode cX2_appendDigit 13 = .ok (.ior, 1) := by decide +kernel
theorem dX2_appendDigit_14 : decode cX2_appendDigit 14 = .ok (.putfield 25, 3) := by decide +kernel
theorem dX2_appendDigit_17 : decode cX2_appendDigit 17 = .ok (.aload_n 0, 1) := by decide +kernel
theorem dX2_appendDigit_18 : decode cX2_appendDigit 18 = .ok (.dup, 1) := by decide +kernel
theorem dX2_appendDigit_19 : decode cX2_appendDigit 19 = .ok (.getfield 28, 3) := by decide +kernel
theorem dX2_appendDigit_22 : decode cX2_appendDigit 22 = .ok (.iconst 1, 1) := by decide +kernel
theorem dX2_appendDigit_23 : decode cX2_appendDigit 23 = .ok (.iadd, 1) := by decide +kernel
theorem dX2_appendDigit_24 : decode cX2_appendDigit 24 = .ok (.putfield 28, 3) := by decide +kernel
theorem dX2_appendDigit_27 : decode cX2_appendDigit 27 = .ok (.return_, 1) := by decide +kernel
theorem dX2_takePulses_0 : decode cX2_takePulses 0 = .ok (.aload_n 0, 1) := by decide +kernel
theorem dX2_takePulses_1 : decode cX2_takePulses 1 = .ok (.getfield 25, 3) := by decide +kernel
theorem dX2_takePulses_4 : decode cX2_takePulses 4 = .ok (.bipush 15, 2) := by decide +kernel
theorem dX2_takePulses_6 : decode cX2_takePulses 6 = .ok (.iand, 1) := by decide +kernel
theorem dX2_takePulses_7 : decode cX2_takePulses 7 = .ok (.istore_n 1, 1) := by decide +kernel
theorem dX2_takePulses_8 : decode cX2_takePulses 8 = .ok (.aload_n 0, 1) := by decide +kernel
theorem dX2_takePulses_9 : decode cX2_takePulses 9 = .ok (.dup, 1) := by decide +kernel
theorem dX2_takePulses_10 : decode cX2_takePulses 10 = .ok (.getfield 25, 3) := by decide +kernel
theorem dX2_takePulses_13 : decode cX2_takePulses 13 = .ok (.iconst 4, 1) := by decide +kernel
theorem dX2_takePulses_14 : decode cX2_takePulses 14 = .ok (.iushr, 1) := by decide +kernel
theorem dX2_takePulses_15 : decode cX2_takePulses 15 = .ok (.putfield 25, 3) := by decide +kernel
theorem dX2_takePulses_18 : decode cX2_takePulses 18 = .ok (.aload_n 0, 1) := by decide +kernel
theorem dX2_takePulses_19 : decode cX2_takePulses 19 = .ok (.dup, 1) := by decide +kernel
theorem dX2_takePulses_20 : decode cX2_takePulses 20 = .ok (.getfield 28, 3) := by decide +kernel
theorem dX2_takePulses_23 : decode cX2_takePulses 23 = .ok (.iconst 1, 1) := by decide +kernel
theorem dX2_takePulses_24 : decode cX2_takePulses 24 = .ok (.isub, 1) := by decide +kernel
theorem dX2_takePulses_25 : decode cX2_takePulses 25 = .ok (.putfield 28, 3) := by decide +kernel
theorem dX2_takePulses_28 : decode cX2_takePulses 28 = .ok (.iload_n 1, 1) := by decide +kernel
theorem dX2_takePulses_29 : decode cX2_takePulses 29 = .ok (.ifCond .ne 8, 3) := by decide +kernel
theorem dX2_takePulses_32 : decode cX2_takePulses 32 = .ok (.bipush 10, 2) := by decide +kernel
theorem dX2_takePulses_34 : decode cX2_takePulses 34 = .ok (.goto 4, 3) := by decide +kernel
theorem dX2_takePulses_37 : decode cX2_takePulses 37 = .ok (.iload_n 1, 1) := by decide +kernel
theorem dX2_takePulses_38 : decode cX2_takePulses 38 = .ok (.ireturn, 1) := by decide +kernel
theorem dX2_leaveCall_0 : decode cX2_leaveCall 0 = .ok (.aload_n 0, 1) := by decide +kernel
theorem dX2_leaveCall_1 : decode cX2_leaveCall 1 = .ok (.iload_n 1, 1) := by decide +kernel
theorem dX2_leaveCall_2 : decode cX2_leaveCall 2 = .ok (.putfield 9, 3) := by decide +kernel
theorem dX2_leaveCall_5 : decode cX2_leaveCall 5 = .ok (.aload_n 0, 1) := by decide +kernel
theorem dX2_leaveCall_6 : decode cX2_leaveCall 6 = .ok (.bipush (-6), 2) := by decide +kernel
theorem dX2_leaveCall_8 : decode cX2_leaveCall 8 = .ok (.putfield 31, 3) := by decide +kernel
theorem dX2_leaveCall_11 : decode cX2_leaveCall 11 = .ok (.aload_n 0, 1) := by decide +kernel
theorem dX2_leaveCall_12 : decode cX2_leaveCall 12 = .ok (.iconst 0, 1) := by decide +kernel
theorem dX2_leaveCall_13 : decode cX2_leaveCall 13 = .ok (.putfield 37, 3) := by decide +kernel
theorem dX2_leaveCall_16 : decode cX2_leaveCall 16 = .ok (.aload_n 0, 1) := by decide +kernel
theorem dX2_leaveCall_17 : decode cX2_leaveCall 17 = .ok (.iconst 0, 1) := by decide +kernel
theorem dX2_leaveCall_18 : decode cX2_leaveCall 18 = .ok (.putfield 25, 3) := by decide +kernel
theorem dX2_leaveCall_21 : decode cX2_leaveCall 21 = .ok (.aload_n 0, 1) := by decide +kernel
theorem dX2_leaveCall_22 : decode cX2_leaveCall 22 = .ok (.iconst 0, 1) := by decide +kernel
theorem dX2_leaveCall_23 : decode cX2_leaveCall 23 = .ok (.putfield 28, 3) := by decide +kernel
theorem dX2_leaveCall_26 : decode cX2_leaveCall 26 = .ok (.return_, 1) := by decide +kernel
theorem dX2_waitParked_0 : decode cX2_waitParked 0 = .ok (.aload_n 0, 1) := by decide +kernel
theorem dX2_waitParked_1 : decode cX2_waitParked 1 = .ok (.getfield 9, 3) := by decide +kernel
theorem dX2_waitParked_4 : decode cX2_waitParked 4 = .ok (.bipush 10, 2) := by decide +kernel
theorem dX2_waitParked_6 : decode cX2_waitParked 6 = .ok (.if_icmp .eq 4, 3) := by decide +kernel
theorem dX2_waitParked_9 : decode cX2_waitParked 9 = .ok (.return_, 1) := by decide +kernel
theorem dX2_waitParked_10 : decode cX2_waitParked 10 = .ok (.aload_n 0, 1) := by decide +kernel
theorem dX2_waitParked_11 : decode cX2_waitParked 11 = .ok (.dup, 1) := by decide +kernel
theorem dX2_waitParked_12 : decode cX2_waitParked 12 = .ok (.getfield 37, 3) := by decide +kernel
theorem dX2_waitParked_15 : decode cX2_waitParked 15 = .ok (.iconst 1, 1) := by decide +kernel
theorem dX2_waitParked_16 : decode cX2_waitParked 16 = .ok (.iadd, 1) := by decide +kernel
theorem dX2_waitParked_17 : decode cX2_waitParked 17 = .ok (.putfield 37, 3) := by decide +kernel
theorem dX2_waitParked_20 : decode cX2_waitParked 20 = .ok (.aload_n 0, 1) := by decide +kernel
theorem dX2_waitParked_21 : decode cX2_waitParked 21 = .ok (.getfield 37, 3) := by decide +kernel
theorem dX2_waitParked_24 : decode cX2_waitParked 24 = .ok (.iload_n 1, 1) := by decide +kernel
theorem dX2_waitParked_25 : decode cX2_waitParked 25 = .ok (.if_icmp .lt 14, 3) := by decide +kernel
theorem dX2_waitParked_28 : decode cX2_waitParked 28 = .ok (.aload_n 0, 1) := by decide +kernel
theorem dX2_waitParked_29 : decode cX2_waitParked 29 = .ok (.bipush 11, 2) := by decide +kernel
theorem dX2_waitParked_31 : decode cX2_waitParked 31 = .ok (.putfield 9, 3) := by decide +kernel
theorem dX2_waitParked_34 : decode cX2_waitParked 34 = .ok (.aload_n 0, 1) := by decide +kernel
theorem dX2_waitParked_35 : decode cX2_waitParked 35 = .ok (.iconst 0, 1) := by decide +kernel
theorem dX2_waitParked_36 : decode cX2_waitParked 36 = .ok (.putfield 37, 3) := by decide +kernel
theorem dX2_waitParked_39 : decode cX2_waitParked 39 = .ok (.return_, 1) := by decide +kernel
theorem dX3_init_0 : decode cX3_init 0 = .ok (.aload_n 0, 1) := by decide +kernel
theorem dX3_init_1 : decode cX3_init 1 = .ok (.invokespecial 3, 3) := by decide +kernel
theorem dX3_init_4 : decode cX3_init 4 = .ok (.aload_n 0, 1) := by decide +kernel
theorem dX3_init_5 : decode cX3_init 5 = .ok (.bipush 60, 2) := by decide +kernel
theorem dX3_init_7 : decode cX3_init 7 = .ok (.newarray .int, 2) := by decide +kernel
theorem dX3_init_9 : decode cX3_init 9 = .ok (.putfield 9, 3) := by decide +kernel
theorem dX3_init_12 : decode cX3_init 12 = .ok (.aload_n 0, 1) := by decide +kernel
theorem dX3_init_13 : decode cX3_init 13 = .ok (.iconst 0, 1) := by decide +kernel
theorem dX3_init_14 : decode cX3_init 14 = .ok (.putfield 15, 3) := by decide +kernel
theorem dX3_init_17 : decode cX3_init 17 = .ok (.return_, 1) := by decide +kernel
theorem dX4_init_0 : decode cX4_init 0 = .ok (.aload_n 0, 1) := by decide +kernel
theorem dX4_init_1 : decode cX4_init 1 = .ok (.invokespecial 1, 3) := by decide +kernel
theorem dX4_init_4 : decode cX4_init 4 = .ok (.aload_n 0, 1) := by decide +kernel
theorem dX4_init_5 : decode cX4_init 5 = .ok (.new 7, 3) := by decide +kernel
theorem dX4_init_8 : decode cX4_init 8 = .ok (.dup, 1) := by decide +kernel
theorem dX4_init_9 : decode cX4_init 9 = .ok (.invokespecial 9, 3) := by decide +kernel
theorem dX4_init_12 : decode cX4_init 12 = .ok (.putfield 10, 3) := by decide +kernel
theorem dX4_init_15 : decode cX4_init 15 = .ok (.aload_n 0, 1) := by decide +kernel
theorem dX4_init_16 : decode cX4_init 16 = .ok (.new 7, 3) := by decide +kernel
theorem dX4_init_19 : decode cX4_init 19 = .ok (.dup, 1) := by decide +kernel
theorem dX4_init_20 : decode cX4_init 20 = .ok (.invokespecial 9, 3) := by decide +kernel
theorem dX4_init_23 : decode cX4_init 23 = .ok (.putfield 16, 3) := by decide +kernel
theorem dX4_init_26 : decode cX4_init 26 = .ok (.aload_n 0, 1) := by decide +kernel
theorem dX4_init_27 : decode cX4_init 27 = .ok (.iconst 2, 1) := by decide +kernel
theorem dX4_init_28 : decode cX4_init 28 = .ok (.anewarray 7, 3) := by decide +kernel
theorem dX4_init_31 : decode cX4_init 31 = .ok (.putfield 19, 3) := by decide +kernel
theorem dX4_init_34 : decode cX4_init 34 = .ok (.aload_n 0, 1) := by decide +kernel
theorem dX4_init_35 : decode cX4_init 35 = .ok (.new 23, 3) := by decide +kernel
theorem dX4_init_38 : decode cX4_init 38 = .ok (.dup, 1) := by decide +kernel
theorem dX4_init_39 : decode cX4_init 39 = .ok (.invokespecial 25, 3) := by decide +kernel
theorem dX4_init_42 : decode cX4_init 42 = .ok (.putfield 26, 3) := by decide +kernel
theorem dX4_init_45 : decode cX4_init 45 = .ok (.return_, 1) := by decide +kernel
theorem dX4_setUp_0 : decode cX4_setUp 0 = .ok (.iload_n 1, 1) := by decide +kernel
theorem dX4_setUp_1 : decode cX4_setUp 1 = .ok (.iconst 1, 1) := by decide +kernel
theorem dX4_setUp_2 : decode cX4_setUp 2 = .ok (.iconst 4, 1) := by decide +kernel
theorem dX4_setUp_3 : decode cX4_setUp 3 = .ok (.invokestatic 30, 3) := by decide +kernel
theorem dX4_setUp_6 : decode cX4_setUp 6 = .ok (.ifCond .eq 12, 3) := by decide +kernel
theorem dX4_setUp_9 : decode cX4_setUp 9 = .ok (.iload_n 2, 1) := by decide +kernel
theorem dX4_setUp_10 : decode cX4_setUp 10 = .ok (.iconst 1, 1) := by decide +kernel
theorem dX4_setUp_11 : decode cX4_setUp 11 = .ok (.iconst 3, 1) := by decide +kernel
theorem dX4_setUp_12 : decode cX4_setUp 12 = .ok (.invokestatic 30, 3) := by decide +kernel
theorem dX4_setUp_15 : decode cX4_setUp 15 = .ok (.ifCond .ne 6, 3) := by decide +kernel
theorem dX4_setUp_18 : decode cX4_setUp 18 = .ok (.bipush (-2), 2) := by decide +kernel
theorem dX4_setUp_20 : decode cX4_setUp 20 = .ok (.ireturn, 1) := by decide +kernel
theorem dX4_setUp_21 : decode cX4_setUp 21 = .ok (.aload_n 0, 1) := by decide +kernel
theorem dX4_setUp_22 : decode cX4_setUp 22 = .ok (.getfield 10, 3) := by decide +kernel
theorem dX4_setUp_25 : decode cX4_setUp 25 = .ok (.getfield 34, 3) := by decide +kernel
theorem dX4_setUp_28 : decode cX4_setUp 28 = .ok (.istore_n 3, 1) := by decide +kernel
theorem dX4_setUp_29 : decode cX4_setUp 29 = .ok (.aload_n 0, 1) := by decide +kernel
theorem dX4_setUp_30 : decode cX4_setUp 30 = .ok (.getfield 10, 3) := by decide +kernel
theorem dX4_setUp_33 : decode cX4_setUp 33 = .ok (.iload_n 1, 1) := by decide +kernel
theorem dX4_setUp_34 : decode cX4_setUp 34 = .ok (.iload_n 2, 1) := by decide +kernel
theorem dX4_setUp_35 : decode cX4_setUp 35 = .ok (.invokevirtual 38, 3) := by decide +kernel
theorem dX4_setUp_38 : decode cX4_setUp 38 = .ok (.iload_n 3, 1) := by decide +kernel
theorem dX4_setUp_39 : decode cX4_setUp 39 = .ok (.ireturn, 1) := by decide +kernel
theorem dX4_set_0 : decode cX4_set 0 = .ok (.iload_n 1, 1) := by decide +kernel
theorem dX4_set_1 : decode cX4_set 1 = .ok (.iconst 0, 1) := by decide +kernel
theorem dX4_set_2 : decode cX4_set 2 = .ok (.getstatic 42, 3) := by decide +kernel
theorem dX4_set_5 : decode cX4_set 5 = .ok (.arraylength, 1) := by decide +kernel
theorem dX4_set_6 : decode cX4_set 6 = .ok (.iconst 1, 1) := by decide +kernel
theorem dX4_set_7 : decode cX4_set 7 = .ok (.isub, 1) := by decide +kernel
theorem dX4_set_8 : decode cX4_set 8 = .ok (.invokestatic 30, 3) := by decide +kernel
theorem dX4_set_11 : decode cX4_set 11 = .ok (.ifCond .eq 16, 3) := by decide +kernel
theorem dX4_set_14 : decode cX4_set 14 = .ok (.iload_n 2, 1) := by decide +kernel
theorem dX4_set_15 : decode cX4_set 15 = .ok (.iconst 1, 1) := by decide +kernel
theorem dX4_set_16 : decode cX4_set 16 = .ok (.getstatic 42, 3) := by decide +kernel
theorem dX4_set_19 : decode cX4_set 19 = .ok (.iload_n 1, 1) := by decide +kernel
theorem dX4_set_20 : decode cX4_set 20 = .ok (.iaload, 1) := by decide +kernel
theorem dX4_set_21 : decode cX4_set 21 = .ok (.invokestatic 30, 3) := by decide +kernel
theorem dX4_set_24 : decode cX4_set 24 = .ok (.ifCond .ne 6, 3) := by decide +kernel
theorem dX4_set_27 : decode cX4_set 27 = .ok (.bipush (-2), 2) := by decide +kernel
theorem dX4_set_29 : decode cX4_set 29 = .ok (.ireturn, 1) := by decide +kernel
theorem dX4_set_30 : decode cX4_set 30 = .ok (.aload_n 0, 1) := by decide +kernel
theorem dX4_set_31 : decode cX4_set 31 = .ok (.getfield 10, 3) := by decide +kernel
theorem dX4_set_34 : decode cX4_set 34 = .ok (.iload_n 1, 1) := by decide +kernel
theorem dX4_set_35 : decode cX4_set 35 = .ok (.iload_n 2, 1) := by decide +kernel
theorem dX4_set_36 : decode cX4_set 36 = .ok (.invokevirtual 46, 3) := by decide +kernel
theorem dX4_set_39 : decode cX4_set 39 = .ok (.ireturn, 1) := by decide +kernel
theorem dX4_lift_0 : decode cX4_lift 0 = .ok (.iload_n 1, 1) := by decide +kernel
theorem dX4_lift_1 : decode cX4_lift 1 = .ok (.invokestatic 50, 3) := by decide +kernel
theorem dX4_lift_4 : decode cX4_lift 4 = .ok (.ifCond .eq 14, 3) := by decide +kernel
theorem dX4_lift_7 : decode cX4_lift 7 = .ok (.aload_n 0, 1) := by decide +kernel
theorem dX4_lift_8 : decode cX4_lift 8 = .ok (.getfield 10, 3) := by decide +kernel
theorem dX4_lift_11 : decode cX4_lift 11 = .ok (.iload_n 1, 1) := by decide +kernel
theorem dX4_lift_12 : decode cX4_lift 12 = .ok (.invokevirtual 54, 3) := by decide +kernel
theorem dX4_lift_15 : decode cX4_lift 15 = .ok (.goto 4, 3) := by decide +kernel
theorem dX4_lift_18 : decode cX4_lift 18 = .ok (.iconst (-1), 1) := by decide +kernel
theorem dX4_lift_19 : decode cX4_lift 19 = .ok (.ireturn, 1) := by decide +kernel
theorem dX4_hang_0 : decode cX4_hang 0 = .ok (.iload_n 1, 1) := by decide +kernel
theorem dX4_hang_1 : decode cX4_hang 1 = .ok (.invokestatic 50, 3) := by decide +kernel
theorem dX4_hang_4 : decode cX4_hang 4 = .ok (.ifCond .eq 14, 3) := by decide +kernel
theorem dX4_hang_7 : decode cX4_hang 7 = .ok (.aload_n 0, 1) := by decide +kernel
theorem dX4_hang_8 : decode cX4_hang 8 = .ok (.getfield 10, 3) := by decide +kernel
theorem dX4_hang_11 : decode cX4_hang 11 = .ok (.iload_n 1, 1) := by decide +kernel
theorem dX4_hang_12 : decode cX4_hang 12 = .ok (.invokevirtual 58, 3) := by decide +kernel
theorem dX4_hang_15 : decode cX4_hang 15 = .ok (.goto 4, 3) := by decide +kernel
theorem dX4_hang_18 : decode cX4_hang 18 = .ok (.iconst (-1), 1) := by decide +kernel
theorem dX4_hang_19 : decode cX4_hang 19 = .ok (.ireturn, 1) := by decide +kernel
theorem dX4_dial_0 : decode cX4_dial 0 = .ok (.iload_n 1, 1) := by decide +kernel
theorem dX4_dial_1 : decode cX4_dial 1 = .ok (.invokestatic 50, 3) := by decide +kernel
theorem dX4_dial_4 : decode cX4_dial 4 = .ok (.ifCond .ne 5, 3) := by decide +kernel
theorem dX4_dial_7 : decode cX4_dial 7 = .ok (.iconst (-1), 1) := by decide +kernel
theorem dX4_dial_8 : decode cX4_dial 8 = .ok (.ireturn, 1) := by decide +kernel
theorem dX4_dial_9 : decode cX4_dial 9 = .ok (.iload_n 2, 1) := by decide +kernel
theorem dX4_dial_10 : decode cX4_dial 10 = .ok (.iconst 0, 1) := by decide +kernel
theorem dX4_dial_11 : decode cX4_dial 11 = .ok (.bipush 9, 2) := by decide +kernel
theorem dX4_dial_13 : decode cX4_dial 13 = .ok (.invokestatic 30, 3) := by decide +kernel
theorem dX4_dial_16 : decode cX4_dial 16 = .ok (.ifCond .eq 15, 3) := by decide +kernel
theorem dX4_dial_19 : decode cX4_dial 19 = .ok (.aload_n 0, 1) := by decide +kernel
theorem dX4_dial_20 : decode cX4_dial 20 = .ok (.getfield 10, 3) := by decide +kernel
theorem dX4_dial_23 : decode cX4_dial 23 = .ok (.iload_n 1, 1) := by decide +kernel
theorem dX4_dial_24 : decode cX4_dial 24 = .ok (.iload_n 2, 1) := by decide +kernel
theorem dX4_dial_25 : decode cX4_dial 25 = .ok (.invokevirtual 61, 3) := by decide +kernel
theorem dX4_dial_28 : decode cX4_dial 28 = .ok (.goto 5, 3) := by decide +kernel
theorem dX4_dial_31 : decode cX4_dial 31 = .ok (.bipush (-2), 2) := by decide +kernel
theorem dX4_dial_33 : decode cX4_dial 33 = .ok (.ireturn, 1) := by decide +kernel
theorem dX4_tick_0 : decode cX4_tick 0 = .ok (.iload_n 1, 1) := by decide +kernel
theorem dX4_tick_1 : decode cX4_tick 1 = .ok (.iconst 1, 1) := by decide +kernel
theorem dX4_tick_2 : decode cX4_tick 2 = .ok (.sipush 1000, 3) := by decide +kernel
theorem dX4_tick_5 : decode cX4_tick 5 = .ok (.invokestatic 30, 3) := by decide +kernel
theorem dX4_tick_8 : decode cX4_tick 8 = .ok (.ifCond .ne 6, 3) := by decide +kernel
theorem dX4_tick_11 : decode cX4_tick 11 = .ok (.bipush (-2), 2) := by decide +kernel
theorem dX4_tick_13 : decode cX4_tick 13 = .ok (.ireturn, 1) := by decide +kernel
theorem dX4_tick_14 : decode cX4_tick 14 = .ok (.aload_n 0, 1) := by decide +kernel
theorem dX4_tick_15 : decode cX4_tick 15 = .ok (.getfield 10, 3) := by decide +kernel
theorem dX4_tick_18 : decode cX4_tick 18 = .ok (.iload_n 1, 1) := by decide +kernel
theorem dX4_tick_19 : decode cX4_tick 19 = .ok (.invokevirtual 64, 3) := by decide +kernel
theorem dX4_tick_22 : decode cX4_tick 22 = .ok (.ifCond .ne 6, 3) := by decide +kernel
theorem dX4_tick_25 : decode cX4_tick 25 = .ok (.bipush (-5), 2) := by decide +kernel
theorem dX4_tick_27 : decode cX4_tick 27 = .ok (.ireturn, 1) := by decide +kernel
theorem dX4_tick_28 : decode cX4_tick 28 = .ok (.aload_n 0, 1) := by decide +kernel
theorem dX4_tick_29 : decode cX4_tick 29 = .ok (.getfield 10, 3) := by decide +kernel
theorem dX4_tick_32 : decode cX4_tick 32 = .ok (.iload_n 1, 1) := by decide +kernel
theorem dX4_tick_33 : decode cX4_tick 33 = .ok (.invokevirtual 67, 3) := by decide +kernel
theorem dX4_tick_36 : decode cX4_tick 36 = .ok (.aload_n 0, 1) := by decide +kernel
theorem dX4_tick_37 : decode cX4_tick 37 = .ok (.getfield 10, 3) := by decide +kernel
theorem dX4_tick_40 : decode cX4_tick 40 = .ok (.getfield 71, 3) := by decide +kernel
theorem dX4_tick_43 : decode cX4_tick 43 = .ok (.ireturn, 1) := by decide +kernel
theorem dX4_line_0 : decode cX4_line 0 = .ok (.iload_n 1, 1) := by decide +kernel
theorem dX4_line_1 : decode cX4_line 1 = .ok (.invokestatic 50, 3) := by decide +kernel
theorem dX4_line_4 : decode cX4_line 4 = .ok (.ifCond .eq 15, 3) := by decide +kernel
theorem dX4_line_7 : decode cX4_line 7 = .ok (.aload_n 0, 1) := by decide +kernel
theorem dX4_line_8 : decode cX4_line 8 = .ok (.getfield 10, 3) := by decide +kernel
theorem dX4_line_11 : decode cX4_line 11 = .ok (.iload_n 1, 1) := by decide +kernel
theorem dX4_line_12 : decode cX4_line 12 = .ok (.iload_n 2, 1) := by decide +kernel
theorem dX4_line_13 : decode cX4_line 13 = .ok (.invokevirtual 74, 3) := by decide +kernel
theorem dX4_line_16 : decode cX4_line 16 = .ok (.goto 4, 3) := by decide +kernel
theorem dX4_line_19 : decode cX4_line 19 = .ok (.iconst (-1), 1) := by decide +kernel
theorem dX4_line_20 : decode cX4_line 20 = .ok (.ireturn, 1) := by decide +kernel
theorem dX4_finder_0 : decode cX4_finder 0 = .ok (.iload_n 1, 1) := by decide +kernel
theorem dX4_finder_1 : decode cX4_finder 1 = .ok (.iconst 0, 1) := by decide +kernel
theorem dX4_finder_2 : decode cX4_finder 2 = .ok (.aload_n 0, 1) := by decide +kernel
theorem dX4_finder_3 : decode cX4_finder 3 = .ok (.getfield 10, 3) := by decide +kernel
theorem dX4_finder_6 : decode cX4_finder 6 = .ok (.getfield 34, 3) := by decide +kernel
theorem dX4_finder_9 : decode cX4_finder 9 = .ok (.iconst 1, 1) := by decide +kernel
theorem dX4_finder_10 : decode cX4_finder 10 = .ok (.isub, 1) := by decide +kernel
theorem dX4_finder_11 : decode cX4_finder 11 = .ok (.invokestatic 30, 3) := by decide +kernel
theorem dX4_finder_14 : decode cX4_finder 14 = .ok (.ifCond .eq 18, 3) := by decide +kernel
theorem dX4_finder_17 : decode cX4_finder 17 = .ok (.aload_n 0, 1) := by decide +kernel
theorem dX4_finder_18 : decode cX4_finder 18 = .ok (.getfield 10, 3) := by decide +kernel
theorem dX4_finder_21 : decode cX4_finder 21 = .ok (.iload_n 1, 1) := by decide +kernel
theorem dX4_finder_22 : decode cX4_finder 22 = .ok (.invokevirtual 77, 3) := by decide +kernel
theorem dX4_finder_25 : decode cX4_finder 25 = .ok (.iload_n 2, 1) := by decide +kernel
theorem dX4_finder_26 : decode cX4_finder 26 = .ok (.invokevirtual 81, 3) := by decide +kernel
theorem dX4_finder_29 : decode cX4_finder 29 = .ok (.goto 4, 3) := by decide +kernel
theorem dX4_finder_32 : decode cX4_finder 32 = .ok (.iconst (-1), 1) := by decide +kernel
theorem dX4_finder_33 : decode cX4_finder 33 = .ok (.ireturn, 1) := by decide +kernel
theorem dX4_connector_0 : decode cX4_connector 0 = .ok (.iload_n 1, 1) := by decide +kernel
theorem dX4_connector_1 : decode cX4_connector 1 = .ok (.iconst 1, 1) := by decide +kernel
theorem dX4_connector_2 : decode cX4_connector 2 = .ok (.iconst 4, 1) := by decide +kernel
theorem dX4_connector_3 : decode cX4_connector 3 = .ok (.invokestatic 30, 3) := by decide +kernel
theorem dX4_connector_6 : decode cX4_connector 6 = .ok (.ifCond .eq 20, 3) := by decide +kernel
theorem dX4_connector_9 : decode cX4_connector 9 = .ok (.iload_n 2, 1) := by decide +kernel
theorem dX4_connector_10 : decode cX4_connector 10 = .ok (.iconst 0, 1) := by decide +kernel
theorem dX4_connector_11 : decode cX4_connector 11 = .ok (.aload_n 0, 1) := by decide +kernel
theorem dX4_connector_12 : decode cX4_connector 12 = .ok (.getfield 10, 3) := by decide +kernel
theorem dX4_connector_15 : decode cX4_connector 15 = .ok (.getfield 86, 3) := by decide +kernel
theorem dX4_connector_18 : decode cX4_connector 18 = .ok (.iconst 1, 1) := by decide +kernel
theorem dX4_connector_19 : decode cX4_connector 19 = .ok (.isub, 1) := by decide +kernel
theorem dX4_connector_20 : decode cX4_connector 20 = .ok (.invokestatic 30, 3) := by decide +kernel
theorem dX4_connector_23 : decode cX4_connector 23 = .ok (.ifCond .ne 5, 3) := by decide +kernel
theorem dX4_connector_26 : decode cX4_connector 26 = .ok (.iconst (-1), 1) := by decide +kernel
theorem dX4_connector_27 : decode cX4_connector 27 = .ok (.ireturn, 1) := by decide +kernel
theorem dX4_connector_28 : decode cX4_connector 28 = .ok (.aload_n 0, 1) := by decide +kernel
theorem dX4_connector_29 : decode cX4_connector 29 = .ok (.getfield 10, 3) := by decide +kernel
theorem dX4_connector_32 : decode cX4_connector 32 = .ok (.iload_n 1, 1) := by decide +kernel
theorem dX4_connector_33 : decode cX4_connector 33 = .ok (.iload_n 2, 1) := by decide +kernel
theorem dX4_connector_34 : decode cX4_connector 34 = .ok (.invokevirtual 89, 3) := by decide +kernel
theorem dX4_connector_37 : decode cX4_connector 37 = .ok (.ireturn, 1) := by decide +kernel
theorem dX4_count_0 : decode cX4_count 0 = .ok (.iload_n 1, 1) := by decide +kernel
theorem dX4_count_1 : decode cX4_count 1 = .ok (.bipush 14, 2) := by decide +kernel
theorem dX4_count_3 : decode cX4_count 3 = .ok (.if_icmp .ne 13, 3) := by decide +kernel
theorem dX4_count_6 : decode cX4_count 6 = .ok (.aload_n 0, 1) := by decide +kernel
theorem dX4_count_7 : decode cX4_count 7 = .ok (.getfield 26, 3) := by decide +kernel
theorem dX4_count_10 : decode cX4_count 10 = .ok (.getfield 92, 3) := by decide +kernel
theorem dX4_count_13 : decode cX4_count 13 = .ok (.goto 11, 3) := by decide +kernel
theorem dX4_count_16 : decode cX4_count 16 = .ok (.aload_n 0, 1) := by decide +kernel
theorem dX4_count_17 : decode cX4_count 17 = .ok (.getfield 10, 3) := by decide +kernel
theorem dX4_count_20 : decode cX4_count 20 = .ok (.iload_n 1, 1) := by decide +kernel
theorem dX4_count_21 : decode cX4_count 21 = .ok (.invokevirtual 95, 3) := by decide +kernel
theorem dX4_count_24 : decode cX4_count 24 = .ok (.ireturn, 1) := by decide +kernel
theorem dX4_trace_0 : decode cX4_trace 0 = .ok (.iload_n 1, 1) := by decide +kernel
theorem dX4_trace_1 : decode cX4_trace 1 = .ok (.invokestatic 50, 3) := by decide +kernel
theorem dX4_trace_4 : decode cX4_trace 4 = .ok (.ifCond .ne 5, 3) := by decide +kernel
theorem dX4_trace_7 : decode cX4_trace 7 = .ok (.iconst (-1), 1) := by decide +kernel
theorem dX4_trace_8 : decode cX4_trace 8 = .ok (.ireturn, 1) := by decide +kernel
theorem dX4_trace_9 : decode cX4_trace 9 = .ok (.iload_n 2, 1) := by decide +kernel
theorem dX4_trace_10 : decode cX4_trace 10 = .ok (.iconst 0, 1) := by decide +kernel
theorem dX4_trace_11 : decode cX4_trace 11 = .ok (.iconst 2, 1) := by decide +kernel
theorem dX4_trace_12 : decode cX4_trace 12 = .ok (.invokestatic 30, 3) := by decide +kernel
theorem dX4_trace_15 : decode cX4_trace 15 = .ok (.ifCond .ne 6, 3) := by decide +kernel
theorem dX4_trace_18 : decode cX4_trace 18 = .ok (.bipush (-2), 2) := by decide +kernel
theorem dX4_trace_20 : decode cX4_trace 20 = .ok (.ireturn, 1) := by decide +kernel
theorem dX4_trace_21 : decode cX4_trace 21 = .ok (.aload_n 0, 1) := by decide +kernel
theorem dX4_trace_22 : decode cX4_trace 22 = .ok (.getfield 10, 3) := by decide +kernel
theorem dX4_trace_25 : decode cX4_trace 25 = .ok (.iload_n 1, 1) := by decide +kernel
theorem dX4_trace_26 : decode cX4_trace 26 = .ok (.iload_n 2, 1) := by decide +kernel
theorem dX4_trace_27 : decode cX4_trace 27 = .ok (.invokevirtual 96, 3) := by decide +kernel
theorem dX4_trace_30 : decode cX4_trace 30 = .ok (.ireturn, 1) := by decide +kernel
theorem dX4_until_0 : decode cX4_until 0 = .ok (.iload_n 1, 1) := by decide +kernel
theorem dX4_until_1 : decode cX4_until 1 = .ok (.invokestatic 50, 3) := by decide +kernel
theorem dX4_until_4 : decode cX4_until 4 = .ok (.ifCond .ne 5, 3) := by decide +kernel
theorem dX4_until_7 : decode cX4_until 7 = .ok (.iconst (-1), 1) := by decide +kernel
theorem dX4_until_8 : decode cX4_until 8 = .ok (.ireturn, 1) := by decide +kernel
theorem dX4_until_9 : decode cX4_until 9 = .ok (.iload_n 2, 1) := by decide +kernel
theorem dX4_until_10 : decode cX4_until 10 = .ok (.iconst 0, 1) := by decide +kernel
theorem dX4_until_11 : decode cX4_until 11 = .ok (.bipush 11, 2) := by decide +kernel
theorem dX4_until_13 : decode cX4_until 13 = .ok (.invokestatic 30, 3) := by decide +kernel
theorem dX4_until_16 : decode cX4_until 16 = .ok (.ifCond .eq 14, 3) := by decide +kernel
theorem dX4_until_19 : decode cX4_until 19 = .ok (.iload_n 3, 1) := by decide +kernel
theorem dX4_until_20 : decode cX4_until 20 = .ok (.iconst 0, 1) := by decide +kernel
theorem dX4_until_21 : decode cX4_until 21 = .ok (.sipush 1000, 3) := by decide +kernel
theorem dX4_until_24 : decode cX4_until 24 = .ok (.invokestatic 30, 3) := by decide +kernel
theorem dX4_until_27 : decode cX4_until 27 = .ok (.ifCond .ne 6, 3) := by decide +kernel
theorem dX4_until_30 : decode cX4_until 30 = .ok (.bipush (-2), 2) := by decide +kernel
theorem dX4_until_32 : decode cX4_until 32 = .ok (.ireturn, 1) := by decide +kernel
theorem dX4_until_33 : decode cX4_until 33 = .ok (.aload_n 0, 1) := by decide +kernel
theorem dX4_until_34 : decode cX4_until 34 = .ok (.getfield 16, 3) := by decide +kernel
theorem dX4_until_37 : decode cX4_until 37 = .ok (.aload_n 0, 1) := by decide +kernel
theorem dX4_until_38 : decode cX4_until 38 = .ok (.getfield 10, 3) := by decide +kernel
theorem dX4_until_41 : decode cX4_until 41 = .ok (.invokevirtual 99, 3) := by decide +kernel
theorem dX4_until_44 : decode cX4_until 44 = .ok (.aload_n 0, 1) := by decide +kernel
theorem dX4_until_45 : decode cX4_until 45 = .ok (.getfield 16, 3) := by decide +kernel
theorem dX4_until_48 : decode cX4_until 48 = .ok (.iload_n 1, 1) := by decide +kernel
theorem dX4_until_49 : decode cX4_until 49 = .ok (.iload_n 2, 1) := by decide +kernel
theorem dX4_until_50 : decode cX4_until 50 = .ok (.iload_n 3, 1) := by decide +kernel
theorem dX4_until_51 : decode cX4_until 51 = .ok (.invokevirtual 103, 3) := by decide +kernel
theorem dX4_until_54 : decode cX4_until 54 = .ok (.ireturn, 1) := by decide +kernel
theorem dX4_save_0 : decode cX4_save 0 = .ok (.iload_n 1, 1) := by decide +kernel
theorem dX4_save_1 : decode cX4_save 1 = .ok (.iconst 0, 1) := by decide +kernel
theorem dX4_save_2 : decode cX4_save 2 = .ok (.aload_n 0, 1) := by decide +kernel
theorem dX4_save_3 : decode cX4_save 3 = .ok (.getfield 19, 3) := by decide +kernel
theorem dX4_save_6 : decode cX4_save 6 = .ok (.arraylength, 1) := by decide +kernel
theorem dX4_save_7 : decode cX4_save 7 = .ok (.iconst 1, 1) := by decide +kernel
theorem dX4_save_8 : decode cX4_save 8 = .ok (.isub, 1) := by decide +kernel
theorem dX4_save_9 : decode cX4_save 9 = .ok (.invokestatic 30, 3) := by decide +kernel
theorem dX4_save_12 : decode cX4_save 12 = .ok (.ifCond .ne 6, 3) := by decide +kernel
theorem dX4_save_15 : decode cX4_save 15 = .ok (.bipush (-2), 2) := by decide +kernel
theorem dX4_save_17 : decode cX4_save 17 = .ok (.ireturn, 1) := by decide +kernel
theorem dX4_save_18 : decode cX4_save 18 = .ok (.aload_n 0, 1) := by decide +kernel
theorem dX4_save_19 : decode cX4_save 19 = .ok (.getfield 19, 3) := by decide +kernel
theorem dX4_save_22 : decode cX4_save 22 = .ok (.iload_n 1, 1) := by decide +kernel
theorem dX4_save_23 : decode cX4_save 23 = .ok (.aaload, 1) := by decide +kernel
theorem dX4_save_24 : decode cX4_save 24 = .ok (.astore_n 2, 1) := by decide +kernel
theorem dX4_save_25 : decode cX4_save 25 = .ok (.aload_n 2, 1) := by decide +kernel
theorem dX4_save_26 : decode cX4_save 26 = .ok (.ifnonnull 18, 3) := by decide +kernel
theorem dX4_save_29 : decode cX4_save 29 = .ok (.new 7, 3) := by decide +kernel
theorem dX4_save_32 : decode cX4_save 32 = .ok (.dup, 1) := by decide +kernel
theorem dX4_save_33 : decode cX4_save 33 = .ok (.invokespecial 9, 3) := by decide +kernel
theorem dX4_save_36 : decode cX4_save 36 = .ok (.astore_n 2, 1) := by decide +kernel
theorem dX4_save_37 : decode cX4_save 37 = .ok (.aload_n 0, 1) := by decide +kernel
theorem dX4_save_38 : decode cX4_save 38 = .ok (.getfield 19, 3) := by decide +kernel
theorem dX4_save_41 : decode cX4_save 41 = .ok (.iload_n 1, 1) := by decide +kernel
theorem dX4_save_42 : decode cX4_save 42 = .ok (.aload_n 2, 1) := by decide +kernel
theorem dX4_save_43 : decode cX4_save 43 = .ok (.aastore, 1) := by decide +kernel
theorem dX4_save_44 : decode cX4_save 44 = .ok (.aload_n 2, 1) := by decide +kernel
theorem dX4_save_45 : decode cX4_save 45 = .ok (.aload_n 0, 1) := by decide +kernel
theorem dX4_save_46 : decode cX4_save 46 = .ok (.getfield 10, 3) := by decide +kernel
theorem dX4_save_49 : decode cX4_save 49 = .ok (.invokevirtual 99, 3) := by decide +kernel
theorem dX4_save_52 : decode cX4_save 52 = .ok (.aload_n 0, 1) := by decide +kernel
theorem dX4_save_53 : decode cX4_save 53 = .ok (.getfield 10, 3) := by decide +kernel
theorem dX4_save_56 : decode cX4_save 56 = .ok (.getfield 71, 3) := by decide +kernel
theorem dX4_save_59 : decode cX4_save 59 = .ok (.ireturn, 1) := by decide +kernel
theorem dX4_restore_0 : decode cX4_restore 0 = .ok (.iload_n 1, 1) := by decide +kernel
theorem dX4_restore_1 : decode cX4_restore 1 = .ok (.iconst 0, 1) := by decide +kernel
theorem dX4_restore_2 : decode cX4_restore 2 = .ok (.aload_n 0, 1) := by decide +kernel
theorem dX4_restore_3 : decode cX4_restore 3 = .ok (.getfield 19, 3) := by decide +kernel
theorem dX4_restore_6 : decode cX4_restore 6 = .ok (.arraylength, 1) := by decide +kernel
theorem dX4_restore_7 : decode cX4_restore 7 = .ok (.iconst 1, 1) := by decide +kernel
theorem dX4_restore_8 : decode cX4_restore 8 = .ok (.isub, 1) := by decide +kernel
theorem dX4_restore_9 : decode cX4_restore 9 = .ok (.invokestatic 30, 3) := by decide +kernel
theorem dX4_restore_12 : decode cX4_restore 12 = .ok (.ifCond .ne 6, 3) := by decide +kernel
theorem dX4_restore_15 : decode cX4_restore 15 = .ok (.bipush (-2), 2) := by decide +kernel
theorem dX4_restore_17 : decode cX4_restore 17 = .ok (.ireturn, 1) := by decide +kernel
theorem dX4_restore_18 : decode cX4_restore 18 = .ok (.aload_n 0, 1) := by decide +kernel
theorem dX4_restore_19 : decode cX4_restore 19 = .ok (.getfield 19, 3) := by decide +kernel
theorem dX4_restore_22 : decode cX4_restore 22 = .ok (.iload_n 1, 1) := by decide +kernel
theorem dX4_restore_23 : decode cX4_restore 23 = .ok (.aaload, 1) := by decide +kernel
theorem dX4_restore_24 : decode cX4_restore 24 = .ok (.astore_n 2, 1) := by decide +kernel
theorem dX4_restore_25 : decode cX4_restore 25 = .ok (.aload_n 2, 1) := by decide +kernel
theorem dX4_restore_26 : decode cX4_restore 26 = .ok (.ifnonnull 6, 3) := by decide +kernel
theorem dX4_restore_29 : decode cX4_restore 29 = .ok (.bipush (-5), 2) := by decide +kernel
theorem dX4_restore_31 : decode cX4_restore 31 = .ok (.ireturn, 1) := by decide +kernel
theorem dX4_restore_32 : decode cX4_restore 32 = .ok (.aload_n 0, 1) := by decide +kernel
theorem dX4_restore_33 : decode cX4_restore 33 = .ok (.getfield 10, 3) := by decide +kernel
theorem dX4_restore_36 : decode cX4_restore 36 = .ok (.aload_n 2, 1) := by decide +kernel
theorem dX4_restore_37 : decode cX4_restore 37 = .ok (.invokevirtual 99, 3) := by decide +kernel
theorem dX4_restore_40 : decode cX4_restore 40 = .ok (.aload_n 0, 1) := by decide +kernel
theorem dX4_restore_41 : decode cX4_restore 41 = .ok (.getfield 10, 3) := by decide +kernel
theorem dX4_restore_44 : decode cX4_restore 44 = .ok (.getfield 71, 3) := by decide +kernel
theorem dX4_restore_47 : decode cX4_restore 47 = .ok (.ireturn, 1) := by decide +kernel
theorem dX4_isLine_0 : decode cX4_isLine 0 = .ok (.iload_n 0, 1) := by decide +kernel
theorem dX4_isLine_1 : decode cX4_isLine 1 = .ok (.iconst 0, 1) := by decide +kernel
theorem dX4_isLine_2 : decode cX4_isLine 2 = .ok (.bipush 15, 2) := by decide +kernel
theorem dX4_isLine_4 : decode cX4_isLine 4 = .ok (.invokestatic 30, 3) := by decide +kernel
theorem dX4_isLine_7 : decode cX4_isLine 7 = .ok (.ireturn, 1) := by decide +kernel
theorem dX4_isWithin_0 : decode cX4_isWithin 0 = .ok (.iload_n 0, 1) := by decide +kernel
theorem dX4_isWithin_1 : decode cX4_isWithin 1 = .ok (.iload_n 1, 1) := by decide +kernel
theorem dX4_isWithin_2 : decode cX4_isWithin 2 = .ok (.if_icmp .lt 12, 3) := by decide +kernel
theorem dX4_isWithin_5 : decode cX4_isWithin 5 = .ok (.iload_n 0, 1) := by decide +kernel
theorem dX4_isWithin_6 : decode cX4_isWithin 6 = .ok (.iload_n 2, 1) := by decide +kernel
theorem dX4_isWithin_7 : decode cX4_isWithin 7 = .ok (.if_icmp .gt 7, 3) := by decide +kernel
theorem dX4_isWithin_10 : decode cX4_isWithin 10 = .ok (.iconst 1, 1) := by decide +kernel
theorem dX4_isWithin_11 : decode cX4_isWithin 11 = .ok (.goto 4, 3) := by decide +kernel
theorem dX4_isWithin_14 : decode cX4_isWithin 14 = .ok (.iconst 0, 1) := by decide +kernel
theorem dX4_isWithin_15 : decode cX4_isWithin 15 = .ok (.ireturn, 1) := by decide +kernel
theorem dL_cell_0 : decode cL_cell 0 = .ok (.aload_n 0, 1) := by decide +kernel
theorem dL_cell_1 : decode cL_cell 1 = .ok (.arraylength, 1) := by decide +kernel
theorem dL_cell_2 : decode cL_cell 2 = .ok (.ifCond .ne 12, 3) := by decide +kernel
theorem dL_cell_5 : decode cL_cell 5 = .ok (.iload_n 1, 1) := by decide +kernel
theorem dL_cell_6 : decode cL_cell 6 = .ok (.bipush 37, 2) := by decide +kernel
theorem dL_cell_8 : decode cL_cell 8 = .ok (.imul, 1) := by decide +kernel
theorem dL_cell_9 : decode cL_cell 9 = .ok (.iconst 5, 1) := by decide +kernel
theorem dL_cell_10 : decode cL_cell 10 = .ok (.iadd, 1) := by decide +kernel
theorem dL_cell_11 : decode cL_cell 11 = .ok (.goto 17, 3) := by decide +kernel
theorem dL_cell_14 : decode cL_cell 14 = .ok (.aload_n 0, 1) := by decide +kernel
theorem dL_cell_15 : decode cL_cell 15 = .ok (.iload_n 1, 1) := by decide +kernel
theorem dL_cell_16 : decode cL_cell 16 = .ok (.aload_n 0, 1) := by decide +kernel
theorem dL_cell_17 : decode cL_cell 17 = .ok (.arraylength, 1) := by decide +kernel
theorem dL_cell_18 : decode cL_cell 18 = .ok (.irem, 1) := by decide +kernel
theorem dL_cell_19 : decode cL_cell 19 = .ok (.iaload, 1) := by decide +kernel
theorem dL_cell_20 : decode cL_cell 20 = .ok (.iload_n 1, 1) := by decide +kernel
theorem dL_cell_21 : decode cL_cell 21 = .ok (.bipush 7, 2) := by decide +kernel
theorem dL_cell_23 : decode cL_cell 23 = .ok (.irem, 1) := by decide +kernel
theorem dL_cell_24 : decode cL_cell 24 = .ok (.ishr, 1) := by decide +kernel
theorem dL_cell_25 : decode cL_cell 25 = .ok (.ldc 7, 2) := by decide +kernel
theorem dL_cell_27 : decode cL_cell 27 = .ok (.iand, 1) := by decide +kernel
theorem dL_cell_28 : decode cL_cell 28 = .ok (.iload_n 2, 1) := by decide +kernel
theorem dL_cell_29 : decode cL_cell 29 = .ok (.irem, 1) := by decide +kernel
theorem dL_cell_30 : decode cL_cell 30 = .ok (.ireturn, 1) := by decide +kernel
theorem dL_fits_0 : decode cL_fits 0 = .ok (.iconst 0, 1) := by decide +kernel
theorem dL_fits_1 : decode cL_fits 1 = .ok (.istore_n 1, 1) := by decide +kernel
theorem dL_fits_2 : decode cL_fits 2 = .ok (.iconst 0, 1) := by decide +kernel
theorem dL_fits_3 : decode cL_fits 3 = .ok (.istore_n 2, 1) := by decide +kernel
theorem dL_fits_4 : decode cL_fits 4 = .ok (.iconst 0, 1) := by decide +kernel
theorem dL_fits_5 : decode cL_fits 5 = .ok (.istore_n 3, 1) := by decide +kernel
theorem dL_fits_6 : decode cL_fits 6 = .ok (.iconst 0, 1) := by decide +kernel
theorem dL_fits_7 : decode cL_fits 7 = .ok (.istore 4, 2) := by decide +kernel
theorem dL_fits_9 : decode cL_fits 9 = .ok (.bipush 16, 2) := by decide +kernel
theorem dL_fits_11 : decode cL_fits 11 = .ok (.newarray .int, 2) := by decide +kernel
theorem dL_fits_13 : decode cL_fits 13 = .ok (.astore 5, 2) := by decide +kernel
theorem dL_fits_15 : decode cL_fits 15 = .ok (.iconst 0, 1) := by decide +kernel
theorem dL_fits_16 : decode cL_fits 16 = .ok (.istore 6, 2) := by decide +kernel
theorem dL_fits_18 : decode cL_fits 18 = .ok (.iload 6, 2) := by decide +kernel
theorem dL_fits_20 : decode cL_fits 20 = .ok (.aload_n 0, 1) := by decide +kernel
theorem dL_fits_21 : decode cL_fits 21 = .ok (.iconst 1, 1) := by decide +kernel
theorem dL_fits_22 : decode cL_fits 22 = .ok (.invokevirtual 8, 3) := by decide +kernel
theorem dL_fits_25 : decode cL_fits 25 = .ok (.if_icmp .ge 489, 3) := by decide +kernel
theorem dL_fits_28 : decode cL_fits 28 = .ok (.aload_n 0, 1) := by decide +kernel
theorem dL_fits_29 : decode cL_fits 29 = .ok (.iload 6, 2) := by decide +kernel
theorem dL_fits_31 : decode cL_fits 31 = .ok (.iconst 0, 1) := by decide +kernel
theorem dL_fits_32 : decode cL_fits 32 = .ok (.invokevirtual 14, 3) := by decide +kernel
theorem dL_fits_35 : decode cL_fits 35 = .ok (.istore 7, 2) := by decide +kernel
theorem dL_fits_37 : decode cL_fits 37 = .ok (.aload_n 0, 1) := by decide +kernel
theorem dL_fits_38 : decode cL_fits 38 = .ok (.iload 6, 2) := by decide +kernel
theorem dL_fits_40 : decode cL_fits 40 = .ok (.iconst 2, 1) := by decide +kernel
theorem dL_fits_41 : decode cL_fits 41 = .ok (.invokevirtual 14, 3) := by decide +kernel
theorem dL_fits_44 : decode cL_fits 44 = .ok (.istore 8, 2) := by decide +kernel
theorem dL_fits_46 : decode cL_fits 46 = .ok (.iload_n 1, 1) := by decide +kernel
theorem dL_fits_47 : decode cL_fits 47 = .ok (.iload 7, 2) := by decide +kernel
theorem dL_fits_49 : decode cL_fits 49 = .ok (.ifCond .ne 7, 3) := by decide +kernel
theorem dL_fits_52 : decode cL_fits 52 = .ok (.iconst 1, 1) := by decide +kernel
theorem dL_fits_53 : decode cL_fits 53 = .ok (.goto 4, 3) := by decide +kernel
theorem dL_fits_56 : decode cL_fits 56 = .ok (.iconst 0, 1) := by decide +kernel
theorem dL_fits_57 : decode cL_fits 57 = .ok (.iadd, 1) := by decide +kernel
theorem dL_fits_58 : decode cL_fits 58 = .ok (.istore_n 1, 1) := by decide +kernel
theorem dL_fits_59 : decode cL_fits 59 = .ok (.iload_n 2, 1) := by decide +kernel
theorem dL_fits_60 : decode cL_fits 60 = .ok (.iload 7, 2) := by decide +kernel
theorem dL_fits_62 : decode cL_fits 62 = .ok (.iconst 4, 1) := by decide +kernel
theorem dL_fits_63 : decode cL_fits 63 = .ok (.if_icmp .le 14, 3) := by decide +kernel
theorem dL_fits_66 : decode cL_fits 66 = .ok (.iload 7, 2) := by decide +kernel
theorem dL_fits_68 : decode cL_fits 68 = .ok (.bipush 9, 2) := by decide +kernel
theorem dL_fits_70 : decode cL_fits 70 = .ok (.if_icmp .ge 7, 3) := by decide +kernel
theorem dL_fits_73 : decode cL_fits 73 = .ok (.iconst 1, 1) := by decide +kernel
theorem dL_fits_74 : decode cL_fits 74 = .ok (.goto 4, 3) := by decide +kernel
theorem dL_fits_77 : decode cL_fits 77 = .ok (.iconst 0, 1) := by decide +kernel
theorem dL_fits_78 : decode cL_fits 78 = .ok (.iadd, 1) := by decide +kernel
theorem dL_fits_79 : decode cL_fits 79 = .ok (.istore_n 2, 1) := by decide +kernel
theorem dL_fits_80 : decode cL_fits 80 = .ok (.iload 7, 2) := by decide +kernel
theorem dL_fits_82 : decode cL_fits 82 = .ok (.ifCond .ne 7, 3) := by decide +kernel
theorem dL_fits_85 : decode cL_fits 85 = .ok (.iconst 1, 1) := by decide +kernel
theorem dL_fits_86 : decode cL_fits 86 = .ok (.goto 4, 3) := by decide +kernel
theorem dL_fits_89 : decode cL_fits 89 = .ok (.iconst 0, 1) := by decide +kernel
theorem dL_fits_90 : decode cL_fits 90 = .ok (.iload 8, 2) := by decide +kernel
theorem dL_fits_92 : decode cL_fits 92 = .ok (.bipush (-6), 2) := by decide +kernel
theorem dL_fits_94 : decode cL_fits 94 = .ok (.if_icmp .ne 7, 3) := by decide +kernel
theorem dL_fits_97 : decode cL_fits 97 = .ok (.iconst 1, 1) := by decide +kernel
theorem dL_fits_98 : decode cL_fits 98 = .ok (.goto 4, 3) := by decide +kernel
theorem dL_fits_101 : decode cL_fits 101 = .ok (.iconst 0, 1) := by decide +kernel
theorem dL_fits_102 : decode cL_fits 102 = .ok (.if_icmp .eq 5, 3) := by decide +kernel
theorem dL_fits_105 : decode cL_fits 105 = .ok (.iconst 0, 1) := by decide +kernel
theorem dL_fits_106 : decode cL_fits 106 = .ok (.ireturn, 1) := by decide +kernel
theorem dL_fits_107 : decode cL_fits 107 = .ok (.iload 8, 2) := by decide +kernel
theorem dL_fits_109 : decode cL_fits 109 = .ok (.ifCond .lt 185, 3) := by decide +kernel
theorem dL_fits_112 : decode cL_fits 112 = .ok (.aload 5, 2) := by decide +kernel
theorem dL_fits_114 : decode cL_fits 114 = .ok (.iload 8, 2) := by decide +kernel
theorem dL_fits_116 : decode cL_fits 116 = .ok (.dup2, 1) := by decide +kernel
theorem dL_fits_117 : decode cL_fits 117 = .ok (.iaload, 1) := by decide +kernel
theorem dL_fits_118 : decode cL_fits 118 = .ok (.iconst 1, 1) := by decide +kernel
theorem dL_fits_119 : decode cL_fits 119 = .ok (.iadd, 1) := by decide +kernel
theorem dL_fits_120 : decode cL_fits 120 = .ok (.iastore, 1) := by decide +kernel
theorem dL_fits_121 : decode cL_fits 121 = .ok (.aload_n 0, 1) := by decide +kernel
theorem dL_fits_122 : decode cL_fits 122 = .ok (.iload 8, 2) := by decide +kernel
theorem dL_fits_124 : decode cL_fits 124 = .ok (.iconst 0, 1) := by decide +kernel
theorem dL_fits_125 : decode cL_fits 125 = .ok (.invokevirtual 18, 3) := by decide +kernel
theorem dL_fits_128 : decode cL_fits 128 = .ok (.istore 9, 2) := by decide +kernel
theorem dL_fits_130 : decode cL_fits 130 = .ok (.iload 7, 2) := by decide +kernel
theorem dL_fits_132 : decode cL_fits 132 = .ok (.iconst 1, 1) := by decide +kernel
theorem dL_fits_133 : decode cL_fits 133 = .ok (.if_icmp .ne 17, 3) := by decide +kernel
theorem dL_fits_136 : decode cL_fits 136 = .ok (.iload 9, 2) := by decide +kernel
theorem dL_fits_138 : decode cL_fits 138 = .ok (.iconst 1, 1) := by decide +kernel
theorem dL_fits_139 : decode cL_fits 139 = .ok (.if_icmp .ne 7, 3) := by decide +kernel
theorem dL_fits_142 : decode cL_fits 142 = .ok (.iconst 1, 1) := by decide +kernel
theorem dL_fits_143 : decode cL_fits 143 = .ok (.goto 110, 3) := by decide +kernel
theorem dL_fits_146 : decode cL_fits 146 = .ok (.iconst 0, 1) := by decide +kernel
theorem dL_fits_147 : decode cL_fits 147 = .ok (.goto 106, 3) := by decide +kernel
theorem dL_fits_150 : decode cL_fits 150 = .ok (.iload 7, 2) := by decide +kernel
theorem dL_fits_152 : decode cL_fits 152 = .ok (.iconst 2, 1) := by decide +kernel
theorem dL_fits_153 : decode cL_fits 153 = .ok (.if_icmp .ne 17, 3) := by decide +kernel
theorem dL_fits_156 : decode cL_fits 156 = .ok (.iload 9, 2) := by decide +kernel
theorem dL_fits_158 : decode cL_fits 158 = .ok (.iconst 2, 1) := by decide +kernel
theorem dL_fits_159 : decode cL_fits 159 = .ok (.if_icmp .ne 7, 3) := by decide +kernel
theorem dL_fits_162 : decode cL_fits 162 = .ok (.iconst 1, 1) := by decide +kernel
theorem dL_fits_163 : decode cL_fits 163 = .ok (.goto 90, 3) := by decide +kernel
theorem dL_fits_166 : decode cL_fits 166 = .ok (.iconst 0, 1) := by decide +kernel
theorem dL_fits_167 : decode cL_fits 167 = .ok (.goto 86, 3) := by decide +kernel
theorem dL_fits_170 : decode cL_fits 170 = .ok (.iload 7, 2) := by decide +kernel
theorem dL_fits_172 : decode cL_fits 172 = .ok (.bipush 7, 2) := by decide +kernel
theorem dL_fits_174 : decode cL_fits 174 = .ok (.if_icmp .ge 17, 3) := by decide +kernel
theorem dL_fits_177 : decode cL_fits 177 = .ok (.iload 9, 2) := by decide +kernel
theorem dL_fits_179 : decode cL_fits 179 = .ok (.iconst 3, 1) := by decide +kernel
theorem dL_fits_180 : decode cL_fits 180 = .ok (.if_icmp .ne 7, 3) := by decide +kernel
theorem dL_fits_183 : decode cL_fits 183 = .ok (.iconst 1, 1) := by decide +kernel
theorem dL_fits_184 : decode cL_fits 184 = .ok (.goto 69, 3) := by decide +kernel
theorem dL_fits_187 : decode cL_fits 187 = .ok (.iconst 0, 1) := by decide +kernel
theorem dL_fits_188 : decode cL_fits 188 = .ok (.goto 65, 3) := by decide +kernel
theorem dL_fits_191 : decode cL_fits 191 = .ok (.iload 7, 2) := by decide +kernel
theorem dL_fits_193 : decode cL_fits 193 = .ok (.bipush 7, 2) := by decide +kernel
theorem dL_fits_195 : decode cL_fits 195 = .ok (.if_icmp .ne 17, 3) := by decide +kernel
theorem dL_fits_198 : decode cL_fits 198 = .ok (.iload 9, 2) := by decide +kernel
theorem dL_fits_200 : decode cL_fits 200 = .ok (.iconst 4, 1) := by decide +kernel
theorem dL_fits_201 : decode cL_fits 201 = .ok (.if_icmp .ne 7, 3) := by decide +kernel
theorem dL_fits_204 : decode cL_fits 204 = .ok (.iconst 1, 1) := by decide +kernel
theorem dL_fits_205 : decode cL_fits 205 = .ok (.goto 48, 3) := by decide +kernel
theorem dL_fits_208 : decode cL_fits 208 = .ok (.iconst 0, 1) := by decide +kernel
theorem dL_fits_209 : decode cL_fits 209 = .ok (.goto 44, 3) := by decide +kernel
theorem dL_fits_212 : decode cL_fits 212 = .ok (.iload 7, 2) := by decide +kernel
theorem dL_fits_214 : decode cL_fits 214 = .ok (.bipush 8, 2) := by decide +kernel
theorem dL_fits_216 : decode cL_fits 216 = .ok (.if_icmp .ne 18, 3) := by decide +kernel
theorem dL_fits_219 : decode cL_fits 219 = .ok (.iload 9, 2) := by decide +kernel
theorem dL_fits_221 : decode cL_fits 221 = .ok (.bipush 6, 2) := by decide +kernel
theorem dL_fits_223 : decode cL_fits 223 = .ok (.if_icmp .ne 7, 3) := by decide +kernel
theorem dL_fits_226 : decode cL_fits 226 = .ok (.iconst 1, 1) := by decide +kernel
theorem dL_fits_227 : decode cL_fits 227 = .ok (.goto 26, 3) := by decide +kernel
theorem dL_fits_230 : decode cL_fits 230 = .ok (.iconst 0, 1) := by decide +kernel
theorem dL_fits_231 : decode cL_fits 231 = .ok (.goto 22, 3) := by decide +kernel
theorem dL_fits_234 : decode cL_fits 234 = .ok (.iload 9, 2) := by decide +kernel
theorem dL_fits_236 : decode cL_fits 236 = .ok (.bipush 8, 2) := by decide +kernel
theorem dL_fits_238 : decode cL_fits 238 = .ok (.if_icmp .eq 10, 3) := by decide +kernel
theorem dL_fits_241 : decode cL_fits 241 = .ok (.iload 9, 2) := by decide +kernel
theorem dL_fits_243 : decode cL_fits 243 = .ok (.bipush 9, 2) := by decide +kernel
theorem dL_fits_245 : decode cL_fits 245 = .ok (.if_icmp .ne 7, 3) := by decide +kernel
theorem dL_fits_248 : decode cL_fits 248 = .ok (.iconst 1, 1) := by decide +kernel
theorem dL_fits_249 : decode cL_fits 249 = .ok (.goto 4, 3) := by decide +kernel
theorem dL_fits_252 : decode cL_fits 252 = .ok (.iconst 0, 1) := by decide +kernel
theorem dL_fits_253 : decode cL_fits 253 = .ok (.istore 10, 2) := by decide +kernel
theorem dL_fits_255 : decode cL_fits 255 = .ok (.iload 10, 2) := by decide +kernel
theorem dL_fits_257 : decode cL_fits 257 = .ok (.ifCond .eq 35, 3) := by decide +kernel
theorem dL_fits_260 : decode cL_fits 260 = .ok (.aload_n 0, 1) := by decide +kernel
theorem dL_fits_261 : decode cL_fits 261 = .ok (.iload 8, 2) := by decide +kernel
theorem dL_fits_263 : decode cL_fits 263 = .ok (.iconst 2, 1) := by decide +kernel
theorem dL_fits_264 : decode cL_fits 264 = .ok (.invokevirtual 18, 3) := by decide +kernel
theorem dL_fits_267 : decode cL_fits 267 = .ok (.iload 6, 2) := by decide +kernel
theorem dL_fits_269 : decode cL_fits 269 = .ok (.if_icmp .ne 23, 3) := by decide +kernel
theorem dL_fits_272 : decode cL_fits 272 = .ok (.aload_n 0, 1) := by decide +kernel
theorem dL_fits_273 : decode cL_fits 273 = .ok (.iload 8, 2) := by decide +kernel
theorem dL_fits_275 : decode cL_fits 275 = .ok (.iconst 1, 1) := by decide +kernel
theorem dL_fits_276 : decode cL_fits 276 = .ok (.invokevirtual 18, 3) := by decide +kernel
theorem dL_fits_279 : decode cL_fits 279 = .ok (.iconst 1, 1) := by decide +kernel
theorem dL_fits_280 : decode cL_fits 280 = .ok (.if_icmp .ne 12, 3) := by decide +kernel
theorem dL_fits_283 : decode cL_fits 283 = .ok (.aload 5, 2) := by decide +kernel
theorem dL_fits_285 : decode cL_fits 285 = .ok (.iload 8, 2) := by decide +kernel
theorem dL_fits_287 : decode cL_fits 287 = .ok (.iaload, 1) := by decide +kernel
theorem dL_fits_288 : decode cL_fits 288 = .ok (.iconst 1, 1) := by decide +kernel
theorem dL_fits_289 : decode cL_fits 289 = .ok (.if_icmp .le 5, 3) := by decide +kernel
theorem dL_fits_292 : decode cL_fits 292 = .ok (.iconst 0, 1) := by decide +kernel
theorem dL_fits_293 : decode cL_fits 293 = .ok (.ireturn, 1) := by decide +kernel
theorem dL_fits_294 : decode cL_fits 294 = .ok (.aload_n 0, 1) := by decide +kernel
theorem dL_fits_295 : decode cL_fits 295 = .ok (.iload 6, 2) := by decide +kernel
theorem dL_fits_297 : decode cL_fits 297 = .ok (.iconst 3, 1) := by decide +kernel
theorem dL_fits_298 : decode cL_fits 298 = .ok (.invokevirtual 14, 3) := by decide +kernel
theorem dL_fits_301 : decode cL_fits 301 = .ok (.istore 9, 2) := by decide +kernel
theorem dL_fits_303 : decode cL_fits 303 = .ok (.iload 7, 2) := by decide +kernel
theorem dL_fits_305 : decode cL_fits 305 = .ok (.iconst 4, 1) := by decide +kernel
theorem dL_fits_306 : decode cL_fits 306 = .ok (.if_icmp .le 40, 3) := by decide +kernel
theorem dL_fits_309 : decode cL_fits 309 = .ok (.iload 7, 2) := by decide +kernel
theorem dL_fits_311 : decode cL_fits 311 = .ok (.bipush 9, 2) := by decide +kernel
theorem dL_fits_313 : decode cL_fits 313 = .ok (.if_icmp .ge 33, 3) := by decide +kernel
theorem dL_fits_316 : decode cL_fits 316 = .ok (.aload_n 0, 1) := by decide +kernel
theorem dL_fits_317 : decode cL_fits 317 = .ok (.iload 9, 2) := by decide +kernel
theorem dL_fits_319 : decode cL_fits 319 = .ok (.aload_n 0, 1) := by decide +kernel
theorem dL_fits_320 : decode cL_fits 320 = .ok (.iload 6, 2) := by decide +kernel
theorem dL_fits_322 : decode cL_fits 322 = .ok (.iconst 4, 1) := by decide +kernel
theorem dL_fits_323 : decode cL_fits 323 = .ok (.invokevirtual 14, 3) := by decide +kernel
theorem dL_fits_326 : decode cL_fits 326 = .ok (.invokevirtual 21, 3) := by decide +kernel
theorem dL_fits_329 : decode cL_fits 329 = .ok (.iload 6, 2) := by decide +kernel
theorem dL_fits_331 : decode cL_fits 331 = .ok (.if_icmp .ne 51, 3) := by decide +kernel
theorem dL_fits_334 : decode cL_fits 334 = .ok (.iload 9, 2) := by decide +kernel
theorem dL_fits_336 : decode cL_fits 336 = .ok (.iconst 1, 1) := by decide +kernel
theorem dL_fits_337 : decode cL_fits 337 = .ok (.if_icmp .lt 45, 3) := by decide +kernel
theorem dL_fits_340 : decode cL_fits 340 = .ok (.iload 9, 2) := by decide +kernel
theorem dL_fits_342 : decode cL_fits 342 = .ok (.iconst 4, 1) := by decide +kernel
theorem dL_fits_343 : decode cL_fits 343 = .ok (.if_icmp .gt 39, 3) := by decide +kernel
theorem dL_fits_346 : decode cL_fits 346 = .ok (.iload 7, 2) := by decide +kernel
theorem dL_fits_348 : decode cL_fits 348 = .ok (.iconst 3, 1) := by decide +kernel
theorem dL_fits_349 : decode cL_fits 349 = .ok (.if_icmp .ge 8, 3) := by decide +kernel
theorem dL_fits_352 : decode cL_fits 352 = .ok (.iload 9, 2) := by decide +kernel
theorem dL_fits_354 : decode cL_fits 354 = .ok (.ifCond .ne 28, 3) := by decide +kernel
theorem dL_fits_357 : decode cL_fits 357 = .ok (.iload 7, 2) := by decide +kernel
theorem dL_fits_359 : decode cL_fits 359 = .ok (.iconst 4, 1) := by decide +kernel
theorem dL_fits_360 : decode cL_fits 360 = .ok (.if_icmp .lt 10, 3) := by decide +kernel
theorem dL_fits_363 : decode cL_fits 363 = .ok (.iload 7, 2) := by decide +kernel
theorem dL_fits_365 : decode cL_fits 365 = .ok (.bipush 9, 2) := by decide +kernel
theorem dL_fits_367 : decode cL_fits 367 = .ok (.if_icmp .ne 17, 3) := by decide +kernel
theorem dL_fits_370 : decode cL_fits 370 = .ok (.aload_n 0, 1) := by decide +kernel
theorem dL_fits_371 : decode cL_fits 371 = .ok (.iload 6, 2) := by decide +kernel
theorem dL_fits_373 : decode cL_fits 373 = .ok (.iconst 4, 1) := by decide +kernel
theorem dL_fits_374 : decode cL_fits 374 = .ok (.invokevirtual 14, 3) := by decide +kernel
theorem dL_fits_377 : decode cL_fits 377 = .ok (.bipush (-6), 2) := by decide +kernel
theorem dL_fits_379 : decode cL_fits 379 = .ok (.if_icmp .eq 5, 3) := by decide +kernel
theorem dL_fits_382 : decode cL_fits 382 = .ok (.iconst 0, 1) := by decide +kernel
theorem dL_fits_383 : decode cL_fits 383 = .ok (.ireturn, 1) := by decide +kernel
theorem dL_fits_384 : decode cL_fits 384 = .ok (.iload 7, 2) := by decide +kernel
theorem dL_fits_386 : decode cL_fits 386 = .ok (.bipush 7, 2) := by decide +kernel
theorem dL_fits_388 : decode cL_fits 388 = .ok (.if_icmp .eq 10, 3) := by decide +kernel
theorem dL_fits_391 : decode cL_fits 391 = .ok (.iload 7, 2) := by decide +kernel
theorem dL_fits_393 : decode cL_fits 393 = .ok (.bipush 8, 2) := by decide +kernel
theorem dL_fits_395 : decode cL_fits 395 = .ok (.if_icmp .ne 113, 3) := by decide +kernel
theorem dL_fits_398 : decode cL_fits 398 = .ok (.aload_n 0, 1) := by decide +kernel
theorem dL_fits_399 : decode cL_fits 399 = .ok (.iload 8, 2) := by decide +kernel
theorem dL_fits_401 : decode cL_fits 401 = .ok (.iconst 3, 1) := by decide +kernel
theorem dL_fits_402 : decode cL_fits 402 = .ok (.invokevirtual 18, 3) := by decide +kernel
theorem dL_fits_405 : decode cL_fits 405 = .ok (.istore 10, 2) := by decide +kernel
theorem dL_fits_407 : decode cL_fits 407 = .ok (.aload_n 0, 1) := by decide +kernel
theorem dL_fits_408 : decode cL_fits 408 = .ok (.iload 10, 2) := by decide +kernel
theorem dL_fits_410 : decode cL_fits 410 = .ok (.iconst 0, 1) := by decide +kernel
theorem dL_fits_411 : decode cL_fits 411 = .ok (.invokevirtual 18, 3) := by decide +kernel
theorem dL_fits_414 : decode cL_fits 414 = .ok (.iload 7, 2) := by decide +kernel
theorem dL_fits_416 : decode cL_fits 416 = .ok (.bipush 7, 2) := by decide +kernel
theorem dL_fits_418 : decode cL_fits 418 = .ok (.if_icmp .ne 7, 3) := by decide +kernel
theorem dL_fits_421 : decode cL_fits 421 = .ok (.iconst 5, 1) := by decide +kernel
theorem dL_fits_422 : decode cL_fits 422 = .ok (.goto 5, 3) := by decide +kernel
theorem dL_fits_425 : decode cL_fits 425 = .ok (.bipush 7, 2) := by decide +kernel
theorem dL_fits_427 : decode cL_fits 427 = .ok (.if_icmp .ne 79, 3) := by decide +kernel
theorem dL_fits_430 : decode cL_fits 430 = .ok (.aload_n 0, 1) := by decide +kernel
theorem dL_fits_431 : decode cL_fits 431 = .ok (.iload 10, 2) := by decide +kernel
theorem dL_fits_433 : decode cL_fits 433 = .ok (.iconst 3, 1) := by decide +kernel
theorem dL_fits_434 : decode cL_fits 434 = .ok (.invokevirtual 18, 3) := by decide +kernel
theorem dL_fits_437 : decode cL_fits 437 = .ok (.iload 8, 2) := by decide +kernel
theorem dL_fits_439 : decode cL_fits 439 = .ok (.if_icmp .ne 67, 3) := by decide +kernel
theorem dL_fits_442 : decode cL_fits 442 = .ok (.aload_n 0, 1) := by decide +kernel
theorem dL_fits_443 : decode cL_fits 443 = .ok (.iload 10, 2) := by decide +kernel
theorem dL_fits_445 : decode cL_fits 445 = .ok (.iconst 2, 1) := by decide +kernel
theorem dL_fits_446 : decode cL_fits 446 = .ok (.invokevirtual 18, 3) := by decide +kernel
theorem dL_fits_449 : decode cL_fits 449 = .ok (.iload 6, 2) := by decide +kernel
theorem dL_fits_451 : decode cL_fits 451 = .ok (.if_icmp .ne 55, 3) := by decide +kernel
theorem dL_fits_454 : decode cL_fits 454 = .ok (.aload_n 0, 1) := by decide +kernel
theorem dL_fits_455 : decode cL_fits 455 = .ok (.iload 10, 2) := by decide +kernel
theorem dL_fits_457 : decode cL_fits 457 = .ok (.iconst 0, 1) := by decide +kernel
theorem dL_fits_458 : decode cL_fits 458 = .ok (.invokevirtual 24, 3) := by decide +kernel
theorem dL_fits_461 : decode cL_fits 461 = .ok (.aload_n 0, 1) := by decide +kernel
theorem dL_fits_462 : decode cL_fits 462 = .ok (.iload 6, 2) := by decide +kernel
theorem dL_fits_464 : decode cL_fits 464 = .ok (.iconst 4, 1) := by decide +kernel
theorem dL_fits_465 : decode cL_fits 465 = .ok (.invokevirtual 14, 3) := by decide +kernel
theorem dL_fits_468 : decode cL_fits 468 = .ok (.if_icmp .ne 38, 3) := by decide +kernel
theorem dL_fits_471 : decode cL_fits 471 = .ok (.aload_n 0, 1) := by decide +kernel
theorem dL_fits_472 : decode cL_fits 472 = .ok (.iload 10, 2) := by decide +kernel
theorem dL_fits_474 : decode cL_fits 474 = .ok (.iconst 1, 1) := by decide +kernel
theorem dL_fits_475 : decode cL_fits 475 = .ok (.invokevirtual 24, 3) := by decide +kernel
theorem dL_fits_478 : decode cL_fits 478 = .ok (.iload 6, 2) := by decide +kernel
theorem dL_fits_480 : decode cL_fits 480 = .ok (.if_icmp .ne 26, 3) := by decide +kernel
theorem dL_fits_483 : decode cL_fits 483 = .ok (.aload_n 0, 1) := by decide +kernel
theorem dL_fits_484 : decode cL_fits 484 = .ok (.iload 10, 2) := by decide +kernel
theorem dL_fits_486 : decode cL_fits 486 = .ok (.iconst 2, 1) := by decide +kernel
theorem dL_fits_487 : decode cL_fits 487 = .ok (.invokevirtual 24, 3) := by decide +kernel
theorem dL_fits_490 : decode cL_fits 490 = .ok (.iload 8, 2) := by decide +kernel
theorem dL_fits_492 : decode cL_fits 492 = .ok (.if_icmp .ne 14, 3) := by decide +kernel
theorem dL_fits_495 : decode cL_fits 495 = .ok (.iload 10, 2) := by decide +kernel
theorem dL_fits_497 : decode cL_fits 497 = .ok (.iconst 4, 1) := by decide +kernel
theorem dL_fits_498 : decode cL_fits 498 = .ok (.idiv, 1) := by decide +kernel
theorem dL_fits_499 : decode cL_fits 499 = .ok (.iconst 1, 1) := by decide +kernel
theorem dL_fits_500 : decode cL_fits 500 = .ok (.iadd, 1) := by decide +kernel
theorem dL_fits_501 : decode cL_fits 501 = .ok (.iload 9, 2) := by decide +kernel
theorem dL_fits_503 : decode cL_fits 503 = .ok (.if_icmp .eq 5, 3) := by decide +kernel
theorem dL_fits_506 : decode cL_fits 506 = .ok (.iconst 0, 1) := by decide +kernel
theorem dL_fits_507 : decode cL_fits 507 = .ok (.ireturn, 1) := by decide +kernel
theorem dL_fits_508 : decode cL_fits 508 = .ok (.iinc 6 1, 3) := by decide +kernel
theorem dL_fits_511 : decode cL_fits 511 = .ok (.goto (-493), 3) := by decide +kernel
theorem dL_fits_514 : decode cL_fits 514 = .ok (.iconst 0, 1) := by decide +kernel
theorem dL_fits_515 : decode cL_fits 515 = .ok (.istore 6, 2) := by decide +kernel
theorem dL_fits_517 : decode cL_fits 517 = .ok (.iconst 0, 1) := by decide +kernel
theorem dL_fits_518 : decode cL_fits 518 = .ok (.istore 7, 2) := by decide +kernel
theorem dL_fits_520 : decode cL_fits 520 = .ok (.iconst 0, 1) := by decide +kernel
theorem dL_fits_521 : decode cL_fits 521 = .ok (.istore 8, 2) := by decide +kernel
theorem dL_fits_523 : decode cL_fits 523 = .ok (.iload 8, 2) := by decide +kernel
theorem dL_fits_525 : decode cL_fits 525 = .ok (.bipush 16, 2) := by decide +kernel
theorem dL_fits_527 : decode cL_fits 527 = .ok (.if_icmp .ge 322, 3) := by decide +kernel
theorem dL_fits_530 : decode cL_fits 530 = .ok (.aload_n 0, 1) := by decide +kernel
theorem dL_fits_531 : decode cL_fits 531 = .ok (.iload 8, 2) := by decide +kernel
theorem dL_fits_533 : decode cL_fits 533 = .ok (.iconst 0, 1) := by decide +kernel
theorem dL_fits_534 : decode cL_fits 534 = .ok (.invokevirtual 18, 3) := by decide +kernel
theorem dL_fits_537 : decode cL_fits 537 = .ok (.istore 9, 2) := by decide +kernel
theorem dL_fits_539 : decode cL_fits 539 = .ok (.iload_n 3, 1) := by decide +kernel
theorem dL_fits_540 : decode cL_fits 540 = .ok (.aload_n 0, 1) := by decide +kernel
theorem dL_fits_541 : decode cL_fits 541 = .ok (.iload 8, 2) := by decide +kernel
theorem dL_fits_543 : decode cL_fits 543 = .ok (.iconst 1, 1) := by decide +kernel
theorem dL_fits_544 : decode cL_fits 544 = .ok (.invokevirtual 18, 3) := by decide +kernel
theorem dL_fits_547 : decode cL_fits 547 = .ok (.iadd, 1) := by decide +kernel
theorem dL_fits_548 : decode cL_fits 548 = .ok (.istore_n 3, 1) := by decide +kernel
theorem dL_fits_549 : decode cL_fits 549 = .ok (.iload 4, 2) := by decide +kernel
theorem dL_fits_551 : decode cL_fits 551 = .ok (.aload_n 0, 1) := by decide +kernel
theorem dL_fits_552 : decode cL_fits 552 = .ok (.iload 8, 2) := by decide +kernel
theorem dL_fits_554 : decode cL_fits 554 = .ok (.iconst 5, 1) := by decide +kernel
theorem dL_fits_555 : decode cL_fits 555 = .ok (.invokevirtual 18, 3) := by decide +kernel
theorem dL_fits_558 : decode cL_fits 558 = .ok (.iadd, 1) := by decide +kernel
theorem dL_fits_559 : decode cL_fits 559 = .ok (.istore 4, 2) := by decide +kernel
theorem dL_fits_561 : decode cL_fits 561 = .ok (.iload 6, 2) := by decide +kernel
theorem dL_fits_563 : decode cL_fits 563 = .ok (.iload 9, 2) := by decide +kernel
theorem dL_fits_565 : decode cL_fits 565 = .ok (.iconst 5, 1) := by decide +kernel
theorem dL_fits_566 : decode cL_fits 566 = .ok (.if_icmp .eq 10, 3) := by decide +kernel
theorem dL_fits_569 : decode cL_fits 569 = .ok (.iload 9, 2) := by decide +kernel
theorem dL_fits_571 : decode cL_fits 571 = .ok (.bipush 7, 2) := by decide +kernel
theorem dL_fits_573 : decode cL_fits 573 = .ok (.if_icmp .ne 7, 3) := by decide +kernel
theorem dL_fits_576 : decode cL_fits 576 = .ok (.iconst 1, 1) := by decide +kernel
theorem dL_fits_577 : decode cL_fits 577 = .ok (.goto 4, 3) := by decide +kernel
theorem dL_fits_580 : decode cL_fits 580 = .ok (.iconst 0, 1) := by decide +kernel
theorem dL_fits_581 : decode cL_fits 581 = .ok (.iadd, 1) := by decide +kernel
theorem dL_fits_582 : decode cL_fits 582 = .ok (.istore 6, 2) := by decide +kernel
theorem dL_fits_584 : decode cL_fits 584 = .ok (.iload 6, 2) := by decide +kernel
theorem dL_fits_586 : decode cL_fits 586 = .ok (.iload 9, 2) := by decide +kernel
theorem dL_fits_588 : decode cL_fits 588 = .ok (.iconst 4, 1) := by decide +kernel
theorem dL_fits_589 : decode cL_fits 589 = .ok (.if_icmp .eq 10, 3) := by decide +kernel
theorem dL_fits_592 : decode cL_fits 592 = .ok (.iload 9, 2) := by decide +kernel
theorem dL_fits_594 : decode cL_fits 594 = .ok (.bipush 6, 2) := by decide +kernel
theorem dL_fits_596 : decode cL_fits 596 = .ok (.if_icmp .ne 7, 3) := by decide +kernel
theorem dL_fits_599 : decode cL_fits 599 = .ok (.iconst 1, 1) := by decide +kernel
theorem dL_fits_600 : decode cL_fits 600 = .ok (.goto 4, 3) := by decide +kernel
theorem dL_fits_603 : decode cL_fits 603 = .ok (.iconst 0, 1) := by decide +kernel
theorem dL_fits_604 : decode cL_fits 604 = .ok (.isub, 1) := by decide +kernel
theorem dL_fits_605 : decode cL_fits 605 = .ok (.istore 6, 2) := by decide +kernel
theorem dL_fits_607 : decode cL_fits 607 = .ok (.iload 9, 2) := by decide +kernel
theorem dL_fits_609 : decode cL_fits 609 = .ok (.iconst 2, 1) := by decide +kernel
theorem dL_fits_610 : decode cL_fits 610 = .ok (.if_icmp .eq 36, 3) := by decide +kernel
theorem dL_fits_613 : decode cL_fits 613 = .ok (.iload 9, 2) := by decide +kernel
theorem dL_fits_615 : decode cL_fits 615 = .ok (.iconst 3, 1) := by decide +kernel
theorem dL_fits_616 : decode cL_fits 616 = .ok (.if_icmp .eq 30, 3) := by decide +kernel
theorem dL_fits_619 : decode cL_fits 619 = .ok (.iload 9, 2) := by decide +kernel
theorem dL_fits_621 : decode cL_fits 621 = .ok (.iconst 4, 1) := by decide +kernel
theorem dL_fits_622 : decode cL_fits 622 = .ok (.if_icmp .eq 24, 3) := by decide +kernel
theorem dL_fits_625 : decode cL_fits 625 = .ok (.iload 9, 2) := by decide +kernel
theorem dL_fits_627 : decode cL_fits 627 = .ok (.bipush 6, 2) := by decide +kernel
theorem dL_fits_629 : decode cL_fits 629 = .ok (.if_icmp .eq 17, 3) := by decide +kernel
theorem dL_fits_632 : decode cL_fits 632 = .ok (.iload 9, 2) := by decide +kernel
theorem dL_fits_634 : decode cL_fits 634 = .ok (.bipush 8, 2) := by decide +kernel
theorem dL_fits_636 : decode cL_fits 636 = .ok (.if_icmp .eq 10, 3) := by decide +kernel
theorem dL_fits_639 : decode cL_fits 639 = .ok (.iload 9, 2) := by decide +kernel
theorem dL_fits_641 : decode cL_fits 641 = .ok (.bipush 9, 2) := by decide +kernel
theorem dL_fits_643 : decode cL_fits 643 = .ok (.if_icmp .ne 7, 3) := by decide +kernel
theorem dL_fits_646 : decode cL_fits 646 = .ok (.iconst 1, 1) := by decide +kernel
theorem dL_fits_647 : decode cL_fits 647 = .ok (.goto 4, 3) := by decide +kernel
theorem dL_fits_650 : decode cL_fits 650 = .ok (.iconst 0, 1) := by decide +kernel
theorem dL_fits_651 : decode cL_fits 651 = .ok (.istore 10, 2) := by decide +kernel
theorem dL_fits_653 : decode cL_fits 653 = .ok (.iload 10, 2) := by decide +kernel
theorem dL_fits_655 : decode cL_fits 655 = .ok (.aload 5, 2) := by decide +kernel
theorem dL_fits_657 : decode cL_fits 657 = .ok (.iload 8, 2) := by decide +kernel
theorem dL_fits_659 : decode cL_fits 659 = .ok (.iaload, 1) := by decide +kernel
theorem dL_fits_660 : decode cL_fits 660 = .ok (.iconst 1, 1) := by decide +kernel
theorem dL_fits_661 : decode cL_fits 661 = .ok (.if_icmp .ne 13, 3) := by decide +kernel
end
section
theorem dL_fits_664 : decode cL_fits 664 = .ok (.iload 9, 2) := by decide +kernel
theorem dL_fits_666 : decode cL_fits 666 = .ok (.iconst 1, 1) := by decide +kernel
theorem dL_fits_667 : decode cL_fits 667 = .ok (.if_icmp .eq 7, 3) := by decide +kernel
theorem dL_fits_670 : decode cL_fits 670 = .ok (.iconst 1, 1) := by decide +kernel
theorem dL_fits_671 : decode cL_fits 671 = .ok (.goto 4, 3) := by decide +kernel
theorem dL_fits_674 : decode cL_fits 674 = .ok (.iconst 0, 1) := by decide +kernel
theorem dL_fits_675 : decode cL_fits 675 = .ok (.if_icmp .ne 98, 3) := by decide +kernel
theorem dL_fits_678 : decode cL_fits 678 = .ok (.iload 9, 2) := by decide +kernel
theorem dL_fits_680 : decode cL_fits 680 = .ok (.ifCond .ne 36, 3) := by decide +kernel
theorem dL_fits_683 : decode cL_fits 683 = .ok (.aload_n 0, 1) := by decide +kernel
theorem dL_fits_684 : decode cL_fits 684 = .ok (.iload 8, 2) := by decide +kernel
theorem dL_fits_686 : decode cL_fits 686 = .ok (.iconst 1, 1) := by decide +kernel
theorem dL_fits_687 : decode cL_fits 687 = .ok (.invokevirtual 18, 3) := by decide +kernel
theorem dL_fits_690 : decode cL_fits 690 = .ok (.iconst 1, 1) := by decide +kernel
theorem dL_fits_691 : decode cL_fits 691 = .ok (.if_icmp .eq 82, 3) := by decide +kernel
theorem dL_fits_694 : decode cL_fits 694 = .ok (.aload_n 0, 1) := by decide +kernel
theorem dL_fits_695 : decode cL_fits 695 = .ok (.iload 8, 2) := by decide +kernel
theorem dL_fits_697 : decode cL_fits 697 = .ok (.iconst 4, 1) := by decide +kernel
theorem dL_fits_698 : decode cL_fits 698 = .ok (.invokevirtual 18, 3) := by decide +kernel
theorem dL_fits_701 : decode cL_fits 701 = .ok (.ifCond .gt 72, 3) := by decide +kernel
theorem dL_fits_704 : decode cL_fits 704 = .ok (.aload_n 0, 1) := by decide +kernel
theorem dL_fits_705 : decode cL_fits 705 = .ok (.iload 8, 2) := by decide +kernel
theorem dL_fits_707 : decode cL_fits 707 = .ok (.iconst 2, 1) := by decide +kernel
theorem dL_fits_708 : decode cL_fits 708 = .ok (.invokevirtual 18, 3) := by decide +kernel
theorem dL_fits_711 : decode cL_fits 711 = .ok (.bipush (-6), 2) := by decide +kernel
theorem dL_fits_713 : decode cL_fits 713 = .ok (.if_icmp .ne 60, 3) := by decide +kernel
theorem dL_fits_716 : decode cL_fits 716 = .ok (.iload 9, 2) := by decide +kernel
theorem dL_fits_718 : decode cL_fits 718 = .ok (.bipush 9, 2) := by decide +kernel
theorem dL_fits_720 : decode cL_fits 720 = .ok (.if_icmp .le 15, 3) := by decide +kernel
theorem dL_fits_723 : decode cL_fits 723 = .ok (.aload_n 0, 1) := by decide +kernel
theorem dL_fits_724 : decode cL_fits 724 = .ok (.iload 8, 2) := by decide +kernel
theorem dL_fits_726 : decode cL_fits 726 = .ok (.iconst 2, 1) := by decide +kernel
theorem dL_fits_727 : decode cL_fits 727 = .ok (.invokevirtual 18, 3) := by decide +kernel
theorem dL_fits_730 : decode cL_fits 730 = .ok (.bipush (-6), 2) := by decide +kernel
theorem dL_fits_732 : decode cL_fits 732 = .ok (.if_icmp .ne 41, 3) := by decide +kernel
theorem dL_fits_735 : decode cL_fits 735 = .ok (.iload 9, 2) := by decide +kernel
theorem dL_fits_737 : decode cL_fits 737 = .ok (.iconst 5, 1) := by decide +kernel
theorem dL_fits_738 : decode cL_fits 738 = .ok (.if_icmp .eq 10, 3) := by decide +kernel
theorem dL_fits_741 : decode cL_fits 741 = .ok (.iload 9, 2) := by decide +kernel
theorem dL_fits_743 : decode cL_fits 743 = .ok (.bipush 7, 2) := by decide +kernel
theorem dL_fits_745 : decode cL_fits 745 = .ok (.if_icmp .ne 7, 3) := by decide +kernel
theorem dL_fits_748 : decode cL_fits 748 = .ok (.iconst 1, 1) := by decide +kernel
theorem dL_fits_749 : decode cL_fits 749 = .ok (.goto 4, 3) := by decide +kernel
theorem dL_fits_752 : decode cL_fits 752 = .ok (.iconst 0, 1) := by decide +kernel
theorem dL_fits_753 : decode cL_fits 753 = .ok (.aload_n 0, 1) := by decide +kernel
theorem dL_fits_754 : decode cL_fits 754 = .ok (.iload 8, 2) := by decide +kernel
theorem dL_fits_756 : decode cL_fits 756 = .ok (.iconst 2, 1) := by decide +kernel
theorem dL_fits_757 : decode cL_fits 757 = .ok (.invokevirtual 24, 3) := by decide +kernel
theorem dL_fits_760 : decode cL_fits 760 = .ok (.bipush (-6), 2) := by decide +kernel
theorem dL_fits_762 : decode cL_fits 762 = .ok (.if_icmp .ne 7, 3) := by decide +kernel
theorem dL_fits_765 : decode cL_fits 765 = .ok (.iconst 1, 1) := by decide +kernel
theorem dL_fits_766 : decode cL_fits 766 = .ok (.goto 4, 3) := by decide +kernel
theorem dL_fits_769 : decode cL_fits 769 = .ok (.iconst 0, 1) := by decide +kernel
theorem dL_fits_770 : decode cL_fits 770 = .ok (.if_icmp .ne 5, 3) := by decide +kernel
theorem dL_fits_773 : decode cL_fits 773 = .ok (.iconst 0, 1) := by decide +kernel
theorem dL_fits_774 : decode cL_fits 774 = .ok (.ireturn, 1) := by decide +kernel
theorem dL_fits_775 : decode cL_fits 775 = .ok (.iload 9, 2) := by decide +kernel
theorem dL_fits_777 : decode cL_fits 777 = .ok (.iconst 1, 1) := by decide +kernel
theorem dL_fits_778 : decode cL_fits 778 = .ok (.if_icmp .ne 15, 3) := by decide +kernel
theorem dL_fits_781 : decode cL_fits 781 = .ok (.aload 5, 2) := by decide +kernel
theorem dL_fits_783 : decode cL_fits 783 = .ok (.iload 8, 2) := by decide +kernel
theorem dL_fits_785 : decode cL_fits 785 = .ok (.iaload, 1) := by decide +kernel
theorem dL_fits_786 : decode cL_fits 786 = .ok (.ifCond .ne 7, 3) := by decide +kernel
theorem dL_fits_789 : decode cL_fits 789 = .ok (.iconst 1, 1) := by decide +kernel
theorem dL_fits_790 : decode cL_fits 790 = .ok (.goto 4, 3) := by decide +kernel
theorem dL_fits_793 : decode cL_fits 793 = .ok (.iconst 0, 1) := by decide +kernel
theorem dL_fits_794 : decode cL_fits 794 = .ok (.istore 11, 2) := by decide +kernel
theorem dL_fits_796 : decode cL_fits 796 = .ok (.iload 11, 2) := by decide +kernel
theorem dL_fits_798 : decode cL_fits 798 = .ok (.aload_n 0, 1) := by decide +kernel
theorem dL_fits_799 : decode cL_fits 799 = .ok (.iload 8, 2) := by decide +kernel
theorem dL_fits_801 : decode cL_fits 801 = .ok (.bipush 7, 2) := by decide +kernel
theorem dL_fits_803 : decode cL_fits 803 = .ok (.invokevirtual 18, 3) := by decide +kernel
theorem dL_fits_806 : decode cL_fits 806 = .ok (.ifCond .lt 7, 3) := by decide +kernel
theorem dL_fits_809 : decode cL_fits 809 = .ok (.iconst 1, 1) := by decide +kernel
theorem dL_fits_810 : decode cL_fits 810 = .ok (.goto 4, 3) := by decide +kernel
theorem dL_fits_813 : decode cL_fits 813 = .ok (.iconst 0, 1) := by decide +kernel
theorem dL_fits_814 : decode cL_fits 814 = .ok (.if_icmp .eq 5, 3) := by decide +kernel
theorem dL_fits_817 : decode cL_fits 817 = .ok (.iconst 0, 1) := by decide +kernel
theorem dL_fits_818 : decode cL_fits 818 = .ok (.ireturn, 1) := by decide +kernel
theorem dL_fits_819 : decode cL_fits 819 = .ok (.iload 7, 2) := by decide +kernel
theorem dL_fits_821 : decode cL_fits 821 = .ok (.iload 11, 2) := by decide +kernel
theorem dL_fits_823 : decode cL_fits 823 = .ok (.ifCond .eq 16, 3) := by decide +kernel
theorem dL_fits_826 : decode cL_fits 826 = .ok (.iconst 1, 1) := by decide +kernel
theorem dL_fits_827 : decode cL_fits 827 = .ok (.aload_n 0, 1) := by decide +kernel
theorem dL_fits_828 : decode cL_fits 828 = .ok (.iload 8, 2) := by decide +kernel
theorem dL_fits_830 : decode cL_fits 830 = .ok (.bipush 7, 2) := by decide +kernel
theorem dL_fits_832 : decode cL_fits 832 = .ok (.invokevirtual 18, 3) := by decide +kernel
theorem dL_fits_835 : decode cL_fits 835 = .ok (.ishl, 1) := by decide +kernel
theorem dL_fits_836 : decode cL_fits 836 = .ok (.goto 4, 3) := by decide +kernel
theorem dL_fits_839 : decode cL_fits 839 = .ok (.iconst 0, 1) := by decide +kernel
theorem dL_fits_840 : decode cL_fits 840 = .ok (.iadd, 1) := by decide +kernel
theorem dL_fits_841 : decode cL_fits 841 = .ok (.istore 7, 2) := by decide +kernel
theorem dL_fits_843 : decode cL_fits 843 = .ok (.iinc 8 1, 3) := by decide +kernel
theorem dL_fits_846 : decode cL_fits 846 = .ok (.goto (-323), 3) := by decide +kernel
theorem dL_fits_849 : decode cL_fits 849 = .ok (.iload 6, 2) := by decide +kernel
theorem dL_fits_851 : decode cL_fits 851 = .ok (.ifCond .ne 119, 3) := by decide +kernel
theorem dL_fits_854 : decode cL_fits 854 = .ok (.iload 7, 2) := by decide +kernel
theorem dL_fits_856 : decode cL_fits 856 = .ok (.iload 7, 2) := by decide +kernel
theorem dL_fits_858 : decode cL_fits 858 = .ok (.iconst 1, 1) := by decide +kernel
theorem dL_fits_859 : decode cL_fits 859 = .ok (.iadd, 1) := by decide +kernel
theorem dL_fits_860 : decode cL_fits 860 = .ok (.iand, 1) := by decide +kernel
theorem dL_fits_861 : decode cL_fits 861 = .ok (.ifCond .ne 109, 3) := by decide +kernel
theorem dL_fits_864 : decode cL_fits 864 = .ok (.aload_n 0, 1) := by decide +kernel
theorem dL_fits_865 : decode cL_fits 865 = .ok (.iconst 3, 1) := by decide +kernel
theorem dL_fits_866 : decode cL_fits 866 = .ok (.invokevirtual 8, 3) := by decide +kernel
theorem dL_fits_869 : decode cL_fits 869 = .ok (.iload_n 1, 1) := by decide +kernel
theorem dL_fits_870 : decode cL_fits 870 = .ok (.if_icmp .ne 100, 3) := by decide +kernel
theorem dL_fits_873 : decode cL_fits 873 = .ok (.aload_n 0, 1) := by decide +kernel
theorem dL_fits_874 : decode cL_fits 874 = .ok (.iconst 4, 1) := by decide +kernel
theorem dL_fits_875 : decode cL_fits 875 = .ok (.invokevirtual 8, 3) := by decide +kernel
theorem dL_fits_878 : decode cL_fits 878 = .ok (.iconst 4, 1) := by decide +kernel
theorem dL_fits_879 : decode cL_fits 879 = .ok (.aload_n 0, 1) := by decide +kernel
theorem dL_fits_880 : decode cL_fits 880 = .ok (.iconst 2, 1) := by decide +kernel
theorem dL_fits_881 : decode cL_fits 881 = .ok (.invokevirtual 8, 3) := by decide +kernel
theorem dL_fits_884 : decode cL_fits 884 = .ok (.imul, 1) := by decide +kernel
theorem dL_fits_885 : decode cL_fits 885 = .ok (.iload_n 2, 1) := by decide +kernel
theorem dL_fits_886 : decode cL_fits 886 = .ok (.isub, 1) := by decide +kernel
theorem dL_fits_887 : decode cL_fits 887 = .ok (.if_icmp .ne 83, 3) := by decide +kernel
theorem dL_fits_890 : decode cL_fits 890 = .ok (.aload_n 0, 1) := by decide +kernel
theorem dL_fits_891 : decode cL_fits 891 = .ok (.iconst 5, 1) := by decide +kernel
theorem dL_fits_892 : decode cL_fits 892 = .ok (.invokevirtual 8, 3) := by decide +kernel
theorem dL_fits_895 : decode cL_fits 895 = .ok (.iload 4, 2) := by decide +kernel
theorem dL_fits_897 : decode cL_fits 897 = .ok (.if_icmp .ne 73, 3) := by decide +kernel
theorem dL_fits_900 : decode cL_fits 900 = .ok (.aload_n 0, 1) := by decide +kernel
theorem dL_fits_901 : decode cL_fits 901 = .ok (.bipush 13, 2) := by decide +kernel
theorem dL_fits_903 : decode cL_fits 903 = .ok (.invokevirtual 8, 3) := by decide +kernel
theorem dL_fits_906 : decode cL_fits 906 = .ok (.iload_n 3, 1) := by decide +kernel
theorem dL_fits_907 : decode cL_fits 907 = .ok (.if_icmp .ne 63, 3) := by decide +kernel
theorem dL_fits_910 : decode cL_fits 910 = .ok (.aload_n 0, 1) := by decide +kernel
theorem dL_fits_911 : decode cL_fits 911 = .ok (.bipush 7, 2) := by decide +kernel
theorem dL_fits_913 : decode cL_fits 913 = .ok (.invokevirtual 8, 3) := by decide +kernel
theorem dL_fits_916 : decode cL_fits 916 = .ok (.aload_n 0, 1) := by decide +kernel
theorem dL_fits_917 : decode cL_fits 917 = .ok (.bipush 6, 2) := by decide +kernel
theorem dL_fits_919 : decode cL_fits 919 = .ok (.invokevirtual 8, 3) := by decide +kernel
theorem dL_fits_922 : decode cL_fits 922 = .ok (.if_icmp .gt 48, 3) := by decide +kernel
theorem dL_fits_925 : decode cL_fits 925 = .ok (.aload_n 0, 1) := by decide +kernel
theorem dL_fits_926 : decode cL_fits 926 = .ok (.bipush 8, 2) := by decide +kernel
theorem dL_fits_928 : decode cL_fits 928 = .ok (.invokevirtual 8, 3) := by decide +kernel
theorem dL_fits_931 : decode cL_fits 931 = .ok (.aload_n 0, 1) := by decide +kernel
theorem dL_fits_932 : decode cL_fits 932 = .ok (.bipush 7, 2) := by decide +kernel
theorem dL_fits_934 : decode cL_fits 934 = .ok (.invokevirtual 8, 3) := by decide +kernel
theorem dL_fits_937 : decode cL_fits 937 = .ok (.if_icmp .gt 33, 3) := by decide +kernel
theorem dL_fits_940 : decode cL_fits 940 = .ok (.aload_n 0, 1) := by decide +kernel
theorem dL_fits_941 : decode cL_fits 941 = .ok (.bipush 9, 2) := by decide +kernel
theorem dL_fits_943 : decode cL_fits 943 = .ok (.invokevirtual 8, 3) := by decide +kernel
theorem dL_fits_946 : decode cL_fits 946 = .ok (.aload_n 0, 1) := by decide +kernel
theorem dL_fits_947 : decode cL_fits 947 = .ok (.bipush 8, 2) := by decide +kernel
theorem dL_fits_949 : decode cL_fits 949 = .ok (.invokevirtual 8, 3) := by decide +kernel
theorem dL_fits_952 : decode cL_fits 952 = .ok (.if_icmp .gt 18, 3) := by decide +kernel
theorem dL_fits_955 : decode cL_fits 955 = .ok (.iload 4, 2) := by decide +kernel
theorem dL_fits_957 : decode cL_fits 957 = .ok (.aload_n 0, 1) := by decide +kernel
theorem dL_fits_958 : decode cL_fits 958 = .ok (.bipush 9, 2) := by decide +kernel
theorem dL_fits_960 : decode cL_fits 960 = .ok (.invokevirtual 8, 3) := by decide +kernel
theorem dL_fits_963 : decode cL_fits 963 = .ok (.if_icmp .lt 7, 3) := by decide +kernel
theorem dL_fits_966 : decode cL_fits 966 = .ok (.iconst 1, 1) := by decide +kernel
theorem dL_fits_967 : decode cL_fits 967 = .ok (.goto 4, 3) := by decide +kernel
theorem dL_fits_970 : decode cL_fits 970 = .ok (.iconst 0, 1) := by decide +kernel
theorem dL_fits_971 : decode cL_fits 971 = .ok (.ireturn, 1) := by decide +kernel
theorem dL_next_0 : decode cL_next 0 = .ok (.aload_n 0, 1) := by decide +kernel
theorem dL_next_1 : decode cL_next 1 = .ok (.iload_n 1, 1) := by decide +kernel
theorem dL_next_2 : decode cL_next 2 = .ok (.iconst 2, 1) := by decide +kernel
theorem dL_next_3 : decode cL_next 3 = .ok (.invokevirtual 14, 3) := by decide +kernel
theorem dL_next_6 : decode cL_next 6 = .ok (.istore_n 2, 1) := by decide +kernel
theorem dL_next_7 : decode cL_next 7 = .ok (.iload_n 2, 1) := by decide +kernel
theorem dL_next_8 : decode cL_next 8 = .ok (.ifCond .lt 16, 3) := by decide +kernel
theorem dL_next_11 : decode cL_next 11 = .ok (.aload_n 0, 1) := by decide +kernel
theorem dL_next_12 : decode cL_next 12 = .ok (.iload_n 2, 1) := by decide +kernel
theorem dL_next_13 : decode cL_next 13 = .ok (.iconst 4, 1) := by decide +kernel
theorem dL_next_14 : decode cL_next 14 = .ok (.invokevirtual 18, 3) := by decide +kernel
theorem dL_next_17 : decode cL_next 17 = .ok (.ifCond .le 7, 3) := by decide +kernel
theorem dL_next_20 : decode cL_next 20 = .ok (.iconst 1, 1) := by decide +kernel
theorem dL_next_21 : decode cL_next 21 = .ok (.goto 4, 3) := by decide +kernel
theorem dL_next_24 : decode cL_next 24 = .ok (.iconst 0, 1) := by decide +kernel
theorem dL_next_25 : decode cL_next 25 = .ok (.istore_n 3, 1) := by decide +kernel
theorem dL_next_26 : decode cL_next 26 = .ok (.aload_n 0, 1) := by decide +kernel
theorem dL_next_27 : decode cL_next 27 = .ok (.iload_n 1, 1) := by decide +kernel
theorem dL_next_28 : decode cL_next 28 = .ok (.bipush 6, 2) := by decide +kernel
theorem dL_next_30 : decode cL_next 30 = .ok (.invokevirtual 14, 3) := by decide +kernel
theorem dL_next_33 : decode cL_next 33 = .ok (.iconst 1, 1) := by decide +kernel
theorem dL_next_34 : decode cL_next 34 = .ok (.iadd, 1) := by decide +kernel
theorem dL_next_35 : decode cL_next 35 = .ok (.aload_n 0, 1) := by decide +kernel
theorem dL_next_36 : decode cL_next 36 = .ok (.bipush 15, 2) := by decide +kernel
theorem dL_next_38 : decode cL_next 38 = .ok (.invokevirtual 8, 3) := by decide +kernel
theorem dL_next_41 : decode cL_next 41 = .ok (.if_icmp .lt 7, 3) := by decide +kernel
theorem dL_next_44 : decode cL_next 44 = .ok (.iconst 1, 1) := by decide +kernel
theorem dL_next_45 : decode cL_next 45 = .ok (.goto 4, 3) := by decide +kernel
theorem dL_next_48 : decode cL_next 48 = .ok (.iconst 0, 1) := by decide +kernel
theorem dL_next_49 : decode cL_next 49 = .ok (.istore 4, 2) := by decide +kernel
theorem dL_next_51 : decode cL_next 51 = .ok (.aload_n 0, 1) := by decide +kernel
theorem dL_next_52 : decode cL_next 52 = .ok (.iload_n 1, 1) := by decide +kernel
theorem dL_next_53 : decode cL_next 53 = .ok (.iconst 0, 1) := by decide +kernel
theorem dL_next_54 : decode cL_next 54 = .ok (.invokevirtual 14, 3) := by decide +kernel
theorem dL_next_57 : decode cL_next 57 = .ok (.tableswitch 251 1 9 #[51, 67, 86, 251, 117, 137, 154, 200, 239], 51) := by decide +kernel
theorem dL_next_108 : decode cL_next 108 = .ok (.aload_n 0, 1) := by decide +kernel
theorem dL_next_109 : decode cL_next 109 = .ok (.iload_n 1, 1) := by decide +kernel
theorem dL_next_110 : decode cL_next 110 = .ok (.iconst 1, 1) := by decide +kernel
theorem dL_next_111 : decode cL_next 111 = .ok (.invokevirtual 14, 3) := by decide +kernel
theorem dL_next_114 : decode cL_next 114 = .ok (.iload_n 2, 1) := by decide +kernel
theorem dL_next_115 : decode cL_next 115 = .ok (.if_icmp .ne 7, 3) := by decide +kernel
theorem dL_next_118 : decode cL_next 118 = .ok (.iconst 2, 1) := by decide +kernel
theorem dL_next_119 : decode cL_next 119 = .ok (.goto 4, 3) := by decide +kernel
theorem dL_next_122 : decode cL_next 122 = .ok (.iconst 1, 1) := by decide +kernel
theorem dL_next_123 : decode cL_next 123 = .ok (.ireturn, 1) := by decide +kernel
theorem dL_next_124 : decode cL_next 124 = .ok (.iload_n 3, 1) := by decide +kernel
theorem dL_next_125 : decode cL_next 125 = .ok (.ifCond .eq 7, 3) := by decide +kernel
theorem dL_next_128 : decode cL_next 128 = .ok (.iconst 3, 1) := by decide +kernel
theorem dL_next_129 : decode cL_next 129 = .ok (.goto 13, 3) := by decide +kernel
theorem dL_next_132 : decode cL_next 132 = .ok (.iload 4, 2) := by decide +kernel
theorem dL_next_134 : decode cL_next 134 = .ok (.ifCond .eq 7, 3) := by decide +kernel
theorem dL_next_137 : decode cL_next 137 = .ok (.iconst 0, 1) := by decide +kernel
theorem dL_next_138 : decode cL_next 138 = .ok (.goto 4, 3) := by decide +kernel
theorem dL_next_141 : decode cL_next 141 = .ok (.iconst 2, 1) := by decide +kernel
theorem dL_next_142 : decode cL_next 142 = .ok (.ireturn, 1) := by decide +kernel
theorem dL_next_143 : decode cL_next 143 = .ok (.aload_n 0, 1) := by decide +kernel
theorem dL_next_144 : decode cL_next 144 = .ok (.iload_n 1, 1) := by decide +kernel
theorem dL_next_145 : decode cL_next 145 = .ok (.iconst 5, 1) := by decide +kernel
theorem dL_next_146 : decode cL_next 146 = .ok (.invokevirtual 14, 3) := by decide +kernel
theorem dL_next_149 : decode cL_next 149 = .ok (.iconst 1, 1) := by decide +kernel
theorem dL_next_150 : decode cL_next 150 = .ok (.if_icmp .le 7, 3) := by decide +kernel
theorem dL_next_153 : decode cL_next 153 = .ok (.iconst 3, 1) := by decide +kernel
theorem dL_next_154 : decode cL_next 154 = .ok (.goto 19, 3) := by decide +kernel
theorem dL_next_157 : decode cL_next 157 = .ok (.aload_n 0, 1) := by decide +kernel
theorem dL_next_158 : decode cL_next 158 = .ok (.iload_n 1, 1) := by decide +kernel
theorem dL_next_159 : decode cL_next 159 = .ok (.iconst 3, 1) := by decide +kernel
theorem dL_next_160 : decode cL_next 160 = .ok (.invokevirtual 14, 3) := by decide +kernel
theorem dL_next_163 : decode cL_next 163 = .ok (.iconst 4, 1) := by decide +kernel
theorem dL_next_164 : decode cL_next 164 = .ok (.if_icmp .ge 7, 3) := by decide +kernel
theorem dL_next_167 : decode cL_next 167 = .ok (.iconst 4, 1) := by decide +kernel
theorem dL_next_168 : decode cL_next 168 = .ok (.goto 5, 3) := by decide +kernel
theorem dL_next_171 : decode cL_next 171 = .ok (.bipush 9, 2) := by decide +kernel
theorem dL_next_173 : decode cL_next 173 = .ok (.ireturn, 1) := by decide +kernel
theorem dL_next_174 : decode cL_next 174 = .ok (.iload_n 3, 1) := by decide +kernel
theorem dL_next_175 : decode cL_next 175 = .ok (.ifCond .eq 8, 3) := by decide +kernel
theorem dL_next_178 : decode cL_next 178 = .ok (.bipush 6, 2) := by decide +kernel
theorem dL_next_180 : decode cL_next 180 = .ok (.goto 13, 3) := by decide +kernel
theorem dL_next_183 : decode cL_next 183 = .ok (.iload 4, 2) := by decide +kernel
theorem dL_next_185 : decode cL_next 185 = .ok (.ifCond .eq 7, 3) := by decide +kernel
theorem dL_next_188 : decode cL_next 188 = .ok (.iconst 0, 1) := by decide +kernel
theorem dL_next_189 : decode cL_next 189 = .ok (.goto 4, 3) := by decide +kernel
theorem dL_next_192 : decode cL_next 192 = .ok (.iconst 5, 1) := by decide +kernel
theorem dL_next_193 : decode cL_next 193 = .ok (.ireturn, 1) := by decide +kernel
theorem dL_next_194 : decode cL_next 194 = .ok (.aload_n 0, 1) := by decide +kernel
theorem dL_next_195 : decode cL_next 195 = .ok (.iload_n 1, 1) := by decide +kernel
theorem dL_next_196 : decode cL_next 196 = .ok (.iconst 5, 1) := by decide +kernel
theorem dL_next_197 : decode cL_next 197 = .ok (.invokevirtual 14, 3) := by decide +kernel
theorem dL_next_200 : decode cL_next 200 = .ok (.iconst 1, 1) := by decide +kernel
theorem dL_next_201 : decode cL_next 201 = .ok (.if_icmp .le 8, 3) := by decide +kernel
theorem dL_next_204 : decode cL_next 204 = .ok (.bipush 6, 2) := by decide +kernel
theorem dL_next_206 : decode cL_next 206 = .ok (.goto 4, 3) := by decide +kernel
theorem dL_next_209 : decode cL_next 209 = .ok (.iconst (-1), 1) := by decide +kernel
theorem dL_next_210 : decode cL_next 210 = .ok (.ireturn, 1) := by decide +kernel
theorem dL_next_211 : decode cL_next 211 = .ok (.aload_n 0, 1) := by decide +kernel
theorem dL_next_212 : decode cL_next 212 = .ok (.aload_n 0, 1) := by decide +kernel
theorem dL_next_213 : decode cL_next 213 = .ok (.iload_n 2, 1) := by decide +kernel
theorem dL_next_214 : decode cL_next 214 = .ok (.iconst 3, 1) := by decide +kernel
theorem dL_next_215 : decode cL_next 215 = .ok (.invokevirtual 18, 3) := by decide +kernel
theorem dL_next_218 : decode cL_next 218 = .ok (.iconst 1, 1) := by decide +kernel
theorem dL_next_219 : decode cL_next 219 = .ok (.invokevirtual 18, 3) := by decide +kernel
theorem dL_next_222 : decode cL_next 222 = .ok (.iconst 1, 1) := by decide +kernel
theorem dL_next_223 : decode cL_next 223 = .ok (.if_icmp .ne 8, 3) := by decide +kernel
theorem dL_next_226 : decode cL_next 226 = .ok (.bipush 8, 2) := by decide +kernel
theorem dL_next_228 : decode cL_next 228 = .ok (.goto 28, 3) := by decide +kernel
theorem dL_next_231 : decode cL_next 231 = .ok (.aload_n 0, 1) := by decide +kernel
theorem dL_next_232 : decode cL_next 232 = .ok (.iload_n 1, 1) := by decide +kernel
theorem dL_next_233 : decode cL_next 233 = .ok (.bipush 6, 2) := by decide +kernel
theorem dL_next_235 : decode cL_next 235 = .ok (.invokevirtual 14, 3) := by decide +kernel
theorem dL_next_238 : decode cL_next 238 = .ok (.iconst 1, 1) := by decide +kernel
theorem dL_next_239 : decode cL_next 239 = .ok (.iadd, 1) := by decide +kernel
theorem dL_next_240 : decode cL_next 240 = .ok (.aload_n 0, 1) := by decide +kernel
theorem dL_next_241 : decode cL_next 241 = .ok (.bipush 16, 2) := by decide +kernel
theorem dL_next_243 : decode cL_next 243 = .ok (.invokevirtual 8, 3) := by decide +kernel
theorem dL_next_246 : decode cL_next 246 = .ok (.if_icmp .lt 8, 3) := by decide +kernel
theorem dL_next_249 : decode cL_next 249 = .ok (.bipush 9, 2) := by decide +kernel
theorem dL_next_251 : decode cL_next 251 = .ok (.goto 5, 3) := by decide +kernel
theorem dL_next_254 : decode cL_next 254 = .ok (.bipush 7, 2) := by decide +kernel
theorem dL_next_256 : decode cL_next 256 = .ok (.ireturn, 1) := by decide +kernel
theorem dL_next_257 : decode cL_next 257 = .ok (.aload_n 0, 1) := by decide +kernel
theorem dL_next_258 : decode cL_next 258 = .ok (.aload_n 0, 1) := by decide +kernel
theorem dL_next_259 : decode cL_next 259 = .ok (.iload_n 2, 1) := by decide +kernel
theorem dL_next_260 : decode cL_next 260 = .ok (.iconst 3, 1) := by decide +kernel
theorem dL_next_261 : decode cL_next 261 = .ok (.invokevirtual 18, 3) := by decide +kernel
theorem dL_next_264 : decode cL_next 264 = .ok (.iconst 1, 1) := by decide +kernel
theorem dL_next_265 : decode cL_next 265 = .ok (.invokevirtual 18, 3) := by decide +kernel
theorem dL_next_268 : decode cL_next 268 = .ok (.ifCond .ne 25, 3) := by decide +kernel
theorem dL_next_271 : decode cL_next 271 = .ok (.aload_n 0, 1) := by decide +kernel
theorem dL_next_272 : decode cL_next 272 = .ok (.iload_n 1, 1) := by decide +kernel
theorem dL_next_273 : decode cL_next 273 = .ok (.bipush 7, 2) := by decide +kernel
theorem dL_next_275 : decode cL_next 275 = .ok (.invokevirtual 14, 3) := by decide +kernel
theorem dL_next_278 : decode cL_next 278 = .ok (.iconst 1, 1) := by decide +kernel
theorem dL_next_279 : decode cL_next 279 = .ok (.iadd, 1) := by decide +kernel
theorem dL_next_280 : decode cL_next 280 = .ok (.aload_n 0, 1) := by decide +kernel
theorem dL_next_281 : decode cL_next 281 = .ok (.bipush 18, 2) := by decide +kernel
theorem dL_next_283 : decode cL_next 283 = .ok (.invokevirtual 8, 3) := by decide +kernel
theorem dL_next_286 : decode cL_next 286 = .ok (.if_icmp .lt 7, 3) := by decide +kernel
theorem dL_next_289 : decode cL_next 289 = .ok (.iconst 0, 1) := by decide +kernel
theorem dL_next_290 : decode cL_next 290 = .ok (.goto 5, 3) := by decide +kernel
theorem dL_next_293 : decode cL_next 293 = .ok (.bipush 8, 2) := by decide +kernel
theorem dL_next_295 : decode cL_next 295 = .ok (.ireturn, 1) := by decide +kernel
theorem dL_next_296 : decode cL_next 296 = .ok (.iload 4, 2) := by decide +kernel
theorem dL_next_298 : decode cL_next 298 = .ok (.ifCond .eq 7, 3) := by decide +kernel
theorem dL_next_301 : decode cL_next 301 = .ok (.iconst 0, 1) := by decide +kernel
theorem dL_next_302 : decode cL_next 302 = .ok (.goto 5, 3) := by decide +kernel
theorem dL_next_305 : decode cL_next 305 = .ok (.bipush 9, 2) := by decide +kernel
theorem dL_next_307 : decode cL_next 307 = .ok (.ireturn, 1) := by decide +kernel
theorem dL_next_308 : decode cL_next 308 = .ok (.iconst (-1), 1) := by decide +kernel
theorem dL_next_309 : decode cL_next 309 = .ok (.ireturn, 1) := by decide +kernel
theorem dL_ticks_0 : decode cL_ticks 0 = .ok (.iconst 4, 1) := by decide +kernel
theorem dL_ticks_1 : decode cL_ticks 1 = .ok (.newarray .int, 2) := by decide +kernel
theorem dL_ticks_3 : decode cL_ticks 3 = .ok (.astore_n 2, 1) := by decide +kernel
theorem dL_ticks_4 : decode cL_ticks 4 = .ok (.bipush 16, 2) := by decide +kernel
theorem dL_ticks_6 : decode cL_ticks 6 = .ok (.newarray .int, 2) := by decide +kernel
theorem dL_ticks_8 : decode cL_ticks 8 = .ok (.astore_n 3, 1) := by decide +kernel
theorem dL_ticks_9 : decode cL_ticks 9 = .ok (.iconst 0, 1) := by decide +kernel
theorem dL_ticks_10 : decode cL_ticks 10 = .ok (.istore 4, 2) := by decide +kernel
theorem dL_ticks_12 : decode cL_ticks 12 = .ok (.iload 4, 2) := by decide +kernel
theorem dL_ticks_14 : decode cL_ticks 14 = .ok (.iload_n 1, 1) := by decide +kernel
theorem dL_ticks_15 : decode cL_ticks 15 = .ok (.if_icmp .ge 325, 3) := by decide +kernel
theorem dL_ticks_18 : decode cL_ticks 18 = .ok (.iconst 0, 1) := by decide +kernel
theorem dL_ticks_19 : decode cL_ticks 19 = .ok (.istore 5, 2) := by decide +kernel
theorem dL_ticks_21 : decode cL_ticks 21 = .ok (.iload 5, 2) := by decide +kernel
theorem dL_ticks_23 : decode cL_ticks 23 = .ok (.aload_n 0, 1) := by decide +kernel
theorem dL_ticks_24 : decode cL_ticks 24 = .ok (.iconst 1, 1) := by decide +kernel
theorem dL_ticks_25 : decode cL_ticks 25 = .ok (.invokevirtual 8, 3) := by decide +kernel
theorem dL_ticks_28 : decode cL_ticks 28 = .ok (.if_icmp .ge 31, 3) := by decide +kernel
theorem dL_ticks_31 : decode cL_ticks 31 = .ok (.aload_n 2, 1) := by decide +kernel
theorem dL_ticks_32 : decode cL_ticks 32 = .ok (.iload 5, 2) := by decide +kernel
theorem dL_ticks_34 : decode cL_ticks 34 = .ok (.aload_n 0, 1) := by decide +kernel
theorem dL_ticks_35 : decode cL_ticks 35 = .ok (.iload 5, 2) := by decide +kernel
theorem dL_ticks_37 : decode cL_ticks 37 = .ok (.invokestatic 27, 3) := by decide +kernel
theorem dL_ticks_40 : decode cL_ticks 40 = .ok (.iastore, 1) := by decide +kernel
theorem dL_ticks_41 : decode cL_ticks 41 = .ok (.aload_n 3, 1) := by decide +kernel
theorem dL_ticks_42 : decode cL_ticks 42 = .ok (.iload 5, 2) := by decide +kernel
theorem dL_ticks_44 : decode cL_ticks 44 = .ok (.aload_n 0, 1) := by decide +kernel
theorem dL_ticks_45 : decode cL_ticks 45 = .ok (.iload 5, 2) := by decide +kernel
theorem dL_ticks_47 : decode cL_ticks 47 = .ok (.bipush 6, 2) := by decide +kernel
theorem dL_ticks_49 : decode cL_ticks 49 = .ok (.invokevirtual 14, 3) := by decide +kernel
theorem dL_ticks_52 : decode cL_ticks 52 = .ok (.iastore, 1) := by decide +kernel
theorem dL_ticks_53 : decode cL_ticks 53 = .ok (.iinc 5 1, 3) := by decide +kernel
theorem dL_ticks_56 : decode cL_ticks 56 = .ok (.goto (-35), 3) := by decide +kernel
theorem dL_ticks_59 : decode cL_ticks 59 = .ok (.iconst 0, 1) := by decide +kernel
theorem dL_ticks_60 : decode cL_ticks 60 = .ok (.istore 5, 2) := by decide +kernel
theorem dL_ticks_62 : decode cL_ticks 62 = .ok (.iload 5, 2) := by decide +kernel
theorem dL_ticks_64 : decode cL_ticks 64 = .ok (.bipush 16, 2) := by decide +kernel
theorem dL_ticks_66 : decode cL_ticks 66 = .ok (.if_icmp .ge 20, 3) := by decide +kernel
theorem dL_ticks_69 : decode cL_ticks 69 = .ok (.aload_n 3, 1) := by decide +kernel
theorem dL_ticks_70 : decode cL_ticks 70 = .ok (.iload 5, 2) := by decide +kernel
theorem dL_ticks_72 : decode cL_ticks 72 = .ok (.aload_n 0, 1) := by decide +kernel
theorem dL_ticks_73 : decode cL_ticks 73 = .ok (.iload 5, 2) := by decide +kernel
theorem dL_ticks_75 : decode cL_ticks 75 = .ok (.iconst 5, 1) := by decide +kernel
theorem dL_ticks_76 : decode cL_ticks 76 = .ok (.invokevirtual 18, 3) := by decide +kernel
theorem dL_ticks_79 : decode cL_ticks 79 = .ok (.iastore, 1) := by decide +kernel
theorem dL_ticks_80 : decode cL_ticks 80 = .ok (.iinc 5 1, 3) := by decide +kernel
theorem dL_ticks_83 : decode cL_ticks 83 = .ok (.goto (-21), 3) := by decide +kernel
theorem dL_ticks_86 : decode cL_ticks 86 = .ok (.aload_n 0, 1) := by decide +kernel
theorem dL_ticks_87 : decode cL_ticks 87 = .ok (.iconst 3, 1) := by decide +kernel
theorem dL_ticks_88 : decode cL_ticks 88 = .ok (.invokevirtual 8, 3) := by decide +kernel
theorem dL_ticks_91 : decode cL_ticks 91 = .ok (.istore 5, 2) := by decide +kernel
theorem dL_ticks_93 : decode cL_ticks 93 = .ok (.bipush (-6), 2) := by decide +kernel
theorem dL_ticks_95 : decode cL_ticks 95 = .ok (.istore 6, 2) := by decide +kernel
theorem dL_ticks_97 : decode cL_ticks 97 = .ok (.iconst 0, 1) := by decide +kernel
theorem dL_ticks_98 : decode cL_ticks 98 = .ok (.istore 7, 2) := by decide +kernel
theorem dL_ticks_100 : decode cL_ticks 100 = .ok (.iload 7, 2) := by decide +kernel
theorem dL_ticks_102 : decode cL_ticks 102 = .ok (.bipush 16, 2) := by decide +kernel
theorem dL_ticks_104 : decode cL_ticks 104 = .ok (.if_icmp .ge 29, 3) := by decide +kernel
theorem dL_ticks_107 : decode cL_ticks 107 = .ok (.aload_n 0, 1) := by decide +kernel
theorem dL_ticks_108 : decode cL_ticks 108 = .ok (.iload 7, 2) := by decide +kernel
theorem dL_ticks_110 : decode cL_ticks 110 = .ok (.bipush 7, 2) := by decide +kernel
theorem dL_ticks_112 : decode cL_ticks 112 = .ok (.invokevirtual 18, 3) := by decide +kernel
theorem dL_ticks_115 : decode cL_ticks 115 = .ok (.ifCond .ne 8, 3) := by decide +kernel
theorem dL_ticks_118 : decode cL_ticks 118 = .ok (.iload 7, 2) := by decide +kernel
theorem dL_ticks_120 : decode cL_ticks 120 = .ok (.goto 5, 3) := by decide +kernel
theorem dL_ticks_123 : decode cL_ticks 123 = .ok (.iload 6, 2) := by decide +kernel
theorem dL_ticks_125 : decode cL_ticks 125 = .ok (.istore 6, 2) := by decide +kernel
theorem dL_ticks_127 : decode cL_ticks 127 = .ok (.iinc 7 1, 3) := by decide +kernel
theorem dL_ticks_130 : decode cL_ticks 130 = .ok (.goto (-30), 3) := by decide +kernel
theorem dL_ticks_133 : decode cL_ticks 133 = .ok (.aload_n 0, 1) := by decide +kernel
theorem dL_ticks_134 : decode cL_ticks 134 = .ok (.iconst 0, 1) := by decide +kernel
theorem dL_ticks_135 : decode cL_ticks 135 = .ok (.invokevirtual 8, 3) := by decide +kernel
theorem dL_ticks_138 : decode cL_ticks 138 = .ok (.istore 7, 2) := by decide +kernel
theorem dL_ticks_140 : decode cL_ticks 140 = .ok (.aload_n 0, 1) := by decide +kernel
theorem dL_ticks_141 : decode cL_ticks 141 = .ok (.iconst 1, 1) := by decide +kernel
theorem dL_ticks_142 : decode cL_ticks 142 = .ok (.invokevirtual 33, 3) := by decide +kernel
theorem dL_ticks_145 : decode cL_ticks 145 = .ok (.iload 7, 2) := by decide +kernel
theorem dL_ticks_147 : decode cL_ticks 147 = .ok (.iconst 1, 1) := by decide +kernel
theorem dL_ticks_148 : decode cL_ticks 148 = .ok (.iadd, 1) := by decide +kernel
theorem dL_ticks_149 : decode cL_ticks 149 = .ok (.if_icmp .ne 10, 3) := by decide +kernel
theorem dL_ticks_152 : decode cL_ticks 152 = .ok (.aload_n 0, 1) := by decide +kernel
theorem dL_ticks_153 : decode cL_ticks 153 = .ok (.invokestatic 36, 3) := by decide +kernel
theorem dL_ticks_156 : decode cL_ticks 156 = .ok (.ifCond .ne 5, 3) := by decide +kernel
theorem dL_ticks_159 : decode cL_ticks 159 = .ok (.iconst 0, 1) := by decide +kernel
theorem dL_ticks_160 : decode cL_ticks 160 = .ok (.ireturn, 1) := by decide +kernel
theorem dL_ticks_161 : decode cL_ticks 161 = .ok (.iconst 0, 1) := by decide +kernel
theorem dL_ticks_162 : decode cL_ticks 162 = .ok (.istore 8, 2) := by decide +kernel
theorem dL_ticks_164 : decode cL_ticks 164 = .ok (.iconst 0, 1) := by decide +kernel
theorem dL_ticks_165 : decode cL_ticks 165 = .ok (.istore 9, 2) := by decide +kernel
theorem dL_ticks_167 : decode cL_ticks 167 = .ok (.iload 9, 2) := by decide +kernel
theorem dL_ticks_169 : decode cL_ticks 169 = .ok (.aload_n 0, 1) := by decide +kernel
theorem dL_ticks_170 : decode cL_ticks 170 = .ok (.iconst 1, 1) := by decide +kernel
theorem dL_ticks_171 : decode cL_ticks 171 = .ok (.invokevirtual 8, 3) := by decide +kernel
theorem dL_ticks_174 : decode cL_ticks 174 = .ok (.if_icmp .ge 82, 3) := by decide +kernel
theorem dL_ticks_177 : decode cL_ticks 177 = .ok (.aload_n 0, 1) := by decide +kernel
theorem dL_ticks_178 : decode cL_ticks 178 = .ok (.iload 9, 2) := by decide +kernel
theorem dL_ticks_180 : decode cL_ticks 180 = .ok (.iconst 0, 1) := by decide +kernel
theorem dL_ticks_181 : decode cL_ticks 181 = .ok (.invokevirtual 14, 3) := by decide +kernel
theorem dL_ticks_184 : decode cL_ticks 184 = .ok (.istore 10, 2) := by decide +kernel
theorem dL_ticks_186 : decode cL_ticks 186 = .ok (.aload_n 2, 1) := by decide +kernel
theorem dL_ticks_187 : decode cL_ticks 187 = .ok (.iload 9, 2) := by decide +kernel
theorem dL_ticks_189 : decode cL_ticks 189 = .ok (.iaload, 1) := by decide +kernel
theorem dL_ticks_190 : decode cL_ticks 190 = .ok (.ifCond .lt 27, 3) := by decide +kernel
theorem dL_ticks_193 : decode cL_ticks 193 = .ok (.iload 10, 2) := by decide +kernel
theorem dL_ticks_195 : decode cL_ticks 195 = .ok (.aload_n 2, 1) := by decide +kernel
theorem dL_ticks_196 : decode cL_ticks 196 = .ok (.iload 9, 2) := by decide +kernel
theorem dL_ticks_198 : decode cL_ticks 198 = .ok (.iaload, 1) := by decide +kernel
theorem dL_ticks_199 : decode cL_ticks 199 = .ok (.if_icmp .eq 18, 3) := by decide +kernel
theorem dL_ticks_202 : decode cL_ticks 202 = .ok (.aload_n 2, 1) := by decide +kernel
theorem dL_ticks_203 : decode cL_ticks 203 = .ok (.iload 9, 2) := by decide +kernel
theorem dL_ticks_205 : decode cL_ticks 205 = .ok (.iaload, 1) := by decide +kernel
theorem dL_ticks_206 : decode cL_ticks 206 = .ok (.ifCond .ne 9, 3) := by decide +kernel
theorem dL_ticks_209 : decode cL_ticks 209 = .ok (.iload 10, 2) := by decide +kernel
theorem dL_ticks_211 : decode cL_ticks 211 = .ok (.iconst 1, 1) := by decide +kernel
theorem dL_ticks_212 : decode cL_ticks 212 = .ok (.if_icmp .eq 5, 3) := by decide +kernel
theorem dL_ticks_215 : decode cL_ticks 215 = .ok (.iconst 0, 1) := by decide +kernel
theorem dL_ticks_216 : decode cL_ticks 216 = .ok (.ireturn, 1) := by decide +kernel
theorem dL_ticks_217 : decode cL_ticks 217 = .ok (.iload 8, 2) := by decide +kernel
theorem dL_ticks_219 : decode cL_ticks 219 = .ok (.iload 6, 2) := by decide +kernel
theorem dL_ticks_221 : decode cL_ticks 221 = .ok (.ifCond .lt 25, 3) := by decide +kernel
theorem dL_ticks_224 : decode cL_ticks 224 = .ok (.iload 10, 2) := by decide +kernel
theorem dL_ticks_226 : decode cL_ticks 226 = .ok (.iconst 1, 1) := by decide +kernel
theorem dL_ticks_227 : decode cL_ticks 227 = .ok (.if_icmp .ne 19, 3) := by decide +kernel
theorem dL_ticks_230 : decode cL_ticks 230 = .ok (.aload_n 0, 1) := by decide +kernel
theorem dL_ticks_231 : decode cL_ticks 231 = .ok (.iload 9, 2) := by decide +kernel
theorem dL_ticks_233 : decode cL_ticks 233 = .ok (.iconst 2, 1) := by decide +kernel
theorem dL_ticks_234 : decode cL_ticks 234 = .ok (.invokevirtual 14, 3) := by decide +kernel
theorem dL_ticks_237 : decode cL_ticks 237 = .ok (.iload 6, 2) := by decide +kernel
theorem dL_ticks_239 : decode cL_ticks 239 = .ok (.if_icmp .ne 7, 3) := by decide +kernel
theorem dL_ticks_242 : decode cL_ticks 242 = .ok (.iconst 1, 1) := by decide +kernel
theorem dL_ticks_243 : decode cL_ticks 243 = .ok (.goto 4, 3) := by decide +kernel
theorem dL_ticks_246 : decode cL_ticks 246 = .ok (.iconst 0, 1) := by decide +kernel
theorem dL_ticks_247 : decode cL_ticks 247 = .ok (.iadd, 1) := by decide +kernel
theorem dL_ticks_248 : decode cL_ticks 248 = .ok (.istore 8, 2) := by decide +kernel
theorem dL_ticks_250 : decode cL_ticks 250 = .ok (.iinc 9 1, 3) := by decide +kernel
theorem dL_ticks_253 : decode cL_ticks 253 = .ok (.goto (-86), 3) := by decide +kernel
theorem dL_ticks_256 : decode cL_ticks 256 = .ok (.iload 6, 2) := by decide +kernel
theorem dL_ticks_258 : decode cL_ticks 258 = .ok (.ifCond .lt 16, 3) := by decide +kernel
theorem dL_ticks_261 : decode cL_ticks 261 = .ok (.iload 5, 2) := by decide +kernel
theorem dL_ticks_263 : decode cL_ticks 263 = .ok (.ifCond .le 11, 3) := by decide +kernel
theorem dL_ticks_266 : decode cL_ticks 266 = .ok (.iload 8, 2) := by decide +kernel
theorem dL_ticks_268 : decode cL_ticks 268 = .ok (.iconst 1, 1) := by decide +kernel
theorem dL_ticks_269 : decode cL_ticks 269 = .ok (.if_icmp .eq 5, 3) := by decide +kernel
theorem dL_ticks_272 : decode cL_ticks 272 = .ok (.iconst 0, 1) := by decide +kernel
theorem dL_ticks_273 : decode cL_ticks 273 = .ok (.ireturn, 1) := by decide +kernel
theorem dL_ticks_274 : decode cL_ticks 274 = .ok (.iconst 0, 1) := by decide +kernel
theorem dL_ticks_275 : decode cL_ticks 275 = .ok (.istore 9, 2) := by decide +kernel
theorem dL_ticks_277 : decode cL_ticks 277 = .ok (.iload 9, 2) := by decide +kernel
theorem dL_ticks_279 : decode cL_ticks 279 = .ok (.bipush 16, 2) := by decide +kernel
theorem dL_ticks_281 : decode cL_ticks 281 = .ok (.if_icmp .ge 53, 3) := by decide +kernel
theorem dL_ticks_284 : decode cL_ticks 284 = .ok (.aload_n 0, 1) := by decide +kernel
theorem dL_ticks_285 : decode cL_ticks 285 = .ok (.iload 9, 2) := by decide +kernel
theorem dL_ticks_287 : decode cL_ticks 287 = .ok (.iconst 5, 1) := by decide +kernel
theorem dL_ticks_288 : decode cL_ticks 288 = .ok (.invokevirtual 18, 3) := by decide +kernel
theorem dL_ticks_291 : decode cL_ticks 291 = .ok (.aload_n 3, 1) := by decide +kernel
theorem dL_ticks_292 : decode cL_ticks 292 = .ok (.iload 9, 2) := by decide +kernel
theorem dL_ticks_294 : decode cL_ticks 294 = .ok (.iaload, 1) := by decide +kernel
theorem dL_ticks_295 : decode cL_ticks 295 = .ok (.if_icmp .eq 33, 3) := by decide +kernel
theorem dL_ticks_298 : decode cL_ticks 298 = .ok (.aload_n 0, 1) := by decide +kernel
theorem dL_ticks_299 : decode cL_ticks 299 = .ok (.iload 9, 2) := by decide +kernel
theorem dL_ticks_301 : decode cL_ticks 301 = .ok (.iconst 5, 1) := by decide +kernel
theorem dL_ticks_302 : decode cL_ticks 302 = .ok (.invokevirtual 18, 3) := by decide +kernel
theorem dL_ticks_305 : decode cL_ticks 305 = .ok (.aload_n 3, 1) := by decide +kernel
theorem dL_ticks_306 : decode cL_ticks 306 = .ok (.iload 9, 2) := by decide +kernel
theorem dL_ticks_308 : decode cL_ticks 308 = .ok (.iaload, 1) := by decide +kernel
theorem dL_ticks_309 : decode cL_ticks 309 = .ok (.iconst 1, 1) := by decide +kernel
theorem dL_ticks_310 : decode cL_ticks 310 = .ok (.iadd, 1) := by decide +kernel
theorem dL_ticks_311 : decode cL_ticks 311 = .ok (.if_icmp .ne 15, 3) := by decide +kernel
theorem dL_ticks_314 : decode cL_ticks 314 = .ok (.aload_n 0, 1) := by decide +kernel
theorem dL_ticks_315 : decode cL_ticks 315 = .ok (.iload 9, 2) := by decide +kernel
theorem dL_ticks_317 : decode cL_ticks 317 = .ok (.iconst 0, 1) := by decide +kernel
theorem dL_ticks_318 : decode cL_ticks 318 = .ok (.invokevirtual 18, 3) := by decide +kernel
theorem dL_ticks_321 : decode cL_ticks 321 = .ok (.bipush 6, 2) := by decide +kernel
theorem dL_ticks_323 : decode cL_ticks 323 = .ok (.if_icmp .eq 5, 3) := by decide +kernel
theorem dL_ticks_326 : decode cL_ticks 326 = .ok (.iconst 0, 1) := by decide +kernel
theorem dL_ticks_327 : decode cL_ticks 327 = .ok (.ireturn, 1) := by decide +kernel
theorem dL_ticks_328 : decode cL_ticks 328 = .ok (.iinc 9 1, 3) := by decide +kernel
theorem dL_ticks_331 : decode cL_ticks 331 = .ok (.goto (-54), 3) := by decide +kernel
theorem dL_ticks_334 : decode cL_ticks 334 = .ok (.iinc 4 1, 3) := by decide +kernel
theorem dL_ticks_337 : decode cL_ticks 337 = .ok (.goto (-325), 3) := by decide +kernel
theorem dL_ticks_340 : decode cL_ticks 340 = .ok (.iconst 1, 1) := by decide +kernel
theorem dL_ticks_341 : decode cL_ticks 341 = .ok (.ireturn, 1) := by decide +kernel
theorem dL_law_0 : decode code 0 = .ok (.new 9, 3) := by decide +kernel
theorem dL_law_3 : decode code 3 = .ok (.dup, 1) := by decide +kernel
theorem dL_law_4 : decode code 4 = .ok (.invokespecial 40, 3) := by decide +kernel
theorem dL_law_7 : decode code 7 = .ok (.astore_n 1, 1) := by decide +kernel
theorem dL_law_8 : decode code 8 = .ok (.aload_n 1, 1) := by decide +kernel
theorem dL_law_9 : decode code 9 = .ok (.iconst 1, 1) := by decide +kernel
theorem dL_law_10 : decode code 10 = .ok (.aload_n 0, 1) := by decide +kernel
theorem dL_law_11 : decode code 11 = .ok (.iconst 0, 1) := by decide +kernel
theorem dL_law_12 : decode code 12 = .ok (.iconst 4, 1) := by decide +kernel
theorem dL_law_13 : decode code 13 = .ok (.invokestatic 41, 3) := by decide +kernel
theorem dL_law_16 : decode code 16 = .ok (.iadd, 1) := by decide +kernel
theorem dL_law_17 : decode code 17 = .ok (.iconst 1, 1) := by decide +kernel
theorem dL_law_18 : decode code 18 = .ok (.aload_n 0, 1) := by decide +kernel
theorem dL_law_19 : decode code 19 = .ok (.iconst 1, 1) := by decide +kernel
theorem dL_law_20 : decode code 20 = .ok (.iconst 3, 1) := by decide +kernel
theorem dL_law_21 : decode code 21 = .ok (.invokestatic 41, 3) := by decide +kernel
theorem dL_law_24 : decode code 24 = .ok (.iadd, 1) := by decide +kernel
theorem dL_law_25 : decode code 25 = .ok (.invokevirtual 45, 3) := by decide +kernel
theorem dL_law_28 : decode code 28 = .ok (.pop, 1) := by decide +kernel
theorem dL_law_29 : decode code 29 = .ok (.aload_n 1, 1) := by decide +kernel
theorem dL_law_30 : decode code 30 = .ok (.iconst 0, 1) := by decide +kernel
theorem dL_law_31 : decode code 31 = .ok (.iconst 3, 1) := by decide +kernel
theorem dL_law_32 : decode code 32 = .ok (.aload_n 0, 1) := by decide +kernel
theorem dL_law_33 : decode code 33 = .ok (.iconst 2, 1) := by decide +kernel
theorem dL_law_34 : decode code 34 = .ok (.bipush 20, 2) := by decide +kernel
theorem dL_law_36 : decode code 36 = .ok (.invokestatic 41, 3) := by decide +kernel
theorem dL_law_39 : decode code 39 = .ok (.iadd, 1) := by decide +kernel
theorem dL_law_40 : decode code 40 = .ok (.invokevirtual 48, 3) := by decide +kernel
theorem dL_law_43 : decode code 43 = .ok (.pop, 1) := by decide +kernel
theorem dL_law_44 : decode code 44 = .ok (.aload_n 1, 1) := by decide +kernel
theorem dL_law_45 : decode code 45 = .ok (.iconst 1, 1) := by decide +kernel
theorem dL_law_46 : decode code 46 = .ok (.iconst 3, 1) := by decide +kernel
theorem dL_law_47 : decode code 47 = .ok (.aload_n 0, 1) := by decide +kernel
theorem dL_law_48 : decode code 48 = .ok (.iconst 3, 1) := by decide +kernel
theorem dL_law_49 : decode code 49 = .ok (.bipush 20, 2) := by decide +kernel
theorem dL_law_51 : decode code 51 = .ok (.invokestatic 41, 3) := by decide +kernel
theorem dL_law_54 : decode code 54 = .ok (.iadd, 1) := by decide +kernel
theorem dL_law_55 : decode code 55 = .ok (.invokevirtual 48, 3) := by decide +kernel
theorem dL_law_58 : decode code 58 = .ok (.pop, 1) := by decide +kernel
theorem dL_law_59 : decode code 59 = .ok (.aload_n 1, 1) := by decide +kernel
theorem dL_law_60 : decode code 60 = .ok (.iconst 2, 1) := by decide +kernel
theorem dL_law_61 : decode code 61 = .ok (.iconst 1, 1) := by decide +kernel
theorem dL_law_62 : decode code 62 = .ok (.aload_n 0, 1) := by decide +kernel
theorem dL_law_63 : decode code 63 = .ok (.iconst 4, 1) := by decide +kernel
theorem dL_law_64 : decode code 64 = .ok (.bipush 9, 2) := by decide +kernel
theorem dL_law_66 : decode code 66 = .ok (.invokestatic 41, 3) := by decide +kernel
theorem dL_law_69 : decode code 69 = .ok (.iadd, 1) := by decide +kernel
theorem dL_law_70 : decode code 70 = .ok (.invokevirtual 48, 3) := by decide +kernel
theorem dL_law_73 : decode code 73 = .ok (.pop, 1) := by decide +kernel
theorem dL_law_74 : decode code 74 = .ok (.aload_n 1, 1) := by decide +kernel
theorem dL_law_75 : decode code 75 = .ok (.iconst 3, 1) := by decide +kernel
theorem dL_law_76 : decode code 76 = .ok (.iconst 1, 1) := by decide +kernel
theorem dL_law_77 : decode code 77 = .ok (.aload_n 0, 1) := by decide +kernel
theorem dL_law_78 : decode code 78 = .ok (.iconst 5, 1) := by decide +kernel
theorem dL_law_79 : decode code 79 = .ok (.bipush 6, 2) := by decide +kernel
theorem dL_law_81 : decode code 81 = .ok (.invokestatic 41, 3) := by decide +kernel
theorem dL_law_84 : decode code 84 = .ok (.iadd, 1) := by decide +kernel
theorem dL_law_85 : decode code 85 = .ok (.invokevirtual 48, 3) := by decide +kernel
theorem dL_law_88 : decode code 88 = .ok (.pop, 1) := by decide +kernel
theorem dL_law_89 : decode code 89 = .ok (.aload_n 1, 1) := by decide +kernel
theorem dL_law_90 : decode code 90 = .ok (.iconst 4, 1) := by decide +kernel
theorem dL_law_91 : decode code 91 = .ok (.iconst 1, 1) := by decide +kernel
theorem dL_law_92 : decode code 92 = .ok (.aload_n 0, 1) := by decide +kernel
theorem dL_law_93 : decode code 93 = .ok (.bipush 6, 2) := by decide +kernel
theorem dL_law_95 : decode code 95 = .ok (.bipush 9, 2) := by decide +kernel
theorem dL_law_97 : decode code 97 = .ok (.invokestatic 41, 3) := by decide +kernel
theorem dL_law_100 : decode code 100 = .ok (.iadd, 1) := by decide +kernel
theorem dL_law_101 : decode code 101 = .ok (.invokevirtual 48, 3) := by decide +kernel
theorem dL_law_104 : decode code 104 = .ok (.pop, 1) := by decide +kernel
theorem dL_law_105 : decode code 105 = .ok (.iconst 0, 1) := by decide +kernel
theorem dL_law_106 : decode code 106 = .ok (.istore_n 2, 1) := by decide +kernel
theorem dL_law_107 : decode code 107 = .ok (.iload_n 2, 1) := by decide +kernel
theorem dL_law_108 : decode code 108 = .ok (.bipush 26, 2) := by decide +kernel
theorem dL_law_110 : decode code 110 = .ok (.if_icmp .ge 278, 3) := by decide +kernel
theorem dL_law_113 : decode code 113 = .ok (.aload_n 0, 1) := by decide +kernel
theorem dL_law_114 : decode code 114 = .ok (.iconst 4, 1) := by decide +kernel
theorem dL_law_115 : decode code 115 = .ok (.iload_n 2, 1) := by decide +kernel
theorem dL_law_116 : decode code 116 = .ok (.imul, 1) := by decide +kernel
theorem dL_law_117 : decode code 117 = .ok (.bipush 7, 2) := by decide +kernel
theorem dL_law_119 : decode code 119 = .ok (.iadd, 1) := by decide +kernel
theorem dL_law_120 : decode code 120 = .ok (.bipush 8, 2) := by decide +kernel
theorem dL_law_122 : decode code 122 = .ok (.invokestatic 41, 3) := by decide +kernel
theorem dL_law_125 : decode code 125 = .ok (.istore_n 3, 1) := by decide +kernel
theorem dL_law_126 : decode code 126 = .ok (.aload_n 0, 1) := by decide +kernel
theorem dL_law_127 : decode code 127 = .ok (.iconst 4, 1) := by decide +kernel
theorem dL_law_128 : decode code 128 = .ok (.iload_n 2, 1) := by decide +kernel
theorem dL_law_129 : decode code 129 = .ok (.imul, 1) := by decide +kernel
theorem dL_law_130 : decode code 130 = .ok (.bipush 8, 2) := by decide +kernel
theorem dL_law_132 : decode code 132 = .ok (.iadd, 1) := by decide +kernel
theorem dL_law_133 : decode code 133 = .ok (.bipush 10, 2) := by decide +kernel
theorem dL_law_135 : decode code 135 = .ok (.invokestatic 41, 3) := by decide +kernel
theorem dL_law_138 : decode code 138 = .ok (.istore 4, 2) := by decide +kernel
theorem dL_law_140 : decode code 140 = .ok (.aload_n 1, 1) := by decide +kernel
theorem dL_law_141 : decode code 141 = .ok (.iload_n 3, 1) := by decide +kernel
theorem dL_law_142 : decode code 142 = .ok (.iconst 1, 1) := by decide +kernel
theorem dL_law_143 : decode code 143 = .ok (.invokevirtual 18, 3) := by decide +kernel
theorem dL_law_146 : decode code 146 = .ok (.istore 5, 2) := by decide +kernel
theorem dL_law_148 : decode code 148 = .ok (.aload_n 1, 1) := by decide +kernel
theorem dL_law_149 : decode code 149 = .ok (.iload_n 3, 1) := by decide +kernel
theorem dL_law_150 : decode code 150 = .ok (.iconst 0, 1) := by decide +kernel
theorem dL_law_151 : decode code 151 = .ok (.invokevirtual 18, 3) := by decide +kernel
theorem dL_law_154 : decode code 154 = .ok (.istore 6, 2) := by decide +kernel
theorem dL_law_156 : decode code 156 = .ok (.iload 4, 2) := by decide +kernel
theorem dL_law_158 : decode code 158 = .ok (.iconst 4, 1) := by decide +kernel
theorem dL_law_159 : decode code 159 = .ok (.if_icmp .ge 42, 3) := by decide +kernel
theorem dL_law_162 : decode code 162 = .ok (.iload 5, 2) := by decide +kernel
theorem dL_law_164 : decode code 164 = .ok (.iconst 1, 1) := by decide +kernel
theorem dL_law_165 : decode code 165 = .ok (.if_icmp .ne 8, 3) := by decide +kernel
theorem dL_law_168 : decode code 168 = .ok (.bipush (-5), 2) := by decide +kernel
theorem dL_law_170 : decode code 170 = .ok (.goto 14, 3) := by decide +kernel
theorem dL_law_173 : decode code 173 = .ok (.iload 6, 2) := by decide +kernel
theorem dL_law_175 : decode code 175 = .ok (.ifCond .ne 7, 3) := by decide +kernel
theorem dL_law_178 : decode code 178 = .ok (.iconst 1, 1) := by decide +kernel
theorem dL_law_179 : decode code 179 = .ok (.goto 5, 3) := by decide +kernel
theorem dL_law_182 : decode code 182 = .ok (.iload 6, 2) := by decide +kernel
theorem dL_law_184 : decode code 184 = .ok (.istore 7, 2) := by decide +kernel
theorem dL_law_186 : decode code 186 = .ok (.aload_n 1, 1) := by decide +kernel
theorem dL_law_187 : decode code 187 = .ok (.iload_n 3, 1) := by decide +kernel
theorem dL_law_188 : decode code 188 = .ok (.invokevirtual 51, 3) := by decide +kernel
theorem dL_law_191 : decode code 191 = .ok (.iload 7, 2) := by decide +kernel
theorem dL_law_193 : decode code 193 = .ok (.if_icmp .eq 5, 3) := by decide +kernel
theorem dL_law_196 : decode code 196 = .ok (.iconst 0, 1) := by decide +kernel
theorem dL_law_197 : decode code 197 = .ok (.ireturn, 1) := by decide +kernel
theorem dL_law_198 : decode code 198 = .ok (.goto 154, 3) := by decide +kernel
theorem dL_law_201 : decode code 201 = .ok (.iload 4, 2) := by decide +kernel
theorem dL_law_203 : decode code 203 = .ok (.bipush 6, 2) := by decide +kernel
theorem dL_law_205 : decode code 205 = .ok (.if_icmp .ge 59, 3) := by decide +kernel
theorem dL_law_208 : decode code 208 = .ok (.aload_n 1, 1) := by decide +kernel
theorem dL_law_209 : decode code 209 = .ok (.iload_n 3, 1) := by decide +kernel
theorem dL_law_210 : decode code 210 = .ok (.invokevirtual 54, 3) := by decide +kernel
theorem dL_law_213 : decode code 213 = .ok (.iload 5, 2) := by decide +kernel
theorem dL_law_215 : decode code 215 = .ok (.ifCond .ne 8, 3) := by decide +kernel
theorem dL_law_218 : decode code 218 = .ok (.bipush (-5), 2) := by decide +kernel
theorem dL_law_220 : decode code 220 = .ok (.goto 5, 3) := by decide +kernel
theorem dL_law_223 : decode code 223 = .ok (.iload 6, 2) := by decide +kernel
theorem dL_law_225 : decode code 225 = .ok (.if_icmp .ne 37, 3) := by decide +kernel
theorem dL_law_228 : decode code 228 = .ok (.iload 5, 2) := by decide +kernel
theorem dL_law_230 : decode code 230 = .ok (.iconst 1, 1) := by decide +kernel
theorem dL_law_231 : decode code 231 = .ok (.if_icmp .ne 121, 3) := by decide +kernel
theorem dL_law_234 : decode code 234 = .ok (.aload_n 1, 1) := by decide +kernel
theorem dL_law_235 : decode code 235 = .ok (.iload_n 3, 1) := by decide +kernel
theorem dL_law_236 : decode code 236 = .ok (.iconst 0, 1) := by decide +kernel
theorem dL_law_237 : decode code 237 = .ok (.invokevirtual 18, 3) := by decide +kernel
theorem dL_law_240 : decode code 240 = .ok (.iload 6, 2) := by decide +kernel
theorem dL_law_242 : decode code 242 = .ok (.iconst 5, 1) := by decide +kernel
theorem dL_law_243 : decode code 243 = .ok (.if_icmp .eq 10, 3) := by decide +kernel
theorem dL_law_246 : decode code 246 = .ok (.iload 6, 2) := by decide +kernel
theorem dL_law_248 : decode code 248 = .ok (.bipush 7, 2) := by decide +kernel
theorem dL_law_250 : decode code 250 = .ok (.if_icmp .ne 8, 3) := by decide +kernel
theorem dL_law_253 : decode code 253 = .ok (.iload 6, 2) := by decide +kernel
theorem dL_law_255 : decode code 255 = .ok (.goto 4, 3) := by decide +kernel
theorem dL_law_258 : decode code 258 = .ok (.iconst 0, 1) := by decide +kernel
theorem dL_law_259 : decode code 259 = .ok (.if_icmp .eq 93, 3) := by decide +kernel
theorem dL_law_262 : decode code 262 = .ok (.iconst 0, 1) := by decide +kernel
theorem dL_law_263 : decode code 263 = .ok (.ireturn, 1) := by decide +kernel
theorem dL_law_264 : decode code 264 = .ok (.iconst 0, 1) := by decide +kernel
theorem dL_law_265 : decode code 265 = .ok (.istore 7, 2) := by decide +kernel
theorem dL_law_267 : decode code 267 = .ok (.iload 7, 2) := by decide +kernel
theorem dL_law_269 : decode code 269 = .ok (.bipush 16, 2) := by decide +kernel
theorem dL_law_271 : decode code 271 = .ok (.if_icmp .ge 81, 3) := by decide +kernel
theorem dL_law_274 : decode code 274 = .ok (.aload_n 0, 1) := by decide +kernel
theorem dL_law_275 : decode code 275 = .ok (.iconst 4, 1) := by decide +kernel
theorem dL_law_276 : decode code 276 = .ok (.iload_n 2, 1) := by decide +kernel
theorem dL_law_277 : decode code 277 = .ok (.imul, 1) := by decide +kernel
theorem dL_law_278 : decode code 278 = .ok (.bipush 9, 2) := by decide +kernel
theorem dL_law_280 : decode code 280 = .ok (.iadd, 1) := by decide +kernel
theorem dL_law_281 : decode code 281 = .ok (.iload 7, 2) := by decide +kernel
theorem dL_law_283 : decode code 283 = .ok (.iadd, 1) := by decide +kernel
theorem dL_law_284 : decode code 284 = .ok (.bipush 16, 2) := by decide +kernel
theorem dL_law_286 : decode code 286 = .ok (.invokestatic 41, 3) := by decide +kernel
theorem dL_law_289 : decode code 289 = .ok (.istore 8, 2) := by decide +kernel
theorem dL_law_291 : decode code 291 = .ok (.aload_n 1, 1) := by decide +kernel
theorem dL_law_292 : decode code 292 = .ok (.iload 7, 2) := by decide +kernel
theorem dL_law_294 : decode code 294 = .ok (.iconst 0, 1) := by decide +kernel
theorem dL_law_295 : decode code 295 = .ok (.invokevirtual 18, 3) := by decide +kernel
theorem dL_law_298 : decode code 298 = .ok (.iconst 2, 1) := by decide +kernel
theorem dL_law_299 : decode code 299 = .ok (.if_icmp .ne 47, 3) := by decide +kernel
theorem dL_law_302 : decode code 302 = .ok (.aload_n 1, 1) := by decide +kernel
theorem dL_law_303 : decode code 303 = .ok (.iload 7, 2) := by decide +kernel
theorem dL_law_305 : decode code 305 = .ok (.iconst 4, 1) := by decide +kernel
theorem dL_law_306 : decode code 306 = .ok (.invokevirtual 18, 3) := by decide +kernel
theorem dL_law_309 : decode code 309 = .ok (.ifCond .ne 37, 3) := by decide +kernel
theorem dL_law_312 : decode code 312 = .ok (.aload_n 1, 1) := by decide +kernel
theorem dL_law_313 : decode code 313 = .ok (.iload 7, 2) := by decide +kernel
theorem dL_law_315 : decode code 315 = .ok (.iload 8, 2) := by decide +kernel
theorem dL_law_317 : decode code 317 = .ok (.iconst 4, 1) := by decide +kernel
theorem dL_law_318 : decode code 318 = .ok (.idiv, 1) := by decide +kernel
theorem dL_law_319 : decode code 319 = .ok (.iconst 1, 1) := by decide +kernel
theorem dL_law_320 : decode code 320 = .ok (.iadd, 1) := by decide +kernel
theorem dL_law_321 : decode code 321 = .ok (.invokevirtual 57, 3) := by decide +kernel
theorem dL_law_324 : decode code 324 = .ok (.iconst 1, 1) := by decide +kernel
theorem dL_law_325 : decode code 325 = .ok (.if_icmp .ne 19, 3) := by decide +kernel
theorem dL_law_328 : decode code 328 = .ok (.aload_n 1, 1) := by decide +kernel
theorem dL_law_329 : decode code 329 = .ok (.iload 7, 2) := by decide +kernel
theorem dL_law_331 : decode code 331 = .ok (.iload 8, 2) := by decide +kernel
theorem dL_law_333 : decode code 333 = .ok (.iconst 4, 1) := by decide +kernel
theorem dL_law_334 : decode code 334 = .ok (.irem, 1) := by decide +kernel
theorem dL_law_335 : decode code 335 = .ok (.iconst 1, 1) := by decide +kernel
theorem dL_law_336 : decode code 336 = .ok (.iadd, 1) := by decide +kernel
theorem dL_law_337 : decode code 337 = .ok (.invokevirtual 57, 3) := by decide +kernel
theorem dL_law_340 : decode code 340 = .ok (.iconst 2, 1) := by decide +kernel
theorem dL_law_341 : decode code 341 = .ok (.if_icmp .eq 5, 3) := by decide +kernel
theorem dL_law_344 : decode code 344 = .ok (.iconst 0, 1) := by decide +kernel
theorem dL_law_345 : decode code 345 = .ok (.ireturn, 1) := by decide +kernel
theorem dL_law_346 : decode code 346 = .ok (.iinc 7 1, 3) := by decide +kernel
theorem dL_law_349 : decode code 349 = .ok (.goto (-82), 3) := by decide +kernel
theorem dL_law_352 : decode code 352 = .ok (.aload_n 1, 1) := by decide +kernel
theorem dL_law_353 : decode code 353 = .ok (.invokestatic 36, 3) := by decide +kernel
theorem dL_law_356 : decode code 356 = .ok (.ifCond .eq 24, 3) := by decide +kernel
theorem dL_law_359 : decode code 359 = .ok (.aload_n 1, 1) := by decide +kernel
theorem dL_law_360 : decode code 360 = .ok (.iconst 1, 1) := by decide +kernel
theorem dL_law_361 : decode code 361 = .ok (.aload_n 0, 1) := by decide +kernel
theorem dL_law_362 : decode code 362 = .ok (.iconst 4, 1) := by decide +kernel
theorem dL_law_363 : decode code 363 = .ok (.iload_n 2, 1) := by decide +kernel
theorem dL_law_364 : decode code 364 = .ok (.imul, 1) := by decide +kernel
theorem dL_law_365 : decode code 365 = .ok (.bipush 10, 2) := by decide +kernel
theorem dL_law_367 : decode code 367 = .ok (.iadd, 1) := by decide +kernel
theorem dL_law_368 : decode code 368 = .ok (.bipush 7, 2) := by decide +kernel
theorem dL_law_370 : decode code 370 = .ok (.invokestatic 41, 3) := by decide +kernel
theorem dL_law_373 : decode code 373 = .ok (.iadd, 1) := by decide +kernel
theorem dL_law_374 : decode code 374 = .ok (.invokestatic 60, 3) := by decide +kernel
theorem dL_law_377 : decode code 377 = .ok (.ifCond .ne 5, 3) := by decide +kernel
theorem dL_law_380 : decode code 380 = .ok (.iconst 0, 1) := by decide +kernel
theorem dL_law_381 : decode code 381 = .ok (.ireturn, 1) := by decide +kernel
theorem dL_law_382 : decode code 382 = .ok (.iinc 2 1, 3) := by decide +kernel
theorem dL_law_385 : decode code 385 = .ok (.goto (-278), 3) := by decide +kernel
theorem dL_law_388 : decode code 388 = .ok (.aload_n 0, 1) := by decide +kernel
theorem dL_law_389 : decode code 389 = .ok (.bipush 120, 2) := by decide +kernel
theorem dL_law_391 : decode code 391 = .ok (.bipush 8, 2) := by decide +kernel
theorem dL_law_393 : decode code 393 = .ok (.invokestatic 41, 3) := by decide +kernel
theorem dL_law_396 : decode code 396 = .ok (.istore_n 2, 1) := by decide +kernel
theorem dL_law_397 : decode code 397 = .ok (.aload_n 0, 1) := by decide +kernel
theorem dL_law_398 : decode code 398 = .ok (.bipush 121, 2) := by decide +kernel
theorem dL_law_400 : decode code 400 = .ok (.bipush 12, 2) := by decide +kernel
theorem dL_law_402 : decode code 402 = .ok (.invokestatic 41, 3) := by decide +kernel
theorem dL_law_405 : decode code 405 = .ok (.istore_n 3, 1) := by decide +kernel
theorem dL_law_406 : decode code 406 = .ok (.aload_n 1, 1) := by decide +kernel
theorem dL_law_407 : decode code 407 = .ok (.iload_n 2, 1) := by decide +kernel
theorem dL_law_408 : decode code 408 = .ok (.iload_n 3, 1) := by decide +kernel
theorem dL_law_409 : decode code 409 = .ok (.bipush 60, 2) := by decide +kernel
theorem dL_law_411 : decode code 411 = .ok (.invokevirtual 64, 3) := by decide +kernel
theorem dL_law_414 : decode code 414 = .ok (.istore 4, 2) := by decide +kernel
theorem dL_law_416 : decode code 416 = .ok (.aload_n 1, 1) := by decide +kernel
theorem dL_law_417 : decode code 417 = .ok (.iconst 1, 1) := by decide +kernel
theorem dL_law_418 : decode code 418 = .ok (.invokevirtual 68, 3) := by decide +kernel
theorem dL_law_421 : decode code 421 = .ok (.pop, 1) := by decide +kernel
theorem dL_law_422 : decode code 422 = .ok (.iconst 0, 1) := by decide +kernel
theorem dL_law_423 : decode code 423 = .ok (.istore 5, 2) := by decide +kernel
theorem dL_law_425 : decode code 425 = .ok (.iload 5, 2) := by decide +kernel
theorem dL_law_427 : decode code 427 = .ok (.bipush 60, 2) := by decide +kernel
theorem dL_law_429 : decode code 429 = .ok (.if_icmp .gt 88, 3) := by decide +kernel
theorem dL_law_432 : decode code 432 = .ok (.aload_n 1, 1) := by decide +kernel
theorem dL_law_433 : decode code 433 = .ok (.iload_n 2, 1) := by decide +kernel
theorem dL_law_434 : decode code 434 = .ok (.iconst 0, 1) := by decide +kernel
theorem dL_law_435 : decode code 435 = .ok (.invokevirtual 18, 3) := by decide +kernel
theorem dL_law_438 : decode code 438 = .ok (.iload_n 3, 1) := by decide +kernel
theorem dL_law_439 : decode code 439 = .ok (.if_icmp .eq 10, 3) := by decide +kernel
theorem dL_law_442 : decode code 442 = .ok (.iload 5, 2) := by decide +kernel
theorem dL_law_444 : decode code 444 = .ok (.bipush 60, 2) := by decide +kernel
theorem dL_law_446 : decode code 446 = .ok (.if_icmp .ne 59, 3) := by decide +kernel
theorem dL_law_449 : decode code 449 = .ok (.iload 4, 2) := by decide +kernel
theorem dL_law_451 : decode code 451 = .ok (.aload_n 1, 1) := by decide +kernel
theorem dL_law_452 : decode code 452 = .ok (.iload_n 2, 1) := by decide +kernel
theorem dL_law_453 : decode code 453 = .ok (.iconst 0, 1) := by decide +kernel
theorem dL_law_454 : decode code 454 = .ok (.invokevirtual 18, 3) := by decide +kernel
theorem dL_law_457 : decode code 457 = .ok (.iload_n 3, 1) := by decide +kernel
theorem dL_law_458 : decode code 458 = .ok (.if_icmp .ne 8, 3) := by decide +kernel
theorem dL_law_461 : decode code 461 = .ok (.iload 5, 2) := by decide +kernel
theorem dL_law_463 : decode code 463 = .ok (.goto 5, 3) := by decide +kernel
theorem dL_law_466 : decode code 466 = .ok (.bipush (-6), 2) := by decide +kernel
theorem dL_law_468 : decode code 468 = .ok (.if_icmp .ne 35, 3) := by decide +kernel
theorem dL_law_471 : decode code 471 = .ok (.aload_n 1, 1) := by decide +kernel
theorem dL_law_472 : decode code 472 = .ok (.iconst 1, 1) := by decide +kernel
theorem dL_law_473 : decode code 473 = .ok (.invokevirtual 71, 3) := by decide +kernel
theorem dL_law_476 : decode code 476 = .ok (.ifCond .lt 27, 3) := by decide +kernel
theorem dL_law_479 : decode code 479 = .ok (.aload_n 1, 1) := by decide +kernel
theorem dL_law_480 : decode code 480 = .ok (.invokestatic 36, 3) := by decide +kernel
theorem dL_law_483 : decode code 483 = .ok (.ifCond .eq 20, 3) := by decide +kernel
theorem dL_law_486 : decode code 486 = .ok (.aload_n 1, 1) := by decide +kernel
theorem dL_law_487 : decode code 487 = .ok (.iload_n 2, 1) := by decide +kernel
theorem dL_law_488 : decode code 488 = .ok (.iload_n 3, 1) := by decide +kernel
theorem dL_law_489 : decode code 489 = .ok (.bipush 60, 2) := by decide +kernel
theorem dL_law_491 : decode code 491 = .ok (.invokevirtual 64, 3) := by decide +kernel
theorem dL_law_494 : decode code 494 = .ok (.iload 4, 2) := by decide +kernel
theorem dL_law_496 : decode code 496 = .ok (.if_icmp .ne 7, 3) := by decide +kernel
theorem dL_law_499 : decode code 499 = .ok (.iconst 1, 1) := by decide +kernel
theorem dL_law_500 : decode code 500 = .ok (.goto 4, 3) := by decide +kernel
theorem dL_law_503 : decode code 503 = .ok (.iconst 0, 1) := by decide +kernel
theorem dL_law_504 : decode code 504 = .ok (.ireturn, 1) := by decide +kernel
theorem dL_law_505 : decode code 505 = .ok (.aload_n 1, 1) := by decide +kernel
theorem dL_law_506 : decode code 506 = .ok (.iconst 1, 1) := by decide +kernel
theorem dL_law_507 : decode code 507 = .ok (.invokevirtual 33, 3) := by decide +kernel
theorem dL_law_510 : decode code 510 = .ok (.pop, 1) := by decide +kernel
theorem dL_law_511 : decode code 511 = .ok (.iinc 5 1, 3) := by decide +kernel
theorem dL_law_514 : decode code 514 = .ok (.goto (-89), 3) := by decide +kernel
theorem dL_law_517 : decode code 517 = .ok (.iconst 0, 1) := by decide +kernel
theorem dL_law_518 : decode code 518 = .ok (.ireturn, 1) := by decide +kernel
end
section
-- ===== the world: cells at addresses, each with a row of ints; where they lie is the layout =====
abbrev CS : Type := Nat → Int32
abbrev ES : Type := Nat → CS
abbrev LY : Type := Nat → Option (CS → va_E)
/-- the ids of classes and slots; of int[], boolean[], Exchange[], Finder[], Line[]; the heap at the law's start -/
abbrev GG : Type := va_G × (ClassId × ClassId × ClassId × ClassId × ClassId) × Heap
def gI (g : GG) : ClassId := g.2.1.1
def gZ (g : GG) : ClassId := g.2.1.2.1
def gX (g : GG) : ClassId := g.2.1.2.2.1
def gF (g : GG) : ClassId := g.2.1.2.2.2.1
def gL (g : GG) : ClassId := g.2.1.2.2.2.2
def gH (g : GG) : Heap := g.2.2
def Ab (g : GG) : Nat → Prop := fun q => (gH g).size ≤ q
def tyG (g : GG) : List (ClassId × FieldType) := [(gI g, .int), (gI g, .int), (gX g, .object RX0), (gF g, .object RX1), (gL g, .object RX2)]
def nestOK (U : State) : Prop := va_Nw (.methodLinkNest RX0 23 yX2_init RX4) U ∧ va_Nw (.methodLinkNest RX0 28 yX1_init RX4) U ∧ va_Nw (.methodLinkNest RX4 25 yX3_init RX4) U ∧ True ∧ va_Nw (.fieldLinkNest RX0 33 RX4 "FIRST_SETTINGS" "[I" RX4) U ∧ va_Nw (.castable "[I" "java/lang/Cloneable") U ∧ va_AO RX0 U ∧ va_AO RX1 U ∧ va_AO RX2 U
/-- a row of ints of the old heap -/
def oldA (g : GG) (t n : Nat) (f : CS) : Prop := ∃ cell : Cell, (gH g)[t]? = some cell ∧ cell.cls = gI g ∧ cell.slots = (vp_cell (gI g) (n, .inl f)).slots ∧ cell.vm ≠ .unknown ∧ ∀ k, cell.vm ≠ .statics k
/-- the two static rows of the class -/
def stOK (g : GG) (U : State) : Prop := ∃ t0 t1 : Nat, va_Z RX4 "FIRST_SETTINGS" "[I" (.ref t0) (Ab g) U (gH g) ∧ va_Z RX4 "MOST_SETTINGS" "[I" (.ref t1) (Ab g) U (gH g) ∧ (∃ f : CS, oldA g t0 5 f ∧ f 0 = 20 ∧ f 1 = 40 ∧ f 2 = 30 ∧ f 3 = 10 ∧ f 4 = 15) ∧ (∃ f : CS, oldA g t1 5 f ∧ f 0 = 200 ∧ f 1 = 200 ∧ f 2 = 100 ∧ f 3 = 100 ∧ f 4 = 200)
def KK (g : GG) (U : State) : Prop := va_K g.1 vwCl (tyG g) U ∧ nestOK U ∧ stOK g U
theorem nestOK_warm {s U : State} (hW : s.WarmedH U.vm) (h : nestOK s) : nestOK U := ⟨h.1.warmM hW, h.2.1.warmM hW, h.2.2.1.warmM hW, trivial, h.2.2.2.2.1.warmF hW, h.2.2.2.2.2.1.warmC hW, h.2.2.2.2.2.2.1.moved hW.alike, h.2.2.2.2.2.2.2.1.moved hW.alike, h.2.2.2.2.2.2.2.2.moved hW.alike⟩
theorem nestOK_same {u U : State} (hv : u.vm = U.vm) (h : nestOK u) : nestOK U := ⟨h.1.same rfl hv, h.2.1.same rfl hv, h.2.2.1.same rfl hv, trivial, h.2.2.2.2.1.same rfl hv, h.2.2.2.2.2.1.same rfl hv, h.2.2.2.2.2.2.1.moved (by rw [hv]; exact Vm.Alike.refl _), h.2.2.2.2.2.2.2.1.moved (by rw [hv]; exact Vm.Alike.refl _), h.2.2.2.2.2.2.2.2.moved (by rw [hv]; exact Vm.Alike.refl _)⟩
theorem stOK_moved {g : GG} {u U : State} (hvm : u.vm.Alike U.vm) (h : stOK g u) : stOK g U := by
  obtain ⟨t0, t1, h0, h1, h2⟩ := h
  exact ⟨t0, t1, h0.moved hvm, h1.moved hvm, h2⟩
theorem KK_warm {g : GG} {s U : State} (hW : s.WarmedH U.vm) (h : KK g s) : KK g U := ⟨h.1.moved hW.alike, nestOK_warm hW h.2.1, stOK_moved hW.alike h.2.2⟩
theorem KK_same {g : GG} {u U : State} (hv : u.vm = U.vm) (h : KK g u) : KK g U := by
  have ha : u.vm.Alike U.vm := by rw [hv]; exact Vm.Alike.refl _
  exact ⟨h.1.moved ha, nestOK_same hv h.2.1, stOK_moved ha h.2.2⟩
def Wd (g : GG) (lay : LY) (E : ES) (H : Heap) : Prop := (∀ (a : Nat) (f : CS → va_E), lay a = some f → va_at g.1 vwCl (a, f (E a)) H) ∧ ∀ q : Nat, q < (gH g).size → H[q]? = (gH g)[q]?
def okL (g : GG) (lay : LY) : Prop := ∀ (a : Nat) (f : CS → va_E), lay a = some f → (gH g).size ≤ a
/-- a world that differs in cells that the layout doesn't name -/
theorem Wd.eqOn {g : GG} {lay : LY} {E E' : ES} {H : Heap} (h : Wd g lay E H) (he : ∀ a f, lay a = some f → E a = E' a) : Wd g lay E' H := ⟨fun a f hf => by rw [← he a f hf]; exact h.1 a f hf, h.2⟩
-- one cell set; a block of n cells laid at o
theorem vuS {α : Type} (f : Nat → α) (k : Nat) (v : α) : va_up f k v k = v := by simp [va_up]
theorem vuN {α : Type} {f : Nat → α} {k j : Nat} {v : α} (h : j ≠ k) : va_up f k v j = f j := by simp [va_up, h]
theorem vuU {α : Type} (f : Nat → α) (k : Nat) (v w : α) : va_up (va_up f k v) k w = va_up f k w := by
  funext j; by_cases h : j = k <;> simp [va_up, h]
theorem vuSelf {α : Type} (f : Nat → α) (k : Nat) : va_up f k (f k) = f := by
  funext j; by_cases h : j = k <;> simp [va_up, h]
def put (n o : Nat) (X E : ES) : ES := fun a => if o ≤ a ∧ a < o + n then X (a - o) else E a
def vw (o : Nat) (E : ES) : ES := fun k => E (o + k)
theorem putAt {n o k : Nat} {X E : ES} (h : k < n) : put n o X E (o + k) = X k := by
  have h1 : o ≤ o + k ∧ o + k < o + n := ⟨by omega, by omega⟩
  simp [put, h]
theorem putOff {n o a : Nat} {X E : ES} (h : a < o ∨ o + n ≤ a) : put n o X E a = E a := by
  have h1 : ¬ (o ≤ a ∧ a < o + n) := by omega
  simp [put, h1]
theorem putVw (n o : Nat) (E : ES) : put n o (vw o E) E = E := by
  funext a
  by_cases h : o ≤ a ∧ a < o + n
  · simp [put, h, vw]
  · simp [put, h]
theorem vwPut {n o : Nat} {X E : ES} {k : Nat} (h : k < n) : vw o (put n o X E) k = X k := putAt h
theorem putPut (n o : Nat) (X Y E : ES) : put n o X (put n o Y E) = put n o X E := by
  funext a
  by_cases h : o ≤ a ∧ a < o + n <;> simp [put, h]
theorem putUp {n o k : Nat} {X E : ES} {L : CS} (h : k < n) : va_up (put n o X E) (o + k) L = put n o (va_up X k L) E := by
  funext a
  by_cases e : a = o + k
  · subst e
    rw [vuS, putAt h, vuS]
  · rw [vuN e]
    by_cases h1 : o ≤ a ∧ a < o + n
    · have h2 : a - o ≠ k := by omega
      simp [put, h1, vuN h2]
    · simp [put, h1]
-- the kinds of cells
def lineE (L : CS) : va_E := .inr (2, [.int (L 0), .int (L 1), .int (L 2), .int (L 3), .int (L 4), .int (L 5), .int (L 6), .int (L 7), .int (L 8)])
def finE (L : CS) : va_E := .inr (1, [.int (L 0), .int (L 1), .int (L 2), .int (L 3), .int (L 4), .int (L 5), .int (L 6), .int (L 7), .int (L 8), .int (L 9)])
def exE (o : Nat) (L : CS) : va_E := .inr (0, [.ref (o + 1), .ref (o + 2), .ref (o + 3), .ref (o + 4), .ref (o + 5), .int (L 5), .int (L 6), .int (L 7), .int (L 8), .int (L 9), .int (L 10), .int (L 11), .int (L 12), .int (L 13), .int (L 14), .int (L 15)])
def arI (g : GG) (n : Nat) (L : CS) : va_E := .inl (gI g, n, .inl L)
def arZ (g : GG) (n : Nat) (L : CS) : va_E := .inl (gZ g, n, .inl L)
def arQ (cA : ClassId) (n : Nat) (f : Nat → Option Nat) (_ : CS) : va_E := .inl (cA, n, .inr (.inr (.inr (.inr f))))
def padE (o : Nat) (L : CS) : va_E := .inr (3, [.ref (o + 1), .int (L 1)])
def rotE (o : Nat) (_ : CS) : va_E := .inr (4, [.ref (o + 1), .ref (o + 27), .ref (o + 53), .ref (o + 54)])
def isLi (k : Nat) : Prop := k = 3 ∨ (6 ≤ k ∧ k < 22)
def isFi (k : Nat) : Prop := k = 4 ∨ (22 ≤ k ∧ k < 26)
def lix (n : Int32) : Nat := if n < 0 ∨ 16 ≤ n then 3 else 6 + n.toNatClampNeg
def fix (n : Int32) : Nat := if n < 0 ∨ 4 ≤ n then 4 else 22 + n.toNatClampNeg
theorem isLi_lt {k : Nat} (h : isLi k) : k < 26 := by rcases h with rfl | h <;> omega
theorem isFi_lt {k : Nat} (h : isFi k) : k < 26 := by rcases h with rfl | h <;> omega
/-- what the layout has of an exchange at o -/
def XL (g : GG) (lay : LY) (o : Nat) : Prop := lay o = some (exE o) ∧ lay (o + 1) = some (arQ (gL g) 16 (fun j => some (o + (6 + j)))) ∧ lay (o + 2) = some (arQ (gF g) 4 (fun j => some (o + (22 + j)))) ∧ lay (o + 5) = some (arI g 5) ∧ (∀ k, isLi k → lay (o + k) = some lineE) ∧ ∀ k, isFi k → lay (o + k) = some finE
def PL (g : GG) (lay : LY) (o : Nat) : Prop := lay o = some (padE o) ∧ lay (o + 1) = some (arI g 60)
/-- the whole component at o: the object, two exchanges, the row of the slots, the pad -/
def RL4 (g : GG) (lay : LY) (o : Nat) (sv : Nat → Option Nat) : Prop := lay o = some (rotE o) ∧ XL g lay (o + 1) ∧ XL g lay (o + 27) ∧ lay (o + 53) = some (arQ (gX g) 2 sv) ∧ PL g lay (o + 54)
-- the judgements of a method
def JMi (l : Launch) (g : GG) (lay : LY) (y : MethodName) (ws : List Cond) (rm : Room) (av : List Value) (E : ES) (Φ : Int32 → ES → Prop) : Prop :=
  Met l y ws rm (va_Pc av (fun U => KK g U ∧ Wd g lay E U.heap)) (va_Qi Φ (fun E' t => Wd g lay E' t.heap) (Ab g)) 0 0 (Ab g)
def JMv (l : Launch) (g : GG) (lay : LY) (y : MethodName) (ws : List Cond) (rm : Room) (av : List Value) (E : ES) (Φ : ES → Prop) : Prop :=
  Met l y ws rm (va_Pc av (fun U => KK g U ∧ Wd g lay E U.heap)) (va_Qv Φ (fun E' t => Wd g lay E' t.heap) (Ab g)) 0 0 (Ab g)
def JMr (l : Launch) (g : GG) (lay : LY) (y : MethodName) (ws : List Cond) (rm : Room) (av : List Value) (E : ES) (Φ : Nat → ES → Prop) : Prop :=
  Met l y ws rm (va_Pc av (fun U => KK g U ∧ Wd g lay E U.heap)) (va_Qr (S := ES) (fun _ => True) (fun E' a t => Φ a E' ∧ Wd g lay E' t.heap) (Ab g)) 0 0 (Ab g)
theorem blindW {g : GG} {lay : LY} {E : ES} {av : List Value} : FrameBlind (va_Pc av (fun U => KK g U ∧ Wd g lay E U.heap)) := fun _ _ _ _ q => ⟨q.1, KK_same rfl q.2.1, q.2.2⟩
/-- the words of a method: its code, and the tables' good ones -/
theorem gd_of {c0 : Cond} {args : Array Value} {s : State} (h : ∀ w ∈ (c0 :: lw_gd), w.before args s = true) : ∀ w ∈ lw_gd, w.before args s = true := fun w hw => h w (List.mem_cons_of_mem _ hw)
theorem gd_GI {c0 : Cond} (h0 : c0 ∈ lw_gd) : GoodIn lw_gd (c0 :: lw_gd) := fun w hw => by
  rcases List.mem_cons.mp hw with rfl | h
  · exact ⟨h0, good_of_word (gd_good _ h0)⟩
  · exact ⟨h, good_of_word (gd_good _ h)⟩
theorem gd_GV {own C : String} {idx : Nat} {y : MethodName} {c0 : Cond} (h1 : Cond.methodLink own idx y ∈ lw_gd) (h2 : Cond.instanceMethod y ∈ lw_gd) (h3 : Cond.selects C y y ∈ lw_gd) (h4 : Cond.initialized C ∈ lw_gd) (h0 : c0 ∈ lw_gd) : GoodIn lw_gd (wsV own idx C y (c0 :: lw_gd)) := fun w hw => by
  have h : w ∈ lw_gd := by
    simp only [wsV, List.cons_append, List.nil_append, List.mem_cons] at hw
    rcases hw with rfl | rfl | rfl | rfl | rfl | h
    · exact h1
    · exact h2
    · exact h3
    · exact h4
    · exact h0
    · exact h
  exact ⟨h, good_of_word (gd_good _ h)⟩
theorem gd_GS {own : String} {idx : Nat} {y : MethodName} {c0 : Cond} (h1 : Cond.methodLink own idx y ∈ lw_gd) (h2 : Cond.static y ∈ lw_gd) (h4 : Cond.initialized own ∈ lw_gd) (h0 : c0 ∈ lw_gd) : GoodIn lw_gd (wsS own idx y (c0 :: lw_gd)) := fun w hw => by
  have h : w ∈ lw_gd := by
    simp only [wsS, List.cons_append, List.nil_append, List.mem_cons] at hw
    rcases hw with rfl | rfl | rfl | rfl | h
    · exact h1
    · exact h2
    · exact h4
    · exact h0
    · exact h
  exact ⟨h, good_of_word (gd_good _ h)⟩
section WR
variable {p : Program} {l : Launch} {e : Env} {R : Room} {s : State} {m : MethodId} {args : Array Value} {below : List Frame} {meth : Method} {c : Code} {H : Heap} {locs : List Loc} {cells slots : Nat} {Q : State → Prop}
variable {cc : ByteArray} {pc : Nat} {ls : Array Slot} {rest st : List Value} {g : GG} {lay : LY} {E E1 : ES} {H0 : Heap} {a : Nat} {f : CS → va_E} {L : CS}
theorem Wd.at {a : Nat} {f : CS → va_E} {L : CS} (hW : Wd g lay E H) (hla : lay a = some f) (hL : E a = L) : va_at g.1 vwCl (a, f L) H := by
  rw [← hL]; exact hW.1 a f hla
theorem Wd.one {a : Nat} {f : CS → va_E} {L : CS} {e : va_E} (hW : Wd g lay E H) (hla : lay a = some f) (hL : E a = L) (he : f L = e) : va_P g.1 vwCl [(a, e)] H := by
  intro k q hk
  have hz : k < 1 := (List.getElem?_eq_some_iff.mp hk).1
  rw [show k = 0 by omega] at hk
  cases hk
  rw [← he]; exact hW.at hla hL
/-- one cell of the world written -/
theorem Wd.set {H1 : Heap} {L1 : CS} (hW : Wd g lay E H) (hge : okL g lay) (hla : lay a = some f) (h1 : va_at g.1 vwCl (a, f L1) H1) (oq : ∀ q : Nat, q ≠ a → H1[q]? = H[q]?) (hE : va_up E a L1 = E1) : Wd g lay E1 H1 := by
  refine ⟨fun a2 f2 h2 => ?_, fun q hq => ?_⟩
  · by_cases e : a2 = a
    · subst e
      cases hla.symm.trans h2
      rw [← hE, vuS]
      exact h1
    · rw [← hE, vuN e]
      exact (hW.1 a2 f2 h2).kept (oq a2 e)
  · rw [oq q (fun e => by have := hge a f hla; omega)]
    exact hW.2 q hq
theorem vaS_put {H1 : Heap} {i : Nat} (hS : va_S (Ab g) H0 H locs) (hge : okL g lay) (hla : lay a = some f) (z : H1.size = H.size) (oq : ∀ q : Nat, q ≠ a → H1[q]? = H[q]?) : va_S (Ab g) H0 H1 (locs ++ [⟨a, i⟩]) := by
  refine ⟨by rw [z]; exact hS.1, fun q h1 h2 => ?_, fun q hq => ?_⟩
  · rw [oq q (fun e => h2 (by rw [e]; exact hge a f hla))]
    exact hS.2.1 q h1 h2
  · rcases List.mem_append.mp hq with h | h
    · exact hS.2.2 q h
    · rw [List.mem_singleton.mp h]
      exact hge a f hla
theorem w_get (hx : p.tables.exec = Jvm.exec) (hb : c.code = cc) {own C : String} {T : u_T} {N ci index j : Nat} (hown : s.vm.findClass own = some m.cls) (hts : ∀ w ∈ lw_gd, w.before args s = true) (hK : KK g s) (hW : Wd g lay E H) (hla : lay a = some f) (hL : E a = L) {fs : List Value} {v : Value} (hfe : f L = .inr (ci, fs)) (hv : fs[j]? = some v) (hc : vwCl[ci]? = some (C, T, N)) (hj : j < N) (hin : ∀ w ∈ u_ws C T N, w ∈ lw_gd) (hlk : Cond.fieldLink own index C (T j).2.1 (T j).2.2.1 ∈ lw_gd) (hsame : (T j).1 = C) (hdg : decode cc pc = .ok (.getfield index, 3))
    (kk : W p l e R s m args below meth c H locs cells slots Q (F0 m (pc + 3) ls (v :: rest))) : W p l e R s m args below meth c H locs cells slots Q (F0 m pc ls (.ref a :: rest)) :=
  va_get (D := g.1) hx hb hts hin hown hK.1 (hW.one hla hL hfe) 0 rfl hc j hj (hts _ hlk) (by rw [hsame]; exact fun _ h => h) hv hdg kk
theorem w_put (hx : p.tables.exec = Jvm.exec) (hb : c.code = cc) {own C : String} {T : u_T} {N ci index j : Nat} (hown : s.vm.findClass own = some m.cls) (hts : ∀ w ∈ lw_gd, w.before args s = true) (hK : KK g s) (hge : okL g lay) (hW : Wd g lay E H) (hS : va_S (Ab g) H0 H locs) (hla : lay a = some f) (hL : E a = L) {fs : List Value} {x : Int32} (hfe : f L = .inr (ci, fs)) (hfe2 : f (upd L j x) = .inr (ci, fs.set j (.int x))) (hl : j < fs.length) (hc : vwCl[ci]? = some (C, T, N)) (hj : j < N) (hin : ∀ w ∈ u_ws C T N, w ∈ lw_gd) (ty0 : Nat → FieldType) (hty : ∀ k, k < N → parseFieldDescriptor (T k).2.2.1 = some (ty0 k)) (hnm : ∀ a, a < N → ∀ b, b < N → a ≠ b → (T a).2.1 ≠ (T b).2.1) (hlk : Cond.fieldLink own index C (T j).2.1 (T j).2.2.1 ∈ lw_gd) (hsame : (T j).1 = C) (hfin : (T j).2.2.2 = false) {ty : FieldType} (hd : parseFieldDescriptor (T j).2.2.1 = some ty) (hn : narrow ty (.int x) = .int x) (hfit : fits ty (.int x) = true) (hdg : decode cc pc = .ok (.putfield index, 3)) (hE : va_up E a (upd L j x) = E1)
    (kk : ∀ (H1 : Heap) (locs1 : List Loc), Wd g lay E1 H1 → va_S (Ab g) H0 H1 locs1 → W p l e R s m args below meth c H1 locs1 cells slots Q (F0 m (pc + 3) ls rest)) : W p l e R s m args below meth c H locs cells slots Q (F0 m pc ls (.int x :: .ref a :: rest)) := by
  have hap := va_apart (own := own) hts hin ty0 hty hnm hK.1 hc
  obtain ⟨r, h1, cell, q1, q2, q3, q4⟩ := (hW.one hla hL hfe) 0 _ rfl
  have hr : r = (C, T, N) := Option.some.inj (h1.symm.trans hc)
  subst hr
  obtain ⟨hSl, hfc, kC, hkC, hkind⟩ := hK.1.1 ci _ hc
  obtain ⟨cf, kf, fi, fd, hi, hsl⟩ := hSl j hj
  have hlay := hts _ (hin _ (u_in_lay hj))
  unfold u_lay at hlay
  rw [if_neg (by rw [hfin]; decide)] at hlay
  have hst := (u_facts hfc hkC (u_lays hts hin hj) hi).1
  have h6 := u_store hfc hkC hkind hlay hi hd hn hfit
  refine W.putK hx hb (f := fd) ⟨hown, hts _ hlk, ⟨_, _, _, by rw [hsame] at hi; exact hi⟩, hst⟩ (by rw [q2]; exact h6) q1 q3 (by rw [hsl]; exact k2_hasslot (q4 j hj)) rfl rfl hdg fun H' e1 e2 e3 => ?_
  rw [hsl] at e1 ⊢
  refine kk H' _ (hW.set hge hla ?_ e3 hE) (vaS_put hS hge hla e2 e3)
  rw [hfe2]
  exact ⟨_, hc, t_OB.to (V := updV (vp_V fs) j (.int x)) ⟨_, e1, q2, q3, t_set q4 hap hj (.int x)⟩ (fun i _ => vp_updV_set hl (.int x) i)⟩
theorem w_iald (hx : p.tables.exec = Jvm.exec) (hb : c.code = cc) (hK : KK g s) (hW : Wd g lay E H) {n : Nat} (hla : lay a = some (arI g n)) (hL : E a = L) {i : Int32} (hin : vp_in i n) (hdg : decode cc pc = .ok (.iaload, 1))
    (kk : W p l e R s m args below meth c H locs cells slots Q (F0 m (pc + 1) ls (.int (L i.toNatClampNeg) :: rest))) : W p l e R s m args below meth c H locs cells slots Q (F0 m pc ls (.int i :: .ref a :: rest)) :=
  va_iald (D := g.1) hx hb hK.1 (hW.one hla hL rfl) 0 0 rfl rfl hin hdg kk
theorem w_aldq (hx : p.tables.exec = Jvm.exec) (hb : c.code = cc) (hK : KK g s) (hW : Wd g lay E H) {n : Nat} {cA : ClassId} {C : String} {q : Nat → Option Nat} (t0 : Nat) (ht : (tyG g)[t0]? = some (cA, .object C)) (hla : lay a = some (arQ cA n q)) {i : Int32} (hin : vp_in i n) (hdg : decode cc pc = .ok (.aaload, 1))
    (kk : W p l e R s m args below meth c H locs cells slots Q (F0 m (pc + 1) ls (va_rf (q i.toNatClampNeg) :: rest))) : W p l e R s m args below meth c H locs cells slots Q (F0 m pc ls (.int i :: .ref a :: rest)) :=
  va_aldq (D := g.1) hx hb hK.1 (hW.one hla rfl rfl) 0 t0 rfl ht hin hdg kk
theorem w_alen (hx : p.tables.exec = Jvm.exec) (hb : c.code = cc) (hK : KK g s) (hW : Wd g lay E H) {cA : ClassId} {z : vp_A} {ty : FieldType} (t0 : Nat) (ht : (tyG g)[t0]? = some (cA, ty)) (hla : lay a = some f) (hL : E a = L) (hfe : f L = .inl (cA, z)) {v : Int32} (hv : Int32.ofNat z.1 = v) (hdg : decode cc pc = .ok (.arraylength, 1))
    (kk : W p l e R s m args below meth c H locs cells slots Q (F0 m (pc + 1) ls (.int v :: rest))) : W p l e R s m args below meth c H locs cells slots Q (F0 m pc ls (.ref a :: rest)) :=
  va_alen (D := g.1) hx hb hK.1 (hW.one hla hL hfe) 0 t0 rfl ht hv hdg kk
theorem w_iast (hx : p.tables.exec = Jvm.exec) (hb : c.code = cc) (hK : KK g s) (hge : okL g lay) (hW : Wd g lay E H) (hS : va_S (Ab g) H0 H locs) {n : Nat} (hla : lay a = some (arI g n)) (hL : E a = L) {i x : Int32} (hin : vp_in i n) (hdg : decode cc pc = .ok (.iastore, 1)) (hE : va_up E a (upd L i.toNatClampNeg x) = E1)
    (kk : ∀ (H1 : Heap) (locs1 : List Loc), Wd g lay E1 H1 → va_S (Ab g) H0 H1 locs1 → W p l e R s m args below meth c H1 locs1 cells slots Q (F0 m (pc + 1) ls rest)) : W p l e R s m args below meth c H locs cells slots Q (F0 m pc ls (.int x :: .int i :: .ref a :: rest)) := by
  refine W.iast hx hb ((hW.one hla hL rfl) 0 _ rfl) ((hK.1.2 0 _ rfl).1 n (fun j => .int (L j))) (fun q => by cases q) (by show ¬ (i < 0 ∨ (arrV _ _ _).slots.size ≤ _); rw [arrV_size]; exact hin) rfl rfl hdg fun H1 e z oq => ?_
  refine kk H1 _ (hW.set hge hla ?_ oq hE) (vaS_put hS hge hla z oq)
  show H1[a]? = some (vp_cell _ _)
  rw [e]
  rw [vp_cell_i, vp_cell_i, arrV_store]
  congr 2
  funext q
  by_cases hq : q = i.toNatClampNeg
  · subst hq
    simp [updV, upd]
  · simp [updV, upd, hq]
theorem w_recv {C : String} {T : u_T} {N ci : Nat} {fs : List Value} (hK : KK g s) (hW : Wd g lay E H) (hla : lay a = some f) (hL : E a = L) (hfe : f L = .inr (ci, fs)) (hc : vwCl[ci]? = some (C, T, N)) : ∃ cellB : Cell, H[a]? = some cellB ∧ cellB.vm.isStatics = false ∧ s.vm.findClass C = some cellB.cls :=
  va_recv hK.1 (hW.one hla hL hfe) (q := (C, T, N)) hc (q0 := 0) rfl
variable {y : MethodName} {bytes : ByteArray} {maxL nL n index : Nat} {ret : Option FieldType} {rm : Room} {own C : String} {As : List Value} {ws : List Cond}
theorem w_cvi (hx : p.tables.exec = Jvm.exec) (hb : c.code = cc) (hml : c.maxLocals = nL) (hown : s.vm.findClass own = some m.cls) (hts : ∀ w ∈ lw_gd, w.before args s = true) (hK : KK g s) (hW : Wd g lay E H) (hS : va_S (Ab g) H0 H locs) (hls : ls.size = nL) {Φ : Int32 → ES → Prop} (hM : JMi l g lay y ws rm (.ref a :: As) E Φ) (cw : CallW R s args own C index y bytes maxL ret ws rm 0 0 n) (hrc : ∃ cellB : Cell, H[a]? = some cellB ∧ cellB.vm.isStatics = false ∧ s.vm.findClass C = some cellB.cls) (hn : As.length = n) (hst : st = As.reverse ++ .ref a :: rest) (hcat : (rest.map fun v => v.category).sum ≤ 8) (hdg : decode cc pc = .ok (.invokevirtual index, 3)) (hf : cells + 0 ≤ R.cells ∧ slots + 0 ≤ R.slots)
    (kk : ∀ (r : Int32) (E1 : ES) (H1 : Heap) (locs1 : List Loc), Φ r E1 → Wd g lay E1 H1 → va_S (Ab g) H0 H1 locs1 → W p l e R s m args below meth c H1 locs1 cells slots Q (F0 m (pc + 3) ls (.int r :: rest))) : W p l e R s m args below meth c H locs cells slots Q (F0 m pc ls st) := by
  subst hst
  refine va_calli (va_runV (As := As) (rest := rest) ⟨hx, hb, hml, hown, hts⟩ hM cw ⟨blindW, hrc, fun U hU hW' => ⟨rfl, KK_warm hW' hK, by rw [hU]; exact hW⟩⟩ rfl hn hls rfl (lv_room hcat) hdg hf) hS (fun q _ h => h) (fun q h => h) (fun r u t H1 locs1 ht hvm hw hB hz hk hS1 => ?_)
  rw [ht] at hB
  exact kk r u H1 locs1 hw hB hS1
theorem w_cvv (hx : p.tables.exec = Jvm.exec) (hb : c.code = cc) (hml : c.maxLocals = nL) (hown : s.vm.findClass own = some m.cls) (hts : ∀ w ∈ lw_gd, w.before args s = true) (hK : KK g s) (hW : Wd g lay E H) (hS : va_S (Ab g) H0 H locs) (hls : ls.size = nL) {Φ : ES → Prop} (hM : JMv l g lay y ws rm (.ref a :: As) E Φ) (cw : CallW R s args own C index y bytes maxL ret ws rm 0 0 n) (hrc : ∃ cellB : Cell, H[a]? = some cellB ∧ cellB.vm.isStatics = false ∧ s.vm.findClass C = some cellB.cls) (hn : As.length = n) (hst : st = As.reverse ++ .ref a :: rest) (hcat : (rest.map fun v => v.category).sum ≤ 8) (hdg : decode cc pc = .ok (.invokevirtual index, 3)) (hf : cells + 0 ≤ R.cells ∧ slots + 0 ≤ R.slots)
    (kk : ∀ (E1 : ES) (H1 : Heap) (locs1 : List Loc), Φ E1 → Wd g lay E1 H1 → va_S (Ab g) H0 H1 locs1 → W p l e R s m args below meth c H1 locs1 cells slots Q (F0 m (pc + 3) ls rest)) : W p l e R s m args below meth c H locs cells slots Q (F0 m pc ls st) := by
  subst hst
  refine va_callv (va_runV (As := As) (rest := rest) ⟨hx, hb, hml, hown, hts⟩ hM cw ⟨blindW, hrc, fun U hU hW' => ⟨rfl, KK_warm hW' hK, by rw [hU]; exact hW⟩⟩ rfl hn hls rfl (lv_room hcat) hdg hf) hS (fun q _ h => h) (fun q h => h) (fun u t H1 locs1 ht hvm hw hB hz hk hS1 => ?_)
  rw [ht] at hB
  exact kk u H1 locs1 hw hB hS1
theorem w_cvr (hx : p.tables.exec = Jvm.exec) (hb : c.code = cc) (hml : c.maxLocals = nL) (hown : s.vm.findClass own = some m.cls) (hts : ∀ w ∈ lw_gd, w.before args s = true) (hK : KK g s) (hW : Wd g lay E H) (hS : va_S (Ab g) H0 H locs) (hls : ls.size = nL) {Φ : Nat → ES → Prop} (hM : JMr l g lay y ws rm (.ref a :: As) E Φ) (cw : CallW R s args own C index y bytes maxL ret ws rm 0 0 n) (hrc : ∃ cellB : Cell, H[a]? = some cellB ∧ cellB.vm.isStatics = false ∧ s.vm.findClass C = some cellB.cls) (hn : As.length = n) (hst : st = As.reverse ++ .ref a :: rest) (hcat : (rest.map fun v => v.category).sum ≤ 8) (hdg : decode cc pc = .ok (.invokevirtual index, 3)) (hf : cells + 0 ≤ R.cells ∧ slots + 0 ≤ R.slots)
    (kk : ∀ (r : Nat) (E1 : ES) (H1 : Heap) (locs1 : List Loc), Φ r E1 → Wd g lay E1 H1 → va_S (Ab g) H0 H1 locs1 → W p l e R s m args below meth c H1 locs1 cells slots Q (F0 m (pc + 3) ls (.ref r :: rest))) : W p l e R s m args below meth c H locs cells slots Q (F0 m pc ls st) := by
  subst hst
  refine va_callr (va_runV (As := As) (rest := rest) ⟨hx, hb, hml, hown, hts⟩ hM cw ⟨blindW, hrc, fun U hU hW' => ⟨rfl, KK_warm hW' hK, by rw [hU]; exact hW⟩⟩ rfl hn hls rfl (lv_room hcat) hdg hf) hS (fun q _ h => h) (fun q h => h) (fun u ra t H1 locs1 ht hvm hw hB hz hk hS1 => ?_)
  rw [ht] at hB
  exact kk ra u H1 locs1 hB.1 hB.2 hS1
theorem w_csi (hx : p.tables.exec = Jvm.exec) (hb : c.code = cc) (hml : c.maxLocals = nL) (hown : s.vm.findClass own = some m.cls) (hts : ∀ w ∈ lw_gd, w.before args s = true) (hK : KK g s) (hW : Wd g lay E H) (hS : va_S (Ab g) H0 H locs) (hls : ls.size = nL) {Φ : Int32 → ES → Prop} (hM : JMi l g lay y ws rm As E Φ) (cw : CallB R s args own index y bytes maxL ret ws rm 0 0 n ∧ (Cond.static y).before args s = true) (hn : As.length = n) (hst : st = As.reverse ++ rest) (hcat : (rest.map fun v => v.category).sum ≤ 8) (hdg : decode cc pc = .ok (.invokestatic index, 3)) (hf : cells + 0 ≤ R.cells ∧ slots + 0 ≤ R.slots)
    (kk : ∀ (r : Int32) (E1 : ES) (H1 : Heap) (locs1 : List Loc), Φ r E1 → Wd g lay E1 H1 → va_S (Ab g) H0 H1 locs1 → W p l e R s m args below meth c H1 locs1 cells slots Q (F0 m (pc + 3) ls (.int r :: rest))) : W p l e R s m args below meth c H locs cells slots Q (F0 m pc ls st) := by
  subst hst
  refine va_calli (va_runS (As := As) (rest := rest) ⟨hx, hb, hml, hown, hts⟩ hM cw ⟨blindW, fun U hU hW' => ⟨rfl, KK_warm hW' hK, by rw [hU]; exact hW⟩⟩ rfl hn hls rfl (lv_room hcat) hdg hf) hS (fun q _ h => h) (fun q h => h) (fun r u t H1 locs1 ht hvm hw hB hz hk hS1 => ?_)
  rw [ht] at hB
  exact kk r u H1 locs1 hw hB hS1
theorem w_csiN {host : String} (hx : p.tables.exec = Jvm.exec) (hb : c.code = cc) (hml : c.maxLocals = nL) (hown : s.vm.findClass own = some m.cls) (hts : ∀ w ∈ lw_gd, w.before args s = true) (hK : KK g s) (hW : Wd g lay E H) (hS : va_S (Ab g) H0 H locs) (hls : ls.size = nL) {Φ : Int32 → ES → Prop} (hM : JMi l g lay y ws rm As E Φ) (cw : va_CN R s args own index y host bytes maxL ret ws rm 0 0 n ∧ (Cond.static y).before args s = true ∧ True) (hn : As.length = n) (hst : st = As.reverse ++ rest) (hcat : (rest.map fun v => v.category).sum ≤ 8) (hdg : decode cc pc = .ok (.invokestatic index, 3)) (hf : cells + 0 ≤ R.cells ∧ slots + 0 ≤ R.slots)
    (kk : ∀ (r : Int32) (E1 : ES) (H1 : Heap) (locs1 : List Loc), Φ r E1 → Wd g lay E1 H1 → va_S (Ab g) H0 H1 locs1 → W p l e R s m args below meth c H1 locs1 cells slots Q (F0 m (pc + 3) ls (.int r :: rest))) : W p l e R s m args below meth c H locs cells slots Q (F0 m pc ls st) := by
  subst hst
  refine va_calli (va_runSN (As := As) (rest := rest) ⟨hx, hb, hml, hown, hts⟩ hM cw ⟨blindW, fun U hU hW' => ⟨rfl, KK_warm hW' hK, by rw [hU]; exact hW⟩⟩ rfl hn hls rfl (lv_room hcat) hdg hf) hS (fun q _ h => h) (fun q h => h) (fun r u t H1 locs1 ht hvm hw hB hz hk hS1 => ?_)
  rw [ht] at hB
  exact kk r u H1 locs1 hw hB hS1
end WR
section WE
variable {p : Program} {l : Launch} {e : Env} {R : Room} {s : State} {m : MethodId} {args : Array Value} {below : List Frame} {meth : Method} {c : Code} {H : Heap} {locs : List Loc}
variable {cc : ByteArray} {pc : Nat} {ls : Array Slot} {g : GG} {lay : LY} {E : ES}
theorem w_iret {v : Int32} {Φ : Int32 → ES → Prop} (hx : p.tables.exec = Jvm.exec) (hb : c.code = cc) (hr : meth.sig.returnType = some .int) (hlocks : meth.locks = false) (hW : Wd g lay E H) (hS : va_S (Ab g) s.heap H locs) (hq : Φ v E) (hdg : decode cc pc = .ok (.ireturn, 1)) : W p l e R s m args below meth c H locs 0 0 (MQ below (va_Qi Φ (fun E' t => Wd g lay E' t.heap) (Ab g)) args s 0 0 (Ab g)) (F0 m pc ls [.int v]) :=
  W.iret hx hb hr (fun t ht _ => ⟨⟨v, E, rfl, hq, (by show Wd g lay E t.heap; rw [ht]; exact hW)⟩, hS.F ht⟩) hS.2.2 hdg hlocks
theorem narZ {v : Int32} (h : v = 0 ∨ v = 1) : narrow .boolean (.int v) = .int v := by rcases h with rfl | rfl <;> decide
theorem fitZ {v : Int32} (h : v = 0 ∨ v = 1) : fits .boolean (.int v) = true := by rcases h with rfl | rfl <;> decide
theorem w_zret {v : Int32} {Φ : Int32 → ES → Prop} (hx : p.tables.exec = Jvm.exec) (hb : c.code = cc) (hr : meth.sig.returnType = some .boolean) (hlocks : meth.locks = false) (hW : Wd g lay E H) (hS : va_S (Ab g) s.heap H locs) (hz : v = 0 ∨ v = 1) (hq : Φ v E) (hdg : decode cc pc = .ok (.ireturn, 1)) : W p l e R s m args below meth c H locs 0 0 (MQ below (va_Qi Φ (fun E' t => Wd g lay E' t.heap) (Ab g)) args s 0 0 (Ab g)) (F0 m pc ls [.int v]) :=
  W.zret (ty := .boolean) hx hb hr (narZ hz) (fun t ht _ => ⟨⟨v, E, rfl, hq, (by show Wd g lay E t.heap; rw [ht]; exact hW)⟩, hS.F ht⟩) hS.2.2 hdg hlocks
theorem w_vret {Φ : ES → Prop} (hx : p.tables.exec = Jvm.exec) (hb : c.code = cc) (hr : meth.sig.returnType = none) (hlocks : meth.locks = false) (hW : Wd g lay E H) (hS : va_S (Ab g) s.heap H locs) (hq : Φ E) (hdg : decode cc pc = .ok (.return_, 1)) : W p l e R s m args below meth c H locs 0 0 (MQ below (va_Qv Φ (fun E' t => Wd g lay E' t.heap) (Ab g)) args s 0 0 (Ab g)) (F0 m pc ls []) :=
  W.vret hx hb hr (fun t ht _ => ⟨⟨E, rfl, hq, (by show Wd g lay E t.heap; rw [ht]; exact hW)⟩, hS.F ht⟩) hS.2.2 hdg hlocks
theorem w_aret {v : Nat} {rt : FieldType} {Φ : Nat → ES → Prop} (hx : p.tables.exec = Jvm.exec) (hb : c.code = cc) (hr : meth.sig.returnType = some rt) (hrt : (∃ n, rt = .object n) ∨ ∃ t, rt = .array t) (hlocks : meth.locks = false) (hW : Wd g lay E H) (hS : va_S (Ab g) s.heap H locs) (hq : Φ v E) (hdg : decode cc pc = .ok (.areturn, 1)) : W p l e R s m args below meth c H locs 0 0 (MQ below (va_Qr (S := ES) (fun _ => True) (fun E' a t => Φ a E' ∧ Wd g lay E' t.heap) (Ab g)) args s 0 0 (Ab g)) (F0 m pc ls [.ref v]) :=
  W.aret hx hb hr hrt (Or.inr ⟨v, rfl⟩) (fun t ht _ => ⟨⟨E, v, rfl, trivial, hq, (by show Wd g lay E t.heap; rw [ht]; exact hW)⟩, hS.F ht⟩) hS.2.2 hdg hlocks
end WE
theorem gd_GSU {own : String} {idx : Nat} {y : MethodName} {c0 : Cond} (h1 : Cond.methodLink own idx y ∈ lw_gd) (h2 : Cond.static y ∈ lw_gd) (h4 : Cond.initialized y.cls ∈ lw_gd) (h0 : c0 ∈ lw_gd) : GoodIn lw_gd (va_wsS own idx y (c0 :: lw_gd)) := fun w hw => by
  have h : w ∈ lw_gd := by
    simp only [va_wsS, List.cons_append, List.nil_append, List.mem_cons] at hw
    rcases hw with rfl | rfl | rfl | rfl | h
    · exact h1
    · exact h2
    · exact h4
    · exact h0
    · exact h
  exact ⟨h, good_of_word (gd_good _ h)⟩
end
section
theorem wd_142 : Cond.fieldLink RX0 11 RX0 (TX0 0).2.1 (TX0 0).2.2.1 ∈ lw_gd := gd_in (List.mem_of_getElem? (i := 142) (by decide +kernel)) (by decide +kernel)
theorem wd_143 : Cond.fieldLink RX0 19 RX0 (TX0 1).2.1 (TX0 1).2.2.1 ∈ lw_gd := gd_in (List.mem_of_getElem? (i := 143) (by decide +kernel)) (by decide +kernel)
theorem wd_144 : Cond.fieldLink RX0 24 RX0 (TX0 2).2.1 (TX0 2).2.2.1 ∈ lw_gd := gd_in (List.mem_of_getElem? (i := 144) (by decide +kernel)) (by decide +kernel)
theorem wd_145 : Cond.fieldLink RX0 29 RX0 (TX0 3).2.1 (TX0 3).2.2.1 ∈ lw_gd := gd_in (List.mem_of_getElem? (i := 145) (by decide +kernel)) (by decide +kernel)
theorem wd_146 : Cond.fieldLink RX0 42 RX0 (TX0 4).2.1 (TX0 4).2.2.1 ∈ lw_gd := gd_in (List.mem_of_getElem? (i := 146) (by decide +kernel)) (by decide +kernel)
theorem wd_147 : Cond.fieldLink RX0 45 RX0 (TX0 5).2.1 (TX0 5).2.2.1 ∈ lw_gd := gd_in (List.mem_of_getElem? (i := 147) (by decide +kernel)) (by decide +kernel)
theorem wd_149 : Cond.fieldLink RX0 49 RX0 (TX0 6).2.1 (TX0 6).2.2.1 ∈ lw_gd := gd_in (List.mem_of_getElem? (i := 149) (by decide +kernel)) (by decide +kernel)
theorem wd_151 : Cond.fieldLink RX0 52 RX0 (TX0 7).2.1 (TX0 7).2.2.1 ∈ lw_gd := gd_in (List.mem_of_getElem? (i := 151) (by decide +kernel)) (by decide +kernel)
theorem wd_153 : Cond.fieldLink RX0 55 RX0 (TX0 8).2.1 (TX0 8).2.2.1 ∈ lw_gd := gd_in (List.mem_of_getElem? (i := 153) (by decide +kernel)) (by decide +kernel)
theorem wd_154 : Cond.fieldLink RX0 58 RX0 (TX0 9).2.1 (TX0 9).2.2.1 ∈ lw_gd := gd_in (List.mem_of_getElem? (i := 154) (by decide +kernel)) (by decide +kernel)
theorem wd_155 : Cond.fieldLink RX0 61 RX0 (TX0 10).2.1 (TX0 10).2.2.1 ∈ lw_gd := gd_in (List.mem_of_getElem? (i := 155) (by decide +kernel)) (by decide +kernel)
theorem wd_156 : Cond.fieldLink RX0 64 RX0 (TX0 11).2.1 (TX0 11).2.2.1 ∈ lw_gd := gd_in (List.mem_of_getElem? (i := 156) (by decide +kernel)) (by decide +kernel)
theorem wd_157 : Cond.fieldLink RX0 67 RX0 (TX0 12).2.1 (TX0 12).2.2.1 ∈ lw_gd := gd_in (List.mem_of_getElem? (i := 157) (by decide +kernel)) (by decide +kernel)
theorem wd_158 : Cond.fieldLink RX0 70 RX0 (TX0 13).2.1 (TX0 13).2.2.1 ∈ lw_gd := gd_in (List.mem_of_getElem? (i := 158) (by decide +kernel)) (by decide +kernel)
theorem wd_159 : Cond.fieldLink RX0 73 RX0 (TX0 14).2.1 (TX0 14).2.2.1 ∈ lw_gd := gd_in (List.mem_of_getElem? (i := 159) (by decide +kernel)) (by decide +kernel)
theorem wd_160 : Cond.fieldLink RX0 76 RX0 (TX0 15).2.1 (TX0 15).2.2.1 ∈ lw_gd := gd_in (List.mem_of_getElem? (i := 160) (by decide +kernel)) (by decide +kernel)
theorem wd_54 : Cond.fieldLink RX0 102 RX2 (TX2 1).2.1 (TX2 1).2.2.1 ∈ lw_gd := gd_in (List.mem_of_getElem? (i := 54) (by decide +kernel)) (by decide +kernel)
theorem wd_52 : Cond.fieldLink RX0 106 RX2 (TX2 0).2.1 (TX2 0).2.2.1 ∈ lw_gd := gd_in (List.mem_of_getElem? (i := 52) (by decide +kernel)) (by decide +kernel)
theorem wd_58 : Cond.fieldLink RX0 109 RX2 (TX2 3).2.1 (TX2 3).2.2.1 ∈ lw_gd := gd_in (List.mem_of_getElem? (i := 58) (by decide +kernel)) (by decide +kernel)
theorem wd_65 : Cond.fieldLink RX0 112 RX2 (TX2 7).2.1 (TX2 7).2.2.1 ∈ lw_gd := gd_in (List.mem_of_getElem? (i := 65) (by decide +kernel)) (by decide +kernel)
theorem wd_63 : Cond.fieldLink RX0 119 RX2 (TX2 6).2.1 (TX2 6).2.2.1 ∈ lw_gd := gd_in (List.mem_of_getElem? (i := 63) (by decide +kernel)) (by decide +kernel)
theorem wd_111 : Cond.fieldLink RX0 129 RX1 (TX1 9).2.1 (TX1 9).2.2.1 ∈ lw_gd := gd_in (List.mem_of_getElem? (i := 111) (by decide +kernel)) (by decide +kernel)
theorem wd_61 : Cond.fieldLink RX0 135 RX2 (TX2 5).2.1 (TX2 5).2.2.1 ∈ lw_gd := gd_in (List.mem_of_getElem? (i := 61) (by decide +kernel)) (by decide +kernel)
theorem wd_97 : Cond.fieldLink RX0 151 RX1 (TX1 2).2.1 (TX1 2).2.2.1 ∈ lw_gd := gd_in (List.mem_of_getElem? (i := 97) (by decide +kernel)) (by decide +kernel)
theorem wd_93 : Cond.fieldLink RX0 154 RX1 (TX1 0).2.1 (TX1 0).2.2.1 ∈ lw_gd := gd_in (List.mem_of_getElem? (i := 93) (by decide +kernel)) (by decide +kernel)
theorem wd_95 : Cond.fieldLink RX0 181 RX1 (TX1 1).2.1 (TX1 1).2.2.1 ∈ lw_gd := gd_in (List.mem_of_getElem? (i := 95) (by decide +kernel)) (by decide +kernel)
theorem wd_103 : Cond.fieldLink RX0 191 RX1 (TX1 5).2.1 (TX1 5).2.2.1 ∈ lw_gd := gd_in (List.mem_of_getElem? (i := 103) (by decide +kernel)) (by decide +kernel)
theorem wd_107 : Cond.fieldLink RX0 194 RX1 (TX1 7).2.1 (TX1 7).2.2.1 ∈ lw_gd := gd_in (List.mem_of_getElem? (i := 107) (by decide +kernel)) (by decide +kernel)
theorem wd_99 : Cond.fieldLink RX0 197 RX1 (TX1 3).2.1 (TX1 3).2.2.1 ∈ lw_gd := gd_in (List.mem_of_getElem? (i := 99) (by decide +kernel)) (by decide +kernel)
theorem wd_101 : Cond.fieldLink RX0 204 RX1 (TX1 4).2.1 (TX1 4).2.2.1 ∈ lw_gd := gd_in (List.mem_of_getElem? (i := 101) (by decide +kernel)) (by decide +kernel)
theorem wd_105 : Cond.fieldLink RX0 211 RX1 (TX1 6).2.1 (TX1 6).2.2.1 ∈ lw_gd := gd_in (List.mem_of_getElem? (i := 105) (by decide +kernel)) (by decide +kernel)
theorem wd_56 : Cond.fieldLink RX0 214 RX2 (TX2 2).2.1 (TX2 2).2.2.1 ∈ lw_gd := gd_in (List.mem_of_getElem? (i := 56) (by decide +kernel)) (by decide +kernel)
theorem wd_109 : Cond.fieldLink RX0 217 RX1 (TX1 8).2.1 (TX1 8).2.2.1 ∈ lw_gd := gd_in (List.mem_of_getElem? (i := 109) (by decide +kernel)) (by decide +kernel)
theorem wd_67 : Cond.fieldLink RX0 255 RX2 (TX2 8).2.1 (TX2 8).2.2.1 ∈ lw_gd := gd_in (List.mem_of_getElem? (i := 67) (by decide +kernel)) (by decide +kernel)
theorem wd_92 : Cond.fieldLink RX1 9 RX1 (TX1 0).2.1 (TX1 0).2.2.1 ∈ lw_gd := gd_in (List.mem_of_getElem? (i := 92) (by decide +kernel)) (by decide +kernel)
theorem wd_94 : Cond.fieldLink RX1 15 RX1 (TX1 1).2.1 (TX1 1).2.2.1 ∈ lw_gd := gd_in (List.mem_of_getElem? (i := 94) (by decide +kernel)) (by decide +kernel)
theorem wd_96 : Cond.fieldLink RX1 18 RX1 (TX1 2).2.1 (TX1 2).2.2.1 ∈ lw_gd := gd_in (List.mem_of_getElem? (i := 96) (by decide +kernel)) (by decide +kernel)
theorem wd_98 : Cond.fieldLink RX1 21 RX1 (TX1 3).2.1 (TX1 3).2.2.1 ∈ lw_gd := gd_in (List.mem_of_getElem? (i := 98) (by decide +kernel)) (by decide +kernel)
theorem wd_100 : Cond.fieldLink RX1 24 RX1 (TX1 4).2.1 (TX1 4).2.2.1 ∈ lw_gd := gd_in (List.mem_of_getElem? (i := 100) (by decide +kernel)) (by decide +kernel)
theorem wd_102 : Cond.fieldLink RX1 27 RX1 (TX1 5).2.1 (TX1 5).2.2.1 ∈ lw_gd := gd_in (List.mem_of_getElem? (i := 102) (by decide +kernel)) (by decide +kernel)
theorem wd_104 : Cond.fieldLink RX1 30 RX1 (TX1 6).2.1 (TX1 6).2.2.1 ∈ lw_gd := gd_in (List.mem_of_getElem? (i := 104) (by decide +kernel)) (by decide +kernel)
theorem wd_106 : Cond.fieldLink RX1 33 RX1 (TX1 7).2.1 (TX1 7).2.2.1 ∈ lw_gd := gd_in (List.mem_of_getElem? (i := 106) (by decide +kernel)) (by decide +kernel)
theorem wd_108 : Cond.fieldLink RX1 36 RX1 (TX1 8).2.1 (TX1 8).2.2.1 ∈ lw_gd := gd_in (List.mem_of_getElem? (i := 108) (by decide +kernel)) (by decide +kernel)
theorem wd_110 : Cond.fieldLink RX1 39 RX1 (TX1 9).2.1 (TX1 9).2.2.1 ∈ lw_gd := gd_in (List.mem_of_getElem? (i := 110) (by decide +kernel)) (by decide +kernel)
theorem wd_51 : Cond.fieldLink RX2 9 RX2 (TX2 0).2.1 (TX2 0).2.2.1 ∈ lw_gd := gd_in (List.mem_of_getElem? (i := 51) (by decide +kernel)) (by decide +kernel)
theorem wd_53 : Cond.fieldLink RX2 15 RX2 (TX2 1).2.1 (TX2 1).2.2.1 ∈ lw_gd := gd_in (List.mem_of_getElem? (i := 53) (by decide +kernel)) (by decide +kernel)
theorem wd_55 : Cond.fieldLink RX2 19 RX2 (TX2 2).2.1 (TX2 2).2.2.1 ∈ lw_gd := gd_in (List.mem_of_getElem? (i := 55) (by decide +kernel)) (by decide +kernel)
theorem wd_57 : Cond.fieldLink RX2 22 RX2 (TX2 3).2.1 (TX2 3).2.2.1 ∈ lw_gd := gd_in (List.mem_of_getElem? (i := 57) (by decide +kernel)) (by decide +kernel)
theorem wd_59 : Cond.fieldLink RX2 25 RX2 (TX2 4).2.1 (TX2 4).2.2.1 ∈ lw_gd := gd_in (List.mem_of_getElem? (i := 59) (by decide +kernel)) (by decide +kernel)
theorem wd_60 : Cond.fieldLink RX2 28 RX2 (TX2 5).2.1 (TX2 5).2.2.1 ∈ lw_gd := gd_in (List.mem_of_getElem? (i := 60) (by decide +kernel)) (by decide +kernel)
theorem wd_62 : Cond.fieldLink RX2 31 RX2 (TX2 6).2.1 (TX2 6).2.2.1 ∈ lw_gd := gd_in (List.mem_of_getElem? (i := 62) (by decide +kernel)) (by decide +kernel)
theorem wd_64 : Cond.fieldLink RX2 34 RX2 (TX2 7).2.1 (TX2 7).2.2.1 ∈ lw_gd := gd_in (List.mem_of_getElem? (i := 64) (by decide +kernel)) (by decide +kernel)
theorem wd_66 : Cond.fieldLink RX2 37 RX2 (TX2 8).2.1 (TX2 8).2.2.1 ∈ lw_gd := gd_in (List.mem_of_getElem? (i := 66) (by decide +kernel)) (by decide +kernel)
theorem wd_202 : Cond.fieldLink RX3 9 RX3 (TX3 0).2.1 (TX3 0).2.2.1 ∈ lw_gd := gd_in (List.mem_of_getElem? (i := 202) (by decide +kernel)) (by decide +kernel)
theorem wd_203 : Cond.fieldLink RX3 15 RX3 (TX3 1).2.1 (TX3 1).2.2.1 ∈ lw_gd := gd_in (List.mem_of_getElem? (i := 203) (by decide +kernel)) (by decide +kernel)
theorem wd_210 : Cond.fieldLink RX4 10 RX4 (TX4 0).2.1 (TX4 0).2.2.1 ∈ lw_gd := gd_in (List.mem_of_getElem? (i := 210) (by decide +kernel)) (by decide +kernel)
theorem wd_211 : Cond.fieldLink RX4 16 RX4 (TX4 1).2.1 (TX4 1).2.2.1 ∈ lw_gd := gd_in (List.mem_of_getElem? (i := 211) (by decide +kernel)) (by decide +kernel)
theorem wd_212 : Cond.fieldLink RX4 19 RX4 (TX4 2).2.1 (TX4 2).2.2.1 ∈ lw_gd := gd_in (List.mem_of_getElem? (i := 212) (by decide +kernel)) (by decide +kernel)
theorem wd_213 : Cond.fieldLink RX4 26 RX4 (TX4 3).2.1 (TX4 3).2.2.1 ∈ lw_gd := gd_in (List.mem_of_getElem? (i := 213) (by decide +kernel)) (by decide +kernel)
theorem wd_148 : Cond.fieldLink RX4 34 RX0 (TX0 5).2.1 (TX0 5).2.2.1 ∈ lw_gd := gd_in (List.mem_of_getElem? (i := 148) (by decide +kernel)) (by decide +kernel)
theorem wd_152 : Cond.fieldLink RX4 71 RX0 (TX0 7).2.1 (TX0 7).2.2.1 ∈ lw_gd := gd_in (List.mem_of_getElem? (i := 152) (by decide +kernel)) (by decide +kernel)
theorem wd_150 : Cond.fieldLink RX4 86 RX0 (TX0 6).2.1 (TX0 6).2.2.1 ∈ lw_gd := gd_in (List.mem_of_getElem? (i := 150) (by decide +kernel)) (by decide +kernel)
theorem wd_204 : Cond.fieldLink RX4 92 RX3 (TX3 1).2.1 (TX3 1).2.2.1 ∈ lw_gd := gd_in (List.mem_of_getElem? (i := 204) (by decide +kernel)) (by decide +kernel)
set_option maxRecDepth 50000 in
theorem wd_514 : Cond.code yL_next cL_next 5 (some .int) ∈ lw_gd := gd_in (List.mem_of_getElem? (i := 514) (by rfl)) (by rfl)
theorem wd_512 : Cond.methodLink RL 27 yL_next ∈ lw_gd := gd_in (List.mem_of_getElem? (i := 512) (by decide +kernel)) (by decide +kernel)
theorem wd_513 : Cond.static yL_next ∈ lw_gd := gd_in (List.mem_of_getElem? (i := 513) (by decide +kernel)) (by decide +kernel)
theorem wd_22 : Cond.initialized RL ∈ lw_gd := gd_in (List.mem_of_getElem? (i := 22) (by decide +kernel)) (by decide +kernel)
set_option maxRecDepth 50000 in
theorem wd_462 : Cond.code yL_fits cL_fits 12 (some .boolean) ∈ lw_gd := gd_in (List.mem_of_getElem? (i := 462) (by rfl)) (by rfl)
theorem wd_460 : Cond.methodLink RL 36 yL_fits ∈ lw_gd := gd_in (List.mem_of_getElem? (i := 460) (by decide +kernel)) (by decide +kernel)
theorem wd_461 : Cond.static yL_fits ∈ lw_gd := gd_in (List.mem_of_getElem? (i := 461) (by decide +kernel)) (by decide +kernel)
set_option maxRecDepth 50000 in
theorem wd_458 : Cond.code yL_cell cL_cell 3 (some .int) ∈ lw_gd := gd_in (List.mem_of_getElem? (i := 458) (by rfl)) (by rfl)
theorem wd_456 : Cond.methodLink RL 41 yL_cell ∈ lw_gd := gd_in (List.mem_of_getElem? (i := 456) (by decide +kernel)) (by decide +kernel)
theorem wd_457 : Cond.static yL_cell ∈ lw_gd := gd_in (List.mem_of_getElem? (i := 457) (by decide +kernel)) (by decide +kernel)
set_option maxRecDepth 50000 in
theorem wd_511 : Cond.code yL_ticks cL_ticks 11 (some .boolean) ∈ lw_gd := gd_in (List.mem_of_getElem? (i := 511) (by rfl)) (by rfl)
theorem wd_509 : Cond.methodLink RL 60 yL_ticks ∈ lw_gd := gd_in (List.mem_of_getElem? (i := 509) (by decide +kernel)) (by decide +kernel)
theorem wd_510 : Cond.static yL_ticks ∈ lw_gd := gd_in (List.mem_of_getElem? (i := 510) (by decide +kernel)) (by decide +kernel)
theorem wd_466 : Cond.code yX4_count cX4_count 2 (some .int) ∈ lw_gd := gd_in (List.mem_of_getElem? (i := 466) (by decide +kernel)) (by decide +kernel)
theorem wd_463 : Cond.methodLink RL 8 yX4_count ∈ lw_gd := gd_in (List.mem_of_getElem? (i := 463) (by decide +kernel)) (by decide +kernel)
theorem wd_464 : Cond.instanceMethod yX4_count ∈ lw_gd := gd_in (List.mem_of_getElem? (i := 464) (by decide +kernel)) (by decide +kernel)
theorem wd_465 : Cond.selects RX4 yX4_count yX4_count ∈ lw_gd := gd_in (List.mem_of_getElem? (i := 465) (by decide +kernel)) (by decide +kernel)
theorem wd_23 : Cond.initialized RX4 ∈ lw_gd := gd_in (List.mem_of_getElem? (i := 23) (by decide +kernel)) (by decide +kernel)
theorem wd_490 : Cond.code yX4_finder cX4_finder 3 (some .int) ∈ lw_gd := gd_in (List.mem_of_getElem? (i := 490) (by decide +kernel)) (by decide +kernel)
theorem wd_487 : Cond.methodLink RL 14 yX4_finder ∈ lw_gd := gd_in (List.mem_of_getElem? (i := 487) (by decide +kernel)) (by decide +kernel)
theorem wd_488 : Cond.instanceMethod yX4_finder ∈ lw_gd := gd_in (List.mem_of_getElem? (i := 488) (by decide +kernel)) (by decide +kernel)
theorem wd_489 : Cond.selects RX4 yX4_finder yX4_finder ∈ lw_gd := gd_in (List.mem_of_getElem? (i := 489) (by decide +kernel)) (by decide +kernel)
theorem wd_410 : Cond.code yX4_line cX4_line 3 (some .int) ∈ lw_gd := gd_in (List.mem_of_getElem? (i := 410) (by decide +kernel)) (by decide +kernel)
theorem wd_407 : Cond.methodLink RL 18 yX4_line ∈ lw_gd := gd_in (List.mem_of_getElem? (i := 407) (by decide +kernel)) (by decide +kernel)
theorem wd_408 : Cond.instanceMethod yX4_line ∈ lw_gd := gd_in (List.mem_of_getElem? (i := 408) (by decide +kernel)) (by decide +kernel)
theorem wd_409 : Cond.selects RX4 yX4_line yX4_line ∈ lw_gd := gd_in (List.mem_of_getElem? (i := 409) (by decide +kernel)) (by decide +kernel)
theorem wd_499 : Cond.code yX4_connector cX4_connector 3 (some .int) ∈ lw_gd := gd_in (List.mem_of_getElem? (i := 499) (by decide +kernel)) (by decide +kernel)
theorem wd_496 : Cond.methodLink RL 21 yX4_connector ∈ lw_gd := gd_in (List.mem_of_getElem? (i := 496) (by decide +kernel)) (by decide +kernel)
theorem wd_497 : Cond.instanceMethod yX4_connector ∈ lw_gd := gd_in (List.mem_of_getElem? (i := 497) (by decide +kernel)) (by decide +kernel)
theorem wd_498 : Cond.selects RX4 yX4_connector yX4_connector ∈ lw_gd := gd_in (List.mem_of_getElem? (i := 498) (by decide +kernel)) (by decide +kernel)
theorem wd_504 : Cond.code yX4_trace cX4_trace 3 (some .int) ∈ lw_gd := gd_in (List.mem_of_getElem? (i := 504) (by decide +kernel)) (by decide +kernel)
theorem wd_501 : Cond.methodLink RL 24 yX4_trace ∈ lw_gd := gd_in (List.mem_of_getElem? (i := 501) (by decide +kernel)) (by decide +kernel)
theorem wd_502 : Cond.instanceMethod yX4_trace ∈ lw_gd := gd_in (List.mem_of_getElem? (i := 502) (by decide +kernel)) (by decide +kernel)
theorem wd_503 : Cond.selects RX4 yX4_trace yX4_trace ∈ lw_gd := gd_in (List.mem_of_getElem? (i := 503) (by decide +kernel)) (by decide +kernel)
theorem wd_320 : Cond.code yX4_tick cX4_tick 2 (some .int) ∈ lw_gd := gd_in (List.mem_of_getElem? (i := 320) (by decide +kernel)) (by decide +kernel)
theorem wd_317 : Cond.methodLink RL 33 yX4_tick ∈ lw_gd := gd_in (List.mem_of_getElem? (i := 317) (by decide +kernel)) (by decide +kernel)
theorem wd_318 : Cond.instanceMethod yX4_tick ∈ lw_gd := gd_in (List.mem_of_getElem? (i := 318) (by decide +kernel)) (by decide +kernel)
theorem wd_319 : Cond.selects RX4 yX4_tick yX4_tick ∈ lw_gd := gd_in (List.mem_of_getElem? (i := 319) (by decide +kernel)) (by decide +kernel)
theorem wd_226 : Cond.code yX4_setUp cX4_setUp 4 (some .int) ∈ lw_gd := gd_in (List.mem_of_getElem? (i := 226) (by decide +kernel)) (by decide +kernel)
theorem wd_223 : Cond.methodLink RL 45 yX4_setUp ∈ lw_gd := gd_in (List.mem_of_getElem? (i := 223) (by decide +kernel)) (by decide +kernel)
theorem wd_224 : Cond.instanceMethod yX4_setUp ∈ lw_gd := gd_in (List.mem_of_getElem? (i := 224) (by decide +kernel)) (by decide +kernel)
theorem wd_225 : Cond.selects RX4 yX4_setUp yX4_setUp ∈ lw_gd := gd_in (List.mem_of_getElem? (i := 225) (by decide +kernel)) (by decide +kernel)
theorem wd_265 : Cond.code yX4_set cX4_set 3 (some .int) ∈ lw_gd := gd_in (List.mem_of_getElem? (i := 265) (by decide +kernel)) (by decide +kernel)
theorem wd_262 : Cond.methodLink RL 48 yX4_set ∈ lw_gd := gd_in (List.mem_of_getElem? (i := 262) (by decide +kernel)) (by decide +kernel)
theorem wd_263 : Cond.instanceMethod yX4_set ∈ lw_gd := gd_in (List.mem_of_getElem? (i := 263) (by decide +kernel)) (by decide +kernel)
theorem wd_264 : Cond.selects RX4 yX4_set yX4_set ∈ lw_gd := gd_in (List.mem_of_getElem? (i := 264) (by decide +kernel)) (by decide +kernel)
theorem wd_279 : Cond.code yX4_lift cX4_lift 2 (some .int) ∈ lw_gd := gd_in (List.mem_of_getElem? (i := 279) (by decide +kernel)) (by decide +kernel)
theorem wd_276 : Cond.methodLink RL 51 yX4_lift ∈ lw_gd := gd_in (List.mem_of_getElem? (i := 276) (by decide +kernel)) (by decide +kernel)
theorem wd_277 : Cond.instanceMethod yX4_lift ∈ lw_gd := gd_in (List.mem_of_getElem? (i := 277) (by decide +kernel)) (by decide +kernel)
theorem wd_278 : Cond.selects RX4 yX4_lift yX4_lift ∈ lw_gd := gd_in (List.mem_of_getElem? (i := 278) (by decide +kernel)) (by decide +kernel)
theorem wd_290 : Cond.code yX4_hang cX4_hang 2 (some .int) ∈ lw_gd := gd_in (List.mem_of_getElem? (i := 290) (by decide +kernel)) (by decide +kernel)
theorem wd_287 : Cond.methodLink RL 54 yX4_hang ∈ lw_gd := gd_in (List.mem_of_getElem? (i := 287) (by decide +kernel)) (by decide +kernel)
theorem wd_288 : Cond.instanceMethod yX4_hang ∈ lw_gd := gd_in (List.mem_of_getElem? (i := 288) (by decide +kernel)) (by decide +kernel)
theorem wd_289 : Cond.selects RX4 yX4_hang yX4_hang ∈ lw_gd := gd_in (List.mem_of_getElem? (i := 289) (by decide +kernel)) (by decide +kernel)
theorem wd_308 : Cond.code yX4_dial cX4_dial 3 (some .int) ∈ lw_gd := gd_in (List.mem_of_getElem? (i := 308) (by decide +kernel)) (by decide +kernel)
theorem wd_305 : Cond.methodLink RL 57 yX4_dial ∈ lw_gd := gd_in (List.mem_of_getElem? (i := 305) (by decide +kernel)) (by decide +kernel)
theorem wd_306 : Cond.instanceMethod yX4_dial ∈ lw_gd := gd_in (List.mem_of_getElem? (i := 306) (by decide +kernel)) (by decide +kernel)
theorem wd_307 : Cond.selects RX4 yX4_dial yX4_dial ∈ lw_gd := gd_in (List.mem_of_getElem? (i := 307) (by decide +kernel)) (by decide +kernel)
theorem wd_430 : Cond.code yX4_until cX4_until 4 (some .int) ∈ lw_gd := gd_in (List.mem_of_getElem? (i := 430) (by decide +kernel)) (by decide +kernel)
theorem wd_427 : Cond.methodLink RL 64 yX4_until ∈ lw_gd := gd_in (List.mem_of_getElem? (i := 427) (by decide +kernel)) (by decide +kernel)
theorem wd_428 : Cond.instanceMethod yX4_until ∈ lw_gd := gd_in (List.mem_of_getElem? (i := 428) (by decide +kernel)) (by decide +kernel)
theorem wd_429 : Cond.selects RX4 yX4_until yX4_until ∈ lw_gd := gd_in (List.mem_of_getElem? (i := 429) (by decide +kernel)) (by decide +kernel)
theorem wd_451 : Cond.code yX4_save cX4_save 3 (some .int) ∈ lw_gd := gd_in (List.mem_of_getElem? (i := 451) (by decide +kernel)) (by decide +kernel)
theorem wd_448 : Cond.methodLink RL 68 yX4_save ∈ lw_gd := gd_in (List.mem_of_getElem? (i := 448) (by decide +kernel)) (by decide +kernel)
theorem wd_449 : Cond.instanceMethod yX4_save ∈ lw_gd := gd_in (List.mem_of_getElem? (i := 449) (by decide +kernel)) (by decide +kernel)
theorem wd_450 : Cond.selects RX4 yX4_save yX4_save ∈ lw_gd := gd_in (List.mem_of_getElem? (i := 450) (by decide +kernel)) (by decide +kernel)
theorem wd_455 : Cond.code yX4_restore cX4_restore 3 (some .int) ∈ lw_gd := gd_in (List.mem_of_getElem? (i := 455) (by decide +kernel)) (by decide +kernel)
theorem wd_452 : Cond.methodLink RL 71 yX4_restore ∈ lw_gd := gd_in (List.mem_of_getElem? (i := 452) (by decide +kernel)) (by decide +kernel)
theorem wd_453 : Cond.instanceMethod yX4_restore ∈ lw_gd := gd_in (List.mem_of_getElem? (i := 453) (by decide +kernel)) (by decide +kernel)
theorem wd_454 : Cond.selects RX4 yX4_restore yX4_restore ∈ lw_gd := gd_in (List.mem_of_getElem? (i := 454) (by decide +kernel)) (by decide +kernel)
theorem wd_275 : Cond.code yX0_settingAt cX0_settingAt 2 (some .int) ∈ lw_gd := gd_in (List.mem_of_getElem? (i := 275) (by decide +kernel)) (by decide +kernel)
theorem wd_272 : Cond.methodLink RX0 79 yX0_settingAt ∈ lw_gd := gd_in (List.mem_of_getElem? (i := 272) (by decide +kernel)) (by decide +kernel)
theorem wd_274 : Cond.instanceMethod yX0_settingAt ∈ lw_gd := gd_in (List.mem_of_getElem? (i := 274) (by decide +kernel)) (by decide +kernel)
theorem wd_0 : Cond.selects RX0 yX0_settingAt yX0_settingAt ∈ lw_gd := gd_in (List.mem_of_getElem? (i := 0) (by decide +kernel)) (by decide +kernel)
theorem wd_24 : Cond.initialized RX0 ∈ lw_gd := gd_in (List.mem_of_getElem? (i := 24) (by decide +kernel)) (by decide +kernel)
theorem wd_237 : Cond.code yX0_lineAt cX0_lineAt 2 (some (.object "RotaryExchange$Line")) ∈ lw_gd := gd_in (List.mem_of_getElem? (i := 237) (by decide +kernel)) (by decide +kernel)
theorem wd_234 : Cond.methodLink RX0 83 yX0_lineAt ∈ lw_gd := gd_in (List.mem_of_getElem? (i := 234) (by decide +kernel)) (by decide +kernel)
theorem wd_235 : Cond.instanceMethod yX0_lineAt ∈ lw_gd := gd_in (List.mem_of_getElem? (i := 235) (by decide +kernel)) (by decide +kernel)
theorem wd_236 : Cond.selects RX0 yX0_lineAt yX0_lineAt ∈ lw_gd := gd_in (List.mem_of_getElem? (i := 236) (by decide +kernel)) (by decide +kernel)
theorem wd_241 : Cond.code yX2_renew cX2_renew 1 none ∈ lw_gd := gd_in (List.mem_of_getElem? (i := 241) (by decide +kernel)) (by decide +kernel)
theorem wd_238 : Cond.methodLink RX0 87 yX2_renew ∈ lw_gd := gd_in (List.mem_of_getElem? (i := 238) (by decide +kernel)) (by decide +kernel)
theorem wd_239 : Cond.instanceMethod yX2_renew ∈ lw_gd := gd_in (List.mem_of_getElem? (i := 239) (by decide +kernel)) (by decide +kernel)
theorem wd_240 : Cond.selects RX2 yX2_renew yX2_renew ∈ lw_gd := gd_in (List.mem_of_getElem? (i := 240) (by decide +kernel)) (by decide +kernel)
theorem wd_25 : Cond.initialized RX2 ∈ lw_gd := gd_in (List.mem_of_getElem? (i := 25) (by decide +kernel)) (by decide +kernel)
theorem wd_249 : Cond.code yX0_finderAt cX0_finderAt 2 (some (.object "RotaryExchange$Finder")) ∈ lw_gd := gd_in (List.mem_of_getElem? (i := 249) (by decide +kernel)) (by decide +kernel)
theorem wd_246 : Cond.methodLink RX0 90 yX0_finderAt ∈ lw_gd := gd_in (List.mem_of_getElem? (i := 246) (by decide +kernel)) (by decide +kernel)
theorem wd_247 : Cond.instanceMethod yX0_finderAt ∈ lw_gd := gd_in (List.mem_of_getElem? (i := 247) (by decide +kernel)) (by decide +kernel)
theorem wd_248 : Cond.selects RX0 yX0_finderAt yX0_finderAt ∈ lw_gd := gd_in (List.mem_of_getElem? (i := 248) (by decide +kernel)) (by decide +kernel)
theorem wd_253 : Cond.code yX1_renew cX1_renew 1 none ∈ lw_gd := gd_in (List.mem_of_getElem? (i := 253) (by decide +kernel)) (by decide +kernel)
theorem wd_250 : Cond.methodLink RX0 94 yX1_renew ∈ lw_gd := gd_in (List.mem_of_getElem? (i := 250) (by decide +kernel)) (by decide +kernel)
theorem wd_251 : Cond.instanceMethod yX1_renew ∈ lw_gd := gd_in (List.mem_of_getElem? (i := 251) (by decide +kernel)) (by decide +kernel)
theorem wd_252 : Cond.selects RX1 yX1_renew yX1_renew ∈ lw_gd := gd_in (List.mem_of_getElem? (i := 252) (by decide +kernel)) (by decide +kernel)
theorem wd_26 : Cond.initialized RX1 ∈ lw_gd := gd_in (List.mem_of_getElem? (i := 26) (by decide +kernel)) (by decide +kernel)
theorem wd_438 : Cond.code yX2_copyFrom cX2_copyFrom 2 none ∈ lw_gd := gd_in (List.mem_of_getElem? (i := 438) (by decide +kernel)) (by decide +kernel)
theorem wd_435 : Cond.methodLink RX0 95 yX2_copyFrom ∈ lw_gd := gd_in (List.mem_of_getElem? (i := 435) (by decide +kernel)) (by decide +kernel)
theorem wd_436 : Cond.instanceMethod yX2_copyFrom ∈ lw_gd := gd_in (List.mem_of_getElem? (i := 436) (by decide +kernel)) (by decide +kernel)
theorem wd_437 : Cond.selects RX2 yX2_copyFrom yX2_copyFrom ∈ lw_gd := gd_in (List.mem_of_getElem? (i := 437) (by decide +kernel)) (by decide +kernel)
theorem wd_442 : Cond.code yX1_copyFrom cX1_copyFrom 2 none ∈ lw_gd := gd_in (List.mem_of_getElem? (i := 442) (by decide +kernel)) (by decide +kernel)
theorem wd_439 : Cond.methodLink RX0 99 yX1_copyFrom ∈ lw_gd := gd_in (List.mem_of_getElem? (i := 439) (by decide +kernel)) (by decide +kernel)
theorem wd_440 : Cond.instanceMethod yX1_copyFrom ∈ lw_gd := gd_in (List.mem_of_getElem? (i := 440) (by decide +kernel)) (by decide +kernel)
theorem wd_441 : Cond.selects RX1 yX1_copyFrom yX1_copyFrom ∈ lw_gd := gd_in (List.mem_of_getElem? (i := 441) (by decide +kernel)) (by decide +kernel)
theorem wd_298 : Cond.code yX2_isCalledByAnother cX2_isCalledByAnother 1 (some .boolean) ∈ lw_gd := gd_in (List.mem_of_getElem? (i := 298) (by decide +kernel)) (by decide +kernel)
theorem wd_295 : Cond.methodLink RX0 115 yX2_isCalledByAnother ∈ lw_gd := gd_in (List.mem_of_getElem? (i := 295) (by decide +kernel)) (by decide +kernel)
theorem wd_296 : Cond.instanceMethod yX2_isCalledByAnother ∈ lw_gd := gd_in (List.mem_of_getElem? (i := 296) (by decide +kernel)) (by decide +kernel)
theorem wd_297 : Cond.selects RX2 yX2_isCalledByAnother yX2_isCalledByAnother ∈ lw_gd := gd_in (List.mem_of_getElem? (i := 297) (by decide +kernel)) (by decide +kernel)
theorem wd_302 : Cond.code yX0_release cX0_release 3 none ∈ lw_gd := gd_in (List.mem_of_getElem? (i := 302) (by decide +kernel)) (by decide +kernel)
theorem wd_299 : Cond.methodLink RX0 122 yX0_release ∈ lw_gd := gd_in (List.mem_of_getElem? (i := 299) (by decide +kernel)) (by decide +kernel)
theorem wd_301 : Cond.instanceMethod yX0_release ∈ lw_gd := gd_in (List.mem_of_getElem? (i := 301) (by decide +kernel)) (by decide +kernel)
theorem wd_1 : Cond.selects RX0 yX0_release yX0_release ∈ lw_gd := gd_in (List.mem_of_getElem? (i := 1) (by decide +kernel)) (by decide +kernel)
theorem wd_245 : Cond.code yX2_leaveCall cX2_leaveCall 2 none ∈ lw_gd := gd_in (List.mem_of_getElem? (i := 245) (by decide +kernel)) (by decide +kernel)
theorem wd_303 : Cond.methodLink RX0 125 yX2_leaveCall ∈ lw_gd := gd_in (List.mem_of_getElem? (i := 303) (by decide +kernel)) (by decide +kernel)
theorem wd_243 : Cond.instanceMethod yX2_leaveCall ∈ lw_gd := gd_in (List.mem_of_getElem? (i := 243) (by decide +kernel)) (by decide +kernel)
theorem wd_244 : Cond.selects RX2 yX2_leaveCall yX2_leaveCall ∈ lw_gd := gd_in (List.mem_of_getElem? (i := 244) (by decide +kernel)) (by decide +kernel)
theorem wd_257 : Cond.code yX1_becomeFree cX1_becomeFree 1 none ∈ lw_gd := gd_in (List.mem_of_getElem? (i := 257) (by decide +kernel)) (by decide +kernel)
theorem wd_304 : Cond.methodLink RX0 132 yX1_becomeFree ∈ lw_gd := gd_in (List.mem_of_getElem? (i := 304) (by decide +kernel)) (by decide +kernel)
theorem wd_255 : Cond.instanceMethod yX1_becomeFree ∈ lw_gd := gd_in (List.mem_of_getElem? (i := 255) (by decide +kernel)) (by decide +kernel)
theorem wd_256 : Cond.selects RX1 yX1_becomeFree yX1_becomeFree ∈ lw_gd := gd_in (List.mem_of_getElem? (i := 256) (by decide +kernel)) (by decide +kernel)
theorem wd_316 : Cond.code yX2_appendDigit cX2_appendDigit 2 none ∈ lw_gd := gd_in (List.mem_of_getElem? (i := 316) (by decide +kernel)) (by decide +kernel)
theorem wd_313 : Cond.methodLink RX0 138 yX2_appendDigit ∈ lw_gd := gd_in (List.mem_of_getElem? (i := 313) (by decide +kernel)) (by decide +kernel)
theorem wd_314 : Cond.instanceMethod yX2_appendDigit ∈ lw_gd := gd_in (List.mem_of_getElem? (i := 314) (by decide +kernel)) (by decide +kernel)
theorem wd_315 : Cond.selects RX2 yX2_appendDigit yX2_appendDigit ∈ lw_gd := gd_in (List.mem_of_getElem? (i := 315) (by decide +kernel)) (by decide +kernel)
theorem wd_333 : Cond.code yX0_takeStep cX0_takeStep 3 none ∈ lw_gd := gd_in (List.mem_of_getElem? (i := 333) (by decide +kernel)) (by decide +kernel)
theorem wd_330 : Cond.methodLink RX0 142 yX0_takeStep ∈ lw_gd := gd_in (List.mem_of_getElem? (i := 330) (by decide +kernel)) (by decide +kernel)
theorem wd_332 : Cond.instanceMethod yX0_takeStep ∈ lw_gd := gd_in (List.mem_of_getElem? (i := 332) (by decide +kernel)) (by decide +kernel)
theorem wd_2 : Cond.selects RX0 yX0_takeStep yX0_takeStep ∈ lw_gd := gd_in (List.mem_of_getElem? (i := 2) (by decide +kernel)) (by decide +kernel)
theorem wd_386 : Cond.code yX0_allotFinder cX0_allotFinder 4 none ∈ lw_gd := gd_in (List.mem_of_getElem? (i := 386) (by decide +kernel)) (by decide +kernel)
theorem wd_383 : Cond.methodLink RX0 145 yX0_allotFinder ∈ lw_gd := gd_in (List.mem_of_getElem? (i := 383) (by decide +kernel)) (by decide +kernel)
theorem wd_385 : Cond.instanceMethod yX0_allotFinder ∈ lw_gd := gd_in (List.mem_of_getElem? (i := 385) (by decide +kernel)) (by decide +kernel)
theorem wd_12 : Cond.selects RX0 yX0_allotFinder yX0_allotFinder ∈ lw_gd := gd_in (List.mem_of_getElem? (i := 12) (by decide +kernel)) (by decide +kernel)
theorem wd_402 : Cond.code yX0_countParked cX0_countParked 3 none ∈ lw_gd := gd_in (List.mem_of_getElem? (i := 402) (by decide +kernel)) (by decide +kernel)
theorem wd_399 : Cond.methodLink RX0 148 yX0_countParked ∈ lw_gd := gd_in (List.mem_of_getElem? (i := 399) (by decide +kernel)) (by decide +kernel)
theorem wd_401 : Cond.instanceMethod yX0_countParked ∈ lw_gd := gd_in (List.mem_of_getElem? (i := 401) (by decide +kernel)) (by decide +kernel)
theorem wd_15 : Cond.selects RX0 yX0_countParked yX0_countParked ∈ lw_gd := gd_in (List.mem_of_getElem? (i := 15) (by decide +kernel)) (by decide +kernel)
theorem wd_337 : Cond.code yX0_seek cX0_seek 3 none ∈ lw_gd := gd_in (List.mem_of_getElem? (i := 337) (by decide +kernel)) (by decide +kernel)
theorem wd_334 : Cond.methodLink RX0 155 yX0_seek ∈ lw_gd := gd_in (List.mem_of_getElem? (i := 334) (by decide +kernel)) (by decide +kernel)
theorem wd_336 : Cond.instanceMethod yX0_seek ∈ lw_gd := gd_in (List.mem_of_getElem? (i := 336) (by decide +kernel)) (by decide +kernel)
theorem wd_3 : Cond.selects RX0 yX0_seek yX0_seek ∈ lw_gd := gd_in (List.mem_of_getElem? (i := 3) (by decide +kernel)) (by decide +kernel)
theorem wd_342 : Cond.code yX0_awaitDigit cX0_awaitDigit 4 none ∈ lw_gd := gd_in (List.mem_of_getElem? (i := 342) (by decide +kernel)) (by decide +kernel)
theorem wd_339 : Cond.methodLink RX0 159 yX0_awaitDigit ∈ lw_gd := gd_in (List.mem_of_getElem? (i := 339) (by decide +kernel)) (by decide +kernel)
theorem wd_341 : Cond.instanceMethod yX0_awaitDigit ∈ lw_gd := gd_in (List.mem_of_getElem? (i := 341) (by decide +kernel)) (by decide +kernel)
theorem wd_4 : Cond.selects RX0 yX0_awaitDigit yX0_awaitDigit ∈ lw_gd := gd_in (List.mem_of_getElem? (i := 4) (by decide +kernel)) (by decide +kernel)
theorem wd_350 : Cond.code yX0_rise cX0_rise 3 none ∈ lw_gd := gd_in (List.mem_of_getElem? (i := 350) (by decide +kernel)) (by decide +kernel)
theorem wd_347 : Cond.methodLink RX0 163 yX0_rise ∈ lw_gd := gd_in (List.mem_of_getElem? (i := 347) (by decide +kernel)) (by decide +kernel)
theorem wd_349 : Cond.instanceMethod yX0_rise ∈ lw_gd := gd_in (List.mem_of_getElem? (i := 349) (by decide +kernel)) (by decide +kernel)
theorem wd_5 : Cond.selects RX0 yX0_rise yX0_rise ∈ lw_gd := gd_in (List.mem_of_getElem? (i := 5) (by decide +kernel)) (by decide +kernel)
theorem wd_358 : Cond.code yX0_hunt cX0_hunt 3 none ∈ lw_gd := gd_in (List.mem_of_getElem? (i := 358) (by decide +kernel)) (by decide +kernel)
theorem wd_355 : Cond.methodLink RX0 166 yX0_hunt ∈ lw_gd := gd_in (List.mem_of_getElem? (i := 355) (by decide +kernel)) (by decide +kernel)
theorem wd_357 : Cond.instanceMethod yX0_hunt ∈ lw_gd := gd_in (List.mem_of_getElem? (i := 357) (by decide +kernel)) (by decide +kernel)
theorem wd_7 : Cond.selects RX0 yX0_hunt yX0_hunt ∈ lw_gd := gd_in (List.mem_of_getElem? (i := 7) (by decide +kernel)) (by decide +kernel)
theorem wd_370 : Cond.code yX0_stepOn cX0_stepOn 5 none ∈ lw_gd := gd_in (List.mem_of_getElem? (i := 370) (by decide +kernel)) (by decide +kernel)
theorem wd_367 : Cond.methodLink RX0 169 yX0_stepOn ∈ lw_gd := gd_in (List.mem_of_getElem? (i := 367) (by decide +kernel)) (by decide +kernel)
theorem wd_369 : Cond.instanceMethod yX0_stepOn ∈ lw_gd := gd_in (List.mem_of_getElem? (i := 369) (by decide +kernel)) (by decide +kernel)
theorem wd_8 : Cond.selects RX0 yX0_stepOn yX0_stepOn ∈ lw_gd := gd_in (List.mem_of_getElem? (i := 8) (by decide +kernel)) (by decide +kernel)
theorem wd_374 : Cond.code yX0_ringOn cX0_ringOn 4 none ∈ lw_gd := gd_in (List.mem_of_getElem? (i := 374) (by decide +kernel)) (by decide +kernel)
theorem wd_371 : Cond.methodLink RX0 172 yX0_ringOn ∈ lw_gd := gd_in (List.mem_of_getElem? (i := 371) (by decide +kernel)) (by decide +kernel)
theorem wd_373 : Cond.instanceMethod yX0_ringOn ∈ lw_gd := gd_in (List.mem_of_getElem? (i := 373) (by decide +kernel)) (by decide +kernel)
theorem wd_9 : Cond.selects RX0 yX0_ringOn yX0_ringOn ∈ lw_gd := gd_in (List.mem_of_getElem? (i := 9) (by decide +kernel)) (by decide +kernel)
theorem wd_378 : Cond.code yX0_talkOn cX0_talkOn 5 none ∈ lw_gd := gd_in (List.mem_of_getElem? (i := 378) (by decide +kernel)) (by decide +kernel)
theorem wd_375 : Cond.methodLink RX0 175 yX0_talkOn ∈ lw_gd := gd_in (List.mem_of_getElem? (i := 375) (by decide +kernel)) (by decide +kernel)
theorem wd_377 : Cond.instanceMethod yX0_talkOn ∈ lw_gd := gd_in (List.mem_of_getElem? (i := 377) (by decide +kernel)) (by decide +kernel)
theorem wd_10 : Cond.selects RX0 yX0_talkOn yX0_talkOn ∈ lw_gd := gd_in (List.mem_of_getElem? (i := 10) (by decide +kernel)) (by decide +kernel)
theorem wd_382 : Cond.code yX0_soundOn cX0_soundOn 3 none ∈ lw_gd := gd_in (List.mem_of_getElem? (i := 382) (by decide +kernel)) (by decide +kernel)
theorem wd_379 : Cond.methodLink RX0 178 yX0_soundOn ∈ lw_gd := gd_in (List.mem_of_getElem? (i := 379) (by decide +kernel)) (by decide +kernel)
theorem wd_381 : Cond.instanceMethod yX0_soundOn ∈ lw_gd := gd_in (List.mem_of_getElem? (i := 381) (by decide +kernel)) (by decide +kernel)
theorem wd_11 : Cond.selects RX0 yX0_soundOn yX0_soundOn ∈ lw_gd := gd_in (List.mem_of_getElem? (i := 11) (by decide +kernel)) (by decide +kernel)
theorem wd_261 : Cond.code yX1_become cX1_become 2 none ∈ lw_gd := gd_in (List.mem_of_getElem? (i := 261) (by decide +kernel)) (by decide +kernel)
theorem wd_338 : Cond.methodLink RX0 184 yX1_become ∈ lw_gd := gd_in (List.mem_of_getElem? (i := 338) (by decide +kernel)) (by decide +kernel)
theorem wd_259 : Cond.instanceMethod yX1_become ∈ lw_gd := gd_in (List.mem_of_getElem? (i := 259) (by decide +kernel)) (by decide +kernel)
theorem wd_260 : Cond.selects RX1 yX1_become yX1_become ∈ lw_gd := gd_in (List.mem_of_getElem? (i := 260) (by decide +kernel)) (by decide +kernel)
theorem wd_346 : Cond.code yX2_takePulses cX2_takePulses 2 (some .int) ∈ lw_gd := gd_in (List.mem_of_getElem? (i := 346) (by decide +kernel)) (by decide +kernel)
theorem wd_343 : Cond.methodLink RX0 187 yX2_takePulses ∈ lw_gd := gd_in (List.mem_of_getElem? (i := 343) (by decide +kernel)) (by decide +kernel)
theorem wd_344 : Cond.instanceMethod yX2_takePulses ∈ lw_gd := gd_in (List.mem_of_getElem? (i := 344) (by decide +kernel)) (by decide +kernel)
theorem wd_345 : Cond.selects RX2 yX2_takePulses yX2_takePulses ∈ lw_gd := gd_in (List.mem_of_getElem? (i := 345) (by decide +kernel)) (by decide +kernel)
theorem wd_354 : Cond.code yX0_sound cX0_sound 5 none ∈ lw_gd := gd_in (List.mem_of_getElem? (i := 354) (by decide +kernel)) (by decide +kernel)
theorem wd_351 : Cond.methodLink RX0 200 yX0_sound ∈ lw_gd := gd_in (List.mem_of_getElem? (i := 351) (by decide +kernel)) (by decide +kernel)
theorem wd_353 : Cond.instanceMethod yX0_sound ∈ lw_gd := gd_in (List.mem_of_getElem? (i := 353) (by decide +kernel)) (by decide +kernel)
theorem wd_6 : Cond.selects RX0 yX0_sound yX0_sound ∈ lw_gd := gd_in (List.mem_of_getElem? (i := 6) (by decide +kernel)) (by decide +kernel)
theorem wd_362 : Cond.code yX0_holderOf cX0_holderOf 5 (some .int) ∈ lw_gd := gd_in (List.mem_of_getElem? (i := 362) (by decide +kernel)) (by decide +kernel)
theorem wd_359 : Cond.methodLink RX0 207 yX0_holderOf ∈ lw_gd := gd_in (List.mem_of_getElem? (i := 359) (by decide +kernel)) (by decide +kernel)
theorem wd_360 : Cond.instanceMethod yX0_holderOf ∈ lw_gd := gd_in (List.mem_of_getElem? (i := 360) (by decide +kernel)) (by decide +kernel)
theorem wd_361 : Cond.selects RX0 yX0_holderOf yX0_holderOf ∈ lw_gd := gd_in (List.mem_of_getElem? (i := 361) (by decide +kernel)) (by decide +kernel)
theorem wd_390 : Cond.code yX0_nextFreeFinder cX0_nextFreeFinder 3 (some .int) ∈ lw_gd := gd_in (List.mem_of_getElem? (i := 390) (by decide +kernel)) (by decide +kernel)
theorem wd_387 : Cond.methodLink RX0 220 yX0_nextFreeFinder ∈ lw_gd := gd_in (List.mem_of_getElem? (i := 387) (by decide +kernel)) (by decide +kernel)
theorem wd_389 : Cond.instanceMethod yX0_nextFreeFinder ∈ lw_gd := gd_in (List.mem_of_getElem? (i := 389) (by decide +kernel)) (by decide +kernel)
theorem wd_13 : Cond.selects RX0 yX0_nextFreeFinder yX0_nextFreeFinder ∈ lw_gd := gd_in (List.mem_of_getElem? (i := 13) (by decide +kernel)) (by decide +kernel)
theorem wd_394 : Cond.code yX0_firstWaitingLine cX0_firstWaitingLine 4 (some .int) ∈ lw_gd := gd_in (List.mem_of_getElem? (i := 394) (by decide +kernel)) (by decide +kernel)
theorem wd_391 : Cond.methodLink RX0 223 yX0_firstWaitingLine ∈ lw_gd := gd_in (List.mem_of_getElem? (i := 391) (by decide +kernel)) (by decide +kernel)
theorem wd_393 : Cond.instanceMethod yX0_firstWaitingLine ∈ lw_gd := gd_in (List.mem_of_getElem? (i := 393) (by decide +kernel)) (by decide +kernel)
theorem wd_14 : Cond.selects RX0 yX0_firstWaitingLine yX0_firstWaitingLine ∈ lw_gd := gd_in (List.mem_of_getElem? (i := 14) (by decide +kernel)) (by decide +kernel)
theorem wd_406 : Cond.code yX2_waitParked cX2_waitParked 2 none ∈ lw_gd := gd_in (List.mem_of_getElem? (i := 406) (by decide +kernel)) (by decide +kernel)
theorem wd_403 : Cond.methodLink RX0 226 yX2_waitParked ∈ lw_gd := gd_in (List.mem_of_getElem? (i := 403) (by decide +kernel)) (by decide +kernel)
theorem wd_404 : Cond.instanceMethod yX2_waitParked ∈ lw_gd := gd_in (List.mem_of_getElem? (i := 404) (by decide +kernel)) (by decide +kernel)
theorem wd_405 : Cond.selects RX2 yX2_waitParked yX2_waitParked ∈ lw_gd := gd_in (List.mem_of_getElem? (i := 405) (by decide +kernel)) (by decide +kernel)
theorem wd_398 : Cond.code yX2_waitsUnsought cX2_waitsUnsought 1 (some .boolean) ∈ lw_gd := gd_in (List.mem_of_getElem? (i := 398) (by decide +kernel)) (by decide +kernel)
theorem wd_395 : Cond.methodLink RX0 229 yX2_waitsUnsought ∈ lw_gd := gd_in (List.mem_of_getElem? (i := 395) (by decide +kernel)) (by decide +kernel)
theorem wd_396 : Cond.instanceMethod yX2_waitsUnsought ∈ lw_gd := gd_in (List.mem_of_getElem? (i := 396) (by decide +kernel)) (by decide +kernel)
theorem wd_397 : Cond.selects RX2 yX2_waitsUnsought yX2_waitsUnsought ∈ lw_gd := gd_in (List.mem_of_getElem? (i := 397) (by decide +kernel)) (by decide +kernel)
theorem wd_366 : Cond.code yX1_holdsConnector cX1_holdsConnector 1 (some .boolean) ∈ lw_gd := gd_in (List.mem_of_getElem? (i := 366) (by decide +kernel)) (by decide +kernel)
theorem wd_363 : Cond.methodLink RX0 232 yX1_holdsConnector ∈ lw_gd := gd_in (List.mem_of_getElem? (i := 363) (by decide +kernel)) (by decide +kernel)
theorem wd_364 : Cond.instanceMethod yX1_holdsConnector ∈ lw_gd := gd_in (List.mem_of_getElem? (i := 364) (by decide +kernel)) (by decide +kernel)
theorem wd_365 : Cond.selects RX1 yX1_holdsConnector yX1_holdsConnector ∈ lw_gd := gd_in (List.mem_of_getElem? (i := 365) (by decide +kernel)) (by decide +kernel)
theorem wd_329 : Cond.code yX0_pass cX0_pass 4 none ∈ lw_gd := gd_in (List.mem_of_getElem? (i := 329) (by decide +kernel)) (by decide +kernel)
theorem wd_447 : Cond.methodLink RX0 235 yX0_pass ∈ lw_gd := gd_in (List.mem_of_getElem? (i := 447) (by decide +kernel)) (by decide +kernel)
theorem wd_327 : Cond.instanceMethod yX0_pass ∈ lw_gd := gd_in (List.mem_of_getElem? (i := 327) (by decide +kernel)) (by decide +kernel)
theorem wd_328 : Cond.selects RX0 yX0_pass yX0_pass ∈ lw_gd := gd_in (List.mem_of_getElem? (i := 328) (by decide +kernel)) (by decide +kernel)
theorem wd_418 : Cond.code yX0_partnerOf cX0_partnerOf 3 (some .int) ∈ lw_gd := gd_in (List.mem_of_getElem? (i := 418) (by decide +kernel)) (by decide +kernel)
theorem wd_415 : Cond.methodLink RX0 248 yX0_partnerOf ∈ lw_gd := gd_in (List.mem_of_getElem? (i := 415) (by decide +kernel)) (by decide +kernel)
theorem wd_417 : Cond.instanceMethod yX0_partnerOf ∈ lw_gd := gd_in (List.mem_of_getElem? (i := 417) (by decide +kernel)) (by decide +kernel)
theorem wd_16 : Cond.selects RX0 yX0_partnerOf yX0_partnerOf ∈ lw_gd := gd_in (List.mem_of_getElem? (i := 16) (by decide +kernel)) (by decide +kernel)
theorem wd_426 : Cond.code yX0_placeOf cX0_placeOf 4 (some .int) ∈ lw_gd := gd_in (List.mem_of_getElem? (i := 426) (by decide +kernel)) (by decide +kernel)
theorem wd_423 : Cond.methodLink RX0 252 yX0_placeOf ∈ lw_gd := gd_in (List.mem_of_getElem? (i := 423) (by decide +kernel)) (by decide +kernel)
theorem wd_425 : Cond.instanceMethod yX0_placeOf ∈ lw_gd := gd_in (List.mem_of_getElem? (i := 425) (by decide +kernel)) (by decide +kernel)
theorem wd_17 : Cond.selects RX0 yX0_placeOf yX0_placeOf ∈ lw_gd := gd_in (List.mem_of_getElem? (i := 17) (by decide +kernel)) (by decide +kernel)
theorem wd_422 : Cond.code yX2_callsAnother cX2_callsAnother 1 (some .boolean) ∈ lw_gd := gd_in (List.mem_of_getElem? (i := 422) (by decide +kernel)) (by decide +kernel)
theorem wd_419 : Cond.methodLink RX0 258 yX2_callsAnother ∈ lw_gd := gd_in (List.mem_of_getElem? (i := 419) (by decide +kernel)) (by decide +kernel)
theorem wd_420 : Cond.instanceMethod yX2_callsAnother ∈ lw_gd := gd_in (List.mem_of_getElem? (i := 420) (by decide +kernel)) (by decide +kernel)
theorem wd_421 : Cond.selects RX2 yX2_callsAnother yX2_callsAnother ∈ lw_gd := gd_in (List.mem_of_getElem? (i := 421) (by decide +kernel)) (by decide +kernel)
theorem wd_474 : Cond.code yX0_freeFinders cX0_freeFinders 3 (some .int) ∈ lw_gd := gd_in (List.mem_of_getElem? (i := 474) (by decide +kernel)) (by decide +kernel)
theorem wd_471 : Cond.methodLink RX0 261 yX0_freeFinders ∈ lw_gd := gd_in (List.mem_of_getElem? (i := 471) (by decide +kernel)) (by decide +kernel)
theorem wd_473 : Cond.instanceMethod yX0_freeFinders ∈ lw_gd := gd_in (List.mem_of_getElem? (i := 473) (by decide +kernel)) (by decide +kernel)
theorem wd_18 : Cond.selects RX0 yX0_freeFinders yX0_freeFinders ∈ lw_gd := gd_in (List.mem_of_getElem? (i := 18) (by decide +kernel)) (by decide +kernel)
theorem wd_478 : Cond.code yX0_freeConnectors cX0_freeConnectors 3 (some .int) ∈ lw_gd := gd_in (List.mem_of_getElem? (i := 478) (by decide +kernel)) (by decide +kernel)
theorem wd_475 : Cond.methodLink RX0 264 yX0_freeConnectors ∈ lw_gd := gd_in (List.mem_of_getElem? (i := 475) (by decide +kernel)) (by decide +kernel)
theorem wd_477 : Cond.instanceMethod yX0_freeConnectors ∈ lw_gd := gd_in (List.mem_of_getElem? (i := 477) (by decide +kernel)) (by decide +kernel)
theorem wd_19 : Cond.selects RX0 yX0_freeConnectors yX0_freeConnectors ∈ lw_gd := gd_in (List.mem_of_getElem? (i := 19) (by decide +kernel)) (by decide +kernel)
theorem wd_482 : Cond.code yX0_sumOfMeters cX0_sumOfMeters 3 (some .int) ∈ lw_gd := gd_in (List.mem_of_getElem? (i := 482) (by decide +kernel)) (by decide +kernel)
theorem wd_479 : Cond.methodLink RX0 267 yX0_sumOfMeters ∈ lw_gd := gd_in (List.mem_of_getElem? (i := 479) (by decide +kernel)) (by decide +kernel)
theorem wd_481 : Cond.instanceMethod yX0_sumOfMeters ∈ lw_gd := gd_in (List.mem_of_getElem? (i := 481) (by decide +kernel)) (by decide +kernel)
theorem wd_20 : Cond.selects RX0 yX0_sumOfMeters yX0_sumOfMeters ∈ lw_gd := gd_in (List.mem_of_getElem? (i := 20) (by decide +kernel)) (by decide +kernel)
theorem wd_486 : Cond.code yX0_liftedLines cX0_liftedLines 3 (some .int) ∈ lw_gd := gd_in (List.mem_of_getElem? (i := 486) (by decide +kernel)) (by decide +kernel)
theorem wd_483 : Cond.methodLink RX0 270 yX0_liftedLines ∈ lw_gd := gd_in (List.mem_of_getElem? (i := 483) (by decide +kernel)) (by decide +kernel)
theorem wd_485 : Cond.instanceMethod yX0_liftedLines ∈ lw_gd := gd_in (List.mem_of_getElem? (i := 485) (by decide +kernel)) (by decide +kernel)
theorem wd_21 : Cond.selects RX0 yX0_liftedLines yX0_liftedLines ∈ lw_gd := gd_in (List.mem_of_getElem? (i := 21) (by decide +kernel)) (by decide +kernel)
theorem wd_254 : Cond.methodLink RX1 42 yX1_becomeFree ∈ lw_gd := gd_in (List.mem_of_getElem? (i := 254) (by decide +kernel)) (by decide +kernel)
theorem wd_258 : Cond.methodLink RX1 45 yX1_become ∈ lw_gd := gd_in (List.mem_of_getElem? (i := 258) (by decide +kernel)) (by decide +kernel)
theorem wd_242 : Cond.methodLink RX2 40 yX2_leaveCall ∈ lw_gd := gd_in (List.mem_of_getElem? (i := 242) (by decide +kernel)) (by decide +kernel)
theorem wd_229 : Cond.code yX4_isWithin cX4_isWithin 3 (some .boolean) ∈ lw_gd := gd_in (List.mem_of_getElem? (i := 229) (by decide +kernel)) (by decide +kernel)
theorem wd_227 : Cond.methodLink RX4 30 yX4_isWithin ∈ lw_gd := gd_in (List.mem_of_getElem? (i := 227) (by decide +kernel)) (by decide +kernel)
theorem wd_228 : Cond.static yX4_isWithin ∈ lw_gd := gd_in (List.mem_of_getElem? (i := 228) (by decide +kernel)) (by decide +kernel)
theorem wd_282 : Cond.code yX4_isLine cX4_isLine 1 (some .boolean) ∈ lw_gd := gd_in (List.mem_of_getElem? (i := 282) (by decide +kernel)) (by decide +kernel)
theorem wd_280 : Cond.methodLink RX4 50 yX4_isLine ∈ lw_gd := gd_in (List.mem_of_getElem? (i := 280) (by decide +kernel)) (by decide +kernel)
theorem wd_281 : Cond.static yX4_isLine ∈ lw_gd := gd_in (List.mem_of_getElem? (i := 281) (by decide +kernel)) (by decide +kernel)
theorem wd_233 : Cond.code yX0_renew cX0_renew 4 none ∈ lw_gd := gd_in (List.mem_of_getElem? (i := 233) (by decide +kernel)) (by decide +kernel)
theorem wd_230 : Cond.methodLink RX4 38 yX0_renew ∈ lw_gd := gd_in (List.mem_of_getElem? (i := 230) (by decide +kernel)) (by decide +kernel)
theorem wd_231 : Cond.instanceMethod yX0_renew ∈ lw_gd := gd_in (List.mem_of_getElem? (i := 231) (by decide +kernel)) (by decide +kernel)
theorem wd_232 : Cond.selects RX0 yX0_renew yX0_renew ∈ lw_gd := gd_in (List.mem_of_getElem? (i := 232) (by decide +kernel)) (by decide +kernel)
theorem wd_271 : Cond.code yX0_changeSetting cX0_changeSetting 4 (some .int) ∈ lw_gd := gd_in (List.mem_of_getElem? (i := 271) (by decide +kernel)) (by decide +kernel)
theorem wd_268 : Cond.methodLink RX4 46 yX0_changeSetting ∈ lw_gd := gd_in (List.mem_of_getElem? (i := 268) (by decide +kernel)) (by decide +kernel)
theorem wd_269 : Cond.instanceMethod yX0_changeSetting ∈ lw_gd := gd_in (List.mem_of_getElem? (i := 269) (by decide +kernel)) (by decide +kernel)
theorem wd_270 : Cond.selects RX0 yX0_changeSetting yX0_changeSetting ∈ lw_gd := gd_in (List.mem_of_getElem? (i := 270) (by decide +kernel)) (by decide +kernel)
theorem wd_286 : Cond.code yX0_liftLine cX0_liftLine 3 (some .int) ∈ lw_gd := gd_in (List.mem_of_getElem? (i := 286) (by decide +kernel)) (by decide +kernel)
theorem wd_283 : Cond.methodLink RX4 54 yX0_liftLine ∈ lw_gd := gd_in (List.mem_of_getElem? (i := 283) (by decide +kernel)) (by decide +kernel)
theorem wd_284 : Cond.instanceMethod yX0_liftLine ∈ lw_gd := gd_in (List.mem_of_getElem? (i := 284) (by decide +kernel)) (by decide +kernel)
theorem wd_285 : Cond.selects RX0 yX0_liftLine yX0_liftLine ∈ lw_gd := gd_in (List.mem_of_getElem? (i := 285) (by decide +kernel)) (by decide +kernel)
theorem wd_294 : Cond.code yX0_hangLine cX0_hangLine 4 (some .int) ∈ lw_gd := gd_in (List.mem_of_getElem? (i := 294) (by decide +kernel)) (by decide +kernel)
theorem wd_291 : Cond.methodLink RX4 58 yX0_hangLine ∈ lw_gd := gd_in (List.mem_of_getElem? (i := 291) (by decide +kernel)) (by decide +kernel)
theorem wd_292 : Cond.instanceMethod yX0_hangLine ∈ lw_gd := gd_in (List.mem_of_getElem? (i := 292) (by decide +kernel)) (by decide +kernel)
theorem wd_293 : Cond.selects RX0 yX0_hangLine yX0_hangLine ∈ lw_gd := gd_in (List.mem_of_getElem? (i := 293) (by decide +kernel)) (by decide +kernel)
theorem wd_312 : Cond.code yX0_dialDigit cX0_dialDigit 4 (some .int) ∈ lw_gd := gd_in (List.mem_of_getElem? (i := 312) (by decide +kernel)) (by decide +kernel)
theorem wd_309 : Cond.methodLink RX4 61 yX0_dialDigit ∈ lw_gd := gd_in (List.mem_of_getElem? (i := 309) (by decide +kernel)) (by decide +kernel)
theorem wd_310 : Cond.instanceMethod yX0_dialDigit ∈ lw_gd := gd_in (List.mem_of_getElem? (i := 310) (by decide +kernel)) (by decide +kernel)
theorem wd_311 : Cond.selects RX0 yX0_dialDigit yX0_dialDigit ∈ lw_gd := gd_in (List.mem_of_getElem? (i := 311) (by decide +kernel)) (by decide +kernel)
theorem wd_324 : Cond.code yX0_hasTimeFor cX0_hasTimeFor 2 (some .boolean) ∈ lw_gd := gd_in (List.mem_of_getElem? (i := 324) (by decide +kernel)) (by decide +kernel)
theorem wd_321 : Cond.methodLink RX4 64 yX0_hasTimeFor ∈ lw_gd := gd_in (List.mem_of_getElem? (i := 321) (by decide +kernel)) (by decide +kernel)
theorem wd_322 : Cond.instanceMethod yX0_hasTimeFor ∈ lw_gd := gd_in (List.mem_of_getElem? (i := 322) (by decide +kernel)) (by decide +kernel)
theorem wd_323 : Cond.selects RX0 yX0_hasTimeFor yX0_hasTimeFor ∈ lw_gd := gd_in (List.mem_of_getElem? (i := 323) (by decide +kernel)) (by decide +kernel)
theorem wd_326 : Cond.methodLink RX4 67 yX0_pass ∈ lw_gd := gd_in (List.mem_of_getElem? (i := 326) (by decide +kernel)) (by decide +kernel)
theorem wd_414 : Cond.code yX0_numberOfLine cX0_numberOfLine 4 (some .int) ∈ lw_gd := gd_in (List.mem_of_getElem? (i := 414) (by decide +kernel)) (by decide +kernel)
theorem wd_411 : Cond.methodLink RX4 74 yX0_numberOfLine ∈ lw_gd := gd_in (List.mem_of_getElem? (i := 411) (by decide +kernel)) (by decide +kernel)
theorem wd_412 : Cond.instanceMethod yX0_numberOfLine ∈ lw_gd := gd_in (List.mem_of_getElem? (i := 412) (by decide +kernel)) (by decide +kernel)
theorem wd_413 : Cond.selects RX0 yX0_numberOfLine yX0_numberOfLine ∈ lw_gd := gd_in (List.mem_of_getElem? (i := 413) (by decide +kernel)) (by decide +kernel)
theorem wd_491 : Cond.methodLink RX4 77 yX0_finderAt ∈ lw_gd := gd_in (List.mem_of_getElem? (i := 491) (by decide +kernel)) (by decide +kernel)
theorem wd_495 : Cond.code yX1_numberFor cX1_numberFor 2 (some .int) ∈ lw_gd := gd_in (List.mem_of_getElem? (i := 495) (by decide +kernel)) (by decide +kernel)
theorem wd_492 : Cond.methodLink RX4 81 yX1_numberFor ∈ lw_gd := gd_in (List.mem_of_getElem? (i := 492) (by decide +kernel)) (by decide +kernel)
theorem wd_493 : Cond.instanceMethod yX1_numberFor ∈ lw_gd := gd_in (List.mem_of_getElem? (i := 493) (by decide +kernel)) (by decide +kernel)
theorem wd_494 : Cond.selects RX1 yX1_numberFor yX1_numberFor ∈ lw_gd := gd_in (List.mem_of_getElem? (i := 494) (by decide +kernel)) (by decide +kernel)
theorem wd_500 : Cond.methodLink RX4 89 yX0_holderOf ∈ lw_gd := gd_in (List.mem_of_getElem? (i := 500) (by decide +kernel)) (by decide +kernel)
theorem wd_470 : Cond.code yX0_numberFor cX0_numberFor 2 (some .int) ∈ lw_gd := gd_in (List.mem_of_getElem? (i := 470) (by decide +kernel)) (by decide +kernel)
theorem wd_467 : Cond.methodLink RX4 95 yX0_numberFor ∈ lw_gd := gd_in (List.mem_of_getElem? (i := 467) (by decide +kernel)) (by decide +kernel)
theorem wd_468 : Cond.instanceMethod yX0_numberFor ∈ lw_gd := gd_in (List.mem_of_getElem? (i := 468) (by decide +kernel)) (by decide +kernel)
theorem wd_469 : Cond.selects RX0 yX0_numberFor yX0_numberFor ∈ lw_gd := gd_in (List.mem_of_getElem? (i := 469) (by decide +kernel)) (by decide +kernel)
theorem wd_508 : Cond.code yX0_traceFrom cX0_traceFrom 5 (some .int) ∈ lw_gd := gd_in (List.mem_of_getElem? (i := 508) (by decide +kernel)) (by decide +kernel)
theorem wd_505 : Cond.methodLink RX4 96 yX0_traceFrom ∈ lw_gd := gd_in (List.mem_of_getElem? (i := 505) (by decide +kernel)) (by decide +kernel)
theorem wd_506 : Cond.instanceMethod yX0_traceFrom ∈ lw_gd := gd_in (List.mem_of_getElem? (i := 506) (by decide +kernel)) (by decide +kernel)
theorem wd_507 : Cond.selects RX0 yX0_traceFrom yX0_traceFrom ∈ lw_gd := gd_in (List.mem_of_getElem? (i := 507) (by decide +kernel)) (by decide +kernel)
theorem wd_434 : Cond.code yX0_copyFrom cX0_copyFrom 3 none ∈ lw_gd := gd_in (List.mem_of_getElem? (i := 434) (by decide +kernel)) (by decide +kernel)
theorem wd_431 : Cond.methodLink RX4 99 yX0_copyFrom ∈ lw_gd := gd_in (List.mem_of_getElem? (i := 431) (by decide +kernel)) (by decide +kernel)
theorem wd_432 : Cond.instanceMethod yX0_copyFrom ∈ lw_gd := gd_in (List.mem_of_getElem? (i := 432) (by decide +kernel)) (by decide +kernel)
theorem wd_433 : Cond.selects RX0 yX0_copyFrom yX0_copyFrom ∈ lw_gd := gd_in (List.mem_of_getElem? (i := 433) (by decide +kernel)) (by decide +kernel)
theorem wd_446 : Cond.code yX0_ticksUntil cX0_ticksUntil 5 (some .int) ∈ lw_gd := gd_in (List.mem_of_getElem? (i := 446) (by decide +kernel)) (by decide +kernel)
theorem wd_443 : Cond.methodLink RX4 103 yX0_ticksUntil ∈ lw_gd := gd_in (List.mem_of_getElem? (i := 443) (by decide +kernel)) (by decide +kernel)
theorem wd_444 : Cond.instanceMethod yX0_ticksUntil ∈ lw_gd := gd_in (List.mem_of_getElem? (i := 444) (by decide +kernel)) (by decide +kernel)
theorem wd_445 : Cond.selects RX0 yX0_ticksUntil yX0_ticksUntil ∈ lw_gd := gd_in (List.mem_of_getElem? (i := 445) (by decide +kernel)) (by decide +kernel)
end
section
def wsX0_init : List Cond := .code yX0_init cX0_init 2 none :: lw_gd
def rmX0_init : Room := { frames := 2, cells := 25, slots := 228, locals := 44 }
def wsX0_lineAt : List Cond := .code yX0_lineAt cX0_lineAt 2 (some (.object "RotaryExchange$Line")) :: lw_gd
def rmX0_lineAt : Room := { frames := 0, cells := 0, slots := 0, locals := 0 }
def wsX0_finderAt : List Cond := .code yX0_finderAt cX0_finderAt 2 (some (.object "RotaryExchange$Finder")) :: lw_gd
def rmX0_finderAt : Room := { frames := 0, cells := 0, slots := 0, locals := 0 }
def wsX0_settingAt : List Cond := .code yX0_settingAt cX0_settingAt 2 (some .int) :: lw_gd
def rmX0_settingAt : Room := { frames := 0, cells := 0, slots := 0, locals := 0 }
def wsX0_changeSetting : List Cond := .code yX0_changeSetting cX0_changeSetting 4 (some .int) :: lw_gd
def rmX0_changeSetting : Room := { frames := 1, cells := 0, slots := 0, locals := 21 }
def wsX0_renew : List Cond := .code yX0_renew cX0_renew 4 none :: lw_gd
def rmX0_renew : Room := { frames := 3, cells := 0, slots := 0, locals := 61 }
def wsX0_copyFrom : List Cond := .code yX0_copyFrom cX0_copyFrom 3 none :: lw_gd
def rmX0_copyFrom : Room := { frames := 1, cells := 0, slots := 0, locals := 21 }
def wsX0_liftLine : List Cond := .code yX0_liftLine cX0_liftLine 3 (some .int) :: lw_gd
def rmX0_liftLine : Room := { frames := 1, cells := 0, slots := 0, locals := 21 }
def wsX0_hangLine : List Cond := .code yX0_hangLine cX0_hangLine 4 (some .int) :: lw_gd
def rmX0_hangLine : Room := { frames := 3, cells := 0, slots := 0, locals := 63 }
def wsX0_release : List Cond := .code yX0_release cX0_release 3 none :: lw_gd
def rmX0_release : Room := { frames := 2, cells := 0, slots := 0, locals := 41 }
def wsX0_dialDigit : List Cond := .code yX0_dialDigit cX0_dialDigit 4 (some .int) :: lw_gd
def rmX0_dialDigit : Room := { frames := 1, cells := 0, slots := 0, locals := 21 }
def wsX0_hasTimeFor : List Cond := .code yX0_hasTimeFor cX0_hasTimeFor 2 (some .boolean) :: lw_gd
def rmX0_hasTimeFor : Room := { frames := 0, cells := 0, slots := 0, locals := 0 }
def wsX0_pass : List Cond := .code yX0_pass cX0_pass 4 none :: lw_gd
def rmX0_pass : Room := { frames := 4, cells := 0, slots := 0, locals := 91 }
def wsX0_takeStep : List Cond := .code yX0_takeStep cX0_takeStep 3 none :: lw_gd
def rmX0_takeStep : Room := { frames := 3, cells := 0, slots := 0, locals := 69 }
def wsX0_seek : List Cond := .code yX0_seek cX0_seek 3 none :: lw_gd
def rmX0_seek : Room := { frames := 1, cells := 0, slots := 0, locals := 21 }
def wsX0_awaitDigit : List Cond := .code yX0_awaitDigit cX0_awaitDigit 4 none :: lw_gd
def rmX0_awaitDigit : Room := { frames := 2, cells := 0, slots := 0, locals := 41 }
def wsX0_rise : List Cond := .code yX0_rise cX0_rise 3 none :: lw_gd
def rmX0_rise : Room := { frames := 2, cells := 0, slots := 0, locals := 45 }
def wsX0_hunt : List Cond := .code yX0_hunt cX0_hunt 3 none :: lw_gd
def rmX0_hunt : Room := { frames := 2, cells := 0, slots := 0, locals := 45 }
def wsX0_stepOn : List Cond := .code yX0_stepOn cX0_stepOn 5 none :: lw_gd
def rmX0_stepOn : Room := { frames := 2, cells := 0, slots := 0, locals := 45 }
def wsX0_ringOn : List Cond := .code yX0_ringOn cX0_ringOn 4 none :: lw_gd
def rmX0_ringOn : Room := { frames := 2, cells := 0, slots := 0, locals := 45 }
def wsX0_talkOn : List Cond := .code yX0_talkOn cX0_talkOn 5 none :: lw_gd
def rmX0_talkOn : Room := { frames := 2, cells := 0, slots := 0, locals := 41 }
def wsX0_soundOn : List Cond := .code yX0_soundOn cX0_soundOn 3 none :: lw_gd
def rmX0_soundOn : Room := { frames := 2, cells := 0, slots := 0, locals := 41 }
def wsX0_sound : List Cond := .code yX0_sound cX0_sound 5 none :: lw_gd
def rmX0_sound : Room := { frames := 1, cells := 0, slots := 0, locals := 21 }
def wsX0_allotFinder : List Cond := .code yX0_allotFinder cX0_allotFinder 4 none :: lw_gd
def rmX0_allotFinder : Room := { frames := 2, cells := 0, slots := 0, locals := 44 }
def wsX0_countParked : List Cond := .code yX0_countParked cX0_countParked 3 none :: lw_gd
def rmX0_countParked : Room := { frames := 1, cells := 0, slots := 0, locals := 21 }
def wsX0_nextFreeFinder : List Cond := .code yX0_nextFreeFinder cX0_nextFreeFinder 3 (some .int) :: lw_gd
def rmX0_nextFreeFinder : Room := { frames := 1, cells := 0, slots := 0, locals := 21 }
def wsX0_firstWaitingLine : List Cond := .code yX0_firstWaitingLine cX0_firstWaitingLine 4 (some .int) :: lw_gd
def rmX0_firstWaitingLine : Room := { frames := 1, cells := 0, slots := 0, locals := 21 }
def wsX0_holderOf : List Cond := .code yX0_holderOf cX0_holderOf 5 (some .int) :: lw_gd
def rmX0_holderOf : Room := { frames := 1, cells := 0, slots := 0, locals := 21 }
def wsX0_ticksUntil : List Cond := .code yX0_ticksUntil cX0_ticksUntil 5 (some .int) :: lw_gd
def rmX0_ticksUntil : Room := { frames := 5, cells := 0, slots := 0, locals := 114 }
def wsX0_numberOfLine : List Cond := .code yX0_numberOfLine cX0_numberOfLine 4 (some .int) :: lw_gd
def rmX0_numberOfLine : Room := { frames := 2, cells := 0, slots := 0, locals := 44 }
def wsX0_partnerOf : List Cond := .code yX0_partnerOf cX0_partnerOf 3 (some .int) :: lw_gd
def rmX0_partnerOf : Room := { frames := 1, cells := 0, slots := 0, locals := 21 }
def wsX0_placeOf : List Cond := .code yX0_placeOf cX0_placeOf 4 (some .int) :: lw_gd
def rmX0_placeOf : Room := { frames := 1, cells := 0, slots := 0, locals := 21 }
def wsX0_traceFrom : List Cond := .code yX0_traceFrom cX0_traceFrom 5 (some .int) :: lw_gd
def rmX0_traceFrom : Room := { frames := 1, cells := 0, slots := 0, locals := 21 }
def wsX0_numberFor : List Cond := .code yX0_numberFor cX0_numberFor 2 (some .int) :: lw_gd
def rmX0_numberFor : Room := { frames := 2, cells := 0, slots := 0, locals := 43 }
def wsX0_freeFinders : List Cond := .code yX0_freeFinders cX0_freeFinders 3 (some .int) :: lw_gd
def rmX0_freeFinders : Room := { frames := 1, cells := 0, slots := 0, locals := 21 }
def wsX0_freeConnectors : List Cond := .code yX0_freeConnectors cX0_freeConnectors 3 (some .int) :: lw_gd
def rmX0_freeConnectors : Room := { frames := 1, cells := 0, slots := 0, locals := 21 }
def wsX0_sumOfMeters : List Cond := .code yX0_sumOfMeters cX0_sumOfMeters 3 (some .int) :: lw_gd
def rmX0_sumOfMeters : Room := { frames := 1, cells := 0, slots := 0, locals := 21 }
def wsX0_liftedLines : List Cond := .code yX0_liftedLines cX0_liftedLines 3 (some .int) :: lw_gd
def rmX0_liftedLines : Room := { frames := 1, cells := 0, slots := 0, locals := 21 }
def wsX1_init : List Cond := .code yX1_init cX1_init 1 none :: lw_gd
def rmX1_init : Room := { frames := 1, cells := 0, slots := 0, locals := 24 }
def wsX1_renew : List Cond := .code yX1_renew cX1_renew 1 none :: lw_gd
def rmX1_renew : Room := { frames := 2, cells := 0, slots := 0, locals := 41 }
def wsX1_copyFrom : List Cond := .code yX1_copyFrom cX1_copyFrom 2 none :: lw_gd
def rmX1_copyFrom : Room := { frames := 0, cells := 0, slots := 0, locals := 0 }
def wsX1_become : List Cond := .code yX1_become cX1_become 2 none :: lw_gd
def rmX1_become : Room := { frames := 0, cells := 0, slots := 0, locals := 0 }
def wsX1_becomeFree : List Cond := .code yX1_becomeFree cX1_becomeFree 1 none :: lw_gd
def rmX1_becomeFree : Room := { frames := 1, cells := 0, slots := 0, locals := 21 }
def wsX1_holdsConnector : List Cond := .code yX1_holdsConnector cX1_holdsConnector 1 (some .boolean) :: lw_gd
def rmX1_holdsConnector : Room := { frames := 0, cells := 0, slots := 0, locals := 0 }
def wsX1_numberFor : List Cond := .code yX1_numberFor cX1_numberFor 2 (some .int) :: lw_gd
def rmX1_numberFor : Room := { frames := 0, cells := 0, slots := 0, locals := 0 }
def wsX2_init : List Cond := .code yX2_init cX2_init 1 none :: lw_gd
def rmX2_init : Room := { frames := 1, cells := 0, slots := 0, locals := 24 }
def wsX2_renew : List Cond := .code yX2_renew cX2_renew 1 none :: lw_gd
def rmX2_renew : Room := { frames := 1, cells := 0, slots := 0, locals := 21 }
def wsX2_copyFrom : List Cond := .code yX2_copyFrom cX2_copyFrom 2 none :: lw_gd
def rmX2_copyFrom : Room := { frames := 0, cells := 0, slots := 0, locals := 0 }
def wsX2_waitsUnsought : List Cond := .code yX2_waitsUnsought cX2_waitsUnsought 1 (some .boolean) :: lw_gd
def rmX2_waitsUnsought : Room := { frames := 0, cells := 0, slots := 0, locals := 0 }
def wsX2_isCalledByAnother : List Cond := .code yX2_isCalledByAnother cX2_isCalledByAnother 1 (some .boolean) :: lw_gd
def rmX2_isCalledByAnother : Room := { frames := 0, cells := 0, slots := 0, locals := 0 }
def wsX2_callsAnother : List Cond := .code yX2_callsAnother cX2_callsAnother 1 (some .boolean) :: lw_gd
def rmX2_callsAnother : Room := { frames := 0, cells := 0, slots := 0, locals := 0 }
def wsX2_appendDigit : List Cond := .code yX2_appendDigit cX2_appendDigit 2 none :: lw_gd
def rmX2_appendDigit : Room := { frames := 0, cells := 0, slots := 0, locals := 0 }
def wsX2_takePulses : List Cond := .code yX2_takePulses cX2_takePulses 2 (some .int) :: lw_gd
def rmX2_takePulses : Room := { frames := 0, cells := 0, slots := 0, locals := 0 }
def wsX2_leaveCall : List Cond := .code yX2_leaveCall cX2_leaveCall 2 none :: lw_gd
def rmX2_leaveCall : Room := { frames := 0, cells := 0, slots := 0, locals := 0 }
def wsX2_waitParked : List Cond := .code yX2_waitParked cX2_waitParked 2 none :: lw_gd
def rmX2_waitParked : Room := { frames := 0, cells := 0, slots := 0, locals := 0 }
def wsX3_init : List Cond := .code yX3_init cX3_init 1 none :: lw_gd
def rmX3_init : Room := { frames := 1, cells := 1, slots := 60, locals := 24 }
def wsX4_init : List Cond := .code yX4_init cX4_init 1 none :: lw_gd
def rmX4_init : Room := { frames := 3, cells := 55, slots := 552, locals := 65 }
def wsX4_setUp : List Cond := .code yX4_setUp cX4_setUp 4 (some .int) :: lw_gd
def rmX4_setUp : Room := { frames := 4, cells := 0, slots := 0, locals := 84 }
def wsX4_set : List Cond := .code yX4_set cX4_set 3 (some .int) :: lw_gd
def rmX4_set : Room := { frames := 2, cells := 0, slots := 0, locals := 44 }
def wsX4_lift : List Cond := .code yX4_lift cX4_lift 2 (some .int) :: lw_gd
def rmX4_lift : Room := { frames := 2, cells := 0, slots := 0, locals := 43 }
def wsX4_hang : List Cond := .code yX4_hang cX4_hang 2 (some .int) :: lw_gd
def rmX4_hang : Room := { frames := 4, cells := 0, slots := 0, locals := 86 }
def wsX4_dial : List Cond := .code yX4_dial cX4_dial 3 (some .int) :: lw_gd
def rmX4_dial : Room := { frames := 2, cells := 0, slots := 0, locals := 44 }
def wsX4_tick : List Cond := .code yX4_tick cX4_tick 2 (some .int) :: lw_gd
def rmX4_tick : Room := { frames := 5, cells := 0, slots := 0, locals := 114 }
def wsX4_line : List Cond := .code yX4_line cX4_line 3 (some .int) :: lw_gd
def rmX4_line : Room := { frames := 3, cells := 0, slots := 0, locals := 67 }
def wsX4_finder : List Cond := .code yX4_finder cX4_finder 3 (some .int) :: lw_gd
def rmX4_finder : Room := { frames := 1, cells := 0, slots := 0, locals := 22 }
def wsX4_connector : List Cond := .code yX4_connector cX4_connector 3 (some .int) :: lw_gd
def rmX4_connector : Room := { frames := 2, cells := 0, slots := 0, locals := 45 }
def wsX4_count : List Cond := .code yX4_count cX4_count 2 (some .int) :: lw_gd
def rmX4_count : Room := { frames := 3, cells := 0, slots := 0, locals := 64 }
def wsX4_trace : List Cond := .code yX4_trace cX4_trace 3 (some .int) :: lw_gd
def rmX4_trace : Room := { frames := 2, cells := 0, slots := 0, locals := 45 }
def wsX4_until : List Cond := .code yX4_until cX4_until 4 (some .int) :: lw_gd
def rmX4_until : Room := { frames := 6, cells := 0, slots := 0, locals := 138 }
def wsX4_save : List Cond := .code yX4_save cX4_save 3 (some .int) :: lw_gd
def rmX4_save : Room := { frames := 3, cells := 26, slots := 244, locals := 65 }
def wsX4_restore : List Cond := .code yX4_restore cX4_restore 3 (some .int) :: lw_gd
def rmX4_restore : Room := { frames := 2, cells := 0, slots := 0, locals := 43 }
def wsX4_isLine : List Cond := .code yX4_isLine cX4_isLine 1 (some .boolean) :: lw_gd
def rmX4_isLine : Room := { frames := 1, cells := 0, slots := 0, locals := 22 }
def wsX4_isWithin : List Cond := .code yX4_isWithin cX4_isWithin 3 (some .boolean) :: lw_gd
def rmX4_isWithin : Room := { frames := 0, cells := 0, slots := 0, locals := 0 }
def wsL_cell : List Cond := .code yL_cell cL_cell 3 (some .int) :: lw_gd
def rmL_cell : Room := { frames := 0, cells := 0, slots := 0, locals := 0 }
def wsL_fits : List Cond := .code yL_fits cL_fits 12 (some .boolean) :: lw_gd
def rmL_fits : Room := { frames := 4, cells := 1, slots := 16, locals := 89 }
def wsL_next : List Cond := .code yL_next cL_next 5 (some .int) :: lw_gd
def rmL_next : Room := { frames := 4, cells := 0, slots := 0, locals := 89 }
def wsL_ticks : List Cond := .code yL_ticks cL_ticks 11 (some .boolean) :: lw_gd
def rmL_ticks : Room := { frames := 6, cells := 9, slots := 132, locals := 135 }
section FR
variable {p : Program} {l : Launch} {e : Env} {R : Room} {s : State} {m : MethodId} {args : Array Value} {below : List Frame} {meth : Method} {c : Code} {H : Heap} {locs : List Loc} {cells slots : Nat} {Q : State → Prop}
variable {cc : ByteArray} {pc : Nat} {ls : Array Slot} {rest : List Value} {g : GG} {lay : LY} {E E1 : ES} {H0 : Heap} {a o : Nat} {L : CS}
theorem g_X0_11 (hx : p.tables.exec = Jvm.exec) (hb : c.code = cc) (hown : s.vm.findClass RX0 = some m.cls) (hts : ∀ w ∈ lw_gd, w.before args s = true) (hK : KK g s) (hW : Wd g lay E H) (hla : lay a = some (exE o)) (hL : E a = L) (hdg : decode cc pc = .ok (.getfield 11, 3)) (kk : W p l e R s m args below meth c H locs cells slots Q (F0 m (pc + 3) ls (.ref (o + 1) :: rest))) : W p l e R s m args below meth c H locs cells slots Q (F0 m pc ls (.ref a :: rest)) :=
  w_get (C := RX0) (T := TX0) (N := 16) (ci := 0) (j := 0) hx hb hown hts hK hW hla hL rfl rfl rfl (by decide) inX0 wd_142 rfl hdg kk
theorem g_X0_19 (hx : p.tables.exec = Jvm.exec) (hb : c.code = cc) (hown : s.vm.findClass RX0 = some m.cls) (hts : ∀ w ∈ lw_gd, w.before args s = true) (hK : KK g s) (hW : Wd g lay E H) (hla : lay a = some (exE o)) (hL : E a = L) (hdg : decode cc pc = .ok (.getfield 19, 3)) (kk : W p l e R s m args below meth c H locs cells slots Q (F0 m (pc + 3) ls (.ref (o + 2) :: rest))) : W p l e R s m args below meth c H locs cells slots Q (F0 m pc ls (.ref a :: rest)) :=
  w_get (C := RX0) (T := TX0) (N := 16) (ci := 0) (j := 1) hx hb hown hts hK hW hla hL rfl rfl rfl (by decide) inX0 wd_143 rfl hdg kk
theorem g_X0_24 (hx : p.tables.exec = Jvm.exec) (hb : c.code = cc) (hown : s.vm.findClass RX0 = some m.cls) (hts : ∀ w ∈ lw_gd, w.before args s = true) (hK : KK g s) (hW : Wd g lay E H) (hla : lay a = some (exE o)) (hL : E a = L) (hdg : decode cc pc = .ok (.getfield 24, 3)) (kk : W p l e R s m args below meth c H locs cells slots Q (F0 m (pc + 3) ls (.ref (o + 3) :: rest))) : W p l e R s m args below meth c H locs cells slots Q (F0 m pc ls (.ref a :: rest)) :=
  w_get (C := RX0) (T := TX0) (N := 16) (ci := 0) (j := 2) hx hb hown hts hK hW hla hL rfl rfl rfl (by decide) inX0 wd_144 rfl hdg kk
theorem g_X0_29 (hx : p.tables.exec = Jvm.exec) (hb : c.code = cc) (hown : s.vm.findClass RX0 = some m.cls) (hts : ∀ w ∈ lw_gd, w.before args s = true) (hK : KK g s) (hW : Wd g lay E H) (hla : lay a = some (exE o)) (hL : E a = L) (hdg : decode cc pc = .ok (.getfield 29, 3)) (kk : W p l e R s m args below meth c H locs cells slots Q (F0 m (pc + 3) ls (.ref (o + 4) :: rest))) : W p l e R s m args below meth c H locs cells slots Q (F0 m pc ls (.ref a :: rest)) :=
  w_get (C := RX0) (T := TX0) (N := 16) (ci := 0) (j := 3) hx hb hown hts hK hW hla hL rfl rfl rfl (by decide) inX0 wd_145 rfl hdg kk
theorem g_X0_42 (hx : p.tables.exec = Jvm.exec) (hb : c.code = cc) (hown : s.vm.findClass RX0 = some m.cls) (hts : ∀ w ∈ lw_gd, w.before args s = true) (hK : KK g s) (hW : Wd g lay E H) (hla : lay a = some (exE o)) (hL : E a = L) (hdg : decode cc pc = .ok (.getfield 42, 3)) (kk : W p l e R s m args below meth c H locs cells slots Q (F0 m (pc + 3) ls (.ref (o + 5) :: rest))) : W p l e R s m args below meth c H locs cells slots Q (F0 m pc ls (.ref a :: rest)) :=
  w_get (C := RX0) (T := TX0) (N := 16) (ci := 0) (j := 4) hx hb hown hts hK hW hla hL rfl rfl rfl (by decide) inX0 wd_146 rfl hdg kk
theorem g_X0_45 (hx : p.tables.exec = Jvm.exec) (hb : c.code = cc) (hown : s.vm.findClass RX0 = some m.cls) (hts : ∀ w ∈ lw_gd, w.before args s = true) (hK : KK g s) (hW : Wd g lay E H) (hla : lay a = some (exE o)) (hL : E a = L) (hdg : decode cc pc = .ok (.getfield 45, 3)) (kk : W p l e R s m args below meth c H locs cells slots Q (F0 m (pc + 3) ls (.int (L 5) :: rest))) : W p l e R s m args below meth c H locs cells slots Q (F0 m pc ls (.ref a :: rest)) :=
  w_get (C := RX0) (T := TX0) (N := 16) (ci := 0) (j := 5) hx hb hown hts hK hW hla hL rfl rfl rfl (by decide) inX0 wd_147 rfl hdg kk
theorem g_X0_49 (hx : p.tables.exec = Jvm.exec) (hb : c.code = cc) (hown : s.vm.findClass RX0 = some m.cls) (hts : ∀ w ∈ lw_gd, w.before args s = true) (hK : KK g s) (hW : Wd g lay E H) (hla : lay a = some (exE o)) (hL : E a = L) (hdg : decode cc pc = .ok (.getfield 49, 3)) (kk : W p l e R s m args below meth c H locs cells slots Q (F0 m (pc + 3) ls (.int (L 6) :: rest))) : W p l e R s m args below meth c H locs cells slots Q (F0 m pc ls (.ref a :: rest)) :=
  w_get (C := RX0) (T := TX0) (N := 16) (ci := 0) (j := 6) hx hb hown hts hK hW hla hL rfl rfl rfl (by decide) inX0 wd_149 rfl hdg kk
theorem g_X0_52 (hx : p.tables.exec = Jvm.exec) (hb : c.code = cc) (hown : s.vm.findClass RX0 = some m.cls) (hts : ∀ w ∈ lw_gd, w.before args s = true) (hK : KK g s) (hW : Wd g lay E H) (hla : lay a = some (exE o)) (hL : E a = L) (hdg : decode cc pc = .ok (.getfield 52, 3)) (kk : W p l e R s m args below meth c H locs cells slots Q (F0 m (pc + 3) ls (.int (L 7) :: rest))) : W p l e R s m args below meth c H locs cells slots Q (F0 m pc ls (.ref a :: rest)) :=
  w_get (C := RX0) (T := TX0) (N := 16) (ci := 0) (j := 7) hx hb hown hts hK hW hla hL rfl rfl rfl (by decide) inX0 wd_151 rfl hdg kk
theorem g_X0_55 (hx : p.tables.exec = Jvm.exec) (hb : c.code = cc) (hown : s.vm.findClass RX0 = some m.cls) (hts : ∀ w ∈ lw_gd, w.before args s = true) (hK : KK g s) (hW : Wd g lay E H) (hla : lay a = some (exE o)) (hL : E a = L) (hdg : decode cc pc = .ok (.getfield 55, 3)) (kk : W p l e R s m args below meth c H locs cells slots Q (F0 m (pc + 3) ls (.int (L 8) :: rest))) : W p l e R s m args below meth c H locs cells slots Q (F0 m pc ls (.ref a :: rest)) :=
  w_get (C := RX0) (T := TX0) (N := 16) (ci := 0) (j := 8) hx hb hown hts hK hW hla hL rfl rfl rfl (by decide) inX0 wd_153 rfl hdg kk
theorem g_X0_58 (hx : p.tables.exec = Jvm.exec) (hb : c.code = cc) (hown : s.vm.findClass RX0 = some m.cls) (hts : ∀ w ∈ lw_gd, w.before args s = true) (hK : KK g s) (hW : Wd g lay E H) (hla : lay a = some (exE o)) (hL : E a = L) (hdg : decode cc pc = .ok (.getfield 58, 3)) (kk : W p l e R s m args below meth c H locs cells slots Q (F0 m (pc + 3) ls (.int (L 9) :: rest))) : W p l e R s m args below meth c H locs cells slots Q (F0 m pc ls (.ref a :: rest)) :=
  w_get (C := RX0) (T := TX0) (N := 16) (ci := 0) (j := 9) hx hb hown hts hK hW hla hL rfl rfl rfl (by decide) inX0 wd_154 rfl hdg kk
theorem g_X0_61 (hx : p.tables.exec = Jvm.exec) (hb : c.code = cc) (hown : s.vm.findClass RX0 = some m.cls) (hts : ∀ w ∈ lw_gd, w.before args s = true) (hK : KK g s) (hW : Wd g lay E H) (hla : lay a = some (exE o)) (hL : E a = L) (hdg : decode cc pc = .ok (.getfield 61, 3)) (kk : W p l e R s m args below meth c H locs cells slots Q (F0 m (pc + 3) ls (.int (L 10) :: rest))) : W p l e R s m args below meth c H locs cells slots Q (F0 m pc ls (.ref a :: rest)) :=
  w_get (C := RX0) (T := TX0) (N := 16) (ci := 0) (j := 10) hx hb hown hts hK hW hla hL rfl rfl rfl (by decide) inX0 wd_155 rfl hdg kk
theorem g_X0_64 (hx : p.tables.exec = Jvm.exec) (hb : c.code = cc) (hown : s.vm.findClass RX0 = some m.cls) (hts : ∀ w ∈ lw_gd, w.before args s = true) (hK : KK g s) (hW : Wd g lay E H) (hla : lay a = some (exE o)) (hL : E a = L) (hdg : decode cc pc = .ok (.getfield 64, 3)) (kk : W p l e R s m args below meth c H locs cells slots Q (F0 m (pc + 3) ls (.int (L 11) :: rest))) : W p l e R s m args below meth c H locs cells slots Q (F0 m pc ls (.ref a :: rest)) :=
  w_get (C := RX0) (T := TX0) (N := 16) (ci := 0) (j := 11) hx hb hown hts hK hW hla hL rfl rfl rfl (by decide) inX0 wd_156 rfl hdg kk
theorem g_X0_67 (hx : p.tables.exec = Jvm.exec) (hb : c.code = cc) (hown : s.vm.findClass RX0 = some m.cls) (hts : ∀ w ∈ lw_gd, w.before args s = true) (hK : KK g s) (hW : Wd g lay E H) (hla : lay a = some (exE o)) (hL : E a = L) (hdg : decode cc pc = .ok (.getfield 67, 3)) (kk : W p l e R s m args below meth c H locs cells slots Q (F0 m (pc + 3) ls (.int (L 12) :: rest))) : W p l e R s m args below meth c H locs cells slots Q (F0 m pc ls (.ref a :: rest)) :=
  w_get (C := RX0) (T := TX0) (N := 16) (ci := 0) (j := 12) hx hb hown hts hK hW hla hL rfl rfl rfl (by decide) inX0 wd_157 rfl hdg kk
theorem g_X0_70 (hx : p.tables.exec = Jvm.exec) (hb : c.code = cc) (hown : s.vm.findClass RX0 = some m.cls) (hts : ∀ w ∈ lw_gd, w.before args s = true) (hK : KK g s) (hW : Wd g lay E H) (hla : lay a = some (exE o)) (hL : E a = L) (hdg : decode cc pc = .ok (.getfield 70, 3)) (kk : W p l e R s m args below meth c H locs cells slots Q (F0 m (pc + 3) ls (.int (L 13) :: rest))) : W p l e R s m args below meth c H locs cells slots Q (F0 m pc ls (.ref a :: rest)) :=
  w_get (C := RX0) (T := TX0) (N := 16) (ci := 0) (j := 13) hx hb hown hts hK hW hla hL rfl rfl rfl (by decide) inX0 wd_158 rfl hdg kk
theorem g_X0_73 (hx : p.tables.exec = Jvm.exec) (hb : c.code = cc) (hown : s.vm.findClass RX0 = some m.cls) (hts : ∀ w ∈ lw_gd, w.before args s = true) (hK : KK g s) (hW : Wd g lay E H) (hla : lay a = some (exE o)) (hL : E a = L) (hdg : decode cc pc = .ok (.getfield 73, 3)) (kk : W p l e R s m args below meth c H locs cells slots Q (F0 m (pc + 3) ls (.int (L 14) :: rest))) : W p l e R s m args below meth c H locs cells slots Q (F0 m pc ls (.ref a :: rest)) :=
  w_get (C := RX0) (T := TX0) (N := 16) (ci := 0) (j := 14) hx hb hown hts hK hW hla hL rfl rfl rfl (by decide) inX0 wd_159 rfl hdg kk
theorem g_X0_76 (hx : p.tables.exec = Jvm.exec) (hb : c.code = cc) (hown : s.vm.findClass RX0 = some m.cls) (hts : ∀ w ∈ lw_gd, w.before args s = true) (hK : KK g s) (hW : Wd g lay E H) (hla : lay a = some (exE o)) (hL : E a = L) (hdg : decode cc pc = .ok (.getfield 76, 3)) (kk : W p l e R s m args below meth c H locs cells slots Q (F0 m (pc + 3) ls (.int (L 15) :: rest))) : W p l e R s m args below meth c H locs cells slots Q (F0 m pc ls (.ref a :: rest)) :=
  w_get (C := RX0) (T := TX0) (N := 16) (ci := 0) (j := 15) hx hb hown hts hK hW hla hL rfl rfl rfl (by decide) inX0 wd_160 rfl hdg kk
theorem g_X0_102 (hx : p.tables.exec = Jvm.exec) (hb : c.code = cc) (hown : s.vm.findClass RX0 = some m.cls) (hts : ∀ w ∈ lw_gd, w.before args s = true) (hK : KK g s) (hW : Wd g lay E H) (hla : lay a = some lineE) (hL : E a = L) (hdg : decode cc pc = .ok (.getfield 102, 3)) (kk : W p l e R s m args below meth c H locs cells slots Q (F0 m (pc + 3) ls (.int (L 1) :: rest))) : W p l e R s m args below meth c H locs cells slots Q (F0 m pc ls (.ref a :: rest)) :=
  w_get (C := RX2) (T := TX2) (N := 9) (ci := 2) (j := 1) hx hb hown hts hK hW hla hL rfl rfl rfl (by decide) inX2 wd_54 rfl hdg kk
theorem g_X0_106 (hx : p.tables.exec = Jvm.exec) (hb : c.code = cc) (hown : s.vm.findClass RX0 = some m.cls) (hts : ∀ w ∈ lw_gd, w.before args s = true) (hK : KK g s) (hW : Wd g lay E H) (hla : lay a = some lineE) (hL : E a = L) (hdg : decode cc pc = .ok (.getfield 106, 3)) (kk : W p l e R s m args below meth c H locs cells slots Q (F0 m (pc + 3) ls (.int (L 0) :: rest))) : W p l e R s m args below meth c H locs cells slots Q (F0 m pc ls (.ref a :: rest)) :=
  w_get (C := RX2) (T := TX2) (N := 9) (ci := 2) (j := 0) hx hb hown hts hK hW hla hL rfl rfl rfl (by decide) inX2 wd_52 rfl hdg kk
theorem g_X0_109 (hx : p.tables.exec = Jvm.exec) (hb : c.code = cc) (hown : s.vm.findClass RX0 = some m.cls) (hts : ∀ w ∈ lw_gd, w.before args s = true) (hK : KK g s) (hW : Wd g lay E H) (hla : lay a = some lineE) (hL : E a = L) (hdg : decode cc pc = .ok (.getfield 109, 3)) (kk : W p l e R s m args below meth c H locs cells slots Q (F0 m (pc + 3) ls (.int (L 3) :: rest))) : W p l e R s m args below meth c H locs cells slots Q (F0 m pc ls (.ref a :: rest)) :=
  w_get (C := RX2) (T := TX2) (N := 9) (ci := 2) (j := 3) hx hb hown hts hK hW hla hL rfl rfl rfl (by decide) inX2 wd_58 rfl hdg kk
theorem g_X0_112 (hx : p.tables.exec = Jvm.exec) (hb : c.code = cc) (hown : s.vm.findClass RX0 = some m.cls) (hts : ∀ w ∈ lw_gd, w.before args s = true) (hK : KK g s) (hW : Wd g lay E H) (hla : lay a = some lineE) (hL : E a = L) (hdg : decode cc pc = .ok (.getfield 112, 3)) (kk : W p l e R s m args below meth c H locs cells slots Q (F0 m (pc + 3) ls (.int (L 7) :: rest))) : W p l e R s m args below meth c H locs cells slots Q (F0 m pc ls (.ref a :: rest)) :=
  w_get (C := RX2) (T := TX2) (N := 9) (ci := 2) (j := 7) hx hb hown hts hK hW hla hL rfl rfl rfl (by decide) inX2 wd_65 rfl hdg kk
theorem g_X0_119 (hx : p.tables.exec = Jvm.exec) (hb : c.code = cc) (hown : s.vm.findClass RX0 = some m.cls) (hts : ∀ w ∈ lw_gd, w.before args s = true) (hK : KK g s) (hW : Wd g lay E H) (hla : lay a = some lineE) (hL : E a = L) (hdg : decode cc pc = .ok (.getfield 119, 3)) (kk : W p l e R s m args below meth c H locs cells slots Q (F0 m (pc + 3) ls (.int (L 6) :: rest))) : W p l e R s m args below meth c H locs cells slots Q (F0 m pc ls (.ref a :: rest)) :=
  w_get (C := RX2) (T := TX2) (N := 9) (ci := 2) (j := 6) hx hb hown hts hK hW hla hL rfl rfl rfl (by decide) inX2 wd_63 rfl hdg kk
theorem g_X0_129 (hx : p.tables.exec = Jvm.exec) (hb : c.code = cc) (hown : s.vm.findClass RX0 = some m.cls) (hts : ∀ w ∈ lw_gd, w.before args s = true) (hK : KK g s) (hW : Wd g lay E H) (hla : lay a = some finE) (hL : E a = L) (hdg : decode cc pc = .ok (.getfield 129, 3)) (kk : W p l e R s m args below meth c H locs cells slots Q (F0 m (pc + 3) ls (.int (L 9) :: rest))) : W p l e R s m args below meth c H locs cells slots Q (F0 m pc ls (.ref a :: rest)) :=
  w_get (C := RX1) (T := TX1) (N := 10) (ci := 1) (j := 9) hx hb hown hts hK hW hla hL rfl rfl rfl (by decide) inX1 wd_111 rfl hdg kk
theorem g_X0_135 (hx : p.tables.exec = Jvm.exec) (hb : c.code = cc) (hown : s.vm.findClass RX0 = some m.cls) (hts : ∀ w ∈ lw_gd, w.before args s = true) (hK : KK g s) (hW : Wd g lay E H) (hla : lay a = some lineE) (hL : E a = L) (hdg : decode cc pc = .ok (.getfield 135, 3)) (kk : W p l e R s m args below meth c H locs cells slots Q (F0 m (pc + 3) ls (.int (L 5) :: rest))) : W p l e R s m args below meth c H locs cells slots Q (F0 m pc ls (.ref a :: rest)) :=
  w_get (C := RX2) (T := TX2) (N := 9) (ci := 2) (j := 5) hx hb hown hts hK hW hla hL rfl rfl rfl (by decide) inX2 wd_61 rfl hdg kk
theorem g_X0_151 (hx : p.tables.exec = Jvm.exec) (hb : c.code = cc) (hown : s.vm.findClass RX0 = some m.cls) (hts : ∀ w ∈ lw_gd, w.before args s = true) (hK : KK g s) (hW : Wd g lay E H) (hla : lay a = some finE) (hL : E a = L) (hdg : decode cc pc = .ok (.getfield 151, 3)) (kk : W p l e R s m args below meth c H locs cells slots Q (F0 m (pc + 3) ls (.int (L 2) :: rest))) : W p l e R s m args below meth c H locs cells slots Q (F0 m pc ls (.ref a :: rest)) :=
  w_get (C := RX1) (T := TX1) (N := 10) (ci := 1) (j := 2) hx hb hown hts hK hW hla hL rfl rfl rfl (by decide) inX1 wd_97 rfl hdg kk
theorem g_X0_154 (hx : p.tables.exec = Jvm.exec) (hb : c.code = cc) (hown : s.vm.findClass RX0 = some m.cls) (hts : ∀ w ∈ lw_gd, w.before args s = true) (hK : KK g s) (hW : Wd g lay E H) (hla : lay a = some finE) (hL : E a = L) (hdg : decode cc pc = .ok (.getfield 154, 3)) (kk : W p l e R s m args below meth c H locs cells slots Q (F0 m (pc + 3) ls (.int (L 0) :: rest))) : W p l e R s m args below meth c H locs cells slots Q (F0 m pc ls (.ref a :: rest)) :=
  w_get (C := RX1) (T := TX1) (N := 10) (ci := 1) (j := 0) hx hb hown hts hK hW hla hL rfl rfl rfl (by decide) inX1 wd_93 rfl hdg kk
theorem g_X0_181 (hx : p.tables.exec = Jvm.exec) (hb : c.code = cc) (hown : s.vm.findClass RX0 = some m.cls) (hts : ∀ w ∈ lw_gd, w.before args s = true) (hK : KK g s) (hW : Wd g lay E H) (hla : lay a = some finE) (hL : E a = L) (hdg : decode cc pc = .ok (.getfield 181, 3)) (kk : W p l e R s m args below meth c H locs cells slots Q (F0 m (pc + 3) ls (.int (L 1) :: rest))) : W p l e R s m args below meth c H locs cells slots Q (F0 m pc ls (.ref a :: rest)) :=
  w_get (C := RX1) (T := TX1) (N := 10) (ci := 1) (j := 1) hx hb hown hts hK hW hla hL rfl rfl rfl (by decide) inX1 wd_95 rfl hdg kk
theorem g_X0_191 (hx : p.tables.exec = Jvm.exec) (hb : c.code = cc) (hown : s.vm.findClass RX0 = some m.cls) (hts : ∀ w ∈ lw_gd, w.before args s = true) (hK : KK g s) (hW : Wd g lay E H) (hla : lay a = some finE) (hL : E a = L) (hdg : decode cc pc = .ok (.getfield 191, 3)) (kk : W p l e R s m args below meth c H locs cells slots Q (F0 m (pc + 3) ls (.int (L 5) :: rest))) : W p l e R s m args below meth c H locs cells slots Q (F0 m pc ls (.ref a :: rest)) :=
  w_get (C := RX1) (T := TX1) (N := 10) (ci := 1) (j := 5) hx hb hown hts hK hW hla hL rfl rfl rfl (by decide) inX1 wd_103 rfl hdg kk
theorem g_X0_194 (hx : p.tables.exec = Jvm.exec) (hb : c.code = cc) (hown : s.vm.findClass RX0 = some m.cls) (hts : ∀ w ∈ lw_gd, w.before args s = true) (hK : KK g s) (hW : Wd g lay E H) (hla : lay a = some finE) (hL : E a = L) (hdg : decode cc pc = .ok (.getfield 194, 3)) (kk : W p l e R s m args below meth c H locs cells slots Q (F0 m (pc + 3) ls (.int (L 7) :: rest))) : W p l e R s m args below meth c H locs cells slots Q (F0 m pc ls (.ref a :: rest)) :=
  w_get (C := RX1) (T := TX1) (N := 10) (ci := 1) (j := 7) hx hb hown hts hK hW hla hL rfl rfl rfl (by decide) inX1 wd_107 rfl hdg kk
theorem g_X0_197 (hx : p.tables.exec = Jvm.exec) (hb : c.code = cc) (hown : s.vm.findClass RX0 = some m.cls) (hts : ∀ w ∈ lw_gd, w.before args s = true) (hK : KK g s) (hW : Wd g lay E H) (hla : lay a = some finE) (hL : E a = L) (hdg : decode cc pc = .ok (.getfield 197, 3)) (kk : W p l e R s m args below meth c H locs cells slots Q (F0 m (pc + 3) ls (.int (L 3) :: rest))) : W p l e R s m args below meth c H locs cells slots Q (F0 m pc ls (.ref a :: rest)) :=
  w_get (C := RX1) (T := TX1) (N := 10) (ci := 1) (j := 3) hx hb hown hts hK hW hla hL rfl rfl rfl (by decide) inX1 wd_99 rfl hdg kk
theorem g_X0_204 (hx : p.tables.exec = Jvm.exec) (hb : c.code = cc) (hown : s.vm.findClass RX0 = some m.cls) (hts : ∀ w ∈ lw_gd, w.before args s = true) (hK : KK g s) (hW : Wd g lay E H) (hla : lay a = some finE) (hL : E a = L) (hdg : decode cc pc = .ok (.getfield 204, 3)) (kk : W p l e R s m args below meth c H locs cells slots Q (F0 m (pc + 3) ls (.int (L 4) :: rest))) : W p l e R s m args below meth c H locs cells slots Q (F0 m pc ls (.ref a :: rest)) :=
  w_get (C := RX1) (T := TX1) (N := 10) (ci := 1) (j := 4) hx hb hown hts hK hW hla hL rfl rfl rfl (by decide) inX1 wd_101 rfl hdg kk
theorem g_X0_211 (hx : p.tables.exec = Jvm.exec) (hb : c.code = cc) (hown : s.vm.findClass RX0 = some m.cls) (hts : ∀ w ∈ lw_gd, w.before args s = true) (hK : KK g s) (hW : Wd g lay E H) (hla : lay a = some finE) (hL : E a = L) (hdg : decode cc pc = .ok (.getfield 211, 3)) (kk : W p l e R s m args below meth c H locs cells slots Q (F0 m (pc + 3) ls (.int (L 6) :: rest))) : W p l e R s m args below meth c H locs cells slots Q (F0 m pc ls (.ref a :: rest)) :=
  w_get (C := RX1) (T := TX1) (N := 10) (ci := 1) (j := 6) hx hb hown hts hK hW hla hL rfl rfl rfl (by decide) inX1 wd_105 rfl hdg kk
theorem g_X0_214 (hx : p.tables.exec = Jvm.exec) (hb : c.code = cc) (hown : s.vm.findClass RX0 = some m.cls) (hts : ∀ w ∈ lw_gd, w.before args s = true) (hK : KK g s) (hW : Wd g lay E H) (hla : lay a = some lineE) (hL : E a = L) (hdg : decode cc pc = .ok (.getfield 214, 3)) (kk : W p l e R s m args below meth c H locs cells slots Q (F0 m (pc + 3) ls (.int (L 2) :: rest))) : W p l e R s m args below meth c H locs cells slots Q (F0 m pc ls (.ref a :: rest)) :=
  w_get (C := RX2) (T := TX2) (N := 9) (ci := 2) (j := 2) hx hb hown hts hK hW hla hL rfl rfl rfl (by decide) inX2 wd_56 rfl hdg kk
theorem g_X0_217 (hx : p.tables.exec = Jvm.exec) (hb : c.code = cc) (hown : s.vm.findClass RX0 = some m.cls) (hts : ∀ w ∈ lw_gd, w.before args s = true) (hK : KK g s) (hW : Wd g lay E H) (hla : lay a = some finE) (hL : E a = L) (hdg : decode cc pc = .ok (.getfield 217, 3)) (kk : W p l e R s m args below meth c H locs cells slots Q (F0 m (pc + 3) ls (.int (L 8) :: rest))) : W p l e R s m args below meth c H locs cells slots Q (F0 m pc ls (.ref a :: rest)) :=
  w_get (C := RX1) (T := TX1) (N := 10) (ci := 1) (j := 8) hx hb hown hts hK hW hla hL rfl rfl rfl (by decide) inX1 wd_109 rfl hdg kk
theorem g_X0_255 (hx : p.tables.exec = Jvm.exec) (hb : c.code = cc) (hown : s.vm.findClass RX0 = some m.cls) (hts : ∀ w ∈ lw_gd, w.before args s = true) (hK : KK g s) (hW : Wd g lay E H) (hla : lay a = some lineE) (hL : E a = L) (hdg : decode cc pc = .ok (.getfield 255, 3)) (kk : W p l e R s m args below meth c H locs cells slots Q (F0 m (pc + 3) ls (.int (L 8) :: rest))) : W p l e R s m args below meth c H locs cells slots Q (F0 m pc ls (.ref a :: rest)) :=
  w_get (C := RX2) (T := TX2) (N := 9) (ci := 2) (j := 8) hx hb hown hts hK hW hla hL rfl rfl rfl (by decide) inX2 wd_67 rfl hdg kk
theorem p_X0_45 (hx : p.tables.exec = Jvm.exec) (hb : c.code = cc) (hown : s.vm.findClass RX0 = some m.cls) (hts : ∀ w ∈ lw_gd, w.before args s = true) (hK : KK g s) (hge : okL g lay) (hW : Wd g lay E H) (hS : va_S (Ab g) H0 H locs) (hla : lay a = some (exE o)) (hL : E a = L) {x : Int32} (hdg : decode cc pc = .ok (.putfield 45, 3)) (hE : va_up E a (upd L 5 x) = E1) (kk : ∀ (H1 : Heap) (locs1 : List Loc), Wd g lay E1 H1 → va_S (Ab g) H0 H1 locs1 → W p l e R s m args below meth c H1 locs1 cells slots Q (F0 m (pc + 3) ls rest)) : W p l e R s m args below meth c H locs cells slots Q (F0 m pc ls (.int x :: .ref a :: rest)) :=
  w_put (C := RX0) (T := TX0) (N := 16) (ci := 0) (j := 5) hx hb hown hts hK hge hW hS hla hL rfl rfl (Nat.le_of_ble_eq_true rfl) rfl (by decide) inX0 tyX0 tyX0_ok nmX0 wd_147 rfl rfl (ty := .int) (by decide +kernel) rfl rfl hdg hE kk
theorem p_X0_49 (hx : p.tables.exec = Jvm.exec) (hb : c.code = cc) (hown : s.vm.findClass RX0 = some m.cls) (hts : ∀ w ∈ lw_gd, w.before args s = true) (hK : KK g s) (hge : okL g lay) (hW : Wd g lay E H) (hS : va_S (Ab g) H0 H locs) (hla : lay a = some (exE o)) (hL : E a = L) {x : Int32} (hdg : decode cc pc = .ok (.putfield 49, 3)) (hE : va_up E a (upd L 6 x) = E1) (kk : ∀ (H1 : Heap) (locs1 : List Loc), Wd g lay E1 H1 → va_S (Ab g) H0 H1 locs1 → W p l e R s m args below meth c H1 locs1 cells slots Q (F0 m (pc + 3) ls rest)) : W p l e R s m args below meth c H locs cells slots Q (F0 m pc ls (.int x :: .ref a :: rest)) :=
  w_put (C := RX0) (T := TX0) (N := 16) (ci := 0) (j := 6) hx hb hown hts hK hge hW hS hla hL rfl rfl (Nat.le_of_ble_eq_true rfl) rfl (by decide) inX0 tyX0 tyX0_ok nmX0 wd_149 rfl rfl (ty := .int) (by decide +kernel) rfl rfl hdg hE kk
theorem p_X0_52 (hx : p.tables.exec = Jvm.exec) (hb : c.code = cc) (hown : s.vm.findClass RX0 = some m.cls) (hts : ∀ w ∈ lw_gd, w.before args s = true) (hK : KK g s) (hge : okL g lay) (hW : Wd g lay E H) (hS : va_S (Ab g) H0 H locs) (hla : lay a = some (exE o)) (hL : E a = L) {x : Int32} (hdg : decode cc pc = .ok (.putfield 52, 3)) (hE : va_up E a (upd L 7 x) = E1) (kk : ∀ (H1 : Heap) (locs1 : List Loc), Wd g lay E1 H1 → va_S (Ab g) H0 H1 locs1 → W p l e R s m args below meth c H1 locs1 cells slots Q (F0 m (pc + 3) ls rest)) : W p l e R s m args below meth c H locs cells slots Q (F0 m pc ls (.int x :: .ref a :: rest)) :=
  w_put (C := RX0) (T := TX0) (N := 16) (ci := 0) (j := 7) hx hb hown hts hK hge hW hS hla hL rfl rfl (Nat.le_of_ble_eq_true rfl) rfl (by decide) inX0 tyX0 tyX0_ok nmX0 wd_151 rfl rfl (ty := .int) (by decide +kernel) rfl rfl hdg hE kk
theorem p_X0_55 (hx : p.tables.exec = Jvm.exec) (hb : c.code = cc) (hown : s.vm.findClass RX0 = some m.cls) (hts : ∀ w ∈ lw_gd, w.before args s = true) (hK : KK g s) (hge : okL g lay) (hW : Wd g lay E H) (hS : va_S (Ab g) H0 H locs) (hla : lay a = some (exE o)) (hL : E a = L) {x : Int32} (hdg : decode cc pc = .ok (.putfield 55, 3)) (hE : va_up E a (upd L 8 x) = E1) (kk : ∀ (H1 : Heap) (locs1 : List Loc), Wd g lay E1 H1 → va_S (Ab g) H0 H1 locs1 → W p l e R s m args below meth c H1 locs1 cells slots Q (F0 m (pc + 3) ls rest)) : W p l e R s m args below meth c H locs cells slots Q (F0 m pc ls (.int x :: .ref a :: rest)) :=
  w_put (C := RX0) (T := TX0) (N := 16) (ci := 0) (j := 8) hx hb hown hts hK hge hW hS hla hL rfl rfl (Nat.le_of_ble_eq_true rfl) rfl (by decide) inX0 tyX0 tyX0_ok nmX0 wd_153 rfl rfl (ty := .int) (by decide +kernel) rfl rfl hdg hE kk
theorem p_X0_58 (hx : p.tables.exec = Jvm.exec) (hb : c.code = cc) (hown : s.vm.findClass RX0 = some m.cls) (hts : ∀ w ∈ lw_gd, w.before args s = true) (hK : KK g s) (hge : okL g lay) (hW : Wd g lay E H) (hS : va_S (Ab g) H0 H locs) (hla : lay a = some (exE o)) (hL : E a = L) {x : Int32} (hdg : decode cc pc = .ok (.putfield 58, 3)) (hE : va_up E a (upd L 9 x) = E1) (kk : ∀ (H1 : Heap) (locs1 : List Loc), Wd g lay E1 H1 → va_S (Ab g) H0 H1 locs1 → W p l e R s m args below meth c H1 locs1 cells slots Q (F0 m (pc + 3) ls rest)) : W p l e R s m args below meth c H locs cells slots Q (F0 m pc ls (.int x :: .ref a :: rest)) :=
  w_put (C := RX0) (T := TX0) (N := 16) (ci := 0) (j := 9) hx hb hown hts hK hge hW hS hla hL rfl rfl (Nat.le_of_ble_eq_true rfl) rfl (by decide) inX0 tyX0 tyX0_ok nmX0 wd_154 rfl rfl (ty := .int) (by decide +kernel) rfl rfl hdg hE kk
theorem p_X0_61 (hx : p.tables.exec = Jvm.exec) (hb : c.code = cc) (hown : s.vm.findClass RX0 = some m.cls) (hts : ∀ w ∈ lw_gd, w.before args s = true) (hK : KK g s) (hge : okL g lay) (hW : Wd g lay E H) (hS : va_S (Ab g) H0 H locs) (hla : lay a = some (exE o)) (hL : E a = L) {x : Int32} (hdg : decode cc pc = .ok (.putfield 61, 3)) (hE : va_up E a (upd L 10 x) = E1) (kk : ∀ (H1 : Heap) (locs1 : List Loc), Wd g lay E1 H1 → va_S (Ab g) H0 H1 locs1 → W p l e R s m args below meth c H1 locs1 cells slots Q (F0 m (pc + 3) ls rest)) : W p l e R s m args below meth c H locs cells slots Q (F0 m pc ls (.int x :: .ref a :: rest)) :=
  w_put (C := RX0) (T := TX0) (N := 16) (ci := 0) (j := 10) hx hb hown hts hK hge hW hS hla hL rfl rfl (Nat.le_of_ble_eq_true rfl) rfl (by decide) inX0 tyX0 tyX0_ok nmX0 wd_155 rfl rfl (ty := .int) (by decide +kernel) rfl rfl hdg hE kk
theorem p_X0_64 (hx : p.tables.exec = Jvm.exec) (hb : c.code = cc) (hown : s.vm.findClass RX0 = some m.cls) (hts : ∀ w ∈ lw_gd, w.before args s = true) (hK : KK g s) (hge : okL g lay) (hW : Wd g lay E H) (hS : va_S (Ab g) H0 H locs) (hla : lay a = some (exE o)) (hL : E a = L) {x : Int32} (hdg : decode cc pc = .ok (.putfield 64, 3)) (hE : va_up E a (upd L 11 x) = E1) (kk : ∀ (H1 : Heap) (locs1 : List Loc), Wd g lay E1 H1 → va_S (Ab g) H0 H1 locs1 → W p l e R s m args below meth c H1 locs1 cells slots Q (F0 m (pc + 3) ls rest)) : W p l e R s m args below meth c H locs cells slots Q (F0 m pc ls (.int x :: .ref a :: rest)) :=
  w_put (C := RX0) (T := TX0) (N := 16) (ci := 0) (j := 11) hx hb hown hts hK hge hW hS hla hL rfl rfl (Nat.le_of_ble_eq_true rfl) rfl (by decide) inX0 tyX0 tyX0_ok nmX0 wd_156 rfl rfl (ty := .int) (by decide +kernel) rfl rfl hdg hE kk
theorem p_X0_67 (hx : p.tables.exec = Jvm.exec) (hb : c.code = cc) (hown : s.vm.findClass RX0 = some m.cls) (hts : ∀ w ∈ lw_gd, w.before args s = true) (hK : KK g s) (hge : okL g lay) (hW : Wd g lay E H) (hS : va_S (Ab g) H0 H locs) (hla : lay a = some (exE o)) (hL : E a = L) {x : Int32} (hdg : decode cc pc = .ok (.putfield 67, 3)) (hE : va_up E a (upd L 12 x) = E1) (kk : ∀ (H1 : Heap) (locs1 : List Loc), Wd g lay E1 H1 → va_S (Ab g) H0 H1 locs1 → W p l e R s m args below meth c H1 locs1 cells slots Q (F0 m (pc + 3) ls rest)) : W p l e R s m args below meth c H locs cells slots Q (F0 m pc ls (.int x :: .ref a :: rest)) :=
  w_put (C := RX0) (T := TX0) (N := 16) (ci := 0) (j := 12) hx hb hown hts hK hge hW hS hla hL rfl rfl (Nat.le_of_ble_eq_true rfl) rfl (by decide) inX0 tyX0 tyX0_ok nmX0 wd_157 rfl rfl (ty := .int) (by decide +kernel) rfl rfl hdg hE kk
theorem p_X0_70 (hx : p.tables.exec = Jvm.exec) (hb : c.code = cc) (hown : s.vm.findClass RX0 = some m.cls) (hts : ∀ w ∈ lw_gd, w.before args s = true) (hK : KK g s) (hge : okL g lay) (hW : Wd g lay E H) (hS : va_S (Ab g) H0 H locs) (hla : lay a = some (exE o)) (hL : E a = L) {x : Int32} (hdg : decode cc pc = .ok (.putfield 70, 3)) (hE : va_up E a (upd L 13 x) = E1) (kk : ∀ (H1 : Heap) (locs1 : List Loc), Wd g lay E1 H1 → va_S (Ab g) H0 H1 locs1 → W p l e R s m args below meth c H1 locs1 cells slots Q (F0 m (pc + 3) ls rest)) : W p l e R s m args below meth c H locs cells slots Q (F0 m pc ls (.int x :: .ref a :: rest)) :=
  w_put (C := RX0) (T := TX0) (N := 16) (ci := 0) (j := 13) hx hb hown hts hK hge hW hS hla hL rfl rfl (Nat.le_of_ble_eq_true rfl) rfl (by decide) inX0 tyX0 tyX0_ok nmX0 wd_158 rfl rfl (ty := .int) (by decide +kernel) rfl rfl hdg hE kk
theorem p_X0_73 (hx : p.tables.exec = Jvm.exec) (hb : c.code = cc) (hown : s.vm.findClass RX0 = some m.cls) (hts : ∀ w ∈ lw_gd, w.before args s = true) (hK : KK g s) (hge : okL g lay) (hW : Wd g lay E H) (hS : va_S (Ab g) H0 H locs) (hla : lay a = some (exE o)) (hL : E a = L) {x : Int32} (hdg : decode cc pc = .ok (.putfield 73, 3)) (hE : va_up E a (upd L 14 x) = E1) (kk : ∀ (H1 : Heap) (locs1 : List Loc), Wd g lay E1 H1 → va_S (Ab g) H0 H1 locs1 → W p l e R s m args below meth c H1 locs1 cells slots Q (F0 m (pc + 3) ls rest)) : W p l e R s m args below meth c H locs cells slots Q (F0 m pc ls (.int x :: .ref a :: rest)) :=
  w_put (C := RX0) (T := TX0) (N := 16) (ci := 0) (j := 14) hx hb hown hts hK hge hW hS hla hL rfl rfl (Nat.le_of_ble_eq_true rfl) rfl (by decide) inX0 tyX0 tyX0_ok nmX0 wd_159 rfl rfl (ty := .int) (by decide +kernel) rfl rfl hdg hE kk
theorem p_X0_76 (hx : p.tables.exec = Jvm.exec) (hb : c.code = cc) (hown : s.vm.findClass RX0 = some m.cls) (hts : ∀ w ∈ lw_gd, w.before args s = true) (hK : KK g s) (hge : okL g lay) (hW : Wd g lay E H) (hS : va_S (Ab g) H0 H locs) (hla : lay a = some (exE o)) (hL : E a = L) {x : Int32} (hdg : decode cc pc = .ok (.putfield 76, 3)) (hE : va_up E a (upd L 15 x) = E1) (kk : ∀ (H1 : Heap) (locs1 : List Loc), Wd g lay E1 H1 → va_S (Ab g) H0 H1 locs1 → W p l e R s m args below meth c H1 locs1 cells slots Q (F0 m (pc + 3) ls rest)) : W p l e R s m args below meth c H locs cells slots Q (F0 m pc ls (.int x :: .ref a :: rest)) :=
  w_put (C := RX0) (T := TX0) (N := 16) (ci := 0) (j := 15) hx hb hown hts hK hge hW hS hla hL rfl rfl (Nat.le_of_ble_eq_true rfl) rfl (by decide) inX0 tyX0 tyX0_ok nmX0 wd_160 rfl rfl (ty := .int) (by decide +kernel) rfl rfl hdg hE kk
theorem p_X0_102 (hx : p.tables.exec = Jvm.exec) (hb : c.code = cc) (hown : s.vm.findClass RX0 = some m.cls) (hts : ∀ w ∈ lw_gd, w.before args s = true) (hK : KK g s) (hge : okL g lay) (hW : Wd g lay E H) (hS : va_S (Ab g) H0 H locs) (hla : lay a = some lineE) (hL : E a = L) {x : Int32} (hz : x = 0 ∨ x = 1) (hdg : decode cc pc = .ok (.putfield 102, 3)) (hE : va_up E a (upd L 1 x) = E1) (kk : ∀ (H1 : Heap) (locs1 : List Loc), Wd g lay E1 H1 → va_S (Ab g) H0 H1 locs1 → W p l e R s m args below meth c H1 locs1 cells slots Q (F0 m (pc + 3) ls rest)) : W p l e R s m args below meth c H locs cells slots Q (F0 m pc ls (.int x :: .ref a :: rest)) :=
  w_put (C := RX2) (T := TX2) (N := 9) (ci := 2) (j := 1) hx hb hown hts hK hge hW hS hla hL rfl rfl (Nat.le_of_ble_eq_true rfl) rfl (by decide) inX2 tyX2 tyX2_ok nmX2 wd_54 rfl rfl (ty := .boolean) (by decide +kernel) (narZ hz) (fitZ hz) hdg hE kk
theorem p_X0_106 (hx : p.tables.exec = Jvm.exec) (hb : c.code = cc) (hown : s.vm.findClass RX0 = some m.cls) (hts : ∀ w ∈ lw_gd, w.before args s = true) (hK : KK g s) (hge : okL g lay) (hW : Wd g lay E H) (hS : va_S (Ab g) H0 H locs) (hla : lay a = some lineE) (hL : E a = L) {x : Int32} (hdg : decode cc pc = .ok (.putfield 106, 3)) (hE : va_up E a (upd L 0 x) = E1) (kk : ∀ (H1 : Heap) (locs1 : List Loc), Wd g lay E1 H1 → va_S (Ab g) H0 H1 locs1 → W p l e R s m args below meth c H1 locs1 cells slots Q (F0 m (pc + 3) ls rest)) : W p l e R s m args below meth c H locs cells slots Q (F0 m pc ls (.int x :: .ref a :: rest)) :=
  w_put (C := RX2) (T := TX2) (N := 9) (ci := 2) (j := 0) hx hb hown hts hK hge hW hS hla hL rfl rfl (Nat.le_of_ble_eq_true rfl) rfl (by decide) inX2 tyX2 tyX2_ok nmX2 wd_52 rfl rfl (ty := .int) (by decide +kernel) rfl rfl hdg hE kk
theorem p_X0_109 (hx : p.tables.exec = Jvm.exec) (hb : c.code = cc) (hown : s.vm.findClass RX0 = some m.cls) (hts : ∀ w ∈ lw_gd, w.before args s = true) (hK : KK g s) (hge : okL g lay) (hW : Wd g lay E H) (hS : va_S (Ab g) H0 H locs) (hla : lay a = some lineE) (hL : E a = L) {x : Int32} (hdg : decode cc pc = .ok (.putfield 109, 3)) (hE : va_up E a (upd L 3 x) = E1) (kk : ∀ (H1 : Heap) (locs1 : List Loc), Wd g lay E1 H1 → va_S (Ab g) H0 H1 locs1 → W p l e R s m args below meth c H1 locs1 cells slots Q (F0 m (pc + 3) ls rest)) : W p l e R s m args below meth c H locs cells slots Q (F0 m pc ls (.int x :: .ref a :: rest)) :=
  w_put (C := RX2) (T := TX2) (N := 9) (ci := 2) (j := 3) hx hb hown hts hK hge hW hS hla hL rfl rfl (Nat.le_of_ble_eq_true rfl) rfl (by decide) inX2 tyX2 tyX2_ok nmX2 wd_58 rfl rfl (ty := .int) (by decide +kernel) rfl rfl hdg hE kk
theorem p_X0_112 (hx : p.tables.exec = Jvm.exec) (hb : c.code = cc) (hown : s.vm.findClass RX0 = some m.cls) (hts : ∀ w ∈ lw_gd, w.before args s = true) (hK : KK g s) (hge : okL g lay) (hW : Wd g lay E H) (hS : va_S (Ab g) H0 H locs) (hla : lay a = some lineE) (hL : E a = L) {x : Int32} (hdg : decode cc pc = .ok (.putfield 112, 3)) (hE : va_up E a (upd L 7 x) = E1) (kk : ∀ (H1 : Heap) (locs1 : List Loc), Wd g lay E1 H1 → va_S (Ab g) H0 H1 locs1 → W p l e R s m args below meth c H1 locs1 cells slots Q (F0 m (pc + 3) ls rest)) : W p l e R s m args below meth c H locs cells slots Q (F0 m pc ls (.int x :: .ref a :: rest)) :=
  w_put (C := RX2) (T := TX2) (N := 9) (ci := 2) (j := 7) hx hb hown hts hK hge hW hS hla hL rfl rfl (Nat.le_of_ble_eq_true rfl) rfl (by decide) inX2 tyX2 tyX2_ok nmX2 wd_65 rfl rfl (ty := .int) (by decide +kernel) rfl rfl hdg hE kk
theorem p_X0_119 (hx : p.tables.exec = Jvm.exec) (hb : c.code = cc) (hown : s.vm.findClass RX0 = some m.cls) (hts : ∀ w ∈ lw_gd, w.before args s = true) (hK : KK g s) (hge : okL g lay) (hW : Wd g lay E H) (hS : va_S (Ab g) H0 H locs) (hla : lay a = some lineE) (hL : E a = L) {x : Int32} (hdg : decode cc pc = .ok (.putfield 119, 3)) (hE : va_up E a (upd L 6 x) = E1) (kk : ∀ (H1 : Heap) (locs1 : List Loc), Wd g lay E1 H1 → va_S (Ab g) H0 H1 locs1 → W p l e R s m args below meth c H1 locs1 cells slots Q (F0 m (pc + 3) ls rest)) : W p l e R s m args below meth c H locs cells slots Q (F0 m pc ls (.int x :: .ref a :: rest)) :=
  w_put (C := RX2) (T := TX2) (N := 9) (ci := 2) (j := 6) hx hb hown hts hK hge hW hS hla hL rfl rfl (Nat.le_of_ble_eq_true rfl) rfl (by decide) inX2 tyX2 tyX2_ok nmX2 wd_63 rfl rfl (ty := .int) (by decide +kernel) rfl rfl hdg hE kk
theorem p_X0_129 (hx : p.tables.exec = Jvm.exec) (hb : c.code = cc) (hown : s.vm.findClass RX0 = some m.cls) (hts : ∀ w ∈ lw_gd, w.before args s = true) (hK : KK g s) (hge : okL g lay) (hW : Wd g lay E H) (hS : va_S (Ab g) H0 H locs) (hla : lay a = some finE) (hL : E a = L) {x : Int32} (hdg : decode cc pc = .ok (.putfield 129, 3)) (hE : va_up E a (upd L 9 x) = E1) (kk : ∀ (H1 : Heap) (locs1 : List Loc), Wd g lay E1 H1 → va_S (Ab g) H0 H1 locs1 → W p l e R s m args below meth c H1 locs1 cells slots Q (F0 m (pc + 3) ls rest)) : W p l e R s m args below meth c H locs cells slots Q (F0 m pc ls (.int x :: .ref a :: rest)) :=
  w_put (C := RX1) (T := TX1) (N := 10) (ci := 1) (j := 9) hx hb hown hts hK hge hW hS hla hL rfl rfl (Nat.le_of_ble_eq_true rfl) rfl (by decide) inX1 tyX1 tyX1_ok nmX1 wd_111 rfl rfl (ty := .int) (by decide +kernel) rfl rfl hdg hE kk
theorem p_X0_151 (hx : p.tables.exec = Jvm.exec) (hb : c.code = cc) (hown : s.vm.findClass RX0 = some m.cls) (hts : ∀ w ∈ lw_gd, w.before args s = true) (hK : KK g s) (hge : okL g lay) (hW : Wd g lay E H) (hS : va_S (Ab g) H0 H locs) (hla : lay a = some finE) (hL : E a = L) {x : Int32} (hdg : decode cc pc = .ok (.putfield 151, 3)) (hE : va_up E a (upd L 2 x) = E1) (kk : ∀ (H1 : Heap) (locs1 : List Loc), Wd g lay E1 H1 → va_S (Ab g) H0 H1 locs1 → W p l e R s m args below meth c H1 locs1 cells slots Q (F0 m (pc + 3) ls rest)) : W p l e R s m args below meth c H locs cells slots Q (F0 m pc ls (.int x :: .ref a :: rest)) :=
  w_put (C := RX1) (T := TX1) (N := 10) (ci := 1) (j := 2) hx hb hown hts hK hge hW hS hla hL rfl rfl (Nat.le_of_ble_eq_true rfl) rfl (by decide) inX1 tyX1 tyX1_ok nmX1 wd_97 rfl rfl (ty := .int) (by decide +kernel) rfl rfl hdg hE kk
theorem p_X0_181 (hx : p.tables.exec = Jvm.exec) (hb : c.code = cc) (hown : s.vm.findClass RX0 = some m.cls) (hts : ∀ w ∈ lw_gd, w.before args s = true) (hK : KK g s) (hge : okL g lay) (hW : Wd g lay E H) (hS : va_S (Ab g) H0 H locs) (hla : lay a = some finE) (hL : E a = L) {x : Int32} (hdg : decode cc pc = .ok (.putfield 181, 3)) (hE : va_up E a (upd L 1 x) = E1) (kk : ∀ (H1 : Heap) (locs1 : List Loc), Wd g lay E1 H1 → va_S (Ab g) H0 H1 locs1 → W p l e R s m args below meth c H1 locs1 cells slots Q (F0 m (pc + 3) ls rest)) : W p l e R s m args below meth c H locs cells slots Q (F0 m pc ls (.int x :: .ref a :: rest)) :=
  w_put (C := RX1) (T := TX1) (N := 10) (ci := 1) (j := 1) hx hb hown hts hK hge hW hS hla hL rfl rfl (Nat.le_of_ble_eq_true rfl) rfl (by decide) inX1 tyX1 tyX1_ok nmX1 wd_95 rfl rfl (ty := .int) (by decide +kernel) rfl rfl hdg hE kk
theorem p_X0_191 (hx : p.tables.exec = Jvm.exec) (hb : c.code = cc) (hown : s.vm.findClass RX0 = some m.cls) (hts : ∀ w ∈ lw_gd, w.before args s = true) (hK : KK g s) (hge : okL g lay) (hW : Wd g lay E H) (hS : va_S (Ab g) H0 H locs) (hla : lay a = some finE) (hL : E a = L) {x : Int32} (hdg : decode cc pc = .ok (.putfield 191, 3)) (hE : va_up E a (upd L 5 x) = E1) (kk : ∀ (H1 : Heap) (locs1 : List Loc), Wd g lay E1 H1 → va_S (Ab g) H0 H1 locs1 → W p l e R s m args below meth c H1 locs1 cells slots Q (F0 m (pc + 3) ls rest)) : W p l e R s m args below meth c H locs cells slots Q (F0 m pc ls (.int x :: .ref a :: rest)) :=
  w_put (C := RX1) (T := TX1) (N := 10) (ci := 1) (j := 5) hx hb hown hts hK hge hW hS hla hL rfl rfl (Nat.le_of_ble_eq_true rfl) rfl (by decide) inX1 tyX1 tyX1_ok nmX1 wd_103 rfl rfl (ty := .int) (by decide +kernel) rfl rfl hdg hE kk
theorem p_X0_194 (hx : p.tables.exec = Jvm.exec) (hb : c.code = cc) (hown : s.vm.findClass RX0 = some m.cls) (hts : ∀ w ∈ lw_gd, w.before args s = true) (hK : KK g s) (hge : okL g lay) (hW : Wd g lay E H) (hS : va_S (Ab g) H0 H locs) (hla : lay a = some finE) (hL : E a = L) {x : Int32} (hdg : decode cc pc = .ok (.putfield 194, 3)) (hE : va_up E a (upd L 7 x) = E1) (kk : ∀ (H1 : Heap) (locs1 : List Loc), Wd g lay E1 H1 → va_S (Ab g) H0 H1 locs1 → W p l e R s m args below meth c H1 locs1 cells slots Q (F0 m (pc + 3) ls rest)) : W p l e R s m args below meth c H locs cells slots Q (F0 m pc ls (.int x :: .ref a :: rest)) :=
  w_put (C := RX1) (T := TX1) (N := 10) (ci := 1) (j := 7) hx hb hown hts hK hge hW hS hla hL rfl rfl (Nat.le_of_ble_eq_true rfl) rfl (by decide) inX1 tyX1 tyX1_ok nmX1 wd_107 rfl rfl (ty := .int) (by decide +kernel) rfl rfl hdg hE kk
theorem p_X0_197 (hx : p.tables.exec = Jvm.exec) (hb : c.code = cc) (hown : s.vm.findClass RX0 = some m.cls) (hts : ∀ w ∈ lw_gd, w.before args s = true) (hK : KK g s) (hge : okL g lay) (hW : Wd g lay E H) (hS : va_S (Ab g) H0 H locs) (hla : lay a = some finE) (hL : E a = L) {x : Int32} (hdg : decode cc pc = .ok (.putfield 197, 3)) (hE : va_up E a (upd L 3 x) = E1) (kk : ∀ (H1 : Heap) (locs1 : List Loc), Wd g lay E1 H1 → va_S (Ab g) H0 H1 locs1 → W p l e R s m args below meth c H1 locs1 cells slots Q (F0 m (pc + 3) ls rest)) : W p l e R s m args below meth c H locs cells slots Q (F0 m pc ls (.int x :: .ref a :: rest)) :=
  w_put (C := RX1) (T := TX1) (N := 10) (ci := 1) (j := 3) hx hb hown hts hK hge hW hS hla hL rfl rfl (Nat.le_of_ble_eq_true rfl) rfl (by decide) inX1 tyX1 tyX1_ok nmX1 wd_99 rfl rfl (ty := .int) (by decide +kernel) rfl rfl hdg hE kk
theorem p_X0_204 (hx : p.tables.exec = Jvm.exec) (hb : c.code = cc) (hown : s.vm.findClass RX0 = some m.cls) (hts : ∀ w ∈ lw_gd, w.before args s = true) (hK : KK g s) (hge : okL g lay) (hW : Wd g lay E H) (hS : va_S (Ab g) H0 H locs) (hla : lay a = some finE) (hL : E a = L) {x : Int32} (hdg : decode cc pc = .ok (.putfield 204, 3)) (hE : va_up E a (upd L 4 x) = E1) (kk : ∀ (H1 : Heap) (locs1 : List Loc), Wd g lay E1 H1 → va_S (Ab g) H0 H1 locs1 → W p l e R s m args below meth c H1 locs1 cells slots Q (F0 m (pc + 3) ls rest)) : W p l e R s m args below meth c H locs cells slots Q (F0 m pc ls (.int x :: .ref a :: rest)) :=
  w_put (C := RX1) (T := TX1) (N := 10) (ci := 1) (j := 4) hx hb hown hts hK hge hW hS hla hL rfl rfl (Nat.le_of_ble_eq_true rfl) rfl (by decide) inX1 tyX1 tyX1_ok nmX1 wd_101 rfl rfl (ty := .int) (by decide +kernel) rfl rfl hdg hE kk
theorem p_X0_211 (hx : p.tables.exec = Jvm.exec) (hb : c.code = cc) (hown : s.vm.findClass RX0 = some m.cls) (hts : ∀ w ∈ lw_gd, w.before args s = true) (hK : KK g s) (hge : okL g lay) (hW : Wd g lay E H) (hS : va_S (Ab g) H0 H locs) (hla : lay a = some finE) (hL : E a = L) {x : Int32} (hdg : decode cc pc = .ok (.putfield 211, 3)) (hE : va_up E a (upd L 6 x) = E1) (kk : ∀ (H1 : Heap) (locs1 : List Loc), Wd g lay E1 H1 → va_S (Ab g) H0 H1 locs1 → W p l e R s m args below meth c H1 locs1 cells slots Q (F0 m (pc + 3) ls rest)) : W p l e R s m args below meth c H locs cells slots Q (F0 m pc ls (.int x :: .ref a :: rest)) :=
  w_put (C := RX1) (T := TX1) (N := 10) (ci := 1) (j := 6) hx hb hown hts hK hge hW hS hla hL rfl rfl (Nat.le_of_ble_eq_true rfl) rfl (by decide) inX1 tyX1 tyX1_ok nmX1 wd_105 rfl rfl (ty := .int) (by decide +kernel) rfl rfl hdg hE kk
theorem p_X0_214 (hx : p.tables.exec = Jvm.exec) (hb : c.code = cc) (hown : s.vm.findClass RX0 = some m.cls) (hts : ∀ w ∈ lw_gd, w.before args s = true) (hK : KK g s) (hge : okL g lay) (hW : Wd g lay E H) (hS : va_S (Ab g) H0 H locs) (hla : lay a = some lineE) (hL : E a = L) {x : Int32} (hdg : decode cc pc = .ok (.putfield 214, 3)) (hE : va_up E a (upd L 2 x) = E1) (kk : ∀ (H1 : Heap) (locs1 : List Loc), Wd g lay E1 H1 → va_S (Ab g) H0 H1 locs1 → W p l e R s m args below meth c H1 locs1 cells slots Q (F0 m (pc + 3) ls rest)) : W p l e R s m args below meth c H locs cells slots Q (F0 m pc ls (.int x :: .ref a :: rest)) :=
  w_put (C := RX2) (T := TX2) (N := 9) (ci := 2) (j := 2) hx hb hown hts hK hge hW hS hla hL rfl rfl (Nat.le_of_ble_eq_true rfl) rfl (by decide) inX2 tyX2 tyX2_ok nmX2 wd_56 rfl rfl (ty := .int) (by decide +kernel) rfl rfl hdg hE kk
theorem p_X0_217 (hx : p.tables.exec = Jvm.exec) (hb : c.code = cc) (hown : s.vm.findClass RX0 = some m.cls) (hts : ∀ w ∈ lw_gd, w.before args s = true) (hK : KK g s) (hge : okL g lay) (hW : Wd g lay E H) (hS : va_S (Ab g) H0 H locs) (hla : lay a = some finE) (hL : E a = L) {x : Int32} (hdg : decode cc pc = .ok (.putfield 217, 3)) (hE : va_up E a (upd L 8 x) = E1) (kk : ∀ (H1 : Heap) (locs1 : List Loc), Wd g lay E1 H1 → va_S (Ab g) H0 H1 locs1 → W p l e R s m args below meth c H1 locs1 cells slots Q (F0 m (pc + 3) ls rest)) : W p l e R s m args below meth c H locs cells slots Q (F0 m pc ls (.int x :: .ref a :: rest)) :=
  w_put (C := RX1) (T := TX1) (N := 10) (ci := 1) (j := 8) hx hb hown hts hK hge hW hS hla hL rfl rfl (Nat.le_of_ble_eq_true rfl) rfl (by decide) inX1 tyX1 tyX1_ok nmX1 wd_109 rfl rfl (ty := .int) (by decide +kernel) rfl rfl hdg hE kk
theorem g_X1_9 (hx : p.tables.exec = Jvm.exec) (hb : c.code = cc) (hown : s.vm.findClass RX1 = some m.cls) (hts : ∀ w ∈ lw_gd, w.before args s = true) (hK : KK g s) (hW : Wd g lay E H) (hla : lay a = some finE) (hL : E a = L) (hdg : decode cc pc = .ok (.getfield 9, 3)) (kk : W p l e R s m args below meth c H locs cells slots Q (F0 m (pc + 3) ls (.int (L 0) :: rest))) : W p l e R s m args below meth c H locs cells slots Q (F0 m pc ls (.ref a :: rest)) :=
  w_get (C := RX1) (T := TX1) (N := 10) (ci := 1) (j := 0) hx hb hown hts hK hW hla hL rfl rfl rfl (by decide) inX1 wd_92 rfl hdg kk
theorem g_X1_15 (hx : p.tables.exec = Jvm.exec) (hb : c.code = cc) (hown : s.vm.findClass RX1 = some m.cls) (hts : ∀ w ∈ lw_gd, w.before args s = true) (hK : KK g s) (hW : Wd g lay E H) (hla : lay a = some finE) (hL : E a = L) (hdg : decode cc pc = .ok (.getfield 15, 3)) (kk : W p l e R s m args below meth c H locs cells slots Q (F0 m (pc + 3) ls (.int (L 1) :: rest))) : W p l e R s m args below meth c H locs cells slots Q (F0 m pc ls (.ref a :: rest)) :=
  w_get (C := RX1) (T := TX1) (N := 10) (ci := 1) (j := 1) hx hb hown hts hK hW hla hL rfl rfl rfl (by decide) inX1 wd_94 rfl hdg kk
theorem g_X1_18 (hx : p.tables.exec = Jvm.exec) (hb : c.code = cc) (hown : s.vm.findClass RX1 = some m.cls) (hts : ∀ w ∈ lw_gd, w.before args s = true) (hK : KK g s) (hW : Wd g lay E H) (hla : lay a = some finE) (hL : E a = L) (hdg : decode cc pc = .ok (.getfield 18, 3)) (kk : W p l e R s m args below meth c H locs cells slots Q (F0 m (pc + 3) ls (.int (L 2) :: rest))) : W p l e R s m args below meth c H locs cells slots Q (F0 m pc ls (.ref a :: rest)) :=
  w_get (C := RX1) (T := TX1) (N := 10) (ci := 1) (j := 2) hx hb hown hts hK hW hla hL rfl rfl rfl (by decide) inX1 wd_96 rfl hdg kk
theorem g_X1_21 (hx : p.tables.exec = Jvm.exec) (hb : c.code = cc) (hown : s.vm.findClass RX1 = some m.cls) (hts : ∀ w ∈ lw_gd, w.before args s = true) (hK : KK g s) (hW : Wd g lay E H) (hla : lay a = some finE) (hL : E a = L) (hdg : decode cc pc = .ok (.getfield 21, 3)) (kk : W p l e R s m args below meth c H locs cells slots Q (F0 m (pc + 3) ls (.int (L 3) :: rest))) : W p l e R s m args below meth c H locs cells slots Q (F0 m pc ls (.ref a :: rest)) :=
  w_get (C := RX1) (T := TX1) (N := 10) (ci := 1) (j := 3) hx hb hown hts hK hW hla hL rfl rfl rfl (by decide) inX1 wd_98 rfl hdg kk
theorem g_X1_24 (hx : p.tables.exec = Jvm.exec) (hb : c.code = cc) (hown : s.vm.findClass RX1 = some m.cls) (hts : ∀ w ∈ lw_gd, w.before args s = true) (hK : KK g s) (hW : Wd g lay E H) (hla : lay a = some finE) (hL : E a = L) (hdg : decode cc pc = .ok (.getfield 24, 3)) (kk : W p l e R s m args below meth c H locs cells slots Q (F0 m (pc + 3) ls (.int (L 4) :: rest))) : W p l e R s m args below meth c H locs cells slots Q (F0 m pc ls (.ref a :: rest)) :=
  w_get (C := RX1) (T := TX1) (N := 10) (ci := 1) (j := 4) hx hb hown hts hK hW hla hL rfl rfl rfl (by decide) inX1 wd_100 rfl hdg kk
theorem g_X1_27 (hx : p.tables.exec = Jvm.exec) (hb : c.code = cc) (hown : s.vm.findClass RX1 = some m.cls) (hts : ∀ w ∈ lw_gd, w.before args s = true) (hK : KK g s) (hW : Wd g lay E H) (hla : lay a = some finE) (hL : E a = L) (hdg : decode cc pc = .ok (.getfield 27, 3)) (kk : W p l e R s m args below meth c H locs cells slots Q (F0 m (pc + 3) ls (.int (L 5) :: rest))) : W p l e R s m args below meth c H locs cells slots Q (F0 m pc ls (.ref a :: rest)) :=
  w_get (C := RX1) (T := TX1) (N := 10) (ci := 1) (j := 5) hx hb hown hts hK hW hla hL rfl rfl rfl (by decide) inX1 wd_102 rfl hdg kk
theorem g_X1_30 (hx : p.tables.exec = Jvm.exec) (hb : c.code = cc) (hown : s.vm.findClass RX1 = some m.cls) (hts : ∀ w ∈ lw_gd, w.before args s = true) (hK : KK g s) (hW : Wd g lay E H) (hla : lay a = some finE) (hL : E a = L) (hdg : decode cc pc = .ok (.getfield 30, 3)) (kk : W p l e R s m args below meth c H locs cells slots Q (F0 m (pc + 3) ls (.int (L 6) :: rest))) : W p l e R s m args below meth c H locs cells slots Q (F0 m pc ls (.ref a :: rest)) :=
  w_get (C := RX1) (T := TX1) (N := 10) (ci := 1) (j := 6) hx hb hown hts hK hW hla hL rfl rfl rfl (by decide) inX1 wd_104 rfl hdg kk
theorem g_X1_33 (hx : p.tables.exec = Jvm.exec) (hb : c.code = cc) (hown : s.vm.findClass RX1 = some m.cls) (hts : ∀ w ∈ lw_gd, w.before args s = true) (hK : KK g s) (hW : Wd g lay E H) (hla : lay a = some finE) (hL : E a = L) (hdg : decode cc pc = .ok (.getfield 33, 3)) (kk : W p l e R s m args below meth c H locs cells slots Q (F0 m (pc + 3) ls (.int (L 7) :: rest))) : W p l e R s m args below meth c H locs cells slots Q (F0 m pc ls (.ref a :: rest)) :=
  w_get (C := RX1) (T := TX1) (N := 10) (ci := 1) (j := 7) hx hb hown hts hK hW hla hL rfl rfl rfl (by decide) inX1 wd_106 rfl hdg kk
theorem g_X1_36 (hx : p.tables.exec = Jvm.exec) (hb : c.code = cc) (hown : s.vm.findClass RX1 = some m.cls) (hts : ∀ w ∈ lw_gd, w.before args s = true) (hK : KK g s) (hW : Wd g lay E H) (hla : lay a = some finE) (hL : E a = L) (hdg : decode cc pc = .ok (.getfield 36, 3)) (kk : W p l e R s m args below meth c H locs cells slots Q (F0 m (pc + 3) ls (.int (L 8) :: rest))) : W p l e R s m args below meth c H locs cells slots Q (F0 m pc ls (.ref a :: rest)) :=
  w_get (C := RX1) (T := TX1) (N := 10) (ci := 1) (j := 8) hx hb hown hts hK hW hla hL rfl rfl rfl (by decide) inX1 wd_108 rfl hdg kk
theorem g_X1_39 (hx : p.tables.exec = Jvm.exec) (hb : c.code = cc) (hown : s.vm.findClass RX1 = some m.cls) (hts : ∀ w ∈ lw_gd, w.before args s = true) (hK : KK g s) (hW : Wd g lay E H) (hla : lay a = some finE) (hL : E a = L) (hdg : decode cc pc = .ok (.getfield 39, 3)) (kk : W p l e R s m args below meth c H locs cells slots Q (F0 m (pc + 3) ls (.int (L 9) :: rest))) : W p l e R s m args below meth c H locs cells slots Q (F0 m pc ls (.ref a :: rest)) :=
  w_get (C := RX1) (T := TX1) (N := 10) (ci := 1) (j := 9) hx hb hown hts hK hW hla hL rfl rfl rfl (by decide) inX1 wd_110 rfl hdg kk
theorem p_X1_9 (hx : p.tables.exec = Jvm.exec) (hb : c.code = cc) (hown : s.vm.findClass RX1 = some m.cls) (hts : ∀ w ∈ lw_gd, w.before args s = true) (hK : KK g s) (hge : okL g lay) (hW : Wd g lay E H) (hS : va_S (Ab g) H0 H locs) (hla : lay a = some finE) (hL : E a = L) {x : Int32} (hdg : decode cc pc = .ok (.putfield 9, 3)) (hE : va_up E a (upd L 0 x) = E1) (kk : ∀ (H1 : Heap) (locs1 : List Loc), Wd g lay E1 H1 → va_S (Ab g) H0 H1 locs1 → W p l e R s m args below meth c H1 locs1 cells slots Q (F0 m (pc + 3) ls rest)) : W p l e R s m args below meth c H locs cells slots Q (F0 m pc ls (.int x :: .ref a :: rest)) :=
  w_put (C := RX1) (T := TX1) (N := 10) (ci := 1) (j := 0) hx hb hown hts hK hge hW hS hla hL rfl rfl (Nat.le_of_ble_eq_true rfl) rfl (by decide) inX1 tyX1 tyX1_ok nmX1 wd_92 rfl rfl (ty := .int) (by decide +kernel) rfl rfl hdg hE kk
theorem p_X1_15 (hx : p.tables.exec = Jvm.exec) (hb : c.code = cc) (hown : s.vm.findClass RX1 = some m.cls) (hts : ∀ w ∈ lw_gd, w.before args s = true) (hK : KK g s) (hge : okL g lay) (hW : Wd g lay E H) (hS : va_S (Ab g) H0 H locs) (hla : lay a = some finE) (hL : E a = L) {x : Int32} (hdg : decode cc pc = .ok (.putfield 15, 3)) (hE : va_up E a (upd L 1 x) = E1) (kk : ∀ (H1 : Heap) (locs1 : List Loc), Wd g lay E1 H1 → va_S (Ab g) H0 H1 locs1 → W p l e R s m args below meth c H1 locs1 cells slots Q (F0 m (pc + 3) ls rest)) : W p l e R s m args below meth c H locs cells slots Q (F0 m pc ls (.int x :: .ref a :: rest)) :=
  w_put (C := RX1) (T := TX1) (N := 10) (ci := 1) (j := 1) hx hb hown hts hK hge hW hS hla hL rfl rfl (Nat.le_of_ble_eq_true rfl) rfl (by decide) inX1 tyX1 tyX1_ok nmX1 wd_94 rfl rfl (ty := .int) (by decide +kernel) rfl rfl hdg hE kk
theorem p_X1_18 (hx : p.tables.exec = Jvm.exec) (hb : c.code = cc) (hown : s.vm.findClass RX1 = some m.cls) (hts : ∀ w ∈ lw_gd, w.before args s = true) (hK : KK g s) (hge : okL g lay) (hW : Wd g lay E H) (hS : va_S (Ab g) H0 H locs) (hla : lay a = some finE) (hL : E a = L) {x : Int32} (hdg : decode cc pc = .ok (.putfield 18, 3)) (hE : va_up E a (upd L 2 x) = E1) (kk : ∀ (H1 : Heap) (locs1 : List Loc), Wd g lay E1 H1 → va_S (Ab g) H0 H1 locs1 → W p l e R s m args below meth c H1 locs1 cells slots Q (F0 m (pc + 3) ls rest)) : W p l e R s m args below meth c H locs cells slots Q (F0 m pc ls (.int x :: .ref a :: rest)) :=
  w_put (C := RX1) (T := TX1) (N := 10) (ci := 1) (j := 2) hx hb hown hts hK hge hW hS hla hL rfl rfl (Nat.le_of_ble_eq_true rfl) rfl (by decide) inX1 tyX1 tyX1_ok nmX1 wd_96 rfl rfl (ty := .int) (by decide +kernel) rfl rfl hdg hE kk
theorem p_X1_21 (hx : p.tables.exec = Jvm.exec) (hb : c.code = cc) (hown : s.vm.findClass RX1 = some m.cls) (hts : ∀ w ∈ lw_gd, w.before args s = true) (hK : KK g s) (hge : okL g lay) (hW : Wd g lay E H) (hS : va_S (Ab g) H0 H locs) (hla : lay a = some finE) (hL : E a = L) {x : Int32} (hdg : decode cc pc = .ok (.putfield 21, 3)) (hE : va_up E a (upd L 3 x) = E1) (kk : ∀ (H1 : Heap) (locs1 : List Loc), Wd g lay E1 H1 → va_S (Ab g) H0 H1 locs1 → W p l e R s m args below meth c H1 locs1 cells slots Q (F0 m (pc + 3) ls rest)) : W p l e R s m args below meth c H locs cells slots Q (F0 m pc ls (.int x :: .ref a :: rest)) :=
  w_put (C := RX1) (T := TX1) (N := 10) (ci := 1) (j := 3) hx hb hown hts hK hge hW hS hla hL rfl rfl (Nat.le_of_ble_eq_true rfl) rfl (by decide) inX1 tyX1 tyX1_ok nmX1 wd_98 rfl rfl (ty := .int) (by decide +kernel) rfl rfl hdg hE kk
theorem p_X1_24 (hx : p.tables.exec = Jvm.exec) (hb : c.code = cc) (hown : s.vm.findClass RX1 = some m.cls) (hts : ∀ w ∈ lw_gd, w.before args s = true) (hK : KK g s) (hge : okL g lay) (hW : Wd g lay E H) (hS : va_S (Ab g) H0 H locs) (hla : lay a = some finE) (hL : E a = L) {x : Int32} (hdg : decode cc pc = .ok (.putfield 24, 3)) (hE : va_up E a (upd L 4 x) = E1) (kk : ∀ (H1 : Heap) (locs1 : List Loc), Wd g lay E1 H1 → va_S (Ab g) H0 H1 locs1 → W p l e R s m args below meth c H1 locs1 cells slots Q (F0 m (pc + 3) ls rest)) : W p l e R s m args below meth c H locs cells slots Q (F0 m pc ls (.int x :: .ref a :: rest)) :=
  w_put (C := RX1) (T := TX1) (N := 10) (ci := 1) (j := 4) hx hb hown hts hK hge hW hS hla hL rfl rfl (Nat.le_of_ble_eq_true rfl) rfl (by decide) inX1 tyX1 tyX1_ok nmX1 wd_100 rfl rfl (ty := .int) (by decide +kernel) rfl rfl hdg hE kk
theorem p_X1_27 (hx : p.tables.exec = Jvm.exec) (hb : c.code = cc) (hown : s.vm.findClass RX1 = some m.cls) (hts : ∀ w ∈ lw_gd, w.before args s = true) (hK : KK g s) (hge : okL g lay) (hW : Wd g lay E H) (hS : va_S (Ab g) H0 H locs) (hla : lay a = some finE) (hL : E a = L) {x : Int32} (hdg : decode cc pc = .ok (.putfield 27, 3)) (hE : va_up E a (upd L 5 x) = E1) (kk : ∀ (H1 : Heap) (locs1 : List Loc), Wd g lay E1 H1 → va_S (Ab g) H0 H1 locs1 → W p l e R s m args below meth c H1 locs1 cells slots Q (F0 m (pc + 3) ls rest)) : W p l e R s m args below meth c H locs cells slots Q (F0 m pc ls (.int x :: .ref a :: rest)) :=
  w_put (C := RX1) (T := TX1) (N := 10) (ci := 1) (j := 5) hx hb hown hts hK hge hW hS hla hL rfl rfl (Nat.le_of_ble_eq_true rfl) rfl (by decide) inX1 tyX1 tyX1_ok nmX1 wd_102 rfl rfl (ty := .int) (by decide +kernel) rfl rfl hdg hE kk
theorem p_X1_30 (hx : p.tables.exec = Jvm.exec) (hb : c.code = cc) (hown : s.vm.findClass RX1 = some m.cls) (hts : ∀ w ∈ lw_gd, w.before args s = true) (hK : KK g s) (hge : okL g lay) (hW : Wd g lay E H) (hS : va_S (Ab g) H0 H locs) (hla : lay a = some finE) (hL : E a = L) {x : Int32} (hdg : decode cc pc = .ok (.putfield 30, 3)) (hE : va_up E a (upd L 6 x) = E1) (kk : ∀ (H1 : Heap) (locs1 : List Loc), Wd g lay E1 H1 → va_S (Ab g) H0 H1 locs1 → W p l e R s m args below meth c H1 locs1 cells slots Q (F0 m (pc + 3) ls rest)) : W p l e R s m args below meth c H locs cells slots Q (F0 m pc ls (.int x :: .ref a :: rest)) :=
  w_put (C := RX1) (T := TX1) (N := 10) (ci := 1) (j := 6) hx hb hown hts hK hge hW hS hla hL rfl rfl (Nat.le_of_ble_eq_true rfl) rfl (by decide) inX1 tyX1 tyX1_ok nmX1 wd_104 rfl rfl (ty := .int) (by decide +kernel) rfl rfl hdg hE kk
theorem p_X1_33 (hx : p.tables.exec = Jvm.exec) (hb : c.code = cc) (hown : s.vm.findClass RX1 = some m.cls) (hts : ∀ w ∈ lw_gd, w.before args s = true) (hK : KK g s) (hge : okL g lay) (hW : Wd g lay E H) (hS : va_S (Ab g) H0 H locs) (hla : lay a = some finE) (hL : E a = L) {x : Int32} (hdg : decode cc pc = .ok (.putfield 33, 3)) (hE : va_up E a (upd L 7 x) = E1) (kk : ∀ (H1 : Heap) (locs1 : List Loc), Wd g lay E1 H1 → va_S (Ab g) H0 H1 locs1 → W p l e R s m args below meth c H1 locs1 cells slots Q (F0 m (pc + 3) ls rest)) : W p l e R s m args below meth c H locs cells slots Q (F0 m pc ls (.int x :: .ref a :: rest)) :=
  w_put (C := RX1) (T := TX1) (N := 10) (ci := 1) (j := 7) hx hb hown hts hK hge hW hS hla hL rfl rfl (Nat.le_of_ble_eq_true rfl) rfl (by decide) inX1 tyX1 tyX1_ok nmX1 wd_106 rfl rfl (ty := .int) (by decide +kernel) rfl rfl hdg hE kk
theorem p_X1_36 (hx : p.tables.exec = Jvm.exec) (hb : c.code = cc) (hown : s.vm.findClass RX1 = some m.cls) (hts : ∀ w ∈ lw_gd, w.before args s = true) (hK : KK g s) (hge : okL g lay) (hW : Wd g lay E H) (hS : va_S (Ab g) H0 H locs) (hla : lay a = some finE) (hL : E a = L) {x : Int32} (hdg : decode cc pc = .ok (.putfield 36, 3)) (hE : va_up E a (upd L 8 x) = E1) (kk : ∀ (H1 : Heap) (locs1 : List Loc), Wd g lay E1 H1 → va_S (Ab g) H0 H1 locs1 → W p l e R s m args below meth c H1 locs1 cells slots Q (F0 m (pc + 3) ls rest)) : W p l e R s m args below meth c H locs cells slots Q (F0 m pc ls (.int x :: .ref a :: rest)) :=
  w_put (C := RX1) (T := TX1) (N := 10) (ci := 1) (j := 8) hx hb hown hts hK hge hW hS hla hL rfl rfl (Nat.le_of_ble_eq_true rfl) rfl (by decide) inX1 tyX1 tyX1_ok nmX1 wd_108 rfl rfl (ty := .int) (by decide +kernel) rfl rfl hdg hE kk
theorem p_X1_39 (hx : p.tables.exec = Jvm.exec) (hb : c.code = cc) (hown : s.vm.findClass RX1 = some m.cls) (hts : ∀ w ∈ lw_gd, w.before args s = true) (hK : KK g s) (hge : okL g lay) (hW : Wd g lay E H) (hS : va_S (Ab g) H0 H locs) (hla : lay a = some finE) (hL : E a = L) {x : Int32} (hdg : decode cc pc = .ok (.putfield 39, 3)) (hE : va_up E a (upd L 9 x) = E1) (kk : ∀ (H1 : Heap) (locs1 : List Loc), Wd g lay E1 H1 → va_S (Ab g) H0 H1 locs1 → W p l e R s m args below meth c H1 locs1 cells slots Q (F0 m (pc + 3) ls rest)) : W p l e R s m args below meth c H locs cells slots Q (F0 m pc ls (.int x :: .ref a :: rest)) :=
  w_put (C := RX1) (T := TX1) (N := 10) (ci := 1) (j := 9) hx hb hown hts hK hge hW hS hla hL rfl rfl (Nat.le_of_ble_eq_true rfl) rfl (by decide) inX1 tyX1 tyX1_ok nmX1 wd_110 rfl rfl (ty := .int) (by decide +kernel) rfl rfl hdg hE kk
theorem g_X2_9 (hx : p.tables.exec = Jvm.exec) (hb : c.code = cc) (hown : s.vm.findClass RX2 = some m.cls) (hts : ∀ w ∈ lw_gd, w.before args s = true) (hK : KK g s) (hW : Wd g lay E H) (hla : lay a = some lineE) (hL : E a = L) (hdg : decode cc pc = .ok (.getfield 9, 3)) (kk : W p l e R s m args below meth c H locs cells slots Q (F0 m (pc + 3) ls (.int (L 0) :: rest))) : W p l e R s m args below meth c H locs cells slots Q (F0 m pc ls (.ref a :: rest)) :=
  w_get (C := RX2) (T := TX2) (N := 9) (ci := 2) (j := 0) hx hb hown hts hK hW hla hL rfl rfl rfl (by decide) inX2 wd_51 rfl hdg kk
theorem g_X2_15 (hx : p.tables.exec = Jvm.exec) (hb : c.code = cc) (hown : s.vm.findClass RX2 = some m.cls) (hts : ∀ w ∈ lw_gd, w.before args s = true) (hK : KK g s) (hW : Wd g lay E H) (hla : lay a = some lineE) (hL : E a = L) (hdg : decode cc pc = .ok (.getfield 15, 3)) (kk : W p l e R s m args below meth c H locs cells slots Q (F0 m (pc + 3) ls (.int (L 1) :: rest))) : W p l e R s m args below meth c H locs cells slots Q (F0 m pc ls (.ref a :: rest)) :=
  w_get (C := RX2) (T := TX2) (N := 9) (ci := 2) (j := 1) hx hb hown hts hK hW hla hL rfl rfl rfl (by decide) inX2 wd_53 rfl hdg kk
theorem g_X2_19 (hx : p.tables.exec = Jvm.exec) (hb : c.code = cc) (hown : s.vm.findClass RX2 = some m.cls) (hts : ∀ w ∈ lw_gd, w.before args s = true) (hK : KK g s) (hW : Wd g lay E H) (hla : lay a = some lineE) (hL : E a = L) (hdg : decode cc pc = .ok (.getfield 19, 3)) (kk : W p l e R s m args below meth c H locs cells slots Q (F0 m (pc + 3) ls (.int (L 2) :: rest))) : W p l e R s m args below meth c H locs cells slots Q (F0 m pc ls (.ref a :: rest)) :=
  w_get (C := RX2) (T := TX2) (N := 9) (ci := 2) (j := 2) hx hb hown hts hK hW hla hL rfl rfl rfl (by decide) inX2 wd_55 rfl hdg kk
theorem g_X2_22 (hx : p.tables.exec = Jvm.exec) (hb : c.code = cc) (hown : s.vm.findClass RX2 = some m.cls) (hts : ∀ w ∈ lw_gd, w.before args s = true) (hK : KK g s) (hW : Wd g lay E H) (hla : lay a = some lineE) (hL : E a = L) (hdg : decode cc pc = .ok (.getfield 22, 3)) (kk : W p l e R s m args below meth c H locs cells slots Q (F0 m (pc + 3) ls (.int (L 3) :: rest))) : W p l e R s m args below meth c H locs cells slots Q (F0 m pc ls (.ref a :: rest)) :=
  w_get (C := RX2) (T := TX2) (N := 9) (ci := 2) (j := 3) hx hb hown hts hK hW hla hL rfl rfl rfl (by decide) inX2 wd_57 rfl hdg kk
theorem g_X2_25 (hx : p.tables.exec = Jvm.exec) (hb : c.code = cc) (hown : s.vm.findClass RX2 = some m.cls) (hts : ∀ w ∈ lw_gd, w.before args s = true) (hK : KK g s) (hW : Wd g lay E H) (hla : lay a = some lineE) (hL : E a = L) (hdg : decode cc pc = .ok (.getfield 25, 3)) (kk : W p l e R s m args below meth c H locs cells slots Q (F0 m (pc + 3) ls (.int (L 4) :: rest))) : W p l e R s m args below meth c H locs cells slots Q (F0 m pc ls (.ref a :: rest)) :=
  w_get (C := RX2) (T := TX2) (N := 9) (ci := 2) (j := 4) hx hb hown hts hK hW hla hL rfl rfl rfl (by decide) inX2 wd_59 rfl hdg kk
theorem g_X2_28 (hx : p.tables.exec = Jvm.exec) (hb : c.code = cc) (hown : s.vm.findClass RX2 = some m.cls) (hts : ∀ w ∈ lw_gd, w.before args s = true) (hK : KK g s) (hW : Wd g lay E H) (hla : lay a = some lineE) (hL : E a = L) (hdg : decode cc pc = .ok (.getfield 28, 3)) (kk : W p l e R s m args below meth c H locs cells slots Q (F0 m (pc + 3) ls (.int (L 5) :: rest))) : W p l e R s m args below meth c H locs cells slots Q (F0 m pc ls (.ref a :: rest)) :=
  w_get (C := RX2) (T := TX2) (N := 9) (ci := 2) (j := 5) hx hb hown hts hK hW hla hL rfl rfl rfl (by decide) inX2 wd_60 rfl hdg kk
theorem g_X2_31 (hx : p.tables.exec = Jvm.exec) (hb : c.code = cc) (hown : s.vm.findClass RX2 = some m.cls) (hts : ∀ w ∈ lw_gd, w.before args s = true) (hK : KK g s) (hW : Wd g lay E H) (hla : lay a = some lineE) (hL : E a = L) (hdg : decode cc pc = .ok (.getfield 31, 3)) (kk : W p l e R s m args below meth c H locs cells slots Q (F0 m (pc + 3) ls (.int (L 6) :: rest))) : W p l e R s m args below meth c H locs cells slots Q (F0 m pc ls (.ref a :: rest)) :=
  w_get (C := RX2) (T := TX2) (N := 9) (ci := 2) (j := 6) hx hb hown hts hK hW hla hL rfl rfl rfl (by decide) inX2 wd_62 rfl hdg kk
theorem g_X2_34 (hx : p.tables.exec = Jvm.exec) (hb : c.code = cc) (hown : s.vm.findClass RX2 = some m.cls) (hts : ∀ w ∈ lw_gd, w.before args s = true) (hK : KK g s) (hW : Wd g lay E H) (hla : lay a = some lineE) (hL : E a = L) (hdg : decode cc pc = .ok (.getfield 34, 3)) (kk : W p l e R s m args below meth c H locs cells slots Q (F0 m (pc + 3) ls (.int (L 7) :: rest))) : W p l e R s m args below meth c H locs cells slots Q (F0 m pc ls (.ref a :: rest)) :=
  w_get (C := RX2) (T := TX2) (N := 9) (ci := 2) (j := 7) hx hb hown hts hK hW hla hL rfl rfl rfl (by decide) inX2 wd_64 rfl hdg kk
theorem g_X2_37 (hx : p.tables.exec = Jvm.exec) (hb : c.code = cc) (hown : s.vm.findClass RX2 = some m.cls) (hts : ∀ w ∈ lw_gd, w.before args s = true) (hK : KK g s) (hW : Wd g lay E H) (hla : lay a = some lineE) (hL : E a = L) (hdg : decode cc pc = .ok (.getfield 37, 3)) (kk : W p l e R s m args below meth c H locs cells slots Q (F0 m (pc + 3) ls (.int (L 8) :: rest))) : W p l e R s m args below meth c H locs cells slots Q (F0 m pc ls (.ref a :: rest)) :=
  w_get (C := RX2) (T := TX2) (N := 9) (ci := 2) (j := 8) hx hb hown hts hK hW hla hL rfl rfl rfl (by decide) inX2 wd_66 rfl hdg kk
theorem p_X2_9 (hx : p.tables.exec = Jvm.exec) (hb : c.code = cc) (hown : s.vm.findClass RX2 = some m.cls) (hts : ∀ w ∈ lw_gd, w.before args s = true) (hK : KK g s) (hge : okL g lay) (hW : Wd g lay E H) (hS : va_S (Ab g) H0 H locs) (hla : lay a = some lineE) (hL : E a = L) {x : Int32} (hdg : decode cc pc = .ok (.putfield 9, 3)) (hE : va_up E a (upd L 0 x) = E1) (kk : ∀ (H1 : Heap) (locs1 : List Loc), Wd g lay E1 H1 → va_S (Ab g) H0 H1 locs1 → W p l e R s m args below meth c H1 locs1 cells slots Q (F0 m (pc + 3) ls rest)) : W p l e R s m args below meth c H locs cells slots Q (F0 m pc ls (.int x :: .ref a :: rest)) :=
  w_put (C := RX2) (T := TX2) (N := 9) (ci := 2) (j := 0) hx hb hown hts hK hge hW hS hla hL rfl rfl (Nat.le_of_ble_eq_true rfl) rfl (by decide) inX2 tyX2 tyX2_ok nmX2 wd_51 rfl rfl (ty := .int) (by decide +kernel) rfl rfl hdg hE kk
theorem p_X2_15 (hx : p.tables.exec = Jvm.exec) (hb : c.code = cc) (hown : s.vm.findClass RX2 = some m.cls) (hts : ∀ w ∈ lw_gd, w.before args s = true) (hK : KK g s) (hge : okL g lay) (hW : Wd g lay E H) (hS : va_S (Ab g) H0 H locs) (hla : lay a = some lineE) (hL : E a = L) {x : Int32} (hz : x = 0 ∨ x = 1) (hdg : decode cc pc = .ok (.putfield 15, 3)) (hE : va_up E a (upd L 1 x) = E1) (kk : ∀ (H1 : Heap) (locs1 : List Loc), Wd g lay E1 H1 → va_S (Ab g) H0 H1 locs1 → W p l e R s m args below meth c H1 locs1 cells slots Q (F0 m (pc + 3) ls rest)) : W p l e R s m args below meth c H locs cells slots Q (F0 m pc ls (.int x :: .ref a :: rest)) :=
  w_put (C := RX2) (T := TX2) (N := 9) (ci := 2) (j := 1) hx hb hown hts hK hge hW hS hla hL rfl rfl (Nat.le_of_ble_eq_true rfl) rfl (by decide) inX2 tyX2 tyX2_ok nmX2 wd_53 rfl rfl (ty := .boolean) (by decide +kernel) (narZ hz) (fitZ hz) hdg hE kk
theorem p_X2_19 (hx : p.tables.exec = Jvm.exec) (hb : c.code = cc) (hown : s.vm.findClass RX2 = some m.cls) (hts : ∀ w ∈ lw_gd, w.before args s = true) (hK : KK g s) (hge : okL g lay) (hW : Wd g lay E H) (hS : va_S (Ab g) H0 H locs) (hla : lay a = some lineE) (hL : E a = L) {x : Int32} (hdg : decode cc pc = .ok (.putfield 19, 3)) (hE : va_up E a (upd L 2 x) = E1) (kk : ∀ (H1 : Heap) (locs1 : List Loc), Wd g lay E1 H1 → va_S (Ab g) H0 H1 locs1 → W p l e R s m args below meth c H1 locs1 cells slots Q (F0 m (pc + 3) ls rest)) : W p l e R s m args below meth c H locs cells slots Q (F0 m pc ls (.int x :: .ref a :: rest)) :=
  w_put (C := RX2) (T := TX2) (N := 9) (ci := 2) (j := 2) hx hb hown hts hK hge hW hS hla hL rfl rfl (Nat.le_of_ble_eq_true rfl) rfl (by decide) inX2 tyX2 tyX2_ok nmX2 wd_55 rfl rfl (ty := .int) (by decide +kernel) rfl rfl hdg hE kk
theorem p_X2_22 (hx : p.tables.exec = Jvm.exec) (hb : c.code = cc) (hown : s.vm.findClass RX2 = some m.cls) (hts : ∀ w ∈ lw_gd, w.before args s = true) (hK : KK g s) (hge : okL g lay) (hW : Wd g lay E H) (hS : va_S (Ab g) H0 H locs) (hla : lay a = some lineE) (hL : E a = L) {x : Int32} (hdg : decode cc pc = .ok (.putfield 22, 3)) (hE : va_up E a (upd L 3 x) = E1) (kk : ∀ (H1 : Heap) (locs1 : List Loc), Wd g lay E1 H1 → va_S (Ab g) H0 H1 locs1 → W p l e R s m args below meth c H1 locs1 cells slots Q (F0 m (pc + 3) ls rest)) : W p l e R s m args below meth c H locs cells slots Q (F0 m pc ls (.int x :: .ref a :: rest)) :=
  w_put (C := RX2) (T := TX2) (N := 9) (ci := 2) (j := 3) hx hb hown hts hK hge hW hS hla hL rfl rfl (Nat.le_of_ble_eq_true rfl) rfl (by decide) inX2 tyX2 tyX2_ok nmX2 wd_57 rfl rfl (ty := .int) (by decide +kernel) rfl rfl hdg hE kk
theorem p_X2_25 (hx : p.tables.exec = Jvm.exec) (hb : c.code = cc) (hown : s.vm.findClass RX2 = some m.cls) (hts : ∀ w ∈ lw_gd, w.before args s = true) (hK : KK g s) (hge : okL g lay) (hW : Wd g lay E H) (hS : va_S (Ab g) H0 H locs) (hla : lay a = some lineE) (hL : E a = L) {x : Int32} (hdg : decode cc pc = .ok (.putfield 25, 3)) (hE : va_up E a (upd L 4 x) = E1) (kk : ∀ (H1 : Heap) (locs1 : List Loc), Wd g lay E1 H1 → va_S (Ab g) H0 H1 locs1 → W p l e R s m args below meth c H1 locs1 cells slots Q (F0 m (pc + 3) ls rest)) : W p l e R s m args below meth c H locs cells slots Q (F0 m pc ls (.int x :: .ref a :: rest)) :=
  w_put (C := RX2) (T := TX2) (N := 9) (ci := 2) (j := 4) hx hb hown hts hK hge hW hS hla hL rfl rfl (Nat.le_of_ble_eq_true rfl) rfl (by decide) inX2 tyX2 tyX2_ok nmX2 wd_59 rfl rfl (ty := .int) (by decide +kernel) rfl rfl hdg hE kk
theorem p_X2_28 (hx : p.tables.exec = Jvm.exec) (hb : c.code = cc) (hown : s.vm.findClass RX2 = some m.cls) (hts : ∀ w ∈ lw_gd, w.before args s = true) (hK : KK g s) (hge : okL g lay) (hW : Wd g lay E H) (hS : va_S (Ab g) H0 H locs) (hla : lay a = some lineE) (hL : E a = L) {x : Int32} (hdg : decode cc pc = .ok (.putfield 28, 3)) (hE : va_up E a (upd L 5 x) = E1) (kk : ∀ (H1 : Heap) (locs1 : List Loc), Wd g lay E1 H1 → va_S (Ab g) H0 H1 locs1 → W p l e R s m args below meth c H1 locs1 cells slots Q (F0 m (pc + 3) ls rest)) : W p l e R s m args below meth c H locs cells slots Q (F0 m pc ls (.int x :: .ref a :: rest)) :=
  w_put (C := RX2) (T := TX2) (N := 9) (ci := 2) (j := 5) hx hb hown hts hK hge hW hS hla hL rfl rfl (Nat.le_of_ble_eq_true rfl) rfl (by decide) inX2 tyX2 tyX2_ok nmX2 wd_60 rfl rfl (ty := .int) (by decide +kernel) rfl rfl hdg hE kk
theorem p_X2_31 (hx : p.tables.exec = Jvm.exec) (hb : c.code = cc) (hown : s.vm.findClass RX2 = some m.cls) (hts : ∀ w ∈ lw_gd, w.before args s = true) (hK : KK g s) (hge : okL g lay) (hW : Wd g lay E H) (hS : va_S (Ab g) H0 H locs) (hla : lay a = some lineE) (hL : E a = L) {x : Int32} (hdg : decode cc pc = .ok (.putfield 31, 3)) (hE : va_up E a (upd L 6 x) = E1) (kk : ∀ (H1 : Heap) (locs1 : List Loc), Wd g lay E1 H1 → va_S (Ab g) H0 H1 locs1 → W p l e R s m args below meth c H1 locs1 cells slots Q (F0 m (pc + 3) ls rest)) : W p l e R s m args below meth c H locs cells slots Q (F0 m pc ls (.int x :: .ref a :: rest)) :=
  w_put (C := RX2) (T := TX2) (N := 9) (ci := 2) (j := 6) hx hb hown hts hK hge hW hS hla hL rfl rfl (Nat.le_of_ble_eq_true rfl) rfl (by decide) inX2 tyX2 tyX2_ok nmX2 wd_62 rfl rfl (ty := .int) (by decide +kernel) rfl rfl hdg hE kk
theorem p_X2_34 (hx : p.tables.exec = Jvm.exec) (hb : c.code = cc) (hown : s.vm.findClass RX2 = some m.cls) (hts : ∀ w ∈ lw_gd, w.before args s = true) (hK : KK g s) (hge : okL g lay) (hW : Wd g lay E H) (hS : va_S (Ab g) H0 H locs) (hla : lay a = some lineE) (hL : E a = L) {x : Int32} (hdg : decode cc pc = .ok (.putfield 34, 3)) (hE : va_up E a (upd L 7 x) = E1) (kk : ∀ (H1 : Heap) (locs1 : List Loc), Wd g lay E1 H1 → va_S (Ab g) H0 H1 locs1 → W p l e R s m args below meth c H1 locs1 cells slots Q (F0 m (pc + 3) ls rest)) : W p l e R s m args below meth c H locs cells slots Q (F0 m pc ls (.int x :: .ref a :: rest)) :=
  w_put (C := RX2) (T := TX2) (N := 9) (ci := 2) (j := 7) hx hb hown hts hK hge hW hS hla hL rfl rfl (Nat.le_of_ble_eq_true rfl) rfl (by decide) inX2 tyX2 tyX2_ok nmX2 wd_64 rfl rfl (ty := .int) (by decide +kernel) rfl rfl hdg hE kk
theorem p_X2_37 (hx : p.tables.exec = Jvm.exec) (hb : c.code = cc) (hown : s.vm.findClass RX2 = some m.cls) (hts : ∀ w ∈ lw_gd, w.before args s = true) (hK : KK g s) (hge : okL g lay) (hW : Wd g lay E H) (hS : va_S (Ab g) H0 H locs) (hla : lay a = some lineE) (hL : E a = L) {x : Int32} (hdg : decode cc pc = .ok (.putfield 37, 3)) (hE : va_up E a (upd L 8 x) = E1) (kk : ∀ (H1 : Heap) (locs1 : List Loc), Wd g lay E1 H1 → va_S (Ab g) H0 H1 locs1 → W p l e R s m args below meth c H1 locs1 cells slots Q (F0 m (pc + 3) ls rest)) : W p l e R s m args below meth c H locs cells slots Q (F0 m pc ls (.int x :: .ref a :: rest)) :=
  w_put (C := RX2) (T := TX2) (N := 9) (ci := 2) (j := 8) hx hb hown hts hK hge hW hS hla hL rfl rfl (Nat.le_of_ble_eq_true rfl) rfl (by decide) inX2 tyX2 tyX2_ok nmX2 wd_66 rfl rfl (ty := .int) (by decide +kernel) rfl rfl hdg hE kk
theorem p_X3_15 (hx : p.tables.exec = Jvm.exec) (hb : c.code = cc) (hown : s.vm.findClass RX3 = some m.cls) (hts : ∀ w ∈ lw_gd, w.before args s = true) (hK : KK g s) (hge : okL g lay) (hW : Wd g lay E H) (hS : va_S (Ab g) H0 H locs) (hla : lay a = some (padE o)) (hL : E a = L) {x : Int32} (hdg : decode cc pc = .ok (.putfield 15, 3)) (hE : va_up E a (upd L 1 x) = E1) (kk : ∀ (H1 : Heap) (locs1 : List Loc), Wd g lay E1 H1 → va_S (Ab g) H0 H1 locs1 → W p l e R s m args below meth c H1 locs1 cells slots Q (F0 m (pc + 3) ls rest)) : W p l e R s m args below meth c H locs cells slots Q (F0 m pc ls (.int x :: .ref a :: rest)) :=
  w_put (C := RX3) (T := TX3) (N := 2) (ci := 3) (j := 1) hx hb hown hts hK hge hW hS hla hL rfl rfl (Nat.le_of_ble_eq_true rfl) rfl (by decide) inX3 tyX3 tyX3_ok nmX3 wd_203 rfl rfl (ty := .int) (by decide +kernel) rfl rfl hdg hE kk
theorem g_X4_10 (hx : p.tables.exec = Jvm.exec) (hb : c.code = cc) (hown : s.vm.findClass RX4 = some m.cls) (hts : ∀ w ∈ lw_gd, w.before args s = true) (hK : KK g s) (hW : Wd g lay E H) (hla : lay a = some (rotE o)) (hL : E a = L) (hdg : decode cc pc = .ok (.getfield 10, 3)) (kk : W p l e R s m args below meth c H locs cells slots Q (F0 m (pc + 3) ls (.ref (o + 1) :: rest))) : W p l e R s m args below meth c H locs cells slots Q (F0 m pc ls (.ref a :: rest)) :=
  w_get (C := RX4) (T := TX4) (N := 4) (ci := 4) (j := 0) hx hb hown hts hK hW hla hL rfl rfl rfl (by decide) inX4 wd_210 rfl hdg kk
theorem g_X4_16 (hx : p.tables.exec = Jvm.exec) (hb : c.code = cc) (hown : s.vm.findClass RX4 = some m.cls) (hts : ∀ w ∈ lw_gd, w.before args s = true) (hK : KK g s) (hW : Wd g lay E H) (hla : lay a = some (rotE o)) (hL : E a = L) (hdg : decode cc pc = .ok (.getfield 16, 3)) (kk : W p l e R s m args below meth c H locs cells slots Q (F0 m (pc + 3) ls (.ref (o + 27) :: rest))) : W p l e R s m args below meth c H locs cells slots Q (F0 m pc ls (.ref a :: rest)) :=
  w_get (C := RX4) (T := TX4) (N := 4) (ci := 4) (j := 1) hx hb hown hts hK hW hla hL rfl rfl rfl (by decide) inX4 wd_211 rfl hdg kk
theorem g_X4_19 (hx : p.tables.exec = Jvm.exec) (hb : c.code = cc) (hown : s.vm.findClass RX4 = some m.cls) (hts : ∀ w ∈ lw_gd, w.before args s = true) (hK : KK g s) (hW : Wd g lay E H) (hla : lay a = some (rotE o)) (hL : E a = L) (hdg : decode cc pc = .ok (.getfield 19, 3)) (kk : W p l e R s m args below meth c H locs cells slots Q (F0 m (pc + 3) ls (.ref (o + 53) :: rest))) : W p l e R s m args below meth c H locs cells slots Q (F0 m pc ls (.ref a :: rest)) :=
  w_get (C := RX4) (T := TX4) (N := 4) (ci := 4) (j := 2) hx hb hown hts hK hW hla hL rfl rfl rfl (by decide) inX4 wd_212 rfl hdg kk
theorem g_X4_26 (hx : p.tables.exec = Jvm.exec) (hb : c.code = cc) (hown : s.vm.findClass RX4 = some m.cls) (hts : ∀ w ∈ lw_gd, w.before args s = true) (hK : KK g s) (hW : Wd g lay E H) (hla : lay a = some (rotE o)) (hL : E a = L) (hdg : decode cc pc = .ok (.getfield 26, 3)) (kk : W p l e R s m args below meth c H locs cells slots Q (F0 m (pc + 3) ls (.ref (o + 54) :: rest))) : W p l e R s m args below meth c H locs cells slots Q (F0 m pc ls (.ref a :: rest)) :=
  w_get (C := RX4) (T := TX4) (N := 4) (ci := 4) (j := 3) hx hb hown hts hK hW hla hL rfl rfl rfl (by decide) inX4 wd_213 rfl hdg kk
theorem g_X4_34 (hx : p.tables.exec = Jvm.exec) (hb : c.code = cc) (hown : s.vm.findClass RX4 = some m.cls) (hts : ∀ w ∈ lw_gd, w.before args s = true) (hK : KK g s) (hW : Wd g lay E H) (hla : lay a = some (exE o)) (hL : E a = L) (hdg : decode cc pc = .ok (.getfield 34, 3)) (kk : W p l e R s m args below meth c H locs cells slots Q (F0 m (pc + 3) ls (.int (L 5) :: rest))) : W p l e R s m args below meth c H locs cells slots Q (F0 m pc ls (.ref a :: rest)) :=
  w_get (C := RX0) (T := TX0) (N := 16) (ci := 0) (j := 5) hx hb hown hts hK hW hla hL rfl rfl rfl (by decide) inX0 wd_148 rfl hdg kk
theorem g_X4_71 (hx : p.tables.exec = Jvm.exec) (hb : c.code = cc) (hown : s.vm.findClass RX4 = some m.cls) (hts : ∀ w ∈ lw_gd, w.before args s = true) (hK : KK g s) (hW : Wd g lay E H) (hla : lay a = some (exE o)) (hL : E a = L) (hdg : decode cc pc = .ok (.getfield 71, 3)) (kk : W p l e R s m args below meth c H locs cells slots Q (F0 m (pc + 3) ls (.int (L 7) :: rest))) : W p l e R s m args below meth c H locs cells slots Q (F0 m pc ls (.ref a :: rest)) :=
  w_get (C := RX0) (T := TX0) (N := 16) (ci := 0) (j := 7) hx hb hown hts hK hW hla hL rfl rfl rfl (by decide) inX0 wd_152 rfl hdg kk
theorem g_X4_86 (hx : p.tables.exec = Jvm.exec) (hb : c.code = cc) (hown : s.vm.findClass RX4 = some m.cls) (hts : ∀ w ∈ lw_gd, w.before args s = true) (hK : KK g s) (hW : Wd g lay E H) (hla : lay a = some (exE o)) (hL : E a = L) (hdg : decode cc pc = .ok (.getfield 86, 3)) (kk : W p l e R s m args below meth c H locs cells slots Q (F0 m (pc + 3) ls (.int (L 6) :: rest))) : W p l e R s m args below meth c H locs cells slots Q (F0 m pc ls (.ref a :: rest)) :=
  w_get (C := RX0) (T := TX0) (N := 16) (ci := 0) (j := 6) hx hb hown hts hK hW hla hL rfl rfl rfl (by decide) inX0 wd_150 rfl hdg kk
theorem g_X4_92 (hx : p.tables.exec = Jvm.exec) (hb : c.code = cc) (hown : s.vm.findClass RX4 = some m.cls) (hts : ∀ w ∈ lw_gd, w.before args s = true) (hK : KK g s) (hW : Wd g lay E H) (hla : lay a = some (padE o)) (hL : E a = L) (hdg : decode cc pc = .ok (.getfield 92, 3)) (kk : W p l e R s m args below meth c H locs cells slots Q (F0 m (pc + 3) ls (.int (L 1) :: rest))) : W p l e R s m args below meth c H locs cells slots Q (F0 m pc ls (.ref a :: rest)) :=
  w_get (C := RX3) (T := TX3) (N := 2) (ci := 3) (j := 1) hx hb hown hts hK hW hla hL rfl rfl rfl (by decide) inX3 wd_204 rfl hdg kk
end FR
section CR
variable {R : Room} {s : State} {args : Array Value}
theorem k_L_27 (hts : ∀ w ∈ lw_gd, w.before args s = true) (hR : rmL_next.frames + 1 ≤ R.frames ∧ 8 + (5 + 11) + rmL_next.locals ≤ R.locals) : CallB R s args RL 27 yL_next cL_next 5 (some .int) wsL_next rmL_next 0 0 2 ∧ (Cond.static yL_next).before args s = true :=
  cwS 2 hts (gd_GS wd_512 wd_513 wd_22 wd_514) rfl rfl rfl (by decide +kernel) hR
theorem k_L_36 (hts : ∀ w ∈ lw_gd, w.before args s = true) (hR : rmL_fits.frames + 1 ≤ R.frames ∧ 8 + (12 + 11) + rmL_fits.locals ≤ R.locals) : CallB R s args RL 36 yL_fits cL_fits 12 (some .boolean) wsL_fits rmL_fits 1 16 1 ∧ (Cond.static yL_fits).before args s = true :=
  cwS 1 hts (gd_GS wd_460 wd_461 wd_22 wd_462) rfl rfl rfl (by decide +kernel) hR
theorem k_L_41 (hts : ∀ w ∈ lw_gd, w.before args s = true) (hR : rmL_cell.frames + 1 ≤ R.frames ∧ 8 + (3 + 11) + rmL_cell.locals ≤ R.locals) : CallB R s args RL 41 yL_cell cL_cell 3 (some .int) wsL_cell rmL_cell 0 0 3 ∧ (Cond.static yL_cell).before args s = true :=
  cwS 3 hts (gd_GS wd_456 wd_457 wd_22 wd_458) rfl rfl rfl (by decide +kernel) hR
theorem k_L_60 (hts : ∀ w ∈ lw_gd, w.before args s = true) (hR : rmL_ticks.frames + 1 ≤ R.frames ∧ 8 + (11 + 11) + rmL_ticks.locals ≤ R.locals) : CallB R s args RL 60 yL_ticks cL_ticks 11 (some .boolean) wsL_ticks rmL_ticks 9 132 2 ∧ (Cond.static yL_ticks).before args s = true :=
  cwS 2 hts (gd_GS wd_509 wd_510 wd_22 wd_511) rfl rfl rfl (by decide +kernel) hR
theorem k_L_8 (hts : ∀ w ∈ lw_gd, w.before args s = true) (hR : rmX4_count.frames + 1 ≤ R.frames ∧ 8 + (2 + 11) + rmX4_count.locals ≤ R.locals) : CallW R s args RL RX4 8 yX4_count cX4_count 2 (some .int) wsX4_count rmX4_count 0 0 1 :=
  cwV 1 hts (gd_GV wd_463 wd_464 wd_465 wd_23 wd_466) rfl rfl rfl (by decide +kernel) hR
theorem k_L_14 (hts : ∀ w ∈ lw_gd, w.before args s = true) (hR : rmX4_finder.frames + 1 ≤ R.frames ∧ 8 + (3 + 11) + rmX4_finder.locals ≤ R.locals) : CallW R s args RL RX4 14 yX4_finder cX4_finder 3 (some .int) wsX4_finder rmX4_finder 0 0 2 :=
  cwV 2 hts (gd_GV wd_487 wd_488 wd_489 wd_23 wd_490) rfl rfl rfl (by decide +kernel) hR
theorem k_L_18 (hts : ∀ w ∈ lw_gd, w.before args s = true) (hR : rmX4_line.frames + 1 ≤ R.frames ∧ 8 + (3 + 11) + rmX4_line.locals ≤ R.locals) : CallW R s args RL RX4 18 yX4_line cX4_line 3 (some .int) wsX4_line rmX4_line 0 0 2 :=
  cwV 2 hts (gd_GV wd_407 wd_408 wd_409 wd_23 wd_410) rfl rfl rfl (by decide +kernel) hR
theorem k_L_21 (hts : ∀ w ∈ lw_gd, w.before args s = true) (hR : rmX4_connector.frames + 1 ≤ R.frames ∧ 8 + (3 + 11) + rmX4_connector.locals ≤ R.locals) : CallW R s args RL RX4 21 yX4_connector cX4_connector 3 (some .int) wsX4_connector rmX4_connector 0 0 2 :=
  cwV 2 hts (gd_GV wd_496 wd_497 wd_498 wd_23 wd_499) rfl rfl rfl (by decide +kernel) hR
theorem k_L_24 (hts : ∀ w ∈ lw_gd, w.before args s = true) (hR : rmX4_trace.frames + 1 ≤ R.frames ∧ 8 + (3 + 11) + rmX4_trace.locals ≤ R.locals) : CallW R s args RL RX4 24 yX4_trace cX4_trace 3 (some .int) wsX4_trace rmX4_trace 0 0 2 :=
  cwV 2 hts (gd_GV wd_501 wd_502 wd_503 wd_23 wd_504) rfl rfl rfl (by decide +kernel) hR
theorem k_L_33 (hts : ∀ w ∈ lw_gd, w.before args s = true) (hR : rmX4_tick.frames + 1 ≤ R.frames ∧ 8 + (2 + 11) + rmX4_tick.locals ≤ R.locals) : CallW R s args RL RX4 33 yX4_tick cX4_tick 2 (some .int) wsX4_tick rmX4_tick 0 0 1 :=
  cwV 1 hts (gd_GV wd_317 wd_318 wd_319 wd_23 wd_320) rfl rfl rfl (by decide +kernel) hR
theorem k_L_45 (hts : ∀ w ∈ lw_gd, w.before args s = true) (hR : rmX4_setUp.frames + 1 ≤ R.frames ∧ 8 + (4 + 11) + rmX4_setUp.locals ≤ R.locals) : CallW R s args RL RX4 45 yX4_setUp cX4_setUp 4 (some .int) wsX4_setUp rmX4_setUp 0 0 2 :=
  cwV 2 hts (gd_GV wd_223 wd_224 wd_225 wd_23 wd_226) rfl rfl rfl (by decide +kernel) hR
theorem k_L_48 (hts : ∀ w ∈ lw_gd, w.before args s = true) (hR : rmX4_set.frames + 1 ≤ R.frames ∧ 8 + (3 + 11) + rmX4_set.locals ≤ R.locals) : CallW R s args RL RX4 48 yX4_set cX4_set 3 (some .int) wsX4_set rmX4_set 0 0 2 :=
  cwV 2 hts (gd_GV wd_262 wd_263 wd_264 wd_23 wd_265) rfl rfl rfl (by decide +kernel) hR
theorem k_L_51 (hts : ∀ w ∈ lw_gd, w.before args s = true) (hR : rmX4_lift.frames + 1 ≤ R.frames ∧ 8 + (2 + 11) + rmX4_lift.locals ≤ R.locals) : CallW R s args RL RX4 51 yX4_lift cX4_lift 2 (some .int) wsX4_lift rmX4_lift 0 0 1 :=
  cwV 1 hts (gd_GV wd_276 wd_277 wd_278 wd_23 wd_279) rfl rfl rfl (by decide +kernel) hR
theorem k_L_54 (hts : ∀ w ∈ lw_gd, w.before args s = true) (hR : rmX4_hang.frames + 1 ≤ R.frames ∧ 8 + (2 + 11) + rmX4_hang.locals ≤ R.locals) : CallW R s args RL RX4 54 yX4_hang cX4_hang 2 (some .int) wsX4_hang rmX4_hang 0 0 1 :=
  cwV 1 hts (gd_GV wd_287 wd_288 wd_289 wd_23 wd_290) rfl rfl rfl (by decide +kernel) hR
theorem k_L_57 (hts : ∀ w ∈ lw_gd, w.before args s = true) (hR : rmX4_dial.frames + 1 ≤ R.frames ∧ 8 + (3 + 11) + rmX4_dial.locals ≤ R.locals) : CallW R s args RL RX4 57 yX4_dial cX4_dial 3 (some .int) wsX4_dial rmX4_dial 0 0 2 :=
  cwV 2 hts (gd_GV wd_305 wd_306 wd_307 wd_23 wd_308) rfl rfl rfl (by decide +kernel) hR
theorem k_L_64 (hts : ∀ w ∈ lw_gd, w.before args s = true) (hR : rmX4_until.frames + 1 ≤ R.frames ∧ 8 + (4 + 11) + rmX4_until.locals ≤ R.locals) : CallW R s args RL RX4 64 yX4_until cX4_until 4 (some .int) wsX4_until rmX4_until 0 0 3 :=
  cwV 3 hts (gd_GV wd_427 wd_428 wd_429 wd_23 wd_430) rfl rfl rfl (by decide +kernel) hR
theorem k_L_68 (hts : ∀ w ∈ lw_gd, w.before args s = true) (hR : rmX4_save.frames + 1 ≤ R.frames ∧ 8 + (3 + 11) + rmX4_save.locals ≤ R.locals) : CallW R s args RL RX4 68 yX4_save cX4_save 3 (some .int) wsX4_save rmX4_save 26 244 1 :=
  cwV 1 hts (gd_GV wd_448 wd_449 wd_450 wd_23 wd_451) rfl rfl rfl (by decide +kernel) hR
theorem k_L_71 (hts : ∀ w ∈ lw_gd, w.before args s = true) (hR : rmX4_restore.frames + 1 ≤ R.frames ∧ 8 + (3 + 11) + rmX4_restore.locals ≤ R.locals) : CallW R s args RL RX4 71 yX4_restore cX4_restore 3 (some .int) wsX4_restore rmX4_restore 0 0 1 :=
  cwV 1 hts (gd_GV wd_452 wd_453 wd_454 wd_23 wd_455) rfl rfl rfl (by decide +kernel) hR
theorem k_X0_79 (hts : ∀ w ∈ lw_gd, w.before args s = true) (hR : rmX0_settingAt.frames + 1 ≤ R.frames ∧ 8 + (2 + 11) + rmX0_settingAt.locals ≤ R.locals) : CallW R s args RX0 RX0 79 yX0_settingAt cX0_settingAt 2 (some .int) wsX0_settingAt rmX0_settingAt 0 0 1 :=
  cwV 1 hts (gd_GV wd_272 wd_274 wd_0 wd_24 wd_275) rfl rfl rfl (by decide +kernel) hR
theorem k_X0_83 (hts : ∀ w ∈ lw_gd, w.before args s = true) (hR : rmX0_lineAt.frames + 1 ≤ R.frames ∧ 8 + (2 + 11) + rmX0_lineAt.locals ≤ R.locals) : CallW R s args RX0 RX0 83 yX0_lineAt cX0_lineAt 2 (some (.object "RotaryExchange$Line")) wsX0_lineAt rmX0_lineAt 0 0 1 :=
  cwV 1 hts (gd_GV wd_234 wd_235 wd_236 wd_24 wd_237) rfl rfl rfl (by decide +kernel) hR
theorem k_X0_87 (hts : ∀ w ∈ lw_gd, w.before args s = true) (hR : rmX2_renew.frames + 1 ≤ R.frames ∧ 8 + (1 + 11) + rmX2_renew.locals ≤ R.locals) : CallW R s args RX0 RX2 87 yX2_renew cX2_renew 1 none wsX2_renew rmX2_renew 0 0 0 :=
  cwV 0 hts (gd_GV wd_238 wd_239 wd_240 wd_25 wd_241) rfl rfl rfl (by decide +kernel) hR
theorem k_X0_90 (hts : ∀ w ∈ lw_gd, w.before args s = true) (hR : rmX0_finderAt.frames + 1 ≤ R.frames ∧ 8 + (2 + 11) + rmX0_finderAt.locals ≤ R.locals) : CallW R s args RX0 RX0 90 yX0_finderAt cX0_finderAt 2 (some (.object "RotaryExchange$Finder")) wsX0_finderAt rmX0_finderAt 0 0 1 :=
  cwV 1 hts (gd_GV wd_246 wd_247 wd_248 wd_24 wd_249) rfl rfl rfl (by decide +kernel) hR
theorem k_X0_94 (hts : ∀ w ∈ lw_gd, w.before args s = true) (hR : rmX1_renew.frames + 1 ≤ R.frames ∧ 8 + (1 + 11) + rmX1_renew.locals ≤ R.locals) : CallW R s args RX0 RX1 94 yX1_renew cX1_renew 1 none wsX1_renew rmX1_renew 0 0 0 :=
  cwV 0 hts (gd_GV wd_250 wd_251 wd_252 wd_26 wd_253) rfl rfl rfl (by decide +kernel) hR
theorem k_X0_95 (hts : ∀ w ∈ lw_gd, w.before args s = true) (hR : rmX2_copyFrom.frames + 1 ≤ R.frames ∧ 8 + (2 + 11) + rmX2_copyFrom.locals ≤ R.locals) : CallW R s args RX0 RX2 95 yX2_copyFrom cX2_copyFrom 2 none wsX2_copyFrom rmX2_copyFrom 0 0 1 :=
  cwV 1 hts (gd_GV wd_435 wd_436 wd_437 wd_25 wd_438) rfl rfl rfl (by decide +kernel) hR
theorem k_X0_99 (hts : ∀ w ∈ lw_gd, w.before args s = true) (hR : rmX1_copyFrom.frames + 1 ≤ R.frames ∧ 8 + (2 + 11) + rmX1_copyFrom.locals ≤ R.locals) : CallW R s args RX0 RX1 99 yX1_copyFrom cX1_copyFrom 2 none wsX1_copyFrom rmX1_copyFrom 0 0 1 :=
  cwV 1 hts (gd_GV wd_439 wd_440 wd_441 wd_26 wd_442) rfl rfl rfl (by decide +kernel) hR
theorem k_X0_115 (hts : ∀ w ∈ lw_gd, w.before args s = true) (hR : rmX2_isCalledByAnother.frames + 1 ≤ R.frames ∧ 8 + (1 + 11) + rmX2_isCalledByAnother.locals ≤ R.locals) : CallW R s args RX0 RX2 115 yX2_isCalledByAnother cX2_isCalledByAnother 1 (some .boolean) wsX2_isCalledByAnother rmX2_isCalledByAnother 0 0 0 :=
  cwV 0 hts (gd_GV wd_295 wd_296 wd_297 wd_25 wd_298) rfl rfl rfl (by decide +kernel) hR
theorem k_X0_122 (hts : ∀ w ∈ lw_gd, w.before args s = true) (hR : rmX0_release.frames + 1 ≤ R.frames ∧ 8 + (3 + 11) + rmX0_release.locals ≤ R.locals) : CallW R s args RX0 RX0 122 yX0_release cX0_release 3 none wsX0_release rmX0_release 0 0 1 :=
  cwV 1 hts (gd_GV wd_299 wd_301 wd_1 wd_24 wd_302) rfl rfl rfl (by decide +kernel) hR
theorem k_X0_125 (hts : ∀ w ∈ lw_gd, w.before args s = true) (hR : rmX2_leaveCall.frames + 1 ≤ R.frames ∧ 8 + (2 + 11) + rmX2_leaveCall.locals ≤ R.locals) : CallW R s args RX0 RX2 125 yX2_leaveCall cX2_leaveCall 2 none wsX2_leaveCall rmX2_leaveCall 0 0 1 :=
  cwV 1 hts (gd_GV wd_303 wd_243 wd_244 wd_25 wd_245) rfl rfl rfl (by decide +kernel) hR
theorem k_X0_132 (hts : ∀ w ∈ lw_gd, w.before args s = true) (hR : rmX1_becomeFree.frames + 1 ≤ R.frames ∧ 8 + (1 + 11) + rmX1_becomeFree.locals ≤ R.locals) : CallW R s args RX0 RX1 132 yX1_becomeFree cX1_becomeFree 1 none wsX1_becomeFree rmX1_becomeFree 0 0 0 :=
  cwV 0 hts (gd_GV wd_304 wd_255 wd_256 wd_26 wd_257) rfl rfl rfl (by decide +kernel) hR
theorem k_X0_138 (hts : ∀ w ∈ lw_gd, w.before args s = true) (hR : rmX2_appendDigit.frames + 1 ≤ R.frames ∧ 8 + (2 + 11) + rmX2_appendDigit.locals ≤ R.locals) : CallW R s args RX0 RX2 138 yX2_appendDigit cX2_appendDigit 2 none wsX2_appendDigit rmX2_appendDigit 0 0 1 :=
  cwV 1 hts (gd_GV wd_313 wd_314 wd_315 wd_25 wd_316) rfl rfl rfl (by decide +kernel) hR
theorem k_X0_142 (hts : ∀ w ∈ lw_gd, w.before args s = true) (hR : rmX0_takeStep.frames + 1 ≤ R.frames ∧ 8 + (3 + 11) + rmX0_takeStep.locals ≤ R.locals) : CallW R s args RX0 RX0 142 yX0_takeStep cX0_takeStep 3 none wsX0_takeStep rmX0_takeStep 0 0 1 :=
  cwV 1 hts (gd_GV wd_330 wd_332 wd_2 wd_24 wd_333) rfl rfl rfl (by decide +kernel) hR
theorem k_X0_145 (hts : ∀ w ∈ lw_gd, w.before args s = true) (hR : rmX0_allotFinder.frames + 1 ≤ R.frames ∧ 8 + (4 + 11) + rmX0_allotFinder.locals ≤ R.locals) : CallW R s args RX0 RX0 145 yX0_allotFinder cX0_allotFinder 4 none wsX0_allotFinder rmX0_allotFinder 0 0 0 :=
  cwV 0 hts (gd_GV wd_383 wd_385 wd_12 wd_24 wd_386) rfl rfl rfl (by decide +kernel) hR
theorem k_X0_148 (hts : ∀ w ∈ lw_gd, w.before args s = true) (hR : rmX0_countParked.frames + 1 ≤ R.frames ∧ 8 + (3 + 11) + rmX0_countParked.locals ≤ R.locals) : CallW R s args RX0 RX0 148 yX0_countParked cX0_countParked 3 none wsX0_countParked rmX0_countParked 0 0 0 :=
  cwV 0 hts (gd_GV wd_399 wd_401 wd_15 wd_24 wd_402) rfl rfl rfl (by decide +kernel) hR
theorem k_X0_155 (hts : ∀ w ∈ lw_gd, w.before args s = true) (hR : rmX0_seek.frames + 1 ≤ R.frames ∧ 8 + (3 + 11) + rmX0_seek.locals ≤ R.locals) : CallW R s args RX0 RX0 155 yX0_seek cX0_seek 3 none wsX0_seek rmX0_seek 0 0 2 :=
  cwV 2 hts (gd_GV wd_334 wd_336 wd_3 wd_24 wd_337) rfl rfl rfl (by decide +kernel) hR
theorem k_X0_159 (hts : ∀ w ∈ lw_gd, w.before args s = true) (hR : rmX0_awaitDigit.frames + 1 ≤ R.frames ∧ 8 + (4 + 11) + rmX0_awaitDigit.locals ≤ R.locals) : CallW R s args RX0 RX0 159 yX0_awaitDigit cX0_awaitDigit 4 none wsX0_awaitDigit rmX0_awaitDigit 0 0 3 :=
  cwV 3 hts (gd_GV wd_339 wd_341 wd_4 wd_24 wd_342) rfl rfl rfl (by decide +kernel) hR
theorem k_X0_163 (hts : ∀ w ∈ lw_gd, w.before args s = true) (hR : rmX0_rise.frames + 1 ≤ R.frames ∧ 8 + (3 + 11) + rmX0_rise.locals ≤ R.locals) : CallW R s args RX0 RX0 163 yX0_rise cX0_rise 3 none wsX0_rise rmX0_rise 0 0 2 :=
  cwV 2 hts (gd_GV wd_347 wd_349 wd_5 wd_24 wd_350) rfl rfl rfl (by decide +kernel) hR
theorem k_X0_166 (hts : ∀ w ∈ lw_gd, w.before args s = true) (hR : rmX0_hunt.frames + 1 ≤ R.frames ∧ 8 + (3 + 11) + rmX0_hunt.locals ≤ R.locals) : CallW R s args RX0 RX0 166 yX0_hunt cX0_hunt 3 none wsX0_hunt rmX0_hunt 0 0 2 :=
  cwV 2 hts (gd_GV wd_355 wd_357 wd_7 wd_24 wd_358) rfl rfl rfl (by decide +kernel) hR
theorem k_X0_169 (hts : ∀ w ∈ lw_gd, w.before args s = true) (hR : rmX0_stepOn.frames + 1 ≤ R.frames ∧ 8 + (5 + 11) + rmX0_stepOn.locals ≤ R.locals) : CallW R s args RX0 RX0 169 yX0_stepOn cX0_stepOn 5 none wsX0_stepOn rmX0_stepOn 0 0 2 :=
  cwV 2 hts (gd_GV wd_367 wd_369 wd_8 wd_24 wd_370) rfl rfl rfl (by decide +kernel) hR
theorem k_X0_172 (hts : ∀ w ∈ lw_gd, w.before args s = true) (hR : rmX0_ringOn.frames + 1 ≤ R.frames ∧ 8 + (4 + 11) + rmX0_ringOn.locals ≤ R.locals) : CallW R s args RX0 RX0 172 yX0_ringOn cX0_ringOn 4 none wsX0_ringOn rmX0_ringOn 0 0 2 :=
  cwV 2 hts (gd_GV wd_371 wd_373 wd_9 wd_24 wd_374) rfl rfl rfl (by decide +kernel) hR
theorem k_X0_175 (hts : ∀ w ∈ lw_gd, w.before args s = true) (hR : rmX0_talkOn.frames + 1 ≤ R.frames ∧ 8 + (5 + 11) + rmX0_talkOn.locals ≤ R.locals) : CallW R s args RX0 RX0 175 yX0_talkOn cX0_talkOn 5 none wsX0_talkOn rmX0_talkOn 0 0 2 :=
  cwV 2 hts (gd_GV wd_375 wd_377 wd_10 wd_24 wd_378) rfl rfl rfl (by decide +kernel) hR
theorem k_X0_178 (hts : ∀ w ∈ lw_gd, w.before args s = true) (hR : rmX0_soundOn.frames + 1 ≤ R.frames ∧ 8 + (3 + 11) + rmX0_soundOn.locals ≤ R.locals) : CallW R s args RX0 RX0 178 yX0_soundOn cX0_soundOn 3 none wsX0_soundOn rmX0_soundOn 0 0 2 :=
  cwV 2 hts (gd_GV wd_379 wd_381 wd_11 wd_24 wd_382) rfl rfl rfl (by decide +kernel) hR
theorem k_X0_184 (hts : ∀ w ∈ lw_gd, w.before args s = true) (hR : rmX1_become.frames + 1 ≤ R.frames ∧ 8 + (2 + 11) + rmX1_become.locals ≤ R.locals) : CallW R s args RX0 RX1 184 yX1_become cX1_become 2 none wsX1_become rmX1_become 0 0 1 :=
  cwV 1 hts (gd_GV wd_338 wd_259 wd_260 wd_26 wd_261) rfl rfl rfl (by decide +kernel) hR
theorem k_X0_187 (hts : ∀ w ∈ lw_gd, w.before args s = true) (hR : rmX2_takePulses.frames + 1 ≤ R.frames ∧ 8 + (2 + 11) + rmX2_takePulses.locals ≤ R.locals) : CallW R s args RX0 RX2 187 yX2_takePulses cX2_takePulses 2 (some .int) wsX2_takePulses rmX2_takePulses 0 0 0 :=
  cwV 0 hts (gd_GV wd_343 wd_344 wd_345 wd_25 wd_346) rfl rfl rfl (by decide +kernel) hR
theorem k_X0_200 (hts : ∀ w ∈ lw_gd, w.before args s = true) (hR : rmX0_sound.frames + 1 ≤ R.frames ∧ 8 + (5 + 11) + rmX0_sound.locals ≤ R.locals) : CallW R s args RX0 RX0 200 yX0_sound cX0_sound 5 none wsX0_sound rmX0_sound 0 0 4 :=
  cwV 4 hts (gd_GV wd_351 wd_353 wd_6 wd_24 wd_354) rfl rfl rfl (by decide +kernel) hR
theorem k_X0_207 (hts : ∀ w ∈ lw_gd, w.before args s = true) (hR : rmX0_holderOf.frames + 1 ≤ R.frames ∧ 8 + (5 + 11) + rmX0_holderOf.locals ≤ R.locals) : CallW R s args RX0 RX0 207 yX0_holderOf cX0_holderOf 5 (some .int) wsX0_holderOf rmX0_holderOf 0 0 2 :=
  cwV 2 hts (gd_GV wd_359 wd_360 wd_361 wd_24 wd_362) rfl rfl rfl (by decide +kernel) hR
theorem k_X0_220 (hts : ∀ w ∈ lw_gd, w.before args s = true) (hR : rmX0_nextFreeFinder.frames + 1 ≤ R.frames ∧ 8 + (3 + 11) + rmX0_nextFreeFinder.locals ≤ R.locals) : CallW R s args RX0 RX0 220 yX0_nextFreeFinder cX0_nextFreeFinder 3 (some .int) wsX0_nextFreeFinder rmX0_nextFreeFinder 0 0 0 :=
  cwV 0 hts (gd_GV wd_387 wd_389 wd_13 wd_24 wd_390) rfl rfl rfl (by decide +kernel) hR
theorem k_X0_223 (hts : ∀ w ∈ lw_gd, w.before args s = true) (hR : rmX0_firstWaitingLine.frames + 1 ≤ R.frames ∧ 8 + (4 + 11) + rmX0_firstWaitingLine.locals ≤ R.locals) : CallW R s args RX0 RX0 223 yX0_firstWaitingLine cX0_firstWaitingLine 4 (some .int) wsX0_firstWaitingLine rmX0_firstWaitingLine 0 0 0 :=
  cwV 0 hts (gd_GV wd_391 wd_393 wd_14 wd_24 wd_394) rfl rfl rfl (by decide +kernel) hR
theorem k_X0_226 (hts : ∀ w ∈ lw_gd, w.before args s = true) (hR : rmX2_waitParked.frames + 1 ≤ R.frames ∧ 8 + (2 + 11) + rmX2_waitParked.locals ≤ R.locals) : CallW R s args RX0 RX2 226 yX2_waitParked cX2_waitParked 2 none wsX2_waitParked rmX2_waitParked 0 0 1 :=
  cwV 1 hts (gd_GV wd_403 wd_404 wd_405 wd_25 wd_406) rfl rfl rfl (by decide +kernel) hR
theorem k_X0_229 (hts : ∀ w ∈ lw_gd, w.before args s = true) (hR : rmX2_waitsUnsought.frames + 1 ≤ R.frames ∧ 8 + (1 + 11) + rmX2_waitsUnsought.locals ≤ R.locals) : CallW R s args RX0 RX2 229 yX2_waitsUnsought cX2_waitsUnsought 1 (some .boolean) wsX2_waitsUnsought rmX2_waitsUnsought 0 0 0 :=
  cwV 0 hts (gd_GV wd_395 wd_396 wd_397 wd_25 wd_398) rfl rfl rfl (by decide +kernel) hR
theorem k_X0_232 (hts : ∀ w ∈ lw_gd, w.before args s = true) (hR : rmX1_holdsConnector.frames + 1 ≤ R.frames ∧ 8 + (1 + 11) + rmX1_holdsConnector.locals ≤ R.locals) : CallW R s args RX0 RX1 232 yX1_holdsConnector cX1_holdsConnector 1 (some .boolean) wsX1_holdsConnector rmX1_holdsConnector 0 0 0 :=
  cwV 0 hts (gd_GV wd_363 wd_364 wd_365 wd_26 wd_366) rfl rfl rfl (by decide +kernel) hR
theorem k_X0_235 (hts : ∀ w ∈ lw_gd, w.before args s = true) (hR : rmX0_pass.frames + 1 ≤ R.frames ∧ 8 + (4 + 11) + rmX0_pass.locals ≤ R.locals) : CallW R s args RX0 RX0 235 yX0_pass cX0_pass 4 none wsX0_pass rmX0_pass 0 0 1 :=
  cwV 1 hts (gd_GV wd_447 wd_327 wd_328 wd_24 wd_329) rfl rfl rfl (by decide +kernel) hR
theorem k_X0_248 (hts : ∀ w ∈ lw_gd, w.before args s = true) (hR : rmX0_partnerOf.frames + 1 ≤ R.frames ∧ 8 + (3 + 11) + rmX0_partnerOf.locals ≤ R.locals) : CallW R s args RX0 RX0 248 yX0_partnerOf cX0_partnerOf 3 (some .int) wsX0_partnerOf rmX0_partnerOf 0 0 1 :=
  cwV 1 hts (gd_GV wd_415 wd_417 wd_16 wd_24 wd_418) rfl rfl rfl (by decide +kernel) hR
theorem k_X0_252 (hts : ∀ w ∈ lw_gd, w.before args s = true) (hR : rmX0_placeOf.frames + 1 ≤ R.frames ∧ 8 + (4 + 11) + rmX0_placeOf.locals ≤ R.locals) : CallW R s args RX0 RX0 252 yX0_placeOf cX0_placeOf 4 (some .int) wsX0_placeOf rmX0_placeOf 0 0 1 :=
  cwV 1 hts (gd_GV wd_423 wd_425 wd_17 wd_24 wd_426) rfl rfl rfl (by decide +kernel) hR
theorem k_X0_258 (hts : ∀ w ∈ lw_gd, w.before args s = true) (hR : rmX2_callsAnother.frames + 1 ≤ R.frames ∧ 8 + (1 + 11) + rmX2_callsAnother.locals ≤ R.locals) : CallW R s args RX0 RX2 258 yX2_callsAnother cX2_callsAnother 1 (some .boolean) wsX2_callsAnother rmX2_callsAnother 0 0 0 :=
  cwV 0 hts (gd_GV wd_419 wd_420 wd_421 wd_25 wd_422) rfl rfl rfl (by decide +kernel) hR
theorem k_X0_261 (hts : ∀ w ∈ lw_gd, w.before args s = true) (hR : rmX0_freeFinders.frames + 1 ≤ R.frames ∧ 8 + (3 + 11) + rmX0_freeFinders.locals ≤ R.locals) : CallW R s args RX0 RX0 261 yX0_freeFinders cX0_freeFinders 3 (some .int) wsX0_freeFinders rmX0_freeFinders 0 0 0 :=
  cwV 0 hts (gd_GV wd_471 wd_473 wd_18 wd_24 wd_474) rfl rfl rfl (by decide +kernel) hR
theorem k_X0_264 (hts : ∀ w ∈ lw_gd, w.before args s = true) (hR : rmX0_freeConnectors.frames + 1 ≤ R.frames ∧ 8 + (3 + 11) + rmX0_freeConnectors.locals ≤ R.locals) : CallW R s args RX0 RX0 264 yX0_freeConnectors cX0_freeConnectors 3 (some .int) wsX0_freeConnectors rmX0_freeConnectors 0 0 0 :=
  cwV 0 hts (gd_GV wd_475 wd_477 wd_19 wd_24 wd_478) rfl rfl rfl (by decide +kernel) hR
theorem k_X0_267 (hts : ∀ w ∈ lw_gd, w.before args s = true) (hR : rmX0_sumOfMeters.frames + 1 ≤ R.frames ∧ 8 + (3 + 11) + rmX0_sumOfMeters.locals ≤ R.locals) : CallW R s args RX0 RX0 267 yX0_sumOfMeters cX0_sumOfMeters 3 (some .int) wsX0_sumOfMeters rmX0_sumOfMeters 0 0 0 :=
  cwV 0 hts (gd_GV wd_479 wd_481 wd_20 wd_24 wd_482) rfl rfl rfl (by decide +kernel) hR
theorem k_X0_270 (hts : ∀ w ∈ lw_gd, w.before args s = true) (hR : rmX0_liftedLines.frames + 1 ≤ R.frames ∧ 8 + (3 + 11) + rmX0_liftedLines.locals ≤ R.locals) : CallW R s args RX0 RX0 270 yX0_liftedLines cX0_liftedLines 3 (some .int) wsX0_liftedLines rmX0_liftedLines 0 0 0 :=
  cwV 0 hts (gd_GV wd_483 wd_485 wd_21 wd_24 wd_486) rfl rfl rfl (by decide +kernel) hR
theorem k_X1_42 (hts : ∀ w ∈ lw_gd, w.before args s = true) (hR : rmX1_becomeFree.frames + 1 ≤ R.frames ∧ 8 + (1 + 11) + rmX1_becomeFree.locals ≤ R.locals) : CallW R s args RX1 RX1 42 yX1_becomeFree cX1_becomeFree 1 none wsX1_becomeFree rmX1_becomeFree 0 0 0 :=
  cwV 0 hts (gd_GV wd_254 wd_255 wd_256 wd_26 wd_257) rfl rfl rfl (by decide +kernel) hR
theorem k_X1_45 (hts : ∀ w ∈ lw_gd, w.before args s = true) (hR : rmX1_become.frames + 1 ≤ R.frames ∧ 8 + (2 + 11) + rmX1_become.locals ≤ R.locals) : CallW R s args RX1 RX1 45 yX1_become cX1_become 2 none wsX1_become rmX1_become 0 0 1 :=
  cwV 1 hts (gd_GV wd_258 wd_259 wd_260 wd_26 wd_261) rfl rfl rfl (by decide +kernel) hR
theorem k_X2_40 (hts : ∀ w ∈ lw_gd, w.before args s = true) (hR : rmX2_leaveCall.frames + 1 ≤ R.frames ∧ 8 + (2 + 11) + rmX2_leaveCall.locals ≤ R.locals) : CallW R s args RX2 RX2 40 yX2_leaveCall cX2_leaveCall 2 none wsX2_leaveCall rmX2_leaveCall 0 0 1 :=
  cwV 1 hts (gd_GV wd_242 wd_243 wd_244 wd_25 wd_245) rfl rfl rfl (by decide +kernel) hR
theorem k_X4_30 (hts : ∀ w ∈ lw_gd, w.before args s = true) (hR : rmX4_isWithin.frames + 1 ≤ R.frames ∧ 8 + (3 + 11) + rmX4_isWithin.locals ≤ R.locals) : CallB R s args RX4 30 yX4_isWithin cX4_isWithin 3 (some .boolean) wsX4_isWithin rmX4_isWithin 0 0 3 ∧ (Cond.static yX4_isWithin).before args s = true :=
  cwS 3 hts (gd_GS wd_227 wd_228 wd_23 wd_229) rfl rfl rfl (by decide +kernel) hR
theorem k_X4_50 (hts : ∀ w ∈ lw_gd, w.before args s = true) (hR : rmX4_isLine.frames + 1 ≤ R.frames ∧ 8 + (1 + 11) + rmX4_isLine.locals ≤ R.locals) : CallB R s args RX4 50 yX4_isLine cX4_isLine 1 (some .boolean) wsX4_isLine rmX4_isLine 0 0 1 ∧ (Cond.static yX4_isLine).before args s = true :=
  cwS 1 hts (gd_GS wd_280 wd_281 wd_23 wd_282) rfl rfl rfl (by decide +kernel) hR
theorem k_X4_38 (hts : ∀ w ∈ lw_gd, w.before args s = true) (hR : rmX0_renew.frames + 1 ≤ R.frames ∧ 8 + (4 + 11) + rmX0_renew.locals ≤ R.locals) : CallW R s args RX4 RX0 38 yX0_renew cX0_renew 4 none wsX0_renew rmX0_renew 0 0 2 :=
  cwV 2 hts (gd_GV wd_230 wd_231 wd_232 wd_24 wd_233) rfl rfl rfl (by decide +kernel) hR
theorem k_X4_46 (hts : ∀ w ∈ lw_gd, w.before args s = true) (hR : rmX0_changeSetting.frames + 1 ≤ R.frames ∧ 8 + (4 + 11) + rmX0_changeSetting.locals ≤ R.locals) : CallW R s args RX4 RX0 46 yX0_changeSetting cX0_changeSetting 4 (some .int) wsX0_changeSetting rmX0_changeSetting 0 0 2 :=
  cwV 2 hts (gd_GV wd_268 wd_269 wd_270 wd_24 wd_271) rfl rfl rfl (by decide +kernel) hR
theorem k_X4_54 (hts : ∀ w ∈ lw_gd, w.before args s = true) (hR : rmX0_liftLine.frames + 1 ≤ R.frames ∧ 8 + (3 + 11) + rmX0_liftLine.locals ≤ R.locals) : CallW R s args RX4 RX0 54 yX0_liftLine cX0_liftLine 3 (some .int) wsX0_liftLine rmX0_liftLine 0 0 1 :=
  cwV 1 hts (gd_GV wd_283 wd_284 wd_285 wd_24 wd_286) rfl rfl rfl (by decide +kernel) hR
theorem k_X4_58 (hts : ∀ w ∈ lw_gd, w.before args s = true) (hR : rmX0_hangLine.frames + 1 ≤ R.frames ∧ 8 + (4 + 11) + rmX0_hangLine.locals ≤ R.locals) : CallW R s args RX4 RX0 58 yX0_hangLine cX0_hangLine 4 (some .int) wsX0_hangLine rmX0_hangLine 0 0 1 :=
  cwV 1 hts (gd_GV wd_291 wd_292 wd_293 wd_24 wd_294) rfl rfl rfl (by decide +kernel) hR
theorem k_X4_61 (hts : ∀ w ∈ lw_gd, w.before args s = true) (hR : rmX0_dialDigit.frames + 1 ≤ R.frames ∧ 8 + (4 + 11) + rmX0_dialDigit.locals ≤ R.locals) : CallW R s args RX4 RX0 61 yX0_dialDigit cX0_dialDigit 4 (some .int) wsX0_dialDigit rmX0_dialDigit 0 0 2 :=
  cwV 2 hts (gd_GV wd_309 wd_310 wd_311 wd_24 wd_312) rfl rfl rfl (by decide +kernel) hR
theorem k_X4_64 (hts : ∀ w ∈ lw_gd, w.before args s = true) (hR : rmX0_hasTimeFor.frames + 1 ≤ R.frames ∧ 8 + (2 + 11) + rmX0_hasTimeFor.locals ≤ R.locals) : CallW R s args RX4 RX0 64 yX0_hasTimeFor cX0_hasTimeFor 2 (some .boolean) wsX0_hasTimeFor rmX0_hasTimeFor 0 0 1 :=
  cwV 1 hts (gd_GV wd_321 wd_322 wd_323 wd_24 wd_324) rfl rfl rfl (by decide +kernel) hR
theorem k_X4_67 (hts : ∀ w ∈ lw_gd, w.before args s = true) (hR : rmX0_pass.frames + 1 ≤ R.frames ∧ 8 + (4 + 11) + rmX0_pass.locals ≤ R.locals) : CallW R s args RX4 RX0 67 yX0_pass cX0_pass 4 none wsX0_pass rmX0_pass 0 0 1 :=
  cwV 1 hts (gd_GV wd_326 wd_327 wd_328 wd_24 wd_329) rfl rfl rfl (by decide +kernel) hR
theorem k_X4_74 (hts : ∀ w ∈ lw_gd, w.before args s = true) (hR : rmX0_numberOfLine.frames + 1 ≤ R.frames ∧ 8 + (4 + 11) + rmX0_numberOfLine.locals ≤ R.locals) : CallW R s args RX4 RX0 74 yX0_numberOfLine cX0_numberOfLine 4 (some .int) wsX0_numberOfLine rmX0_numberOfLine 0 0 2 :=
  cwV 2 hts (gd_GV wd_411 wd_412 wd_413 wd_24 wd_414) rfl rfl rfl (by decide +kernel) hR
theorem k_X4_77 (hts : ∀ w ∈ lw_gd, w.before args s = true) (hR : rmX0_finderAt.frames + 1 ≤ R.frames ∧ 8 + (2 + 11) + rmX0_finderAt.locals ≤ R.locals) : CallW R s args RX4 RX0 77 yX0_finderAt cX0_finderAt 2 (some (.object "RotaryExchange$Finder")) wsX0_finderAt rmX0_finderAt 0 0 1 :=
  cwV 1 hts (gd_GV wd_491 wd_247 wd_248 wd_24 wd_249) rfl rfl rfl (by decide +kernel) hR
theorem k_X4_81 (hts : ∀ w ∈ lw_gd, w.before args s = true) (hR : rmX1_numberFor.frames + 1 ≤ R.frames ∧ 8 + (2 + 11) + rmX1_numberFor.locals ≤ R.locals) : CallW R s args RX4 RX1 81 yX1_numberFor cX1_numberFor 2 (some .int) wsX1_numberFor rmX1_numberFor 0 0 1 :=
  cwV 1 hts (gd_GV wd_492 wd_493 wd_494 wd_26 wd_495) rfl rfl rfl (by decide +kernel) hR
theorem k_X4_89 (hts : ∀ w ∈ lw_gd, w.before args s = true) (hR : rmX0_holderOf.frames + 1 ≤ R.frames ∧ 8 + (5 + 11) + rmX0_holderOf.locals ≤ R.locals) : CallW R s args RX4 RX0 89 yX0_holderOf cX0_holderOf 5 (some .int) wsX0_holderOf rmX0_holderOf 0 0 2 :=
  cwV 2 hts (gd_GV wd_500 wd_360 wd_361 wd_24 wd_362) rfl rfl rfl (by decide +kernel) hR
theorem k_X4_95 (hts : ∀ w ∈ lw_gd, w.before args s = true) (hR : rmX0_numberFor.frames + 1 ≤ R.frames ∧ 8 + (2 + 11) + rmX0_numberFor.locals ≤ R.locals) : CallW R s args RX4 RX0 95 yX0_numberFor cX0_numberFor 2 (some .int) wsX0_numberFor rmX0_numberFor 0 0 1 :=
  cwV 1 hts (gd_GV wd_467 wd_468 wd_469 wd_24 wd_470) rfl rfl rfl (by decide +kernel) hR
theorem k_X4_96 (hts : ∀ w ∈ lw_gd, w.before args s = true) (hR : rmX0_traceFrom.frames + 1 ≤ R.frames ∧ 8 + (5 + 11) + rmX0_traceFrom.locals ≤ R.locals) : CallW R s args RX4 RX0 96 yX0_traceFrom cX0_traceFrom 5 (some .int) wsX0_traceFrom rmX0_traceFrom 0 0 2 :=
  cwV 2 hts (gd_GV wd_505 wd_506 wd_507 wd_24 wd_508) rfl rfl rfl (by decide +kernel) hR
theorem k_X4_99 (hts : ∀ w ∈ lw_gd, w.before args s = true) (hR : rmX0_copyFrom.frames + 1 ≤ R.frames ∧ 8 + (3 + 11) + rmX0_copyFrom.locals ≤ R.locals) : CallW R s args RX4 RX0 99 yX0_copyFrom cX0_copyFrom 3 none wsX0_copyFrom rmX0_copyFrom 0 0 1 :=
  cwV 1 hts (gd_GV wd_431 wd_432 wd_433 wd_24 wd_434) rfl rfl rfl (by decide +kernel) hR
theorem k_X4_103 (hts : ∀ w ∈ lw_gd, w.before args s = true) (hR : rmX0_ticksUntil.frames + 1 ≤ R.frames ∧ 8 + (5 + 11) + rmX0_ticksUntil.locals ≤ R.locals) : CallW R s args RX4 RX0 103 yX0_ticksUntil cX0_ticksUntil 5 (some .int) wsX0_ticksUntil rmX0_ticksUntil 0 0 3 :=
  cwV 3 hts (gd_GV wd_443 wd_444 wd_445 wd_24 wd_446) rfl rfl rfl (by decide +kernel) hR
end CR
end
section
theorem vuE {E0 : ES} {a : Nat} {L L' L1 : CS} (h : L1 = L') : va_up (va_up E0 a L) a L' = va_up E0 a L1 := by rw [vuU, h]
theorem puE {n o k : Nat} {X E X1 : ES} {L' : CS} (hk : k < n) (h : X1 = va_up X k L') : va_up (put n o X E) (o + k) L' = put n o X1 E := by rw [putUp hk, h]
theorem putSelf {n o : Nat} {X E : ES} (h : ∀ k, k < n → E (o + k) = X k) : put n o X E = E := by
  funext a
  by_cases h1 : o ≤ a ∧ a < o + n
  · have h2 := h (a - o) (by omega)
    rw [show o + (a - o) = a by omega] at h2
    simp [put, h1, h2]
  · simp [put, h1]
theorem neTwo {o o2 i j : Nat} (hd : o2 + 26 ≤ o ∨ o + 26 ≤ o2) (hi : i < 26) (hj : j < 26) : o + i ≠ o2 + j := by omega
theorem offTwo {o o2 k : Nat} (hd : o2 + 26 ≤ o ∨ o + 26 ≤ o2) (hk : k < 26) : o2 + k < o ∨ o + 26 ≤ o2 + k := by omega
theorem clamp_lt {x : Int32} {n : Nat} (h0 : ¬ x < 0) (h : ¬ Int32.ofNat n ≤ x) (hn : n < 2 ^ 31) : x.toNatClampNeg < n := by
  have h1 : (0 : Int) ≤ x.toInt := by have := mt Int32.lt_iff_toInt_lt.mpr h0; simp at this; exact this
  have h2 : x.toInt < n := by
    have h3 := mt Int32.le_iff_toInt_le.mpr h
    have h4 : (Int32.ofNat n).toInt = n := nI_toInt hn
    omega
  have h5 : x.toNatClampNeg = x.toInt.toNat := rfl
  omega
theorem isLi_lix (n : Int32) : isLi (lix n) := by
  unfold lix isLi
  by_cases h : n < 0 ∨ 16 ≤ n
  · rw [if_pos h]; exact Or.inl rfl
  · rw [if_neg h]
    have h1 := clamp_lt (n := 16) (fun q => h (Or.inl q)) (fun q => h (Or.inr q)) (by decide)
    exact Or.inr ⟨by omega, by omega⟩
theorem isFi_fix (n : Int32) : isFi (fix n) := by
  unfold fix isFi
  by_cases h : n < 0 ∨ 4 ≤ n
  · rw [if_pos h]; exact Or.inl rfl
  · rw [if_neg h]
    have h1 := clamp_lt (n := 4) (fun q => h (Or.inl q)) (fun q => h (Or.inr q)) (by decide)
    exact Or.inr ⟨by omega, by omega⟩
section WR2
variable {p : Program} {l : Launch} {e : Env} {R : Room} {s : State} {m : MethodId} {args : Array Value} {below : List Frame} {meth : Method} {c : Code} {H : Heap} {locs : List Loc} {cells slots : Nat} {Q : State → Prop}
variable {cc : ByteArray} {pc : Nat} {ls : Array Slot} {rest st : List Value} {g : GG} {lay : LY} {E E1 : ES} {H0 : Heap} {a : Nat} {f : CS → va_E} {L : CS}
theorem w_loop {KT : Type} {σ : Type} {Wl : KT → Nat → σ → Prop} {kx : KT} {Pw : σ → Heap → Prop} {lvf : σ → List (Nat × Value)} {nL : Nat} {Aw : Nat → Prop} (n : Nat) (q : σ) (hw : Wl kx n q) (hW : Pw q H) (hS : va_S Aw H0 H locs) (hl : lv_has ls nL (lvf q)) (h0 : ∀ q, Wl kx 0 q → False) (step : ∀ (K : KT) (_ : K = kx) (n : Nat) (q : σ) (H : Heap) (locs : List Loc) (ls : Array Slot), Wl K (n + 1) q → Pw q H → va_S Aw H0 H locs → lv_has ls nL (lvf q) → (∀ (q : σ) (H : Heap) (locs : List Loc) (ls : Array Slot), Wl K n q → Pw q H → va_S Aw H0 H locs → lv_has ls nL (lvf q) → W p l e R s m args below meth c H locs cells slots Q (F0 m pc ls [])) → W p l e R s m args below meth c H locs cells slots Q (F0 m pc ls [])) : W p l e R s m args below meth c H locs cells slots Q (F0 m pc ls []) := by
  revert H locs ls q
  induction n with
  | zero => exact fun q hw => absurd hw (h0 q)
  | succ n ih => exact fun q hw hW hS hl => step kx rfl n q _ _ _ hw hW hS hl (fun q H locs ls hw hW hS hl => ih q hw hW hS hl)
theorem lv_tabOut (hx : p.tables.exec = Jvm.exec) (hb : c.code = cc) {x : Int32} {dflt lo hi : Int} {offs : Array Int} {len tgt : Nat} (hdg : decode cc pc = .ok (.tableswitch dflt lo hi offs, len)) (h : x.toInt < lo ∨ hi < x.toInt) (ht : (pc : Int) + dflt = (tgt : Int)) (k : W p l e R s m args below meth c H locs cells slots Q (F0 m tgt ls rest)) : W p l e R s m args below meth c H locs cells slots Q (F0 m pc ls (.int x :: rest)) := lv_tableOut hx hb hdg h ht k
end WR2
end
section
set_option maxHeartbeats 4000000 in
set_option maxRecDepth 100000 in
theorem c_X0_lineAt {l : Launch} {g : GG} {lay : LY} {E0 : ES} {o : Nat} (hA : okL g lay) (HB : XL g lay o) (p1 : Int32) : JMr l g lay yX0_lineAt wsX0_lineAt rmX0_lineAt [.ref o, .int p1] E0 (fun a E1 => E1 = E0 ∧ a = o + lix p1) := by
  refine Met.ofW (cc := cX0_lineAt) (maxL := 2) (ret := (some (.object "RotaryExchange$Line"))) (by decide) rfl ?_
  intro p e s m args below meth c s₁ B hml hv
  obtain ⟨rfl, hK, hW⟩ := hv
  have hx := B.exec
  have hb := B.bytes
  have hr := B.returns
  have hts := gd_of (atoms_spec (ws := wsX0_lineAt) B.pre)
  have hown : s.vm.findClass RX0 = some m.cls := findClass_of_methodNamed B.named
  have hlocks := B.notSynchronized
  have hS : va_S (Ab g) s.heap s.heap [] := va_S.rf
  have hl := lv_entry [.ref o, .int p1] (n := 2) (Nat.le_of_ble_eq_true rfl)
  rw [lg_entry_eq]
  generalize (lg_sl [.ref o, .int p1] ++ List.replicate (2 - (lg_sl [.ref o, .int p1]).length) Slot.unset).toArray = ls at hl ⊢
  have hl : lv_has ls 2 [(0, .ref o), (1, .int p1)] := hl
  refine lv_iload_n hx hb dX0_lineAt_0 rfl (lv_at hl 1 rfl) ?_
  refine lv_if_lt (tgt := 22) hx hb dX0_lineAt_1 (by decide) (fun c1 => ?_) (fun c1 => ?_)
  · refine lv_aload_n hx hb dX0_lineAt_22 rfl (lv_at hl 0 rfl) ?_
    refine g_X0_24 hx hb hown hts hK hW HB.1 rfl dX0_lineAt_23 ?_
    exact w_aret hx hb hr (Or.inl ⟨_, rfl⟩) hlocks hW hS ⟨rfl, by rw [lix, if_pos (Or.inl c1)]⟩ dX0_lineAt_26
  · refine lv_iload_n hx hb dX0_lineAt_4 rfl (lv_at hl 1 rfl) ?_
    refine lv_aload_n hx hb dX0_lineAt_5 rfl (lv_at hl 0 rfl) ?_
    refine g_X0_11 hx hb hown hts hK hW HB.1 rfl dX0_lineAt_6 ?_
    refine w_alen (v := 16) hx hb hK hW 4 rfl HB.2.1 rfl rfl rfl dX0_lineAt_9 ?_
    refine lv_icmp_ge (tgt := 22) hx hb dX0_lineAt_10 (by decide) (fun c2 => ?_) (fun c2 => ?_)
    · refine lv_aload_n hx hb dX0_lineAt_22 rfl (lv_at hl 0 rfl) ?_
      refine g_X0_24 hx hb hown hts hK hW HB.1 rfl dX0_lineAt_23 ?_
      exact w_aret hx hb hr (Or.inl ⟨_, rfl⟩) hlocks hW hS ⟨rfl, by rw [lix, if_pos (Or.inr c2)]⟩ dX0_lineAt_26
    · have hin : vp_in p1 16 := fun q => q.elim c1 (fun q => absurd (clamp_lt (n := 16) c1 c2 (by decide)) (by omega))
      refine lv_aload_n hx hb dX0_lineAt_13 rfl (lv_at hl 0 rfl) ?_
      refine g_X0_11 hx hb hown hts hK hW HB.1 rfl dX0_lineAt_14 ?_
      refine lv_iload_n hx hb dX0_lineAt_17 rfl (lv_at hl 1 rfl) ?_
      refine w_aldq hx hb hK hW 4 rfl HB.2.1 hin dX0_lineAt_18 ?_
      refine lv_ifnonnull (tgt := 27) hx hb dX0_lineAt_19 (by decide) ?_
      refine lv_aload_n hx hb dX0_lineAt_27 rfl (lv_at hl 0 rfl) ?_
      refine g_X0_11 hx hb hown hts hK hW HB.1 rfl dX0_lineAt_28 ?_
      refine lv_iload_n hx hb dX0_lineAt_31 rfl (lv_at hl 1 rfl) ?_
      refine w_aldq hx hb hK hW 4 rfl HB.2.1 hin dX0_lineAt_32 ?_
      exact w_aret hx hb hr (Or.inl ⟨_, rfl⟩) hlocks hW hS ⟨rfl, by rw [lix, if_neg (fun q => q.elim c1 c2)]⟩ dX0_lineAt_33
set_option maxHeartbeats 4000000 in
set_option maxRecDepth 100000 in
theorem c_X0_finderAt {l : Launch} {g : GG} {lay : LY} {E0 : ES} {o : Nat} (hA : okL g lay) (HB : XL g lay o) (p1 : Int32) : JMr l g lay yX0_finderAt wsX0_finderAt rmX0_finderAt [.ref o, .int p1] E0 (fun a E1 => E1 = E0 ∧ a = o + fix p1) := by
  refine Met.ofW (cc := cX0_finderAt) (maxL := 2) (ret := (some (.object "RotaryExchange$Finder"))) (by decide) rfl ?_
  intro p e s m args below meth c s₁ B hml hv
  obtain ⟨rfl, hK, hW⟩ := hv
  have hx := B.exec
  have hb := B.bytes
  have hr := B.returns
  have hts := gd_of (atoms_spec (ws := wsX0_finderAt) B.pre)
  have hown : s.vm.findClass RX0 = some m.cls := findClass_of_methodNamed B.named
  have hlocks := B.notSynchronized
  have hS : va_S (Ab g) s.heap s.heap [] := va_S.rf
  have hl := lv_entry [.ref o, .int p1] (n := 2) (Nat.le_of_ble_eq_true rfl)
  rw [lg_entry_eq]
  generalize (lg_sl [.ref o, .int p1] ++ List.replicate (2 - (lg_sl [.ref o, .int p1]).length) Slot.unset).toArray = ls at hl ⊢
  have hl : lv_has ls 2 [(0, .ref o), (1, .int p1)] := hl
  refine lv_iload_n hx hb dX0_finderAt_0 rfl (lv_at hl 1 rfl) ?_
  refine lv_if_lt (tgt := 22) hx hb dX0_finderAt_1 (by decide) (fun c1 => ?_) (fun c1 => ?_)
  · refine lv_aload_n hx hb dX0_finderAt_22 rfl (lv_at hl 0 rfl) ?_
    refine g_X0_29 hx hb hown hts hK hW HB.1 rfl dX0_finderAt_23 ?_
    exact w_aret hx hb hr (Or.inl ⟨_, rfl⟩) hlocks hW hS ⟨rfl, by rw [fix, if_pos (Or.inl c1)]⟩ dX0_finderAt_26
  · refine lv_iload_n hx hb dX0_finderAt_4 rfl (lv_at hl 1 rfl) ?_
    refine lv_aload_n hx hb dX0_finderAt_5 rfl (lv_at hl 0 rfl) ?_
    refine g_X0_19 hx hb hown hts hK hW HB.1 rfl dX0_finderAt_6 ?_
    refine w_alen (v := 4) hx hb hK hW 3 rfl HB.2.2.1 rfl rfl rfl dX0_finderAt_9 ?_
    refine lv_icmp_ge (tgt := 22) hx hb dX0_finderAt_10 (by decide) (fun c2 => ?_) (fun c2 => ?_)
    · refine lv_aload_n hx hb dX0_finderAt_22 rfl (lv_at hl 0 rfl) ?_
      refine g_X0_29 hx hb hown hts hK hW HB.1 rfl dX0_finderAt_23 ?_
      exact w_aret hx hb hr (Or.inl ⟨_, rfl⟩) hlocks hW hS ⟨rfl, by rw [fix, if_pos (Or.inr c2)]⟩ dX0_finderAt_26
    · have hin : vp_in p1 4 := fun q => q.elim c1 (fun q => absurd (clamp_lt (n := 4) c1 c2 (by decide)) (by omega))
      refine lv_aload_n hx hb dX0_finderAt_13 rfl (lv_at hl 0 rfl) ?_
      refine g_X0_19 hx hb hown hts hK hW HB.1 rfl dX0_finderAt_14 ?_
      refine lv_iload_n hx hb dX0_finderAt_17 rfl (lv_at hl 1 rfl) ?_
      refine w_aldq hx hb hK hW 3 rfl HB.2.2.1 hin dX0_finderAt_18 ?_
      refine lv_ifnonnull (tgt := 27) hx hb dX0_finderAt_19 (by decide) ?_
      refine lv_aload_n hx hb dX0_finderAt_27 rfl (lv_at hl 0 rfl) ?_
      refine g_X0_19 hx hb hown hts hK hW HB.1 rfl dX0_finderAt_28 ?_
      refine lv_iload_n hx hb dX0_finderAt_31 rfl (lv_at hl 1 rfl) ?_
      refine w_aldq hx hb hK hW 3 rfl HB.2.2.1 hin dX0_finderAt_32 ?_
      exact w_aret hx hb hr (Or.inl ⟨_, rfl⟩) hlocks hW hS ⟨rfl, by rw [fix, if_neg (fun q => q.elim c1 c2)]⟩ dX0_finderAt_33
end
section
theorem wd_325 : Cond.constant RX0 141 (100000) ∈ lw_gd := gd_in (List.mem_of_getElem? (i := 325) (by decide +kernel)) (by decide +kernel)
theorem wd_459 : Cond.constant RL 7 (4194303) ∈ lw_gd := gd_in (List.mem_of_getElem? (i := 459) (by decide +kernel)) (by decide +kernel)
end
section
def wp_X0_settingAt (X : ES) (p1 : Int32) (K : Int32 → Prop) : Prop := (p1 < 0 → (K (-2))) ∧ (¬ p1 < 0 → ((5 ≤ p1 → (K (-2))) ∧ (¬ 5 ≤ p1 → (vp_in p1 5 ∧ (K ((X 5) p1.toNatClampNeg))))))
def wp_X0_changeSetting (X : ES) (p1 : Int32) (p2 : Int32) (K : Int32 → ES → Prop) : Prop := wp_X0_settingAt X p1 (fun r_1 => (p1 < 0 → (K r_1 X)) ∧ (¬ p1 < 0 → ((5 ≤ p1 → (K r_1 X)) ∧ (¬ 5 ≤ p1 → (vp_in p1 5 ∧ ∀ X_4 : ES, X_4 = va_up X 5 (upd (X 5) p1.toNatClampNeg p2) → (K r_1 X_4))))))
def wp_X2_leaveCall (L : CS) (p1 : Int32) (K : CS → Prop) : Prop := ∀ X_1 : CS, X_1 = upd L 0 p1 → (∀ X_2 : CS, X_2 = upd X_1 6 (-6) → (∀ X_3 : CS, X_3 = upd X_2 8 0 → (∀ X_4 : CS, X_4 = upd X_3 4 0 → (∀ X_5 : CS, X_5 = upd X_4 5 0 → (K X_5)))))
def wp_X2_renew (L : CS) (K : CS → Prop) : Prop := wp_X2_leaveCall L 0 (fun Y_1 => ∀ X_3 : CS, X_3 = upd Y_1 1 0 → (∀ X_4 : CS, X_4 = upd X_3 2 0 → (∀ X_5 : CS, X_5 = upd X_4 3 0 → (∀ X_6 : CS, X_6 = upd X_5 7 0 → (K X_6)))))
def wp_X1_become (L : CS) (p1 : Int32) (K : CS → Prop) : Prop := ∀ X_1 : CS, X_1 = upd L 0 p1 → (∀ X_2 : CS, X_2 = upd X_1 7 0 → (∀ X_3 : CS, X_3 = upd X_2 8 0 → (K X_3)))
def wp_X1_becomeFree (L : CS) (K : CS → Prop) : Prop := wp_X1_become L 0 (fun Y_1 => ∀ X_3 : CS, X_3 = upd Y_1 2 (-6) → (∀ X_4 : CS, X_4 = upd X_3 3 0 → (∀ X_5 : CS, X_5 = upd X_4 4 (-6) → (∀ X_6 : CS, X_6 = upd X_5 5 0 → (∀ X_7 : CS, X_7 = upd X_6 6 0 → (∀ X_8 : CS, X_8 = upd X_7 9 (-6) → (K X_8)))))))
def wp_X1_renew (L : CS) (K : CS → Prop) : Prop := wp_X1_becomeFree L (fun Y_1 => ∀ X_3 : CS, X_3 = upd Y_1 1 0 → (K X_3))
def wpl_X0_renew_24 (K : ES → Prop) (Kx_24 : Int32 → ES → Prop) : Nat → Int32 → ES → Prop
  | 0, _, _ => False
  | n_24 + 1, i_5, X_6 => (4 ≤ i_5 → (Kx_24 i_5 X_6)) ∧ (¬ 4 ≤ i_5 → (wp_X1_renew (X_6 (fix i_5)) (fun Y_35 => ∀ X_36 : ES, X_36 = va_up X_6 (fix i_5) Y_35 → (∀ v_37 : Int32, v_37 = i_5 + 1 → (wpl_X0_renew_24 K Kx_24 n_24 v_37 X_36)))))
def wpl_X0_renew_2 (K : ES → Prop) (Kx_2 : Int32 → ES → Prop) : Nat → Int32 → ES → Prop
  | 0, _, _ => False
  | n_2 + 1, i_1, X_2 => (16 ≤ i_1 → (Kx_2 i_1 X_2)) ∧ (¬ 16 ≤ i_1 → (wp_X2_renew (X_2 (lix i_1)) (fun Y_109 => ∀ X_110 : ES, X_110 = va_up X_2 (lix i_1) Y_109 → (∀ v_111 : Int32, v_111 = i_1 + 1 → (wpl_X0_renew_2 K Kx_2 n_2 v_111 X_110)))))
def wp_X0_renew (X : ES) (p1 : Int32) (p2 : Int32) (K : ES → Prop) : Prop := ∃ m_2 : Nat, wpl_X0_renew_2 K (fun (j_3 : Int32) (X_4 : ES) => ∃ m_24 : Nat, wpl_X0_renew_24 K (fun (j_7 : Int32) (X_8 : ES) => ∀ X_9 : ES, X_9 = va_up X_8 0 (upd (X_8 0) 5 p1) → (∀ X_10 : ES, X_10 = va_up X_9 0 (upd (X_9 0) 6 p2) → (∀ X_11 : ES, X_11 = va_up X_10 0 (upd (X_10 0) 7 0) → (∀ X_12 : ES, X_12 = va_up X_11 0 (upd (X_11 0) 8 (-1)) → (∀ X_13 : ES, X_13 = va_up X_12 0 (upd (X_12 0) 9 0) → (∀ X_14 : ES, X_14 = va_up X_13 0 (upd (X_13 0) 10 0) → (∀ X_15 : ES, X_15 = va_up X_14 0 (upd (X_14 0) 11 0) → (∀ X_16 : ES, X_16 = va_up X_15 0 (upd (X_15 0) 12 0) → (∀ X_17 : ES, X_17 = va_up X_16 0 (upd (X_16 0) 13 0) → (∀ X_18 : ES, X_18 = va_up X_17 0 (upd (X_17 0) 14 0) → (∀ X_19 : ES, X_19 = va_up X_18 0 (upd (X_18 0) 15 0) → (K X_19)))))))))))) m_24 0 X_4) m_2 0 X
def wp_X2_copyFrom (L : CS) (M : CS) (K : CS → Prop) : Prop := ∀ X_1 : CS, X_1 = upd L 0 (M 0) → (((M 1) = 0 ∨ (M 1) = 1) ∧ ∀ X_2 : CS, X_2 = upd X_1 1 (M 1) → (∀ X_3 : CS, X_3 = upd X_2 2 (M 2) → (∀ X_4 : CS, X_4 = upd X_3 3 (M 3) → (∀ X_5 : CS, X_5 = upd X_4 4 (M 4) → (∀ X_6 : CS, X_6 = upd X_5 5 (M 5) → (∀ X_7 : CS, X_7 = upd X_6 6 (M 6) → (∀ X_8 : CS, X_8 = upd X_7 7 (M 7) → (∀ X_9 : CS, X_9 = upd X_8 8 (M 8) → (K X_9)))))))))
def wp_X1_copyFrom (L : CS) (M : CS) (K : CS → Prop) : Prop := ∀ X_1 : CS, X_1 = upd L 0 (M 0) → (∀ X_2 : CS, X_2 = upd X_1 1 (M 1) → (∀ X_3 : CS, X_3 = upd X_2 2 (M 2) → (∀ X_4 : CS, X_4 = upd X_3 3 (M 3) → (∀ X_5 : CS, X_5 = upd X_4 4 (M 4) → (∀ X_6 : CS, X_6 = upd X_5 5 (M 5) → (∀ X_7 : CS, X_7 = upd X_6 6 (M 6) → (∀ X_8 : CS, X_8 = upd X_7 7 (M 7) → (∀ X_9 : CS, X_9 = upd X_8 8 (M 8) → (∀ X_10 : CS, X_10 = upd X_9 9 (M 9) → (K X_10))))))))))
def wpl_X0_copyFrom_55 (Y : ES) (K : ES → Prop) (Kx_55 : Int32 → ES → Prop) : Nat → Int32 → ES → Prop
  | 0, _, _ => False
  | n_55 + 1, i_9, X_10 => (5 ≤ i_9 → (Kx_55 i_9 X_10)) ∧ (¬ 5 ≤ i_9 → (wp_X0_settingAt Y i_9 (fun r_36 => vp_in i_9 5 ∧ ∀ X_37 : ES, X_37 = va_up X_10 5 (upd (X_10 5) i_9.toNatClampNeg r_36) → (∀ v_38 : Int32, v_38 = i_9 + 1 → (wpl_X0_copyFrom_55 Y K Kx_55 n_55 v_38 X_37)))))
def wpl_X0_copyFrom_29 (Y : ES) (K : ES → Prop) (Kx_29 : Int32 → ES → Prop) : Nat → Int32 → ES → Prop
  | 0, _, _ => False
  | n_29 + 1, i_5, X_6 => (4 ≤ i_5 → (Kx_29 i_5 X_6)) ∧ (¬ 4 ≤ i_5 → (wp_X1_copyFrom (X_6 (fix i_5)) (Y (fix i_5)) (fun Y_104 => ∀ X_105 : ES, X_105 = va_up X_6 (fix i_5) Y_104 → (∀ v_106 : Int32, v_106 = i_5 + 1 → (wpl_X0_copyFrom_29 Y K Kx_29 n_29 v_106 X_105)))))
def wpl_X0_copyFrom_2 (Y : ES) (K : ES → Prop) (Kx_2 : Int32 → ES → Prop) : Nat → Int32 → ES → Prop
  | 0, _, _ => False
  | n_2 + 1, i_1, X_2 => (16 ≤ i_1 → (Kx_2 i_1 X_2)) ∧ (¬ 16 ≤ i_1 → (wp_X2_copyFrom (X_2 (lix i_1)) (Y (lix i_1)) (fun Y_318 => ∀ X_319 : ES, X_319 = va_up X_2 (lix i_1) Y_318 → (∀ v_320 : Int32, v_320 = i_1 + 1 → (wpl_X0_copyFrom_2 Y K Kx_2 n_2 v_320 X_319)))))
def wp_X0_copyFrom (X : ES) (Y : ES) (K : ES → Prop) : Prop := ∃ m_2 : Nat, wpl_X0_copyFrom_2 Y K (fun (j_3 : Int32) (X_4 : ES) => ∃ m_29 : Nat, wpl_X0_copyFrom_29 Y K (fun (j_7 : Int32) (X_8 : ES) => ∃ m_55 : Nat, wpl_X0_copyFrom_55 Y K (fun (j_11 : Int32) (X_12 : ES) => ∀ X_13 : ES, X_13 = va_up X_12 0 (upd (X_12 0) 5 ((Y 0) 5)) → (∀ X_14 : ES, X_14 = va_up X_13 0 (upd (X_13 0) 6 ((Y 0) 6)) → (∀ X_15 : ES, X_15 = va_up X_14 0 (upd (X_14 0) 7 ((Y 0) 7)) → (∀ X_16 : ES, X_16 = va_up X_15 0 (upd (X_15 0) 8 ((Y 0) 8)) → (∀ X_17 : ES, X_17 = va_up X_16 0 (upd (X_16 0) 9 ((Y 0) 9)) → (∀ X_18 : ES, X_18 = va_up X_17 0 (upd (X_17 0) 10 ((Y 0) 10)) → (∀ X_19 : ES, X_19 = va_up X_18 0 (upd (X_18 0) 11 ((Y 0) 11)) → (∀ X_20 : ES, X_20 = va_up X_19 0 (upd (X_19 0) 12 ((Y 0) 12)) → (∀ X_21 : ES, X_21 = va_up X_20 0 (upd (X_20 0) 13 ((Y 0) 13)) → (∀ X_22 : ES, X_22 = va_up X_21 0 (upd (X_21 0) 14 ((Y 0) 14)) → (∀ X_23 : ES, X_23 = va_up X_22 0 (upd (X_22 0) 15 ((Y 0) 15)) → (K X_23)))))))))))) m_55 0 X_8) m_29 0 X_4) m_2 0 X
def wp_X0_liftLine (X : ES) (p1 : Int32) (K : Int32 → ES → Prop) : Prop := (((X (lix p1)) 1) = 0 → (∀ X_3 : ES, X_3 = va_up X (lix p1) (upd (X (lix p1)) 1 1) → ((((X_3 (lix p1)) 0) = 0 → (∀ X_5 : ES, X_5 = va_up X_3 (lix p1) (upd (X_3 (lix p1)) 0 1) → (∀ X_6 : ES, X_6 = va_up X_5 (lix p1) (upd (X_5 (lix p1)) 3 0) → (∀ X_7 : ES, X_7 = va_up X_6 0 (upd (X_6 0) 9 (((X_6 0) 9) + 1)) → (∀ X_8 : ES, X_8 = va_up X_7 (lix p1) (upd (X_7 (lix p1)) 7 ((X_7 0) 9)) → (K ((X_8 (lix p1)) 0) X_8)))))) ∧ (¬ ((X_3 (lix p1)) 0) = 0 → (K ((X_3 (lix p1)) 0) X_3))))) ∧ (¬ ((X (lix p1)) 1) = 0 → (K (-5) X))
def wp_X2_isCalledByAnother (L : CS) (K : Int32 → Prop) : Prop := ((L 0) = 5 → (K 1)) ∧ (¬ (L 0) = 5 → (((L 0) = 7 → (K 1)) ∧ (¬ (L 0) = 7 → (K 0))))
def wp_X0_release (X : ES) (k1 : Nat) (K : ES → Prop) : Prop := wp_X2_isCalledByAnother (X (lix ((X k1) 9))) (fun r_2 => (r_2 = 0 → (wp_X2_isCalledByAnother (X (lix ((X k1) 9))) (fun r_5 => (r_5 = 0 → (wp_X1_becomeFree (X k1) (fun Y_8 => ∀ X_9 : ES, X_9 = va_up X k1 Y_8 → (K X_9)))) ∧ (¬ r_5 = 0 → (wp_X2_leaveCall (X (lix ((X k1) 9))) 0 (fun Y_10 => ∀ X_11 : ES, X_11 = va_up X (lix ((X k1) 9)) Y_10 → (wp_X1_becomeFree (X_11 k1) (fun Y_12 => ∀ X_13 : ES, X_13 = va_up X_11 k1 Y_12 → (K X_13))))))))) ∧ (¬ r_2 = 0 → ((((X (lix ((X k1) 9))) 1) = 0 → (wp_X2_isCalledByAnother (X (lix ((X k1) 9))) (fun r_15 => (r_15 = 0 → (wp_X1_becomeFree (X k1) (fun Y_18 => ∀ X_19 : ES, X_19 = va_up X k1 Y_18 → (K X_19)))) ∧ (¬ r_15 = 0 → (wp_X2_leaveCall (X (lix ((X k1) 9))) 0 (fun Y_20 => ∀ X_21 : ES, X_21 = va_up X (lix ((X k1) 9)) Y_20 → (wp_X1_becomeFree (X_21 k1) (fun Y_22 => ∀ X_23 : ES, X_23 = va_up X_21 k1 Y_22 → (K X_23))))))))) ∧ (¬ ((X (lix ((X k1) 9))) 1) = 0 → (∀ X_24 : ES, X_24 = va_up X (lix ((X k1) 9)) (upd (X (lix ((X k1) 9))) 3 6) → (wp_X2_leaveCall (X_24 (lix ((X k1) 9))) 10 (fun Y_25 => ∀ X_26 : ES, X_26 = va_up X_24 (lix ((X k1) 9)) Y_25 → (wp_X1_becomeFree (X_26 k1) (fun Y_27 => ∀ X_28 : ES, X_28 = va_up X_26 k1 Y_27 → (K X_28))))))))))
def wp_X0_hangLine (X : ES) (p1 : Int32) (K : Int32 → ES → Prop) : Prop := (((X (lix p1)) 1) = 0 → (K (-5) X)) ∧ (¬ ((X (lix p1)) 1) = 0 → (∀ v_3 : Int32, v_3 = (X (lix p1)) 0 → (∀ X_4 : ES, X_4 = va_up X (lix p1) (upd (X (lix p1)) 1 0) → (wp_X2_isCalledByAnother (X_4 (lix p1)) (fun r_5 => (r_5 = 0 → ((((X_4 (lix p1)) 6) = (-6) → (wp_X2_leaveCall (X_4 (lix p1)) 0 (fun Y_9 => ∀ X_10 : ES, X_10 = va_up X_4 (lix p1) Y_9 → (K v_3 X_10)))) ∧ (¬ ((X_4 (lix p1)) 6) = (-6) → (wp_X0_release X_4 (fix ((X_4 (lix p1)) 6)) (fun X_12 => wp_X2_leaveCall (X_12 (lix p1)) 0 (fun Y_13 => ∀ X_14 : ES, X_14 = va_up X_12 (lix p1) Y_13 → (K v_3 X_14))))))) ∧ (¬ r_5 = 0 → (K v_3 X_4)))))))
def wp_X2_appendDigit (L : CS) (p1 : Int32) (K : CS → Prop) : Prop := ∀ X_1 : CS, X_1 = upd L 4 ((L 4) ||| (p1 <<< (4 * (L 5) &&& 31))) → (∀ X_2 : CS, X_2 = upd X_1 5 ((X_1 5) + 1) → (K X_2))
def wp_X0_dialDigit (X : ES) (p1 : Int32) (p2 : Int32) (K : Int32 → ES → Prop) : Prop := (((X (lix p1)) 0) = 2 → ((((X (lix p1)) 5) < 4 → (wp_X2_appendDigit (X (lix p1)) p2 (fun Y_4 => ∀ X_5 : ES, X_5 = va_up X (lix p1) Y_4 → (K ((X_5 (lix p1)) 5) X_5)))) ∧ (¬ ((X (lix p1)) 5) < 4 → (K (-4) X)))) ∧ (¬ ((X (lix p1)) 0) = 2 → ((((X (lix p1)) 0) = 3 → ((((X (lix p1)) 5) < 4 → (wp_X2_appendDigit (X (lix p1)) p2 (fun Y_8 => ∀ X_9 : ES, X_9 = va_up X (lix p1) Y_8 → (K ((X_9 (lix p1)) 5) X_9)))) ∧ (¬ ((X (lix p1)) 5) < 4 → (K (-4) X)))) ∧ (¬ ((X (lix p1)) 0) = 3 → (K (-5) X))))
def wp_X0_hasTimeFor (X : ES) (p1 : Int32) (K : Int32 → Prop) : Prop := (100000 < (((X 0) 7) + p1) → (K 0)) ∧ (¬ 100000 < (((X 0) 7) + p1) → (K 1))
def wp_X0_seek (X : ES) (k1 : Nat) (k2 : Nat) (K : ES → Prop) : Prop := (((X k1) 1) = ((X k1) 2) → (wp_X1_become (X k1) 2 (fun Y_3 => ∀ X_4 : ES, X_4 = va_up X k1 Y_3 → (∀ X_5 : ES, X_5 = va_up X_4 k2 (upd (X_4 k2) 0 2) → (∀ X_6 : ES, X_6 = va_up X_5 0 (upd (X_5 0) 10 (((X_5 0) 10) + 1)) → (K X_6)))))) ∧ (¬ ((X k1) 1) = ((X k1) 2) → (∀ X_2 : ES, X_2 = va_up X k1 (upd (X k1) 1 ((((X k1) 1) + 1) - (((X k1) 1) + 1) / 16 * 16)) → (K X_2)))
def wp_X2_takePulses (L : CS) (K : Int32 → CS → Prop) : Prop := ∀ v_1 : Int32, v_1 = (L 4) &&& 15 → (∀ X_2 : CS, X_2 = upd L 4 (((L 4).toUInt32 >>> ((4 : Int32).toUInt32 &&& Int32.toUInt32 31)).toInt32) → (∀ X_3 : CS, X_3 = upd X_2 5 ((X_2 5) - 1) → ((v_1 = 0 → (K 10 X_3)) ∧ (¬ v_1 = 0 → (K v_1 X_3)))))
def wp_X0_awaitDigit (X : ES) (k1 : Nat) (k2 : Nat) (p3 : Int32) (K : ES → Prop) : Prop := (((X k2) 5) ≤ 0 → (∀ X_2 : ES, X_2 = va_up X k1 (upd (X k1) 7 (((X k1) 7) + 1)) → (wp_X0_settingAt X_2 0 (fun r_3 => (((X_2 k1) 7) < r_3 → (K X_2)) ∧ (¬ ((X_2 k1) 7) < r_3 → (wp_X1_becomeFree (X_2 k1) (fun Y_5 => ∀ X_6 : ES, X_6 = va_up X_2 k1 Y_5 → (∀ X_7 : ES, X_7 = va_up X_6 k2 (upd (X_6 k2) 3 5) → (wp_X2_leaveCall (X_7 k2) 10 (fun Y_8 => ∀ X_9 : ES, X_9 = va_up X_7 k2 Y_8 → (∀ X_10 : ES, X_10 = va_up X_9 0 (upd (X_9 0) 15 (((X_9 0) 15) + 1)) → (K X_10)))))))))))) ∧ (¬ ((X k2) 5) ≤ 0 → (wp_X1_become (X k1) p3 (fun Y_11 => ∀ X_12 : ES, X_12 = va_up X k1 Y_11 → (wp_X2_takePulses (X_12 k2) (fun r_13 Y_14 => ∀ X_15 : ES, X_15 = va_up X_12 k2 Y_14 → (∀ X_16 : ES, X_16 = va_up X_15 k1 (upd (X_15 k1) 5 r_13) → (∀ X_17 : ES, X_17 = va_up X_16 k2 (upd (X_16 k2) 0 3) → (K X_17))))))))
def wp_X0_sound (X : ES) (k1 : Nat) (k2 : Nat) (p3 : Int32) (p4 : Int32) (K : ES → Prop) : Prop := wp_X1_become (X k1) 9 (fun Y_1 => ∀ X_2 : ES, X_2 = va_up X k1 Y_1 → (∀ X_3 : ES, X_3 = va_up X_2 k1 (upd (X_2 k1) 4 (-6)) → (∀ X_4 : ES, X_4 = va_up X_3 k1 (upd (X_3 k1) 9 (-6)) → (∀ X_5 : ES, X_5 = va_up X_4 k2 (upd (X_4 k2) 0 p3) → (∀ X_6 : ES, X_6 = va_up X_5 k2 (upd (X_5 k2) 3 p4) → ((p3 = 8 → (∀ X_9 : ES, X_9 = va_up X_6 0 (upd (X_6 0) 13 (((X_6 0) 13) + 1)) → (K X_9))) ∧ (¬ p3 = 8 → (∀ X_8 : ES, X_8 = va_up X_6 0 (upd (X_6 0) 14 (((X_6 0) 14) + 1)) → (K X_8)))))))))
def wp_X0_rise (X : ES) (k1 : Nat) (k2 : Nat) (K : ES → Prop) : Prop := ∀ X_1 : ES, X_1 = va_up X k1 (upd (X k1) 5 (((X k1) 5) - 1)) → (∀ X_2 : ES, X_2 = va_up X_1 k1 (upd (X_1 k1) 3 (((X_1 k1) 3) + 1)) → ((((X_2 k1) 5) ≤ 0 → ((((X_2 k1) 3) ≤ 4 → (wp_X1_become (X_2 k1) 4 (fun Y_5 => ∀ X_6 : ES, X_6 = va_up X_2 k1 Y_5 → (∀ X_7 : ES, X_7 = va_up X_6 k1 (upd (X_6 k1) 4 0) → (K X_7))))) ∧ (¬ ((X_2 k1) 3) ≤ 4 → (wp_X0_sound X_2 k1 k2 9 3 (fun X_8 => K X_8))))) ∧ (¬ ((X_2 k1) 5) ≤ 0 → (K X_2))))
def wp_X1_holdsConnector (L : CS) (K : Int32 → Prop) : Prop := ((L 0) = 5 → (K 1)) ∧ (¬ (L 0) = 5 → (((L 0) = 6 → (K 1)) ∧ (¬ (L 0) = 6 → (((L 0) = 7 → (K 1)) ∧ (¬ (L 0) = 7 → (((L 0) = 8 → (K 1)) ∧ (¬ (L 0) = 8 → (K 0))))))))
def wpl_X0_holderOf_2 (X : ES) (f_3 : Int32) (f_4 : Int32) (K : Int32 → Prop) (Kx_2 : Int32 → Prop) : Nat → Int32 → Prop
  | 0, _ => False
  | n_2 + 1, i_1 => (((X 0) 5) ≤ i_1 → (Kx_2 i_1)) ∧ (¬ ((X 0) 5) ≤ i_1 → (wp_X1_holdsConnector (X (fix i_1)) (fun r_7 => (r_7 = 0 → (∀ v_10 : Int32, v_10 = i_1 + 1 → (wpl_X0_holderOf_2 X f_3 f_4 K Kx_2 n_2 v_10))) ∧ (¬ r_7 = 0 → ((((X (fix i_1)) 3) = f_3 → ((((X (fix i_1)) 4) = f_4 → (K i_1)) ∧ (¬ ((X (fix i_1)) 4) = f_4 → (∀ v_14 : Int32, v_14 = i_1 + 1 → (wpl_X0_holderOf_2 X f_3 f_4 K Kx_2 n_2 v_14))))) ∧ (¬ ((X (fix i_1)) 3) = f_3 → (∀ v_12 : Int32, v_12 = i_1 + 1 → (wpl_X0_holderOf_2 X f_3 f_4 K Kx_2 n_2 v_12))))))))
def wp_X0_holderOf (X : ES) (p1 : Int32) (p2 : Int32) (K : Int32 → Prop) : Prop := ∃ m_2 : Nat, wpl_X0_holderOf_2 X p1 p2 K (fun (j_2 : Int32) => K (-6)) m_2 0
def wp_X0_hunt (X : ES) (k1 : Nat) (k2 : Nat) (K : ES → Prop) : Prop := wp_X0_holderOf X ((X k1) 3) ((X k1) 4) (fun r_1 => (r_1 = (-6) → (wp_X1_become (X k1) 5 (fun Y_6 => ∀ X_7 : ES, X_7 = va_up X k1 Y_6 → (K X_7)))) ∧ (¬ r_1 = (-6) → (∀ X_3 : ES, X_3 = va_up X k1 (upd (X k1) 4 (((X k1) 4) + 1)) → ((((X_3 k1) 4) < ((X_3 0) 6) → (K X_3)) ∧ (¬ ((X_3 k1) 4) < ((X_3 0) 6) → (wp_X0_sound X_3 k1 k2 8 2 (fun X_5 => K X_5)))))))
def wp_X0_stepOn (X : ES) (k1 : Nat) (k2 : Nat) (K : ES → Prop) : Prop := ∀ X_1 : ES, X_1 = va_up X k1 (upd (X k1) 5 (((X k1) 5) - 1)) → (∀ X_2 : ES, X_2 = va_up X_1 k1 (upd (X_1 k1) 6 (((X_1 k1) 6) + 1)) → ((((X_2 k1) 5) ≤ 0 → ((((X_2 k1) 6) ≤ 4 → (∀ v_5 : Int32, v_5 = ((4 * (((X_2 k1) 3) - 1)) + ((X_2 k1) 6)) - 1 → ((((X_2 (lix v_5)) 0) = 0 → (wp_X1_become (X_2 k1) 7 (fun Y_8 => ∀ X_9 : ES, X_9 = va_up X_2 k1 Y_8 → (∀ X_10 : ES, X_10 = va_up X_9 k1 (upd (X_9 k1) 9 v_5) → (∀ X_11 : ES, X_11 = va_up X_10 k2 (upd (X_10 k2) 0 4) → (∀ X_12 : ES, X_12 = va_up X_11 (lix v_5) (upd (X_11 (lix v_5)) 0 5) → (∀ X_13 : ES, X_13 = va_up X_12 (lix v_5) (upd (X_12 (lix v_5)) 6 ((X_12 k2) 6)) → (∀ X_14 : ES, X_14 = va_up X_13 0 (upd (X_13 0) 11 (((X_13 0) 11) + 1)) → (K X_14))))))))) ∧ (¬ ((X_2 (lix v_5)) 0) = 0 → (wp_X0_sound X_2 k1 k2 8 1 (fun X_15 => K X_15)))))) ∧ (¬ ((X_2 k1) 6) ≤ 4 → (wp_X0_sound X_2 k1 k2 9 3 (fun X_16 => K X_16))))) ∧ (¬ ((X_2 k1) 5) ≤ 0 → (K X_2))))
def wp_X0_ringOn (X : ES) (k1 : Nat) (k2 : Nat) (K : ES → Prop) : Prop := (((X (lix ((X k1) 9))) 1) = 0 → (∀ X_3 : ES, X_3 = va_up X k1 (upd (X k1) 7 (((X k1) 7) + 1)) → (wp_X0_settingAt X_3 1 (fun r_4 => (((X_3 k1) 7) < r_4 → (K X_3)) ∧ (¬ ((X_3 k1) 7) < r_4 → (wp_X0_sound X_3 k1 k2 8 4 (fun X_6 => wp_X2_leaveCall (X_6 (lix ((X k1) 9))) 0 (fun Y_7 => ∀ X_8 : ES, X_8 = va_up X_6 (lix ((X k1) 9)) Y_7 → (K X_8))))))))) ∧ (¬ ((X (lix ((X k1) 9))) 1) = 0 → (wp_X1_become (X k1) 8 (fun Y_9 => ∀ X_10 : ES, X_10 = va_up X k1 Y_9 → (∀ X_11 : ES, X_11 = va_up X_10 k2 (upd (X_10 k2) 0 6) → (∀ X_12 : ES, X_12 = va_up X_11 (lix ((X k1) 9)) (upd (X_11 (lix ((X k1) 9))) 0 7) → (∀ X_13 : ES, X_13 = va_up X_12 k2 (upd (X_12 k2) 2 (((X_12 k2) 2) + 1)) → (∀ X_14 : ES, X_14 = va_up X_13 0 (upd (X_13 0) 12 (((X_13 0) 12) + 1)) → (K X_14))))))))
def wp_X0_talkOn (X : ES) (k1 : Nat) (k2 : Nat) (K : ES → Prop) : Prop := (((X (lix ((X k1) 9))) 1) = 0 → (∀ X_3 : ES, X_3 = va_up X k1 (upd (X k1) 8 (((X k1) 8) + 1)) → (wp_X0_settingAt X_3 3 (fun r_4 => (((X_3 k1) 8) < r_4 → (∀ X_6 : ES, X_6 = va_up X_3 k1 (upd (X_3 k1) 7 (((X_3 k1) 7) + 1)) → (wp_X0_settingAt X_6 2 (fun r_7 => (r_7 ≤ 0 → (K X_6)) ∧ (¬ r_7 ≤ 0 → (¬ r_7 = 0 ∧ (((((X_6 k1) 7) - ((X_6 k1) 7) / r_7 * r_7) = 0 → (∀ X_10 : ES, X_10 = va_up X_6 k2 (upd (X_6 k2) 2 (((X_6 k2) 2) + 1)) → (K X_10))) ∧ (¬ (((X_6 k1) 7) - ((X_6 k1) 7) / r_7 * r_7) = 0 → (K X_6))))))))) ∧ (¬ ((X_3 k1) 8) < r_4 → (wp_X1_becomeFree (X_3 k1) (fun Y_11 => ∀ X_12 : ES, X_12 = va_up X_3 k1 Y_11 → (∀ X_13 : ES, X_13 = va_up X_12 k2 (upd (X_12 k2) 3 6) → (wp_X2_leaveCall (X_13 k2) 10 (fun Y_14 => ∀ X_15 : ES, X_15 = va_up X_13 k2 Y_14 → (wp_X2_leaveCall (X_15 (lix ((X k1) 9))) 0 (fun Y_16 => ∀ X_17 : ES, X_17 = va_up X_15 (lix ((X k1) 9)) Y_16 → (K X_17))))))))))))) ∧ (¬ ((X (lix ((X k1) 9))) 1) = 0 → (∀ X_18 : ES, X_18 = va_up X k1 (upd (X k1) 8 0) → (∀ X_19 : ES, X_19 = va_up X_18 k1 (upd (X_18 k1) 7 (((X_18 k1) 7) + 1)) → (wp_X0_settingAt X_19 2 (fun r_20 => (r_20 ≤ 0 → (K X_19)) ∧ (¬ r_20 ≤ 0 → (¬ r_20 = 0 ∧ (((((X_19 k1) 7) - ((X_19 k1) 7) / r_20 * r_20) = 0 → (∀ X_23 : ES, X_23 = va_up X_19 k2 (upd (X_19 k2) 2 (((X_19 k2) 2) + 1)) → (K X_23))) ∧ (¬ (((X_19 k1) 7) - ((X_19 k1) 7) / r_20 * r_20) = 0 → (K X_19))))))))))
def wp_X0_soundOn (X : ES) (k1 : Nat) (k2 : Nat) (K : ES → Prop) : Prop := ∀ X_1 : ES, X_1 = va_up X k1 (upd (X k1) 7 (((X k1) 7) + 1)) → (wp_X0_settingAt X_1 0 (fun r_2 => (((X_1 k1) 7) < r_2 → (K X_1)) ∧ (¬ ((X_1 k1) 7) < r_2 → (wp_X1_becomeFree (X_1 k1) (fun Y_4 => ∀ X_5 : ES, X_5 = va_up X_1 k1 Y_4 → (wp_X2_leaveCall (X_5 k2) 10 (fun Y_6 => ∀ X_7 : ES, X_7 = va_up X_5 k2 Y_6 → (K X_7))))))))
def wp_X0_takeStep (X : ES) (k1 : Nat) (K : ES → Prop) : Prop := (((X k1) 0) = 1 → (wp_X0_seek X k1 (lix ((X k1) 2)) (fun X_3 => K X_3))) ∧ (¬ ((X k1) 0) = 1 → ((((X k1) 0) = 2 → (wp_X0_awaitDigit X k1 (lix ((X k1) 2)) 3 (fun X_5 => K X_5))) ∧ (¬ ((X k1) 0) = 2 → ((((X k1) 0) = 3 → (wp_X0_rise X k1 (lix ((X k1) 2)) (fun X_7 => K X_7))) ∧ (¬ ((X k1) 0) = 3 → ((((X k1) 0) = 4 → (wp_X0_hunt X k1 (lix ((X k1) 2)) (fun X_9 => K X_9))) ∧ (¬ ((X k1) 0) = 4 → ((((X k1) 0) = 5 → (wp_X0_awaitDigit X k1 (lix ((X k1) 2)) 6 (fun X_11 => K X_11))) ∧ (¬ ((X k1) 0) = 5 → ((((X k1) 0) = 6 → (wp_X0_stepOn X k1 (lix ((X k1) 2)) (fun X_13 => K X_13))) ∧ (¬ ((X k1) 0) = 6 → ((((X k1) 0) = 7 → (wp_X0_ringOn X k1 (lix ((X k1) 2)) (fun X_15 => K X_15))) ∧ (¬ ((X k1) 0) = 7 → ((((X k1) 0) = 8 → (wp_X0_talkOn X k1 (lix ((X k1) 2)) (fun X_17 => K X_17))) ∧ (¬ ((X k1) 0) = 8 → ((((X k1) 0) = 9 → (wp_X0_soundOn X k1 (lix ((X k1) 2)) (fun X_19 => K X_19))) ∧ (¬ ((X k1) 0) = 9 → (K X))))))))))))))))))
def wpl_X0_nextFreeFinder_2 (X : ES) (K : Int32 → Prop) (Kx_2 : Int32 → Prop) : Nat → Int32 → Prop
  | 0, _ => False
  | n_2 + 1, i_1 => (((X 0) 5) < i_1 → (Kx_2 i_1)) ∧ (¬ ((X 0) 5) < i_1 → (∀ v_4 : Int32, v_4 = ((X 0) 8) + i_1 → ((v_4 < ((X 0) 5) → ((((X (fix v_4)) 0) = 0 → (K v_4)) ∧ (¬ ((X (fix v_4)) 0) = 0 → (∀ v_8 : Int32, v_8 = i_1 + 1 → (wpl_X0_nextFreeFinder_2 X K Kx_2 n_2 v_8))))) ∧ (¬ v_4 < ((X 0) 5) → (∀ v_9 : Int32, v_9 = v_4 - ((X 0) 5) → ((((X (fix v_9)) 0) = 0 → (K v_9)) ∧ (¬ ((X (fix v_9)) 0) = 0 → (∀ v_12 : Int32, v_12 = i_1 + 1 → (wpl_X0_nextFreeFinder_2 X K Kx_2 n_2 v_12)))))))))
def wp_X0_nextFreeFinder (X : ES) (K : Int32 → Prop) : Prop := ∃ m_2 : Nat, wpl_X0_nextFreeFinder_2 X K (fun (j_2 : Int32) => K (-6)) m_2 1
def wp_X2_waitsUnsought (L : CS) (K : Int32 → Prop) : Prop := ((L 0) = 1 → (((L 6) = (-6) → (K 1)) ∧ (¬ (L 6) = (-6) → (K 0)))) ∧ (¬ (L 0) = 1 → (K 0))
def wpl_X0_firstWaitingLine_5 (X : ES) (K : Int32 → Prop) (Kx_5 : Int32 → Int32 → Prop) : Nat → Int32 → Int32 → Prop
  | 0, _, _ => False
  | n_5 + 1, i_1, i_2 => (16 ≤ i_2 → (Kx_5 i_1 i_2)) ∧ (¬ 16 ≤ i_2 → (wp_X2_waitsUnsought (X (lix i_2)) (fun r_7 => (r_7 = 0 → (∀ v_10 : Int32, v_10 = i_2 + 1 → (wpl_X0_firstWaitingLine_5 X K Kx_5 n_5 i_1 v_10))) ∧ (¬ r_7 = 0 → ((i_1 = (-6) → (∀ v_12 : Int32, v_12 = i_2 + 1 → (wpl_X0_firstWaitingLine_5 X K Kx_5 n_5 i_2 v_12))) ∧ (¬ i_1 = (-6) → ((((X (lix i_1)) 7) ≤ ((X (lix i_2)) 7) → (∀ v_15 : Int32, v_15 = i_2 + 1 → (wpl_X0_firstWaitingLine_5 X K Kx_5 n_5 i_1 v_15))) ∧ (¬ ((X (lix i_1)) 7) ≤ ((X (lix i_2)) 7) → (∀ v_16 : Int32, v_16 = i_2 + 1 → (wpl_X0_firstWaitingLine_5 X K Kx_5 n_5 i_2 v_16))))))))))
def wp_X0_firstWaitingLine (X : ES) (K : Int32 → Prop) : Prop := ∃ m_5 : Nat, wpl_X0_firstWaitingLine_5 X K (fun (j_3 : Int32) (j_4 : Int32) => K j_3) m_5 (-6) 0
def wp_X0_allotFinder (X : ES) (K : ES → Prop) : Prop := wp_X0_nextFreeFinder X (fun r_1 => (r_1 = (-6) → (K X)) ∧ (¬ r_1 = (-6) → (wp_X0_firstWaitingLine X (fun r_3 => (r_3 = (-6) → (K X)) ∧ (¬ r_3 = (-6) → (wp_X1_become (X (fix r_1)) 1 (fun Y_6 => ∀ X_7 : ES, X_7 = va_up X (fix r_1) Y_6 → (∀ X_8 : ES, X_8 = va_up X_7 (fix r_1) (upd (X_7 (fix r_1)) 2 r_3) → (∀ X_10 : ES, X_10 = va_up X_8 (lix r_3) (upd (X_8 (lix r_3)) 6 r_1) → (∀ X_11 : ES, X_11 = va_up X_10 0 (upd (X_10 0) 8 r_1) → (K X_11)))))))))))
def wp_X2_waitParked (L : CS) (p1 : Int32) (K : CS → Prop) : Prop := ((L 0) = 10 → (∀ X_2 : CS, X_2 = upd L 8 ((L 8) + 1) → (((X_2 8) < p1 → (K X_2)) ∧ (¬ (X_2 8) < p1 → (∀ X_4 : CS, X_4 = upd X_2 0 11 → (∀ X_5 : CS, X_5 = upd X_4 8 0 → (K X_5))))))) ∧ (¬ (L 0) = 10 → (K L))
def wpl_X0_countParked_8 (f_6 : Int32) (K : ES → Prop) (Kx_8 : Int32 → ES → Prop) : Nat → Int32 → ES → Prop
  | 0, _, _ => False
  | n_8 + 1, i_2, X_3 => (16 ≤ i_2 → (Kx_8 i_2 X_3)) ∧ (¬ 16 ≤ i_2 → (wp_X2_waitParked (X_3 (lix i_2)) f_6 (fun Y_9 => ∀ X_10 : ES, X_10 = va_up X_3 (lix i_2) Y_9 → (∀ v_11 : Int32, v_11 = i_2 + 1 → (wpl_X0_countParked_8 f_6 K Kx_8 n_8 v_11 X_10)))))
def wp_X0_countParked (X : ES) (K : ES → Prop) : Prop := wp_X0_settingAt X 4 (fun r_1 => ∃ m_8 : Nat, wpl_X0_countParked_8 r_1 K (fun (j_4 : Int32) (X_5 : ES) => K X_5) m_8 0 X)
def wpl_X0_pass_9 (K : ES → Prop) (Kx_9 : Int32 → ES → Prop) : Nat → Int32 → ES → Prop
  | 0, _, _ => False
  | n_9 + 1, i_7, X_8 => (((X_8 0) 5) ≤ i_7 → (Kx_9 i_7 X_8)) ∧ (¬ ((X_8 0) 5) ≤ i_7 → (wp_X0_takeStep X_8 (fix i_7) (fun X_23 => ∀ v_24 : Int32, v_24 = i_7 + 1 → (wpl_X0_pass_9 K Kx_9 n_9 v_24 X_23))))
def wpl_X0_pass_2 (f_5 : Int32) (K : ES → Prop) (Kx_2 : Int32 → ES → Prop) : Nat → Int32 → ES → Prop
  | 0, _, _ => False
  | n_2 + 1, i_1, X_2 => (f_5 ≤ i_1 → (Kx_2 i_1 X_2)) ∧ (¬ f_5 ≤ i_1 → (∃ m_9 : Nat, wpl_X0_pass_9 K (fun (j_9 : Int32) (X_10 : ES) => wp_X0_allotFinder X_10 (fun X_11 => wp_X0_countParked X_11 (fun X_12 => ∀ X_13 : ES, X_13 = va_up X_12 0 (upd (X_12 0) 7 (((X_12 0) 7) + 1)) → (∀ v_14 : Int32, v_14 = i_1 + 1 → (wpl_X0_pass_2 f_5 K Kx_2 n_2 v_14 X_13))))) m_9 0 X_2))
def wp_X0_pass (X : ES) (p1 : Int32) (K : ES → Prop) : Prop := ∃ m_2 : Nat, wpl_X0_pass_2 p1 K (fun (j_3 : Int32) (X_4 : ES) => K X_4) m_2 0 X
def wpl_X0_ticksUntil_3 (f_7 : Int32) (f_8 : Int32) (f_9 : Int32) (K : Int32 → ES → Prop) (Kx_3 : Int32 → ES → Prop) : Nat → Int32 → ES → Prop
  | 0, _, _ => False
  | n_3 + 1, i_1, X_2 => (f_9 ≤ i_1 → (Kx_3 i_1 X_2)) ∧ (¬ f_9 ≤ i_1 → ((((X_2 (lix f_7)) 0) = f_8 → (K i_1 X_2)) ∧ (¬ ((X_2 (lix f_7)) 0) = f_8 → (wp_X0_pass X_2 1 (fun X_15 => ∀ v_16 : Int32, v_16 = i_1 + 1 → (wpl_X0_ticksUntil_3 f_7 f_8 f_9 K Kx_3 n_3 v_16 X_15))))))
def wp_X0_ticksUntil (X : ES) (p1 : Int32) (p2 : Int32) (p3 : Int32) (K : Int32 → ES → Prop) : Prop := ∃ m_3 : Nat, wpl_X0_ticksUntil_3 p1 p2 p3 K (fun (j_3 : Int32) (X_4 : ES) => (((X_4 (lix p1)) 0) = p2 → (K p3 X_4)) ∧ (¬ ((X_4 (lix p1)) 0) = p2 → (K (-6) X_4))) m_3 0 X
def wp_X2_callsAnother (L : CS) (K : Int32 → Prop) : Prop := ((L 0) = 4 → (K 1)) ∧ (¬ (L 0) = 4 → (((L 0) = 6 → (K 1)) ∧ (¬ (L 0) = 6 → (K 0))))
def wp_X0_partnerOf (X : ES) (k1 : Nat) (K : Int32 → Prop) : Prop := wp_X2_callsAnother (X k1) (fun r_2 => (r_2 = 0 → (wp_X2_isCalledByAnother (X k1) (fun r_5 => (r_5 = 0 → (K (-6))) ∧ (¬ r_5 = 0 → (K ((X (fix ((X k1) 6))) 2)))))) ∧ (¬ r_2 = 0 → (K ((X (fix ((X k1) 6))) 9))))
def wpl_X0_placeOf_14 (X : ES) (k1 : Nat) (K : Int32 → Prop) (Kx_14 : Int32 → Int32 → Prop) : Nat → Int32 → Int32 → Prop
  | 0, _, _ => False
  | n_14 + 1, i_4, i_5 => (16 ≤ i_5 → (Kx_14 i_4 i_5)) ∧ (¬ 16 ≤ i_5 → (wp_X2_waitsUnsought (X (lix i_5)) (fun r_10 => (r_10 = 0 → (∀ v_13 : Int32, v_13 = i_5 + 1 → (wpl_X0_placeOf_14 X k1 K Kx_14 n_14 i_4 v_13))) ∧ (¬ r_10 = 0 → ((((X k1) 7) ≤ ((X (lix i_5)) 7) → (∀ v_16 : Int32, v_16 = i_5 + 1 → (wpl_X0_placeOf_14 X k1 K Kx_14 n_14 i_4 v_16))) ∧ (¬ ((X k1) 7) ≤ ((X (lix i_5)) 7) → (∀ v_17 : Int32, v_17 = i_4 + 1 → (∀ v_18 : Int32, v_18 = i_5 + 1 → (wpl_X0_placeOf_14 X k1 K Kx_14 n_14 v_17 v_18)))))))))
def wp_X0_placeOf (X : ES) (k1 : Nat) (K : Int32 → Prop) : Prop := wp_X2_waitsUnsought (X k1) (fun r_1 => (r_1 = 0 → (K (-6))) ∧ (¬ r_1 = 0 → (∃ m_14 : Nat, wpl_X0_placeOf_14 X k1 K (fun (j_6 : Int32) (j_7 : Int32) => K j_6) m_14 0 0)))
def wp_X0_numberOfLine (X : ES) (p1 : Int32) (p2 : Int32) (K : Int32 → Prop) : Prop := (p2 = 0 → (K ((X (lix p1)) 0))) ∧ (¬ p2 = 0 → ((p2 = 1 → ((((X (lix p1)) 1) = 0 → (K 0)) ∧ (¬ ((X (lix p1)) 1) = 0 → (K 1)))) ∧ (¬ p2 = 1 → ((p2 = 2 → (K ((X (lix p1)) 6))) ∧ (¬ p2 = 2 → ((p2 = 3 → (wp_X0_partnerOf X (lix p1) (fun r_7 => K r_7))) ∧ (¬ p2 = 3 → ((p2 = 4 → (K ((X (lix p1)) 5))) ∧ (¬ p2 = 4 → ((p2 = 5 → (K ((X (lix p1)) 2))) ∧ (¬ p2 = 5 → ((p2 = 6 → (K ((X (lix p1)) 3))) ∧ (¬ p2 = 6 → ((p2 = 7 → (wp_X0_placeOf X (lix p1) (fun r_12 => K r_12))) ∧ (¬ p2 = 7 → ((p2 = 8 → (K ((X (lix p1)) 8))) ∧ (¬ p2 = 8 → (K (-2)))))))))))))))))))
def wp_X0_traceFrom (X : ES) (p1 : Int32) (p2 : Int32) (K : Int32 → Prop) : Prop := wp_X2_isCalledByAnother (X (lix p1)) (fun r_2 => (r_2 = 0 → (K (-6))) ∧ (¬ r_2 = 0 → ((p2 = 1 → (K ((X (lix p1)) 6))) ∧ (¬ p2 = 1 → ((p2 = 0 → (K ((X (fix ((X (lix p1)) 6))) 4))) ∧ (¬ p2 = 0 → (K ((X (fix ((X (lix p1)) 6))) 2))))))))
def wpl_X0_freeFinders_4 (X : ES) (K : Int32 → Prop) (Kx_4 : Int32 → Int32 → Prop) : Nat → Int32 → Int32 → Prop
  | 0, _, _ => False
  | n_4 + 1, i_1, i_2 => (((X 0) 5) ≤ i_2 → (Kx_4 i_1 i_2)) ∧ (¬ ((X 0) 5) ≤ i_2 → ((((X (fix i_2)) 0) = 0 → (∀ v_9 : Int32, v_9 = i_1 + 1 → (∀ v_10 : Int32, v_10 = i_2 + 1 → (wpl_X0_freeFinders_4 X K Kx_4 n_4 v_9 v_10)))) ∧ (¬ ((X (fix i_2)) 0) = 0 → (∀ v_8 : Int32, v_8 = i_2 + 1 → (wpl_X0_freeFinders_4 X K Kx_4 n_4 i_1 v_8)))))
def wp_X0_freeFinders (X : ES) (K : Int32 → Prop) : Prop := ∃ m_4 : Nat, wpl_X0_freeFinders_4 X K (fun (j_3 : Int32) (j_4 : Int32) => K j_3) m_4 0 0
def wpl_X0_freeConnectors_9 (X : ES) (K : Int32 → Prop) (Kx_9 : Int32 → Int32 → Prop) : Nat → Int32 → Int32 → Prop
  | 0, _, _ => False
  | n_9 + 1, i_2, i_3 => (((X 0) 5) ≤ i_3 → (Kx_9 i_2 i_3)) ∧ (¬ ((X 0) 5) ≤ i_3 → (wp_X1_holdsConnector (X (fix i_3)) (fun r_8 => (r_8 = 0 → (∀ v_11 : Int32, v_11 = i_3 + 1 → (wpl_X0_freeConnectors_9 X K Kx_9 n_9 i_2 v_11))) ∧ (¬ r_8 = 0 → (∀ v_12 : Int32, v_12 = i_2 + (-1) → (∀ v_13 : Int32, v_13 = i_3 + 1 → (wpl_X0_freeConnectors_9 X K Kx_9 n_9 v_12 v_13)))))))
def wp_X0_freeConnectors (X : ES) (K : Int32 → Prop) : Prop := ∀ v_1 : Int32, v_1 = 4 * ((X 0) 6) → (∃ m_9 : Nat, wpl_X0_freeConnectors_9 X K (fun (j_4 : Int32) (j_5 : Int32) => K j_4) m_9 v_1 0)
def wpl_X0_sumOfMeters_4 (X : ES) (K : Int32 → Prop) (Kx_4 : Int32 → Int32 → Prop) : Nat → Int32 → Int32 → Prop
  | 0, _, _ => False
  | n_4 + 1, i_1, i_2 => (16 ≤ i_2 → (Kx_4 i_1 i_2)) ∧ (¬ 16 ≤ i_2 → (∀ v_7 : Int32, v_7 = i_1 + ((X (lix i_2)) 2) → (∀ v_8 : Int32, v_8 = i_2 + 1 → (wpl_X0_sumOfMeters_4 X K Kx_4 n_4 v_7 v_8))))
def wp_X0_sumOfMeters (X : ES) (K : Int32 → Prop) : Prop := ∃ m_4 : Nat, wpl_X0_sumOfMeters_4 X K (fun (j_3 : Int32) (j_4 : Int32) => K j_3) m_4 0 0
def wpl_X0_liftedLines_4 (X : ES) (K : Int32 → Prop) (Kx_4 : Int32 → Int32 → Prop) : Nat → Int32 → Int32 → Prop
  | 0, _, _ => False
  | n_4 + 1, i_1, i_2 => (16 ≤ i_2 → (Kx_4 i_1 i_2)) ∧ (¬ 16 ≤ i_2 → ((((X (lix i_2)) 1) = 0 → (∀ v_8 : Int32, v_8 = i_2 + 1 → (wpl_X0_liftedLines_4 X K Kx_4 n_4 i_1 v_8))) ∧ (¬ ((X (lix i_2)) 1) = 0 → (∀ v_9 : Int32, v_9 = i_1 + 1 → (∀ v_10 : Int32, v_10 = i_2 + 1 → (wpl_X0_liftedLines_4 X K Kx_4 n_4 v_9 v_10))))))
def wp_X0_liftedLines (X : ES) (K : Int32 → Prop) : Prop := ∃ m_4 : Nat, wpl_X0_liftedLines_4 X K (fun (j_3 : Int32) (j_4 : Int32) => K j_3) m_4 0 0
def wp_X0_numberFor (X : ES) (p1 : Int32) (K : Int32 → Prop) : Prop := (p1 = 0 → (K ((X 0) 7))) ∧ (¬ p1 = 0 → ((p1 = 1 → (K ((X 0) 5))) ∧ (¬ p1 = 1 → ((p1 = 2 → (K ((X 0) 6))) ∧ (¬ p1 = 2 → ((p1 = 3 → (wp_X0_freeFinders X (fun r_5 => K r_5))) ∧ (¬ p1 = 3 → ((p1 = 4 → (wp_X0_freeConnectors X (fun r_7 => K r_7))) ∧ (¬ p1 = 4 → ((p1 = 5 → (wp_X0_sumOfMeters X (fun r_9 => K r_9))) ∧ (¬ p1 = 5 → ((p1 = 6 → (K ((X 0) 9))) ∧ (¬ p1 = 6 → ((p1 = 7 → (K ((X 0) 10))) ∧ (¬ p1 = 7 → ((p1 = 8 → (K ((X 0) 11))) ∧ (¬ p1 = 8 → ((p1 = 9 → (K ((X 0) 12))) ∧ (¬ p1 = 9 → ((p1 = 10 → (K ((X 0) 13))) ∧ (¬ p1 = 10 → ((p1 = 11 → (K ((X 0) 14))) ∧ (¬ p1 = 11 → ((p1 = 12 → (K ((X 0) 15))) ∧ (¬ p1 = 12 → ((p1 = 13 → (wp_X0_liftedLines X (fun r_18 => K r_18))) ∧ (¬ p1 = 13 → (wp_X0_settingAt X (p1 - 15) (fun r_19 => K r_19)))))))))))))))))))))))))))))
def wp_X1_numberFor (L : CS) (p1 : Int32) (K : Int32 → Prop) : Prop := (p1 = 0 → (K (L 0))) ∧ (¬ p1 = 0 → ((p1 = 1 → (K (L 1))) ∧ (¬ p1 = 1 → ((p1 = 2 → (K (L 2))) ∧ (¬ p1 = 2 → ((p1 = 3 → (K (L 3))) ∧ (¬ p1 = 3 → ((p1 = 4 → (K (L 4))) ∧ (¬ p1 = 4 → ((p1 = 5 → (K (L 5))) ∧ (¬ p1 = 5 → ((p1 = 6 → (K (L 7))) ∧ (¬ p1 = 6 → ((p1 = 7 → (K (L 8))) ∧ (¬ p1 = 7 → (K (-2)))))))))))))))))
def wp_X4_isWithin (p1 : Int32) (p2 : Int32) (p3 : Int32) (K : Int32 → Prop) : Prop := (p1 < p2 → (K 0)) ∧ (¬ p1 < p2 → ((p3 < p1 → (K 0)) ∧ (¬ p3 < p1 → (K 1))))
def wp_X4_setUp (o : Nat) (E0 : ES) (p1 : Int32) (p2 : Int32) (K : Int32 → ES → Prop) : Prop := wp_X4_isWithin p1 1 4 (fun r_1 => (r_1 = 0 → (K (-2) E0)) ∧ (¬ r_1 = 0 → (wp_X4_isWithin p2 1 3 (fun r_4 => (r_4 = 0 → (K (-2) E0)) ∧ (¬ r_4 = 0 → (∀ v_7 : Int32, v_7 = (E0 (o + 1)) 5 → (wp_X0_renew (vw (o + 1) E0) p1 p2 (fun Y_8 => ∀ X_9 : ES, X_9 = put 26 (o + 1) Y_8 E0 → (K v_7 X_9)))))))))
def wp_X4_isLine (p1 : Int32) (K : Int32 → Prop) : Prop := wp_X4_isWithin p1 0 15 (fun r_1 => K r_1)
def wp_X4_lift (o : Nat) (E0 : ES) (p1 : Int32) (K : Int32 → ES → Prop) : Prop := wp_X4_isLine p1 (fun r_1 => (r_1 = 0 → (K (-1) E0)) ∧ (¬ r_1 = 0 → (wp_X0_liftLine (vw (o + 1) E0) p1 (fun r_4 Y_5 => ∀ X_6 : ES, X_6 = put 26 (o + 1) Y_5 E0 → (K r_4 X_6)))))
def wp_X4_hang (o : Nat) (E0 : ES) (p1 : Int32) (K : Int32 → ES → Prop) : Prop := wp_X4_isLine p1 (fun r_1 => (r_1 = 0 → (K (-1) E0)) ∧ (¬ r_1 = 0 → (wp_X0_hangLine (vw (o + 1) E0) p1 (fun r_4 Y_5 => ∀ X_6 : ES, X_6 = put 26 (o + 1) Y_5 E0 → (K r_4 X_6)))))
def wp_X4_dial (o : Nat) (E0 : ES) (p1 : Int32) (p2 : Int32) (K : Int32 → ES → Prop) : Prop := wp_X4_isLine p1 (fun r_1 => (r_1 = 0 → (K (-1) E0)) ∧ (¬ r_1 = 0 → (wp_X4_isWithin p2 0 9 (fun r_4 => (r_4 = 0 → (K (-2) E0)) ∧ (¬ r_4 = 0 → (wp_X0_dialDigit (vw (o + 1) E0) p1 p2 (fun r_7 Y_8 => ∀ X_9 : ES, X_9 = put 26 (o + 1) Y_8 E0 → (K r_7 X_9))))))))
def wp_X4_tick (o : Nat) (E0 : ES) (p1 : Int32) (K : Int32 → ES → Prop) : Prop := wp_X4_isWithin p1 1 1000 (fun r_1 => (r_1 = 0 → (K (-2) E0)) ∧ (¬ r_1 = 0 → (wp_X0_hasTimeFor (vw (o + 1) E0) p1 (fun r_4 => (r_4 = 0 → (K (-5) E0)) ∧ (¬ r_4 = 0 → (wp_X0_pass (vw (o + 1) E0) p1 (fun Y_7 => ∀ X_8 : ES, X_8 = put 26 (o + 1) Y_7 E0 → (K ((X_8 (o + 1)) 7) X_8))))))))
def wp_X4_line (o : Nat) (E0 : ES) (p1 : Int32) (p2 : Int32) (K : Int32 → Prop) : Prop := wp_X4_isLine p1 (fun r_1 => (r_1 = 0 → (K (-1))) ∧ (¬ r_1 = 0 → (wp_X0_numberOfLine (vw (o + 1) E0) p1 p2 (fun r_4 => K r_4))))
def wp_X4_finder (o : Nat) (E0 : ES) (p1 : Int32) (p2 : Int32) (K : Int32 → Prop) : Prop := wp_X4_isWithin p1 0 (((E0 (o + 1)) 5) - 1) (fun r_1 => (r_1 = 0 → (K (-1))) ∧ (¬ r_1 = 0 → (wp_X1_numberFor (E0 (o + 1 + fix p1)) p2 (fun r_5 => K r_5))))
def wp_X4_connector (o : Nat) (E0 : ES) (p1 : Int32) (p2 : Int32) (K : Int32 → Prop) : Prop := wp_X4_isWithin p1 1 4 (fun r_1 => (r_1 = 0 → (K (-1))) ∧ (¬ r_1 = 0 → (wp_X4_isWithin p2 0 (((E0 (o + 1)) 6) - 1) (fun r_4 => (r_4 = 0 → (K (-1))) ∧ (¬ r_4 = 0 → (wp_X0_holderOf (vw (o + 1) E0) p1 p2 (fun r_7 => K r_7)))))))
def wp_X4_count (o : Nat) (E0 : ES) (p1 : Int32) (K : Int32 → Prop) : Prop := (p1 = 14 → (K ((E0 (o + 54)) 1))) ∧ (¬ p1 = 14 → (wp_X0_numberFor (vw (o + 1) E0) p1 (fun r_2 => K r_2)))
def wp_X4_trace (o : Nat) (E0 : ES) (p1 : Int32) (p2 : Int32) (K : Int32 → Prop) : Prop := wp_X4_isLine p1 (fun r_1 => (r_1 = 0 → (K (-1))) ∧ (¬ r_1 = 0 → (wp_X4_isWithin p2 0 2 (fun r_4 => (r_4 = 0 → (K (-2))) ∧ (¬ r_4 = 0 → (wp_X0_traceFrom (vw (o + 1) E0) p1 p2 (fun r_7 => K r_7)))))))
def wp_X4_until (o : Nat) (E0 : ES) (p1 : Int32) (p2 : Int32) (p3 : Int32) (K : Int32 → ES → Prop) : Prop := wp_X4_isLine p1 (fun r_1 => (r_1 = 0 → (K (-1) E0)) ∧ (¬ r_1 = 0 → (wp_X4_isWithin p2 0 11 (fun r_4 => (r_4 = 0 → (K (-2) E0)) ∧ (¬ r_4 = 0 → (wp_X4_isWithin p3 0 1000 (fun r_7 => (r_7 = 0 → (K (-2) E0)) ∧ (¬ r_7 = 0 → (wp_X0_copyFrom (vw (o + 27) E0) (vw (o + 1) E0) (fun Y_10 => ∀ X_11 : ES, X_11 = put 26 (o + 27) Y_10 E0 → (wp_X0_ticksUntil (vw (o + 27) X_11) p1 p2 p3 (fun r_12 Y_13 => ∀ X_14 : ES, X_14 = put 26 (o + 27) Y_13 X_11 → (K r_12 X_14)))))))))))))
end
section
set_option maxHeartbeats 4000000 in
set_option maxRecDepth 100000 in
theorem c_X2_leaveCall {l : Launch} {g : GG} {lay : LY} {E0 : ES} {a : Nat} {L : CS} {p1 : Int32} {K : CS → Prop} (hA : okL g lay) (hla : lay a = some lineE) (hL : E0 a = L) (hw : wp_X2_leaveCall L p1 K) : JMv l g lay yX2_leaveCall wsX2_leaveCall rmX2_leaveCall [.ref a, .int p1] E0 (fun E1 => ∃ L1 : CS, E1 = va_up E0 a L1 ∧ K L1) := by
  refine Met.ofW (cc := cX2_leaveCall) (maxL := 2) (ret := none) (by decide) rfl ?_
  intro p e s m args below meth c s₁ B hml hv
  obtain ⟨rfl, hK, hW⟩ := hv
  have hx := B.exec
  have hb := B.bytes
  have hr := B.returns
  have hts := gd_of (atoms_spec (ws := wsX2_leaveCall) B.pre)
  have hown : s.vm.findClass RX2 = some m.cls := findClass_of_methodNamed B.named
  have hlocks := B.notSynchronized
  have hS : va_S (Ab g) s.heap s.heap [] := va_S.rf
  have hW : Wd g lay (va_up E0 a L) s.heap := by rw [← hL, vuSelf]; exact hW
  have hl := lv_entry [.ref a, .int p1] (n := 2) (Nat.le_of_ble_eq_true rfl)
  rw [lg_entry_eq]
  generalize (lg_sl [.ref a, .int p1] ++ List.replicate (2 - (lg_sl [.ref a, .int p1]).length) Slot.unset).toArray = ls at hl ⊢
  have hl : lv_has ls 2 [(0, .ref a), (1, .int p1)] := hl
  unfold wp_X2_leaveCall at hw
  refine lv_aload_n hx hb dX2_leaveCall_0 rfl (lv_at hl 0 rfl) ?_
  refine lv_iload_n hx hb dX2_leaveCall_1 rfl (lv_at hl 1 rfl) ?_
  obtain ⟨X_1, eX_1⟩ : ∃ z : CS, z = upd L 0 p1 := ⟨_, rfl⟩
  have hw := hw X_1 eX_1
  refine p_X2_9 (E1 := va_up E0 a X_1) hx hb hown hts hK hA hW hS hla (vuS _ _ _) dX2_leaveCall_2 (vuE eX_1) (fun H locs hW hS => ?_)
  refine lv_aload_n hx hb dX2_leaveCall_5 rfl (lv_at hl 0 rfl) ?_
  refine lv_bipush (v := (-6)) hx hb dX2_leaveCall_6 (by decide) ?_
  obtain ⟨X_2, eX_2⟩ : ∃ z : CS, z = upd X_1 6 (-6) := ⟨_, rfl⟩
  have hw := hw X_2 eX_2
  refine p_X2_31 (E1 := va_up E0 a X_2) hx hb hown hts hK hA hW hS hla (vuS _ _ _) dX2_leaveCall_8 (vuE eX_2) (fun H locs hW hS => ?_)
  refine lv_aload_n hx hb dX2_leaveCall_11 rfl (lv_at hl 0 rfl) ?_
  refine lv_iconst (v := 0) hx hb dX2_leaveCall_12 (by decide) ?_
  obtain ⟨X_3, eX_3⟩ : ∃ z : CS, z = upd X_2 8 0 := ⟨_, rfl⟩
  have hw := hw X_3 eX_3
  refine p_X2_37 (E1 := va_up E0 a X_3) hx hb hown hts hK hA hW hS hla (vuS _ _ _) dX2_leaveCall_13 (vuE eX_3) (fun H locs hW hS => ?_)
  refine lv_aload_n hx hb dX2_leaveCall_16 rfl (lv_at hl 0 rfl) ?_
  refine lv_iconst (v := 0) hx hb dX2_leaveCall_17 (by decide) ?_
  obtain ⟨X_4, eX_4⟩ : ∃ z : CS, z = upd X_3 4 0 := ⟨_, rfl⟩
  have hw := hw X_4 eX_4
  refine p_X2_25 (E1 := va_up E0 a X_4) hx hb hown hts hK hA hW hS hla (vuS _ _ _) dX2_leaveCall_18 (vuE eX_4) (fun H locs hW hS => ?_)
  refine lv_aload_n hx hb dX2_leaveCall_21 rfl (lv_at hl 0 rfl) ?_
  refine lv_iconst (v := 0) hx hb dX2_leaveCall_22 (by decide) ?_
  obtain ⟨X_5, eX_5⟩ : ∃ z : CS, z = upd X_4 5 0 := ⟨_, rfl⟩
  have hw := hw X_5 eX_5
  refine p_X2_28 (E1 := va_up E0 a X_5) hx hb hown hts hK hA hW hS hla (vuS _ _ _) dX2_leaveCall_23 (vuE eX_5) (fun H locs hW hS => ?_)
  exact w_vret hx hb hr hlocks hW hS ⟨X_5, rfl, hw⟩ dX2_leaveCall_26
set_option maxHeartbeats 4000000 in
set_option maxRecDepth 100000 in
theorem c_X2_renew {l : Launch} {g : GG} {lay : LY} {E0 : ES} {a : Nat} {L : CS} {K : CS → Prop} (hA : okL g lay) (hla : lay a = some lineE) (hL : E0 a = L) (hw : wp_X2_renew L K) : JMv l g lay yX2_renew wsX2_renew rmX2_renew [.ref a] E0 (fun E1 => ∃ L1 : CS, E1 = va_up E0 a L1 ∧ K L1) := by
  refine Met.ofW (cc := cX2_renew) (maxL := 1) (ret := none) (by decide) rfl ?_
  intro p e s m args below meth c s₁ B hml hv
  obtain ⟨rfl, hK, hW⟩ := hv
  have hx := B.exec
  have hb := B.bytes
  have hr := B.returns
  have hts := gd_of (atoms_spec (ws := wsX2_renew) B.pre)
  have hown : s.vm.findClass RX2 = some m.cls := findClass_of_methodNamed B.named
  have hlocks := B.notSynchronized
  have hS : va_S (Ab g) s.heap s.heap [] := va_S.rf
  have hW : Wd g lay (va_up E0 a L) s.heap := by rw [← hL, vuSelf]; exact hW
  have hl := lv_entry [.ref a] (n := 1) (Nat.le_of_ble_eq_true rfl)
  rw [lg_entry_eq]
  generalize (lg_sl [.ref a] ++ List.replicate (1 - (lg_sl [.ref a]).length) Slot.unset).toArray = ls at hl ⊢
  have hl : lv_has ls 1 [(0, .ref a)] := hl
  unfold wp_X2_renew at hw
  refine lv_aload_n hx hb dX2_renew_0 rfl (lv_at hl 0 rfl) ?_
  refine lv_iconst (v := 0) hx hb dX2_renew_1 (by decide) ?_
  refine w_cvv (As := [.int 0]) (rest := []) hx hb hml hown hts hK hW hS hl.1 (c_X2_leaveCall hA hla (vuS _ _ _) hw) (k_X2_40 hts ⟨Nat.le_of_ble_eq_true rfl, Nat.le_of_ble_eq_true rfl⟩) (w_recv hK hW hla (vuS _ _ _) rfl rfl) rfl rfl (Nat.le_of_ble_eq_true rfl) dX2_renew_2 ⟨Nat.zero_le _, Nat.zero_le _⟩ (fun Ez H locs hw2 hW hS => ?_)
  obtain ⟨Y_1, ez, hw⟩ := hw2
  rw [ez] at hW
  have hW : Wd g lay (va_up E0 a Y_1) H := by rw [← vuU E0 a L Y_1]; exact hW
  refine lv_aload_n hx hb dX2_renew_5 rfl (lv_at hl 0 rfl) ?_
  refine lv_iconst (v := 0) hx hb dX2_renew_6 (by decide) ?_
  obtain ⟨X_3, eX_3⟩ : ∃ z : CS, z = upd Y_1 1 0 := ⟨_, rfl⟩
  have hw := hw X_3 eX_3
  refine p_X2_15 (E1 := va_up E0 a X_3) hx hb hown hts hK hA hW hS hla (vuS _ _ _) (Or.inl rfl) dX2_renew_7 (vuE eX_3) (fun H locs hW hS => ?_)
  refine lv_aload_n hx hb dX2_renew_10 rfl (lv_at hl 0 rfl) ?_
  refine lv_iconst (v := 0) hx hb dX2_renew_11 (by decide) ?_
  obtain ⟨X_4, eX_4⟩ : ∃ z : CS, z = upd X_3 2 0 := ⟨_, rfl⟩
  have hw := hw X_4 eX_4
  refine p_X2_19 (E1 := va_up E0 a X_4) hx hb hown hts hK hA hW hS hla (vuS _ _ _) dX2_renew_12 (vuE eX_4) (fun H locs hW hS => ?_)
  refine lv_aload_n hx hb dX2_renew_15 rfl (lv_at hl 0 rfl) ?_
  refine lv_iconst (v := 0) hx hb dX2_renew_16 (by decide) ?_
  obtain ⟨X_5, eX_5⟩ : ∃ z : CS, z = upd X_4 3 0 := ⟨_, rfl⟩
  have hw := hw X_5 eX_5
  refine p_X2_22 (E1 := va_up E0 a X_5) hx hb hown hts hK hA hW hS hla (vuS _ _ _) dX2_renew_17 (vuE eX_5) (fun H locs hW hS => ?_)
  refine lv_aload_n hx hb dX2_renew_20 rfl (lv_at hl 0 rfl) ?_
  refine lv_iconst (v := 0) hx hb dX2_renew_21 (by decide) ?_
  obtain ⟨X_6, eX_6⟩ : ∃ z : CS, z = upd X_5 7 0 := ⟨_, rfl⟩
  have hw := hw X_6 eX_6
  refine p_X2_34 (E1 := va_up E0 a X_6) hx hb hown hts hK hA hW hS hla (vuS _ _ _) dX2_renew_22 (vuE eX_6) (fun H locs hW hS => ?_)
  exact w_vret hx hb hr hlocks hW hS ⟨X_6, rfl, hw⟩ dX2_renew_25
set_option maxHeartbeats 4000000 in
set_option maxRecDepth 100000 in
theorem c_X1_become {l : Launch} {g : GG} {lay : LY} {E0 : ES} {a : Nat} {L : CS} {p1 : Int32} {K : CS → Prop} (hA : okL g lay) (hla : lay a = some finE) (hL : E0 a = L) (hw : wp_X1_become L p1 K) : JMv l g lay yX1_become wsX1_become rmX1_become [.ref a, .int p1] E0 (fun E1 => ∃ L1 : CS, E1 = va_up E0 a L1 ∧ K L1) := by
  refine Met.ofW (cc := cX1_become) (maxL := 2) (ret := none) (by decide) rfl ?_
  intro p e s m args below meth c s₁ B hml hv
  obtain ⟨rfl, hK, hW⟩ := hv
  have hx := B.exec
  have hb := B.bytes
  have hr := B.returns
  have hts := gd_of (atoms_spec (ws := wsX1_become) B.pre)
  have hown : s.vm.findClass RX1 = some m.cls := findClass_of_methodNamed B.named
  have hlocks := B.notSynchronized
  have hS : va_S (Ab g) s.heap s.heap [] := va_S.rf
  have hW : Wd g lay (va_up E0 a L) s.heap := by rw [← hL, vuSelf]; exact hW
  have hl := lv_entry [.ref a, .int p1] (n := 2) (Nat.le_of_ble_eq_true rfl)
  rw [lg_entry_eq]
  generalize (lg_sl [.ref a, .int p1] ++ List.replicate (2 - (lg_sl [.ref a, .int p1]).length) Slot.unset).toArray = ls at hl ⊢
  have hl : lv_has ls 2 [(0, .ref a), (1, .int p1)] := hl
  unfold wp_X1_become at hw
  refine lv_aload_n hx hb dX1_become_0 rfl (lv_at hl 0 rfl) ?_
  refine lv_iload_n hx hb dX1_become_1 rfl (lv_at hl 1 rfl) ?_
  obtain ⟨X_1, eX_1⟩ : ∃ z : CS, z = upd L 0 p1 := ⟨_, rfl⟩
  have hw := hw X_1 eX_1
  refine p_X1_9 (E1 := va_up E0 a X_1) hx hb hown hts hK hA hW hS hla (vuS _ _ _) dX1_become_2 (vuE eX_1) (fun H locs hW hS => ?_)
  refine lv_aload_n hx hb dX1_become_5 rfl (lv_at hl 0 rfl) ?_
  refine lv_iconst (v := 0) hx hb dX1_become_6 (by decide) ?_
  obtain ⟨X_2, eX_2⟩ : ∃ z : CS, z = upd X_1 7 0 := ⟨_, rfl⟩
  have hw := hw X_2 eX_2
  refine p_X1_33 (E1 := va_up E0 a X_2) hx hb hown hts hK hA hW hS hla (vuS _ _ _) dX1_become_7 (vuE eX_2) (fun H locs hW hS => ?_)
  refine lv_aload_n hx hb dX1_become_10 rfl (lv_at hl 0 rfl) ?_
  refine lv_iconst (v := 0) hx hb dX1_become_11 (by decide) ?_
  obtain ⟨X_3, eX_3⟩ : ∃ z : CS, z = upd X_2 8 0 := ⟨_, rfl⟩
  have hw := hw X_3 eX_3
  refine p_X1_36 (E1 := va_up E0 a X_3) hx hb hown hts hK hA hW hS hla (vuS _ _ _) dX1_become_12 (vuE eX_3) (fun H locs hW hS => ?_)
  exact w_vret hx hb hr hlocks hW hS ⟨X_3, rfl, hw⟩ dX1_become_15
set_option maxHeartbeats 4000000 in
set_option maxRecDepth 100000 in
theorem c_X1_becomeFree {l : Launch} {g : GG} {lay : LY} {E0 : ES} {a : Nat} {L : CS} {K : CS → Prop} (hA : okL g lay) (hla : lay a = some finE) (hL : E0 a = L) (hw : wp_X1_becomeFree L K) : JMv l g lay yX1_becomeFree wsX1_becomeFree rmX1_becomeFree [.ref a] E0 (fun E1 => ∃ L1 : CS, E1 = va_up E0 a L1 ∧ K L1) := by
  refine Met.ofW (cc := cX1_becomeFree) (maxL := 1) (ret := none) (by decide) rfl ?_
  intro p e s m args below meth c s₁ B hml hv
  obtain ⟨rfl, hK, hW⟩ := hv
  have hx := B.exec
  have hb := B.bytes
  have hr := B.returns
  have hts := gd_of (atoms_spec (ws := wsX1_becomeFree) B.pre)
  have hown : s.vm.findClass RX1 = some m.cls := findClass_of_methodNamed B.named
  have hlocks := B.notSynchronized
  have hS : va_S (Ab g) s.heap s.heap [] := va_S.rf
  have hW : Wd g lay (va_up E0 a L) s.heap := by rw [← hL, vuSelf]; exact hW
  have hl := lv_entry [.ref a] (n := 1) (Nat.le_of_ble_eq_true rfl)
  rw [lg_entry_eq]
  generalize (lg_sl [.ref a] ++ List.replicate (1 - (lg_sl [.ref a]).length) Slot.unset).toArray = ls at hl ⊢
  have hl : lv_has ls 1 [(0, .ref a)] := hl
  unfold wp_X1_becomeFree at hw
  refine lv_aload_n hx hb dX1_becomeFree_0 rfl (lv_at hl 0 rfl) ?_
  refine lv_iconst (v := 0) hx hb dX1_becomeFree_1 (by decide) ?_
  refine w_cvv (As := [.int 0]) (rest := []) hx hb hml hown hts hK hW hS hl.1 (c_X1_become hA hla (vuS _ _ _) hw) (k_X1_45 hts ⟨Nat.le_of_ble_eq_true rfl, Nat.le_of_ble_eq_true rfl⟩) (w_recv hK hW hla (vuS _ _ _) rfl rfl) rfl rfl (Nat.le_of_ble_eq_true rfl) dX1_becomeFree_2 ⟨Nat.zero_le _, Nat.zero_le _⟩ (fun Ez H locs hw2 hW hS => ?_)
  obtain ⟨Y_1, ez, hw⟩ := hw2
  rw [ez] at hW
  have hW : Wd g lay (va_up E0 a Y_1) H := by rw [← vuU E0 a L Y_1]; exact hW
  refine lv_aload_n hx hb dX1_becomeFree_5 rfl (lv_at hl 0 rfl) ?_
  refine lv_bipush (v := (-6)) hx hb dX1_becomeFree_6 (by decide) ?_
  obtain ⟨X_3, eX_3⟩ : ∃ z : CS, z = upd Y_1 2 (-6) := ⟨_, rfl⟩
  have hw := hw X_3 eX_3
  refine p_X1_18 (E1 := va_up E0 a X_3) hx hb hown hts hK hA hW hS hla (vuS _ _ _) dX1_becomeFree_8 (vuE eX_3) (fun H locs hW hS => ?_)
  refine lv_aload_n hx hb dX1_becomeFree_11 rfl (lv_at hl 0 rfl) ?_
  refine lv_iconst (v := 0) hx hb dX1_becomeFree_12 (by decide) ?_
  obtain ⟨X_4, eX_4⟩ : ∃ z : CS, z = upd X_3 3 0 := ⟨_, rfl⟩
  have hw := hw X_4 eX_4
  refine p_X1_21 (E1 := va_up E0 a X_4) hx hb hown hts hK hA hW hS hla (vuS _ _ _) dX1_becomeFree_13 (vuE eX_4) (fun H locs hW hS => ?_)
  refine lv_aload_n hx hb dX1_becomeFree_16 rfl (lv_at hl 0 rfl) ?_
  refine lv_bipush (v := (-6)) hx hb dX1_becomeFree_17 (by decide) ?_
  obtain ⟨X_5, eX_5⟩ : ∃ z : CS, z = upd X_4 4 (-6) := ⟨_, rfl⟩
  have hw := hw X_5 eX_5
  refine p_X1_24 (E1 := va_up E0 a X_5) hx hb hown hts hK hA hW hS hla (vuS _ _ _) dX1_becomeFree_19 (vuE eX_5) (fun H locs hW hS => ?_)
  refine lv_aload_n hx hb dX1_becomeFree_22 rfl (lv_at hl 0 rfl) ?_
  refine lv_iconst (v := 0) hx hb dX1_becomeFree_23 (by decide) ?_
  obtain ⟨X_6, eX_6⟩ : ∃ z : CS, z = upd X_5 5 0 := ⟨_, rfl⟩
  have hw := hw X_6 eX_6
  refine p_X1_27 (E1 := va_up E0 a X_6) hx hb hown hts hK hA hW hS hla (vuS _ _ _) dX1_becomeFree_24 (vuE eX_6) (fun H locs hW hS => ?_)
  refine lv_aload_n hx hb dX1_becomeFree_27 rfl (lv_at hl 0 rfl) ?_
  refine lv_iconst (v := 0) hx hb dX1_becomeFree_28 (by decide) ?_
  obtain ⟨X_7, eX_7⟩ : ∃ z : CS, z = upd X_6 6 0 := ⟨_, rfl⟩
  have hw := hw X_7 eX_7
  refine p_X1_30 (E1 := va_up E0 a X_7) hx hb hown hts hK hA hW hS hla (vuS _ _ _) dX1_becomeFree_29 (vuE eX_7) (fun H locs hW hS => ?_)
  refine lv_aload_n hx hb dX1_becomeFree_32 rfl (lv_at hl 0 rfl) ?_
  refine lv_bipush (v := (-6)) hx hb dX1_becomeFree_33 (by decide) ?_
  obtain ⟨X_8, eX_8⟩ : ∃ z : CS, z = upd X_7 9 (-6) := ⟨_, rfl⟩
  have hw := hw X_8 eX_8
  refine p_X1_39 (E1 := va_up E0 a X_8) hx hb hown hts hK hA hW hS hla (vuS _ _ _) dX1_becomeFree_35 (vuE eX_8) (fun H locs hW hS => ?_)
  exact w_vret hx hb hr hlocks hW hS ⟨X_8, rfl, hw⟩ dX1_becomeFree_38
set_option maxHeartbeats 4000000 in
set_option maxRecDepth 100000 in
theorem c_X1_renew {l : Launch} {g : GG} {lay : LY} {E0 : ES} {a : Nat} {L : CS} {K : CS → Prop} (hA : okL g lay) (hla : lay a = some finE) (hL : E0 a = L) (hw : wp_X1_renew L K) : JMv l g lay yX1_renew wsX1_renew rmX1_renew [.ref a] E0 (fun E1 => ∃ L1 : CS, E1 = va_up E0 a L1 ∧ K L1) := by
  refine Met.ofW (cc := cX1_renew) (maxL := 1) (ret := none) (by decide) rfl ?_
  intro p e s m args below meth c s₁ B hml hv
  obtain ⟨rfl, hK, hW⟩ := hv
  have hx := B.exec
  have hb := B.bytes
  have hr := B.returns
  have hts := gd_of (atoms_spec (ws := wsX1_renew) B.pre)
  have hown : s.vm.findClass RX1 = some m.cls := findClass_of_methodNamed B.named
  have hlocks := B.notSynchronized
  have hS : va_S (Ab g) s.heap s.heap [] := va_S.rf
  have hW : Wd g lay (va_up E0 a L) s.heap := by rw [← hL, vuSelf]; exact hW
  have hl := lv_entry [.ref a] (n := 1) (Nat.le_of_ble_eq_true rfl)
  rw [lg_entry_eq]
  generalize (lg_sl [.ref a] ++ List.replicate (1 - (lg_sl [.ref a]).length) Slot.unset).toArray = ls at hl ⊢
  have hl : lv_has ls 1 [(0, .ref a)] := hl
  unfold wp_X1_renew at hw
  refine lv_aload_n hx hb dX1_renew_0 rfl (lv_at hl 0 rfl) ?_
  refine w_cvv (As := []) (rest := []) hx hb hml hown hts hK hW hS hl.1 (c_X1_becomeFree hA hla (vuS _ _ _) hw) (k_X1_42 hts ⟨Nat.le_of_ble_eq_true rfl, Nat.le_of_ble_eq_true rfl⟩) (w_recv hK hW hla (vuS _ _ _) rfl rfl) rfl rfl (Nat.le_of_ble_eq_true rfl) dX1_renew_1 ⟨Nat.zero_le _, Nat.zero_le _⟩ (fun Ez H locs hw2 hW hS => ?_)
  obtain ⟨Y_1, ez, hw⟩ := hw2
  rw [ez] at hW
  have hW : Wd g lay (va_up E0 a Y_1) H := by rw [← vuU E0 a L Y_1]; exact hW
  refine lv_aload_n hx hb dX1_renew_4 rfl (lv_at hl 0 rfl) ?_
  refine lv_iconst (v := 0) hx hb dX1_renew_5 (by decide) ?_
  obtain ⟨X_3, eX_3⟩ : ∃ z : CS, z = upd Y_1 1 0 := ⟨_, rfl⟩
  have hw := hw X_3 eX_3
  refine p_X1_15 (E1 := va_up E0 a X_3) hx hb hown hts hK hA hW hS hla (vuS _ _ _) dX1_renew_6 (vuE eX_3) (fun H locs hW hS => ?_)
  exact w_vret hx hb hr hlocks hW hS ⟨X_3, rfl, hw⟩ dX1_renew_9
set_option maxHeartbeats 4000000 in
set_option maxRecDepth 100000 in
theorem c_X2_copyFrom {l : Launch} {g : GG} {lay : LY} {E0 : ES} {a b : Nat} {L M : CS} {K : CS → Prop} (hA : okL g lay) (hla : lay a = some lineE) (hlb : lay b = some lineE) (hL : E0 a = L) (hM : E0 b = M) (hne : a ≠ b) (hw : wp_X2_copyFrom L M K) : JMv l g lay yX2_copyFrom wsX2_copyFrom rmX2_copyFrom [.ref a, .ref b] E0 (fun E1 => ∃ L1 : CS, E1 = va_up E0 a L1 ∧ K L1) := by
  refine Met.ofW (cc := cX2_copyFrom) (maxL := 2) (ret := none) (by decide) rfl ?_
  intro p e s m args below meth c s₁ B hml hv
  obtain ⟨rfl, hK, hW⟩ := hv
  have hx := B.exec
  have hb := B.bytes
  have hr := B.returns
  have hts := gd_of (atoms_spec (ws := wsX2_copyFrom) B.pre)
  have hown : s.vm.findClass RX2 = some m.cls := findClass_of_methodNamed B.named
  have hlocks := B.notSynchronized
  have hS : va_S (Ab g) s.heap s.heap [] := va_S.rf
  have hW : Wd g lay (va_up E0 a L) s.heap := by rw [← hL, vuSelf]; exact hW
  have hl := lv_entry [.ref a, .ref b] (n := 2) (Nat.le_of_ble_eq_true rfl)
  rw [lg_entry_eq]
  generalize (lg_sl [.ref a, .ref b] ++ List.replicate (2 - (lg_sl [.ref a, .ref b]).length) Slot.unset).toArray = ls at hl ⊢
  have hl : lv_has ls 2 [(0, .ref a), (1, .ref b)] := hl
  unfold wp_X2_copyFrom at hw
  refine lv_aload_n hx hb dX2_copyFrom_0 rfl (lv_at hl 0 rfl) ?_
  refine lv_aload_n hx hb dX2_copyFrom_1 rfl (lv_at hl 1 rfl) ?_
  refine g_X2_9 hx hb hown hts hK hW hlb ((vuN (Ne.symm hne)).trans hM) dX2_copyFrom_2 ?_
  obtain ⟨X_1, eX_1⟩ : ∃ z : CS, z = upd L 0 (M 0) := ⟨_, rfl⟩
  have hw := hw X_1 eX_1
  refine p_X2_9 (E1 := va_up E0 a X_1) hx hb hown hts hK hA hW hS hla (vuS _ _ _) dX2_copyFrom_5 (vuE eX_1) (fun H locs hW hS => ?_)
  refine lv_aload_n hx hb dX2_copyFrom_8 rfl (lv_at hl 0 rfl) ?_
  refine lv_aload_n hx hb dX2_copyFrom_9 rfl (lv_at hl 1 rfl) ?_
  refine g_X2_15 hx hb hown hts hK hW hlb ((vuN (Ne.symm hne)).trans hM) dX2_copyFrom_10 ?_
  obtain ⟨hz, hw⟩ := hw
  obtain ⟨X_2, eX_2⟩ : ∃ z : CS, z = upd X_1 1 (M 1) := ⟨_, rfl⟩
  have hw := hw X_2 eX_2
  refine p_X2_15 (E1 := va_up E0 a X_2) hx hb hown hts hK hA hW hS hla (vuS _ _ _) hz dX2_copyFrom_13 (vuE eX_2) (fun H locs hW hS => ?_)
  refine lv_aload_n hx hb dX2_copyFrom_16 rfl (lv_at hl 0 rfl) ?_
  refine lv_aload_n hx hb dX2_copyFrom_17 rfl (lv_at hl 1 rfl) ?_
  refine g_X2_19 hx hb hown hts hK hW hlb ((vuN (Ne.symm hne)).trans hM) dX2_copyFrom_18 ?_
  obtain ⟨X_3, eX_3⟩ : ∃ z : CS, z = upd X_2 2 (M 2) := ⟨_, rfl⟩
  have hw := hw X_3 eX_3
  refine p_X2_19 (E1 := va_up E0 a X_3) hx hb hown hts hK hA hW hS hla (vuS _ _ _) dX2_copyFrom_21 (vuE eX_3) (fun H locs hW hS => ?_)
  refine lv_aload_n hx hb dX2_copyFrom_24 rfl (lv_at hl 0 rfl) ?_
  refine lv_aload_n hx hb dX2_copyFrom_25 rfl (lv_at hl 1 rfl) ?_
  refine g_X2_22 hx hb hown hts hK hW hlb ((vuN (Ne.symm hne)).trans hM) dX2_copyFrom_26 ?_
  obtain ⟨X_4, eX_4⟩ : ∃ z : CS, z = upd X_3 3 (M 3) := ⟨_, rfl⟩
  have hw := hw X_4 eX_4
  refine p_X2_22 (E1 := va_up E0 a X_4) hx hb hown hts hK hA hW hS hla (vuS _ _ _) dX2_copyFrom_29 (vuE eX_4) (fun H locs hW hS => ?_)
  refine lv_aload_n hx hb dX2_copyFrom_32 rfl (lv_at hl 0 rfl) ?_
  refine lv_aload_n hx hb dX2_copyFrom_33 rfl (lv_at hl 1 rfl) ?_
  refine g_X2_25 hx hb hown hts hK hW hlb ((vuN (Ne.symm hne)).trans hM) dX2_copyFrom_34 ?_
  obtain ⟨X_5, eX_5⟩ : ∃ z : CS, z = upd X_4 4 (M 4) := ⟨_, rfl⟩
  have hw := hw X_5 eX_5
  refine p_X2_25 (E1 := va_up E0 a X_5) hx hb hown hts hK hA hW hS hla (vuS _ _ _) dX2_copyFrom_37 (vuE eX_5) (fun H locs hW hS => ?_)
  refine lv_aload_n hx hb dX2_copyFrom_40 rfl (lv_at hl 0 rfl) ?_
  refine lv_aload_n hx hb dX2_copyFrom_41 rfl (lv_at hl 1 rfl) ?_
  refine g_X2_28 hx hb hown hts hK hW hlb ((vuN (Ne.symm hne)).trans hM) dX2_copyFrom_42 ?_
  obtain ⟨X_6, eX_6⟩ : ∃ z : CS, z = upd X_5 5 (M 5) := ⟨_, rfl⟩
  have hw := hw X_6 eX_6
  refine p_X2_28 (E1 := va_up E0 a X_6) hx hb hown hts hK hA hW hS hla (vuS _ _ _) dX2_copyFrom_45 (vuE eX_6) (fun H locs hW hS => ?_)
  refine lv_aload_n hx hb dX2_copyFrom_48 rfl (lv_at hl 0 rfl) ?_
  refine lv_aload_n hx hb dX2_copyFrom_49 rfl (lv_at hl 1 rfl) ?_
  refine g_X2_31 hx hb hown hts hK hW hlb ((vuN (Ne.symm hne)).trans hM) dX2_copyFrom_50 ?_
  obtain ⟨X_7, eX_7⟩ : ∃ z : CS, z = upd X_6 6 (M 6) := ⟨_, rfl⟩
  have hw := hw X_7 eX_7
  refine p_X2_31 (E1 := va_up E0 a X_7) hx hb hown hts hK hA hW hS hla (vuS _ _ _) dX2_copyFrom_53 (vuE eX_7) (fun H locs hW hS => ?_)
  refine lv_aload_n hx hb dX2_copyFrom_56 rfl (lv_at hl 0 rfl) ?_
  refine lv_aload_n hx hb dX2_copyFrom_57 rfl (lv_at hl 1 rfl) ?_
  refine g_X2_34 hx hb hown hts hK hW hlb ((vuN (Ne.symm hne)).trans hM) dX2_copyFrom_58 ?_
  obtain ⟨X_8, eX_8⟩ : ∃ z : CS, z = upd X_7 7 (M 7) := ⟨_, rfl⟩
  have hw := hw X_8 eX_8
  refine p_X2_34 (E1 := va_up E0 a X_8) hx hb hown hts hK hA hW hS hla (vuS _ _ _) dX2_copyFrom_61 (vuE eX_8) (fun H locs hW hS => ?_)
  refine lv_aload_n hx hb dX2_copyFrom_64 rfl (lv_at hl 0 rfl) ?_
  refine lv_aload_n hx hb dX2_copyFrom_65 rfl (lv_at hl 1 rfl) ?_
  refine g_X2_37 hx hb hown hts hK hW hlb ((vuN (Ne.symm hne)).trans hM) dX2_copyFrom_66 ?_
  obtain ⟨X_9, eX_9⟩ : ∃ z : CS, z = upd X_8 8 (M 8) := ⟨_, rfl⟩
  have hw := hw X_9 eX_9
  refine p_X2_37 (E1 := va_up E0 a X_9) hx hb hown hts hK hA hW hS hla (vuS _ _ _) dX2_copyFrom_69 (vuE eX_9) (fun H locs hW hS => ?_)
  exact w_vret hx hb hr hlocks hW hS ⟨X_9, rfl, hw⟩ dX2_copyFrom_72
set_option maxHeartbeats 4000000 in
set_option maxRecDepth 100000 in
theorem c_X1_copyFrom {l : Launch} {g : GG} {lay : LY} {E0 : ES} {a b : Nat} {L M : CS} {K : CS → Prop} (hA : okL g lay) (hla : lay a = some finE) (hlb : lay b = some finE) (hL : E0 a = L) (hM : E0 b = M) (hne : a ≠ b) (hw : wp_X1_copyFrom L M K) : JMv l g lay yX1_copyFrom wsX1_copyFrom rmX1_copyFrom [.ref a, .ref b] E0 (fun E1 => ∃ L1 : CS, E1 = va_up E0 a L1 ∧ K L1) := by
  refine Met.ofW (cc := cX1_copyFrom) (maxL := 2) (ret := none) (by decide) rfl ?_
  intro p e s m args below meth c s₁ B hml hv
  obtain ⟨rfl, hK, hW⟩ := hv
  have hx := B.exec
  have hb := B.bytes
  have hr := B.returns
  have hts := gd_of (atoms_spec (ws := wsX1_copyFrom) B.pre)
  have hown : s.vm.findClass RX1 = some m.cls := findClass_of_methodNamed B.named
  have hlocks := B.notSynchronized
  have hS : va_S (Ab g) s.heap s.heap [] := va_S.rf
  have hW : Wd g lay (va_up E0 a L) s.heap := by rw [← hL, vuSelf]; exact hW
  have hl := lv_entry [.ref a, .ref b] (n := 2) (Nat.le_of_ble_eq_true rfl)
  rw [lg_entry_eq]
  generalize (lg_sl [.ref a, .ref b] ++ List.replicate (2 - (lg_sl [.ref a, .ref b]).length) Slot.unset).toArray = ls at hl ⊢
  have hl : lv_has ls 2 [(0, .ref a), (1, .ref b)] := hl
  unfold wp_X1_copyFrom at hw
  refine lv_aload_n hx hb dX1_copyFrom_0 rfl (lv_at hl 0 rfl) ?_
  refine lv_aload_n hx hb dX1_copyFrom_1 rfl (lv_at hl 1 rfl) ?_
  refine g_X1_9 hx hb hown hts hK hW hlb ((vuN (Ne.symm hne)).trans hM) dX1_copyFrom_2 ?_
  obtain ⟨X_1, eX_1⟩ : ∃ z : CS, z = upd L 0 (M 0) := ⟨_, rfl⟩
  have hw := hw X_1 eX_1
  refine p_X1_9 (E1 := va_up E0 a X_1) hx hb hown hts hK hA hW hS hla (vuS _ _ _) dX1_copyFrom_5 (vuE eX_1) (fun H locs hW hS => ?_)
  refine lv_aload_n hx hb dX1_copyFrom_8 rfl (lv_at hl 0 rfl) ?_
  refine lv_aload_n hx hb dX1_copyFrom_9 rfl (lv_at hl 1 rfl) ?_
  refine g_X1_15 hx hb hown hts hK hW hlb ((vuN (Ne.symm hne)).trans hM) dX1_copyFrom_10 ?_
  obtain ⟨X_2, eX_2⟩ : ∃ z : CS, z = upd X_1 1 (M 1) := ⟨_, rfl⟩
  have hw := hw X_2 eX_2
  refine p_X1_15 (E1 := va_up E0 a X_2) hx hb hown hts hK hA hW hS hla (vuS _ _ _) dX1_copyFrom_13 (vuE eX_2) (fun H locs hW hS => ?_)
  refine lv_aload_n hx hb dX1_copyFrom_16 rfl (lv_at hl 0 rfl) ?_
  refine lv_aload_n hx hb dX1_copyFrom_17 rfl (lv_at hl 1 rfl) ?_
  refine g_X1_18 hx hb hown hts hK hW hlb ((vuN (Ne.symm hne)).trans hM) dX1_copyFrom_18 ?_
  obtain ⟨X_3, eX_3⟩ : ∃ z : CS, z = upd X_2 2 (M 2) := ⟨_, rfl⟩
  have hw := hw X_3 eX_3
  refine p_X1_18 (E1 := va_up E0 a X_3) hx hb hown hts hK hA hW hS hla (vuS _ _ _) dX1_copyFrom_21 (vuE eX_3) (fun H locs hW hS => ?_)
  refine lv_aload_n hx hb dX1_copyFrom_24 rfl (lv_at hl 0 rfl) ?_
  refine lv_aload_n hx hb dX1_copyFrom_25 rfl (lv_at hl 1 rfl) ?_
  refine g_X1_21 hx hb hown hts hK hW hlb ((vuN (Ne.symm hne)).trans hM) dX1_copyFrom_26 ?_
  obtain ⟨X_4, eX_4⟩ : ∃ z : CS, z = upd X_3 3 (M 3) := ⟨_, rfl⟩
  have hw := hw X_4 eX_4
  refine p_X1_21 (E1 := va_up E0 a X_4) hx hb hown hts hK hA hW hS hla (vuS _ _ _) dX1_copyFrom_29 (vuE eX_4) (fun H locs hW hS => ?_)
  refine lv_aload_n hx hb dX1_copyFrom_32 rfl (lv_at hl 0 rfl) ?_
  refine lv_aload_n hx hb dX1_copyFrom_33 rfl (lv_at hl 1 rfl) ?_
  refine g_X1_24 hx hb hown hts hK hW hlb ((vuN (Ne.symm hne)).trans hM) dX1_copyFrom_34 ?_
  obtain ⟨X_5, eX_5⟩ : ∃ z : CS, z = upd X_4 4 (M 4) := ⟨_, rfl⟩
  have hw := hw X_5 eX_5
  refine p_X1_24 (E1 := va_up E0 a X_5) hx hb hown hts hK hA hW hS hla (vuS _ _ _) dX1_copyFrom_37 (vuE eX_5) (fun H locs hW hS => ?_)
  refine lv_aload_n hx hb dX1_copyFrom_40 rfl (lv_at hl 0 rfl) ?_
  refine lv_aload_n hx hb dX1_copyFrom_41 rfl (lv_at hl 1 rfl) ?_
  refine g_X1_27 hx hb hown hts hK hW hlb ((vuN (Ne.symm hne)).trans hM) dX1_copyFrom_42 ?_
  obtain ⟨X_6, eX_6⟩ : ∃ z : CS, z = upd X_5 5 (M 5) := ⟨_, rfl⟩
  have hw := hw X_6 eX_6
  refine p_X1_27 (E1 := va_up E0 a X_6) hx hb hown hts hK hA hW hS hla (vuS _ _ _) dX1_copyFrom_45 (vuE eX_6) (fun H locs hW hS => ?_)
  refine lv_aload_n hx hb dX1_copyFrom_48 rfl (lv_at hl 0 rfl) ?_
  refine lv_aload_n hx hb dX1_copyFrom_49 rfl (lv_at hl 1 rfl) ?_
  refine g_X1_30 hx hb hown hts hK hW hlb ((vuN (Ne.symm hne)).trans hM) dX1_copyFrom_50 ?_
  obtain ⟨X_7, eX_7⟩ : ∃ z : CS, z = upd X_6 6 (M 6) := ⟨_, rfl⟩
  have hw := hw X_7 eX_7
  refine p_X1_30 (E1 := va_up E0 a X_7) hx hb hown hts hK hA hW hS hla (vuS _ _ _) dX1_copyFrom_53 (vuE eX_7) (fun H locs hW hS => ?_)
  refine lv_aload_n hx hb dX1_copyFrom_56 rfl (lv_at hl 0 rfl) ?_
  refine lv_aload_n hx hb dX1_copyFrom_57 rfl (lv_at hl 1 rfl) ?_
  refine g_X1_33 hx hb hown hts hK hW hlb ((vuN (Ne.symm hne)).trans hM) dX1_copyFrom_58 ?_
  obtain ⟨X_8, eX_8⟩ : ∃ z : CS, z = upd X_7 7 (M 7) := ⟨_, rfl⟩
  have hw := hw X_8 eX_8
  refine p_X1_33 (E1 := va_up E0 a X_8) hx hb hown hts hK hA hW hS hla (vuS _ _ _) dX1_copyFrom_61 (vuE eX_8) (fun H locs hW hS => ?_)
  refine lv_aload_n hx hb dX1_copyFrom_64 rfl (lv_at hl 0 rfl) ?_
  refine lv_aload_n hx hb dX1_copyFrom_65 rfl (lv_at hl 1 rfl) ?_
  refine g_X1_36 hx hb hown hts hK hW hlb ((vuN (Ne.symm hne)).trans hM) dX1_copyFrom_66 ?_
  obtain ⟨X_9, eX_9⟩ : ∃ z : CS, z = upd X_8 8 (M 8) := ⟨_, rfl⟩
  have hw := hw X_9 eX_9
  refine p_X1_36 (E1 := va_up E0 a X_9) hx hb hown hts hK hA hW hS hla (vuS _ _ _) dX1_copyFrom_69 (vuE eX_9) (fun H locs hW hS => ?_)
  refine lv_aload_n hx hb dX1_copyFrom_72 rfl (lv_at hl 0 rfl) ?_
  refine lv_aload_n hx hb dX1_copyFrom_73 rfl (lv_at hl 1 rfl) ?_
  refine g_X1_39 hx hb hown hts hK hW hlb ((vuN (Ne.symm hne)).trans hM) dX1_copyFrom_74 ?_
  obtain ⟨X_10, eX_10⟩ : ∃ z : CS, z = upd X_9 9 (M 9) := ⟨_, rfl⟩
  have hw := hw X_10 eX_10
  refine p_X1_39 (E1 := va_up E0 a X_10) hx hb hown hts hK hA hW hS hla (vuS _ _ _) dX1_copyFrom_77 (vuE eX_10) (fun H locs hW hS => ?_)
  exact w_vret hx hb hr hlocks hW hS ⟨X_10, rfl, hw⟩ dX1_copyFrom_80
set_option maxHeartbeats 4000000 in
set_option maxRecDepth 100000 in
theorem c_X2_isCalledByAnother {l : Launch} {g : GG} {lay : LY} {E0 : ES} {a : Nat} {L : CS} {K : Int32 → Prop} (hA : okL g lay) (hla : lay a = some lineE) (hL : E0 a = L) (hw : wp_X2_isCalledByAnother L K) : JMi l g lay yX2_isCalledByAnother wsX2_isCalledByAnother rmX2_isCalledByAnother [.ref a] E0 (fun r E1 => E1 = E0 ∧ (r = 0 ∨ r = 1) ∧ K r) := by
  refine Met.ofW (cc := cX2_isCalledByAnother) (maxL := 1) (ret := (some .boolean)) (by decide) rfl ?_
  intro p e s m args below meth c s₁ B hml hv
  obtain ⟨rfl, hK, hW⟩ := hv
  have hx := B.exec
  have hb := B.bytes
  have hr := B.returns
  have hts := gd_of (atoms_spec (ws := wsX2_isCalledByAnother) B.pre)
  have hown : s.vm.findClass RX2 = some m.cls := findClass_of_methodNamed B.named
  have hlocks := B.notSynchronized
  have hS : va_S (Ab g) s.heap s.heap [] := va_S.rf
  have hl := lv_entry [.ref a] (n := 1) (Nat.le_of_ble_eq_true rfl)
  rw [lg_entry_eq]
  generalize (lg_sl [.ref a] ++ List.replicate (1 - (lg_sl [.ref a]).length) Slot.unset).toArray = ls at hl ⊢
  have hl : lv_has ls 1 [(0, .ref a)] := hl
  unfold wp_X2_isCalledByAnother at hw
  refine lv_aload_n hx hb dX2_isCalledByAnother_0 rfl (lv_at hl 0 rfl) ?_
  refine g_X2_9 hx hb hown hts hK hW hla hL dX2_isCalledByAnother_1 ?_
  refine lv_iconst (v := 5) hx hb dX2_isCalledByAnother_4 (by decide) ?_
  refine lv_icmp_eq (tgt := 17) hx hb dX2_isCalledByAnother_5 (by decide) (fun c_1 => ?_) (fun c_1 => ?_)
  · have hw := hw.1 c_1
    refine lv_iconst (v := 1) hx hb dX2_isCalledByAnother_17 (by decide) ?_
    refine lv_goto (tgt := 22) hx hb dX2_isCalledByAnother_18 (by decide) ?_
    exact w_zret hx hb hr hlocks hW hS (Or.inr rfl) ⟨rfl, (Or.inr rfl), hw⟩ dX2_isCalledByAnother_22
  · have hw := hw.2 c_1
    refine lv_aload_n hx hb dX2_isCalledByAnother_8 rfl (lv_at hl 0 rfl) ?_
    refine g_X2_9 hx hb hown hts hK hW hla hL dX2_isCalledByAnother_9 ?_
    refine lv_bipush (v := 7) hx hb dX2_isCalledByAnother_12 (by decide) ?_
    refine lv_icmp_ne (tgt := 21) hx hb dX2_isCalledByAnother_14 (by decide) (fun c_2 => ?_) (fun c_2 => ?_)
    · have hw := hw.2 c_2
      refine lv_iconst (v := 0) hx hb dX2_isCalledByAnother_21 (by decide) ?_
      exact w_zret hx hb hr hlocks hW hS (Or.inl rfl) ⟨rfl, (Or.inl rfl), hw⟩ dX2_isCalledByAnother_22
    · have hw := hw.1 c_2
      refine lv_iconst (v := 1) hx hb dX2_isCalledByAnother_17 (by decide) ?_
      refine lv_goto (tgt := 22) hx hb dX2_isCalledByAnother_18 (by decide) ?_
      exact w_zret hx hb hr hlocks hW hS (Or.inr rfl) ⟨rfl, (Or.inr rfl), hw⟩ dX2_isCalledByAnother_22
set_option maxHeartbeats 4000000 in
set_option maxRecDepth 100000 in
theorem c_X2_appendDigit {l : Launch} {g : GG} {lay : LY} {E0 : ES} {a : Nat} {L : CS} {p1 : Int32} {K : CS → Prop} (hA : okL g lay) (hla : lay a = some lineE) (hL : E0 a = L) (hw : wp_X2_appendDigit L p1 K) : JMv l g lay yX2_appendDigit wsX2_appendDigit rmX2_appendDigit [.ref a, .int p1] E0 (fun E1 => ∃ L1 : CS, E1 = va_up E0 a L1 ∧ K L1) := by
  refine Met.ofW (cc := cX2_appendDigit) (maxL := 2) (ret := none) (by decide) rfl ?_
  intro p e s m args below meth c s₁ B hml hv
  obtain ⟨rfl, hK, hW⟩ := hv
  have hx := B.exec
  have hb := B.bytes
  have hr := B.returns
  have hts := gd_of (atoms_spec (ws := wsX2_appendDigit) B.pre)
  have hown : s.vm.findClass RX2 = some m.cls := findClass_of_methodNamed B.named
  have hlocks := B.notSynchronized
  have hS : va_S (Ab g) s.heap s.heap [] := va_S.rf
  have hW : Wd g lay (va_up E0 a L) s.heap := by rw [← hL, vuSelf]; exact hW
  have hl := lv_entry [.ref a, .int p1] (n := 2) (Nat.le_of_ble_eq_true rfl)
  rw [lg_entry_eq]
  generalize (lg_sl [.ref a, .int p1] ++ List.replicate (2 - (lg_sl [.ref a, .int p1]).length) Slot.unset).toArray = ls at hl ⊢
  have hl : lv_has ls 2 [(0, .ref a), (1, .int p1)] := hl
  unfold wp_X2_appendDigit at hw
  refine lv_aload_n hx hb dX2_appendDigit_0 rfl (lv_at hl 0 rfl) ?_
  refine lv_dup hx hb dX2_appendDigit_1 rfl ?_
  refine g_X2_25 hx hb hown hts hK hW hla (vuS _ _ _) dX2_appendDigit_2 ?_
  refine lv_iload_n hx hb dX2_appendDigit_5 rfl (lv_at hl 1 rfl) ?_
  refine lv_iconst (v := 4) hx hb dX2_appendDigit_6 (by decide) ?_
  refine lv_aload_n hx hb dX2_appendDigit_7 rfl (lv_at hl 0 rfl) ?_
  refine g_X2_28 hx hb hown hts hK hW hla (vuS _ _ _) dX2_appendDigit_8 ?_
  refine lv_imul hx hb dX2_appendDigit_11 ?_
  refine lv_ishl hx hb dX2_appendDigit_12 ?_
  refine lv_ior hx hb dX2_appendDigit_13 ?_
  obtain ⟨X_1, eX_1⟩ : ∃ z : CS, z = upd L 4 ((L 4) ||| (p1 <<< (4 * (L 5) &&& 31))) := ⟨_, rfl⟩
  have hw := hw X_1 eX_1
  refine p_X2_25 (E1 := va_up E0 a X_1) hx hb hown hts hK hA hW hS hla (vuS _ _ _) dX2_appendDigit_14 (vuE eX_1) (fun H locs hW hS => ?_)
  refine lv_aload_n hx hb dX2_appendDigit_17 rfl (lv_at hl 0 rfl) ?_
  refine lv_dup hx hb dX2_appendDigit_18 rfl ?_
  refine g_X2_28 hx hb hown hts hK hW hla (vuS _ _ _) dX2_appendDigit_19 ?_
  refine lv_iconst (v := 1) hx hb dX2_appendDigit_22 (by decide) ?_
  refine lv_iadd hx hb dX2_appendDigit_23 ?_
  obtain ⟨X_2, eX_2⟩ : ∃ z : CS, z = upd X_1 5 ((X_1 5) + 1) := ⟨_, rfl⟩
  have hw := hw X_2 eX_2
  refine p_X2_28 (E1 := va_up E0 a X_2) hx hb hown hts hK hA hW hS hla (vuS _ _ _) dX2_appendDigit_24 (vuE eX_2) (fun H locs hW hS => ?_)
  exact w_vret hx hb hr hlocks hW hS ⟨X_2, rfl, hw⟩ dX2_appendDigit_27
set_option maxHeartbeats 4000000 in
set_option maxRecDepth 100000 in
theorem c_X2_takePulses {l : Launch} {g : GG} {lay : LY} {E0 : ES} {a : Nat} {L : CS} {K : Int32 → CS → Prop} (hA : okL g lay) (hla : lay a = some lineE) (hL : E0 a = L) (hw : wp_X2_takePulses L K) : JMi l g lay yX2_takePulses wsX2_takePulses rmX2_takePulses [.ref a] E0 (fun r E1 => ∃ L1 : CS, E1 = va_up E0 a L1 ∧ K r L1) := by
  refine Met.ofW (cc := cX2_takePulses) (maxL := 2) (ret := (some .int)) (by decide) rfl ?_
  intro p e s m args below meth c s₁ B hml hv
  obtain ⟨rfl, hK, hW⟩ := hv
  have hx := B.exec
  have hb := B.bytes
  have hr := B.returns
  have hts := gd_of (atoms_spec (ws := wsX2_takePulses) B.pre)
  have hown : s.vm.findClass RX2 = some m.cls := findClass_of_methodNamed B.named
  have hlocks := B.notSynchronized
  have hS : va_S (Ab g) s.heap s.heap [] := va_S.rf
  have hW : Wd g lay (va_up E0 a L) s.heap := by rw [← hL, vuSelf]; exact hW
  have hl := lv_entry [.ref a] (n := 2) (Nat.le_of_ble_eq_true rfl)
  rw [lg_entry_eq]
  generalize (lg_sl [.ref a] ++ List.replicate (2 - (lg_sl [.ref a]).length) Slot.unset).toArray = ls at hl ⊢
  have hl : lv_has ls 2 [(0, .ref a)] := hl
  unfold wp_X2_takePulses at hw
  refine lv_aload_n hx hb dX2_takePulses_0 rfl (lv_at hl 0 rfl) ?_
  refine g_X2_25 hx hb hown hts hK hW hla (vuS _ _ _) dX2_takePulses_1 ?_
  refine lv_bipush (v := 15) hx hb dX2_takePulses_4 (by decide) ?_
  refine lv_iand hx hb dX2_takePulses_6 ?_
  refine lv_topi (fun v_1 ev_1 => ?_)
  have hw := hw v_1 ev_1
  refine lv_istore_n (lv' := [(1, .int v_1), (0, .ref a)]) hx hb dX2_takePulses_7 rfl hl (by decide) rfl (fun ls hl => ?_)
  refine lv_aload_n hx hb dX2_takePulses_8 rfl (lv_at hl 1 rfl) ?_
  refine lv_dup hx hb dX2_takePulses_9 rfl ?_
  refine g_X2_25 hx hb hown hts hK hW hla (vuS _ _ _) dX2_takePulses_10 ?_
  refine lv_iconst (v := 4) hx hb dX2_takePulses_13 (by decide) ?_
  refine lv_iushr hx hb dX2_takePulses_14 rfl ?_
  obtain ⟨X_2, eX_2⟩ : ∃ z : CS, z = upd L 4 (((L 4).toUInt32 >>> ((4 : Int32).toUInt32 &&& Int32.toUInt32 31)).toInt32) := ⟨_, rfl⟩
  have hw := hw X_2 eX_2
  refine p_X2_25 (E1 := va_up E0 a X_2) hx hb hown hts hK hA hW hS hla (vuS _ _ _) dX2_takePulses_15 (vuE eX_2) (fun H locs hW hS => ?_)
  refine lv_aload_n hx hb dX2_takePulses_18 rfl (lv_at hl 1 rfl) ?_
  refine lv_dup hx hb dX2_takePulses_19 rfl ?_
  refine g_X2_28 hx hb hown hts hK hW hla (vuS _ _ _) dX2_takePulses_20 ?_
  refine lv_iconst (v := 1) hx hb dX2_takePulses_23 (by decide) ?_
  refine lv_isub hx hb dX2_takePulses_24 ?_
  obtain ⟨X_3, eX_3⟩ : ∃ z : CS, z = upd X_2 5 ((X_2 5) - 1) := ⟨_, rfl⟩
  have hw := hw X_3 eX_3
  refine p_X2_28 (E1 := va_up E0 a X_3) hx hb hown hts hK hA hW hS hla (vuS _ _ _) dX2_takePulses_25 (vuE eX_3) (fun H locs hW hS => ?_)
  refine lv_iload_n hx hb dX2_takePulses_28 rfl (lv_at hl 0 rfl) ?_
  refine lv_if_ne (tgt := 37) hx hb dX2_takePulses_29 (by decide) (fun c_4 => ?_) (fun c_4 => ?_)
  · have hw := hw.2 c_4
    refine lv_iload_n hx hb dX2_takePulses_37 rfl (lv_at hl 0 rfl) ?_
    exact w_iret hx hb hr hlocks hW hS ⟨X_3, rfl, hw⟩ dX2_takePulses_38
  · have hw := hw.1 c_4
    refine lv_bipush (v := 10) hx hb dX2_takePulses_32 (by decide) ?_
    refine lv_goto (tgt := 38) hx hb dX2_takePulses_34 (by decide) ?_
    exact w_iret hx hb hr hlocks hW hS ⟨X_3, rfl, hw⟩ dX2_takePulses_38
set_option maxHeartbeats 4000000 in
set_option maxRecDepth 100000 in
theorem c_X1_holdsConnector {l : Launch} {g : GG} {lay : LY} {E0 : ES} {a : Nat} {L : CS} {K : Int32 → Prop} (hA : okL g lay) (hla : lay a = some finE) (hL : E0 a = L) (hw : wp_X1_holdsConnector L K) : JMi l g lay yX1_holdsConnector wsX1_holdsConnector rmX1_holdsConnector [.ref a] E0 (fun r E1 => E1 = E0 ∧ (r = 0 ∨ r = 1) ∧ K r) := by
  refine Met.ofW (cc := cX1_holdsConnector) (maxL := 1) (ret := (some .boolean)) (by decide) rfl ?_
  intro p e s m args below meth c s₁ B hml hv
  obtain ⟨rfl, hK, hW⟩ := hv
  have hx := B.exec
  have hb := B.bytes
  have hr := B.returns
  have hts := gd_of (atoms_spec (ws := wsX1_holdsConnector) B.pre)
  have hown : s.vm.findClass RX1 = some m.cls := findClass_of_methodNamed B.named
  have hlocks := B.notSynchronized
  have hS : va_S (Ab g) s.heap s.heap [] := va_S.rf
  have hl := lv_entry [.ref a] (n := 1) (Nat.le_of_ble_eq_true rfl)
  rw [lg_entry_eq]
  generalize (lg_sl [.ref a] ++ List.replicate (1 - (lg_sl [.ref a]).length) Slot.unset).toArray = ls at hl ⊢
  have hl : lv_has ls 1 [(0, .ref a)] := hl
  unfold wp_X1_holdsConnector at hw
  refine lv_aload_n hx hb dX1_holdsConnector_0 rfl (lv_at hl 0 rfl) ?_
  refine g_X1_9 hx hb hown hts hK hW hla hL dX1_holdsConnector_1 ?_
  refine lv_iconst (v := 5) hx hb dX1_holdsConnector_4 (by decide) ?_
  refine lv_icmp_eq (tgt := 35) hx hb dX1_holdsConnector_5 (by decide) (fun c_1 => ?_) (fun c_1 => ?_)
  · have hw := hw.1 c_1
    refine lv_iconst (v := 1) hx hb dX1_holdsConnector_35 (by decide) ?_
    refine lv_goto (tgt := 40) hx hb dX1_holdsConnector_36 (by decide) ?_
    exact w_zret hx hb hr hlocks hW hS (Or.inr rfl) ⟨rfl, (Or.inr rfl), hw⟩ dX1_holdsConnector_40
  · have hw := hw.2 c_1
    refine lv_aload_n hx hb dX1_holdsConnector_8 rfl (lv_at hl 0 rfl) ?_
    refine g_X1_9 hx hb hown hts hK hW hla hL dX1_holdsConnector_9 ?_
    refine lv_bipush (v := 6) hx hb dX1_holdsConnector_12 (by decide) ?_
    refine lv_icmp_eq (tgt := 35) hx hb dX1_holdsConnector_14 (by decide) (fun c_2 => ?_) (fun c_2 => ?_)
    · have hw := hw.1 c_2
      refine lv_iconst (v := 1) hx hb dX1_holdsConnector_35 (by decide) ?_
      refine lv_goto (tgt := 40) hx hb dX1_holdsConnector_36 (by decide) ?_
      exact w_zret hx hb hr hlocks hW hS (Or.inr rfl) ⟨rfl, (Or.inr rfl), hw⟩ dX1_holdsConnector_40
    · have hw := hw.2 c_2
      refine lv_aload_n hx hb dX1_holdsConnector_17 rfl (lv_at hl 0 rfl) ?_
      refine g_X1_9 hx hb hown hts hK hW hla hL dX1_holdsConnector_18 ?_
      refine lv_bipush (v := 7) hx hb dX1_holdsConnector_21 (by decide) ?_
      refine lv_icmp_eq (tgt := 35) hx hb dX1_holdsConnector_23 (by decide) (fun c_3 => ?_) (fun c_3 => ?_)
      · have hw := hw.1 c_3
        refine lv_iconst (v := 1) hx hb dX1_holdsConnector_35 (by decide) ?_
        refine lv_goto (tgt := 40) hx hb dX1_holdsConnector_36 (by decide) ?_
        exact w_zret hx hb hr hlocks hW hS (Or.inr rfl) ⟨rfl, (Or.inr rfl), hw⟩ dX1_holdsConnector_40
      · have hw := hw.2 c_3
        refine lv_aload_n hx hb dX1_holdsConnector_26 rfl (lv_at hl 0 rfl) ?_
        refine g_X1_9 hx hb hown hts hK hW hla hL dX1_holdsConnector_27 ?_
        refine lv_bipush (v := 8) hx hb dX1_holdsConnector_30 (by decide) ?_
        refine lv_icmp_ne (tgt := 39) hx hb dX1_holdsConnector_32 (by decide) (fun c_4 => ?_) (fun c_4 => ?_)
        · have hw := hw.2 c_4
          refine lv_iconst (v := 0) hx hb dX1_holdsConnector_39 (by decide) ?_
          exact w_zret hx hb hr hlocks hW hS (Or.inl rfl) ⟨rfl, (Or.inl rfl), hw⟩ dX1_holdsConnector_40
        · have hw := hw.1 c_4
          refine lv_iconst (v := 1) hx hb dX1_holdsConnector_35 (by decide) ?_
          refine lv_goto (tgt := 40) hx hb dX1_holdsConnector_36 (by decide) ?_
          exact w_zret hx hb hr hlocks hW hS (Or.inr rfl) ⟨rfl, (Or.inr rfl), hw⟩ dX1_holdsConnector_40
set_option maxHeartbeats 4000000 in
set_option maxRecDepth 100000 in
theorem c_X2_waitsUnsought {l : Launch} {g : GG} {lay : LY} {E0 : ES} {a : Nat} {L : CS} {K : Int32 → Prop} (hA : okL g lay) (hla : lay a = some lineE) (hL : E0 a = L) (hw : wp_X2_waitsUnsought L K) : JMi l g lay yX2_waitsUnsought wsX2_waitsUnsought rmX2_waitsUnsought [.ref a] E0 (fun r E1 => E1 = E0 ∧ (r = 0 ∨ r = 1) ∧ K r) := by
  refine Met.ofW (cc := cX2_waitsUnsought) (maxL := 1) (ret := (some .boolean)) (by decide) rfl ?_
  intro p e s m args below meth c s₁ B hml hv
  obtain ⟨rfl, hK, hW⟩ := hv
  have hx := B.exec
  have hb := B.bytes
  have hr := B.returns
  have hts := gd_of (atoms_spec (ws := wsX2_waitsUnsought) B.pre)
  have hown : s.vm.findClass RX2 = some m.cls := findClass_of_methodNamed B.named
  have hlocks := B.notSynchronized
  have hS : va_S (Ab g) s.heap s.heap [] := va_S.rf
  have hl := lv_entry [.ref a] (n := 1) (Nat.le_of_ble_eq_true rfl)
  rw [lg_entry_eq]
  generalize (lg_sl [.ref a] ++ List.replicate (1 - (lg_sl [.ref a]).length) Slot.unset).toArray = ls at hl ⊢
  have hl : lv_has ls 1 [(0, .ref a)] := hl
  unfold wp_X2_waitsUnsought at hw
  refine lv_aload_n hx hb dX2_waitsUnsought_0 rfl (lv_at hl 0 rfl) ?_
  refine g_X2_9 hx hb hown hts hK hW hla hL dX2_waitsUnsought_1 ?_
  refine lv_iconst (v := 1) hx hb dX2_waitsUnsought_4 (by decide) ?_
  refine lv_icmp_ne (tgt := 21) hx hb dX2_waitsUnsought_5 (by decide) (fun c_1 => ?_) (fun c_1 => ?_)
  · have hw := hw.2 c_1
    refine lv_iconst (v := 0) hx hb dX2_waitsUnsought_21 (by decide) ?_
    exact w_zret hx hb hr hlocks hW hS (Or.inl rfl) ⟨rfl, (Or.inl rfl), hw⟩ dX2_waitsUnsought_22
  · have hw := hw.1 c_1
    refine lv_aload_n hx hb dX2_waitsUnsought_8 rfl (lv_at hl 0 rfl) ?_
    refine g_X2_31 hx hb hown hts hK hW hla hL dX2_waitsUnsought_9 ?_
    refine lv_bipush (v := (-6)) hx hb dX2_waitsUnsought_12 (by decide) ?_
    refine lv_icmp_ne (tgt := 21) hx hb dX2_waitsUnsought_14 (by decide) (fun c_2 => ?_) (fun c_2 => ?_)
    · have hw := hw.2 c_2
      refine lv_iconst (v := 0) hx hb dX2_waitsUnsought_21 (by decide) ?_
      exact w_zret hx hb hr hlocks hW hS (Or.inl rfl) ⟨rfl, (Or.inl rfl), hw⟩ dX2_waitsUnsought_22
    · have hw := hw.1 c_2
      refine lv_iconst (v := 1) hx hb dX2_waitsUnsought_17 (by decide) ?_
      refine lv_goto (tgt := 22) hx hb dX2_waitsUnsought_18 (by decide) ?_
      exact w_zret hx hb hr hlocks hW hS (Or.inr rfl) ⟨rfl, (Or.inr rfl), hw⟩ dX2_waitsUnsought_22
set_option maxHeartbeats 4000000 in
set_option maxRecDepth 100000 in
theorem c_X2_waitParked {l : Launch} {g : GG} {lay : LY} {E0 : ES} {a : Nat} {L : CS} {p1 : Int32} {K : CS → Prop} (hA : okL g lay) (hla : lay a = some lineE) (hL : E0 a = L) (hw : wp_X2_waitParked L p1 K) : JMv l g lay yX2_waitParked wsX2_waitParked rmX2_waitParked [.ref a, .int p1] E0 (fun E1 => ∃ L1 : CS, E1 = va_up E0 a L1 ∧ K L1) := by
  refine Met.ofW (cc := cX2_waitParked) (maxL := 2) (ret := none) (by decide) rfl ?_
  intro p e s m args below meth c s₁ B hml hv
  obtain ⟨rfl, hK, hW⟩ := hv
  have hx := B.exec
  have hb := B.bytes
  have hr := B.returns
  have hts := gd_of (atoms_spec (ws := wsX2_waitParked) B.pre)
  have hown : s.vm.findClass RX2 = some m.cls := findClass_of_methodNamed B.named
  have hlocks := B.notSynchronized
  have hS : va_S (Ab g) s.heap s.heap [] := va_S.rf
  have hW : Wd g lay (va_up E0 a L) s.heap := by rw [← hL, vuSelf]; exact hW
  have hl := lv_entry [.ref a, .int p1] (n := 2) (Nat.le_of_ble_eq_true rfl)
  rw [lg_entry_eq]
  generalize (lg_sl [.ref a, .int p1] ++ List.replicate (2 - (lg_sl [.ref a, .int p1]).length) Slot.unset).toArray = ls at hl ⊢
  have hl : lv_has ls 2 [(0, .ref a), (1, .int p1)] := hl
  unfold wp_X2_waitParked at hw
  refine lv_aload_n hx hb dX2_waitParked_0 rfl (lv_at hl 0 rfl) ?_
  refine g_X2_9 hx hb hown hts hK hW hla (vuS _ _ _) dX2_waitParked_1 ?_
  refine lv_bipush (v := 10) hx hb dX2_waitParked_4 (by decide) ?_
  refine lv_icmp_eq (tgt := 10) hx hb dX2_waitParked_6 (by decide) (fun c_1 => ?_) (fun c_1 => ?_)
  · have hw := hw.1 c_1
    refine lv_aload_n hx hb dX2_waitParked_10 rfl (lv_at hl 0 rfl) ?_
    refine lv_dup hx hb dX2_waitParked_11 rfl ?_
    refine g_X2_37 hx hb hown hts hK hW hla (vuS _ _ _) dX2_waitParked_12 ?_
    refine lv_iconst (v := 1) hx hb dX2_waitParked_15 (by decide) ?_
    refine lv_iadd hx hb dX2_waitParked_16 ?_
    obtain ⟨X_2, eX_2⟩ : ∃ z : CS, z = upd L 8 ((L 8) + 1) := ⟨_, rfl⟩
    have hw := hw X_2 eX_2
    refine p_X2_37 (E1 := va_up E0 a X_2) hx hb hown hts hK hA hW hS hla (vuS _ _ _) dX2_waitParked_17 (vuE eX_2) (fun H locs hW hS => ?_)
    refine lv_aload_n hx hb dX2_waitParked_20 rfl (lv_at hl 0 rfl) ?_
    refine g_X2_37 hx hb hown hts hK hW hla (vuS _ _ _) dX2_waitParked_21 ?_
    refine lv_iload_n hx hb dX2_waitParked_24 rfl (lv_at hl 1 rfl) ?_
    refine lv_icmp_lt (tgt := 39) hx hb dX2_waitParked_25 (by decide) (fun c_3 => ?_) (fun c_3 => ?_)
    · have hw := hw.1 c_3
      exact w_vret hx hb hr hlocks hW hS ⟨X_2, rfl, hw⟩ dX2_waitParked_39
    · have hw := hw.2 c_3
      refine lv_aload_n hx hb dX2_waitParked_28 rfl (lv_at hl 0 rfl) ?_
      refine lv_bipush (v := 11) hx hb dX2_waitParked_29 (by decide) ?_
      obtain ⟨X_4, eX_4⟩ : ∃ z : CS, z = upd X_2 0 11 := ⟨_, rfl⟩
      have hw := hw X_4 eX_4
      refine p_X2_9 (E1 := va_up E0 a X_4) hx hb hown hts hK hA hW hS hla (vuS _ _ _) dX2_waitParked_31 (vuE eX_4) (fun H locs hW hS => ?_)
      refine lv_aload_n hx hb dX2_waitParked_34 rfl (lv_at hl 0 rfl) ?_
      refine lv_iconst (v := 0) hx hb dX2_waitParked_35 (by decide) ?_
      obtain ⟨X_5, eX_5⟩ : ∃ z : CS, z = upd X_4 8 0 := ⟨_, rfl⟩
      have hw := hw X_5 eX_5
      refine p_X2_37 (E1 := va_up E0 a X_5) hx hb hown hts hK hA hW hS hla (vuS _ _ _) dX2_waitParked_36 (vuE eX_5) (fun H locs hW hS => ?_)
      exact w_vret hx hb hr hlocks hW hS ⟨X_5, rfl, hw⟩ dX2_waitParked_39
  · have hw := hw.2 c_1
    exact w_vret hx hb hr hlocks hW hS ⟨L, rfl, hw⟩ dX2_waitParked_9
set_option maxHeartbeats 4000000 in
set_option maxRecDepth 100000 in
theorem c_X2_callsAnother {l : Launch} {g : GG} {lay : LY} {E0 : ES} {a : Nat} {L : CS} {K : Int32 → Prop} (hA : okL g lay) (hla : lay a = some lineE) (hL : E0 a = L) (hw : wp_X2_callsAnother L K) : JMi l g lay yX2_callsAnother wsX2_callsAnother rmX2_callsAnother [.ref a] E0 (fun r E1 => E1 = E0 ∧ (r = 0 ∨ r = 1) ∧ K r) := by
  refine Met.ofW (cc := cX2_callsAnother) (maxL := 1) (ret := (some .boolean)) (by decide) rfl ?_
  intro p e s m args below meth c s₁ B hml hv
  obtain ⟨rfl, hK, hW⟩ := hv
  have hx := B.exec
  have hb := B.bytes
  have hr := B.returns
  have hts := gd_of (atoms_spec (ws := wsX2_callsAnother) B.pre)
  have hown : s.vm.findClass RX2 = some m.cls := findClass_of_methodNamed B.named
  have hlocks := B.notSynchronized
  have hS : va_S (Ab g) s.heap s.heap [] := va_S.rf
  have hl := lv_entry [.ref a] (n := 1) (Nat.le_of_ble_eq_true rfl)
  rw [lg_entry_eq]
  generalize (lg_sl [.ref a] ++ List.replicate (1 - (lg_sl [.ref a]).length) Slot.unset).toArray = ls at hl ⊢
  have hl : lv_has ls 1 [(0, .ref a)] := hl
  unfold wp_X2_callsAnother at hw
  refine lv_aload_n hx hb dX2_callsAnother_0 rfl (lv_at hl 0 rfl) ?_
  refine g_X2_9 hx hb hown hts hK hW hla hL dX2_callsAnother_1 ?_
  refine lv_iconst (v := 4) hx hb dX2_callsAnother_4 (by decide) ?_
  refine lv_icmp_eq (tgt := 17) hx hb dX2_callsAnother_5 (by decide) (fun c_1 => ?_) (fun c_1 => ?_)
  · have hw := hw.1 c_1
    refine lv_iconst (v := 1) hx hb dX2_callsAnother_17 (by decide) ?_
    refine lv_goto (tgt := 22) hx hb dX2_callsAnother_18 (by decide) ?_
    exact w_zret hx hb hr hlocks hW hS (Or.inr rfl) ⟨rfl, (Or.inr rfl), hw⟩ dX2_callsAnother_22
  · have hw := hw.2 c_1
    refine lv_aload_n hx hb dX2_callsAnother_8 rfl (lv_at hl 0 rfl) ?_
    refine g_X2_9 hx hb hown hts hK hW hla hL dX2_callsAnother_9 ?_
    refine lv_bipush (v := 6) hx hb dX2_callsAnother_12 (by decide) ?_
    refine lv_icmp_ne (tgt := 21) hx hb dX2_callsAnother_14 (by decide) (fun c_2 => ?_) (fun c_2 => ?_)
    · have hw := hw.2 c_2
      refine lv_iconst (v := 0) hx hb dX2_callsAnother_21 (by decide) ?_
      exact w_zret hx hb hr hlocks hW hS (Or.inl rfl) ⟨rfl, (Or.inl rfl), hw⟩ dX2_callsAnother_22
    · have hw := hw.1 c_2
      refine lv_iconst (v := 1) hx hb dX2_callsAnother_17 (by decide) ?_
      refine lv_goto (tgt := 22) hx hb dX2_callsAnother_18 (by decide) ?_
      exact w_zret hx hb hr hlocks hW hS (Or.inr rfl) ⟨rfl, (Or.inr rfl), hw⟩ dX2_callsAnother_22
set_option maxHeartbeats 4000000 in
set_option maxRecDepth 100000 in
theorem c_X1_numberFor {l : Launch} {g : GG} {lay : LY} {E0 : ES} {a : Nat} {L : CS} {p1 : Int32} {K : Int32 → Prop} (hA : okL g lay) (hla : lay a = some finE) (hL : E0 a = L) (hw : wp_X1_numberFor L p1 K) : JMi l g lay yX1_numberFor wsX1_numberFor rmX1_numberFor [.ref a, .int p1] E0 (fun r E1 => E1 = E0 ∧ K r) := by
  refine Met.ofW (cc := cX1_numberFor) (maxL := 2) (ret := (some .int)) (by decide) rfl ?_
  intro p e s m args below meth c s₁ B hml hv
  obtain ⟨rfl, hK, hW⟩ := hv
  have hx := B.exec
  have hb := B.bytes
  have hr := B.returns
  have hts := gd_of (atoms_spec (ws := wsX1_numberFor) B.pre)
  have hown : s.vm.findClass RX1 = some m.cls := findClass_of_methodNamed B.named
  have hlocks := B.notSynchronized
  have hS : va_S (Ab g) s.heap s.heap [] := va_S.rf
  have hl := lv_entry [.ref a, .int p1] (n := 2) (Nat.le_of_ble_eq_true rfl)
  rw [lg_entry_eq]
  generalize (lg_sl [.ref a, .int p1] ++ List.replicate (2 - (lg_sl [.ref a, .int p1]).length) Slot.unset).toArray = ls at hl ⊢
  have hl : lv_has ls 2 [(0, .ref a), (1, .int p1)] := hl
  unfold wp_X1_numberFor at hw
  refine lv_iload_n hx hb dX1_numberFor_0 rfl (lv_at hl 1 rfl) ?_
  by_cases c_1 : p1 = 0
  · have hw := hw.1 c_1
    refine lv_tableIn (tgt := 48) hx hb dX1_numberFor_1 (by rw [c_1]; decide) (by rw [c_1]; decide) (by rw [c_1] <;> rfl) (by decide) ?_
    refine lv_aload_n hx hb dX1_numberFor_48 rfl (lv_at hl 0 rfl) ?_
    refine g_X1_9 hx hb hown hts hK hW hla hL dX1_numberFor_49 ?_
    exact w_iret hx hb hr hlocks hW hS ⟨rfl, hw⟩ dX1_numberFor_52
  · have hw := hw.2 c_1
    by_cases c_2 : p1 = 1
    · have hw := hw.1 c_2
      refine lv_tableIn (tgt := 53) hx hb dX1_numberFor_1 (by rw [c_2]; decide) (by rw [c_2]; decide) (by rw [c_2] <;> rfl) (by decide) ?_
      refine lv_aload_n hx hb dX1_numberFor_53 rfl (lv_at hl 0 rfl) ?_
      refine g_X1_15 hx hb hown hts hK hW hla hL dX1_numberFor_54 ?_
      exact w_iret hx hb hr hlocks hW hS ⟨rfl, hw⟩ dX1_numberFor_57
    · have hw := hw.2 c_2
      by_cases c_3 : p1 = 2
      · have hw := hw.1 c_3
        refine lv_tableIn (tgt := 58) hx hb dX1_numberFor_1 (by rw [c_3]; decide) (by rw [c_3]; decide) (by rw [c_3] <;> rfl) (by decide) ?_
        refine lv_aload_n hx hb dX1_numberFor_58 rfl (lv_at hl 0 rfl) ?_
        refine g_X1_18 hx hb hown hts hK hW hla hL dX1_numberFor_59 ?_
        exact w_iret hx hb hr hlocks hW hS ⟨rfl, hw⟩ dX1_numberFor_62
      · have hw := hw.2 c_3
        by_cases c_4 : p1 = 3
        · have hw := hw.1 c_4
          refine lv_tableIn (tgt := 63) hx hb dX1_numberFor_1 (by rw [c_4]; decide) (by rw [c_4]; decide) (by rw [c_4] <;> rfl) (by decide) ?_
          refine lv_aload_n hx hb dX1_numberFor_63 rfl (lv_at hl 0 rfl) ?_
          refine g_X1_21 hx hb hown hts hK hW hla hL dX1_numberFor_64 ?_
          exact w_iret hx hb hr hlocks hW hS ⟨rfl, hw⟩ dX1_numberFor_67
        · have hw := hw.2 c_4
          by_cases c_5 : p1 = 4
          · have hw := hw.1 c_5
            refine lv_tableIn (tgt := 68) hx hb dX1_numberFor_1 (by rw [c_5]; decide) (by rw [c_5]; decide) (by rw [c_5] <;> rfl) (by decide) ?_
            refine lv_aload_n hx hb dX1_numberFor_68 rfl (lv_at hl 0 rfl) ?_
            refine g_X1_24 hx hb hown hts hK hW hla hL dX1_numberFor_69 ?_
            exact w_iret hx hb hr hlocks hW hS ⟨rfl, hw⟩ dX1_numberFor_72
          · have hw := hw.2 c_5
            by_cases c_6 : p1 = 5
            · have hw := hw.1 c_6
              refine lv_tableIn (tgt := 73) hx hb dX1_numberFor_1 (by rw [c_6]; decide) (by rw [c_6]; decide) (by rw [c_6] <;> rfl) (by decide) ?_
              refine lv_aload_n hx hb dX1_numberFor_73 rfl (lv_at hl 0 rfl) ?_
              refine g_X1_27 hx hb hown hts hK hW hla hL dX1_numberFor_74 ?_
              exact w_iret hx hb hr hlocks hW hS ⟨rfl, hw⟩ dX1_numberFor_77
            · have hw := hw.2 c_6
              by_cases c_7 : p1 = 6
              · have hw := hw.1 c_7
                refine lv_tableIn (tgt := 78) hx hb dX1_numberFor_1 (by rw [c_7]; decide) (by rw [c_7]; decide) (by rw [c_7] <;> rfl) (by decide) ?_
                refine lv_aload_n hx hb dX1_numberFor_78 rfl (lv_at hl 0 rfl) ?_
                refine g_X1_33 hx hb hown hts hK hW hla hL dX1_numberFor_79 ?_
                exact w_iret hx hb hr hlocks hW hS ⟨rfl, hw⟩ dX1_numberFor_82
              · have hw := hw.2 c_7
                by_cases c_8 : p1 = 7
                · have hw := hw.1 c_8
                  refine lv_tableIn (tgt := 83) hx hb dX1_numberFor_1 (by rw [c_8]; decide) (by rw [c_8]; decide) (by rw [c_8] <;> rfl) (by decide) ?_
                  refine lv_aload_n hx hb dX1_numberFor_83 rfl (lv_at hl 0 rfl) ?_
                  refine g_X1_36 hx hb hown hts hK hW hla hL dX1_numberFor_84 ?_
                  exact w_iret hx hb hr hlocks hW hS ⟨rfl, hw⟩ dX1_numberFor_87
                · have hw := hw.2 c_8
                  refine lv_tableOut (tgt := 88) hx hb dX1_numberFor_1 (by have zc_1 := lv_neT (a := 0) c_1 rfl; have zc_2 := lv_neT (a := 1) c_2 rfl; have zc_3 := lv_neT (a := 2) c_3 rfl; have zc_4 := lv_neT (a := 3) c_4 rfl; have zc_5 := lv_neT (a := 4) c_5 rfl; have zc_6 := lv_neT (a := 5) c_6 rfl; have zc_7 := lv_neT (a := 6) c_7 rfl; have zc_8 := lv_neT (a := 7) c_8 rfl; omega) (by decide) ?_
                  refine lv_bipush (v := (-2)) hx hb dX1_numberFor_88 (by decide) ?_
                  exact w_iret hx hb hr hlocks hW hS ⟨rfl, hw⟩ dX1_numberFor_90
set_option maxHeartbeats 4000000 in
set_option maxRecDepth 100000 in
theorem c_X4_isWithin {l : Launch} {g : GG} {lay : LY} {E0 : ES} {p1 : Int32} {p2 : Int32} {p3 : Int32} {K : Int32 → Prop} (hw : wp_X4_isWithin p1 p2 p3 K) : JMi l g lay yX4_isWithin wsX4_isWithin rmX4_isWithin [.int p1, .int p2, .int p3] E0 (fun r E1 => E1 = E0 ∧ (r = 0 ∨ r = 1) ∧ K r) := by
  refine Met.ofW (cc := cX4_isWithin) (maxL := 3) (ret := (some .boolean)) (by decide) rfl ?_
  intro p e s m args below meth c s₁ B hml hv
  obtain ⟨rfl, hK, hW⟩ := hv
  have hx := B.exec
  have hb := B.bytes
  have hr := B.returns
  have hts := gd_of (atoms_spec (ws := wsX4_isWithin) B.pre)
  have hown : s.vm.findClass RX4 = some m.cls := findClass_of_methodNamed B.named
  have hlocks := B.notSynchronized
  have hS : va_S (Ab g) s.heap s.heap [] := va_S.rf
  have hl := lv_entry [.int p1, .int p2, .int p3] (n := 3) (Nat.le_of_ble_eq_true rfl)
  rw [lg_entry_eq]
  generalize (lg_sl [.int p1, .int p2, .int p3] ++ List.replicate (3 - (lg_sl [.int p1, .int p2, .int p3]).length) Slot.unset).toArray = ls at hl ⊢
  have hl : lv_has ls 3 [(0, .int p1), (1, .int p2), (2, .int p3)] := hl
  unfold wp_X4_isWithin at hw
  refine lv_iload_n hx hb dX4_isWithin_0 rfl (lv_at hl 0 rfl) ?_
  refine lv_iload_n hx hb dX4_isWithin_1 rfl (lv_at hl 1 rfl) ?_
  refine lv_icmp_lt (tgt := 14) hx hb dX4_isWithin_2 (by decide) (fun c_1 => ?_) (fun c_1 => ?_)
  · have hw := hw.1 c_1
    refine lv_iconst (v := 0) hx hb dX4_isWithin_14 (by decide) ?_
    exact w_zret hx hb hr hlocks hW hS (Or.inl rfl) ⟨rfl, (Or.inl rfl), hw⟩ dX4_isWithin_15
  · have hw := hw.2 c_1
    refine lv_iload_n hx hb dX4_isWithin_5 rfl (lv_at hl 0 rfl) ?_
    refine lv_iload_n hx hb dX4_isWithin_6 rfl (lv_at hl 2 rfl) ?_
    refine lv_icmp_gt (tgt := 14) hx hb dX4_isWithin_7 (by decide) (fun c_2 => ?_) (fun c_2 => ?_)
    · have hw := hw.1 c_2
      refine lv_iconst (v := 0) hx hb dX4_isWithin_14 (by decide) ?_
      exact w_zret hx hb hr hlocks hW hS (Or.inl rfl) ⟨rfl, (Or.inl rfl), hw⟩ dX4_isWithin_15
    · have hw := hw.2 c_2
      refine lv_iconst (v := 1) hx hb dX4_isWithin_10 (by decide) ?_
      refine lv_goto (tgt := 15) hx hb dX4_isWithin_11 (by decide) ?_
      exact w_zret hx hb hr hlocks hW hS (Or.inr rfl) ⟨rfl, (Or.inr rfl), hw⟩ dX4_isWithin_15
set_option maxHeartbeats 4000000 in
set_option maxRecDepth 100000 in
theorem c_X4_isLine {l : Launch} {g : GG} {lay : LY} {E0 : ES} {p1 : Int32} {K : Int32 → Prop} (hw : wp_X4_isLine p1 K) : JMi l g lay yX4_isLine wsX4_isLine rmX4_isLine [.int p1] E0 (fun r E1 => E1 = E0 ∧ (r = 0 ∨ r = 1) ∧ K r) := by
  refine Met.ofW (cc := cX4_isLine) (maxL := 1) (ret := (some .boolean)) (by decide) rfl ?_
  intro p e s m args below meth c s₁ B hml hv
  obtain ⟨rfl, hK, hW⟩ := hv
  have hx := B.exec
  have hb := B.bytes
  have hr := B.returns
  have hts := gd_of (atoms_spec (ws := wsX4_isLine) B.pre)
  have hown : s.vm.findClass RX4 = some m.cls := findClass_of_methodNamed B.named
  have hlocks := B.notSynchronized
  have hS : va_S (Ab g) s.heap s.heap [] := va_S.rf
  have hl := lv_entry [.int p1] (n := 1) (Nat.le_of_ble_eq_true rfl)
  rw [lg_entry_eq]
  generalize (lg_sl [.int p1] ++ List.replicate (1 - (lg_sl [.int p1]).length) Slot.unset).toArray = ls at hl ⊢
  have hl : lv_has ls 1 [(0, .int p1)] := hl
  unfold wp_X4_isLine at hw
  refine lv_iload_n hx hb dX4_isLine_0 rfl (lv_at hl 0 rfl) ?_
  refine lv_iconst (v := 0) hx hb dX4_isLine_1 (by decide) ?_
  refine lv_bipush (v := 15) hx hb dX4_isLine_2 (by decide) ?_
  refine w_csi (As := [.int p1, .int 0, .int 15]) (rest := []) hx hb hml hown hts hK hW hS hl.1 (c_X4_isWithin hw) (k_X4_30 hts ⟨Nat.le_of_ble_eq_true rfl, Nat.le_of_ble_eq_true rfl⟩) rfl rfl (Nat.le_of_ble_eq_true rfl) dX4_isLine_4 ⟨Nat.zero_le _, Nat.zero_le _⟩ (fun r_1 Ez H locs hw2 hW hS => ?_)
  obtain ⟨ez, z_2, hw⟩ := hw2
  rw [ez] at hW
  exact w_zret hx hb hr hlocks hW hS z_2 ⟨rfl, z_2, hw⟩ dX4_isLine_7
end
section
set_option maxHeartbeats 4000000 in
set_option maxRecDepth 100000 in
theorem c_X0_settingAt {l : Launch} {g : GG} {lay : LY} {E0 : ES} {o : Nat} {X : ES} {p1 : Int32} {K : Int32 → Prop} (hA : okL g lay) (HB : XL g lay o) (hX : ∀ k, k < 26 → E0 (o + k) = X k) (hw : wp_X0_settingAt X p1 K) : JMi l g lay yX0_settingAt wsX0_settingAt rmX0_settingAt [.ref o, .int p1] E0 (fun r E1 => E1 = E0 ∧ K r) := by
  refine Met.ofW (cc := cX0_settingAt) (maxL := 2) (ret := (some .int)) (by decide) rfl ?_
  intro p e s m args below meth c s₁ B hml hv
  obtain ⟨rfl, hK, hW⟩ := hv
  have hx := B.exec
  have hb := B.bytes
  have hr := B.returns
  have hts := gd_of (atoms_spec (ws := wsX0_settingAt) B.pre)
  have hown : s.vm.findClass RX0 = some m.cls := findClass_of_methodNamed B.named
  have hlocks := B.notSynchronized
  have hS : va_S (Ab g) s.heap s.heap [] := va_S.rf
  have hl := lv_entry [.ref o, .int p1] (n := 2) (Nat.le_of_ble_eq_true rfl)
  rw [lg_entry_eq]
  generalize (lg_sl [.ref o, .int p1] ++ List.replicate (2 - (lg_sl [.ref o, .int p1]).length) Slot.unset).toArray = ls at hl ⊢
  have hl : lv_has ls 2 [(0, .ref o), (1, .int p1)] := hl
  unfold wp_X0_settingAt at hw
  refine lv_iload_n hx hb dX0_settingAt_0 rfl (lv_at hl 1 rfl) ?_
  refine lv_if_lt (tgt := 22) hx hb dX0_settingAt_1 (by decide) (fun c_1 => ?_) (fun c_1 => ?_)
  · have hw := hw.1 c_1
    refine lv_bipush (v := (-2)) hx hb dX0_settingAt_22 (by decide) ?_
    exact w_iret hx hb hr hlocks hW hS ⟨rfl, hw⟩ dX0_settingAt_24
  · have hw := hw.2 c_1
    refine lv_iload_n hx hb dX0_settingAt_4 rfl (lv_at hl 1 rfl) ?_
    refine lv_aload_n hx hb dX0_settingAt_5 rfl (lv_at hl 0 rfl) ?_
    refine g_X0_42 hx hb hown hts hK hW HB.1 (hX 0 (by decide)) dX0_settingAt_6 ?_
    refine w_alen (v := 5) hx hb hK hW 0 rfl HB.2.2.2.1 (hX 5 (by decide)) rfl rfl dX0_settingAt_9 ?_
    refine lv_icmp_ge (tgt := 22) hx hb dX0_settingAt_10 (by decide) (fun c_2 => ?_) (fun c_2 => ?_)
    · have hw := hw.1 c_2
      refine lv_bipush (v := (-2)) hx hb dX0_settingAt_22 (by decide) ?_
      exact w_iret hx hb hr hlocks hW hS ⟨rfl, hw⟩ dX0_settingAt_24
    · have hw := hw.2 c_2
      refine lv_aload_n hx hb dX0_settingAt_13 rfl (lv_at hl 0 rfl) ?_
      refine g_X0_42 hx hb hown hts hK hW HB.1 (hX 0 (by decide)) dX0_settingAt_14 ?_
      refine lv_iload_n hx hb dX0_settingAt_17 rfl (lv_at hl 1 rfl) ?_
      obtain ⟨hin, hw⟩ := hw
      refine w_iald hx hb hK hW HB.2.2.2.1 (hX 5 (by decide)) hin dX0_settingAt_18 ?_
      refine lv_goto (tgt := 24) hx hb dX0_settingAt_19 (by decide) ?_
      exact w_iret hx hb hr hlocks hW hS ⟨rfl, hw⟩ dX0_settingAt_24
set_option maxHeartbeats 4000000 in
set_option maxRecDepth 100000 in
theorem c_X0_changeSetting {l : Launch} {g : GG} {lay : LY} {E0 : ES} {o : Nat} {X : ES} {p1 : Int32} {p2 : Int32} {K : Int32 → ES → Prop} (hA : okL g lay) (HB : XL g lay o) (hX : ∀ k, k < 26 → E0 (o + k) = X k) (hw : wp_X0_changeSetting X p1 p2 K) : JMi l g lay yX0_changeSetting wsX0_changeSetting rmX0_changeSetting [.ref o, .int p1, .int p2] E0 (fun r E1 => ∃ X1 : ES, E1 = put 26 o X1 E0 ∧ K r X1) := by
  refine Met.ofW (cc := cX0_changeSetting) (maxL := 4) (ret := (some .int)) (by decide) rfl ?_
  intro p e s m args below meth c s₁ B hml hv
  obtain ⟨rfl, hK, hW⟩ := hv
  have hx := B.exec
  have hb := B.bytes
  have hr := B.returns
  have hts := gd_of (atoms_spec (ws := wsX0_changeSetting) B.pre)
  have hown : s.vm.findClass RX0 = some m.cls := findClass_of_methodNamed B.named
  have hlocks := B.notSynchronized
  have hS : va_S (Ab g) s.heap s.heap [] := va_S.rf
  have hW : Wd g lay (put 26 o X E0) s.heap := by rw [putSelf hX]; exact hW
  have hl := lv_entry [.ref o, .int p1, .int p2] (n := 4) (Nat.le_of_ble_eq_true rfl)
  rw [lg_entry_eq]
  generalize (lg_sl [.ref o, .int p1, .int p2] ++ List.replicate (4 - (lg_sl [.ref o, .int p1, .int p2]).length) Slot.unset).toArray = ls at hl ⊢
  have hl : lv_has ls 4 [(0, .ref o), (1, .int p1), (2, .int p2)] := hl
  unfold wp_X0_changeSetting at hw
  refine lv_aload_n hx hb dX0_changeSetting_0 rfl (lv_at hl 0 rfl) ?_
  refine lv_iload_n hx hb dX0_changeSetting_1 rfl (lv_at hl 1 rfl) ?_
  refine w_cvi (As := [.int p1]) (rest := []) hx hb hml hown hts hK hW hS hl.1 (c_X0_settingAt hA HB (fun k hk => putAt hk)  hw) (k_X0_79 hts ⟨Nat.le_of_ble_eq_true rfl, Nat.le_of_ble_eq_true rfl⟩) (w_recv hK hW HB.1 (putAt (k := 0) (by decide)) rfl rfl) rfl rfl (Nat.le_of_ble_eq_true rfl) dX0_changeSetting_2 ⟨Nat.zero_le _, Nat.zero_le _⟩ (fun r_1 Ez H locs hw2 hW hS => ?_)
  obtain ⟨ez, hw⟩ := hw2
  rw [ez] at hW
  refine lv_istore_n (lv' := [(3, .int r_1), (0, .ref o), (1, .int p1), (2, .int p2)]) hx hb dX0_changeSetting_5 rfl hl (by decide) rfl (fun ls hl => ?_)
  refine lv_iload_n hx hb dX0_changeSetting_6 rfl (lv_at hl 2 rfl) ?_
  refine lv_if_lt (tgt := 26) hx hb dX0_changeSetting_7 (by decide) (fun c_2 => ?_) (fun c_2 => ?_)
  · have hw := hw.1 c_2
    refine lv_iload_n hx hb dX0_changeSetting_26 rfl (lv_at hl 0 rfl) ?_
    exact w_iret hx hb hr hlocks hW hS ⟨X, rfl, hw⟩ dX0_changeSetting_27
  · have hw := hw.2 c_2
    refine lv_iload_n hx hb dX0_changeSetting_10 rfl (lv_at hl 2 rfl) ?_
    refine lv_aload_n hx hb dX0_changeSetting_11 rfl (lv_at hl 1 rfl) ?_
    refine g_X0_42 hx hb hown hts hK hW HB.1 (putAt (k := 0) (by decide)) dX0_changeSetting_12 ?_
    refine w_alen (v := 5) hx hb hK hW 0 rfl HB.2.2.2.1 (putAt (k := 5) (by decide)) rfl rfl dX0_changeSetting_15 ?_
    refine lv_icmp_ge (tgt := 26) hx hb dX0_changeSetting_16 (by decide) (fun c_3 => ?_) (fun c_3 => ?_)
    · have hw := hw.1 c_3
      refine lv_iload_n hx hb dX0_changeSetting_26 rfl (lv_at hl 0 rfl) ?_
      exact w_iret hx hb hr hlocks hW hS ⟨X, rfl, hw⟩ dX0_changeSetting_27
    · have hw := hw.2 c_3
      refine lv_aload_n hx hb dX0_changeSetting_19 rfl (lv_at hl 1 rfl) ?_
      refine g_X0_42 hx hb hown hts hK hW HB.1 (putAt (k := 0) (by decide)) dX0_changeSetting_20 ?_
      refine lv_iload_n hx hb dX0_changeSetting_23 rfl (lv_at hl 2 rfl) ?_
      refine lv_iload_n hx hb dX0_changeSetting_24 rfl (lv_at hl 3 rfl) ?_
      obtain ⟨hin, hw⟩ := hw
      obtain ⟨X_4, eX_4⟩ : ∃ z : ES, z = va_up X 5 (upd (X 5) p1.toNatClampNeg p2) := ⟨_, rfl⟩
      have hw := hw X_4 eX_4
      refine w_iast (E1 := put 26 o X_4 E0) hx hb hK hA hW hS HB.2.2.2.1 (putAt (k := 5) (by decide)) hin dX0_changeSetting_25 (puE (k := 5) (by decide) eX_4) (fun H locs hW hS => ?_)
      refine lv_iload_n hx hb dX0_changeSetting_26 rfl (lv_at hl 0 rfl) ?_
      exact w_iret hx hb hr hlocks hW hS ⟨X_4, rfl, hw⟩ dX0_changeSetting_27
set_option maxHeartbeats 4000000 in
set_option maxRecDepth 100000 in
theorem c_X0_renew {l : Launch} {g : GG} {lay : LY} {E0 : ES} {o : Nat} {X : ES} {p1 : Int32} {p2 : Int32} {K : ES → Prop} (hA : okL g lay) (HB : XL g lay o) (hX : ∀ k, k < 26 → E0 (o + k) = X k) (hw : wp_X0_renew X p1 p2 K) : JMv l g lay yX0_renew wsX0_renew rmX0_renew [.ref o, .int p1, .int p2] E0 (fun E1 => ∃ X1 : ES, E1 = put 26 o X1 E0 ∧ K X1) := by
  refine Met.ofW (cc := cX0_renew) (maxL := 4) (ret := none) (by decide) rfl ?_
  intro p e s m args below meth c s₁ B hml hv
  obtain ⟨rfl, hK, hW⟩ := hv
  have hx := B.exec
  have hb := B.bytes
  have hr := B.returns
  have hts := gd_of (atoms_spec (ws := wsX0_renew) B.pre)
  have hown : s.vm.findClass RX0 = some m.cls := findClass_of_methodNamed B.named
  have hlocks := B.notSynchronized
  have hS : va_S (Ab g) s.heap s.heap [] := va_S.rf
  have hW : Wd g lay (put 26 o X E0) s.heap := by rw [putSelf hX]; exact hW
  have hl := lv_entry [.ref o, .int p1, .int p2] (n := 4) (Nat.le_of_ble_eq_true rfl)
  rw [lg_entry_eq]
  generalize (lg_sl [.ref o, .int p1, .int p2] ++ List.replicate (4 - (lg_sl [.ref o, .int p1, .int p2]).length) Slot.unset).toArray = ls at hl ⊢
  have hl : lv_has ls 4 [(0, .ref o), (1, .int p1), (2, .int p2)] := hl
  unfold wp_X0_renew at hw
  refine lv_iconst (v := 0) hx hb dX0_renew_0 (by decide) ?_
  refine lv_istore_n (lv' := [(3, .int 0), (0, .ref o), (1, .int p1), (2, .int p2)]) hx hb dX0_renew_1 rfl hl (by decide) rfl (fun ls hl => ?_)
  obtain ⟨n_167, hw⟩ := hw
  refine w_loop (KT := Int32 → ES → Prop) (σ := Int32 × ES) (Wl := fun Kx_2 n_2 q => wpl_X0_renew_2 K Kx_2 n_2 q.1 q.2) (Pw := fun q => Wd g lay (put 26 o q.2 E0)) (lvf := fun q => [(0, .ref o), (1, .int p1), (2, .int p2), (3, .int q.1)]) (nL := 4) n_167 (0, X) hw hW hS (lv_sub hl [1, 2, 3, 0] rfl) (fun _ h => h) (fun Kx_2 eK_2 n_2 q H locs ls hw hW hS hl ih_2 => ?_)
  obtain ⟨i_1, X_2⟩ := q
  try dsimp only at hw
  rw [wpl_X0_renew_2] at hw
  have hl : lv_has ls 4 [(0, .ref o), (1, .int p1), (2, .int p2), (3, .int i_1)] := hl
  have hW : Wd g lay (put 26 o X_2 E0) H := hW
  refine lv_iload_n hx hb dX0_renew_2 rfl (lv_at hl 3 rfl) ?_
  refine lv_bipush (v := 16) hx hb dX0_renew_3 (by decide) ?_
  refine lv_icmp_ge (tgt := 22) hx hb dX0_renew_5 (by decide) (fun c_112 => ?_) (fun c_112 => ?_)
  · have hw := hw.1 c_112
    rw [eK_2] at hw
    refine lv_iconst (v := 0) hx hb dX0_renew_22 (by decide) ?_
    refine lv_istore_n (lv' := [(3, .int 0), (0, .ref o), (1, .int p1), (2, .int p2)]) hx hb dX0_renew_23 rfl hl (by decide) rfl (fun ls hl => ?_)
    obtain ⟨n_162, hw⟩ := hw
    refine w_loop (KT := Int32 → ES → Prop) (σ := Int32 × ES) (Wl := fun Kx_24 n_24 q => wpl_X0_renew_24 K Kx_24 n_24 q.1 q.2) (Pw := fun q => Wd g lay (put 26 o q.2 E0)) (lvf := fun q => [(0, .ref o), (1, .int p1), (2, .int p2), (3, .int q.1)]) (nL := 4) n_162 (0, X_2) hw hW hS (lv_sub hl [1, 2, 3, 0] rfl) (fun _ h => h) (fun Kx_24 eK_24 n_24 q H locs ls hw hW hS hl ih_24 => ?_)
    obtain ⟨i_113, X_114⟩ := q
    try dsimp only at hw
    rw [wpl_X0_renew_24] at hw
    have hl : lv_has ls 4 [(0, .ref o), (1, .int p1), (2, .int p2), (3, .int i_113)] := hl
    have hW : Wd g lay (put 26 o X_114 E0) H := hW
    refine lv_iload_n hx hb dX0_renew_24 rfl (lv_at hl 3 rfl) ?_
    refine lv_iconst (v := 4) hx hb dX0_renew_25 (by decide) ?_
    refine lv_icmp_ge (tgt := 43) hx hb dX0_renew_26 (by decide) (fun c_146 => ?_) (fun c_146 => ?_)
    · have hw := hw.1 c_146
      rw [eK_24] at hw
      refine lv_aload_n hx hb dX0_renew_43 rfl (lv_at hl 0 rfl) ?_
      refine lv_iload_n hx hb dX0_renew_44 rfl (lv_at hl 1 rfl) ?_
      obtain ⟨X_147, eX_147⟩ : ∃ z : ES, z = va_up X_114 0 (upd (X_114 0) 5 p1) := ⟨_, rfl⟩
      have hw := hw X_147 eX_147
      refine p_X0_45 (E1 := put 26 o X_147 E0) hx hb hown hts hK hA hW hS HB.1 (putAt (k := 0) (by decide)) dX0_renew_45 (puE (k := 0) (by decide) eX_147) (fun H locs hW hS => ?_)
      refine lv_aload_n hx hb dX0_renew_48 rfl (lv_at hl 0 rfl) ?_
      refine lv_iload_n hx hb dX0_renew_49 rfl (lv_at hl 2 rfl) ?_
      obtain ⟨X_148, eX_148⟩ : ∃ z : ES, z = va_up X_147 0 (upd (X_147 0) 6 p2) := ⟨_, rfl⟩
      have hw := hw X_148 eX_148
      refine p_X0_49 (E1 := put 26 o X_148 E0) hx hb hown hts hK hA hW hS HB.1 (putAt (k := 0) (by decide)) dX0_renew_50 (puE (k := 0) (by decide) eX_148) (fun H locs hW hS => ?_)
      refine lv_aload_n hx hb dX0_renew_53 rfl (lv_at hl 0 rfl) ?_
      refine lv_iconst (v := 0) hx hb dX0_renew_54 (by decide) ?_
      obtain ⟨X_149, eX_149⟩ : ∃ z : ES, z = va_up X_148 0 (upd (X_148 0) 7 0) := ⟨_, rfl⟩
      have hw := hw X_149 eX_149
      refine p_X0_52 (E1 := put 26 o X_149 E0) hx hb hown hts hK hA hW hS HB.1 (putAt (k := 0) (by decide)) dX0_renew_55 (puE (k := 0) (by decide) eX_149) (fun H locs hW hS => ?_)
      refine lv_aload_n hx hb dX0_renew_58 rfl (lv_at hl 0 rfl) ?_
      refine lv_iconst (v := (-1)) hx hb dX0_renew_59 (by decide) ?_
      obtain ⟨X_150, eX_150⟩ : ∃ z : ES, z = va_up X_149 0 (upd (X_149 0) 8 (-1)) := ⟨_, rfl⟩
      have hw := hw X_150 eX_150
      refine p_X0_55 (E1 := put 26 o X_150 E0) hx hb hown hts hK hA hW hS HB.1 (putAt (k := 0) (by decide)) dX0_renew_60 (puE (k := 0) (by decide) eX_150) (fun H locs hW hS => ?_)
      refine lv_aload_n hx hb dX0_renew_63 rfl (lv_at hl 0 rfl) ?_
      refine lv_iconst (v := 0) hx hb dX0_renew_64 (by decide) ?_
      obtain ⟨X_151, eX_151⟩ : ∃ z : ES, z = va_up X_150 0 (upd (X_150 0) 9 0) := ⟨_, rfl⟩
      have hw := hw X_151 eX_151
      refine p_X0_58 (E1 := put 26 o X_151 E0) hx hb hown hts hK hA hW hS HB.1 (putAt (k := 0) (by decide)) dX0_renew_65 (puE (k := 0) (by decide) eX_151) (fun H locs hW hS => ?_)
      refine lv_aload_n hx hb dX0_renew_68 rfl (lv_at hl 0 rfl) ?_
      refine lv_iconst (v := 0) hx hb dX0_renew_69 (by decide) ?_
      obtain ⟨X_152, eX_152⟩ : ∃ z : ES, z = va_up X_151 0 (upd (X_151 0) 10 0) := ⟨_, rfl⟩
      have hw := hw X_152 eX_152
      refine p_X0_61 (E1 := put 26 o X_152 E0) hx hb hown hts hK hA hW hS HB.1 (putAt (k := 0) (by decide)) dX0_renew_70 (puE (k := 0) (by decide) eX_152) (fun H locs hW hS => ?_)
      refine lv_aload_n hx hb dX0_renew_73 rfl (lv_at hl 0 rfl) ?_
      refine lv_iconst (v := 0) hx hb dX0_renew_74 (by decide) ?_
      obtain ⟨X_153, eX_153⟩ : ∃ z : ES, z = va_up X_152 0 (upd (X_152 0) 11 0) := ⟨_, rfl⟩
      have hw := hw X_153 eX_153
      refine p_X0_64 (E1 := put 26 o X_153 E0) hx hb hown hts hK hA hW hS HB.1 (putAt (k := 0) (by decide)) dX0_renew_75 (puE (k := 0) (by decide) eX_153) (fun H locs hW hS => ?_)
      refine lv_aload_n hx hb dX0_renew_78 rfl (lv_at hl 0 rfl) ?_
      refine lv_iconst (v := 0) hx hb dX0_renew_79 (by decide) ?_
      obtain ⟨X_154, eX_154⟩ : ∃ z : ES, z = va_up X_153 0 (upd (X_153 0) 12 0) := ⟨_, rfl⟩
      have hw := hw X_154 eX_154
      refine p_X0_67 (E1 := put 26 o X_154 E0) hx hb hown hts hK hA hW hS HB.1 (putAt (k := 0) (by decide)) dX0_renew_80 (puE (k := 0) (by decide) eX_154) (fun H locs hW hS => ?_)
      refine lv_aload_n hx hb dX0_renew_83 rfl (lv_at hl 0 rfl) ?_
      refine lv_iconst (v := 0) hx hb dX0_renew_84 (by decide) ?_
      obtain ⟨X_155, eX_155⟩ : ∃ z : ES, z = va_up X_154 0 (upd (X_154 0) 13 0) := ⟨_, rfl⟩
      have hw := hw X_155 eX_155
      refine p_X0_70 (E1 := put 26 o X_155 E0) hx hb hown hts hK hA hW hS HB.1 (putAt (k := 0) (by decide)) dX0_renew_85 (puE (k := 0) (by decide) eX_155) (fun H locs hW hS => ?_)
      refine lv_aload_n hx hb dX0_renew_88 rfl (lv_at hl 0 rfl) ?_
      refine lv_iconst (v := 0) hx hb dX0_renew_89 (by decide) ?_
      obtain ⟨X_156, eX_156⟩ : ∃ z : ES, z = va_up X_155 0 (upd (X_155 0) 14 0) := ⟨_, rfl⟩
      have hw := hw X_156 eX_156
      refine p_X0_73 (E1 := put 26 o X_156 E0) hx hb hown hts hK hA hW hS HB.1 (putAt (k := 0) (by decide)) dX0_renew_90 (puE (k := 0) (by decide) eX_156) (fun H locs hW hS => ?_)
      refine lv_aload_n hx hb dX0_renew_93 rfl (lv_at hl 0 rfl) ?_
      refine lv_iconst (v := 0) hx hb dX0_renew_94 (by decide) ?_
      obtain ⟨X_157, eX_157⟩ : ∃ z : ES, z = va_up X_156 0 (upd (X_156 0) 15 0) := ⟨_, rfl⟩
      have hw := hw X_157 eX_157
      refine p_X0_76 (E1 := put 26 o X_157 E0) hx hb hown hts hK hA hW hS HB.1 (putAt (k := 0) (by decide)) dX0_renew_95 (puE (k := 0) (by decide) eX_157) (fun H locs hW hS => ?_)
      exact w_vret hx hb hr hlocks hW hS ⟨X_157, rfl, hw⟩ dX0_renew_98
    · have hw := hw.2 c_146
      refine lv_aload_n hx hb dX0_renew_29 rfl (lv_at hl 0 rfl) ?_
      refine lv_iload_n hx hb dX0_renew_30 rfl (lv_at hl 3 rfl) ?_
      refine w_cvr (As := [.int i_113]) (rest := []) hx hb hml hown hts hK hW hS hl.1 (c_X0_finderAt hA HB i_113) (k_X0_90 hts ⟨Nat.le_of_ble_eq_true rfl, Nat.le_of_ble_eq_true rfl⟩) (w_recv hK hW HB.1 (putAt (k := 0) (by decide)) rfl rfl) rfl rfl (Nat.le_of_ble_eq_true rfl) dX0_renew_31 ⟨Nat.zero_le _, Nat.zero_le _⟩ (fun q_158 Ez H locs hw2 hW hS => ?_)
      obtain ⟨ez, rfl⟩ := hw2
      rw [ez] at hW
      refine w_cvv (As := []) (rest := []) hx hb hml hown hts hK hW hS hl.1 (c_X1_renew hA (HB.2.2.2.2.2 _ (isFi_fix i_113)) (putAt (k := fix i_113) (isFi_lt (isFi_fix i_113))) hw) (k_X0_94 hts ⟨Nat.le_of_ble_eq_true rfl, Nat.le_of_ble_eq_true rfl⟩) (w_recv hK hW (HB.2.2.2.2.2 _ (isFi_fix i_113)) (putAt (k := fix i_113) (isFi_lt (isFi_fix i_113))) rfl rfl) rfl rfl (Nat.le_of_ble_eq_true rfl) dX0_renew_34 ⟨Nat.zero_le _, Nat.zero_le _⟩ (fun Ez H locs hw2 hW hS => ?_)
      obtain ⟨Y_159, ez, hw⟩ := hw2
      rw [ez] at hW
      obtain ⟨X_160, eX_160⟩ : ∃ z : ES, z = va_up X_114 (fix i_113) Y_159 := ⟨_, rfl⟩
      have hw := hw X_160 eX_160
      have hW : Wd g lay (put 26 o X_160 E0) H := by rw [eX_160, ← putUp (k := fix i_113) (isFi_lt (isFi_fix i_113))]; exact hW
      obtain ⟨v_161, ev_161⟩ : ∃ z : Int32, z = i_113 + 1 := ⟨_, rfl⟩
      have hw := hw v_161 ev_161
      refine lv_iinc (v := v_161) (lv' := [(3, .int v_161), (0, .ref o), (1, .int p1), (2, .int p2)]) hx hb dX0_renew_37 hl (k := 3) rfl (by rw [ev_161]; rfl) (by decide) rfl (fun ls hl => ?_)
      refine lv_goto (tgt := 24) hx hb dX0_renew_40 (by decide) ?_
      exact ih_24 (v_161, X_160) _ _ _ hw hW hS (lv_sub hl [1, 2, 3, 0] rfl)
  · have hw := hw.2 c_112
    refine lv_aload_n hx hb dX0_renew_8 rfl (lv_at hl 0 rfl) ?_
    refine lv_iload_n hx hb dX0_renew_9 rfl (lv_at hl 3 rfl) ?_
    refine w_cvr (As := [.int i_1]) (rest := []) hx hb hml hown hts hK hW hS hl.1 (c_X0_lineAt hA HB i_1) (k_X0_83 hts ⟨Nat.le_of_ble_eq_true rfl, Nat.le_of_ble_eq_true rfl⟩) (w_recv hK hW HB.1 (putAt (k := 0) (by decide)) rfl rfl) rfl rfl (Nat.le_of_ble_eq_true rfl) dX0_renew_10 ⟨Nat.zero_le _, Nat.zero_le _⟩ (fun q_163 Ez H locs hw2 hW hS => ?_)
    obtain ⟨ez, rfl⟩ := hw2
    rw [ez] at hW
    refine w_cvv (As := []) (rest := []) hx hb hml hown hts hK hW hS hl.1 (c_X2_renew hA (HB.2.2.2.2.1 _ (isLi_lix i_1)) (putAt (k := lix i_1) (isLi_lt (isLi_lix i_1))) hw) (k_X0_87 hts ⟨Nat.le_of_ble_eq_true rfl, Nat.le_of_ble_eq_true rfl⟩) (w_recv hK hW (HB.2.2.2.2.1 _ (isLi_lix i_1)) (putAt (k := lix i_1) (isLi_lt (isLi_lix i_1))) rfl rfl) rfl rfl (Nat.le_of_ble_eq_true rfl) dX0_renew_13 ⟨Nat.zero_le _, Nat.zero_le _⟩ (fun Ez H locs hw2 hW hS => ?_)
    obtain ⟨Y_164, ez, hw⟩ := hw2
    rw [ez] at hW
    obtain ⟨X_165, eX_165⟩ : ∃ z : ES, z = va_up X_2 (lix i_1) Y_164 := ⟨_, rfl⟩
    have hw := hw X_165 eX_165
    have hW : Wd g lay (put 26 o X_165 E0) H := by rw [eX_165, ← putUp (k := lix i_1) (isLi_lt (isLi_lix i_1))]; exact hW
    obtain ⟨v_166, ev_166⟩ : ∃ z : Int32, z = i_1 + 1 := ⟨_, rfl⟩
    have hw := hw v_166 ev_166
    refine lv_iinc (v := v_166) (lv' := [(3, .int v_166), (0, .ref o), (1, .int p1), (2, .int p2)]) hx hb dX0_renew_16 hl (k := 3) rfl (by rw [ev_166]; rfl) (by decide) rfl (fun ls hl => ?_)
    refine lv_goto (tgt := 2) hx hb dX0_renew_19 (by decide) ?_
    exact ih_2 (v_166, X_165) _ _ _ hw hW hS (lv_sub hl [1, 2, 3, 0] rfl)
set_option maxHeartbeats 4000000 in
set_option maxRecDepth 100000 in
theorem c_X0_copyFrom {l : Launch} {g : GG} {lay : LY} {E0 : ES} {o o2 : Nat} {X Y : ES} {K : ES → Prop} (hA : okL g lay) (HB : XL g lay o) (HB2 : XL g lay o2) (hX : ∀ k, k < 26 → E0 (o + k) = X k) (hY : ∀ k, k < 26 → E0 (o2 + k) = Y k) (hd : o2 + 26 ≤ o ∨ o + 26 ≤ o2) (hw : wp_X0_copyFrom X Y K) : JMv l g lay yX0_copyFrom wsX0_copyFrom rmX0_copyFrom [.ref o, .ref o2] E0 (fun E1 => ∃ X1 : ES, E1 = put 26 o X1 E0 ∧ K X1) := by
  refine Met.ofW (cc := cX0_copyFrom) (maxL := 3) (ret := none) (by decide) rfl ?_
  intro p e s m args below meth c s₁ B hml hv
  obtain ⟨rfl, hK, hW⟩ := hv
  have hx := B.exec
  have hb := B.bytes
  have hr := B.returns
  have hts := gd_of (atoms_spec (ws := wsX0_copyFrom) B.pre)
  have hown : s.vm.findClass RX0 = some m.cls := findClass_of_methodNamed B.named
  have hlocks := B.notSynchronized
  have hS : va_S (Ab g) s.heap s.heap [] := va_S.rf
  have hW : Wd g lay (put 26 o X E0) s.heap := by rw [putSelf hX]; exact hW
  have hl := lv_entry [.ref o, .ref o2] (n := 3) (Nat.le_of_ble_eq_true rfl)
  rw [lg_entry_eq]
  generalize (lg_sl [.ref o, .ref o2] ++ List.replicate (3 - (lg_sl [.ref o, .ref o2]).length) Slot.unset).toArray = ls at hl ⊢
  have hl : lv_has ls 3 [(0, .ref o), (1, .ref o2)] := hl
  unfold wp_X0_copyFrom at hw
  refine lv_iconst (v := 0) hx hb dX0_copyFrom_0 (by decide) ?_
  refine lv_istore_n (lv' := [(2, .int 0), (0, .ref o), (1, .ref o2)]) hx hb dX0_copyFrom_1 rfl hl (by decide) rfl (fun ls hl => ?_)
  obtain ⟨n_482, hw⟩ := hw
  refine w_loop (KT := Int32 → ES → Prop) (σ := Int32 × ES) (Wl := fun Kx_2 n_2 q => wpl_X0_copyFrom_2 Y K Kx_2 n_2 q.1 q.2) (Pw := fun q => Wd g lay (put 26 o q.2 E0)) (lvf := fun q => [(0, .ref o), (1, .ref o2), (2, .int q.1)]) (nL := 3) n_482 (0, X) hw hW hS (lv_sub hl [1, 2, 0] rfl) (fun _ h => h) (fun Kx_2 eK_2 n_2 q H locs ls hw hW hS hl ih_2 => ?_)
  obtain ⟨i_1, X_2⟩ := q
  try dsimp only at hw
  rw [wpl_X0_copyFrom_2] at hw
  have hl : lv_has ls 3 [(0, .ref o), (1, .ref o2), (2, .int i_1)] := hl
  have hW : Wd g lay (put 26 o X_2 E0) H := hW
  refine lv_iload_n hx hb dX0_copyFrom_2 rfl (lv_at hl 2 rfl) ?_
  refine lv_bipush (v := 16) hx hb dX0_copyFrom_3 (by decide) ?_
  refine lv_icmp_ge (tgt := 27) hx hb dX0_copyFrom_5 (by decide) (fun c_321 => ?_) (fun c_321 => ?_)
  · have hw := hw.1 c_321
    rw [eK_2] at hw
    refine lv_iconst (v := 0) hx hb dX0_copyFrom_27 (by decide) ?_
    refine lv_istore_n (lv' := [(2, .int 0), (0, .ref o), (1, .ref o2)]) hx hb dX0_copyFrom_28 rfl hl (by decide) rfl (fun ls hl => ?_)
    obtain ⟨n_476, hw⟩ := hw
    refine w_loop (KT := Int32 → ES → Prop) (σ := Int32 × ES) (Wl := fun Kx_29 n_29 q => wpl_X0_copyFrom_29 Y K Kx_29 n_29 q.1 q.2) (Pw := fun q => Wd g lay (put 26 o q.2 E0)) (lvf := fun q => [(0, .ref o), (1, .ref o2), (2, .int q.1)]) (nL := 3) n_476 (0, X_2) hw hW hS (lv_sub hl [1, 2, 0] rfl) (fun _ h => h) (fun Kx_29 eK_29 n_29 q H locs ls hw hW hS hl ih_29 => ?_)
    obtain ⟨i_322, X_323⟩ := q
    try dsimp only at hw
    rw [wpl_X0_copyFrom_29] at hw
    have hl : lv_has ls 3 [(0, .ref o), (1, .ref o2), (2, .int i_322)] := hl
    have hW : Wd g lay (put 26 o X_323 E0) H := hW
    refine lv_iload_n hx hb dX0_copyFrom_29 rfl (lv_at hl 2 rfl) ?_
    refine lv_iconst (v := 4) hx hb dX0_copyFrom_30 (by decide) ?_
    refine lv_icmp_ge (tgt := 53) hx hb dX0_copyFrom_31 (by decide) (fun c_424 => ?_) (fun c_424 => ?_)
    · have hw := hw.1 c_424
      rw [eK_29] at hw
      refine lv_iconst (v := 0) hx hb dX0_copyFrom_53 (by decide) ?_
      refine lv_istore_n (lv' := [(2, .int 0), (0, .ref o), (1, .ref o2)]) hx hb dX0_copyFrom_54 rfl hl (by decide) rfl (fun ls hl => ?_)
      obtain ⟨n_470, hw⟩ := hw
      refine w_loop (KT := Int32 → ES → Prop) (σ := Int32 × ES) (Wl := fun Kx_55 n_55 q => wpl_X0_copyFrom_55 Y K Kx_55 n_55 q.1 q.2) (Pw := fun q => Wd g lay (put 26 o q.2 E0)) (lvf := fun q => [(0, .ref o), (1, .ref o2), (2, .int q.1)]) (nL := 3) n_470 (0, X_323) hw hW hS (lv_sub hl [1, 2, 0] rfl) (fun _ h => h) (fun Kx_55 eK_55 n_55 q H locs ls hw hW hS hl ih_55 => ?_)
      obtain ⟨i_425, X_426⟩ := q
      try dsimp only at hw
      rw [wpl_X0_copyFrom_55] at hw
      have hl : lv_has ls 3 [(0, .ref o), (1, .ref o2), (2, .int i_425)] := hl
      have hW : Wd g lay (put 26 o X_426 E0) H := hW
      refine lv_iload_n hx hb dX0_copyFrom_55 rfl (lv_at hl 2 rfl) ?_
      refine lv_aload_n hx hb dX0_copyFrom_56 rfl (lv_at hl 0 rfl) ?_
      refine g_X0_42 hx hb hown hts hK hW HB.1 (putAt (k := 0) (by decide)) dX0_copyFrom_57 ?_
      refine w_alen (v := 5) hx hb hK hW 0 rfl HB.2.2.2.1 (putAt (k := 5) (by decide)) rfl rfl dX0_copyFrom_60 ?_
      refine lv_icmp_ge (tgt := 81) hx hb dX0_copyFrom_61 (by decide) (fun c_455 => ?_) (fun c_455 => ?_)
      · have hw := hw.1 c_455
        rw [eK_55] at hw
        refine lv_aload_n hx hb dX0_copyFrom_81 rfl (lv_at hl 0 rfl) ?_
        refine lv_aload_n hx hb dX0_copyFrom_82 rfl (lv_at hl 1 rfl) ?_
        refine g_X0_45 hx hb hown hts hK hW HB2.1 ((putOff (offTwo (k := 0) hd (by decide))).trans (hY 0 (by decide))) dX0_copyFrom_83 ?_
        obtain ⟨X_456, eX_456⟩ : ∃ z : ES, z = va_up X_426 0 (upd (X_426 0) 5 ((Y 0) 5)) := ⟨_, rfl⟩
        have hw := hw X_456 eX_456
        refine p_X0_45 (E1 := put 26 o X_456 E0) hx hb hown hts hK hA hW hS HB.1 (putAt (k := 0) (by decide)) dX0_copyFrom_86 (puE (k := 0) (by decide) eX_456) (fun H locs hW hS => ?_)
        refine lv_aload_n hx hb dX0_copyFrom_89 rfl (lv_at hl 0 rfl) ?_
        refine lv_aload_n hx hb dX0_copyFrom_90 rfl (lv_at hl 1 rfl) ?_
        refine g_X0_49 hx hb hown hts hK hW HB2.1 ((putOff (offTwo (k := 0) hd (by decide))).trans (hY 0 (by decide))) dX0_copyFrom_91 ?_
        obtain ⟨X_457, eX_457⟩ : ∃ z : ES, z = va_up X_456 0 (upd (X_456 0) 6 ((Y 0) 6)) := ⟨_, rfl⟩
        have hw := hw X_457 eX_457
        refine p_X0_49 (E1 := put 26 o X_457 E0) hx hb hown hts hK hA hW hS HB.1 (putAt (k := 0) (by decide)) dX0_copyFrom_94 (puE (k := 0) (by decide) eX_457) (fun H locs hW hS => ?_)
        refine lv_aload_n hx hb dX0_copyFrom_97 rfl (lv_at hl 0 rfl) ?_
        refine lv_aload_n hx hb dX0_copyFrom_98 rfl (lv_at hl 1 rfl) ?_
        refine g_X0_52 hx hb hown hts hK hW HB2.1 ((putOff (offTwo (k := 0) hd (by decide))).trans (hY 0 (by decide))) dX0_copyFrom_99 ?_
        obtain ⟨X_458, eX_458⟩ : ∃ z : ES, z = va_up X_457 0 (upd (X_457 0) 7 ((Y 0) 7)) := ⟨_, rfl⟩
        have hw := hw X_458 eX_458
        refine p_X0_52 (E1 := put 26 o X_458 E0) hx hb hown hts hK hA hW hS HB.1 (putAt (k := 0) (by decide)) dX0_copyFrom_102 (puE (k := 0) (by decide) eX_458) (fun H locs hW hS => ?_)
        refine lv_aload_n hx hb dX0_copyFrom_105 rfl (lv_at hl 0 rfl) ?_
        refine lv_aload_n hx hb dX0_copyFrom_106 rfl (lv_at hl 1 rfl) ?_
        refine g_X0_55 hx hb hown hts hK hW HB2.1 ((putOff (offTwo (k := 0) hd (by decide))).trans (hY 0 (by decide))) dX0_copyFrom_107 ?_
        obtain ⟨X_459, eX_459⟩ : ∃ z : ES, z = va_up X_458 0 (upd (X_458 0) 8 ((Y 0) 8)) := ⟨_, rfl⟩
        have hw := hw X_459 eX_459
        refine p_X0_55 (E1 := put 26 o X_459 E0) hx hb hown hts hK hA hW hS HB.1 (putAt (k := 0) (by decide)) dX0_copyFrom_110 (puE (k := 0) (by decide) eX_459) (fun H locs hW hS => ?_)
        refine lv_aload_n hx hb dX0_copyFrom_113 rfl (lv_at hl 0 rfl) ?_
        refine lv_aload_n hx hb dX0_copyFrom_114 rfl (lv_at hl 1 rfl) ?_
        refine g_X0_58 hx hb hown hts hK hW HB2.1 ((putOff (offTwo (k := 0) hd (by decide))).trans (hY 0 (by decide))) dX0_copyFrom_115 ?_
        obtain ⟨X_460, eX_460⟩ : ∃ z : ES, z = va_up X_459 0 (upd (X_459 0) 9 ((Y 0) 9)) := ⟨_, rfl⟩
        have hw := hw X_460 eX_460
        refine p_X0_58 (E1 := put 26 o X_460 E0) hx hb hown hts hK hA hW hS HB.1 (putAt (k := 0) (by decide)) dX0_copyFrom_118 (puE (k := 0) (by decide) eX_460) (fun H locs hW hS => ?_)
        refine lv_aload_n hx hb dX0_copyFrom_121 rfl (lv_at hl 0 rfl) ?_
        refine lv_aload_n hx hb dX0_copyFrom_122 rfl (lv_at hl 1 rfl) ?_
        refine g_X0_61 hx hb hown hts hK hW HB2.1 ((putOff (offTwo (k := 0) hd (by decide))).trans (hY 0 (by decide))) dX0_copyFrom_123 ?_
        obtain ⟨X_461, eX_461⟩ : ∃ z : ES, z = va_up X_460 0 (upd (X_460 0) 10 ((Y 0) 10)) := ⟨_, rfl⟩
        have hw := hw X_461 eX_461
        refine p_X0_61 (E1 := put 26 o X_461 E0) hx hb hown hts hK hA hW hS HB.1 (putAt (k := 0) (by decide)) dX0_copyFrom_126 (puE (k := 0) (by decide) eX_461) (fun H locs hW hS => ?_)
        refine lv_aload_n hx hb dX0_copyFrom_129 rfl (lv_at hl 0 rfl) ?_
        refine lv_aload_n hx hb dX0_copyFrom_130 rfl (lv_at hl 1 rfl) ?_
        refine g_X0_64 hx hb hown hts hK hW HB2.1 ((putOff (offTwo (k := 0) hd (by decide))).trans (hY 0 (by decide))) dX0_copyFrom_131 ?_
        obtain ⟨X_462, eX_462⟩ : ∃ z : ES, z = va_up X_461 0 (upd (X_461 0) 11 ((Y 0) 11)) := ⟨_, rfl⟩
        have hw := hw X_462 eX_462
        refine p_X0_64 (E1 := put 26 o X_462 E0) hx hb hown hts hK hA hW hS HB.1 (putAt (k := 0) (by decide)) dX0_copyFrom_134 (puE (k := 0) (by decide) eX_462) (fun H locs hW hS => ?_)
        refine lv_aload_n hx hb dX0_copyFrom_137 rfl (lv_at hl 0 rfl) ?_
        refine lv_aload_n hx hb dX0_copyFrom_138 rfl (lv_at hl 1 rfl) ?_
        refine g_X0_67 hx hb hown hts hK hW HB2.1 ((putOff (offTwo (k := 0) hd (by decide))).trans (hY 0 (by decide))) dX0_copyFrom_139 ?_
        obtain ⟨X_463, eX_463⟩ : ∃ z : ES, z = va_up X_462 0 (upd (X_462 0) 12 ((Y 0) 12)) := ⟨_, rfl⟩
        have hw := hw X_463 eX_463
        refine p_X0_67 (E1 := put 26 o X_463 E0) hx hb hown hts hK hA hW hS HB.1 (putAt (k := 0) (by decide)) dX0_copyFrom_142 (puE (k := 0) (by decide) eX_463) (fun H locs hW hS => ?_)
        refine lv_aload_n hx hb dX0_copyFrom_145 rfl (lv_at hl 0 rfl) ?_
        refine lv_aload_n hx hb dX0_copyFrom_146 rfl (lv_at hl 1 rfl) ?_
        refine g_X0_70 hx hb hown hts hK hW HB2.1 ((putOff (offTwo (k := 0) hd (by decide))).trans (hY 0 (by decide))) dX0_copyFrom_147 ?_
        obtain ⟨X_464, eX_464⟩ : ∃ z : ES, z = va_up X_463 0 (upd (X_463 0) 13 ((Y 0) 13)) := ⟨_, rfl⟩
        have hw := hw X_464 eX_464
        refine p_X0_70 (E1 := put 26 o X_464 E0) hx hb hown hts hK hA hW hS HB.1 (putAt (k := 0) (by decide)) dX0_copyFrom_150 (puE (k := 0) (by decide) eX_464) (fun H locs hW hS => ?_)
        refine lv_aload_n hx hb dX0_copyFrom_153 rfl (lv_at hl 0 rfl) ?_
        refine lv_aload_n hx hb dX0_copyFrom_154 rfl (lv_at hl 1 rfl) ?_
        refine g_X0_73 hx hb hown hts hK hW HB2.1 ((putOff (offTwo (k := 0) hd (by decide))).trans (hY 0 (by decide))) dX0_copyFrom_155 ?_
        obtain ⟨X_465, eX_465⟩ : ∃ z : ES, z = va_up X_464 0 (upd (X_464 0) 14 ((Y 0) 14)) := ⟨_, rfl⟩
        have hw := hw X_465 eX_465
        refine p_X0_73 (E1 := put 26 o X_465 E0) hx hb hown hts hK hA hW hS HB.1 (putAt (k := 0) (by decide)) dX0_copyFrom_158 (puE (k := 0) (by decide) eX_465) (fun H locs hW hS => ?_)
        refine lv_aload_n hx hb dX0_copyFrom_161 rfl (lv_at hl 0 rfl) ?_
        refine lv_aload_n hx hb dX0_copyFrom_162 rfl (lv_at hl 1 rfl) ?_
        refine g_X0_76 hx hb hown hts hK hW HB2.1 ((putOff (offTwo (k := 0) hd (by decide))).trans (hY 0 (by decide))) dX0_copyFrom_163 ?_
        obtain ⟨X_466, eX_466⟩ : ∃ z : ES, z = va_up X_465 0 (upd (X_465 0) 15 ((Y 0) 15)) := ⟨_, rfl⟩
        have hw := hw X_466 eX_466
        refine p_X0_76 (E1 := put 26 o X_466 E0) hx hb hown hts hK hA hW hS HB.1 (putAt (k := 0) (by decide)) dX0_copyFrom_166 (puE (k := 0) (by decide) eX_466) (fun H locs hW hS => ?_)
        exact w_vret hx hb hr hlocks hW hS ⟨X_466, rfl, hw⟩ dX0_copyFrom_169
      · have hw := hw.2 c_455
        refine lv_aload_n hx hb dX0_copyFrom_64 rfl (lv_at hl 0 rfl) ?_
        refine g_X0_42 hx hb hown hts hK hW HB.1 (putAt (k := 0) (by decide)) dX0_copyFrom_65 ?_
        refine lv_iload_n hx hb dX0_copyFrom_68 rfl (lv_at hl 2 rfl) ?_
        refine lv_aload_n hx hb dX0_copyFrom_69 rfl (lv_at hl 1 rfl) ?_
        refine lv_iload_n hx hb dX0_copyFrom_70 rfl (lv_at hl 2 rfl) ?_
        refine w_cvi (As := [.int i_425]) (rest := [.int i_425, .ref (o + 5)]) hx hb hml hown hts hK hW hS hl.1 (c_X0_settingAt hA HB2 (fun k hk => (putOff (offTwo hd hk)).trans (hY k hk))  hw) (k_X0_79 hts ⟨Nat.le_of_ble_eq_true rfl, Nat.le_of_ble_eq_true rfl⟩) (w_recv hK hW HB2.1 ((putOff (offTwo (k := 0) hd (by decide))).trans (hY 0 (by decide))) rfl rfl) rfl rfl (Nat.le_of_ble_eq_true rfl) dX0_copyFrom_71 ⟨Nat.zero_le _, Nat.zero_le _⟩ (fun r_467 Ez H locs hw2 hW hS => ?_)
        obtain ⟨ez, hw⟩ := hw2
        rw [ez] at hW
        obtain ⟨hin, hw⟩ := hw
        obtain ⟨X_468, eX_468⟩ : ∃ z : ES, z = va_up X_426 5 (upd (X_426 5) i_425.toNatClampNeg r_467) := ⟨_, rfl⟩
        have hw := hw X_468 eX_468
        refine w_iast (E1 := put 26 o X_468 E0) hx hb hK hA hW hS HB.2.2.2.1 (putAt (k := 5) (by decide)) hin dX0_copyFrom_74 (puE (k := 5) (by decide) eX_468) (fun H locs hW hS => ?_)
        obtain ⟨v_469, ev_469⟩ : ∃ z : Int32, z = i_425 + 1 := ⟨_, rfl⟩
        have hw := hw v_469 ev_469
        refine lv_iinc (v := v_469) (lv' := [(2, .int v_469), (0, .ref o), (1, .ref o2)]) hx hb dX0_copyFrom_75 hl (k := 2) rfl (by rw [ev_469]; rfl) (by decide) rfl (fun ls hl => ?_)
        refine lv_goto (tgt := 55) hx hb dX0_copyFrom_78 (by decide) ?_
        exact ih_55 (v_469, X_468) _ _ _ hw hW hS (lv_sub hl [1, 2, 0] rfl)
    · have hw := hw.2 c_424
      refine lv_aload_n hx hb dX0_copyFrom_34 rfl (lv_at hl 0 rfl) ?_
      refine lv_iload_n hx hb dX0_copyFrom_35 rfl (lv_at hl 2 rfl) ?_
      refine w_cvr (As := [.int i_322]) (rest := []) hx hb hml hown hts hK hW hS hl.1 (c_X0_finderAt hA HB i_322) (k_X0_90 hts ⟨Nat.le_of_ble_eq_true rfl, Nat.le_of_ble_eq_true rfl⟩) (w_recv hK hW HB.1 (putAt (k := 0) (by decide)) rfl rfl) rfl rfl (Nat.le_of_ble_eq_true rfl) dX0_copyFrom_36 ⟨Nat.zero_le _, Nat.zero_le _⟩ (fun q_471 Ez H locs hw2 hW hS => ?_)
      obtain ⟨ez, rfl⟩ := hw2
      rw [ez] at hW
      refine lv_aload_n hx hb dX0_copyFrom_39 rfl (lv_at hl 1 rfl) ?_
      refine lv_iload_n hx hb dX0_copyFrom_40 rfl (lv_at hl 2 rfl) ?_
      refine w_cvr (As := [.int i_322]) (rest := [.ref (o + fix i_322)]) hx hb hml hown hts hK hW hS hl.1 (c_X0_finderAt hA HB2 i_322) (k_X0_90 hts ⟨Nat.le_of_ble_eq_true rfl, Nat.le_of_ble_eq_true rfl⟩) (w_recv hK hW HB2.1 ((putOff (offTwo (k := 0) hd (by decide))).trans (hY 0 (by decide))) rfl rfl) rfl rfl (Nat.le_of_ble_eq_true rfl) dX0_copyFrom_41 ⟨Nat.zero_le _, Nat.zero_le _⟩ (fun q_472 Ez H locs hw2 hW hS => ?_)
      obtain ⟨ez, rfl⟩ := hw2
      rw [ez] at hW
      refine w_cvv (As := [.ref (o2 + fix i_322)]) (rest := []) hx hb hml hown hts hK hW hS hl.1 (c_X1_copyFrom hA (HB.2.2.2.2.2 _ (isFi_fix i_322)) (HB2.2.2.2.2.2 _ (isFi_fix i_322)) (putAt (k := fix i_322) (isFi_lt (isFi_fix i_322))) ((putOff (offTwo (k := (fix i_322)) hd (isFi_lt (isFi_fix i_322)))).trans (hY (fix i_322) (isFi_lt (isFi_fix i_322)))) (neTwo hd (isFi_lt (isFi_fix i_322)) (isFi_lt (isFi_fix i_322))) hw) (k_X0_99 hts ⟨Nat.le_of_ble_eq_true rfl, Nat.le_of_ble_eq_true rfl⟩) (w_recv hK hW (HB.2.2.2.2.2 _ (isFi_fix i_322)) (putAt (k := fix i_322) (isFi_lt (isFi_fix i_322))) rfl rfl) rfl rfl (Nat.le_of_ble_eq_true rfl) dX0_copyFrom_44 ⟨Nat.zero_le _, Nat.zero_le _⟩ (fun Ez H locs hw2 hW hS => ?_)
      obtain ⟨Y_473, ez, hw⟩ := hw2
      rw [ez] at hW
      obtain ⟨X_474, eX_474⟩ : ∃ z : ES, z = va_up X_323 (fix i_322) Y_473 := ⟨_, rfl⟩
      have hw := hw X_474 eX_474
      have hW : Wd g lay (put 26 o X_474 E0) H := by rw [eX_474, ← putUp (k := fix i_322) (isFi_lt (isFi_fix i_322))]; exact hW
      obtain ⟨v_475, ev_475⟩ : ∃ z : Int32, z = i_322 + 1 := ⟨_, rfl⟩
      have hw := hw v_475 ev_475
      refine lv_iinc (v := v_475) (lv' := [(2, .int v_475), (0, .ref o), (1, .ref o2)]) hx hb dX0_copyFrom_47 hl (k := 2) rfl (by rw [ev_475]; rfl) (by decide) rfl (fun ls hl => ?_)
      refine lv_goto (tgt := 29) hx hb dX0_copyFrom_50 (by decide) ?_
      exact ih_29 (v_475, X_474) _ _ _ hw hW hS (lv_sub hl [1, 2, 0] rfl)
  · have hw := hw.2 c_321
    refine lv_aload_n hx hb dX0_copyFrom_8 rfl (lv_at hl 0 rfl) ?_
    refine lv_iload_n hx hb dX0_copyFrom_9 rfl (lv_at hl 2 rfl) ?_
    refine w_cvr (As := [.int i_1]) (rest := []) hx hb hml hown hts hK hW hS hl.1 (c_X0_lineAt hA HB i_1) (k_X0_83 hts ⟨Nat.le_of_ble_eq_true rfl, Nat.le_of_ble_eq_true rfl⟩) (w_recv hK hW HB.1 (putAt (k := 0) (by decide)) rfl rfl) rfl rfl (Nat.le_of_ble_eq_true rfl) dX0_copyFrom_10 ⟨Nat.zero_le _, Nat.zero_le _⟩ (fun q_477 Ez H locs hw2 hW hS => ?_)
    obtain ⟨ez, rfl⟩ := hw2
    rw [ez] at hW
    refine lv_aload_n hx hb dX0_copyFrom_13 rfl (lv_at hl 1 rfl) ?_
    refine lv_iload_n hx hb dX0_copyFrom_14 rfl (lv_at hl 2 rfl) ?_
    refine w_cvr (As := [.int i_1]) (rest := [.ref (o + lix i_1)]) hx hb hml hown hts hK hW hS hl.1 (c_X0_lineAt hA HB2 i_1) (k_X0_83 hts ⟨Nat.le_of_ble_eq_true rfl, Nat.le_of_ble_eq_true rfl⟩) (w_recv hK hW HB2.1 ((putOff (offTwo (k := 0) hd (by decide))).trans (hY 0 (by decide))) rfl rfl) rfl rfl (Nat.le_of_ble_eq_true rfl) dX0_copyFrom_15 ⟨Nat.zero_le _, Nat.zero_le _⟩ (fun q_478 Ez H locs hw2 hW hS => ?_)
    obtain ⟨ez, rfl⟩ := hw2
    rw [ez] at hW
    refine w_cvv (As := [.ref (o2 + lix i_1)]) (rest := []) hx hb hml hown hts hK hW hS hl.1 (c_X2_copyFrom hA (HB.2.2.2.2.1 _ (isLi_lix i_1)) (HB2.2.2.2.2.1 _ (isLi_lix i_1)) (putAt (k := lix i_1) (isLi_lt (isLi_lix i_1))) ((putOff (offTwo (k := (lix i_1)) hd (isLi_lt (isLi_lix i_1)))).trans (hY (lix i_1) (isLi_lt (isLi_lix i_1)))) (neTwo hd (isLi_lt (isLi_lix i_1)) (isLi_lt (isLi_lix i_1))) hw) (k_X0_95 hts ⟨Nat.le_of_ble_eq_true rfl, Nat.le_of_ble_eq_true rfl⟩) (w_recv hK hW (HB.2.2.2.2.1 _ (isLi_lix i_1)) (putAt (k := lix i_1) (isLi_lt (isLi_lix i_1))) rfl rfl) rfl rfl (Nat.le_of_ble_eq_true rfl) dX0_copyFrom_18 ⟨Nat.zero_le _, Nat.zero_le _⟩ (fun Ez H locs hw2 hW hS => ?_)
    obtain ⟨Y_479, ez, hw⟩ := hw2
    rw [ez] at hW
    obtain ⟨X_480, eX_480⟩ : ∃ z : ES, z = va_up X_2 (lix i_1) Y_479 := ⟨_, rfl⟩
    have hw := hw X_480 eX_480
    have hW : Wd g lay (put 26 o X_480 E0) H := by rw [eX_480, ← putUp (k := lix i_1) (isLi_lt (isLi_lix i_1))]; exact hW
    obtain ⟨v_481, ev_481⟩ : ∃ z : Int32, z = i_1 + 1 := ⟨_, rfl⟩
    have hw := hw v_481 ev_481
    refine lv_iinc (v := v_481) (lv' := [(2, .int v_481), (0, .ref o), (1, .ref o2)]) hx hb dX0_copyFrom_21 hl (k := 2) rfl (by rw [ev_481]; rfl) (by decide) rfl (fun ls hl => ?_)
    refine lv_goto (tgt := 2) hx hb dX0_copyFrom_24 (by decide) ?_
    exact ih_2 (v_481, X_480) _ _ _ hw hW hS (lv_sub hl [1, 2, 0] rfl)
set_option maxHeartbeats 4000000 in
set_option maxRecDepth 100000 in
theorem c_X0_liftLine {l : Launch} {g : GG} {lay : LY} {E0 : ES} {o : Nat} {X : ES} {p1 : Int32} {K : Int32 → ES → Prop} (hA : okL g lay) (HB : XL g lay o) (hX : ∀ k, k < 26 → E0 (o + k) = X k) (hw : wp_X0_liftLine X p1 K) : JMi l g lay yX0_liftLine wsX0_liftLine rmX0_liftLine [.ref o, .int p1] E0 (fun r E1 => ∃ X1 : ES, E1 = put 26 o X1 E0 ∧ K r X1) := by
  refine Met.ofW (cc := cX0_liftLine) (maxL := 3) (ret := (some .int)) (by decide) rfl ?_
  intro p e s m args below meth c s₁ B hml hv
  obtain ⟨rfl, hK, hW⟩ := hv
  have hx := B.exec
  have hb := B.bytes
  have hr := B.returns
  have hts := gd_of (atoms_spec (ws := wsX0_liftLine) B.pre)
  have hown : s.vm.findClass RX0 = some m.cls := findClass_of_methodNamed B.named
  have hlocks := B.notSynchronized
  have hS : va_S (Ab g) s.heap s.heap [] := va_S.rf
  have hW : Wd g lay (put 26 o X E0) s.heap := by rw [putSelf hX]; exact hW
  have hl := lv_entry [.ref o, .int p1] (n := 3) (Nat.le_of_ble_eq_true rfl)
  rw [lg_entry_eq]
  generalize (lg_sl [.ref o, .int p1] ++ List.replicate (3 - (lg_sl [.ref o, .int p1]).length) Slot.unset).toArray = ls at hl ⊢
  have hl : lv_has ls 3 [(0, .ref o), (1, .int p1)] := hl
  unfold wp_X0_liftLine at hw
  refine lv_aload_n hx hb dX0_liftLine_0 rfl (lv_at hl 0 rfl) ?_
  refine lv_iload_n hx hb dX0_liftLine_1 rfl (lv_at hl 1 rfl) ?_
  refine w_cvr (As := [.int p1]) (rest := []) hx hb hml hown hts hK hW hS hl.1 (c_X0_lineAt hA HB p1) (k_X0_83 hts ⟨Nat.le_of_ble_eq_true rfl, Nat.le_of_ble_eq_true rfl⟩) (w_recv hK hW HB.1 (putAt (k := 0) (by decide)) rfl rfl) rfl rfl (Nat.le_of_ble_eq_true rfl) dX0_liftLine_2 ⟨Nat.zero_le _, Nat.zero_le _⟩ (fun q_1 Ez H locs hw2 hW hS => ?_)
  obtain ⟨ez, rfl⟩ := hw2
  rw [ez] at hW
  refine lv_astore_n (lv' := [(2, .ref (o + lix p1)), (0, .ref o), (1, .int p1)]) hx hb dX0_liftLine_5 rfl hl (by decide) rfl (fun ls hl => ?_)
  refine lv_aload_n hx hb dX0_liftLine_6 rfl (lv_at hl 0 rfl) ?_
  refine g_X0_102 hx hb hown hts hK hW (HB.2.2.2.2.1 _ (isLi_lix p1)) (putAt (k := lix p1) (isLi_lt (isLi_lix p1))) dX0_liftLine_7 ?_
  refine lv_if_eq (tgt := 16) hx hb dX0_liftLine_10 (by decide) (fun c_2 => ?_) (fun c_2 => ?_)
  · have hw := hw.1 c_2
    refine lv_aload_n hx hb dX0_liftLine_16 rfl (lv_at hl 0 rfl) ?_
    refine lv_iconst (v := 1) hx hb dX0_liftLine_17 (by decide) ?_
    obtain ⟨X_3, eX_3⟩ : ∃ z : ES, z = va_up X (lix p1) (upd (X (lix p1)) 1 1) := ⟨_, rfl⟩
    have hw := hw X_3 eX_3
    refine p_X0_102 (E1 := put 26 o X_3 E0) hx hb hown hts hK hA hW hS (HB.2.2.2.2.1 _ (isLi_lix p1)) (putAt (k := lix p1) (isLi_lt (isLi_lix p1))) (Or.inr rfl) dX0_liftLine_18 (puE (k := lix p1) (isLi_lt (isLi_lix p1)) eX_3) (fun H locs hW hS => ?_)
    refine lv_aload_n hx hb dX0_liftLine_21 rfl (lv_at hl 0 rfl) ?_
    refine g_X0_106 hx hb hown hts hK hW (HB.2.2.2.2.1 _ (isLi_lix p1)) (putAt (k := lix p1) (isLi_lt (isLi_lix p1))) dX0_liftLine_22 ?_
    refine lv_if_ne (tgt := 56) hx hb dX0_liftLine_25 (by decide) (fun c_4 => ?_) (fun c_4 => ?_)
    · have hw := hw.2 c_4
      refine lv_aload_n hx hb dX0_liftLine_56 rfl (lv_at hl 0 rfl) ?_
      refine g_X0_106 hx hb hown hts hK hW (HB.2.2.2.2.1 _ (isLi_lix p1)) (putAt (k := lix p1) (isLi_lt (isLi_lix p1))) dX0_liftLine_57 ?_
      exact w_iret hx hb hr hlocks hW hS ⟨X_3, rfl, hw⟩ dX0_liftLine_60
    · have hw := hw.1 c_4
      refine lv_aload_n hx hb dX0_liftLine_28 rfl (lv_at hl 0 rfl) ?_
      refine lv_iconst (v := 1) hx hb dX0_liftLine_29 (by decide) ?_
      obtain ⟨X_5, eX_5⟩ : ∃ z : ES, z = va_up X_3 (lix p1) (upd (X_3 (lix p1)) 0 1) := ⟨_, rfl⟩
      have hw := hw X_5 eX_5
      refine p_X0_106 (E1 := put 26 o X_5 E0) hx hb hown hts hK hA hW hS (HB.2.2.2.2.1 _ (isLi_lix p1)) (putAt (k := lix p1) (isLi_lt (isLi_lix p1))) dX0_liftLine_30 (puE (k := lix p1) (isLi_lt (isLi_lix p1)) eX_5) (fun H locs hW hS => ?_)
      refine lv_aload_n hx hb dX0_liftLine_33 rfl (lv_at hl 0 rfl) ?_
      refine lv_iconst (v := 0) hx hb dX0_liftLine_34 (by decide) ?_
      obtain ⟨X_6, eX_6⟩ : ∃ z : ES, z = va_up X_5 (lix p1) (upd (X_5 (lix p1)) 3 0) := ⟨_, rfl⟩
      have hw := hw X_6 eX_6
      refine p_X0_109 (E1 := put 26 o X_6 E0) hx hb hown hts hK hA hW hS (HB.2.2.2.2.1 _ (isLi_lix p1)) (putAt (k := lix p1) (isLi_lt (isLi_lix p1))) dX0_liftLine_35 (puE (k := lix p1) (isLi_lt (isLi_lix p1)) eX_6) (fun H locs hW hS => ?_)
      refine lv_aload_n hx hb dX0_liftLine_38 rfl (lv_at hl 1 rfl) ?_
      refine lv_dup hx hb dX0_liftLine_39 rfl ?_
      refine g_X0_58 hx hb hown hts hK hW HB.1 (putAt (k := 0) (by decide)) dX0_liftLine_40 ?_
      refine lv_iconst (v := 1) hx hb dX0_liftLine_43 (by decide) ?_
      refine lv_iadd hx hb dX0_liftLine_44 ?_
      obtain ⟨X_7, eX_7⟩ : ∃ z : ES, z = va_up X_6 0 (upd (X_6 0) 9 (((X_6 0) 9) + 1)) := ⟨_, rfl⟩
      have hw := hw X_7 eX_7
      refine p_X0_58 (E1 := put 26 o X_7 E0) hx hb hown hts hK hA hW hS HB.1 (putAt (k := 0) (by decide)) dX0_liftLine_45 (puE (k := 0) (by decide) eX_7) (fun H locs hW hS => ?_)
      refine lv_aload_n hx hb dX0_liftLine_48 rfl (lv_at hl 0 rfl) ?_
      refine lv_aload_n hx hb dX0_liftLine_49 rfl (lv_at hl 1 rfl) ?_
      refine g_X0_58 hx hb hown hts hK hW HB.1 (putAt (k := 0) (by decide)) dX0_liftLine_50 ?_
      obtain ⟨X_8, eX_8⟩ : ∃ z : ES, z = va_up X_7 (lix p1) (upd (X_7 (lix p1)) 7 ((X_7 0) 9)) := ⟨_, rfl⟩
      have hw := hw X_8 eX_8
      refine p_X0_112 (E1 := put 26 o X_8 E0) hx hb hown hts hK hA hW hS (HB.2.2.2.2.1 _ (isLi_lix p1)) (putAt (k := lix p1) (isLi_lt (isLi_lix p1))) dX0_liftLine_53 (puE (k := lix p1) (isLi_lt (isLi_lix p1)) eX_8) (fun H locs hW hS => ?_)
      refine lv_aload_n hx hb dX0_liftLine_56 rfl (lv_at hl 0 rfl) ?_
      refine g_X0_106 hx hb hown hts hK hW (HB.2.2.2.2.1 _ (isLi_lix p1)) (putAt (k := lix p1) (isLi_lt (isLi_lix p1))) dX0_liftLine_57 ?_
      exact w_iret hx hb hr hlocks hW hS ⟨X_8, rfl, hw⟩ dX0_liftLine_60
  · have hw := hw.2 c_2
    refine lv_bipush (v := (-5)) hx hb dX0_liftLine_13 (by decide) ?_
    exact w_iret hx hb hr hlocks hW hS ⟨X, rfl, hw⟩ dX0_liftLine_15
set_option maxHeartbeats 4000000 in
set_option maxRecDepth 100000 in
theorem c_X0_release {l : Launch} {g : GG} {lay : LY} {E0 : ES} {o : Nat} {X : ES} {k1 : Nat} {K : ES → Prop} (hA : okL g lay) (HB : XL g lay o) (hX : ∀ k, k < 26 → E0 (o + k) = X k) (h1 : isFi k1) (hw : wp_X0_release X k1 K) : JMv l g lay yX0_release wsX0_release rmX0_release [.ref o, .ref (o + k1)] E0 (fun E1 => ∃ X1 : ES, E1 = put 26 o X1 E0 ∧ K X1) := by
  refine Met.ofW (cc := cX0_release) (maxL := 3) (ret := none) (by decide) rfl ?_
  intro p e s m args below meth c s₁ B hml hv
  obtain ⟨rfl, hK, hW⟩ := hv
  have hx := B.exec
  have hb := B.bytes
  have hr := B.returns
  have hts := gd_of (atoms_spec (ws := wsX0_release) B.pre)
  have hown : s.vm.findClass RX0 = some m.cls := findClass_of_methodNamed B.named
  have hlocks := B.notSynchronized
  have hS : va_S (Ab g) s.heap s.heap [] := va_S.rf
  have hW : Wd g lay (put 26 o X E0) s.heap := by rw [putSelf hX]; exact hW
  have hl := lv_entry [.ref o, .ref (o + k1)] (n := 3) (Nat.le_of_ble_eq_true rfl)
  rw [lg_entry_eq]
  generalize (lg_sl [.ref o, .ref (o + k1)] ++ List.replicate (3 - (lg_sl [.ref o, .ref (o + k1)]).length) Slot.unset).toArray = ls at hl ⊢
  have hl : lv_has ls 3 [(0, .ref o), (1, .ref (o + k1))] := hl
  unfold wp_X0_release at hw
  refine lv_aload_n hx hb dX0_release_0 rfl (lv_at hl 0 rfl) ?_
  refine lv_aload_n hx hb dX0_release_1 rfl (lv_at hl 1 rfl) ?_
  refine g_X0_129 hx hb hown hts hK hW (HB.2.2.2.2.2 _ h1) (putAt (k := k1) (isFi_lt h1)) dX0_release_2 ?_
  refine w_cvr (As := [.int ((X k1) 9)]) (rest := []) hx hb hml hown hts hK hW hS hl.1 (c_X0_lineAt hA HB ((X k1) 9)) (k_X0_83 hts ⟨Nat.le_of_ble_eq_true rfl, Nat.le_of_ble_eq_true rfl⟩) (w_recv hK hW HB.1 (putAt (k := 0) (by decide)) rfl rfl) rfl rfl (Nat.le_of_ble_eq_true rfl) dX0_release_5 ⟨Nat.zero_le _, Nat.zero_le _⟩ (fun q_1 Ez H locs hw2 hW hS => ?_)
  obtain ⟨ez, rfl⟩ := hw2
  rw [ez] at hW
  refine lv_astore_n (lv' := [(2, .ref (o + lix ((X k1) 9))), (0, .ref o), (1, .ref (o + k1))]) hx hb dX0_release_8 rfl hl (by decide) rfl (fun ls hl => ?_)
  refine lv_aload_n hx hb dX0_release_9 rfl (lv_at hl 0 rfl) ?_
  refine w_cvi (As := []) (rest := []) hx hb hml hown hts hK hW hS hl.1 (c_X2_isCalledByAnother hA (HB.2.2.2.2.1 _ (isLi_lix ((X k1) 9))) (putAt (k := lix ((X k1) 9)) (isLi_lt (isLi_lix ((X k1) 9)))) hw) (k_X0_115 hts ⟨Nat.le_of_ble_eq_true rfl, Nat.le_of_ble_eq_true rfl⟩) (w_recv hK hW (HB.2.2.2.2.1 _ (isLi_lix ((X k1) 9))) (putAt (k := lix ((X k1) 9)) (isLi_lt (isLi_lix ((X k1) 9)))) rfl rfl) rfl rfl (Nat.le_of_ble_eq_true rfl) dX0_release_10 ⟨Nat.zero_le _, Nat.zero_le _⟩ (fun r_2 Ez H locs hw2 hW hS => ?_)
  obtain ⟨ez, z_3, hw⟩ := hw2
  rw [ez] at hW
  refine lv_if_eq (tgt := 38) hx hb dX0_release_13 (by decide) (fun c_4 => ?_) (fun c_4 => ?_)
  · have hw := hw.1 c_4
    refine lv_aload_n hx hb dX0_release_38 rfl (lv_at hl 0 rfl) ?_
    refine w_cvi (As := []) (rest := []) hx hb hml hown hts hK hW hS hl.1 (c_X2_isCalledByAnother hA (HB.2.2.2.2.1 _ (isLi_lix ((X k1) 9))) (putAt (k := lix ((X k1) 9)) (isLi_lt (isLi_lix ((X k1) 9)))) hw) (k_X0_115 hts ⟨Nat.le_of_ble_eq_true rfl, Nat.le_of_ble_eq_true rfl⟩) (w_recv hK hW (HB.2.2.2.2.1 _ (isLi_lix ((X k1) 9))) (putAt (k := lix ((X k1) 9)) (isLi_lt (isLi_lix ((X k1) 9)))) rfl rfl) rfl rfl (Nat.le_of_ble_eq_true rfl) dX0_release_39 ⟨Nat.zero_le _, Nat.zero_le _⟩ (fun r_5 Ez H locs hw2 hW hS => ?_)
    obtain ⟨ez, z_6, hw⟩ := hw2
    rw [ez] at hW
    refine lv_if_eq (tgt := 50) hx hb dX0_release_42 (by decide) (fun c_7 => ?_) (fun c_7 => ?_)
    · have hw := hw.1 c_7
      refine lv_aload_n hx hb dX0_release_50 rfl (lv_at hl 2 rfl) ?_
      refine w_cvv (As := []) (rest := []) hx hb hml hown hts hK hW hS hl.1 (c_X1_becomeFree hA (HB.2.2.2.2.2 _ h1) (putAt (k := k1) (isFi_lt h1)) hw) (k_X0_132 hts ⟨Nat.le_of_ble_eq_true rfl, Nat.le_of_ble_eq_true rfl⟩) (w_recv hK hW (HB.2.2.2.2.2 _ h1) (putAt (k := k1) (isFi_lt h1)) rfl rfl) rfl rfl (Nat.le_of_ble_eq_true rfl) dX0_release_51 ⟨Nat.zero_le _, Nat.zero_le _⟩ (fun Ez H locs hw2 hW hS => ?_)
      obtain ⟨Y_8, ez, hw⟩ := hw2
      rw [ez] at hW
      obtain ⟨X_9, eX_9⟩ : ∃ z : ES, z = va_up X k1 Y_8 := ⟨_, rfl⟩
      have hw := hw X_9 eX_9
      have hW : Wd g lay (put 26 o X_9 E0) H := by rw [eX_9, ← putUp (k := k1) (isFi_lt h1)]; exact hW
      exact w_vret hx hb hr hlocks hW hS ⟨X_9, rfl, hw⟩ dX0_release_54
    · have hw := hw.2 c_7
      refine lv_aload_n hx hb dX0_release_45 rfl (lv_at hl 0 rfl) ?_
      refine lv_iconst (v := 0) hx hb dX0_release_46 (by decide) ?_
      refine w_cvv (As := [.int 0]) (rest := []) hx hb hml hown hts hK hW hS hl.1 (c_X2_leaveCall hA (HB.2.2.2.2.1 _ (isLi_lix ((X k1) 9))) (putAt (k := lix ((X k1) 9)) (isLi_lt (isLi_lix ((X k1) 9)))) hw) (k_X0_125 hts ⟨Nat.le_of_ble_eq_true rfl, Nat.le_of_ble_eq_true rfl⟩) (w_recv hK hW (HB.2.2.2.2.1 _ (isLi_lix ((X k1) 9))) (putAt (k := lix ((X k1) 9)) (isLi_lt (isLi_lix ((X k1) 9)))) rfl rfl) rfl rfl (Nat.le_of_ble_eq_true rfl) dX0_release_47 ⟨Nat.zero_le _, Nat.zero_le _⟩ (fun Ez H locs hw2 hW hS => ?_)
      obtain ⟨Y_10, ez, hw⟩ := hw2
      rw [ez] at hW
      obtain ⟨X_11, eX_11⟩ : ∃ z : ES, z = va_up X (lix ((X k1) 9)) Y_10 := ⟨_, rfl⟩
      have hw := hw X_11 eX_11
      have hW : Wd g lay (put 26 o X_11 E0) H := by rw [eX_11, ← putUp (k := lix ((X k1) 9)) (isLi_lt (isLi_lix ((X k1) 9)))]; exact hW
      refine lv_aload_n hx hb dX0_release_50 rfl (lv_at hl 2 rfl) ?_
      refine w_cvv (As := []) (rest := []) hx hb hml hown hts hK hW hS hl.1 (c_X1_becomeFree hA (HB.2.2.2.2.2 _ h1) (putAt (k := k1) (isFi_lt h1)) hw) (k_X0_132 hts ⟨Nat.le_of_ble_eq_true rfl, Nat.le_of_ble_eq_true rfl⟩) (w_recv hK hW (HB.2.2.2.2.2 _ h1) (putAt (k := k1) (isFi_lt h1)) rfl rfl) rfl rfl (Nat.le_of_ble_eq_true rfl) dX0_release_51 ⟨Nat.zero_le _, Nat.zero_le _⟩ (fun Ez H locs hw2 hW hS => ?_)
      obtain ⟨Y_12, ez, hw⟩ := hw2
      rw [ez] at hW
      obtain ⟨X_13, eX_13⟩ : ∃ z : ES, z = va_up X_11 k1 Y_12 := ⟨_, rfl⟩
      have hw := hw X_13 eX_13
      have hW : Wd g lay (put 26 o X_13 E0) H := by rw [eX_13, ← putUp (k := k1) (isFi_lt h1)]; exact hW
      exact w_vret hx hb hr hlocks hW hS ⟨X_13, rfl, hw⟩ dX0_release_54
  · have hw := hw.2 c_4
    refine lv_aload_n hx hb dX0_release_16 rfl (lv_at hl 0 rfl) ?_
    refine g_X0_102 hx hb hown hts hK hW (HB.2.2.2.2.1 _ (isLi_lix ((X k1) 9))) (putAt (k := lix ((X k1) 9)) (isLi_lt (isLi_lix ((X k1) 9)))) dX0_release_17 ?_
    refine lv_if_eq (tgt := 38) hx hb dX0_release_20 (by decide) (fun c_14 => ?_) (fun c_14 => ?_)
    · have hw := hw.1 c_14
      refine lv_aload_n hx hb dX0_release_38 rfl (lv_at hl 0 rfl) ?_
      refine w_cvi (As := []) (rest := []) hx hb hml hown hts hK hW hS hl.1 (c_X2_isCalledByAnother hA (HB.2.2.2.2.1 _ (isLi_lix ((X k1) 9))) (putAt (k := lix ((X k1) 9)) (isLi_lt (isLi_lix ((X k1) 9)))) hw) (k_X0_115 hts ⟨Nat.le_of_ble_eq_true rfl, Nat.le_of_ble_eq_true rfl⟩) (w_recv hK hW (HB.2.2.2.2.1 _ (isLi_lix ((X k1) 9))) (putAt (k := lix ((X k1) 9)) (isLi_lt (isLi_lix ((X k1) 9)))) rfl rfl) rfl rfl (Nat.le_of_ble_eq_true rfl) dX0_release_39 ⟨Nat.zero_le _, Nat.zero_le _⟩ (fun r_15 Ez H locs hw2 hW hS => ?_)
      obtain ⟨ez, z_16, hw⟩ := hw2
      rw [ez] at hW
      refine lv_if_eq (tgt := 50) hx hb dX0_release_42 (by decide) (fun c_17 => ?_) (fun c_17 => ?_)
      · have hw := hw.1 c_17
        refine lv_aload_n hx hb dX0_release_50 rfl (lv_at hl 2 rfl) ?_
        refine w_cvv (As := []) (rest := []) hx hb hml hown hts hK hW hS hl.1 (c_X1_becomeFree hA (HB.2.2.2.2.2 _ h1) (putAt (k := k1) (isFi_lt h1)) hw) (k_X0_132 hts ⟨Nat.le_of_ble_eq_true rfl, Nat.le_of_ble_eq_true rfl⟩) (w_recv hK hW (HB.2.2.2.2.2 _ h1) (putAt (k := k1) (isFi_lt h1)) rfl rfl) rfl rfl (Nat.le_of_ble_eq_true rfl) dX0_release_51 ⟨Nat.zero_le _, Nat.zero_le _⟩ (fun Ez H locs hw2 hW hS => ?_)
        obtain ⟨Y_18, ez, hw⟩ := hw2
        rw [ez] at hW
        obtain ⟨X_19, eX_19⟩ : ∃ z : ES, z = va_up X k1 Y_18 := ⟨_, rfl⟩
        have hw := hw X_19 eX_19
        have hW : Wd g lay (put 26 o X_19 E0) H := by rw [eX_19, ← putUp (k := k1) (isFi_lt h1)]; exact hW
        exact w_vret hx hb hr hlocks hW hS ⟨X_19, rfl, hw⟩ dX0_release_54
      · have hw := hw.2 c_17
        refine lv_aload_n hx hb dX0_release_45 rfl (lv_at hl 0 rfl) ?_
        refine lv_iconst (v := 0) hx hb dX0_release_46 (by decide) ?_
        refine w_cvv (As := [.int 0]) (rest := []) hx hb hml hown hts hK hW hS hl.1 (c_X2_leaveCall hA (HB.2.2.2.2.1 _ (isLi_lix ((X k1) 9))) (putAt (k := lix ((X k1) 9)) (isLi_lt (isLi_lix ((X k1) 9)))) hw) (k_X0_125 hts ⟨Nat.le_of_ble_eq_true rfl, Nat.le_of_ble_eq_true rfl⟩) (w_recv hK hW (HB.2.2.2.2.1 _ (isLi_lix ((X k1) 9))) (putAt (k := lix ((X k1) 9)) (isLi_lt (isLi_lix ((X k1) 9)))) rfl rfl) rfl rfl (Nat.le_of_ble_eq_true rfl) dX0_release_47 ⟨Nat.zero_le _, Nat.zero_le _⟩ (fun Ez H locs hw2 hW hS => ?_)
        obtain ⟨Y_20, ez, hw⟩ := hw2
        rw [ez] at hW
        obtain ⟨X_21, eX_21⟩ : ∃ z : ES, z = va_up X (lix ((X k1) 9)) Y_20 := ⟨_, rfl⟩
        have hw := hw X_21 eX_21
        have hW : Wd g lay (put 26 o X_21 E0) H := by rw [eX_21, ← putUp (k := lix ((X k1) 9)) (isLi_lt (isLi_lix ((X k1) 9)))]; exact hW
        refine lv_aload_n hx hb dX0_release_50 rfl (lv_at hl 2 rfl) ?_
        refine w_cvv (As := []) (rest := []) hx hb hml hown hts hK hW hS hl.1 (c_X1_becomeFree hA (HB.2.2.2.2.2 _ h1) (putAt (k := k1) (isFi_lt h1)) hw) (k_X0_132 hts ⟨Nat.le_of_ble_eq_true rfl, Nat.le_of_ble_eq_true rfl⟩) (w_recv hK hW (HB.2.2.2.2.2 _ h1) (putAt (k := k1) (isFi_lt h1)) rfl rfl) rfl rfl (Nat.le_of_ble_eq_true rfl) dX0_release_51 ⟨Nat.zero_le _, Nat.zero_le _⟩ (fun Ez H locs hw2 hW hS => ?_)
        obtain ⟨Y_22, ez, hw⟩ := hw2
        rw [ez] at hW
        obtain ⟨X_23, eX_23⟩ : ∃ z : ES, z = va_up X_21 k1 Y_22 := ⟨_, rfl⟩
        have hw := hw X_23 eX_23
        have hW : Wd g lay (put 26 o X_23 E0) H := by rw [eX_23, ← putUp (k := k1) (isFi_lt h1)]; exact hW
        exact w_vret hx hb hr hlocks hW hS ⟨X_23, rfl, hw⟩ dX0_release_54
    · have hw := hw.2 c_14
      refine lv_aload_n hx hb dX0_release_23 rfl (lv_at hl 0 rfl) ?_
      refine lv_bipush (v := 6) hx hb dX0_release_24 (by decide) ?_
      obtain ⟨X_24, eX_24⟩ : ∃ z : ES, z = va_up X (lix ((X k1) 9)) (upd (X (lix ((X k1) 9))) 3 6) := ⟨_, rfl⟩
      have hw := hw X_24 eX_24
      refine p_X0_109 (E1 := put 26 o X_24 E0) hx hb hown hts hK hA hW hS (HB.2.2.2.2.1 _ (isLi_lix ((X k1) 9))) (putAt (k := lix ((X k1) 9)) (isLi_lt (isLi_lix ((X k1) 9)))) dX0_release_26 (puE (k := lix ((X k1) 9)) (isLi_lt (isLi_lix ((X k1) 9))) eX_24) (fun H locs hW hS => ?_)
      refine lv_aload_n hx hb dX0_release_29 rfl (lv_at hl 0 rfl) ?_
      refine lv_bipush (v := 10) hx hb dX0_release_30 (by decide) ?_
      refine w_cvv (As := [.int 10]) (rest := []) hx hb hml hown hts hK hW hS hl.1 (c_X2_leaveCall hA (HB.2.2.2.2.1 _ (isLi_lix ((X k1) 9))) (putAt (k := lix ((X k1) 9)) (isLi_lt (isLi_lix ((X k1) 9)))) hw) (k_X0_125 hts ⟨Nat.le_of_ble_eq_true rfl, Nat.le_of_ble_eq_true rfl⟩) (w_recv hK hW (HB.2.2.2.2.1 _ (isLi_lix ((X k1) 9))) (putAt (k := lix ((X k1) 9)) (isLi_lt (isLi_lix ((X k1) 9)))) rfl rfl) rfl rfl (Nat.le_of_ble_eq_true rfl) dX0_release_32 ⟨Nat.zero_le _, Nat.zero_le _⟩ (fun Ez H locs hw2 hW hS => ?_)
      obtain ⟨Y_25, ez, hw⟩ := hw2
      rw [ez] at hW
      obtain ⟨X_26, eX_26⟩ : ∃ z : ES, z = va_up X_24 (lix ((X k1) 9)) Y_25 := ⟨_, rfl⟩
      have hw := hw X_26 eX_26
      have hW : Wd g lay (put 26 o X_26 E0) H := by rw [eX_26, ← putUp (k := lix ((X k1) 9)) (isLi_lt (isLi_lix ((X k1) 9)))]; exact hW
      refine lv_goto (tgt := 50) hx hb dX0_release_35 (by decide) ?_
      refine lv_aload_n hx hb dX0_release_50 rfl (lv_at hl 2 rfl) ?_
      refine w_cvv (As := []) (rest := []) hx hb hml hown hts hK hW hS hl.1 (c_X1_becomeFree hA (HB.2.2.2.2.2 _ h1) (putAt (k := k1) (isFi_lt h1)) hw) (k_X0_132 hts ⟨Nat.le_of_ble_eq_true rfl, Nat.le_of_ble_eq_true rfl⟩) (w_recv hK hW (HB.2.2.2.2.2 _ h1) (putAt (k := k1) (isFi_lt h1)) rfl rfl) rfl rfl (Nat.le_of_ble_eq_true rfl) dX0_release_51 ⟨Nat.zero_le _, Nat.zero_le _⟩ (fun Ez H locs hw2 hW hS => ?_)
      obtain ⟨Y_27, ez, hw⟩ := hw2
      rw [ez] at hW
      obtain ⟨X_28, eX_28⟩ : ∃ z : ES, z = va_up X_26 k1 Y_27 := ⟨_, rfl⟩
      have hw := hw X_28 eX_28
      have hW : Wd g lay (put 26 o X_28 E0) H := by rw [eX_28, ← putUp (k := k1) (isFi_lt h1)]; exact hW
      exact w_vret hx hb hr hlocks hW hS ⟨X_28, rfl, hw⟩ dX0_release_54
set_option maxHeartbeats 4000000 in
set_option maxRecDepth 100000 in
theorem c_X0_hangLine {l : Launch} {g : GG} {lay : LY} {E0 : ES} {o : Nat} {X : ES} {p1 : Int32} {K : Int32 → ES → Prop} (hA : okL g lay) (HB : XL g lay o) (hX : ∀ k, k < 26 → E0 (o + k) = X k) (hw : wp_X0_hangLine X p1 K) : JMi l g lay yX0_hangLine wsX0_hangLine rmX0_hangLine [.ref o, .int p1] E0 (fun r E1 => ∃ X1 : ES, E1 = put 26 o X1 E0 ∧ K r X1) := by
  refine Met.ofW (cc := cX0_hangLine) (maxL := 4) (ret := (some .int)) (by decide) rfl ?_
  intro p e s m args below meth c s₁ B hml hv
  obtain ⟨rfl, hK, hW⟩ := hv
  have hx := B.exec
  have hb := B.bytes
  have hr := B.returns
  have hts := gd_of (atoms_spec (ws := wsX0_hangLine) B.pre)
  have hown : s.vm.findClass RX0 = some m.cls := findClass_of_methodNamed B.named
  have hlocks := B.notSynchronized
  have hS : va_S (Ab g) s.heap s.heap [] := va_S.rf
  have hW : Wd g lay (put 26 o X E0) s.heap := by rw [putSelf hX]; exact hW
  have hl := lv_entry [.ref o, .int p1] (n := 4) (Nat.le_of_ble_eq_true rfl)
  rw [lg_entry_eq]
  generalize (lg_sl [.ref o, .int p1] ++ List.replicate (4 - (lg_sl [.ref o, .int p1]).length) Slot.unset).toArray = ls at hl ⊢
  have hl : lv_has ls 4 [(0, .ref o), (1, .int p1)] := hl
  unfold wp_X0_hangLine at hw
  refine lv_aload_n hx hb dX0_hangLine_0 rfl (lv_at hl 0 rfl) ?_
  refine lv_iload_n hx hb dX0_hangLine_1 rfl (lv_at hl 1 rfl) ?_
  refine w_cvr (As := [.int p1]) (rest := []) hx hb hml hown hts hK hW hS hl.1 (c_X0_lineAt hA HB p1) (k_X0_83 hts ⟨Nat.le_of_ble_eq_true rfl, Nat.le_of_ble_eq_true rfl⟩) (w_recv hK hW HB.1 (putAt (k := 0) (by decide)) rfl rfl) rfl rfl (Nat.le_of_ble_eq_true rfl) dX0_hangLine_2 ⟨Nat.zero_le _, Nat.zero_le _⟩ (fun q_1 Ez H locs hw2 hW hS => ?_)
  obtain ⟨ez, rfl⟩ := hw2
  rw [ez] at hW
  refine lv_astore_n (lv' := [(2, .ref (o + lix p1)), (0, .ref o), (1, .int p1)]) hx hb dX0_hangLine_5 rfl hl (by decide) rfl (fun ls hl => ?_)
  refine lv_aload_n hx hb dX0_hangLine_6 rfl (lv_at hl 0 rfl) ?_
  refine g_X0_102 hx hb hown hts hK hW (HB.2.2.2.2.1 _ (isLi_lix p1)) (putAt (k := lix p1) (isLi_lt (isLi_lix p1))) dX0_hangLine_7 ?_
  refine lv_if_ne (tgt := 16) hx hb dX0_hangLine_10 (by decide) (fun c_2 => ?_) (fun c_2 => ?_)
  · have hw := hw.2 c_2
    refine lv_aload_n hx hb dX0_hangLine_16 rfl (lv_at hl 0 rfl) ?_
    refine g_X0_106 hx hb hown hts hK hW (HB.2.2.2.2.1 _ (isLi_lix p1)) (putAt (k := lix p1) (isLi_lt (isLi_lix p1))) dX0_hangLine_17 ?_
    refine lv_topi (fun v_3 ev_3 => ?_)
    have hw := hw v_3 ev_3
    refine lv_istore_n (lv' := [(3, .int v_3), (2, .ref (o + lix p1)), (0, .ref o), (1, .int p1)]) hx hb dX0_hangLine_20 rfl hl (by decide) rfl (fun ls hl => ?_)
    refine lv_aload_n hx hb dX0_hangLine_21 rfl (lv_at hl 1 rfl) ?_
    refine lv_iconst (v := 0) hx hb dX0_hangLine_22 (by decide) ?_
    obtain ⟨X_4, eX_4⟩ : ∃ z : ES, z = va_up X (lix p1) (upd (X (lix p1)) 1 0) := ⟨_, rfl⟩
    have hw := hw X_4 eX_4
    refine p_X0_102 (E1 := put 26 o X_4 E0) hx hb hown hts hK hA hW hS (HB.2.2.2.2.1 _ (isLi_lix p1)) (putAt (k := lix p1) (isLi_lt (isLi_lix p1))) (Or.inl rfl) dX0_hangLine_23 (puE (k := lix p1) (isLi_lt (isLi_lix p1)) eX_4) (fun H locs hW hS => ?_)
    refine lv_aload_n hx hb dX0_hangLine_26 rfl (lv_at hl 1 rfl) ?_
    refine w_cvi (As := []) (rest := []) hx hb hml hown hts hK hW hS hl.1 (c_X2_isCalledByAnother hA (HB.2.2.2.2.1 _ (isLi_lix p1)) (putAt (k := lix p1) (isLi_lt (isLi_lix p1))) hw) (k_X0_115 hts ⟨Nat.le_of_ble_eq_true rfl, Nat.le_of_ble_eq_true rfl⟩) (w_recv hK hW (HB.2.2.2.2.1 _ (isLi_lix p1)) (putAt (k := lix p1) (isLi_lt (isLi_lix p1))) rfl rfl) rfl rfl (Nat.le_of_ble_eq_true rfl) dX0_hangLine_27 ⟨Nat.zero_le _, Nat.zero_le _⟩ (fun r_5 Ez H locs hw2 hW hS => ?_)
    obtain ⟨ez, z_6, hw⟩ := hw2
    rw [ez] at hW
    refine lv_if_ne (tgt := 59) hx hb dX0_hangLine_30 (by decide) (fun c_7 => ?_) (fun c_7 => ?_)
    · have hw := hw.2 c_7
      refine lv_iload_n hx hb dX0_hangLine_59 rfl (lv_at hl 0 rfl) ?_
      exact w_iret hx hb hr hlocks hW hS ⟨X_4, rfl, hw⟩ dX0_hangLine_60
    · have hw := hw.1 c_7
      refine lv_aload_n hx hb dX0_hangLine_33 rfl (lv_at hl 1 rfl) ?_
      refine g_X0_119 hx hb hown hts hK hW (HB.2.2.2.2.1 _ (isLi_lix p1)) (putAt (k := lix p1) (isLi_lt (isLi_lix p1))) dX0_hangLine_34 ?_
      refine lv_bipush (v := (-6)) hx hb dX0_hangLine_37 (by decide) ?_
      refine lv_icmp_eq (tgt := 54) hx hb dX0_hangLine_39 (by decide) (fun c_8 => ?_) (fun c_8 => ?_)
      · have hw := hw.1 c_8
        refine lv_aload_n hx hb dX0_hangLine_54 rfl (lv_at hl 1 rfl) ?_
        refine lv_iconst (v := 0) hx hb dX0_hangLine_55 (by decide) ?_
        refine w_cvv (As := [.int 0]) (rest := []) hx hb hml hown hts hK hW hS hl.1 (c_X2_leaveCall hA (HB.2.2.2.2.1 _ (isLi_lix p1)) (putAt (k := lix p1) (isLi_lt (isLi_lix p1))) hw) (k_X0_125 hts ⟨Nat.le_of_ble_eq_true rfl, Nat.le_of_ble_eq_true rfl⟩) (w_recv hK hW (HB.2.2.2.2.1 _ (isLi_lix p1)) (putAt (k := lix p1) (isLi_lt (isLi_lix p1))) rfl rfl) rfl rfl (Nat.le_of_ble_eq_true rfl) dX0_hangLine_56 ⟨Nat.zero_le _, Nat.zero_le _⟩ (fun Ez H locs hw2 hW hS => ?_)
        obtain ⟨Y_9, ez, hw⟩ := hw2
        rw [ez] at hW
        obtain ⟨X_10, eX_10⟩ : ∃ z : ES, z = va_up X_4 (lix p1) Y_9 := ⟨_, rfl⟩
        have hw := hw X_10 eX_10
        have hW : Wd g lay (put 26 o X_10 E0) H := by rw [eX_10, ← putUp (k := lix p1) (isLi_lt (isLi_lix p1))]; exact hW
        refine lv_iload_n hx hb dX0_hangLine_59 rfl (lv_at hl 0 rfl) ?_
        exact w_iret hx hb hr hlocks hW hS ⟨X_10, rfl, hw⟩ dX0_hangLine_60
      · have hw := hw.2 c_8
        refine lv_aload_n hx hb dX0_hangLine_42 rfl (lv_at hl 2 rfl) ?_
        refine lv_aload_n hx hb dX0_hangLine_43 rfl (lv_at hl 2 rfl) ?_
        refine lv_aload_n hx hb dX0_hangLine_44 rfl (lv_at hl 1 rfl) ?_
        refine g_X0_119 hx hb hown hts hK hW (HB.2.2.2.2.1 _ (isLi_lix p1)) (putAt (k := lix p1) (isLi_lt (isLi_lix p1))) dX0_hangLine_45 ?_
        refine w_cvr (As := [.int ((X_4 (lix p1)) 6)]) (rest := [.ref o]) hx hb hml hown hts hK hW hS hl.1 (c_X0_finderAt hA HB ((X_4 (lix p1)) 6)) (k_X0_90 hts ⟨Nat.le_of_ble_eq_true rfl, Nat.le_of_ble_eq_true rfl⟩) (w_recv hK hW HB.1 (putAt (k := 0) (by decide)) rfl rfl) rfl rfl (Nat.le_of_ble_eq_true rfl) dX0_hangLine_48 ⟨Nat.zero_le _, Nat.zero_le _⟩ (fun q_11 Ez H locs hw2 hW hS => ?_)
        obtain ⟨ez, rfl⟩ := hw2
        rw [ez] at hW
        refine w_cvv (As := [.ref (o + fix ((X_4 (lix p1)) 6))]) (rest := []) hx hb hml hown hts hK hW hS hl.1 (c_X0_release hA HB (fun k hk => putAt hk) (isFi_fix ((X_4 (lix p1)) 6)) hw) (k_X0_122 hts ⟨Nat.le_of_ble_eq_true rfl, Nat.le_of_ble_eq_true rfl⟩) (w_recv hK hW HB.1 (putAt (k := 0) (by decide)) rfl rfl) rfl rfl (Nat.le_of_ble_eq_true rfl) dX0_hangLine_51 ⟨Nat.zero_le _, Nat.zero_le _⟩ (fun Ez H locs hw2 hW hS => ?_)
        obtain ⟨X_12, ez, hw⟩ := hw2
        rw [ez, putPut] at hW
        refine lv_aload_n hx hb dX0_hangLine_54 rfl (lv_at hl 1 rfl) ?_
        refine lv_iconst (v := 0) hx hb dX0_hangLine_55 (by decide) ?_
        refine w_cvv (As := [.int 0]) (rest := []) hx hb hml hown hts hK hW hS hl.1 (c_X2_leaveCall hA (HB.2.2.2.2.1 _ (isLi_lix p1)) (putAt (k := lix p1) (isLi_lt (isLi_lix p1))) hw) (k_X0_125 hts ⟨Nat.le_of_ble_eq_true rfl, Nat.le_of_ble_eq_true rfl⟩) (w_recv hK hW (HB.2.2.2.2.1 _ (isLi_lix p1)) (putAt (k := lix p1) (isLi_lt (isLi_lix p1))) rfl rfl) rfl rfl (Nat.le_of_ble_eq_true rfl) dX0_hangLine_56 ⟨Nat.zero_le _, Nat.zero_le _⟩ (fun Ez H locs hw2 hW hS => ?_)
        obtain ⟨Y_13, ez, hw⟩ := hw2
        rw [ez] at hW
        obtain ⟨X_14, eX_14⟩ : ∃ z : ES, z = va_up X_12 (lix p1) Y_13 := ⟨_, rfl⟩
        have hw := hw X_14 eX_14
        have hW : Wd g lay (put 26 o X_14 E0) H := by rw [eX_14, ← putUp (k := lix p1) (isLi_lt (isLi_lix p1))]; exact hW
        refine lv_iload_n hx hb dX0_hangLine_59 rfl (lv_at hl 0 rfl) ?_
        exact w_iret hx hb hr hlocks hW hS ⟨X_14, rfl, hw⟩ dX0_hangLine_60
  · have hw := hw.1 c_2
    refine lv_bipush (v := (-5)) hx hb dX0_hangLine_13 (by decide) ?_
    exact w_iret hx hb hr hlocks hW hS ⟨X, rfl, hw⟩ dX0_hangLine_15
set_option maxHeartbeats 4000000 in
set_option maxRecDepth 100000 in
theorem c_X0_dialDigit {l : Launch} {g : GG} {lay : LY} {E0 : ES} {o : Nat} {X : ES} {p1 : Int32} {p2 : Int32} {K : Int32 → ES → Prop} (hA : okL g lay) (HB : XL g lay o) (hX : ∀ k, k < 26 → E0 (o + k) = X k) (hw : wp_X0_dialDigit X p1 p2 K) : JMi l g lay yX0_dialDigit wsX0_dialDigit rmX0_dialDigit [.ref o, .int p1, .int p2] E0 (fun r E1 => ∃ X1 : ES, E1 = put 26 o X1 E0 ∧ K r X1) := by
  refine Met.ofW (cc := cX0_dialDigit) (maxL := 4) (ret := (some .int)) (by decide) rfl ?_
  intro p e s m args below meth c s₁ B hml hv
  obtain ⟨rfl, hK, hW⟩ := hv
  have hx := B.exec
  have hb := B.bytes
  have hr := B.returns
  have hts := gd_of (atoms_spec (ws := wsX0_dialDigit) B.pre)
  have hown : s.vm.findClass RX0 = some m.cls := findClass_of_methodNamed B.named
  have hlocks := B.notSynchronized
  have hS : va_S (Ab g) s.heap s.heap [] := va_S.rf
  have hW : Wd g lay (put 26 o X E0) s.heap := by rw [putSelf hX]; exact hW
  have hl := lv_entry [.ref o, .int p1, .int p2] (n := 4) (Nat.le_of_ble_eq_true rfl)
  rw [lg_entry_eq]
  generalize (lg_sl [.ref o, .int p1, .int p2] ++ List.replicate (4 - (lg_sl [.ref o, .int p1, .int p2]).length) Slot.unset).toArray = ls at hl ⊢
  have hl : lv_has ls 4 [(0, .ref o), (1, .int p1), (2, .int p2)] := hl
  unfold wp_X0_dialDigit at hw
  refine lv_aload_n hx hb dX0_dialDigit_0 rfl (lv_at hl 0 rfl) ?_
  refine lv_iload_n hx hb dX0_dialDigit_1 rfl (lv_at hl 1 rfl) ?_
  refine w_cvr (As := [.int p1]) (rest := []) hx hb hml hown hts hK hW hS hl.1 (c_X0_lineAt hA HB p1) (k_X0_83 hts ⟨Nat.le_of_ble_eq_true rfl, Nat.le_of_ble_eq_true rfl⟩) (w_recv hK hW HB.1 (putAt (k := 0) (by decide)) rfl rfl) rfl rfl (Nat.le_of_ble_eq_true rfl) dX0_dialDigit_2 ⟨Nat.zero_le _, Nat.zero_le _⟩ (fun q_1 Ez H locs hw2 hW hS => ?_)
  obtain ⟨ez, rfl⟩ := hw2
  rw [ez] at hW
  refine lv_astore_n (lv' := [(3, .ref (o + lix p1)), (0, .ref o), (1, .int p1), (2, .int p2)]) hx hb dX0_dialDigit_5 rfl hl (by decide) rfl (fun ls hl => ?_)
  refine lv_aload_n hx hb dX0_dialDigit_6 rfl (lv_at hl 0 rfl) ?_
  refine g_X0_106 hx hb hown hts hK hW (HB.2.2.2.2.1 _ (isLi_lix p1)) (putAt (k := lix p1) (isLi_lt (isLi_lix p1))) dX0_dialDigit_7 ?_
  refine lv_iconst (v := 2) hx hb dX0_dialDigit_10 (by decide) ?_
  refine lv_icmp_eq (tgt := 25) hx hb dX0_dialDigit_11 (by decide) (fun c_2 => ?_) (fun c_2 => ?_)
  · have hw := hw.1 c_2
    refine lv_aload_n hx hb dX0_dialDigit_25 rfl (lv_at hl 0 rfl) ?_
    refine g_X0_135 hx hb hown hts hK hW (HB.2.2.2.2.1 _ (isLi_lix p1)) (putAt (k := lix p1) (isLi_lt (isLi_lix p1))) dX0_dialDigit_26 ?_
    refine lv_iconst (v := 4) hx hb dX0_dialDigit_29 (by decide) ?_
    refine lv_icmp_lt (tgt := 36) hx hb dX0_dialDigit_30 (by decide) (fun c_3 => ?_) (fun c_3 => ?_)
    · have hw := hw.1 c_3
      refine lv_aload_n hx hb dX0_dialDigit_36 rfl (lv_at hl 0 rfl) ?_
      refine lv_iload_n hx hb dX0_dialDigit_37 rfl (lv_at hl 3 rfl) ?_
      refine w_cvv (As := [.int p2]) (rest := []) hx hb hml hown hts hK hW hS hl.1 (c_X2_appendDigit hA (HB.2.2.2.2.1 _ (isLi_lix p1)) (putAt (k := lix p1) (isLi_lt (isLi_lix p1))) hw) (k_X0_138 hts ⟨Nat.le_of_ble_eq_true rfl, Nat.le_of_ble_eq_true rfl⟩) (w_recv hK hW (HB.2.2.2.2.1 _ (isLi_lix p1)) (putAt (k := lix p1) (isLi_lt (isLi_lix p1))) rfl rfl) rfl rfl (Nat.le_of_ble_eq_true rfl) dX0_dialDigit_38 ⟨Nat.zero_le _, Nat.zero_le _⟩ (fun Ez H locs hw2 hW hS => ?_)
      obtain ⟨Y_4, ez, hw⟩ := hw2
      rw [ez] at hW
      obtain ⟨X_5, eX_5⟩ : ∃ z : ES, z = va_up X (lix p1) Y_4 := ⟨_, rfl⟩
      have hw := hw X_5 eX_5
      have hW : Wd g lay (put 26 o X_5 E0) H := by rw [eX_5, ← putUp (k := lix p1) (isLi_lt (isLi_lix p1))]; exact hW
      refine lv_aload_n hx hb dX0_dialDigit_41 rfl (lv_at hl 0 rfl) ?_
      refine g_X0_135 hx hb hown hts hK hW (HB.2.2.2.2.1 _ (isLi_lix p1)) (putAt (k := lix p1) (isLi_lt (isLi_lix p1))) dX0_dialDigit_42 ?_
      exact w_iret hx hb hr hlocks hW hS ⟨X_5, rfl, hw⟩ dX0_dialDigit_45
    · have hw := hw.2 c_3
      refine lv_bipush (v := (-4)) hx hb dX0_dialDigit_33 (by decide) ?_
      exact w_iret hx hb hr hlocks hW hS ⟨X, rfl, hw⟩ dX0_dialDigit_35
  · have hw := hw.2 c_2
    refine lv_aload_n hx hb dX0_dialDigit_14 rfl (lv_at hl 0 rfl) ?_
    refine g_X0_106 hx hb hown hts hK hW (HB.2.2.2.2.1 _ (isLi_lix p1)) (putAt (k := lix p1) (isLi_lt (isLi_lix p1))) dX0_dialDigit_15 ?_
    refine lv_iconst (v := 3) hx hb dX0_dialDigit_18 (by decide) ?_
    refine lv_icmp_eq (tgt := 25) hx hb dX0_dialDigit_19 (by decide) (fun c_6 => ?_) (fun c_6 => ?_)
    · have hw := hw.1 c_6
      refine lv_aload_n hx hb dX0_dialDigit_25 rfl (lv_at hl 0 rfl) ?_
      refine g_X0_135 hx hb hown hts hK hW (HB.2.2.2.2.1 _ (isLi_lix p1)) (putAt (k := lix p1) (isLi_lt (isLi_lix p1))) dX0_dialDigit_26 ?_
      refine lv_iconst (v := 4) hx hb dX0_dialDigit_29 (by decide) ?_
      refine lv_icmp_lt (tgt := 36) hx hb dX0_dialDigit_30 (by decide) (fun c_7 => ?_) (fun c_7 => ?_)
      · have hw := hw.1 c_7
        refine lv_aload_n hx hb dX0_dialDigit_36 rfl (lv_at hl 0 rfl) ?_
        refine lv_iload_n hx hb dX0_dialDigit_37 rfl (lv_at hl 3 rfl) ?_
        refine w_cvv (As := [.int p2]) (rest := []) hx hb hml hown hts hK hW hS hl.1 (c_X2_appendDigit hA (HB.2.2.2.2.1 _ (isLi_lix p1)) (putAt (k := lix p1) (isLi_lt (isLi_lix p1))) hw) (k_X0_138 hts ⟨Nat.le_of_ble_eq_true rfl, Nat.le_of_ble_eq_true rfl⟩) (w_recv hK hW (HB.2.2.2.2.1 _ (isLi_lix p1)) (putAt (k := lix p1) (isLi_lt (isLi_lix p1))) rfl rfl) rfl rfl (Nat.le_of_ble_eq_true rfl) dX0_dialDigit_38 ⟨Nat.zero_le _, Nat.zero_le _⟩ (fun Ez H locs hw2 hW hS => ?_)
        obtain ⟨Y_8, ez, hw⟩ := hw2
        rw [ez] at hW
        obtain ⟨X_9, eX_9⟩ : ∃ z : ES, z = va_up X (lix p1) Y_8 := ⟨_, rfl⟩
        have hw := hw X_9 eX_9
        have hW : Wd g lay (put 26 o X_9 E0) H := by rw [eX_9, ← putUp (k := lix p1) (isLi_lt (isLi_lix p1))]; exact hW
        refine lv_aload_n hx hb dX0_dialDigit_41 rfl (lv_at hl 0 rfl) ?_
        refine g_X0_135 hx hb hown hts hK hW (HB.2.2.2.2.1 _ (isLi_lix p1)) (putAt (k := lix p1) (isLi_lt (isLi_lix p1))) dX0_dialDigit_42 ?_
        exact w_iret hx hb hr hlocks hW hS ⟨X_9, rfl, hw⟩ dX0_dialDigit_45
      · have hw := hw.2 c_7
        refine lv_bipush (v := (-4)) hx hb dX0_dialDigit_33 (by decide) ?_
        exact w_iret hx hb hr hlocks hW hS ⟨X, rfl, hw⟩ dX0_dialDigit_35
    · have hw := hw.2 c_6
      refine lv_bipush (v := (-5)) hx hb dX0_dialDigit_22 (by decide) ?_
      exact w_iret hx hb hr hlocks hW hS ⟨X, rfl, hw⟩ dX0_dialDigit_24
set_option maxHeartbeats 4000000 in
set_option maxRecDepth 100000 in
theorem c_X0_hasTimeFor {l : Launch} {g : GG} {lay : LY} {E0 : ES} {o : Nat} {X : ES} {p1 : Int32} {K : Int32 → Prop} (hA : okL g lay) (HB : XL g lay o) (hX : ∀ k, k < 26 → E0 (o + k) = X k) (hw : wp_X0_hasTimeFor X p1 K) : JMi l g lay yX0_hasTimeFor wsX0_hasTimeFor rmX0_hasTimeFor [.ref o, .int p1] E0 (fun r E1 => E1 = E0 ∧ (r = 0 ∨ r = 1) ∧ K r) := by
  refine Met.ofW (cc := cX0_hasTimeFor) (maxL := 2) (ret := (some .boolean)) (by decide) rfl ?_
  intro p e s m args below meth c s₁ B hml hv
  obtain ⟨rfl, hK, hW⟩ := hv
  have hx := B.exec
  have hb := B.bytes
  have hr := B.returns
  have hts := gd_of (atoms_spec (ws := wsX0_hasTimeFor) B.pre)
  have hown : s.vm.findClass RX0 = some m.cls := findClass_of_methodNamed B.named
  have hlocks := B.notSynchronized
  have hS : va_S (Ab g) s.heap s.heap [] := va_S.rf
  have hl := lv_entry [.ref o, .int p1] (n := 2) (Nat.le_of_ble_eq_true rfl)
  rw [lg_entry_eq]
  generalize (lg_sl [.ref o, .int p1] ++ List.replicate (2 - (lg_sl [.ref o, .int p1]).length) Slot.unset).toArray = ls at hl ⊢
  have hl : lv_has ls 2 [(0, .ref o), (1, .int p1)] := hl
  unfold wp_X0_hasTimeFor at hw
  refine lv_aload_n hx hb dX0_hasTimeFor_0 rfl (lv_at hl 0 rfl) ?_
  refine g_X0_52 hx hb hown hts hK hW HB.1 (hX 0 (by decide)) dX0_hasTimeFor_1 ?_
  refine lv_iload_n hx hb dX0_hasTimeFor_4 rfl (lv_at hl 1 rfl) ?_
  refine lv_iadd hx hb dX0_hasTimeFor_5 ?_
  refine lv_ldc hx hb hown (hts _ wd_325) dX0_hasTimeFor_6 ?_
  refine lv_icmp_gt (tgt := 15) hx hb dX0_hasTimeFor_8 (by decide) (fun c_1 => ?_) (fun c_1 => ?_)
  · have hw := hw.1 c_1
    refine lv_iconst (v := 0) hx hb dX0_hasTimeFor_15 (by decide) ?_
    exact w_zret hx hb hr hlocks hW hS (Or.inl rfl) ⟨rfl, (Or.inl rfl), hw⟩ dX0_hasTimeFor_16
  · have hw := hw.2 c_1
    refine lv_iconst (v := 1) hx hb dX0_hasTimeFor_11 (by decide) ?_
    refine lv_goto (tgt := 16) hx hb dX0_hasTimeFor_12 (by decide) ?_
    exact w_zret hx hb hr hlocks hW hS (Or.inr rfl) ⟨rfl, (Or.inr rfl), hw⟩ dX0_hasTimeFor_16
set_option maxHeartbeats 4000000 in
set_option maxRecDepth 100000 in
theorem c_X0_seek {l : Launch} {g : GG} {lay : LY} {E0 : ES} {o : Nat} {X : ES} {k1 : Nat} {k2 : Nat} {K : ES → Prop} (hA : okL g lay) (HB : XL g lay o) (hX : ∀ k, k < 26 → E0 (o + k) = X k) (h1 : isFi k1) (h2 : isLi k2) (hw : wp_X0_seek X k1 k2 K) : JMv l g lay yX0_seek wsX0_seek rmX0_seek [.ref o, .ref (o + k1), .ref (o + k2)] E0 (fun E1 => ∃ X1 : ES, E1 = put 26 o X1 E0 ∧ K X1) := by
  refine Met.ofW (cc := cX0_seek) (maxL := 3) (ret := none) (by decide) rfl ?_
  intro p e s m args below meth c s₁ B hml hv
  obtain ⟨rfl, hK, hW⟩ := hv
  have hx := B.exec
  have hb := B.bytes
  have hr := B.returns
  have hts := gd_of (atoms_spec (ws := wsX0_seek) B.pre)
  have hown : s.vm.findClass RX0 = some m.cls := findClass_of_methodNamed B.named
  have hlocks := B.notSynchronized
  have hS : va_S (Ab g) s.heap s.heap [] := va_S.rf
  have hW : Wd g lay (put 26 o X E0) s.heap := by rw [putSelf hX]; exact hW
  have hl := lv_entry [.ref o, .ref (o + k1), .ref (o + k2)] (n := 3) (Nat.le_of_ble_eq_true rfl)
  rw [lg_entry_eq]
  generalize (lg_sl [.ref o, .ref (o + k1), .ref (o + k2)] ++ List.replicate (3 - (lg_sl [.ref o, .ref (o + k1), .ref (o + k2)]).length) Slot.unset).toArray = ls at hl ⊢
  have hl : lv_has ls 3 [(0, .ref o), (1, .ref (o + k1)), (2, .ref (o + k2))] := hl
  unfold wp_X0_seek at hw
  refine lv_aload_n hx hb dX0_seek_0 rfl (lv_at hl 1 rfl) ?_
  refine g_X0_181 hx hb hown hts hK hW (HB.2.2.2.2.2 _ h1) (putAt (k := k1) (isFi_lt h1)) dX0_seek_1 ?_
  refine lv_aload_n hx hb dX0_seek_4 rfl (lv_at hl 1 rfl) ?_
  refine g_X0_151 hx hb hown hts hK hW (HB.2.2.2.2.2 _ h1) (putAt (k := k1) (isFi_lt h1)) dX0_seek_5 ?_
  refine lv_icmp_ne (tgt := 34) hx hb dX0_seek_8 (by decide) (fun c_1 => ?_) (fun c_1 => ?_)
  · have hw := hw.2 c_1
    refine lv_aload_n hx hb dX0_seek_34 rfl (lv_at hl 1 rfl) ?_
    refine lv_aload_n hx hb dX0_seek_35 rfl (lv_at hl 1 rfl) ?_
    refine g_X0_181 hx hb hown hts hK hW (HB.2.2.2.2.2 _ h1) (putAt (k := k1) (isFi_lt h1)) dX0_seek_36 ?_
    refine lv_iconst (v := 1) hx hb dX0_seek_39 (by decide) ?_
    refine lv_iadd hx hb dX0_seek_40 ?_
    refine lv_bipush (v := 16) hx hb dX0_seek_41 (by decide) ?_
    refine lv_irem hx hb dX0_seek_43 (by decide) ?_
    obtain ⟨X_2, eX_2⟩ : ∃ z : ES, z = va_up X k1 (upd (X k1) 1 ((((X k1) 1) + 1) - (((X k1) 1) + 1) / 16 * 16)) := ⟨_, rfl⟩
    have hw := hw X_2 eX_2
    refine p_X0_181 (E1 := put 26 o X_2 E0) hx hb hown hts hK hA hW hS (HB.2.2.2.2.2 _ h1) (putAt (k := k1) (isFi_lt h1)) dX0_seek_44 (puE (k := k1) (isFi_lt h1) eX_2) (fun H locs hW hS => ?_)
    exact w_vret hx hb hr hlocks hW hS ⟨X_2, rfl, hw⟩ dX0_seek_47
  · have hw := hw.1 c_1
    refine lv_aload_n hx hb dX0_seek_11 rfl (lv_at hl 1 rfl) ?_
    refine lv_iconst (v := 2) hx hb dX0_seek_12 (by decide) ?_
    refine w_cvv (As := [.int 2]) (rest := []) hx hb hml hown hts hK hW hS hl.1 (c_X1_become hA (HB.2.2.2.2.2 _ h1) (putAt (k := k1) (isFi_lt h1)) hw) (k_X0_184 hts ⟨Nat.le_of_ble_eq_true rfl, Nat.le_of_ble_eq_true rfl⟩) (w_recv hK hW (HB.2.2.2.2.2 _ h1) (putAt (k := k1) (isFi_lt h1)) rfl rfl) rfl rfl (Nat.le_of_ble_eq_true rfl) dX0_seek_13 ⟨Nat.zero_le _, Nat.zero_le _⟩ (fun Ez H locs hw2 hW hS => ?_)
    obtain ⟨Y_3, ez, hw⟩ := hw2
    rw [ez] at hW
    obtain ⟨X_4, eX_4⟩ : ∃ z : ES, z = va_up X k1 Y_3 := ⟨_, rfl⟩
    have hw := hw X_4 eX_4
    have hW : Wd g lay (put 26 o X_4 E0) H := by rw [eX_4, ← putUp (k := k1) (isFi_lt h1)]; exact hW
    refine lv_aload_n hx hb dX0_seek_16 rfl (lv_at hl 2 rfl) ?_
    refine lv_iconst (v := 2) hx hb dX0_seek_17 (by decide) ?_
    obtain ⟨X_5, eX_5⟩ : ∃ z : ES, z = va_up X_4 k2 (upd (X_4 k2) 0 2) := ⟨_, rfl⟩
    have hw := hw X_5 eX_5
    refine p_X0_106 (E1 := put 26 o X_5 E0) hx hb hown hts hK hA hW hS (HB.2.2.2.2.1 _ h2) (putAt (k := k2) (isLi_lt h2)) dX0_seek_18 (puE (k := k2) (isLi_lt h2) eX_5) (fun H locs hW hS => ?_)
    refine lv_aload_n hx hb dX0_seek_21 rfl (lv_at hl 0 rfl) ?_
    refine lv_dup hx hb dX0_seek_22 rfl ?_
    refine g_X0_61 hx hb hown hts hK hW HB.1 (putAt (k := 0) (by decide)) dX0_seek_23 ?_
    refine lv_iconst (v := 1) hx hb dX0_seek_26 (by decide) ?_
    refine lv_iadd hx hb dX0_seek_27 ?_
    obtain ⟨X_6, eX_6⟩ : ∃ z : ES, z = va_up X_5 0 (upd (X_5 0) 10 (((X_5 0) 10) + 1)) := ⟨_, rfl⟩
    have hw := hw X_6 eX_6
    refine p_X0_61 (E1 := put 26 o X_6 E0) hx hb hown hts hK hA hW hS HB.1 (putAt (k := 0) (by decide)) dX0_seek_28 (puE (k := 0) (by decide) eX_6) (fun H locs hW hS => ?_)
    refine lv_goto (tgt := 47) hx hb dX0_seek_31 (by decide) ?_
    exact w_vret hx hb hr hlocks hW hS ⟨X_6, rfl, hw⟩ dX0_seek_47
set_option maxHeartbeats 4000000 in
set_option maxRecDepth 100000 in
theorem c_X0_awaitDigit {l : Launch} {g : GG} {lay : LY} {E0 : ES} {o : Nat} {X : ES} {k1 : Nat} {k2 : Nat} {p3 : Int32} {K : ES → Prop} (hA : okL g lay) (HB : XL g lay o) (hX : ∀ k, k < 26 → E0 (o + k) = X k) (h1 : isFi k1) (h2 : isLi k2) (hw : wp_X0_awaitDigit X k1 k2 p3 K) : JMv l g lay yX0_awaitDigit wsX0_awaitDigit rmX0_awaitDigit [.ref o, .ref (o + k1), .ref (o + k2), .int p3] E0 (fun E1 => ∃ X1 : ES, E1 = put 26 o X1 E0 ∧ K X1) := by
  refine Met.ofW (cc := cX0_awaitDigit) (maxL := 4) (ret := none) (by decide) rfl ?_
  intro p e s m args below meth c s₁ B hml hv
  obtain ⟨rfl, hK, hW⟩ := hv
  have hx := B.exec
  have hb := B.bytes
  have hr := B.returns
  have hts := gd_of (atoms_spec (ws := wsX0_awaitDigit) B.pre)
  have hown : s.vm.findClass RX0 = some m.cls := findClass_of_methodNamed B.named
  have hlocks := B.notSynchronized
  have hS : va_S (Ab g) s.heap s.heap [] := va_S.rf
  have hW : Wd g lay (put 26 o X E0) s.heap := by rw [putSelf hX]; exact hW
  have hl := lv_entry [.ref o, .ref (o + k1), .ref (o + k2), .int p3] (n := 4) (Nat.le_of_ble_eq_true rfl)
  rw [lg_entry_eq]
  generalize (lg_sl [.ref o, .ref (o + k1), .ref (o + k2), .int p3] ++ List.replicate (4 - (lg_sl [.ref o, .ref (o + k1), .ref (o + k2), .int p3]).length) Slot.unset).toArray = ls at hl ⊢
  have hl : lv_has ls 4 [(0, .ref o), (1, .ref (o + k1)), (2, .ref (o + k2)), (3, .int p3)] := hl
  unfold wp_X0_awaitDigit at hw
  refine lv_aload_n hx hb dX0_awaitDigit_0 rfl (lv_at hl 2 rfl) ?_
  refine g_X0_135 hx hb hown hts hK hW (HB.2.2.2.2.1 _ h2) (putAt (k := k2) (isLi_lt h2)) dX0_awaitDigit_1 ?_
  refine lv_if_le (tgt := 26) hx hb dX0_awaitDigit_4 (by decide) (fun c_1 => ?_) (fun c_1 => ?_)
  · have hw := hw.1 c_1
    refine lv_aload_n hx hb dX0_awaitDigit_26 rfl (lv_at hl 1 rfl) ?_
    refine lv_dup hx hb dX0_awaitDigit_27 rfl ?_
    refine g_X0_194 hx hb hown hts hK hW (HB.2.2.2.2.2 _ h1) (putAt (k := k1) (isFi_lt h1)) dX0_awaitDigit_28 ?_
    refine lv_iconst (v := 1) hx hb dX0_awaitDigit_31 (by decide) ?_
    refine lv_iadd hx hb dX0_awaitDigit_32 ?_
    obtain ⟨X_2, eX_2⟩ : ∃ z : ES, z = va_up X k1 (upd (X k1) 7 (((X k1) 7) + 1)) := ⟨_, rfl⟩
    have hw := hw X_2 eX_2
    refine p_X0_194 (E1 := put 26 o X_2 E0) hx hb hown hts hK hA hW hS (HB.2.2.2.2.2 _ h1) (putAt (k := k1) (isFi_lt h1)) dX0_awaitDigit_33 (puE (k := k1) (isFi_lt h1) eX_2) (fun H locs hW hS => ?_)
    refine lv_aload_n hx hb dX0_awaitDigit_36 rfl (lv_at hl 1 rfl) ?_
    refine g_X0_194 hx hb hown hts hK hW (HB.2.2.2.2.2 _ h1) (putAt (k := k1) (isFi_lt h1)) dX0_awaitDigit_37 ?_
    refine lv_aload_n hx hb dX0_awaitDigit_40 rfl (lv_at hl 0 rfl) ?_
    refine lv_iconst (v := 0) hx hb dX0_awaitDigit_41 (by decide) ?_
    refine w_cvi (As := [.int 0]) (rest := [.int ((X_2 k1) 7)]) hx hb hml hown hts hK hW hS hl.1 (c_X0_settingAt hA HB (fun k hk => putAt hk)  hw) (k_X0_79 hts ⟨Nat.le_of_ble_eq_true rfl, Nat.le_of_ble_eq_true rfl⟩) (w_recv hK hW HB.1 (putAt (k := 0) (by decide)) rfl rfl) rfl rfl (Nat.le_of_ble_eq_true rfl) dX0_awaitDigit_42 ⟨Nat.zero_le _, Nat.zero_le _⟩ (fun r_3 Ez H locs hw2 hW hS => ?_)
    obtain ⟨ez, hw⟩ := hw2
    rw [ez] at hW
    refine lv_icmp_lt (tgt := 73) hx hb dX0_awaitDigit_45 (by decide) (fun c_4 => ?_) (fun c_4 => ?_)
    · have hw := hw.1 c_4
      exact w_vret hx hb hr hlocks hW hS ⟨X_2, rfl, hw⟩ dX0_awaitDigit_73
    · have hw := hw.2 c_4
      refine lv_aload_n hx hb dX0_awaitDigit_48 rfl (lv_at hl 1 rfl) ?_
      refine w_cvv (As := []) (rest := []) hx hb hml hown hts hK hW hS hl.1 (c_X1_becomeFree hA (HB.2.2.2.2.2 _ h1) (putAt (k := k1) (isFi_lt h1)) hw) (k_X0_132 hts ⟨Nat.le_of_ble_eq_true rfl, Nat.le_of_ble_eq_true rfl⟩) (w_recv hK hW (HB.2.2.2.2.2 _ h1) (putAt (k := k1) (isFi_lt h1)) rfl rfl) rfl rfl (Nat.le_of_ble_eq_true rfl) dX0_awaitDigit_49 ⟨Nat.zero_le _, Nat.zero_le _⟩ (fun Ez H locs hw2 hW hS => ?_)
      obtain ⟨Y_5, ez, hw⟩ := hw2
      rw [ez] at hW
      obtain ⟨X_6, eX_6⟩ : ∃ z : ES, z = va_up X_2 k1 Y_5 := ⟨_, rfl⟩
      have hw := hw X_6 eX_6
      have hW : Wd g lay (put 26 o X_6 E0) H := by rw [eX_6, ← putUp (k := k1) (isFi_lt h1)]; exact hW
      refine lv_aload_n hx hb dX0_awaitDigit_52 rfl (lv_at hl 2 rfl) ?_
      refine lv_iconst (v := 5) hx hb dX0_awaitDigit_53 (by decide) ?_
      obtain ⟨X_7, eX_7⟩ : ∃ z : ES, z = va_up X_6 k2 (upd (X_6 k2) 3 5) := ⟨_, rfl⟩
      have hw := hw X_7 eX_7
      refine p_X0_109 (E1 := put 26 o X_7 E0) hx hb hown hts hK hA hW hS (HB.2.2.2.2.1 _ h2) (putAt (k := k2) (isLi_lt h2)) dX0_awaitDigit_54 (puE (k := k2) (isLi_lt h2) eX_7) (fun H locs hW hS => ?_)
      refine lv_aload_n hx hb dX0_awaitDigit_57 rfl (lv_at hl 2 rfl) ?_
      refine lv_bipush (v := 10) hx hb dX0_awaitDigit_58 (by decide) ?_
      refine w_cvv (As := [.int 10]) (rest := []) hx hb hml hown hts hK hW hS hl.1 (c_X2_leaveCall hA (HB.2.2.2.2.1 _ h2) (putAt (k := k2) (isLi_lt h2)) hw) (k_X0_125 hts ⟨Nat.le_of_ble_eq_true rfl, Nat.le_of_ble_eq_true rfl⟩) (w_recv hK hW (HB.2.2.2.2.1 _ h2) (putAt (k := k2) (isLi_lt h2)) rfl rfl) rfl rfl (Nat.le_of_ble_eq_true rfl) dX0_awaitDigit_60 ⟨Nat.zero_le _, Nat.zero_le _⟩ (fun Ez H locs hw2 hW hS => ?_)
      obtain ⟨Y_8, ez, hw⟩ := hw2
      rw [ez] at hW
      obtain ⟨X_9, eX_9⟩ : ∃ z : ES, z = va_up X_7 k2 Y_8 := ⟨_, rfl⟩
      have hw := hw X_9 eX_9
      have hW : Wd g lay (put 26 o X_9 E0) H := by rw [eX_9, ← putUp (k := k2) (isLi_lt h2)]; exact hW
      refine lv_aload_n hx hb dX0_awaitDigit_63 rfl (lv_at hl 0 rfl) ?_
      refine lv_dup hx hb dX0_awaitDigit_64 rfl ?_
      refine g_X0_76 hx hb hown hts hK hW HB.1 (putAt (k := 0) (by decide)) dX0_awaitDigit_65 ?_
      refine lv_iconst (v := 1) hx hb dX0_awaitDigit_68 (by decide) ?_
      refine lv_iadd hx hb dX0_awaitDigit_69 ?_
      obtain ⟨X_10, eX_10⟩ : ∃ z : ES, z = va_up X_9 0 (upd (X_9 0) 15 (((X_9 0) 15) + 1)) := ⟨_, rfl⟩
      have hw := hw X_10 eX_10
      refine p_X0_76 (E1 := put 26 o X_10 E0) hx hb hown hts hK hA hW hS HB.1 (putAt (k := 0) (by decide)) dX0_awaitDigit_70 (puE (k := 0) (by decide) eX_10) (fun H locs hW hS => ?_)
      exact w_vret hx hb hr hlocks hW hS ⟨X_10, rfl, hw⟩ dX0_awaitDigit_73
  · have hw := hw.2 c_1
    refine lv_aload_n hx hb dX0_awaitDigit_7 rfl (lv_at hl 1 rfl) ?_
    refine lv_iload_n hx hb dX0_awaitDigit_8 rfl (lv_at hl 3 rfl) ?_
    refine w_cvv (As := [.int p3]) (rest := []) hx hb hml hown hts hK hW hS hl.1 (c_X1_become hA (HB.2.2.2.2.2 _ h1) (putAt (k := k1) (isFi_lt h1)) hw) (k_X0_184 hts ⟨Nat.le_of_ble_eq_true rfl, Nat.le_of_ble_eq_true rfl⟩) (w_recv hK hW (HB.2.2.2.2.2 _ h1) (putAt (k := k1) (isFi_lt h1)) rfl rfl) rfl rfl (Nat.le_of_ble_eq_true rfl) dX0_awaitDigit_9 ⟨Nat.zero_le _, Nat.zero_le _⟩ (fun Ez H locs hw2 hW hS => ?_)
    obtain ⟨Y_11, ez, hw⟩ := hw2
    rw [ez] at hW
    obtain ⟨X_12, eX_12⟩ : ∃ z : ES, z = va_up X k1 Y_11 := ⟨_, rfl⟩
    have hw := hw X_12 eX_12
    have hW : Wd g lay (put 26 o X_12 E0) H := by rw [eX_12, ← putUp (k := k1) (isFi_lt h1)]; exact hW
    refine lv_aload_n hx hb dX0_awaitDigit_12 rfl (lv_at hl 1 rfl) ?_
    refine lv_aload_n hx hb dX0_awaitDigit_13 rfl (lv_at hl 2 rfl) ?_
    refine w_cvi (As := []) (rest := [.ref (o + k1)]) hx hb hml hown hts hK hW hS hl.1 (c_X2_takePulses hA (HB.2.2.2.2.1 _ h2) (putAt (k := k2) (isLi_lt h2)) hw) (k_X0_187 hts ⟨Nat.le_of_ble_eq_true rfl, Nat.le_of_ble_eq_true rfl⟩) (w_recv hK hW (HB.2.2.2.2.1 _ h2) (putAt (k := k2) (isLi_lt h2)) rfl rfl) rfl rfl (Nat.le_of_ble_eq_true rfl) dX0_awaitDigit_14 ⟨Nat.zero_le _, Nat.zero_le _⟩ (fun r_13 Ez H locs hw2 hW hS => ?_)
    obtain ⟨Y_14, ez, hw⟩ := hw2
    rw [ez] at hW
    obtain ⟨X_15, eX_15⟩ : ∃ z : ES, z = va_up X_12 k2 Y_14 := ⟨_, rfl⟩
    have hw := hw X_15 eX_15
    have hW : Wd g lay (put 26 o X_15 E0) H := by rw [eX_15, ← putUp (k := k2) (isLi_lt h2)]; exact hW
    obtain ⟨X_16, eX_16⟩ : ∃ z : ES, z = va_up X_15 k1 (upd (X_15 k1) 5 r_13) := ⟨_, rfl⟩
    have hw := hw X_16 eX_16
    refine p_X0_191 (E1 := put 26 o X_16 E0) hx hb hown hts hK hA hW hS (HB.2.2.2.2.2 _ h1) (putAt (k := k1) (isFi_lt h1)) dX0_awaitDigit_17 (puE (k := k1) (isFi_lt h1) eX_16) (fun H locs hW hS => ?_)
    refine lv_aload_n hx hb dX0_awaitDigit_20 rfl (lv_at hl 2 rfl) ?_
    refine lv_iconst (v := 3) hx hb dX0_awaitDigit_21 (by decide) ?_
    obtain ⟨X_17, eX_17⟩ : ∃ z : ES, z = va_up X_16 k2 (upd (X_16 k2) 0 3) := ⟨_, rfl⟩
    have hw := hw X_17 eX_17
    refine p_X0_106 (E1 := put 26 o X_17 E0) hx hb hown hts hK hA hW hS (HB.2.2.2.2.1 _ h2) (putAt (k := k2) (isLi_lt h2)) dX0_awaitDigit_22 (puE (k := k2) (isLi_lt h2) eX_17) (fun H locs hW hS => ?_)
    exact w_vret hx hb hr hlocks hW hS ⟨X_17, rfl, hw⟩ dX0_awaitDigit_25
set_option maxHeartbeats 4000000 in
set_option maxRecDepth 100000 in
theorem c_X0_sound {l : Launch} {g : GG} {lay : LY} {E0 : ES} {o : Nat} {X : ES} {k1 : Nat} {k2 : Nat} {p3 : Int32} {p4 : Int32} {K : ES → Prop} (hA : okL g lay) (HB : XL g lay o) (hX : ∀ k, k < 26 → E0 (o + k) = X k) (h1 : isFi k1) (h2 : isLi k2) (hw : wp_X0_sound X k1 k2 p3 p4 K) : JMv l g lay yX0_sound wsX0_sound rmX0_sound [.ref o, .ref (o + k1), .ref (o + k2), .int p3, .int p4] E0 (fun E1 => ∃ X1 : ES, E1 = put 26 o X1 E0 ∧ K X1) := by
  refine Met.ofW (cc := cX0_sound) (maxL := 5) (ret := none) (by decide) rfl ?_
  intro p e s m args below meth c s₁ B hml hv
  obtain ⟨rfl, hK, hW⟩ := hv
  have hx := B.exec
  have hb := B.bytes
  have hr := B.returns
  have hts := gd_of (atoms_spec (ws := wsX0_sound) B.pre)
  have hown : s.vm.findClass RX0 = some m.cls := findClass_of_methodNamed B.named
  have hlocks := B.notSynchronized
  have hS : va_S (Ab g) s.heap s.heap [] := va_S.rf
  have hW : Wd g lay (put 26 o X E0) s.heap := by rw [putSelf hX]; exact hW
  have hl := lv_entry [.ref o, .ref (o + k1), .ref (o + k2), .int p3, .int p4] (n := 5) (Nat.le_of_ble_eq_true rfl)
  rw [lg_entry_eq]
  generalize (lg_sl [.ref o, .ref (o + k1), .ref (o + k2), .int p3, .int p4] ++ List.replicate (5 - (lg_sl [.ref o, .ref (o + k1), .ref (o + k2), .int p3, .int p4]).length) Slot.unset).toArray = ls at hl ⊢
  have hl : lv_has ls 5 [(0, .ref o), (1, .ref (o + k1)), (2, .ref (o + k2)), (3, .int p3), (4, .int p4)] := hl
  unfold wp_X0_sound at hw
  refine lv_aload_n hx hb dX0_sound_0 rfl (lv_at hl 1 rfl) ?_
  refine lv_bipush (v := 9) hx hb dX0_sound_1 (by decide) ?_
  refine w_cvv (As := [.int 9]) (rest := []) hx hb hml hown hts hK hW hS hl.1 (c_X1_become hA (HB.2.2.2.2.2 _ h1) (putAt (k := k1) (isFi_lt h1)) hw) (k_X0_184 hts ⟨Nat.le_of_ble_eq_true rfl, Nat.le_of_ble_eq_true rfl⟩) (w_recv hK hW (HB.2.2.2.2.2 _ h1) (putAt (k := k1) (isFi_lt h1)) rfl rfl) rfl rfl (Nat.le_of_ble_eq_true rfl) dX0_sound_3 ⟨Nat.zero_le _, Nat.zero_le _⟩ (fun Ez H locs hw2 hW hS => ?_)
  obtain ⟨Y_1, ez, hw⟩ := hw2
  rw [ez] at hW
  obtain ⟨X_2, eX_2⟩ : ∃ z : ES, z = va_up X k1 Y_1 := ⟨_, rfl⟩
  have hw := hw X_2 eX_2
  have hW : Wd g lay (put 26 o X_2 E0) H := by rw [eX_2, ← putUp (k := k1) (isFi_lt h1)]; exact hW
  refine lv_aload_n hx hb dX0_sound_6 rfl (lv_at hl 1 rfl) ?_
  refine lv_bipush (v := (-6)) hx hb dX0_sound_7 (by decide) ?_
  obtain ⟨X_3, eX_3⟩ : ∃ z : ES, z = va_up X_2 k1 (upd (X_2 k1) 4 (-6)) := ⟨_, rfl⟩
  have hw := hw X_3 eX_3
  refine p_X0_204 (E1 := put 26 o X_3 E0) hx hb hown hts hK hA hW hS (HB.2.2.2.2.2 _ h1) (putAt (k := k1) (isFi_lt h1)) dX0_sound_9 (puE (k := k1) (isFi_lt h1) eX_3) (fun H locs hW hS => ?_)
  refine lv_aload_n hx hb dX0_sound_12 rfl (lv_at hl 1 rfl) ?_
  refine lv_bipush (v := (-6)) hx hb dX0_sound_13 (by decide) ?_
  obtain ⟨X_4, eX_4⟩ : ∃ z : ES, z = va_up X_3 k1 (upd (X_3 k1) 9 (-6)) := ⟨_, rfl⟩
  have hw := hw X_4 eX_4
  refine p_X0_129 (E1 := put 26 o X_4 E0) hx hb hown hts hK hA hW hS (HB.2.2.2.2.2 _ h1) (putAt (k := k1) (isFi_lt h1)) dX0_sound_15 (puE (k := k1) (isFi_lt h1) eX_4) (fun H locs hW hS => ?_)
  refine lv_aload_n hx hb dX0_sound_18 rfl (lv_at hl 2 rfl) ?_
  refine lv_iload_n hx hb dX0_sound_19 rfl (lv_at hl 3 rfl) ?_
  obtain ⟨X_5, eX_5⟩ : ∃ z : ES, z = va_up X_4 k2 (upd (X_4 k2) 0 p3) := ⟨_, rfl⟩
  have hw := hw X_5 eX_5
  refine p_X0_106 (E1 := put 26 o X_5 E0) hx hb hown hts hK hA hW hS (HB.2.2.2.2.1 _ h2) (putAt (k := k2) (isLi_lt h2)) dX0_sound_20 (puE (k := k2) (isLi_lt h2) eX_5) (fun H locs hW hS => ?_)
  refine lv_aload_n hx hb dX0_sound_23 rfl (lv_at hl 2 rfl) ?_
  refine lv_iload hx hb dX0_sound_24 (lv_at hl 4 rfl) ?_
  obtain ⟨X_6, eX_6⟩ : ∃ z : ES, z = va_up X_5 k2 (upd (X_5 k2) 3 p4) := ⟨_, rfl⟩
  have hw := hw X_6 eX_6
  refine p_X0_109 (E1 := put 26 o X_6 E0) hx hb hown hts hK hA hW hS (HB.2.2.2.2.1 _ h2) (putAt (k := k2) (isLi_lt h2)) dX0_sound_26 (puE (k := k2) (isLi_lt h2) eX_6) (fun H locs hW hS => ?_)
  refine lv_iload_n hx hb dX0_sound_29 rfl (lv_at hl 3 rfl) ?_
  refine lv_bipush (v := 8) hx hb dX0_sound_30 (by decide) ?_
  refine lv_icmp_ne (tgt := 48) hx hb dX0_sound_32 (by decide) (fun c_7 => ?_) (fun c_7 => ?_)
  · have hw := hw.2 c_7
    refine lv_aload_n hx hb dX0_sound_48 rfl (lv_at hl 0 rfl) ?_
    refine lv_dup hx hb dX0_sound_49 rfl ?_
    refine g_X0_73 hx hb hown hts hK hW HB.1 (putAt (k := 0) (by decide)) dX0_sound_50 ?_
    refine lv_iconst (v := 1) hx hb dX0_sound_53 (by decide) ?_
    refine lv_iadd hx hb dX0_sound_54 ?_
    obtain ⟨X_8, eX_8⟩ : ∃ z : ES, z = va_up X_6 0 (upd (X_6 0) 14 (((X_6 0) 14) + 1)) := ⟨_, rfl⟩
    have hw := hw X_8 eX_8
    refine p_X0_73 (E1 := put 26 o X_8 E0) hx hb hown hts hK hA hW hS HB.1 (putAt (k := 0) (by decide)) dX0_sound_55 (puE (k := 0) (by decide) eX_8) (fun H locs hW hS => ?_)
    exact w_vret hx hb hr hlocks hW hS ⟨X_8, rfl, hw⟩ dX0_sound_58
  · have hw := hw.1 c_7
    refine lv_aload_n hx hb dX0_sound_35 rfl (lv_at hl 0 rfl) ?_
    refine lv_dup hx hb dX0_sound_36 rfl ?_
    refine g_X0_70 hx hb hown hts hK hW HB.1 (putAt (k := 0) (by decide)) dX0_sound_37 ?_
    refine lv_iconst (v := 1) hx hb dX0_sound_40 (by decide) ?_
    refine lv_iadd hx hb dX0_sound_41 ?_
    obtain ⟨X_9, eX_9⟩ : ∃ z : ES, z = va_up X_6 0 (upd (X_6 0) 13 (((X_6 0) 13) + 1)) := ⟨_, rfl⟩
    have hw := hw X_9 eX_9
    refine p_X0_70 (E1 := put 26 o X_9 E0) hx hb hown hts hK hA hW hS HB.1 (putAt (k := 0) (by decide)) dX0_sound_42 (puE (k := 0) (by decide) eX_9) (fun H locs hW hS => ?_)
    refine lv_goto (tgt := 58) hx hb dX0_sound_45 (by decide) ?_
    exact w_vret hx hb hr hlocks hW hS ⟨X_9, rfl, hw⟩ dX0_sound_58
set_option maxHeartbeats 4000000 in
set_option maxRecDepth 100000 in
theorem c_X0_rise {l : Launch} {g : GG} {lay : LY} {E0 : ES} {o : Nat} {X : ES} {k1 : Nat} {k2 : Nat} {K : ES → Prop} (hA : okL g lay) (HB : XL g lay o) (hX : ∀ k, k < 26 → E0 (o + k) = X k) (h1 : isFi k1) (h2 : isLi k2) (hw : wp_X0_rise X k1 k2 K) : JMv l g lay yX0_rise wsX0_rise rmX0_rise [.ref o, .ref (o + k1), .ref (o + k2)] E0 (fun E1 => ∃ X1 : ES, E1 = put 26 o X1 E0 ∧ K X1) := by
  refine Met.ofW (cc := cX0_rise) (maxL := 3) (ret := none) (by decide) rfl ?_
  intro p e s m args below meth c s₁ B hml hv
  obtain ⟨rfl, hK, hW⟩ := hv
  have hx := B.exec
  have hb := B.bytes
  have hr := B.returns
  have hts := gd_of (atoms_spec (ws := wsX0_rise) B.pre)
  have hown : s.vm.findClass RX0 = some m.cls := findClass_of_methodNamed B.named
  have hlocks := B.notSynchronized
  have hS : va_S (Ab g) s.heap s.heap [] := va_S.rf
  have hW : Wd g lay (put 26 o X E0) s.heap := by rw [putSelf hX]; exact hW
  have hl := lv_entry [.ref o, .ref (o + k1), .ref (o + k2)] (n := 3) (Nat.le_of_ble_eq_true rfl)
  rw [lg_entry_eq]
  generalize (lg_sl [.ref o, .ref (o + k1), .ref (o + k2)] ++ List.replicate (3 - (lg_sl [.ref o, .ref (o + k1), .ref (o + k2)]).length) Slot.unset).toArray = ls at hl ⊢
  have hl : lv_has ls 3 [(0, .ref o), (1, .ref (o + k1)), (2, .ref (o + k2))] := hl
  unfold wp_X0_rise at hw
  refine lv_aload_n hx hb dX0_rise_0 rfl (lv_at hl 1 rfl) ?_
  refine lv_dup hx hb dX0_rise_1 rfl ?_
  refine g_X0_191 hx hb hown hts hK hW (HB.2.2.2.2.2 _ h1) (putAt (k := k1) (isFi_lt h1)) dX0_rise_2 ?_
  refine lv_iconst (v := 1) hx hb dX0_rise_5 (by decide) ?_
  refine lv_isub hx hb dX0_rise_6 ?_
  obtain ⟨X_1, eX_1⟩ : ∃ z : ES, z = va_up X k1 (upd (X k1) 5 (((X k1) 5) - 1)) := ⟨_, rfl⟩
  have hw := hw X_1 eX_1
  refine p_X0_191 (E1 := put 26 o X_1 E0) hx hb hown hts hK hA hW hS (HB.2.2.2.2.2 _ h1) (putAt (k := k1) (isFi_lt h1)) dX0_rise_7 (puE (k := k1) (isFi_lt h1) eX_1) (fun H locs hW hS => ?_)
  refine lv_aload_n hx hb dX0_rise_10 rfl (lv_at hl 1 rfl) ?_
  refine lv_dup hx hb dX0_rise_11 rfl ?_
  refine g_X0_197 hx hb hown hts hK hW (HB.2.2.2.2.2 _ h1) (putAt (k := k1) (isFi_lt h1)) dX0_rise_12 ?_
  refine lv_iconst (v := 1) hx hb dX0_rise_15 (by decide) ?_
  refine lv_iadd hx hb dX0_rise_16 ?_
  obtain ⟨X_2, eX_2⟩ : ∃ z : ES, z = va_up X_1 k1 (upd (X_1 k1) 3 (((X_1 k1) 3) + 1)) := ⟨_, rfl⟩
  have hw := hw X_2 eX_2
  refine p_X0_197 (E1 := put 26 o X_2 E0) hx hb hown hts hK hA hW hS (HB.2.2.2.2.2 _ h1) (putAt (k := k1) (isFi_lt h1)) dX0_rise_17 (puE (k := k1) (isFi_lt h1) eX_2) (fun H locs hW hS => ?_)
  refine lv_aload_n hx hb dX0_rise_20 rfl (lv_at hl 1 rfl) ?_
  refine g_X0_191 hx hb hown hts hK hW (HB.2.2.2.2.2 _ h1) (putAt (k := k1) (isFi_lt h1)) dX0_rise_21 ?_
  refine lv_if_le (tgt := 28) hx hb dX0_rise_24 (by decide) (fun c_3 => ?_) (fun c_3 => ?_)
  · have hw := hw.1 c_3
    refine lv_aload_n hx hb dX0_rise_28 rfl (lv_at hl 1 rfl) ?_
    refine g_X0_197 hx hb hown hts hK hW (HB.2.2.2.2.2 _ h1) (putAt (k := k1) (isFi_lt h1)) dX0_rise_29 ?_
    refine lv_iconst (v := 4) hx hb dX0_rise_32 (by decide) ?_
    refine lv_icmp_le (tgt := 48) hx hb dX0_rise_33 (by decide) (fun c_4 => ?_) (fun c_4 => ?_)
    · have hw := hw.1 c_4
      refine lv_aload_n hx hb dX0_rise_48 rfl (lv_at hl 1 rfl) ?_
      refine lv_iconst (v := 4) hx hb dX0_rise_49 (by decide) ?_
      refine w_cvv (As := [.int 4]) (rest := []) hx hb hml hown hts hK hW hS hl.1 (c_X1_become hA (HB.2.2.2.2.2 _ h1) (putAt (k := k1) (isFi_lt h1)) hw) (k_X0_184 hts ⟨Nat.le_of_ble_eq_true rfl, Nat.le_of_ble_eq_true rfl⟩) (w_recv hK hW (HB.2.2.2.2.2 _ h1) (putAt (k := k1) (isFi_lt h1)) rfl rfl) rfl rfl (Nat.le_of_ble_eq_true rfl) dX0_rise_50 ⟨Nat.zero_le _, Nat.zero_le _⟩ (fun Ez H locs hw2 hW hS => ?_)
      obtain ⟨Y_5, ez, hw⟩ := hw2
      rw [ez] at hW
      obtain ⟨X_6, eX_6⟩ : ∃ z : ES, z = va_up X_2 k1 Y_5 := ⟨_, rfl⟩
      have hw := hw X_6 eX_6
      have hW : Wd g lay (put 26 o X_6 E0) H := by rw [eX_6, ← putUp (k := k1) (isFi_lt h1)]; exact hW
      refine lv_aload_n hx hb dX0_rise_53 rfl (lv_at hl 1 rfl) ?_
      refine lv_iconst (v := 0) hx hb dX0_rise_54 (by decide) ?_
      obtain ⟨X_7, eX_7⟩ : ∃ z : ES, z = va_up X_6 k1 (upd (X_6 k1) 4 0) := ⟨_, rfl⟩
      have hw := hw X_7 eX_7
      refine p_X0_204 (E1 := put 26 o X_7 E0) hx hb hown hts hK hA hW hS (HB.2.2.2.2.2 _ h1) (putAt (k := k1) (isFi_lt h1)) dX0_rise_55 (puE (k := k1) (isFi_lt h1) eX_7) (fun H locs hW hS => ?_)
      exact w_vret hx hb hr hlocks hW hS ⟨X_7, rfl, hw⟩ dX0_rise_58
    · have hw := hw.2 c_4
      refine lv_aload_n hx hb dX0_rise_36 rfl (lv_at hl 0 rfl) ?_
      refine lv_aload_n hx hb dX0_rise_37 rfl (lv_at hl 1 rfl) ?_
      refine lv_aload_n hx hb dX0_rise_38 rfl (lv_at hl 2 rfl) ?_
      refine lv_bipush (v := 9) hx hb dX0_rise_39 (by decide) ?_
      refine lv_iconst (v := 3) hx hb dX0_rise_41 (by decide) ?_
      refine w_cvv (As := [.ref (o + k1), .ref (o + k2), .int 9, .int 3]) (rest := []) hx hb hml hown hts hK hW hS hl.1 (c_X0_sound hA HB (fun k hk => putAt hk) h1 h2 hw) (k_X0_200 hts ⟨Nat.le_of_ble_eq_true rfl, Nat.le_of_ble_eq_true rfl⟩) (w_recv hK hW HB.1 (putAt (k := 0) (by decide)) rfl rfl) rfl rfl (Nat.le_of_ble_eq_true rfl) dX0_rise_42 ⟨Nat.zero_le _, Nat.zero_le _⟩ (fun Ez H locs hw2 hW hS => ?_)
      obtain ⟨X_8, ez, hw⟩ := hw2
      rw [ez, putPut] at hW
      refine lv_goto (tgt := 58) hx hb dX0_rise_45 (by decide) ?_
      exact w_vret hx hb hr hlocks hW hS ⟨X_8, rfl, hw⟩ dX0_rise_58
  · have hw := hw.2 c_3
    exact w_vret hx hb hr hlocks hW hS ⟨X_2, rfl, hw⟩ dX0_rise_27
set_option maxHeartbeats 4000000 in
set_option maxRecDepth 100000 in
theorem c_X0_holderOf {l : Launch} {g : GG} {lay : LY} {E0 : ES} {o : Nat} {X : ES} {p1 : Int32} {p2 : Int32} {K : Int32 → Prop} (hA : okL g lay) (HB : XL g lay o) (hX : ∀ k, k < 26 → E0 (o + k) = X k) (hw : wp_X0_holderOf X p1 p2 K) : JMi l g lay yX0_holderOf wsX0_holderOf rmX0_holderOf [.ref o, .int p1, .int p2] E0 (fun r E1 => E1 = E0 ∧ K r) := by
  refine Met.ofW (cc := cX0_holderOf) (maxL := 5) (ret := (some .int)) (by decide) rfl ?_
  intro p e s m args below meth c s₁ B hml hv
  obtain ⟨rfl, hK, hW⟩ := hv
  have hx := B.exec
  have hb := B.bytes
  have hr := B.returns
  have hts := gd_of (atoms_spec (ws := wsX0_holderOf) B.pre)
  have hown : s.vm.findClass RX0 = some m.cls := findClass_of_methodNamed B.named
  have hlocks := B.notSynchronized
  have hS : va_S (Ab g) s.heap s.heap [] := va_S.rf
  have hl := lv_entry [.ref o, .int p1, .int p2] (n := 5) (Nat.le_of_ble_eq_true rfl)
  rw [lg_entry_eq]
  generalize (lg_sl [.ref o, .int p1, .int p2] ++ List.replicate (5 - (lg_sl [.ref o, .int p1, .int p2]).length) Slot.unset).toArray = ls at hl ⊢
  have hl : lv_has ls 5 [(0, .ref o), (1, .int p1), (2, .int p2)] := hl
  unfold wp_X0_holderOf at hw
  refine lv_iconst (v := 0) hx hb dX0_holderOf_0 (by decide) ?_
  refine lv_istore_n (lv' := [(3, .int 0), (0, .ref o), (1, .int p1), (2, .int p2)]) hx hb dX0_holderOf_1 rfl hl (by decide) rfl (fun ls hl => ?_)
  obtain ⟨n_25, hw⟩ := hw
  refine w_loop (KT := Int32 → Prop) (σ := Int32) (Wl := fun Kx_2 n_2 q => wpl_X0_holderOf_2 X p1 p2 K Kx_2 n_2 q) (Pw := fun q => Wd g lay (E0)) (lvf := fun q => [(0, .ref o), (1, .int p1), (2, .int p2), (3, .int q)]) (nL := 5) n_25 (0) hw hW hS (lv_sub hl [1, 2, 3, 0] rfl) (fun _ h => h) (fun Kx_2 eK_2 n_2 q H locs ls hw hW hS hl ih_2 => ?_)
  obtain ⟨i_1, rfl⟩ : ∃ z, z = q := ⟨_, rfl⟩
  try dsimp only at hw
  rw [wpl_X0_holderOf_2] at hw
  have hl : lv_has ls 5 [(0, .ref o), (1, .int p1), (2, .int p2), (3, .int i_1)] := hl
  have hW : Wd g lay (E0) H := hW
  refine lv_iload_n hx hb dX0_holderOf_2 rfl (lv_at hl 3 rfl) ?_
  refine lv_aload_n hx hb dX0_holderOf_3 rfl (lv_at hl 0 rfl) ?_
  refine g_X0_45 hx hb hown hts hK hW HB.1 (hX 0 (by decide)) dX0_holderOf_4 ?_
  refine lv_icmp_ge (tgt := 51) hx hb dX0_holderOf_7 (by decide) (fun c_15 => ?_) (fun c_15 => ?_)
  · have hw := hw.1 c_15
    rw [eK_2] at hw
    refine lv_bipush (v := (-6)) hx hb dX0_holderOf_51 (by decide) ?_
    exact w_iret hx hb hr hlocks hW hS ⟨rfl, hw⟩ dX0_holderOf_53
  · have hw := hw.2 c_15
    refine lv_aload_n hx hb dX0_holderOf_10 rfl (lv_at hl 0 rfl) ?_
    refine lv_iload_n hx hb dX0_holderOf_11 rfl (lv_at hl 3 rfl) ?_
    refine w_cvr (As := [.int i_1]) (rest := []) hx hb hml hown hts hK hW hS hl.1 (c_X0_finderAt hA HB i_1) (k_X0_90 hts ⟨Nat.le_of_ble_eq_true rfl, Nat.le_of_ble_eq_true rfl⟩) (w_recv hK hW HB.1 (hX 0 (by decide)) rfl rfl) rfl rfl (Nat.le_of_ble_eq_true rfl) dX0_holderOf_12 ⟨Nat.zero_le _, Nat.zero_le _⟩ (fun q_16 Ez H locs hw2 hW hS => ?_)
    obtain ⟨ez, rfl⟩ := hw2
    rw [ez] at hW
    refine lv_astore (lv' := [(4, .ref (o + fix i_1)), (0, .ref o), (1, .int p1), (2, .int p2), (3, .int i_1)]) hx hb dX0_holderOf_15 hl (by decide) rfl (fun ls hl => ?_)
    refine lv_aload hx hb dX0_holderOf_17 (lv_at hl 0 rfl) ?_
    refine w_cvi (As := []) (rest := []) hx hb hml hown hts hK hW hS hl.1 (c_X1_holdsConnector hA (HB.2.2.2.2.2 _ (isFi_fix i_1)) (hX (fix i_1) (isFi_lt (isFi_fix i_1))) hw) (k_X0_232 hts ⟨Nat.le_of_ble_eq_true rfl, Nat.le_of_ble_eq_true rfl⟩) (w_recv hK hW (HB.2.2.2.2.2 _ (isFi_fix i_1)) (hX (fix i_1) (isFi_lt (isFi_fix i_1))) rfl rfl) rfl rfl (Nat.le_of_ble_eq_true rfl) dX0_holderOf_19 ⟨Nat.zero_le _, Nat.zero_le _⟩ (fun r_17 Ez H locs hw2 hW hS => ?_)
    obtain ⟨ez, z_18, hw⟩ := hw2
    rw [ez] at hW
    refine lv_if_eq (tgt := 45) hx hb dX0_holderOf_22 (by decide) (fun c_19 => ?_) (fun c_19 => ?_)
    · have hw := hw.1 c_19
      obtain ⟨v_20, ev_20⟩ : ∃ z : Int32, z = i_1 + 1 := ⟨_, rfl⟩
      have hw := hw v_20 ev_20
      refine lv_iinc (v := v_20) (lv' := [(3, .int v_20), (4, .ref (o + fix i_1)), (0, .ref o), (1, .int p1), (2, .int p2)]) hx hb dX0_holderOf_45 hl (k := 4) rfl (by rw [ev_20]; rfl) (by decide) rfl (fun ls hl => ?_)
      refine lv_goto (tgt := 2) hx hb dX0_holderOf_48 (by decide) ?_
      exact ih_2 (v_20) _ _ _ hw hW hS (lv_sub hl [2, 3, 4, 0] rfl)
    · have hw := hw.2 c_19
      refine lv_aload hx hb dX0_holderOf_25 (lv_at hl 0 rfl) ?_
      refine g_X0_197 hx hb hown hts hK hW (HB.2.2.2.2.2 _ (isFi_fix i_1)) (hX (fix i_1) (isFi_lt (isFi_fix i_1))) dX0_holderOf_27 ?_
      refine lv_iload_n hx hb dX0_holderOf_30 rfl (lv_at hl 2 rfl) ?_
      refine lv_icmp_ne (tgt := 45) hx hb dX0_holderOf_31 (by decide) (fun c_21 => ?_) (fun c_21 => ?_)
      · have hw := hw.2 c_21
        obtain ⟨v_22, ev_22⟩ : ∃ z : Int32, z = i_1 + 1 := ⟨_, rfl⟩
        have hw := hw v_22 ev_22
        refine lv_iinc (v := v_22) (lv' := [(3, .int v_22), (4, .ref (o + fix i_1)), (0, .ref o), (1, .int p1), (2, .int p2)]) hx hb dX0_holderOf_45 hl (k := 4) rfl (by rw [ev_22]; rfl) (by decide) rfl (fun ls hl => ?_)
        refine lv_goto (tgt := 2) hx hb dX0_holderOf_48 (by decide) ?_
        exact ih_2 (v_22) _ _ _ hw hW hS (lv_sub hl [2, 3, 4, 0] rfl)
      · have hw := hw.1 c_21
        refine lv_aload hx hb dX0_holderOf_34 (lv_at hl 0 rfl) ?_
        refine g_X0_204 hx hb hown hts hK hW (HB.2.2.2.2.2 _ (isFi_fix i_1)) (hX (fix i_1) (isFi_lt (isFi_fix i_1))) dX0_holderOf_36 ?_
        refine lv_iload_n hx hb dX0_holderOf_39 rfl (lv_at hl 3 rfl) ?_
        refine lv_icmp_ne (tgt := 45) hx hb dX0_holderOf_40 (by decide) (fun c_23 => ?_) (fun c_23 => ?_)
        · have hw := hw.2 c_23
          obtain ⟨v_24, ev_24⟩ : ∃ z : Int32, z = i_1 + 1 := ⟨_, rfl⟩
          have hw := hw v_24 ev_24
          refine lv_iinc (v := v_24) (lv' := [(3, .int v_24), (4, .ref (o + fix i_1)), (0, .ref o), (1, .int p1), (2, .int p2)]) hx hb dX0_holderOf_45 hl (k := 4) rfl (by rw [ev_24]; rfl) (by decide) rfl (fun ls hl => ?_)
          refine lv_goto (tgt := 2) hx hb dX0_holderOf_48 (by decide) ?_
          exact ih_2 (v_24) _ _ _ hw hW hS (lv_sub hl [2, 3, 4, 0] rfl)
        · have hw := hw.1 c_23
          refine lv_iload_n hx hb dX0_holderOf_43 rfl (lv_at hl 4 rfl) ?_
          exact w_iret hx hb hr hlocks hW hS ⟨rfl, hw⟩ dX0_holderOf_44
set_option maxHeartbeats 4000000 in
set_option maxRecDepth 100000 in
theorem c_X0_hunt {l : Launch} {g : GG} {lay : LY} {E0 : ES} {o : Nat} {X : ES} {k1 : Nat} {k2 : Nat} {K : ES → Prop} (hA : okL g lay) (HB : XL g lay o) (hX : ∀ k, k < 26 → E0 (o + k) = X k) (h1 : isFi k1) (h2 : isLi k2) (hw : wp_X0_hunt X k1 k2 K) : JMv l g lay yX0_hunt wsX0_hunt rmX0_hunt [.ref o, .ref (o + k1), .ref (o + k2)] E0 (fun E1 => ∃ X1 : ES, E1 = put 26 o X1 E0 ∧ K X1) := by
  refine Met.ofW (cc := cX0_hunt) (maxL := 3) (ret := none) (by decide) rfl ?_
  intro p e s m args below meth c s₁ B hml hv
  obtain ⟨rfl, hK, hW⟩ := hv
  have hx := B.exec
  have hb := B.bytes
  have hr := B.returns
  have hts := gd_of (atoms_spec (ws := wsX0_hunt) B.pre)
  have hown : s.vm.findClass RX0 = some m.cls := findClass_of_methodNamed B.named
  have hlocks := B.notSynchronized
  have hS : va_S (Ab g) s.heap s.heap [] := va_S.rf
  have hW : Wd g lay (put 26 o X E0) s.heap := by rw [putSelf hX]; exact hW
  have hl := lv_entry [.ref o, .ref (o + k1), .ref (o + k2)] (n := 3) (Nat.le_of_ble_eq_true rfl)
  rw [lg_entry_eq]
  generalize (lg_sl [.ref o, .ref (o + k1), .ref (o + k2)] ++ List.replicate (3 - (lg_sl [.ref o, .ref (o + k1), .ref (o + k2)]).length) Slot.unset).toArray = ls at hl ⊢
  have hl : lv_has ls 3 [(0, .ref o), (1, .ref (o + k1)), (2, .ref (o + k2))] := hl
  unfold wp_X0_hunt at hw
  refine lv_aload_n hx hb dX0_hunt_0 rfl (lv_at hl 0 rfl) ?_
  refine lv_aload_n hx hb dX0_hunt_1 rfl (lv_at hl 1 rfl) ?_
  refine g_X0_197 hx hb hown hts hK hW (HB.2.2.2.2.2 _ h1) (putAt (k := k1) (isFi_lt h1)) dX0_hunt_2 ?_
  refine lv_aload_n hx hb dX0_hunt_5 rfl (lv_at hl 1 rfl) ?_
  refine g_X0_204 hx hb hown hts hK hW (HB.2.2.2.2.2 _ h1) (putAt (k := k1) (isFi_lt h1)) dX0_hunt_6 ?_
  refine w_cvi (As := [.int ((X k1) 3), .int ((X k1) 4)]) (rest := []) hx hb hml hown hts hK hW hS hl.1 (c_X0_holderOf hA HB (fun k hk => putAt hk)  hw) (k_X0_207 hts ⟨Nat.le_of_ble_eq_true rfl, Nat.le_of_ble_eq_true rfl⟩) (w_recv hK hW HB.1 (putAt (k := 0) (by decide)) rfl rfl) rfl rfl (Nat.le_of_ble_eq_true rfl) dX0_hunt_9 ⟨Nat.zero_le _, Nat.zero_le _⟩ (fun r_1 Ez H locs hw2 hW hS => ?_)
  obtain ⟨ez, hw⟩ := hw2
  rw [ez] at hW
  refine lv_bipush (v := (-6)) hx hb dX0_hunt_12 (by decide) ?_
  refine lv_icmp_ne (tgt := 23) hx hb dX0_hunt_14 (by decide) (fun c_2 => ?_) (fun c_2 => ?_)
  · have hw := hw.2 c_2
    refine lv_aload_n hx hb dX0_hunt_23 rfl (lv_at hl 1 rfl) ?_
    refine lv_dup hx hb dX0_hunt_24 rfl ?_
    refine g_X0_204 hx hb hown hts hK hW (HB.2.2.2.2.2 _ h1) (putAt (k := k1) (isFi_lt h1)) dX0_hunt_25 ?_
    refine lv_iconst (v := 1) hx hb dX0_hunt_28 (by decide) ?_
    refine lv_iadd hx hb dX0_hunt_29 ?_
    obtain ⟨X_3, eX_3⟩ : ∃ z : ES, z = va_up X k1 (upd (X k1) 4 (((X k1) 4) + 1)) := ⟨_, rfl⟩
    have hw := hw X_3 eX_3
    refine p_X0_204 (E1 := put 26 o X_3 E0) hx hb hown hts hK hA hW hS (HB.2.2.2.2.2 _ h1) (putAt (k := k1) (isFi_lt h1)) dX0_hunt_30 (puE (k := k1) (isFi_lt h1) eX_3) (fun H locs hW hS => ?_)
    refine lv_aload_n hx hb dX0_hunt_33 rfl (lv_at hl 1 rfl) ?_
    refine g_X0_204 hx hb hown hts hK hW (HB.2.2.2.2.2 _ h1) (putAt (k := k1) (isFi_lt h1)) dX0_hunt_34 ?_
    refine lv_aload_n hx hb dX0_hunt_37 rfl (lv_at hl 0 rfl) ?_
    refine g_X0_49 hx hb hown hts hK hW HB.1 (putAt (k := 0) (by decide)) dX0_hunt_38 ?_
    refine lv_icmp_lt (tgt := 53) hx hb dX0_hunt_41 (by decide) (fun c_4 => ?_) (fun c_4 => ?_)
    · have hw := hw.1 c_4
      exact w_vret hx hb hr hlocks hW hS ⟨X_3, rfl, hw⟩ dX0_hunt_53
    · have hw := hw.2 c_4
      refine lv_aload_n hx hb dX0_hunt_44 rfl (lv_at hl 0 rfl) ?_
      refine lv_aload_n hx hb dX0_hunt_45 rfl (lv_at hl 1 rfl) ?_
      refine lv_aload_n hx hb dX0_hunt_46 rfl (lv_at hl 2 rfl) ?_
      refine lv_bipush (v := 8) hx hb dX0_hunt_47 (by decide) ?_
      refine lv_iconst (v := 2) hx hb dX0_hunt_49 (by decide) ?_
      refine w_cvv (As := [.ref (o + k1), .ref (o + k2), .int 8, .int 2]) (rest := []) hx hb hml hown hts hK hW hS hl.1 (c_X0_sound hA HB (fun k hk => putAt hk) h1 h2 hw) (k_X0_200 hts ⟨Nat.le_of_ble_eq_true rfl, Nat.le_of_ble_eq_true rfl⟩) (w_recv hK hW HB.1 (putAt (k := 0) (by decide)) rfl rfl) rfl rfl (Nat.le_of_ble_eq_true rfl) dX0_hunt_50 ⟨Nat.zero_le _, Nat.zero_le _⟩ (fun Ez H locs hw2 hW hS => ?_)
      obtain ⟨X_5, ez, hw⟩ := hw2
      rw [ez, putPut] at hW
      exact w_vret hx hb hr hlocks hW hS ⟨X_5, rfl, hw⟩ dX0_hunt_53
  · have hw := hw.1 c_2
    refine lv_aload_n hx hb dX0_hunt_17 rfl (lv_at hl 1 rfl) ?_
    refine lv_iconst (v := 5) hx hb dX0_hunt_18 (by decide) ?_
    refine w_cvv (As := [.int 5]) (rest := []) hx hb hml hown hts hK hW hS hl.1 (c_X1_become hA (HB.2.2.2.2.2 _ h1) (putAt (k := k1) (isFi_lt h1)) hw) (k_X0_184 hts ⟨Nat.le_of_ble_eq_true rfl, Nat.le_of_ble_eq_true rfl⟩) (w_recv hK hW (HB.2.2.2.2.2 _ h1) (putAt (k := k1) (isFi_lt h1)) rfl rfl) rfl rfl (Nat.le_of_ble_eq_true rfl) dX0_hunt_19 ⟨Nat.zero_le _, Nat.zero_le _⟩ (fun Ez H locs hw2 hW hS => ?_)
    obtain ⟨Y_6, ez, hw⟩ := hw2
    rw [ez] at hW
    obtain ⟨X_7, eX_7⟩ : ∃ z : ES, z = va_up X k1 Y_6 := ⟨_, rfl⟩
    have hw := hw X_7 eX_7
    have hW : Wd g lay (put 26 o X_7 E0) H := by rw [eX_7, ← putUp (k := k1) (isFi_lt h1)]; exact hW
    exact w_vret hx hb hr hlocks hW hS ⟨X_7, rfl, hw⟩ dX0_hunt_22
set_option maxHeartbeats 4000000 in
set_option maxRecDepth 100000 in
theorem c_X0_stepOn {l : Launch} {g : GG} {lay : LY} {E0 : ES} {o : Nat} {X : ES} {k1 : Nat} {k2 : Nat} {K : ES → Prop} (hA : okL g lay) (HB : XL g lay o) (hX : ∀ k, k < 26 → E0 (o + k) = X k) (h1 : isFi k1) (h2 : isLi k2) (hw : wp_X0_stepOn X k1 k2 K) : JMv l g lay yX0_stepOn wsX0_stepOn rmX0_stepOn [.ref o, .ref (o + k1), .ref (o + k2)] E0 (fun E1 => ∃ X1 : ES, E1 = put 26 o X1 E0 ∧ K X1) := by
  refine Met.ofW (cc := cX0_stepOn) (maxL := 5) (ret := none) (by decide) rfl ?_
  intro p e s m args below meth c s₁ B hml hv
  obtain ⟨rfl, hK, hW⟩ := hv
  have hx := B.exec
  have hb := B.bytes
  have hr := B.returns
  have hts := gd_of (atoms_spec (ws := wsX0_stepOn) B.pre)
  have hown : s.vm.findClass RX0 = some m.cls := findClass_of_methodNamed B.named
  have hlocks := B.notSynchronized
  have hS : va_S (Ab g) s.heap s.heap [] := va_S.rf
  have hW : Wd g lay (put 26 o X E0) s.heap := by rw [putSelf hX]; exact hW
  have hl := lv_entry [.ref o, .ref (o + k1), .ref (o + k2)] (n := 5) (Nat.le_of_ble_eq_true rfl)
  rw [lg_entry_eq]
  generalize (lg_sl [.ref o, .ref (o + k1), .ref (o + k2)] ++ List.replicate (5 - (lg_sl [.ref o, .ref (o + k1), .ref (o + k2)]).length) Slot.unset).toArray = ls at hl ⊢
  have hl : lv_has ls 5 [(0, .ref o), (1, .ref (o + k1)), (2, .ref (o + k2))] := hl
  unfold wp_X0_stepOn at hw
  refine lv_aload_n hx hb dX0_stepOn_0 rfl (lv_at hl 1 rfl) ?_
  refine lv_dup hx hb dX0_stepOn_1 rfl ?_
  refine g_X0_191 hx hb hown hts hK hW (HB.2.2.2.2.2 _ h1) (putAt (k := k1) (isFi_lt h1)) dX0_stepOn_2 ?_
  refine lv_iconst (v := 1) hx hb dX0_stepOn_5 (by decide) ?_
  refine lv_isub hx hb dX0_stepOn_6 ?_
  obtain ⟨X_1, eX_1⟩ : ∃ z : ES, z = va_up X k1 (upd (X k1) 5 (((X k1) 5) - 1)) := ⟨_, rfl⟩
  have hw := hw X_1 eX_1
  refine p_X0_191 (E1 := put 26 o X_1 E0) hx hb hown hts hK hA hW hS (HB.2.2.2.2.2 _ h1) (putAt (k := k1) (isFi_lt h1)) dX0_stepOn_7 (puE (k := k1) (isFi_lt h1) eX_1) (fun H locs hW hS => ?_)
  refine lv_aload_n hx hb dX0_stepOn_10 rfl (lv_at hl 1 rfl) ?_
  refine lv_dup hx hb dX0_stepOn_11 rfl ?_
  refine g_X0_211 hx hb hown hts hK hW (HB.2.2.2.2.2 _ h1) (putAt (k := k1) (isFi_lt h1)) dX0_stepOn_12 ?_
  refine lv_iconst (v := 1) hx hb dX0_stepOn_15 (by decide) ?_
  refine lv_iadd hx hb dX0_stepOn_16 ?_
  obtain ⟨X_2, eX_2⟩ : ∃ z : ES, z = va_up X_1 k1 (upd (X_1 k1) 6 (((X_1 k1) 6) + 1)) := ⟨_, rfl⟩
  have hw := hw X_2 eX_2
  refine p_X0_211 (E1 := put 26 o X_2 E0) hx hb hown hts hK hA hW hS (HB.2.2.2.2.2 _ h1) (putAt (k := k1) (isFi_lt h1)) dX0_stepOn_17 (puE (k := k1) (isFi_lt h1) eX_2) (fun H locs hW hS => ?_)
  refine lv_aload_n hx hb dX0_stepOn_20 rfl (lv_at hl 1 rfl) ?_
  refine g_X0_191 hx hb hown hts hK hW (HB.2.2.2.2.2 _ h1) (putAt (k := k1) (isFi_lt h1)) dX0_stepOn_21 ?_
  refine lv_if_le (tgt := 28) hx hb dX0_stepOn_24 (by decide) (fun c_3 => ?_) (fun c_3 => ?_)
  · have hw := hw.1 c_3
    refine lv_aload_n hx hb dX0_stepOn_28 rfl (lv_at hl 1 rfl) ?_
    refine g_X0_211 hx hb hown hts hK hW (HB.2.2.2.2.2 _ h1) (putAt (k := k1) (isFi_lt h1)) dX0_stepOn_29 ?_
    refine lv_iconst (v := 4) hx hb dX0_stepOn_32 (by decide) ?_
    refine lv_icmp_le (tgt := 46) hx hb dX0_stepOn_33 (by decide) (fun c_4 => ?_) (fun c_4 => ?_)
    · have hw := hw.1 c_4
      refine lv_iconst (v := 4) hx hb dX0_stepOn_46 (by decide) ?_
      refine lv_aload_n hx hb dX0_stepOn_47 rfl (lv_at hl 1 rfl) ?_
      refine g_X0_197 hx hb hown hts hK hW (HB.2.2.2.2.2 _ h1) (putAt (k := k1) (isFi_lt h1)) dX0_stepOn_48 ?_
      refine lv_iconst (v := 1) hx hb dX0_stepOn_51 (by decide) ?_
      refine lv_isub hx hb dX0_stepOn_52 ?_
      refine lv_imul hx hb dX0_stepOn_53 ?_
      refine lv_aload_n hx hb dX0_stepOn_54 rfl (lv_at hl 1 rfl) ?_
      refine g_X0_211 hx hb hown hts hK hW (HB.2.2.2.2.2 _ h1) (putAt (k := k1) (isFi_lt h1)) dX0_stepOn_55 ?_
      refine lv_iadd hx hb dX0_stepOn_58 ?_
      refine lv_iconst (v := 1) hx hb dX0_stepOn_59 (by decide) ?_
      refine lv_isub hx hb dX0_stepOn_60 ?_
      refine lv_topi (fun v_5 ev_5 => ?_)
      have hw := hw v_5 ev_5
      refine lv_istore_n (lv' := [(3, .int v_5), (0, .ref o), (1, .ref (o + k1)), (2, .ref (o + k2))]) hx hb dX0_stepOn_61 rfl hl (by decide) rfl (fun ls hl => ?_)
      refine lv_aload_n hx hb dX0_stepOn_62 rfl (lv_at hl 1 rfl) ?_
      refine lv_iload_n hx hb dX0_stepOn_63 rfl (lv_at hl 0 rfl) ?_
      refine w_cvr (As := [.int v_5]) (rest := []) hx hb hml hown hts hK hW hS hl.1 (c_X0_lineAt hA HB v_5) (k_X0_83 hts ⟨Nat.le_of_ble_eq_true rfl, Nat.le_of_ble_eq_true rfl⟩) (w_recv hK hW HB.1 (putAt (k := 0) (by decide)) rfl rfl) rfl rfl (Nat.le_of_ble_eq_true rfl) dX0_stepOn_64 ⟨Nat.zero_le _, Nat.zero_le _⟩ (fun q_6 Ez H locs hw2 hW hS => ?_)
      obtain ⟨ez, rfl⟩ := hw2
      rw [ez] at hW
      refine lv_astore (lv' := [(4, .ref (o + lix v_5)), (3, .int v_5), (0, .ref o), (1, .ref (o + k1)), (2, .ref (o + k2))]) hx hb dX0_stepOn_67 hl (by decide) rfl (fun ls hl => ?_)
      refine lv_aload hx hb dX0_stepOn_69 (lv_at hl 0 rfl) ?_
      refine g_X0_106 hx hb hown hts hK hW (HB.2.2.2.2.1 _ (isLi_lix v_5)) (putAt (k := lix v_5) (isLi_lt (isLi_lix v_5))) dX0_stepOn_71 ?_
      refine lv_if_eq (tgt := 87) hx hb dX0_stepOn_74 (by decide) (fun c_7 => ?_) (fun c_7 => ?_)
      · have hw := hw.1 c_7
        refine lv_aload_n hx hb dX0_stepOn_87 rfl (lv_at hl 3 rfl) ?_
        refine lv_bipush (v := 7) hx hb dX0_stepOn_88 (by decide) ?_
        refine w_cvv (As := [.int 7]) (rest := []) hx hb hml hown hts hK hW hS hl.1 (c_X1_become hA (HB.2.2.2.2.2 _ h1) (putAt (k := k1) (isFi_lt h1)) hw) (k_X0_184 hts ⟨Nat.le_of_ble_eq_true rfl, Nat.le_of_ble_eq_true rfl⟩) (w_recv hK hW (HB.2.2.2.2.2 _ h1) (putAt (k := k1) (isFi_lt h1)) rfl rfl) rfl rfl (Nat.le_of_ble_eq_true rfl) dX0_stepOn_90 ⟨Nat.zero_le _, Nat.zero_le _⟩ (fun Ez H locs hw2 hW hS => ?_)
        obtain ⟨Y_8, ez, hw⟩ := hw2
        rw [ez] at hW
        obtain ⟨X_9, eX_9⟩ : ∃ z : ES, z = va_up X_2 k1 Y_8 := ⟨_, rfl⟩
        have hw := hw X_9 eX_9
        have hW : Wd g lay (put 26 o X_9 E0) H := by rw [eX_9, ← putUp (k := k1) (isFi_lt h1)]; exact hW
        refine lv_aload_n hx hb dX0_stepOn_93 rfl (lv_at hl 3 rfl) ?_
        refine lv_iload_n hx hb dX0_stepOn_94 rfl (lv_at hl 1 rfl) ?_
        obtain ⟨X_10, eX_10⟩ : ∃ z : ES, z = va_up X_9 k1 (upd (X_9 k1) 9 v_5) := ⟨_, rfl⟩
        have hw := hw X_10 eX_10
        refine p_X0_129 (E1 := put 26 o X_10 E0) hx hb hown hts hK hA hW hS (HB.2.2.2.2.2 _ h1) (putAt (k := k1) (isFi_lt h1)) dX0_stepOn_95 (puE (k := k1) (isFi_lt h1) eX_10) (fun H locs hW hS => ?_)
        refine lv_aload_n hx hb dX0_stepOn_98 rfl (lv_at hl 4 rfl) ?_
        refine lv_iconst (v := 4) hx hb dX0_stepOn_99 (by decide) ?_
        obtain ⟨X_11, eX_11⟩ : ∃ z : ES, z = va_up X_10 k2 (upd (X_10 k2) 0 4) := ⟨_, rfl⟩
        have hw := hw X_11 eX_11
        refine p_X0_106 (E1 := put 26 o X_11 E0) hx hb hown hts hK hA hW hS (HB.2.2.2.2.1 _ h2) (putAt (k := k2) (isLi_lt h2)) dX0_stepOn_100 (puE (k := k2) (isLi_lt h2) eX_11) (fun H locs hW hS => ?_)
        refine lv_aload hx hb dX0_stepOn_103 (lv_at hl 0 rfl) ?_
        refine lv_iconst (v := 5) hx hb dX0_stepOn_105 (by decide) ?_
        obtain ⟨X_12, eX_12⟩ : ∃ z : ES, z = va_up X_11 (lix v_5) (upd (X_11 (lix v_5)) 0 5) := ⟨_, rfl⟩
        have hw := hw X_12 eX_12
        refine p_X0_106 (E1 := put 26 o X_12 E0) hx hb hown hts hK hA hW hS (HB.2.2.2.2.1 _ (isLi_lix v_5)) (putAt (k := lix v_5) (isLi_lt (isLi_lix v_5))) dX0_stepOn_106 (puE (k := lix v_5) (isLi_lt (isLi_lix v_5)) eX_12) (fun H locs hW hS => ?_)
        refine lv_aload hx hb dX0_stepOn_109 (lv_at hl 0 rfl) ?_
        refine lv_aload_n hx hb dX0_stepOn_111 rfl (lv_at hl 4 rfl) ?_
        refine g_X0_119 hx hb hown hts hK hW (HB.2.2.2.2.1 _ h2) (putAt (k := k2) (isLi_lt h2)) dX0_stepOn_112 ?_
        obtain ⟨X_13, eX_13⟩ : ∃ z : ES, z = va_up X_12 (lix v_5) (upd (X_12 (lix v_5)) 6 ((X_12 k2) 6)) := ⟨_, rfl⟩
        have hw := hw X_13 eX_13
        refine p_X0_119 (E1 := put 26 o X_13 E0) hx hb hown hts hK hA hW hS (HB.2.2.2.2.1 _ (isLi_lix v_5)) (putAt (k := lix v_5) (isLi_lt (isLi_lix v_5))) dX0_stepOn_115 (puE (k := lix v_5) (isLi_lt (isLi_lix v_5)) eX_13) (fun H locs hW hS => ?_)
        refine lv_aload_n hx hb dX0_stepOn_118 rfl (lv_at hl 2 rfl) ?_
        refine lv_dup hx hb dX0_stepOn_119 rfl ?_
        refine g_X0_64 hx hb hown hts hK hW HB.1 (putAt (k := 0) (by decide)) dX0_stepOn_120 ?_
        refine lv_iconst (v := 1) hx hb dX0_stepOn_123 (by decide) ?_
        refine lv_iadd hx hb dX0_stepOn_124 ?_
        obtain ⟨X_14, eX_14⟩ : ∃ z : ES, z = va_up X_13 0 (upd (X_13 0) 11 (((X_13 0) 11) + 1)) := ⟨_, rfl⟩
        have hw := hw X_14 eX_14
        refine p_X0_64 (E1 := put 26 o X_14 E0) hx hb hown hts hK hA hW hS HB.1 (putAt (k := 0) (by decide)) dX0_stepOn_125 (puE (k := 0) (by decide) eX_14) (fun H locs hW hS => ?_)
        exact w_vret hx hb hr hlocks hW hS ⟨X_14, rfl, hw⟩ dX0_stepOn_128
      · have hw := hw.2 c_7
        refine lv_aload_n hx hb dX0_stepOn_77 rfl (lv_at hl 2 rfl) ?_
        refine lv_aload_n hx hb dX0_stepOn_78 rfl (lv_at hl 3 rfl) ?_
        refine lv_aload_n hx hb dX0_stepOn_79 rfl (lv_at hl 4 rfl) ?_
        refine lv_bipush (v := 8) hx hb dX0_stepOn_80 (by decide) ?_
        refine lv_iconst (v := 1) hx hb dX0_stepOn_82 (by decide) ?_
        refine w_cvv (As := [.ref (o + k1), .ref (o + k2), .int 8, .int 1]) (rest := []) hx hb hml hown hts hK hW hS hl.1 (c_X0_sound hA HB (fun k hk => putAt hk) h1 h2 hw) (k_X0_200 hts ⟨Nat.le_of_ble_eq_true rfl, Nat.le_of_ble_eq_true rfl⟩) (w_recv hK hW HB.1 (putAt (k := 0) (by decide)) rfl rfl) rfl rfl (Nat.le_of_ble_eq_true rfl) dX0_stepOn_83 ⟨Nat.zero_le _, Nat.zero_le _⟩ (fun Ez H locs hw2 hW hS => ?_)
        obtain ⟨X_15, ez, hw⟩ := hw2
        rw [ez, putPut] at hW
        exact w_vret hx hb hr hlocks hW hS ⟨X_15, rfl, hw⟩ dX0_stepOn_86
    · have hw := hw.2 c_4
      refine lv_aload_n hx hb dX0_stepOn_36 rfl (lv_at hl 0 rfl) ?_
      refine lv_aload_n hx hb dX0_stepOn_37 rfl (lv_at hl 1 rfl) ?_
      refine lv_aload_n hx hb dX0_stepOn_38 rfl (lv_at hl 2 rfl) ?_
      refine lv_bipush (v := 9) hx hb dX0_stepOn_39 (by decide) ?_
      refine lv_iconst (v := 3) hx hb dX0_stepOn_41 (by decide) ?_
      refine w_cvv (As := [.ref (o + k1), .ref (o + k2), .int 9, .int 3]) (rest := []) hx hb hml hown hts hK hW hS hl.1 (c_X0_sound hA HB (fun k hk => putAt hk) h1 h2 hw) (k_X0_200 hts ⟨Nat.le_of_ble_eq_true rfl, Nat.le_of_ble_eq_true rfl⟩) (w_recv hK hW HB.1 (putAt (k := 0) (by decide)) rfl rfl) rfl rfl (Nat.le_of_ble_eq_true rfl) dX0_stepOn_42 ⟨Nat.zero_le _, Nat.zero_le _⟩ (fun Ez H locs hw2 hW hS => ?_)
      obtain ⟨X_16, ez, hw⟩ := hw2
      rw [ez, putPut] at hW
      exact w_vret hx hb hr hlocks hW hS ⟨X_16, rfl, hw⟩ dX0_stepOn_45
  · have hw := hw.2 c_3
    exact w_vret hx hb hr hlocks hW hS ⟨X_2, rfl, hw⟩ dX0_stepOn_27
set_option maxHeartbeats 4000000 in
set_option maxRecDepth 100000 in
theorem c_X0_ringOn {l : Launch} {g : GG} {lay : LY} {E0 : ES} {o : Nat} {X : ES} {k1 : Nat} {k2 : Nat} {K : ES → Prop} (hA : okL g lay) (HB : XL g lay o) (hX : ∀ k, k < 26 → E0 (o + k) = X k) (h1 : isFi k1) (h2 : isLi k2) (hw : wp_X0_ringOn X k1 k2 K) : JMv l g lay yX0_ringOn wsX0_ringOn rmX0_ringOn [.ref o, .ref (o + k1), .ref (o + k2)] E0 (fun E1 => ∃ X1 : ES, E1 = put 26 o X1 E0 ∧ K X1) := by
  refine Met.ofW (cc := cX0_ringOn) (maxL := 4) (ret := none) (by decide) rfl ?_
  intro p e s m args below meth c s₁ B hml hv
  obtain ⟨rfl, hK, hW⟩ := hv
  have hx := B.exec
  have hb := B.bytes
  have hr := B.returns
  have hts := gd_of (atoms_spec (ws := wsX0_ringOn) B.pre)
  have hown : s.vm.findClass RX0 = some m.cls := findClass_of_methodNamed B.named
  have hlocks := B.notSynchronized
  have hS : va_S (Ab g) s.heap s.heap [] := va_S.rf
  have hW : Wd g lay (put 26 o X E0) s.heap := by rw [putSelf hX]; exact hW
  have hl := lv_entry [.ref o, .ref (o + k1), .ref (o + k2)] (n := 4) (Nat.le_of_ble_eq_true rfl)
  rw [lg_entry_eq]
  generalize (lg_sl [.ref o, .ref (o + k1), .ref (o + k2)] ++ List.replicate (4 - (lg_sl [.ref o, .ref (o + k1), .ref (o + k2)]).length) Slot.unset).toArray = ls at hl ⊢
  have hl : lv_has ls 4 [(0, .ref o), (1, .ref (o + k1)), (2, .ref (o + k2))] := hl
  unfold wp_X0_ringOn at hw
  refine lv_aload_n hx hb dX0_ringOn_0 rfl (lv_at hl 0 rfl) ?_
  refine lv_aload_n hx hb dX0_ringOn_1 rfl (lv_at hl 1 rfl) ?_
  refine g_X0_129 hx hb hown hts hK hW (HB.2.2.2.2.2 _ h1) (putAt (k := k1) (isFi_lt h1)) dX0_ringOn_2 ?_
  refine w_cvr (As := [.int ((X k1) 9)]) (rest := []) hx hb hml hown hts hK hW hS hl.1 (c_X0_lineAt hA HB ((X k1) 9)) (k_X0_83 hts ⟨Nat.le_of_ble_eq_true rfl, Nat.le_of_ble_eq_true rfl⟩) (w_recv hK hW HB.1 (putAt (k := 0) (by decide)) rfl rfl) rfl rfl (Nat.le_of_ble_eq_true rfl) dX0_ringOn_5 ⟨Nat.zero_le _, Nat.zero_le _⟩ (fun q_1 Ez H locs hw2 hW hS => ?_)
  obtain ⟨ez, rfl⟩ := hw2
  rw [ez] at hW
  refine lv_astore_n (lv' := [(3, .ref (o + lix ((X k1) 9))), (0, .ref o), (1, .ref (o + k1)), (2, .ref (o + k2))]) hx hb dX0_ringOn_8 rfl hl (by decide) rfl (fun ls hl => ?_)
  refine lv_aload_n hx hb dX0_ringOn_9 rfl (lv_at hl 0 rfl) ?_
  refine g_X0_102 hx hb hown hts hK hW (HB.2.2.2.2.1 _ (isLi_lix ((X k1) 9))) (putAt (k := lix ((X k1) 9)) (isLi_lt (isLi_lix ((X k1) 9)))) dX0_ringOn_10 ?_
  refine lv_if_eq (tgt := 55) hx hb dX0_ringOn_13 (by decide) (fun c_2 => ?_) (fun c_2 => ?_)
  · have hw := hw.1 c_2
    refine lv_aload_n hx hb dX0_ringOn_55 rfl (lv_at hl 2 rfl) ?_
    refine lv_dup hx hb dX0_ringOn_56 rfl ?_
    refine g_X0_194 hx hb hown hts hK hW (HB.2.2.2.2.2 _ h1) (putAt (k := k1) (isFi_lt h1)) dX0_ringOn_57 ?_
    refine lv_iconst (v := 1) hx hb dX0_ringOn_60 (by decide) ?_
    refine lv_iadd hx hb dX0_ringOn_61 ?_
    obtain ⟨X_3, eX_3⟩ : ∃ z : ES, z = va_up X k1 (upd (X k1) 7 (((X k1) 7) + 1)) := ⟨_, rfl⟩
    have hw := hw X_3 eX_3
    refine p_X0_194 (E1 := put 26 o X_3 E0) hx hb hown hts hK hA hW hS (HB.2.2.2.2.2 _ h1) (putAt (k := k1) (isFi_lt h1)) dX0_ringOn_62 (puE (k := k1) (isFi_lt h1) eX_3) (fun H locs hW hS => ?_)
    refine lv_aload_n hx hb dX0_ringOn_65 rfl (lv_at hl 2 rfl) ?_
    refine g_X0_194 hx hb hown hts hK hW (HB.2.2.2.2.2 _ h1) (putAt (k := k1) (isFi_lt h1)) dX0_ringOn_66 ?_
    refine lv_aload_n hx hb dX0_ringOn_69 rfl (lv_at hl 1 rfl) ?_
    refine lv_iconst (v := 1) hx hb dX0_ringOn_70 (by decide) ?_
    refine w_cvi (As := [.int 1]) (rest := [.int ((X_3 k1) 7)]) hx hb hml hown hts hK hW hS hl.1 (c_X0_settingAt hA HB (fun k hk => putAt hk)  hw) (k_X0_79 hts ⟨Nat.le_of_ble_eq_true rfl, Nat.le_of_ble_eq_true rfl⟩) (w_recv hK hW HB.1 (putAt (k := 0) (by decide)) rfl rfl) rfl rfl (Nat.le_of_ble_eq_true rfl) dX0_ringOn_71 ⟨Nat.zero_le _, Nat.zero_le _⟩ (fun r_4 Ez H locs hw2 hW hS => ?_)
    obtain ⟨ez, hw⟩ := hw2
    rw [ez] at hW
    refine lv_icmp_lt (tgt := 91) hx hb dX0_ringOn_74 (by decide) (fun c_5 => ?_) (fun c_5 => ?_)
    · have hw := hw.1 c_5
      exact w_vret hx hb hr hlocks hW hS ⟨X_3, rfl, hw⟩ dX0_ringOn_91
    · have hw := hw.2 c_5
      refine lv_aload_n hx hb dX0_ringOn_77 rfl (lv_at hl 1 rfl) ?_
      refine lv_aload_n hx hb dX0_ringOn_78 rfl (lv_at hl 2 rfl) ?_
      refine lv_aload_n hx hb dX0_ringOn_79 rfl (lv_at hl 3 rfl) ?_
      refine lv_bipush (v := 8) hx hb dX0_ringOn_80 (by decide) ?_
      refine lv_iconst (v := 4) hx hb dX0_ringOn_82 (by decide) ?_
      refine w_cvv (As := [.ref (o + k1), .ref (o + k2), .int 8, .int 4]) (rest := []) hx hb hml hown hts hK hW hS hl.1 (c_X0_sound hA HB (fun k hk => putAt hk) h1 h2 hw) (k_X0_200 hts ⟨Nat.le_of_ble_eq_true rfl, Nat.le_of_ble_eq_true rfl⟩) (w_recv hK hW HB.1 (putAt (k := 0) (by decide)) rfl rfl) rfl rfl (Nat.le_of_ble_eq_true rfl) dX0_ringOn_83 ⟨Nat.zero_le _, Nat.zero_le _⟩ (fun Ez H locs hw2 hW hS => ?_)
      obtain ⟨X_6, ez, hw⟩ := hw2
      rw [ez, putPut] at hW
      refine lv_aload_n hx hb dX0_ringOn_86 rfl (lv_at hl 0 rfl) ?_
      refine lv_iconst (v := 0) hx hb dX0_ringOn_87 (by decide) ?_
      refine w_cvv (As := [.int 0]) (rest := []) hx hb hml hown hts hK hW hS hl.1 (c_X2_leaveCall hA (HB.2.2.2.2.1 _ (isLi_lix ((X k1) 9))) (putAt (k := lix ((X k1) 9)) (isLi_lt (isLi_lix ((X k1) 9)))) hw) (k_X0_125 hts ⟨Nat.le_of_ble_eq_true rfl, Nat.le_of_ble_eq_true rfl⟩) (w_recv hK hW (HB.2.2.2.2.1 _ (isLi_lix ((X k1) 9))) (putAt (k := lix ((X k1) 9)) (isLi_lt (isLi_lix ((X k1) 9)))) rfl rfl) rfl rfl (Nat.le_of_ble_eq_true rfl) dX0_ringOn_88 ⟨Nat.zero_le _, Nat.zero_le _⟩ (fun Ez H locs hw2 hW hS => ?_)
      obtain ⟨Y_7, ez, hw⟩ := hw2
      rw [ez] at hW
      obtain ⟨X_8, eX_8⟩ : ∃ z : ES, z = va_up X_6 (lix ((X k1) 9)) Y_7 := ⟨_, rfl⟩
      have hw := hw X_8 eX_8
      have hW : Wd g lay (put 26 o X_8 E0) H := by rw [eX_8, ← putUp (k := lix ((X k1) 9)) (isLi_lt (isLi_lix ((X k1) 9)))]; exact hW
      exact w_vret hx hb hr hlocks hW hS ⟨X_8, rfl, hw⟩ dX0_ringOn_91
  · have hw := hw.2 c_2
    refine lv_aload_n hx hb dX0_ringOn_16 rfl (lv_at hl 2 rfl) ?_
    refine lv_bipush (v := 8) hx hb dX0_ringOn_17 (by decide) ?_
    refine w_cvv (As := [.int 8]) (rest := []) hx hb hml hown hts hK hW hS hl.1 (c_X1_become hA (HB.2.2.2.2.2 _ h1) (putAt (k := k1) (isFi_lt h1)) hw) (k_X0_184 hts ⟨Nat.le_of_ble_eq_true rfl, Nat.le_of_ble_eq_true rfl⟩) (w_recv hK hW (HB.2.2.2.2.2 _ h1) (putAt (k := k1) (isFi_lt h1)) rfl rfl) rfl rfl (Nat.le_of_ble_eq_true rfl) dX0_ringOn_19 ⟨Nat.zero_le _, Nat.zero_le _⟩ (fun Ez H locs hw2 hW hS => ?_)
    obtain ⟨Y_9, ez, hw⟩ := hw2
    rw [ez] at hW
    obtain ⟨X_10, eX_10⟩ : ∃ z : ES, z = va_up X k1 Y_9 := ⟨_, rfl⟩
    have hw := hw X_10 eX_10
    have hW : Wd g lay (put 26 o X_10 E0) H := by rw [eX_10, ← putUp (k := k1) (isFi_lt h1)]; exact hW
    refine lv_aload_n hx hb dX0_ringOn_22 rfl (lv_at hl 3 rfl) ?_
    refine lv_bipush (v := 6) hx hb dX0_ringOn_23 (by decide) ?_
    obtain ⟨X_11, eX_11⟩ : ∃ z : ES, z = va_up X_10 k2 (upd (X_10 k2) 0 6) := ⟨_, rfl⟩
    have hw := hw X_11 eX_11
    refine p_X0_106 (E1 := put 26 o X_11 E0) hx hb hown hts hK hA hW hS (HB.2.2.2.2.1 _ h2) (putAt (k := k2) (isLi_lt h2)) dX0_ringOn_25 (puE (k := k2) (isLi_lt h2) eX_11) (fun H locs hW hS => ?_)
    refine lv_aload_n hx hb dX0_ringOn_28 rfl (lv_at hl 0 rfl) ?_
    refine lv_bipush (v := 7) hx hb dX0_ringOn_29 (by decide) ?_
    obtain ⟨X_12, eX_12⟩ : ∃ z : ES, z = va_up X_11 (lix ((X k1) 9)) (upd (X_11 (lix ((X k1) 9))) 0 7) := ⟨_, rfl⟩
    have hw := hw X_12 eX_12
    refine p_X0_106 (E1 := put 26 o X_12 E0) hx hb hown hts hK hA hW hS (HB.2.2.2.2.1 _ (isLi_lix ((X k1) 9))) (putAt (k := lix ((X k1) 9)) (isLi_lt (isLi_lix ((X k1) 9)))) dX0_ringOn_31 (puE (k := lix ((X k1) 9)) (isLi_lt (isLi_lix ((X k1) 9))) eX_12) (fun H locs hW hS => ?_)
    refine lv_aload_n hx hb dX0_ringOn_34 rfl (lv_at hl 3 rfl) ?_
    refine lv_dup hx hb dX0_ringOn_35 rfl ?_
    refine g_X0_214 hx hb hown hts hK hW (HB.2.2.2.2.1 _ h2) (putAt (k := k2) (isLi_lt h2)) dX0_ringOn_36 ?_
    refine lv_iconst (v := 1) hx hb dX0_ringOn_39 (by decide) ?_
    refine lv_iadd hx hb dX0_ringOn_40 ?_
    obtain ⟨X_13, eX_13⟩ : ∃ z : ES, z = va_up X_12 k2 (upd (X_12 k2) 2 (((X_12 k2) 2) + 1)) := ⟨_, rfl⟩
    have hw := hw X_13 eX_13
    refine p_X0_214 (E1 := put 26 o X_13 E0) hx hb hown hts hK hA hW hS (HB.2.2.2.2.1 _ h2) (putAt (k := k2) (isLi_lt h2)) dX0_ringOn_41 (puE (k := k2) (isLi_lt h2) eX_13) (fun H locs hW hS => ?_)
    refine lv_aload_n hx hb dX0_ringOn_44 rfl (lv_at hl 1 rfl) ?_
    refine lv_dup hx hb dX0_ringOn_45 rfl ?_
    refine g_X0_67 hx hb hown hts hK hW HB.1 (putAt (k := 0) (by decide)) dX0_ringOn_46 ?_
    refine lv_iconst (v := 1) hx hb dX0_ringOn_49 (by decide) ?_
    refine lv_iadd hx hb dX0_ringOn_50 ?_
    obtain ⟨X_14, eX_14⟩ : ∃ z : ES, z = va_up X_13 0 (upd (X_13 0) 12 (((X_13 0) 12) + 1)) := ⟨_, rfl⟩
    have hw := hw X_14 eX_14
    refine p_X0_67 (E1 := put 26 o X_14 E0) hx hb hown hts hK hA hW hS HB.1 (putAt (k := 0) (by decide)) dX0_ringOn_51 (puE (k := 0) (by decide) eX_14) (fun H locs hW hS => ?_)
    exact w_vret hx hb hr hlocks hW hS ⟨X_14, rfl, hw⟩ dX0_ringOn_54
set_option maxHeartbeats 4000000 in
set_option maxRecDepth 100000 in
theorem c_X0_talkOn {l : Launch} {g : GG} {lay : LY} {E0 : ES} {o : Nat} {X : ES} {k1 : Nat} {k2 : Nat} {K : ES → Prop} (hA : okL g lay) (HB : XL g lay o) (hX : ∀ k, k < 26 → E0 (o + k) = X k) (h1 : isFi k1) (h2 : isLi k2) (hw : wp_X0_talkOn X k1 k2 K) : JMv l g lay yX0_talkOn wsX0_talkOn rmX0_talkOn [.ref o, .ref (o + k1), .ref (o + k2)] E0 (fun E1 => ∃ X1 : ES, E1 = put 26 o X1 E0 ∧ K X1) := by
  refine Met.ofW (cc := cX0_talkOn) (maxL := 5) (ret := none) (by decide) rfl ?_
  intro p e s m args below meth c s₁ B hml hv
  obtain ⟨rfl, hK, hW⟩ := hv
  have hx := B.exec
  have hb := B.bytes
  have hr := B.returns
  have hts := gd_of (atoms_spec (ws := wsX0_talkOn) B.pre)
  have hown : s.vm.findClass RX0 = some m.cls := findClass_of_methodNamed B.named
  have hlocks := B.notSynchronized
  have hS : va_S (Ab g) s.heap s.heap [] := va_S.rf
  have hW : Wd g lay (put 26 o X E0) s.heap := by rw [putSelf hX]; exact hW
  have hl := lv_entry [.ref o, .ref (o + k1), .ref (o + k2)] (n := 5) (Nat.le_of_ble_eq_true rfl)
  rw [lg_entry_eq]
  generalize (lg_sl [.ref o, .ref (o + k1), .ref (o + k2)] ++ List.replicate (5 - (lg_sl [.ref o, .ref (o + k1), .ref (o + k2)]).length) Slot.unset).toArray = ls at hl ⊢
  have hl : lv_has ls 5 [(0, .ref o), (1, .ref (o + k1)), (2, .ref (o + k2))] := hl
  unfold wp_X0_talkOn at hw
  refine lv_aload_n hx hb dX0_talkOn_0 rfl (lv_at hl 0 rfl) ?_
  refine lv_aload_n hx hb dX0_talkOn_1 rfl (lv_at hl 1 rfl) ?_
  refine g_X0_129 hx hb hown hts hK hW (HB.2.2.2.2.2 _ h1) (putAt (k := k1) (isFi_lt h1)) dX0_talkOn_2 ?_
  refine w_cvr (As := [.int ((X k1) 9)]) (rest := []) hx hb hml hown hts hK hW hS hl.1 (c_X0_lineAt hA HB ((X k1) 9)) (k_X0_83 hts ⟨Nat.le_of_ble_eq_true rfl, Nat.le_of_ble_eq_true rfl⟩) (w_recv hK hW HB.1 (putAt (k := 0) (by decide)) rfl rfl) rfl rfl (Nat.le_of_ble_eq_true rfl) dX0_talkOn_5 ⟨Nat.zero_le _, Nat.zero_le _⟩ (fun q_1 Ez H locs hw2 hW hS => ?_)
  obtain ⟨ez, rfl⟩ := hw2
  rw [ez] at hW
  refine lv_astore_n (lv' := [(3, .ref (o + lix ((X k1) 9))), (0, .ref o), (1, .ref (o + k1)), (2, .ref (o + k2))]) hx hb dX0_talkOn_8 rfl hl (by decide) rfl (fun ls hl => ?_)
  refine lv_aload_n hx hb dX0_talkOn_9 rfl (lv_at hl 0 rfl) ?_
  refine g_X0_102 hx hb hown hts hK hW (HB.2.2.2.2.1 _ (isLi_lix ((X k1) 9))) (putAt (k := lix ((X k1) 9)) (isLi_lt (isLi_lix ((X k1) 9)))) dX0_talkOn_10 ?_
  refine lv_if_eq (tgt := 24) hx hb dX0_talkOn_13 (by decide) (fun c_2 => ?_) (fun c_2 => ?_)
  · have hw := hw.1 c_2
    refine lv_aload_n hx hb dX0_talkOn_24 rfl (lv_at hl 2 rfl) ?_
    refine lv_dup hx hb dX0_talkOn_25 rfl ?_
    refine g_X0_217 hx hb hown hts hK hW (HB.2.2.2.2.2 _ h1) (putAt (k := k1) (isFi_lt h1)) dX0_talkOn_26 ?_
    refine lv_iconst (v := 1) hx hb dX0_talkOn_29 (by decide) ?_
    refine lv_iadd hx hb dX0_talkOn_30 ?_
    obtain ⟨X_3, eX_3⟩ : ∃ z : ES, z = va_up X k1 (upd (X k1) 8 (((X k1) 8) + 1)) := ⟨_, rfl⟩
    have hw := hw X_3 eX_3
    refine p_X0_217 (E1 := put 26 o X_3 E0) hx hb hown hts hK hA hW hS (HB.2.2.2.2.2 _ h1) (putAt (k := k1) (isFi_lt h1)) dX0_talkOn_31 (puE (k := k1) (isFi_lt h1) eX_3) (fun H locs hW hS => ?_)
    refine lv_aload_n hx hb dX0_talkOn_34 rfl (lv_at hl 2 rfl) ?_
    refine g_X0_217 hx hb hown hts hK hW (HB.2.2.2.2.2 _ h1) (putAt (k := k1) (isFi_lt h1)) dX0_talkOn_35 ?_
    refine lv_aload_n hx hb dX0_talkOn_38 rfl (lv_at hl 1 rfl) ?_
    refine lv_iconst (v := 3) hx hb dX0_talkOn_39 (by decide) ?_
    refine w_cvi (As := [.int 3]) (rest := [.int ((X_3 k1) 8)]) hx hb hml hown hts hK hW hS hl.1 (c_X0_settingAt hA HB (fun k hk => putAt hk)  hw) (k_X0_79 hts ⟨Nat.le_of_ble_eq_true rfl, Nat.le_of_ble_eq_true rfl⟩) (w_recv hK hW HB.1 (putAt (k := 0) (by decide)) rfl rfl) rfl rfl (Nat.le_of_ble_eq_true rfl) dX0_talkOn_40 ⟨Nat.zero_le _, Nat.zero_le _⟩ (fun r_4 Ez H locs hw2 hW hS => ?_)
    obtain ⟨ez, hw⟩ := hw2
    rw [ez] at hW
    refine lv_icmp_lt (tgt := 68) hx hb dX0_talkOn_43 (by decide) (fun c_5 => ?_) (fun c_5 => ?_)
    · have hw := hw.1 c_5
      refine lv_aload_n hx hb dX0_talkOn_68 rfl (lv_at hl 2 rfl) ?_
      refine lv_dup hx hb dX0_talkOn_69 rfl ?_
      refine g_X0_194 hx hb hown hts hK hW (HB.2.2.2.2.2 _ h1) (putAt (k := k1) (isFi_lt h1)) dX0_talkOn_70 ?_
      refine lv_iconst (v := 1) hx hb dX0_talkOn_73 (by decide) ?_
      refine lv_iadd hx hb dX0_talkOn_74 ?_
      obtain ⟨X_6, eX_6⟩ : ∃ z : ES, z = va_up X_3 k1 (upd (X_3 k1) 7 (((X_3 k1) 7) + 1)) := ⟨_, rfl⟩
      have hw := hw X_6 eX_6
      refine p_X0_194 (E1 := put 26 o X_6 E0) hx hb hown hts hK hA hW hS (HB.2.2.2.2.2 _ h1) (putAt (k := k1) (isFi_lt h1)) dX0_talkOn_75 (puE (k := k1) (isFi_lt h1) eX_6) (fun H locs hW hS => ?_)
      refine lv_aload_n hx hb dX0_talkOn_78 rfl (lv_at hl 1 rfl) ?_
      refine lv_iconst (v := 2) hx hb dX0_talkOn_79 (by decide) ?_
      refine w_cvi (As := [.int 2]) (rest := []) hx hb hml hown hts hK hW hS hl.1 (c_X0_settingAt hA HB (fun k hk => putAt hk)  hw) (k_X0_79 hts ⟨Nat.le_of_ble_eq_true rfl, Nat.le_of_ble_eq_true rfl⟩) (w_recv hK hW HB.1 (putAt (k := 0) (by decide)) rfl rfl) rfl rfl (Nat.le_of_ble_eq_true rfl) dX0_talkOn_80 ⟨Nat.zero_le _, Nat.zero_le _⟩ (fun r_7 Ez H locs hw2 hW hS => ?_)
      obtain ⟨ez, hw⟩ := hw2
      rw [ez] at hW
      refine lv_istore (lv' := [(4, .int r_7), (3, .ref (o + lix ((X k1) 9))), (0, .ref o), (1, .ref (o + k1)), (2, .ref (o + k2))]) hx hb dX0_talkOn_83 hl (by decide) rfl (fun ls hl => ?_)
      refine lv_iload hx hb dX0_talkOn_85 (lv_at hl 0 rfl) ?_
      refine lv_if_le (tgt := 110) hx hb dX0_talkOn_87 (by decide) (fun c_8 => ?_) (fun c_8 => ?_)
      · have hw := hw.1 c_8
        exact w_vret hx hb hr hlocks hW hS ⟨X_6, rfl, hw⟩ dX0_talkOn_110
      · have hw := hw.2 c_8
        refine lv_aload_n hx hb dX0_talkOn_90 rfl (lv_at hl 3 rfl) ?_
        refine g_X0_194 hx hb hown hts hK hW (HB.2.2.2.2.2 _ h1) (putAt (k := k1) (isFi_lt h1)) dX0_talkOn_91 ?_
        refine lv_iload hx hb dX0_talkOn_94 (lv_at hl 0 rfl) ?_
        obtain ⟨hnz, hw⟩ := hw
        refine lv_irem hx hb dX0_talkOn_96 hnz ?_
        refine lv_if_ne (tgt := 110) hx hb dX0_talkOn_97 (by decide) (fun c_9 => ?_) (fun c_9 => ?_)
        · have hw := hw.2 c_9
          exact w_vret hx hb hr hlocks hW hS ⟨X_6, rfl, hw⟩ dX0_talkOn_110
        · have hw := hw.1 c_9
          refine lv_aload_n hx hb dX0_talkOn_100 rfl (lv_at hl 4 rfl) ?_
          refine lv_dup hx hb dX0_talkOn_101 rfl ?_
          refine g_X0_214 hx hb hown hts hK hW (HB.2.2.2.2.1 _ h2) (putAt (k := k2) (isLi_lt h2)) dX0_talkOn_102 ?_
          refine lv_iconst (v := 1) hx hb dX0_talkOn_105 (by decide) ?_
          refine lv_iadd hx hb dX0_talkOn_106 ?_
          obtain ⟨X_10, eX_10⟩ : ∃ z : ES, z = va_up X_6 k2 (upd (X_6 k2) 2 (((X_6 k2) 2) + 1)) := ⟨_, rfl⟩
          have hw := hw X_10 eX_10
          refine p_X0_214 (E1 := put 26 o X_10 E0) hx hb hown hts hK hA hW hS (HB.2.2.2.2.1 _ h2) (putAt (k := k2) (isLi_lt h2)) dX0_talkOn_107 (puE (k := k2) (isLi_lt h2) eX_10) (fun H locs hW hS => ?_)
          exact w_vret hx hb hr hlocks hW hS ⟨X_10, rfl, hw⟩ dX0_talkOn_110
    · have hw := hw.2 c_5
      refine lv_aload_n hx hb dX0_talkOn_46 rfl (lv_at hl 2 rfl) ?_
      refine w_cvv (As := []) (rest := []) hx hb hml hown hts hK hW hS hl.1 (c_X1_becomeFree hA (HB.2.2.2.2.2 _ h1) (putAt (k := k1) (isFi_lt h1)) hw) (k_X0_132 hts ⟨Nat.le_of_ble_eq_true rfl, Nat.le_of_ble_eq_true rfl⟩) (w_recv hK hW (HB.2.2.2.2.2 _ h1) (putAt (k := k1) (isFi_lt h1)) rfl rfl) rfl rfl (Nat.le_of_ble_eq_true rfl) dX0_talkOn_47 ⟨Nat.zero_le _, Nat.zero_le _⟩ (fun Ez H locs hw2 hW hS => ?_)
      obtain ⟨Y_11, ez, hw⟩ := hw2
      rw [ez] at hW
      obtain ⟨X_12, eX_12⟩ : ∃ z : ES, z = va_up X_3 k1 Y_11 := ⟨_, rfl⟩
      have hw := hw X_12 eX_12
      have hW : Wd g lay (put 26 o X_12 E0) H := by rw [eX_12, ← putUp (k := k1) (isFi_lt h1)]; exact hW
      refine lv_aload_n hx hb dX0_talkOn_50 rfl (lv_at hl 3 rfl) ?_
      refine lv_bipush (v := 6) hx hb dX0_talkOn_51 (by decide) ?_
      obtain ⟨X_13, eX_13⟩ : ∃ z : ES, z = va_up X_12 k2 (upd (X_12 k2) 3 6) := ⟨_, rfl⟩
      have hw := hw X_13 eX_13
      refine p_X0_109 (E1 := put 26 o X_13 E0) hx hb hown hts hK hA hW hS (HB.2.2.2.2.1 _ h2) (putAt (k := k2) (isLi_lt h2)) dX0_talkOn_53 (puE (k := k2) (isLi_lt h2) eX_13) (fun H locs hW hS => ?_)
      refine lv_aload_n hx hb dX0_talkOn_56 rfl (lv_at hl 3 rfl) ?_
      refine lv_bipush (v := 10) hx hb dX0_talkOn_57 (by decide) ?_
      refine w_cvv (As := [.int 10]) (rest := []) hx hb hml hown hts hK hW hS hl.1 (c_X2_leaveCall hA (HB.2.2.2.2.1 _ h2) (putAt (k := k2) (isLi_lt h2)) hw) (k_X0_125 hts ⟨Nat.le_of_ble_eq_true rfl, Nat.le_of_ble_eq_true rfl⟩) (w_recv hK hW (HB.2.2.2.2.1 _ h2) (putAt (k := k2) (isLi_lt h2)) rfl rfl) rfl rfl (Nat.le_of_ble_eq_true rfl) dX0_talkOn_59 ⟨Nat.zero_le _, Nat.zero_le _⟩ (fun Ez H locs hw2 hW hS => ?_)
      obtain ⟨Y_14, ez, hw⟩ := hw2
      rw [ez] at hW
      obtain ⟨X_15, eX_15⟩ : ∃ z : ES, z = va_up X_13 k2 Y_14 := ⟨_, rfl⟩
      have hw := hw X_15 eX_15
      have hW : Wd g lay (put 26 o X_15 E0) H := by rw [eX_15, ← putUp (k := k2) (isLi_lt h2)]; exact hW
      refine lv_aload_n hx hb dX0_talkOn_62 rfl (lv_at hl 0 rfl) ?_
      refine lv_iconst (v := 0) hx hb dX0_talkOn_63 (by decide) ?_
      refine w_cvv (As := [.int 0]) (rest := []) hx hb hml hown hts hK hW hS hl.1 (c_X2_leaveCall hA (HB.2.2.2.2.1 _ (isLi_lix ((X k1) 9))) (putAt (k := lix ((X k1) 9)) (isLi_lt (isLi_lix ((X k1) 9)))) hw) (k_X0_125 hts ⟨Nat.le_of_ble_eq_true rfl, Nat.le_of_ble_eq_true rfl⟩) (w_recv hK hW (HB.2.2.2.2.1 _ (isLi_lix ((X k1) 9))) (putAt (k := lix ((X k1) 9)) (isLi_lt (isLi_lix ((X k1) 9)))) rfl rfl) rfl rfl (Nat.le_of_ble_eq_true rfl) dX0_talkOn_64 ⟨Nat.zero_le _, Nat.zero_le _⟩ (fun Ez H locs hw2 hW hS => ?_)
      obtain ⟨Y_16, ez, hw⟩ := hw2
      rw [ez] at hW
      obtain ⟨X_17, eX_17⟩ : ∃ z : ES, z = va_up X_15 (lix ((X k1) 9)) Y_16 := ⟨_, rfl⟩
      have hw := hw X_17 eX_17
      have hW : Wd g lay (put 26 o X_17 E0) H := by rw [eX_17, ← putUp (k := lix ((X k1) 9)) (isLi_lt (isLi_lix ((X k1) 9)))]; exact hW
      exact w_vret hx hb hr hlocks hW hS ⟨X_17, rfl, hw⟩ dX0_talkOn_67
  · have hw := hw.2 c_2
    refine lv_aload_n hx hb dX0_talkOn_16 rfl (lv_at hl 2 rfl) ?_
    refine lv_iconst (v := 0) hx hb dX0_talkOn_17 (by decide) ?_
    obtain ⟨X_18, eX_18⟩ : ∃ z : ES, z = va_up X k1 (upd (X k1) 8 0) := ⟨_, rfl⟩
    have hw := hw X_18 eX_18
    refine p_X0_217 (E1 := put 26 o X_18 E0) hx hb hown hts hK hA hW hS (HB.2.2.2.2.2 _ h1) (putAt (k := k1) (isFi_lt h1)) dX0_talkOn_18 (puE (k := k1) (isFi_lt h1) eX_18) (fun H locs hW hS => ?_)
    refine lv_goto (tgt := 68) hx hb dX0_talkOn_21 (by decide) ?_
    refine lv_aload_n hx hb dX0_talkOn_68 rfl (lv_at hl 2 rfl) ?_
    refine lv_dup hx hb dX0_talkOn_69 rfl ?_
    refine g_X0_194 hx hb hown hts hK hW (HB.2.2.2.2.2 _ h1) (putAt (k := k1) (isFi_lt h1)) dX0_talkOn_70 ?_
    refine lv_iconst (v := 1) hx hb dX0_talkOn_73 (by decide) ?_
    refine lv_iadd hx hb dX0_talkOn_74 ?_
    obtain ⟨X_19, eX_19⟩ : ∃ z : ES, z = va_up X_18 k1 (upd (X_18 k1) 7 (((X_18 k1) 7) + 1)) := ⟨_, rfl⟩
    have hw := hw X_19 eX_19
    refine p_X0_194 (E1 := put 26 o X_19 E0) hx hb hown hts hK hA hW hS (HB.2.2.2.2.2 _ h1) (putAt (k := k1) (isFi_lt h1)) dX0_talkOn_75 (puE (k := k1) (isFi_lt h1) eX_19) (fun H locs hW hS => ?_)
    refine lv_aload_n hx hb dX0_talkOn_78 rfl (lv_at hl 1 rfl) ?_
    refine lv_iconst (v := 2) hx hb dX0_talkOn_79 (by decide) ?_
    refine w_cvi (As := [.int 2]) (rest := []) hx hb hml hown hts hK hW hS hl.1 (c_X0_settingAt hA HB (fun k hk => putAt hk)  hw) (k_X0_79 hts ⟨Nat.le_of_ble_eq_true rfl, Nat.le_of_ble_eq_true rfl⟩) (w_recv hK hW HB.1 (putAt (k := 0) (by decide)) rfl rfl) rfl rfl (Nat.le_of_ble_eq_true rfl) dX0_talkOn_80 ⟨Nat.zero_le _, Nat.zero_le _⟩ (fun r_20 Ez H locs hw2 hW hS => ?_)
    obtain ⟨ez, hw⟩ := hw2
    rw [ez] at hW
    refine lv_istore (lv' := [(4, .int r_20), (3, .ref (o + lix ((X k1) 9))), (0, .ref o), (1, .ref (o + k1)), (2, .ref (o + k2))]) hx hb dX0_talkOn_83 hl (by decide) rfl (fun ls hl => ?_)
    refine lv_iload hx hb dX0_talkOn_85 (lv_at hl 0 rfl) ?_
    refine lv_if_le (tgt := 110) hx hb dX0_talkOn_87 (by decide) (fun c_21 => ?_) (fun c_21 => ?_)
    · have hw := hw.1 c_21
      exact w_vret hx hb hr hlocks hW hS ⟨X_19, rfl, hw⟩ dX0_talkOn_110
    · have hw := hw.2 c_21
      refine lv_aload_n hx hb dX0_talkOn_90 rfl (lv_at hl 3 rfl) ?_
      refine g_X0_194 hx hb hown hts hK hW (HB.2.2.2.2.2 _ h1) (putAt (k := k1) (isFi_lt h1)) dX0_talkOn_91 ?_
      refine lv_iload hx hb dX0_talkOn_94 (lv_at hl 0 rfl) ?_
      obtain ⟨hnz, hw⟩ := hw
      refine lv_irem hx hb dX0_talkOn_96 hnz ?_
      refine lv_if_ne (tgt := 110) hx hb dX0_talkOn_97 (by decide) (fun c_22 => ?_) (fun c_22 => ?_)
      · have hw := hw.2 c_22
        exact w_vret hx hb hr hlocks hW hS ⟨X_19, rfl, hw⟩ dX0_talkOn_110
      · have hw := hw.1 c_22
        refine lv_aload_n hx hb dX0_talkOn_100 rfl (lv_at hl 4 rfl) ?_
        refine lv_dup hx hb dX0_talkOn_101 rfl ?_
        refine g_X0_214 hx hb hown hts hK hW (HB.2.2.2.2.1 _ h2) (putAt (k := k2) (isLi_lt h2)) dX0_talkOn_102 ?_
        refine lv_iconst (v := 1) hx hb dX0_talkOn_105 (by decide) ?_
        refine lv_iadd hx hb dX0_talkOn_106 ?_
        obtain ⟨X_23, eX_23⟩ : ∃ z : ES, z = va_up X_19 k2 (upd (X_19 k2) 2 (((X_19 k2) 2) + 1)) := ⟨_, rfl⟩
        have hw := hw X_23 eX_23
        refine p_X0_214 (E1 := put 26 o X_23 E0) hx hb hown hts hK hA hW hS (HB.2.2.2.2.1 _ h2) (putAt (k := k2) (isLi_lt h2)) dX0_talkOn_107 (puE (k := k2) (isLi_lt h2) eX_23) (fun H locs hW hS => ?_)
        exact w_vret hx hb hr hlocks hW hS ⟨X_23, rfl, hw⟩ dX0_talkOn_110
set_option maxHeartbeats 4000000 in
set_option maxRecDepth 100000 in
theorem c_X0_soundOn {l : Launch} {g : GG} {lay : LY} {E0 : ES} {o : Nat} {X : ES} {k1 : Nat} {k2 : Nat} {K : ES → Prop} (hA : okL g lay) (HB : XL g lay o) (hX : ∀ k, k < 26 → E0 (o + k) = X k) (h1 : isFi k1) (h2 : isLi k2) (hw : wp_X0_soundOn X k1 k2 K) : JMv l g lay yX0_soundOn wsX0_soundOn rmX0_soundOn [.ref o, .ref (o + k1), .ref (o + k2)] E0 (fun E1 => ∃ X1 : ES, E1 = put 26 o X1 E0 ∧ K X1) := by
  refine Met.ofW (cc := cX0_soundOn) (maxL := 3) (ret := none) (by decide) rfl ?_
  intro p e s m args below meth c s₁ B hml hv
  obtain ⟨rfl, hK, hW⟩ := hv
  have hx := B.exec
  have hb := B.bytes
  have hr := B.returns
  have hts := gd_of (atoms_spec (ws := wsX0_soundOn) B.pre)
  have hown : s.vm.findClass RX0 = some m.cls := findClass_of_methodNamed B.named
  have hlocks := B.notSynchronized
  have hS : va_S (Ab g) s.heap s.heap [] := va_S.rf
  have hW : Wd g lay (put 26 o X E0) s.heap := by rw [putSelf hX]; exact hW
  have hl := lv_entry [.ref o, .ref (o + k1), .ref (o + k2)] (n := 3) (Nat.le_of_ble_eq_true rfl)
  rw [lg_entry_eq]
  generalize (lg_sl [.ref o, .ref (o + k1), .ref (o + k2)] ++ List.replicate (3 - (lg_sl [.ref o, .ref (o + k1), .ref (o + k2)]).length) Slot.unset).toArray = ls at hl ⊢
  have hl : lv_has ls 3 [(0, .ref o), (1, .ref (o + k1)), (2, .ref (o + k2))] := hl
  unfold wp_X0_soundOn at hw
  refine lv_aload_n hx hb dX0_soundOn_0 rfl (lv_at hl 1 rfl) ?_
  refine lv_dup hx hb dX0_soundOn_1 rfl ?_
  refine g_X0_194 hx hb hown hts hK hW (HB.2.2.2.2.2 _ h1) (putAt (k := k1) (isFi_lt h1)) dX0_soundOn_2 ?_
  refine lv_iconst (v := 1) hx hb dX0_soundOn_5 (by decide) ?_
  refine lv_iadd hx hb dX0_soundOn_6 ?_
  obtain ⟨X_1, eX_1⟩ : ∃ z : ES, z = va_up X k1 (upd (X k1) 7 (((X k1) 7) + 1)) := ⟨_, rfl⟩
  have hw := hw X_1 eX_1
  refine p_X0_194 (E1 := put 26 o X_1 E0) hx hb hown hts hK hA hW hS (HB.2.2.2.2.2 _ h1) (putAt (k := k1) (isFi_lt h1)) dX0_soundOn_7 (puE (k := k1) (isFi_lt h1) eX_1) (fun H locs hW hS => ?_)
  refine lv_aload_n hx hb dX0_soundOn_10 rfl (lv_at hl 1 rfl) ?_
  refine g_X0_194 hx hb hown hts hK hW (HB.2.2.2.2.2 _ h1) (putAt (k := k1) (isFi_lt h1)) dX0_soundOn_11 ?_
  refine lv_aload_n hx hb dX0_soundOn_14 rfl (lv_at hl 0 rfl) ?_
  refine lv_iconst (v := 0) hx hb dX0_soundOn_15 (by decide) ?_
  refine w_cvi (As := [.int 0]) (rest := [.int ((X_1 k1) 7)]) hx hb hml hown hts hK hW hS hl.1 (c_X0_settingAt hA HB (fun k hk => putAt hk)  hw) (k_X0_79 hts ⟨Nat.le_of_ble_eq_true rfl, Nat.le_of_ble_eq_true rfl⟩) (w_recv hK hW HB.1 (putAt (k := 0) (by decide)) rfl rfl) rfl rfl (Nat.le_of_ble_eq_true rfl) dX0_soundOn_16 ⟨Nat.zero_le _, Nat.zero_le _⟩ (fun r_2 Ez H locs hw2 hW hS => ?_)
  obtain ⟨ez, hw⟩ := hw2
  rw [ez] at hW
  refine lv_icmp_lt (tgt := 32) hx hb dX0_soundOn_19 (by decide) (fun c_3 => ?_) (fun c_3 => ?_)
  · have hw := hw.1 c_3
    exact w_vret hx hb hr hlocks hW hS ⟨X_1, rfl, hw⟩ dX0_soundOn_32
  · have hw := hw.2 c_3
    refine lv_aload_n hx hb dX0_soundOn_22 rfl (lv_at hl 1 rfl) ?_
    refine w_cvv (As := []) (rest := []) hx hb hml hown hts hK hW hS hl.1 (c_X1_becomeFree hA (HB.2.2.2.2.2 _ h1) (putAt (k := k1) (isFi_lt h1)) hw) (k_X0_132 hts ⟨Nat.le_of_ble_eq_true rfl, Nat.le_of_ble_eq_true rfl⟩) (w_recv hK hW (HB.2.2.2.2.2 _ h1) (putAt (k := k1) (isFi_lt h1)) rfl rfl) rfl rfl (Nat.le_of_ble_eq_true rfl) dX0_soundOn_23 ⟨Nat.zero_le _, Nat.zero_le _⟩ (fun Ez H locs hw2 hW hS => ?_)
    obtain ⟨Y_4, ez, hw⟩ := hw2
    rw [ez] at hW
    obtain ⟨X_5, eX_5⟩ : ∃ z : ES, z = va_up X_1 k1 Y_4 := ⟨_, rfl⟩
    have hw := hw X_5 eX_5
    have hW : Wd g lay (put 26 o X_5 E0) H := by rw [eX_5, ← putUp (k := k1) (isFi_lt h1)]; exact hW
    refine lv_aload_n hx hb dX0_soundOn_26 rfl (lv_at hl 2 rfl) ?_
    refine lv_bipush (v := 10) hx hb dX0_soundOn_27 (by decide) ?_
    refine w_cvv (As := [.int 10]) (rest := []) hx hb hml hown hts hK hW hS hl.1 (c_X2_leaveCall hA (HB.2.2.2.2.1 _ h2) (putAt (k := k2) (isLi_lt h2)) hw) (k_X0_125 hts ⟨Nat.le_of_ble_eq_true rfl, Nat.le_of_ble_eq_true rfl⟩) (w_recv hK hW (HB.2.2.2.2.1 _ h2) (putAt (k := k2) (isLi_lt h2)) rfl rfl) rfl rfl (Nat.le_of_ble_eq_true rfl) dX0_soundOn_29 ⟨Nat.zero_le _, Nat.zero_le _⟩ (fun Ez H locs hw2 hW hS => ?_)
    obtain ⟨Y_6, ez, hw⟩ := hw2
    rw [ez] at hW
    obtain ⟨X_7, eX_7⟩ : ∃ z : ES, z = va_up X_5 k2 Y_6 := ⟨_, rfl⟩
    have hw := hw X_7 eX_7
    have hW : Wd g lay (put 26 o X_7 E0) H := by rw [eX_7, ← putUp (k := k2) (isLi_lt h2)]; exact hW
    exact w_vret hx hb hr hlocks hW hS ⟨X_7, rfl, hw⟩ dX0_soundOn_32
set_option maxHeartbeats 4000000 in
set_option maxRecDepth 100000 in
theorem c_X0_takeStep {l : Launch} {g : GG} {lay : LY} {E0 : ES} {o : Nat} {X : ES} {k1 : Nat} {K : ES → Prop} (hA : okL g lay) (HB : XL g lay o) (hX : ∀ k, k < 26 → E0 (o + k) = X k) (h1 : isFi k1) (hw : wp_X0_takeStep X k1 K) : JMv l g lay yX0_takeStep wsX0_takeStep rmX0_takeStep [.ref o, .ref (o + k1)] E0 (fun E1 => ∃ X1 : ES, E1 = put 26 o X1 E0 ∧ K X1) := by
  refine Met.ofW (cc := cX0_takeStep) (maxL := 3) (ret := none) (by decide) rfl ?_
  intro p e s m args below meth c s₁ B hml hv
  obtain ⟨rfl, hK, hW⟩ := hv
  have hx := B.exec
  have hb := B.bytes
  have hr := B.returns
  have hts := gd_of (atoms_spec (ws := wsX0_takeStep) B.pre)
  have hown : s.vm.findClass RX0 = some m.cls := findClass_of_methodNamed B.named
  have hlocks := B.notSynchronized
  have hS : va_S (Ab g) s.heap s.heap [] := va_S.rf
  have hW : Wd g lay (put 26 o X E0) s.heap := by rw [putSelf hX]; exact hW
  have hl := lv_entry [.ref o, .ref (o + k1)] (n := 3) (Nat.le_of_ble_eq_true rfl)
  rw [lg_entry_eq]
  generalize (lg_sl [.ref o, .ref (o + k1)] ++ List.replicate (3 - (lg_sl [.ref o, .ref (o + k1)]).length) Slot.unset).toArray = ls at hl ⊢
  have hl : lv_has ls 3 [(0, .ref o), (1, .ref (o + k1))] := hl
  unfold wp_X0_takeStep at hw
  refine lv_aload_n hx hb dX0_takeStep_0 rfl (lv_at hl 0 rfl) ?_
  refine lv_aload_n hx hb dX0_takeStep_1 rfl (lv_at hl 1 rfl) ?_
  refine g_X0_151 hx hb hown hts hK hW (HB.2.2.2.2.2 _ h1) (putAt (k := k1) (isFi_lt h1)) dX0_takeStep_2 ?_
  refine w_cvr (As := [.int ((X k1) 2)]) (rest := []) hx hb hml hown hts hK hW hS hl.1 (c_X0_lineAt hA HB ((X k1) 2)) (k_X0_83 hts ⟨Nat.le_of_ble_eq_true rfl, Nat.le_of_ble_eq_true rfl⟩) (w_recv hK hW HB.1 (putAt (k := 0) (by decide)) rfl rfl) rfl rfl (Nat.le_of_ble_eq_true rfl) dX0_takeStep_5 ⟨Nat.zero_le _, Nat.zero_le _⟩ (fun q_1 Ez H locs hw2 hW hS => ?_)
  obtain ⟨ez, rfl⟩ := hw2
  rw [ez] at hW
  refine lv_astore_n (lv' := [(2, .ref (o + lix ((X k1) 2))), (0, .ref o), (1, .ref (o + k1))]) hx hb dX0_takeStep_8 rfl hl (by decide) rfl (fun ls hl => ?_)
  refine lv_aload_n hx hb dX0_takeStep_9 rfl (lv_at hl 2 rfl) ?_
  refine g_X0_154 hx hb hown hts hK hW (HB.2.2.2.2.2 _ h1) (putAt (k := k1) (isFi_lt h1)) dX0_takeStep_10 ?_
  by_cases c_2 : ((X k1) 0) = 1
  · have hw := hw.1 c_2
    refine lv_tableIn (tgt := 64) hx hb dX0_takeStep_13 (by rw [c_2]; decide) (by rw [c_2]; decide) (by rw [c_2] <;> rfl) (by decide) ?_
    refine lv_aload_n hx hb dX0_takeStep_64 rfl (lv_at hl 1 rfl) ?_
    refine lv_aload_n hx hb dX0_takeStep_65 rfl (lv_at hl 2 rfl) ?_
    refine lv_aload_n hx hb dX0_takeStep_66 rfl (lv_at hl 0 rfl) ?_
    refine w_cvv (As := [.ref (o + k1), .ref (o + lix ((X k1) 2))]) (rest := []) hx hb hml hown hts hK hW hS hl.1 (c_X0_seek hA HB (fun k hk => putAt hk) h1 (isLi_lix ((X k1) 2)) hw) (k_X0_155 hts ⟨Nat.le_of_ble_eq_true rfl, Nat.le_of_ble_eq_true rfl⟩) (w_recv hK hW HB.1 (putAt (k := 0) (by decide)) rfl rfl) rfl rfl (Nat.le_of_ble_eq_true rfl) dX0_takeStep_67 ⟨Nat.zero_le _, Nat.zero_le _⟩ (fun Ez H locs hw2 hW hS => ?_)
    obtain ⟨X_3, ez, hw⟩ := hw2
    rw [ez, putPut] at hW
    refine lv_goto (tgt := 148) hx hb dX0_takeStep_70 (by decide) ?_
    exact w_vret hx hb hr hlocks hW hS ⟨X_3, rfl, hw⟩ dX0_takeStep_148
  · have hw := hw.2 c_2
    by_cases c_4 : ((X k1) 0) = 2
    · have hw := hw.1 c_4
      refine lv_tableIn (tgt := 73) hx hb dX0_takeStep_13 (by rw [c_4]; decide) (by rw [c_4]; decide) (by rw [c_4] <;> rfl) (by decide) ?_
      refine lv_aload_n hx hb dX0_takeStep_73 rfl (lv_at hl 1 rfl) ?_
      refine lv_aload_n hx hb dX0_takeStep_74 rfl (lv_at hl 2 rfl) ?_
      refine lv_aload_n hx hb dX0_takeStep_75 rfl (lv_at hl 0 rfl) ?_
      refine lv_iconst (v := 3) hx hb dX0_takeStep_76 (by decide) ?_
      refine w_cvv (As := [.ref (o + k1), .ref (o + lix ((X k1) 2)), .int 3]) (rest := []) hx hb hml hown hts hK hW hS hl.1 (c_X0_awaitDigit hA HB (fun k hk => putAt hk) h1 (isLi_lix ((X k1) 2)) hw) (k_X0_159 hts ⟨Nat.le_of_ble_eq_true rfl, Nat.le_of_ble_eq_true rfl⟩) (w_recv hK hW HB.1 (putAt (k := 0) (by decide)) rfl rfl) rfl rfl (Nat.le_of_ble_eq_true rfl) dX0_takeStep_77 ⟨Nat.zero_le _, Nat.zero_le _⟩ (fun Ez H locs hw2 hW hS => ?_)
      obtain ⟨X_5, ez, hw⟩ := hw2
      rw [ez, putPut] at hW
      refine lv_goto (tgt := 148) hx hb dX0_takeStep_80 (by decide) ?_
      exact w_vret hx hb hr hlocks hW hS ⟨X_5, rfl, hw⟩ dX0_takeStep_148
    · have hw := hw.2 c_4
      by_cases c_6 : ((X k1) 0) = 3
      · have hw := hw.1 c_6
        refine lv_tableIn (tgt := 83) hx hb dX0_takeStep_13 (by rw [c_6]; decide) (by rw [c_6]; decide) (by rw [c_6] <;> rfl) (by decide) ?_
        refine lv_aload_n hx hb dX0_takeStep_83 rfl (lv_at hl 1 rfl) ?_
        refine lv_aload_n hx hb dX0_takeStep_84 rfl (lv_at hl 2 rfl) ?_
        refine lv_aload_n hx hb dX0_takeStep_85 rfl (lv_at hl 0 rfl) ?_
        refine w_cvv (As := [.ref (o + k1), .ref (o + lix ((X k1) 2))]) (rest := []) hx hb hml hown hts hK hW hS hl.1 (c_X0_rise hA HB (fun k hk => putAt hk) h1 (isLi_lix ((X k1) 2)) hw) (k_X0_163 hts ⟨Nat.le_of_ble_eq_true rfl, Nat.le_of_ble_eq_true rfl⟩) (w_recv hK hW HB.1 (putAt (k := 0) (by decide)) rfl rfl) rfl rfl (Nat.le_of_ble_eq_true rfl) dX0_takeStep_86 ⟨Nat.zero_le _, Nat.zero_le _⟩ (fun Ez H locs hw2 hW hS => ?_)
        obtain ⟨X_7, ez, hw⟩ := hw2
        rw [ez, putPut] at hW
        refine lv_goto (tgt := 148) hx hb dX0_takeStep_89 (by decide) ?_
        exact w_vret hx hb hr hlocks hW hS ⟨X_7, rfl, hw⟩ dX0_takeStep_148
      · have hw := hw.2 c_6
        by_cases c_8 : ((X k1) 0) = 4
        · have hw := hw.1 c_8
          refine lv_tableIn (tgt := 92) hx hb dX0_takeStep_13 (by rw [c_8]; decide) (by rw [c_8]; decide) (by rw [c_8] <;> rfl) (by decide) ?_
          refine lv_aload_n hx hb dX0_takeStep_92 rfl (lv_at hl 1 rfl) ?_
          refine lv_aload_n hx hb dX0_takeStep_93 rfl (lv_at hl 2 rfl) ?_
          refine lv_aload_n hx hb dX0_takeStep_94 rfl (lv_at hl 0 rfl) ?_
          refine w_cvv (As := [.ref (o + k1), .ref (o + lix ((X k1) 2))]) (rest := []) hx hb hml hown hts hK hW hS hl.1 (c_X0_hunt hA HB (fun k hk => putAt hk) h1 (isLi_lix ((X k1) 2)) hw) (k_X0_166 hts ⟨Nat.le_of_ble_eq_true rfl, Nat.le_of_ble_eq_true rfl⟩) (w_recv hK hW HB.1 (putAt (k := 0) (by decide)) rfl rfl) rfl rfl (Nat.le_of_ble_eq_true rfl) dX0_takeStep_95 ⟨Nat.zero_le _, Nat.zero_le _⟩ (fun Ez H locs hw2 hW hS => ?_)
          obtain ⟨X_9, ez, hw⟩ := hw2
          rw [ez, putPut] at hW
          refine lv_goto (tgt := 148) hx hb dX0_takeStep_98 (by decide) ?_
          exact w_vret hx hb hr hlocks hW hS ⟨X_9, rfl, hw⟩ dX0_takeStep_148
        · have hw := hw.2 c_8
          by_cases c_10 : ((X k1) 0) = 5
          · have hw := hw.1 c_10
            refine lv_tableIn (tgt := 101) hx hb dX0_takeStep_13 (by rw [c_10]; decide) (by rw [c_10]; decide) (by rw [c_10] <;> rfl) (by decide) ?_
            refine lv_aload_n hx hb dX0_takeStep_101 rfl (lv_at hl 1 rfl) ?_
            refine lv_aload_n hx hb dX0_takeStep_102 rfl (lv_at hl 2 rfl) ?_
            refine lv_aload_n hx hb dX0_takeStep_103 rfl (lv_at hl 0 rfl) ?_
            refine lv_bipush (v := 6) hx hb dX0_takeStep_104 (by decide) ?_
            refine w_cvv (As := [.ref (o + k1), .ref (o + lix ((X k1) 2)), .int 6]) (rest := []) hx hb hml hown hts hK hW hS hl.1 (c_X0_awaitDigit hA HB (fun k hk => putAt hk) h1 (isLi_lix ((X k1) 2)) hw) (k_X0_159 hts ⟨Nat.le_of_ble_eq_true rfl, Nat.le_of_ble_eq_true rfl⟩) (w_recv hK hW HB.1 (putAt (k := 0) (by decide)) rfl rfl) rfl rfl (Nat.le_of_ble_eq_true rfl) dX0_takeStep_106 ⟨Nat.zero_le _, Nat.zero_le _⟩ (fun Ez H locs hw2 hW hS => ?_)
            obtain ⟨X_11, ez, hw⟩ := hw2
            rw [ez, putPut] at hW
            refine lv_goto (tgt := 148) hx hb dX0_takeStep_109 (by decide) ?_
            exact w_vret hx hb hr hlocks hW hS ⟨X_11, rfl, hw⟩ dX0_takeStep_148
          · have hw := hw.2 c_10
            by_cases c_12 : ((X k1) 0) = 6
            · have hw := hw.1 c_12
              refine lv_tableIn (tgt := 112) hx hb dX0_takeStep_13 (by rw [c_12]; decide) (by rw [c_12]; decide) (by rw [c_12] <;> rfl) (by decide) ?_
              refine lv_aload_n hx hb dX0_takeStep_112 rfl (lv_at hl 1 rfl) ?_
              refine lv_aload_n hx hb dX0_takeStep_113 rfl (lv_at hl 2 rfl) ?_
              refine lv_aload_n hx hb dX0_takeStep_114 rfl (lv_at hl 0 rfl) ?_
              refine w_cvv (As := [.ref (o + k1), .ref (o + lix ((X k1) 2))]) (rest := []) hx hb hml hown hts hK hW hS hl.1 (c_X0_stepOn hA HB (fun k hk => putAt hk) h1 (isLi_lix ((X k1) 2)) hw) (k_X0_169 hts ⟨Nat.le_of_ble_eq_true rfl, Nat.le_of_ble_eq_true rfl⟩) (w_recv hK hW HB.1 (putAt (k := 0) (by decide)) rfl rfl) rfl rfl (Nat.le_of_ble_eq_true rfl) dX0_takeStep_115 ⟨Nat.zero_le _, Nat.zero_le _⟩ (fun Ez H locs hw2 hW hS => ?_)
              obtain ⟨X_13, ez, hw⟩ := hw2
              rw [ez, putPut] at hW
              refine lv_goto (tgt := 148) hx hb dX0_takeStep_118 (by decide) ?_
              exact w_vret hx hb hr hlocks hW hS ⟨X_13, rfl, hw⟩ dX0_takeStep_148
            · have hw := hw.2 c_12
              by_cases c_14 : ((X k1) 0) = 7
              · have hw := hw.1 c_14
                refine lv_tableIn (tgt := 121) hx hb dX0_takeStep_13 (by rw [c_14]; decide) (by rw [c_14]; decide) (by rw [c_14] <;> rfl) (by decide) ?_
                refine lv_aload_n hx hb dX0_takeStep_121 rfl (lv_at hl 1 rfl) ?_
                refine lv_aload_n hx hb dX0_takeStep_122 rfl (lv_at hl 2 rfl) ?_
                refine lv_aload_n hx hb dX0_takeStep_123 rfl (lv_at hl 0 rfl) ?_
                refine w_cvv (As := [.ref (o + k1), .ref (o + lix ((X k1) 2))]) (rest := []) hx hb hml hown hts hK hW hS hl.1 (c_X0_ringOn hA HB (fun k hk => putAt hk) h1 (isLi_lix ((X k1) 2)) hw) (k_X0_172 hts ⟨Nat.le_of_ble_eq_true rfl, Nat.le_of_ble_eq_true rfl⟩) (w_recv hK hW HB.1 (putAt (k := 0) (by decide)) rfl rfl) rfl rfl (Nat.le_of_ble_eq_true rfl) dX0_takeStep_124 ⟨Nat.zero_le _, Nat.zero_le _⟩ (fun Ez H locs hw2 hW hS => ?_)
                obtain ⟨X_15, ez, hw⟩ := hw2
                rw [ez, putPut] at hW
                refine lv_goto (tgt := 148) hx hb dX0_takeStep_127 (by decide) ?_
                exact w_vret hx hb hr hlocks hW hS ⟨X_15, rfl, hw⟩ dX0_takeStep_148
              · have hw := hw.2 c_14
                by_cases c_16 : ((X k1) 0) = 8
                · have hw := hw.1 c_16
                  refine lv_tableIn (tgt := 130) hx hb dX0_takeStep_13 (by rw [c_16]; decide) (by rw [c_16]; decide) (by rw [c_16] <;> rfl) (by decide) ?_
                  refine lv_aload_n hx hb dX0_takeStep_130 rfl (lv_at hl 1 rfl) ?_
                  refine lv_aload_n hx hb dX0_takeStep_131 rfl (lv_at hl 2 rfl) ?_
                  refine lv_aload_n hx hb dX0_takeStep_132 rfl (lv_at hl 0 rfl) ?_
                  refine w_cvv (As := [.ref (o + k1), .ref (o + lix ((X k1) 2))]) (rest := []) hx hb hml hown hts hK hW hS hl.1 (c_X0_talkOn hA HB (fun k hk => putAt hk) h1 (isLi_lix ((X k1) 2)) hw) (k_X0_175 hts ⟨Nat.le_of_ble_eq_true rfl, Nat.le_of_ble_eq_true rfl⟩) (w_recv hK hW HB.1 (putAt (k := 0) (by decide)) rfl rfl) rfl rfl (Nat.le_of_ble_eq_true rfl) dX0_takeStep_133 ⟨Nat.zero_le _, Nat.zero_le _⟩ (fun Ez H locs hw2 hW hS => ?_)
                  obtain ⟨X_17, ez, hw⟩ := hw2
                  rw [ez, putPut] at hW
                  refine lv_goto (tgt := 148) hx hb dX0_takeStep_136 (by decide) ?_
                  exact w_vret hx hb hr hlocks hW hS ⟨X_17, rfl, hw⟩ dX0_takeStep_148
                · have hw := hw.2 c_16
                  by_cases c_18 : ((X k1) 0) = 9
                  · have hw := hw.1 c_18
                    refine lv_tableIn (tgt := 139) hx hb dX0_takeStep_13 (by rw [c_18]; decide) (by rw [c_18]; decide) (by rw [c_18] <;> rfl) (by decide) ?_
                    refine lv_aload_n hx hb dX0_takeStep_139 rfl (lv_at hl 1 rfl) ?_
                    refine lv_aload_n hx hb dX0_takeStep_140 rfl (lv_at hl 2 rfl) ?_
                    refine lv_aload_n hx hb dX0_takeStep_141 rfl (lv_at hl 0 rfl) ?_
                    refine w_cvv (As := [.ref (o + k1), .ref (o + lix ((X k1) 2))]) (rest := []) hx hb hml hown hts hK hW hS hl.1 (c_X0_soundOn hA HB (fun k hk => putAt hk) h1 (isLi_lix ((X k1) 2)) hw) (k_X0_178 hts ⟨Nat.le_of_ble_eq_true rfl, Nat.le_of_ble_eq_true rfl⟩) (w_recv hK hW HB.1 (putAt (k := 0) (by decide)) rfl rfl) rfl rfl (Nat.le_of_ble_eq_true rfl) dX0_takeStep_142 ⟨Nat.zero_le _, Nat.zero_le _⟩ (fun Ez H locs hw2 hW hS => ?_)
                    obtain ⟨X_19, ez, hw⟩ := hw2
                    rw [ez, putPut] at hW
                    refine lv_goto (tgt := 148) hx hb dX0_takeStep_145 (by decide) ?_
                    exact w_vret hx hb hr hlocks hW hS ⟨X_19, rfl, hw⟩ dX0_takeStep_148
                  · have hw := hw.2 c_18
                    refine lv_tableOut (tgt := 148) hx hb dX0_takeStep_13 (by have zc_2 := lv_neT (a := 1) c_2 rfl; have zc_4 := lv_neT (a := 2) c_4 rfl; have zc_6 := lv_neT (a := 3) c_6 rfl; have zc_8 := lv_neT (a := 4) c_8 rfl; have zc_10 := lv_neT (a := 5) c_10 rfl; have zc_12 := lv_neT (a := 6) c_12 rfl; have zc_14 := lv_neT (a := 7) c_14 rfl; have zc_16 := lv_neT (a := 8) c_16 rfl; have zc_18 := lv_neT (a := 9) c_18 rfl; omega) (by decide) ?_
                    exact w_vret hx hb hr hlocks hW hS ⟨X, rfl, hw⟩ dX0_takeStep_148
set_option maxHeartbeats 4000000 in
set_option maxRecDepth 100000 in
theorem c_X0_nextFreeFinder {l : Launch} {g : GG} {lay : LY} {E0 : ES} {o : Nat} {X : ES} {K : Int32 → Prop} (hA : okL g lay) (HB : XL g lay o) (hX : ∀ k, k < 26 → E0 (o + k) = X k) (hw : wp_X0_nextFreeFinder X K) : JMi l g lay yX0_nextFreeFinder wsX0_nextFreeFinder rmX0_nextFreeFinder [.ref o] E0 (fun r E1 => E1 = E0 ∧ K r) := by
  refine Met.ofW (cc := cX0_nextFreeFinder) (maxL := 3) (ret := (some .int)) (by decide) rfl ?_
  intro p e s m args below meth c s₁ B hml hv
  obtain ⟨rfl, hK, hW⟩ := hv
  have hx := B.exec
  have hb := B.bytes
  have hr := B.returns
  have hts := gd_of (atoms_spec (ws := wsX0_nextFreeFinder) B.pre)
  have hown : s.vm.findClass RX0 = some m.cls := findClass_of_methodNamed B.named
  have hlocks := B.notSynchronized
  have hS : va_S (Ab g) s.heap s.heap [] := va_S.rf
  have hl := lv_entry [.ref o] (n := 3) (Nat.le_of_ble_eq_true rfl)
  rw [lg_entry_eq]
  generalize (lg_sl [.ref o] ++ List.replicate (3 - (lg_sl [.ref o]).length) Slot.unset).toArray = ls at hl ⊢
  have hl : lv_has ls 3 [(0, .ref o)] := hl
  unfold wp_X0_nextFreeFinder at hw
  refine lv_iconst (v := 1) hx hb dX0_nextFreeFinder_0 (by decide) ?_
  refine lv_istore_n (lv' := [(1, .int 1), (0, .ref o)]) hx hb dX0_nextFreeFinder_1 rfl hl (by decide) rfl (fun ls hl => ?_)
  obtain ⟨n_23, hw⟩ := hw
  refine w_loop (KT := Int32 → Prop) (σ := Int32) (Wl := fun Kx_2 n_2 q => wpl_X0_nextFreeFinder_2 X K Kx_2 n_2 q) (Pw := fun q => Wd g lay (E0)) (lvf := fun q => [(0, .ref o), (1, .int q)]) (nL := 3) n_23 (1) hw hW hS (lv_sub hl [1, 0] rfl) (fun _ h => h) (fun Kx_2 eK_2 n_2 q H locs ls hw hW hS hl ih_2 => ?_)
  obtain ⟨i_1, rfl⟩ : ∃ z, z = q := ⟨_, rfl⟩
  try dsimp only at hw
  rw [wpl_X0_nextFreeFinder_2] at hw
  have hl : lv_has ls 3 [(0, .ref o), (1, .int i_1)] := hl
  have hW : Wd g lay (E0) H := hW
  refine lv_iload_n hx hb dX0_nextFreeFinder_2 rfl (lv_at hl 1 rfl) ?_
  refine lv_aload_n hx hb dX0_nextFreeFinder_3 rfl (lv_at hl 0 rfl) ?_
  refine g_X0_45 hx hb hown hts hK hW HB.1 (hX 0 (by decide)) dX0_nextFreeFinder_4 ?_
  refine lv_icmp_gt (tgt := 51) hx hb dX0_nextFreeFinder_7 (by decide) (fun c_13 => ?_) (fun c_13 => ?_)
  · have hw := hw.1 c_13
    rw [eK_2] at hw
    refine lv_bipush (v := (-6)) hx hb dX0_nextFreeFinder_51 (by decide) ?_
    exact w_iret hx hb hr hlocks hW hS ⟨rfl, hw⟩ dX0_nextFreeFinder_53
  · have hw := hw.2 c_13
    refine lv_aload_n hx hb dX0_nextFreeFinder_10 rfl (lv_at hl 0 rfl) ?_
    refine g_X0_55 hx hb hown hts hK hW HB.1 (hX 0 (by decide)) dX0_nextFreeFinder_11 ?_
    refine lv_iload_n hx hb dX0_nextFreeFinder_14 rfl (lv_at hl 1 rfl) ?_
    refine lv_iadd hx hb dX0_nextFreeFinder_15 ?_
    refine lv_topi (fun v_14 ev_14 => ?_)
    have hw := hw v_14 ev_14
    refine lv_istore_n (lv' := [(2, .int v_14), (0, .ref o), (1, .int i_1)]) hx hb dX0_nextFreeFinder_16 rfl hl (by decide) rfl (fun ls hl => ?_)
    refine lv_iload_n hx hb dX0_nextFreeFinder_17 rfl (lv_at hl 0 rfl) ?_
    refine lv_aload_n hx hb dX0_nextFreeFinder_18 rfl (lv_at hl 1 rfl) ?_
    refine g_X0_45 hx hb hown hts hK hW HB.1 (hX 0 (by decide)) dX0_nextFreeFinder_19 ?_
    refine lv_icmp_lt (tgt := 32) hx hb dX0_nextFreeFinder_22 (by decide) (fun c_15 => ?_) (fun c_15 => ?_)
    · have hw := hw.1 c_15
      refine lv_aload_n hx hb dX0_nextFreeFinder_32 rfl (lv_at hl 1 rfl) ?_
      refine lv_iload_n hx hb dX0_nextFreeFinder_33 rfl (lv_at hl 0 rfl) ?_
      refine w_cvr (As := [.int v_14]) (rest := []) hx hb hml hown hts hK hW hS hl.1 (c_X0_finderAt hA HB v_14) (k_X0_90 hts ⟨Nat.le_of_ble_eq_true rfl, Nat.le_of_ble_eq_true rfl⟩) (w_recv hK hW HB.1 (hX 0 (by decide)) rfl rfl) rfl rfl (Nat.le_of_ble_eq_true rfl) dX0_nextFreeFinder_34 ⟨Nat.zero_le _, Nat.zero_le _⟩ (fun q_16 Ez H locs hw2 hW hS => ?_)
      obtain ⟨ez, rfl⟩ := hw2
      rw [ez] at hW
      refine g_X0_154 hx hb hown hts hK hW (HB.2.2.2.2.2 _ (isFi_fix v_14)) (hX (fix v_14) (isFi_lt (isFi_fix v_14))) dX0_nextFreeFinder_37 ?_
      refine lv_if_ne (tgt := 45) hx hb dX0_nextFreeFinder_40 (by decide) (fun c_17 => ?_) (fun c_17 => ?_)
      · have hw := hw.2 c_17
        obtain ⟨v_18, ev_18⟩ : ∃ z : Int32, z = i_1 + 1 := ⟨_, rfl⟩
        have hw := hw v_18 ev_18
        refine lv_iinc (v := v_18) (lv' := [(1, .int v_18), (2, .int v_14), (0, .ref o)]) hx hb dX0_nextFreeFinder_45 hl (k := 2) rfl (by rw [ev_18]; rfl) (by decide) rfl (fun ls hl => ?_)
        refine lv_goto (tgt := 2) hx hb dX0_nextFreeFinder_48 (by decide) ?_
        exact ih_2 (v_18) _ _ _ hw hW hS (lv_sub hl [2, 0] rfl)
      · have hw := hw.1 c_17
        refine lv_iload_n hx hb dX0_nextFreeFinder_43 rfl (lv_at hl 0 rfl) ?_
        exact w_iret hx hb hr hlocks hW hS ⟨rfl, hw⟩ dX0_nextFreeFinder_44
    · have hw := hw.2 c_15
      refine lv_iload_n hx hb dX0_nextFreeFinder_25 rfl (lv_at hl 0 rfl) ?_
      refine lv_aload_n hx hb dX0_nextFreeFinder_26 rfl (lv_at hl 1 rfl) ?_
      refine g_X0_45 hx hb hown hts hK hW HB.1 (hX 0 (by decide)) dX0_nextFreeFinder_27 ?_
      refine lv_isub hx hb dX0_nextFreeFinder_30 ?_
      refine lv_topi (fun v_19 ev_19 => ?_)
      have hw := hw v_19 ev_19
      refine lv_istore_n (lv' := [(2, .int v_19), (0, .ref o), (1, .int i_1)]) hx hb dX0_nextFreeFinder_31 rfl hl (by decide) rfl (fun ls hl => ?_)
      refine lv_aload_n hx hb dX0_nextFreeFinder_32 rfl (lv_at hl 1 rfl) ?_
      refine lv_iload_n hx hb dX0_nextFreeFinder_33 rfl (lv_at hl 0 rfl) ?_
      refine w_cvr (As := [.int v_19]) (rest := []) hx hb hml hown hts hK hW hS hl.1 (c_X0_finderAt hA HB v_19) (k_X0_90 hts ⟨Nat.le_of_ble_eq_true rfl, Nat.le_of_ble_eq_true rfl⟩) (w_recv hK hW HB.1 (hX 0 (by decide)) rfl rfl) rfl rfl (Nat.le_of_ble_eq_true rfl) dX0_nextFreeFinder_34 ⟨Nat.zero_le _, Nat.zero_le _⟩ (fun q_20 Ez H locs hw2 hW hS => ?_)
      obtain ⟨ez, rfl⟩ := hw2
      rw [ez] at hW
      refine g_X0_154 hx hb hown hts hK hW (HB.2.2.2.2.2 _ (isFi_fix v_19)) (hX (fix v_19) (isFi_lt (isFi_fix v_19))) dX0_nextFreeFinder_37 ?_
      refine lv_if_ne (tgt := 45) hx hb dX0_nextFreeFinder_40 (by decide) (fun c_21 => ?_) (fun c_21 => ?_)
      · have hw := hw.2 c_21
        obtain ⟨v_22, ev_22⟩ : ∃ z : Int32, z = i_1 + 1 := ⟨_, rfl⟩
        have hw := hw v_22 ev_22
        refine lv_iinc (v := v_22) (lv' := [(1, .int v_22), (2, .int v_19), (0, .ref o)]) hx hb dX0_nextFreeFinder_45 hl (k := 2) rfl (by rw [ev_22]; rfl) (by decide) rfl (fun ls hl => ?_)
        refine lv_goto (tgt := 2) hx hb dX0_nextFreeFinder_48 (by decide) ?_
        exact ih_2 (v_22) _ _ _ hw hW hS (lv_sub hl [2, 0] rfl)
      · have hw := hw.1 c_21
        refine lv_iload_n hx hb dX0_nextFreeFinder_43 rfl (lv_at hl 0 rfl) ?_
        exact w_iret hx hb hr hlocks hW hS ⟨rfl, hw⟩ dX0_nextFreeFinder_44
set_option maxHeartbeats 4000000 in
set_option maxRecDepth 100000 in
theorem c_X0_firstWaitingLine {l : Launch} {g : GG} {lay : LY} {E0 : ES} {o : Nat} {X : ES} {K : Int32 → Prop} (hA : okL g lay) (HB : XL g lay o) (hX : ∀ k, k < 26 → E0 (o + k) = X k) (hw : wp_X0_firstWaitingLine X K) : JMi l g lay yX0_firstWaitingLine wsX0_firstWaitingLine rmX0_firstWaitingLine [.ref o] E0 (fun r E1 => E1 = E0 ∧ K r) := by
  refine Met.ofW (cc := cX0_firstWaitingLine) (maxL := 4) (ret := (some .int)) (by decide) rfl ?_
  intro p e s m args below meth c s₁ B hml hv
  obtain ⟨rfl, hK, hW⟩ := hv
  have hx := B.exec
  have hb := B.bytes
  have hr := B.returns
  have hts := gd_of (atoms_spec (ws := wsX0_firstWaitingLine) B.pre)
  have hown : s.vm.findClass RX0 = some m.cls := findClass_of_methodNamed B.named
  have hlocks := B.notSynchronized
  have hS : va_S (Ab g) s.heap s.heap [] := va_S.rf
  have hl := lv_entry [.ref o] (n := 4) (Nat.le_of_ble_eq_true rfl)
  rw [lg_entry_eq]
  generalize (lg_sl [.ref o] ++ List.replicate (4 - (lg_sl [.ref o]).length) Slot.unset).toArray = ls at hl ⊢
  have hl : lv_has ls 4 [(0, .ref o)] := hl
  unfold wp_X0_firstWaitingLine at hw
  refine lv_bipush (v := (-6)) hx hb dX0_firstWaitingLine_0 (by decide) ?_
  refine lv_istore_n (lv' := [(1, .int ((-6))), (0, .ref o)]) hx hb dX0_firstWaitingLine_2 rfl hl (by decide) rfl (fun ls hl => ?_)
  refine lv_iconst (v := 0) hx hb dX0_firstWaitingLine_3 (by decide) ?_
  refine lv_istore_n (lv' := [(2, .int 0), (1, .int ((-6))), (0, .ref o)]) hx hb dX0_firstWaitingLine_4 rfl hl (by decide) rfl (fun ls hl => ?_)
  obtain ⟨n_29, hw⟩ := hw
  refine w_loop (KT := Int32 → Int32 → Prop) (σ := Int32 × Int32) (Wl := fun Kx_5 n_5 q => wpl_X0_firstWaitingLine_5 X K Kx_5 n_5 q.1 q.2) (Pw := fun q => Wd g lay (E0)) (lvf := fun q => [(0, .ref o), (1, .int q.1), (2, .int q.2)]) (nL := 4) n_29 ((-6), 0) hw hW hS (lv_sub hl [2, 1, 0] rfl) (fun _ h => h) (fun Kx_5 eK_5 n_5 q H locs ls hw hW hS hl ih_5 => ?_)
  obtain ⟨i_1, i_2⟩ := q
  try dsimp only at hw
  rw [wpl_X0_firstWaitingLine_5] at hw
  have hl : lv_has ls 4 [(0, .ref o), (1, .int i_1), (2, .int i_2)] := hl
  have hW : Wd g lay (E0) H := hW
  refine lv_iload_n hx hb dX0_firstWaitingLine_5 rfl (lv_at hl 2 rfl) ?_
  refine lv_bipush (v := 16) hx hb dX0_firstWaitingLine_6 (by decide) ?_
  refine lv_icmp_ge (tgt := 53) hx hb dX0_firstWaitingLine_8 (by decide) (fun c_17 => ?_) (fun c_17 => ?_)
  · have hw := hw.1 c_17
    rw [eK_5] at hw
    refine lv_iload_n hx hb dX0_firstWaitingLine_53 rfl (lv_at hl 1 rfl) ?_
    exact w_iret hx hb hr hlocks hW hS ⟨rfl, hw⟩ dX0_firstWaitingLine_54
  · have hw := hw.2 c_17
    refine lv_aload_n hx hb dX0_firstWaitingLine_11 rfl (lv_at hl 0 rfl) ?_
    refine lv_iload_n hx hb dX0_firstWaitingLine_12 rfl (lv_at hl 2 rfl) ?_
    refine w_cvr (As := [.int i_2]) (rest := []) hx hb hml hown hts hK hW hS hl.1 (c_X0_lineAt hA HB i_2) (k_X0_83 hts ⟨Nat.le_of_ble_eq_true rfl, Nat.le_of_ble_eq_true rfl⟩) (w_recv hK hW HB.1 (hX 0 (by decide)) rfl rfl) rfl rfl (Nat.le_of_ble_eq_true rfl) dX0_firstWaitingLine_13 ⟨Nat.zero_le _, Nat.zero_le _⟩ (fun q_18 Ez H locs hw2 hW hS => ?_)
    obtain ⟨ez, rfl⟩ := hw2
    rw [ez] at hW
    refine lv_astore_n (lv' := [(3, .ref (o + lix i_2)), (0, .ref o), (1, .int i_1), (2, .int i_2)]) hx hb dX0_firstWaitingLine_16 rfl hl (by decide) rfl (fun ls hl => ?_)
    refine lv_aload_n hx hb dX0_firstWaitingLine_17 rfl (lv_at hl 0 rfl) ?_
    refine w_cvi (As := []) (rest := []) hx hb hml hown hts hK hW hS hl.1 (c_X2_waitsUnsought hA (HB.2.2.2.2.1 _ (isLi_lix i_2)) (hX (lix i_2) (isLi_lt (isLi_lix i_2))) hw) (k_X0_229 hts ⟨Nat.le_of_ble_eq_true rfl, Nat.le_of_ble_eq_true rfl⟩) (w_recv hK hW (HB.2.2.2.2.1 _ (isLi_lix i_2)) (hX (lix i_2) (isLi_lt (isLi_lix i_2))) rfl rfl) rfl rfl (Nat.le_of_ble_eq_true rfl) dX0_firstWaitingLine_18 ⟨Nat.zero_le _, Nat.zero_le _⟩ (fun r_19 Ez H locs hw2 hW hS => ?_)
    obtain ⟨ez, z_20, hw⟩ := hw2
    rw [ez] at hW
    refine lv_if_eq (tgt := 47) hx hb dX0_firstWaitingLine_21 (by decide) (fun c_21 => ?_) (fun c_21 => ?_)
    · have hw := hw.1 c_21
      obtain ⟨v_22, ev_22⟩ : ∃ z : Int32, z = i_2 + 1 := ⟨_, rfl⟩
      have hw := hw v_22 ev_22
      refine lv_iinc (v := v_22) (lv' := [(2, .int v_22), (3, .ref (o + lix i_2)), (0, .ref o), (1, .int i_1)]) hx hb dX0_firstWaitingLine_47 hl (k := 3) rfl (by rw [ev_22]; rfl) (by decide) rfl (fun ls hl => ?_)
      refine lv_goto (tgt := 5) hx hb dX0_firstWaitingLine_50 (by decide) ?_
      exact ih_5 (i_1, v_22) _ _ _ hw hW hS (lv_sub hl [2, 3, 0] rfl)
    · have hw := hw.2 c_21
      refine lv_iload_n hx hb dX0_firstWaitingLine_24 rfl (lv_at hl 2 rfl) ?_
      refine lv_bipush (v := (-6)) hx hb dX0_firstWaitingLine_25 (by decide) ?_
      refine lv_icmp_eq (tgt := 45) hx hb dX0_firstWaitingLine_27 (by decide) (fun c_23 => ?_) (fun c_23 => ?_)
      · have hw := hw.1 c_23
        refine lv_iload_n hx hb dX0_firstWaitingLine_45 rfl (lv_at hl 3 rfl) ?_
        refine lv_istore_n (lv' := [(1, .int i_2), (3, .ref (o + lix i_2)), (0, .ref o), (2, .int i_2)]) hx hb dX0_firstWaitingLine_46 rfl hl (by decide) rfl (fun ls hl => ?_)
        obtain ⟨v_24, ev_24⟩ : ∃ z : Int32, z = i_2 + 1 := ⟨_, rfl⟩
        have hw := hw v_24 ev_24
        refine lv_iinc (v := v_24) (lv' := [(2, .int v_24), (1, .int i_2), (3, .ref (o + lix i_2)), (0, .ref o)]) hx hb dX0_firstWaitingLine_47 hl (k := 3) rfl (by rw [ev_24]; rfl) (by decide) rfl (fun ls hl => ?_)
        refine lv_goto (tgt := 5) hx hb dX0_firstWaitingLine_50 (by decide) ?_
        exact ih_5 (i_2, v_24) _ _ _ hw hW hS (lv_sub hl [3, 1, 0] rfl)
      · have hw := hw.2 c_23
        refine lv_aload_n hx hb dX0_firstWaitingLine_30 rfl (lv_at hl 0 rfl) ?_
        refine g_X0_112 hx hb hown hts hK hW (HB.2.2.2.2.1 _ (isLi_lix i_2)) (hX (lix i_2) (isLi_lt (isLi_lix i_2))) dX0_firstWaitingLine_31 ?_
        refine lv_aload_n hx hb dX0_firstWaitingLine_34 rfl (lv_at hl 1 rfl) ?_
        refine lv_iload_n hx hb dX0_firstWaitingLine_35 rfl (lv_at hl 2 rfl) ?_
        refine w_cvr (As := [.int i_1]) (rest := [.int ((X (lix i_2)) 7)]) hx hb hml hown hts hK hW hS hl.1 (c_X0_lineAt hA HB i_1) (k_X0_83 hts ⟨Nat.le_of_ble_eq_true rfl, Nat.le_of_ble_eq_true rfl⟩) (w_recv hK hW HB.1 (hX 0 (by decide)) rfl rfl) rfl rfl (Nat.le_of_ble_eq_true rfl) dX0_firstWaitingLine_36 ⟨Nat.zero_le _, Nat.zero_le _⟩ (fun q_25 Ez H locs hw2 hW hS => ?_)
        obtain ⟨ez, rfl⟩ := hw2
        rw [ez] at hW
        refine g_X0_112 hx hb hown hts hK hW (HB.2.2.2.2.1 _ (isLi_lix i_1)) (hX (lix i_1) (isLi_lt (isLi_lix i_1))) dX0_firstWaitingLine_39 ?_
        refine lv_icmp_ge (tgt := 47) hx hb dX0_firstWaitingLine_42 (by decide) (fun c_26 => ?_) (fun c_26 => ?_)
        · have hw := hw.1 c_26
          obtain ⟨v_27, ev_27⟩ : ∃ z : Int32, z = i_2 + 1 := ⟨_, rfl⟩
          have hw := hw v_27 ev_27
          refine lv_iinc (v := v_27) (lv' := [(2, .int v_27), (3, .ref (o + lix i_2)), (0, .ref o), (1, .int i_1)]) hx hb dX0_firstWaitingLine_47 hl (k := 3) rfl (by rw [ev_27]; rfl) (by decide) rfl (fun ls hl => ?_)
          refine lv_goto (tgt := 5) hx hb dX0_firstWaitingLine_50 (by decide) ?_
          exact ih_5 (i_1, v_27) _ _ _ hw hW hS (lv_sub hl [2, 3, 0] rfl)
        · have hw := hw.2 c_26
          refine lv_iload_n hx hb dX0_firstWaitingLine_45 rfl (lv_at hl 3 rfl) ?_
          refine lv_istore_n (lv' := [(1, .int i_2), (3, .ref (o + lix i_2)), (0, .ref o), (2, .int i_2)]) hx hb dX0_firstWaitingLine_46 rfl hl (by decide) rfl (fun ls hl => ?_)
          obtain ⟨v_28, ev_28⟩ : ∃ z : Int32, z = i_2 + 1 := ⟨_, rfl⟩
          have hw := hw v_28 ev_28
          refine lv_iinc (v := v_28) (lv' := [(2, .int v_28), (1, .int i_2), (3, .ref (o + lix i_2)), (0, .ref o)]) hx hb dX0_firstWaitingLine_47 hl (k := 3) rfl (by rw [ev_28]; rfl) (by decide) rfl (fun ls hl => ?_)
          refine lv_goto (tgt := 5) hx hb dX0_firstWaitingLine_50 (by decide) ?_
          exact ih_5 (i_2, v_28) _ _ _ hw hW hS (lv_sub hl [3, 1, 0] rfl)
set_option maxHeartbeats 4000000 in
set_option maxRecDepth 100000 in
theorem c_X0_allotFinder {l : Launch} {g : GG} {lay : LY} {E0 : ES} {o : Nat} {X : ES} {K : ES → Prop} (hA : okL g lay) (HB : XL g lay o) (hX : ∀ k, k < 26 → E0 (o + k) = X k) (hw : wp_X0_allotFinder X K) : JMv l g lay yX0_allotFinder wsX0_allotFinder rmX0_allotFinder [.ref o] E0 (fun E1 => ∃ X1 : ES, E1 = put 26 o X1 E0 ∧ K X1) := by
  refine Met.ofW (cc := cX0_allotFinder) (maxL := 4) (ret := none) (by decide) rfl ?_
  intro p e s m args below meth c s₁ B hml hv
  obtain ⟨rfl, hK, hW⟩ := hv
  have hx := B.exec
  have hb := B.bytes
  have hr := B.returns
  have hts := gd_of (atoms_spec (ws := wsX0_allotFinder) B.pre)
  have hown : s.vm.findClass RX0 = some m.cls := findClass_of_methodNamed B.named
  have hlocks := B.notSynchronized
  have hS : va_S (Ab g) s.heap s.heap [] := va_S.rf
  have hW : Wd g lay (put 26 o X E0) s.heap := by rw [putSelf hX]; exact hW
  have hl := lv_entry [.ref o] (n := 4) (Nat.le_of_ble_eq_true rfl)
  rw [lg_entry_eq]
  generalize (lg_sl [.ref o] ++ List.replicate (4 - (lg_sl [.ref o]).length) Slot.unset).toArray = ls at hl ⊢
  have hl : lv_has ls 4 [(0, .ref o)] := hl
  unfold wp_X0_allotFinder at hw
  refine lv_aload_n hx hb dX0_allotFinder_0 rfl (lv_at hl 0 rfl) ?_
  refine w_cvi (As := []) (rest := []) hx hb hml hown hts hK hW hS hl.1 (c_X0_nextFreeFinder hA HB (fun k hk => putAt hk)  hw) (k_X0_220 hts ⟨Nat.le_of_ble_eq_true rfl, Nat.le_of_ble_eq_true rfl⟩) (w_recv hK hW HB.1 (putAt (k := 0) (by decide)) rfl rfl) rfl rfl (Nat.le_of_ble_eq_true rfl) dX0_allotFinder_1 ⟨Nat.zero_le _, Nat.zero_le _⟩ (fun r_1 Ez H locs hw2 hW hS => ?_)
  obtain ⟨ez, hw⟩ := hw2
  rw [ez] at hW
  refine lv_istore_n (lv' := [(1, .int r_1), (0, .ref o)]) hx hb dX0_allotFinder_4 rfl hl (by decide) rfl (fun ls hl => ?_)
  refine lv_iload_n hx hb dX0_allotFinder_5 rfl (lv_at hl 0 rfl) ?_
  refine lv_bipush (v := (-6)) hx hb dX0_allotFinder_6 (by decide) ?_
  refine lv_icmp_ne (tgt := 12) hx hb dX0_allotFinder_8 (by decide) (fun c_2 => ?_) (fun c_2 => ?_)
  · have hw := hw.2 c_2
    refine lv_aload_n hx hb dX0_allotFinder_12 rfl (lv_at hl 1 rfl) ?_
    refine w_cvi (As := []) (rest := []) hx hb hml hown hts hK hW hS hl.1 (c_X0_firstWaitingLine hA HB (fun k hk => putAt hk)  hw) (k_X0_223 hts ⟨Nat.le_of_ble_eq_true rfl, Nat.le_of_ble_eq_true rfl⟩) (w_recv hK hW HB.1 (putAt (k := 0) (by decide)) rfl rfl) rfl rfl (Nat.le_of_ble_eq_true rfl) dX0_allotFinder_13 ⟨Nat.zero_le _, Nat.zero_le _⟩ (fun r_3 Ez H locs hw2 hW hS => ?_)
    obtain ⟨ez, hw⟩ := hw2
    rw [ez] at hW
    refine lv_istore_n (lv' := [(2, .int r_3), (1, .int r_1), (0, .ref o)]) hx hb dX0_allotFinder_16 rfl hl (by decide) rfl (fun ls hl => ?_)
    refine lv_iload_n hx hb dX0_allotFinder_17 rfl (lv_at hl 0 rfl) ?_
    refine lv_bipush (v := (-6)) hx hb dX0_allotFinder_18 (by decide) ?_
    refine lv_icmp_ne (tgt := 24) hx hb dX0_allotFinder_20 (by decide) (fun c_4 => ?_) (fun c_4 => ?_)
    · have hw := hw.2 c_4
      refine lv_aload_n hx hb dX0_allotFinder_24 rfl (lv_at hl 2 rfl) ?_
      refine lv_iload_n hx hb dX0_allotFinder_25 rfl (lv_at hl 1 rfl) ?_
      refine w_cvr (As := [.int r_1]) (rest := []) hx hb hml hown hts hK hW hS hl.1 (c_X0_finderAt hA HB r_1) (k_X0_90 hts ⟨Nat.le_of_ble_eq_true rfl, Nat.le_of_ble_eq_true rfl⟩) (w_recv hK hW HB.1 (putAt (k := 0) (by decide)) rfl rfl) rfl rfl (Nat.le_of_ble_eq_true rfl) dX0_allotFinder_26 ⟨Nat.zero_le _, Nat.zero_le _⟩ (fun q_5 Ez H locs hw2 hW hS => ?_)
      obtain ⟨ez, rfl⟩ := hw2
      rw [ez] at hW
      refine lv_astore_n (lv' := [(3, .ref (o + fix r_1)), (2, .int r_3), (1, .int r_1), (0, .ref o)]) hx hb dX0_allotFinder_29 rfl hl (by decide) rfl (fun ls hl => ?_)
      refine lv_aload_n hx hb dX0_allotFinder_30 rfl (lv_at hl 0 rfl) ?_
      refine lv_iconst (v := 1) hx hb dX0_allotFinder_31 (by decide) ?_
      refine w_cvv (As := [.int 1]) (rest := []) hx hb hml hown hts hK hW hS hl.1 (c_X1_become hA (HB.2.2.2.2.2 _ (isFi_fix r_1)) (putAt (k := fix r_1) (isFi_lt (isFi_fix r_1))) hw) (k_X0_184 hts ⟨Nat.le_of_ble_eq_true rfl, Nat.le_of_ble_eq_true rfl⟩) (w_recv hK hW (HB.2.2.2.2.2 _ (isFi_fix r_1)) (putAt (k := fix r_1) (isFi_lt (isFi_fix r_1))) rfl rfl) rfl rfl (Nat.le_of_ble_eq_true rfl) dX0_allotFinder_32 ⟨Nat.zero_le _, Nat.zero_le _⟩ (fun Ez H locs hw2 hW hS => ?_)
      obtain ⟨Y_6, ez, hw⟩ := hw2
      rw [ez] at hW
      obtain ⟨X_7, eX_7⟩ : ∃ z : ES, z = va_up X (fix r_1) Y_6 := ⟨_, rfl⟩
      have hw := hw X_7 eX_7
      have hW : Wd g lay (put 26 o X_7 E0) H := by rw [eX_7, ← putUp (k := fix r_1) (isFi_lt (isFi_fix r_1))]; exact hW
      refine lv_aload_n hx hb dX0_allotFinder_35 rfl (lv_at hl 0 rfl) ?_
      refine lv_iload_n hx hb dX0_allotFinder_36 rfl (lv_at hl 1 rfl) ?_
      obtain ⟨X_8, eX_8⟩ : ∃ z : ES, z = va_up X_7 (fix r_1) (upd (X_7 (fix r_1)) 2 r_3) := ⟨_, rfl⟩
      have hw := hw X_8 eX_8
      refine p_X0_151 (E1 := put 26 o X_8 E0) hx hb hown hts hK hA hW hS (HB.2.2.2.2.2 _ (isFi_fix r_1)) (putAt (k := fix r_1) (isFi_lt (isFi_fix r_1))) dX0_allotFinder_37 (puE (k := fix r_1) (isFi_lt (isFi_fix r_1)) eX_8) (fun H locs hW hS => ?_)
      refine lv_aload_n hx hb dX0_allotFinder_40 rfl (lv_at hl 3 rfl) ?_
      refine lv_iload_n hx hb dX0_allotFinder_41 rfl (lv_at hl 1 rfl) ?_
      refine w_cvr (As := [.int r_3]) (rest := []) hx hb hml hown hts hK hW hS hl.1 (c_X0_lineAt hA HB r_3) (k_X0_83 hts ⟨Nat.le_of_ble_eq_true rfl, Nat.le_of_ble_eq_true rfl⟩) (w_recv hK hW HB.1 (putAt (k := 0) (by decide)) rfl rfl) rfl rfl (Nat.le_of_ble_eq_true rfl) dX0_allotFinder_42 ⟨Nat.zero_le _, Nat.zero_le _⟩ (fun q_9 Ez H locs hw2 hW hS => ?_)
      obtain ⟨ez, rfl⟩ := hw2
      rw [ez] at hW
      refine lv_iload_n hx hb dX0_allotFinder_45 rfl (lv_at hl 2 rfl) ?_
      obtain ⟨X_10, eX_10⟩ : ∃ z : ES, z = va_up X_8 (lix r_3) (upd (X_8 (lix r_3)) 6 r_1) := ⟨_, rfl⟩
      have hw := hw X_10 eX_10
      refine p_X0_119 (E1 := put 26 o X_10 E0) hx hb hown hts hK hA hW hS (HB.2.2.2.2.1 _ (isLi_lix r_3)) (putAt (k := lix r_3) (isLi_lt (isLi_lix r_3))) dX0_allotFinder_46 (puE (k := lix r_3) (isLi_lt (isLi_lix r_3)) eX_10) (fun H locs hW hS => ?_)
      refine lv_aload_n hx hb dX0_allotFinder_49 rfl (lv_at hl 3 rfl) ?_
      refine lv_iload_n hx hb dX0_allotFinder_50 rfl (lv_at hl 2 rfl) ?_
      obtain ⟨X_11, eX_11⟩ : ∃ z : ES, z = va_up X_10 0 (upd (X_10 0) 8 r_1) := ⟨_, rfl⟩
      have hw := hw X_11 eX_11
      refine p_X0_55 (E1 := put 26 o X_11 E0) hx hb hown hts hK hA hW hS HB.1 (putAt (k := 0) (by decide)) dX0_allotFinder_51 (puE (k := 0) (by decide) eX_11) (fun H locs hW hS => ?_)
      exact w_vret hx hb hr hlocks hW hS ⟨X_11, rfl, hw⟩ dX0_allotFinder_54
    · have hw := hw.1 c_4
      exact w_vret hx hb hr hlocks hW hS ⟨X, rfl, hw⟩ dX0_allotFinder_23
  · have hw := hw.1 c_2
    exact w_vret hx hb hr hlocks hW hS ⟨X, rfl, hw⟩ dX0_allotFinder_11
set_option maxHeartbeats 4000000 in
set_option maxRecDepth 100000 in
theorem c_X0_countParked {l : Launch} {g : GG} {lay : LY} {E0 : ES} {o : Nat} {X : ES} {K : ES → Prop} (hA : okL g lay) (HB : XL g lay o) (hX : ∀ k, k < 26 → E0 (o + k) = X k) (hw : wp_X0_countParked X K) : JMv l g lay yX0_countParked wsX0_countParked rmX0_countParked [.ref o] E0 (fun E1 => ∃ X1 : ES, E1 = put 26 o X1 E0 ∧ K X1) := by
  refine Met.ofW (cc := cX0_countParked) (maxL := 3) (ret := none) (by decide) rfl ?_
  intro p e s m args below meth c s₁ B hml hv
  obtain ⟨rfl, hK, hW⟩ := hv
  have hx := B.exec
  have hb := B.bytes
  have hr := B.returns
  have hts := gd_of (atoms_spec (ws := wsX0_countParked) B.pre)
  have hown : s.vm.findClass RX0 = some m.cls := findClass_of_methodNamed B.named
  have hlocks := B.notSynchronized
  have hS : va_S (Ab g) s.heap s.heap [] := va_S.rf
  have hW : Wd g lay (put 26 o X E0) s.heap := by rw [putSelf hX]; exact hW
  have hl := lv_entry [.ref o] (n := 3) (Nat.le_of_ble_eq_true rfl)
  rw [lg_entry_eq]
  generalize (lg_sl [.ref o] ++ List.replicate (3 - (lg_sl [.ref o]).length) Slot.unset).toArray = ls at hl ⊢
  have hl : lv_has ls 3 [(0, .ref o)] := hl
  unfold wp_X0_countParked at hw
  refine lv_aload_n hx hb dX0_countParked_0 rfl (lv_at hl 0 rfl) ?_
  refine lv_iconst (v := 4) hx hb dX0_countParked_1 (by decide) ?_
  refine w_cvi (As := [.int 4]) (rest := []) hx hb hml hown hts hK hW hS hl.1 (c_X0_settingAt hA HB (fun k hk => putAt hk)  hw) (k_X0_79 hts ⟨Nat.le_of_ble_eq_true rfl, Nat.le_of_ble_eq_true rfl⟩) (w_recv hK hW HB.1 (putAt (k := 0) (by decide)) rfl rfl) rfl rfl (Nat.le_of_ble_eq_true rfl) dX0_countParked_2 ⟨Nat.zero_le _, Nat.zero_le _⟩ (fun r_1 Ez H locs hw2 hW hS => ?_)
  obtain ⟨ez, hw⟩ := hw2
  rw [ez] at hW
  refine lv_istore_n (lv' := [(1, .int r_1), (0, .ref o)]) hx hb dX0_countParked_5 rfl hl (by decide) rfl (fun ls hl => ?_)
  refine lv_iconst (v := 0) hx hb dX0_countParked_6 (by decide) ?_
  refine lv_istore_n (lv' := [(2, .int 0), (1, .int r_1), (0, .ref o)]) hx hb dX0_countParked_7 rfl hl (by decide) rfl (fun ls hl => ?_)
  obtain ⟨n_17, hw⟩ := hw
  refine w_loop (KT := Int32 → ES → Prop) (σ := Int32 × ES) (Wl := fun Kx_8 n_8 q => wpl_X0_countParked_8 r_1 K Kx_8 n_8 q.1 q.2) (Pw := fun q => Wd g lay (put 26 o q.2 E0)) (lvf := fun q => [(0, .ref o), (1, .int r_1), (2, .int q.1)]) (nL := 3) n_17 (0, X) hw hW hS (lv_sub hl [2, 1, 0] rfl) (fun _ h => h) (fun Kx_8 eK_8 n_8 q H locs ls hw hW hS hl ih_8 => ?_)
  obtain ⟨i_2, X_3⟩ := q
  try dsimp only at hw
  rw [wpl_X0_countParked_8] at hw
  have hl : lv_has ls 3 [(0, .ref o), (1, .int r_1), (2, .int i_2)] := hl
  have hW : Wd g lay (put 26 o X_3 E0) H := hW
  refine lv_iload_n hx hb dX0_countParked_8 rfl (lv_at hl 2 rfl) ?_
  refine lv_bipush (v := 16) hx hb dX0_countParked_9 (by decide) ?_
  refine lv_icmp_ge (tgt := 29) hx hb dX0_countParked_11 (by decide) (fun c_12 => ?_) (fun c_12 => ?_)
  · have hw := hw.1 c_12
    rw [eK_8] at hw
    exact w_vret hx hb hr hlocks hW hS ⟨X_3, rfl, hw⟩ dX0_countParked_29
  · have hw := hw.2 c_12
    refine lv_aload_n hx hb dX0_countParked_14 rfl (lv_at hl 0 rfl) ?_
    refine lv_iload_n hx hb dX0_countParked_15 rfl (lv_at hl 2 rfl) ?_
    refine w_cvr (As := [.int i_2]) (rest := []) hx hb hml hown hts hK hW hS hl.1 (c_X0_lineAt hA HB i_2) (k_X0_83 hts ⟨Nat.le_of_ble_eq_true rfl, Nat.le_of_ble_eq_true rfl⟩) (w_recv hK hW HB.1 (putAt (k := 0) (by decide)) rfl rfl) rfl rfl (Nat.le_of_ble_eq_true rfl) dX0_countParked_16 ⟨Nat.zero_le _, Nat.zero_le _⟩ (fun q_13 Ez H locs hw2 hW hS => ?_)
    obtain ⟨ez, rfl⟩ := hw2
    rw [ez] at hW
    refine lv_iload_n hx hb dX0_countParked_19 rfl (lv_at hl 1 rfl) ?_
    refine w_cvv (As := [.int r_1]) (rest := []) hx hb hml hown hts hK hW hS hl.1 (c_X2_waitParked hA (HB.2.2.2.2.1 _ (isLi_lix i_2)) (putAt (k := lix i_2) (isLi_lt (isLi_lix i_2))) hw) (k_X0_226 hts ⟨Nat.le_of_ble_eq_true rfl, Nat.le_of_ble_eq_true rfl⟩) (w_recv hK hW (HB.2.2.2.2.1 _ (isLi_lix i_2)) (putAt (k := lix i_2) (isLi_lt (isLi_lix i_2))) rfl rfl) rfl rfl (Nat.le_of_ble_eq_true rfl) dX0_countParked_20 ⟨Nat.zero_le _, Nat.zero_le _⟩ (fun Ez H locs hw2 hW hS => ?_)
    obtain ⟨Y_14, ez, hw⟩ := hw2
    rw [ez] at hW
    obtain ⟨X_15, eX_15⟩ : ∃ z : ES, z = va_up X_3 (lix i_2) Y_14 := ⟨_, rfl⟩
    have hw := hw X_15 eX_15
    have hW : Wd g lay (put 26 o X_15 E0) H := by rw [eX_15, ← putUp (k := lix i_2) (isLi_lt (isLi_lix i_2))]; exact hW
    obtain ⟨v_16, ev_16⟩ : ∃ z : Int32, z = i_2 + 1 := ⟨_, rfl⟩
    have hw := hw v_16 ev_16
    refine lv_iinc (v := v_16) (lv' := [(2, .int v_16), (0, .ref o), (1, .int r_1)]) hx hb dX0_countParked_23 hl (k := 2) rfl (by rw [ev_16]; rfl) (by decide) rfl (fun ls hl => ?_)
    refine lv_goto (tgt := 8) hx hb dX0_countParked_26 (by decide) ?_
    exact ih_8 (v_16, X_15) _ _ _ hw hW hS (lv_sub hl [1, 2, 0] rfl)
set_option maxHeartbeats 4000000 in
set_option maxRecDepth 100000 in
theorem c_X0_pass {l : Launch} {g : GG} {lay : LY} {E0 : ES} {o : Nat} {X : ES} {p1 : Int32} {K : ES → Prop} (hA : okL g lay) (HB : XL g lay o) (hX : ∀ k, k < 26 → E0 (o + k) = X k) (hw : wp_X0_pass X p1 K) : JMv l g lay yX0_pass wsX0_pass rmX0_pass [.ref o, .int p1] E0 (fun E1 => ∃ X1 : ES, E1 = put 26 o X1 E0 ∧ K X1) := by
  refine Met.ofW (cc := cX0_pass) (maxL := 4) (ret := none) (by decide) rfl ?_
  intro p e s m args below meth c s₁ B hml hv
  obtain ⟨rfl, hK, hW⟩ := hv
  have hx := B.exec
  have hb := B.bytes
  have hr := B.returns
  have hts := gd_of (atoms_spec (ws := wsX0_pass) B.pre)
  have hown : s.vm.findClass RX0 = some m.cls := findClass_of_methodNamed B.named
  have hlocks := B.notSynchronized
  have hS : va_S (Ab g) s.heap s.heap [] := va_S.rf
  have hW : Wd g lay (put 26 o X E0) s.heap := by rw [putSelf hX]; exact hW
  have hl := lv_entry [.ref o, .int p1] (n := 4) (Nat.le_of_ble_eq_true rfl)
  rw [lg_entry_eq]
  generalize (lg_sl [.ref o, .int p1] ++ List.replicate (4 - (lg_sl [.ref o, .int p1]).length) Slot.unset).toArray = ls at hl ⊢
  have hl : lv_has ls 4 [(0, .ref o), (1, .int p1)] := hl
  unfold wp_X0_pass at hw
  refine lv_iconst (v := 0) hx hb dX0_pass_0 (by decide) ?_
  refine lv_istore_n (lv' := [(2, .int 0), (0, .ref o), (1, .int p1)]) hx hb dX0_pass_1 rfl hl (by decide) rfl (fun ls hl => ?_)
  obtain ⟨n_62, hw⟩ := hw
  refine w_loop (KT := Int32 → ES → Prop) (σ := Int32 × ES) (Wl := fun Kx_2 n_2 q => wpl_X0_pass_2 p1 K Kx_2 n_2 q.1 q.2) (Pw := fun q => Wd g lay (put 26 o q.2 E0)) (lvf := fun q => [(0, .ref o), (1, .int p1), (2, .int q.1)]) (nL := 4) n_62 (0, X) hw hW hS (lv_sub hl [1, 2, 0] rfl) (fun _ h => h) (fun Kx_2 eK_2 n_2 q H locs ls hw hW hS hl ih_2 => ?_)
  obtain ⟨i_1, X_2⟩ := q
  try dsimp only at hw
  rw [wpl_X0_pass_2] at hw
  have hl : lv_has ls 4 [(0, .ref o), (1, .int p1), (2, .int i_1)] := hl
  have hW : Wd g lay (put 26 o X_2 E0) H := hW
  refine lv_iload_n hx hb dX0_pass_2 rfl (lv_at hl 2 rfl) ?_
  refine lv_iload_n hx hb dX0_pass_3 rfl (lv_at hl 1 rfl) ?_
  refine lv_icmp_ge (tgt := 56) hx hb dX0_pass_4 (by decide) (fun c_34 => ?_) (fun c_34 => ?_)
  · have hw := hw.1 c_34
    rw [eK_2] at hw
    exact w_vret hx hb hr hlocks hW hS ⟨X_2, rfl, hw⟩ dX0_pass_56
  · have hw := hw.2 c_34
    refine lv_iconst (v := 0) hx hb dX0_pass_7 (by decide) ?_
    refine lv_istore_n (lv' := [(3, .int 0), (0, .ref o), (1, .int p1), (2, .int i_1)]) hx hb dX0_pass_8 rfl hl (by decide) rfl (fun ls hl => ?_)
    obtain ⟨n_61, hw⟩ := hw
    refine w_loop (KT := Int32 → ES → Prop) (σ := Int32 × ES) (Wl := fun Kx_9 n_9 q => wpl_X0_pass_9 K Kx_9 n_9 q.1 q.2) (Pw := fun q => Wd g lay (put 26 o q.2 E0)) (lvf := fun q => [(0, .ref o), (1, .int p1), (2, .int i_1), (3, .int q.1)]) (nL := 4) n_61 (0, X_2) hw hW hS (lv_sub hl [1, 2, 3, 0] rfl) (fun _ h => h) (fun Kx_9 eK_9 n_9 q H locs ls hw hW hS hl ih_9 => ?_)
    obtain ⟨i_35, X_36⟩ := q
    try dsimp only at hw
    rw [wpl_X0_pass_9] at hw
    have hl : lv_has ls 4 [(0, .ref o), (1, .int p1), (2, .int i_1), (3, .int i_35)] := hl
    have hW : Wd g lay (put 26 o X_36 E0) H := hW
    refine lv_iload_n hx hb dX0_pass_9 rfl (lv_at hl 3 rfl) ?_
    refine lv_aload_n hx hb dX0_pass_10 rfl (lv_at hl 0 rfl) ?_
    refine g_X0_45 hx hb hown hts hK hW HB.1 (putAt (k := 0) (by decide)) dX0_pass_11 ?_
    refine lv_icmp_ge (tgt := 32) hx hb dX0_pass_14 (by decide) (fun c_53 => ?_) (fun c_53 => ?_)
    · have hw := hw.1 c_53
      rw [eK_9] at hw
      refine lv_aload_n hx hb dX0_pass_32 rfl (lv_at hl 0 rfl) ?_
      refine w_cvv (As := []) (rest := []) hx hb hml hown hts hK hW hS hl.1 (c_X0_allotFinder hA HB (fun k hk => putAt hk)  hw) (k_X0_145 hts ⟨Nat.le_of_ble_eq_true rfl, Nat.le_of_ble_eq_true rfl⟩) (w_recv hK hW HB.1 (putAt (k := 0) (by decide)) rfl rfl) rfl rfl (Nat.le_of_ble_eq_true rfl) dX0_pass_33 ⟨Nat.zero_le _, Nat.zero_le _⟩ (fun Ez H locs hw2 hW hS => ?_)
      obtain ⟨X_54, ez, hw⟩ := hw2
      rw [ez, putPut] at hW
      refine lv_aload_n hx hb dX0_pass_36 rfl (lv_at hl 0 rfl) ?_
      refine w_cvv (As := []) (rest := []) hx hb hml hown hts hK hW hS hl.1 (c_X0_countParked hA HB (fun k hk => putAt hk)  hw) (k_X0_148 hts ⟨Nat.le_of_ble_eq_true rfl, Nat.le_of_ble_eq_true rfl⟩) (w_recv hK hW HB.1 (putAt (k := 0) (by decide)) rfl rfl) rfl rfl (Nat.le_of_ble_eq_true rfl) dX0_pass_37 ⟨Nat.zero_le _, Nat.zero_le _⟩ (fun Ez H locs hw2 hW hS => ?_)
      obtain ⟨X_55, ez, hw⟩ := hw2
      rw [ez, putPut] at hW
      refine lv_aload_n hx hb dX0_pass_40 rfl (lv_at hl 0 rfl) ?_
      refine lv_dup hx hb dX0_pass_41 rfl ?_
      refine g_X0_52 hx hb hown hts hK hW HB.1 (putAt (k := 0) (by decide)) dX0_pass_42 ?_
      refine lv_iconst (v := 1) hx hb dX0_pass_45 (by decide) ?_
      refine lv_iadd hx hb dX0_pass_46 ?_
      obtain ⟨X_56, eX_56⟩ : ∃ z : ES, z = va_up X_55 0 (upd (X_55 0) 7 (((X_55 0) 7) + 1)) := ⟨_, rfl⟩
      have hw := hw X_56 eX_56
      refine p_X0_52 (E1 := put 26 o X_56 E0) hx hb hown hts hK hA hW hS HB.1 (putAt (k := 0) (by decide)) dX0_pass_47 (puE (k := 0) (by decide) eX_56) (fun H locs hW hS => ?_)
      obtain ⟨v_57, ev_57⟩ : ∃ z : Int32, z = i_1 + 1 := ⟨_, rfl⟩
      have hw := hw v_57 ev_57
      refine lv_iinc (v := v_57) (lv' := [(2, .int v_57), (0, .ref o), (1, .int p1), (3, .int i_35)]) hx hb dX0_pass_50 hl (k := 2) rfl (by rw [ev_57]; rfl) (by decide) rfl (fun ls hl => ?_)
      refine lv_goto (tgt := 2) hx hb dX0_pass_53 (by decide) ?_
      exact ih_2 (v_57, X_56) _ _ _ hw hW hS (lv_sub hl [1, 2, 0] rfl)
    · have hw := hw.2 c_53
      refine lv_aload_n hx hb dX0_pass_17 rfl (lv_at hl 0 rfl) ?_
      refine lv_aload_n hx hb dX0_pass_18 rfl (lv_at hl 0 rfl) ?_
      refine lv_iload_n hx hb dX0_pass_19 rfl (lv_at hl 3 rfl) ?_
      refine w_cvr (As := [.int i_35]) (rest := [.ref o]) hx hb hml hown hts hK hW hS hl.1 (c_X0_finderAt hA HB i_35) (k_X0_90 hts ⟨Nat.le_of_ble_eq_true rfl, Nat.le_of_ble_eq_true rfl⟩) (w_recv hK hW HB.1 (putAt (k := 0) (by decide)) rfl rfl) rfl rfl (Nat.le_of_ble_eq_true rfl) dX0_pass_20 ⟨Nat.zero_le _, Nat.zero_le _⟩ (fun q_58 Ez H locs hw2 hW hS => ?_)
      obtain ⟨ez, rfl⟩ := hw2
      rw [ez] at hW
      refine w_cvv (As := [.ref (o + fix i_35)]) (rest := []) hx hb hml hown hts hK hW hS hl.1 (c_X0_takeStep hA HB (fun k hk => putAt hk) (isFi_fix i_35) hw) (k_X0_142 hts ⟨Nat.le_of_ble_eq_true rfl, Nat.le_of_ble_eq_true rfl⟩) (w_recv hK hW HB.1 (putAt (k := 0) (by decide)) rfl rfl) rfl rfl (Nat.le_of_ble_eq_true rfl) dX0_pass_23 ⟨Nat.zero_le _, Nat.zero_le _⟩ (fun Ez H locs hw2 hW hS => ?_)
      obtain ⟨X_59, ez, hw⟩ := hw2
      rw [ez, putPut] at hW
      obtain ⟨v_60, ev_60⟩ : ∃ z : Int32, z = i_35 + 1 := ⟨_, rfl⟩
      have hw := hw v_60 ev_60
      refine lv_iinc (v := v_60) (lv' := [(3, .int v_60), (0, .ref o), (1, .int p1), (2, .int i_1)]) hx hb dX0_pass_26 hl (k := 3) rfl (by rw [ev_60]; rfl) (by decide) rfl (fun ls hl => ?_)
      refine lv_goto (tgt := 9) hx hb dX0_pass_29 (by decide) ?_
      exact ih_9 (v_60, X_59) _ _ _ hw hW hS (lv_sub hl [1, 2, 3, 0] rfl)
set_option maxHeartbeats 4000000 in
set_option maxRecDepth 100000 in
theorem c_X0_ticksUntil {l : Launch} {g : GG} {lay : LY} {E0 : ES} {o : Nat} {X : ES} {p1 : Int32} {p2 : Int32} {p3 : Int32} {K : Int32 → ES → Prop} (hA : okL g lay) (HB : XL g lay o) (hX : ∀ k, k < 26 → E0 (o + k) = X k) (hw : wp_X0_ticksUntil X p1 p2 p3 K) : JMi l g lay yX0_ticksUntil wsX0_ticksUntil rmX0_ticksUntil [.ref o, .int p1, .int p2, .int p3] E0 (fun r E1 => ∃ X1 : ES, E1 = put 26 o X1 E0 ∧ K r X1) := by
  refine Met.ofW (cc := cX0_ticksUntil) (maxL := 5) (ret := (some .int)) (by decide) rfl ?_
  intro p e s m args below meth c s₁ B hml hv
  obtain ⟨rfl, hK, hW⟩ := hv
  have hx := B.exec
  have hb := B.bytes
  have hr := B.returns
  have hts := gd_of (atoms_spec (ws := wsX0_ticksUntil) B.pre)
  have hown : s.vm.findClass RX0 = some m.cls := findClass_of_methodNamed B.named
  have hlocks := B.notSynchronized
  have hS : va_S (Ab g) s.heap s.heap [] := va_S.rf
  have hW : Wd g lay (put 26 o X E0) s.heap := by rw [putSelf hX]; exact hW
  have hl := lv_entry [.ref o, .int p1, .int p2, .int p3] (n := 5) (Nat.le_of_ble_eq_true rfl)
  rw [lg_entry_eq]
  generalize (lg_sl [.ref o, .int p1, .int p2, .int p3] ++ List.replicate (5 - (lg_sl [.ref o, .int p1, .int p2, .int p3]).length) Slot.unset).toArray = ls at hl ⊢
  have hl : lv_has ls 5 [(0, .ref o), (1, .int p1), (2, .int p2), (3, .int p3)] := hl
  unfold wp_X0_ticksUntil at hw
  refine lv_iconst (v := 0) hx hb dX0_ticksUntil_0 (by decide) ?_
  refine lv_istore (lv' := [(4, .int 0), (0, .ref o), (1, .int p1), (2, .int p2), (3, .int p3)]) hx hb dX0_ticksUntil_1 hl (by decide) rfl (fun ls hl => ?_)
  obtain ⟨n_24, hw⟩ := hw
  refine w_loop (KT := Int32 → ES → Prop) (σ := Int32 × ES) (Wl := fun Kx_3 n_3 q => wpl_X0_ticksUntil_3 p1 p2 p3 K Kx_3 n_3 q.1 q.2) (Pw := fun q => Wd g lay (put 26 o q.2 E0)) (lvf := fun q => [(0, .ref o), (1, .int p1), (2, .int p2), (3, .int p3), (4, .int q.1)]) (nL := 5) n_24 (0, X) hw hW hS (lv_sub hl [1, 2, 3, 4, 0] rfl) (fun _ h => h) (fun Kx_3 eK_3 n_3 q H locs ls hw hW hS hl ih_3 => ?_)
  obtain ⟨i_1, X_2⟩ := q
  try dsimp only at hw
  rw [wpl_X0_ticksUntil_3] at hw
  have hl : lv_has ls 5 [(0, .ref o), (1, .int p1), (2, .int p2), (3, .int p3), (4, .int i_1)] := hl
  have hW : Wd g lay (put 26 o X_2 E0) H := hW
  refine lv_iload hx hb dX0_ticksUntil_3 (lv_at hl 4 rfl) ?_
  refine lv_iload_n hx hb dX0_ticksUntil_5 rfl (lv_at hl 3 rfl) ?_
  refine lv_icmp_ge (tgt := 35) hx hb dX0_ticksUntil_6 (by decide) (fun c_17 => ?_) (fun c_17 => ?_)
  · have hw := hw.1 c_17
    rw [eK_3] at hw
    refine lv_aload_n hx hb dX0_ticksUntil_35 rfl (lv_at hl 0 rfl) ?_
    refine lv_iload_n hx hb dX0_ticksUntil_36 rfl (lv_at hl 1 rfl) ?_
    refine w_cvr (As := [.int p1]) (rest := []) hx hb hml hown hts hK hW hS hl.1 (c_X0_lineAt hA HB p1) (k_X0_83 hts ⟨Nat.le_of_ble_eq_true rfl, Nat.le_of_ble_eq_true rfl⟩) (w_recv hK hW HB.1 (putAt (k := 0) (by decide)) rfl rfl) rfl rfl (Nat.le_of_ble_eq_true rfl) dX0_ticksUntil_37 ⟨Nat.zero_le _, Nat.zero_le _⟩ (fun q_18 Ez H locs hw2 hW hS => ?_)
    obtain ⟨ez, rfl⟩ := hw2
    rw [ez] at hW
    refine g_X0_106 hx hb hown hts hK hW (HB.2.2.2.2.1 _ (isLi_lix p1)) (putAt (k := lix p1) (isLi_lt (isLi_lix p1))) dX0_ticksUntil_40 ?_
    refine lv_iload_n hx hb dX0_ticksUntil_43 rfl (lv_at hl 2 rfl) ?_
    refine lv_icmp_ne (tgt := 51) hx hb dX0_ticksUntil_44 (by decide) (fun c_19 => ?_) (fun c_19 => ?_)
    · have hw := hw.2 c_19
      refine lv_bipush (v := (-6)) hx hb dX0_ticksUntil_51 (by decide) ?_
      exact w_iret hx hb hr hlocks hW hS ⟨X_2, rfl, hw⟩ dX0_ticksUntil_53
    · have hw := hw.1 c_19
      refine lv_iload_n hx hb dX0_ticksUntil_47 rfl (lv_at hl 3 rfl) ?_
      refine lv_goto (tgt := 53) hx hb dX0_ticksUntil_48 (by decide) ?_
      exact w_iret hx hb hr hlocks hW hS ⟨X_2, rfl, hw⟩ dX0_ticksUntil_53
  · have hw := hw.2 c_17
    refine lv_aload_n hx hb dX0_ticksUntil_9 rfl (lv_at hl 0 rfl) ?_
    refine lv_iload_n hx hb dX0_ticksUntil_10 rfl (lv_at hl 1 rfl) ?_
    refine w_cvr (As := [.int p1]) (rest := []) hx hb hml hown hts hK hW hS hl.1 (c_X0_lineAt hA HB p1) (k_X0_83 hts ⟨Nat.le_of_ble_eq_true rfl, Nat.le_of_ble_eq_true rfl⟩) (w_recv hK hW HB.1 (putAt (k := 0) (by decide)) rfl rfl) rfl rfl (Nat.le_of_ble_eq_true rfl) dX0_ticksUntil_11 ⟨Nat.zero_le _, Nat.zero_le _⟩ (fun q_20 Ez H locs hw2 hW hS => ?_)
    obtain ⟨ez, rfl⟩ := hw2
    rw [ez] at hW
    refine g_X0_106 hx hb hown hts hK hW (HB.2.2.2.2.1 _ (isLi_lix p1)) (putAt (k := lix p1) (isLi_lt (isLi_lix p1))) dX0_ticksUntil_14 ?_
    refine lv_iload_n hx hb dX0_ticksUntil_17 rfl (lv_at hl 2 rfl) ?_
    refine lv_icmp_ne (tgt := 24) hx hb dX0_ticksUntil_18 (by decide) (fun c_21 => ?_) (fun c_21 => ?_)
    · have hw := hw.2 c_21
      refine lv_aload_n hx hb dX0_ticksUntil_24 rfl (lv_at hl 0 rfl) ?_
      refine lv_iconst (v := 1) hx hb dX0_ticksUntil_25 (by decide) ?_
      refine w_cvv (As := [.int 1]) (rest := []) hx hb hml hown hts hK hW hS hl.1 (c_X0_pass hA HB (fun k hk => putAt hk)  hw) (k_X0_235 hts ⟨Nat.le_of_ble_eq_true rfl, Nat.le_of_ble_eq_true rfl⟩) (w_recv hK hW HB.1 (putAt (k := 0) (by decide)) rfl rfl) rfl rfl (Nat.le_of_ble_eq_true rfl) dX0_ticksUntil_26 ⟨Nat.zero_le _, Nat.zero_le _⟩ (fun Ez H locs hw2 hW hS => ?_)
      obtain ⟨X_22, ez, hw⟩ := hw2
      rw [ez, putPut] at hW
      obtain ⟨v_23, ev_23⟩ : ∃ z : Int32, z = i_1 + 1 := ⟨_, rfl⟩
      have hw := hw v_23 ev_23
      refine lv_iinc (v := v_23) (lv' := [(4, .int v_23), (0, .ref o), (1, .int p1), (2, .int p2), (3, .int p3)]) hx hb dX0_ticksUntil_29 hl (k := 4) rfl (by rw [ev_23]; rfl) (by decide) rfl (fun ls hl => ?_)
      refine lv_goto (tgt := 3) hx hb dX0_ticksUntil_32 (by decide) ?_
      exact ih_3 (v_23, X_22) _ _ _ hw hW hS (lv_sub hl [1, 2, 3, 4, 0] rfl)
    · have hw := hw.1 c_21
      refine lv_iload hx hb dX0_ticksUntil_21 (lv_at hl 4 rfl) ?_
      exact w_iret hx hb hr hlocks hW hS ⟨X_2, rfl, hw⟩ dX0_ticksUntil_23
set_option maxHeartbeats 4000000 in
set_option maxRecDepth 100000 in
theorem c_X0_partnerOf {l : Launch} {g : GG} {lay : LY} {E0 : ES} {o : Nat} {X : ES} {k1 : Nat} {K : Int32 → Prop} (hA : okL g lay) (HB : XL g lay o) (hX : ∀ k, k < 26 → E0 (o + k) = X k) (h1 : isLi k1) (hw : wp_X0_partnerOf X k1 K) : JMi l g lay yX0_partnerOf wsX0_partnerOf rmX0_partnerOf [.ref o, .ref (o + k1)] E0 (fun r E1 => E1 = E0 ∧ K r) := by
  refine Met.ofW (cc := cX0_partnerOf) (maxL := 3) (ret := (some .int)) (by decide) rfl ?_
  intro p e s m args below meth c s₁ B hml hv
  obtain ⟨rfl, hK, hW⟩ := hv
  have hx := B.exec
  have hb := B.bytes
  have hr := B.returns
  have hts := gd_of (atoms_spec (ws := wsX0_partnerOf) B.pre)
  have hown : s.vm.findClass RX0 = some m.cls := findClass_of_methodNamed B.named
  have hlocks := B.notSynchronized
  have hS : va_S (Ab g) s.heap s.heap [] := va_S.rf
  have hl := lv_entry [.ref o, .ref (o + k1)] (n := 3) (Nat.le_of_ble_eq_true rfl)
  rw [lg_entry_eq]
  generalize (lg_sl [.ref o, .ref (o + k1)] ++ List.replicate (3 - (lg_sl [.ref o, .ref (o + k1)]).length) Slot.unset).toArray = ls at hl ⊢
  have hl : lv_has ls 3 [(0, .ref o), (1, .ref (o + k1))] := hl
  unfold wp_X0_partnerOf at hw
  refine lv_aload_n hx hb dX0_partnerOf_0 rfl (lv_at hl 0 rfl) ?_
  refine lv_aload_n hx hb dX0_partnerOf_1 rfl (lv_at hl 1 rfl) ?_
  refine g_X0_119 hx hb hown hts hK hW (HB.2.2.2.2.1 _ h1) (hX k1 (isLi_lt h1)) dX0_partnerOf_2 ?_
  refine w_cvr (As := [.int ((X k1) 6)]) (rest := []) hx hb hml hown hts hK hW hS hl.1 (c_X0_finderAt hA HB ((X k1) 6)) (k_X0_90 hts ⟨Nat.le_of_ble_eq_true rfl, Nat.le_of_ble_eq_true rfl⟩) (w_recv hK hW HB.1 (hX 0 (by decide)) rfl rfl) rfl rfl (Nat.le_of_ble_eq_true rfl) dX0_partnerOf_5 ⟨Nat.zero_le _, Nat.zero_le _⟩ (fun q_1 Ez H locs hw2 hW hS => ?_)
  obtain ⟨ez, rfl⟩ := hw2
  rw [ez] at hW
  refine lv_astore_n (lv' := [(2, .ref (o + fix ((X k1) 6))), (0, .ref o), (1, .ref (o + k1))]) hx hb dX0_partnerOf_8 rfl hl (by decide) rfl (fun ls hl => ?_)
  refine lv_aload_n hx hb dX0_partnerOf_9 rfl (lv_at hl 2 rfl) ?_
  refine w_cvi (As := []) (rest := []) hx hb hml hown hts hK hW hS hl.1 (c_X2_callsAnother hA (HB.2.2.2.2.1 _ h1) (hX k1 (isLi_lt h1)) hw) (k_X0_258 hts ⟨Nat.le_of_ble_eq_true rfl, Nat.le_of_ble_eq_true rfl⟩) (w_recv hK hW (HB.2.2.2.2.1 _ h1) (hX k1 (isLi_lt h1)) rfl rfl) rfl rfl (Nat.le_of_ble_eq_true rfl) dX0_partnerOf_10 ⟨Nat.zero_le _, Nat.zero_le _⟩ (fun r_2 Ez H locs hw2 hW hS => ?_)
  obtain ⟨ez, z_3, hw⟩ := hw2
  rw [ez] at hW
  refine lv_if_eq (tgt := 21) hx hb dX0_partnerOf_13 (by decide) (fun c_4 => ?_) (fun c_4 => ?_)
  · have hw := hw.1 c_4
    refine lv_aload_n hx hb dX0_partnerOf_21 rfl (lv_at hl 2 rfl) ?_
    refine w_cvi (As := []) (rest := []) hx hb hml hown hts hK hW hS hl.1 (c_X2_isCalledByAnother hA (HB.2.2.2.2.1 _ h1) (hX k1 (isLi_lt h1)) hw) (k_X0_115 hts ⟨Nat.le_of_ble_eq_true rfl, Nat.le_of_ble_eq_true rfl⟩) (w_recv hK hW (HB.2.2.2.2.1 _ h1) (hX k1 (isLi_lt h1)) rfl rfl) rfl rfl (Nat.le_of_ble_eq_true rfl) dX0_partnerOf_22 ⟨Nat.zero_le _, Nat.zero_le _⟩ (fun r_5 Ez H locs hw2 hW hS => ?_)
    obtain ⟨ez, z_6, hw⟩ := hw2
    rw [ez] at hW
    refine lv_if_eq (tgt := 35) hx hb dX0_partnerOf_25 (by decide) (fun c_7 => ?_) (fun c_7 => ?_)
    · have hw := hw.1 c_7
      refine lv_bipush (v := (-6)) hx hb dX0_partnerOf_35 (by decide) ?_
      exact w_iret hx hb hr hlocks hW hS ⟨rfl, hw⟩ dX0_partnerOf_37
    · have hw := hw.2 c_7
      refine lv_aload_n hx hb dX0_partnerOf_28 rfl (lv_at hl 0 rfl) ?_
      refine g_X0_151 hx hb hown hts hK hW (HB.2.2.2.2.2 _ (isFi_fix ((X k1) 6))) (hX (fix ((X k1) 6)) (isFi_lt (isFi_fix ((X k1) 6)))) dX0_partnerOf_29 ?_
      refine lv_goto (tgt := 37) hx hb dX0_partnerOf_32 (by decide) ?_
      exact w_iret hx hb hr hlocks hW hS ⟨rfl, hw⟩ dX0_partnerOf_37
  · have hw := hw.2 c_4
    refine lv_aload_n hx hb dX0_partnerOf_16 rfl (lv_at hl 0 rfl) ?_
    refine g_X0_129 hx hb hown hts hK hW (HB.2.2.2.2.2 _ (isFi_fix ((X k1) 6))) (hX (fix ((X k1) 6)) (isFi_lt (isFi_fix ((X k1) 6)))) dX0_partnerOf_17 ?_
    exact w_iret hx hb hr hlocks hW hS ⟨rfl, hw⟩ dX0_partnerOf_20
set_option maxHeartbeats 4000000 in
set_option maxRecDepth 100000 in
theorem c_X0_placeOf {l : Launch} {g : GG} {lay : LY} {E0 : ES} {o : Nat} {X : ES} {k1 : Nat} {K : Int32 → Prop} (hA : okL g lay) (HB : XL g lay o) (hX : ∀ k, k < 26 → E0 (o + k) = X k) (h1 : isLi k1) (hw : wp_X0_placeOf X k1 K) : JMi l g lay yX0_placeOf wsX0_placeOf rmX0_placeOf [.ref o, .ref (o + k1)] E0 (fun r E1 => E1 = E0 ∧ K r) := by
  refine Met.ofW (cc := cX0_placeOf) (maxL := 4) (ret := (some .int)) (by decide) rfl ?_
  intro p e s m args below meth c s₁ B hml hv
  obtain ⟨rfl, hK, hW⟩ := hv
  have hx := B.exec
  have hb := B.bytes
  have hr := B.returns
  have hts := gd_of (atoms_spec (ws := wsX0_placeOf) B.pre)
  have hown : s.vm.findClass RX0 = some m.cls := findClass_of_methodNamed B.named
  have hlocks := B.notSynchronized
  have hS : va_S (Ab g) s.heap s.heap [] := va_S.rf
  have hl := lv_entry [.ref o, .ref (o + k1)] (n := 4) (Nat.le_of_ble_eq_true rfl)
  rw [lg_entry_eq]
  generalize (lg_sl [.ref o, .ref (o + k1)] ++ List.replicate (4 - (lg_sl [.ref o, .ref (o + k1)]).length) Slot.unset).toArray = ls at hl ⊢
  have hl : lv_has ls 4 [(0, .ref o), (1, .ref (o + k1))] := hl
  unfold wp_X0_placeOf at hw
  refine lv_aload_n hx hb dX0_placeOf_0 rfl (lv_at hl 1 rfl) ?_
  refine w_cvi (As := []) (rest := []) hx hb hml hown hts hK hW hS hl.1 (c_X2_waitsUnsought hA (HB.2.2.2.2.1 _ h1) (hX k1 (isLi_lt h1)) hw) (k_X0_229 hts ⟨Nat.le_of_ble_eq_true rfl, Nat.le_of_ble_eq_true rfl⟩) (w_recv hK hW (HB.2.2.2.2.1 _ h1) (hX k1 (isLi_lt h1)) rfl rfl) rfl rfl (Nat.le_of_ble_eq_true rfl) dX0_placeOf_1 ⟨Nat.zero_le _, Nat.zero_le _⟩ (fun r_1 Ez H locs hw2 hW hS => ?_)
  obtain ⟨ez, z_2, hw⟩ := hw2
  rw [ez] at hW
  refine lv_if_ne (tgt := 10) hx hb dX0_placeOf_4 (by decide) (fun c_3 => ?_) (fun c_3 => ?_)
  · have hw := hw.2 c_3
    refine lv_iconst (v := 0) hx hb dX0_placeOf_10 (by decide) ?_
    refine lv_istore_n (lv' := [(2, .int 0), (0, .ref o), (1, .ref (o + k1))]) hx hb dX0_placeOf_11 rfl hl (by decide) rfl (fun ls hl => ?_)
    refine lv_iconst (v := 0) hx hb dX0_placeOf_12 (by decide) ?_
    refine lv_istore_n (lv' := [(3, .int 0), (2, .int 0), (0, .ref o), (1, .ref (o + k1))]) hx hb dX0_placeOf_13 rfl hl (by decide) rfl (fun ls hl => ?_)
    obtain ⟨n_30, hw⟩ := hw
    refine w_loop (KT := Int32 → Int32 → Prop) (σ := Int32 × Int32) (Wl := fun Kx_14 n_14 q => wpl_X0_placeOf_14 X k1 K Kx_14 n_14 q.1 q.2) (Pw := fun q => Wd g lay (E0)) (lvf := fun q => [(0, .ref o), (1, .ref (o + k1)), (2, .int q.1), (3, .int q.2)]) (nL := 4) n_30 (0, 0) hw hW hS (lv_sub hl [2, 3, 1, 0] rfl) (fun _ h => h) (fun Kx_14 eK_14 n_14 q H locs ls hw hW hS hl ih_14 => ?_)
    obtain ⟨i_4, i_5⟩ := q
    try dsimp only at hw
    rw [wpl_X0_placeOf_14] at hw
    have hl : lv_has ls 4 [(0, .ref o), (1, .ref (o + k1)), (2, .int i_4), (3, .int i_5)] := hl
    have hW : Wd g lay (E0) H := hW
    refine lv_iload_n hx hb dX0_placeOf_14 rfl (lv_at hl 3 rfl) ?_
    refine lv_bipush (v := 16) hx hb dX0_placeOf_15 (by decide) ?_
    refine lv_icmp_ge (tgt := 55) hx hb dX0_placeOf_17 (by decide) (fun c_19 => ?_) (fun c_19 => ?_)
    · have hw := hw.1 c_19
      rw [eK_14] at hw
      refine lv_iload_n hx hb dX0_placeOf_55 rfl (lv_at hl 2 rfl) ?_
      exact w_iret hx hb hr hlocks hW hS ⟨rfl, hw⟩ dX0_placeOf_56
    · have hw := hw.2 c_19
      refine lv_aload_n hx hb dX0_placeOf_20 rfl (lv_at hl 0 rfl) ?_
      refine lv_iload_n hx hb dX0_placeOf_21 rfl (lv_at hl 3 rfl) ?_
      refine w_cvr (As := [.int i_5]) (rest := []) hx hb hml hown hts hK hW hS hl.1 (c_X0_lineAt hA HB i_5) (k_X0_83 hts ⟨Nat.le_of_ble_eq_true rfl, Nat.le_of_ble_eq_true rfl⟩) (w_recv hK hW HB.1 (hX 0 (by decide)) rfl rfl) rfl rfl (Nat.le_of_ble_eq_true rfl) dX0_placeOf_22 ⟨Nat.zero_le _, Nat.zero_le _⟩ (fun q_20 Ez H locs hw2 hW hS => ?_)
      obtain ⟨ez, rfl⟩ := hw2
      rw [ez] at hW
      refine w_cvi (As := []) (rest := []) hx hb hml hown hts hK hW hS hl.1 (c_X2_waitsUnsought hA (HB.2.2.2.2.1 _ (isLi_lix i_5)) (hX (lix i_5) (isLi_lt (isLi_lix i_5))) hw) (k_X0_229 hts ⟨Nat.le_of_ble_eq_true rfl, Nat.le_of_ble_eq_true rfl⟩) (w_recv hK hW (HB.2.2.2.2.1 _ (isLi_lix i_5)) (hX (lix i_5) (isLi_lt (isLi_lix i_5))) rfl rfl) rfl rfl (Nat.le_of_ble_eq_true rfl) dX0_placeOf_25 ⟨Nat.zero_le _, Nat.zero_le _⟩ (fun r_21 Ez H locs hw2 hW hS => ?_)
      obtain ⟨ez, z_22, hw⟩ := hw2
      rw [ez] at hW
      refine lv_if_eq (tgt := 49) hx hb dX0_placeOf_28 (by decide) (fun c_23 => ?_) (fun c_23 => ?_)
      · have hw := hw.1 c_23
        obtain ⟨v_24, ev_24⟩ : ∃ z : Int32, z = i_5 + 1 := ⟨_, rfl⟩
        have hw := hw v_24 ev_24
        refine lv_iinc (v := v_24) (lv' := [(3, .int v_24), (0, .ref o), (1, .ref (o + k1)), (2, .int i_4)]) hx hb dX0_placeOf_49 hl (k := 3) rfl (by rw [ev_24]; rfl) (by decide) rfl (fun ls hl => ?_)
        refine lv_goto (tgt := 14) hx hb dX0_placeOf_52 (by decide) ?_
        exact ih_14 (i_4, v_24) _ _ _ hw hW hS (lv_sub hl [1, 2, 3, 0] rfl)
      · have hw := hw.2 c_23
        refine lv_aload_n hx hb dX0_placeOf_31 rfl (lv_at hl 0 rfl) ?_
        refine lv_iload_n hx hb dX0_placeOf_32 rfl (lv_at hl 3 rfl) ?_
        refine w_cvr (As := [.int i_5]) (rest := []) hx hb hml hown hts hK hW hS hl.1 (c_X0_lineAt hA HB i_5) (k_X0_83 hts ⟨Nat.le_of_ble_eq_true rfl, Nat.le_of_ble_eq_true rfl⟩) (w_recv hK hW HB.1 (hX 0 (by decide)) rfl rfl) rfl rfl (Nat.le_of_ble_eq_true rfl) dX0_placeOf_33 ⟨Nat.zero_le _, Nat.zero_le _⟩ (fun q_25 Ez H locs hw2 hW hS => ?_)
        obtain ⟨ez, rfl⟩ := hw2
        rw [ez] at hW
        refine g_X0_112 hx hb hown hts hK hW (HB.2.2.2.2.1 _ (isLi_lix i_5)) (hX (lix i_5) (isLi_lt (isLi_lix i_5))) dX0_placeOf_36 ?_
        refine lv_aload_n hx hb dX0_placeOf_39 rfl (lv_at hl 1 rfl) ?_
        refine g_X0_112 hx hb hown hts hK hW (HB.2.2.2.2.1 _ h1) (hX k1 (isLi_lt h1)) dX0_placeOf_40 ?_
        refine lv_icmp_ge (tgt := 49) hx hb dX0_placeOf_43 (by decide) (fun c_26 => ?_) (fun c_26 => ?_)
        · have hw := hw.1 c_26
          obtain ⟨v_27, ev_27⟩ : ∃ z : Int32, z = i_5 + 1 := ⟨_, rfl⟩
          have hw := hw v_27 ev_27
          refine lv_iinc (v := v_27) (lv' := [(3, .int v_27), (0, .ref o), (1, .ref (o + k1)), (2, .int i_4)]) hx hb dX0_placeOf_49 hl (k := 3) rfl (by rw [ev_27]; rfl) (by decide) rfl (fun ls hl => ?_)
          refine lv_goto (tgt := 14) hx hb dX0_placeOf_52 (by decide) ?_
          exact ih_14 (i_4, v_27) _ _ _ hw hW hS (lv_sub hl [1, 2, 3, 0] rfl)
        · have hw := hw.2 c_26
          obtain ⟨v_28, ev_28⟩ : ∃ z : Int32, z = i_4 + 1 := ⟨_, rfl⟩
          have hw := hw v_28 ev_28
          refine lv_iinc (v := v_28) (lv' := [(2, .int v_28), (0, .ref o), (1, .ref (o + k1)), (3, .int i_5)]) hx hb dX0_placeOf_46 hl (k := 2) rfl (by rw [ev_28]; rfl) (by decide) rfl (fun ls hl => ?_)
          obtain ⟨v_29, ev_29⟩ : ∃ z : Int32, z = i_5 + 1 := ⟨_, rfl⟩
          have hw := hw v_29 ev_29
          refine lv_iinc (v := v_29) (lv' := [(3, .int v_29), (2, .int v_28), (0, .ref o), (1, .ref (o + k1))]) hx hb dX0_placeOf_49 hl (k := 3) rfl (by rw [ev_29]; rfl) (by decide) rfl (fun ls hl => ?_)
          refine lv_goto (tgt := 14) hx hb dX0_placeOf_52 (by decide) ?_
          exact ih_14 (v_28, v_29) _ _ _ hw hW hS (lv_sub hl [2, 3, 1, 0] rfl)
  · have hw := hw.1 c_3
    refine lv_bipush (v := (-6)) hx hb dX0_placeOf_7 (by decide) ?_
    exact w_iret hx hb hr hlocks hW hS ⟨rfl, hw⟩ dX0_placeOf_9
set_option maxHeartbeats 4000000 in
set_option maxRecDepth 100000 in
theorem c_X0_numberOfLine {l : Launch} {g : GG} {lay : LY} {E0 : ES} {o : Nat} {X : ES} {p1 : Int32} {p2 : Int32} {K : Int32 → Prop} (hA : okL g lay) (HB : XL g lay o) (hX : ∀ k, k < 26 → E0 (o + k) = X k) (hw : wp_X0_numberOfLine X p1 p2 K) : JMi l g lay yX0_numberOfLine wsX0_numberOfLine rmX0_numberOfLine [.ref o, .int p1, .int p2] E0 (fun r E1 => E1 = E0 ∧ K r) := by
  refine Met.ofW (cc := cX0_numberOfLine) (maxL := 4) (ret := (some .int)) (by decide) rfl ?_
  intro p e s m args below meth c s₁ B hml hv
  obtain ⟨rfl, hK, hW⟩ := hv
  have hx := B.exec
  have hb := B.bytes
  have hr := B.returns
  have hts := gd_of (atoms_spec (ws := wsX0_numberOfLine) B.pre)
  have hown : s.vm.findClass RX0 = some m.cls := findClass_of_methodNamed B.named
  have hlocks := B.notSynchronized
  have hS : va_S (Ab g) s.heap s.heap [] := va_S.rf
  have hl := lv_entry [.ref o, .int p1, .int p2] (n := 4) (Nat.le_of_ble_eq_true rfl)
  rw [lg_entry_eq]
  generalize (lg_sl [.ref o, .int p1, .int p2] ++ List.replicate (4 - (lg_sl [.ref o, .int p1, .int p2]).length) Slot.unset).toArray = ls at hl ⊢
  have hl : lv_has ls 4 [(0, .ref o), (1, .int p1), (2, .int p2)] := hl
  unfold wp_X0_numberOfLine at hw
  refine lv_aload_n hx hb dX0_numberOfLine_0 rfl (lv_at hl 0 rfl) ?_
  refine lv_iload_n hx hb dX0_numberOfLine_1 rfl (lv_at hl 1 rfl) ?_
  refine w_cvr (As := [.int p1]) (rest := []) hx hb hml hown hts hK hW hS hl.1 (c_X0_lineAt hA HB p1) (k_X0_83 hts ⟨Nat.le_of_ble_eq_true rfl, Nat.le_of_ble_eq_true rfl⟩) (w_recv hK hW HB.1 (hX 0 (by decide)) rfl rfl) rfl rfl (Nat.le_of_ble_eq_true rfl) dX0_numberOfLine_2 ⟨Nat.zero_le _, Nat.zero_le _⟩ (fun q_1 Ez H locs hw2 hW hS => ?_)
  obtain ⟨ez, rfl⟩ := hw2
  rw [ez] at hW
  refine lv_astore_n (lv' := [(3, .ref (o + lix p1)), (0, .ref o), (1, .int p1), (2, .int p2)]) hx hb dX0_numberOfLine_5 rfl hl (by decide) rfl (fun ls hl => ?_)
  refine lv_iload_n hx hb dX0_numberOfLine_6 rfl (lv_at hl 3 rfl) ?_
  by_cases c_2 : p2 = 0
  · have hw := hw.1 c_2
    refine lv_tableIn (tgt := 56) hx hb dX0_numberOfLine_7 (by rw [c_2]; decide) (by rw [c_2]; decide) (by rw [c_2] <;> rfl) (by decide) ?_
    refine lv_aload_n hx hb dX0_numberOfLine_56 rfl (lv_at hl 0 rfl) ?_
    refine g_X0_106 hx hb hown hts hK hW (HB.2.2.2.2.1 _ (isLi_lix p1)) (hX (lix p1) (isLi_lt (isLi_lix p1))) dX0_numberOfLine_57 ?_
    exact w_iret hx hb hr hlocks hW hS ⟨rfl, hw⟩ dX0_numberOfLine_60
  · have hw := hw.2 c_2
    by_cases c_3 : p2 = 1
    · have hw := hw.1 c_3
      refine lv_tableIn (tgt := 61) hx hb dX0_numberOfLine_7 (by rw [c_3]; decide) (by rw [c_3]; decide) (by rw [c_3] <;> rfl) (by decide) ?_
      refine lv_aload_n hx hb dX0_numberOfLine_61 rfl (lv_at hl 0 rfl) ?_
      refine g_X0_102 hx hb hown hts hK hW (HB.2.2.2.2.1 _ (isLi_lix p1)) (hX (lix p1) (isLi_lt (isLi_lix p1))) dX0_numberOfLine_62 ?_
      refine lv_if_eq (tgt := 72) hx hb dX0_numberOfLine_65 (by decide) (fun c_4 => ?_) (fun c_4 => ?_)
      · have hw := hw.1 c_4
        refine lv_iconst (v := 0) hx hb dX0_numberOfLine_72 (by decide) ?_
        exact w_iret hx hb hr hlocks hW hS ⟨rfl, hw⟩ dX0_numberOfLine_73
      · have hw := hw.2 c_4
        refine lv_iconst (v := 1) hx hb dX0_numberOfLine_68 (by decide) ?_
        refine lv_goto (tgt := 73) hx hb dX0_numberOfLine_69 (by decide) ?_
        exact w_iret hx hb hr hlocks hW hS ⟨rfl, hw⟩ dX0_numberOfLine_73
    · have hw := hw.2 c_3
      by_cases c_5 : p2 = 2
      · have hw := hw.1 c_5
        refine lv_tableIn (tgt := 74) hx hb dX0_numberOfLine_7 (by rw [c_5]; decide) (by rw [c_5]; decide) (by rw [c_5] <;> rfl) (by decide) ?_
        refine lv_aload_n hx hb dX0_numberOfLine_74 rfl (lv_at hl 0 rfl) ?_
        refine g_X0_119 hx hb hown hts hK hW (HB.2.2.2.2.1 _ (isLi_lix p1)) (hX (lix p1) (isLi_lt (isLi_lix p1))) dX0_numberOfLine_75 ?_
        exact w_iret hx hb hr hlocks hW hS ⟨rfl, hw⟩ dX0_numberOfLine_78
      · have hw := hw.2 c_5
        by_cases c_6 : p2 = 3
        · have hw := hw.1 c_6
          refine lv_tableIn (tgt := 79) hx hb dX0_numberOfLine_7 (by rw [c_6]; decide) (by rw [c_6]; decide) (by rw [c_6] <;> rfl) (by decide) ?_
          refine lv_aload_n hx hb dX0_numberOfLine_79 rfl (lv_at hl 1 rfl) ?_
          refine lv_aload_n hx hb dX0_numberOfLine_80 rfl (lv_at hl 0 rfl) ?_
          refine w_cvi (As := [.ref (o + lix p1)]) (rest := []) hx hb hml hown hts hK hW hS hl.1 (c_X0_partnerOf hA HB hX (isLi_lix p1) hw) (k_X0_248 hts ⟨Nat.le_of_ble_eq_true rfl, Nat.le_of_ble_eq_true rfl⟩) (w_recv hK hW HB.1 (hX 0 (by decide)) rfl rfl) rfl rfl (Nat.le_of_ble_eq_true rfl) dX0_numberOfLine_81 ⟨Nat.zero_le _, Nat.zero_le _⟩ (fun r_7 Ez H locs hw2 hW hS => ?_)
          obtain ⟨ez, hw⟩ := hw2
          rw [ez] at hW
          exact w_iret hx hb hr hlocks hW hS ⟨rfl, hw⟩ dX0_numberOfLine_84
        · have hw := hw.2 c_6
          by_cases c_8 : p2 = 4
          · have hw := hw.1 c_8
            refine lv_tableIn (tgt := 85) hx hb dX0_numberOfLine_7 (by rw [c_8]; decide) (by rw [c_8]; decide) (by rw [c_8] <;> rfl) (by decide) ?_
            refine lv_aload_n hx hb dX0_numberOfLine_85 rfl (lv_at hl 0 rfl) ?_
            refine g_X0_135 hx hb hown hts hK hW (HB.2.2.2.2.1 _ (isLi_lix p1)) (hX (lix p1) (isLi_lt (isLi_lix p1))) dX0_numberOfLine_86 ?_
            exact w_iret hx hb hr hlocks hW hS ⟨rfl, hw⟩ dX0_numberOfLine_89
          · have hw := hw.2 c_8
            by_cases c_9 : p2 = 5
            · have hw := hw.1 c_9
              refine lv_tableIn (tgt := 90) hx hb dX0_numberOfLine_7 (by rw [c_9]; decide) (by rw [c_9]; decide) (by rw [c_9] <;> rfl) (by decide) ?_
              refine lv_aload_n hx hb dX0_numberOfLine_90 rfl (lv_at hl 0 rfl) ?_
              refine g_X0_214 hx hb hown hts hK hW (HB.2.2.2.2.1 _ (isLi_lix p1)) (hX (lix p1) (isLi_lt (isLi_lix p1))) dX0_numberOfLine_91 ?_
              exact w_iret hx hb hr hlocks hW hS ⟨rfl, hw⟩ dX0_numberOfLine_94
            · have hw := hw.2 c_9
              by_cases c_10 : p2 = 6
              · have hw := hw.1 c_10
                refine lv_tableIn (tgt := 95) hx hb dX0_numberOfLine_7 (by rw [c_10]; decide) (by rw [c_10]; decide) (by rw [c_10] <;> rfl) (by decide) ?_
                refine lv_aload_n hx hb dX0_numberOfLine_95 rfl (lv_at hl 0 rfl) ?_
                refine g_X0_109 hx hb hown hts hK hW (HB.2.2.2.2.1 _ (isLi_lix p1)) (hX (lix p1) (isLi_lt (isLi_lix p1))) dX0_numberOfLine_96 ?_
                exact w_iret hx hb hr hlocks hW hS ⟨rfl, hw⟩ dX0_numberOfLine_99
              · have hw := hw.2 c_10
                by_cases c_11 : p2 = 7
                · have hw := hw.1 c_11
                  refine lv_tableIn (tgt := 100) hx hb dX0_numberOfLine_7 (by rw [c_11]; decide) (by rw [c_11]; decide) (by rw [c_11] <;> rfl) (by decide) ?_
                  refine lv_aload_n hx hb dX0_numberOfLine_100 rfl (lv_at hl 1 rfl) ?_
                  refine lv_aload_n hx hb dX0_numberOfLine_101 rfl (lv_at hl 0 rfl) ?_
                  refine w_cvi (As := [.ref (o + lix p1)]) (rest := []) hx hb hml hown hts hK hW hS hl.1 (c_X0_placeOf hA HB hX (isLi_lix p1) hw) (k_X0_252 hts ⟨Nat.le_of_ble_eq_true rfl, Nat.le_of_ble_eq_true rfl⟩) (w_recv hK hW HB.1 (hX 0 (by decide)) rfl rfl) rfl rfl (Nat.le_of_ble_eq_true rfl) dX0_numberOfLine_102 ⟨Nat.zero_le _, Nat.zero_le _⟩ (fun r_12 Ez H locs hw2 hW hS => ?_)
                  obtain ⟨ez, hw⟩ := hw2
                  rw [ez] at hW
                  exact w_iret hx hb hr hlocks hW hS ⟨rfl, hw⟩ dX0_numberOfLine_105
                · have hw := hw.2 c_11
                  by_cases c_13 : p2 = 8
                  · have hw := hw.1 c_13
                    refine lv_tableIn (tgt := 106) hx hb dX0_numberOfLine_7 (by rw [c_13]; decide) (by rw [c_13]; decide) (by rw [c_13] <;> rfl) (by decide) ?_
                    refine lv_aload_n hx hb dX0_numberOfLine_106 rfl (lv_at hl 0 rfl) ?_
                    refine g_X0_255 hx hb hown hts hK hW (HB.2.2.2.2.1 _ (isLi_lix p1)) (hX (lix p1) (isLi_lt (isLi_lix p1))) dX0_numberOfLine_107 ?_
                    exact w_iret hx hb hr hlocks hW hS ⟨rfl, hw⟩ dX0_numberOfLine_110
                  · have hw := hw.2 c_13
                    refine lv_tableOut (tgt := 111) hx hb dX0_numberOfLine_7 (by have zc_2 := lv_neT (a := 0) c_2 rfl; have zc_3 := lv_neT (a := 1) c_3 rfl; have zc_5 := lv_neT (a := 2) c_5 rfl; have zc_6 := lv_neT (a := 3) c_6 rfl; have zc_8 := lv_neT (a := 4) c_8 rfl; have zc_9 := lv_neT (a := 5) c_9 rfl; have zc_10 := lv_neT (a := 6) c_10 rfl; have zc_11 := lv_neT (a := 7) c_11 rfl; have zc_13 := lv_neT (a := 8) c_13 rfl; omega) (by decide) ?_
                    refine lv_bipush (v := (-2)) hx hb dX0_numberOfLine_111 (by decide) ?_
                    exact w_iret hx hb hr hlocks hW hS ⟨rfl, hw⟩ dX0_numberOfLine_113
set_option maxHeartbeats 4000000 in
set_option maxRecDepth 100000 in
theorem c_X0_traceFrom {l : Launch} {g : GG} {lay : LY} {E0 : ES} {o : Nat} {X : ES} {p1 : Int32} {p2 : Int32} {K : Int32 → Prop} (hA : okL g lay) (HB : XL g lay o) (hX : ∀ k, k < 26 → E0 (o + k) = X k) (hw : wp_X0_traceFrom X p1 p2 K) : JMi l g lay yX0_traceFrom wsX0_traceFrom rmX0_traceFrom [.ref o, .int p1, .int p2] E0 (fun r E1 => E1 = E0 ∧ K r) := by
  refine Met.ofW (cc := cX0_traceFrom) (maxL := 5) (ret := (some .int)) (by decide) rfl ?_
  intro p e s m args below meth c s₁ B hml hv
  obtain ⟨rfl, hK, hW⟩ := hv
  have hx := B.exec
  have hb := B.bytes
  have hr := B.returns
  have hts := gd_of (atoms_spec (ws := wsX0_traceFrom) B.pre)
  have hown : s.vm.findClass RX0 = some m.cls := findClass_of_methodNamed B.named
  have hlocks := B.notSynchronized
  have hS : va_S (Ab g) s.heap s.heap [] := va_S.rf
  have hl := lv_entry [.ref o, .int p1, .int p2] (n := 5) (Nat.le_of_ble_eq_true rfl)
  rw [lg_entry_eq]
  generalize (lg_sl [.ref o, .int p1, .int p2] ++ List.replicate (5 - (lg_sl [.ref o, .int p1, .int p2]).length) Slot.unset).toArray = ls at hl ⊢
  have hl : lv_has ls 5 [(0, .ref o), (1, .int p1), (2, .int p2)] := hl
  unfold wp_X0_traceFrom at hw
  refine lv_aload_n hx hb dX0_traceFrom_0 rfl (lv_at hl 0 rfl) ?_
  refine lv_iload_n hx hb dX0_traceFrom_1 rfl (lv_at hl 1 rfl) ?_
  refine w_cvr (As := [.int p1]) (rest := []) hx hb hml hown hts hK hW hS hl.1 (c_X0_lineAt hA HB p1) (k_X0_83 hts ⟨Nat.le_of_ble_eq_true rfl, Nat.le_of_ble_eq_true rfl⟩) (w_recv hK hW HB.1 (hX 0 (by decide)) rfl rfl) rfl rfl (Nat.le_of_ble_eq_true rfl) dX0_traceFrom_2 ⟨Nat.zero_le _, Nat.zero_le _⟩ (fun q_1 Ez H locs hw2 hW hS => ?_)
  obtain ⟨ez, rfl⟩ := hw2
  rw [ez] at hW
  refine lv_astore_n (lv' := [(3, .ref (o + lix p1)), (0, .ref o), (1, .int p1), (2, .int p2)]) hx hb dX0_traceFrom_5 rfl hl (by decide) rfl (fun ls hl => ?_)
  refine lv_aload_n hx hb dX0_traceFrom_6 rfl (lv_at hl 0 rfl) ?_
  refine w_cvi (As := []) (rest := []) hx hb hml hown hts hK hW hS hl.1 (c_X2_isCalledByAnother hA (HB.2.2.2.2.1 _ (isLi_lix p1)) (hX (lix p1) (isLi_lt (isLi_lix p1))) hw) (k_X0_115 hts ⟨Nat.le_of_ble_eq_true rfl, Nat.le_of_ble_eq_true rfl⟩) (w_recv hK hW (HB.2.2.2.2.1 _ (isLi_lix p1)) (hX (lix p1) (isLi_lt (isLi_lix p1))) rfl rfl) rfl rfl (Nat.le_of_ble_eq_true rfl) dX0_traceFrom_7 ⟨Nat.zero_le _, Nat.zero_le _⟩ (fun r_2 Ez H locs hw2 hW hS => ?_)
  obtain ⟨ez, z_3, hw⟩ := hw2
  rw [ez] at hW
  refine lv_if_ne (tgt := 16) hx hb dX0_traceFrom_10 (by decide) (fun c_4 => ?_) (fun c_4 => ?_)
  · have hw := hw.2 c_4
    refine lv_iload_n hx hb dX0_traceFrom_16 rfl (lv_at hl 3 rfl) ?_
    refine lv_iconst (v := 1) hx hb dX0_traceFrom_17 (by decide) ?_
    refine lv_icmp_ne (tgt := 26) hx hb dX0_traceFrom_18 (by decide) (fun c_5 => ?_) (fun c_5 => ?_)
    · have hw := hw.2 c_5
      refine lv_aload_n hx hb dX0_traceFrom_26 rfl (lv_at hl 1 rfl) ?_
      refine lv_aload_n hx hb dX0_traceFrom_27 rfl (lv_at hl 0 rfl) ?_
      refine g_X0_119 hx hb hown hts hK hW (HB.2.2.2.2.1 _ (isLi_lix p1)) (hX (lix p1) (isLi_lt (isLi_lix p1))) dX0_traceFrom_28 ?_
      refine w_cvr (As := [.int ((X (lix p1)) 6)]) (rest := []) hx hb hml hown hts hK hW hS hl.1 (c_X0_finderAt hA HB ((X (lix p1)) 6)) (k_X0_90 hts ⟨Nat.le_of_ble_eq_true rfl, Nat.le_of_ble_eq_true rfl⟩) (w_recv hK hW HB.1 (hX 0 (by decide)) rfl rfl) rfl rfl (Nat.le_of_ble_eq_true rfl) dX0_traceFrom_31 ⟨Nat.zero_le _, Nat.zero_le _⟩ (fun q_6 Ez H locs hw2 hW hS => ?_)
      obtain ⟨ez, rfl⟩ := hw2
      rw [ez] at hW
      refine lv_astore (lv' := [(4, .ref (o + fix ((X (lix p1)) 6))), (3, .ref (o + lix p1)), (0, .ref o), (1, .int p1), (2, .int p2)]) hx hb dX0_traceFrom_34 hl (by decide) rfl (fun ls hl => ?_)
      refine lv_iload_n hx hb dX0_traceFrom_36 rfl (lv_at hl 4 rfl) ?_
      refine lv_if_ne (tgt := 48) hx hb dX0_traceFrom_37 (by decide) (fun c_7 => ?_) (fun c_7 => ?_)
      · have hw := hw.2 c_7
        refine lv_aload hx hb dX0_traceFrom_48 (lv_at hl 0 rfl) ?_
        refine g_X0_151 hx hb hown hts hK hW (HB.2.2.2.2.2 _ (isFi_fix ((X (lix p1)) 6))) (hX (fix ((X (lix p1)) 6)) (isFi_lt (isFi_fix ((X (lix p1)) 6)))) dX0_traceFrom_50 ?_
        exact w_iret hx hb hr hlocks hW hS ⟨rfl, hw⟩ dX0_traceFrom_53
      · have hw := hw.1 c_7
        refine lv_aload hx hb dX0_traceFrom_40 (lv_at hl 0 rfl) ?_
        refine g_X0_204 hx hb hown hts hK hW (HB.2.2.2.2.2 _ (isFi_fix ((X (lix p1)) 6))) (hX (fix ((X (lix p1)) 6)) (isFi_lt (isFi_fix ((X (lix p1)) 6)))) dX0_traceFrom_42 ?_
        refine lv_goto (tgt := 53) hx hb dX0_traceFrom_45 (by decide) ?_
        exact w_iret hx hb hr hlocks hW hS ⟨rfl, hw⟩ dX0_traceFrom_53
    · have hw := hw.1 c_5
      refine lv_aload_n hx hb dX0_traceFrom_21 rfl (lv_at hl 0 rfl) ?_
      refine g_X0_119 hx hb hown hts hK hW (HB.2.2.2.2.1 _ (isLi_lix p1)) (hX (lix p1) (isLi_lt (isLi_lix p1))) dX0_traceFrom_22 ?_
      exact w_iret hx hb hr hlocks hW hS ⟨rfl, hw⟩ dX0_traceFrom_25
  · have hw := hw.1 c_4
    refine lv_bipush (v := (-6)) hx hb dX0_traceFrom_13 (by decide) ?_
    exact w_iret hx hb hr hlocks hW hS ⟨rfl, hw⟩ dX0_traceFrom_15
set_option maxHeartbeats 4000000 in
set_option maxRecDepth 100000 in
theorem c_X0_freeFinders {l : Launch} {g : GG} {lay : LY} {E0 : ES} {o : Nat} {X : ES} {K : Int32 → Prop} (hA : okL g lay) (HB : XL g lay o) (hX : ∀ k, k < 26 → E0 (o + k) = X k) (hw : wp_X0_freeFinders X K) : JMi l g lay yX0_freeFinders wsX0_freeFinders rmX0_freeFinders [.ref o] E0 (fun r E1 => E1 = E0 ∧ K r) := by
  refine Met.ofW (cc := cX0_freeFinders) (maxL := 3) (ret := (some .int)) (by decide) rfl ?_
  intro p e s m args below meth c s₁ B hml hv
  obtain ⟨rfl, hK, hW⟩ := hv
  have hx := B.exec
  have hb := B.bytes
  have hr := B.returns
  have hts := gd_of (atoms_spec (ws := wsX0_freeFinders) B.pre)
  have hown : s.vm.findClass RX0 = some m.cls := findClass_of_methodNamed B.named
  have hlocks := B.notSynchronized
  have hS : va_S (Ab g) s.heap s.heap [] := va_S.rf
  have hl := lv_entry [.ref o] (n := 3) (Nat.le_of_ble_eq_true rfl)
  rw [lg_entry_eq]
  generalize (lg_sl [.ref o] ++ List.replicate (3 - (lg_sl [.ref o]).length) Slot.unset).toArray = ls at hl ⊢
  have hl : lv_has ls 3 [(0, .ref o)] := hl
  unfold wp_X0_freeFinders at hw
  refine lv_iconst (v := 0) hx hb dX0_freeFinders_0 (by decide) ?_
  refine lv_istore_n (lv' := [(1, .int 0), (0, .ref o)]) hx hb dX0_freeFinders_1 rfl hl (by decide) rfl (fun ls hl => ?_)
  refine lv_iconst (v := 0) hx hb dX0_freeFinders_2 (by decide) ?_
  refine lv_istore_n (lv' := [(2, .int 0), (1, .int 0), (0, .ref o)]) hx hb dX0_freeFinders_3 rfl hl (by decide) rfl (fun ls hl => ?_)
  obtain ⟨n_17, hw⟩ := hw
  refine w_loop (KT := Int32 → Int32 → Prop) (σ := Int32 × Int32) (Wl := fun Kx_4 n_4 q => wpl_X0_freeFinders_4 X K Kx_4 n_4 q.1 q.2) (Pw := fun q => Wd g lay (E0)) (lvf := fun q => [(0, .ref o), (1, .int q.1), (2, .int q.2)]) (nL := 3) n_17 (0, 0) hw hW hS (lv_sub hl [2, 1, 0] rfl) (fun _ h => h) (fun Kx_4 eK_4 n_4 q H locs ls hw hW hS hl ih_4 => ?_)
  obtain ⟨i_1, i_2⟩ := q
  try dsimp only at hw
  rw [wpl_X0_freeFinders_4] at hw
  have hl : lv_has ls 3 [(0, .ref o), (1, .int i_1), (2, .int i_2)] := hl
  have hW : Wd g lay (E0) H := hW
  refine lv_iload_n hx hb dX0_freeFinders_4 rfl (lv_at hl 2 rfl) ?_
  refine lv_aload_n hx hb dX0_freeFinders_5 rfl (lv_at hl 0 rfl) ?_
  refine g_X0_45 hx hb hown hts hK hW HB.1 (hX 0 (by decide)) dX0_freeFinders_6 ?_
  refine lv_icmp_ge (tgt := 32) hx hb dX0_freeFinders_9 (by decide) (fun c_11 => ?_) (fun c_11 => ?_)
  · have hw := hw.1 c_11
    rw [eK_4] at hw
    refine lv_iload_n hx hb dX0_freeFinders_32 rfl (lv_at hl 1 rfl) ?_
    exact w_iret hx hb hr hlocks hW hS ⟨rfl, hw⟩ dX0_freeFinders_33
  · have hw := hw.2 c_11
    refine lv_aload_n hx hb dX0_freeFinders_12 rfl (lv_at hl 0 rfl) ?_
    refine lv_iload_n hx hb dX0_freeFinders_13 rfl (lv_at hl 2 rfl) ?_
    refine w_cvr (As := [.int i_2]) (rest := []) hx hb hml hown hts hK hW hS hl.1 (c_X0_finderAt hA HB i_2) (k_X0_90 hts ⟨Nat.le_of_ble_eq_true rfl, Nat.le_of_ble_eq_true rfl⟩) (w_recv hK hW HB.1 (hX 0 (by decide)) rfl rfl) rfl rfl (Nat.le_of_ble_eq_true rfl) dX0_freeFinders_14 ⟨Nat.zero_le _, Nat.zero_le _⟩ (fun q_12 Ez H locs hw2 hW hS => ?_)
    obtain ⟨ez, rfl⟩ := hw2
    rw [ez] at hW
    refine g_X0_154 hx hb hown hts hK hW (HB.2.2.2.2.2 _ (isFi_fix i_2)) (hX (fix i_2) (isFi_lt (isFi_fix i_2))) dX0_freeFinders_17 ?_
    refine lv_if_ne (tgt := 26) hx hb dX0_freeFinders_20 (by decide) (fun c_13 => ?_) (fun c_13 => ?_)
    · have hw := hw.2 c_13
      obtain ⟨v_14, ev_14⟩ : ∃ z : Int32, z = i_2 + 1 := ⟨_, rfl⟩
      have hw := hw v_14 ev_14
      refine lv_iinc (v := v_14) (lv' := [(2, .int v_14), (0, .ref o), (1, .int i_1)]) hx hb dX0_freeFinders_26 hl (k := 2) rfl (by rw [ev_14]; rfl) (by decide) rfl (fun ls hl => ?_)
      refine lv_goto (tgt := 4) hx hb dX0_freeFinders_29 (by decide) ?_
      exact ih_4 (i_1, v_14) _ _ _ hw hW hS (lv_sub hl [1, 2, 0] rfl)
    · have hw := hw.1 c_13
      obtain ⟨v_15, ev_15⟩ : ∃ z : Int32, z = i_1 + 1 := ⟨_, rfl⟩
      have hw := hw v_15 ev_15
      refine lv_iinc (v := v_15) (lv' := [(1, .int v_15), (0, .ref o), (2, .int i_2)]) hx hb dX0_freeFinders_23 hl (k := 1) rfl (by rw [ev_15]; rfl) (by decide) rfl (fun ls hl => ?_)
      obtain ⟨v_16, ev_16⟩ : ∃ z : Int32, z = i_2 + 1 := ⟨_, rfl⟩
      have hw := hw v_16 ev_16
      refine lv_iinc (v := v_16) (lv' := [(2, .int v_16), (1, .int v_15), (0, .ref o)]) hx hb dX0_freeFinders_26 hl (k := 2) rfl (by rw [ev_16]; rfl) (by decide) rfl (fun ls hl => ?_)
      refine lv_goto (tgt := 4) hx hb dX0_freeFinders_29 (by decide) ?_
      exact ih_4 (v_15, v_16) _ _ _ hw hW hS (lv_sub hl [2, 1, 0] rfl)
set_option maxHeartbeats 4000000 in
set_option maxRecDepth 100000 in
theorem c_X0_freeConnectors {l : Launch} {g : GG} {lay : LY} {E0 : ES} {o : Nat} {X : ES} {K : Int32 → Prop} (hA : okL g lay) (HB : XL g lay o) (hX : ∀ k, k < 26 → E0 (o + k) = X k) (hw : wp_X0_freeConnectors X K) : JMi l g lay yX0_freeConnectors wsX0_freeConnectors rmX0_freeConnectors [.ref o] E0 (fun r E1 => E1 = E0 ∧ K r) := by
  refine Met.ofW (cc := cX0_freeConnectors) (maxL := 3) (ret := (some .int)) (by decide) rfl ?_
  intro p e s m args below meth c s₁ B hml hv
  obtain ⟨rfl, hK, hW⟩ := hv
  have hx := B.exec
  have hb := B.bytes
  have hr := B.returns
  have hts := gd_of (atoms_spec (ws := wsX0_freeConnectors) B.pre)
  have hown : s.vm.findClass RX0 = some m.cls := findClass_of_methodNamed B.named
  have hlocks := B.notSynchronized
  have hS : va_S (Ab g) s.heap s.heap [] := va_S.rf
  have hl := lv_entry [.ref o] (n := 3) (Nat.le_of_ble_eq_true rfl)
  rw [lg_entry_eq]
  generalize (lg_sl [.ref o] ++ List.replicate (3 - (lg_sl [.ref o]).length) Slot.unset).toArray = ls at hl ⊢
  have hl : lv_has ls 3 [(0, .ref o)] := hl
  unfold wp_X0_freeConnectors at hw
  refine lv_iconst (v := 4) hx hb dX0_freeConnectors_0 (by decide) ?_
  refine lv_aload_n hx hb dX0_freeConnectors_1 rfl (lv_at hl 0 rfl) ?_
  refine g_X0_49 hx hb hown hts hK hW HB.1 (hX 0 (by decide)) dX0_freeConnectors_2 ?_
  refine lv_imul hx hb dX0_freeConnectors_5 ?_
  refine lv_topi (fun v_1 ev_1 => ?_)
  have hw := hw v_1 ev_1
  refine lv_istore_n (lv' := [(1, .int v_1), (0, .ref o)]) hx hb dX0_freeConnectors_6 rfl hl (by decide) rfl (fun ls hl => ?_)
  refine lv_iconst (v := 0) hx hb dX0_freeConnectors_7 (by decide) ?_
  refine lv_istore_n (lv' := [(2, .int 0), (1, .int v_1), (0, .ref o)]) hx hb dX0_freeConnectors_8 rfl hl (by decide) rfl (fun ls hl => ?_)
  obtain ⟨n_22, hw⟩ := hw
  refine w_loop (KT := Int32 → Int32 → Prop) (σ := Int32 × Int32) (Wl := fun Kx_9 n_9 q => wpl_X0_freeConnectors_9 X K Kx_9 n_9 q.1 q.2) (Pw := fun q => Wd g lay (E0)) (lvf := fun q => [(0, .ref o), (1, .int q.1), (2, .int q.2)]) (nL := 3) n_22 (v_1, 0) hw hW hS (lv_sub hl [2, 1, 0] rfl) (fun _ h => h) (fun Kx_9 eK_9 n_9 q H locs ls hw hW hS hl ih_9 => ?_)
  obtain ⟨i_2, i_3⟩ := q
  try dsimp only at hw
  rw [wpl_X0_freeConnectors_9] at hw
  have hl : lv_has ls 3 [(0, .ref o), (1, .int i_2), (2, .int i_3)] := hl
  have hW : Wd g lay (E0) H := hW
  refine lv_iload_n hx hb dX0_freeConnectors_9 rfl (lv_at hl 2 rfl) ?_
  refine lv_aload_n hx hb dX0_freeConnectors_10 rfl (lv_at hl 0 rfl) ?_
  refine g_X0_45 hx hb hown hts hK hW HB.1 (hX 0 (by decide)) dX0_freeConnectors_11 ?_
  refine lv_icmp_ge (tgt := 37) hx hb dX0_freeConnectors_14 (by decide) (fun c_14 => ?_) (fun c_14 => ?_)
  · have hw := hw.1 c_14
    rw [eK_9] at hw
    refine lv_iload_n hx hb dX0_freeConnectors_37 rfl (lv_at hl 1 rfl) ?_
    exact w_iret hx hb hr hlocks hW hS ⟨rfl, hw⟩ dX0_freeConnectors_38
  · have hw := hw.2 c_14
    refine lv_aload_n hx hb dX0_freeConnectors_17 rfl (lv_at hl 0 rfl) ?_
    refine lv_iload_n hx hb dX0_freeConnectors_18 rfl (lv_at hl 2 rfl) ?_
    refine w_cvr (As := [.int i_3]) (rest := []) hx hb hml hown hts hK hW hS hl.1 (c_X0_finderAt hA HB i_3) (k_X0_90 hts ⟨Nat.le_of_ble_eq_true rfl, Nat.le_of_ble_eq_true rfl⟩) (w_recv hK hW HB.1 (hX 0 (by decide)) rfl rfl) rfl rfl (Nat.le_of_ble_eq_true rfl) dX0_freeConnectors_19 ⟨Nat.zero_le _, Nat.zero_le _⟩ (fun q_15 Ez H locs hw2 hW hS => ?_)
    obtain ⟨ez, rfl⟩ := hw2
    rw [ez] at hW
    refine w_cvi (As := []) (rest := []) hx hb hml hown hts hK hW hS hl.1 (c_X1_holdsConnector hA (HB.2.2.2.2.2 _ (isFi_fix i_3)) (hX (fix i_3) (isFi_lt (isFi_fix i_3))) hw) (k_X0_232 hts ⟨Nat.le_of_ble_eq_true rfl, Nat.le_of_ble_eq_true rfl⟩) (w_recv hK hW (HB.2.2.2.2.2 _ (isFi_fix i_3)) (hX (fix i_3) (isFi_lt (isFi_fix i_3))) rfl rfl) rfl rfl (Nat.le_of_ble_eq_true rfl) dX0_freeConnectors_22 ⟨Nat.zero_le _, Nat.zero_le _⟩ (fun r_16 Ez H locs hw2 hW hS => ?_)
    obtain ⟨ez, z_17, hw⟩ := hw2
    rw [ez] at hW
    refine lv_if_eq (tgt := 31) hx hb dX0_freeConnectors_25 (by decide) (fun c_18 => ?_) (fun c_18 => ?_)
    · have hw := hw.1 c_18
      obtain ⟨v_19, ev_19⟩ : ∃ z : Int32, z = i_3 + 1 := ⟨_, rfl⟩
      have hw := hw v_19 ev_19
      refine lv_iinc (v := v_19) (lv' := [(2, .int v_19), (0, .ref o), (1, .int i_2)]) hx hb dX0_freeConnectors_31 hl (k := 2) rfl (by rw [ev_19]; rfl) (by decide) rfl (fun ls hl => ?_)
      refine lv_goto (tgt := 9) hx hb dX0_freeConnectors_34 (by decide) ?_
      exact ih_9 (i_2, v_19) _ _ _ hw hW hS (lv_sub hl [1, 2, 0] rfl)
    · have hw := hw.2 c_18
      obtain ⟨v_20, ev_20⟩ : ∃ z : Int32, z = i_2 + (-1) := ⟨_, rfl⟩
      have hw := hw v_20 ev_20
      refine lv_iinc (v := v_20) (lv' := [(1, .int v_20), (0, .ref o), (2, .int i_3)]) hx hb dX0_freeConnectors_28 hl (k := 1) rfl (by rw [ev_20]; rfl) (by decide) rfl (fun ls hl => ?_)
      obtain ⟨v_21, ev_21⟩ : ∃ z : Int32, z = i_3 + 1 := ⟨_, rfl⟩
      have hw := hw v_21 ev_21
      refine lv_iinc (v := v_21) (lv' := [(2, .int v_21), (1, .int v_20), (0, .ref o)]) hx hb dX0_freeConnectors_31 hl (k := 2) rfl (by rw [ev_21]; rfl) (by decide) rfl (fun ls hl => ?_)
      refine lv_goto (tgt := 9) hx hb dX0_freeConnectors_34 (by decide) ?_
      exact ih_9 (v_20, v_21) _ _ _ hw hW hS (lv_sub hl [2, 1, 0] rfl)
set_option maxHeartbeats 4000000 in
set_option maxRecDepth 100000 in
theorem c_X0_sumOfMeters {l : Launch} {g : GG} {lay : LY} {E0 : ES} {o : Nat} {X : ES} {K : Int32 → Prop} (hA : okL g lay) (HB : XL g lay o) (hX : ∀ k, k < 26 → E0 (o + k) = X k) (hw : wp_X0_sumOfMeters X K) : JMi l g lay yX0_sumOfMeters wsX0_sumOfMeters rmX0_sumOfMeters [.ref o] E0 (fun r E1 => E1 = E0 ∧ K r) := by
  refine Met.ofW (cc := cX0_sumOfMeters) (maxL := 3) (ret := (some .int)) (by decide) rfl ?_
  intro p e s m args below meth c s₁ B hml hv
  obtain ⟨rfl, hK, hW⟩ := hv
  have hx := B.exec
  have hb := B.bytes
  have hr := B.returns
  have hts := gd_of (atoms_spec (ws := wsX0_sumOfMeters) B.pre)
  have hown : s.vm.findClass RX0 = some m.cls := findClass_of_methodNamed B.named
  have hlocks := B.notSynchronized
  have hS : va_S (Ab g) s.heap s.heap [] := va_S.rf
  have hl := lv_entry [.ref o] (n := 3) (Nat.le_of_ble_eq_true rfl)
  rw [lg_entry_eq]
  generalize (lg_sl [.ref o] ++ List.replicate (3 - (lg_sl [.ref o]).length) Slot.unset).toArray = ls at hl ⊢
  have hl : lv_has ls 3 [(0, .ref o)] := hl
  unfold wp_X0_sumOfMeters at hw
  refine lv_iconst (v := 0) hx hb dX0_sumOfMeters_0 (by decide) ?_
  refine lv_istore_n (lv' := [(1, .int 0), (0, .ref o)]) hx hb dX0_sumOfMeters_1 rfl hl (by decide) rfl (fun ls hl => ?_)
  refine lv_iconst (v := 0) hx hb dX0_sumOfMeters_2 (by decide) ?_
  refine lv_istore_n (lv' := [(2, .int 0), (1, .int 0), (0, .ref o)]) hx hb dX0_sumOfMeters_3 rfl hl (by decide) rfl (fun ls hl => ?_)
  obtain ⟨n_13, hw⟩ := hw
  refine w_loop (KT := Int32 → Int32 → Prop) (σ := Int32 × Int32) (Wl := fun Kx_4 n_4 q => wpl_X0_sumOfMeters_4 X K Kx_4 n_4 q.1 q.2) (Pw := fun q => Wd g lay (E0)) (lvf := fun q => [(0, .ref o), (1, .int q.1), (2, .int q.2)]) (nL := 3) n_13 (0, 0) hw hW hS (lv_sub hl [2, 1, 0] rfl) (fun _ h => h) (fun Kx_4 eK_4 n_4 q H locs ls hw hW hS hl ih_4 => ?_)
  obtain ⟨i_1, i_2⟩ := q
  try dsimp only at hw
  rw [wpl_X0_sumOfMeters_4] at hw
  have hl : lv_has ls 3 [(0, .ref o), (1, .int i_1), (2, .int i_2)] := hl
  have hW : Wd g lay (E0) H := hW
  refine lv_iload_n hx hb dX0_sumOfMeters_4 rfl (lv_at hl 2 rfl) ?_
  refine lv_bipush (v := 16) hx hb dX0_sumOfMeters_5 (by decide) ?_
  refine lv_icmp_ge (tgt := 27) hx hb dX0_sumOfMeters_7 (by decide) (fun c_9 => ?_) (fun c_9 => ?_)
  · have hw := hw.1 c_9
    rw [eK_4] at hw
    refine lv_iload_n hx hb dX0_sumOfMeters_27 rfl (lv_at hl 1 rfl) ?_
    exact w_iret hx hb hr hlocks hW hS ⟨rfl, hw⟩ dX0_sumOfMeters_28
  · have hw := hw.2 c_9
    refine lv_iload_n hx hb dX0_sumOfMeters_10 rfl (lv_at hl 1 rfl) ?_
    refine lv_aload_n hx hb dX0_sumOfMeters_11 rfl (lv_at hl 0 rfl) ?_
    refine lv_iload_n hx hb dX0_sumOfMeters_12 rfl (lv_at hl 2 rfl) ?_
    refine w_cvr (As := [.int i_2]) (rest := [.int i_1]) hx hb hml hown hts hK hW hS hl.1 (c_X0_lineAt hA HB i_2) (k_X0_83 hts ⟨Nat.le_of_ble_eq_true rfl, Nat.le_of_ble_eq_true rfl⟩) (w_recv hK hW HB.1 (hX 0 (by decide)) rfl rfl) rfl rfl (Nat.le_of_ble_eq_true rfl) dX0_sumOfMeters_13 ⟨Nat.zero_le _, Nat.zero_le _⟩ (fun q_10 Ez H locs hw2 hW hS => ?_)
    obtain ⟨ez, rfl⟩ := hw2
    rw [ez] at hW
    refine g_X0_214 hx hb hown hts hK hW (HB.2.2.2.2.1 _ (isLi_lix i_2)) (hX (lix i_2) (isLi_lt (isLi_lix i_2))) dX0_sumOfMeters_16 ?_
    refine lv_iadd hx hb dX0_sumOfMeters_19 ?_
    refine lv_topi (fun v_11 ev_11 => ?_)
    have hw := hw v_11 ev_11
    refine lv_istore_n (lv' := [(1, .int v_11), (0, .ref o), (2, .int i_2)]) hx hb dX0_sumOfMeters_20 rfl hl (by decide) rfl (fun ls hl => ?_)
    obtain ⟨v_12, ev_12⟩ : ∃ z : Int32, z = i_2 + 1 := ⟨_, rfl⟩
    have hw := hw v_12 ev_12
    refine lv_iinc (v := v_12) (lv' := [(2, .int v_12), (1, .int v_11), (0, .ref o)]) hx hb dX0_sumOfMeters_21 hl (k := 2) rfl (by rw [ev_12]; rfl) (by decide) rfl (fun ls hl => ?_)
    refine lv_goto (tgt := 4) hx hb dX0_sumOfMeters_24 (by decide) ?_
    exact ih_4 (v_11, v_12) _ _ _ hw hW hS (lv_sub hl [2, 1, 0] rfl)
set_option maxHeartbeats 4000000 in
set_option maxRecDepth 100000 in
theorem c_X0_liftedLines {l : Launch} {g : GG} {lay : LY} {E0 : ES} {o : Nat} {X : ES} {K : Int32 → Prop} (hA : okL g lay) (HB : XL g lay o) (hX : ∀ k, k < 26 → E0 (o + k) = X k) (hw : wp_X0_liftedLines X K) : JMi l g lay yX0_liftedLines wsX0_liftedLines rmX0_liftedLines [.ref o] E0 (fun r E1 => E1 = E0 ∧ K r) := by
  refine Met.ofW (cc := cX0_liftedLines) (maxL := 3) (ret := (some .int)) (by decide) rfl ?_
  intro p e s m args below meth c s₁ B hml hv
  obtain ⟨rfl, hK, hW⟩ := hv
  have hx := B.exec
  have hb := B.bytes
  have hr := B.returns
  have hts := gd_of (atoms_spec (ws := wsX0_liftedLines) B.pre)
  have hown : s.vm.findClass RX0 = some m.cls := findClass_of_methodNamed B.named
  have hlocks := B.notSynchronized
  have hS : va_S (Ab g) s.heap s.heap [] := va_S.rf
  have hl := lv_entry [.ref o] (n := 3) (Nat.le_of_ble_eq_true rfl)
  rw [lg_entry_eq]
  generalize (lg_sl [.ref o] ++ List.replicate (3 - (lg_sl [.ref o]).length) Slot.unset).toArray = ls at hl ⊢
  have hl : lv_has ls 3 [(0, .ref o)] := hl
  unfold wp_X0_liftedLines at hw
  refine lv_iconst (v := 0) hx hb dX0_liftedLines_0 (by decide) ?_
  refine lv_istore_n (lv' := [(1, .int 0), (0, .ref o)]) hx hb dX0_liftedLines_1 rfl hl (by decide) rfl (fun ls hl => ?_)
  refine lv_iconst (v := 0) hx hb dX0_liftedLines_2 (by decide) ?_
  refine lv_istore_n (lv' := [(2, .int 0), (1, .int 0), (0, .ref o)]) hx hb dX0_liftedLines_3 rfl hl (by decide) rfl (fun ls hl => ?_)
  obtain ⟨n_17, hw⟩ := hw
  refine w_loop (KT := Int32 → Int32 → Prop) (σ := Int32 × Int32) (Wl := fun Kx_4 n_4 q => wpl_X0_liftedLines_4 X K Kx_4 n_4 q.1 q.2) (Pw := fun q => Wd g lay (E0)) (lvf := fun q => [(0, .ref o), (1, .int q.1), (2, .int q.2)]) (nL := 3) n_17 (0, 0) hw hW hS (lv_sub hl [2, 1, 0] rfl) (fun _ h => h) (fun Kx_4 eK_4 n_4 q H locs ls hw hW hS hl ih_4 => ?_)
  obtain ⟨i_1, i_2⟩ := q
  try dsimp only at hw
  rw [wpl_X0_liftedLines_4] at hw
  have hl : lv_has ls 3 [(0, .ref o), (1, .int i_1), (2, .int i_2)] := hl
  have hW : Wd g lay (E0) H := hW
  refine lv_iload_n hx hb dX0_liftedLines_4 rfl (lv_at hl 2 rfl) ?_
  refine lv_bipush (v := 16) hx hb dX0_liftedLines_5 (by decide) ?_
  refine lv_icmp_ge (tgt := 30) hx hb dX0_liftedLines_7 (by decide) (fun c_11 => ?_) (fun c_11 => ?_)
  · have hw := hw.1 c_11
    rw [eK_4] at hw
    refine lv_iload_n hx hb dX0_liftedLines_30 rfl (lv_at hl 1 rfl) ?_
    exact w_iret hx hb hr hlocks hW hS ⟨rfl, hw⟩ dX0_liftedLines_31
  · have hw := hw.2 c_11
    refine lv_aload_n hx hb dX0_liftedLines_10 rfl (lv_at hl 0 rfl) ?_
    refine lv_iload_n hx hb dX0_liftedLines_11 rfl (lv_at hl 2 rfl) ?_
    refine w_cvr (As := [.int i_2]) (rest := []) hx hb hml hown hts hK hW hS hl.1 (c_X0_lineAt hA HB i_2) (k_X0_83 hts ⟨Nat.le_of_ble_eq_true rfl, Nat.le_of_ble_eq_true rfl⟩) (w_recv hK hW HB.1 (hX 0 (by decide)) rfl rfl) rfl rfl (Nat.le_of_ble_eq_true rfl) dX0_liftedLines_12 ⟨Nat.zero_le _, Nat.zero_le _⟩ (fun q_12 Ez H locs hw2 hW hS => ?_)
    obtain ⟨ez, rfl⟩ := hw2
    rw [ez] at hW
    refine g_X0_102 hx hb hown hts hK hW (HB.2.2.2.2.1 _ (isLi_lix i_2)) (hX (lix i_2) (isLi_lt (isLi_lix i_2))) dX0_liftedLines_15 ?_
    refine lv_if_eq (tgt := 24) hx hb dX0_liftedLines_18 (by decide) (fun c_13 => ?_) (fun c_13 => ?_)
    · have hw := hw.1 c_13
      obtain ⟨v_14, ev_14⟩ : ∃ z : Int32, z = i_2 + 1 := ⟨_, rfl⟩
      have hw := hw v_14 ev_14
      refine lv_iinc (v := v_14) (lv' := [(2, .int v_14), (0, .ref o), (1, .int i_1)]) hx hb dX0_liftedLines_24 hl (k := 2) rfl (by rw [ev_14]; rfl) (by decide) rfl (fun ls hl => ?_)
      refine lv_goto (tgt := 4) hx hb dX0_liftedLines_27 (by decide) ?_
      exact ih_4 (i_1, v_14) _ _ _ hw hW hS (lv_sub hl [1, 2, 0] rfl)
    · have hw := hw.2 c_13
      obtain ⟨v_15, ev_15⟩ : ∃ z : Int32, z = i_1 + 1 := ⟨_, rfl⟩
      have hw := hw v_15 ev_15
      refine lv_iinc (v := v_15) (lv' := [(1, .int v_15), (0, .ref o), (2, .int i_2)]) hx hb dX0_liftedLines_21 hl (k := 1) rfl (by rw [ev_15]; rfl) (by decide) rfl (fun ls hl => ?_)
      obtain ⟨v_16, ev_16⟩ : ∃ z : Int32, z = i_2 + 1 := ⟨_, rfl⟩
      have hw := hw v_16 ev_16
      refine lv_iinc (v := v_16) (lv' := [(2, .int v_16), (1, .int v_15), (0, .ref o)]) hx hb dX0_liftedLines_24 hl (k := 2) rfl (by rw [ev_16]; rfl) (by decide) rfl (fun ls hl => ?_)
      refine lv_goto (tgt := 4) hx hb dX0_liftedLines_27 (by decide) ?_
      exact ih_4 (v_15, v_16) _ _ _ hw hW hS (lv_sub hl [2, 1, 0] rfl)
set_option maxHeartbeats 4000000 in
set_option maxRecDepth 100000 in
theorem c_X0_numberFor {l : Launch} {g : GG} {lay : LY} {E0 : ES} {o : Nat} {X : ES} {p1 : Int32} {K : Int32 → Prop} (hA : okL g lay) (HB : XL g lay o) (hX : ∀ k, k < 26 → E0 (o + k) = X k) (hw : wp_X0_numberFor X p1 K) : JMi l g lay yX0_numberFor wsX0_numberFor rmX0_numberFor [.ref o, .int p1] E0 (fun r E1 => E1 = E0 ∧ K r) := by
  refine Met.ofW (cc := cX0_numberFor) (maxL := 2) (ret := (some .int)) (by decide) rfl ?_
  intro p e s m args below meth c s₁ B hml hv
  obtain ⟨rfl, hK, hW⟩ := hv
  have hx := B.exec
  have hb := B.bytes
  have hr := B.returns
  have hts := gd_of (atoms_spec (ws := wsX0_numberFor) B.pre)
  have hown : s.vm.findClass RX0 = some m.cls := findClass_of_methodNamed B.named
  have hlocks := B.notSynchronized
  have hS : va_S (Ab g) s.heap s.heap [] := va_S.rf
  have hl := lv_entry [.ref o, .int p1] (n := 2) (Nat.le_of_ble_eq_true rfl)
  rw [lg_entry_eq]
  generalize (lg_sl [.ref o, .int p1] ++ List.replicate (2 - (lg_sl [.ref o, .int p1]).length) Slot.unset).toArray = ls at hl ⊢
  have hl : lv_has ls 2 [(0, .ref o), (1, .int p1)] := hl
  unfold wp_X0_numberFor at hw
  refine lv_iload_n hx hb dX0_numberFor_0 rfl (lv_at hl 1 rfl) ?_
  by_cases c_1 : p1 = 0
  · have hw := hw.1 c_1
    refine lv_tableIn (tgt := 72) hx hb dX0_numberFor_1 (by rw [c_1]; decide) (by rw [c_1]; decide) (by rw [c_1] <;> rfl) (by decide) ?_
    refine lv_aload_n hx hb dX0_numberFor_72 rfl (lv_at hl 0 rfl) ?_
    refine g_X0_52 hx hb hown hts hK hW HB.1 (hX 0 (by decide)) dX0_numberFor_73 ?_
    exact w_iret hx hb hr hlocks hW hS ⟨rfl, hw⟩ dX0_numberFor_76
  · have hw := hw.2 c_1
    by_cases c_2 : p1 = 1
    · have hw := hw.1 c_2
      refine lv_tableIn (tgt := 77) hx hb dX0_numberFor_1 (by rw [c_2]; decide) (by rw [c_2]; decide) (by rw [c_2] <;> rfl) (by decide) ?_
      refine lv_aload_n hx hb dX0_numberFor_77 rfl (lv_at hl 0 rfl) ?_
      refine g_X0_45 hx hb hown hts hK hW HB.1 (hX 0 (by decide)) dX0_numberFor_78 ?_
      exact w_iret hx hb hr hlocks hW hS ⟨rfl, hw⟩ dX0_numberFor_81
    · have hw := hw.2 c_2
      by_cases c_3 : p1 = 2
      · have hw := hw.1 c_3
        refine lv_tableIn (tgt := 82) hx hb dX0_numberFor_1 (by rw [c_3]; decide) (by rw [c_3]; decide) (by rw [c_3] <;> rfl) (by decide) ?_
        refine lv_aload_n hx hb dX0_numberFor_82 rfl (lv_at hl 0 rfl) ?_
        refine g_X0_49 hx hb hown hts hK hW HB.1 (hX 0 (by decide)) dX0_numberFor_83 ?_
        exact w_iret hx hb hr hlocks hW hS ⟨rfl, hw⟩ dX0_numberFor_86
      · have hw := hw.2 c_3
        by_cases c_4 : p1 = 3
        · have hw := hw.1 c_4
          refine lv_tableIn (tgt := 87) hx hb dX0_numberFor_1 (by rw [c_4]; decide) (by rw [c_4]; decide) (by rw [c_4] <;> rfl) (by decide) ?_
          refine lv_aload_n hx hb dX0_numberFor_87 rfl (lv_at hl 0 rfl) ?_
          refine w_cvi (As := []) (rest := []) hx hb hml hown hts hK hW hS hl.1 (c_X0_freeFinders hA HB hX  hw) (k_X0_261 hts ⟨Nat.le_of_ble_eq_true rfl, Nat.le_of_ble_eq_true rfl⟩) (w_recv hK hW HB.1 (hX 0 (by decide)) rfl rfl) rfl rfl (Nat.le_of_ble_eq_true rfl) dX0_numberFor_88 ⟨Nat.zero_le _, Nat.zero_le _⟩ (fun r_5 Ez H locs hw2 hW hS => ?_)
          obtain ⟨ez, hw⟩ := hw2
          rw [ez] at hW
          exact w_iret hx hb hr hlocks hW hS ⟨rfl, hw⟩ dX0_numberFor_91
        · have hw := hw.2 c_4
          by_cases c_6 : p1 = 4
          · have hw := hw.1 c_6
            refine lv_tableIn (tgt := 92) hx hb dX0_numberFor_1 (by rw [c_6]; decide) (by rw [c_6]; decide) (by rw [c_6] <;> rfl) (by decide) ?_
            refine lv_aload_n hx hb dX0_numberFor_92 rfl (lv_at hl 0 rfl) ?_
            refine w_cvi (As := []) (rest := []) hx hb hml hown hts hK hW hS hl.1 (c_X0_freeConnectors hA HB hX  hw) (k_X0_264 hts ⟨Nat.le_of_ble_eq_true rfl, Nat.le_of_ble_eq_true rfl⟩) (w_recv hK hW HB.1 (hX 0 (by decide)) rfl rfl) rfl rfl (Nat.le_of_ble_eq_true rfl) dX0_numberFor_93 ⟨Nat.zero_le _, Nat.zero_le _⟩ (fun r_7 Ez H locs hw2 hW hS => ?_)
            obtain ⟨ez, hw⟩ := hw2
            rw [ez] at hW
            exact w_iret hx hb hr hlocks hW hS ⟨rfl, hw⟩ dX0_numberFor_96
          · have hw := hw.2 c_6
            by_cases c_8 : p1 = 5
            · have hw := hw.1 c_8
              refine lv_tableIn (tgt := 97) hx hb dX0_numberFor_1 (by rw [c_8]; decide) (by rw [c_8]; decide) (by rw [c_8] <;> rfl) (by decide) ?_
              refine lv_aload_n hx hb dX0_numberFor_97 rfl (lv_at hl 0 rfl) ?_
              refine w_cvi (As := []) (rest := []) hx hb hml hown hts hK hW hS hl.1 (c_X0_sumOfMeters hA HB hX  hw) (k_X0_267 hts ⟨Nat.le_of_ble_eq_true rfl, Nat.le_of_ble_eq_true rfl⟩) (w_recv hK hW HB.1 (hX 0 (by decide)) rfl rfl) rfl rfl (Nat.le_of_ble_eq_true rfl) dX0_numberFor_98 ⟨Nat.zero_le _, Nat.zero_le _⟩ (fun r_9 Ez H locs hw2 hW hS => ?_)
              obtain ⟨ez, hw⟩ := hw2
              rw [ez] at hW
              exact w_iret hx hb hr hlocks hW hS ⟨rfl, hw⟩ dX0_numberFor_101
            · have hw := hw.2 c_8
              by_cases c_10 : p1 = 6
              · have hw := hw.1 c_10
                refine lv_tableIn (tgt := 102) hx hb dX0_numberFor_1 (by rw [c_10]; decide) (by rw [c_10]; decide) (by rw [c_10] <;> rfl) (by decide) ?_
                refine lv_aload_n hx hb dX0_numberFor_102 rfl (lv_at hl 0 rfl) ?_
                refine g_X0_58 hx hb hown hts hK hW HB.1 (hX 0 (by decide)) dX0_numberFor_103 ?_
                exact w_iret hx hb hr hlocks hW hS ⟨rfl, hw⟩ dX0_numberFor_106
              · have hw := hw.2 c_10
                by_cases c_11 : p1 = 7
                · have hw := hw.1 c_11
                  refine lv_tableIn (tgt := 107) hx hb dX0_numberFor_1 (by rw [c_11]; decide) (by rw [c_11]; decide) (by rw [c_11] <;> rfl) (by decide) ?_
                  refine lv_aload_n hx hb dX0_numberFor_107 rfl (lv_at hl 0 rfl) ?_
                  refine g_X0_61 hx hb hown hts hK hW HB.1 (hX 0 (by decide)) dX0_numberFor_108 ?_
                  exact w_iret hx hb hr hlocks hW hS ⟨rfl, hw⟩ dX0_numberFor_111
                · have hw := hw.2 c_11
                  by_cases c_12 : p1 = 8
                  · have hw := hw.1 c_12
                    refine lv_tableIn (tgt := 112) hx hb dX0_numberFor_1 (by rw [c_12]; decide) (by rw [c_12]; decide) (by rw [c_12] <;> rfl) (by decide) ?_
                    refine lv_aload_n hx hb dX0_numberFor_112 rfl (lv_at hl 0 rfl) ?_
                    refine g_X0_64 hx hb hown hts hK hW HB.1 (hX 0 (by decide)) dX0_numberFor_113 ?_
                    exact w_iret hx hb hr hlocks hW hS ⟨rfl, hw⟩ dX0_numberFor_116
                  · have hw := hw.2 c_12
                    by_cases c_13 : p1 = 9
                    · have hw := hw.1 c_13
                      refine lv_tableIn (tgt := 117) hx hb dX0_numberFor_1 (by rw [c_13]; decide) (by rw [c_13]; decide) (by rw [c_13] <;> rfl) (by decide) ?_
                      refine lv_aload_n hx hb dX0_numberFor_117 rfl (lv_at hl 0 rfl) ?_
                      refine g_X0_67 hx hb hown hts hK hW HB.1 (hX 0 (by decide)) dX0_numberFor_118 ?_
                      exact w_iret hx hb hr hlocks hW hS ⟨rfl, hw⟩ dX0_numberFor_121
                    · have hw := hw.2 c_13
                      by_cases c_14 : p1 = 10
                      · have hw := hw.1 c_14
                        refine lv_tableIn (tgt := 122) hx hb dX0_numberFor_1 (by rw [c_14]; decide) (by rw [c_14]; decide) (by rw [c_14] <;> rfl) (by decide) ?_
                        refine lv_aload_n hx hb dX0_numberFor_122 rfl (lv_at hl 0 rfl) ?_
                        refine g_X0_70 hx hb hown hts hK hW HB.1 (hX 0 (by decide)) dX0_numberFor_123 ?_
                        exact w_iret hx hb hr hlocks hW hS ⟨rfl, hw⟩ dX0_numberFor_126
                      · have hw := hw.2 c_14
                        by_cases c_15 : p1 = 11
                        · have hw := hw.1 c_15
                          refine lv_tableIn (tgt := 127) hx hb dX0_numberFor_1 (by rw [c_15]; decide) (by rw [c_15]; decide) (by rw [c_15] <;> rfl) (by decide) ?_
                          refine lv_aload_n hx hb dX0_numberFor_127 rfl (lv_at hl 0 rfl) ?_
                          refine g_X0_73 hx hb hown hts hK hW HB.1 (hX 0 (by decide)) dX0_numberFor_128 ?_
                          exact w_iret hx hb hr hlocks hW hS ⟨rfl, hw⟩ dX0_numberFor_131
                        · have hw := hw.2 c_15
                          by_cases c_16 : p1 = 12
                          · have hw := hw.1 c_16
                            refine lv_tableIn (tgt := 132) hx hb dX0_numberFor_1 (by rw [c_16]; decide) (by rw [c_16]; decide) (by rw [c_16] <;> rfl) (by decide) ?_
                            refine lv_aload_n hx hb dX0_numberFor_132 rfl (lv_at hl 0 rfl) ?_
                            refine g_X0_76 hx hb hown hts hK hW HB.1 (hX 0 (by decide)) dX0_numberFor_133 ?_
                            exact w_iret hx hb hr hlocks hW hS ⟨rfl, hw⟩ dX0_numberFor_136
                          · have hw := hw.2 c_16
                            by_cases c_17 : p1 = 13
                            · have hw := hw.1 c_17
                              refine lv_tableIn (tgt := 137) hx hb dX0_numberFor_1 (by rw [c_17]; decide) (by rw [c_17]; decide) (by rw [c_17] <;> rfl) (by decide) ?_
                              refine lv_aload_n hx hb dX0_numberFor_137 rfl (lv_at hl 0 rfl) ?_
                              refine w_cvi (As := []) (rest := []) hx hb hml hown hts hK hW hS hl.1 (c_X0_liftedLines hA HB hX  hw) (k_X0_270 hts ⟨Nat.le_of_ble_eq_true rfl, Nat.le_of_ble_eq_true rfl⟩) (w_recv hK hW HB.1 (hX 0 (by decide)) rfl rfl) rfl rfl (Nat.le_of_ble_eq_true rfl) dX0_numberFor_138 ⟨Nat.zero_le _, Nat.zero_le _⟩ (fun r_18 Ez H locs hw2 hW hS => ?_)
                              obtain ⟨ez, hw⟩ := hw2
                              rw [ez] at hW
                              exact w_iret hx hb hr hlocks hW hS ⟨rfl, hw⟩ dX0_numberFor_141
                            · have hw := hw.2 c_17
                              refine lv_tableOut (tgt := 142) hx hb dX0_numberFor_1 (by have zc_1 := lv_neT (a := 0) c_1 rfl; have zc_2 := lv_neT (a := 1) c_2 rfl; have zc_3 := lv_neT (a := 2) c_3 rfl; have zc_4 := lv_neT (a := 3) c_4 rfl; have zc_6 := lv_neT (a := 4) c_6 rfl; have zc_8 := lv_neT (a := 5) c_8 rfl; have zc_10 := lv_neT (a := 6) c_10 rfl; have zc_11 := lv_neT (a := 7) c_11 rfl; have zc_12 := lv_neT (a := 8) c_12 rfl; have zc_13 := lv_neT (a := 9) c_13 rfl; have zc_14 := lv_neT (a := 10) c_14 rfl; have zc_15 := lv_neT (a := 11) c_15 rfl; have zc_16 := lv_neT (a := 12) c_16 rfl; have zc_17 := lv_neT (a := 13) c_17 rfl; omega) (by decide) ?_
                              refine lv_aload_n hx hb dX0_numberFor_142 rfl (lv_at hl 0 rfl) ?_
                              refine lv_iload_n hx hb dX0_numberFor_143 rfl (lv_at hl 1 rfl) ?_
                              refine lv_bipush (v := 15) hx hb dX0_numberFor_144 (by decide) ?_
                              refine lv_isub hx hb dX0_numberFor_146 ?_
                              refine w_cvi (As := [.int (p1 - 15)]) (rest := []) hx hb hml hown hts hK hW hS hl.1 (c_X0_settingAt hA HB hX  hw) (k_X0_79 hts ⟨Nat.le_of_ble_eq_true rfl, Nat.le_of_ble_eq_true rfl⟩) (w_recv hK hW HB.1 (hX 0 (by decide)) rfl rfl) rfl rfl (Nat.le_of_ble_eq_true rfl) dX0_numberFor_147 ⟨Nat.zero_le _, Nat.zero_le _⟩ (fun r_19 Ez H locs hw2 hW hS => ?_)
                              obtain ⟨ez, hw⟩ := hw2
                              rw [ez] at hW
                              exact w_iret hx hb hr hlocks hW hS ⟨rfl, hw⟩ dX0_numberFor_150
end
section
set_option maxHeartbeats 4000000 in
set_option maxRecDepth 100000 in
theorem c_X4_setUp {l : Launch} {g : GG} {lay : LY} {E0 : ES} {o : Nat} {sv : Nat → Option Nat} {p1 : Int32} {p2 : Int32} {K : Int32 → ES → Prop} (hA : okL g lay) (HR : RL4 g lay o sv) (hw : wp_X4_setUp o E0 p1 p2 K) : JMi l g lay yX4_setUp wsX4_setUp rmX4_setUp [.ref o, .int p1, .int p2] E0 (fun r E1 => K r E1) := by
  refine Met.ofW (cc := cX4_setUp) (maxL := 4) (ret := (some .int)) (by decide) rfl ?_
  intro p e s m args below meth c s₁ B hml hv
  obtain ⟨rfl, hK, hW⟩ := hv
  have hx := B.exec
  have hb := B.bytes
  have hr := B.returns
  have hts := gd_of (atoms_spec (ws := wsX4_setUp) B.pre)
  have hown : s.vm.findClass RX4 = some m.cls := findClass_of_methodNamed B.named
  have hlocks := B.notSynchronized
  have hS : va_S (Ab g) s.heap s.heap [] := va_S.rf
  have hl := lv_entry [.ref o, .int p1, .int p2] (n := 4) (Nat.le_of_ble_eq_true rfl)
  rw [lg_entry_eq]
  generalize (lg_sl [.ref o, .int p1, .int p2] ++ List.replicate (4 - (lg_sl [.ref o, .int p1, .int p2]).length) Slot.unset).toArray = ls at hl ⊢
  have hl : lv_has ls 4 [(0, .ref o), (1, .int p1), (2, .int p2)] := hl
  unfold wp_X4_setUp at hw
  refine lv_iload_n hx hb dX4_setUp_0 rfl (lv_at hl 1 rfl) ?_
  refine lv_iconst (v := 1) hx hb dX4_setUp_1 (by decide) ?_
  refine lv_iconst (v := 4) hx hb dX4_setUp_2 (by decide) ?_
  refine w_csi (As := [.int p1, .int 1, .int 4]) (rest := []) hx hb hml hown hts hK hW hS hl.1 (c_X4_isWithin hw) (k_X4_30 hts ⟨Nat.le_of_ble_eq_true rfl, Nat.le_of_ble_eq_true rfl⟩) rfl rfl (Nat.le_of_ble_eq_true rfl) dX4_setUp_3 ⟨Nat.zero_le _, Nat.zero_le _⟩ (fun r_1 Ez H locs hw2 hW hS => ?_)
  obtain ⟨ez, z_2, hw⟩ := hw2
  rw [ez] at hW
  refine lv_if_eq (tgt := 18) hx hb dX4_setUp_6 (by decide) (fun c_3 => ?_) (fun c_3 => ?_)
  · have hw := hw.1 c_3
    refine lv_bipush (v := (-2)) hx hb dX4_setUp_18 (by decide) ?_
    exact w_iret hx hb hr hlocks hW hS hw dX4_setUp_20
  · have hw := hw.2 c_3
    refine lv_iload_n hx hb dX4_setUp_9 rfl (lv_at hl 2 rfl) ?_
    refine lv_iconst (v := 1) hx hb dX4_setUp_10 (by decide) ?_
    refine lv_iconst (v := 3) hx hb dX4_setUp_11 (by decide) ?_
    refine w_csi (As := [.int p2, .int 1, .int 3]) (rest := []) hx hb hml hown hts hK hW hS hl.1 (c_X4_isWithin hw) (k_X4_30 hts ⟨Nat.le_of_ble_eq_true rfl, Nat.le_of_ble_eq_true rfl⟩) rfl rfl (Nat.le_of_ble_eq_true rfl) dX4_setUp_12 ⟨Nat.zero_le _, Nat.zero_le _⟩ (fun r_4 Ez H locs hw2 hW hS => ?_)
    obtain ⟨ez, z_5, hw⟩ := hw2
    rw [ez] at hW
    refine lv_if_ne (tgt := 21) hx hb dX4_setUp_15 (by decide) (fun c_6 => ?_) (fun c_6 => ?_)
    · have hw := hw.2 c_6
      refine lv_aload_n hx hb dX4_setUp_21 rfl (lv_at hl 0 rfl) ?_
      refine g_X4_10 hx hb hown hts hK hW HR.1 rfl dX4_setUp_22 ?_
      refine g_X4_34 hx hb hown hts hK hW HR.2.1.1 rfl dX4_setUp_25 ?_
      refine lv_topi (fun v_7 ev_7 => ?_)
      have hw := hw v_7 ev_7
      refine lv_istore_n (lv' := [(3, .int v_7), (0, .ref o), (1, .int p1), (2, .int p2)]) hx hb dX4_setUp_28 rfl hl (by decide) rfl (fun ls hl => ?_)
      refine lv_aload_n hx hb dX4_setUp_29 rfl (lv_at hl 1 rfl) ?_
      refine g_X4_10 hx hb hown hts hK hW HR.1 rfl dX4_setUp_30 ?_
      refine lv_iload_n hx hb dX4_setUp_33 rfl (lv_at hl 2 rfl) ?_
      refine lv_iload_n hx hb dX4_setUp_34 rfl (lv_at hl 3 rfl) ?_
      refine w_cvv (As := [.int p1, .int p2]) (rest := []) hx hb hml hown hts hK hW hS hl.1 (c_X0_renew hA HR.2.1 (fun _ _ => rfl)  hw) (k_X4_38 hts ⟨Nat.le_of_ble_eq_true rfl, Nat.le_of_ble_eq_true rfl⟩) (w_recv hK hW HR.2.1.1 rfl rfl rfl) rfl rfl (Nat.le_of_ble_eq_true rfl) dX4_setUp_35 ⟨Nat.zero_le _, Nat.zero_le _⟩ (fun Ez H locs hw2 hW hS => ?_)
      obtain ⟨Y_8, ez, hw⟩ := hw2
      rw [ez] at hW
      obtain ⟨X_9, eX_9⟩ : ∃ z : ES, z = put 26 (o + 1) Y_8 E0 := ⟨_, rfl⟩
      have hw := hw X_9 eX_9
      rw [← eX_9] at hW
      refine lv_iload_n hx hb dX4_setUp_38 rfl (lv_at hl 0 rfl) ?_
      exact w_iret hx hb hr hlocks hW hS hw dX4_setUp_39
    · have hw := hw.1 c_6
      refine lv_bipush (v := (-2)) hx hb dX4_setUp_18 (by decide) ?_
      exact w_iret hx hb hr hlocks hW hS hw dX4_setUp_20
set_option maxHeartbeats 4000000 in
set_option maxRecDepth 100000 in
theorem c_X4_lift {l : Launch} {g : GG} {lay : LY} {E0 : ES} {o : Nat} {sv : Nat → Option Nat} {p1 : Int32} {K : Int32 → ES → Prop} (hA : okL g lay) (HR : RL4 g lay o sv) (hw : wp_X4_lift o E0 p1 K) : JMi l g lay yX4_lift wsX4_lift rmX4_lift [.ref o, .int p1] E0 (fun r E1 => K r E1) := by
  refine Met.ofW (cc := cX4_lift) (maxL := 2) (ret := (some .int)) (by decide) rfl ?_
  intro p e s m args below meth c s₁ B hml hv
  obtain ⟨rfl, hK, hW⟩ := hv
  have hx := B.exec
  have hb := B.bytes
  have hr := B.returns
  have hts := gd_of (atoms_spec (ws := wsX4_lift) B.pre)
  have hown : s.vm.findClass RX4 = some m.cls := findClass_of_methodNamed B.named
  have hlocks := B.notSynchronized
  have hS : va_S (Ab g) s.heap s.heap [] := va_S.rf
  have hl := lv_entry [.ref o, .int p1] (n := 2) (Nat.le_of_ble_eq_true rfl)
  rw [lg_entry_eq]
  generalize (lg_sl [.ref o, .int p1] ++ List.replicate (2 - (lg_sl [.ref o, .int p1]).length) Slot.unset).toArray = ls at hl ⊢
  have hl : lv_has ls 2 [(0, .ref o), (1, .int p1)] := hl
  unfold wp_X4_lift at hw
  refine lv_iload_n hx hb dX4_lift_0 rfl (lv_at hl 1 rfl) ?_
  refine w_csi (As := [.int p1]) (rest := []) hx hb hml hown hts hK hW hS hl.1 (c_X4_isLine hw) (k_X4_50 hts ⟨Nat.le_of_ble_eq_true rfl, Nat.le_of_ble_eq_true rfl⟩) rfl rfl (Nat.le_of_ble_eq_true rfl) dX4_lift_1 ⟨Nat.zero_le _, Nat.zero_le _⟩ (fun r_1 Ez H locs hw2 hW hS => ?_)
  obtain ⟨ez, z_2, hw⟩ := hw2
  rw [ez] at hW
  refine lv_if_eq (tgt := 18) hx hb dX4_lift_4 (by decide) (fun c_3 => ?_) (fun c_3 => ?_)
  · have hw := hw.1 c_3
    refine lv_iconst (v := (-1)) hx hb dX4_lift_18 (by decide) ?_
    exact w_iret hx hb hr hlocks hW hS hw dX4_lift_19
  · have hw := hw.2 c_3
    refine lv_aload_n hx hb dX4_lift_7 rfl (lv_at hl 0 rfl) ?_
    refine g_X4_10 hx hb hown hts hK hW HR.1 rfl dX4_lift_8 ?_
    refine lv_iload_n hx hb dX4_lift_11 rfl (lv_at hl 1 rfl) ?_
    refine w_cvi (As := [.int p1]) (rest := []) hx hb hml hown hts hK hW hS hl.1 (c_X0_liftLine hA HR.2.1 (fun _ _ => rfl)  hw) (k_X4_54 hts ⟨Nat.le_of_ble_eq_true rfl, Nat.le_of_ble_eq_true rfl⟩) (w_recv hK hW HR.2.1.1 rfl rfl rfl) rfl rfl (Nat.le_of_ble_eq_true rfl) dX4_lift_12 ⟨Nat.zero_le _, Nat.zero_le _⟩ (fun r_4 Ez H locs hw2 hW hS => ?_)
    obtain ⟨Y_5, ez, hw⟩ := hw2
    rw [ez] at hW
    obtain ⟨X_6, eX_6⟩ : ∃ z : ES, z = put 26 (o + 1) Y_5 E0 := ⟨_, rfl⟩
    have hw := hw X_6 eX_6
    rw [← eX_6] at hW
    refine lv_goto (tgt := 19) hx hb dX4_lift_15 (by decide) ?_
    exact w_iret hx hb hr hlocks hW hS hw dX4_lift_19
set_option maxHeartbeats 4000000 in
set_option maxRecDepth 100000 in
theorem c_X4_hang {l : Launch} {g : GG} {lay : LY} {E0 : ES} {o : Nat} {sv : Nat → Option Nat} {p1 : Int32} {K : Int32 → ES → Prop} (hA : okL g lay) (HR : RL4 g lay o sv) (hw : wp_X4_hang o E0 p1 K) : JMi l g lay yX4_hang wsX4_hang rmX4_hang [.ref o, .int p1] E0 (fun r E1 => K r E1) := by
  refine Met.ofW (cc := cX4_hang) (maxL := 2) (ret := (some .int)) (by decide) rfl ?_
  intro p e s m args below meth c s₁ B hml hv
  obtain ⟨rfl, hK, hW⟩ := hv
  have hx := B.exec
  have hb := B.bytes
  have hr := B.returns
  have hts := gd_of (atoms_spec (ws := wsX4_hang) B.pre)
  have hown : s.vm.findClass RX4 = some m.cls := findClass_of_methodNamed B.named
  have hlocks := B.notSynchronized
  have hS : va_S (Ab g) s.heap s.heap [] := va_S.rf
  have hl := lv_entry [.ref o, .int p1] (n := 2) (Nat.le_of_ble_eq_true rfl)
  rw [lg_entry_eq]
  generalize (lg_sl [.ref o, .int p1] ++ List.replicate (2 - (lg_sl [.ref o, .int p1]).length) Slot.unset).toArray = ls at hl ⊢
  have hl : lv_has ls 2 [(0, .ref o), (1, .int p1)] := hl
  unfold wp_X4_hang at hw
  refine lv_iload_n hx hb dX4_hang_0 rfl (lv_at hl 1 rfl) ?_
  refine w_csi (As := [.int p1]) (rest := []) hx hb hml hown hts hK hW hS hl.1 (c_X4_isLine hw) (k_X4_50 hts ⟨Nat.le_of_ble_eq_true rfl, Nat.le_of_ble_eq_true rfl⟩) rfl rfl (Nat.le_of_ble_eq_true rfl) dX4_hang_1 ⟨Nat.zero_le _, Nat.zero_le _⟩ (fun r_1 Ez H locs hw2 hW hS => ?_)
  obtain ⟨ez, z_2, hw⟩ := hw2
  rw [ez] at hW
  refine lv_if_eq (tgt := 18) hx hb dX4_hang_4 (by decide) (fun c_3 => ?_) (fun c_3 => ?_)
  · have hw := hw.1 c_3
    refine lv_iconst (v := (-1)) hx hb dX4_hang_18 (by decide) ?_
    exact w_iret hx hb hr hlocks hW hS hw dX4_hang_19
  · have hw := hw.2 c_3
    refine lv_aload_n hx hb dX4_hang_7 rfl (lv_at hl 0 rfl) ?_
    refine g_X4_10 hx hb hown hts hK hW HR.1 rfl dX4_hang_8 ?_
    refine lv_iload_n hx hb dX4_hang_11 rfl (lv_at hl 1 rfl) ?_
    refine w_cvi (As := [.int p1]) (rest := []) hx hb hml hown hts hK hW hS hl.1 (c_X0_hangLine hA HR.2.1 (fun _ _ => rfl)  hw) (k_X4_58 hts ⟨Nat.le_of_ble_eq_true rfl, Nat.le_of_ble_eq_true rfl⟩) (w_recv hK hW HR.2.1.1 rfl rfl rfl) rfl rfl (Nat.le_of_ble_eq_true rfl) dX4_hang_12 ⟨Nat.zero_le _, Nat.zero_le _⟩ (fun r_4 Ez H locs hw2 hW hS => ?_)
    obtain ⟨Y_5, ez, hw⟩ := hw2
    rw [ez] at hW
    obtain ⟨X_6, eX_6⟩ : ∃ z : ES, z = put 26 (o + 1) Y_5 E0 := ⟨_, rfl⟩
    have hw := hw X_6 eX_6
    rw [← eX_6] at hW
    refine lv_goto (tgt := 19) hx hb dX4_hang_15 (by decide) ?_
    exact w_iret hx hb hr hlocks hW hS hw dX4_hang_19
set_option maxHeartbeats 4000000 in
set_option maxRecDepth 100000 in
theorem c_X4_dial {l : Launch} {g : GG} {lay : LY} {E0 : ES} {o : Nat} {sv : Nat → Option Nat} {p1 : Int32} {p2 : Int32} {K : Int32 → ES → Prop} (hA : okL g lay) (HR : RL4 g lay o sv) (hw : wp_X4_dial o E0 p1 p2 K) : JMi l g lay yX4_dial wsX4_dial rmX4_dial [.ref o, .int p1, .int p2] E0 (fun r E1 => K r E1) := by
  refine Met.ofW (cc := cX4_dial) (maxL := 3) (ret := (some .int)) (by decide) rfl ?_
  intro p e s m args below meth c s₁ B hml hv
  obtain ⟨rfl, hK, hW⟩ := hv
  have hx := B.exec
  have hb := B.bytes
  have hr := B.returns
  have hts := gd_of (atoms_spec (ws := wsX4_dial) B.pre)
  have hown : s.vm.findClass RX4 = some m.cls := findClass_of_methodNamed B.named
  have hlocks := B.notSynchronized
  have hS : va_S (Ab g) s.heap s.heap [] := va_S.rf
  have hl := lv_entry [.ref o, .int p1, .int p2] (n := 3) (Nat.le_of_ble_eq_true rfl)
  rw [lg_entry_eq]
  generalize (lg_sl [.ref o, .int p1, .int p2] ++ List.replicate (3 - (lg_sl [.ref o, .int p1, .int p2]).length) Slot.unset).toArray = ls at hl ⊢
  have hl : lv_has ls 3 [(0, .ref o), (1, .int p1), (2, .int p2)] := hl
  unfold wp_X4_dial at hw
  refine lv_iload_n hx hb dX4_dial_0 rfl (lv_at hl 1 rfl) ?_
  refine w_csi (As := [.int p1]) (rest := []) hx hb hml hown hts hK hW hS hl.1 (c_X4_isLine hw) (k_X4_50 hts ⟨Nat.le_of_ble_eq_true rfl, Nat.le_of_ble_eq_true rfl⟩) rfl rfl (Nat.le_of_ble_eq_true rfl) dX4_dial_1 ⟨Nat.zero_le _, Nat.zero_le _⟩ (fun r_1 Ez H locs hw2 hW hS => ?_)
  obtain ⟨ez, z_2, hw⟩ := hw2
  rw [ez] at hW
  refine lv_if_ne (tgt := 9) hx hb dX4_dial_4 (by decide) (fun c_3 => ?_) (fun c_3 => ?_)
  · have hw := hw.2 c_3
    refine lv_iload_n hx hb dX4_dial_9 rfl (lv_at hl 2 rfl) ?_
    refine lv_iconst (v := 0) hx hb dX4_dial_10 (by decide) ?_
    refine lv_bipush (v := 9) hx hb dX4_dial_11 (by decide) ?_
    refine w_csi (As := [.int p2, .int 0, .int 9]) (rest := []) hx hb hml hown hts hK hW hS hl.1 (c_X4_isWithin hw) (k_X4_30 hts ⟨Nat.le_of_ble_eq_true rfl, Nat.le_of_ble_eq_true rfl⟩) rfl rfl (Nat.le_of_ble_eq_true rfl) dX4_dial_13 ⟨Nat.zero_le _, Nat.zero_le _⟩ (fun r_4 Ez H locs hw2 hW hS => ?_)
    obtain ⟨ez, z_5, hw⟩ := hw2
    rw [ez] at hW
    refine lv_if_eq (tgt := 31) hx hb dX4_dial_16 (by decide) (fun c_6 => ?_) (fun c_6 => ?_)
    · have hw := hw.1 c_6
      refine lv_bipush (v := (-2)) hx hb dX4_dial_31 (by decide) ?_
      exact w_iret hx hb hr hlocks hW hS hw dX4_dial_33
    · have hw := hw.2 c_6
      refine lv_aload_n hx hb dX4_dial_19 rfl (lv_at hl 0 rfl) ?_
      refine g_X4_10 hx hb hown hts hK hW HR.1 rfl dX4_dial_20 ?_
      refine lv_iload_n hx hb dX4_dial_23 rfl (lv_at hl 1 rfl) ?_
      refine lv_iload_n hx hb dX4_dial_24 rfl (lv_at hl 2 rfl) ?_
      refine w_cvi (As := [.int p1, .int p2]) (rest := []) hx hb hml hown hts hK hW hS hl.1 (c_X0_dialDigit hA HR.2.1 (fun _ _ => rfl)  hw) (k_X4_61 hts ⟨Nat.le_of_ble_eq_true rfl, Nat.le_of_ble_eq_true rfl⟩) (w_recv hK hW HR.2.1.1 rfl rfl rfl) rfl rfl (Nat.le_of_ble_eq_true rfl) dX4_dial_25 ⟨Nat.zero_le _, Nat.zero_le _⟩ (fun r_7 Ez H locs hw2 hW hS => ?_)
      obtain ⟨Y_8, ez, hw⟩ := hw2
      rw [ez] at hW
      obtain ⟨X_9, eX_9⟩ : ∃ z : ES, z = put 26 (o + 1) Y_8 E0 := ⟨_, rfl⟩
      have hw := hw X_9 eX_9
      rw [← eX_9] at hW
      refine lv_goto (tgt := 33) hx hb dX4_dial_28 (by decide) ?_
      exact w_iret hx hb hr hlocks hW hS hw dX4_dial_33
  · have hw := hw.1 c_3
    refine lv_iconst (v := (-1)) hx hb dX4_dial_7 (by decide) ?_
    exact w_iret hx hb hr hlocks hW hS hw dX4_dial_8
set_option maxHeartbeats 4000000 in
set_option maxRecDepth 100000 in
theorem c_X4_tick {l : Launch} {g : GG} {lay : LY} {E0 : ES} {o : Nat} {sv : Nat → Option Nat} {p1 : Int32} {K : Int32 → ES → Prop} (hA : okL g lay) (HR : RL4 g lay o sv) (hw : wp_X4_tick o E0 p1 K) : JMi l g lay yX4_tick wsX4_tick rmX4_tick [.ref o, .int p1] E0 (fun r E1 => K r E1) := by
  refine Met.ofW (cc := cX4_tick) (maxL := 2) (ret := (some .int)) (by decide) rfl ?_
  intro p e s m args below meth c s₁ B hml hv
  obtain ⟨rfl, hK, hW⟩ := hv
  have hx := B.exec
  have hb := B.bytes
  have hr := B.returns
  have hts := gd_of (atoms_spec (ws := wsX4_tick) B.pre)
  have hown : s.vm.findClass RX4 = some m.cls := findClass_of_methodNamed B.named
  have hlocks := B.notSynchronized
  have hS : va_S (Ab g) s.heap s.heap [] := va_S.rf
  have hl := lv_entry [.ref o, .int p1] (n := 2) (Nat.le_of_ble_eq_true rfl)
  rw [lg_entry_eq]
  generalize (lg_sl [.ref o, .int p1] ++ List.replicate (2 - (lg_sl [.ref o, .int p1]).length) Slot.unset).toArray = ls at hl ⊢
  have hl : lv_has ls 2 [(0, .ref o), (1, .int p1)] := hl
  unfold wp_X4_tick at hw
  refine lv_iload_n hx hb dX4_tick_0 rfl (lv_at hl 1 rfl) ?_
  refine lv_iconst (v := 1) hx hb dX4_tick_1 (by decide) ?_
  refine lv_sipush (v := 1000) hx hb dX4_tick_2 (by decide) ?_
  refine w_csi (As := [.int p1, .int 1, .int 1000]) (rest := []) hx hb hml hown hts hK hW hS hl.1 (c_X4_isWithin hw) (k_X4_30 hts ⟨Nat.le_of_ble_eq_true rfl, Nat.le_of_ble_eq_true rfl⟩) rfl rfl (Nat.le_of_ble_eq_true rfl) dX4_tick_5 ⟨Nat.zero_le _, Nat.zero_le _⟩ (fun r_1 Ez H locs hw2 hW hS => ?_)
  obtain ⟨ez, z_2, hw⟩ := hw2
  rw [ez] at hW
  refine lv_if_ne (tgt := 14) hx hb dX4_tick_8 (by decide) (fun c_3 => ?_) (fun c_3 => ?_)
  · have hw := hw.2 c_3
    refine lv_aload_n hx hb dX4_tick_14 rfl (lv_at hl 0 rfl) ?_
    refine g_X4_10 hx hb hown hts hK hW HR.1 rfl dX4_tick_15 ?_
    refine lv_iload_n hx hb dX4_tick_18 rfl (lv_at hl 1 rfl) ?_
    refine w_cvi (As := [.int p1]) (rest := []) hx hb hml hown hts hK hW hS hl.1 (c_X0_hasTimeFor hA HR.2.1 (fun _ _ => rfl)  hw) (k_X4_64 hts ⟨Nat.le_of_ble_eq_true rfl, Nat.le_of_ble_eq_true rfl⟩) (w_recv hK hW HR.2.1.1 rfl rfl rfl) rfl rfl (Nat.le_of_ble_eq_true rfl) dX4_tick_19 ⟨Nat.zero_le _, Nat.zero_le _⟩ (fun r_4 Ez H locs hw2 hW hS => ?_)
    obtain ⟨ez, z_5, hw⟩ := hw2
    rw [ez] at hW
    refine lv_if_ne (tgt := 28) hx hb dX4_tick_22 (by decide) (fun c_6 => ?_) (fun c_6 => ?_)
    · have hw := hw.2 c_6
      refine lv_aload_n hx hb dX4_tick_28 rfl (lv_at hl 0 rfl) ?_
      refine g_X4_10 hx hb hown hts hK hW HR.1 rfl dX4_tick_29 ?_
      refine lv_iload_n hx hb dX4_tick_32 rfl (lv_at hl 1 rfl) ?_
      refine w_cvv (As := [.int p1]) (rest := []) hx hb hml hown hts hK hW hS hl.1 (c_X0_pass hA HR.2.1 (fun _ _ => rfl)  hw) (k_X4_67 hts ⟨Nat.le_of_ble_eq_true rfl, Nat.le_of_ble_eq_true rfl⟩) (w_recv hK hW HR.2.1.1 rfl rfl rfl) rfl rfl (Nat.le_of_ble_eq_true rfl) dX4_tick_33 ⟨Nat.zero_le _, Nat.zero_le _⟩ (fun Ez H locs hw2 hW hS => ?_)
      obtain ⟨Y_7, ez, hw⟩ := hw2
      rw [ez] at hW
      obtain ⟨X_8, eX_8⟩ : ∃ z : ES, z = put 26 (o + 1) Y_7 E0 := ⟨_, rfl⟩
      have hw := hw X_8 eX_8
      rw [← eX_8] at hW
      refine lv_aload_n hx hb dX4_tick_36 rfl (lv_at hl 0 rfl) ?_
      refine g_X4_10 hx hb hown hts hK hW HR.1 rfl dX4_tick_37 ?_
      refine g_X4_71 hx hb hown hts hK hW HR.2.1.1 rfl dX4_tick_40 ?_
      exact w_iret hx hb hr hlocks hW hS hw dX4_tick_43
    · have hw := hw.1 c_6
      refine lv_bipush (v := (-5)) hx hb dX4_tick_25 (by decide) ?_
      exact w_iret hx hb hr hlocks hW hS hw dX4_tick_27
  · have hw := hw.1 c_3
    refine lv_bipush (v := (-2)) hx hb dX4_tick_11 (by decide) ?_
    exact w_iret hx hb hr hlocks hW hS hw dX4_tick_13
set_option maxHeartbeats 4000000 in
set_option maxRecDepth 100000 in
theorem c_X4_line {l : Launch} {g : GG} {lay : LY} {E0 : ES} {o : Nat} {sv : Nat → Option Nat} {p1 : Int32} {p2 : Int32} {K : Int32 → Prop} (hA : okL g lay) (HR : RL4 g lay o sv) (hw : wp_X4_line o E0 p1 p2 K) : JMi l g lay yX4_line wsX4_line rmX4_line [.ref o, .int p1, .int p2] E0 (fun r E1 => E1 = E0 ∧ K r) := by
  refine Met.ofW (cc := cX4_line) (maxL := 3) (ret := (some .int)) (by decide) rfl ?_
  intro p e s m args below meth c s₁ B hml hv
  obtain ⟨rfl, hK, hW⟩ := hv
  have hx := B.exec
  have hb := B.bytes
  have hr := B.returns
  have hts := gd_of (atoms_spec (ws := wsX4_line) B.pre)
  have hown : s.vm.findClass RX4 = some m.cls := findClass_of_methodNamed B.named
  have hlocks := B.notSynchronized
  have hS : va_S (Ab g) s.heap s.heap [] := va_S.rf
  have hl := lv_entry [.ref o, .int p1, .int p2] (n := 3) (Nat.le_of_ble_eq_true rfl)
  rw [lg_entry_eq]
  generalize (lg_sl [.ref o, .int p1, .int p2] ++ List.replicate (3 - (lg_sl [.ref o, .int p1, .int p2]).length) Slot.unset).toArray = ls at hl ⊢
  have hl : lv_has ls 3 [(0, .ref o), (1, .int p1), (2, .int p2)] := hl
  unfold wp_X4_line at hw
  refine lv_iload_n hx hb dX4_line_0 rfl (lv_at hl 1 rfl) ?_
  refine w_csi (As := [.int p1]) (rest := []) hx hb hml hown hts hK hW hS hl.1 (c_X4_isLine hw) (k_X4_50 hts ⟨Nat.le_of_ble_eq_true rfl, Nat.le_of_ble_eq_true rfl⟩) rfl rfl (Nat.le_of_ble_eq_true rfl) dX4_line_1 ⟨Nat.zero_le _, Nat.zero_le _⟩ (fun r_1 Ez H locs hw2 hW hS => ?_)
  obtain ⟨ez, z_2, hw⟩ := hw2
  rw [ez] at hW
  refine lv_if_eq (tgt := 19) hx hb dX4_line_4 (by decide) (fun c_3 => ?_) (fun c_3 => ?_)
  · have hw := hw.1 c_3
    refine lv_iconst (v := (-1)) hx hb dX4_line_19 (by decide) ?_
    exact w_iret hx hb hr hlocks hW hS ⟨rfl, hw⟩ dX4_line_20
  · have hw := hw.2 c_3
    refine lv_aload_n hx hb dX4_line_7 rfl (lv_at hl 0 rfl) ?_
    refine g_X4_10 hx hb hown hts hK hW HR.1 rfl dX4_line_8 ?_
    refine lv_iload_n hx hb dX4_line_11 rfl (lv_at hl 1 rfl) ?_
    refine lv_iload_n hx hb dX4_line_12 rfl (lv_at hl 2 rfl) ?_
    refine w_cvi (As := [.int p1, .int p2]) (rest := []) hx hb hml hown hts hK hW hS hl.1 (c_X0_numberOfLine hA HR.2.1 (fun _ _ => rfl)  hw) (k_X4_74 hts ⟨Nat.le_of_ble_eq_true rfl, Nat.le_of_ble_eq_true rfl⟩) (w_recv hK hW HR.2.1.1 rfl rfl rfl) rfl rfl (Nat.le_of_ble_eq_true rfl) dX4_line_13 ⟨Nat.zero_le _, Nat.zero_le _⟩ (fun r_4 Ez H locs hw2 hW hS => ?_)
    obtain ⟨ez, hw⟩ := hw2
    rw [ez] at hW
    refine lv_goto (tgt := 20) hx hb dX4_line_16 (by decide) ?_
    exact w_iret hx hb hr hlocks hW hS ⟨rfl, hw⟩ dX4_line_20
set_option maxHeartbeats 4000000 in
set_option maxRecDepth 100000 in
theorem c_X4_finder {l : Launch} {g : GG} {lay : LY} {E0 : ES} {o : Nat} {sv : Nat → Option Nat} {p1 : Int32} {p2 : Int32} {K : Int32 → Prop} (hA : okL g lay) (HR : RL4 g lay o sv) (hw : wp_X4_finder o E0 p1 p2 K) : JMi l g lay yX4_finder wsX4_finder rmX4_finder [.ref o, .int p1, .int p2] E0 (fun r E1 => E1 = E0 ∧ K r) := by
  refine Met.ofW (cc := cX4_finder) (maxL := 3) (ret := (some .int)) (by decide) rfl ?_
  intro p e s m args below meth c s₁ B hml hv
  obtain ⟨rfl, hK, hW⟩ := hv
  have hx := B.exec
  have hb := B.bytes
  have hr := B.returns
  have hts := gd_of (atoms_spec (ws := wsX4_finder) B.pre)
  have hown : s.vm.findClass RX4 = some m.cls := findClass_of_methodNamed B.named
  have hlocks := B.notSynchronized
  have hS : va_S (Ab g) s.heap s.heap [] := va_S.rf
  have hl := lv_entry [.ref o, .int p1, .int p2] (n := 3) (Nat.le_of_ble_eq_true rfl)
  rw [lg_entry_eq]
  generalize (lg_sl [.ref o, .int p1, .int p2] ++ List.replicate (3 - (lg_sl [.ref o, .int p1, .int p2]).length) Slot.unset).toArray = ls at hl ⊢
  have hl : lv_has ls 3 [(0, .ref o), (1, .int p1), (2, .int p2)] := hl
  unfold wp_X4_finder at hw
  refine lv_iload_n hx hb dX4_finder_0 rfl (lv_at hl 1 rfl) ?_
  refine lv_iconst (v := 0) hx hb dX4_finder_1 (by decide) ?_
  refine lv_aload_n hx hb dX4_finder_2 rfl (lv_at hl 0 rfl) ?_
  refine g_X4_10 hx hb hown hts hK hW HR.1 rfl dX4_finder_3 ?_
  refine g_X4_34 hx hb hown hts hK hW HR.2.1.1 rfl dX4_finder_6 ?_
  refine lv_iconst (v := 1) hx hb dX4_finder_9 (by decide) ?_
  refine lv_isub hx hb dX4_finder_10 ?_
  refine w_csi (As := [.int p1, .int 0, .int (((E0 (o + 1)) 5) - 1)]) (rest := []) hx hb hml hown hts hK hW hS hl.1 (c_X4_isWithin hw) (k_X4_30 hts ⟨Nat.le_of_ble_eq_true rfl, Nat.le_of_ble_eq_true rfl⟩) rfl rfl (Nat.le_of_ble_eq_true rfl) dX4_finder_11 ⟨Nat.zero_le _, Nat.zero_le _⟩ (fun r_1 Ez H locs hw2 hW hS => ?_)
  obtain ⟨ez, z_2, hw⟩ := hw2
  rw [ez] at hW
  refine lv_if_eq (tgt := 32) hx hb dX4_finder_14 (by decide) (fun c_3 => ?_) (fun c_3 => ?_)
  · have hw := hw.1 c_3
    refine lv_iconst (v := (-1)) hx hb dX4_finder_32 (by decide) ?_
    exact w_iret hx hb hr hlocks hW hS ⟨rfl, hw⟩ dX4_finder_33
  · have hw := hw.2 c_3
    refine lv_aload_n hx hb dX4_finder_17 rfl (lv_at hl 0 rfl) ?_
    refine g_X4_10 hx hb hown hts hK hW HR.1 rfl dX4_finder_18 ?_
    refine lv_iload_n hx hb dX4_finder_21 rfl (lv_at hl 1 rfl) ?_
    refine w_cvr (As := [.int p1]) (rest := []) hx hb hml hown hts hK hW hS hl.1 (c_X0_finderAt hA HR.2.1 p1) (k_X4_77 hts ⟨Nat.le_of_ble_eq_true rfl, Nat.le_of_ble_eq_true rfl⟩) (w_recv hK hW HR.2.1.1 rfl rfl rfl) rfl rfl (Nat.le_of_ble_eq_true rfl) dX4_finder_22 ⟨Nat.zero_le _, Nat.zero_le _⟩ (fun q_4 Ez H locs hw2 hW hS => ?_)
    obtain ⟨ez, rfl⟩ := hw2
    rw [ez] at hW
    refine lv_iload_n hx hb dX4_finder_25 rfl (lv_at hl 2 rfl) ?_
    refine w_cvi (As := [.int p2]) (rest := []) hx hb hml hown hts hK hW hS hl.1 (c_X1_numberFor hA (HR.2.1.2.2.2.2.2 _ (isFi_fix p1)) rfl hw) (k_X4_81 hts ⟨Nat.le_of_ble_eq_true rfl, Nat.le_of_ble_eq_true rfl⟩) (w_recv hK hW (HR.2.1.2.2.2.2.2 _ (isFi_fix p1)) rfl rfl rfl) rfl rfl (Nat.le_of_ble_eq_true rfl) dX4_finder_26 ⟨Nat.zero_le _, Nat.zero_le _⟩ (fun r_5 Ez H locs hw2 hW hS => ?_)
    obtain ⟨ez, hw⟩ := hw2
    rw [ez] at hW
    refine lv_goto (tgt := 33) hx hb dX4_finder_29 (by decide) ?_
    exact w_iret hx hb hr hlocks hW hS ⟨rfl, hw⟩ dX4_finder_33
set_option maxHeartbeats 4000000 in
set_option maxRecDepth 100000 in
theorem c_X4_connector {l : Launch} {g : GG} {lay : LY} {E0 : ES} {o : Nat} {sv : Nat → Option Nat} {p1 : Int32} {p2 : Int32} {K : Int32 → Prop} (hA : okL g lay) (HR : RL4 g lay o sv) (hw : wp_X4_connector o E0 p1 p2 K) : JMi l g lay yX4_connector wsX4_connector rmX4_connector [.ref o, .int p1, .int p2] E0 (fun r E1 => E1 = E0 ∧ K r) := by
  refine Met.ofW (cc := cX4_connector) (maxL := 3) (ret := (some .int)) (by decide) rfl ?_
  intro p e s m args below meth c s₁ B hml hv
  obtain ⟨rfl, hK, hW⟩ := hv
  have hx := B.exec
  have hb := B.bytes
  have hr := B.returns
  have hts := gd_of (atoms_spec (ws := wsX4_connector) B.pre)
  have hown : s.vm.findClass RX4 = some m.cls := findClass_of_methodNamed B.named
  have hlocks := B.notSynchronized
  have hS : va_S (Ab g) s.heap s.heap [] := va_S.rf
  have hl := lv_entry [.ref o, .int p1, .int p2] (n := 3) (Nat.le_of_ble_eq_true rfl)
  rw [lg_entry_eq]
  generalize (lg_sl [.ref o, .int p1, .int p2] ++ List.replicate (3 - (lg_sl [.ref o, .int p1, .int p2]).length) Slot.unset).toArray = ls at hl ⊢
  have hl : lv_has ls 3 [(0, .ref o), (1, .int p1), (2, .int p2)] := hl
  unfold wp_X4_connector at hw
  refine lv_iload_n hx hb dX4_connector_0 rfl (lv_at hl 1 rfl) ?_
  refine lv_iconst (v := 1) hx hb dX4_connector_1 (by decide) ?_
  refine lv_iconst (v := 4) hx hb dX4_connector_2 (by decide) ?_
  refine w_csi (As := [.int p1, .int 1, .int 4]) (rest := []) hx hb hml hown hts hK hW hS hl.1 (c_X4_isWithin hw) (k_X4_30 hts ⟨Nat.le_of_ble_eq_true rfl, Nat.le_of_ble_eq_true rfl⟩) rfl rfl (Nat.le_of_ble_eq_true rfl) dX4_connector_3 ⟨Nat.zero_le _, Nat.zero_le _⟩ (fun r_1 Ez H locs hw2 hW hS => ?_)
  obtain ⟨ez, z_2, hw⟩ := hw2
  rw [ez] at hW
  refine lv_if_eq (tgt := 26) hx hb dX4_connector_6 (by decide) (fun c_3 => ?_) (fun c_3 => ?_)
  · have hw := hw.1 c_3
    refine lv_iconst (v := (-1)) hx hb dX4_connector_26 (by decide) ?_
    exact w_iret hx hb hr hlocks hW hS ⟨rfl, hw⟩ dX4_connector_27
  · have hw := hw.2 c_3
    refine lv_iload_n hx hb dX4_connector_9 rfl (lv_at hl 2 rfl) ?_
    refine lv_iconst (v := 0) hx hb dX4_connector_10 (by decide) ?_
    refine lv_aload_n hx hb dX4_connector_11 rfl (lv_at hl 0 rfl) ?_
    refine g_X4_10 hx hb hown hts hK hW HR.1 rfl dX4_connector_12 ?_
    refine g_X4_86 hx hb hown hts hK hW HR.2.1.1 rfl dX4_connector_15 ?_
    refine lv_iconst (v := 1) hx hb dX4_connector_18 (by decide) ?_
    refine lv_isub hx hb dX4_connector_19 ?_
    refine w_csi (As := [.int p2, .int 0, .int (((E0 (o + 1)) 6) - 1)]) (rest := []) hx hb hml hown hts hK hW hS hl.1 (c_X4_isWithin hw) (k_X4_30 hts ⟨Nat.le_of_ble_eq_true rfl, Nat.le_of_ble_eq_true rfl⟩) rfl rfl (Nat.le_of_ble_eq_true rfl) dX4_connector_20 ⟨Nat.zero_le _, Nat.zero_le _⟩ (fun r_4 Ez H locs hw2 hW hS => ?_)
    obtain ⟨ez, z_5, hw⟩ := hw2
    rw [ez] at hW
    refine lv_if_ne (tgt := 28) hx hb dX4_connector_23 (by decide) (fun c_6 => ?_) (fun c_6 => ?_)
    · have hw := hw.2 c_6
      refine lv_aload_n hx hb dX4_connector_28 rfl (lv_at hl 0 rfl) ?_
      refine g_X4_10 hx hb hown hts hK hW HR.1 rfl dX4_connector_29 ?_
      refine lv_iload_n hx hb dX4_connector_32 rfl (lv_at hl 1 rfl) ?_
      refine lv_iload_n hx hb dX4_connector_33 rfl (lv_at hl 2 rfl) ?_
      refine w_cvi (As := [.int p1, .int p2]) (rest := []) hx hb hml hown hts hK hW hS hl.1 (c_X0_holderOf hA HR.2.1 (fun _ _ => rfl)  hw) (k_X4_89 hts ⟨Nat.le_of_ble_eq_true rfl, Nat.le_of_ble_eq_true rfl⟩) (w_recv hK hW HR.2.1.1 rfl rfl rfl) rfl rfl (Nat.le_of_ble_eq_true rfl) dX4_connector_34 ⟨Nat.zero_le _, Nat.zero_le _⟩ (fun r_7 Ez H locs hw2 hW hS => ?_)
      obtain ⟨ez, hw⟩ := hw2
      rw [ez] at hW
      exact w_iret hx hb hr hlocks hW hS ⟨rfl, hw⟩ dX4_connector_37
    · have hw := hw.1 c_6
      refine lv_iconst (v := (-1)) hx hb dX4_connector_26 (by decide) ?_
      exact w_iret hx hb hr hlocks hW hS ⟨rfl, hw⟩ dX4_connector_27
set_option maxHeartbeats 4000000 in
set_option maxRecDepth 100000 in
theorem c_X4_count {l : Launch} {g : GG} {lay : LY} {E0 : ES} {o : Nat} {sv : Nat → Option Nat} {p1 : Int32} {K : Int32 → Prop} (hA : okL g lay) (HR : RL4 g lay o sv) (hw : wp_X4_count o E0 p1 K) : JMi l g lay yX4_count wsX4_count rmX4_count [.ref o, .int p1] E0 (fun r E1 => E1 = E0 ∧ K r) := by
  refine Met.ofW (cc := cX4_count) (maxL := 2) (ret := (some .int)) (by decide) rfl ?_
  intro p e s m args below meth c s₁ B hml hv
  obtain ⟨rfl, hK, hW⟩ := hv
  have hx := B.exec
  have hb := B.bytes
  have hr := B.returns
  have hts := gd_of (atoms_spec (ws := wsX4_count) B.pre)
  have hown : s.vm.findClass RX4 = some m.cls := findClass_of_methodNamed B.named
  have hlocks := B.notSynchronized
  have hS : va_S (Ab g) s.heap s.heap [] := va_S.rf
  have hl := lv_entry [.ref o, .int p1] (n := 2) (Nat.le_of_ble_eq_true rfl)
  rw [lg_entry_eq]
  generalize (lg_sl [.ref o, .int p1] ++ List.replicate (2 - (lg_sl [.ref o, .int p1]).length) Slot.unset).toArray = ls at hl ⊢
  have hl : lv_has ls 2 [(0, .ref o), (1, .int p1)] := hl
  unfold wp_X4_count at hw
  refine lv_iload_n hx hb dX4_count_0 rfl (lv_at hl 1 rfl) ?_
  refine lv_bipush (v := 14) hx hb dX4_count_1 (by decide) ?_
  refine lv_icmp_ne (tgt := 16) hx hb dX4_count_3 (by decide) (fun c_1 => ?_) (fun c_1 => ?_)
  · have hw := hw.2 c_1
    refine lv_aload_n hx hb dX4_count_16 rfl (lv_at hl 0 rfl) ?_
    refine g_X4_10 hx hb hown hts hK hW HR.1 rfl dX4_count_17 ?_
    refine lv_iload_n hx hb dX4_count_20 rfl (lv_at hl 1 rfl) ?_
    refine w_cvi (As := [.int p1]) (rest := []) hx hb hml hown hts hK hW hS hl.1 (c_X0_numberFor hA HR.2.1 (fun _ _ => rfl)  hw) (k_X4_95 hts ⟨Nat.le_of_ble_eq_true rfl, Nat.le_of_ble_eq_true rfl⟩) (w_recv hK hW HR.2.1.1 rfl rfl rfl) rfl rfl (Nat.le_of_ble_eq_true rfl) dX4_count_21 ⟨Nat.zero_le _, Nat.zero_le _⟩ (fun r_2 Ez H locs hw2 hW hS => ?_)
    obtain ⟨ez, hw⟩ := hw2
    rw [ez] at hW
    exact w_iret hx hb hr hlocks hW hS ⟨rfl, hw⟩ dX4_count_24
  · have hw := hw.1 c_1
    refine lv_aload_n hx hb dX4_count_6 rfl (lv_at hl 0 rfl) ?_
    refine g_X4_26 hx hb hown hts hK hW HR.1 rfl dX4_count_7 ?_
    refine g_X4_92 hx hb hown hts hK hW HR.2.2.2.2.1 rfl dX4_count_10 ?_
    refine lv_goto (tgt := 24) hx hb dX4_count_13 (by decide) ?_
    exact w_iret hx hb hr hlocks hW hS ⟨rfl, hw⟩ dX4_count_24
set_option maxHeartbeats 4000000 in
set_option maxRecDepth 100000 in
theorem c_X4_trace {l : Launch} {g : GG} {lay : LY} {E0 : ES} {o : Nat} {sv : Nat → Option Nat} {p1 : Int32} {p2 : Int32} {K : Int32 → Prop} (hA : okL g lay) (HR : RL4 g lay o sv) (hw : wp_X4_trace o E0 p1 p2 K) : JMi l g lay yX4_trace wsX4_trace rmX4_trace [.ref o, .int p1, .int p2] E0 (fun r E1 => E1 = E0 ∧ K r) := by
  refine Met.ofW (cc := cX4_trace) (maxL := 3) (ret := (some .int)) (by decide) rfl ?_
  intro p e s m args below meth c s₁ B hml hv
  obtain ⟨rfl, hK, hW⟩ := hv
  have hx := B.exec
  have hb := B.bytes
  have hr := B.returns
  have hts := gd_of (atoms_spec (ws := wsX4_trace) B.pre)
  have hown : s.vm.findClass RX4 = some m.cls := findClass_of_methodNamed B.named
  have hlocks := B.notSynchronized
  have hS : va_S (Ab g) s.heap s.heap [] := va_S.rf
  have hl := lv_entry [.ref o, .int p1, .int p2] (n := 3) (Nat.le_of_ble_eq_true rfl)
  rw [lg_entry_eq]
  generalize (lg_sl [.ref o, .int p1, .int p2] ++ List.replicate (3 - (lg_sl [.ref o, .int p1, .int p2]).length) Slot.unset).toArray = ls at hl ⊢
  have hl : lv_has ls 3 [(0, .ref o), (1, .int p1), (2, .int p2)] := hl
  unfold wp_X4_trace at hw
  refine lv_iload_n hx hb dX4_trace_0 rfl (lv_at hl 1 rfl) ?_
  refine w_csi (As := [.int p1]) (rest := []) hx hb hml hown hts hK hW hS hl.1 (c_X4_isLine hw) (k_X4_50 hts ⟨Nat.le_of_ble_eq_true rfl, Nat.le_of_ble_eq_true rfl⟩) rfl rfl (Nat.le_of_ble_eq_true rfl) dX4_trace_1 ⟨Nat.zero_le _, Nat.zero_le _⟩ (fun r_1 Ez H locs hw2 hW hS => ?_)
  obtain ⟨ez, z_2, hw⟩ := hw2
  rw [ez] at hW
  refine lv_if_ne (tgt := 9) hx hb dX4_trace_4 (by decide) (fun c_3 => ?_) (fun c_3 => ?_)
  · have hw := hw.2 c_3
    refine lv_iload_n hx hb dX4_trace_9 rfl (lv_at hl 2 rfl) ?_
    refine lv_iconst (v := 0) hx hb dX4_trace_10 (by decide) ?_
    refine lv_iconst (v := 2) hx hb dX4_trace_11 (by decide) ?_
    refine w_csi (As := [.int p2, .int 0, .int 2]) (rest := []) hx hb hml hown hts hK hW hS hl.1 (c_X4_isWithin hw) (k_X4_30 hts ⟨Nat.le_of_ble_eq_true rfl, Nat.le_of_ble_eq_true rfl⟩) rfl rfl (Nat.le_of_ble_eq_true rfl) dX4_trace_12 ⟨Nat.zero_le _, Nat.zero_le _⟩ (fun r_4 Ez H locs hw2 hW hS => ?_)
    obtain ⟨ez, z_5, hw⟩ := hw2
    rw [ez] at hW
    refine lv_if_ne (tgt := 21) hx hb dX4_trace_15 (by decide) (fun c_6 => ?_) (fun c_6 => ?_)
    · have hw := hw.2 c_6
      refine lv_aload_n hx hb dX4_trace_21 rfl (lv_at hl 0 rfl) ?_
      refine g_X4_10 hx hb hown hts hK hW HR.1 rfl dX4_trace_22 ?_
      refine lv_iload_n hx hb dX4_trace_25 rfl (lv_at hl 1 rfl) ?_
      refine lv_iload_n hx hb dX4_trace_26 rfl (lv_at hl 2 rfl) ?_
      refine w_cvi (As := [.int p1, .int p2]) (rest := []) hx hb hml hown hts hK hW hS hl.1 (c_X0_traceFrom hA HR.2.1 (fun _ _ => rfl)  hw) (k_X4_96 hts ⟨Nat.le_of_ble_eq_true rfl, Nat.le_of_ble_eq_true rfl⟩) (w_recv hK hW HR.2.1.1 rfl rfl rfl) rfl rfl (Nat.le_of_ble_eq_true rfl) dX4_trace_27 ⟨Nat.zero_le _, Nat.zero_le _⟩ (fun r_7 Ez H locs hw2 hW hS => ?_)
      obtain ⟨ez, hw⟩ := hw2
      rw [ez] at hW
      exact w_iret hx hb hr hlocks hW hS ⟨rfl, hw⟩ dX4_trace_30
    · have hw := hw.1 c_6
      refine lv_bipush (v := (-2)) hx hb dX4_trace_18 (by decide) ?_
      exact w_iret hx hb hr hlocks hW hS ⟨rfl, hw⟩ dX4_trace_20
  · have hw := hw.1 c_3
    refine lv_iconst (v := (-1)) hx hb dX4_trace_7 (by decide) ?_
    exact w_iret hx hb hr hlocks hW hS ⟨rfl, hw⟩ dX4_trace_8
set_option maxHeartbeats 4000000 in
set_option maxRecDepth 100000 in
theorem c_X4_until {l : Launch} {g : GG} {lay : LY} {E0 : ES} {o : Nat} {sv : Nat → Option Nat} {p1 : Int32} {p2 : Int32} {p3 : Int32} {K : Int32 → ES → Prop} (hA : okL g lay) (HR : RL4 g lay o sv) (hw : wp_X4_until o E0 p1 p2 p3 K) : JMi l g lay yX4_until wsX4_until rmX4_until [.ref o, .int p1, .int p2, .int p3] E0 (fun r E1 => K r E1) := by
  refine Met.ofW (cc := cX4_until) (maxL := 4) (ret := (some .int)) (by decide) rfl ?_
  intro p e s m args below meth c s₁ B hml hv
  obtain ⟨rfl, hK, hW⟩ := hv
  have hx := B.exec
  have hb := B.bytes
  have hr := B.returns
  have hts := gd_of (atoms_spec (ws := wsX4_until) B.pre)
  have hown : s.vm.findClass RX4 = some m.cls := findClass_of_methodNamed B.named
  have hlocks := B.notSynchronized
  have hS : va_S (Ab g) s.heap s.heap [] := va_S.rf
  have hl := lv_entry [.ref o, .int p1, .int p2, .int p3] (n := 4) (Nat.le_of_ble_eq_true rfl)
  rw [lg_entry_eq]
  generalize (lg_sl [.ref o, .int p1, .int p2, .int p3] ++ List.replicate (4 - (lg_sl [.ref o, .int p1, .int p2, .int p3]).length) Slot.unset).toArray = ls at hl ⊢
  have hl : lv_has ls 4 [(0, .ref o), (1, .int p1), (2, .int p2), (3, .int p3)] := hl
  unfold wp_X4_until at hw
  refine lv_iload_n hx hb dX4_until_0 rfl (lv_at hl 1 rfl) ?_
  refine w_csi (As := [.int p1]) (rest := []) hx hb hml hown hts hK hW hS hl.1 (c_X4_isLine hw) (k_X4_50 hts ⟨Nat.le_of_ble_eq_true rfl, Nat.le_of_ble_eq_true rfl⟩) rfl rfl (Nat.le_of_ble_eq_true rfl) dX4_until_1 ⟨Nat.zero_le _, Nat.zero_le _⟩ (fun r_1 Ez H locs hw2 hW hS => ?_)
  obtain ⟨ez, z_2, hw⟩ := hw2
  rw [ez] at hW
  refine lv_if_ne (tgt := 9) hx hb dX4_until_4 (by decide) (fun c_3 => ?_) (fun c_3 => ?_)
  · have hw := hw.2 c_3
    refine lv_iload_n hx hb dX4_until_9 rfl (lv_at hl 2 rfl) ?_
    refine lv_iconst (v := 0) hx hb dX4_until_10 (by decide) ?_
    refine lv_bipush (v := 11) hx hb dX4_until_11 (by decide) ?_
    refine w_csi (As := [.int p2, .int 0, .int 11]) (rest := []) hx hb hml hown hts hK hW hS hl.1 (c_X4_isWithin hw) (k_X4_30 hts ⟨Nat.le_of_ble_eq_true rfl, Nat.le_of_ble_eq_true rfl⟩) rfl rfl (Nat.le_of_ble_eq_true rfl) dX4_until_13 ⟨Nat.zero_le _, Nat.zero_le _⟩ (fun r_4 Ez H locs hw2 hW hS => ?_)
    obtain ⟨ez, z_5, hw⟩ := hw2
    rw [ez] at hW
    refine lv_if_eq (tgt := 30) hx hb dX4_until_16 (by decide) (fun c_6 => ?_) (fun c_6 => ?_)
    · have hw := hw.1 c_6
      refine lv_bipush (v := (-2)) hx hb dX4_until_30 (by decide) ?_
      exact w_iret hx hb hr hlocks hW hS hw dX4_until_32
    · have hw := hw.2 c_6
      refine lv_iload_n hx hb dX4_until_19 rfl (lv_at hl 3 rfl) ?_
      refine lv_iconst (v := 0) hx hb dX4_until_20 (by decide) ?_
      refine lv_sipush (v := 1000) hx hb dX4_until_21 (by decide) ?_
      refine w_csi (As := [.int p3, .int 0, .int 1000]) (rest := []) hx hb hml hown hts hK hW hS hl.1 (c_X4_isWithin hw) (k_X4_30 hts ⟨Nat.le_of_ble_eq_true rfl, Nat.le_of_ble_eq_true rfl⟩) rfl rfl (Nat.le_of_ble_eq_true rfl) dX4_until_24 ⟨Nat.zero_le _, Nat.zero_le _⟩ (fun r_7 Ez H locs hw2 hW hS => ?_)
      obtain ⟨ez, z_8, hw⟩ := hw2
      rw [ez] at hW
      refine lv_if_ne (tgt := 33) hx hb dX4_until_27 (by decide) (fun c_9 => ?_) (fun c_9 => ?_)
      · have hw := hw.2 c_9
        refine lv_aload_n hx hb dX4_until_33 rfl (lv_at hl 0 rfl) ?_
        refine g_X4_16 hx hb hown hts hK hW HR.1 rfl dX4_until_34 ?_
        refine lv_aload_n hx hb dX4_until_37 rfl (lv_at hl 0 rfl) ?_
        refine g_X4_10 hx hb hown hts hK hW HR.1 rfl dX4_until_38 ?_
        refine w_cvv (As := [.ref (o + 1)]) (rest := []) hx hb hml hown hts hK hW hS hl.1 (c_X0_copyFrom hA HR.2.2.1 HR.2.1 (fun _ _ => rfl) (fun _ _ => rfl) (by omega) hw) (k_X4_99 hts ⟨Nat.le_of_ble_eq_true rfl, Nat.le_of_ble_eq_true rfl⟩) (w_recv hK hW HR.2.2.1.1 rfl rfl rfl) rfl rfl (Nat.le_of_ble_eq_true rfl) dX4_until_41 ⟨Nat.zero_le _, Nat.zero_le _⟩ (fun Ez H locs hw2 hW hS => ?_)
        obtain ⟨Y_10, ez, hw⟩ := hw2
        rw [ez] at hW
        obtain ⟨X_11, eX_11⟩ : ∃ z : ES, z = put 26 (o + 27) Y_10 E0 := ⟨_, rfl⟩
        have hw := hw X_11 eX_11
        rw [← eX_11] at hW
        refine lv_aload_n hx hb dX4_until_44 rfl (lv_at hl 0 rfl) ?_
        refine g_X4_16 hx hb hown hts hK hW HR.1 rfl dX4_until_45 ?_
        refine lv_iload_n hx hb dX4_until_48 rfl (lv_at hl 1 rfl) ?_
        refine lv_iload_n hx hb dX4_until_49 rfl (lv_at hl 2 rfl) ?_
        refine lv_iload_n hx hb dX4_until_50 rfl (lv_at hl 3 rfl) ?_
        refine w_cvi (As := [.int p1, .int p2, .int p3]) (rest := []) hx hb hml hown hts hK hW hS hl.1 (c_X0_ticksUntil hA HR.2.2.1 (fun _ _ => rfl)  hw) (k_X4_103 hts ⟨Nat.le_of_ble_eq_true rfl, Nat.le_of_ble_eq_true rfl⟩) (w_recv hK hW HR.2.2.1.1 rfl rfl rfl) rfl rfl (Nat.le_of_ble_eq_true rfl) dX4_until_51 ⟨Nat.zero_le _, Nat.zero_le _⟩ (fun r_12 Ez H locs hw2 hW hS => ?_)
        obtain ⟨Y_13, ez, hw⟩ := hw2
        rw [ez] at hW
        obtain ⟨X_14, eX_14⟩ : ∃ z : ES, z = put 26 (o + 27) Y_13 X_11 := ⟨_, rfl⟩
        have hw := hw X_14 eX_14
        rw [← eX_14] at hW
        exact w_iret hx hb hr hlocks hW hS hw dX4_until_54
      · have hw := hw.1 c_9
        refine lv_bipush (v := (-2)) hx hb dX4_until_30 (by decide) ?_
        exact w_iret hx hb hr hlocks hW hS hw dX4_until_32
  · have hw := hw.1 c_3
    refine lv_iconst (v := (-1)) hx hb dX4_until_7 (by decide) ?_
    exact w_iret hx hb hr hlocks hW hS hw dX4_until_8
end
section
-- ===== the pure side: the exchange's numbers as integers =====
abbrev SS : Type := Nat → Nat → Int
def en (a : Int) : Int32 := Int32.ofInt a
theorem en_toInt {a : Int} (h1 : -2147483648 ≤ a) (h2 : a < 2147483648) : (en a).toInt = a := Int32.toInt_ofInt_of_le (by omega) (by omega)
theorem en_of (x : Int32) : en x.toInt = x := Int32.ofInt_toInt x
theorem en_eq {a b : Int} (h1 : -2147483648 ≤ a) (h2 : a < 2147483648) (h3 : -2147483648 ≤ b) (h4 : b < 2147483648) : en a = en b ↔ a = b :=
  ⟨fun h => by have := congrArg Int32.toInt h; rwa [en_toInt h1 h2, en_toInt h3 h4] at this, congrArg en⟩
theorem en_lt {a b : Int} (h1 : -2147483648 ≤ a) (h2 : a < 2147483648) (h3 : -2147483648 ≤ b) (h4 : b < 2147483648) : en a < en b ↔ a < b := by
  rw [Int32.lt_iff_toInt_lt, en_toInt h1 h2, en_toInt h3 h4]
theorem en_le {a b : Int} (h1 : -2147483648 ≤ a) (h2 : a < 2147483648) (h3 : -2147483648 ≤ b) (h4 : b < 2147483648) : en a ≤ en b ↔ a ≤ b := by
  rw [Int32.le_iff_toInt_le, en_toInt h1 h2, en_toInt h3 h4]
theorem en_add (a b : Int) : en a + en b = en (a + b) := (Int32.ofInt_add a b).symm
theorem en_sub (a b : Int) : en a - en b = en (a - b) := (Int32.ofInt_sub a b).symm
theorem en_mul (a b : Int) : en a * en b = en (a * b) := (Int32.ofInt_mul a b).symm
theorem en_nat (n : Nat) : en (n : Int) = nI n := Int32.ofInt_eq_ofNat
theorem en_s (a : Int) : en a + 1 = en (a + 1) := en_add a 1
theorem en_p (a : Int) : en a - 1 = en (a - 1) := en_sub a 1
theorem en_clamp {a : Int} (h1 : 0 ≤ a) (h2 : a < 2147483648) : (en a).toNatClampNeg = a.toNat := by
  show (en a).toInt.toNat = a.toNat
  rw [en_toInt (by omega) h2]
theorem en_neg {a : Int} (h1 : 0 ≤ a) (h2 : a < 2147483648) : ¬ en a < 0 := fun h => by
  have h3 : en a < en 0 := h
  rw [en_lt (by omega) (by omega) (by omega) (by omega)] at h3
  omega
theorem lix_en {a : Int} (h1 : 0 ≤ a) (h2 : a < 16) : lix (en a) = 6 + a.toNat := by
  unfold lix
  have h3 : ¬ (16 : Int32) ≤ en a := fun h => by
    have h3 : en 16 ≤ en a := h
    rw [en_le (by omega) (by omega) (by omega) (by omega)] at h3
    omega
  rw [if_neg (fun h => h.elim (en_neg h1 (by omega)) h3), en_clamp h1 (by omega)]
theorem fix_en {a : Int} (h1 : 0 ≤ a) (h2 : a < 4) : fix (en a) = 22 + a.toNat := by
  unfold fix
  have h3 : ¬ (4 : Int32) ≤ en a := fun h => by
    have h3 : en 4 ≤ en a := h
    rw [en_le (by omega) (by omega) (by omega) (by omega)] at h3
    omega
  rw [if_neg (fun h => h.elim (en_neg h1 (by omega)) h3), en_clamp h1 (by omega)]
theorem lix_no : lix (-6) = 3 := by decide
theorem fix_no : fix (-6) = 4 := by decide
theorem vuA (f : ES) (k j : Nat) (x : CS) : va_up f k x j = if j = k then x else f j := rfl
theorem updA (f : CS) (k j : Nat) (x : Int32) : upd f k x j = if j = k then x else f j := rfl
def up (S : SS) (k j : Nat) (v : Int) : SS := fun a b => if a = k ∧ b = j then v else S a b
theorem upA (S : SS) (k j : Nat) (v : Int) (a b : Nat) : up S k j v a b = if a = k ∧ b = j then v else S a b := rfl
/-- the places that count -/
def rl (k j : Nat) : Prop := (k = 0 ∧ 5 ≤ j ∧ j < 16) ∨ (k = 3 ∧ j = 0) ∨ (k = 5 ∧ j < 5) ∨ (6 ≤ k ∧ k < 22 ∧ j < 9) ∨ (22 ≤ k ∧ k < 26 ∧ j < 10)
def Ag (S : SS) (X : ES) : Prop := ∀ k j, rl k j → X k j = en (S k j)
theorem Ag.slf {S : SS} {X : ES} {k : Nat} (h : Ag S X) : Ag S (va_up X k (X k)) := by rw [vuSelf]; exact h
theorem Ag.up {S : SS} {X : ES} {R : CS} {k j : Nat} {x : Int32} {v : Int} (h : Ag S (va_up X k R)) (hx : x = en v) : Ag (up S k j v) (va_up X k (upd R j x)) := by
  intro a b hab
  have h1 := h a b hab
  rw [vuA] at h1 ⊢
  by_cases e : a = k
  · rw [if_pos e] at h1 ⊢
    rw [updA, upA]
    by_cases e2 : b = j
    · rw [if_pos e2, if_pos ⟨e, e2⟩, hx]
    · rw [if_neg e2, if_neg (fun z => e2 z.2), h1]
  · rw [if_neg e] at h1 ⊢
    rw [upA, if_neg (fun z => e z.1), h1]
theorem Ag.h {S : SS} {X : ES} (h : Ag S X) {j : Nat} (h1 : 5 ≤ j) (h2 : j < 16) : X 0 j = en (S 0 j) := h _ _ (Or.inl ⟨rfl, h1, h2⟩)
theorem Ag.s {S : SS} {X : ES} (h : Ag S X) {j : Nat} (h1 : j < 5) : X 5 j = en (S 5 j) := h _ _ (Or.inr (Or.inr (Or.inl ⟨rfl, h1⟩)))
theorem Ag.l {S : SS} {X : ES} (h : Ag S X) {k : Nat} (hk : 6 ≤ k ∧ k < 22) {j : Nat} (h1 : j < 9) : X k j = en (S k j) := h _ _ (Or.inr (Or.inr (Or.inr (Or.inl ⟨hk.1, hk.2, h1⟩))))
theorem Ag.f {S : SS} {X : ES} (h : Ag S X) {k : Nat} (hk : 22 ≤ k ∧ k < 26) {j : Nat} (h1 : j < 10) : X k j = en (S k j) := h _ _ (Or.inr (Or.inr (Or.inr (Or.inr ⟨hk.1, hk.2, h1⟩))))
theorem Ag.n {S : SS} {X : ES} (h : Ag S X) : X 3 0 = en (S 3 0) := h _ _ (Or.inr (Or.inl ⟨rfl, rfl⟩))
-- ===== what the class does, as functions of the numbers =====
def bcm (S : SS) (k : Nat) (m : Int) : SS := up (up (up S k 0 m) k 7 0) k 8 0
def bfr (S : SS) (k : Nat) : SS := up (up (up (up (up (up (bcm S k 0) k 2 (-6)) k 3 0) k 4 (-6)) k 5 0) k 6 0) k 9 (-6)
def lvc (S : SS) (k : Nat) (p : Int) : SS := up (up (up (up (up S k 0 p) k 6 (-6)) k 8 0) k 4 0) k 5 0
def sndV (S : SS) (k c : Nat) : SS := up (up (up (up (up (bcm S k 9) k 4 (-6)) k 9 (-6)) c 0 9) c 3 3) 0 14 (S 0 14 + 1)
def sndB (S : SS) (k c : Nat) (r : Int) : SS := up (up (up (up (up (bcm S k 9) k 4 (-6)) k 9 (-6)) c 0 8) c 3 r) 0 13 (S 0 13 + 1)
def f_seek (S : SS) (k c : Nat) : SS := if S k 1 = S k 2 then up (up (bcm S k 2) c 0 2) 0 10 (S 0 10 + 1) else up S k 1 ((S k 1 + 1) % 16)
def dgt (d : Int) : Int := (en d &&& 15).toInt
def dsh (d : Int) : Int := (((en d).toUInt32 >>> ((4 : Int32).toUInt32 &&& Int32.toUInt32 31)).toInt32).toInt
def pls (d : Int) : Int := if dgt d = 0 then 10 else dgt d
def f_await (S : SS) (k c : Nat) (m : Int) : SS :=
  if S c 5 ≤ 0 then (if S k 7 + 1 < S 5 0 then up S k 7 (S k 7 + 1) else up (lvc (up (bfr (up S k 7 (S k 7 + 1)) k) c 3 5) c 10) 0 15 (S 0 15 + 1))
  else up (up (up (up (bcm S k m) c 4 (dsh (S c 4))) c 5 (S c 5 - 1)) k 5 (pls (S c 4))) c 0 3
def f_rise (S : SS) (k c : Nat) : SS :=
  if S k 5 - 1 ≤ 0 then (if S k 3 + 1 ≤ 4 then up (bcm (up (up S k 5 (S k 5 - 1)) k 3 (S k 3 + 1)) k 4) k 4 0 else sndV (up (up S k 5 (S k 5 - 1)) k 3 (S k 3 + 1)) k c)
  else up (up S k 5 (S k 5 - 1)) k 3 (S k 3 + 1)
def hldF (S : SS) (l n : Int) : Nat → Nat → Int
  | 0, _ => -6
  | m + 1, i => if (5 ≤ S (22 + i) 0 ∧ S (22 + i) 0 ≤ 8) ∧ S (22 + i) 3 = l ∧ S (22 + i) 4 = n then (i : Int) else hldF S l n m (i + 1)
def hld (S : SS) (l n : Int) : Int := hldF S l n (S 0 5).toNat 0
def f_hunt (S : SS) (k c : Nat) : SS :=
  if hld S (S k 3) (S k 4) = -6 then bcm S k 5
  else if S k 4 + 1 < S 0 6 then up S k 4 (S k 4 + 1) else sndB (up S k 4 (S k 4 + 1)) k c 2
def f_call (S : SS) (k c t : Nat) (v : Int) : SS := up (up (up (up (up (bcm S k 7) k 9 v) c 0 4) t 0 5) t 6 (S c 6)) 0 11 (S 0 11 + 1)
def f_stepOn (S : SS) (k c : Nat) : SS :=
  if S k 5 - 1 ≤ 0 then (if S k 6 + 1 ≤ 4 then
      (if S (6 + (4 * (S k 3 - 1) + (S k 6 + 1) - 1).toNat) 0 = 0 then f_call (up (up S k 5 (S k 5 - 1)) k 6 (S k 6 + 1)) k c (6 + (4 * (S k 3 - 1) + (S k 6 + 1) - 1).toNat) (4 * (S k 3 - 1) + (S k 6 + 1) - 1)
       else sndB (up (up S k 5 (S k 5 - 1)) k 6 (S k 6 + 1)) k c 1)
    else sndV (up (up S k 5 (S k 5 - 1)) k 6 (S k 6 + 1)) k c)
  else up (up S k 5 (S k 5 - 1)) k 6 (S k 6 + 1)
def f_ring (S : SS) (k c t : Nat) : SS :=
  if S t 1 = 0 then (if S k 7 + 1 < S 5 1 then up S k 7 (S k 7 + 1) else lvc (sndB (up S k 7 (S k 7 + 1)) k c 4) t 0)
  else up (up (up (up (bcm S k 8) c 0 6) t 0 7) c 2 (S c 2 + 1)) 0 12 (S 0 12 + 1)
def f_mt (S : SS) (c : Nat) (tm pr me : Int) : SS := if tm % pr = 0 then up S c 2 (me + 1) else S
def f_talk (S : SS) (k c t : Nat) : SS :=
  if S t 1 = 0 then (if S k 8 + 1 < S 5 3 then f_mt (up (up S k 8 (S k 8 + 1)) k 7 (S k 7 + 1)) c (S k 7 + 1) (S 5 2) (S c 2)
    else lvc (lvc (up (bfr (up S k 8 (S k 8 + 1)) k) c 3 6) c 10) t 0)
  else f_mt (up (up S k 8 0) k 7 (S k 7 + 1)) c (S k 7 + 1) (S 5 2) (S c 2)
def f_sound (S : SS) (k c : Nat) : SS := if S k 7 + 1 < S 5 0 then up S k 7 (S k 7 + 1) else lvc (bfr (up S k 7 (S k 7 + 1)) k) c 10
def stp (S : SS) (k c t : Nat) : SS :=
  if S k 0 = 1 then f_seek S k c else if S k 0 = 2 then f_await S k c 3 else if S k 0 = 3 then f_rise S k c else if S k 0 = 4 then f_hunt S k c
  else if S k 0 = 5 then f_await S k c 6 else if S k 0 = 6 then f_stepOn S k c else if S k 0 = 7 then f_ring S k c t else if S k 0 = 8 then f_talk S k c t else if S k 0 = 9 then f_sound S k c else S
def stpF (S : SS) (f : Nat) : SS := stp S (22 + f) (6 + (S (22 + f) 2).toNat) (6 + (S (22 + f) 9).toNat)
def stpN (S : SS) : Nat → SS
  | 0 => S
  | n + 1 => stpF (stpN S n) n
def nfN (S : SS) (i : Int) : Int := if S 0 8 + i < S 0 5 then S 0 8 + i else S 0 8 + i - S 0 5
def nfF (S : SS) : Nat → Int → Int
  | 0, _ => -6
  | m + 1, i => if S (22 + (nfN S i).toNat) 0 = 0 then nfN S i else nfF S m (i + 1)
def nfr (S : SS) : Int := nfF S (S 0 5).toNat 1
def fwF (S : SS) : Nat → Nat → Int → Int
  | 0, _, w => w
  | m + 1, i, w => if S (6 + i) 0 = 1 ∧ S (6 + i) 6 = -6 ∧ (w = -6 ∨ S (6 + i) 7 < S (6 + w.toNat) 7) then fwF S m (i + 1) i else fwF S m (i + 1) w
def fw (S : SS) : Int := fwF S 16 0 (-6)
def allot (S : SS) : SS :=
  if nfr S = -6 then S else if fw S = -6 then S
  else up (up (up (bcm S (22 + (nfr S).toNat) 1) (22 + (nfr S).toNat) 2 (fw S)) (6 + (fw S).toNat) 6 (nfr S)) 0 8 (nfr S)
def pk1 (S : SS) (c : Nat) (h : Int) : SS :=
  if S c 0 = 10 then (if S c 8 + 1 < h then up S c 8 (S c 8 + 1) else up (up (up S c 8 (S c 8 + 1)) c 0 11) c 8 0) else S
def pkN (S : SS) (h : Int) : Nat → SS
  | 0 => S
  | n + 1 => pk1 (pkN S h n) (6 + n) h
def stepd (S : SS) : SS := stpN S (S 0 5).toNat
def parkd (S : SS) : SS := pkN S (S 5 4) 16
def tick (S : SS) : SS := up (parkd (allot (stepd S))) 0 7 (parkd (allot (stepd S)) 0 7 + 1)
end
section
-- ===== what holds of the numbers between calls =====
def finOK (q nc : Int) (F : Nat → Int) : Prop :=
  (0 ≤ F 0 ∧ F 0 ≤ 9) ∧ (0 ≤ F 1 ∧ F 1 < 16) ∧ (0 ≤ F 7 ∧ F 7 ≤ q) ∧ (0 ≤ F 8 ∧ F 8 ≤ q) ∧ (0 ≤ F 3 ∧ F 3 ≤ 16) ∧ (0 ≤ F 5 ∧ F 5 ≤ 16) ∧ (0 ≤ F 6 ∧ F 6 ≤ 16) ∧
  (F 0 = 0 → F 2 = -6) ∧ (¬ F 0 = 0 → 0 ≤ F 2 ∧ F 2 < 16) ∧
  (F 0 < 3 → F 3 = 0) ∧ (F 0 = 3 → 1 ≤ F 5 ∧ F 3 + F 5 ≤ 16) ∧ (4 ≤ F 0 ∧ F 0 ≤ 8 → 1 ≤ F 3 ∧ F 3 ≤ 4) ∧
  (F 0 < 4 ∨ F 0 = 9 → F 4 = -6) ∧ (4 ≤ F 0 ∧ F 0 ≤ 8 → 0 ≤ F 4 ∧ F 4 < nc) ∧
  (F 0 < 6 → F 6 = 0) ∧ (F 0 = 6 → 1 ≤ F 5 ∧ F 6 + F 5 ≤ 16) ∧
  (F 0 = 7 ∨ F 0 = 8 → 0 ≤ F 9 ∧ F 9 < 16 ∧ F 3 = F 9 / 4 + 1) ∧ (¬ F 0 = 7 ∧ ¬ F 0 = 8 → F 9 = -6)
def linOK (q : Int) (L : Nat → Int) : Prop :=
  (0 ≤ L 0 ∧ L 0 ≤ 11) ∧ (L 1 = 0 ∨ L 1 = 1) ∧ (0 ≤ L 2 ∧ L 2 ≤ q) ∧ (0 ≤ L 5 ∧ L 5 ≤ 4) ∧ (L 6 = -6 ∨ (0 ≤ L 6 ∧ L 6 < 4)) ∧ (0 ≤ L 7 ∧ L 7 ≤ q) ∧ (0 ≤ L 8 ∧ L 8 ≤ q) ∧
  (L 0 = 0 → L 1 = 0 ∧ L 5 = 0 ∧ L 6 = -6) ∧ (¬ L 0 = 0 ∧ ¬ L 0 = 5 ∧ ¬ L 0 = 7 → L 1 = 1)
def hdOK (q : Int) (H : Nat → Int) : Prop :=
  (1 ≤ H 5 ∧ H 5 ≤ 4) ∧ (1 ≤ H 6 ∧ H 6 ≤ 3) ∧ (0 ≤ H 7 ∧ H 7 ≤ q) ∧ (-1 ≤ H 8 ∧ H 8 < H 5) ∧ (0 ≤ H 12 ∧ H 12 ≤ q) ∧ (0 ≤ H 11 ∧ H 11 ≤ q) ∧ (0 ≤ H 10 ∧ H 10 ≤ q) ∧ (0 ≤ H 9 ∧ H 9 ≤ q) ∧ (0 ≤ H 13 ∧ H 13 ≤ q) ∧ (0 ≤ H 14 ∧ H 14 ≤ q) ∧ (0 ≤ H 15 ∧ H 15 ≤ q)
def setOK (T : Nat → Int) : Prop := (1 ≤ T 0 ∧ T 0 ≤ 200) ∧ (1 ≤ T 1 ∧ T 1 ≤ 200) ∧ (1 ≤ T 2 ∧ T 2 ≤ 200) ∧ (1 ≤ T 3 ∧ T 3 ≤ 200) ∧ (1 ≤ T 4 ∧ T 4 ≤ 200)
/-- a finder's state fits its caller's -/
def smt (m st : Int) : Prop := (m = 1 ∧ st = 1) ∨ (m = 2 ∧ st = 2) ∨ (3 ≤ m ∧ m ≤ 6 ∧ st = 3) ∨ (m = 7 ∧ st = 4) ∨ (m = 8 ∧ st = 6) ∨ (m = 9 ∧ (st = 8 ∨ st = 9))
def lkC (S : SS) (f : Nat) : Prop := ∀ c : Nat, c < 16 → ¬ S (22 + f) 0 = 0 → S (22 + f) 2 = (c : Int) → S (6 + c) 6 = (f : Int) ∧ smt (S (22 + f) 0) (S (6 + c) 0)
def lkT (S : SS) (f : Nat) : Prop := ∀ t : Nat, t < 16 → S (22 + f) 9 = (t : Int) → S (6 + t) 6 = (f : Int) ∧ ((S (22 + f) 0 = 7 ∧ S (6 + t) 0 = 5) ∨ (S (22 + f) 0 = 8 ∧ S (6 + t) 0 = 7))
def lkL (S : SS) (n : Nat) : Prop := (S (6 + n) 6 = -6 ∧ (S (6 + n) 0 = 0 ∨ S (6 + n) 0 = 1 ∨ S (6 + n) 0 = 10 ∨ S (6 + n) 0 = 11)) ∨ ∃ f : Nat, f < 4 ∧ S (6 + n) 6 = (f : Int) ∧ ¬ S (22 + f) 0 = 0 ∧ (S (22 + f) 2 = (n : Int) ∨ S (22 + f) 9 = (n : Int))
def hds (m : Int) : Prop := 5 ≤ m ∧ m ≤ 8
def uqX (S : SS) (f g : Nat) : Prop := hds (S (22 + f) 0) → hds (S (22 + g) 0) → ¬ (S (22 + f) 3 = S (22 + g) 3 ∧ S (22 + f) 4 = S (22 + g) 4)
def uqT (S : SS) : Prop := (∀ n m : Nat, n < 16 → m < 16 → ¬ n = m → S (6 + n) 0 = 1 → S (6 + m) 0 = 1 → ¬ S (6 + n) 7 = S (6 + m) 7) ∧ ∀ n : Nat, n < 16 → S (6 + n) 0 = 1 → S (6 + n) 7 ≤ S 0 9
/-- sums over the first n -/
def sm (g : Nat → Int) : Nat → Int
  | 0 => 0
  | n + 1 => sm g n + g n
def rv (s : Int) : Int := if s = 5 ∨ s = 7 then 1 else if s = 4 ∨ s = 6 then -1 else 0
def w1 (s : Int) : Int := if s = 1 then 1 else 0
def w2 (m : Int) : Int := if 2 ≤ m ∧ m ≤ 6 then 1 else 0
def w3 (m : Int) : Int := if m = 7 then 1 else 0
def cnt (S : SS) : Prop :=
  S 0 10 + sm (fun n => w1 (S (6 + n) 0)) 16 ≤ S 0 9 ∧
  S 0 11 + sm (fun f => w2 (S (22 + f) 0)) 4 ≤ S 0 10 ∧
  S 0 12 + sm (fun f => w3 (S (22 + f) 0)) 4 ≤ S 0 11 ∧
  S 0 12 ≤ sm (fun n => S (6 + n) 2) 16 ∧
  sm (fun n => rv (S (6 + n) 0)) 16 = 0
def Inv (q : Int) (S : SS) : Prop :=
  hdOK q (S 0) ∧ setOK (S 5) ∧ S 3 0 = 0 ∧ (∀ f : Nat, f < 4 → finOK q (S 0 6) (S (22 + f))) ∧ (∀ n : Nat, n < 16 → linOK q (S (6 + n))) ∧ (∀ f : Nat, f < 4 → S 0 5 ≤ (f : Int) → S (22 + f) 0 = 0) ∧
  (∀ f : Nat, f < 4 → lkC S f) ∧ (∀ f : Nat, f < 4 → lkT S f) ∧ (∀ n : Nat, n < 16 → lkL S n) ∧ (∀ f g : Nat, f < 4 → g < 4 → ¬ f = g → uqX S f g) ∧ uqT S ∧ cnt S
section IP
variable {q : Int} {S : SS}
theorem Inv.hd (h : Inv q S) : hdOK q (S 0) := h.1
theorem Inv.set (h : Inv q S) : setOK (S 5) := h.2.1
theorem Inv.no (h : Inv q S) : S 3 0 = 0 := h.2.2.1
theorem Inv.fin (h : Inv q S) : ∀ f : Nat, f < 4 → finOK q (S 0 6) (S (22 + f)) := h.2.2.2.1
theorem Inv.lin (h : Inv q S) : ∀ n : Nat, n < 16 → linOK q (S (6 + n)) := h.2.2.2.2.1
theorem Inv.off (h : Inv q S) : ∀ f : Nat, f < 4 → S 0 5 ≤ (f : Int) → S (22 + f) 0 = 0 := h.2.2.2.2.2.1
theorem Inv.lkC (h : Inv q S) : ∀ f : Nat, f < 4 → lkC S f := h.2.2.2.2.2.2.1
theorem Inv.lkT (h : Inv q S) : ∀ f : Nat, f < 4 → lkT S f := h.2.2.2.2.2.2.2.1
theorem Inv.lkL (h : Inv q S) : ∀ n : Nat, n < 16 → lkL S n := h.2.2.2.2.2.2.2.2.1
theorem Inv.uqX (h : Inv q S) : ∀ f g : Nat, f < 4 → g < 4 → ¬ f = g → uqX S f g := h.2.2.2.2.2.2.2.2.2.1
theorem Inv.uqT (h : Inv q S) : uqT S := h.2.2.2.2.2.2.2.2.2.2.1
theorem Inv.cnt (h : Inv q S) : cnt S := h.2.2.2.2.2.2.2.2.2.2.2
/-- the caller of a finder -/
theorem Inv.cal (h : Inv q S) {f : Nat} (hf : f < 4) (hm : ¬ S (22 + f) 0 = 0) : ∃ c : Nat, c < 16 ∧ S (22 + f) 2 = (c : Int) ∧ (S (22 + f) 2).toNat = c ∧ S (6 + c) 6 = (f : Int) ∧ smt (S (22 + f) 0) (S (6 + c) 0) := by
  have h1 := h.fin f hf
  unfold finOK at h1
  obtain ⟨c, hc⟩ := Int.eq_ofNat_of_zero_le (a := S (22 + f) 2) (by omega)
  exact ⟨c, by omega, hc, by omega, h.lkC f hf c (by omega) hm hc⟩
/-- the line that a finder rings or talks to -/
theorem Inv.tgt (h : Inv q S) {f : Nat} (hf : f < 4) (hm : S (22 + f) 0 = 7 ∨ S (22 + f) 0 = 8) : ∃ t : Nat, t < 16 ∧ S (22 + f) 9 = (t : Int) ∧ (S (22 + f) 9).toNat = t ∧ S (6 + t) 6 = (f : Int) ∧ ((S (22 + f) 0 = 7 ∧ S (6 + t) 0 = 5) ∨ (S (22 + f) 0 = 8 ∧ S (6 + t) 0 = 7)) := by
  have h1 := h.fin f hf
  unfold finOK at h1
  obtain ⟨t, ht⟩ := Int.eq_ofNat_of_zero_le (a := S (22 + f) 9) (by omega)
  exact ⟨t, by omega, ht, by omega, h.lkT f hf t (by omega) ht⟩
theorem Inv.ne (h : Inv q S) {f c t : Nat} (hf : f < 4) (hc : c < 16) (ht : t < 16) (hm : S (22 + f) 0 = 7 ∨ S (22 + f) 0 = 8) (ec : S (22 + f) 2 = (c : Int)) (et : S (22 + f) 9 = (t : Int)) : ¬ t = c := by
  intro e
  subst e
  have a := (h.lkC f hf t ht (by omega) ec).2
  have b := (h.lkT f hf t ht et).2
  unfold smt at a
  omega
end IP
end
section
-- ===== the class's steps are these functions =====
theorem en_rem {a b : Int} (h1 : 0 ≤ a) (h2 : a < 2147483648) (h3 : 0 < b) (h4 : b < 2147483648) : en a - en a / en b * en b = en (a % b) := by
  obtain ⟨n, rfl⟩ := Int.eq_ofNat_of_zero_le h1
  obtain ⟨m, rfl⟩ := Int.eq_ofNat_of_zero_le (Int.le_of_lt h3)
  rw [en_nat, en_nat, pk_rem (by omega) (by omega) (by omega), ← en_nat, Int.natCast_emod]
theorem stg_0 {X : ES} {K : Int32 → Prop} : wp_X0_settingAt X 0 K = K (X 5 0) := by
  unfold wp_X0_settingAt; exact propext ⟨fun q => ((q.2 (by decide)).2 (by decide)).2, fun q => ⟨fun z => absurd z (by decide), fun _ => ⟨fun z => absurd z (by decide), fun _ => ⟨vp_in_nI (n := 0) (by decide) (by decide), q⟩⟩⟩⟩
theorem stg_1 {X : ES} {K : Int32 → Prop} : wp_X0_settingAt X 1 K = K (X 5 1) := by
  unfold wp_X0_settingAt; exact propext ⟨fun q => ((q.2 (by decide)).2 (by decide)).2, fun q => ⟨fun z => absurd z (by decide), fun _ => ⟨fun z => absurd z (by decide), fun _ => ⟨vp_in_nI (n := 1) (by decide) (by decide), q⟩⟩⟩⟩
theorem stg_2 {X : ES} {K : Int32 → Prop} : wp_X0_settingAt X 2 K = K (X 5 2) := by
  unfold wp_X0_settingAt; exact propext ⟨fun q => ((q.2 (by decide)).2 (by decide)).2, fun q => ⟨fun z => absurd z (by decide), fun _ => ⟨fun z => absurd z (by decide), fun _ => ⟨vp_in_nI (n := 2) (by decide) (by decide), q⟩⟩⟩⟩
theorem stg_3 {X : ES} {K : Int32 → Prop} : wp_X0_settingAt X 3 K = K (X 5 3) := by
  unfold wp_X0_settingAt; exact propext ⟨fun q => ((q.2 (by decide)).2 (by decide)).2, fun q => ⟨fun z => absurd z (by decide), fun _ => ⟨fun z => absurd z (by decide), fun _ => ⟨vp_in_nI (n := 3) (by decide) (by decide), q⟩⟩⟩⟩
theorem stg_4 {X : ES} {K : Int32 → Prop} : wp_X0_settingAt X 4 K = K (X 5 4) := by
  unfold wp_X0_settingAt; exact propext ⟨fun q => ((q.2 (by decide)).2 (by decide)).2, fun q => ⟨fun z => absurd z (by decide), fun _ => ⟨fun z => absurd z (by decide), fun _ => ⟨vp_in_nI (n := 4) (by decide) (by decide), q⟩⟩⟩⟩
section WF
variable {S : SS} {X : ES} {k c t : Nat} {K : ES → Prop}
theorem w_seek (h : Ag S X) (hk : 22 ≤ k ∧ k < 26) (hc : 6 ≤ c ∧ c < 22) (b1 : 0 ≤ S k 1 ∧ S k 1 < 16) (b2 : 0 ≤ S k 2 ∧ S k 2 < 16) (hK : ∀ X', Ag (f_seek S k c) X' → K X') : wp_X0_seek X k c K := by
  have rf1 := h.f hk (j := 1) (by decide)
  have rf2 := h.f hk (j := 2) (by decide)
  have rh10 := h.h (j := 10) (by decide) (by decide)
  have n1 : ¬ k = c := by omega
  have n2 : ¬ c = k := by omega
  have n3 : ¬ 0 = k := by omega
  have n4 : ¬ 0 = c := by omega
  have n5 : ¬ 5 = k := by omega
  have n6 : ¬ 5 = c := by omega
  simp only [wp_X0_seek, wp_X1_become, forall_eq]
  refine ⟨fun e => hK _ ?_, fun e => hK _ ?_⟩
  · rw [rf1, rf2, en_eq (by omega) (by omega) (by omega) (by omega)] at e
    rw [f_seek, if_pos e]
    repeat' first | exact h | refine Ag.up ?_ ?_ | refine Ag.slf ?_
    all_goals first | rfl | (simp [vuA, updA, upA, bcm, bfr, lvc, en_s, en_p, n1, n2, n3, n4, n5, n6, rf1, rf2, rh10]; done)
  · rw [rf1, rf2, en_eq (by omega) (by omega) (by omega) (by omega)] at e
    rw [f_seek, if_neg e]
    refine h.slf.up ?_
    rw [rf1, en_s]
    exact en_rem (b := 16) (by omega) (by omega) (by omega) (by omega)
theorem take_v (d : Int) : (if en d &&& 15 = 0 then (10 : Int32) else en d &&& 15) = en (pls d) := by
  unfold pls dgt
  by_cases e : en d &&& 15 = 0
  · rw [if_pos e, e]; rfl
  · rw [if_neg e, if_neg, en_of]
    intro z
    exact e (Int32.toInt_inj.mp z)
theorem w_await (h : Ag S X) (hk : 22 ≤ k ∧ k < 26) (hc : 6 ≤ c ∧ c < 22) {m : Int} {p3 : Int32} (hm : p3 = en m) (b7 : 0 ≤ S k 7 ∧ S k 7 < 1000000) (b5 : 0 ≤ S c 5 ∧ S c 5 ≤ 4) (bs : 0 ≤ S 5 0 ∧ S 5 0 < 1000000) (hK : ∀ X', Ag (f_await S k c m) X' → K X') : wp_X0_awaitDigit X k c p3 K := by
  have rf7 := h.f hk (j := 7) (by decide)
  have rl4 := h.l hc (j := 4) (by decide)
  have rl5 := h.l hc (j := 5) (by decide)
  have rh15 := h.h (j := 15) (by decide) (by decide)
  have rs0 := h.s (j := 0) (by decide)
  have n1 : ¬ k = c := by omega
  have n2 : ¬ c = k := by omega
  have n3 : ¬ 0 = k := by omega
  have n4 : ¬ 0 = c := by omega
  have n5 : ¬ 5 = k := by omega
  have n6 : ¬ 5 = c := by omega
  simp only [wp_X0_awaitDigit, wp_X1_become, wp_X1_becomeFree, wp_X2_leaveCall, wp_X2_takePulses, stg_0, forall_eq]
  refine ⟨fun e => ?_, fun e => ?_⟩
  · have e1 : S c 5 ≤ 0 := by
      rw [rl5] at e
      exact (en_le (b := 0) (by omega) (by omega) (by omega) (by omega)).mp e
    refine ⟨fun e2 => hK _ ?_, fun e2 => hK _ ?_⟩
    · rw [vuS, pk_us, vuN n5, rf7, rs0, en_s, en_lt (by omega) (by omega) (by omega) (by omega)] at e2
      rw [f_await, if_pos e1, if_pos e2]
      repeat' first | exact h | refine Ag.up ?_ ?_ | refine Ag.slf ?_
      all_goals first | rfl | (simp [vuA, updA, upA, bcm, bfr, lvc, en_s, en_p, n1, n2, n3, n4, n5, n6, rf7, rl4, rl5, rh15, rs0]; done)
    · rw [vuS, pk_us, vuN n5, rf7, rs0, en_s, en_lt (by omega) (by omega) (by omega) (by omega)] at e2
      rw [f_await, if_pos e1, if_neg e2]
      repeat' first | exact h | refine Ag.up ?_ ?_ | refine Ag.slf ?_
      all_goals first | rfl | (simp [vuA, updA, upA, bcm, bfr, lvc, en_s, en_p, n1, n2, n3, n4, n5, n6, rf7, rl4, rl5, rh15, rs0]; done)
  · have e1 : ¬ S c 5 ≤ 0 := fun z => e (by rw [rl5]; exact (en_le (b := 0) (by omega) (by omega) (by omega) (by omega)).mpr z)
    have tv := take_v (S c 4)
    rw [← rl4] at tv
    refine ⟨fun z => hK _ ?_, fun z => hK _ ?_⟩
    · rw [vuN n2] at z
      rw [f_await, if_neg e1]
      repeat' first | exact h | refine Ag.up ?_ ?_ | refine Ag.slf ?_
      all_goals first | rfl | exact hm | (rw [← tv, if_pos z]; done) | (rw [vuN n2, rl4, dsh, en_of]; done) | (simp [vuA, updA, upA, bcm, en_p, n1, n2, rf7, rl4, rl5, rh15, rs0]; done)
    · rw [vuN n2] at z
      rw [f_await, if_neg e1]
      repeat' first | exact h | refine Ag.up ?_ ?_ | refine Ag.slf ?_
      all_goals first | rfl | exact hm | (rw [vuN n2, ← tv, if_neg z]; done) | (rw [vuN n2, rl4, dsh, en_of]; done) | (simp [vuA, updA, upA, bcm, en_p, n1, n2, rf7, rl4, rl5, rh15, rs0]; done)
theorem w_rise (h : Ag S X) (hk : 22 ≤ k ∧ k < 26) (hc : 6 ≤ c ∧ c < 22) (b5 : 0 ≤ S k 5 ∧ S k 5 < 1000000) (b3 : 0 ≤ S k 3 ∧ S k 3 < 1000000) (hK : ∀ X', Ag (f_rise S k c) X' → K X') : wp_X0_rise X k c K := by
  have rf3 := h.f hk (j := 3) (by decide)
  have rf5 := h.f hk (j := 5) (by decide)
  have rh14 := h.h (j := 14) (by decide) (by decide)
  have n1 : ¬ k = c := by omega
  have n2 : ¬ c = k := by omega
  have n3 : ¬ 0 = k := by omega
  have n4 : ¬ 0 = c := by omega
  have n5 : ¬ 5 = k := by omega
  have n6 : ¬ 5 = c := by omega
  have d9 : ¬ (9 : Int32) = 8 := by decide
  simp only [wp_X0_rise, wp_X0_sound, wp_X1_become, forall_eq, if_neg, d9, false_imp_iff, true_and, not_false_eq_true, true_imp_iff]
  have l0 : (0 : Int32) = en 0 := rfl
  have l4 : (4 : Int32) = en 4 := rfl
  refine ⟨fun e => ⟨fun e2 => hK _ ?_, fun e2 => hK _ ?_⟩, fun e => hK _ ?_⟩
  · rw [vuU, vuS, vuS, pk_un (by decide), pk_us, rf5, en_p, l0, en_le (by omega) (by omega) (by omega) (by omega)] at e
    rw [vuU, vuS, vuS, pk_us, pk_un (by decide), rf3, en_s, l4, en_le (by omega) (by omega) (by omega) (by omega)] at e2
    rw [f_rise, if_pos e, if_pos e2]
    repeat' first | exact h | refine Ag.up ?_ ?_ | refine Ag.slf ?_
    all_goals first | rfl | (simp [vuA, updA, upA, bcm, bfr, lvc, en_s, en_p, n1, n2, n3, n4, n5, n6, rf3, rf5, rh14]; done)
  · rw [vuU, vuS, vuS, pk_un (by decide), pk_us, rf5, en_p, l0, en_le (by omega) (by omega) (by omega) (by omega)] at e
    rw [vuU, vuS, vuS, pk_us, pk_un (by decide), rf3, en_s, l4, en_le (by omega) (by omega) (by omega) (by omega)] at e2
    rw [f_rise, if_pos e, if_neg e2]
    repeat' first | exact h | refine Ag.up ?_ ?_ | refine Ag.slf ?_
    all_goals first | rfl | (simp [vuA, updA, upA, bcm, bfr, lvc, en_s, en_p, n1, n2, n3, n4, n5, n6, rf3, rf5, rh14]; done)
  · rw [vuU, vuS, vuS, pk_un (by decide), pk_us, rf5, en_p, l0, en_le (by omega) (by omega) (by omega) (by omega)] at e
    rw [f_rise, if_neg e]
    repeat' first | exact h | refine Ag.up ?_ ?_ | refine Ag.slf ?_
    all_goals first | rfl | (simp [vuA, updA, upA, bcm, bfr, lvc, en_s, en_p, n1, n2, n3, n4, n5, n6, rf3, rf5, rh14]; done)
theorem w_sound (h : Ag S X) (hk : 22 ≤ k ∧ k < 26) (hc : 6 ≤ c ∧ c < 22) (b7 : 0 ≤ S k 7 ∧ S k 7 < 1000000) (bs : 0 ≤ S 5 0 ∧ S 5 0 < 1000000) (hK : ∀ X', Ag (f_sound S k c) X' → K X') : wp_X0_soundOn X k c K := by
  have rf7 := h.f hk (j := 7) (by decide)
  have rs0 := h.s (j := 0) (by decide)
  have n1 : ¬ k = c := by omega
  have n2 : ¬ c = k := by omega
  have n3 : ¬ 0 = k := by omega
  have n4 : ¬ 0 = c := by omega
  have n5 : ¬ 5 = k := by omega
  have n6 : ¬ 5 = c := by omega
  simp only [wp_X0_soundOn, wp_X1_become, wp_X1_becomeFree, wp_X2_leaveCall, stg_0, forall_eq]
  refine ⟨fun e => hK _ ?_, fun e => hK _ ?_⟩
  · rw [vuS, pk_us, vuN n5, rf7, rs0, en_s, en_lt (by omega) (by omega) (by omega) (by omega)] at e
    rw [f_sound, if_pos e]
    repeat' first | exact h | refine Ag.up ?_ ?_ | refine Ag.slf ?_
    all_goals first | rfl | (simp [vuA, updA, upA, bcm, bfr, lvc, en_s, en_p, n1, n2, n3, n4, n5, n6, rf7, rs0]; done)
  · rw [vuS, pk_us, vuN n5, rf7, rs0, en_s, en_lt (by omega) (by omega) (by omega) (by omega)] at e
    rw [f_sound, if_neg e]
    repeat' first | exact h | refine Ag.up ?_ ?_ | refine Ag.slf ?_
    all_goals first | rfl | (simp [vuA, updA, upA, bcm, bfr, lvc, en_s, en_p, n1, n2, n3, n4, n5, n6, rf7, rs0]; done)
theorem w_ring (h : Ag S X) (hk : 22 ≤ k ∧ k < 26) (hc : 6 ≤ c ∧ c < 22) (ht : 6 ≤ t ∧ t < 22) (hct : ¬ t = c) (h9 : 0 ≤ S k 9 ∧ S k 9 < 16) (h9t : t = 6 + (S k 9).toNat) (b1 : S t 1 = 0 ∨ S t 1 = 1) (b7 : 0 ≤ S k 7 ∧ S k 7 < 1000000) (bs : 0 ≤ S 5 1 ∧ S 5 1 < 1000000) (hK : ∀ X', Ag (f_ring S k c t) X' → K X') : wp_X0_ringOn X k c K := by
  have rf7 := h.f hk (j := 7) (by decide)
  have rf9 := h.f hk (j := 9) (by decide)
  have rl2 := h.l hc (j := 2) (by decide)
  have rt1 := h.l ht (j := 1) (by decide)
  have rh12 := h.h (j := 12) (by decide) (by decide)
  have rh13 := h.h (j := 13) (by decide) (by decide)
  have rs1 := h.s (j := 1) (by decide)
  have n1 : ¬ k = c := by omega
  have n2 : ¬ c = k := by omega
  have n3 : ¬ 0 = k := by omega
  have n4 : ¬ 0 = c := by omega
  have n5 : ¬ 5 = k := by omega
  have n6 : ¬ 5 = c := by omega
  have m1 : ¬ k = t := by omega
  have m2 : ¬ t = k := by omega
  have m3 : ¬ 0 = t := by omega
  have m4 : ¬ 5 = t := by omega
  have m5 : ¬ c = t := fun z => hct z.symm
  have m6 : ¬ t = c := hct
  have d8 : (8 : Int32) = 8 := rfl
  have hlix : lix (X k 9) = t := by rw [rf9, lix_en h9.1 h9.2, h9t]
  simp only [wp_X0_ringOn, wp_X0_sound, wp_X1_become, wp_X1_becomeFree, wp_X2_leaveCall, stg_1, forall_eq, hlix, not_true_eq_false, false_imp_iff, and_true, true_imp_iff]
  refine ⟨fun e => ⟨fun e2 => hK _ ?_, fun e2 => hK _ ?_⟩, fun e => hK _ ?_⟩
  · rw [rt1, show (0 : Int32) = en 0 from rfl, en_eq (by omega) (by omega) (by omega) (by omega)] at e
    rw [vuS, pk_us, vuN n5, rf7, rs1, en_s, en_lt (by omega) (by omega) (by omega) (by omega)] at e2
    rw [f_ring, if_pos e, if_pos e2]
    repeat' first | exact h | refine Ag.up ?_ ?_ | refine Ag.slf ?_
    all_goals first | rfl | (simp [vuA, updA, upA, bcm, bfr, lvc, en_s, en_p, n1, n2, n3, n4, n5, n6, m1, m2, m3, m4, m5, m6, rf7, rf9, rl2, rt1, rh12, rh13, rs1]; done)
  · rw [rt1, show (0 : Int32) = en 0 from rfl, en_eq (by omega) (by omega) (by omega) (by omega)] at e
    rw [vuS, pk_us, vuN n5, rf7, rs1, en_s, en_lt (by omega) (by omega) (by omega) (by omega)] at e2
    rw [f_ring, if_pos e, if_neg e2]
    repeat' first | exact h | refine Ag.up ?_ ?_ | refine Ag.slf ?_
    all_goals first | rfl | (simp [vuA, updA, upA, bcm, bfr, lvc, en_s, en_p, n1, n2, n3, n4, n5, n6, m1, m2, m3, m4, m5, m6, rf7, rf9, rl2, rt1, rh12, rh13, rs1]; done)
  · rw [rt1, show (0 : Int32) = en 0 from rfl, en_eq (by omega) (by omega) (by omega) (by omega)] at e
    rw [f_ring, if_neg e]
    repeat' first | exact h | refine Ag.up ?_ ?_ | refine Ag.slf ?_
    all_goals first | rfl | (simp [vuA, updA, upA, bcm, bfr, lvc, en_s, en_p, n1, n2, n3, n4, n5, n6, m1, m2, m3, m4, m5, m6, rf7, rf9, rl2, rt1, rh12, rh13, rs1]; done)
theorem w_talk (h : Ag S X) (hk : 22 ≤ k ∧ k < 26) (hc : 6 ≤ c ∧ c < 22) (ht : 6 ≤ t ∧ t < 22) (hct : ¬ t = c) (h9 : 0 ≤ S k 9 ∧ S k 9 < 16) (h9t : t = 6 + (S k 9).toNat) (b1 : S t 1 = 0 ∨ S t 1 = 1) (b7 : 0 ≤ S k 7 ∧ S k 7 < 1000000) (b8 : 0 ≤ S k 8 ∧ S k 8 < 1000000) (bs : 0 < S 5 2 ∧ S 5 2 < 1000000) (bs3 : 0 ≤ S 5 3 ∧ S 5 3 < 1000000) (hK : ∀ X', Ag (f_talk S k c t) X' → K X') : wp_X0_talkOn X k c K := by
  have rf7 := h.f hk (j := 7) (by decide)
  have rf8 := h.f hk (j := 8) (by decide)
  have rf9 := h.f hk (j := 9) (by decide)
  have rl2 := h.l hc (j := 2) (by decide)
  have rt1 := h.l ht (j := 1) (by decide)
  have rs2 := h.s (j := 2) (by decide)
  have rs3 := h.s (j := 3) (by decide)
  have n1 : ¬ k = c := by omega
  have n2 : ¬ c = k := by omega
  have n3 : ¬ 0 = k := by omega
  have n4 : ¬ 0 = c := by omega
  have n5 : ¬ 5 = k := by omega
  have n6 : ¬ 5 = c := by omega
  have m1 : ¬ k = t := by omega
  have m2 : ¬ t = k := by omega
  have m3 : ¬ 0 = t := by omega
  have m4 : ¬ 5 = t := by omega
  have m5 : ¬ c = t := fun z => hct z.symm
  have m6 : ¬ t = c := hct
  have hlix : lix (X k 9) = t := by rw [rf9, lix_en h9.1 h9.2, h9t]
  have l0 : (0 : Int32) = en 0 := rfl
  have p1 : ¬ X 5 2 ≤ 0 := by rw [rs2, l0, en_le (by omega) (by omega) (by omega) (by omega)]; omega
  have p2 : ¬ X 5 2 = 0 := by rw [rs2, l0, en_eq (by omega) (by omega) (by omega) (by omega)]; omega
  have pm : (X k 7 + 1 - (X k 7 + 1) / X 5 2 * X 5 2 = 0) ↔ (S k 7 + 1) % S 5 2 = 0 := by
    rw [rf7, rs2, en_s, en_rem (by omega) (by omega) (by omega) (by omega), l0]
    have g1 := Int.emod_nonneg (S k 7 + 1) (b := S 5 2) (by omega)
    have g2 := Int.emod_lt_of_pos (S k 7 + 1) (b := S 5 2) (by omega)
    exact en_eq (by omega) (by omega) (by omega) (by omega)
  simp only [wp_X0_talkOn, wp_X1_become, wp_X1_becomeFree, wp_X2_leaveCall, stg_2, stg_3, forall_eq, hlix]
  refine ⟨fun e => ⟨fun e2 => ?_, fun e2 => hK _ ?_⟩, fun e => ?_⟩
  · rw [rt1, l0, en_eq (by omega) (by omega) (by omega) (by omega)] at e
    rw [vuS, pk_us, vuN n5, rf8, rs3, en_s, en_lt (by omega) (by omega) (by omega) (by omega)] at e2
    simp only [vuU, vuS, vuN n5, pk_us, pk_un (show (7 : Nat) ≠ 8 by decide), p1, p2, pm, false_imp_iff, true_and, not_false_eq_true, true_imp_iff]
    refine ⟨fun e3 => hK _ ?_, fun e3 => hK _ ?_⟩
    · rw [f_talk, if_pos e, if_pos e2, f_mt, if_pos e3]
      refine Ag.up (Ag.slf (Ag.up (Ag.up h.slf ?_) ?_)) ?_
      all_goals first | rfl | (simp [vuA, updA, upA, bcm, bfr, lvc, en_s, en_p, n1, n2, n3, n4, n5, n6, m1, m2, m3, m4, m5, m6, rf7, rf8, rf9, rl2, rt1, rs2, rs3]; done)
    · rw [f_talk, if_pos e, if_pos e2, f_mt, if_neg e3]
      refine Ag.up (Ag.up h.slf ?_) ?_
      all_goals first | rfl | (simp [vuA, updA, upA, bcm, bfr, lvc, en_s, en_p, n1, n2, n3, n4, n5, n6, m1, m2, m3, m4, m5, m6, rf7, rf8, rf9, rl2, rt1, rs2, rs3]; done)
  · rw [rt1, l0, en_eq (by omega) (by omega) (by omega) (by omega)] at e
    rw [vuS, pk_us, vuN n5, rf8, rs3, en_s, en_lt (by omega) (by omega) (by omega) (by omega)] at e2
    rw [f_talk, if_pos e, if_neg e2]
    repeat' first | exact h | refine Ag.up ?_ ?_ | refine Ag.slf ?_
    all_goals first | rfl | (simp [vuA, updA, upA, bcm, bfr, lvc, en_s, en_p, n1, n2, n3, n4, n5, n6, m1, m2, m3, m4, m5, m6, rf7, rf8, rf9, rl2, rt1, rs2, rs3]; done)
  · rw [rt1, l0, en_eq (by omega) (by omega) (by omega) (by omega)] at e
    simp only [vuU, vuS, vuN n5, pk_us, pk_un (show (7 : Nat) ≠ 8 by decide), p1, p2, pm, false_imp_iff, true_and, not_false_eq_true, true_imp_iff]
    refine ⟨fun e3 => hK _ ?_, fun e3 => hK _ ?_⟩
    · rw [f_talk, if_neg e, f_mt, if_pos e3]
      refine Ag.up (Ag.slf (Ag.up (Ag.up h.slf ?_) ?_)) ?_
      all_goals first | rfl | (simp [vuA, updA, upA, bcm, bfr, lvc, en_s, en_p, n1, n2, n3, n4, n5, n6, m1, m2, m3, m4, m5, m6, rf7, rf8, rf9, rl2, rt1, rs2, rs3]; done)
    · rw [f_talk, if_neg e, f_mt, if_neg e3]
      refine Ag.up (Ag.up h.slf ?_) ?_
      all_goals first | rfl | (simp [vuA, updA, upA, bcm, bfr, lvc, en_s, en_p, n1, n2, n3, n4, n5, n6, m1, m2, m3, m4, m5, m6, rf7, rf8, rf9, rl2, rt1, rs2, rs3]; done)
end WF
end
section
-- ===== a step of a finder is stpF =====
theorem e_m6 {s : Int} (h1 : -2147483648 ≤ s) (h2 : s < 2147483648) : en s = ((-6) : Int32) ↔ s = (-6) := by rw [show ((-6) : Int32) = en (-6) from rfl]; exact en_eq h1 h2 (by omega) (by omega)
theorem e_0 {s : Int} (h1 : -2147483648 ≤ s) (h2 : s < 2147483648) : en s = (0 : Int32) ↔ s = 0 := by rw [show (0 : Int32) = en 0 from rfl]; exact en_eq h1 h2 (by omega) (by omega)
theorem e_1 {s : Int} (h1 : -2147483648 ≤ s) (h2 : s < 2147483648) : en s = (1 : Int32) ↔ s = 1 := by rw [show (1 : Int32) = en 1 from rfl]; exact en_eq h1 h2 (by omega) (by omega)
theorem e_2 {s : Int} (h1 : -2147483648 ≤ s) (h2 : s < 2147483648) : en s = (2 : Int32) ↔ s = 2 := by rw [show (2 : Int32) = en 2 from rfl]; exact en_eq h1 h2 (by omega) (by omega)
theorem e_3 {s : Int} (h1 : -2147483648 ≤ s) (h2 : s < 2147483648) : en s = (3 : Int32) ↔ s = 3 := by rw [show (3 : Int32) = en 3 from rfl]; exact en_eq h1 h2 (by omega) (by omega)
theorem e_4 {s : Int} (h1 : -2147483648 ≤ s) (h2 : s < 2147483648) : en s = (4 : Int32) ↔ s = 4 := by rw [show (4 : Int32) = en 4 from rfl]; exact en_eq h1 h2 (by omega) (by omega)
theorem e_5 {s : Int} (h1 : -2147483648 ≤ s) (h2 : s < 2147483648) : en s = (5 : Int32) ↔ s = 5 := by rw [show (5 : Int32) = en 5 from rfl]; exact en_eq h1 h2 (by omega) (by omega)
theorem e_6 {s : Int} (h1 : -2147483648 ≤ s) (h2 : s < 2147483648) : en s = (6 : Int32) ↔ s = 6 := by rw [show (6 : Int32) = en 6 from rfl]; exact en_eq h1 h2 (by omega) (by omega)
theorem e_7 {s : Int} (h1 : -2147483648 ≤ s) (h2 : s < 2147483648) : en s = (7 : Int32) ↔ s = 7 := by rw [show (7 : Int32) = en 7 from rfl]; exact en_eq h1 h2 (by omega) (by omega)
theorem e_8 {s : Int} (h1 : -2147483648 ≤ s) (h2 : s < 2147483648) : en s = (8 : Int32) ↔ s = 8 := by rw [show (8 : Int32) = en 8 from rfl]; exact en_eq h1 h2 (by omega) (by omega)
theorem e_9 {s : Int} (h1 : -2147483648 ≤ s) (h2 : s < 2147483648) : en s = (9 : Int32) ↔ s = 9 := by rw [show (9 : Int32) = en 9 from rfl]; exact en_eq h1 h2 (by omega) (by omega)
theorem e_10 {s : Int} (h1 : -2147483648 ≤ s) (h2 : s < 2147483648) : en s = (10 : Int32) ↔ s = 10 := by rw [show (10 : Int32) = en 10 from rfl]; exact en_eq h1 h2 (by omega) (by omega)
theorem e_11 {s : Int} (h1 : -2147483648 ≤ s) (h2 : s < 2147483648) : en s = (11 : Int32) ↔ s = 11 := by rw [show (11 : Int32) = en 11 from rfl]; exact en_eq h1 h2 (by omega) (by omega)
theorem q_hold {L : CS} {s : Int} {K : Int32 → Prop} (hL : L 0 = en s) (h1 : 0 ≤ s) (h2 : s ≤ 9) : wp_X1_holdsConnector L K = K (if 5 ≤ s ∧ s ≤ 8 then 1 else 0) := by
  unfold wp_X1_holdsConnector
  rw [hL, e_5 (by omega) (by omega), e_6 (by omega) (by omega), e_7 (by omega) (by omega), e_8 (by omega) (by omega)]
  by_cases g : 5 ≤ s ∧ s ≤ 8
  · rw [if_pos g]
    rcases (by omega : s = 5 ∨ s = 6 ∨ s = 7 ∨ s = 8) with rfl | rfl | rfl | rfl <;> simp
  · rw [if_neg g]
    simp [show ¬ s = 5 by omega, show ¬ s = 6 by omega, show ¬ s = 7 by omega, show ¬ s = 8 by omega]
section WG
variable {S : SS} {X : ES} {k c t : Nat} {K : ES → Prop}
theorem w_hld (h : Ag S X) {q : Int} (hq : 0 ≤ q ∧ q < 1000000) (hI : Inv q S) {l n : Int} (hl : 0 ≤ l ∧ l < 1000) (hn : -10 ≤ n ∧ n < 1000) {K : Int32 → Prop} : ∀ (m i : Nat), (i : Int) + m = S 0 5 → (K (en (hldF S l n m i)) → wpl_X0_holderOf_2 X (en l) (en n) K (fun _ => K (-6)) (m + 1) (en (i : Int)))
  | 0, i, e => fun hK => by
    have h0 := hI.hd
    unfold hdOK at h0
    rw [wpl_X0_holderOf_2]
    refine ⟨fun _ => hK, fun z => absurd ?_ z⟩
    rw [h.h (j := 5) (by decide) (by decide), en_le (by omega) (by omega) (by omega) (by omega)]
    omega
  | m + 1, i, e => fun hK => by
    have h0 := hI.hd
    unfold hdOK at h0
    have hi : i < 4 := by omega
    have h1 := hI.fin i hi
    unfold finOK at h1
    have hf : ∀ j : Nat, j < 10 → X (22 + i) j = en (S (22 + i) j) := fun j hj => h.f (by omega) hj
    rw [wpl_X0_holderOf_2]
    refine ⟨fun z => absurd z ?_, fun _ => ?_⟩
    · rw [h.h (j := 5) (by decide) (by decide), en_le (by omega) (by omega) (by omega) (by omega)]
      omega
    · rw [fix_en (by omega) (by omega), show (i : Int).toNat = i from rfl, q_hold (hf 0 (by decide)) (by omega) (by omega), hf 3 (by decide), hf 4 (by decide), en_eq (by omega) (by omega) (by omega) (by omega), en_eq (by omega) (by omega) (by omega) (by omega)]
      have ih := w_hld h hq hI hl hn (K := K) m (i + 1) (by omega)
      rw [hldF] at hK
      simp only [forall_eq]
      rw [show en (i : Int) + 1 = en ((i + 1 : Nat) : Int) from en_s _]
      by_cases g : (5 ≤ S (22 + i) 0 ∧ S (22 + i) 0 ≤ 8) ∧ S (22 + i) 3 = l ∧ S (22 + i) 4 = n
      · rw [if_pos g] at hK
        rw [if_pos g.1]
        exact ⟨fun z => absurd z (by decide), fun _ => ⟨fun _ => ⟨fun _ => hK, fun z => absurd g.2.2 z⟩, fun z => absurd g.2.1 z⟩⟩
      · rw [if_neg g] at hK
        have ih2 := ih hK
        exact ⟨fun _ => ih2, fun z => ⟨fun a => ⟨fun b => absurd ⟨by by_cases g3 : 5 ≤ S (22 + i) 0 ∧ S (22 + i) 0 ≤ 8; exact g3; exact absurd (if_neg g3) z, a, b⟩ g, fun _ => ih2⟩, fun _ => ih2⟩⟩
theorem hld_rng (S : SS) (l n : Int) : ∀ (m i : Nat), hldF S l n m i = -6 ∨ ((i : Int) ≤ hldF S l n m i ∧ hldF S l n m i < (i : Int) + m)
  | 0, i => Or.inl rfl
  | m + 1, i => by
    rw [hldF]
    by_cases g : (5 ≤ S (22 + i) 0 ∧ S (22 + i) 0 ≤ 8) ∧ S (22 + i) 3 = l ∧ S (22 + i) 4 = n
    · rw [if_pos g]; omega
    · rw [if_neg g]
      have := hld_rng S l n m (i + 1)
      omega
theorem q_holder (h : Ag S X) {q : Int} (hq : 0 ≤ q ∧ q < 1000000) (hI : Inv q S) {l n : Int} (hl : 0 ≤ l ∧ l < 1000) (hn : -10 ≤ n ∧ n < 1000) {K : Int32 → Prop} (hK : K (en (hld S l n))) : wp_X0_holderOf X (en l) (en n) K := by
  have h0 := hI.hd
  unfold hdOK at h0
  exact ⟨(S 0 5).toNat + 1, w_hld h hq hI hl hn (K := K) (S 0 5).toNat 0 (by omega) hK⟩
theorem w_hunt (h : Ag S X) (hk : 22 ≤ k ∧ k < 26) (hc : 6 ≤ c ∧ c < 22) {q : Int} (hq : 0 ≤ q ∧ q < 1000000) (hI : Inv q S) (b3 : 0 ≤ S k 3 ∧ S k 3 < 1000) (b4 : 0 ≤ S k 4 ∧ S k 4 < 1000) (hK : ∀ X', Ag (f_hunt S k c) X' → K X') : wp_X0_hunt X k c K := by
  have rf3 := h.f hk (j := 3) (by decide)
  have rf4 := h.f hk (j := 4) (by decide)
  have rh13 := h.h (j := 13) (by decide) (by decide)
  have rh6 := h.h (j := 6) (by decide) (by decide)
  have h0 := hI.hd
  unfold hdOK at h0
  have n1 : ¬ k = c := by omega
  have n2 : ¬ c = k := by omega
  have n3 : ¬ 0 = k := by omega
  have n4 : ¬ 0 = c := by omega
  have n5 : ¬ 5 = k := by omega
  have n6 : ¬ 5 = c := by omega
  unfold wp_X0_hunt
  rw [rf3, rf4]
  refine q_holder h hq hI b3 ⟨by omega, by omega⟩ ?_
  have hr := hld_rng S (S k 3) (S k 4) (S 0 5).toNat 0
  rw [show hldF S (S k 3) (S k 4) (S 0 5).toNat 0 = hld S (S k 3) (S k 4) from rfl] at hr
  rw [e_m6 (by omega) (by omega)]
  simp only [wp_X0_sound, wp_X1_become, forall_eq, not_true_eq_false, false_imp_iff, and_true, true_imp_iff]
  refine ⟨fun e => hK _ ?_, fun e => ⟨fun e2 => hK _ ?_, fun e2 => hK _ ?_⟩⟩
  · rw [f_hunt, if_pos e]
    repeat' first | exact h | refine Ag.up ?_ ?_ | refine Ag.slf ?_
    all_goals rfl
  · rw [vuS, pk_us, vuN n3, rh6, en_s, en_lt (by omega) (by omega) (by omega) (by omega)] at e2
    rw [f_hunt, if_neg e, if_pos e2]
    repeat' first | exact h | refine Ag.up ?_ ?_ | refine Ag.slf ?_
    rw [en_s]
  · rw [vuS, pk_us, vuN n3, rh6, en_s, en_lt (by omega) (by omega) (by omega) (by omega)] at e2
    rw [f_hunt, if_neg e, if_neg e2]
    repeat' first | exact h | refine Ag.up ?_ ?_ | refine Ag.slf ?_
    all_goals first | rfl | (rw [en_s]; done) | (simp [vuA, updA, upA, bcm, en_s, n1, n2, n3, n4, rh13]; done)
theorem w_stepOn (h : Ag S X) (hk : 22 ≤ k ∧ k < 26) (hc : 6 ≤ c ∧ c < 22) (b5 : 0 ≤ S k 5 ∧ S k 5 < 1000) (b6 : 0 ≤ S k 6 ∧ S k 6 < 1000) (b3 : 1 ≤ S k 3 ∧ S k 3 ≤ 4) (bl : ∀ n : Nat, n < 16 → 0 ≤ S (6 + n) 0 ∧ S (6 + n) 0 ≤ 11) (bc : ¬ S c 0 = 0) (hK : ∀ X', Ag (f_stepOn S k c) X' → K X') : wp_X0_stepOn X k c K := by
  have rf3 := h.f hk (j := 3) (by decide)
  have rf5 := h.f hk (j := 5) (by decide)
  have rf6 := h.f hk (j := 6) (by decide)
  have rl6 := h.l hc (j := 6) (by decide)
  have rh11 := h.h (j := 11) (by decide) (by decide)
  have rh13 := h.h (j := 13) (by decide) (by decide)
  have rh14 := h.h (j := 14) (by decide) (by decide)
  have n1 : ¬ k = c := by omega
  have n2 : ¬ c = k := by omega
  have n3 : ¬ 0 = k := by omega
  have n4 : ¬ 0 = c := by omega
  have n5 : ¬ 5 = k := by omega
  have n6 : ¬ 5 = c := by omega
  have d9 : ¬ (9 : Int32) = 8 := by decide
  have l0 : (0 : Int32) = en 0 := rfl
  have l4 : (4 : Int32) = en 4 := rfl
  simp only [wp_X0_stepOn, wp_X0_sound, wp_X1_become, forall_eq, d9, false_imp_iff, true_and, not_false_eq_true, true_imp_iff, not_true_eq_false, and_true]
  have ev : 4 * (X k 3 - 1) + (X k 6 + 1) - 1 = en (4 * (S k 3 - 1) + (S k 6 + 1) - 1) := by
    rw [rf3, rf6, en_s, en_p, show (4 : Int32) = en 4 from rfl, en_mul, en_add, en_p]
  have ev2 : 4 * (va_up (va_up X k (upd (X k) 5 (X k 5 - 1))) k (upd (va_up X k (upd (X k) 5 (X k 5 - 1)) k) 6 (va_up X k (upd (X k) 5 (X k 5 - 1)) k 6 + 1)) k 3 - 1) + va_up (va_up X k (upd (X k) 5 (X k 5 - 1))) k (upd (va_up X k (upd (X k) 5 (X k 5 - 1)) k) 6 (va_up X k (upd (X k) 5 (X k 5 - 1)) k 6 + 1)) k 6 - 1 = en (4 * (S k 3 - 1) + (S k 6 + 1) - 1) := by
    rw [← ev]
    simp [vuA, updA]
  rw [ev2]
  refine ⟨fun e => ⟨fun e2 => ?_, fun e2 => hK _ ?_⟩, fun e => hK _ ?_⟩
  · rw [vuU, vuS, vuS, pk_un (by decide), pk_us, rf5, en_p, l0, en_le (by omega) (by omega) (by omega) (by omega)] at e
    rw [vuU, vuS, vuS, pk_us, pk_un (by decide), rf6, en_s, l4, en_le (by omega) (by omega) (by omega) (by omega)] at e2
    obtain ⟨t, et⟩ : ∃ t : Nat, t = 6 + (4 * (S k 3 - 1) + (S k 6 + 1) - 1).toNat := ⟨_, rfl⟩
    have ht : 6 ≤ t ∧ t < 22 := by omega
    have hlix : lix (en (4 * (S k 3 - 1) + (S k 6 + 1) - 1)) = t := by rw [lix_en (by omega) (by omega), et]
    rw [hlix]
    have m1 : ¬ k = t := by omega
    have m2 : ¬ t = k := by omega
    have m3 : ¬ 0 = t := by omega
    have rt0 := h.l ht (j := 0) (by decide)
    have bt := bl (t - 6) (by omega)
    rw [show 6 + (t - 6) = t by omega] at bt
    refine ⟨fun e3 => hK _ ?_, fun e3 => hK _ ?_⟩
    · rw [vuU, vuN m2, rt0, e_0 (by omega) (by omega)] at e3
      have m5 : ¬ c = t := fun z => bc (by rw [z]; exact e3)
      have m6 : ¬ t = c := fun z => m5 z.symm
      rw [f_stepOn, if_pos e, if_pos e2, ← et, if_pos e3, f_call]
      repeat' first | exact h | refine Ag.up ?_ ?_ | refine Ag.slf ?_
      all_goals first | rfl | (rw [en_p, rf5]; done) | (simp [vuA, updA, upA, bcm, en_s, en_p, n1, n2, n3, n4, m1, m2, m3, m5, m6, rf5, rf6, rl6, rh11]; done)
    · rw [vuU, vuN m2, rt0, e_0 (by omega) (by omega)] at e3
      rw [f_stepOn, if_pos e, if_pos e2, ← et, if_neg e3]
      repeat' first | exact h | refine Ag.up ?_ ?_ | refine Ag.slf ?_
      all_goals first | rfl | (simp [vuA, updA, upA, bcm, en_s, en_p, n1, n2, n3, n4, rf5, rf6, rh13]; done)
  · rw [vuU, vuS, vuS, pk_un (by decide), pk_us, rf5, en_p, l0, en_le (by omega) (by omega) (by omega) (by omega)] at e
    rw [vuU, vuS, vuS, pk_us, pk_un (by decide), rf6, en_s, l4, en_le (by omega) (by omega) (by omega) (by omega)] at e2
    rw [f_stepOn, if_pos e, if_neg e2]
    repeat' first | exact h | refine Ag.up ?_ ?_ | refine Ag.slf ?_
    all_goals first | rfl | (simp [vuA, updA, upA, bcm, en_s, en_p, n1, n2, n3, n4, rf5, rf6, rh14]; done)
  · rw [vuU, vuS, vuS, pk_un (by decide), pk_us, rf5, en_p, l0, en_le (by omega) (by omega) (by omega) (by omega)] at e
    rw [f_stepOn, if_neg e]
    repeat' first | exact h | refine Ag.up ?_ ?_ | refine Ag.slf ?_
    all_goals first | rfl | (simp [vuA, updA, upA, bcm, en_s, en_p, n1, n2, n3, n4, rf5, rf6]; done)
theorem w_take (h : Ag S X) {q : Int} (hq : 0 ≤ q ∧ q < 900000) (hI : Inv q S) {f : Nat} (hf : f < 4) (hK : ∀ X', Ag (stpF S f) X' → K X') : wp_X0_takeStep X (22 + f) K := by
  have h1 := hI.fin f hf
  unfold finOK at h1
  have h2 := hI.set
  unfold setOK at h2
  have h0 := hI.hd
  unfold hdOK at h0
  have r0 := h.f (k := 22 + f) (by omega) (j := 0) (by decide)
  have r2 := h.f (k := 22 + f) (by omega) (j := 2) (by decide)
  have hk : 22 ≤ 22 + f ∧ 22 + f < 26 := by omega
  unfold wp_X0_takeStep
  rw [r0, e_1 (by omega) (by omega), e_2 (by omega) (by omega), e_3 (by omega) (by omega), e_4 (by omega) (by omega), e_5 (by omega) (by omega), e_6 (by omega) (by omega), e_7 (by omega) (by omega), e_8 (by omega) (by omega), e_9 (by omega) (by omega)]
  by_cases z : S (22 + f) 0 = 0
  · rw [stpF, stp, if_neg (by omega), if_neg (by omega), if_neg (by omega), if_neg (by omega), if_neg (by omega), if_neg (by omega), if_neg (by omega), if_neg (by omega), if_neg (by omega)] at hK
    exact ⟨fun e => by omega, fun _ => ⟨fun e => by omega, fun _ => ⟨fun e => by omega, fun _ => ⟨fun e => by omega, fun _ => ⟨fun e => by omega, fun _ => ⟨fun e => by omega, fun _ => ⟨fun e => by omega, fun _ => ⟨fun e => by omega, fun _ => ⟨fun e => by omega, fun _ => hK X h⟩⟩⟩⟩⟩⟩⟩⟩⟩
  · obtain ⟨c, hc, ec, ec2, elk, esm⟩ := hI.cal hf z
    have hl := hI.lin c hc
    unfold linOK at hl
    unfold smt at esm
    have hcc : 6 ≤ 6 + c ∧ 6 + c < 22 := by omega
    rw [r2, lix_en (by omega) (by omega), ec2]
    rw [stpF, ec2] at hK
    refine ⟨fun e => ?_, fun n1 => ⟨fun e => ?_, fun n2 => ⟨fun e => ?_, fun n3 => ⟨fun e => ?_, fun n4 => ⟨fun e => ?_, fun n5 => ⟨fun e => ?_, fun n6 => ⟨fun e => ?_, fun n7 => ⟨fun e => ?_, fun n8 => ⟨fun e => ?_, fun n9 => by omega⟩⟩⟩⟩⟩⟩⟩⟩⟩
    · rw [stp, if_pos e] at hK
      exact w_seek h hk hcc (by omega) (by omega) hK
    · rw [stp, if_neg n1, if_pos e] at hK
      exact w_await h hk hcc rfl (by omega) (by omega) (by omega) hK
    · rw [stp, if_neg n1, if_neg n2, if_pos e] at hK
      exact w_rise h hk hcc (by omega) (by omega) hK
    · rw [stp, if_neg n1, if_neg n2, if_neg n3, if_pos e] at hK
      exact w_hunt h hk hcc (q := q) (by omega) hI (by omega) (by omega) hK
    · rw [stp, if_neg n1, if_neg n2, if_neg n3, if_neg n4, if_pos e] at hK
      exact w_await h hk hcc rfl (by omega) (by omega) (by omega) hK
    · rw [stp, if_neg n1, if_neg n2, if_neg n3, if_neg n4, if_neg n5, if_pos e] at hK
      refine w_stepOn h hk hcc (by omega) (by omega) (by omega) (fun n hn => ?_) (by omega) hK
      have := hI.lin n hn
      unfold linOK at this
      exact this.1
    · rw [stp, if_neg n1, if_neg n2, if_neg n3, if_neg n4, if_neg n5, if_neg n6, if_pos e] at hK
      obtain ⟨t, ht, et, et2, -, -⟩ := hI.tgt hf (Or.inl e)
      have hne := hI.ne hf hc ht (Or.inl e) ec et
      have hlt := hI.lin t ht
      unfold linOK at hlt
      rw [et2] at hK
      exact w_ring h hk hcc (t := 6 + t) (by omega) (by omega) (by omega) (by omega) hlt.2.1 (by omega) (by omega) hK
    · rw [stp, if_neg n1, if_neg n2, if_neg n3, if_neg n4, if_neg n5, if_neg n6, if_neg n7, if_pos e] at hK
      obtain ⟨t, ht, et, et2, -, -⟩ := hI.tgt hf (Or.inr e)
      have hne := hI.ne hf hc ht (Or.inr e) ec et
      have hlt := hI.lin t ht
      unfold linOK at hlt
      rw [et2] at hK
      exact w_talk h hk hcc (t := 6 + t) (by omega) (by omega) (by omega) (by omega) hlt.2.1 (by omega) (by omega) (by omega) (by omega) hK
    · rw [stp, if_neg n1, if_neg n2, if_neg n3, if_neg n4, if_neg n5, if_neg n6, if_neg n7, if_neg n8, if_pos e] at hK
      exact w_sound h hk hcc (by omega) (by omega) hK
end WG
end
