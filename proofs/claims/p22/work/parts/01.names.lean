-- ===== PART A: goes FIRST, ahead of the names: the tables' words, and 'selects' of the private methods out of them =====
/-- a private method of a class that the tables say can be made, by its rows of tables_1 -/
def lw_okq (q : MethodName × Nat) : Prop := (q.1.cls ≠ "java/lang/invoke/MethodHandle" ∧ q.1.cls ≠ "java/lang/invoke/VarHandle") ∧ Cond.instantiable q.1.cls q.2 ∈ tables_1 ∧ Cond.privateMethod q.1 ∈ tables_1 ∧ Cond.instanceMethod q.1 ∈ tables_1
theorem lw_p0 : lw_okq (⟨"RotaryExchange$Exchange", "settingAt", "(I)I"⟩, 16) := ⟨⟨by decide +kernel, by decide +kernel⟩, List.mem_of_getElem? (i := 15) (by decide +kernel), List.mem_of_getElem? (i := 251) (by decide +kernel), List.mem_of_getElem? (i := 252) (by decide +kernel)⟩
theorem lw_p1 : lw_okq (⟨"RotaryExchange$Exchange", "release", "(LRotaryExchange$Finder;)V"⟩, 16) := ⟨⟨by decide +kernel, by decide +kernel⟩, List.mem_of_getElem? (i := 15) (by decide +kernel), List.mem_of_getElem? (i := 278) (by decide +kernel), List.mem_of_getElem? (i := 279) (by decide +kernel)⟩
theorem lw_p2 : lw_okq (⟨"RotaryExchange$Exchange", "takeStep", "(LRotaryExchange$Finder;)V"⟩, 16) := ⟨⟨by decide +kernel, by decide +kernel⟩, List.mem_of_getElem? (i := 15) (by decide +kernel), List.mem_of_getElem? (i := 309) (by decide +kernel), List.mem_of_getElem? (i := 310) (by decide +kernel)⟩
theorem lw_p3 : lw_okq (⟨"RotaryExchange$Exchange", "seek", "(LRotaryExchange$Finder;LRotaryExchange$Line;)V"⟩, 16) := ⟨⟨by decide +kernel, by decide +kernel⟩, List.mem_of_getElem? (i := 15) (by decide +kernel), List.mem_of_getElem? (i := 313) (by decide +kernel), List.mem_of_getElem? (i := 314) (by decide +kernel)⟩
theorem lw_p4 : lw_okq (⟨"RotaryExchange$Exchange", "awaitDigit", "(LRotaryExchange$Finder;LRotaryExchange$Line;I)V"⟩, 16) := ⟨⟨by decide +kernel, by decide +kernel⟩, List.mem_of_getElem? (i := 15) (by decide +kernel), List.mem_of_getElem? (i := 318) (by decide +kernel), List.mem_of_getElem? (i := 319) (by decide +kernel)⟩
theorem lw_p5 : lw_okq (⟨"RotaryExchange$Exchange", "rise", "(LRotaryExchange$Finder;LRotaryExchange$Line;)V"⟩, 16) := ⟨⟨by decide +kernel, by decide +kernel⟩, List.mem_of_getElem? (i := 15) (by decide +kernel), List.mem_of_getElem? (i := 326) (by decide +kernel), List.mem_of_getElem? (i := 327) (by decide +kernel)⟩
theorem lw_p6 : lw_okq (⟨"RotaryExchange$Exchange", "sound", "(LRotaryExchange$Finder;LRotaryExchange$Line;II)V"⟩, 16) := ⟨⟨by decide +kernel, by decide +kernel⟩, List.mem_of_getElem? (i := 15) (by decide +kernel), List.mem_of_getElem? (i := 330) (by decide +kernel), List.mem_of_getElem? (i := 331) (by decide +kernel)⟩
theorem lw_p7 : lw_okq (⟨"RotaryExchange$Exchange", "hunt", "(LRotaryExchange$Finder;LRotaryExchange$Line;)V"⟩, 16) := ⟨⟨by decide +kernel, by decide +kernel⟩, List.mem_of_getElem? (i := 15) (by decide +kernel), List.mem_of_getElem? (i := 334) (by decide +kernel), List.mem_of_getElem? (i := 335) (by decide +kernel)⟩
theorem lw_p8 : lw_okq (⟨"RotaryExchange$Exchange", "stepOn", "(LRotaryExchange$Finder;LRotaryExchange$Line;)V"⟩, 16) := ⟨⟨by decide +kernel, by decide +kernel⟩, List.mem_of_getElem? (i := 15) (by decide +kernel), List.mem_of_getElem? (i := 346) (by decide +kernel), List.mem_of_getElem? (i := 347) (by decide +kernel)⟩
theorem lw_p9 : lw_okq (⟨"RotaryExchange$Exchange", "ringOn", "(LRotaryExchange$Finder;LRotaryExchange$Line;)V"⟩, 16) := ⟨⟨by decide +kernel, by decide +kernel⟩, List.mem_of_getElem? (i := 15) (by decide +kernel), List.mem_of_getElem? (i := 350) (by decide +kernel), List.mem_of_getElem? (i := 351) (by decide +kernel)⟩
theorem lw_p10 : lw_okq (⟨"RotaryExchange$Exchange", "talkOn", "(LRotaryExchange$Finder;LRotaryExchange$Line;)V"⟩, 16) := ⟨⟨by decide +kernel, by decide +kernel⟩, List.mem_of_getElem? (i := 15) (by decide +kernel), List.mem_of_getElem? (i := 354) (by decide +kernel), List.mem_of_getElem? (i := 355) (by decide +kernel)⟩
theorem lw_p11 : lw_okq (⟨"RotaryExchange$Exchange", "soundOn", "(LRotaryExchange$Finder;LRotaryExchange$Line;)V"⟩, 16) := ⟨⟨by decide +kernel, by decide +kernel⟩, List.mem_of_getElem? (i := 15) (by decide +kernel), List.mem_of_getElem? (i := 358) (by decide +kernel), List.mem_of_getElem? (i := 359) (by decide +kernel)⟩
theorem lw_p12 : lw_okq (⟨"RotaryExchange$Exchange", "allotFinder", "()V"⟩, 16) := ⟨⟨by decide +kernel, by decide +kernel⟩, List.mem_of_getElem? (i := 15) (by decide +kernel), List.mem_of_getElem? (i := 362) (by decide +kernel), List.mem_of_getElem? (i := 363) (by decide +kernel)⟩
theorem lw_p13 : lw_okq (⟨"RotaryExchange$Exchange", "nextFreeFinder", "()I"⟩, 16) := ⟨⟨by decide +kernel, by decide +kernel⟩, List.mem_of_getElem? (i := 15) (by decide +kernel), List.mem_of_getElem? (i := 366) (by decide +kernel), List.mem_of_getElem? (i := 367) (by decide +kernel)⟩
theorem lw_p14 : lw_okq (⟨"RotaryExchange$Exchange", "firstWaitingLine", "()I"⟩, 16) := ⟨⟨by decide +kernel, by decide +kernel⟩, List.mem_of_getElem? (i := 15) (by decide +kernel), List.mem_of_getElem? (i := 370) (by decide +kernel), List.mem_of_getElem? (i := 371) (by decide +kernel)⟩
theorem lw_p15 : lw_okq (⟨"RotaryExchange$Exchange", "countParked", "()V"⟩, 16) := ⟨⟨by decide +kernel, by decide +kernel⟩, List.mem_of_getElem? (i := 15) (by decide +kernel), List.mem_of_getElem? (i := 378) (by decide +kernel), List.mem_of_getElem? (i := 379) (by decide +kernel)⟩
def lw_privs_1 : List (MethodName × Nat) := [(⟨"RotaryExchange$Exchange", "settingAt", "(I)I"⟩, 16), (⟨"RotaryExchange$Exchange", "release", "(LRotaryExchange$Finder;)V"⟩, 16), (⟨"RotaryExchange$Exchange", "takeStep", "(LRotaryExchange$Finder;)V"⟩, 16), (⟨"RotaryExchange$Exchange", "seek", "(LRotaryExchange$Finder;LRotaryExchange$Line;)V"⟩, 16), (⟨"RotaryExchange$Exchange", "awaitDigit", "(LRotaryExchange$Finder;LRotaryExchange$Line;I)V"⟩, 16), (⟨"RotaryExchange$Exchange", "rise", "(LRotaryExchange$Finder;LRotaryExchange$Line;)V"⟩, 16), (⟨"RotaryExchange$Exchange", "sound", "(LRotaryExchange$Finder;LRotaryExchange$Line;II)V"⟩, 16), (⟨"RotaryExchange$Exchange", "hunt", "(LRotaryExchange$Finder;LRotaryExchange$Line;)V"⟩, 16), (⟨"RotaryExchange$Exchange", "stepOn", "(LRotaryExchange$Finder;LRotaryExchange$Line;)V"⟩, 16), (⟨"RotaryExchange$Exchange", "ringOn", "(LRotaryExchange$Finder;LRotaryExchange$Line;)V"⟩, 16), (⟨"RotaryExchange$Exchange", "talkOn", "(LRotaryExchange$Finder;LRotaryExchange$Line;)V"⟩, 16), (⟨"RotaryExchange$Exchange", "soundOn", "(LRotaryExchange$Finder;LRotaryExchange$Line;)V"⟩, 16), (⟨"RotaryExchange$Exchange", "allotFinder", "()V"⟩, 16), (⟨"RotaryExchange$Exchange", "nextFreeFinder", "()I"⟩, 16), (⟨"RotaryExchange$Exchange", "firstWaitingLine", "()I"⟩, 16), (⟨"RotaryExchange$Exchange", "countParked", "()V"⟩, 16)]
theorem lw_r1 : ∀ q ∈ lw_privs_1, lw_okq q := List.forall_mem_cons.mpr ⟨lw_p0, List.forall_mem_cons.mpr ⟨lw_p1, List.forall_mem_cons.mpr ⟨lw_p2, List.forall_mem_cons.mpr ⟨lw_p3, List.forall_mem_cons.mpr ⟨lw_p4, List.forall_mem_cons.mpr ⟨lw_p5, List.forall_mem_cons.mpr ⟨lw_p6, List.forall_mem_cons.mpr ⟨lw_p7, List.forall_mem_cons.mpr ⟨lw_p8, List.forall_mem_cons.mpr ⟨lw_p9, List.forall_mem_cons.mpr ⟨lw_p10, List.forall_mem_cons.mpr ⟨lw_p11, List.forall_mem_cons.mpr ⟨lw_p12, List.forall_mem_cons.mpr ⟨lw_p13, List.forall_mem_cons.mpr ⟨lw_p14, List.forall_mem_cons.mpr ⟨lw_p15, fun _ h => absurd h List.not_mem_nil⟩⟩⟩⟩⟩⟩⟩⟩⟩⟩⟩⟩⟩⟩⟩⟩
theorem lw_p16 : lw_okq (⟨"RotaryExchange$Exchange", "partnerOf", "(LRotaryExchange$Line;)I"⟩, 16) := ⟨⟨by decide +kernel, by decide +kernel⟩, List.mem_of_getElem? (i := 15) (by decide +kernel), List.mem_of_getElem? (i := 394) (by decide +kernel), List.mem_of_getElem? (i := 395) (by decide +kernel)⟩
theorem lw_p17 : lw_okq (⟨"RotaryExchange$Exchange", "placeOf", "(LRotaryExchange$Line;)I"⟩, 16) := ⟨⟨by decide +kernel, by decide +kernel⟩, List.mem_of_getElem? (i := 15) (by decide +kernel), List.mem_of_getElem? (i := 402) (by decide +kernel), List.mem_of_getElem? (i := 403) (by decide +kernel)⟩
theorem lw_p18 : lw_okq (⟨"RotaryExchange$Exchange", "freeFinders", "()I"⟩, 16) := ⟨⟨by decide +kernel, by decide +kernel⟩, List.mem_of_getElem? (i := 15) (by decide +kernel), List.mem_of_getElem? (i := 450) (by decide +kernel), List.mem_of_getElem? (i := 451) (by decide +kernel)⟩
theorem lw_p19 : lw_okq (⟨"RotaryExchange$Exchange", "freeConnectors", "()I"⟩, 16) := ⟨⟨by decide +kernel, by decide +kernel⟩, List.mem_of_getElem? (i := 15) (by decide +kernel), List.mem_of_getElem? (i := 454) (by decide +kernel), List.mem_of_getElem? (i := 455) (by decide +kernel)⟩
theorem lw_p20 : lw_okq (⟨"RotaryExchange$Exchange", "sumOfMeters", "()I"⟩, 16) := ⟨⟨by decide +kernel, by decide +kernel⟩, List.mem_of_getElem? (i := 15) (by decide +kernel), List.mem_of_getElem? (i := 458) (by decide +kernel), List.mem_of_getElem? (i := 459) (by decide +kernel)⟩
theorem lw_p21 : lw_okq (⟨"RotaryExchange$Exchange", "liftedLines", "()I"⟩, 16) := ⟨⟨by decide +kernel, by decide +kernel⟩, List.mem_of_getElem? (i := 15) (by decide +kernel), List.mem_of_getElem? (i := 462) (by decide +kernel), List.mem_of_getElem? (i := 463) (by decide +kernel)⟩
def lw_privs_2 : List (MethodName × Nat) := [(⟨"RotaryExchange$Exchange", "partnerOf", "(LRotaryExchange$Line;)I"⟩, 16), (⟨"RotaryExchange$Exchange", "placeOf", "(LRotaryExchange$Line;)I"⟩, 16), (⟨"RotaryExchange$Exchange", "freeFinders", "()I"⟩, 16), (⟨"RotaryExchange$Exchange", "freeConnectors", "()I"⟩, 16), (⟨"RotaryExchange$Exchange", "sumOfMeters", "()I"⟩, 16), (⟨"RotaryExchange$Exchange", "liftedLines", "()I"⟩, 16)]
theorem lw_r2 : ∀ q ∈ lw_privs_2, lw_okq q := List.forall_mem_cons.mpr ⟨lw_p16, List.forall_mem_cons.mpr ⟨lw_p17, List.forall_mem_cons.mpr ⟨lw_p18, List.forall_mem_cons.mpr ⟨lw_p19, List.forall_mem_cons.mpr ⟨lw_p20, List.forall_mem_cons.mpr ⟨lw_p21, fun _ h => absurd h List.not_mem_nil⟩⟩⟩⟩⟩⟩
def lw_privs : List (MethodName × Nat) := lw_privs_1 ++ (lw_privs_2)
def lw_tbl : List Cond := k2_sels lw_privs ++ tables_1
theorem lw_privs_ok : ∀ q ∈ lw_privs, lw_okq q := by
  show ∀ q ∈ lw_privs_1 ++ (lw_privs_2), lw_okq q
  exact List.forall_mem_append.mpr ⟨lw_r1, lw_r2⟩
-- ===== names: by program out of the claim's printed names =====
def RX0 : String := "RotaryExchange$Exchange"
def TX0 : u_T := fun k => match k with
  | 0 => ("RotaryExchange$Exchange", "lines", "[LRotaryExchange$Line;", true)
  | 1 => ("RotaryExchange$Exchange", "finders", "[LRotaryExchange$Finder;", true)
  | 2 => ("RotaryExchange$Exchange", "noLine", "LRotaryExchange$Line;", true)
  | 3 => ("RotaryExchange$Exchange", "noFinder", "LRotaryExchange$Finder;", true)
  | 4 => ("RotaryExchange$Exchange", "settings", "[I", true)
  | 5 => ("RotaryExchange$Exchange", "finderCount", "I", false)
  | 6 => ("RotaryExchange$Exchange", "connectorCount", "I", false)
  | 7 => ("RotaryExchange$Exchange", "time", "I", false)
  | 8 => ("RotaryExchange$Exchange", "lastAllotted", "I", false)
  | 9 => ("RotaryExchange$Exchange", "lifts", "I", false)
  | 10 => ("RotaryExchange$Exchange", "readies", "I", false)
  | 11 => ("RotaryExchange$Exchange", "callings", "I", false)
  | 12 => ("RotaryExchange$Exchange", "throughs", "I", false)
  | 13 => ("RotaryExchange$Exchange", "busies", "I", false)
  | 14 => ("RotaryExchange$Exchange", "vacants", "I", false)
  | _ => ("RotaryExchange$Exchange", "waitsGivenUp", "I", false)
def tyX0 : Nat → FieldType := fun k => match k with
  | 0 => .array (.object "RotaryExchange$Line")
  | 1 => .array (.object "RotaryExchange$Finder")
  | 2 => .object "RotaryExchange$Line"
  | 3 => .object "RotaryExchange$Finder"
  | 4 => .array .int
  | 5 => .int
  | 6 => .int
  | 7 => .int
  | 8 => .int
  | 9 => .int
  | 10 => .int
  | 11 => .int
  | 12 => .int
  | 13 => .int
  | 14 => .int
  | _ => .int
abbrev wsX00 : List Cond := u_ws RX0 TX0 16
theorem nmX0 : ∀ a, a < 16 → ∀ b, b < 16 → a ≠ b → (TX0 a).2.1 ≠ (TX0 b).2.1 := by decide +kernel
theorem tyX0_ok : ∀ k, k < 16 → parseFieldDescriptor (TX0 k).2.2.1 = some (tyX0 k) := by decide +kernel
abbrev cX0_init : ByteArray := prog_2_method_1_code
def yX0_init : MethodName := ⟨RX0, "<init>", "()V"⟩
abbrev cX0_lineAt : ByteArray := prog_2_method_2_code
def yX0_lineAt : MethodName := ⟨RX0, "lineAt", "(I)LRotaryExchange$Line;"⟩
abbrev cX0_finderAt : ByteArray := prog_2_method_3_code
def yX0_finderAt : MethodName := ⟨RX0, "finderAt", "(I)LRotaryExchange$Finder;"⟩
abbrev cX0_settingAt : ByteArray := prog_2_method_4_code
def yX0_settingAt : MethodName := ⟨RX0, "settingAt", "(I)I"⟩
abbrev cX0_changeSetting : ByteArray := prog_2_method_5_code
def yX0_changeSetting : MethodName := ⟨RX0, "changeSetting", "(II)I"⟩
abbrev cX0_renew : ByteArray := prog_2_method_6_code
def yX0_renew : MethodName := ⟨RX0, "renew", "(II)V"⟩
abbrev cX0_copyFrom : ByteArray := prog_2_method_7_code
def yX0_copyFrom : MethodName := ⟨RX0, "copyFrom", "(LRotaryExchange$Exchange;)V"⟩
abbrev cX0_liftLine : ByteArray := prog_2_method_8_code
def yX0_liftLine : MethodName := ⟨RX0, "liftLine", "(I)I"⟩
abbrev cX0_hangLine : ByteArray := prog_2_method_9_code
def yX0_hangLine : MethodName := ⟨RX0, "hangLine", "(I)I"⟩
abbrev cX0_release : ByteArray := prog_2_method_10_code
def yX0_release : MethodName := ⟨RX0, "release", "(LRotaryExchange$Finder;)V"⟩
abbrev cX0_dialDigit : ByteArray := prog_2_method_11_code
def yX0_dialDigit : MethodName := ⟨RX0, "dialDigit", "(II)I"⟩
abbrev cX0_hasTimeFor : ByteArray := prog_2_method_12_code
def yX0_hasTimeFor : MethodName := ⟨RX0, "hasTimeFor", "(I)Z"⟩
abbrev cX0_pass : ByteArray := prog_2_method_13_code
def yX0_pass : MethodName := ⟨RX0, "pass", "(I)V"⟩
abbrev cX0_takeStep : ByteArray := prog_2_method_14_code
def yX0_takeStep : MethodName := ⟨RX0, "takeStep", "(LRotaryExchange$Finder;)V"⟩
abbrev cX0_seek : ByteArray := prog_2_method_15_code
def yX0_seek : MethodName := ⟨RX0, "seek", "(LRotaryExchange$Finder;LRotaryExchange$Line;)V"⟩
abbrev cX0_awaitDigit : ByteArray := prog_2_method_16_code
def yX0_awaitDigit : MethodName := ⟨RX0, "awaitDigit", "(LRotaryExchange$Finder;LRotaryExchange$Line;I)V"⟩
abbrev cX0_rise : ByteArray := prog_2_method_17_code
def yX0_rise : MethodName := ⟨RX0, "rise", "(LRotaryExchange$Finder;LRotaryExchange$Line;)V"⟩
abbrev cX0_hunt : ByteArray := prog_2_method_18_code
def yX0_hunt : MethodName := ⟨RX0, "hunt", "(LRotaryExchange$Finder;LRotaryExchange$Line;)V"⟩
abbrev cX0_stepOn : ByteArray := prog_2_method_19_code
def yX0_stepOn : MethodName := ⟨RX0, "stepOn", "(LRotaryExchange$Finder;LRotaryExchange$Line;)V"⟩
abbrev cX0_ringOn : ByteArray := prog_2_method_20_code
def yX0_ringOn : MethodName := ⟨RX0, "ringOn", "(LRotaryExchange$Finder;LRotaryExchange$Line;)V"⟩
abbrev cX0_talkOn : ByteArray := prog_2_method_21_code
def yX0_talkOn : MethodName := ⟨RX0, "talkOn", "(LRotaryExchange$Finder;LRotaryExchange$Line;)V"⟩
abbrev cX0_soundOn : ByteArray := prog_2_method_22_code
def yX0_soundOn : MethodName := ⟨RX0, "soundOn", "(LRotaryExchange$Finder;LRotaryExchange$Line;)V"⟩
abbrev cX0_sound : ByteArray := prog_2_method_23_code
def yX0_sound : MethodName := ⟨RX0, "sound", "(LRotaryExchange$Finder;LRotaryExchange$Line;II)V"⟩
abbrev cX0_allotFinder : ByteArray := prog_2_method_24_code
def yX0_allotFinder : MethodName := ⟨RX0, "allotFinder", "()V"⟩
abbrev cX0_countParked : ByteArray := prog_2_method_25_code
def yX0_countParked : MethodName := ⟨RX0, "countParked", "()V"⟩
abbrev cX0_nextFreeFinder : ByteArray := prog_2_method_26_code
def yX0_nextFreeFinder : MethodName := ⟨RX0, "nextFreeFinder", "()I"⟩
abbrev cX0_firstWaitingLine : ByteArray := prog_2_method_27_code
def yX0_firstWaitingLine : MethodName := ⟨RX0, "firstWaitingLine", "()I"⟩
abbrev cX0_holderOf : ByteArray := prog_2_method_28_code
def yX0_holderOf : MethodName := ⟨RX0, "holderOf", "(II)I"⟩
abbrev cX0_ticksUntil : ByteArray := prog_2_method_29_code
def yX0_ticksUntil : MethodName := ⟨RX0, "ticksUntil", "(III)I"⟩
abbrev cX0_numberOfLine : ByteArray := prog_2_method_32_code
def yX0_numberOfLine : MethodName := ⟨RX0, "numberOfLine", "(II)I"⟩
abbrev cX0_partnerOf : ByteArray := prog_2_method_33_code
def yX0_partnerOf : MethodName := ⟨RX0, "partnerOf", "(LRotaryExchange$Line;)I"⟩
abbrev cX0_placeOf : ByteArray := prog_2_method_34_code
def yX0_placeOf : MethodName := ⟨RX0, "placeOf", "(LRotaryExchange$Line;)I"⟩
abbrev cX0_traceFrom : ByteArray := prog_2_method_35_code
def yX0_traceFrom : MethodName := ⟨RX0, "traceFrom", "(II)I"⟩
abbrev cX0_numberFor : ByteArray := prog_2_method_36_code
def yX0_numberFor : MethodName := ⟨RX0, "numberFor", "(I)I"⟩
abbrev cX0_freeFinders : ByteArray := prog_2_method_37_code
def yX0_freeFinders : MethodName := ⟨RX0, "freeFinders", "()I"⟩
abbrev cX0_freeConnectors : ByteArray := prog_2_method_38_code
def yX0_freeConnectors : MethodName := ⟨RX0, "freeConnectors", "()I"⟩
abbrev cX0_sumOfMeters : ByteArray := prog_2_method_39_code
def yX0_sumOfMeters : MethodName := ⟨RX0, "sumOfMeters", "()I"⟩
abbrev cX0_liftedLines : ByteArray := prog_2_method_40_code
def yX0_liftedLines : MethodName := ⟨RX0, "liftedLines", "()I"⟩
def RX1 : String := "RotaryExchange$Finder"
def TX1 : u_T := fun k => match k with
  | 0 => ("RotaryExchange$Finder", "state", "I", false)
  | 1 => ("RotaryExchange$Finder", "position", "I", false)
  | 2 => ("RotaryExchange$Finder", "line", "I", false)
  | 3 => ("RotaryExchange$Finder", "level", "I", false)
  | 4 => ("RotaryExchange$Finder", "connector", "I", false)
  | 5 => ("RotaryExchange$Finder", "pulses", "I", false)
  | 6 => ("RotaryExchange$Finder", "steps", "I", false)
  | 7 => ("RotaryExchange$Finder", "timer", "I", false)
  | 8 => ("RotaryExchange$Finder", "clearing", "I", false)
  | _ => ("RotaryExchange$Finder", "called", "I", false)
def tyX1 : Nat → FieldType := fun k => match k with
  | 0 => .int
  | 1 => .int
  | 2 => .int
  | 3 => .int
  | 4 => .int
  | 5 => .int
  | 6 => .int
  | 7 => .int
  | 8 => .int
  | _ => .int
abbrev wsX10 : List Cond := u_ws RX1 TX1 10
theorem nmX1 : ∀ a, a < 10 → ∀ b, b < 10 → a ≠ b → (TX1 a).2.1 ≠ (TX1 b).2.1 := by decide +kernel
theorem tyX1_ok : ∀ k, k < 10 → parseFieldDescriptor (TX1 k).2.2.1 = some (tyX1 k) := by decide +kernel
abbrev cX1_init : ByteArray := prog_3_method_1_code
def yX1_init : MethodName := ⟨RX1, "<init>", "()V"⟩
abbrev cX1_renew : ByteArray := prog_3_method_2_code
def yX1_renew : MethodName := ⟨RX1, "renew", "()V"⟩
abbrev cX1_copyFrom : ByteArray := prog_3_method_3_code
def yX1_copyFrom : MethodName := ⟨RX1, "copyFrom", "(LRotaryExchange$Finder;)V"⟩
abbrev cX1_become : ByteArray := prog_3_method_4_code
def yX1_become : MethodName := ⟨RX1, "become", "(I)V"⟩
abbrev cX1_becomeFree : ByteArray := prog_3_method_5_code
def yX1_becomeFree : MethodName := ⟨RX1, "becomeFree", "()V"⟩
abbrev cX1_holdsConnector : ByteArray := prog_3_method_6_code
def yX1_holdsConnector : MethodName := ⟨RX1, "holdsConnector", "()Z"⟩
abbrev cX1_numberFor : ByteArray := prog_3_method_7_code
def yX1_numberFor : MethodName := ⟨RX1, "numberFor", "(I)I"⟩
def RX2 : String := "RotaryExchange$Line"
def TX2 : u_T := fun k => match k with
  | 0 => ("RotaryExchange$Line", "state", "I", false)
  | 1 => ("RotaryExchange$Line", "lifted", "Z", false)
  | 2 => ("RotaryExchange$Line", "meter", "I", false)
  | 3 => ("RotaryExchange$Line", "reason", "I", false)
  | 4 => ("RotaryExchange$Line", "digits", "I", false)
  | 5 => ("RotaryExchange$Line", "digitCount", "I", false)
  | 6 => ("RotaryExchange$Line", "finder", "I", false)
  | 7 => ("RotaryExchange$Line", "turn", "I", false)
  | _ => ("RotaryExchange$Line", "parking", "I", false)
def tyX2 : Nat → FieldType := fun k => match k with
  | 0 => .int
  | 1 => .boolean
  | 2 => .int
  | 3 => .int
  | 4 => .int
  | 5 => .int
  | 6 => .int
  | 7 => .int
  | _ => .int
abbrev wsX20 : List Cond := u_ws RX2 TX2 9
theorem nmX2 : ∀ a, a < 9 → ∀ b, b < 9 → a ≠ b → (TX2 a).2.1 ≠ (TX2 b).2.1 := by decide +kernel
theorem tyX2_ok : ∀ k, k < 9 → parseFieldDescriptor (TX2 k).2.2.1 = some (tyX2 k) := by decide +kernel
abbrev cX2_init : ByteArray := prog_4_method_1_code
def yX2_init : MethodName := ⟨RX2, "<init>", "()V"⟩
abbrev cX2_renew : ByteArray := prog_4_method_2_code
def yX2_renew : MethodName := ⟨RX2, "renew", "()V"⟩
abbrev cX2_copyFrom : ByteArray := prog_4_method_3_code
def yX2_copyFrom : MethodName := ⟨RX2, "copyFrom", "(LRotaryExchange$Line;)V"⟩
abbrev cX2_waitsUnsought : ByteArray := prog_4_method_4_code
def yX2_waitsUnsought : MethodName := ⟨RX2, "waitsUnsought", "()Z"⟩
abbrev cX2_isCalledByAnother : ByteArray := prog_4_method_5_code
def yX2_isCalledByAnother : MethodName := ⟨RX2, "isCalledByAnother", "()Z"⟩
abbrev cX2_callsAnother : ByteArray := prog_4_method_6_code
def yX2_callsAnother : MethodName := ⟨RX2, "callsAnother", "()Z"⟩
abbrev cX2_appendDigit : ByteArray := prog_4_method_7_code
def yX2_appendDigit : MethodName := ⟨RX2, "appendDigit", "(I)V"⟩
abbrev cX2_takePulses : ByteArray := prog_4_method_8_code
def yX2_takePulses : MethodName := ⟨RX2, "takePulses", "()I"⟩
abbrev cX2_leaveCall : ByteArray := prog_4_method_9_code
def yX2_leaveCall : MethodName := ⟨RX2, "leaveCall", "(I)V"⟩
abbrev cX2_waitParked : ByteArray := prog_4_method_10_code
def yX2_waitParked : MethodName := ⟨RX2, "waitParked", "(I)V"⟩
def RX3 : String := "RotaryExchange$Pad"
def TX3 : u_T := fun k => match k with
  | 0 => ("RotaryExchange$Pad", "codes", "[I", true)
  | _ => ("RotaryExchange$Pad", "length", "I", false)
def tyX3 : Nat → FieldType := fun k => match k with
  | 0 => .array .int
  | _ => .int
abbrev wsX30 : List Cond := u_ws RX3 TX3 2
theorem nmX3 : ∀ a, a < 2 → ∀ b, b < 2 → a ≠ b → (TX3 a).2.1 ≠ (TX3 b).2.1 := by decide +kernel
theorem tyX3_ok : ∀ k, k < 2 → parseFieldDescriptor (TX3 k).2.2.1 = some (tyX3 k) := by decide +kernel
abbrev cX3_init : ByteArray := prog_5_method_1_code
def yX3_init : MethodName := ⟨RX3, "<init>", "()V"⟩
def RX4 : String := "RotaryExchange"
def TX4 : u_T := fun k => match k with
  | 0 => ("RotaryExchange", "exchange", "LRotaryExchange$Exchange;", true)
  | 1 => ("RotaryExchange", "trial", "LRotaryExchange$Exchange;", true)
  | 2 => ("RotaryExchange", "slots", "[LRotaryExchange$Exchange;", true)
  | _ => ("RotaryExchange", "pad", "LRotaryExchange$Pad;", true)
def tyX4 : Nat → FieldType := fun k => match k with
  | 0 => .object "RotaryExchange$Exchange"
  | 1 => .object "RotaryExchange$Exchange"
  | 2 => .array (.object "RotaryExchange$Exchange")
  | _ => .object "RotaryExchange$Pad"
abbrev wsX40 : List Cond := u_ws RX4 TX4 4
theorem nmX4 : ∀ a, a < 4 → ∀ b, b < 4 → a ≠ b → (TX4 a).2.1 ≠ (TX4 b).2.1 := by decide +kernel
theorem tyX4_ok : ∀ k, k < 4 → parseFieldDescriptor (TX4 k).2.2.1 = some (tyX4 k) := by decide +kernel
abbrev cX4_init : ByteArray := prog_1_method_1_code
def yX4_init : MethodName := ⟨RX4, "<init>", "()V"⟩
abbrev cX4_setUp : ByteArray := prog_1_method_2_code
def yX4_setUp : MethodName := ⟨RX4, "setUp", "(II)I"⟩
abbrev cX4_set : ByteArray := prog_1_method_3_code
def yX4_set : MethodName := ⟨RX4, "set", "(II)I"⟩
abbrev cX4_lift : ByteArray := prog_1_method_4_code
def yX4_lift : MethodName := ⟨RX4, "lift", "(I)I"⟩
abbrev cX4_hang : ByteArray := prog_1_method_5_code
def yX4_hang : MethodName := ⟨RX4, "hang", "(I)I"⟩
abbrev cX4_dial : ByteArray := prog_1_method_6_code
def yX4_dial : MethodName := ⟨RX4, "dial", "(II)I"⟩
abbrev cX4_tick : ByteArray := prog_1_method_7_code
def yX4_tick : MethodName := ⟨RX4, "tick", "(I)I"⟩
abbrev cX4_line : ByteArray := prog_1_method_8_code
def yX4_line : MethodName := ⟨RX4, "line", "(II)I"⟩
abbrev cX4_finder : ByteArray := prog_1_method_9_code
def yX4_finder : MethodName := ⟨RX4, "finder", "(II)I"⟩
abbrev cX4_connector : ByteArray := prog_1_method_10_code
def yX4_connector : MethodName := ⟨RX4, "connector", "(II)I"⟩
abbrev cX4_count : ByteArray := prog_1_method_11_code
def yX4_count : MethodName := ⟨RX4, "count", "(I)I"⟩
abbrev cX4_trace : ByteArray := prog_1_method_12_code
def yX4_trace : MethodName := ⟨RX4, "trace", "(II)I"⟩
abbrev cX4_until : ByteArray := prog_1_method_13_code
def yX4_until : MethodName := ⟨RX4, "until", "(III)I"⟩
abbrev cX4_save : ByteArray := prog_1_method_19_code
def yX4_save : MethodName := ⟨RX4, "save", "(I)I"⟩
abbrev cX4_restore : ByteArray := prog_1_method_20_code
def yX4_restore : MethodName := ⟨RX4, "restore", "(I)I"⟩
abbrev cX4_isLine : ByteArray := prog_1_method_23_code
def yX4_isLine : MethodName := ⟨RX4, "isLine", "(I)Z"⟩
abbrev cX4_isWithin : ByteArray := prog_1_method_24_code
def yX4_isWithin : MethodName := ⟨RX4, "isWithin", "(III)Z"⟩
def RX5 : String := "RotaryExchangeModel"
def TX5 : u_T := fun k => match k with
  | _ => ("", "", "", false)
def tyX5 : Nat → FieldType := fun k => match k with
  | _ => .int
abbrev wsX50 : List Cond := u_ws RX5 TX5 0
theorem nmX5 : ∀ a, a < 0 → ∀ b, b < 0 → a ≠ b → (TX5 a).2.1 ≠ (TX5 b).2.1 := by decide +kernel
theorem tyX5_ok : ∀ k, k < 0 → parseFieldDescriptor (TX5 k).2.2.1 = some (tyX5 k) := by decide +kernel
def RL : String := "RotaryExchangeLaw"
abbrev cL_cell : ByteArray := method_2_code
def yL_cell : MethodName := ⟨RL, "cell", "([III)I"⟩
abbrev cL_fits : ByteArray := method_3_code
def yL_fits : MethodName := ⟨RL, "fits", "(LRotaryExchange;)Z"⟩
abbrev cL_next : ByteArray := method_4_code
def yL_next : MethodName := ⟨RL, "next", "(LRotaryExchange;I)I"⟩
abbrev cL_ticks : ByteArray := method_5_code
def yL_ticks : MethodName := ⟨RL, "ticks", "(LRotaryExchange;I)Z"⟩
abbrev cL_law : ByteArray := code
def yL_law : MethodName := ⟨RL, "law", "([I)Z"⟩
abbrev vwCl : List vw_C := [(RX0, TX0, 16), (RX1, TX1, 10), (RX2, TX2, 9), (RX3, TX3, 2), (RX4, TX4, 4)]
def lw_gd : List Cond := lw_tbl.filter goodWord
theorem gd_in {w : Cond} (h : w ∈ lw_tbl) (hg : goodWord w = true) : w ∈ lw_gd := List.mem_filter.mpr ⟨h, hg⟩
theorem gd_good : ∀ w ∈ lw_gd, goodWord w = true := fun _ h => (List.mem_filter.mp h).2
theorem gd_tbl : ∀ w ∈ lw_gd, w ∈ lw_tbl := fun _ h => (List.mem_filter.mp h).1
set_option maxRecDepth 20000 in
theorem inX0 : ∀ w ∈ wsX00, w ∈ lw_gd := fun w h => gd_in ((by decide +kernel : ∀ w ∈ wsX00, w ∈ lw_tbl) w h) ((by decide +kernel : ∀ w ∈ wsX00, goodWord w = true) w h)
set_option maxRecDepth 20000 in
theorem inX1 : ∀ w ∈ wsX10, w ∈ lw_gd := fun w h => gd_in ((by decide +kernel : ∀ w ∈ wsX10, w ∈ lw_tbl) w h) ((by decide +kernel : ∀ w ∈ wsX10, goodWord w = true) w h)
set_option maxRecDepth 20000 in
theorem inX2 : ∀ w ∈ wsX20, w ∈ lw_gd := fun w h => gd_in ((by decide +kernel : ∀ w ∈ wsX20, w ∈ lw_tbl) w h) ((by decide +kernel : ∀ w ∈ wsX20, goodWord w = true) w h)
set_option maxRecDepth 20000 in
theorem inX3 : ∀ w ∈ wsX30, w ∈ lw_gd := fun w h => gd_in ((by decide +kernel : ∀ w ∈ wsX30, w ∈ lw_tbl) w h) ((by decide +kernel : ∀ w ∈ wsX30, goodWord w = true) w h)
set_option maxRecDepth 20000 in
theorem inX4 : ∀ w ∈ wsX40, w ∈ lw_gd := fun w h => gd_in ((by decide +kernel : ∀ w ∈ wsX40, w ∈ lw_tbl) w h) ((by decide +kernel : ∀ w ∈ wsX40, goodWord w = true) w h)
