section
-- ===== PART A: goes FIRST, ahead of the names: the tables' words, and 'selects' of the private methods out of them =====
/-- a private method of a class that the tables say can be made, by its rows of tables_1 -/
def lw_okq (q : MethodName × Nat) : Prop := (q.1.cls ≠ "java/lang/invoke/MethodHandle" ∧ q.1.cls ≠ "java/lang/invoke/VarHandle") ∧ Cond.instantiable q.1.cls q.2 ∈ tables_1 ∧ Cond.privateMethod q.1 ∈ tables_1 ∧ Cond.instanceMethod q.1 ∈ tables_1
theorem lw_p0 : lw_okq (⟨"RotaryExchange$Exchange", "settingAt", "(I)I"⟩, 16) := ⟨⟨by decide +kernel, by decide +kernel⟩, List.mem_of_getElem? (i := 16) (by decide +kernel), List.mem_of_getElem? (i := 253) (by decide +kernel), List.mem_of_getElem? (i := 254) (by decide +kernel)⟩
theorem lw_p1 : lw_okq (⟨"RotaryExchange$Exchange", "release", "(LRotaryExchange$Finder;)V"⟩, 16) := ⟨⟨by decide +kernel, by decide +kernel⟩, List.mem_of_getElem? (i := 16) (by decide +kernel), List.mem_of_getElem? (i := 280) (by decide +kernel), List.mem_of_getElem? (i := 281) (by decide +kernel)⟩
theorem lw_p2 : lw_okq (⟨"RotaryExchange$Exchange", "takeStep", "(LRotaryExchange$Finder;)V"⟩, 16) := ⟨⟨by decide +kernel, by decide +kernel⟩, List.mem_of_getElem? (i := 16) (by decide +kernel), List.mem_of_getElem? (i := 311) (by decide +kernel), List.mem_of_getElem? (i := 312) (by decide +kernel)⟩
theorem lw_p3 : lw_okq (⟨"RotaryExchange$Exchange", "seek", "(LRotaryExchange$Finder;LRotaryExchange$Line;)V"⟩, 16) := ⟨⟨by decide +kernel, by decide +kernel⟩, List.mem_of_getElem? (i := 16) (by decide +kernel), List.mem_of_getElem? (i := 315) (by decide +kernel), List.mem_of_getElem? (i := 316) (by decide +kernel)⟩
theorem lw_p4 : lw_okq (⟨"RotaryExchange$Exchange", "awaitDigit", "(LRotaryExchange$Finder;LRotaryExchange$Line;I)V"⟩, 16) := ⟨⟨by decide +kernel, by decide +kernel⟩, List.mem_of_getElem? (i := 16) (by decide +kernel), List.mem_of_getElem? (i := 320) (by decide +kernel), List.mem_of_getElem? (i := 321) (by decide +kernel)⟩
theorem lw_p5 : lw_okq (⟨"RotaryExchange$Exchange", "rise", "(LRotaryExchange$Finder;LRotaryExchange$Line;)V"⟩, 16) := ⟨⟨by decide +kernel, by decide +kernel⟩, List.mem_of_getElem? (i := 16) (by decide +kernel), List.mem_of_getElem? (i := 328) (by decide +kernel), List.mem_of_getElem? (i := 329) (by decide +kernel)⟩
theorem lw_p6 : lw_okq (⟨"RotaryExchange$Exchange", "sound", "(LRotaryExchange$Finder;LRotaryExchange$Line;II)V"⟩, 16) := ⟨⟨by decide +kernel, by decide +kernel⟩, List.mem_of_getElem? (i := 16) (by decide +kernel), List.mem_of_getElem? (i := 332) (by decide +kernel), List.mem_of_getElem? (i := 333) (by decide +kernel)⟩
theorem lw_p7 : lw_okq (⟨"RotaryExchange$Exchange", "hunt", "(LRotaryExchange$Finder;LRotaryExchange$Line;)V"⟩, 16) := ⟨⟨by decide +kernel, by decide +kernel⟩, List.mem_of_getElem? (i := 16) (by decide +kernel), List.mem_of_getElem? (i := 336) (by decide +kernel), List.mem_of_getElem? (i := 337) (by decide +kernel)⟩
theorem lw_p8 : lw_okq (⟨"RotaryExchange$Exchange", "stepOn", "(LRotaryExchange$Finder;LRotaryExchange$Line;)V"⟩, 16) := ⟨⟨by decide +kernel, by decide +kernel⟩, List.mem_of_getElem? (i := 16) (by decide +kernel), List.mem_of_getElem? (i := 348) (by decide +kernel), List.mem_of_getElem? (i := 349) (by decide +kernel)⟩
theorem lw_p9 : lw_okq (⟨"RotaryExchange$Exchange", "ringOn", "(LRotaryExchange$Finder;LRotaryExchange$Line;)V"⟩, 16) := ⟨⟨by decide +kernel, by decide +kernel⟩, List.mem_of_getElem? (i := 16) (by decide +kernel), List.mem_of_getElem? (i := 352) (by decide +kernel), List.mem_of_getElem? (i := 353) (by decide +kernel)⟩
theorem lw_p10 : lw_okq (⟨"RotaryExchange$Exchange", "talkOn", "(LRotaryExchange$Finder;LRotaryExchange$Line;)V"⟩, 16) := ⟨⟨by decide +kernel, by decide +kernel⟩, List.mem_of_getElem? (i := 16) (by decide +kernel), List.mem_of_getElem? (i := 356) (by decide +kernel), List.mem_of_getElem? (i := 357) (by decide +kernel)⟩
theorem lw_p11 : lw_okq (⟨"RotaryExchange$Exchange", "soundOn", "(LRotaryExchange$Finder;LRotaryExchange$Line;)V"⟩, 16) := ⟨⟨by decide +kernel, by decide +kernel⟩, List.mem_of_getElem? (i := 16) (by decide +kernel), List.mem_of_getElem? (i := 360) (by decide +kernel), List.mem_of_getElem? (i := 361) (by decide +kernel)⟩
theorem lw_p12 : lw_okq (⟨"RotaryExchange$Exchange", "allotFinder", "()V"⟩, 16) := ⟨⟨by decide +kernel, by decide +kernel⟩, List.mem_of_getElem? (i := 16) (by decide +kernel), List.mem_of_getElem? (i := 364) (by decide +kernel), List.mem_of_getElem? (i := 365) (by decide +kernel)⟩
theorem lw_p13 : lw_okq (⟨"RotaryExchange$Exchange", "nextFreeFinder", "()I"⟩, 16) := ⟨⟨by decide +kernel, by decide +kernel⟩, List.mem_of_getElem? (i := 16) (by decide +kernel), List.mem_of_getElem? (i := 368) (by decide +kernel), List.mem_of_getElem? (i := 369) (by decide +kernel)⟩
theorem lw_p14 : lw_okq (⟨"RotaryExchange$Exchange", "firstWaitingLine", "()I"⟩, 16) := ⟨⟨by decide +kernel, by decide +kernel⟩, List.mem_of_getElem? (i := 16) (by decide +kernel), List.mem_of_getElem? (i := 372) (by decide +kernel), List.mem_of_getElem? (i := 373) (by decide +kernel)⟩
theorem lw_p15 : lw_okq (⟨"RotaryExchange$Exchange", "countParked", "()V"⟩, 16) := ⟨⟨by decide +kernel, by decide +kernel⟩, List.mem_of_getElem? (i := 16) (by decide +kernel), List.mem_of_getElem? (i := 380) (by decide +kernel), List.mem_of_getElem? (i := 381) (by decide +kernel)⟩
def lw_privs_1 : List (MethodName × Nat) := [(⟨"RotaryExchange$Exchange", "settingAt", "(I)I"⟩, 16), (⟨"RotaryExchange$Exchange", "release", "(LRotaryExchange$Finder;)V"⟩, 16), (⟨"RotaryExchange$Exchange", "takeStep", "(LRotaryExchange$Finder;)V"⟩, 16), (⟨"RotaryExchange$Exchange", "seek", "(LRotaryExchange$Finder;LRotaryExchange$Line;)V"⟩, 16), (⟨"RotaryExchange$Exchange", "awaitDigit", "(LRotaryExchange$Finder;LRotaryExchange$Line;I)V"⟩, 16), (⟨"RotaryExchange$Exchange", "rise", "(LRotaryExchange$Finder;LRotaryExchange$Line;)V"⟩, 16), (⟨"RotaryExchange$Exchange", "sound", "(LRotaryExchange$Finder;LRotaryExchange$Line;II)V"⟩, 16), (⟨"RotaryExchange$Exchange", "hunt", "(LRotaryExchange$Finder;LRotaryExchange$Line;)V"⟩, 16), (⟨"RotaryExchange$Exchange", "stepOn", "(LRotaryExchange$Finder;LRotaryExchange$Line;)V"⟩, 16), (⟨"RotaryExchange$Exchange", "ringOn", "(LRotaryExchange$Finder;LRotaryExchange$Line;)V"⟩, 16), (⟨"RotaryExchange$Exchange", "talkOn", "(LRotaryExchange$Finder;LRotaryExchange$Line;)V"⟩, 16), (⟨"RotaryExchange$Exchange", "soundOn", "(LRotaryExchange$Finder;LRotaryExchange$Line;)V"⟩, 16), (⟨"RotaryExchange$Exchange", "allotFinder", "()V"⟩, 16), (⟨"RotaryExchange$Exchange", "nextFreeFinder", "()I"⟩, 16), (⟨"RotaryExchange$Exchange", "firstWaitingLine", "()I"⟩, 16), (⟨"RotaryExchange$Exchange", "countParked", "()V"⟩, 16)]
theorem lw_r1 : ∀ q ∈ lw_privs_1, lw_okq q := List.forall_mem_cons.mpr ⟨lw_p0, List.forall_mem_cons.mpr ⟨lw_p1, List.forall_mem_cons.mpr ⟨lw_p2, List.forall_mem_cons.mpr ⟨lw_p3, List.forall_mem_cons.mpr ⟨lw_p4, List.forall_mem_cons.mpr ⟨lw_p5, List.forall_mem_cons.mpr ⟨lw_p6, List.forall_mem_cons.mpr ⟨lw_p7, List.forall_mem_cons.mpr ⟨lw_p8, List.forall_mem_cons.mpr ⟨lw_p9, List.forall_mem_cons.mpr ⟨lw_p10, List.forall_mem_cons.mpr ⟨lw_p11, List.forall_mem_cons.mpr ⟨lw_p12, List.forall_mem_cons.mpr ⟨lw_p13, List.forall_mem_cons.mpr ⟨lw_p14, List.forall_mem_cons.mpr ⟨lw_p15, fun _ h => absurd h List.not_mem_nil⟩⟩⟩⟩⟩⟩⟩⟩⟩⟩⟩⟩⟩⟩⟩⟩
theorem lw_p16 : lw_okq (⟨"RotaryExchange$Exchange", "partnerOf", "(LRotaryExchange$Line;)I"⟩, 16) := ⟨⟨by decide +kernel, by decide +kernel⟩, List.mem_of_getElem? (i := 16) (by decide +kernel), List.mem_of_getElem? (i := 396) (by decide +kernel), List.mem_of_getElem? (i := 397) (by decide +kernel)⟩
theorem lw_p17 : lw_okq (⟨"RotaryExchange$Exchange", "placeOf", "(LRotaryExchange$Line;)I"⟩, 16) := ⟨⟨by decide +kernel, by decide +kernel⟩, List.mem_of_getElem? (i := 16) (by decide +kernel), List.mem_of_getElem? (i := 404) (by decide +kernel), List.mem_of_getElem? (i := 405) (by decide +kernel)⟩
theorem lw_p18 : lw_okq (⟨"RotaryExchange$Exchange", "freeFinders", "()I"⟩, 16) := ⟨⟨by decide +kernel, by decide +kernel⟩, List.mem_of_getElem? (i := 16) (by decide +kernel), List.mem_of_getElem? (i := 430) (by decide +kernel), List.mem_of_getElem? (i := 431) (by decide +kernel)⟩
theorem lw_p19 : lw_okq (⟨"RotaryExchange$Exchange", "freeConnectors", "()I"⟩, 16) := ⟨⟨by decide +kernel, by decide +kernel⟩, List.mem_of_getElem? (i := 16) (by decide +kernel), List.mem_of_getElem? (i := 434) (by decide +kernel), List.mem_of_getElem? (i := 435) (by decide +kernel)⟩
theorem lw_p20 : lw_okq (⟨"RotaryExchange$Exchange", "sumOfMeters", "()I"⟩, 16) := ⟨⟨by decide +kernel, by decide +kernel⟩, List.mem_of_getElem? (i := 16) (by decide +kernel), List.mem_of_getElem? (i := 438) (by decide +kernel), List.mem_of_getElem? (i := 439) (by decide +kernel)⟩
theorem lw_p21 : lw_okq (⟨"RotaryExchange$Exchange", "liftedLines", "()I"⟩, 16) := ⟨⟨by decide +kernel, by decide +kernel⟩, List.mem_of_getElem? (i := 16) (by decide +kernel), List.mem_of_getElem? (i := 442) (by decide +kernel), List.mem_of_getElem? (i := 443) (by decide +kernel)⟩
theorem lw_p22 : lw_okq (⟨"RotaryExchange$Pad", "appendCode", "(I)V"⟩, 2) := ⟨⟨by decide +kernel, by decide +kernel⟩, List.mem_of_getElem? (i := 177) (by decide +kernel), List.mem_of_getElem? (i := 501) (by decide +kernel), List.mem_of_getElem? (i := 502) (by decide +kernel)⟩
theorem lw_p23 : lw_okq (⟨"RotaryExchange", "succeeds", "(I)Z"⟩, 4) := ⟨⟨by decide +kernel, by decide +kernel⟩, List.mem_of_getElem? (i := 8) (by decide +kernel), List.mem_of_getElem? (i := 544) (by decide +kernel), List.mem_of_getElem? (i := 545) (by decide +kernel)⟩
theorem lw_p24 : lw_okq (⟨"RotaryExchange", "dialsAll", "(II)Z"⟩, 4) := ⟨⟨by decide +kernel, by decide +kernel⟩, List.mem_of_getElem? (i := 8) (by decide +kernel), List.mem_of_getElem? (i := 553) (by decide +kernel), List.mem_of_getElem? (i := 554) (by decide +kernel)⟩
theorem lw_p25 : lw_okq (⟨"RotaryExchangeModel", "begin", "(II)V"⟩, 10) := ⟨⟨by decide +kernel, by decide +kernel⟩, List.mem_of_getElem? (i := 570) (by decide +kernel), List.mem_of_getElem? (i := 576) (by decide +kernel), List.mem_of_getElem? (i := 577) (by decide +kernel)⟩
theorem lw_p26 : lw_okq (⟨"RotaryExchangeModel", "free", "(I)V"⟩, 10) := ⟨⟨by decide +kernel, by decide +kernel⟩, List.mem_of_getElem? (i := 570) (by decide +kernel), List.mem_of_getElem? (i := 583) (by decide +kernel), List.mem_of_getElem? (i := 584) (by decide +kernel)⟩
theorem lw_p27 : lw_okq (⟨"RotaryExchangeModel", "ofFinder", "(II)I"⟩, 10) := ⟨⟨by decide +kernel, by decide +kernel⟩, List.mem_of_getElem? (i := 570) (by decide +kernel), List.mem_of_getElem? (i := 587) (by decide +kernel), List.mem_of_getElem? (i := 588) (by decide +kernel)⟩
theorem lw_p28 : lw_okq (⟨"RotaryExchangeModel", "layFinder", "(III)V"⟩, 10) := ⟨⟨by decide +kernel, by decide +kernel⟩, List.mem_of_getElem? (i := 570) (by decide +kernel), List.mem_of_getElem? (i := 591) (by decide +kernel), List.mem_of_getElem? (i := 592) (by decide +kernel)⟩
theorem lw_p29 : lw_okq (⟨"RotaryExchangeModel", "setting", "(I)I"⟩, 10) := ⟨⟨by decide +kernel, by decide +kernel⟩, List.mem_of_getElem? (i := 570) (by decide +kernel), List.mem_of_getElem? (i := 638) (by decide +kernel), List.mem_of_getElem? (i := 639) (by decide +kernel)⟩
theorem lw_p30 : lw_okq (⟨"RotaryExchangeModel", "of", "(II)I"⟩, 10) := ⟨⟨by decide +kernel, by decide +kernel⟩, List.mem_of_getElem? (i := 570) (by decide +kernel), List.mem_of_getElem? (i := 649) (by decide +kernel), List.mem_of_getElem? (i := 650) (by decide +kernel)⟩
theorem lw_p31 : lw_okq (⟨"RotaryExchangeModel", "lay", "(III)V"⟩, 10) := ⟨⟨by decide +kernel, by decide +kernel⟩, List.mem_of_getElem? (i := 570) (by decide +kernel), List.mem_of_getElem? (i := 653) (by decide +kernel), List.mem_of_getElem? (i := 654) (by decide +kernel)⟩
def lw_privs_2 : List (MethodName × Nat) := [(⟨"RotaryExchange$Exchange", "partnerOf", "(LRotaryExchange$Line;)I"⟩, 16), (⟨"RotaryExchange$Exchange", "placeOf", "(LRotaryExchange$Line;)I"⟩, 16), (⟨"RotaryExchange$Exchange", "freeFinders", "()I"⟩, 16), (⟨"RotaryExchange$Exchange", "freeConnectors", "()I"⟩, 16), (⟨"RotaryExchange$Exchange", "sumOfMeters", "()I"⟩, 16), (⟨"RotaryExchange$Exchange", "liftedLines", "()I"⟩, 16), (⟨"RotaryExchange$Pad", "appendCode", "(I)V"⟩, 2), (⟨"RotaryExchange", "succeeds", "(I)Z"⟩, 4), (⟨"RotaryExchange", "dialsAll", "(II)Z"⟩, 4), (⟨"RotaryExchangeModel", "begin", "(II)V"⟩, 10), (⟨"RotaryExchangeModel", "free", "(I)V"⟩, 10), (⟨"RotaryExchangeModel", "ofFinder", "(II)I"⟩, 10), (⟨"RotaryExchangeModel", "layFinder", "(III)V"⟩, 10), (⟨"RotaryExchangeModel", "setting", "(I)I"⟩, 10), (⟨"RotaryExchangeModel", "of", "(II)I"⟩, 10), (⟨"RotaryExchangeModel", "lay", "(III)V"⟩, 10)]
theorem lw_r2 : ∀ q ∈ lw_privs_2, lw_okq q := List.forall_mem_cons.mpr ⟨lw_p16, List.forall_mem_cons.mpr ⟨lw_p17, List.forall_mem_cons.mpr ⟨lw_p18, List.forall_mem_cons.mpr ⟨lw_p19, List.forall_mem_cons.mpr ⟨lw_p20, List.forall_mem_cons.mpr ⟨lw_p21, List.forall_mem_cons.mpr ⟨lw_p22, List.forall_mem_cons.mpr ⟨lw_p23, List.forall_mem_cons.mpr ⟨lw_p24, List.forall_mem_cons.mpr ⟨lw_p25, List.forall_mem_cons.mpr ⟨lw_p26, List.forall_mem_cons.mpr ⟨lw_p27, List.forall_mem_cons.mpr ⟨lw_p28, List.forall_mem_cons.mpr ⟨lw_p29, List.forall_mem_cons.mpr ⟨lw_p30, List.forall_mem_cons.mpr ⟨lw_p31, fun _ h => absurd h List.not_mem_nil⟩⟩⟩⟩⟩⟩⟩⟩⟩⟩⟩⟩⟩⟩⟩⟩
theorem lw_p32 : lw_okq (⟨"RotaryExchangeModel", "countOne", "(I)V"⟩, 10) := ⟨⟨by decide +kernel, by decide +kernel⟩, List.mem_of_getElem? (i := 570) (by decide +kernel), List.mem_of_getElem? (i := 657) (by decide +kernel), List.mem_of_getElem? (i := 658) (by decide +kernel)⟩
theorem lw_p33 : lw_okq (⟨"RotaryExchangeModel", "dropCall", "(I)V"⟩, 10) := ⟨⟨by decide +kernel, by decide +kernel⟩, List.mem_of_getElem? (i := 570) (by decide +kernel), List.mem_of_getElem? (i := 665) (by decide +kernel), List.mem_of_getElem? (i := 666) (by decide +kernel)⟩
theorem lw_p34 : lw_okq (⟨"RotaryExchangeModel", "finderOf", "(I)I"⟩, 10) := ⟨⟨by decide +kernel, by decide +kernel⟩, List.mem_of_getElem? (i := 570) (by decide +kernel), List.mem_of_getElem? (i := 669) (by decide +kernel), List.mem_of_getElem? (i := 670) (by decide +kernel)⟩
theorem lw_p35 : lw_okq (⟨"RotaryExchangeModel", "park", "(I)V"⟩, 10) := ⟨⟨by decide +kernel, by decide +kernel⟩, List.mem_of_getElem? (i := 570) (by decide +kernel), List.mem_of_getElem? (i := 673) (by decide +kernel), List.mem_of_getElem? (i := 674) (by decide +kernel)⟩
theorem lw_p36 : lw_okq (⟨"RotaryExchangeModel", "makeTick", "()V"⟩, 10) := ⟨⟨by decide +kernel, by decide +kernel⟩, List.mem_of_getElem? (i := 570) (by decide +kernel), List.mem_of_getElem? (i := 686) (by decide +kernel), List.mem_of_getElem? (i := 687) (by decide +kernel)⟩
theorem lw_p37 : lw_okq (⟨"RotaryExchangeModel", "stepFinder", "(I)V"⟩, 10) := ⟨⟨by decide +kernel, by decide +kernel⟩, List.mem_of_getElem? (i := 570) (by decide +kernel), List.mem_of_getElem? (i := 690) (by decide +kernel), List.mem_of_getElem? (i := 691) (by decide +kernel)⟩
theorem lw_p38 : lw_okq (⟨"RotaryExchangeModel", "seek", "(I)V"⟩, 10) := ⟨⟨by decide +kernel, by decide +kernel⟩, List.mem_of_getElem? (i := 570) (by decide +kernel), List.mem_of_getElem? (i := 694) (by decide +kernel), List.mem_of_getElem? (i := 695) (by decide +kernel)⟩
theorem lw_p39 : lw_okq (⟨"RotaryExchangeModel", "waitForDigit", "(I)V"⟩, 10) := ⟨⟨by decide +kernel, by decide +kernel⟩, List.mem_of_getElem? (i := 570) (by decide +kernel), List.mem_of_getElem? (i := 698) (by decide +kernel), List.mem_of_getElem? (i := 699) (by decide +kernel)⟩
theorem lw_p40 : lw_okq (⟨"RotaryExchangeModel", "takeDigit", "(I)I"⟩, 10) := ⟨⟨by decide +kernel, by decide +kernel⟩, List.mem_of_getElem? (i := 570) (by decide +kernel), List.mem_of_getElem? (i := 702) (by decide +kernel), List.mem_of_getElem? (i := 703) (by decide +kernel)⟩
theorem lw_p41 : lw_okq (⟨"RotaryExchangeModel", "reaches", "(III)Z"⟩, 10) := ⟨⟨by decide +kernel, by decide +kernel⟩, List.mem_of_getElem? (i := 570) (by decide +kernel), List.mem_of_getElem? (i := 706) (by decide +kernel), List.mem_of_getElem? (i := 707) (by decide +kernel)⟩
theorem lw_p42 : lw_okq (⟨"RotaryExchangeModel", "giveUp", "(I)V"⟩, 10) := ⟨⟨by decide +kernel, by decide +kernel⟩, List.mem_of_getElem? (i := 570) (by decide +kernel), List.mem_of_getElem? (i := 710) (by decide +kernel), List.mem_of_getElem? (i := 711) (by decide +kernel)⟩
theorem lw_p43 : lw_okq (⟨"RotaryExchangeModel", "rise", "(I)V"⟩, 10) := ⟨⟨by decide +kernel, by decide +kernel⟩, List.mem_of_getElem? (i := 570) (by decide +kernel), List.mem_of_getElem? (i := 714) (by decide +kernel), List.mem_of_getElem? (i := 715) (by decide +kernel)⟩
theorem lw_p44 : lw_okq (⟨"RotaryExchangeModel", "sound", "(III)V"⟩, 10) := ⟨⟨by decide +kernel, by decide +kernel⟩, List.mem_of_getElem? (i := 570) (by decide +kernel), List.mem_of_getElem? (i := 718) (by decide +kernel), List.mem_of_getElem? (i := 719) (by decide +kernel)⟩
theorem lw_p45 : lw_okq (⟨"RotaryExchangeModel", "hunt", "(I)V"⟩, 10) := ⟨⟨by decide +kernel, by decide +kernel⟩, List.mem_of_getElem? (i := 570) (by decide +kernel), List.mem_of_getElem? (i := 722) (by decide +kernel), List.mem_of_getElem? (i := 723) (by decide +kernel)⟩
theorem lw_p46 : lw_okq (⟨"RotaryExchangeModel", "holder", "(II)I"⟩, 10) := ⟨⟨by decide +kernel, by decide +kernel⟩, List.mem_of_getElem? (i := 570) (by decide +kernel), List.mem_of_getElem? (i := 726) (by decide +kernel), List.mem_of_getElem? (i := 727) (by decide +kernel)⟩
theorem lw_p47 : lw_okq (⟨"RotaryExchangeModel", "isHolding", "(I)Z"⟩, 10) := ⟨⟨by decide +kernel, by decide +kernel⟩, List.mem_of_getElem? (i := 570) (by decide +kernel), List.mem_of_getElem? (i := 730) (by decide +kernel), List.mem_of_getElem? (i := 731) (by decide +kernel)⟩
def lw_privs_3 : List (MethodName × Nat) := [(⟨"RotaryExchangeModel", "countOne", "(I)V"⟩, 10), (⟨"RotaryExchangeModel", "dropCall", "(I)V"⟩, 10), (⟨"RotaryExchangeModel", "finderOf", "(I)I"⟩, 10), (⟨"RotaryExchangeModel", "park", "(I)V"⟩, 10), (⟨"RotaryExchangeModel", "makeTick", "()V"⟩, 10), (⟨"RotaryExchangeModel", "stepFinder", "(I)V"⟩, 10), (⟨"RotaryExchangeModel", "seek", "(I)V"⟩, 10), (⟨"RotaryExchangeModel", "waitForDigit", "(I)V"⟩, 10), (⟨"RotaryExchangeModel", "takeDigit", "(I)I"⟩, 10), (⟨"RotaryExchangeModel", "reaches", "(III)Z"⟩, 10), (⟨"RotaryExchangeModel", "giveUp", "(I)V"⟩, 10), (⟨"RotaryExchangeModel", "rise", "(I)V"⟩, 10), (⟨"RotaryExchangeModel", "sound", "(III)V"⟩, 10), (⟨"RotaryExchangeModel", "hunt", "(I)V"⟩, 10), (⟨"RotaryExchangeModel", "holder", "(II)I"⟩, 10), (⟨"RotaryExchangeModel", "isHolding", "(I)Z"⟩, 10)]
theorem lw_r3 : ∀ q ∈ lw_privs_3, lw_okq q := List.forall_mem_cons.mpr ⟨lw_p32, List.forall_mem_cons.mpr ⟨lw_p33, List.forall_mem_cons.mpr ⟨lw_p34, List.forall_mem_cons.mpr ⟨lw_p35, List.forall_mem_cons.mpr ⟨lw_p36, List.forall_mem_cons.mpr ⟨lw_p37, List.forall_mem_cons.mpr ⟨lw_p38, List.forall_mem_cons.mpr ⟨lw_p39, List.forall_mem_cons.mpr ⟨lw_p40, List.forall_mem_cons.mpr ⟨lw_p41, List.forall_mem_cons.mpr ⟨lw_p42, List.forall_mem_cons.mpr ⟨lw_p43, List.forall_mem_cons.mpr ⟨lw_p44, List.forall_mem_cons.mpr ⟨lw_p45, List.forall_mem_cons.mpr ⟨lw_p46, List.forall_mem_cons.mpr ⟨lw_p47, fun _ h => absurd h List.not_mem_nil⟩⟩⟩⟩⟩⟩⟩⟩⟩⟩⟩⟩⟩⟩⟩⟩
theorem lw_p48 : lw_okq (⟨"RotaryExchangeModel", "step", "(I)V"⟩, 10) := ⟨⟨by decide +kernel, by decide +kernel⟩, List.mem_of_getElem? (i := 570) (by decide +kernel), List.mem_of_getElem? (i := 734) (by decide +kernel), List.mem_of_getElem? (i := 735) (by decide +kernel)⟩
theorem lw_p49 : lw_okq (⟨"RotaryExchangeModel", "test", "(I)V"⟩, 10) := ⟨⟨by decide +kernel, by decide +kernel⟩, List.mem_of_getElem? (i := 570) (by decide +kernel), List.mem_of_getElem? (i := 738) (by decide +kernel), List.mem_of_getElem? (i := 739) (by decide +kernel)⟩
theorem lw_p50 : lw_okq (⟨"RotaryExchangeModel", "ring", "(I)V"⟩, 10) := ⟨⟨by decide +kernel, by decide +kernel⟩, List.mem_of_getElem? (i := 570) (by decide +kernel), List.mem_of_getElem? (i := 742) (by decide +kernel), List.mem_of_getElem? (i := 743) (by decide +kernel)⟩
theorem lw_p51 : lw_okq (⟨"RotaryExchangeModel", "meter", "(I)V"⟩, 10) := ⟨⟨by decide +kernel, by decide +kernel⟩, List.mem_of_getElem? (i := 570) (by decide +kernel), List.mem_of_getElem? (i := 746) (by decide +kernel), List.mem_of_getElem? (i := 747) (by decide +kernel)⟩
theorem lw_p52 : lw_okq (⟨"RotaryExchangeModel", "talk", "(I)V"⟩, 10) := ⟨⟨by decide +kernel, by decide +kernel⟩, List.mem_of_getElem? (i := 570) (by decide +kernel), List.mem_of_getElem? (i := 750) (by decide +kernel), List.mem_of_getElem? (i := 751) (by decide +kernel)⟩
theorem lw_p53 : lw_okq (⟨"RotaryExchangeModel", "soundOn", "(I)V"⟩, 10) := ⟨⟨by decide +kernel, by decide +kernel⟩, List.mem_of_getElem? (i := 570) (by decide +kernel), List.mem_of_getElem? (i := 754) (by decide +kernel), List.mem_of_getElem? (i := 755) (by decide +kernel)⟩
theorem lw_p54 : lw_okq (⟨"RotaryExchangeModel", "allot", "()V"⟩, 10) := ⟨⟨by decide +kernel, by decide +kernel⟩, List.mem_of_getElem? (i := 570) (by decide +kernel), List.mem_of_getElem? (i := 758) (by decide +kernel), List.mem_of_getElem? (i := 759) (by decide +kernel)⟩
theorem lw_p55 : lw_okq (⟨"RotaryExchangeModel", "isQueued", "(I)Z"⟩, 10) := ⟨⟨by decide +kernel, by decide +kernel⟩, List.mem_of_getElem? (i := 570) (by decide +kernel), List.mem_of_getElem? (i := 762) (by decide +kernel), List.mem_of_getElem? (i := 763) (by decide +kernel)⟩
theorem lw_p56 : lw_okq (⟨"RotaryExchangeModel", "pathOf", "(I)I"⟩, 10) := ⟨⟨by decide +kernel, by decide +kernel⟩, List.mem_of_getElem? (i := 570) (by decide +kernel), List.mem_of_getElem? (i := 770) (by decide +kernel), List.mem_of_getElem? (i := 771) (by decide +kernel)⟩
theorem lw_p57 : lw_okq (⟨"RotaryExchangeModel", "finderTo", "(I)I"⟩, 10) := ⟨⟨by decide +kernel, by decide +kernel⟩, List.mem_of_getElem? (i := 570) (by decide +kernel), List.mem_of_getElem? (i := 774) (by decide +kernel), List.mem_of_getElem? (i := 775) (by decide +kernel)⟩
theorem lw_p58 : lw_okq (⟨"RotaryExchangeModel", "otherOf", "(I)I"⟩, 10) := ⟨⟨by decide +kernel, by decide +kernel⟩, List.mem_of_getElem? (i := 570) (by decide +kernel), List.mem_of_getElem? (i := 778) (by decide +kernel), List.mem_of_getElem? (i := 779) (by decide +kernel)⟩
theorem lw_p59 : lw_okq (⟨"RotaryExchangeModel", "placeOf", "(I)I"⟩, 10) := ⟨⟨by decide +kernel, by decide +kernel⟩, List.mem_of_getElem? (i := 570) (by decide +kernel), List.mem_of_getElem? (i := 782) (by decide +kernel), List.mem_of_getElem? (i := 783) (by decide +kernel)⟩
theorem lw_p60 : lw_okq (⟨"RotaryExchangeModel", "isFinder", "(I)Z"⟩, 10) := ⟨⟨by decide +kernel, by decide +kernel⟩, List.mem_of_getElem? (i := 570) (by decide +kernel), List.mem_of_getElem? (i := 790) (by decide +kernel), List.mem_of_getElem? (i := 791) (by decide +kernel)⟩
theorem lw_p61 : lw_okq (⟨"RotaryExchangeModel", "showsTimer", "(I)Z"⟩, 10) := ⟨⟨by decide +kernel, by decide +kernel⟩, List.mem_of_getElem? (i := 570) (by decide +kernel), List.mem_of_getElem? (i := 794) (by decide +kernel), List.mem_of_getElem? (i := 795) (by decide +kernel)⟩
theorem lw_p62 : lw_okq (⟨"RotaryExchangeModel", "finders", "(Z)I"⟩, 10) := ⟨⟨by decide +kernel, by decide +kernel⟩, List.mem_of_getElem? (i := 570) (by decide +kernel), List.mem_of_getElem? (i := 806) (by decide +kernel), List.mem_of_getElem? (i := 807) (by decide +kernel)⟩
theorem lw_p63 : lw_okq (⟨"RotaryExchangeModel", "sumOf", "(I)I"⟩, 10) := ⟨⟨by decide +kernel, by decide +kernel⟩, List.mem_of_getElem? (i := 570) (by decide +kernel), List.mem_of_getElem? (i := 810) (by decide +kernel), List.mem_of_getElem? (i := 811) (by decide +kernel)⟩
def lw_privs_4 : List (MethodName × Nat) := [(⟨"RotaryExchangeModel", "step", "(I)V"⟩, 10), (⟨"RotaryExchangeModel", "test", "(I)V"⟩, 10), (⟨"RotaryExchangeModel", "ring", "(I)V"⟩, 10), (⟨"RotaryExchangeModel", "meter", "(I)V"⟩, 10), (⟨"RotaryExchangeModel", "talk", "(I)V"⟩, 10), (⟨"RotaryExchangeModel", "soundOn", "(I)V"⟩, 10), (⟨"RotaryExchangeModel", "allot", "()V"⟩, 10), (⟨"RotaryExchangeModel", "isQueued", "(I)Z"⟩, 10), (⟨"RotaryExchangeModel", "pathOf", "(I)I"⟩, 10), (⟨"RotaryExchangeModel", "finderTo", "(I)I"⟩, 10), (⟨"RotaryExchangeModel", "otherOf", "(I)I"⟩, 10), (⟨"RotaryExchangeModel", "placeOf", "(I)I"⟩, 10), (⟨"RotaryExchangeModel", "isFinder", "(I)Z"⟩, 10), (⟨"RotaryExchangeModel", "showsTimer", "(I)Z"⟩, 10), (⟨"RotaryExchangeModel", "finders", "(Z)I"⟩, 10), (⟨"RotaryExchangeModel", "sumOf", "(I)I"⟩, 10)]
theorem lw_r4 : ∀ q ∈ lw_privs_4, lw_okq q := List.forall_mem_cons.mpr ⟨lw_p48, List.forall_mem_cons.mpr ⟨lw_p49, List.forall_mem_cons.mpr ⟨lw_p50, List.forall_mem_cons.mpr ⟨lw_p51, List.forall_mem_cons.mpr ⟨lw_p52, List.forall_mem_cons.mpr ⟨lw_p53, List.forall_mem_cons.mpr ⟨lw_p54, List.forall_mem_cons.mpr ⟨lw_p55, List.forall_mem_cons.mpr ⟨lw_p56, List.forall_mem_cons.mpr ⟨lw_p57, List.forall_mem_cons.mpr ⟨lw_p58, List.forall_mem_cons.mpr ⟨lw_p59, List.forall_mem_cons.mpr ⟨lw_p60, List.forall_mem_cons.mpr ⟨lw_p61, List.forall_mem_cons.mpr ⟨lw_p62, List.forall_mem_cons.mpr ⟨lw_p63, fun _ h => absurd h List.not_mem_nil⟩⟩⟩⟩⟩⟩⟩⟩⟩⟩⟩⟩⟩⟩⟩⟩
theorem lw_p64 : lw_okq (⟨"RotaryExchangeModel", "putAside", "()V"⟩, 10) := ⟨⟨by decide +kernel, by decide +kernel⟩, List.mem_of_getElem? (i := 570) (by decide +kernel), List.mem_of_getElem? (i := 822) (by decide +kernel), List.mem_of_getElem? (i := 823) (by decide +kernel)⟩
theorem lw_p65 : lw_okq (⟨"RotaryExchangeModel", "putBack", "()V"⟩, 10) := ⟨⟨by decide +kernel, by decide +kernel⟩, List.mem_of_getElem? (i := 570) (by decide +kernel), List.mem_of_getElem? (i := 826) (by decide +kernel), List.mem_of_getElem? (i := 827) (by decide +kernel)⟩
theorem lw_p66 : lw_okq (⟨"RotaryExchangeModel", "readAct", "()V"⟩, 10) := ⟨⟨by decide +kernel, by decide +kernel⟩, List.mem_of_getElem? (i := 570) (by decide +kernel), List.mem_of_getElem? (i := 852) (by decide +kernel), List.mem_of_getElem? (i := 853) (by decide +kernel)⟩
theorem lw_p67 : lw_okq (⟨"RotaryExchangeModel", "next", "()I"⟩, 10) := ⟨⟨by decide +kernel, by decide +kernel⟩, List.mem_of_getElem? (i := 570) (by decide +kernel), List.mem_of_getElem? (i := 856) (by decide +kernel), List.mem_of_getElem? (i := 857) (by decide +kernel)⟩
theorem lw_p68 : lw_okq (⟨"RotaryExchangeModel", "readNumber", "()I"⟩, 10) := ⟨⟨by decide +kernel, by decide +kernel⟩, List.mem_of_getElem? (i := 570) (by decide +kernel), List.mem_of_getElem? (i := 860) (by decide +kernel), List.mem_of_getElem? (i := 861) (by decide +kernel)⟩
theorem lw_p69 : lw_okq (⟨"RotaryExchangeModel", "readLine", "()I"⟩, 10) := ⟨⟨by decide +kernel, by decide +kernel⟩, List.mem_of_getElem? (i := 570) (by decide +kernel), List.mem_of_getElem? (i := 864) (by decide +kernel), List.mem_of_getElem? (i := 865) (by decide +kernel)⟩
theorem lw_p70 : lw_okq (⟨"RotaryExchangeModel", "readDigits", "(I)V"⟩, 10) := ⟨⟨by decide +kernel, by decide +kernel⟩, List.mem_of_getElem? (i := 570) (by decide +kernel), List.mem_of_getElem? (i := 871) (by decide +kernel), List.mem_of_getElem? (i := 872) (by decide +kernel)⟩
theorem lw_p71 : lw_okq (⟨"RotaryExchangeModel", "does", "(I)Z"⟩, 10) := ⟨⟨by decide +kernel, by decide +kernel⟩, List.mem_of_getElem? (i := 570) (by decide +kernel), List.mem_of_getElem? (i := 880) (by decide +kernel), List.mem_of_getElem? (i := 881) (by decide +kernel)⟩
theorem lw_p72 : lw_okq (⟨"RotaryExchangeModel", "dials", "(I)Z"⟩, 10) := ⟨⟨by decide +kernel, by decide +kernel⟩, List.mem_of_getElem? (i := 570) (by decide +kernel), List.mem_of_getElem? (i := 885) (by decide +kernel), List.mem_of_getElem? (i := 886) (by decide +kernel)⟩
def lw_privs_5 : List (MethodName × Nat) := [(⟨"RotaryExchangeModel", "putAside", "()V"⟩, 10), (⟨"RotaryExchangeModel", "putBack", "()V"⟩, 10), (⟨"RotaryExchangeModel", "readAct", "()V"⟩, 10), (⟨"RotaryExchangeModel", "next", "()I"⟩, 10), (⟨"RotaryExchangeModel", "readNumber", "()I"⟩, 10), (⟨"RotaryExchangeModel", "readLine", "()I"⟩, 10), (⟨"RotaryExchangeModel", "readDigits", "(I)V"⟩, 10), (⟨"RotaryExchangeModel", "does", "(I)Z"⟩, 10), (⟨"RotaryExchangeModel", "dials", "(I)Z"⟩, 10)]
theorem lw_r5 : ∀ q ∈ lw_privs_5, lw_okq q := List.forall_mem_cons.mpr ⟨lw_p64, List.forall_mem_cons.mpr ⟨lw_p65, List.forall_mem_cons.mpr ⟨lw_p66, List.forall_mem_cons.mpr ⟨lw_p67, List.forall_mem_cons.mpr ⟨lw_p68, List.forall_mem_cons.mpr ⟨lw_p69, List.forall_mem_cons.mpr ⟨lw_p70, List.forall_mem_cons.mpr ⟨lw_p71, List.forall_mem_cons.mpr ⟨lw_p72, fun _ h => absurd h List.not_mem_nil⟩⟩⟩⟩⟩⟩⟩⟩⟩
def lw_privs : List (MethodName × Nat) := lw_privs_1 ++ (lw_privs_2 ++ (lw_privs_3 ++ (lw_privs_4 ++ (lw_privs_5))))
def lw_tbl : List Cond := k2_sels lw_privs ++ tables_1
theorem lw_privs_ok : ∀ q ∈ lw_privs, lw_okq q := by
  show ∀ q ∈ lw_privs_1 ++ (lw_privs_2 ++ (lw_privs_3 ++ (lw_privs_4 ++ (lw_privs_5)))), lw_okq q
  exact List.forall_mem_append.mpr ⟨lw_r1, List.forall_mem_append.mpr ⟨lw_r2, List.forall_mem_append.mpr ⟨lw_r3, List.forall_mem_append.mpr ⟨lw_r4, lw_r5⟩⟩⟩⟩
-- ===== names: by program out of the claim's printed names =====
def RX0 : String := "RotaryExchange$Exchange"
def TX0 : u_T := fun k => match k with
  | 0 => ("RotaryExchange$Exchange", "lines", "[LRotaryExchange$Line;", true)
  | 1 => ("RotaryExchange$Exchange", "finders", "[LRotaryExchange$Finder;", true)
  | 2 => ("RotaryExchange$Exchange", "noLine", "LRotaryExchange$Line;", true)
  | 3 => ("RotaryExchange$Exchange", "noFinder", "LRotaryExchange$Finder;", true)
  | 4 => ("RotaryExchange$Exchange", "settings", "[I", true)
  | 5 => ("RotaryExchange$Exchange", "finderCount", "I", false)
  | 6 => ("RotaryExchange$Exchange", "connectorCount", "I", false)
  | 7 => ("RotaryExchange$Exchange", "time", "I", false)
  | 8 => ("RotaryExchange$Exchange", "lastAllotted", "I", false)
  | 9 => ("RotaryExchange$Exchange", "lifts", "I", false)
  | 10 => ("RotaryExchange$Exchange", "readies", "I", false)
  | 11 => ("RotaryExchange$Exchange", "callings", "I", false)
  | 12 => ("RotaryExchange$Exchange", "throughs", "I", false)
  | 13 => ("RotaryExchange$Exchange", "busies", "I", false)
  | 14 => ("RotaryExchange$Exchange", "vacants", "I", false)
  | _ => ("RotaryExchange$Exchange", "waitsGivenUp", "I", false)
def tyX0 : Nat → FieldType := fun k => match k with
  | 0 => .array (.object "RotaryExchange$Line")
  | 1 => .array (.object "RotaryExchange$Finder")
  | 2 => .object "RotaryExchange$Line"
  | 3 => .object "RotaryExchange$Finder"
  | 4 => .array .int
  | 5 => .int
  | 6 => .int
  | 7 => .int
  | 8 => .int
  | 9 => .int
  | 10 => .int
  | 11 => .int
  | 12 => .int
  | 13 => .int
  | 14 => .int
  | _ => .int
abbrev wsX00 : List Cond := u_ws RX0 TX0 16
theorem nmX0 : ∀ a, a < 16 → ∀ b, b < 16 → a ≠ b → (TX0 a).2.1 ≠ (TX0 b).2.1 := by decide +kernel
theorem tyX0_ok : ∀ k, k < 16 → parseFieldDescriptor (TX0 k).2.2.1 = some (tyX0 k) := by decide +kernel
abbrev cX0_init : ByteArray := prog_2_method_1_code
def yX0_init : MethodName := ⟨RX0, "<init>", "()V"⟩
abbrev cX0_lineAt : ByteArray := prog_2_method_2_code
def yX0_lineAt : MethodName := ⟨RX0, "lineAt", "(I)LRotaryExchange$Line;"⟩
abbrev cX0_finderAt : ByteArray := prog_2_method_3_code
def yX0_finderAt : MethodName := ⟨RX0, "finderAt", "(I)LRotaryExchange$Finder;"⟩
abbrev cX0_settingAt : ByteArray := prog_2_method_4_code
def yX0_settingAt : MethodName := ⟨RX0, "settingAt", "(I)I"⟩
abbrev cX0_changeSetting : ByteArray := prog_2_method_5_code
def yX0_changeSetting : MethodName := ⟨RX0, "changeSetting", "(II)I"⟩
abbrev cX0_renew : ByteArray := prog_2_method_6_code
def yX0_renew : MethodName := ⟨RX0, "renew", "(II)V"⟩
abbrev cX0_copyFrom : ByteArray := prog_2_method_7_code
def yX0_copyFrom : MethodName := ⟨RX0, "copyFrom", "(LRotaryExchange$Exchange;)V"⟩
abbrev cX0_liftLine : ByteArray := prog_2_method_8_code
def yX0_liftLine : MethodName := ⟨RX0, "liftLine", "(I)I"⟩
abbrev cX0_hangLine : ByteArray := prog_2_method_9_code
def yX0_hangLine : MethodName := ⟨RX0, "hangLine", "(I)I"⟩
abbrev cX0_release : ByteArray := prog_2_method_10_code
def yX0_release : MethodName := ⟨RX0, "release", "(LRotaryExchange$Finder;)V"⟩
abbrev cX0_dialDigit : ByteArray := prog_2_method_11_code
def yX0_dialDigit : MethodName := ⟨RX0, "dialDigit", "(II)I"⟩
abbrev cX0_hasTimeFor : ByteArray := prog_2_method_12_code
def yX0_hasTimeFor : MethodName := ⟨RX0, "hasTimeFor", "(I)Z"⟩
abbrev cX0_pass : ByteArray := prog_2_method_13_code
def yX0_pass : MethodName := ⟨RX0, "pass", "(I)V"⟩
abbrev cX0_takeStep : ByteArray := prog_2_method_14_code
def yX0_takeStep : MethodName := ⟨RX0, "takeStep", "(LRotaryExchange$Finder;)V"⟩
abbrev cX0_seek : ByteArray := prog_2_method_15_code
def yX0_seek : MethodName := ⟨RX0, "seek", "(LRotaryExchange$Finder;LRotaryExchange$Line;)V"⟩
abbrev cX0_awaitDigit : ByteArray := prog_2_method_16_code
def yX0_awaitDigit : MethodName := ⟨RX0, "awaitDigit", "(LRotaryExchange$Finder;LRotaryExchange$Line;I)V"⟩
abbrev cX0_rise : ByteArray := prog_2_method_17_code
def yX0_rise : MethodName := ⟨RX0, "rise", "(LRotaryExchange$Finder;LRotaryExchange$Line;)V"⟩
abbrev cX0_hunt : ByteArray := prog_2_method_18_code
def yX0_hunt : MethodName := ⟨RX0, "hunt", "(LRotaryExchange$Finder;LRotaryExchange$Line;)V"⟩
abbrev cX0_stepOn : ByteArray := prog_2_method_19_code
def yX0_stepOn : MethodName := ⟨RX0, "stepOn", "(LRotaryExchange$Finder;LRotaryExchange$Line;)V"⟩
abbrev cX0_ringOn : ByteArray := prog_2_method_20_code
def yX0_ringOn : MethodName := ⟨RX0, "ringOn", "(LRotaryExchange$Finder;LRotaryExchange$Line;)V"⟩
abbrev cX0_talkOn : ByteArray := prog_2_method_21_code
def yX0_talkOn : MethodName := ⟨RX0, "talkOn", "(LRotaryExchange$Finder;LRotaryExchange$Line;)V"⟩
abbrev cX0_soundOn : ByteArray := prog_2_method_22_code
def yX0_soundOn : MethodName := ⟨RX0, "soundOn", "(LRotaryExchange$Finder;LRotaryExchange$Line;)V"⟩
abbrev cX0_sound : ByteArray := prog_2_method_23_code
def yX0_sound : MethodName := ⟨RX0, "sound", "(LRotaryExchange$Finder;LRotaryExchange$Line;II)V"⟩
abbrev cX0_allotFinder : ByteArray := prog_2_method_24_code
def yX0_allotFinder : MethodName := ⟨RX0, "allotFinder", "()V"⟩
abbrev cX0_countParked : ByteArray := prog_2_method_25_code
def yX0_countParked : MethodName := ⟨RX0, "countParked", "()V"⟩
abbrev cX0_nextFreeFinder : ByteArray := prog_2_method_26_code
def yX0_nextFreeFinder : MethodName := ⟨RX0, "nextFreeFinder", "()I"⟩
abbrev cX0_firstWaitingLine : ByteArray := prog_2_method_27_code
def yX0_firstWaitingLine : MethodName := ⟨RX0, "firstWaitingLine", "()I"⟩
abbrev cX0_holderOf : ByteArray := prog_2_method_28_code
def yX0_holderOf : MethodName := ⟨RX0, "holderOf", "(II)I"⟩
abbrev cX0_ticksUntil : ByteArray := prog_2_method_29_code
def yX0_ticksUntil : MethodName := ⟨RX0, "ticksUntil", "(III)I"⟩
abbrev cX0_tryCall : ByteArray := prog_2_method_30_code
def yX0_tryCall : MethodName := ⟨RX0, "tryCall", "(II)I"⟩
abbrev cX0_endsTrial : ByteArray := prog_2_method_31_code
def yX0_endsTrial : MethodName := ⟨RX0, "endsTrial", "(I)Z"⟩
abbrev cX0_numberOfLine : ByteArray := prog_2_method_32_code
def yX0_numberOfLine : MethodName := ⟨RX0, "numberOfLine", "(II)I"⟩
abbrev cX0_partnerOf : ByteArray := prog_2_method_33_code
def yX0_partnerOf : MethodName := ⟨RX0, "partnerOf", "(LRotaryExchange$Line;)I"⟩
abbrev cX0_placeOf : ByteArray := prog_2_method_34_code
def yX0_placeOf : MethodName := ⟨RX0, "placeOf", "(LRotaryExchange$Line;)I"⟩
abbrev cX0_traceFrom : ByteArray := prog_2_method_35_code
def yX0_traceFrom : MethodName := ⟨RX0, "traceFrom", "(II)I"⟩
abbrev cX0_numberFor : ByteArray := prog_2_method_36_code
def yX0_numberFor : MethodName := ⟨RX0, "numberFor", "(I)I"⟩
abbrev cX0_freeFinders : ByteArray := prog_2_method_37_code
def yX0_freeFinders : MethodName := ⟨RX0, "freeFinders", "()I"⟩
abbrev cX0_freeConnectors : ByteArray := prog_2_method_38_code
def yX0_freeConnectors : MethodName := ⟨RX0, "freeConnectors", "()I"⟩
abbrev cX0_sumOfMeters : ByteArray := prog_2_method_39_code
def yX0_sumOfMeters : MethodName := ⟨RX0, "sumOfMeters", "()I"⟩
abbrev cX0_liftedLines : ByteArray := prog_2_method_40_code
def yX0_liftedLines : MethodName := ⟨RX0, "liftedLines", "()I"⟩
def RX1 : String := "RotaryExchange$Finder"
def TX1 : u_T := fun k => match k with
  | 0 => ("RotaryExchange$Finder", "state", "I", false)
  | 1 => ("RotaryExchange$Finder", "position", "I", false)
  | 2 => ("RotaryExchange$Finder", "line", "I", false)
  | 3 => ("RotaryExchange$Finder", "level", "I", false)
  | 4 => ("RotaryExchange$Finder", "connector", "I", false)
  | 5 => ("RotaryExchange$Finder", "pulses", "I", false)
  | 6 => ("RotaryExchange$Finder", "steps", "I", false)
  | 7 => ("RotaryExchange$Finder", "timer", "I", false)
  | 8 => ("RotaryExchange$Finder", "clearing", "I", false)
  | _ => ("RotaryExchange$Finder", "called", "I", false)
def tyX1 : Nat → FieldType := fun k => match k with
  | 0 => .int
  | 1 => .int
  | 2 => .int
  | 3 => .int
  | 4 => .int
  | 5 => .int
  | 6 => .int
  | 7 => .int
  | 8 => .int
  | _ => .int
abbrev wsX10 : List Cond := u_ws RX1 TX1 10
theorem nmX1 : ∀ a, a < 10 → ∀ b, b < 10 → a ≠ b → (TX1 a).2.1 ≠ (TX1 b).2.1 := by decide +kernel
theorem tyX1_ok : ∀ k, k < 10 → parseFieldDescriptor (TX1 k).2.2.1 = some (tyX1 k) := by decide +kernel
abbrev cX1_init : ByteArray := prog_3_method_1_code
def yX1_init : MethodName := ⟨RX1, "<init>", "()V"⟩
abbrev cX1_renew : ByteArray := prog_3_method_2_code
def yX1_renew : MethodName := ⟨RX1, "renew", "()V"⟩
abbrev cX1_copyFrom : ByteArray := prog_3_method_3_code
def yX1_copyFrom : MethodName := ⟨RX1, "copyFrom", "(LRotaryExchange$Finder;)V"⟩
abbrev cX1_become : ByteArray := prog_3_method_4_code
def yX1_become : MethodName := ⟨RX1, "become", "(I)V"⟩
abbrev cX1_becomeFree : ByteArray := prog_3_method_5_code
def yX1_becomeFree : MethodName := ⟨RX1, "becomeFree", "()V"⟩
abbrev cX1_holdsConnector : ByteArray := prog_3_method_6_code
def yX1_holdsConnector : MethodName := ⟨RX1, "holdsConnector", "()Z"⟩
abbrev cX1_numberFor : ByteArray := prog_3_method_7_code
def yX1_numberFor : MethodName := ⟨RX1, "numberFor", "(I)I"⟩
def RX2 : String := "RotaryExchange$Line"
def TX2 : u_T := fun k => match k with
  | 0 => ("RotaryExchange$Line", "state", "I", false)
  | 1 => ("RotaryExchange$Line", "lifted", "Z", false)
  | 2 => ("RotaryExchange$Line", "meter", "I", false)
  | 3 => ("RotaryExchange$Line", "reason", "I", false)
  | 4 => ("RotaryExchange$Line", "digits", "I", false)
  | 5 => ("RotaryExchange$Line", "digitCount", "I", false)
  | 6 => ("RotaryExchange$Line", "finder", "I", false)
  | 7 => ("RotaryExchange$Line", "turn", "I", false)
  | _ => ("RotaryExchange$Line", "parking", "I", false)
def tyX2 : Nat → FieldType := fun k => match k with
  | 0 => .int
  | 1 => .boolean
  | 2 => .int
  | 3 => .int
  | 4 => .int
  | 5 => .int
  | 6 => .int
  | 7 => .int
  | _ => .int
abbrev wsX20 : List Cond := u_ws RX2 TX2 9
theorem nmX2 : ∀ a, a < 9 → ∀ b, b < 9 → a ≠ b → (TX2 a).2.1 ≠ (TX2 b).2.1 := by decide +kernel
theorem tyX2_ok : ∀ k, k < 9 → parseFieldDescriptor (TX2 k).2.2.1 = some (tyX2 k) := by decide +kernel
abbrev cX2_init : ByteArray := prog_4_method_1_code
def yX2_init : MethodName := ⟨RX2, "<init>", "()V"⟩
abbrev cX2_renew : ByteArray := prog_4_method_2_code
def yX2_renew : MethodName := ⟨RX2, "renew", "()V"⟩
abbrev cX2_copyFrom : ByteArray := prog_4_method_3_code
def yX2_copyFrom : MethodName := ⟨RX2, "copyFrom", "(LRotaryExchange$Line;)V"⟩
abbrev cX2_waitsUnsought : ByteArray := prog_4_method_4_code
def yX2_waitsUnsought : MethodName := ⟨RX2, "waitsUnsought", "()Z"⟩
abbrev cX2_isCalledByAnother : ByteArray := prog_4_method_5_code
def yX2_isCalledByAnother : MethodName := ⟨RX2, "isCalledByAnother", "()Z"⟩
abbrev cX2_callsAnother : ByteArray := prog_4_method_6_code
def yX2_callsAnother : MethodName := ⟨RX2, "callsAnother", "()Z"⟩
abbrev cX2_appendDigit : ByteArray := prog_4_method_7_code
def yX2_appendDigit : MethodName := ⟨RX2, "appendDigit", "(I)V"⟩
abbrev cX2_takePulses : ByteArray := prog_4_method_8_code
def yX2_takePulses : MethodName := ⟨RX2, "takePulses", "()I"⟩
abbrev cX2_leaveCall : ByteArray := prog_4_method_9_code
def yX2_leaveCall : MethodName := ⟨RX2, "leaveCall", "(I)V"⟩
abbrev cX2_waitParked : ByteArray := prog_4_method_10_code
def yX2_waitParked : MethodName := ⟨RX2, "waitParked", "(I)V"⟩
def RX3 : String := "RotaryExchange$Pad"
def TX3 : u_T := fun k => match k with
  | 0 => ("RotaryExchange$Pad", "codes", "[I", true)
  | _ => ("RotaryExchange$Pad", "length", "I", false)
def tyX3 : Nat → FieldType := fun k => match k with
  | 0 => .array .int
  | _ => .int
abbrev wsX30 : List Cond := u_ws RX3 TX3 2
theorem nmX3 : ∀ a, a < 2 → ∀ b, b < 2 → a ≠ b → (TX3 a).2.1 ≠ (TX3 b).2.1 := by decide +kernel
theorem tyX3_ok : ∀ k, k < 2 → parseFieldDescriptor (TX3 k).2.2.1 = some (tyX3 k) := by decide +kernel
abbrev cX3_init : ByteArray := prog_5_method_1_code
def yX3_init : MethodName := ⟨RX3, "<init>", "()V"⟩
abbrev cX3_codeAt : ByteArray := prog_5_method_2_code
def yX3_codeAt : MethodName := ⟨RX3, "codeAt", "(I)I"⟩
abbrev cX3_append : ByteArray := prog_5_method_3_code
def yX3_append : MethodName := ⟨RX3, "append", "(J)I"⟩
abbrev cX3_appendCode : ByteArray := prog_5_method_4_code
def yX3_appendCode : MethodName := ⟨RX3, "appendCode", "(I)V"⟩
abbrev cX3_countOf : ByteArray := prog_5_method_5_code
def yX3_countOf : MethodName := ⟨RX3, "countOf", "(J)I"⟩
abbrev cX3_firstFault : ByteArray := prog_5_method_6_code
def yX3_firstFault : MethodName := ⟨RX3, "firstFault", "()I"⟩
abbrev cX3_awaitedBehind : ByteArray := prog_5_method_7_code
def yX3_awaitedBehind : MethodName := ⟨RX3, "awaitedBehind", "(III)I"⟩
abbrev cX3_awaitedBehindLetter : ByteArray := prog_5_method_8_code
def yX3_awaitedBehindLetter : MethodName := ⟨RX3, "awaitedBehindLetter", "(I)I"⟩
abbrev cX3_awaitedBehindComma : ByteArray := prog_5_method_9_code
def yX3_awaitedBehindComma : MethodName := ⟨RX3, "awaitedBehindComma", "(I)I"⟩
abbrev cX3_beginsAnAct : ByteArray := prog_5_method_10_code
def yX3_beginsAnAct : MethodName := ⟨RX3, "beginsAnAct", "(I)Z"⟩
abbrev cX3_lineAt : ByteArray := prog_5_method_11_code
def yX3_lineAt : MethodName := ⟨RX3, "lineAt", "(I)I"⟩
abbrev cX3_lineOf : ByteArray := prog_5_method_12_code
def yX3_lineOf : MethodName := ⟨RX3, "lineOf", "(I)I"⟩
abbrev cX3_numberAt : ByteArray := prog_5_method_13_code
def yX3_numberAt : MethodName := ⟨RX3, "numberAt", "(I)I"⟩
abbrev cX3_isDigit : ByteArray := prog_5_method_14_code
def yX3_isDigit : MethodName := ⟨RX3, "isDigit", "(I)Z"⟩
def RX4 : String := "RotaryExchange"
def TX4 : u_T := fun k => match k with
  | 0 => ("RotaryExchange", "exchange", "LRotaryExchange$Exchange;", true)
  | 1 => ("RotaryExchange", "trial", "LRotaryExchange$Exchange;", true)
  | 2 => ("RotaryExchange", "slots", "[LRotaryExchange$Exchange;", true)
  | _ => ("RotaryExchange", "pad", "LRotaryExchange$Pad;", true)
def tyX4 : Nat → FieldType := fun k => match k with
  | 0 => .object "RotaryExchange$Exchange"
  | 1 => .object "RotaryExchange$Exchange"
  | 2 => .array (.object "RotaryExchange$Exchange")
  | _ => .object "RotaryExchange$Pad"
abbrev wsX40 : List Cond := u_ws RX4 TX4 4
theorem nmX4 : ∀ a, a < 4 → ∀ b, b < 4 → a ≠ b → (TX4 a).2.1 ≠ (TX4 b).2.1 := by decide +kernel
theorem tyX4_ok : ∀ k, k < 4 → parseFieldDescriptor (TX4 k).2.2.1 = some (tyX4 k) := by decide +kernel
abbrev cX4_init : ByteArray := prog_1_method_1_code
def yX4_init : MethodName := ⟨RX4, "<init>", "()V"⟩
abbrev cX4_setUp : ByteArray := prog_1_method_2_code
def yX4_setUp : MethodName := ⟨RX4, "setUp", "(II)I"⟩
abbrev cX4_set : ByteArray := prog_1_method_3_code
def yX4_set : MethodName := ⟨RX4, "set", "(II)I"⟩
abbrev cX4_lift : ByteArray := prog_1_method_4_code
def yX4_lift : MethodName := ⟨RX4, "lift", "(I)I"⟩
abbrev cX4_hang : ByteArray := prog_1_method_5_code
def yX4_hang : MethodName := ⟨RX4, "hang", "(I)I"⟩
abbrev cX4_dial : ByteArray := prog_1_method_6_code
def yX4_dial : MethodName := ⟨RX4, "dial", "(II)I"⟩
abbrev cX4_tick : ByteArray := prog_1_method_7_code
def yX4_tick : MethodName := ⟨RX4, "tick", "(I)I"⟩
abbrev cX4_line : ByteArray := prog_1_method_8_code
def yX4_line : MethodName := ⟨RX4, "line", "(II)I"⟩
abbrev cX4_finder : ByteArray := prog_1_method_9_code
def yX4_finder : MethodName := ⟨RX4, "finder", "(II)I"⟩
abbrev cX4_connector : ByteArray := prog_1_method_10_code
def yX4_connector : MethodName := ⟨RX4, "connector", "(II)I"⟩
abbrev cX4_count : ByteArray := prog_1_method_11_code
def yX4_count : MethodName := ⟨RX4, "count", "(I)I"⟩
abbrev cX4_trace : ByteArray := prog_1_method_12_code
def yX4_trace : MethodName := ⟨RX4, "trace", "(II)I"⟩
abbrev cX4_until : ByteArray := prog_1_method_13_code
def yX4_until : MethodName := ⟨RX4, "until", "(III)I"⟩
abbrev cX4_attempt : ByteArray := prog_1_method_14_code
def yX4_attempt : MethodName := ⟨RX4, "attempt", "(III)I"⟩
abbrev cX4_put : ByteArray := prog_1_method_15_code
def yX4_put : MethodName := ⟨RX4, "put", "(J)I"⟩
abbrev cX4_wipe : ByteArray := prog_1_method_16_code
def yX4_wipe : MethodName := ⟨RX4, "wipe", "()I"⟩
abbrev cX4_fault : ByteArray := prog_1_method_17_code
def yX4_fault : MethodName := ⟨RX4, "fault", "()I"⟩
abbrev cX4_carryOut : ByteArray := prog_1_method_18_code
def yX4_carryOut : MethodName := ⟨RX4, "carryOut", "()I"⟩
abbrev cX4_save : ByteArray := prog_1_method_19_code
def yX4_save : MethodName := ⟨RX4, "save", "(I)I"⟩
abbrev cX4_restore : ByteArray := prog_1_method_20_code
def yX4_restore : MethodName := ⟨RX4, "restore", "(I)I"⟩
abbrev cX4_succeeds : ByteArray := prog_1_method_21_code
def yX4_succeeds : MethodName := ⟨RX4, "succeeds", "(I)Z"⟩
abbrev cX4_dialsAll : ByteArray := prog_1_method_22_code
def yX4_dialsAll : MethodName := ⟨RX4, "dialsAll", "(II)Z"⟩
abbrev cX4_isLine : ByteArray := prog_1_method_23_code
def yX4_isLine : MethodName := ⟨RX4, "isLine", "(I)Z"⟩
abbrev cX4_isWithin : ByteArray := prog_1_method_24_code
def yX4_isWithin : MethodName := ⟨RX4, "isWithin", "(III)Z"⟩
def RX5 : String := "RotaryExchangeModel"
def TX5 : u_T := fun k => match k with
  | 0 => ("RotaryExchangeModel", "at", "[I", true)
  | 1 => ("RotaryExchangeModel", "aside", "[I", true)
  | 2 => ("RotaryExchangeModel", "slots", "[I", true)
  | 3 => ("RotaryExchangeModel", "isSaved", "[Z", true)
  | 4 => ("RotaryExchangeModel", "pad", "[I", true)
  | 5 => ("RotaryExchangeModel", "padMany", "I", false)
  | 6 => ("RotaryExchangeModel", "spot", "I", false)
  | 7 => ("RotaryExchangeModel", "isWrong", "Z", false)
  | 8 => ("RotaryExchangeModel", "acts", "[I", true)
  | _ => ("RotaryExchangeModel", "actMany", "I", false)
def tyX5 : Nat → FieldType := fun k => match k with
  | 0 => .array .int
  | 1 => .array .int
  | 2 => .array .int
  | 3 => .array .boolean
  | 4 => .array .int
  | 5 => .int
  | 6 => .int
  | 7 => .boolean
  | 8 => .array .int
  | _ => .int
abbrev wsX50 : List Cond := u_ws RX5 TX5 10
theorem nmX5 : ∀ a, a < 10 → ∀ b, b < 10 → a ≠ b → (TX5 a).2.1 ≠ (TX5 b).2.1 := by decide +kernel
theorem tyX5_ok : ∀ k, k < 10 → parseFieldDescriptor (TX5 k).2.2.1 = some (tyX5 k) := by decide +kernel
abbrev cX5_init : ByteArray := prog_7_method_1_code
def yX5_init : MethodName := ⟨RX5, "<init>", "()V"⟩
abbrev cX5_in : ByteArray := prog_7_method_3_code
def yX5_in : MethodName := ⟨RX5, "in", "(III)Z"⟩
abbrev cX5_of : ByteArray := prog_7_method_4_code
def yX5_of : MethodName := ⟨RX5, "of", "(II)I"⟩
abbrev cX5_lay : ByteArray := prog_7_method_5_code
def yX5_lay : MethodName := ⟨RX5, "lay", "(III)V"⟩
abbrev cX5_ofFinder : ByteArray := prog_7_method_6_code
def yX5_ofFinder : MethodName := ⟨RX5, "ofFinder", "(II)I"⟩
abbrev cX5_layFinder : ByteArray := prog_7_method_7_code
def yX5_layFinder : MethodName := ⟨RX5, "layFinder", "(III)V"⟩
abbrev cX5_setting : ByteArray := prog_7_method_8_code
def yX5_setting : MethodName := ⟨RX5, "setting", "(I)I"⟩
abbrev cX5_countOne : ByteArray := prog_7_method_9_code
def yX5_countOne : MethodName := ⟨RX5, "countOne", "(I)V"⟩
abbrev cX5_begin : ByteArray := prog_7_method_10_code
def yX5_begin : MethodName := ⟨RX5, "begin", "(II)V"⟩
abbrev cX5_free : ByteArray := prog_7_method_11_code
def yX5_free : MethodName := ⟨RX5, "free", "(I)V"⟩
abbrev cX5_setUp : ByteArray := prog_7_method_12_code
def yX5_setUp : MethodName := ⟨RX5, "setUp", "(II)I"⟩
abbrev cX5_takes : ByteArray := prog_7_method_13_code
def yX5_takes : MethodName := ⟨RX5, "takes", "(II)Z"⟩
abbrev cX5_set : ByteArray := prog_7_method_14_code
def yX5_set : MethodName := ⟨RX5, "set", "(II)I"⟩
abbrev cX5_isLine : ByteArray := prog_7_method_15_code
def yX5_isLine : MethodName := ⟨RX5, "isLine", "(I)Z"⟩
abbrev cX5_isFinder : ByteArray := prog_7_method_16_code
def yX5_isFinder : MethodName := ⟨RX5, "isFinder", "(I)Z"⟩
abbrev cX5_finderOf : ByteArray := prog_7_method_17_code
def yX5_finderOf : MethodName := ⟨RX5, "finderOf", "(I)I"⟩
abbrev cX5_isHolding : ByteArray := prog_7_method_18_code
def yX5_isHolding : MethodName := ⟨RX5, "isHolding", "(I)Z"⟩
abbrev cX5_holder : ByteArray := prog_7_method_19_code
def yX5_holder : MethodName := ⟨RX5, "holder", "(II)I"⟩
abbrev cX5_finderTo : ByteArray := prog_7_method_20_code
def yX5_finderTo : MethodName := ⟨RX5, "finderTo", "(I)I"⟩
abbrev cX5_park : ByteArray := prog_7_method_21_code
def yX5_park : MethodName := ⟨RX5, "park", "(I)V"⟩
abbrev cX5_lift : ByteArray := prog_7_method_22_code
def yX5_lift : MethodName := ⟨RX5, "lift", "(I)I"⟩
abbrev cX5_dropCall : ByteArray := prog_7_method_23_code
def yX5_dropCall : MethodName := ⟨RX5, "dropCall", "(I)V"⟩
abbrev cX5_hang : ByteArray := prog_7_method_24_code
def yX5_hang : MethodName := ⟨RX5, "hang", "(I)I"⟩
abbrev cX5_dial : ByteArray := prog_7_method_25_code
def yX5_dial : MethodName := ⟨RX5, "dial", "(II)I"⟩
abbrev cX5_takeDigit : ByteArray := prog_7_method_26_code
def yX5_takeDigit : MethodName := ⟨RX5, "takeDigit", "(I)I"⟩
abbrev cX5_giveUp : ByteArray := prog_7_method_27_code
def yX5_giveUp : MethodName := ⟨RX5, "giveUp", "(I)V"⟩
abbrev cX5_sound : ByteArray := prog_7_method_28_code
def yX5_sound : MethodName := ⟨RX5, "sound", "(III)V"⟩
abbrev cX5_reaches : ByteArray := prog_7_method_29_code
def yX5_reaches : MethodName := ⟨RX5, "reaches", "(III)Z"⟩
abbrev cX5_seek : ByteArray := prog_7_method_30_code
def yX5_seek : MethodName := ⟨RX5, "seek", "(I)V"⟩
abbrev cX5_waitForDigit : ByteArray := prog_7_method_31_code
def yX5_waitForDigit : MethodName := ⟨RX5, "waitForDigit", "(I)V"⟩
abbrev cX5_rise : ByteArray := prog_7_method_32_code
def yX5_rise : MethodName := ⟨RX5, "rise", "(I)V"⟩
abbrev cX5_hunt : ByteArray := prog_7_method_33_code
def yX5_hunt : MethodName := ⟨RX5, "hunt", "(I)V"⟩
abbrev cX5_test : ByteArray := prog_7_method_34_code
def yX5_test : MethodName := ⟨RX5, "test", "(I)V"⟩
abbrev cX5_step : ByteArray := prog_7_method_35_code
def yX5_step : MethodName := ⟨RX5, "step", "(I)V"⟩
abbrev cX5_meter : ByteArray := prog_7_method_36_code
def yX5_meter : MethodName := ⟨RX5, "meter", "(I)V"⟩
abbrev cX5_ring : ByteArray := prog_7_method_37_code
def yX5_ring : MethodName := ⟨RX5, "ring", "(I)V"⟩
abbrev cX5_talk : ByteArray := prog_7_method_38_code
def yX5_talk : MethodName := ⟨RX5, "talk", "(I)V"⟩
abbrev cX5_soundOn : ByteArray := prog_7_method_39_code
def yX5_soundOn : MethodName := ⟨RX5, "soundOn", "(I)V"⟩
abbrev cX5_stepFinder : ByteArray := prog_7_method_40_code
def yX5_stepFinder : MethodName := ⟨RX5, "stepFinder", "(I)V"⟩
abbrev cX5_isQueued : ByteArray := prog_7_method_41_code
def yX5_isQueued : MethodName := ⟨RX5, "isQueued", "(I)Z"⟩
abbrev cX5_allot : ByteArray := prog_7_method_42_code
def yX5_allot : MethodName := ⟨RX5, "allot", "()V"⟩
abbrev cX5_makeTick : ByteArray := prog_7_method_43_code
def yX5_makeTick : MethodName := ⟨RX5, "makeTick", "()V"⟩
abbrev cX5_tick : ByteArray := prog_7_method_44_code
def yX5_tick : MethodName := ⟨RX5, "tick", "(I)I"⟩
abbrev cX5_pathOf : ByteArray := prog_7_method_45_code
def yX5_pathOf : MethodName := ⟨RX5, "pathOf", "(I)I"⟩
abbrev cX5_otherOf : ByteArray := prog_7_method_46_code
def yX5_otherOf : MethodName := ⟨RX5, "otherOf", "(I)I"⟩
abbrev cX5_placeOf : ByteArray := prog_7_method_47_code
def yX5_placeOf : MethodName := ⟨RX5, "placeOf", "(I)I"⟩
abbrev cX5_line : ByteArray := prog_7_method_48_code
def yX5_line : MethodName := ⟨RX5, "line", "(II)I"⟩
abbrev cX5_showsTimer : ByteArray := prog_7_method_49_code
def yX5_showsTimer : MethodName := ⟨RX5, "showsTimer", "(I)Z"⟩
abbrev cX5_finder : ByteArray := prog_7_method_50_code
def yX5_finder : MethodName := ⟨RX5, "finder", "(II)I"⟩
abbrev cX5_connector : ByteArray := prog_7_method_51_code
def yX5_connector : MethodName := ⟨RX5, "connector", "(II)I"⟩
abbrev cX5_finders : ByteArray := prog_7_method_52_code
def yX5_finders : MethodName := ⟨RX5, "finders", "(Z)I"⟩
abbrev cX5_sumOf : ByteArray := prog_7_method_53_code
def yX5_sumOf : MethodName := ⟨RX5, "sumOf", "(I)I"⟩
abbrev cX5_count : ByteArray := prog_7_method_54_code
def yX5_count : MethodName := ⟨RX5, "count", "(I)I"⟩
abbrev cX5_trace : ByteArray := prog_7_method_55_code
def yX5_trace : MethodName := ⟨RX5, "trace", "(II)I"⟩
abbrev cX5_putAside : ByteArray := prog_7_method_56_code
def yX5_putAside : MethodName := ⟨RX5, "putAside", "()V"⟩
abbrev cX5_putBack : ByteArray := prog_7_method_57_code
def yX5_putBack : MethodName := ⟨RX5, "putBack", "()V"⟩
abbrev cX5_until : ByteArray := prog_7_method_58_code
def yX5_until : MethodName := ⟨RX5, "until", "(III)I"⟩
abbrev cX5_isEnd : ByteArray := prog_7_method_59_code
def yX5_isEnd : MethodName := ⟨RX5, "isEnd", "(I)Z"⟩
abbrev cX5_attempt : ByteArray := prog_7_method_60_code
def yX5_attempt : MethodName := ⟨RX5, "attempt", "(III)I"⟩
abbrev cX5_put : ByteArray := prog_7_method_61_code
def yX5_put : MethodName := ⟨RX5, "put", "(J)I"⟩
abbrev cX5_wipe : ByteArray := prog_7_method_62_code
def yX5_wipe : MethodName := ⟨RX5, "wipe", "()I"⟩
abbrev cX5_next : ByteArray := prog_7_method_63_code
def yX5_next : MethodName := ⟨RX5, "next", "()I"⟩
abbrev cX5_lineBy : ByteArray := prog_7_method_64_code
def yX5_lineBy : MethodName := ⟨RX5, "lineBy", "(I)I"⟩
abbrev cX5_readLine : ByteArray := prog_7_method_65_code
def yX5_readLine : MethodName := ⟨RX5, "readLine", "()I"⟩
abbrev cX5_readNumber : ByteArray := prog_7_method_66_code
def yX5_readNumber : MethodName := ⟨RX5, "readNumber", "()I"⟩
abbrev cX5_readDigits : ByteArray := prog_7_method_67_code
def yX5_readDigits : MethodName := ⟨RX5, "readDigits", "(I)V"⟩
abbrev cX5_readAct : ByteArray := prog_7_method_68_code
def yX5_readAct : MethodName := ⟨RX5, "readAct", "()V"⟩
abbrev cX5_fault : ByteArray := prog_7_method_69_code
def yX5_fault : MethodName := ⟨RX5, "fault", "()I"⟩
abbrev cX5_dials : ByteArray := prog_7_method_70_code
def yX5_dials : MethodName := ⟨RX5, "dials", "(I)Z"⟩
abbrev cX5_does : ByteArray := prog_7_method_71_code
def yX5_does : MethodName := ⟨RX5, "does", "(I)Z"⟩
abbrev cX5_carryOut : ByteArray := prog_7_method_72_code
def yX5_carryOut : MethodName := ⟨RX5, "carryOut", "()I"⟩
abbrev cX5_save : ByteArray := prog_7_method_73_code
def yX5_save : MethodName := ⟨RX5, "save", "(I)I"⟩
abbrev cX5_restore : ByteArray := prog_7_method_74_code
def yX5_restore : MethodName := ⟨RX5, "restore", "(I)I"⟩
def RL : String := "RotaryExchangeLaw"
abbrev cL_law : ByteArray := code
def yL_law : MethodName := ⟨RL, "law", "([I)Z"⟩
abbrev vwCl : List vw_C := [(RX0, TX0, 16), (RX1, TX1, 10), (RX2, TX2, 9), (RX3, TX3, 2), (RX4, TX4, 4), (RX5, TX5, 10)]
def lw_gd : List Cond := lw_tbl.filter goodWord
theorem gd_in {w : Cond} (h : w ∈ lw_tbl) (hg : goodWord w = true) : w ∈ lw_gd := List.mem_filter.mpr ⟨h, hg⟩
theorem gd_good : ∀ w ∈ lw_gd, goodWord w = true := fun _ h => (List.mem_filter.mp h).2
theorem gd_tbl : ∀ w ∈ lw_gd, w ∈ lw_tbl := fun _ h => (List.mem_filter.mp h).1
set_option maxRecDepth 20000 in
theorem inX0 : ∀ w ∈ wsX00, w ∈ lw_gd := fun w h => gd_in ((by decide +kernel : ∀ w ∈ wsX00, w ∈ lw_tbl) w h) ((by decide +kernel : ∀ w ∈ wsX00, goodWord w = true) w h)
set_option maxRecDepth 20000 in
theorem inX1 : ∀ w ∈ wsX10, w ∈ lw_gd := fun w h => gd_in ((by decide +kernel : ∀ w ∈ wsX10, w ∈ lw_tbl) w h) ((by decide +kernel : ∀ w ∈ wsX10, goodWord w = true) w h)
set_option maxRecDepth 20000 in
theorem inX2 : ∀ w ∈ wsX20, w ∈ lw_gd := fun w h => gd_in ((by decide +kernel : ∀ w ∈ wsX20, w ∈ lw_tbl) w h) ((by decide +kernel : ∀ w ∈ wsX20, goodWord w = true) w h)
set_option maxRecDepth 20000 in
theorem inX3 : ∀ w ∈ wsX30, w ∈ lw_gd := fun w h => gd_in ((by decide +kernel : ∀ w ∈ wsX30, w ∈ lw_tbl) w h) ((by decide +kernel : ∀ w ∈ wsX30, goodWord w = true) w h)
set_option maxRecDepth 20000 in
theorem inX4 : ∀ w ∈ wsX40, w ∈ lw_gd := fun w h => gd_in ((by decide +kernel : ∀ w ∈ wsX40, w ∈ lw_tbl) w h) ((by decide +kernel : ∀ w ∈ wsX40, goodWord w = true) w h)
set_option maxRecDepth 20000 in
theorem inX5 : ∀ w ∈ wsX50, w ∈ lw_gd := fun w h => gd_in ((by decide +kernel : ∀ w ∈ wsX50, w ∈ lw_tbl) w h) ((by decide +kernel : ∀ w ∈ wsX50, goodWord w = true) w h)
end
section
theorem dX0_init_0 : decode cX0_init 0 = .ok (.aload_n 0, 1) := by decide +kernel
theorem dX0_init_1 : decode cX0_init 1 = .ok (.invokespecial 3, 3) := by decide +kernel
theorem dX0_init_4 : decode cX0_init 4 = .ok (.aload_n 0, 1) := by decide +kernel
theorem dX0_init_5 : decode cX0_init 5 = .ok (.bipush 16, 2) := by decide +kernel
theorem dX0_init_7 : decode cX0_init 7 = .ok (.anewarray 9, 3) := by decide +kernel
theorem dX0_init_10 : decode cX0_init 10 = .ok (.putfield 11, 3) := by decide +kernel
theorem dX0_init_13 : decode cX0_init 13 = .ok (.aload_n 0, 1) := by decide +kernel
theorem dX0_init_14 : decode cX0_init 14 = .ok (.iconst 4, 1) := by decide +kernel
theorem dX0_init_15 : decode cX0_init 15 = .ok (.anewarray 17, 3) := by decide +kernel
theorem dX0_init_18 : decode cX0_init 18 = .ok (.putfield 19, 3) := by decide +kernel
theorem dX0_init_21 : decode cX0_init 21 = .ok (.aload_n 0, 1) := by decide +kernel
theorem dX0_init_22 : decode cX0_init 22 = .ok (.new 9, 3) := by decide +kernel
theorem dX0_init_25 : decode cX0_init 25 = .ok (.dup, 1) := by decide +kernel
theorem dX0_init_26 : decode cX0_init 26 = .ok (.invokespecial 23, 3) := by decide +kernel
theorem dX0_init_29 : decode cX0_init 29 = .ok (.putfield 24, 3) := by decide +kernel
theorem dX0_init_32 : decode cX0_init 32 = .ok (.aload_n 0, 1) := by decide +kernel
theorem dX0_init_33 : decode cX0_init 33 = .ok (.new 17, 3) := by decide +kernel
theorem dX0_init_36 : decode cX0_init 36 = .ok (.dup, 1) := by decide +kernel
theorem dX0_init_37 : decode cX0_init 37 = .ok (.invokespecial 28, 3) := by decide +kernel
theorem dX0_init_40 : decode cX0_init 40 = .ok (.putfield 29, 3) := by decide +kernel
theorem dX0_init_43 : decode cX0_init 43 = .ok (.aload_n 0, 1) := by decide +kernel
theorem dX0_init_44 : decode cX0_init 44 = .ok (.getstatic 33, 3) := by decide +kernel
theorem dX0_init_47 : decode cX0_init 47 = .ok (.invokevirtual 37, 3) := by decide +kernel
theorem dX0_init_50 : decode cX0_init 50 = .ok (.checkcast 38, 3) := by decide +kernel
theorem dX0_init_53 : decode cX0_init 53 = .ok (.putfield 42, 3) := by decide +kernel
theorem dX0_init_56 : decode cX0_init 56 = .ok (.aload_n 0, 1) := by decide +kernel
theorem dX0_init_57 : decode cX0_init 57 = .ok (.iconst 2, 1) := by decide +kernel
theorem dX0_init_58 : decode cX0_init 58 = .ok (.putfield 45, 3) := by decide +kernel
theorem dX0_init_61 : decode cX0_init 61 = .ok (.aload_n 0, 1) := by decide +kernel
theorem dX0_init_62 : decode cX0_init 62 = .ok (.iconst 1, 1) := by decide +kernel
theorem dX0_init_63 : decode cX0_init 63 = .ok (.putfield 49, 3) := by decide +kernel
theorem dX0_init_66 : decode cX0_init 66 = .ok (.aload_n 0, 1) := by decide +kernel
theorem dX0_init_67 : decode cX0_init 67 = .ok (.iconst 0, 1) := by decide +kernel
theorem dX0_init_68 : decode cX0_init 68 = .ok (.putfield 52, 3) := by decide +kernel
theorem dX0_init_71 : decode cX0_init 71 = .ok (.aload_n 0, 1) := by decide +kernel
theorem dX0_init_72 : decode cX0_init 72 = .ok (.iconst (-1), 1) := by decide +kernel
theorem dX0_init_73 : decode cX0_init 73 = .ok (.putfield 55, 3) := by decide +kernel
theorem dX0_init_76 : decode cX0_init 76 = .ok (.aload_n 0, 1) := by decide +kernel
theorem dX0_init_77 : decode cX0_init 77 = .ok (.iconst 0, 1) := by decide +kernel
theorem dX0_init_78 : decode cX0_init 78 = .ok (.putfield 58, 3) := by decide +kernel
theorem dX0_init_81 : decode cX0_init 81 = .ok (.aload_n 0, 1) := by decide +kernel
theorem dX0_init_82 : decode cX0_init 82 = .ok (.iconst 0, 1) := by decide +kernel
theorem dX0_init_83 : decode cX0_init 83 = .ok (.putfield 61, 3) := by decide +kernel
theorem dX0_init_86 : decode cX0_init 86 = .ok (.aload_n 0, 1) := by decide +kernel
theorem dX0_init_87 : decode cX0_init 87 = .ok (.iconst 0, 1) := by decide +kernel
theorem dX0_init_88 : decode cX0_init 88 = .ok (.putfield 64, 3) := by decide +kernel
theorem dX0_init_91 : decode cX0_init 91 = .ok (.aload_n 0, 1) := by decide +kernel
theorem dX0_init_92 : decode cX0_init 92 = .ok (.iconst 0, 1) := by decide +kernel
theorem dX0_init_93 : decode cX0_init 93 = .ok (.putfield 67, 3) := by decide +kernel
theorem dX0_init_96 : decode cX0_init 96 = .ok (.aload_n 0, 1) := by decide +kernel
theorem dX0_init_97 : decode cX0_init 97 = .ok (.iconst 0, 1) := by decide +kernel
theorem dX0_init_98 : decode cX0_init 98 = .ok (.putfield 70, 3) := by decide +kernel
theorem dX0_init_101 : decode cX0_init 101 = .ok (.aload_n 0, 1) := by decide +kernel
theorem dX0_init_102 : decode cX0_init 102 = .ok (.iconst 0, 1) := by decide +kernel
theorem dX0_init_103 : decode cX0_init 103 = .ok (.putfield 73, 3) := by decide +kernel
theorem dX0_init_106 : decode cX0_init 106 = .ok (.aload_n 0, 1) := by decide +kernel
theorem dX0_init_107 : decode cX0_init 107 = .ok (.iconst 0, 1) := by decide +kernel
theorem dX0_init_108 : decode cX0_init 108 = .ok (.putfield 76, 3) := by decide +kernel
theorem dX0_init_111 : decode cX0_init 111 = .ok (.iconst 0, 1) := by decide +kernel
theorem dX0_init_112 : decode cX0_init 112 = .ok (.istore_n 1, 1) := by decide +kernel
theorem dX0_init_113 : decode cX0_init 113 = .ok (.iload_n 1, 1) := by decide +kernel
theorem dX0_init_114 : decode cX0_init 114 = .ok (.aload_n 0, 1) := by decide +kernel
theorem dX0_init_115 : decode cX0_init 115 = .ok (.getfield 11, 3) := by decide +kernel
theorem dX0_init_118 : decode cX0_init 118 = .ok (.arraylength, 1) := by decide +kernel
theorem dX0_init_119 : decode cX0_init 119 = .ok (.if_icmp .ge 22, 3) := by decide +kernel
theorem dX0_init_122 : decode cX0_init 122 = .ok (.aload_n 0, 1) := by decide +kernel
theorem dX0_init_123 : decode cX0_init 123 = .ok (.getfield 11, 3) := by decide +kernel
theorem dX0_init_126 : decode cX0_init 126 = .ok (.iload_n 1, 1) := by decide +kernel
theorem dX0_init_127 : decode cX0_init 127 = .ok (.new 9, 3) := by decide +kernel
theorem dX0_init_130 : decode cX0_init 130 = .ok (.dup, 1) := by decide +kernel
theorem dX0_init_131 : decode cX0_init 131 = .ok (.invokespecial 23, 3) := by decide +kernel
theorem dX0_init_134 : decode cX0_init 134 = .ok (.aastore, 1) := by decide +kernel
theorem dX0_init_135 : decode cX0_init 135 = .ok (.iinc 1 1, 3) := by decide +kernel
theorem dX0_init_138 : decode cX0_init 138 = .ok (.goto (-25), 3) := by decide +kernel
theorem dX0_init_141 : decode cX0_init 141 = .ok (.iconst 0, 1) := by decide +kernel
theorem dX0_init_142 : decode cX0_init 142 = .ok (.istore_n 1, 1) := by decide +kernel
theorem dX0_init_143 : decode cX0_init 143 = .ok (.iload_n 1, 1) := by decide +kernel
theorem dX0_init_144 : decode cX0_init 144 = .ok (.aload_n 0, 1) := by decide +kernel
theorem dX0_init_145 : decode cX0_init 145 = .ok (.getfield 19, 3) := by decide +kernel
theorem dX0_init_148 : decode cX0_init 148 = .ok (.arraylength, 1) := by decide +kernel
theorem dX0_init_149 : decode cX0_init 149 = .ok (.if_icmp .ge 22, 3) := by decide +kernel
theorem dX0_init_152 : decode cX0_init 152 = .ok (.aload_n 0, 1) := by decide +kernel
theorem dX0_init_153 : decode cX0_init 153 = .ok (.getfield 19, 3) := by decide +kernel
theorem dX0_init_156 : decode cX0_init 156 = .ok (.iload_n 1, 1) := by decide +kernel
theorem dX0_init_157 : decode cX0_init 157 = .ok (.new 17, 3) := by decide +kernel
theorem dX0_init_160 : decode cX0_init 160 = .ok (.dup, 1) := by decide +kernel
theorem dX0_init_161 : decode cX0_init 161 = .ok (.invokespecial 28, 3) := by decide +kernel
theorem dX0_init_164 : decode cX0_init 164 = .ok (.aastore, 1) := by decide +kernel
theorem dX0_init_165 : decode cX0_init 165 = .ok (.iinc 1 1, 3) := by decide +kernel
theorem dX0_init_168 : decode cX0_init 168 = .ok (.goto (-25), 3) := by decide +kernel
theorem dX0_init_171 : decode cX0_init 171 = .ok (.return_, 1) := by decide +kernel
theorem dX0_lineAt_0 : decode cX0_lineAt 0 = .ok (.iload_n 1, 1) := by decide +kernel
theorem dX0_lineAt_1 : decode cX0_lineAt 1 = .ok (.ifCond .lt 21, 3) := by decide +kernel
theorem dX0_lineAt_4 : decode cX0_lineAt 4 = .ok (.iload_n 1, 1) := by decide +kernel
theorem dX0_lineAt_5 : decode cX0_lineAt 5 = .ok (.aload_n 0, 1) := by decide +kernel
theorem dX0_lineAt_6 : decode cX0_lineAt 6 = .ok (.getfield 11, 3) := by decide +kernel
theorem dX0_lineAt_9 : decode cX0_lineAt 9 = .ok (.arraylength, 1) := by decide +kernel
theorem dX0_lineAt_10 : decode cX0_lineAt 10 = .ok (.if_icmp .ge 12, 3) := by decide +kernel
theorem dX0_lineAt_13 : decode cX0_lineAt 13 = .ok (.aload_n 0, 1) := by decide +kernel
theorem dX0_lineAt_14 : decode cX0_lineAt 14 = .ok (.getfield 11, 3) := by decide +kernel
theorem dX0_lineAt_17 : decode cX0_lineAt 17 = .ok (.iload_n 1, 1) := by decide +kernel
theorem dX0_lineAt_18 : decode cX0_lineAt 18 = .ok (.aaload, 1) := by decide +kernel
theorem dX0_lineAt_19 : decode cX0_lineAt 19 = .ok (.ifnonnull 8, 3) := by decide +kernel
theorem dX0_lineAt_22 : decode cX0_lineAt 22 = .ok (.aload_n 0, 1) := by decide +kernel
theorem dX0_lineAt_23 : decode cX0_lineAt 23 = .ok (.getfield 24, 3) := by decide +kernel
theorem dX0_lineAt_26 : decode cX0_lineAt 26 = .ok (.areturn, 1) := by decide +kernel
theorem dX0_lineAt_27 : decode cX0_lineAt 27 = .ok (.aload_n 0, 1) := by decide +kernel
theorem dX0_lineAt_28 : decode cX0_lineAt 28 = .ok (.getfield 11, 3) := by decide +kernel
theorem dX0_lineAt_31 : decode cX0_lineAt 31 = .ok (.iload_n 1, 1) := by decide +kernel
theorem dX0_lineAt_32 : decode cX0_lineAt 32 = .ok (.aaload, 1) := by decide +kernel
theorem dX0_lineAt_33 : decode cX0_lineAt 33 = .ok (.areturn, 1) := by decide +kernel
theorem dX0_finderAt_0 : decode cX0_finderAt 0 = .ok (.iload_n 1, 1) := by decide +kernel
theorem dX0_finderAt_1 : decode cX0_finderAt 1 = .ok (.ifCond .lt 21, 3) := by decide +kernel
theorem dX0_finderAt_4 : decode cX0_finderAt 4 = .ok (.iload_n 1, 1) := by decide +kernel
theorem dX0_finderAt_5 : decode cX0_finderAt 5 = .ok (.aload_n 0, 1) := by decide +kernel
theorem dX0_finderAt_6 : decode cX0_finderAt 6 = .ok (.getfield 19, 3) := by decide +kernel
theorem dX0_finderAt_9 : decode cX0_finderAt 9 = .ok (.arraylength, 1) := by decide +kernel
theorem dX0_finderAt_10 : decode cX0_finderAt 10 = .ok (.if_icmp .ge 12, 3) := by decide +kernel
theorem dX0_finderAt_13 : decode cX0_finderAt 13 = .ok (.aload_n 0, 1) := by decide +kernel
theorem dX0_finderAt_14 : decode cX0_finderAt 14 = .ok (.getfield 19, 3) := by decide +kernel
theorem dX0_finderAt_17 : decode cX0_finderAt 17 = .ok (.iload_n 1, 1) := by decide +kernel
theorem dX0_finderAt_18 : decode cX0_finderAt 18 = .ok (.aaload, 1) := by decide +kernel
theorem dX0_finderAt_19 : decode cX0_finderAt 19 = .ok (.ifnonnull 8, 3) := by decide +kernel
theorem dX0_finderAt_22 : decode cX0_finderAt 22 = .ok (.aload_n 0, 1) := by decide +kernel
theorem dX0_finderAt_23 : decode cX0_finderAt 23 = .ok (.getfield 29, 3) := by decide +kernel
theorem dX0_finderAt_26 : decode cX0_finderAt 26 = .ok (.areturn, 1) := by decide +kernel
theorem dX0_finderAt_27 : decode cX0_finderAt 27 = .ok (.aload_n 0, 1) := by decide +kernel
theorem dX0_finderAt_28 : decode cX0_finderAt 28 = .ok (.getfield 19, 3) := by decide +kernel
theorem dX0_finderAt_31 : decode cX0_finderAt 31 = .ok (.iload_n 1, 1) := by decide +kernel
theorem dX0_finderAt_32 : decode cX0_finderAt 32 = .ok (.aaload, 1) := by decide +kernel
theorem dX0_finderAt_33 : decode cX0_finderAt 33 = .ok (.areturn, 1) := by decide +kernel
theorem dX0_settingAt_0 : decode cX0_settingAt 0 = .ok (.iload_n 1, 1) := by decide +kernel
theorem dX0_settingAt_1 : decode cX0_settingAt 1 = .ok (.ifCond .lt 21, 3) := by decide +kernel
theorem dX0_settingAt_4 : decode cX0_settingAt 4 = .ok (.iload_n 1, 1) := by decide +kernel
theorem dX0_settingAt_5 : decode cX0_settingAt 5 = .ok (.aload_n 0, 1) := by decide +kernel
theorem dX0_settingAt_6 : decode cX0_settingAt 6 = .ok (.getfield 42, 3) := by decide +kernel
theorem dX0_settingAt_9 : decode cX0_settingAt 9 = .ok (.arraylength, 1) := by decide +kernel
theorem dX0_settingAt_10 : decode cX0_settingAt 10 = .ok (.if_icmp .ge 12, 3) := by decide +kernel
theorem dX0_settingAt_13 : decode cX0_settingAt 13 = .ok (.aload_n 0, 1) := by decide +kernel
theorem dX0_settingAt_14 : decode cX0_settingAt 14 = .ok (.getfield 42, 3) := by decide +kernel
theorem dX0_settingAt_17 : decode cX0_settingAt 17 = .ok (.iload_n 1, 1) := by decide +kernel
theorem dX0_settingAt_18 : decode cX0_settingAt 18 = .ok (.iaload, 1) := by decide +kernel
theorem dX0_settingAt_19 : decode cX0_settingAt 19 = .ok (.goto 5, 3) := by decide +kernel
theorem dX0_settingAt_22 : decode cX0_settingAt 22 = .ok (.bipush (-2), 2) := by decide +kernel
theorem dX0_settingAt_24 : decode cX0_settingAt 24 = .ok (.ireturn, 1) := by decide +kernel
theorem dX0_changeSetting_0 : decode cX0_changeSetting 0 = .ok (.aload_n 0, 1) := by decide +kernel
theorem dX0_changeSetting_1 : decode cX0_changeSetting 1 = .ok (.iload_n 1, 1) := by decide +kernel
theorem dX0_changeSetting_2 : decode cX0_changeSetting 2 = .ok (.invokevirtual 79, 3) := by decide +kernel
theorem dX0_changeSetting_5 : decode cX0_changeSetting 5 = .ok (.istore_n 3, 1) := by decide +kernel
theorem dX0_changeSetting_6 : decode cX0_changeSetting 6 = .ok (.iload_n 1, 1) := by decide +kernel
theorem dX0_changeSetting_7 : decode cX0_changeSetting 7 = .ok (.ifCond .lt 19, 3) := by decide +kernel
theorem dX0_changeSetting_10 : decode cX0_changeSetting 10 = .ok (.iload_n 1, 1) := by decide +kernel
theorem dX0_changeSetting_11 : decode cX0_changeSetting 11 = .ok (.aload_n 0, 1) := by decide +kernel
theorem dX0_changeSetting_12 : decode cX0_changeSetting 12 = .ok (.getfield 42, 3) := by decide +kernel
theorem dX0_changeSetting_15 : decode cX0_changeSetting 15 = .ok (.arraylength, 1) := by decide +kernel
theorem dX0_changeSetting_16 : decode cX0_changeSetting 16 = .ok (.if_icmp .ge 10, 3) := by decide +kernel
theorem dX0_changeSetting_19 : decode cX0_changeSetting 19 = .ok (.aload_n 0, 1) := by decide +kernel
theorem dX0_changeSetting_20 : decode cX0_changeSetting 20 = .ok (.getfield 42, 3) := by decide +kernel
theorem dX0_changeSetting_23 : decode cX0_changeSetting 23 = .ok (.iload_n 1, 1) := by decide +kernel
theorem dX0_changeSetting_24 : decode cX0_changeSetting 24 = .ok (.iload_n 2, 1) := by decide +kernel
theorem dX0_changeSetting_25 : decode cX0_changeSetting 25 = .ok (.iastore, 1) := by decide +kernel
theorem dX0_changeSetting_26 : decode cX0_changeSetting 26 = .ok (.iload_n 3, 1) := by decide +kernel
theorem dX0_changeSetting_27 : decode cX0_changeSetting 27 = .ok (.ireturn, 1) := by decide +kernel
theorem dX0_renew_0 : decode cX0_renew 0 = .ok (.iconst 0, 1) := by decide +kernel
theorem dX0_renew_1 : decode cX0_renew 1 = .ok (.istore_n 3, 1) := by decide +kernel
theorem dX0_renew_2 : decode cX0_renew 2 = .ok (.iload_n 3, 1) := by decide +kernel
theorem dX0_renew_3 : decode cX0_renew 3 = .ok (.bipush 16, 2) := by decide +kernel
theorem dX0_renew_5 : decode cX0_renew 5 = .ok (.if_icmp .ge 17, 3) := by decide +kernel
theorem dX0_renew_8 : decode cX0_renew 8 = .ok (.aload_n 0, 1) := by decide +kernel
theorem dX0_renew_9 : decode cX0_renew 9 = .ok (.iload_n 3, 1) := by decide +kernel
theorem dX0_renew_10 : decode cX0_renew 10 = .ok (.invokevirtual 83, 3) := by decide +kernel
theorem dX0_renew_13 : decode cX0_renew 13 = .ok (.invokevirtual 87, 3) := by decide +kernel
theorem dX0_renew_16 : decode cX0_renew 16 = .ok (.iinc 3 1, 3) := by decide +kernel
theorem dX0_renew_19 : decode cX0_renew 19 = .ok (.goto (-17), 3) := by decide +kernel
theorem dX0_renew_22 : decode cX0_renew 22 = .ok (.iconst 0, 1) := by decide +kernel
theorem dX0_renew_23 : decode cX0_renew 23 = .ok (.istore_n 3, 1) := by decide +kernel
theorem dX0_renew_24 : decode cX0_renew 24 = .ok (.iload_n 3, 1) := by decide +kernel
theorem dX0_renew_25 : decode cX0_renew 25 = .ok (.iconst 4, 1) := by decide +kernel
theorem dX0_renew_26 : decode cX0_renew 26 = .ok (.if_icmp .ge 17, 3) := by decide +kernel
theorem dX0_renew_29 : decode cX0_renew 29 = .ok (.aload_n 0, 1) := by decide +kernel
theorem dX0_renew_30 : decode cX0_renew 30 = .ok (.iload_n 3, 1) := by decide +kernel
theorem dX0_renew_31 : decode cX0_renew 31 = .ok (.invokevirtual 90, 3) := by decide +kernel
theorem dX0_renew_34 : decode cX0_renew 34 = .ok (.invokevirtual 94, 3) := by decide +kernel
theorem dX0_renew_37 : decode cX0_renew 37 = .ok (.iinc 3 1, 3) := by decide +kernel
theorem dX0_renew_40 : decode cX0_renew 40 = .ok (.goto (-16), 3) := by decide +kernel
theorem dX0_renew_43 : decode cX0_renew 43 = .ok (.aload_n 0, 1) := by decide +kernel
theorem dX0_renew_44 : decode cX0_renew 44 = .ok (.iload_n 1, 1) := by decide +kernel
theorem dX0_renew_45 : decode cX0_renew 45 = .ok (.putfield 45, 3) := by decide +kernel
theorem dX0_renew_48 : decode cX0_renew 48 = .ok (.aload_n 0, 1) := by decide +kernel
theorem dX0_renew_49 : decode cX0_renew 49 = .ok (.iload_n 2, 1) := by decide +kernel
theorem dX0_renew_50 : decode cX0_renew 50 = .ok (.putfield 49, 3) := by decide +kernel
theorem dX0_renew_53 : decode cX0_renew 53 = .ok (.aload_n 0, 1) := by decide +kernel
theorem dX0_renew_54 : decode cX0_renew 54 = .ok (.iconst 0, 1) := by decide +kernel
theorem dX0_renew_55 : decode cX0_renew 55 = .ok (.putfield 52, 3) := by decide +kernel
theorem dX0_renew_58 : decode cX0_renew 58 = .ok (.aload_n 0, 1) := by decide +kernel
theorem dX0_renew_59 : decode cX0_renew 59 = .ok (.iconst (-1), 1) := by decide +kernel
theorem dX0_renew_60 : decode cX0_renew 60 = .ok (.putfield 55, 3) := by decide +kernel
theorem dX0_renew_63 : decode cX0_renew 63 = .ok (.aload_n 0, 1) := by decide +kernel
theorem dX0_renew_64 : decode cX0_renew 64 = .ok (.iconst 0, 1) := by decide +kernel
theorem dX0_renew_65 : decode cX0_renew 65 = .ok (.putfield 58, 3) := by decide +kernel
theorem dX0_renew_68 : decode cX0_renew 68 = .ok (.aload_n 0, 1) := by decide +kernel
theorem dX0_renew_69 : decode cX0_renew 69 = .ok (.iconst 0, 1) := by decide +kernel
theorem dX0_renew_70 : decode cX0_renew 70 = .ok (.putfield 61, 3) := by decide +kernel
theorem dX0_renew_73 : decode cX0_renew 73 = .ok (.aload_n 0, 1) := by decide +kernel
theorem dX0_renew_74 : decode cX0_renew 74 = .ok (.iconst 0, 1) := by decide +kernel
theorem dX0_renew_75 : decode cX0_renew 75 = .ok (.putfield 64, 3) := by decide +kernel
theorem dX0_renew_78 : decode cX0_renew 78 = .ok (.aload_n 0, 1) := by decide +kernel
theorem dX0_renew_79 : decode cX0_renew 79 = .ok (.iconst 0, 1) := by decide +kernel
theorem dX0_renew_80 : decode cX0_renew 80 = .ok (.putfield 67, 3) := by decide +kernel
theorem dX0_renew_83 : decode cX0_renew 83 = .ok (.aload_n 0, 1) := by decide +kernel
theorem dX0_renew_84 : decode cX0_renew 84 = .ok (.iconst 0, 1) := by decide +kernel
theorem dX0_renew_85 : decode cX0_renew 85 = .ok (.putfield 70, 3) := by decide +kernel
theorem dX0_renew_88 : decode cX0_renew 88 = .ok (.aload_n 0, 1) := by decide +kernel
theorem dX0_renew_89 : decode cX0_renew 89 = .ok (.iconst 0, 1) := by decide +kernel
theorem dX0_renew_90 : decode cX0_renew 90 = .ok (.putfield 73, 3) := by decide +kernel
theorem dX0_renew_93 : decode cX0_renew 93 = .ok (.aload_n 0, 1) := by decide +kernel
theorem dX0_renew_94 : decode cX0_renew 94 = .ok (.iconst 0, 1) := by decide +kernel
theorem dX0_renew_95 : decode cX0_renew 95 = .ok (.putfield 76, 3) := by decide +kernel
theorem dX0_renew_98 : decode cX0_renew 98 = .ok (.return_, 1) := by decide +kernel
theorem dX0_copyFrom_0 : decode cX0_copyFrom 0 = .ok (.iconst 0, 1) := by decide +kernel
theorem dX0_copyFrom_1 : decode cX0_copyFrom 1 = .ok (.istore_n 2, 1) := by decide +kernel
theorem dX0_copyFrom_2 : decode cX0_copyFrom 2 = .ok (.iload_n 2, 1) := by decide +kernel
theorem dX0_copyFrom_3 : decode cX0_copyFrom 3 = .ok (.bipush 16, 2) := by decide +kernel
theorem dX0_copyFrom_5 : decode cX0_copyFrom 5 = .ok (.if_icmp .ge 22, 3) := by decide +kernel
theorem dX0_copyFrom_8 : decode cX0_copyFrom 8 = .ok (.aload_n 0, 1) := by decide +kernel
theorem dX0_copyFrom_9 : decode cX0_copyFrom 9 = .ok (.iload_n 2, 1) := by decide +kernel
theorem dX0_copyFrom_10 : decode cX0_copyFrom 10 = .ok (.invokevirtual 83, 3) := by decide +kernel
theorem dX0_copyFrom_13 : decode cX0_copyFrom 13 = .ok (.aload_n 1, 1) := by decide +kernel
theorem dX0_copyFrom_14 : decode cX0_copyFrom 14 = .ok (.iload_n 2, 1) := by decide +kernel
theorem dX0_copyFrom_15 : decode cX0_copyFrom 15 = .ok (.invokevirtual 83, 3) := by decide +kernel
theorem dX0_copyFrom_18 : decode cX0_copyFrom 18 = .ok (.invokevirtual 95, 3) := by decide +kernel
theorem dX0_copyFrom_21 : decode cX0_copyFrom 21 = .ok (.iinc 2 1, 3) := by decide +kernel
theorem dX0_copyFrom_24 : decode cX0_copyFrom 24 = .ok (.goto (-22), 3) := by decide +kernel
theorem dX0_copyFrom_27 : decode cX0_copyFrom 27 = .ok (.iconst 0, 1) := by decide +kernel
theorem dX0_copyFrom_28 : decode cX0_copyFrom 28 = .ok (.istore_n 2, 1) := by decide +kernel
theorem dX0_copyFrom_29 : decode cX0_copyFrom 29 = .ok (.iload_n 2, 1) := by decide +kernel
theorem dX0_copyFrom_30 : decode cX0_copyFrom 30 = .ok (.iconst 4, 1) := by decide +kernel
theorem dX0_copyFrom_31 : decode cX0_copyFrom 31 = .ok (.if_icmp .ge 22, 3) := by decide +kernel
theorem dX0_copyFrom_34 : decode cX0_copyFrom 34 = .ok (.aload_n 0, 1) := by decide +kernel
theorem dX0_copyFrom_35 : decode cX0_copyFrom 35 = .ok (.iload_n 2, 1) := by decide +kernel
theorem dX0_copyFrom_36 : decode cX0_copyFrom 36 = .ok (.invokevirtual 90, 3) := by decide +kernel
theorem dX0_copyFrom_39 : decode cX0_copyFrom 39 = .ok (.aload_n 1, 1) := by decide +kernel
theorem dX0_copyFrom_40 : decode cX0_copyFrom 40 = .ok (.iload_n 2, 1) := by decide +kernel
theorem dX0_copyFrom_41 : decode cX0_copyFrom 41 = .ok (.invokevirtual 90, 3) := by decide +kernel
theorem dX0_copyFrom_44 : decode cX0_copyFrom 44 = .ok (.invokevirtual 99, 3) := by decide +kernel
theorem dX0_copyFrom_47 : decode cX0_copyFrom 47 = .ok (.iinc 2 1, 3) := by decide +kernel
theorem dX0_copyFrom_50 : decode cX0_copyFrom 50 = .ok (.goto (-21), 3) := by decide +kernel
theorem dX0_copyFrom_53 : decode cX0_copyFrom 53 = .ok (.iconst 0, 1) := by decide +kernel
theorem dX0_copyFrom_54 : decode cX0_copyFrom 54 = .ok (.istore_n 2, 1) := by decide +kernel
theorem dX0_copyFrom_55 : decode cX0_copyFrom 55 = .ok (.iload_n 2, 1) := by decide +kernel
theorem dX0_copyFrom_56 : decode cX0_copyFrom 56 = .ok (.aload_n 0, 1) := by decide +kernel
theorem dX0_copyFrom_57 : decode cX0_copyFrom 57 = .ok (.getfield 42, 3) := by decide +kernel
theorem dX0_copyFrom_60 : decode cX0_copyFrom 60 = .ok (.arraylength, 1) := by decide +kernel
theorem dX0_copyFrom_61 : decode cX0_copyFrom 61 = .ok (.if_icmp .ge 20, 3) := by decide +kernel
theorem dX0_copyFrom_64 : decode cX0_copyFrom 64 = .ok (.aload_n 0, 1) := by decide +kernel
theorem dX0_copyFrom_65 : decode cX0_copyFrom 65 = .ok (.getfield 42, 3) := by decide +kernel
theorem dX0_copyFrom_68 : decode cX0_copyFrom 68 = .ok (.iload_n 2, 1) := by decide +kernel
theorem dX0_copyFrom_69 : decode cX0_copyFrom 69 = .ok (.aload_n 1, 1) := by decide +kernel
theorem dX0_copyFrom_70 : decode cX0_copyFrom 70 = .ok (.iload_n 2, 1) := by decide +kernel
theorem dX0_copyFrom_71 : decode cX0_copyFrom 71 = .ok (.invokevirtual 79, 3) := by decide +kernel
theorem dX0_copyFrom_74 : decode cX0_copyFrom 74 = .ok (.iastore, 1) := by decide +kernel
theorem dX0_copyFrom_75 : decode cX0_copyFrom 75 = .ok (.iinc 2 1, 3) := by decide +kernel
theorem dX0_copyFrom_78 : decode cX0_copyFrom 78 = .ok (.goto (-23), 3) := by decide +kernel
theorem dX0_copyFrom_81 : decode cX0_copyFrom 81 = .ok (.aload_n 0, 1) := by decide +kernel
theorem dX0_copyFrom_82 : decode cX0_copyFrom 82 = .ok (.aload_n 1, 1) := by decide +kernel
theorem dX0_copyFrom_83 : decode cX0_copyFrom 83 = .ok (.getfield 45, 3) := by decide +kernel
theorem dX0_copyFrom_86 : decode cX0_copyFrom 86 = .ok (.putfield 45, 3) := by decide +kernel
theorem dX0_copyFrom_89 : decode cX0_copyFrom 89 = .ok (.aload_n 0, 1) := by decide +kernel
theorem dX0_copyFrom_90 : decode cX0_copyFrom 90 = .ok (.aload_n 1, 1) := by decide +kernel
theorem dX0_copyFrom_91 : decode cX0_copyFrom 91 = .ok (.getfield 49, 3) := by decide +kernel
theorem dX0_copyFrom_94 : decode cX0_copyFrom 94 = .ok (.putfield 49, 3) := by decide +kernel
theorem dX0_copyFrom_97 : decode cX0_copyFrom 97 = .ok (.aload_n 0, 1) := by decide +kernel
theorem dX0_copyFrom_98 : decode cX0_copyFrom 98 = .ok (.aload_n 1, 1) := by decide +kernel
theorem dX0_copyFrom_99 : decode cX0_copyFrom 99 = .ok (.getfield 52, 3) := by decide +kernel
theorem dX0_copyFrom_102 : decode cX0_copyFrom 102 = .ok (.putfield 52, 3) := by decide +kernel
theorem dX0_copyFrom_105 : decode cX0_copyFrom 105 = .ok (.aload_n 0, 1) := by decide +kernel
theorem dX0_copyFrom_106 : decode cX0_copyFrom 106 = .ok (.aload_n 1, 1) := by decide +kernel
theorem dX0_copyFrom_107 : decode cX0_copyFrom 107 = .ok (.getfield 55, 3) := by decide +kernel
theorem dX0_copyFrom_110 : decode cX0_copyFrom 110 = .ok (.putfield 55, 3) := by decide +kernel
theorem dX0_copyFrom_113 : decode cX0_copyFrom 113 = .ok (.aload_n 0, 1) := by decide +kernel
theorem dX0_copyFrom_114 : decode cX0_copyFrom 114 = .ok (.aload_n 1, 1) := by decide +kernel
theorem dX0_copyFrom_115 : decode cX0_copyFrom 115 = .ok (.getfield 58, 3) := by decide +kernel
theorem dX0_copyFrom_118 : decode cX0_copyFrom 118 = .ok (.putfield 58, 3) := by decide +kernel
theorem dX0_copyFrom_121 : decode cX0_copyFrom 121 = .ok (.aload_n 0, 1) := by decide +kernel
theorem dX0_copyFrom_122 : decode cX0_copyFrom 122 = .ok (.aload_n 1, 1) := by decide +kernel
theorem dX0_copyFrom_123 : decode cX0_copyFrom 123 = .ok (.getfield 61, 3) := by decide +kernel
theorem dX0_copyFrom_126 : decode cX0_copyFrom 126 = .ok (.putfield 61, 3) := by decide +kernel
theorem dX0_copyFrom_129 : decode cX0_copyFrom 129 = .ok (.aload_n 0, 1) := by decide +kernel
theorem dX0_copyFrom_130 : decode cX0_copyFrom 130 = .ok (.aload_n 1, 1) := by decide +kernel
theorem dX0_copyFrom_131 : decode cX0_copyFrom 131 = .ok (.getfield 64, 3) := by decide +kernel
theorem dX0_copyFrom_134 : decode cX0_copyFrom 134 = .ok (.putfield 64, 3) := by decide +kernel
theorem dX0_copyFrom_137 : decode cX0_copyFrom 137 = .ok (.aload_n 0, 1) := by decide +kernel
theorem dX0_copyFrom_138 : decode cX0_copyFrom 138 = .ok (.aload_n 1, 1) := by decide +kernel
theorem dX0_copyFrom_139 : decode cX0_copyFrom 139 = .ok (.getfield 67, 3) := by decide +kernel
theorem dX0_copyFrom_142 : decode cX0_copyFrom 142 = .ok (.putfield 67, 3) := by decide +kernel
theorem dX0_copyFrom_145 : decode cX0_copyFrom 145 = .ok (.aload_n 0, 1) := by decide +kernel
theorem dX0_copyFrom_146 : decode cX0_copyFrom 146 = .ok (.aload_n 1, 1) := by decide +kernel
theorem dX0_copyFrom_147 : decode cX0_copyFrom 147 = .ok (.getfield 70, 3) := by decide +kernel
theorem dX0_copyFrom_150 : decode cX0_copyFrom 150 = .ok (.putfield 70, 3) := by decide +kernel
theorem dX0_copyFrom_153 : decode cX0_copyFrom 153 = .ok (.aload_n 0, 1) := by decide +kernel
theorem dX0_copyFrom_154 : decode cX0_copyFrom 154 = .ok (.aload_n 1, 1) := by decide +kernel
theorem dX0_copyFrom_155 : decode cX0_copyFrom 155 = .ok (.getfield 73, 3) := by decide +kernel
theorem dX0_copyFrom_158 : decode cX0_copyFrom 158 = .ok (.putfield 73, 3) := by decide +kernel
theorem dX0_copyFrom_161 : decode cX0_copyFrom 161 = .ok (.aload_n 0, 1) := by decide +kernel
theorem dX0_copyFrom_162 : decode cX0_copyFrom 162 = .ok (.aload_n 1, 1) := by decide +kernel
theorem dX0_copyFrom_163 : decode cX0_copyFrom 163 = .ok (.getfield 76, 3) := by decide +kernel
theorem dX0_copyFrom_166 : decode cX0_copyFrom 166 = .ok (.putfield 76, 3) := by decide +kernel
theorem dX0_copyFrom_169 : decode cX0_copyFrom 169 = .ok (.return_, 1) := by decide +kernel
theorem dX0_liftLine_0 : decode cX0_liftLine 0 = .ok (.aload_n 0, 1) := by decide +kernel
theorem dX0_liftLine_1 : decode cX0_liftLine 1 = .ok (.iload_n 1, 1) := by decide +kernel
theorem dX0_liftLine_2 : decode cX0_liftLine 2 = .ok (.invokevirtual 83, 3) := by decide +kernel
theorem dX0_liftLine_5 : decode cX0_liftLine 5 = .ok (.astore_n 2, 1) := by decide +kernel
theorem dX0_liftLine_6 : decode cX0_liftLine 6 = .ok (.aload_n 2, 1) := by decide +kernel
theorem dX0_liftLine_7 : decode cX0_liftLine 7 = .ok (.getfield 102, 3) := by decide +kernel
theorem dX0_liftLine_10 : decode cX0_liftLine 10 = .ok (.ifCond .eq 6, 3) := by decide +kernel
theorem dX0_liftLine_13 : decode cX0_liftLine 13 = .ok (.bipush (-5), 2) := by decide +kernel
theorem dX0_liftLine_15 : decode cX0_liftLine 15 = .ok (.ireturn, 1) := by decide +kernel
theorem dX0_liftLine_16 : decode cX0_liftLine 16 = .ok (.aload_n 2, 1) := by decide +kernel
theorem dX0_liftLine_17 : decode cX0_liftLine 17 = .ok (.iconst 1, 1) := by decide +kernel
theorem dX0_liftLine_18 : decode cX0_liftLine 18 = .ok (.putfield 102, 3) := by decide +kernel
theorem dX0_liftLine_21 : decode cX0_liftLine 21 = .ok (.aload_n 2, 1) := by decide +kernel
theorem dX0_liftLine_22 : decode cX0_liftLine 22 = .ok (.getfield 106, 3) := by decide +kernel
theorem dX0_liftLine_25 : decode cX0_liftLine 25 = .ok (.ifCond .ne 31, 3) := by decide +kernel
theorem dX0_liftLine_28 : decode cX0_liftLine 28 = .ok (.aload_n 2, 1) := by decide +kernel
theorem dX0_liftLine_29 : decode cX0_liftLine 29 = .ok (.iconst 1, 1) := by decide +kernel
theorem dX0_liftLine_30 : decode cX0_liftLine 30 = .ok (.putfield 106, 3) := by decide +kernel
theorem dX0_liftLine_33 : decode cX0_liftLine 33 = .ok (.aload_n 2, 1) := by decide +kernel
theorem dX0_liftLine_34 : decode cX0_liftLine 34 = .ok (.iconst 0, 1) := by decide +kernel
theorem dX0_liftLine_35 : decode cX0_liftLine 35 = .ok (.putfield 109, 3) := by decide +kernel
theorem dX0_liftLine_38 : decode cX0_liftLine 38 = .ok (.aload_n 0, 1) := by decide +kernel
theorem dX0_liftLine_39 : decode cX0_liftLine 39 = .ok (.dup, 1) := by decide +kernel
theorem dX0_liftLine_40 : decode cX0_liftLine 40 = .ok (.getfield 58, 3) := by decide +kernel
theorem dX0_liftLine_43 : decode cX0_liftLine 43 = .ok (.iconst 1, 1) := by decide +kernel
theorem dX0_liftLine_44 : decode cX0_liftLine 44 = .ok (.iadd, 1) := by decide +kernel
theorem dX0_liftLine_45 : decode cX0_liftLine 45 = .ok (.putfield 58, 3) := by decide +kernel
theorem dX0_liftLine_48 : decode cX0_liftLine 48 = .ok (.aload_n 2, 1) := by decide +kernel
theorem dX0_liftLine_49 : decode cX0_liftLine 49 = .ok (.aload_n 0, 1) := by decide +kernel
theorem dX0_liftLine_50 : decode cX0_liftLine 50 = .ok (.getfield 58, 3) := by decide +kernel
theorem dX0_liftLine_53 : decode cX0_liftLine 53 = .ok (.putfield 112, 3) := by decide +kernel
theorem dX0_liftLine_56 : decode cX0_liftLine 56 = .ok (.aload_n 2, 1) := by decide +kernel
theorem dX0_liftLine_57 : decode cX0_liftLine 57 = .ok (.getfield 106, 3) := by decide +kernel
theorem dX0_liftLine_60 : decode cX0_liftLine 60 = .ok (.ireturn, 1) := by decide +kernel
theorem dX0_hangLine_0 : decode cX0_hangLine 0 = .ok (.aload_n 0, 1) := by decide +kernel
theorem dX0_hangLine_1 : decode cX0_hangLine 1 = .ok (.iload_n 1, 1) := by decide +kernel
theorem dX0_hangLine_2 : decode cX0_hangLine 2 = .ok (.invokevirtual 83, 3) := by decide +kernel
theorem dX0_hangLine_5 : decode cX0_hangLine 5 = .ok (.astore_n 2, 1) := by decide +kernel
theorem dX0_hangLine_6 : decode cX0_hangLine 6 = .ok (.aload_n 2, 1) := by decide +kernel
theorem dX0_hangLine_7 : decode cX0_hangLine 7 = .ok (.getfield 102, 3) := by decide +kernel
theorem dX0_hangLine_10 : decode cX0_hangLine 10 = .ok (.ifCond .ne 6, 3) := by decide +kernel
theorem dX0_hangLine_13 : decode cX0_hangLine 13 = .ok (.bipush (-5), 2) := by decide +kernel
theorem dX0_hangLine_15 : decode cX0_hangLine 15 = .ok (.ireturn, 1) := by decide +kernel
theorem dX0_hangLine_16 : decode cX0_hangLine 16 = .ok (.aload_n 2, 1) := by decide +kernel
theorem dX0_hangLine_17 : decode cX0_hangLine 17 = .ok (.getfield 106, 3) := by decide +kernel
theorem dX0_hangLine_20 : decode cX0_hangLine 20 = .ok (.istore_n 3, 1) := by decide +kernel
theorem dX0_hangLine_21 : decode cX0_hangLine 21 = .ok (.aload_n 2, 1) := by decide +kernel
theorem dX0_hangLine_22 : decode cX0_hangLine 22 = .ok (.iconst 0, 1) := by decide +kernel
theorem dX0_hangLine_23 : decode cX0_hangLine 23 = .ok (.putfield 102, 3) := by decide +kernel
theorem dX0_hangLine_26 : decode cX0_hangLine 26 = .ok (.aload_n 2, 1) := by decide +kernel
theorem dX0_hangLine_27 : decode cX0_hangLine 27 = .ok (.invokevirtual 115, 3) := by decide +kernel
theorem dX0_hangLine_30 : decode cX0_hangLine 30 = .ok (.ifCond .ne 29, 3) := by decide +kernel
theorem dX0_hangLine_33 : decode cX0_hangLine 33 = .ok (.aload_n 2, 1) := by decide +kernel
theorem dX0_hangLine_34 : decode cX0_hangLine 34 = .ok (.getfield 119, 3) := by decide +kernel
theorem dX0_hangLine_37 : decode cX0_hangLine 37 = .ok (.bipush (-6), 2) := by decide +kernel
theorem dX0_hangLine_39 : decode cX0_hangLine 39 = .ok (.if_icmp .eq 15, 3) := by decide +kernel
theorem dX0_hangLine_42 : decode cX0_hangLine 42 = .ok (.aload_n 0, 1) := by decide +kernel
theorem dX0_hangLine_43 : decode cX0_hangLine 43 = .ok (.aload_n 0, 1) := by decide +kernel
theorem dX0_hangLine_44 : decode cX0_hangLine 44 = .ok (.aload_n 2, 1) := by decide +kernel
theorem dX0_hangLine_45 : decode cX0_hangLine 45 = .ok (.getfield 119, 3) := by decide +kernel
theorem dX0_hangLine_48 : decode cX0_hangLine 48 = .ok (.invokevirtual 90, 3) := by decide +kernel
theorem dX0_hangLine_51 : decode cX0_hangLine 51 = .ok (.invokevirtual 122, 3) := by decide +kernel
theorem dX0_hangLine_54 : decode cX0_hangLine 54 = .ok (.aload_n 2, 1) := by decide +kernel
theorem dX0_hangLine_55 : decode cX0_hangLine 55 = .ok (.iconst 0, 1) := by decide +kernel
theorem dX0_hangLine_56 : decode cX0_hangLine 56 = .ok (.invokevirtual 125, 3) := by decide +kernel
theorem dX0_hangLine_59 : decode cX0_hangLine 59 = .ok (.iload_n 3, 1) := by decide +kernel
theorem dX0_hangLine_60 : decode cX0_hangLine 60 = .ok (.ireturn, 1) := by decide +kernel
theorem dX0_release_0 : decode cX0_release 0 = .ok (.aload_n 0, 1) := by decide +kernel
theorem dX0_release_1 : decode cX0_release 1 = .ok (.aload_n 1, 1) := by decide +kernel
theorem dX0_release_2 : decode cX0_release 2 = .ok (.getfield 129, 3) := by decide +kernel
theorem dX0_release_5 : decode cX0_release 5 = .ok (.invokevirtual 83, 3) := by decide +kernel
theorem dX0_release_8 : decode cX0_release 8 = .ok (.astore_n 2, 1) := by decide +kernel
theorem dX0_release_9 : decode cX0_release 9 = .ok (.aload_n 2, 1) := by decide +kernel
theorem dX0_release_10 : decode cX0_release 10 = .ok (.invokevirtual 115, 3) := by decide +kernel
theorem dX0_release_13 : decode cX0_release 13 = .ok (.ifCond .eq 25, 3) := by decide +kernel
theorem dX0_release_16 : decode cX0_release 16 = .ok (.aload_n 2, 1) := by decide +kernel
theorem dX0_release_17 : decode cX0_release 17 = .ok (.getfield 102, 3) := by decide +kernel
theorem dX0_release_20 : decode cX0_release 20 = .ok (.ifCond .eq 18, 3) := by decide +kernel
theorem dX0_release_23 : decode cX0_release 23 = .ok (.aload_n 2, 1) := by decide +kernel
theorem dX0_release_24 : decode cX0_release 24 = .ok (.bipush 6, 2) := by decide +kernel
theorem dX0_release_26 : decode cX0_release 26 = .ok (.putfield 109, 3) := by decide +kernel
theorem dX0_release_29 : decode cX0_release 29 = .ok (.aload_n 2, 1) := by decide +kernel
theorem dX0_release_30 : decode cX0_release 30 = .ok (.bipush 10, 2) := by decide +kernel
theorem dX0_release_32 : decode cX0_release 32 = .ok (.invokevirtual 125, 3) := by decide +kernel
theorem dX0_release_35 : decode cX0_release 35 = .ok (.goto 15, 3) := by decide +kernel
theorem dX0_release_38 : decode cX0_release 38 = .ok (.aload_n 2, 1) := by decide +kernel
theorem dX0_release_39 : decode cX0_release 39 = .ok (.invokevirtual 115, 3) := by decide +kernel
theorem dX0_release_42 : decode cX0_release 42 = .ok (.ifCond .eq 8, 3) := by decide +kernel
theorem dX0_release_45 : decode cX0_release 45 = .ok (.aload_n 2, 1) := by decide +kernel
theorem dX0_release_46 : decode cX0_release 46 = .ok (.iconst 0, 1) := by decide +kernel
theorem dX0_release_47 : decode cX0_release 47 = .ok (.invokevirtual 125, 3) := by decide +kernel
theorem dX0_release_50 : decode cX0_release 50 = .ok (.aload_n 1, 1) := by decide +kernel
theorem dX0_release_51 : decode cX0_release 51 = .ok (.invokevirtual 132, 3) := by decide +kernel
theorem dX0_release_54 : decode cX0_release 54 = .ok (.return_, 1) := by decide +kernel
theorem dX0_dialDigit_0 : decode cX0_dialDigit 0 = .ok (.aload_n 0, 1) := by decide +kernel
theorem dX0_dialDigit_1 : decode cX0_dialDigit 1 = .ok (.iload_n 1, 1) := by decide +kernel
theorem dX0_dialDigit_2 : decode cX0_dialDigit 2 = .ok (.invokevirtual 83, 3) := by decide +kernel
theorem dX0_dialDigit_5 : decode cX0_dialDigit 5 = .ok (.astore_n 3, 1) := by decide +kernel
theorem dX0_dialDigit_6 : decode cX0_dialDigit 6 = .ok (.aload_n 3, 1) := by decide +kernel
theorem dX0_dialDigit_7 : decode cX0_dialDigit 7 = .ok (.getfield 106, 3) := by decide +kernel
theorem dX0_dialDigit_10 : decode cX0_dialDigit 10 = .ok (.iconst 2, 1) := by decide +kernel
theorem dX0_dialDigit_11 : decode cX0_dialDigit 11 = .ok (.if_icmp .eq 14, 3) := by decide +kernel
theorem dX0_dialDigit_14 : decode cX0_dialDigit 14 = .ok (.aload_n 3, 1) := by decide +kernel
theorem dX0_dialDigit_15 : decode cX0_dialDigit 15 = .ok (.getfield 106, 3) := by decide +kernel
theorem dX0_dialDigit_18 : decode cX0_dialDigit 18 = .ok (.iconst 3, 1) := by decide +kernel
theorem dX0_dialDigit_19 : decode cX0_dialDigit 19 = .ok (.if_icmp .eq 6, 3) := by decide +kernel
theorem dX0_dialDigit_22 : decode cX0_dialDigit 22 = .ok (.bipush (-5), 2) := by decide +kernel
theorem dX0_dialDigit_24 : decode cX0_dialDigit 24 = .ok (.ireturn, 1) := by decide +kernel
theorem dX0_dialDigit_25 : decode cX0_dialDigit 25 = .ok (.aload_n 3, 1) := by decide +kernel
theorem dX0_dialDigit_26 : decode cX0_dialDigit 26 = .ok (.getfield 135, 3) := by decide +kernel
theorem dX0_dialDigit_29 : decode cX0_dialDigit 29 = .ok (.iconst 4, 1) := by decide +kernel
theorem dX0_dialDigit_30 : decode cX0_dialDigit 30 = .ok (.if_icmp .lt 6, 3) := by decide +kernel
theorem dX0_dialDigit_33 : decode cX0_dialDigit 33 = .ok (.bipush (-4), 2) := by decide +kernel
theorem dX0_dialDigit_35 : decode cX0_dialDigit 35 = .ok (.ireturn, 1) := by decide +kernel
theorem dX0_dialDigit_36 : decode cX0_dialDigit 36 = .ok (.aload_n 3, 1) := by decide +kernel
theorem dX0_dialDigit_37 : decode cX0_dialDigit 37 = .ok (.iload_n 2, 1) := by decide +kernel
theorem dX0_dialDigit_38 : decode cX0_dialDigit 38 = .ok (.invokevirtual 138, 3) := by decide +kernel
theorem dX0_dialDigit_41 : decode cX0_dialDigit 41 = .ok (.aload_n 3, 1) := by decide +kernel
theorem dX0_dialDigit_42 : decode cX0_dialDigit 42 = .ok (.getfield 135, 3) := by decide +kernel
theorem dX0_dialDigit_45 : decode cX0_dialDigit 45 = .ok (.ireturn, 1) := by decide +kernel
theorem dX0_hasTimeFor_0 : decode cX0_hasTimeFor 0 = .ok (.aload_n 0, 1) := by decide +kernel
theorem dX0_hasTimeFor_1 : decode cX0_hasTimeFor 1 = .ok (.getfield 52, 3) := by decide +kernel
theorem dX0_hasTimeFor_4 : decode cX0_hasTimeFor 4 = .ok (.iload_n 1, 1) := by decide +kernel
theorem dX0_hasTimeFor_5 : decode cX0_hasTimeFor 5 = .ok (.iadd, 1) := by decide +kernel
theorem dX0_hasTimeFor_6 : decode cX0_hasTimeFor 6 = .ok (.ldc 141, 2) := by decide +kernel
theorem dX0_hasTimeFor_8 : decode cX0_hasTimeFor 8 = .ok (.if_icmp .gt 7, 3) := by decide +kernel
theorem dX0_hasTimeFor_11 : decode cX0_hasTimeFor 11 = .ok (.iconst 1, 1) := by decide +kernel
theorem dX0_hasTimeFor_12 : decode cX0_hasTimeFor 12 = .ok (.goto 4, 3) := by decide +kernel
theorem dX0_hasTimeFor_15 : decode cX0_hasTimeFor 15 = .ok (.iconst 0, 1) := by decide +kernel
theorem dX0_hasTimeFor_16 : decode cX0_hasTimeFor 16 = .ok (.ireturn, 1) := by decide +kernel
theorem dX0_pass_0 : decode cX0_pass 0 = .ok (.iconst 0, 1) := by decide +kernel
theorem dX0_pass_1 : decode cX0_pass 1 = .ok (.istore_n 2, 1) := by decide +kernel
theorem dX0_pass_2 : decode cX0_pass 2 = .ok (.iload_n 2, 1) := by decide +kernel
theorem dX0_pass_3 : decode cX0_pass 3 = .ok (.iload_n 1, 1) := by decide +kernel
theorem dX0_pass_4 : decode cX0_pass 4 = .ok (.if_icmp .ge 52, 3) := by decide +kernel
theorem dX0_pass_7 : decode cX0_pass 7 = .ok (.iconst 0, 1) := by decide +kernel
theorem dX0_pass_8 : decode cX0_pass 8 = .ok (.istore_n 3, 1) := by decide +kernel
theorem dX0_pass_9 : decode cX0_pass 9 = .ok (.iload_n 3, 1) := by decide +kernel
theorem dX0_pass_10 : decode cX0_pass 10 = .ok (.aload_n 0, 1) := by decide +kernel
theorem dX0_pass_11 : decode cX0_pass 11 = .ok (.getfield 45, 3) := by decide +kernel
theorem dX0_pass_14 : decode cX0_pass 14 = .ok (.if_icmp .ge 18, 3) := by decide +kernel
theorem dX0_pass_17 : decode cX0_pass 17 = .ok (.aload_n 0, 1) := by decide +kernel
theorem dX0_pass_18 : decode cX0_pass 18 = .ok (.aload_n 0, 1) := by decide +kernel
theorem dX0_pass_19 : decode cX0_pass 19 = .ok (.iload_n 3, 1) := by decide +kernel
theorem dX0_pass_20 : decode cX0_pass 20 = .ok (.invokevirtual 90, 3) := by decide +kernel
theorem dX0_pass_23 : decode cX0_pass 23 = .ok (.invokevirtual 142, 3) := by decide +kernel
theorem dX0_pass_26 : decode cX0_pass 26 = .ok (.iinc 3 1, 3) := by decide +kernel
theorem dX0_pass_29 : decode cX0_pass 29 = .ok (.goto (-20), 3) := by decide +kernel
theorem dX0_pass_32 : decode cX0_pass 32 = .ok (.aload_n 0, 1) := by decide +kernel
theorem dX0_pass_33 : decode cX0_pass 33 = .ok (.invokevirtual 145, 3) := by decide +kernel
theorem dX0_pass_36 : decode cX0_pass 36 = .ok (.aload_n 0, 1) := by decide +kernel
theorem dX0_pass_37 : decode cX0_pass 37 = .ok (.invokevirtual 148, 3) := by decide +kernel
theorem dX0_pass_40 : decode cX0_pass 40 = .ok (.aload_n 0, 1) := by decide +kernel
theorem dX0_pass_41 : decode cX0_pass 41 = .ok (.dup, 1) := by decide +kernel
theorem dX0_pass_42 : decode cX0_pass 42 = .ok (.getfield 52, 3) := by decide +kernel
theorem dX0_pass_45 : decode cX0_pass 45 = .ok (.iconst 1, 1) := by decide +kernel
theorem dX0_pass_46 : decode cX0_pass 46 = .ok (.iadd, 1) := by decide +kernel
theorem dX0_pass_47 : decode cX0_pass 47 = .ok (.putfield 52, 3) := by decide +kernel
theorem dX0_pass_50 : decode cX0_pass 50 = .ok (.iinc 2 1, 3) := by decide +kernel
theorem dX0_pass_53 : decode cX0_pass 53 = .ok (.goto (-51), 3) := by decide +kernel
theorem dX0_pass_56 : decode cX0_pass 56 = .ok (.return_, 1) := by decide +kernel
theorem dX0_takeStep_0 : decode cX0_takeStep 0 = .ok (.aload_n 0, 1) := by decide +kernel
theorem dX0_takeStep_1 : decode cX0_takeStep 1 = .ok (.aload_n 1, 1) := by decide +kernel
theorem dX0_takeStep_2 : decode cX0_takeStep 2 = .ok (.getfield 151, 3) := by decide +kernel
theorem dX0_takeStep_5 : decode cX0_takeStep 5 = .ok (.invokevirtual 83, 3) := by decide +kernel
theorem dX0_takeStep_8 : decode cX0_takeStep 8 = .ok (.astore_n 2, 1) := by decide +kernel
theorem dX0_takeStep_9 : decode cX0_takeStep 9 = .ok (.aload_n 1, 1) := by decide +kernel
theorem dX0_takeStep_10 : decode cX0_takeStep 10 = .ok (.getfield 154, 3) := by decide +kernel
theorem dX0_takeStep_13 : decode cX0_takeStep 13 = .ok (.tableswitch 135 1 9 #[51, 60, 70, 79, 88, 99, 108, 117, 126], 51) := by decide +kernel
theorem dX0_takeStep_64 : decode cX0_takeStep 64 = .ok (.aload_n 0, 1) := by decide +kernel
theorem dX0_takeStep_65 : decode cX0_takeStep 65 = .ok (.aload_n 1, 1) := by decide +kernel
theorem dX0_takeStep_66 : decode cX0_takeStep 66 = .ok (.aload_n 2, 1) := by decide +kernel
theorem dX0_takeStep_67 : decode cX0_takeStep 67 = .ok (.invokevirtual 155, 3) := by decide +kernel
theorem dX0_takeStep_70 : decode cX0_takeStep 70 = .ok (.goto 78, 3) := by decide +kernel
theorem dX0_takeStep_73 : decode cX0_takeStep 73 = .ok (.aload_n 0, 1) := by decide +kernel
theorem dX0_takeStep_74 : decode cX0_takeStep 74 = .ok (.aload_n 1, 1) := by decide +kernel
theorem dX0_takeStep_75 : decode cX0_takeStep 75 = .ok (.aload_n 2, 1) := by decide +kernel
theorem dX0_takeStep_76 : decode cX0_takeStep 76 = .ok (.iconst 3, 1) := by decide +kernel
theorem dX0_takeStep_77 : decode cX0_takeStep 77 = .ok (.invokevirtual 159, 3) := by decide +kernel
theorem dX0_takeStep_80 : decode cX0_takeStep 80 = .ok (.goto 68, 3) := by decide +kernel
theorem dX0_takeStep_83 : decode cX0_takeStep 83 = .ok (.aload_n 0, 1) := by decide +kernel
theorem dX0_takeStep_84 : decode cX0_takeStep 84 = .ok (.aload_n 1, 1) := by decide +kernel
theorem dX0_takeStep_85 : decode cX0_takeStep 85 = .ok (.aload_n 2, 1) := by decide +kernel
theorem dX0_takeStep_86 : decode cX0_takeStep 86 = .ok (.invokevirtual 163, 3) := by decide +kernel
theorem dX0_takeStep_89 : decode cX0_takeStep 89 = .ok (.goto 59, 3) := by decide +kernel
theorem dX0_takeStep_92 : decode cX0_takeStep 92 = .ok (.aload_n 0, 1) := by decide +kernel
theorem dX0_takeStep_93 : decode cX0_takeStep 93 = .ok (.aload_n 1, 1) := by decide +kernel
theorem dX0_takeStep_94 : decode cX0_takeStep 94 = .ok (.aload_n 2, 1) := by decide +kernel
theorem dX0_takeStep_95 : decode cX0_takeStep 95 = .ok (.invokevirtual 166, 3) := by decide +kernel
theorem dX0_takeStep_98 : decode cX0_takeStep 98 = .ok (.goto 50, 3) := by decide +kernel
theorem dX0_takeStep_101 : decode cX0_takeStep 101 = .ok (.aload_n 0, 1) := by decide +kernel
theorem dX0_takeStep_102 : decode cX0_takeStep 102 = .ok (.aload_n 1, 1) := by decide +kernel
theorem dX0_takeStep_103 : decode cX0_takeStep 103 = .ok (.aload_n 2, 1) := by decide +kernel
theorem dX0_takeStep_104 : decode cX0_takeStep 104 = .ok (.bipush 6, 2) := by decide +kernel
theorem dX0_takeStep_106 : decode cX0_takeStep 106 = .ok (.invokevirtual 159, 3) := by decide +kernel
theorem dX0_takeStep_109 : decode cX0_takeStep 109 = .ok (.goto 39, 3) := by decide +kernel
theorem dX0_takeStep_112 : decode cX0_takeStep 112 = .ok (.aload_n 0, 1) := by decide +kernel
theorem dX0_takeStep_113 : decode cX0_takeStep 113 = .ok (.aload_n 1, 1) := by decide +kernel
theorem dX0_takeStep_114 : decode cX0_takeStep 114 = .ok (.aload_n 2, 1) := by decide +kernel
theorem dX0_takeStep_115 : decode cX0_takeStep 115 = .ok (.invokevirtual 169, 3) := by decide +kernel
theorem dX0_takeStep_118 : decode cX0_takeStep 118 = .ok (.goto 30, 3) := by decide +kernel
theorem dX0_takeStep_121 : decode cX0_takeStep 121 = .ok (.aload_n 0, 1) := by decide +kernel
theorem dX0_takeStep_122 : decode cX0_takeStep 122 = .ok (.aload_n 1, 1) := by decide +kernel
theorem dX0_takeStep_123 : decode cX0_takeStep 123 = .ok (.aload_n 2, 1) := by decide +kernel
theorem dX0_takeStep_124 : decode cX0_takeStep 124 = .ok (.invokevirtual 172, 3) := by decide +kernel
theorem dX0_takeStep_127 : decode cX0_takeStep 127 = .ok (.goto 21, 3) := by decide +kernel
theorem dX0_takeStep_130 : decode cX0_takeStep 130 = .ok (.aload_n 0, 1) := by decide +kernel
theorem dX0_takeStep_131 : decode cX0_takeStep 131 = .ok (.aload_n 1, 1) := by decide +kernel
theorem dX0_takeStep_132 : decode cX0_takeStep 132 = .ok (.aload_n 2, 1) := by decide +kernel
theorem dX0_takeStep_133 : decode cX0_takeStep 133 = .ok (.invokevirtual 175, 3) := by decide +kernel
theorem dX0_takeStep_136 : decode cX0_takeStep 136 = .ok (.goto 12, 3) := by decide +kernel
theorem dX0_takeStep_139 : decode cX0_takeStep 139 = .ok (.aload_n 0, 1) := by decide +kernel
theorem dX0_takeStep_140 : decode cX0_takeStep 140 = .ok (.aload_n 1, 1) := by decide +kernel
theorem dX0_takeStep_141 : decode cX0_takeStep 141 = .ok (.aload_n 2, 1) := by decide +kernel
theorem dX0_takeStep_142 : decode cX0_takeStep 142 = .ok (.invokevirtual 178, 3) := by decide +kernel
theorem dX0_takeStep_145 : decode cX0_takeStep 145 = .ok (.goto 3, 3) := by decide +kernel
theorem dX0_takeStep_148 : decode cX0_takeStep 148 = .ok (.return_, 1) := by decide +kernel
theorem dX0_seek_0 : decode cX0_seek 0 = .ok (.aload_n 1, 1) := by decide +kernel
theorem dX0_seek_1 : decode cX0_seek 1 = .ok (.getfield 181, 3) := by decide +kernel
theorem dX0_seek_4 : decode cX0_seek 4 = .ok (.aload_n 1, 1) := by decide +kernel
theorem dX0_seek_5 : decode cX0_seek 5 = .ok (.getfield 151, 3) := by decide +kernel
theorem dX0_seek_8 : decode cX0_seek 8 = .ok (.if_icmp .ne 26, 3) := by decide +kernel
theorem dX0_seek_11 : decode cX0_seek 11 = .ok (.aload_n 1, 1) := by decide +kernel
theorem dX0_seek_12 : decode cX0_seek 12 = .ok (.iconst 2, 1) := by decide +kernel
theorem dX0_seek_13 : decode cX0_seek 13 = .ok (.invokevirtual 184, 3) := by decide +kernel
theorem dX0_seek_16 : decode cX0_seek 16 = .ok (.aload_n 2, 1) := by decide +kernel
theorem dX0_seek_17 : decode cX0_seek 17 = .ok (.iconst 2, 1) := by decide +kernel
theorem dX0_seek_18 : decode cX0_seek 18 = .ok (.putfield 106, 3) := by decide +kernel
theorem dX0_seek_21 : decode cX0_seek 21 = .ok (.aload_n 0, 1) := by decide +kernel
theorem dX0_seek_22 : decode cX0_seek 22 = .ok (.dup, 1) := by decide +kernel
theorem dX0_seek_23 : decode cX0_seek 23 = .ok (.getfield 61, 3) := by decide +kernel
theorem dX0_seek_26 : decode cX0_seek 26 = .ok (.iconst 1, 1) := by decide +kernel
theorem dX0_seek_27 : decode cX0_seek 27 = .ok (.iadd, 1) := by decide +kernel
theorem dX0_seek_28 : decode cX0_seek 28 = .ok (.putfield 61, 3) := by decide +kernel
theorem dX0_seek_31 : decode cX0_seek 31 = .ok (.goto 16, 3) := by decide +kernel
theorem dX0_seek_34 : decode cX0_seek 34 = .ok (.aload_n 1, 1) := by decide +kernel
theorem dX0_seek_35 : decode cX0_seek 35 = .ok (.aload_n 1, 1) := by decide +kernel
theorem dX0_seek_36 : decode cX0_seek 36 = .ok (.getfield 181, 3) := by decide +kernel
theorem dX0_seek_39 : decode cX0_seek 39 = .ok (.iconst 1, 1) := by decide +kernel
theorem dX0_seek_40 : decode cX0_seek 40 = .ok (.iadd, 1) := by decide +kernel
theorem dX0_seek_41 : decode cX0_seek 41 = .ok (.bipush 16, 2) := by decide +kernel
theorem dX0_seek_43 : decode cX0_seek 43 = .ok (.irem, 1) := by decide +kernel
theorem dX0_seek_44 : decode cX0_seek 44 = .ok (.putfield 181, 3) := by decide +kernel
theorem dX0_seek_47 : decode cX0_seek 47 = .ok (.return_, 1) := by decide +kernel
theorem dX0_awaitDigit_0 : decode cX0_awaitDigit 0 = .ok (.aload_n 2, 1) := by decide +kernel
theorem dX0_awaitDigit_1 : decode cX0_awaitDigit 1 = .ok (.getfield 135, 3) := by decide +kernel
theorem dX0_awaitDigit_4 : decode cX0_awaitDigit 4 = .ok (.ifCond .le 22, 3) := by decide +kernel
theorem dX0_awaitDigit_7 : decode cX0_awaitDigit 7 = .ok (.aload_n 1, 1) := by decide +kernel
theorem dX0_awaitDigit_8 : decode cX0_awaitDigit 8 = .ok (.iload_n 3, 1) := by decide +kernel
theorem dX0_awaitDigit_9 : decode cX0_awaitDigit 9 = .ok (.invokevirtual 184, 3) := by decide +kernel
theorem dX0_awaitDigit_12 : decode cX0_awaitDigit 12 = .ok (.aload_n 1, 1) := by decide +kernel
theorem dX0_awaitDigit_13 : decode cX0_awaitDigit 13 = .ok (.aload_n 2, 1) := by decide +kernel
theorem dX0_awaitDigit_14 : decode cX0_awaitDigit 14 = .ok (.invokevirtual 187, 3) := by decide +kernel
theorem dX0_awaitDigit_17 : decode cX0_awaitDigit 17 = .ok (.putfield 191, 3) := by decide +kernel
theorem dX0_awaitDigit_20 : decode cX0_awaitDigit 20 = .ok (.aload_n 2, 1) := by decide +kernel
theorem dX0_awaitDigit_21 : decode cX0_awaitDigit 21 = .ok (.iconst 3, 1) := by decide +kernel
theorem dX0_awaitDigit_22 : decode cX0_awaitDigit 22 = .ok (.putfield 106, 3) := by decide +kernel
theorem dX0_awaitDigit_25 : decode cX0_awaitDigit 25 = .ok (.return_, 1) := by decide +kernel
theorem dX0_awaitDigit_26 : decode cX0_awaitDigit 26 = .ok (.aload_n 1, 1) := by decide +kernel
theorem dX0_awaitDigit_27 : decode cX0_awaitDigit 27 = .ok (.dup, 1) := by decide +kernel
theorem dX0_awaitDigit_28 : decode cX0_awaitDigit 28 = .ok (.getfield 194, 3) := by decide +kernel
theorem dX0_awaitDigit_31 : decode cX0_awaitDigit 31 = .ok (.iconst 1, 1) := by decide +kernel
theorem dX0_awaitDigit_32 : decode cX0_awaitDigit 32 = .ok (.iadd, 1) := by decide +kernel
theorem dX0_awaitDigit_33 : decode cX0_awaitDigit 33 = .ok (.putfield 194, 3) := by decide +kernel
theorem dX0_awaitDigit_36 : decode cX0_awaitDigit 36 = .ok (.aload_n 1, 1) := by decide +kernel
theorem dX0_awaitDigit_37 : decode cX0_awaitDigit 37 = .ok (.getfield 194, 3) := by decide +kernel
theorem dX0_awaitDigit_40 : decode cX0_awaitDigit 40 = .ok (.aload_n 0, 1) := by decide +kernel
theorem dX0_awaitDigit_41 : decode cX0_awaitDigit 41 = .ok (.iconst 0, 1) := by decide +kernel
theorem dX0_awaitDigit_42 : decode cX0_awaitDigit 42 = .ok (.invokevirtual 79, 3) := by decide +kernel
theorem dX0_awaitDigit_45 : decode cX0_awaitDigit 45 = .ok (.if_icmp .lt 28, 3) := by decide +kernel
theorem dX0_awaitDigit_48 : decode cX0_awaitDigit 48 = .ok (.aload_n 1, 1) := by decide +kernel
theorem dX0_awaitDigit_49 : decode cX0_awaitDigit 49 = .ok (.invokevirtual 132, 3) := by decide +kernel
theorem dX0_awaitDigit_52 : decode cX0_awaitDigit 52 = .ok (.aload_n 2, 1) := by decide +kernel
theorem dX0_awaitDigit_53 : decode cX0_awaitDigit 53 = .ok (.iconst 5, 1) := by decide +kernel
theorem dX0_awaitDigit_54 : decode cX0_awaitDigit 54 = .ok (.putfield 109, 3) := by decide +kernel
theorem dX0_awaitDigit_57 : decode cX0_awaitDigit 57 = .ok (.aload_n 2, 1) := by decide +kernel
theorem dX0_awaitDigit_58 : decode cX0_awaitDigit 58 = .ok (.bipush 10, 2) := by decide +kernel
theorem dX0_awaitDigit_60 : decode cX0_awaitDigit 60 = .ok (.invokevirtual 125, 3) := by decide +kernel
theorem dX0_awaitDigit_63 : decode cX0_awaitDigit 63 = .ok (.aload_n 0, 1) := by decide +kernel
theorem dX0_awaitDigit_64 : decode cX0_awaitDigit 64 = .ok (.dup, 1) := by decide +kernel
theorem dX0_awaitDigit_65 : decode cX0_awaitDigit 65 = .ok (.getfield 76, 3) := by decide +kernel
theorem dX0_awaitDigit_68 : decode cX0_awaitDigit 68 = .ok (.iconst 1, 1) := by decide +kernel
theorem dX0_awaitDigit_69 : decode cX0_awaitDigit 69 = .ok (.iadd, 1) := by decide +kernel
theorem dX0_awaitDigit_70 : decode cX0_awaitDigit 70 = .ok (.putfield 76, 3) := by decide +kernel
theorem dX0_awaitDigit_73 : decode cX0_awaitDigit 73 = .ok (.return_, 1) := by decide +kernel
theorem dX0_rise_0 : decode cX0_rise 0 = .ok (.aload_n 1, 1) := by decide +kernel
theorem dX0_rise_1 : decode cX0_rise 1 = .ok (.dup, 1) := by decide +kernel
theorem dX0_rise_2 : decode cX0_rise 2 = .ok (.getfield 191, 3) := by decide +kernel
theorem dX0_rise_5 : decode cX0_rise 5 = .ok (.iconst 1, 1) := by decide +kernel
theorem dX0_rise_6 : decode cX0_rise 6 = .ok (.isub, 1) := by decide +kernel
theorem dX0_rise_7 : decode cX0_rise 7 = .ok (.putfield 191, 3) := by decide +kernel
theorem dX0_rise_10 : decode cX0_rise 10 = .ok (.aload_n 1, 1) := by decide +kernel
theorem dX0_rise_11 : decode cX0_rise 11 = .ok (.dup, 1) := by decide +kernel
theorem dX0_rise_12 : decode cX0_rise 12 = .ok (.getfield 197, 3) := by decide +kernel
theorem dX0_rise_15 : decode cX0_rise 15 = .ok (.iconst 1, 1) := by decide +kernel
theorem dX0_rise_16 : decode cX0_rise 16 = .ok (.iadd, 1) := by decide +kernel
theorem dX0_rise_17 : decode cX0_rise 17 = .ok (.putfield 197, 3) := by decide +kernel
theorem dX0_rise_20 : decode cX0_rise 20 = .ok (.aload_n 1, 1) := by decide +kernel
theorem dX0_rise_21 : decode cX0_rise 21 = .ok (.getfield 191, 3) := by decide +kernel
theorem dX0_rise_24 : decode cX0_rise 24 = .ok (.ifCond .le 4, 3) := by decide +kernel
theorem dX0_rise_27 : decode cX0_rise 27 = .ok (.return_, 1) := by decide +kernel
theorem dX0_rise_28 : decode cX0_rise 28 = .ok (.aload_n 1, 1) := by decide +kernel
theorem dX0_rise_29 : decode cX0_rise 29 = .ok (.getfield 197, 3) := by decide +kernel
theorem dX0_rise_32 : decode cX0_rise 32 = .ok (.iconst 4, 1) := by decide +kernel
theorem dX0_rise_33 : decode cX0_rise 33 = .ok (.if_icmp .le 15, 3) := by decide +kernel
theorem dX0_rise_36 : decode cX0_rise 36 = .ok (.aload_n 0, 1) := by decide +kernel
theorem dX0_rise_37 : decode cX0_rise 37 = .ok (.aload_n 1, 1) := by decide +kernel
theorem dX0_rise_38 : decode cX0_rise 38 = .ok (.aload_n 2, 1) := by decide +kernel
theorem dX0_rise_39 : decode cX0_rise 39 = .ok (.bipush 9, 2) := by decide +kernel
theorem dX0_rise_41 : decode cX0_rise 41 = .ok (.iconst 3, 1) := by decide +kernel
theorem dX0_rise_42 : decode cX0_rise 42 = .ok (.invokevirtual 200, 3) := by decide +kernel
theorem dX0_rise_45 : decode cX0_rise 45 = .ok (.goto 13, 3) := by decide +kernel
theorem dX0_rise_48 : decode cX0_rise 48 = .ok (.aload_n 1, 1) := by decide +kernel
theorem dX0_rise_49 : decode cX0_rise 49 = .ok (.iconst 4, 1) := by decide +kernel
theorem dX0_rise_50 : decode cX0_rise 50 = .ok (.invokevirtual 184, 3) := by decide +kernel
theorem dX0_rise_53 : decode cX0_rise 53 = .ok (.aload_n 1, 1) := by decide +kernel
theorem dX0_rise_54 : decode cX0_rise 54 = .ok (.iconst 0, 1) := by decide +kernel
theorem dX0_rise_55 : decode cX0_rise 55 = .ok (.putfield 204, 3) := by decide +kernel
theorem dX0_rise_58 : decode cX0_rise 58 = .ok (.return_, 1) := by decide +kernel
theorem dX0_hunt_0 : decode cX0_hunt 0 = .ok (.aload_n 0, 1) := by decide +kernel
theorem dX0_hunt_1 : decode cX0_hunt 1 = .ok (.aload_n 1, 1) := by decide +kernel
theorem dX0_hunt_2 : decode cX0_hunt 2 = .ok (.getfield 197, 3) := by decide +kernel
theorem dX0_hunt_5 : decode cX0_hunt 5 = .ok (.aload_n 1, 1) := by decide +kernel
theorem dX0_hunt_6 : decode cX0_hunt 6 = .ok (.getfield 204, 3) := by decide +kernel
theorem dX0_hunt_9 : decode cX0_hunt 9 = .ok (.invokevirtual 207, 3) := by decide +kernel
theorem dX0_hunt_12 : decode cX0_hunt 12 = .ok (.bipush (-6), 2) := by decide +kernel
theorem dX0_hunt_14 : decode cX0_hunt 14 = .ok (.if_icmp .ne 9, 3) := by decide +kernel
theorem dX0_hunt_17 : decode cX0_hunt 17 = .ok (.aload_n 1, 1) := by decide +kernel
theorem dX0_hunt_18 : decode cX0_hunt 18 = .ok (.iconst 5, 1) := by decide +kernel
theorem dX0_hunt_19 : decode cX0_hunt 19 = .ok (.invokevirtual 184, 3) := by decide +kernel
theorem dX0_hunt_22 : decode cX0_hunt 22 = .ok (.return_, 1) := by decide +kernel
theorem dX0_hunt_23 : decode cX0_hunt 23 = .ok (.aload_n 1, 1) := by decide +kernel
theorem dX0_hunt_24 : decode cX0_hunt 24 = .ok (.dup, 1) := by decide +kernel
theorem dX0_hunt_25 : decode cX0_hunt 25 = .ok (.getfield 204, 3) := by decide +kernel
theorem dX0_hunt_28 : decode cX0_hunt 28 = .ok (.iconst 1, 1) := by decide +kernel
theorem dX0_hunt_29 : decode cX0_hunt 29 = .ok (.iadd, 1) := by decide +kernel
theorem dX0_hunt_30 : decode cX0_hunt 30 = .ok (.putfield 204, 3) := by decide +kernel
theorem dX0_hunt_33 : decode cX0_hunt 33 = .ok (.aload_n 1, 1) := by decide +kernel
theorem dX0_hunt_34 : decode cX0_hunt 34 = .ok (.getfield 204, 3) := by decide +kernel
theorem dX0_hunt_37 : decode cX0_hunt 37 = .ok (.aload_n 0, 1) := by decide +kernel
theorem dX0_hunt_38 : decode cX0_hunt 38 = .ok (.getfield 49, 3) := by decide +kernel
theorem dX0_hunt_41 : decode cX0_hunt 41 = .ok (.if_icmp .lt 12, 3) := by decide +kernel
theorem dX0_hunt_44 : decode cX0_hunt 44 = .ok (.aload_n 0, 1) := by decide +kernel
theorem dX0_hunt_45 : decode cX0_hunt 45 = .ok (.aload_n 1, 1) := by decide +kernel
theorem dX0_hunt_46 : decode cX0_hunt 46 = .ok (.aload_n 2, 1) := by decide +kernel
theorem dX0_hunt_47 : decode cX0_hunt 47 = .ok (.bipush 8, 2) := by decide +kernel
theorem dX0_hunt_49 : decode cX0_hunt 49 = .ok (.iconst 2, 1) := by decide +kernel
theorem dX0_hunt_50 : decode cX0_hunt 50 = .ok (.invokevirtual 200, 3) := by decide +kernel
theorem dX0_hunt_53 : decode cX0_hunt 53 = .ok (.return_, 1) := by decide +kernel
theorem dX0_stepOn_0 : decode cX0_stepOn 0 = .ok (.aload_n 1, 1) := by decide +kernel
theorem dX0_stepOn_1 : decode cX0_stepOn 1 = .ok (.dup, 1) := by decide +kernel
theorem dX0_stepOn_2 : decode cX0_stepOn 2 = .ok (.getfield 191, 3) := by decide +kernel
theorem dX0_stepOn_5 : decode cX0_stepOn 5 = .ok (.iconst 1, 1) := by decide +kernel
theorem dX0_stepOn_6 : decode cX0_stepOn 6 = .ok (.isub, 1) := by decide +kernel
theorem dX0_stepOn_7 : decode cX0_stepOn 7 = .ok (.putfield 191, 3) := by decide +kernel
theorem dX0_stepOn_10 : decode cX0_stepOn 10 = .ok (.aload_n 1, 1) := by decide +kernel
theorem dX0_stepOn_11 : decode cX0_stepOn 11 = .ok (.dup, 1) := by decide +kernel
theorem dX0_stepOn_12 : decode cX0_stepOn 12 = .ok (.getfield 211, 3) := by decide +kernel
theorem dX0_stepOn_15 : decode cX0_stepOn 15 = .ok (.iconst 1, 1) := by decide +kernel
theorem dX0_stepOn_16 : decode cX0_stepOn 16 = .ok (.iadd, 1) := by decide +kernel
theorem dX0_stepOn_17 : decode cX0_stepOn 17 = .ok (.putfield 211, 3) := by decide +kernel
theorem dX0_stepOn_20 : decode cX0_stepOn 20 = .ok (.aload_n 1, 1) := by decide +kernel
theorem dX0_stepOn_21 : decode cX0_stepOn 21 = .ok (.getfield 191, 3) := by decide +kernel
theorem dX0_stepOn_24 : decode cX0_stepOn 24 = .ok (.ifCond .le 4, 3) := by decide +kernel
theorem dX0_stepOn_27 : decode cX0_stepOn 27 = .ok (.return_, 1) := by decide +kernel
theorem dX0_stepOn_28 : decode cX0_stepOn 28 = .ok (.aload_n 1, 1) := by decide +kernel
theorem dX0_stepOn_29 : decode cX0_stepOn 29 = .ok (.getfield 211, 3) := by decide +kernel
theorem dX0_stepOn_32 : decode cX0_stepOn 32 = .ok (.iconst 4, 1) := by decide +kernel
theorem dX0_stepOn_33 : decode cX0_stepOn 33 = .ok (.if_icmp .le 13, 3) := by decide +kernel
theorem dX0_stepOn_36 : decode cX0_stepOn 36 = .ok (.aload_n 0, 1) := by decide +kernel
theorem dX0_stepOn_37 : decode cX0_stepOn 37 = .ok (.aload_n 1, 1) := by decide +kernel
theorem dX0_stepOn_38 : decode cX0_stepOn 38 = .ok (.aload_n 2, 1) := by decide +kernel
theorem dX0_stepOn_39 : decode cX0_stepOn 39 = .ok (.bipush 9, 2) := by decide +kernel
theorem dX0_stepOn_41 : decode cX0_stepOn 41 = .ok (.iconst 3, 1) := by decide +kernel
theorem dX0_stepOn_42 : decode cX0_stepOn 42 = .ok (.invokevirtual 200, 3) := by decide +kernel
theorem dX0_stepOn_45 : decode cX0_stepOn 45 = .ok (.return_, 1) := by decide +kernel
theorem dX0_stepOn_46 : decode cX0_stepOn 46 = .ok (.iconst 4, 1) := by decide +kernel
theorem dX0_stepOn_47 : decode cX0_stepOn 47 = .ok (.aload_n 1, 1) := by decide +kernel
theorem dX0_stepOn_48 : decode cX0_stepOn 48 = .ok (.getfield 197, 3) := by decide +kernel
theorem dX0_stepOn_51 : decode cX0_stepOn 51 = .ok (.iconst 1, 1) := by decide +kernel
theorem dX0_stepOn_52 : decode cX0_stepOn 52 = .ok (.isub, 1) := by decide +kernel
theorem dX0_stepOn_53 : decode cX0_stepOn 53 = .ok (.imul, 1) := by decide +kernel
theorem dX0_stepOn_54 : decode cX0_stepOn 54 = .ok (.aload_n 1, 1) := by decide +kernel
theorem dX0_stepOn_55 : decode cX0_stepOn 55 = .ok (.getfield 211, 3) := by decide +kernel
theorem dX0_stepOn_58 : decode cX0_stepOn 58 = .ok (.iadd, 1) := by decide +kernel
theorem dX0_stepOn_59 : decode cX0_stepOn 59 = .ok (.iconst 1, 1) := by decide +kernel
theorem dX0_stepOn_60 : decode cX0_stepOn 60 = .ok (.isub, 1) := by decide +kernel
theorem dX0_stepOn_61 : decode cX0_stepOn 61 = .ok (.istore_n 3, 1) := by decide +kernel
theorem dX0_stepOn_62 : decode cX0_stepOn 62 = .ok (.aload_n 0, 1) := by decide +kernel
theorem dX0_stepOn_63 : decode cX0_stepOn 63 = .ok (.iload_n 3, 1) := by decide +kernel
theorem dX0_stepOn_64 : decode cX0_stepOn 64 = .ok (.invokevirtual 83, 3) := by decide +kernel
theorem dX0_stepOn_67 : decode cX0_stepOn 67 = .ok (.astore 4, 2) := by decide +kernel
theorem dX0_stepOn_69 : decode cX0_stepOn 69 = .ok (.aload 4, 2) := by decide +kernel
theorem dX0_stepOn_71 : decode cX0_stepOn 71 = .ok (.getfield 106, 3) := by decide +kernel
theorem dX0_stepOn_74 : decode cX0_stepOn 74 = .ok (.ifCond .eq 13, 3) := by decide +kernel
theorem dX0_stepOn_77 : decode cX0_stepOn 77 = .ok (.aload_n 0, 1) := by decide +kernel
theorem dX0_stepOn_78 : decode cX0_stepOn 78 = .ok (.aload_n 1, 1) := by decide +kernel
theorem dX0_stepOn_79 : decode cX0_stepOn 79 = .ok (.aload_n 2, 1) := by decide +kernel
theorem dX0_stepOn_80 : decode cX0_stepOn 80 = .ok (.bipush 8, 2) := by decide +kernel
theorem dX0_stepOn_82 : decode cX0_stepOn 82 = .ok (.iconst 1, 1) := by decide +kernel
theorem dX0_stepOn_83 : decode cX0_stepOn 83 = .ok (.invokevirtual 200, 3) := by decide +kernel
theorem dX0_stepOn_86 : decode cX0_stepOn 86 = .ok (.return_, 1) := by decide +kernel
theorem dX0_stepOn_87 : decode cX0_stepOn 87 = .ok (.aload_n 1, 1) := by decide +kernel
theorem dX0_stepOn_88 : decode cX0_stepOn 88 = .ok (.bipush 7, 2) := by decide +kernel
theorem dX0_stepOn_90 : decode cX0_stepOn 90 = .ok (.invokevirtual 184, 3) := by decide +kernel
theorem dX0_stepOn_93 : decode cX0_stepOn 93 = .ok (.aload_n 1, 1) := by decide +kernel
theorem dX0_stepOn_94 : decode cX0_stepOn 94 = .ok (.iload_n 3, 1) := by decide +kernel
theorem dX0_stepOn_95 : decode cX0_stepOn 95 = .ok (.putfield 129, 3) := by decide +kernel
theorem dX0_stepOn_98 : decode cX0_stepOn 98 = .ok (.aload_n 2, 1) := by decide +kernel
theorem dX0_stepOn_99 : decode cX0_stepOn 99 = .ok (.iconst 4, 1) := by decide +kernel
theorem dX0_stepOn_100 : decode cX0_stepOn 100 = .ok (.putfield 106, 3) := by decide +kernel
theorem dX0_stepOn_103 : decode cX0_stepOn 103 = .ok (.aload 4, 2) := by decide +kernel
theorem dX0_stepOn_105 : decode cX0_stepOn 105 = .ok (.iconst 5, 1) := by decide +kernel
theorem dX0_stepOn_106 : decode cX0_stepOn 106 = .ok (.putfield 106, 3) := by decide +kernel
theorem dX0_stepOn_109 : decode cX0_stepOn 109 = .ok (.aload 4, 2) := by decide +kernel
theorem dX0_stepOn_111 : decode cX0_stepOn 111 = .ok (.aload_n 2, 1) := by decide +kernel
theorem dX0_stepOn_112 : decode cX0_stepOn 112 = .ok (.getfield 119, 3) := by decide +kernel
theorem dX0_stepOn_115 : decode cX0_stepOn 115 = .ok (.putfield 119, 3) := by decide +kernel
theorem dX0_stepOn_118 : decode cX0_stepOn 118 = .ok (.aload_n 0, 1) := by decide +kernel
theorem dX0_stepOn_119 : decode cX0_stepOn 119 = .ok (.dup, 1) := by decide +kernel
theorem dX0_stepOn_120 : decode cX0_stepOn 120 = .ok (.getfield 64, 3) := by decide +kernel
theorem dX0_stepOn_123 : decode cX0_stepOn 123 = .ok (.iconst 1, 1) := by decide +kernel
theorem dX0_stepOn_124 : decode cX0_stepOn 124 = .ok (.iadd, 1) := by decide +kernel
theorem dX0_stepOn_125 : decode cX0_stepOn 125 = .ok (.putfield 64, 3) := by decide +kernel
theorem dX0_stepOn_128 : decode cX0_stepOn 128 = .ok (.return_, 1) := by decide +kernel
theorem dX0_ringOn_0 : decode cX0_ringOn 0 = .ok (.aload_n 0, 1) := by decide +kernel
theorem dX0_ringOn_1 : decode cX0_ringOn 1 = .ok (.aload_n 1, 1) := by decide +kernel
theorem dX0_ringOn_2 : decode cX0_ringOn 2 = .ok (.getfield 129, 3) := by decide +kernel
theorem dX0_ringOn_5 : decode cX0_ringOn 5 = .ok (.invokevirtual 83, 3) := by decide +kernel
theorem dX0_ringOn_8 : decode cX0_ringOn 8 = .ok (.astore_n 3, 1) := by decide +kernel
theorem dX0_ringOn_9 : decode cX0_ringOn 9 = .ok (.aload_n 3, 1) := by decide +kernel
theorem dX0_ringOn_10 : decode cX0_ringOn 10 = .ok (.getfield 102, 3) := by decide +kernel
theorem dX0_ringOn_13 : decode cX0_ringOn 13 = .ok (.ifCond .eq 42, 3) := by decide +kernel
theorem dX0_ringOn_16 : decode cX0_ringOn 16 = .ok (.aload_n 1, 1) := by decide +kernel
theorem dX0_ringOn_17 : decode cX0_ringOn 17 = .ok (.bipush 8, 2) := by decide +kernel
theorem dX0_ringOn_19 : decode cX0_ringOn 19 = .ok (.invokevirtual 184, 3) := by decide +kernel
theorem dX0_ringOn_22 : decode cX0_ringOn 22 = .ok (.aload_n 2, 1) := by decide +kernel
theorem dX0_ringOn_23 : decode cX0_ringOn 23 = .ok (.bipush 6, 2) := by decide +kernel
theorem dX0_ringOn_25 : decode cX0_ringOn 25 = .ok (.putfield 106, 3) := by decide +kernel
theorem dX0_ringOn_28 : decode cX0_ringOn 28 = .ok (.aload_n 3, 1) := by decide +kernel
theorem dX0_ringOn_29 : decode cX0_ringOn 29 = .ok (.bipush 7, 2) := by decide +kernel
theorem dX0_ringOn_31 : decode cX0_ringOn 31 = .ok (.putfield 106, 3) := by decide +kernel
theorem dX0_ringOn_34 : decode cX0_ringOn 34 = .ok (.aload_n 2, 1) := by decide +kernel
theorem dX0_ringOn_35 : decode cX0_ringOn 35 = .ok (.dup, 1) := by decide +kernel
theorem dX0_ringOn_36 : decode cX0_ringOn 36 = .ok (.getfield 214, 3) := by decide +kernel
theorem dX0_ringOn_39 : decode cX0_ringOn 39 = .ok (.iconst 1, 1) := by decide +kernel
theorem dX0_ringOn_40 : decode cX0_ringOn 40 = .ok (.iadd, 1) := by decide +kernel
theorem dX0_ringOn_41 : decode cX0_ringOn 41 = .ok (.putfield 214, 3) := by decide +kernel
theorem dX0_ringOn_44 : decode cX0_ringOn 44 = .ok (.aload_n 0, 1) := by decide +kernel
theorem dX0_ringOn_45 : decode cX0_ringOn 45 = .ok (.dup, 1) := by decide +kernel
theorem dX0_ringOn_46 : decode cX0_ringOn 46 = .ok (.getfield 67, 3) := by decide +kernel
theorem dX0_ringOn_49 : decode cX0_ringOn 49 = .ok (.iconst 1, 1) := by decide +kernel
theorem dX0_ringOn_50 : decode cX0_ringOn 50 = .ok (.iadd, 1) := by decide +kernel
theorem dX0_ringOn_51 : decode cX0_ringOn 51 = .ok (.putfield 67, 3) := by decide +kernel
theorem dX0_ringOn_54 : decode cX0_ringOn 54 = .ok (.return_, 1) := by decide +kernel
theorem dX0_ringOn_55 : decode cX0_ringOn 55 = .ok (.aload_n 1, 1) := by decide +kernel
theorem dX0_ringOn_56 : decode cX0_ringOn 56 = .ok (.dup, 1) := by decide +kernel
theorem dX0_ringOn_57 : decode cX0_ringOn 57 = .ok (.getfield 194, 3) := by decide +kernel
theorem dX0_ringOn_60 : decode cX0_ringOn 60 = .ok (.iconst 1, 1) := by decide +kernel
theorem dX0_ringOn_61 : decode cX0_ringOn 61 = .ok (.iadd, 1) := by decide +kernel
theorem dX0_ringOn_62 : decode cX0_ringOn 62 = .ok (.putfield 194, 3) := by decide +kernel
theorem dX0_ringOn_65 : decode cX0_ringOn 65 = .ok (.aload_n 1, 1) := by decide +kernel
theorem dX0_ringOn_66 : decode cX0_ringOn 66 = .ok (.getfield 194, 3) := by decide +kernel
theorem dX0_ringOn_69 : decode cX0_ringOn 69 = .ok (.aload_n 0, 1) := by decide +kernel
theorem dX0_ringOn_70 : decode cX0_ringOn 70 = .ok (.iconst 1, 1) := by decide +kernel
theorem dX0_ringOn_71 : decode cX0_ringOn 71 = .ok (.invokevirtual 79, 3) := by decide +kernel
theorem dX0_ringOn_74 : decode cX0_ringOn 74 = .ok (.if_icmp .lt 17, 3) := by decide +kernel
theorem dX0_ringOn_77 : decode cX0_ringOn 77 = .ok (.aload_n 0, 1) := by decide +kernel
theorem dX0_ringOn_78 : decode cX0_ringOn 78 = .ok (.aload_n 1, 1) := by decide +kernel
theorem dX0_ringOn_79 : decode cX0_ringOn 79 = .ok (.aload_n 2, 1) := by decide +kernel
theorem dX0_ringOn_80 : decode cX0_ringOn 80 = .ok (.bipush 8, 2) := by decide +kernel
theorem dX0_ringOn_82 : decode cX0_ringOn 82 = .ok (.iconst 4, 1) := by decide +kernel
theorem dX0_ringOn_83 : decode cX0_ringOn 83 = .ok (.invokevirtual 200, 3) := by decide +kernel
theorem dX0_ringOn_86 : decode cX0_ringOn 86 = .ok (.aload_n 3, 1) := by decide +kernel
theorem dX0_ringOn_87 : decode cX0_ringOn 87 = .ok (.iconst 0, 1) := by decide +kernel
theorem dX0_ringOn_88 : decode cX0_ringOn 88 = .ok (.invokevirtual 125, 3) := by decide +kernel
theorem dX0_ringOn_91 : decode cX0_ringOn 91 = .ok (.return_, 1) := by decide +kernel
theorem dX0_talkOn_0 : decode cX0_talkOn 0 = .ok (.aload_n 0, 1) := by decide +kernel
theorem dX0_talkOn_1 : decode cX0_talkOn 1 = .ok (.aload_n 1, 1) := by decide +kernel
theorem dX0_talkOn_2 : decode cX0_talkOn 2 = .ok (.getfield 129, 3) := by decide +kernel
theorem dX0_talkOn_5 : decode cX0_talkOn 5 = .ok (.invokevirtual 83, 3) := by decide +kernel
theorem dX0_talkOn_8 : decode cX0_talkOn 8 = .ok (.astore_n 3, 1) := by decide +kernel
theorem dX0_talkOn_9 : decode cX0_talkOn 9 = .ok (.aload_n 3, 1) := by decide +kernel
theorem dX0_talkOn_10 : decode cX0_talkOn 10 = .ok (.getfield 102, 3) := by decide +kernel
theorem dX0_talkOn_13 : decode cX0_talkOn 13 = .ok (.ifCond .eq 11, 3) := by decide +kernel
theorem dX0_talkOn_16 : decode cX0_talkOn 16 = .ok (.aload_n 1, 1) := by decide +kernel
theorem dX0_talkOn_17 : decode cX0_talkOn 17 = .ok (.iconst 0, 1) := by decide +kernel
theorem dX0_talkOn_18 : decode cX0_talkOn 18 = .ok (.putfield 217, 3) := by decide +kernel
theorem dX0_talkOn_21 : decode cX0_talkOn 21 = .ok (.goto 47, 3) := by decide +kernel
theorem dX0_talkOn_24 : decode cX0_talkOn 24 = .ok (.aload_n 1, 1) := by decide +kernel
theorem dX0_talkOn_25 : decode cX0_talkOn 25 = .ok (.dup, 1) := by decide +kernel
theorem dX0_talkOn_26 : decode cX0_talkOn 26 = .ok (.getfield 217, 3) := by decide +kernel
theorem dX0_talkOn_29 : decode cX0_talkOn 29 = .ok (.iconst 1, 1) := by decide +kernel
theorem dX0_talkOn_30 : decode cX0_talkOn 30 = .ok (.iadd, 1) := by decide +kernel
theorem dX0_talkOn_31 : decode cX0_talkOn 31 = .ok (.putfield 217, 3) := by decide +kernel
theorem dX0_talkOn_34 : decode cX0_talkOn 34 = .ok (.aload_n 1, 1) := by decide +kernel
theorem dX0_talkOn_35 : decode cX0_talkOn 35 = .ok (.getfield 217, 3) := by decide +kernel
theorem dX0_talkOn_38 : decode cX0_talkOn 38 = .ok (.aload_n 0, 1) := by decide +kernel
theorem dX0_talkOn_39 : decode cX0_talkOn 39 = .ok (.iconst 3, 1) := by decide +kernel
theorem dX0_talkOn_40 : decode cX0_talkOn 40 = .ok (.invokevirtual 79, 3) := by decide +kernel
theorem dX0_talkOn_43 : decode cX0_talkOn 43 = .ok (.if_icmp .lt 25, 3) := by decide +kernel
theorem dX0_talkOn_46 : decode cX0_talkOn 46 = .ok (.aload_n 1, 1) := by decide +kernel
theorem dX0_talkOn_47 : decode cX0_talkOn 47 = .ok (.invokevirtual 132, 3) := by decide +kernel
theorem dX0_talkOn_50 : decode cX0_talkOn 50 = .ok (.aload_n 2, 1) := by decide +kernel
theorem dX0_talkOn_51 : decode cX0_talkOn 51 = .ok (.bipush 6, 2) := by decide +kernel
theorem dX0_talkOn_53 : decode cX0_talkOn 53 = .ok (.putfield 109, 3) := by decide +kernel
theorem dX0_talkOn_56 : decode cX0_talkOn 56 = .ok (.aload_n 2, 1) := by decide +kernel
theorem dX0_talkOn_57 : decode cX0_talkOn 57 = .ok (.bipush 10, 2) := by decide +kernel
theorem dX0_talkOn_59 : decode cX0_talkOn 59 = .ok (.invokevirtual 125, 3) := by decide +kernel
theorem dX0_talkOn_62 : decode cX0_talkOn 62 = .ok (.aload_n 3, 1) := by decide +kernel
theorem dX0_talkOn_63 : decode cX0_talkOn 63 = .ok (.iconst 0, 1) := by decide +kernel
theorem dX0_talkOn_64 : decode cX0_talkOn 64 = .ok (.invokevirtual 125, 3) := by decide +kernel
theorem dX0_talkOn_67 : decode cX0_talkOn 67 = .ok (.return_, 1) := by decide +kernel
theorem dX0_talkOn_68 : decode cX0_talkOn 68 = .ok (.aload_n 1, 1) := by decide +kernel
theorem dX0_talkOn_69 : decode cX0_talkOn 69 = .ok (.dup, 1) := by decide +kernel
theorem dX0_talkOn_70 : decode cX0_talkOn 70 = .ok (.getfield 194, 3) := by decide +kernel
theorem dX0_talkOn_73 : decode cX0_talkOn 73 = .ok (.iconst 1, 1) := by decide +kernel
theorem dX0_talkOn_74 : decode cX0_talkOn 74 = .ok (.iadd, 1) := by decide +kernel
theorem dX0_talkOn_75 : decode cX0_talkOn 75 = .ok (.putfield 194, 3) := by decide +kernel
theorem dX0_talkOn_78 : decode cX0_talkOn 78 = .ok (.aload_n 0, 1) := by decide +kernel
theorem dX0_talkOn_79 : decode cX0_talkOn 79 = .ok (.iconst 2, 1) := by decide +kernel
theorem dX0_talkOn_80 : decode cX0_talkOn 80 = .ok (.invokevirtual 79, 3) := by decide +kernel
theorem dX0_talkOn_83 : decode cX0_talkOn 83 = .ok (.istore 4, 2) := by decide +kernel
theorem dX0_talkOn_85 : decode cX0_talkOn 85 = .ok (.iload 4, 2) := by decide +kernel
theorem dX0_talkOn_87 : decode cX0_talkOn 87 = .ok (.ifCond .le 23, 3) := by decide +kernel
theorem dX0_talkOn_90 : decode cX0_talkOn 90 = .ok (.aload_n 1, 1) := by decide +kernel
theorem dX0_talkOn_91 : decode cX0_talkOn 91 = .ok (.getfield 194, 3) := by decide +kernel
theorem dX0_talkOn_94 : decode cX0_talkOn 94 = .ok (.iload 4, 2) := by decide +kernel
theorem dX0_talkOn_96 : decode cX0_talkOn 96 = .ok (.irem, 1) := by decide +kernel
theorem dX0_talkOn_97 : decode cX0_talkOn 97 = .ok (.ifCond .ne 13, 3) := by decide +kernel
theorem dX0_talkOn_100 : decode cX0_talkOn 100 = .ok (.aload_n 2, 1) := by decide +kernel
theorem dX0_talkOn_101 : decode cX0_talkOn 101 = .ok (.dup, 1) := by decide +kernel
theorem dX0_talkOn_102 : decode cX0_talkOn 102 = .ok (.getfield 214, 3) := by decide +kernel
theorem dX0_talkOn_105 : decode cX0_talkOn 105 = .ok (.iconst 1, 1) := by decide +kernel
theorem dX0_talkOn_106 : decode cX0_talkOn 106 = .ok (.iadd, 1) := by decide +kernel
theorem dX0_talkOn_107 : decode cX0_talkOn 107 = .ok (.putfield 214, 3) := by decide +kernel
theorem dX0_talkOn_110 : decode cX0_talkOn 110 = .ok (.return_, 1) := by decide +kernel
theorem dX0_soundOn_0 : decode cX0_soundOn 0 = .ok (.aload_n 1, 1) := by decide +kernel
theorem dX0_soundOn_1 : decode cX0_soundOn 1 = .ok (.dup, 1) := by decide +kernel
theorem dX0_soundOn_2 : decode cX0_soundOn 2 = .ok (.getfield 194, 3) := by decide +kernel
theorem dX0_soundOn_5 : decode cX0_soundOn 5 = .ok (.iconst 1, 1) := by decide +kernel
theorem dX0_soundOn_6 : decode cX0_soundOn 6 = .ok (.iadd, 1) := by decide +kernel
theorem dX0_soundOn_7 : decode cX0_soundOn 7 = .ok (.putfield 194, 3) := by decide +kernel
theorem dX0_soundOn_10 : decode cX0_soundOn 10 = .ok (.aload_n 1, 1) := by decide +kernel
theorem dX0_soundOn_11 : decode cX0_soundOn 11 = .ok (.getfield 194, 3) := by decide +kernel
theorem dX0_soundOn_14 : decode cX0_soundOn 14 = .ok (.aload_n 0, 1) := by decide +kernel
theorem dX0_soundOn_15 : decode cX0_soundOn 15 = .ok (.iconst 0, 1) := by decide +kernel
theorem dX0_soundOn_16 : decode cX0_soundOn 16 = .ok (.invokevirtual 79, 3) := by decide +kernel
theorem dX0_soundOn_19 : decode cX0_soundOn 19 = .ok (.if_icmp .lt 13, 3) := by decide +kernel
theorem dX0_soundOn_22 : decode cX0_soundOn 22 = .ok (.aload_n 1, 1) := by decide +kernel
theorem dX0_soundOn_23 : decode cX0_soundOn 23 = .ok (.invokevirtual 132, 3) := by decide +kernel
theorem dX0_soundOn_26 : decode cX0_soundOn 26 = .ok (.aload_n 2, 1) := by decide +kernel
theorem dX0_soundOn_27 : decode cX0_soundOn 27 = .ok (.bipush 10, 2) := by decide +kernel
theorem dX0_soundOn_29 : decode cX0_soundOn 29 = .ok (.invokevirtual 125, 3) := by decide +kernel
theorem dX0_soundOn_32 : decode cX0_soundOn 32 = .ok (.return_, 1) := by decide +kernel
theorem dX0_sound_0 : decode cX0_sound 0 = .ok (.aload_n 1, 1) := by decide +kernel
theorem dX0_sound_1 : decode cX0_sound 1 = .ok (.bipush 9, 2) := by decide +kernel
theorem dX0_sound_3 : decode cX0_sound 3 = .ok (.invokevirtual 184, 3) := by decide +kernel
theorem dX0_sound_6 : decode cX0_sound 6 = .ok (.aload_n 1, 1) := by decide +kernel
theorem dX0_sound_7 : decode cX0_sound 7 = .ok (.bipush (-6), 2) := by decide +kernel
theorem dX0_sound_9 : decode cX0_sound 9 = .ok (.putfield 204, 3) := by decide +kernel
theorem dX0_sound_12 : decode cX0_sound 12 = .ok (.aload_n 1, 1) := by decide +kernel
theorem dX0_sound_13 : decode cX0_sound 13 = .ok (.bipush (-6), 2) := by decide +kernel
theorem dX0_sound_15 : decode cX0_sound 15 = .ok (.putfield 129, 3) := by decide +kernel
theorem dX0_sound_18 : decode cX0_sound 18 = .ok (.aload_n 2, 1) := by decide +kernel
theorem dX0_sound_19 : decode cX0_sound 19 = .ok (.iload_n 3, 1) := by decide +kernel
theorem dX0_sound_20 : decode cX0_sound 20 = .ok (.putfield 106, 3) := by decide +kernel
theorem dX0_sound_23 : decode cX0_sound 23 = .ok (.aload_n 2, 1) := by decide +kernel
theorem dX0_sound_24 : decode cX0_sound 24 = .ok (.iload 4, 2) := by decide +kernel
theorem dX0_sound_26 : decode cX0_sound 26 = .ok (.putfield 109, 3) := by decide +kernel
theorem dX0_sound_29 : decode cX0_sound 29 = .ok (.iload_n 3, 1) := by decide +kernel
theorem dX0_sound_30 : decode cX0_sound 30 = .ok (.bipush 8, 2) := by decide +kernel
theorem dX0_sound_32 : decode cX0_sound 32 = .ok (.if_icmp .ne 16, 3) := by decide +kernel
theorem dX0_sound_35 : decode cX0_sound 35 = .ok (.aload_n 0, 1) := by decide +kernel
theorem dX0_sound_36 : decode cX0_sound 36 = .ok (.dup, 1) := by decide +kernel
theorem dX0_sound_37 : decode cX0_sound 37 = .ok (.getfield 70, 3) := by decide +kernel
theorem dX0_sound_40 : decode cX0_sound 40 = .ok (.iconst 1, 1) := by decide +kernel
theorem dX0_sound_41 : decode cX0_sound 41 = .ok (.iadd, 1) := by decide +kernel
theorem dX0_sound_42 : decode cX0_sound 42 = .ok (.putfield 70, 3) := by decide +kernel
theorem dX0_sound_45 : decode cX0_sound 45 = .ok (.goto 13, 3) := by decide +kernel
theorem dX0_sound_48 : decode cX0_sound 48 = .ok (.aload_n 0, 1) := by decide +kernel
theorem dX0_sound_49 : decode cX0_sound 49 = .ok (.dup, 1) := by decide +kernel
theorem dX0_sound_50 : decode cX0_sound 50 = .ok (.getfield 73, 3) := by decide +kernel
theorem dX0_sound_53 : decode cX0_sound 53 = .ok (.iconst 1, 1) := by decide +kernel
theorem dX0_sound_54 : decode cX0_sound 54 = .ok (.iadd, 1) := by decide +kernel
theorem dX0_sound_55 : decode cX0_sound 55 = .ok (.putfield 73, 3) := by decide +kernel
theorem dX0_sound_58 : decode cX0_sound 58 = .ok (.return_, 1) := by decide +kernel
theorem dX0_allotFinder_0 : decode cX0_allotFinder 0 = .ok (.aload_n 0, 1) := by decide +kernel
theorem dX0_allotFinder_1 : decode cX0_allotFinder 1 = .ok (.invokevirtual 220, 3) := by decide +kernel
theorem dX0_allotFinder_4 : decode cX0_allotFinder 4 = .ok (.istore_n 1, 1) := by decide +kernel
theorem dX0_allotFinder_5 : decode cX0_allotFinder 5 = .ok (.iload_n 1, 1) := by decide +kernel
theorem dX0_allotFinder_6 : decode cX0_allotFinder 6 = .ok (.bipush (-6), 2) := by decide +kernel
theorem dX0_allotFinder_8 : decode cX0_allotFinder 8 = .ok (.if_icmp .ne 4, 3) := by decide +kernel
theorem dX0_allotFinder_11 : decode cX0_allotFinder 11 = .ok (.return_, 1) := by decide +kernel
theorem dX0_allotFinder_12 : decode cX0_allotFinder 12 = .ok (.aload_n 0, 1) := by decide +kernel
theorem dX0_allotFinder_13 : decode cX0_allotFinder 13 = .ok (.invokevirtual 223, 3) := by decide +kernel
theorem dX0_allotFinder_16 : decode cX0_allotFinder 16 = .ok (.istore_n 2, 1) := by decide +kernel
theorem dX0_allotFinder_17 : decode cX0_allotFinder 17 = .ok (.iload_n 2, 1) := by decide +kernel
theorem dX0_allotFinder_18 : decode cX0_allotFinder 18 = .ok (.bipush (-6), 2) := by decide +kernel
theorem dX0_allotFinder_20 : decode cX0_allotFinder 20 = .ok (.if_icmp .ne 4, 3) := by decide +kernel
theorem dX0_allotFinder_23 : decode cX0_allotFinder 23 = .ok (.return_, 1) := by decide +kernel
theorem dX0_allotFinder_24 : decode cX0_allotFinder 24 = .ok (.aload_n 0, 1) := by decide +kernel
theorem dX0_allotFinder_25 : decode cX0_allotFinder 25 = .ok (.iload_n 1, 1) := by decide +kernel
theorem dX0_allotFinder_26 : decode cX0_allotFinder 26 = .ok (.invokevirtual 90, 3) := by decide +kernel
theorem dX0_allotFinder_29 : decode cX0_allotFinder 29 = .ok (.astore_n 3, 1) := by decide +kernel
theorem dX0_allotFinder_30 : decode cX0_allotFinder 30 = .ok (.aload_n 3, 1) := by decide +kernel
theorem dX0_allotFinder_31 : decode cX0_allotFinder 31 = .ok (.iconst 1, 1) := by decide +kernel
theorem dX0_allotFinder_32 : decode cX0_allotFinder 32 = .ok (.invokevirtual 184, 3) := by decide +kernel
theorem dX0_allotFinder_35 : decode cX0_allotFinder 35 = .ok (.aload_n 3, 1) := by decide +kernel
theorem dX0_allotFinder_36 : decode cX0_allotFinder 36 = .ok (.iload_n 2, 1) := by decide +kernel
theorem dX0_allotFinder_37 : decode cX0_allotFinder 37 = .ok (.putfield 151, 3) := by decide +kernel
theorem dX0_allotFinder_40 : decode cX0_allotFinder 40 = .ok (.aload_n 0, 1) := by decide +kernel
theorem dX0_allotFinder_41 : decode cX0_allotFinder 41 = .ok (.iload_n 2, 1) := by decide +kernel
theorem dX0_allotFinder_42 : decode cX0_allotFinder 42 = .ok (.invokevirtual 83, 3) := by decide +kernel
theorem dX0_allotFinder_45 : decode cX0_allotFinder 45 = .ok (.iload_n 1, 1) := by decide +kernel
theorem dX0_allotFinder_46 : decode cX0_allotFinder 46 = .ok (.putfield 119, 3) := by decide +kernel
theorem dX0_allotFinder_49 : decode cX0_allotFinder 49 = .ok (.aload_n 0, 1) := by decide +kernel
theorem dX0_allotFinder_50 : decode cX0_allotFinder 50 = .ok (.iload_n 1, 1) := by decide +kernel
theorem dX0_allotFinder_51 : decode cX0_allotFinder 51 = .ok (.putfield 55, 3) := by decide +kernel
theorem dX0_allotFinder_54 : decode cX0_allotFinder 54 = .ok (.return_, 1) := by decide +kernel
theorem dX0_countParked_0 : decode cX0_countParked 0 = .ok (.aload_n 0, 1) := by decide +kernel
theorem dX0_countParked_1 : decode cX0_countParked 1 = .ok (.iconst 4, 1) := by decide +kernel
theorem dX0_countParked_2 : decode cX0_countParked 2 = .ok (.invokevirtual 79, 3) := by decide +kernel
theorem dX0_countParked_5 : decode cX0_countParked 5 = .ok (.istore_n 1, 1) := by decide +kernel
theorem dX0_countParked_6 : decode cX0_countParked 6 = .ok (.iconst 0, 1) := by decide +kernel
theorem dX0_countParked_7 : decode cX0_countParked 7 = .ok (.istore_n 2, 1) := by decide +kernel
theorem dX0_countParked_8 : decode cX0_countParked 8 = .ok (.iload_n 2, 1) := by decide +kernel
theorem dX0_countParked_9 : decode cX0_countParked 9 = .ok (.bipush 16, 2) := by decide +kernel
theorem dX0_countParked_11 : decode cX0_countParked 11 = .ok (.if_icmp .ge 18, 3) := by decide +kernel
theorem dX0_countParked_14 : decode cX0_countParked 14 = .ok (.aload_n 0, 1) := by decide +kernel
theorem dX0_countParked_15 : decode cX0_countParked 15 = .ok (.iload_n 2, 1) := by decide +kernel
theorem dX0_countParked_16 : decode cX0_countParked 16 = .ok (.invokevirtual 83, 3) := by decide +kernel
theorem dX0_countParked_19 : decode cX0_countParked 19 = .ok (.iload_n 1, 1) := by decide +kernel
theorem dX0_countParked_20 : decode cX0_countParked 20 = .ok (.invokevirtual 226, 3) := by decide +kernel
theorem dX0_countParked_23 : decode cX0_countParked 23 = .ok (.iinc 2 1, 3) := by decide +kernel
theorem dX0_countParked_26 : decode cX0_countParked 26 = .ok (.goto (-18), 3) := by decide +kernel
theorem dX0_countParked_29 : decode cX0_countParked 29 = .ok (.return_, 1) := by decide +kernel
theorem dX0_nextFreeFinder_0 : decode cX0_nextFreeFinder 0 = .ok (.iconst 1, 1) := by decide +kernel
theorem dX0_nextFreeFinder_1 : decode cX0_nextFreeFinder 1 = .ok (.istore_n 1, 1) := by decide +kernel
theorem dX0_nextFreeFinder_2 : decode cX0_nextFreeFinder 2 = .ok (.iload_n 1, 1) := by decide +kernel
theorem dX0_nextFreeFinder_3 : decode cX0_nextFreeFinder 3 = .ok (.aload_n 0, 1) := by decide +kernel
theorem dX0_nextFreeFinder_4 : decode cX0_nextFreeFinder 4 = .ok (.getfield 45, 3) := by decide +kernel
theorem dX0_nextFreeFinder_7 : decode cX0_nextFreeFinder 7 = .ok (.if_icmp .gt 44, 3) := by decide +kernel
theorem dX0_nextFreeFinder_10 : decode cX0_nextFreeFinder 10 = .ok (.aload_n 0, 1) := by decide +kernel
theorem dX0_nextFreeFinder_11 : decode cX0_nextFreeFinder 11 = .ok (.getfield 55, 3) := by decide +kernel
theorem dX0_nextFreeFinder_14 : decode cX0_nextFreeFinder 14 = .ok (.iload_n 1, 1) := by decide +kernel
theorem dX0_nextFreeFinder_15 : decode cX0_nextFreeFinder 15 = .ok (.iadd, 1) := by decide +kernel
theorem dX0_nextFreeFinder_16 : decode cX0_nextFreeFinder 16 = .ok (.istore_n 2, 1) := by decide +kernel
theorem dX0_nextFreeFinder_17 : decode cX0_nextFreeFinder 17 = .ok (.iload_n 2, 1) := by decide +kernel
theorem dX0_nextFreeFinder_18 : decode cX0_nextFreeFinder 18 = .ok (.aload_n 0, 1) := by decide +kernel
theorem dX0_nextFreeFinder_19 : decode cX0_nextFreeFinder 19 = .ok (.getfield 45, 3) := by decide +kernel
theorem dX0_nextFreeFinder_22 : decode cX0_nextFreeFinder 22 = .ok (.if_icmp .lt 10, 3) := by decide +kernel
theorem dX0_nextFreeFinder_25 : decode cX0_nextFreeFinder 25 = .ok (.iload_n 2, 1) := by decide +kernel
theorem dX0_nextFreeFinder_26 : decode cX0_nextFreeFinder 26 = .ok (.aload_n 0, 1) := by decide +kernel
theorem dX0_nextFreeFinder_27 : decode cX0_nextFreeFinder 27 = .ok (.getfield 45, 3) := by decide +kernel
theorem dX0_nextFreeFinder_30 : decode cX0_nextFreeFinder 30 = .ok (.isub, 1) := by decide +kernel
theorem dX0_nextFreeFinder_31 : decode cX0_nextFreeFinder 31 = .ok (.istore_n 2, 1) := by decide +kernel
theorem dX0_nextFreeFinder_32 : decode cX0_nextFreeFinder 32 = .ok (.aload_n 0, 1) := by decide +kernel
theorem dX0_nextFreeFinder_33 : decode cX0_nextFreeFinder 33 = .ok (.iload_n 2, 1) := by decide +kernel
theorem dX0_nextFreeFinder_34 : decode cX0_nextFreeFinder 34 = .ok (.invokevirtual 90, 3) := by decide +kernel
theorem dX0_nextFreeFinder_37 : decode cX0_nextFreeFinder 37 = .ok (.getfield 154, 3) := by decide +kernel
theorem dX0_nextFreeFinder_40 : decode cX0_nextFreeFinder 40 = .ok (.ifCond .ne 5, 3) := by decide +kernel
theorem dX0_nextFreeFinder_43 : decode cX0_nextFreeFinder 43 = .ok (.iload_n 2, 1) := by decide +kernel
theorem dX0_nextFreeFinder_44 : decode cX0_nextFreeFinder 44 = .ok (.ireturn, 1) := by decide +kernel
theorem dX0_nextFreeFinder_45 : decode cX0_nextFreeFinder 45 = .ok (.iinc 1 1, 3) := by decide +kernel
theorem dX0_nextFreeFinder_48 : decode cX0_nextFreeFinder 48 = .ok (.goto (-46), 3) := by decide +kernel
theorem dX0_nextFreeFinder_51 : decode cX0_nextFreeFinder 51 = .ok (.bipush (-6), 2) := by decide +kernel
theorem dX0_nextFreeFinder_53 : decode cX0_nextFreeFinder 53 = .ok (.ireturn, 1) := by decide +kernel
theorem dX0_firstWaitingLine_0 : decode cX0_firstWaitingLine 0 = .ok (.bipush (-6), 2) := by decide +kernel
theorem dX0_firstWaitingLine_2 : decode cX0_firstWaitingLine 2 = .ok (.istore_n 1, 1) := by decide +kernel
theorem dX0_firstWaitingLine_3 : decode cX0_firstWaitingLine 3 = .ok (.iconst 0, 1) := by decide +kernel
theorem dX0_firstWaitingLine_4 : decode cX0_firstWaitingLine 4 = .ok (.istore_n 2, 1) := by decide +kernel
theorem dX0_firstWaitingLine_5 : decode cX0_firstWaitingLine 5 = .ok (.iload_n 2, 1) := by decide +kernel
theorem dX0_firstWaitingLine_6 : decode cX0_firstWaitingLine 6 = .ok (.bipush 16, 2) := by decide +kernel
theorem dX0_firstWaitingLine_8 : decode cX0_firstWaitingLine 8 = .ok (.if_icmp .ge 45, 3) := by decide +kernel
theorem dX0_firstWaitingLine_11 : decode cX0_firstWaitingLine 11 = .ok (.aload_n 0, 1) := by decide +kernel
theorem dX0_firstWaitingLine_12 : decode cX0_firstWaitingLine 12 = .ok (.iload_n 2, 1) := by decide +kernel
theorem dX0_firstWaitingLine_13 : decode cX0_firstWaitingLine 13 = .ok (.invokevirtual 83, 3) := by decide +kernel
theorem dX0_firstWaitingLine_16 : decode cX0_firstWaitingLine 16 = .ok (.astore_n 3, 1) := by decide +kernel
theorem dX0_firstWaitingLine_17 : decode cX0_firstWaitingLine 17 = .ok (.aload_n 3, 1) := by decide +kernel
theorem dX0_firstWaitingLine_18 : decode cX0_firstWaitingLine 18 = .ok (.invokevirtual 229, 3) := by decide +kernel
theorem dX0_firstWaitingLine_21 : decode cX0_firstWaitingLine 21 = .ok (.ifCond .eq 26, 3) := by decide +kernel
theorem dX0_firstWaitingLine_24 : decode cX0_firstWaitingLine 24 = .ok (.iload_n 1, 1) := by decide +kernel
theorem dX0_firstWaitingLine_25 : decode cX0_firstWaitingLine 25 = .ok (.bipush (-6), 2) := by decide +kernel
theorem dX0_firstWaitingLine_27 : decode cX0_firstWaitingLine 27 = .ok (.if_icmp .eq 18, 3) := by decide +kernel
theorem dX0_firstWaitingLine_30 : decode cX0_firstWaitingLine 30 = .ok (.aload_n 3, 1) := by decide +kernel
theorem dX0_firstWaitingLine_31 : decode cX0_firstWaitingLine 31 = .ok (.getfield 112, 3) := by decide +kernel
theorem dX0_firstWaitingLine_34 : decode cX0_firstWaitingLine 34 = .ok (.aload_n 0, 1) := by decide +kernel
theorem dX0_firstWaitingLine_35 : decode cX0_firstWaitingLine 35 = .ok (.iload_n 1, 1) := by decide +kernel
theorem dX0_firstWaitingLine_36 : decode cX0_firstWaitingLine 36 = .ok (.invokevirtual 83, 3) := by decide +kernel
theorem dX0_firstWaitingLine_39 : decode cX0_firstWaitingLine 39 = .ok (.getfield 112, 3) := by decide +kernel
theorem dX0_firstWaitingLine_42 : decode cX0_firstWaitingLine 42 = .ok (.if_icmp .ge 5, 3) := by decide +kernel
theorem dX0_firstWaitingLine_45 : decode cX0_firstWaitingLine 45 = .ok (.iload_n 2, 1) := by decide +kernel
theorem dX0_firstWaitingLine_46 : decode cX0_firstWaitingLine 46 = .ok (.istore_n 1, 1) := by decide +kernel
theorem dX0_firstWaitingLine_47 : decode cX0_firstWaitingLine 47 = .ok (.iinc 2 1, 3) := by decide +kernel
theorem dX0_firstWaitingLine_50 : decode cX0_firstWaitingLine 50 = .ok (.goto (-45), 3) := by decide +kernel
theorem dX0_firstWaitingLine_53 : decode cX0_firstWaitingLine 53 = .ok (.iload_n 1, 1) := by decide +kernel
theorem dX0_firstWaitingLine_54 : decode cX0_firstWaitingLine 54 = .ok (.ireturn, 1) := by decide +kernel
theorem dX0_holderOf_0 : decode cX0_holderOf 0 = .ok (.iconst 0, 1) := by decide +kernel
theorem dX0_holderOf_1 : decode cX0_holderOf 1 = .ok (.istore_n 3, 1) := by decide +kernel
theorem dX0_holderOf_2 : decode cX0_holderOf 2 = .ok (.iload_n 3, 1) := by decide +kernel
theorem dX0_holderOf_3 : decode cX0_holderOf 3 = .ok (.aload_n 0, 1) := by decide +kernel
theorem dX0_holderOf_4 : decode cX0_holderOf 4 = .ok (.getfield 45, 3) := by decide +kernel
theorem dX0_holderOf_7 : decode cX0_holderOf 7 = .ok (.if_icmp .ge 44, 3) := by decide +kernel
theorem dX0_holderOf_10 : decode cX0_holderOf 10 = .ok (.aload_n 0, 1) := by decide +kernel
theorem dX0_holderOf_11 : decode cX0_holderOf 11 = .ok (.iload_n 3, 1) := by decide +kernel
theorem dX0_holderOf_12 : decode cX0_holderOf 12 = .ok (.invokevirtual 90, 3) := by decide +kernel
theorem dX0_holderOf_15 : decode cX0_holderOf 15 = .ok (.astore 4, 2) := by decide +kernel
theorem dX0_holderOf_17 : decode cX0_holderOf 17 = .ok (.aload 4, 2) := by decide +kernel
theorem dX0_holderOf_19 : decode cX0_holderOf 19 = .ok (.invokevirtual 232, 3) := by decide +kernel
theorem dX0_holderOf_22 : decode cX0_holderOf 22 = .ok (.ifCond .eq 23, 3) := by decide +kernel
theorem dX0_holderOf_25 : decode cX0_holderOf 25 = .ok (.aload 4, 2) := by decide +kernel
theorem dX0_holderOf_27 : decode cX0_holderOf 27 = .ok (.getfield 197, 3) := by decide +kernel
theorem dX0_holderOf_30 : decode cX0_holderOf 30 = .ok (.iload_n 1, 1) := by decide +kernel
theorem dX0_holderOf_31 : decode cX0_holderOf 31 = .ok (.if_icmp .ne 14, 3) := by decide +kernel
theorem dX0_holderOf_34 : decode cX0_holderOf 34 = .ok (.aload 4, 2) := by decide +kernel
theorem dX0_holderOf_36 : decode cX0_holderOf 36 = .ok (.getfield 204, 3) := by decide +kernel
theorem dX0_holderOf_39 : decode cX0_holderOf 39 = .ok (.iload_n 2, 1) := by decide +kernel
theorem dX0_holderOf_40 : decode cX0_holderOf 40 = .ok (.if_icmp .ne 5, 3) := by decide +kernel
theorem dX0_holderOf_43 : decode cX0_holderOf 43 = .ok (.iload_n 3, 1) := by decide +kernel
theorem dX0_holderOf_44 : decode cX0_holderOf 44 = .ok (.ireturn, 1) := by decide +kernel
theorem dX0_holderOf_45 : decode cX0_holderOf 45 = .ok (.iinc 3 1, 3) := by decide +kernel
theorem dX0_holderOf_48 : decode cX0_holderOf 48 = .ok (.goto (-46), 3) := by decide +kernel
theorem dX0_holderOf_51 : decode cX0_holderOf 51 = .ok (.bipush (-6), 2) := by decide +kernel
theorem dX0_holderOf_53 : decode cX0_holderOf 53 = .ok (.ireturn, 1) := by decide +kernel
theorem dX0_ticksUntil_0 : decode cX0_ticksUntil 0 = .ok (.iconst 0, 1) := by decide +kernel
theorem dX0_ticksUntil_1 : decode cX0_ticksUntil 1 = .ok (.istore 4, 2) := by decide +kernel
theorem dX0_ticksUntil_3 : decode cX0_ticksUntil 3 = .ok (.iload 4, 2) := by decide +kernel
theorem dX0_ticksUntil_5 : decode cX0_ticksUntil 5 = .ok (.iload_n 3, 1) := by decide +kernel
theorem dX0_ticksUntil_6 : decode cX0_ticksUntil 6 = .ok (.if_icmp .ge 29, 3) := by decide +kernel
theorem dX0_ticksUntil_9 : decode cX0_ticksUntil 9 = .ok (.aload_n 0, 1) := by decide +kernel
theorem dX0_ticksUntil_10 : decode cX0_ticksUntil 10 = .ok (.iload_n 1, 1) := by decide +kernel
theorem dX0_ticksUntil_11 : decode cX0_ticksUntil 11 = .ok (.invokevirtual 83, 3) := by decide +kernel
theorem dX0_ticksUntil_14 : decode cX0_ticksUntil 14 = .ok (.getfield 106, 3) := by decide +kernel
theorem dX0_ticksUntil_17 : decode cX0_ticksUntil 17 = .ok (.iload_n 2, 1) := by decide +kernel
theorem dX0_ticksUntil_18 : decode cX0_ticksUntil 18 = .ok (.if_icmp .ne 6, 3) := by decide +kernel
theorem dX0_ticksUntil_21 : decode cX0_ticksUntil 21 = .ok (.iload 4, 2) := by decide +kernel
theorem dX0_ticksUntil_23 : decode cX0_ticksUntil 23 = .ok (.ireturn, 1) := by decide +kernel
theorem dX0_ticksUntil_24 : decode cX0_ticksUntil 24 = .ok (.aload_n 0, 1) := by decide +kernel
theorem dX0_ticksUntil_25 : decode cX0_ticksUntil 25 = .ok (.iconst 1, 1) := by decide +kernel
theorem dX0_ticksUntil_26 : decode cX0_ticksUntil 26 = .ok (.invokevirtual 235, 3) := by decide +kernel
theorem dX0_ticksUntil_29 : decode cX0_ticksUntil 29 = .ok (.iinc 4 1, 3) := by decide +kernel
theorem dX0_ticksUntil_32 : decode cX0_ticksUntil 32 = .ok (.goto (-29), 3) := by decide +kernel
theorem dX0_ticksUntil_35 : decode cX0_ticksUntil 35 = .ok (.aload_n 0, 1) := by decide +kernel
theorem dX0_ticksUntil_36 : decode cX0_ticksUntil 36 = .ok (.iload_n 1, 1) := by decide +kernel
theorem dX0_ticksUntil_37 : decode cX0_ticksUntil 37 = .ok (.invokevirtual 83, 3) := by decide +kernel
theorem dX0_ticksUntil_40 : decode cX0_ticksUntil 40 = .ok (.getfield 106, 3) := by decide +kernel
theorem dX0_ticksUntil_43 : decode cX0_ticksUntil 43 = .ok (.iload_n 2, 1) := by decide +kernel
theorem dX0_ticksUntil_44 : decode cX0_ticksUntil 44 = .ok (.if_icmp .ne 7, 3) := by decide +kernel
theorem dX0_ticksUntil_47 : decode cX0_ticksUntil 47 = .ok (.iload_n 3, 1) := by decide +kernel
theorem dX0_ticksUntil_48 : decode cX0_ticksUntil 48 = .ok (.goto 5, 3) := by decide +kernel
theorem dX0_ticksUntil_51 : decode cX0_ticksUntil 51 = .ok (.bipush (-6), 2) := by decide +kernel
theorem dX0_ticksUntil_53 : decode cX0_ticksUntil 53 = .ok (.ireturn, 1) := by decide +kernel
theorem dX0_tryCall_0 : decode cX0_tryCall 0 = .ok (.aload_n 0, 1) := by decide +kernel
theorem dX0_tryCall_1 : decode cX0_tryCall 1 = .ok (.iload_n 1, 1) := by decide +kernel
theorem dX0_tryCall_2 : decode cX0_tryCall 2 = .ok (.invokevirtual 238, 3) := by decide +kernel
theorem dX0_tryCall_5 : decode cX0_tryCall 5 = .ok (.pop, 1) := by decide +kernel
theorem dX0_tryCall_6 : decode cX0_tryCall 6 = .ok (.iconst 1, 1) := by decide +kernel
theorem dX0_tryCall_7 : decode cX0_tryCall 7 = .ok (.istore_n 3, 1) := by decide +kernel
theorem dX0_tryCall_8 : decode cX0_tryCall 8 = .ok (.iload_n 3, 1) := by decide +kernel
theorem dX0_tryCall_9 : decode cX0_tryCall 9 = .ok (.sipush 500, 3) := by decide +kernel
theorem dX0_tryCall_12 : decode cX0_tryCall 12 = .ok (.if_icmp .gt 62, 3) := by decide +kernel
theorem dX0_tryCall_15 : decode cX0_tryCall 15 = .ok (.aload_n 0, 1) := by decide +kernel
theorem dX0_tryCall_16 : decode cX0_tryCall 16 = .ok (.iconst 1, 1) := by decide +kernel
theorem dX0_tryCall_17 : decode cX0_tryCall 17 = .ok (.invokevirtual 235, 3) := by decide +kernel
theorem dX0_tryCall_20 : decode cX0_tryCall 20 = .ok (.aload_n 0, 1) := by decide +kernel
theorem dX0_tryCall_21 : decode cX0_tryCall 21 = .ok (.iload_n 1, 1) := by decide +kernel
theorem dX0_tryCall_22 : decode cX0_tryCall 22 = .ok (.invokevirtual 83, 3) := by decide +kernel
theorem dX0_tryCall_25 : decode cX0_tryCall 25 = .ok (.getfield 106, 3) := by decide +kernel
theorem dX0_tryCall_28 : decode cX0_tryCall 28 = .ok (.istore 4, 2) := by decide +kernel
theorem dX0_tryCall_30 : decode cX0_tryCall 30 = .ok (.iload 4, 2) := by decide +kernel
theorem dX0_tryCall_32 : decode cX0_tryCall 32 = .ok (.invokestatic 241, 3) := by decide +kernel
theorem dX0_tryCall_35 : decode cX0_tryCall 35 = .ok (.ifCond .eq 5, 3) := by decide +kernel
theorem dX0_tryCall_38 : decode cX0_tryCall 38 = .ok (.iload_n 3, 1) := by decide +kernel
theorem dX0_tryCall_39 : decode cX0_tryCall 39 = .ok (.ireturn, 1) := by decide +kernel
theorem dX0_tryCall_40 : decode cX0_tryCall 40 = .ok (.iload 4, 2) := by decide +kernel
theorem dX0_tryCall_42 : decode cX0_tryCall 42 = .ok (.iconst 2, 1) := by decide +kernel
theorem dX0_tryCall_43 : decode cX0_tryCall 43 = .ok (.if_icmp .ne 25, 3) := by decide +kernel
theorem dX0_tryCall_46 : decode cX0_tryCall 46 = .ok (.aload_n 0, 1) := by decide +kernel
theorem dX0_tryCall_47 : decode cX0_tryCall 47 = .ok (.iload_n 1, 1) := by decide +kernel
theorem dX0_tryCall_48 : decode cX0_tryCall 48 = .ok (.iload_n 2, 1) := by decide +kernel
theorem dX0_tryCall_49 : decode cX0_tryCall 49 = .ok (.iconst 4, 1) := by decide +kernel
theorem dX0_tryCall_50 : decode cX0_tryCall 50 = .ok (.idiv, 1) := by decide +kernel
theorem dX0_tryCall_51 : decode cX0_tryCall 51 = .ok (.iconst 1, 1) := by decide +kernel
theorem dX0_tryCall_52 : decode cX0_tryCall 52 = .ok (.iadd, 1) := by decide +kernel
theorem dX0_tryCall_53 : decode cX0_tryCall 53 = .ok (.invokevirtual 245, 3) := by decide +kernel
theorem dX0_tryCall_56 : decode cX0_tryCall 56 = .ok (.pop, 1) := by decide +kernel
theorem dX0_tryCall_57 : decode cX0_tryCall 57 = .ok (.aload_n 0, 1) := by decide +kernel
theorem dX0_tryCall_58 : decode cX0_tryCall 58 = .ok (.iload_n 1, 1) := by decide +kernel
theorem dX0_tryCall_59 : decode cX0_tryCall 59 = .ok (.iload_n 2, 1) := by decide +kernel
theorem dX0_tryCall_60 : decode cX0_tryCall 60 = .ok (.iconst 4, 1) := by decide +kernel
theorem dX0_tryCall_61 : decode cX0_tryCall 61 = .ok (.irem, 1) := by decide +kernel
theorem dX0_tryCall_62 : decode cX0_tryCall 62 = .ok (.iconst 1, 1) := by decide +kernel
theorem dX0_tryCall_63 : decode cX0_tryCall 63 = .ok (.iadd, 1) := by decide +kernel
theorem dX0_tryCall_64 : decode cX0_tryCall 64 = .ok (.invokevirtual 245, 3) := by decide +kernel
theorem dX0_tryCall_67 : decode cX0_tryCall 67 = .ok (.pop, 1) := by decide +kernel
theorem dX0_tryCall_68 : decode cX0_tryCall 68 = .ok (.iinc 3 1, 3) := by decide +kernel
theorem dX0_tryCall_71 : decode cX0_tryCall 71 = .ok (.goto (-63), 3) := by decide +kernel
theorem dX0_tryCall_74 : decode cX0_tryCall 74 = .ok (.sipush 500, 3) := by decide +kernel
theorem dX0_tryCall_77 : decode cX0_tryCall 77 = .ok (.ireturn, 1) := by decide +kernel
theorem dX0_endsTrial_0 : decode cX0_endsTrial 0 = .ok (.iload_n 0, 1) := by decide +kernel
theorem dX0_endsTrial_1 : decode cX0_endsTrial 1 = .ok (.iconst 4, 1) := by decide +kernel
theorem dX0_endsTrial_2 : decode cX0_endsTrial 2 = .ok (.if_icmp .eq 27, 3) := by decide +kernel
theorem dX0_endsTrial_5 : decode cX0_endsTrial 5 = .ok (.iload_n 0, 1) := by decide +kernel
theorem dX0_endsTrial_6 : decode cX0_endsTrial 6 = .ok (.bipush 8, 2) := by decide +kernel
theorem dX0_endsTrial_8 : decode cX0_endsTrial 8 = .ok (.if_icmp .eq 21, 3) := by decide +kernel
theorem dX0_endsTrial_11 : decode cX0_endsTrial 11 = .ok (.iload_n 0, 1) := by decide +kernel
theorem dX0_endsTrial_12 : decode cX0_endsTrial 12 = .ok (.bipush 9, 2) := by decide +kernel
theorem dX0_endsTrial_14 : decode cX0_endsTrial 14 = .ok (.if_icmp .eq 15, 3) := by decide +kernel
theorem dX0_endsTrial_17 : decode cX0_endsTrial 17 = .ok (.iload_n 0, 1) := by decide +kernel
theorem dX0_endsTrial_18 : decode cX0_endsTrial 18 = .ok (.bipush 10, 2) := by decide +kernel
theorem dX0_endsTrial_20 : decode cX0_endsTrial 20 = .ok (.if_icmp .eq 9, 3) := by decide +kernel
theorem dX0_endsTrial_23 : decode cX0_endsTrial 23 = .ok (.iload_n 0, 1) := by decide +kernel
theorem dX0_endsTrial_24 : decode cX0_endsTrial 24 = .ok (.bipush 11, 2) := by decide +kernel
theorem dX0_endsTrial_26 : decode cX0_endsTrial 26 = .ok (.if_icmp .ne 7, 3) := by decide +kernel
theorem dX0_endsTrial_29 : decode cX0_endsTrial 29 = .ok (.iconst 1, 1) := by decide +kernel
theorem dX0_endsTrial_30 : decode cX0_endsTrial 30 = .ok (.goto 4, 3) := by decide +kernel
theorem dX0_endsTrial_33 : decode cX0_endsTrial 33 = .ok (.iconst 0, 1) := by decide +kernel
theorem dX0_endsTrial_34 : decode cX0_endsTrial 34 = .ok (.ireturn, 1) := by decide +kernel
theorem dX0_numberOfLine_0 : decode cX0_numberOfLine 0 = .ok (.aload_n 0, 1) := by decide +kernel
theorem dX0_numberOfLine_1 : decode cX0_numberOfLine 1 = .ok (.iload_n 1, 1) := by decide +kernel
theorem dX0_numberOfLine_2 : decode cX0_numberOfLine 2 = .ok (.invokevirtual 83, 3) := by decide +kernel
theorem dX0_numberOfLine_5 : decode cX0_numberOfLine 5 = .ok (.astore_n 3, 1) := by decide +kernel
theorem dX0_numberOfLine_6 : decode cX0_numberOfLine 6 = .ok (.iload_n 2, 1) := by decide +kernel
theorem dX0_numberOfLine_7 : decode cX0_numberOfLine 7 = .ok (.tableswitch 104 0 8 #[49, 54, 67, 72, 78, 83, 88, 93, 99], 49) := by decide +kernel
theorem dX0_numberOfLine_56 : decode cX0_numberOfLine 56 = .ok (.aload_n 3, 1) := by decide +kernel
theorem dX0_numberOfLine_57 : decode cX0_numberOfLine 57 = .ok (.getfield 106, 3) := by decide +kernel
theorem dX0_numberOfLine_60 : decode cX0_numberOfLine 60 = .ok (.ireturn, 1) := by decide +kernel
theorem dX0_numberOfLine_61 : decode cX0_numberOfLine 61 = .ok (.aload_n 3, 1) := by decide +kernel
theorem dX0_numberOfLine_62 : decode cX0_numberOfLine 62 = .ok (.getfield 102, 3) := by decide +kernel
theorem dX0_numberOfLine_65 : decode cX0_numberOfLine 65 = .ok (.ifCond .eq 7, 3) := by decide +kernel
theorem dX0_numberOfLine_68 : decode cX0_numberOfLine 68 = .ok (.iconst 1, 1) := by decide +kernel
theorem dX0_numberOfLine_69 : decode cX0_numberOfLine 69 = .ok (.goto 4, 3) := by decide +kernel
theorem dX0_numberOfLine_72 : decode cX0_numberOfLine 72 = .ok (.iconst 0, 1) := by decide +kernel
theorem dX0_numberOfLine_73 : decode cX0_numberOfLine 73 = .ok (.ireturn, 1) := by decide +kernel
theorem dX0_numberOfLine_74 : decode cX0_numberOfLine 74 = .ok (.aload_n 3, 1) := by decide +kernel
theorem dX0_numberOfLine_75 : decode cX0_numberOfLine 75 = .ok (.getfield 119, 3) := by decide +kernel
theorem dX0_numberOfLine_78 : decode cX0_numberOfLine 78 = .ok (.ireturn, 1) := by decide +kernel
theorem dX0_numberOfLine_79 : decode cX0_numberOfLine 79 = .ok (.aload_n 0, 1) := by decide +kernel
theorem dX0_numberOfLine_80 : decode cX0_numberOfLine 80 = .ok (.aload_n 3, 1) := by decide +kernel
theorem dX0_numberOfLine_81 : decode cX0_numberOfLine 81 = .ok (.invokevirtual 248, 3) := by decide +kernel
theorem dX0_numberOfLine_84 : decode cX0_numberOfLine 84 = .ok (.ireturn, 1) := by decide +kernel
theorem dX0_numberOfLine_85 : decode cX0_numberOfLine 85 = .ok (.aload_n 3, 1) := by decide +kernel
theorem dX0_numberOfLine_86 : decode cX0_numberOfLine 86 = .ok (.getfield 135, 3) := by decide +kernel
theorem dX0_numberOfLine_89 : decode cX0_numberOfLine 89 = .ok (.ireturn, 1) := by decide +kernel
theorem dX0_numberOfLine_90 : decode cX0_numberOfLine 90 = .ok (.aload_n 3, 1) := by decide +kernel
theorem dX0_numberOfLine_91 : decode cX0_numberOfLine 91 = .ok (.getfield 214, 3) := by decide +kernel
theorem dX0_numberOfLine_94 : decode cX0_numberOfLine 94 = .ok (.ireturn, 1) := by decide +kernel
theorem dX0_numberOfLine_95 : decode cX0_numberOfLine 95 = .ok (.aload_n 3, 1) := by decide +kernel
theorem dX0_numberOfLine_96 : decode cX0_numberOfLine 96 = .ok (.getfield 109, 3) := by decide +kernel
theorem dX0_numberOfLine_99 : decode cX0_numberOfLine 99 = .ok (.ireturn, 1) := by decide +kernel
theorem dX0_numberOfLine_100 : decode cX0_numberOfLine 100 = .ok (.aload_n 0, 1) := by decide +kernel
theorem dX0_numberOfLine_101 : decode cX0_numberOfLine 101 = .ok (.aload_n 3, 1) := by decide +kernel
theorem dX0_numberOfLine_102 : decode cX0_numberOfLine 102 = .ok (.invokevirtual 252, 3) := by decide +kernel
theorem dX0_numberOfLine_105 : decode cX0_numberOfLine 105 = .ok (.ireturn, 1) := by decide +kernel
theorem dX0_numberOfLine_106 : decode cX0_numberOfLine 106 = .ok (.aload_n 3, 1) := by decide +kernel
theorem dX0_numberOfLine_107 : decode cX0_numberOfLine 107 = .ok (.getfield 255, 3) := by decide +kernel
theorem dX0_numberOfLine_110 : decode cX0_numberOfLine 110 = .ok (.ireturn, 1) := by decide +kernel
theorem dX0_numberOfLine_111 : decode cX0_numberOfLine 111 = .ok (.bipush (-2), 2) := by decide +kernel
theorem dX0_numberOfLine_113 : decode cX0_numberOfLine 113 = .ok (.ireturn, 1) := by decide +kernel
theorem dX0_partnerOf_0 : decode cX0_partnerOf 0 = .ok (.aload_n 0, 1) := by decide +kernel
theorem dX0_partnerOf_1 : decode cX0_partnerOf 1 = .ok (.aload_n 1, 1) := by decide +kernel
theorem dX0_partnerOf_2 : decode cX0_partnerOf 2 = .ok (.getfield 119, 3) := by decide +kernel
theorem dX0_partnerOf_5 : decode cX0_partnerOf 5 = .ok (.invokevirtual 90, 3) := by decide +kernel
theorem dX0_partnerOf_8 : decode cX0_partnerOf 8 = .ok (.astore_n 2, 1) := by decide +kernel
theorem dX0_partnerOf_9 : decode cX0_partnerOf 9 = .ok (.aload_n 1, 1) := by decide +kernel
theorem dX0_partnerOf_10 : decode cX0_partnerOf 10 = .ok (.invokevirtual 258, 3) := by decide +kernel
theorem dX0_partnerOf_13 : decode cX0_partnerOf 13 = .ok (.ifCond .eq 8, 3) := by decide +kernel
theorem dX0_partnerOf_16 : decode cX0_partnerOf 16 = .ok (.aload_n 2, 1) := by decide +kernel
theorem dX0_partnerOf_17 : decode cX0_partnerOf 17 = .ok (.getfield 129, 3) := by decide +kernel
theorem dX0_partnerOf_20 : decode cX0_partnerOf 20 = .ok (.ireturn, 1) := by decide +kernel
theorem dX0_partnerOf_21 : decode cX0_partnerOf 21 = .ok (.aload_n 1, 1) := by decide +kernel
theorem dX0_partnerOf_22 : decode cX0_partnerOf 22 = .ok (.invokevirtual 115, 3) := by decide +kernel
theorem dX0_partnerOf_25 : decode cX0_partnerOf 25 = .ok (.ifCond .eq 10, 3) := by decide +kernel
theorem dX0_partnerOf_28 : decode cX0_partnerOf 28 = .ok (.aload_n 2, 1) := by decide +kernel
theorem dX0_partnerOf_29 : decode cX0_partnerOf 29 = .ok (.getfield 151, 3) := by decide +kernel
theorem dX0_partnerOf_32 : decode cX0_partnerOf 32 = .ok (.goto 5, 3) := by decide +kernel
theorem dX0_partnerOf_35 : decode cX0_partnerOf 35 = .ok (.bipush (-6), 2) := by decide +kernel
theorem dX0_partnerOf_37 : decode cX0_partnerOf 37 = .ok (.ireturn, 1) := by decide +kernel
theorem dX0_placeOf_0 : decode cX0_placeOf 0 = .ok (.aload_n 1, 1) := by decide +kernel
theorem dX0_placeOf_1 : decode cX0_placeOf 1 = .ok (.invokevirtual 229, 3) := by decide +kernel
theorem dX0_placeOf_4 : decode cX0_placeOf 4 = .ok (.ifCond .ne 6, 3) := by decide +kernel
theorem dX0_placeOf_7 : decode cX0_placeOf 7 = .ok (.bipush (-6), 2) := by decide +kernel
theorem dX0_placeOf_9 : decode cX0_placeOf 9 = .ok (.ireturn, 1) := by decide +kernel
theorem dX0_placeOf_10 : decode cX0_placeOf 10 = .ok (.iconst 0, 1) := by decide +kernel
theorem dX0_placeOf_11 : decode cX0_placeOf 11 = .ok (.istore_n 2, 1) := by decide +kernel
theorem dX0_placeOf_12 : decode cX0_placeOf 12 = .ok (.iconst 0, 1) := by decide +kernel
theorem dX0_placeOf_13 : decode cX0_placeOf 13 = .ok (.istore_n 3, 1) := by decide +kernel
theorem dX0_placeOf_14 : decode cX0_placeOf 14 = .ok (.iload_n 3, 1) := by decide +kernel
theorem dX0_placeOf_15 : decode cX0_placeOf 15 = .ok (.bipush 16, 2) := by decide +kernel
theorem dX0_placeOf_17 : decode cX0_placeOf 17 = .ok (.if_icmp .ge 38, 3) := by decide +kernel
theorem dX0_placeOf_20 : decode cX0_placeOf 20 = .ok (.aload_n 0, 1) := by decide +kernel
theorem dX0_placeOf_21 : decode cX0_placeOf 21 = .ok (.iload_n 3, 1) := by decide +kernel
theorem dX0_placeOf_22 : decode cX0_placeOf 22 = .ok (.invokevirtual 83, 3) := by decide +kernel
theorem dX0_placeOf_25 : decode cX0_placeOf 25 = .ok (.invokevirtual 229, 3) := by decide +kernel
theorem dX0_placeOf_28 : decode cX0_placeOf 28 = .ok (.ifCond .eq 21, 3) := by decide +kernel
theorem dX0_placeOf_31 : decode cX0_placeOf 31 = .ok (.aload_n 0, 1) := by decide +kernel
theorem dX0_placeOf_32 : decode cX0_placeOf 32 = .ok (.iload_n 3, 1) := by decide +kernel
theorem dX0_placeOf_33 : decode cX0_placeOf 33 = .ok (.invokevirtual 83, 3) := by decide +kernel
theorem dX0_placeOf_36 : decode cX0_placeOf 36 = .ok (.getfield 112, 3) := by decide +kernel
theorem dX0_placeOf_39 : decode cX0_placeOf 39 = .ok (.aload_n 1, 1) := by decide +kernel
theorem dX0_placeOf_40 : decode cX0_placeOf 40 = .ok (.getfield 112, 3) := by decide +kernel
theorem dX0_placeOf_43 : decode cX0_placeOf 43 = .ok (.if_icmp .ge 6, 3) := by decide +kernel
theorem dX0_placeOf_46 : decode cX0_placeOf 46 = .ok (.iinc 2 1, 3) := by decide +kernel
theorem dX0_placeOf_49 : decode cX0_placeOf 49 = .ok (.iinc 3 1, 3) := by decide +kernel
theorem dX0_placeOf_52 : decode cX0_placeOf 52 = .ok (.goto (-38), 3) := by decide +kernel
theorem dX0_placeOf_55 : decode cX0_placeOf 55 = .ok (.iload_n 2, 1) := by decide +kernel
theorem dX0_placeOf_56 : decode cX0_placeOf 56 = .ok (.ireturn, 1) := by decide +kernel
theorem dX0_traceFrom_0 : decode cX0_traceFrom 0 = .ok (.aload_n 0, 1) := by decide +kernel
theorem dX0_traceFrom_1 : decode cX0_traceFrom 1 = .ok (.iload_n 1, 1) := by decide +kernel
theorem dX0_traceFrom_2 : decode cX0_traceFrom 2 = .ok (.invokevirtual 83, 3) := by decide +kernel
theorem dX0_traceFrom_5 : decode cX0_traceFrom 5 = .ok (.astore_n 3, 1) := by decide +kernel
theorem dX0_traceFrom_6 : decode cX0_traceFrom 6 = .ok (.aload_n 3, 1) := by decide +kernel
theorem dX0_traceFrom_7 : decode cX0_traceFrom 7 = .ok (.invokevirtual 115, 3) := by decide +kernel
theorem dX0_traceFrom_10 : decode cX0_traceFrom 10 = .ok (.ifCond .ne 6, 3) := by decide +kernel
theorem dX0_traceFrom_13 : decode cX0_traceFrom 13 = .ok (.bipush (-6), 2) := by decide +kernel
theorem dX0_traceFrom_15 : decode cX0_traceFrom 15 = .ok (.ireturn, 1) := by decide +kernel
theorem dX0_traceFrom_16 : decode cX0_traceFrom 16 = .ok (.iload_n 2, 1) := by decide +kernel
theorem dX0_traceFrom_17 : decode cX0_traceFrom 17 = .ok (.iconst 1, 1) := by decide +kernel
theorem dX0_traceFrom_18 : decode cX0_traceFrom 18 = .ok (.if_icmp .ne 8, 3) := by decide +kernel
theorem dX0_traceFrom_21 : decode cX0_traceFrom 21 = .ok (.aload_n 3, 1) := by decide +kernel
theorem dX0_traceFrom_22 : decode cX0_traceFrom 22 = .ok (.getfield 119, 3) := by decide +kernel
theorem dX0_traceFrom_25 : decode cX0_traceFrom 25 = .ok (.ireturn, 1) := by decide +kernel
theorem dX0_traceFrom_26 : decode cX0_traceFrom 26 = .ok (.aload_n 0, 1) := by decide +kernel
theorem dX0_traceFrom_27 : decode cX0_traceFrom 27 = .ok (.aload_n 3, 1) := by decide +kernel
theorem dX0_traceFrom_28 : decode cX0_traceFrom 28 = .ok (.getfield 119, 3) := by decide +kernel
theorem dX0_traceFrom_31 : decode cX0_traceFrom 31 = .ok (.invokevirtual 90, 3) := by decide +kernel
theorem dX0_traceFrom_34 : decode cX0_traceFrom 34 = .ok (.astore 4, 2) := by decide +kernel
theorem dX0_traceFrom_36 : decode cX0_traceFrom 36 = .ok (.iload_n 2, 1) := by decide +kernel
theorem dX0_traceFrom_37 : decode cX0_traceFrom 37 = .ok (.ifCond .ne 11, 3) := by decide +kernel
theorem dX0_traceFrom_40 : decode cX0_traceFrom 40 = .ok (.aload 4, 2) := by decide +kernel
theorem dX0_traceFrom_42 : decode cX0_traceFrom 42 = .ok (.getfield 204, 3) := by decide +kernel
theorem dX0_traceFrom_45 : decode cX0_traceFrom 45 = .ok (.goto 8, 3) := by decide +kernel
theorem dX0_traceFrom_48 : decode cX0_traceFrom 48 = .ok (.aload 4, 2) := by decide +kernel
theorem dX0_traceFrom_50 : decode cX0_traceFrom 50 = .ok (.getfield 151, 3) := by decide +kernel
theorem dX0_traceFrom_53 : decode cX0_traceFrom 53 = .ok (.ireturn, 1) := by decide +kernel
theorem dX0_numberFor_0 : decode cX0_numberFor 0 = .ok (.iload_n 1, 1) := by decide +kernel
theorem dX0_numberFor_1 : decode cX0_numberFor 1 = .ok (.tableswitch 141 0 13 #[71, 76, 81, 86, 91, 96, 101, 106, 111, 116, 121, 126, 131, 136], 71) := by decide +kernel
theorem dX0_numberFor_72 : decode cX0_numberFor 72 = .ok (.aload_n 0, 1) := by decide +kernel
theorem dX0_numberFor_73 : decode cX0_numberFor 73 = .ok (.getfield 52, 3) := by decide +kernel
theorem dX0_numberFor_76 : decode cX0_numberFor 76 = .ok (.ireturn, 1) := by decide +kernel
theorem dX0_numberFor_77 : decode cX0_numberFor 77 = .ok (.aload_n 0, 1) := by decide +kernel
theorem dX0_numberFor_78 : decode cX0_numberFor 78 = .ok (.getfield 45, 3) := by decide +kernel
theorem dX0_numberFor_81 : decode cX0_numberFor 81 = .ok (.ireturn, 1) := by decide +kernel
theorem dX0_numberFor_82 : decode cX0_numberFor 82 = .ok (.aload_n 0, 1) := by decide +kernel
theorem dX0_numberFor_83 : decode cX0_numberFor 83 = .ok (.getfield 49, 3) := by decide +kernel
theorem dX0_numberFor_86 : decode cX0_numberFor 86 = .ok (.ireturn, 1) := by decide +kernel
theorem dX0_numberFor_87 : decode cX0_numberFor 87 = .ok (.aload_n 0, 1) := by decide +kernel
theorem dX0_numberFor_88 : decode cX0_numberFor 88 = .ok (.invokevirtual 261, 3) := by decide +kernel
theorem dX0_numberFor_91 : decode cX0_numberFor 91 = .ok (.ireturn, 1) := by decide +kernel
theorem dX0_numberFor_92 : decode cX0_numberFor 92 = .ok (.aload_n 0, 1) := by decide +kernel
theorem dX0_numberFor_93 : decode cX0_numberFor 93 = .ok (.invokevirtual 264, 3) := by decide +kernel
theorem dX0_numberFor_96 : decode cX0_numberFor 96 = .ok (.ireturn, 1) := by decide +kernel
theorem dX0_numberFor_97 : decode cX0_numberFor 97 = .ok (.aload_n 0, 1) := by decide +kernel
theorem dX0_numberFor_98 : decode cX0_numberFor 98 = .ok (.invokevirtual 267, 3) := by decide +kernel
theorem dX0_numberFor_101 : decode cX0_numberFor 101 = .ok (.ireturn, 1) := by decide +kernel
theorem dX0_numberFor_102 : decode cX0_numberFor 102 = .ok (.aload_n 0, 1) := by decide +kernel
theorem dX0_numberFor_103 : decode cX0_numberFor 103 = .ok (.getfield 58, 3) := by decide +kernel
theorem dX0_numberFor_106 : decode cX0_numberFor 106 = .ok (.ireturn, 1) := by decide +kernel
theorem dX0_numberFor_107 : decode cX0_numberFor 107 = .ok (.aload_n 0, 1) := by decide +kernel
theorem dX0_numberFor_108 : decode cX0_numberFor 108 = .ok (.getfield 61, 3) := by decide +kernel
theorem dX0_numberFor_111 : decode cX0_numberFor 111 = .ok (.ireturn, 1) := by decide +kernel
theorem dX0_numberFor_112 : decode cX0_numberFor 112 = .ok (.aload_n 0, 1) := by decide +kernel
theorem dX0_numberFor_113 : decode cX0_numberFor 113 = .ok (.getfield 64, 3) := by decide +kernel
theorem dX0_numberFor_116 : decode cX0_numberFor 116 = .ok (.ireturn, 1) := by decide +kernel
theorem dX0_numberFor_117 : decode cX0_numberFor 117 = .ok (.aload_n 0, 1) := by decide +kernel
theorem dX0_numberFor_118 : decode cX0_numberFor 118 = .ok (.getfield 67, 3) := by decide +kernel
theorem dX0_numberFor_121 : decode cX0_numberFor 121 = .ok (.ireturn, 1) := by decide +kernel
theorem dX0_numberFor_122 : decode cX0_numberFor 122 = .ok (.aload_n 0, 1) := by decide +kernel
theorem dX0_numberFor_123 : decode cX0_numberFor 123 = .ok (.getfield 70, 3) := by decide +kernel
theorem dX0_numberFor_126 : decode cX0_numberFor 126 = .ok (.ireturn, 1) := by decide +kernel
theorem dX0_numberFor_127 : decode cX0_numberFor 127 = .ok (.aload_n 0, 1) := by decide +kernel
theorem dX0_numberFor_128 : decode cX0_numberFor 128 = .ok (.getfield 73, 3) := by decide +kernel
theorem dX0_numberFor_131 : decode cX0_numberFor 131 = .ok (.ireturn, 1) := by decide +kernel
theorem dX0_numberFor_132 : decode cX0_numberFor 132 = .ok (.aload_n 0, 1) := by decide +kernel
theorem dX0_numberFor_133 : decode cX0_numberFor 133 = .ok (.getfield 76, 3) := by decide +kernel
theorem dX0_numberFor_136 : decode cX0_numberFor 136 = .ok (.ireturn, 1) := by decide +kernel
theorem dX0_numberFor_137 : decode cX0_numberFor 137 = .ok (.aload_n 0, 1) := by decide +kernel
theorem dX0_numberFor_138 : decode cX0_numberFor 138 = .ok (.invokevirtual 270, 3) := by decide +kernel
theorem dX0_numberFor_141 : decode cX0_numberFor 141 = .ok (.ireturn, 1) := by decide +kernel
theorem dX0_numberFor_142 : decode cX0_numberFor 142 = .ok (.aload_n 0, 1) := by decide +kernel
theorem dX0_numberFor_143 : decode cX0_numberFor 143 = .ok (.iload_n 1, 1) := by decide +kernel
theorem dX0_numberFor_144 : decode cX0_numberFor 144 = .ok (.bipush 15, 2) := by decide +kernel
theorem dX0_numberFor_146 : decode cX0_numberFor 146 = .ok (.isub, 1) := by decide +kernel
theorem dX0_numberFor_147 : decode cX0_numberFor 147 = .ok (.invokevirtual 79, 3) := by decide +kernel
theorem dX0_numberFor_150 : decode cX0_numberFor 150 = .ok (.ireturn, 1) := by decide +kernel
theorem dX0_freeFinders_0 : decode cX0_freeFinders 0 = .ok (.iconst 0, 1) := by decide +kernel
theorem dX0_freeFinders_1 : decode cX0_freeFinders 1 = .ok (.istore_n 1, 1) := by decide +kernel
theorem dX0_freeFinders_2 : decode cX0_freeFinders 2 = .ok (.iconst 0, 1) := by decide +kernel
theorem dX0_freeFinders_3 : decode cX0_freeFinders 3 = .ok (.istore_n 2, 1) := by decide +kernel
theorem dX0_freeFinders_4 : decode cX0_freeFinders 4 = .ok (.iload_n 2, 1) := by decide +kernel
theorem dX0_freeFinders_5 : decode cX0_freeFinders 5 = .ok (.aload_n 0, 1) := by decide +kernel
theorem dX0_freeFinders_6 : decode cX0_freeFinders 6 = .ok (.getfield 45, 3) := by decide +kernel
theorem dX0_freeFinders_9 : decode cX0_freeFinders 9 = .ok (.if_icmp .ge 23, 3) := by decide +kernel
theorem dX0_freeFinders_12 : decode cX0_freeFinders 12 = .ok (.aload_n 0, 1) := by decide +kernel
theorem dX0_freeFinders_13 : decode cX0_freeFinders 13 = .ok (.iload_n 2, 1) := by decide +kernel
theorem dX0_freeFinders_14 : decode cX0_freeFinders 14 = .ok (.invokevirtual 90, 3) := by decide +kernel
theorem dX0_freeFinders_17 : decode cX0_freeFinders 17 = .ok (.getfield 154, 3) := by decide +kernel
theorem dX0_freeFinders_20 : decode cX0_freeFinders 20 = .ok (.ifCond .ne 6, 3) := by decide +kernel
theorem dX0_freeFinders_23 : decode cX0_freeFinders 23 = .ok (.iinc 1 1, 3) := by decide +kernel
theorem dX0_freeFinders_26 : decode cX0_freeFinders 26 = .ok (.iinc 2 1, 3) := by decide +kernel
theorem dX0_freeFinders_29 : decode cX0_freeFinders 29 = .ok (.goto (-25), 3) := by decide +kernel
theorem dX0_freeFinders_32 : decode cX0_freeFinders 32 = .ok (.iload_n 1, 1) := by decide +kernel
theorem dX0_freeFinders_33 : decode cX0_freeFinders 33 = .ok (.ireturn, 1) := by decide +kernel
theorem dX0_freeConnectors_0 : decode cX0_freeConnectors 0 = .ok (.iconst 4, 1) := by decide +kernel
theorem dX0_freeConnectors_1 : decode cX0_freeConnectors 1 = .ok (.aload_n 0, 1) := by decide +kernel
theorem dX0_freeConnectors_2 : decode cX0_freeConnectors 2 = .ok (.getfield 49, 3) := by decide +kernel
theorem dX0_freeConnectors_5 : decode cX0_freeConnectors 5 = .ok (.imul, 1) := by decide +kernel
theorem dX0_freeConnectors_6 : decode cX0_freeConnectors 6 = .ok (.istore_n 1, 1) := by decide +kernel
theorem dX0_freeConnectors_7 : decode cX0_freeConnectors 7 = .ok (.iconst 0, 1) := by decide +kernel
theorem dX0_freeConnectors_8 : decode cX0_freeConnectors 8 = .ok (.istore_n 2, 1) := by decide +kernel
theorem dX0_freeConnectors_9 : decode cX0_freeConnectors 9 = .ok (.iload_n 2, 1) := by decide +kernel
theorem dX0_freeConnectors_10 : decode cX0_freeConnectors 10 = .ok (.aload_n 0, 1) := by decide +kernel
theorem dX0_freeConnectors_11 : decode cX0_freeConnectors 11 = .ok (.getfield 45, 3) := by decide +kernel
theorem dX0_freeConnectors_14 : decode cX0_freeConnectors 14 = .ok (.if_icmp .ge 23, 3) := by decide +kernel
theorem dX0_freeConnectors_17 : decode cX0_freeConnectors 17 = .ok (.aload_n 0, 1) := by decide +kernel
theorem dX0_freeConnectors_18 : decode cX0_freeConnectors 18 = .ok (.iload_n 2, 1) := by decide +kernel
theorem dX0_freeConnectors_19 : decode cX0_freeConnectors 19 = .ok (.invokevirtual 90, 3) := by decide +kernel
theorem dX0_freeConnectors_22 : decode cX0_freeConnectors 22 = .ok (.invokevirtual 232, 3) := by decide +kernel
theorem dX0_freeConnectors_25 : decode cX0_freeConnectors 25 = .ok (.ifCond .eq 6, 3) := by decide +kernel
theorem dX0_freeConnectors_28 : decode cX0_freeConnectors 28 = .ok (.iinc 1 (-1), 3) := by decide +kernel
theorem dX0_freeConnectors_31 : decode cX0_freeConnectors 31 = .ok (.iinc 2 1, 3) := by decide +kernel
theorem dX0_freeConnectors_34 : decode cX0_freeConnectors 34 = .ok (.goto (-25), 3) := by decide +kernel
theorem dX0_freeConnectors_37 : decode cX0_freeConnectors 37 = .ok (.iload_n 1, 1) := by decide +kernel
theorem dX0_freeConnectors_38 : decode cX0_freeConnectors 38 = .ok (.ireturn, 1) := by decide +kernel
theorem dX0_sumOfMeters_0 : decode cX0_sumOfMeters 0 = .ok (.iconst 0, 1) := by decide +kernel
theorem dX0_sumOfMeters_1 : decode cX0_sumOfMeters 1 = .ok (.istore_n 1, 1) := by decide +kernel
theorem dX0_sumOfMeters_2 : decode cX0_sumOfMeters 2 = .ok (.iconst 0, 1) := by decide +kernel
theorem dX0_sumOfMeters_3 : decode cX0_sumOfMeters 3 = .ok (.istore_n 2, 1) := by decide +kernel
theorem dX0_sumOfMeters_4 : decode cX0_sumOfMeters 4 = .ok (.iload_n 2, 1) := by decide +kernel
theorem dX0_sumOfMeters_5 : decode cX0_sumOfMeters 5 = .ok (.bipush 16, 2) := by decide +kernel
theorem dX0_sumOfMeters_7 : decode cX0_sumOfMeters 7 = .ok (.if_icmp .ge 20, 3) := by decide +kernel
theorem dX0_sumOfMeters_10 : decode cX0_sumOfMeters 10 = .ok (.iload_n 1, 1) := by decide +kernel
theorem dX0_sumOfMeters_11 : decode cX0_sumOfMeters 11 = .ok (.aload_n 0, 1) := by decide +kernel
theorem dX0_sumOfMeters_12 : decode cX0_sumOfMeters 12 = .ok (.iload_n 2, 1) := by decide +kernel
theorem dX0_sumOfMeters_13 : decode cX0_sumOfMeters 13 = .ok (.invokevirtual 83, 3) := by decide +kernel
theorem dX0_sumOfMeters_16 : decode cX0_sumOfMeters 16 = .ok (.getfield 214, 3) := by decide +kernel
theorem dX0_sumOfMeters_19 : decode cX0_sumOfMeters 19 = .ok (.iadd, 1) := by decide +kernel
theorem dX0_sumOfMeters_20 : decode cX0_sumOfMeters 20 = .ok (.istore_n 1, 1) := by decide +kernel
theorem dX0_sumOfMeters_21 : decode cX0_sumOfMeters 21 = .ok (.iinc 2 1, 3) := by decide +kernel
theorem dX0_sumOfMeters_24 : decode cX0_sumOfMeters 24 = .ok (.goto (-20), 3) := by decide +kernel
theorem dX0_sumOfMeters_27 : decode cX0_sumOfMeters 27 = .ok (.iload_n 1, 1) := by decide +kernel
theorem dX0_sumOfMeters_28 : decode cX0_sumOfMeters 28 = .ok (.ireturn, 1) := by decide +kernel
theorem dX0_liftedLines_0 : decode cX0_liftedLines 0 = .ok (.iconst 0, 1) := by decide +kernel
theorem dX0_liftedLines_1 : decode cX0_liftedLines 1 = .ok (.istore_n 1, 1) := by decide +kernel
theorem dX0_liftedLines_2 : decode cX0_liftedLines 2 = .ok (.iconst 0, 1) := by decide +kernel
theorem dX0_liftedLines_3 : decode cX0_liftedLines 3 = .ok (.istore_n 2, 1) := by decide +kernel
theorem dX0_liftedLines_4 : decode cX0_liftedLines 4 = .ok (.iload_n 2, 1) := by decide +kernel
theorem dX0_liftedLines_5 : decode cX0_liftedLines 5 = .ok (.bipush 16, 2) := by decide +kernel
theorem dX0_liftedLines_7 : decode cX0_liftedLines 7 = .ok (.if_icmp .ge 23, 3) := by decide +kernel
theorem dX0_liftedLines_10 : decode cX0_liftedLines 10 = .ok (.aload_n 0, 1) := by decide +kernel
theorem dX0_liftedLines_11 : decode cX0_liftedLines 11 = .ok (.iload_n 2, 1) := by decide +kernel
theorem dX0_liftedLines_12 : decode cX0_liftedLines 12 = .ok (.invokevirtual 83, 3) := by decide +kernel
theorem dX0_liftedLines_15 : decode cX0_liftedLines 15 = .ok (.getfield 102, 3) := by decide +kernel
theorem dX0_liftedLines_18 : decode cX0_liftedLines 18 = .ok (.ifCond .eq 6, 3) := by decide +kernel
theorem dX0_liftedLines_21 : decode cX0_liftedLines 21 = .ok (.iinc 1 1, 3) := by decide +kernel
theorem dX0_liftedLines_24 : decode cX0_liftedLines 24 = .ok (.iinc 2 1, 3) := by decide +kernel
theorem dX0_liftedLines_27 : decode cX0_liftedLines 27 = .ok (.goto (-23), 3) := by decide +kernel
theorem dX0_liftedLines_30 : decode cX0_liftedLines 30 = .ok (.iload_n 1, 1) := by decide +kernel
theorem dX0_liftedLines_31 : decode cX0_liftedLines 31 = .ok (.ireturn, 1) := by decide +kernel
theorem dX1_init_0 : decode cX1_init 0 = .ok (.aload_n 0, 1) := by decide +kernel
theorem dX1_init_1 : decode cX1_init 1 = .ok (.invokespecial 3, 3) := by decide +kernel
theorem dX1_init_4 : decode cX1_init 4 = .ok (.aload_n 0, 1) := by decide +kernel
theorem dX1_init_5 : decode cX1_init 5 = .ok (.iconst 0, 1) := by decide +kernel
theorem dX1_init_6 : decode cX1_init 6 = .ok (.putfield 9, 3) := by decide +kernel
theorem dX1_init_9 : decode cX1_init 9 = .ok (.aload_n 0, 1) := by decide +kernel
theorem dX1_init_10 : decode cX1_init 10 = .ok (.iconst 0, 1) := by decide +kernel
theorem dX1_init_11 : decode cX1_init 11 = .ok (.putfield 15, 3) := by decide +kernel
theorem dX1_init_14 : decode cX1_init 14 = .ok (.aload_n 0, 1) := by decide +kernel
theorem dX1_init_15 : decode cX1_init 15 = .ok (.bipush (-6), 2) := by decide +kernel
theorem dX1_init_17 : decode cX1_init 17 = .ok (.putfield 18, 3) := by decide +kernel
theorem dX1_init_20 : decode cX1_init 20 = .ok (.aload_n 0, 1) := by decide +kernel
theorem dX1_init_21 : decode cX1_init 21 = .ok (.iconst 0, 1) := by decide +kernel
theorem dX1_init_22 : decode cX1_init 22 = .ok (.putfield 21, 3) := by decide +kernel
theorem dX1_init_25 : decode cX1_init 25 = .ok (.aload_n 0, 1) := by decide +kernel
theorem dX1_init_26 : decode cX1_init 26 = .ok (.bipush (-6), 2) := by decide +kernel
theorem dX1_init_28 : decode cX1_init 28 = .ok (.putfield 24, 3) := by decide +kernel
theorem dX1_init_31 : decode cX1_init 31 = .ok (.aload_n 0, 1) := by decide +kernel
theorem dX1_init_32 : decode cX1_init 32 = .ok (.iconst 0, 1) := by decide +kernel
theorem dX1_init_33 : decode cX1_init 33 = .ok (.putfield 27, 3) := by decide +kernel
theorem dX1_init_36 : decode cX1_init 36 = .ok (.aload_n 0, 1) := by decide +kernel
theorem dX1_init_37 : decode cX1_init 37 = .ok (.iconst 0, 1) := by decide +kernel
theorem dX1_init_38 : decode cX1_init 38 = .ok (.putfield 30, 3) := by decide +kernel
theorem dX1_init_41 : decode cX1_init 41 = .ok (.aload_n 0, 1) := by decide +kernel
theorem dX1_init_42 : decode cX1_init 42 = .ok (.iconst 0, 1) := by decide +kernel
theorem dX1_init_43 : decode cX1_init 43 = .ok (.putfield 33, 3) := by decide +kernel
theorem dX1_init_46 : decode cX1_init 46 = .ok (.aload_n 0, 1) := by decide +kernel
theorem dX1_init_47 : decode cX1_init 47 = .ok (.iconst 0, 1) := by decide +kernel
theorem dX1_init_48 : decode cX1_init 48 = .ok (.putfield 36, 3) := by decide +kernel
theorem dX1_init_51 : decode cX1_init 51 = .ok (.aload_n 0, 1) := by decide +kernel
theorem dX1_init_52 : decode cX1_init 52 = .ok (.bipush (-6), 2) := by decide +kernel
theorem dX1_init_54 : decode cX1_init 54 = .ok (.putfield 39, 3) := by decide +kernel
theorem dX1_init_57 : decode cX1_init 57 = .ok (.return_, 1) := by decide +kernel
end
section
theorem dX1_renew_0 : decode cX1_renew 0 = .ok (.aload_n 0, 1) := by decide +kernel
theorem dX1_renew_1 : decode cX1_renew 1 = .ok (.invokevirtual 42, 3) := by decide +kernel
theorem dX1_renew_4 : decode cX1_renew 4 = .ok (.aload_n 0, 1) := by decide +kernel
theorem dX1_renew_5 : decode cX1_renew 5 = .ok (.iconst 0, 1) := by decide +kernel
theorem dX1_renew_6 : decode cX1_renew 6 = .ok (.putfield 15, 3) := by decide +kernel
theorem dX1_renew_9 : decode cX1_renew 9 = .ok (.return_, 1) := by decide +kernel
theorem dX1_copyFrom_0 : decode cX1_copyFrom 0 = .ok (.aload_n 0, 1) := by decide +kernel
theorem dX1_copyFrom_1 : decode cX1_copyFrom 1 = .ok (.aload_n 1, 1) := by decide +kernel
theorem dX1_copyFrom_2 : decode cX1_copyFrom 2 = .ok (.getfield 9, 3) := by decide +kernel
theorem dX1_copyFrom_5 : decode cX1_copyFrom 5 = .ok (.putfield 9, 3) := by decide +kernel
theorem dX1_copyFrom_8 : decode cX1_copyFrom 8 = .ok (.aload_n 0, 1) := by decide +kernel
theorem dX1_copyFrom_9 : decode cX1_copyFrom 9 = .ok (.aload_n 1, 1) := by decide +kernel
theorem dX1_copyFrom_10 : decode cX1_copyFrom 10 = .ok (.getfield 15, 3) := by decide +kernel
theorem dX1_copyFrom_13 : decode cX1_copyFrom 13 = .ok (.putfield 15, 3) := by decide +kernel
theorem dX1_copyFrom_16 : decode cX1_copyFrom 16 = .ok (.aload_n 0, 1) := by decide +kernel
theorem dX1_copyFrom_17 : decode cX1_copyFrom 17 = .ok (.aload_n 1, 1) := by decide +kernel
theorem dX1_copyFrom_18 : decode cX1_copyFrom 18 = .ok (.getfield 18, 3) := by decide +kernel
theorem dX1_copyFrom_21 : decode cX1_copyFrom 21 = .ok (.putfield 18, 3) := by decide +kernel
theorem dX1_copyFrom_24 : decode cX1_copyFrom 24 = .ok (.aload_n 0, 1) := by decide +kernel
theorem dX1_copyFrom_25 : decode cX1_copyFrom 25 = .ok (.aload_n 1, 1) := by decide +kernel
theorem dX1_copyFrom_26 : decode cX1_copyFrom 26 = .ok (.getfield 21, 3) := by decide +kernel
theorem dX1_copyFrom_29 : decode cX1_copyFrom 29 = .ok (.putfield 21, 3) := by decide +kernel
theorem dX1_copyFrom_32 : decode cX1_copyFrom 32 = .ok (.aload_n 0, 1) := by decide +kernel
theorem dX1_copyFrom_33 : decode cX1_copyFrom 33 = .ok (.aload_n 1, 1) := by decide +kernel
theorem dX1_copyFrom_34 : decode cX1_copyFrom 34 = .ok (.getfield 24, 3) := by decide +kernel
theorem dX1_copyFrom_37 : decode cX1_copyFrom 37 = .ok (.putfield 24, 3) := by decide +kernel
theorem dX1_copyFrom_40 : decode cX1_copyFrom 40 = .ok (.aload_n 0, 1) := by decide +kernel
theorem dX1_copyFrom_41 : decode cX1_copyFrom 41 = .ok (.aload_n 1, 1) := by decide +kernel
theorem dX1_copyFrom_42 : decode cX1_copyFrom 42 = .ok (.getfield 27, 3) := by decide +kernel
theorem dX1_copyFrom_45 : decode cX1_copyFrom 45 = .ok (.putfield 27, 3) := by decide +kernel
theorem dX1_copyFrom_48 : decode cX1_copyFrom 48 = .ok (.aload_n 0, 1) := by decide +kernel
theorem dX1_copyFrom_49 : decode cX1_copyFrom 49 = .ok (.aload_n 1, 1) := by decide +kernel
theorem dX1_copyFrom_50 : decode cX1_copyFrom 50 = .ok (.getfield 30, 3) := by decide +kernel
theorem dX1_copyFrom_53 : decode cX1_copyFrom 53 = .ok (.putfield 30, 3) := by decide +kernel
theorem dX1_copyFrom_56 : decode cX1_copyFrom 56 = .ok (.aload_n 0, 1) := by decide +kernel
theorem dX1_copyFrom_57 : decode cX1_copyFrom 57 = .ok (.aload_n 1, 1) := by decide +kernel
theorem dX1_copyFrom_58 : decode cX1_copyFrom 58 = .ok (.getfield 33, 3) := by decide +kernel
theorem dX1_copyFrom_61 : decode cX1_copyFrom 61 = .ok (.putfield 33, 3) := by decide +kernel
theorem dX1_copyFrom_64 : decode cX1_copyFrom 64 = .ok (.aload_n 0, 1) := by decide +kernel
theorem dX1_copyFrom_65 : decode cX1_copyFrom 65 = .ok (.aload_n 1, 1) := by decide +kernel
theorem dX1_copyFrom_66 : decode cX1_copyFrom 66 = .ok (.getfield 36, 3) := by decide +kernel
theorem dX1_copyFrom_69 : decode cX1_copyFrom 69 = .ok (.putfield 36, 3) := by decide +kernel
theorem dX1_copyFrom_72 : decode cX1_copyFrom 72 = .ok (.aload_n 0, 1) := by decide +kernel
theorem dX1_copyFrom_73 : decode cX1_copyFrom 73 = .ok (.aload_n 1, 1) := by decide +kernel
theorem dX1_copyFrom_74 : decode cX1_copyFrom 74 = .ok (.getfield 39, 3) := by decide +kernel
theorem dX1_copyFrom_77 : decode cX1_copyFrom 77 = .ok (.putfield 39, 3) := by decide +kernel
theorem dX1_copyFrom_80 : decode cX1_copyFrom 80 = .ok (.return_, 1) := by decide +kernel
theorem dX1_become_0 : decode cX1_become 0 = .ok (.aload_n 0, 1) := by decide +kernel
theorem dX1_become_1 : decode cX1_become 1 = .ok (.iload_n 1, 1) := by decide +kernel
theorem dX1_become_2 : decode cX1_become 2 = .ok (.putfield 9, 3) := by decide +kernel
theorem dX1_become_5 : decode cX1_become 5 = .ok (.aload_n 0, 1) := by decide +kernel
theorem dX1_become_6 : decode cX1_become 6 = .ok (.iconst 0, 1) := by decide +kernel
theorem dX1_become_7 : decode cX1_become 7 = .ok (.putfield 33, 3) := by decide +kernel
theorem dX1_become_10 : decode cX1_become 10 = .ok (.aload_n 0, 1) := by decide +kernel
theorem dX1_become_11 : decode cX1_become 11 = .ok (.iconst 0, 1) := by decide +kernel
theorem dX1_become_12 : decode cX1_become 12 = .ok (.putfield 36, 3) := by decide +kernel
theorem dX1_become_15 : decode cX1_become 15 = .ok (.return_, 1) := by decide +kernel
theorem dX1_becomeFree_0 : decode cX1_becomeFree 0 = .ok (.aload_n 0, 1) := by decide +kernel
theorem dX1_becomeFree_1 : decode cX1_becomeFree 1 = .ok (.iconst 0, 1) := by decide +kernel
theorem dX1_becomeFree_2 : decode cX1_becomeFree 2 = .ok (.invokevirtual 45, 3) := by decide +kernel
theorem dX1_becomeFree_5 : decode cX1_becomeFree 5 = .ok (.aload_n 0, 1) := by decide +kernel
theorem dX1_becomeFree_6 : decode cX1_becomeFree 6 = .ok (.bipush (-6), 2) := by decide +kernel
theorem dX1_becomeFree_8 : decode cX1_becomeFree 8 = .ok (.putfield 18, 3) := by decide +kernel
theorem dX1_becomeFree_11 : decode cX1_becomeFree 11 = .ok (.aload_n 0, 1) := by decide +kernel
theorem dX1_becomeFree_12 : decode cX1_becomeFree 12 = .ok (.iconst 0, 1) := by decide +kernel
theorem dX1_becomeFree_13 : decode cX1_becomeFree 13 = .ok (.putfield 21, 3) := by decide +kernel
theorem dX1_becomeFree_16 : decode cX1_becomeFree 16 = .ok (.aload_n 0, 1) := by decide +kernel
theorem dX1_becomeFree_17 : decode cX1_becomeFree 17 = .ok (.bipush (-6), 2) := by decide +kernel
theorem dX1_becomeFree_19 : decode cX1_becomeFree 19 = .ok (.putfield 24, 3) := by decide +kernel
theorem dX1_becomeFree_22 : decode cX1_becomeFree 22 = .ok (.aload_n 0, 1) := by decide +kernel
theorem dX1_becomeFree_23 : decode cX1_becomeFree 23 = .ok (.iconst 0, 1) := by decide +kernel
theorem dX1_becomeFree_24 : decode cX1_becomeFree 24 = .ok (.putfield 27, 3) := by decide +kernel
theorem dX1_becomeFree_27 : decode cX1_becomeFree 27 = .ok (.aload_n 0, 1) := by decide +kernel
theorem dX1_becomeFree_28 : decode cX1_becomeFree 28 = .ok (.iconst 0, 1) := by decide +kernel
theorem dX1_becomeFree_29 : decode cX1_becomeFree 29 = .ok (.putfield 30, 3) := by decide +kernel
theorem dX1_becomeFree_32 : decode cX1_becomeFree 32 = .ok (.aload_n 0, 1) := by decide +kernel
theorem dX1_becomeFree_33 : decode cX1_becomeFree 33 = .ok (.bipush (-6), 2) := by decide +kernel
theorem dX1_becomeFree_35 : decode cX1_becomeFree 35 = .ok (.putfield 39, 3) := by decide +kernel
theorem dX1_becomeFree_38 : decode cX1_becomeFree 38 = .ok (.return_, 1) := by decide +kernel
theorem dX1_holdsConnector_0 : decode cX1_holdsConnector 0 = .ok (.aload_n 0, 1) := by decide +kernel
theorem dX1_holdsConnector_1 : decode cX1_holdsConnector 1 = .ok (.getfield 9, 3) := by decide +kernel
theorem dX1_holdsConnector_4 : decode cX1_holdsConnector 4 = .ok (.iconst 5, 1) := by decide +kernel
theorem dX1_holdsConnector_5 : decode cX1_holdsConnector 5 = .ok (.if_icmp .eq 30, 3) := by decide +kernel
theorem dX1_holdsConnector_8 : decode cX1_holdsConnector 8 = .ok (.aload_n 0, 1) := by decide +kernel
theorem dX1_holdsConnector_9 : decode cX1_holdsConnector 9 = .ok (.getfield 9, 3) := by decide +kernel
theorem dX1_holdsConnector_12 : decode cX1_holdsConnector 12 = .ok (.bipush 6, 2) := by decide +kernel
theorem dX1_holdsConnector_14 : decode cX1_holdsConnector 14 = .ok (.if_icmp .eq 21, 3) := by decide +kernel
theorem dX1_holdsConnector_17 : decode cX1_holdsConnector 17 = .ok (.aload_n 0, 1) := by decide +kernel
theorem dX1_holdsConnector_18 : decode cX1_holdsConnector 18 = .ok (.getfield 9, 3) := by decide +kernel
theorem dX1_holdsConnector_21 : decode cX1_holdsConnector 21 = .ok (.bipush 7, 2) := by decide +kernel
theorem dX1_holdsConnector_23 : decode cX1_holdsConnector 23 = .ok (.if_icmp .eq 12, 3) := by decide +kernel
theorem dX1_holdsConnector_26 : decode cX1_holdsConnector 26 = .ok (.aload_n 0, 1) := by decide +kernel
theorem dX1_holdsConnector_27 : decode cX1_holdsConnector 27 = .ok (.getfield 9, 3) := by decide +kernel
theorem dX1_holdsConnector_30 : decode cX1_holdsConnector 30 = .ok (.bipush 8, 2) := by decide +kernel
theorem dX1_holdsConnector_32 : decode cX1_holdsConnector 32 = .ok (.if_icmp .ne 7, 3) := by decide +kernel
theorem dX1_holdsConnector_35 : decode cX1_holdsConnector 35 = .ok (.iconst 1, 1) := by decide +kernel
theorem dX1_holdsConnector_36 : decode cX1_holdsConnector 36 = .ok (.goto 4, 3) := by decide +kernel
theorem dX1_holdsConnector_39 : decode cX1_holdsConnector 39 = .ok (.iconst 0, 1) := by decide +kernel
theorem dX1_holdsConnector_40 : decode cX1_holdsConnector 40 = .ok (.ireturn, 1) := by decide +kernel
theorem dX1_numberFor_0 : decode cX1_numberFor 0 = .ok (.iload_n 1, 1) := by decide +kernel
theorem dX1_numberFor_1 : decode cX1_numberFor 1 = .ok (.tableswitch 87 0 7 #[47, 52, 57, 62, 67, 72, 77, 82], 47) := by decide +kernel
theorem dX1_numberFor_48 : decode cX1_numberFor 48 = .ok (.aload_n 0, 1) := by decide +kernel
theorem dX1_numberFor_49 : decode cX1_numberFor 49 = .ok (.getfield 9, 3) := by decide +kernel
theorem dX1_numberFor_52 : decode cX1_numberFor 52 = .ok (.ireturn, 1) := by decide +kernel
theorem dX1_numberFor_53 : decode cX1_numberFor 53 = .ok (.aload_n 0, 1) := by decide +kernel
theorem dX1_numberFor_54 : decode cX1_numberFor 54 = .ok (.getfield 15, 3) := by decide +kernel
theorem dX1_numberFor_57 : decode cX1_numberFor 57 = .ok (.ireturn, 1) := by decide +kernel
theorem dX1_numberFor_58 : decode cX1_numberFor 58 = .ok (.aload_n 0, 1) := by decide +kernel
theorem dX1_numberFor_59 : decode cX1_numberFor 59 = .ok (.getfield 18, 3) := by decide +kernel
theorem dX1_numberFor_62 : decode cX1_numberFor 62 = .ok (.ireturn, 1) := by decide +kernel
theorem dX1_numberFor_63 : decode cX1_numberFor 63 = .ok (.aload_n 0, 1) := by decide +kernel
theorem dX1_numberFor_64 : decode cX1_numberFor 64 = .ok (.getfield 21, 3) := by decide +kernel
theorem dX1_numberFor_67 : decode cX1_numberFor 67 = .ok (.ireturn, 1) := by decide +kernel
theorem dX1_numberFor_68 : decode cX1_numberFor 68 = .ok (.aload_n 0, 1) := by decide +kernel
theorem dX1_numberFor_69 : decode cX1_numberFor 69 = .ok (.getfield 24, 3) := by decide +kernel
theorem dX1_numberFor_72 : decode cX1_numberFor 72 = .ok (.ireturn, 1) := by decide +kernel
theorem dX1_numberFor_73 : decode cX1_numberFor 73 = .ok (.aload_n 0, 1) := by decide +kernel
theorem dX1_numberFor_74 : decode cX1_numberFor 74 = .ok (.getfield 27, 3) := by decide +kernel
theorem dX1_numberFor_77 : decode cX1_numberFor 77 = .ok (.ireturn, 1) := by decide +kernel
theorem dX1_numberFor_78 : decode cX1_numberFor 78 = .ok (.aload_n 0, 1) := by decide +kernel
theorem dX1_numberFor_79 : decode cX1_numberFor 79 = .ok (.getfield 33, 3) := by decide +kernel
theorem dX1_numberFor_82 : decode cX1_numberFor 82 = .ok (.ireturn, 1) := by decide +kernel
theorem dX1_numberFor_83 : decode cX1_numberFor 83 = .ok (.aload_n 0, 1) := by decide +kernel
theorem dX1_numberFor_84 : decode cX1_numberFor 84 = .ok (.getfield 36, 3) := by decide +kernel
theorem dX1_numberFor_87 : decode cX1_numberFor 87 = .ok (.ireturn, 1) := by decide +kernel
theorem dX1_numberFor_88 : decode cX1_numberFor 88 = .ok (.bipush (-2), 2) := by decide +kernel
theorem dX1_numberFor_90 : decode cX1_numberFor 90 = .ok (.ireturn, 1) := by decide +kernel
theorem dX2_init_0 : decode cX2_init 0 = .ok (.aload_n 0, 1) := by decide +kernel
theorem dX2_init_1 : decode cX2_init 1 = .ok (.invokespecial 3, 3) := by decide +kernel
theorem dX2_init_4 : decode cX2_init 4 = .ok (.aload_n 0, 1) := by decide +kernel
theorem dX2_init_5 : decode cX2_init 5 = .ok (.iconst 0, 1) := by decide +kernel
theorem dX2_init_6 : decode cX2_init 6 = .ok (.putfield 9, 3) := by decide +kernel
theorem dX2_init_9 : decode cX2_init 9 = .ok (.aload_n 0, 1) := by decide +kernel
theorem dX2_init_10 : decode cX2_init 10 = .ok (.iconst 0, 1) := by decide +kernel
theorem dX2_init_11 : decode cX2_init 11 = .ok (.putfield 15, 3) := by decide +kernel
theorem dX2_init_14 : decode cX2_init 14 = .ok (.aload_n 0, 1) := by decide +kernel
theorem dX2_init_15 : decode cX2_init 15 = .ok (.iconst 0, 1) := by decide +kernel
theorem dX2_init_16 : decode cX2_init 16 = .ok (.putfield 19, 3) := by decide +kernel
theorem dX2_init_19 : decode cX2_init 19 = .ok (.aload_n 0, 1) := by decide +kernel
theorem dX2_init_20 : decode cX2_init 20 = .ok (.iconst 0, 1) := by decide +kernel
theorem dX2_init_21 : decode cX2_init 21 = .ok (.putfield 22, 3) := by decide +kernel
theorem dX2_init_24 : decode cX2_init 24 = .ok (.aload_n 0, 1) := by decide +kernel
theorem dX2_init_25 : decode cX2_init 25 = .ok (.iconst 0, 1) := by decide +kernel
theorem dX2_init_26 : decode cX2_init 26 = .ok (.putfield 25, 3) := by decide +kernel
theorem dX2_init_29 : decode cX2_init 29 = .ok (.aload_n 0, 1) := by decide +kernel
theorem dX2_init_30 : decode cX2_init 30 = .ok (.iconst 0, 1) := by decide +kernel
theorem dX2_init_31 : decode cX2_init 31 = .ok (.putfield 28, 3) := by decide +kernel
theorem dX2_init_34 : decode cX2_init 34 = .ok (.aload_n 0, 1) := by decide +kernel
theorem dX2_init_35 : decode cX2_init 35 = .ok (.bipush (-6), 2) := by decide +kernel
theorem dX2_init_37 : decode cX2_init 37 = .ok (.putfield 31, 3) := by decide +kernel
theorem dX2_init_40 : decode cX2_init 40 = .ok (.aload_n 0, 1) := by decide +kernel
theorem dX2_init_41 : decode cX2_init 41 = .ok (.iconst 0, 1) := by decide +kernel
theorem dX2_init_42 : decode cX2_init 42 = .ok (.putfield 34, 3) := by decide +kernel
theorem dX2_init_45 : decode cX2_init 45 = .ok (.aload_n 0, 1) := by decide +kernel
theorem dX2_init_46 : decode cX2_init 46 = .ok (.iconst 0, 1) := by decide +kernel
theorem dX2_init_47 : decode cX2_init 47 = .ok (.putfield 37, 3) := by decide +kernel
theorem dX2_init_50 : decode cX2_init 50 = .ok (.return_, 1) := by decide +kernel
theorem dX2_renew_0 : decode cX2_renew 0 = .ok (.aload_n 0, 1) := by decide +kernel
theorem dX2_renew_1 : decode cX2_renew 1 = .ok (.iconst 0, 1) := by decide +kernel
theorem dX2_renew_2 : decode cX2_renew 2 = .ok (.invokevirtual 40, 3) := by decide +kernel
theorem dX2_renew_5 : decode cX2_renew 5 = .ok (.aload_n 0, 1) := by decide +kernel
theorem dX2_renew_6 : decode cX2_renew 6 = .ok (.iconst 0, 1) := by decide +kernel
theorem dX2_renew_7 : decode cX2_renew 7 = .ok (.putfield 15, 3) := by decide +kernel
theorem dX2_renew_10 : decode cX2_renew 10 = .ok (.aload_n 0, 1) := by decide +kernel
theorem dX2_renew_11 : decode cX2_renew 11 = .ok (.iconst 0, 1) := by decide +kernel
theorem dX2_renew_12 : decode cX2_renew 12 = .ok (.putfield 19, 3) := by decide +kernel
theorem dX2_renew_15 : decode cX2_renew 15 = .ok (.aload_n 0, 1) := by decide +kernel
theorem dX2_renew_16 : decode cX2_renew 16 = .ok (.iconst 0, 1) := by decide +kernel
theorem dX2_renew_17 : decode cX2_renew 17 = .ok (.putfield 22, 3) := by decide +kernel
theorem dX2_renew_20 : decode cX2_renew 20 = .ok (.aload_n 0, 1) := by decide +kernel
theorem dX2_renew_21 : decode cX2_renew 21 = .ok (.iconst 0, 1) := by decide +kernel
theorem dX2_renew_22 : decode cX2_renew 22 = .ok (.putfield 34, 3) := by decide +kernel
theorem dX2_renew_25 : decode cX2_renew 25 = .ok (.return_, 1) := by decide +kernel
theorem dX2_copyFrom_0 : decode cX2_copyFrom 0 = .ok (.aload_n 0, 1) := by decide +kernel
theorem dX2_copyFrom_1 : decode cX2_copyFrom 1 = .ok (.aload_n 1, 1) := by decide +kernel
theorem dX2_copyFrom_2 : decode cX2_copyFrom 2 = .ok (.getfield 9, 3) := by decide +kernel
theorem dX2_copyFrom_5 : decode cX2_copyFrom 5 = .ok (.putfield 9, 3) := by decide +kernel
theorem dX2_copyFrom_8 : decode cX2_copyFrom 8 = .ok (.aload_n 0, 1) := by decide +kernel
theorem dX2_copyFrom_9 : decode cX2_copyFrom 9 = .ok (.aload_n 1, 1) := by decide +kernel
theorem dX2_copyFrom_10 : decode cX2_copyFrom 10 = .ok (.getfield 15, 3) := by decide +kernel
theorem dX2_copyFrom_13 : decode cX2_copyFrom 13 = .ok (.putfield 15, 3) := by decide +kernel
theorem dX2_copyFrom_16 : decode cX2_copyFrom 16 = .ok (.aload_n 0, 1) := by decide +kernel
theorem dX2_copyFrom_17 : decode cX2_copyFrom 17 = .ok (.aload_n 1, 1) := by decide +kernel
theorem dX2_copyFrom_18 : decode cX2_copyFrom 18 = .ok (.getfield 19, 3) := by decide +kernel
theorem dX2_copyFrom_21 : decode cX2_copyFrom 21 = .ok (.putfield 19, 3) := by decide +kernel
theorem dX2_copyFrom_24 : decode cX2_copyFrom 24 = .ok (.aload_n 0, 1) := by decide +kernel
theorem dX2_copyFrom_25 : decode cX2_copyFrom 25 = .ok (.aload_n 1, 1) := by decide +kernel
theorem dX2_copyFrom_26 : decode cX2_copyFrom 26 = .ok (.getfield 22, 3) := by decide +kernel
theorem dX2_copyFrom_29 : decode cX2_copyFrom 29 = .ok (.putfield 22, 3) := by decide +kernel
theorem dX2_copyFrom_32 : decode cX2_copyFrom 32 = .ok (.aload_n 0, 1) := by decide +kernel
theorem dX2_copyFrom_33 : decode cX2_copyFrom 33 = .ok (.aload_n 1, 1) := by decide +kernel
theorem dX2_copyFrom_34 : decode cX2_copyFrom 34 = .ok (.getfield 25, 3) := by decide +kernel
theorem dX2_copyFrom_37 : decode cX2_copyFrom 37 = .ok (.putfield 25, 3) := by decide +kernel
theorem dX2_copyFrom_40 : decode cX2_copyFrom 40 = .ok (.aload_n 0, 1) := by decide +kernel
theorem dX2_copyFrom_41 : decode cX2_copyFrom 41 = .ok (.aload_n 1, 1) := by decide +kernel
theorem dX2_copyFrom_42 : decode cX2_copyFrom 42 = .ok (.getfield 28, 3) := by decide +kernel
theorem dX2_copyFrom_45 : decode cX2_copyFrom 45 = .ok (.putfield 28, 3) := by decide +kernel
theorem dX2_copyFrom_48 : decode cX2_copyFrom 48 = .ok (.aload_n 0, 1) := by decide +kernel
theorem dX2_copyFrom_49 : decode cX2_copyFrom 49 = .ok (.aload_n 1, 1) := by decide +kernel
theorem dX2_copyFrom_50 : decode cX2_copyFrom 50 = .ok (.getfield 31, 3) := by decide +kernel
theorem dX2_copyFrom_53 : decode cX2_copyFrom 53 = .ok (.putfield 31, 3) := by decide +kernel
theorem dX2_copyFrom_56 : decode cX2_copyFrom 56 = .ok (.aload_n 0, 1) := by decide +kernel
theorem dX2_copyFrom_57 : decode cX2_copyFrom 57 = .ok (.aload_n 1, 1) := by decide +kernel
theorem dX2_copyFrom_58 : decode cX2_copyFrom 58 = .ok (.getfield 34, 3) := by decide +kernel
theorem dX2_copyFrom_61 : decode cX2_copyFrom 61 = .ok (.putfield 34, 3) := by decide +kernel
theorem dX2_copyFrom_64 : decode cX2_copyFrom 64 = .ok (.aload_n 0, 1) := by decide +kernel
theorem dX2_copyFrom_65 : decode cX2_copyFrom 65 = .ok (.aload_n 1, 1) := by decide +kernel
theorem dX2_copyFrom_66 : decode cX2_copyFrom 66 = .ok (.getfield 37, 3) := by decide +kernel
theorem dX2_copyFrom_69 : decode cX2_copyFrom 69 = .ok (.putfield 37, 3) := by decide +kernel
theorem dX2_copyFrom_72 : decode cX2_copyFrom 72 = .ok (.return_, 1) := by decide +kernel
theorem dX2_waitsUnsought_0 : decode cX2_waitsUnsought 0 = .ok (.aload_n 0, 1) := by decide +kernel
theorem dX2_waitsUnsought_1 : decode cX2_waitsUnsought 1 = .ok (.getfield 9, 3) := by decide +kernel
theorem dX2_waitsUnsought_4 : decode cX2_waitsUnsought 4 = .ok (.iconst 1, 1) := by decide +kernel
theorem dX2_waitsUnsought_5 : decode cX2_waitsUnsought 5 = .ok (.if_icmp .ne 16, 3) := by decide +kernel
theorem dX2_waitsUnsought_8 : decode cX2_waitsUnsought 8 = .ok (.aload_n 0, 1) := by decide +kernel
theorem dX2_waitsUnsought_9 : decode cX2_waitsUnsought 9 = .ok (.getfield 31, 3) := by decide +kernel
theorem dX2_waitsUnsought_12 : decode cX2_waitsUnsought 12 = .ok (.bipush (-6), 2) := by decide +kernel
theorem dX2_waitsUnsought_14 : decode cX2_waitsUnsought 14 = .ok (.if_icmp .ne 7, 3) := by decide +kernel
theorem dX2_waitsUnsought_17 : decode cX2_waitsUnsought 17 = .ok (.iconst 1, 1) := by decide +kernel
theorem dX2_waitsUnsought_18 : decode cX2_waitsUnsought 18 = .ok (.goto 4, 3) := by decide +kernel
theorem dX2_waitsUnsought_21 : decode cX2_waitsUnsought 21 = .ok (.iconst 0, 1) := by decide +kernel
theorem dX2_waitsUnsought_22 : decode cX2_waitsUnsought 22 = .ok (.ireturn, 1) := by decide +kernel
theorem dX2_isCalledByAnother_0 : decode cX2_isCalledByAnother 0 = .ok (.aload_n 0, 1) := by decide +kernel
theorem dX2_isCalledByAnother_1 : decode cX2_isCalledByAnother 1 = .ok (.getfield 9, 3) := by decide +kernel
theorem dX2_isCalledByAnother_4 : decode cX2_isCalledByAnother 4 = .ok (.iconst 5, 1) := by decide +kernel
theorem dX2_isCalledByAnother_5 : decode cX2_isCalledByAnother 5 = .ok (.if_icmp .eq 12, 3) := by decide +kernel
theorem dX2_isCalledByAnother_8 : decode cX2_isCalledByAnother 8 = .ok (.aload_n 0, 1) := by decide +kernel
theorem dX2_isCalledByAnother_9 : decode cX2_isCalledByAnother 9 = .ok (.getfield 9, 3) := by decide +kernel
theorem dX2_isCalledByAnother_12 : decode cX2_isCalledByAnother 12 = .ok (.bipush 7, 2) := by decide +kernel
theorem dX2_isCalledByAnother_14 : decode cX2_isCalledByAnother 14 = .ok (.if_icmp .ne 7, 3) := by decide +kernel
theorem dX2_isCalledByAnother_17 : decode cX2_isCalledByAnother 17 = .ok (.iconst 1, 1) := by decide +kernel
theorem dX2_isCalledByAnother_18 : decode cX2_isCalledByAnother 18 = .ok (.goto 4, 3) := by decide +kernel
theorem dX2_isCalledByAnother_21 : decode cX2_isCalledByAnother 21 = .ok (.iconst 0, 1) := by decide +kernel
theorem dX2_isCalledByAnother_22 : decode cX2_isCalledByAnother 22 = .ok (.ireturn, 1) := by decide +kernel
theorem dX2_callsAnother_0 : decode cX2_callsAnother 0 = .ok (.aload_n 0, 1) := by decide +kernel
theorem dX2_callsAnother_1 : decode cX2_callsAnother 1 = .ok (.getfield 9, 3) := by decide +kernel
theorem dX2_callsAnother_4 : decode cX2_callsAnother 4 = .ok (.iconst 4, 1) := by decide +kernel
theorem dX2_callsAnother_5 : decode cX2_callsAnother 5 = .ok (.if_icmp .eq 12, 3) := by decide +kernel
theorem dX2_callsAnother_8 : decode cX2_callsAnother 8 = .ok (.aload_n 0, 1) := by decide +kernel
theorem dX2_callsAnother_9 : decode cX2_callsAnother 9 = .ok (.getfield 9, 3) := by decide +kernel
theorem dX2_callsAnother_12 : decode cX2_callsAnother 12 = .ok (.bipush 6, 2) := by decide +kernel
theorem dX2_callsAnother_14 : decode cX2_callsAnother 14 = .ok (.if_icmp .ne 7, 3) := by decide +kernel
theorem dX2_callsAnother_17 : decode cX2_callsAnother 17 = .ok (.iconst 1, 1) := by decide +kernel
theorem dX2_callsAnother_18 : decode cX2_callsAnother 18 = .ok (.goto 4, 3) := by decide +kernel
theorem dX2_callsAnother_21 : decode cX2_callsAnother 21 = .ok (.iconst 0, 1) := by decide +kernel
theorem dX2_callsAnother_22 : decode cX2_callsAnother 22 = .ok (.ireturn, 1) := by decide +kernel
theorem dX2_appendDigit_0 : decode cX2_appendDigit 0 = .ok (.aload_n 0, 1) := by decide +kernel
theorem dX2_appendDigit_1 : decode cX2_appendDigit 1 = .ok (.dup, 1) := by decide +kernel
theorem dX2_appendDigit_2 : decode cX2_appendDigit 2 = .ok (.getfield 25, 3) := by decide +kernel
theorem dX2_appendDigit_5 : decode cX2_appendDigit 5 = .ok (.iload_n 1, 1) := by decide +kernel
theorem dX2_appendDigit_6 : decode cX2_appendDigit 6 = .ok (.iconst 4, 1) := by decide +kernel
theorem dX2_appendDigit_7 : decode cX2_appendDigit 7 = .ok (.aload_n 0, 1) := by decide +kernel
theorem dX2_appendDigit_8 : decode cX2_appendDigit 8 = .ok (.getfield 28, 3) := by decide +kernel
theorem dX2_appendDigit_11 : decode cX2_appendDigit 11 = .ok (.imul, 1) := by decide +kernel
theorem dX2_appendDigit_12 : decode cX2_appendDigit 12 = .ok (.ishl, 1) := by decide +kernel
theorem dX2_appendDigit_13 : decode cX2_appendDigit 13 = .ok (.ior, 1) := by decide +kernel
theorem dX2_appendDigit_14 : decode cX2_appendDigit 14 = .ok (.putfield 25, 3) := by decide +kernel
theorem dX2_appendDigit_17 : decode cX2_appendDigit 17 = .ok (.aload_n 0, 1) := by decide +kernel
theorem dX2_appendDigit_18 : decode cX2_appendDigit 18 = .ok (.dup, 1) := by decide +kernel
theorem dX2_appendDigit_19 : decode cX2_appendDigit 19 = .ok (.getfield 28, 3) := by decide +kernel
theorem dX2_appendDigit_22 : decode cX2_appendDigit 22 = .ok (.iconst 1, 1) := by decide +kernel
theorem dX2_appendDigit_23 : decode cX2_appendDigit 23 = .ok (.iadd, 1) := by decide +kernel
theorem dX2_appendDigit_24 : decode cX2_appendDigit 24 = .ok (.putfield 28, 3) := by decide +kernel
theorem dX2_appendDigit_27 : decode cX2_appendDigit 27 = .ok (.return_, 1) := by decide +kernel
theorem dX2_takePulses_0 : decode cX2_takePulses 0 = .ok (.aload_n 0, 1) := by decide +kernel
theorem dX2_takePulses_1 : decode cX2_takePulses 1 = .ok (.getfield 25, 3) := by decide +kernel
theorem dX2_takePulses_4 : decode cX2_takePulses 4 = .ok (.bipush 15, 2) := by decide +kernel
theorem dX2_takePulses_6 : decode cX2_takePulses 6 = .ok (.iand, 1) := by decide +kernel
theorem dX2_takePulses_7 : decode cX2_takePulses 7 = .ok (.istore_n 1, 1) := by decide +kernel
theorem dX2_takePulses_8 : decode cX2_takePulses 8 = .ok (.aload_n 0, 1) := by decide +kernel
theorem dX2_takePulses_9 : decode cX2_takePulses 9 = .ok (.dup, 1) := by decide +kernel
theorem dX2_takePulses_10 : decode cX2_takePulses 10 = .ok (.getfield 25, 3) := by decide +kernel
theorem dX2_takePulses_13 : decode cX2_takePulses 13 = .ok (.iconst 4, 1) := by decide +kernel
theorem dX2_takePulses_14 : decode cX2_takePulses 14 = .ok (.iushr, 1) := by decide +kernel
theorem dX2_takePulses_15 : decode cX2_takePulses 15 = .ok (.putfield 25, 3) := by decide +kernel
theorem dX2_takePulses_18 : decode cX2_takePulses 18 = .ok (.aload_n 0, 1) := by decide +kernel
theorem dX2_takePulses_19 : decode cX2_takePulses 19 = .ok (.dup, 1) := by decide +kernel
theorem dX2_takePulses_20 : decode cX2_takePulses 20 = .ok (.getfield 28, 3) := by decide +kernel
theorem dX2_takePulses_23 : decode cX2_takePulses 23 = .ok (.iconst 1, 1) := by decide +kernel
theorem dX2_takePulses_24 : decode cX2_takePulses 24 = .ok (.isub, 1) := by decide +kernel
theorem dX2_takePulses_25 : decode cX2_takePulses 25 = .ok (.putfield 28, 3) := by decide +kernel
theorem dX2_takePulses_28 : decode cX2_takePulses 28 = .ok (.iload_n 1, 1) := by decide +kernel
theorem dX2_takePulses_29 : decode cX2_takePulses 29 = .ok (.ifCond .ne 8, 3) := by decide +kernel
theorem dX2_takePulses_32 : decode cX2_takePulses 32 = .ok (.bipush 10, 2) := by decide +kernel
theorem dX2_takePulses_34 : decode cX2_takePulses 34 = .ok (.goto 4, 3) := by decide +kernel
theorem dX2_takePulses_37 : decode cX2_takePulses 37 = .ok (.iload_n 1, 1) := by decide +kernel
theorem dX2_takePulses_38 : decode cX2_takePulses 38 = .ok (.ireturn, 1) := by decide +kernel
theorem dX2_leaveCall_0 : decode cX2_leaveCall 0 = .ok (.aload_n 0, 1) := by decide +kernel
theorem dX2_leaveCall_1 : decode cX2_leaveCall 1 = .ok (.iload_n 1, 1) := by decide +kernel
theorem dX2_leaveCall_2 : decode cX2_leaveCall 2 = .ok (.putfield 9, 3) := by decide +kernel
theorem dX2_leaveCall_5 : decode cX2_leaveCall 5 = .ok (.aload_n 0, 1) := by decide +kernel
theorem dX2_leaveCall_6 : decode cX2_leaveCall 6 = .ok (.bipush (-6), 2) := by decide +kernel
theorem dX2_leaveCall_8 : decode cX2_leaveCall 8 = .ok (.putfield 31, 3) := by decide +kernel
theorem dX2_leaveCall_11 : decode cX2_leaveCall 11 = .ok (.aload_n 0, 1) := by decide +kernel
theorem dX2_leaveCall_12 : decode cX2_leaveCall 12 = .ok (.iconst 0, 1) := by decide +kernel
theorem dX2_leaveCall_13 : decode cX2_leaveCall 13 = .ok (.putfield 37, 3) := by decide +kernel
theorem dX2_leaveCall_16 : decode cX2_leaveCall 16 = .ok (.aload_n 0, 1) := by decide +kernel
theorem dX2_leaveCall_17 : decode cX2_leaveCall 17 = .ok (.iconst 0, 1) := by decide +kernel
theorem dX2_leaveCall_18 : decode cX2_leaveCall 18 = .ok (.putfield 25, 3) := by decide +kernel
theorem dX2_leaveCall_21 : decode cX2_leaveCall 21 = .ok (.aload_n 0, 1) := by decide +kernel
theorem dX2_leaveCall_22 : decode cX2_leaveCall 22 = .ok (.iconst 0, 1) := by decide +kernel
theorem dX2_leaveCall_23 : decode cX2_leaveCall 23 = .ok (.putfield 28, 3) := by decide +kernel
theorem dX2_leaveCall_26 : decode cX2_leaveCall 26 = .ok (.return_, 1) := by decide +kernel
theorem dX2_waitParked_0 : decode cX2_waitParked 0 = .ok (.aload_n 0, 1) := by decide +kernel
theorem dX2_waitParked_1 : decode cX2_waitParked 1 = .ok (.getfield 9, 3) := by decide +kernel
theorem dX2_waitParked_4 : decode cX2_waitParked 4 = .ok (.bipush 10, 2) := by decide +kernel
theorem dX2_waitParked_6 : decode cX2_waitParked 6 = .ok (.if_icmp .eq 4, 3) := by decide +kernel
theorem dX2_waitParked_9 : decode cX2_waitParked 9 = .ok (.return_, 1) := by decide +kernel
theorem dX2_waitParked_10 : decode cX2_waitParked 10 = .ok (.aload_n 0, 1) := by decide +kernel
theorem dX2_waitParked_11 : decode cX2_waitParked 11 = .ok (.dup, 1) := by decide +kernel
theorem dX2_waitParked_12 : decode cX2_waitParked 12 = .ok (.getfield 37, 3) := by decide +kernel
theorem dX2_waitParked_15 : decode cX2_waitParked 15 = .ok (.iconst 1, 1) := by decide +kernel
theorem dX2_waitParked_16 : decode cX2_waitParked 16 = .ok (.iadd, 1) := by decide +kernel
theorem dX2_waitParked_17 : decode cX2_waitParked 17 = .ok (.putfield 37, 3) := by decide +kernel
theorem dX2_waitParked_20 : decode cX2_waitParked 20 = .ok (.aload_n 0, 1) := by decide +kernel
theorem dX2_waitParked_21 : decode cX2_waitParked 21 = .ok (.getfield 37, 3) := by decide +kernel
theorem dX2_waitParked_24 : decode cX2_waitParked 24 = .ok (.iload_n 1, 1) := by decide +kernel
theorem dX2_waitParked_25 : decode cX2_waitParked 25 = .ok (.if_icmp .lt 14, 3) := by decide +kernel
theorem dX2_waitParked_28 : decode cX2_waitParked 28 = .ok (.aload_n 0, 1) := by decide +kernel
theorem dX2_waitParked_29 : decode cX2_waitParked 29 = .ok (.bipush 11, 2) := by decide +kernel
theorem dX2_waitParked_31 : decode cX2_waitParked 31 = .ok (.putfield 9, 3) := by decide +kernel
theorem dX2_waitParked_34 : decode cX2_waitParked 34 = .ok (.aload_n 0, 1) := by decide +kernel
theorem dX2_waitParked_35 : decode cX2_waitParked 35 = .ok (.iconst 0, 1) := by decide +kernel
theorem dX2_waitParked_36 : decode cX2_waitParked 36 = .ok (.putfield 37, 3) := by decide +kernel
theorem dX2_waitParked_39 : decode cX2_waitParked 39 = .ok (.return_, 1) := by decide +kernel
theorem dX3_init_0 : decode cX3_init 0 = .ok (.aload_n 0, 1) := by decide +kernel
theorem dX3_init_1 : decode cX3_init 1 = .ok (.invokespecial 3, 3) := by decide +kernel
theorem dX3_init_4 : decode cX3_init 4 = .ok (.aload_n 0, 1) := by decide +kernel
theorem dX3_init_5 : decode cX3_init 5 = .ok (.bipush 60, 2) := by decide +kernel
theorem dX3_init_7 : decode cX3_init 7 = .ok (.newarray .int, 2) := by decide +kernel
theorem dX3_init_9 : decode cX3_init 9 = .ok (.putfield 9, 3) := by decide +kernel
theorem dX3_init_12 : decode cX3_init 12 = .ok (.aload_n 0, 1) := by decide +kernel
theorem dX3_init_13 : decode cX3_init 13 = .ok (.iconst 0, 1) := by decide +kernel
theorem dX3_init_14 : decode cX3_init 14 = .ok (.putfield 15, 3) := by decide +kernel
theorem dX3_init_17 : decode cX3_init 17 = .ok (.return_, 1) := by decide +kernel
theorem dX3_codeAt_0 : decode cX3_codeAt 0 = .ok (.iload_n 1, 1) := by decide +kernel
theorem dX3_codeAt_1 : decode cX3_codeAt 1 = .ok (.ifCond .lt 29, 3) := by decide +kernel
theorem dX3_codeAt_4 : decode cX3_codeAt 4 = .ok (.iload_n 1, 1) := by decide +kernel
theorem dX3_codeAt_5 : decode cX3_codeAt 5 = .ok (.aload_n 0, 1) := by decide +kernel
theorem dX3_codeAt_6 : decode cX3_codeAt 6 = .ok (.getfield 15, 3) := by decide +kernel
theorem dX3_codeAt_9 : decode cX3_codeAt 9 = .ok (.if_icmp .ge 21, 3) := by decide +kernel
theorem dX3_codeAt_12 : decode cX3_codeAt 12 = .ok (.iload_n 1, 1) := by decide +kernel
theorem dX3_codeAt_13 : decode cX3_codeAt 13 = .ok (.aload_n 0, 1) := by decide +kernel
theorem dX3_codeAt_14 : decode cX3_codeAt 14 = .ok (.getfield 9, 3) := by decide +kernel
theorem dX3_codeAt_17 : decode cX3_codeAt 17 = .ok (.arraylength, 1) := by decide +kernel
theorem dX3_codeAt_18 : decode cX3_codeAt 18 = .ok (.if_icmp .ge 12, 3) := by decide +kernel
theorem dX3_codeAt_21 : decode cX3_codeAt 21 = .ok (.aload_n 0, 1) := by decide +kernel
theorem dX3_codeAt_22 : decode cX3_codeAt 22 = .ok (.getfield 9, 3) := by decide +kernel
theorem dX3_codeAt_25 : decode cX3_codeAt 25 = .ok (.iload_n 1, 1) := by decide +kernel
theorem dX3_codeAt_26 : decode cX3_codeAt 26 = .ok (.iaload, 1) := by decide +kernel
theorem dX3_codeAt_27 : decode cX3_codeAt 27 = .ok (.goto 4, 3) := by decide +kernel
theorem dX3_codeAt_30 : decode cX3_codeAt 30 = .ok (.iconst 0, 1) := by decide +kernel
theorem dX3_codeAt_31 : decode cX3_codeAt 31 = .ok (.ireturn, 1) := by decide +kernel
theorem dX3_append_0 : decode cX3_append 0 = .ok (.lload_n 1, 1) := by decide +kernel
theorem dX3_append_1 : decode cX3_append 1 = .ok (.invokestatic 19, 3) := by decide +kernel
theorem dX3_append_4 : decode cX3_append 4 = .ok (.istore_n 3, 1) := by decide +kernel
theorem dX3_append_5 : decode cX3_append 5 = .ok (.iload_n 3, 1) := by decide +kernel
theorem dX3_append_6 : decode cX3_append 6 = .ok (.ifCond .ne 6, 3) := by decide +kernel
theorem dX3_append_9 : decode cX3_append 9 = .ok (.bipush (-2), 2) := by decide +kernel
theorem dX3_append_11 : decode cX3_append 11 = .ok (.ireturn, 1) := by decide +kernel
theorem dX3_append_12 : decode cX3_append 12 = .ok (.aload_n 0, 1) := by decide +kernel
theorem dX3_append_13 : decode cX3_append 13 = .ok (.getfield 15, 3) := by decide +kernel
theorem dX3_append_16 : decode cX3_append 16 = .ok (.iload_n 3, 1) := by decide +kernel
theorem dX3_append_17 : decode cX3_append 17 = .ok (.iadd, 1) := by decide +kernel
theorem dX3_append_18 : decode cX3_append 18 = .ok (.bipush 60, 2) := by decide +kernel
theorem dX3_append_20 : decode cX3_append 20 = .ok (.if_icmp .le 6, 3) := by decide +kernel
theorem dX3_append_23 : decode cX3_append 23 = .ok (.bipush (-4), 2) := by decide +kernel
theorem dX3_append_25 : decode cX3_append 25 = .ok (.ireturn, 1) := by decide +kernel
theorem dX3_append_26 : decode cX3_append 26 = .ok (.iload_n 3, 1) := by decide +kernel
theorem dX3_append_27 : decode cX3_append 27 = .ok (.iconst 1, 1) := by decide +kernel
theorem dX3_append_28 : decode cX3_append 28 = .ok (.isub, 1) := by decide +kernel
theorem dX3_append_29 : decode cX3_append 29 = .ok (.istore 4, 2) := by decide +kernel
theorem dX3_append_31 : decode cX3_append 31 = .ok (.iload 4, 2) := by decide +kernel
theorem dX3_append_33 : decode cX3_append 33 = .ok (.ifCond .lt 25, 3) := by decide +kernel
theorem dX3_append_36 : decode cX3_append 36 = .ok (.aload_n 0, 1) := by decide +kernel
theorem dX3_append_37 : decode cX3_append 37 = .ok (.lload_n 1, 1) := by decide +kernel
theorem dX3_append_38 : decode cX3_append 38 = .ok (.bipush 8, 2) := by decide +kernel
theorem dX3_append_40 : decode cX3_append 40 = .ok (.iload 4, 2) := by decide +kernel
theorem dX3_append_42 : decode cX3_append 42 = .ok (.imul, 1) := by decide +kernel
theorem dX3_append_43 : decode cX3_append 43 = .ok (.lushr, 1) := by decide +kernel
theorem dX3_append_44 : decode cX3_append 44 = .ok (.l2i, 1) := by decide +kernel
theorem dX3_append_45 : decode cX3_append 45 = .ok (.sipush 255, 3) := by decide +kernel
theorem dX3_append_48 : decode cX3_append 48 = .ok (.iand, 1) := by decide +kernel
theorem dX3_append_49 : decode cX3_append 49 = .ok (.invokevirtual 23, 3) := by decide +kernel
theorem dX3_append_52 : decode cX3_append 52 = .ok (.iinc 4 (-1), 3) := by decide +kernel
theorem dX3_append_55 : decode cX3_append 55 = .ok (.goto (-24), 3) := by decide +kernel
theorem dX3_append_58 : decode cX3_append 58 = .ok (.aload_n 0, 1) := by decide +kernel
theorem dX3_append_59 : decode cX3_append 59 = .ok (.getfield 15, 3) := by decide +kernel
theorem dX3_append_62 : decode cX3_append 62 = .ok (.ireturn, 1) := by decide +kernel
theorem dX3_appendCode_0 : decode cX3_appendCode 0 = .ok (.aload_n 0, 1) := by decide +kernel
theorem dX3_appendCode_1 : decode cX3_appendCode 1 = .ok (.getfield 15, 3) := by decide +kernel
theorem dX3_appendCode_4 : decode cX3_appendCode 4 = .ok (.ifCond .lt 35, 3) := by decide +kernel
theorem dX3_appendCode_7 : decode cX3_appendCode 7 = .ok (.aload_n 0, 1) := by decide +kernel
theorem dX3_appendCode_8 : decode cX3_appendCode 8 = .ok (.getfield 15, 3) := by decide +kernel
theorem dX3_appendCode_11 : decode cX3_appendCode 11 = .ok (.aload_n 0, 1) := by decide +kernel
theorem dX3_appendCode_12 : decode cX3_appendCode 12 = .ok (.getfield 9, 3) := by decide +kernel
theorem dX3_appendCode_15 : decode cX3_appendCode 15 = .ok (.arraylength, 1) := by decide +kernel
theorem dX3_appendCode_16 : decode cX3_appendCode 16 = .ok (.if_icmp .ge 23, 3) := by decide +kernel
theorem dX3_appendCode_19 : decode cX3_appendCode 19 = .ok (.aload_n 0, 1) := by decide +kernel
theorem dX3_appendCode_20 : decode cX3_appendCode 20 = .ok (.getfield 9, 3) := by decide +kernel
theorem dX3_appendCode_23 : decode cX3_appendCode 23 = .ok (.aload_n 0, 1) := by decide +kernel
theorem dX3_appendCode_24 : decode cX3_appendCode 24 = .ok (.getfield 15, 3) := by decide +kernel
theorem dX3_appendCode_27 : decode cX3_appendCode 27 = .ok (.iload_n 1, 1) := by decide +kernel
theorem dX3_appendCode_28 : decode cX3_appendCode 28 = .ok (.iastore, 1) := by decide +kernel
theorem dX3_appendCode_29 : decode cX3_appendCode 29 = .ok (.aload_n 0, 1) := by decide +kernel
theorem dX3_appendCode_30 : decode cX3_appendCode 30 = .ok (.dup, 1) := by decide +kernel
theorem dX3_appendCode_31 : decode cX3_appendCode 31 = .ok (.getfield 15, 3) := by decide +kernel
theorem dX3_appendCode_34 : decode cX3_appendCode 34 = .ok (.iconst 1, 1) := by decide +kernel
theorem dX3_appendCode_35 : decode cX3_appendCode 35 = .ok (.iadd, 1) := by decide +kernel
theorem dX3_appendCode_36 : decode cX3_appendCode 36 = .ok (.putfield 15, 3) := by decide +kernel
theorem dX3_appendCode_39 : decode cX3_appendCode 39 = .ok (.return_, 1) := by decide +kernel
theorem dX3_countOf_0 : decode cX3_countOf 0 = .ok (.iconst 0, 1) := by decide +kernel
theorem dX3_countOf_1 : decode cX3_countOf 1 = .ok (.istore_n 2, 1) := by decide +kernel
theorem dX3_countOf_2 : decode cX3_countOf 2 = .ok (.lload_n 0, 1) := by decide +kernel
theorem dX3_countOf_3 : decode cX3_countOf 3 = .ok (.lstore_n 3, 1) := by decide +kernel
theorem dX3_countOf_4 : decode cX3_countOf 4 = .ok (.iconst 0, 1) := by decide +kernel
theorem dX3_countOf_5 : decode cX3_countOf 5 = .ok (.istore 5, 2) := by decide +kernel
theorem dX3_countOf_7 : decode cX3_countOf 7 = .ok (.iload 5, 2) := by decide +kernel
theorem dX3_countOf_9 : decode cX3_countOf 9 = .ok (.bipush 8, 2) := by decide +kernel
theorem dX3_countOf_11 : decode cX3_countOf 11 = .ok (.if_icmp .ge 41, 3) := by decide +kernel
theorem dX3_countOf_14 : decode cX3_countOf 14 = .ok (.lload_n 3, 1) := by decide +kernel
theorem dX3_countOf_15 : decode cX3_countOf 15 = .ok (.lconst 0, 1) := by decide +kernel
theorem dX3_countOf_16 : decode cX3_countOf 16 = .ok (.lcmp, 1) := by decide +kernel
theorem dX3_countOf_17 : decode cX3_countOf 17 = .ok (.ifCond .eq 35, 3) := by decide +kernel
theorem dX3_countOf_20 : decode cX3_countOf 20 = .ok (.lload_n 3, 1) := by decide +kernel
theorem dX3_countOf_21 : decode cX3_countOf 21 = .ok (.l2i, 1) := by decide +kernel
theorem dX3_countOf_22 : decode cX3_countOf 22 = .ok (.sipush 255, 3) := by decide +kernel
theorem dX3_countOf_25 : decode cX3_countOf 25 = .ok (.iand, 1) := by decide +kernel
theorem dX3_countOf_26 : decode cX3_countOf 26 = .ok (.bipush 33, 2) := by decide +kernel
theorem dX3_countOf_28 : decode cX3_countOf 28 = .ok (.bipush 126, 2) := by decide +kernel
theorem dX3_countOf_30 : decode cX3_countOf 30 = .ok (.invokestatic 27, 3) := by decide +kernel
theorem dX3_countOf_33 : decode cX3_countOf 33 = .ok (.ifCond .ne 5, 3) := by decide +kernel
theorem dX3_countOf_36 : decode cX3_countOf 36 = .ok (.iconst 0, 1) := by decide +kernel
theorem dX3_countOf_37 : decode cX3_countOf 37 = .ok (.ireturn, 1) := by decide +kernel
theorem dX3_countOf_38 : decode cX3_countOf 38 = .ok (.iinc 2 1, 3) := by decide +kernel
theorem dX3_countOf_41 : decode cX3_countOf 41 = .ok (.lload_n 3, 1) := by decide +kernel
theorem dX3_countOf_42 : decode cX3_countOf 42 = .ok (.bipush 8, 2) := by decide +kernel
theorem dX3_countOf_44 : decode cX3_countOf 44 = .ok (.lushr, 1) := by decide +kernel
theorem dX3_countOf_45 : decode cX3_countOf 45 = .ok (.lstore_n 3, 1) := by decide +kernel
theorem dX3_countOf_46 : decode cX3_countOf 46 = .ok (.iinc 5 1, 3) := by decide +kernel
theorem dX3_countOf_49 : decode cX3_countOf 49 = .ok (.goto (-42), 3) := by decide +kernel
theorem dX3_countOf_52 : decode cX3_countOf 52 = .ok (.iload_n 2, 1) := by decide +kernel
theorem dX3_countOf_53 : decode cX3_countOf 53 = .ok (.ireturn, 1) := by decide +kernel
theorem dX3_firstFault_0 : decode cX3_firstFault 0 = .ok (.iconst 0, 1) := by decide +kernel
theorem dX3_firstFault_1 : decode cX3_firstFault 1 = .ok (.istore_n 1, 1) := by decide +kernel
theorem dX3_firstFault_2 : decode cX3_firstFault 2 = .ok (.iconst 0, 1) := by decide +kernel
theorem dX3_firstFault_3 : decode cX3_firstFault 3 = .ok (.istore_n 2, 1) := by decide +kernel
theorem dX3_firstFault_4 : decode cX3_firstFault 4 = .ok (.iconst 0, 1) := by decide +kernel
theorem dX3_firstFault_5 : decode cX3_firstFault 5 = .ok (.istore_n 3, 1) := by decide +kernel
theorem dX3_firstFault_6 : decode cX3_firstFault 6 = .ok (.iload_n 3, 1) := by decide +kernel
theorem dX3_firstFault_7 : decode cX3_firstFault 7 = .ok (.aload_n 0, 1) := by decide +kernel
theorem dX3_firstFault_8 : decode cX3_firstFault 8 = .ok (.getfield 15, 3) := by decide +kernel
theorem dX3_firstFault_11 : decode cX3_firstFault 11 = .ok (.if_icmp .ge 55, 3) := by decide +kernel
theorem dX3_firstFault_14 : decode cX3_firstFault 14 = .ok (.aload_n 0, 1) := by decide +kernel
theorem dX3_firstFault_15 : decode cX3_firstFault 15 = .ok (.iload_n 3, 1) := by decide +kernel
theorem dX3_firstFault_16 : decode cX3_firstFault 16 = .ok (.invokevirtual 31, 3) := by decide +kernel
theorem dX3_firstFault_19 : decode cX3_firstFault 19 = .ok (.istore 4, 2) := by decide +kernel
theorem dX3_firstFault_21 : decode cX3_firstFault 21 = .ok (.iload 4, 2) := by decide +kernel
theorem dX3_firstFault_23 : decode cX3_firstFault 23 = .ok (.invokestatic 35, 3) := by decide +kernel
theorem dX3_firstFault_26 : decode cX3_firstFault 26 = .ok (.ifCond .eq 16, 3) := by decide +kernel
theorem dX3_firstFault_29 : decode cX3_firstFault 29 = .ok (.bipush 10, 2) := by decide +kernel
theorem dX3_firstFault_31 : decode cX3_firstFault 31 = .ok (.iload_n 2, 1) := by decide +kernel
theorem dX3_firstFault_32 : decode cX3_firstFault 32 = .ok (.imul, 1) := by decide +kernel
theorem dX3_firstFault_33 : decode cX3_firstFault 33 = .ok (.iload 4, 2) := by decide +kernel
theorem dX3_firstFault_35 : decode cX3_firstFault 35 = .ok (.iadd, 1) := by decide +kernel
theorem dX3_firstFault_36 : decode cX3_firstFault 36 = .ok (.bipush 48, 2) := by decide +kernel
theorem dX3_firstFault_38 : decode cX3_firstFault 38 = .ok (.isub, 1) := by decide +kernel
theorem dX3_firstFault_39 : decode cX3_firstFault 39 = .ok (.goto 4, 3) := by decide +kernel
theorem dX3_firstFault_42 : decode cX3_firstFault 42 = .ok (.iconst 0, 1) := by decide +kernel
theorem dX3_firstFault_43 : decode cX3_firstFault 43 = .ok (.istore_n 2, 1) := by decide +kernel
theorem dX3_firstFault_44 : decode cX3_firstFault 44 = .ok (.iload_n 1, 1) := by decide +kernel
theorem dX3_firstFault_45 : decode cX3_firstFault 45 = .ok (.iload 4, 2) := by decide +kernel
theorem dX3_firstFault_47 : decode cX3_firstFault 47 = .ok (.iload_n 2, 1) := by decide +kernel
theorem dX3_firstFault_48 : decode cX3_firstFault 48 = .ok (.invokestatic 39, 3) := by decide +kernel
theorem dX3_firstFault_51 : decode cX3_firstFault 51 = .ok (.istore_n 1, 1) := by decide +kernel
theorem dX3_firstFault_52 : decode cX3_firstFault 52 = .ok (.iload_n 1, 1) := by decide +kernel
theorem dX3_firstFault_53 : decode cX3_firstFault 53 = .ok (.bipush 8, 2) := by decide +kernel
theorem dX3_firstFault_55 : decode cX3_firstFault 55 = .ok (.if_icmp .ne 5, 3) := by decide +kernel
theorem dX3_firstFault_58 : decode cX3_firstFault 58 = .ok (.iload_n 3, 1) := by decide +kernel
theorem dX3_firstFault_59 : decode cX3_firstFault 59 = .ok (.ireturn, 1) := by decide +kernel
theorem dX3_firstFault_60 : decode cX3_firstFault 60 = .ok (.iinc 3 1, 3) := by decide +kernel
theorem dX3_firstFault_63 : decode cX3_firstFault 63 = .ok (.goto (-57), 3) := by decide +kernel
theorem dX3_firstFault_66 : decode cX3_firstFault 66 = .ok (.iload_n 1, 1) := by decide +kernel
theorem dX3_firstFault_67 : decode cX3_firstFault 67 = .ok (.bipush 7, 2) := by decide +kernel
theorem dX3_firstFault_69 : decode cX3_firstFault 69 = .ok (.if_icmp .eq 14, 3) := by decide +kernel
theorem dX3_firstFault_72 : decode cX3_firstFault 72 = .ok (.iload_n 1, 1) := by decide +kernel
theorem dX3_firstFault_73 : decode cX3_firstFault 73 = .ok (.iconst 4, 1) := by decide +kernel
theorem dX3_firstFault_74 : decode cX3_firstFault 74 = .ok (.if_icmp .eq 9, 3) := by decide +kernel
theorem dX3_firstFault_77 : decode cX3_firstFault 77 = .ok (.iload_n 1, 1) := by decide +kernel
theorem dX3_firstFault_78 : decode cX3_firstFault 78 = .ok (.bipush 6, 2) := by decide +kernel
theorem dX3_firstFault_80 : decode cX3_firstFault 80 = .ok (.if_icmp .ne 7, 3) := by decide +kernel
theorem dX3_firstFault_83 : decode cX3_firstFault 83 = .ok (.iconst 1, 1) := by decide +kernel
theorem dX3_firstFault_84 : decode cX3_firstFault 84 = .ok (.goto 4, 3) := by decide +kernel
theorem dX3_firstFault_87 : decode cX3_firstFault 87 = .ok (.iconst 0, 1) := by decide +kernel
theorem dX3_firstFault_88 : decode cX3_firstFault 88 = .ok (.istore_n 3, 1) := by decide +kernel
theorem dX3_firstFault_89 : decode cX3_firstFault 89 = .ok (.iload_n 3, 1) := by decide +kernel
theorem dX3_firstFault_90 : decode cX3_firstFault 90 = .ok (.ifCond .eq 8, 3) := by decide +kernel
theorem dX3_firstFault_93 : decode cX3_firstFault 93 = .ok (.bipush (-6), 2) := by decide +kernel
theorem dX3_firstFault_95 : decode cX3_firstFault 95 = .ok (.goto 7, 3) := by decide +kernel
theorem dX3_firstFault_98 : decode cX3_firstFault 98 = .ok (.aload_n 0, 1) := by decide +kernel
theorem dX3_firstFault_99 : decode cX3_firstFault 99 = .ok (.getfield 15, 3) := by decide +kernel
theorem dX3_firstFault_102 : decode cX3_firstFault 102 = .ok (.ireturn, 1) := by decide +kernel
theorem dX3_awaitedBehind_0 : decode cX3_awaitedBehind 0 = .ok (.iload_n 0, 1) := by decide +kernel
theorem dX3_awaitedBehind_1 : decode cX3_awaitedBehind 1 = .ok (.tableswitch 151 0 6 #[43, 48, 65, 81, 95, 111, 130], 43) := by decide +kernel
theorem dX3_awaitedBehind_44 : decode cX3_awaitedBehind 44 = .ok (.iload_n 1, 1) := by decide +kernel
theorem dX3_awaitedBehind_45 : decode cX3_awaitedBehind 45 = .ok (.invokestatic 43, 3) := by decide +kernel
theorem dX3_awaitedBehind_48 : decode cX3_awaitedBehind 48 = .ok (.ireturn, 1) := by decide +kernel
theorem dX3_awaitedBehind_49 : decode cX3_awaitedBehind 49 = .ok (.iload_n 1, 1) := by decide +kernel
theorem dX3_awaitedBehind_50 : decode cX3_awaitedBehind 50 = .ok (.invokestatic 46, 3) := by decide +kernel
theorem dX3_awaitedBehind_53 : decode cX3_awaitedBehind 53 = .ok (.bipush (-6), 2) := by decide +kernel
theorem dX3_awaitedBehind_55 : decode cX3_awaitedBehind 55 = .ok (.if_icmp .ne 8, 3) := by decide +kernel
theorem dX3_awaitedBehind_58 : decode cX3_awaitedBehind 58 = .ok (.bipush 8, 2) := by decide +kernel
theorem dX3_awaitedBehind_60 : decode cX3_awaitedBehind 60 = .ok (.goto 5, 3) := by decide +kernel
theorem dX3_awaitedBehind_63 : decode cX3_awaitedBehind 63 = .ok (.bipush 7, 2) := by decide +kernel
theorem dX3_awaitedBehind_65 : decode cX3_awaitedBehind 65 = .ok (.ireturn, 1) := by decide +kernel
theorem dX3_awaitedBehind_66 : decode cX3_awaitedBehind 66 = .ok (.iload_n 1, 1) := by decide +kernel
theorem dX3_awaitedBehind_67 : decode cX3_awaitedBehind 67 = .ok (.invokestatic 46, 3) := by decide +kernel
theorem dX3_awaitedBehind_70 : decode cX3_awaitedBehind 70 = .ok (.bipush (-6), 2) := by decide +kernel
theorem dX3_awaitedBehind_72 : decode cX3_awaitedBehind 72 = .ok (.if_icmp .ne 8, 3) := by decide +kernel
theorem dX3_awaitedBehind_75 : decode cX3_awaitedBehind 75 = .ok (.bipush 8, 2) := by decide +kernel
theorem dX3_awaitedBehind_77 : decode cX3_awaitedBehind 77 = .ok (.goto 4, 3) := by decide +kernel
theorem dX3_awaitedBehind_80 : decode cX3_awaitedBehind 80 = .ok (.iconst 3, 1) := by decide +kernel
theorem dX3_awaitedBehind_81 : decode cX3_awaitedBehind 81 = .ok (.ireturn, 1) := by decide +kernel
theorem dX3_awaitedBehind_82 : decode cX3_awaitedBehind 82 = .ok (.iload_n 1, 1) := by decide +kernel
theorem dX3_awaitedBehind_83 : decode cX3_awaitedBehind 83 = .ok (.invokestatic 35, 3) := by decide +kernel
theorem dX3_awaitedBehind_86 : decode cX3_awaitedBehind 86 = .ok (.ifCond .eq 7, 3) := by decide +kernel
theorem dX3_awaitedBehind_89 : decode cX3_awaitedBehind 89 = .ok (.iconst 4, 1) := by decide +kernel
theorem dX3_awaitedBehind_90 : decode cX3_awaitedBehind 90 = .ok (.goto 5, 3) := by decide +kernel
theorem dX3_awaitedBehind_93 : decode cX3_awaitedBehind 93 = .ok (.bipush 8, 2) := by decide +kernel
theorem dX3_awaitedBehind_95 : decode cX3_awaitedBehind 95 = .ok (.ireturn, 1) := by decide +kernel
theorem dX3_awaitedBehind_96 : decode cX3_awaitedBehind 96 = .ok (.iload_n 1, 1) := by decide +kernel
theorem dX3_awaitedBehind_97 : decode cX3_awaitedBehind 97 = .ok (.invokestatic 35, 3) := by decide +kernel
theorem dX3_awaitedBehind_100 : decode cX3_awaitedBehind 100 = .ok (.ifCond .eq 7, 3) := by decide +kernel
theorem dX3_awaitedBehind_103 : decode cX3_awaitedBehind 103 = .ok (.iconst 4, 1) := by decide +kernel
theorem dX3_awaitedBehind_104 : decode cX3_awaitedBehind 104 = .ok (.goto 7, 3) := by decide +kernel
theorem dX3_awaitedBehind_107 : decode cX3_awaitedBehind 107 = .ok (.iload_n 1, 1) := by decide +kernel
theorem dX3_awaitedBehind_108 : decode cX3_awaitedBehind 108 = .ok (.invokestatic 49, 3) := by decide +kernel
theorem dX3_awaitedBehind_111 : decode cX3_awaitedBehind 111 = .ok (.ireturn, 1) := by decide +kernel
theorem dX3_awaitedBehind_112 : decode cX3_awaitedBehind 112 = .ok (.iload_n 2, 1) := by decide +kernel
theorem dX3_awaitedBehind_113 : decode cX3_awaitedBehind 113 = .ok (.iconst 1, 1) := by decide +kernel
theorem dX3_awaitedBehind_114 : decode cX3_awaitedBehind 114 = .ok (.sipush 200, 3) := by decide +kernel
theorem dX3_awaitedBehind_117 : decode cX3_awaitedBehind 117 = .ok (.invokestatic 27, 3) := by decide +kernel
theorem dX3_awaitedBehind_120 : decode cX3_awaitedBehind 120 = .ok (.ifCond .eq 8, 3) := by decide +kernel
theorem dX3_awaitedBehind_123 : decode cX3_awaitedBehind 123 = .ok (.bipush 6, 2) := by decide +kernel
theorem dX3_awaitedBehind_125 : decode cX3_awaitedBehind 125 = .ok (.goto 5, 3) := by decide +kernel
theorem dX3_awaitedBehind_128 : decode cX3_awaitedBehind 128 = .ok (.bipush 8, 2) := by decide +kernel
theorem dX3_awaitedBehind_130 : decode cX3_awaitedBehind 130 = .ok (.ireturn, 1) := by decide +kernel
theorem dX3_awaitedBehind_131 : decode cX3_awaitedBehind 131 = .ok (.iload_n 2, 1) := by decide +kernel
theorem dX3_awaitedBehind_132 : decode cX3_awaitedBehind 132 = .ok (.iconst 1, 1) := by decide +kernel
theorem dX3_awaitedBehind_133 : decode cX3_awaitedBehind 133 = .ok (.sipush 200, 3) := by decide +kernel
theorem dX3_awaitedBehind_136 : decode cX3_awaitedBehind 136 = .ok (.invokestatic 27, 3) := by decide +kernel
theorem dX3_awaitedBehind_139 : decode cX3_awaitedBehind 139 = .ok (.ifCond .eq 8, 3) := by decide +kernel
theorem dX3_awaitedBehind_142 : decode cX3_awaitedBehind 142 = .ok (.bipush 6, 2) := by decide +kernel
theorem dX3_awaitedBehind_144 : decode cX3_awaitedBehind 144 = .ok (.goto 7, 3) := by decide +kernel
theorem dX3_awaitedBehind_147 : decode cX3_awaitedBehind 147 = .ok (.iload_n 1, 1) := by decide +kernel
theorem dX3_awaitedBehind_148 : decode cX3_awaitedBehind 148 = .ok (.invokestatic 49, 3) := by decide +kernel
theorem dX3_awaitedBehind_151 : decode cX3_awaitedBehind 151 = .ok (.ireturn, 1) := by decide +kernel
theorem dX3_awaitedBehind_152 : decode cX3_awaitedBehind 152 = .ok (.iload_n 1, 1) := by decide +kernel
theorem dX3_awaitedBehind_153 : decode cX3_awaitedBehind 153 = .ok (.invokestatic 49, 3) := by decide +kernel
theorem dX3_awaitedBehind_156 : decode cX3_awaitedBehind 156 = .ok (.ireturn, 1) := by decide +kernel
theorem dX3_awaitedBehindLetter_0 : decode cX3_awaitedBehindLetter 0 = .ok (.iload_n 0, 1) := by decide +kernel
theorem dX3_awaitedBehindLetter_1 : decode cX3_awaitedBehindLetter 1 = .ok (.lookupswitch 49 #[(100, 45), (104, 43), (108, 43), (116, 47)], 43) := by decide +kernel
theorem dX3_awaitedBehindLetter_44 : decode cX3_awaitedBehindLetter 44 = .ok (.iconst 1, 1) := by decide +kernel
theorem dX3_awaitedBehindLetter_45 : decode cX3_awaitedBehindLetter 45 = .ok (.ireturn, 1) := by decide +kernel
theorem dX3_awaitedBehindLetter_46 : decode cX3_awaitedBehindLetter 46 = .ok (.iconst 2, 1) := by decide +kernel
theorem dX3_awaitedBehindLetter_47 : decode cX3_awaitedBehindLetter 47 = .ok (.ireturn, 1) := by decide +kernel
theorem dX3_awaitedBehindLetter_48 : decode cX3_awaitedBehindLetter 48 = .ok (.iconst 5, 1) := by decide +kernel
theorem dX3_awaitedBehindLetter_49 : decode cX3_awaitedBehindLetter 49 = .ok (.ireturn, 1) := by decide +kernel
theorem dX3_awaitedBehindLetter_50 : decode cX3_awaitedBehindLetter 50 = .ok (.bipush 8, 2) := by decide +kernel
theorem dX3_awaitedBehindLetter_52 : decode cX3_awaitedBehindLetter 52 = .ok (.ireturn, 1) := by decide +kernel
theorem dX3_awaitedBehindComma_0 : decode cX3_awaitedBehindComma 0 = .ok (.iload_n 0, 1) := by decide +kernel
theorem dX3_awaitedBehindComma_1 : decode cX3_awaitedBehindComma 1 = .ok (.bipush 44, 2) := by decide +kernel
theorem dX3_awaitedBehindComma_3 : decode cX3_awaitedBehindComma 3 = .ok (.if_icmp .ne 7, 3) := by decide +kernel
theorem dX3_awaitedBehindComma_6 : decode cX3_awaitedBehindComma 6 = .ok (.iconst 0, 1) := by decide +kernel
theorem dX3_awaitedBehindComma_7 : decode cX3_awaitedBehindComma 7 = .ok (.goto 5, 3) := by decide +kernel
theorem dX3_awaitedBehindComma_10 : decode cX3_awaitedBehindComma 10 = .ok (.bipush 8, 2) := by decide +kernel
theorem dX3_awaitedBehindComma_12 : decode cX3_awaitedBehindComma 12 = .ok (.ireturn, 1) := by decide +kernel
theorem dX3_beginsAnAct_0 : decode cX3_beginsAnAct 0 = .ok (.iload_n 1, 1) := by decide +kernel
theorem dX3_beginsAnAct_1 : decode cX3_beginsAnAct 1 = .ok (.ifCond .eq 15, 3) := by decide +kernel
theorem dX3_beginsAnAct_4 : decode cX3_beginsAnAct 4 = .ok (.aload_n 0, 1) := by decide +kernel
theorem dX3_beginsAnAct_5 : decode cX3_beginsAnAct 5 = .ok (.iload_n 1, 1) := by decide +kernel
theorem dX3_beginsAnAct_6 : decode cX3_beginsAnAct 6 = .ok (.iconst 1, 1) := by decide +kernel
theorem dX3_beginsAnAct_7 : decode cX3_beginsAnAct 7 = .ok (.isub, 1) := by decide +kernel
theorem dX3_beginsAnAct_8 : decode cX3_beginsAnAct 8 = .ok (.invokevirtual 31, 3) := by decide +kernel
theorem dX3_beginsAnAct_11 : decode cX3_beginsAnAct 11 = .ok (.bipush 44, 2) := by decide +kernel
theorem dX3_beginsAnAct_13 : decode cX3_beginsAnAct 13 = .ok (.if_icmp .ne 7, 3) := by decide +kernel
theorem dX3_beginsAnAct_16 : decode cX3_beginsAnAct 16 = .ok (.iconst 1, 1) := by decide +kernel
theorem dX3_beginsAnAct_17 : decode cX3_beginsAnAct 17 = .ok (.goto 4, 3) := by decide +kernel
theorem dX3_beginsAnAct_20 : decode cX3_beginsAnAct 20 = .ok (.iconst 0, 1) := by decide +kernel
theorem dX3_beginsAnAct_21 : decode cX3_beginsAnAct 21 = .ok (.ireturn, 1) := by decide +kernel
theorem dX3_lineAt_0 : decode cX3_lineAt 0 = .ok (.aload_n 0, 1) := by decide +kernel
theorem dX3_lineAt_1 : decode cX3_lineAt 1 = .ok (.iload_n 1, 1) := by decide +kernel
theorem dX3_lineAt_2 : decode cX3_lineAt 2 = .ok (.invokevirtual 31, 3) := by decide +kernel
theorem dX3_lineAt_5 : decode cX3_lineAt 5 = .ok (.invokestatic 46, 3) := by decide +kernel
theorem dX3_lineAt_8 : decode cX3_lineAt 8 = .ok (.ireturn, 1) := by decide +kernel
theorem dX3_lineOf_0 : decode cX3_lineOf 0 = .ok (.iload_n 0, 1) := by decide +kernel
theorem dX3_lineOf_1 : decode cX3_lineOf 1 = .ok (.invokestatic 35, 3) := by decide +kernel
theorem dX3_lineOf_4 : decode cX3_lineOf 4 = .ok (.ifCond .eq 8, 3) := by decide +kernel
theorem dX3_lineOf_7 : decode cX3_lineOf 7 = .ok (.iload_n 0, 1) := by decide +kernel
theorem dX3_lineOf_8 : decode cX3_lineOf 8 = .ok (.bipush 48, 2) := by decide +kernel
theorem dX3_lineOf_10 : decode cX3_lineOf 10 = .ok (.isub, 1) := by decide +kernel
theorem dX3_lineOf_11 : decode cX3_lineOf 11 = .ok (.ireturn, 1) := by decide +kernel
theorem dX3_lineOf_12 : decode cX3_lineOf 12 = .ok (.iload_n 0, 1) := by decide +kernel
theorem dX3_lineOf_13 : decode cX3_lineOf 13 = .ok (.bipush 97, 2) := by decide +kernel
theorem dX3_lineOf_15 : decode cX3_lineOf 15 = .ok (.bipush 102, 2) := by decide +kernel
theorem dX3_lineOf_17 : decode cX3_lineOf 17 = .ok (.invokestatic 27, 3) := by decide +kernel
theorem dX3_lineOf_20 : decode cX3_lineOf 20 = .ok (.ifCond .eq 13, 3) := by decide +kernel
theorem dX3_lineOf_23 : decode cX3_lineOf 23 = .ok (.iload_n 0, 1) := by decide +kernel
theorem dX3_lineOf_24 : decode cX3_lineOf 24 = .ok (.bipush 97, 2) := by decide +kernel
theorem dX3_lineOf_26 : decode cX3_lineOf 26 = .ok (.isub, 1) := by decide +kernel
theorem dX3_lineOf_27 : decode cX3_lineOf 27 = .ok (.bipush 10, 2) := by decide +kernel
theorem dX3_lineOf_29 : decode cX3_lineOf 29 = .ok (.iadd, 1) := by decide +kernel
theorem dX3_lineOf_30 : decode cX3_lineOf 30 = .ok (.goto 5, 3) := by decide +kernel
theorem dX3_lineOf_33 : decode cX3_lineOf 33 = .ok (.bipush (-6), 2) := by decide +kernel
theorem dX3_lineOf_35 : decode cX3_lineOf 35 = .ok (.ireturn, 1) := by decide +kernel
theorem dX3_numberAt_0 : decode cX3_numberAt 0 = .ok (.iconst 0, 1) := by decide +kernel
theorem dX3_numberAt_1 : decode cX3_numberAt 1 = .ok (.istore_n 2, 1) := by decide +kernel
theorem dX3_numberAt_2 : decode cX3_numberAt 2 = .ok (.iload_n 1, 1) := by decide +kernel
theorem dX3_numberAt_3 : decode cX3_numberAt 3 = .ok (.istore_n 3, 1) := by decide +kernel
theorem dX3_numberAt_4 : decode cX3_numberAt 4 = .ok (.iload_n 3, 1) := by decide +kernel
theorem dX3_numberAt_5 : decode cX3_numberAt 5 = .ok (.aload_n 0, 1) := by decide +kernel
theorem dX3_numberAt_6 : decode cX3_numberAt 6 = .ok (.getfield 15, 3) := by decide +kernel
theorem dX3_numberAt_9 : decode cX3_numberAt 9 = .ok (.if_icmp .ge 34, 3) := by decide +kernel
theorem dX3_numberAt_12 : decode cX3_numberAt 12 = .ok (.aload_n 0, 1) := by decide +kernel
theorem dX3_numberAt_13 : decode cX3_numberAt 13 = .ok (.iload_n 3, 1) := by decide +kernel
theorem dX3_numberAt_14 : decode cX3_numberAt 14 = .ok (.invokevirtual 31, 3) := by decide +kernel
theorem dX3_numberAt_17 : decode cX3_numberAt 17 = .ok (.invokestatic 35, 3) := by decide +kernel
theorem dX3_numberAt_20 : decode cX3_numberAt 20 = .ok (.ifCond .eq 23, 3) := by decide +kernel
theorem dX3_numberAt_23 : decode cX3_numberAt 23 = .ok (.bipush 10, 2) := by decide +kernel
theorem dX3_numberAt_25 : decode cX3_numberAt 25 = .ok (.iload_n 2, 1) := by decide +kernel
theorem dX3_numberAt_26 : decode cX3_numberAt 26 = .ok (.imul, 1) := by decide +kernel
theorem dX3_numberAt_27 : decode cX3_numberAt 27 = .ok (.aload_n 0, 1) := by decide +kernel
theorem dX3_numberAt_28 : decode cX3_numberAt 28 = .ok (.iload_n 3, 1) := by decide +kernel
theorem dX3_numberAt_29 : decode cX3_numberAt 29 = .ok (.invokevirtual 31, 3) := by decide +kernel
theorem dX3_numberAt_32 : decode cX3_numberAt 32 = .ok (.iadd, 1) := by decide +kernel
theorem dX3_numberAt_33 : decode cX3_numberAt 33 = .ok (.bipush 48, 2) := by decide +kernel
theorem dX3_numberAt_35 : decode cX3_numberAt 35 = .ok (.isub, 1) := by decide +kernel
theorem dX3_numberAt_36 : decode cX3_numberAt 36 = .ok (.istore_n 2, 1) := by decide +kernel
theorem dX3_numberAt_37 : decode cX3_numberAt 37 = .ok (.iinc 3 1, 3) := by decide +kernel
theorem dX3_numberAt_40 : decode cX3_numberAt 40 = .ok (.goto (-36), 3) := by decide +kernel
theorem dX3_numberAt_43 : decode cX3_numberAt 43 = .ok (.iload_n 2, 1) := by decide +kernel
theorem dX3_numberAt_44 : decode cX3_numberAt 44 = .ok (.ireturn, 1) := by decide +kernel
theorem dX3_isDigit_0 : decode cX3_isDigit 0 = .ok (.iload_n 0, 1) := by decide +kernel
theorem dX3_isDigit_1 : decode cX3_isDigit 1 = .ok (.bipush 48, 2) := by decide +kernel
theorem dX3_isDigit_3 : decode cX3_isDigit 3 = .ok (.bipush 57, 2) := by decide +kernel
theorem dX3_isDigit_5 : decode cX3_isDigit 5 = .ok (.invokestatic 27, 3) := by decide +kernel
theorem dX3_isDigit_8 : decode cX3_isDigit 8 = .ok (.ireturn, 1) := by decide +kernel
theorem dX4_init_0 : decode cX4_init 0 = .ok (.aload_n 0, 1) := by decide +kernel
theorem dX4_init_1 : decode cX4_init 1 = .ok (.invokespecial 1, 3) := by decide +kernel
theorem dX4_init_4 : decode cX4_init 4 = .ok (.aload_n 0, 1) := by decide +kernel
theorem dX4_init_5 : decode cX4_init 5 = .ok (.new 7, 3) := by decide +kernel
theorem dX4_init_8 : decode cX4_init 8 = .ok (.dup, 1) := by decide +kernel
theorem dX4_init_9 : decode cX4_init 9 = .ok (.invokespecial 9, 3) := by decide +kernel
theorem dX4_init_12 : decode cX4_init 12 = .ok (.putfield 10, 3) := by decide +kernel
theorem dX4_init_15 : decode cX4_init 15 = .ok (.aload_n 0, 1) := by decide +kernel
theorem dX4_init_16 : decode cX4_init 16 = .ok (.new 7, 3) := by decide +kernel
theorem dX4_init_19 : decode cX4_init 19 = .ok (.dup, 1) := by decide +kernel
theorem dX4_init_20 : decode cX4_init 20 = .ok (.invokespecial 9, 3) := by decide +kernel
theorem dX4_init_23 : decode cX4_init 23 = .ok (.putfield 16, 3) := by decide +kernel
theorem dX4_init_26 : decode cX4_init 26 = .ok (.aload_n 0, 1) := by decide +kernel
theorem dX4_init_27 : decode cX4_init 27 = .ok (.iconst 2, 1) := by decide +kernel
theorem dX4_init_28 : decode cX4_init 28 = .ok (.anewarray 7, 3) := by decide +kernel
theorem dX4_init_31 : decode cX4_init 31 = .ok (.putfield 19, 3) := by decide +kernel
theorem dX4_init_34 : decode cX4_init 34 = .ok (.aload_n 0, 1) := by decide +kernel
theorem dX4_init_35 : decode cX4_init 35 = .ok (.new 23, 3) := by decide +kernel
theorem dX4_init_38 : decode cX4_init 38 = .ok (.dup, 1) := by decide +kernel
theorem dX4_init_39 : decode cX4_init 39 = .ok (.invokespecial 25, 3) := by decide +kernel
theorem dX4_init_42 : decode cX4_init 42 = .ok (.putfield 26, 3) := by decide +kernel
theorem dX4_init_45 : decode cX4_init 45 = .ok (.return_, 1) := by decide +kernel
theorem dX4_setUp_0 : decode cX4_setUp 0 = .ok (.iload_n 1, 1) := by decide +kernel
theorem dX4_setUp_1 : decode cX4_setUp 1 = .ok (.iconst 1, 1) := by decide +kernel
theorem dX4_setUp_2 : decode cX4_setUp 2 = .ok (.iconst 4, 1) := by decide +kernel
theorem dX4_setUp_3 : decode cX4_setUp 3 = .ok (.invokestatic 30, 3) := by decide +kernel
theorem dX4_setUp_6 : decode cX4_setUp 6 = .ok (.ifCond .eq 12, 3) := by decide +kernel
theorem dX4_setUp_9 : decode cX4_setUp 9 = .ok (.iload_n 2, 1) := by decide +kernel
theorem dX4_setUp_10 : decode cX4_setUp 10 = .ok (.iconst 1, 1) := by decide +kernel
theorem dX4_setUp_11 : decode cX4_setUp 11 = .ok (.iconst 3, 1) := by decide +kernel
theorem dX4_setUp_12 : decode cX4_setUp 12 = .ok (.invokestatic 30, 3) := by decide +kernel
theorem dX4_setUp_15 : decode cX4_setUp 15 = .ok (.ifCond .ne 6, 3) := by decide +kernel
theorem dX4_setUp_18 : decode cX4_setUp 18 = .ok (.bipush (-2), 2) := by decide +kernel
theorem dX4_setUp_20 : decode cX4_setUp 20 = .ok (.ireturn, 1) := by decide +kernel
theorem dX4_setUp_21 : decode cX4_setUp 21 = .ok (.aload_n 0, 1) := by decide +kernel
theorem dX4_setUp_22 : decode cX4_setUp 22 = .ok (.getfield 10, 3) := by decide +kernel
theorem dX4_setUp_25 : decode cX4_setUp 25 = .ok (.getfield 34, 3) := by decide +kernel
theorem dX4_setUp_28 : decode cX4_setUp 28 = .ok (.istore_n 3, 1) := by decide +kernel
theorem dX4_setUp_29 : decode cX4_setUp 29 = .ok (.aload_n 0, 1) := by decide +kernel
theorem dX4_setUp_30 : decode cX4_setUp 30 = .ok (.getfield 10, 3) := by decide +kernel
theorem dX4_setUp_33 : decode cX4_setUp 33 = .ok (.iload_n 1, 1) := by decide +kernel
theorem dX4_setUp_34 : decode cX4_setUp 34 = .ok (.iload_n 2, 1) := by decide +kernel
theorem dX4_setUp_35 : decode cX4_setUp 35 = .ok (.invokevirtual 38, 3) := by decide +kernel
theorem dX4_setUp_38 : decode cX4_setUp 38 = .ok (.iload_n 3, 1) := by decide +kernel
theorem dX4_setUp_39 : decode cX4_setUp 39 = .ok (.ireturn, 1) := by decide +kernel
theorem dX4_set_0 : decode cX4_set 0 = .ok (.iload_n 1, 1) := by decide +kernel
theorem dX4_set_1 : decode cX4_set 1 = .ok (.iconst 0, 1) := by decide +kernel
theorem dX4_set_2 : decode cX4_set 2 = .ok (.getstatic 42, 3) := by decide +kernel
theorem dX4_set_5 : decode cX4_set 5 = .ok (.arraylength, 1) := by decide +kernel
theorem dX4_set_6 : decode cX4_set 6 = .ok (.iconst 1, 1) := by decide +kernel
theorem dX4_set_7 : decode cX4_set 7 = .ok (.isub, 1) := by decide +kernel
theorem dX4_set_8 : decode cX4_set 8 = .ok (.invokestatic 30, 3) := by decide +kernel
theorem dX4_set_11 : decode cX4_set 11 = .ok (.ifCond .eq 16, 3) := by decide +kernel
theorem dX4_set_14 : decode cX4_set 14 = .ok (.iload_n 2, 1) := by decide +kernel
theorem dX4_set_15 : decode cX4_set 15 = .ok (.iconst 1, 1) := by decide +kernel
theorem dX4_set_16 : decode cX4_set 16 = .ok (.getstatic 42, 3) := by decide +kernel
theorem dX4_set_19 : decode cX4_set 19 = .ok (.iload_n 1, 1) := by decide +kernel
theorem dX4_set_20 : decode cX4_set 20 = .ok (.iaload, 1) := by decide +kernel
theorem dX4_set_21 : decode cX4_set 21 = .ok (.invokestatic 30, 3) := by decide +kernel
theorem dX4_set_24 : decode cX4_set 24 = .ok (.ifCond .ne 6, 3) := by decide +kernel
theorem dX4_set_27 : decode cX4_set 27 = .ok (.bipush (-2), 2) := by decide +kernel
theorem dX4_set_29 : decode cX4_set 29 = .ok (.ireturn, 1) := by decide +kernel
theorem dX4_set_30 : decode cX4_set 30 = .ok (.aload_n 0, 1) := by decide +kernel
theorem dX4_set_31 : decode cX4_set 31 = .ok (.getfield 10, 3) := by decide +kernel
theorem dX4_set_34 : decode cX4_set 34 = .ok (.iload_n 1, 1) := by decide +kernel
theorem dX4_set_35 : decode cX4_set 35 = .ok (.iload_n 2, 1) := by decide +kernel
theorem dX4_set_36 : decode cX4_set 36 = .ok (.invokevirtual 46, 3) := by decide +kernel
theorem dX4_set_39 : decode cX4_set 39 = .ok (.ireturn, 1) := by decide +kernel
theorem dX4_lift_0 : decode cX4_lift 0 = .ok (.iload_n 1, 1) := by decide +kernel
theorem dX4_lift_1 : decode cX4_lift 1 = .ok (.invokestatic 50, 3) := by decide +kernel
theorem dX4_lift_4 : decode cX4_lift 4 = .ok (.ifCond .eq 14, 3) := by decide +kernel
theorem dX4_lift_7 : decode cX4_lift 7 = .ok (.aload_n 0, 1) := by decide +kernel
theorem dX4_lift_8 : decode cX4_lift 8 = .ok (.getfield 10, 3) := by decide +kernel
theorem dX4_lift_11 : decode cX4_lift 11 = .ok (.iload_n 1, 1) := by decide +kernel
theorem dX4_lift_12 : decode cX4_lift 12 = .ok (.invokevirtual 54, 3) := by decide +kernel
theorem dX4_lift_15 : decode cX4_lift 15 = .ok (.goto 4, 3) := by decide +kernel
theorem dX4_lift_18 : decode cX4_lift 18 = .ok (.iconst (-1), 1) := by decide +kernel
theorem dX4_lift_19 : decode cX4_lift 19 = .ok (.ireturn, 1) := by decide +kernel
theorem dX4_hang_0 : decode cX4_hang 0 = .ok (.iload_n 1, 1) := by decide +kernel
theorem dX4_hang_1 : decode cX4_hang 1 = .ok (.invokestatic 50, 3) := by decide +kernel
theorem dX4_hang_4 : decode cX4_hang 4 = .ok (.ifCond .eq 14, 3) := by decide +kernel
theorem dX4_hang_7 : decode cX4_hang 7 = .ok (.aload_n 0, 1) := by decide +kernel
theorem dX4_hang_8 : decode cX4_hang 8 = .ok (.getfield 10, 3) := by decide +kernel
theorem dX4_hang_11 : decode cX4_hang 11 = .ok (.iload_n 1, 1) := by decide +kernel
theorem dX4_hang_12 : decode cX4_hang 12 = .ok (.invokevirtual 58, 3) := by decide +kernel
theorem dX4_hang_15 : decode cX4_hang 15 = .ok (.goto 4, 3) := by decide +kernel
theorem dX4_hang_18 : decode cX4_hang 18 = .ok (.iconst (-1), 1) := by decide +kernel
theorem dX4_hang_19 : decode cX4_hang 19 = .ok (.ireturn, 1) := by decide +kernel
theorem dX4_dial_0 : decode cX4_dial 0 = .ok (.iload_n 1, 1) := by decide +kernel
theorem dX4_dial_1 : decode cX4_dial 1 = .ok (.invokestatic 50, 3) := by decide +kernel
theorem dX4_dial_4 : decode cX4_dial 4 = .ok (.ifCond .ne 5, 3) := by decide +kernel
theorem dX4_dial_7 : decode cX4_dial 7 = .ok (.iconst (-1), 1) := by decide +kernel
theorem dX4_dial_8 : decode cX4_dial 8 = .ok (.ireturn, 1) := by decide +kernel
theorem dX4_dial_9 : decode cX4_dial 9 = .ok (.iload_n 2, 1) := by decide +kernel
theorem dX4_dial_10 : decode cX4_dial 10 = .ok (.iconst 0, 1) := by decide +kernel
theorem dX4_dial_11 : decode cX4_dial 11 = .ok (.bipush 9, 2) := by decide +kernel
theorem dX4_dial_13 : decode cX4_dial 13 = .ok (.invokestatic 30, 3) := by decide +kernel
theorem dX4_dial_16 : decode cX4_dial 16 = .ok (.ifCond .eq 15, 3) := by decide +kernel
theorem dX4_dial_19 : decode cX4_dial 19 = .ok (.aload_n 0, 1) := by decide +kernel
theorem dX4_dial_20 : decode cX4_dial 20 = .ok (.getfield 10, 3) := by decide +kernel
theorem dX4_dial_23 : decode cX4_dial 23 = .ok (.iload_n 1, 1) := by decide +kernel
theorem dX4_dial_24 : decode cX4_dial 24 = .ok (.iload_n 2, 1) := by decide +kernel
theorem dX4_dial_25 : decode cX4_dial 25 = .ok (.invokevirtual 61, 3) := by decide +kernel
theorem dX4_dial_28 : decode cX4_dial 28 = .ok (.goto 5, 3) := by decide +kernel
theorem dX4_dial_31 : decode cX4_dial 31 = .ok (.bipush (-2), 2) := by decide +kernel
theorem dX4_dial_33 : decode cX4_dial 33 = .ok (.ireturn, 1) := by decide +kernel
theorem dX4_tick_0 : decode cX4_tick 0 = .ok (.iload_n 1, 1) := by decide +kernel
theorem dX4_tick_1 : decode cX4_tick 1 = .ok (.iconst 1, 1) := by decide +kernel
theorem dX4_tick_2 : decode cX4_tick 2 = .ok (.sipush 1000, 3) := by decide +kernel
theorem dX4_tick_5 : decode cX4_tick 5 = .ok (.invokestatic 30, 3) := by decide +kernel
theorem dX4_tick_8 : decode cX4_tick 8 = .ok (.ifCond .ne 6, 3) := by decide +kernel
theorem dX4_tick_11 : decode cX4_tick 11 = .ok (.bipush (-2), 2) := by decide +kernel
theorem dX4_tick_13 : decode cX4_tick 13 = .ok (.ireturn, 1) := by decide +kernel
theorem dX4_tick_14 : decode cX4_tick 14 = .ok (.aload_n 0, 1) := by decide +kernel
theorem dX4_tick_15 : decode cX4_tick 15 = .ok (.getfield 10, 3) := by decide +kernel
theorem dX4_tick_18 : decode cX4_tick 18 = .ok (.iload_n 1, 1) := by decide +kernel
theorem dX4_tick_19 : decode cX4_tick 19 = .ok (.invokevirtual 64, 3) := by decide +kernel
theorem dX4_tick_22 : decode cX4_tick 22 = .ok (.ifCond .ne 6, 3) := by decide +kernel
theorem dX4_tick_25 : decode cX4_tick 25 = .ok (.bipush (-5), 2) := by decide +kernel
theorem dX4_tick_27 : decode cX4_tick 27 = .ok (.ireturn, 1) := by decide +kernel
theorem dX4_tick_28 : decode cX4_tick 28 = .ok (.aload_n 0, 1) := by decide +kernel
theorem dX4_tick_29 : decode cX4_tick 29 = .ok (.getfield 10, 3) := by decide +kernel
theorem dX4_tick_32 : decode cX4_tick 32 = .ok (.iload_n 1, 1) := by decide +kernel
theorem dX4_tick_33 : decode cX4_tick 33 = .ok (.invokevirtual 67, 3) := by decide +kernel
theorem dX4_tick_36 : decode cX4_tick 36 = .ok (.aload_n 0, 1) := by decide +kernel
theorem dX4_tick_37 : decode cX4_tick 37 = .ok (.getfield 10, 3) := by decide +kernel
theorem dX4_tick_40 : decode cX4_tick 40 = .ok (.getfield 71, 3) := by decide +kernel
theorem dX4_tick_43 : decode cX4_tick 43 = .ok (.ireturn, 1) := by decide +kernel
theorem dX4_line_0 : decode cX4_line 0 = .ok (.iload_n 1, 1) := by decide +kernel
theorem dX4_line_1 : decode cX4_line 1 = .ok (.invokestatic 50, 3) := by decide +kernel
theorem dX4_line_4 : decode cX4_line 4 = .ok (.ifCond .eq 15, 3) := by decide +kernel
theorem dX4_line_7 : decode cX4_line 7 = .ok (.aload_n 0, 1) := by decide +kernel
theorem dX4_line_8 : decode cX4_line 8 = .ok (.getfield 10, 3) := by decide +kernel
theorem dX4_line_11 : decode cX4_line 11 = .ok (.iload_n 1, 1) := by decide +kernel
theorem dX4_line_12 : decode cX4_line 12 = .ok (.iload_n 2, 1) := by decide +kernel
theorem dX4_line_13 : decode cX4_line 13 = .ok (.invokevirtual 74, 3) := by decide +kernel
theorem dX4_line_16 : decode cX4_line 16 = .ok (.goto 4, 3) := by decide +kernel
theorem dX4_line_19 : decode cX4_line 19 = .ok (.iconst (-1), 1) := by decide +kernel
theorem dX4_line_20 : decode cX4_line 20 = .ok (.ireturn, 1) := by decide +kernel
theorem dX4_finder_0 : decode cX4_finder 0 = .ok (.iload_n 1, 1) := by decide +kernel
theorem dX4_finder_1 : decode cX4_finder 1 = .ok (.iconst 0, 1) := by decide +kernel
theorem dX4_finder_2 : decode cX4_finder 2 = .ok (.aload_n 0, 1) := by decide +kernel
theorem dX4_finder_3 : decode cX4_finder 3 = .ok (.getfield 10, 3) := by decide +kernel
theorem dX4_finder_6 : decode cX4_finder 6 = .ok (.getfield 34, 3) := by decide +kernel
theorem dX4_finder_9 : decode cX4_finder 9 = .ok (.iconst 1, 1) := by decide +kernel
theorem dX4_finder_10 : decode cX4_finder 10 = .ok (.isub, 1) := by decide +kernel
theorem dX4_finder_11 : decode cX4_finder 11 = .ok (.invokestatic 30, 3) := by decide +kernel
theorem dX4_finder_14 : decode cX4_finder 14 = .ok (.ifCond .eq 18, 3) := by decide +kernel
theorem dX4_finder_17 : decode cX4_finder 17 = .ok (.aload_n 0, 1) := by decide +kernel
theorem dX4_finder_18 : decode cX4_finder 18 = .ok (.getfield 10, 3) := by decide +kernel
theorem dX4_finder_21 : decode cX4_finder 21 = .ok (.iload_n 1, 1) := by decide +kernel
theorem dX4_finder_22 : decode cX4_finder 22 = .ok (.invokevirtual 77, 3) := by decide +kernel
theorem dX4_finder_25 : decode cX4_finder 25 = .ok (.iload_n 2, 1) := by decide +kernel
theorem dX4_finder_26 : decode cX4_finder 26 = .ok (.invokevirtual 81, 3) := by decide +kernel
theorem dX4_finder_29 : decode cX4_finder 29 = .ok (.goto 4, 3) := by decide +kernel
theorem dX4_finder_32 : decode cX4_finder 32 = .ok (.iconst (-1), 1) := by decide +kernel
theorem dX4_finder_33 : decode cX4_finder 33 = .ok (.ireturn, 1) := by decide +kernel
theorem dX4_connector_0 : decode cX4_connector 0 = .ok (.iload_n 1, 1) := by decide +kernel
theorem dX4_connector_1 : decode cX4_connector 1 = .ok (.iconst 1, 1) := by decide +kernel
theorem dX4_connector_2 : decode cX4_connector 2 = .ok (.iconst 4, 1) := by decide +kernel
theorem dX4_connector_3 : decode cX4_connector 3 = .ok (.invokestatic 30, 3) := by decide +kernel
theorem dX4_connector_6 : decode cX4_connector 6 = .ok (.ifCond .eq 20, 3) := by decide +kernel
theorem dX4_connector_9 : decode cX4_connector 9 = .ok (.iload_n 2, 1) := by decide +kernel
theorem dX4_connector_10 : decode cX4_connector 10 = .ok (.iconst 0, 1) := by decide +kernel
theorem dX4_connector_11 : decode cX4_connector 11 = .ok (.aload_n 0, 1) := by decide +kernel
theorem dX4_connector_12 : decode cX4_connector 12 = .ok (.getfield 10, 3) := by decide +kernel
theorem dX4_connector_15 : decode cX4_connector 15 = .ok (.getfield 86, 3) := by decide +kernel
theorem dX4_connector_18 : decode cX4_connector 18 = .ok (.iconst 1, 1) := by decide +kernel
theorem dX4_connector_19 : decode cX4_connector 19 = .ok (.isub, 1) := by decide +kernel
theorem dX4_connector_20 : decode cX4_connector 20 = .ok (.invokestatic 30, 3) := by decide +kernel
theorem dX4_connector_23 : decode cX4_connector 23 = .ok (.ifCond .ne 5, 3) := by decide +kernel
theorem dX4_connector_26 : decode cX4_connector 26 = .ok (.iconst (-1), 1) := by decide +kernel
theorem dX4_connector_27 : decode cX4_connector 27 = .ok (.ireturn, 1) := by decide +kernel
theorem dX4_connector_28 : decode cX4_connector 28 = .ok (.aload_n 0, 1) := by decide +kernel
theorem dX4_connector_29 : decode cX4_connector 29 = .ok (.getfield 10, 3) := by decide +kernel
theorem dX4_connector_32 : decode cX4_connector 32 = .ok (.iload_n 1, 1) := by decide +kernel
theorem dX4_connector_33 : decode cX4_connector 33 = .ok (.iload_n 2, 1) := by decide +kernel
theorem dX4_connector_34 : decode cX4_connector 34 = .ok (.invokevirtual 89, 3) := by decide +kernel
theorem dX4_connector_37 : decode cX4_connector 37 = .ok (.ireturn, 1) := by decide +kernel
theorem dX4_count_0 : decode cX4_count 0 = .ok (.iload_n 1, 1) := by decide +kernel
theorem dX4_count_1 : decode cX4_count 1 = .ok (.bipush 14, 2) := by decide +kernel
theorem dX4_count_3 : decode cX4_count 3 = .ok (.if_icmp .ne 13, 3) := by decide +kernel
theorem dX4_count_6 : decode cX4_count 6 = .ok (.aload_n 0, 1) := by decide +kernel
theorem dX4_count_7 : decode cX4_count 7 = .ok (.getfield 26, 3) := by decide +kernel
theorem dX4_count_10 : decode cX4_count 10 = .ok (.getfield 92, 3) := by decide +kernel
theorem dX4_count_13 : decode cX4_count 13 = .ok (.goto 11, 3) := by decide +kernel
theorem dX4_count_16 : decode cX4_count 16 = .ok (.aload_n 0, 1) := by decide +kernel
theorem dX4_count_17 : decode cX4_count 17 = .ok (.getfield 10, 3) := by decide +kernel
theorem dX4_count_20 : decode cX4_count 20 = .ok (.iload_n 1, 1) := by decide +kernel
theorem dX4_count_21 : decode cX4_count 21 = .ok (.invokevirtual 95, 3) := by decide +kernel
theorem dX4_count_24 : decode cX4_count 24 = .ok (.ireturn, 1) := by decide +kernel
theorem dX4_trace_0 : decode cX4_trace 0 = .ok (.iload_n 1, 1) := by decide +kernel
theorem dX4_trace_1 : decode cX4_trace 1 = .ok (.invokestatic 50, 3) := by decide +kernel
theorem dX4_trace_4 : decode cX4_trace 4 = .ok (.ifCond .ne 5, 3) := by decide +kernel
theorem dX4_trace_7 : decode cX4_trace 7 = .ok (.iconst (-1), 1) := by decide +kernel
theorem dX4_trace_8 : decode cX4_trace 8 = .ok (.ireturn, 1) := by decide +kernel
theorem dX4_trace_9 : decode cX4_trace 9 = .ok (.iload_n 2, 1) := by decide +kernel
theorem dX4_trace_10 : decode cX4_trace 10 = .ok (.iconst 0, 1) := by decide +kernel
theorem dX4_trace_11 : decode cX4_trace 11 = .ok (.iconst 2, 1) := by decide +kernel
theorem dX4_trace_12 : decode cX4_trace 12 = .ok (.invokestatic 30, 3) := by decide +kernel
theorem dX4_trace_15 : decode cX4_trace 15 = .ok (.ifCond .ne 6, 3) := by decide +kernel
theorem dX4_trace_18 : decode cX4_trace 18 = .ok (.bipush (-2), 2) := by decide +kernel
theorem dX4_trace_20 : decode cX4_trace 20 = .ok (.ireturn, 1) := by decide +kernel
theorem dX4_trace_21 : decode cX4_trace 21 = .ok (.aload_n 0, 1) := by decide +kernel
theorem dX4_trace_22 : decode cX4_trace 22 = .ok (.getfield 10, 3) := by decide +kernel
theorem dX4_trace_25 : decode cX4_trace 25 = .ok (.iload_n 1, 1) := by decide +kernel
theorem dX4_trace_26 : decode cX4_trace 26 = .ok (.iload_n 2, 1) := by decide +kernel
theorem dX4_trace_27 : decode cX4_trace 27 = .ok (.invokevirtual 96, 3) := by decide +kernel
theorem dX4_trace_30 : decode cX4_trace 30 = .ok (.ireturn, 1) := by decide +kernel
theorem dX4_until_0 : decode cX4_until 0 = .ok (.iload_n 1, 1) := by decide +kernel
theorem dX4_until_1 : decode cX4_until 1 = .ok (.invokestatic 50, 3) := by decide +kernel
theorem dX4_until_4 : decode cX4_until 4 = .ok (.ifCond .ne 5, 3) := by decide +kernel
theorem dX4_until_7 : decode cX4_until 7 = .ok (.iconst (-1), 1) := by decide +kernel
theorem dX4_until_8 : decode cX4_until 8 = .ok (.ireturn, 1) := by decide +kernel
theorem dX4_until_9 : decode cX4_until 9 = .ok (.iload_n 2, 1) := by decide +kernel
theorem dX4_until_10 : decode cX4_until 10 = .ok (.iconst 0, 1) := by decide +kernel
theorem dX4_until_11 : decode cX4_until 11 = .ok (.bipush 11, 2) := by decide +kernel
theorem dX4_until_13 : decode cX4_until 13 = .ok (.invokestatic 30, 3) := by decide +kernel
theorem dX4_until_16 : decode cX4_until 16 = .ok (.ifCond .eq 14, 3) := by decide +kernel
theorem dX4_until_19 : decode cX4_until 19 = .ok (.iload_n 3, 1) := by decide +kernel
theorem dX4_until_20 : decode cX4_until 20 = .ok (.iconst 0, 1) := by decide +kernel
theorem dX4_until_21 : decode cX4_until 21 = .ok (.sipush 1000, 3) := by decide +kernel
theorem dX4_until_24 : decode cX4_until 24 = .ok (.invokestatic 30, 3) := by decide +kernel
theorem dX4_until_27 : decode cX4_until 27 = .ok (.ifCond .ne 6, 3) := by decide +kernel
theorem dX4_until_30 : decode cX4_until 30 = .ok (.bipush (-2), 2) := by decide +kernel
theorem dX4_until_32 : decode cX4_until 32 = .ok (.ireturn, 1) := by decide +kernel
theorem dX4_until_33 : decode cX4_until 33 = .ok (.aload_n 0, 1) := by decide +kernel
theorem dX4_until_34 : decode cX4_until 34 = .ok (.getfield 16, 3) := by decide +kernel
theorem dX4_until_37 : decode cX4_until 37 = .ok (.aload_n 0, 1) := by decide +kernel
theorem dX4_until_38 : decode cX4_until 38 = .ok (.getfield 10, 3) := by decide +kernel
theorem dX4_until_41 : decode cX4_until 41 = .ok (.invokevirtual 99, 3) := by decide +kernel
theorem dX4_until_44 : decode cX4_until 44 = .ok (.aload_n 0, 1) := by decide +kernel
theorem dX4_until_45 : decode cX4_until 45 = .ok (.getfield 16, 3) := by decide +kernel
theorem dX4_until_48 : decode cX4_until 48 = .ok (.iload_n 1, 1) := by decide +kernel
theorem dX4_until_49 : decode cX4_until 49 = .ok (.iload_n 2, 1) := by decide +kernel
theorem dX4_until_50 : decode cX4_until 50 = .ok (.iload_n 3, 1) := by decide +kernel
theorem dX4_until_51 : decode cX4_until 51 = .ok (.invokevirtual 103, 3) := by decide +kernel
theorem dX4_until_54 : decode cX4_until 54 = .ok (.ireturn, 1) := by decide +kernel
theorem dX4_attempt_0 : decode cX4_attempt 0 = .ok (.iload_n 1, 1) := by decide +kernel
theorem dX4_attempt_1 : decode cX4_attempt 1 = .ok (.invokestatic 50, 3) := by decide +kernel
theorem dX4_attempt_4 : decode cX4_attempt 4 = .ok (.ifCond .eq 10, 3) := by decide +kernel
theorem dX4_attempt_7 : decode cX4_attempt 7 = .ok (.iload_n 2, 1) := by decide +kernel
theorem dX4_attempt_8 : decode cX4_attempt 8 = .ok (.invokestatic 50, 3) := by decide +kernel
theorem dX4_attempt_11 : decode cX4_attempt 11 = .ok (.ifCond .ne 5, 3) := by decide +kernel
theorem dX4_attempt_14 : decode cX4_attempt 14 = .ok (.iconst (-1), 1) := by decide +kernel
theorem dX4_attempt_15 : decode cX4_attempt 15 = .ok (.ireturn, 1) := by decide +kernel
theorem dX4_attempt_16 : decode cX4_attempt 16 = .ok (.iload_n 3, 1) := by decide +kernel
theorem dX4_attempt_17 : decode cX4_attempt 17 = .ok (.iconst 0, 1) := by decide +kernel
theorem dX4_attempt_18 : decode cX4_attempt 18 = .ok (.iconst 1, 1) := by decide +kernel
theorem dX4_attempt_19 : decode cX4_attempt 19 = .ok (.invokestatic 30, 3) := by decide +kernel
theorem dX4_attempt_22 : decode cX4_attempt 22 = .ok (.ifCond .ne 6, 3) := by decide +kernel
theorem dX4_attempt_25 : decode cX4_attempt 25 = .ok (.bipush (-2), 2) := by decide +kernel
theorem dX4_attempt_27 : decode cX4_attempt 27 = .ok (.ireturn, 1) := by decide +kernel
theorem dX4_attempt_28 : decode cX4_attempt 28 = .ok (.aload_n 0, 1) := by decide +kernel
theorem dX4_attempt_29 : decode cX4_attempt 29 = .ok (.getfield 10, 3) := by decide +kernel
theorem dX4_attempt_32 : decode cX4_attempt 32 = .ok (.iload_n 1, 1) := by decide +kernel
theorem dX4_attempt_33 : decode cX4_attempt 33 = .ok (.invokevirtual 107, 3) := by decide +kernel
theorem dX4_attempt_36 : decode cX4_attempt 36 = .ok (.getfield 111, 3) := by decide +kernel
theorem dX4_attempt_39 : decode cX4_attempt 39 = .ok (.ifCond .eq 6, 3) := by decide +kernel
theorem dX4_attempt_42 : decode cX4_attempt 42 = .ok (.bipush (-5), 2) := by decide +kernel
theorem dX4_attempt_44 : decode cX4_attempt 44 = .ok (.ireturn, 1) := by decide +kernel
theorem dX4_attempt_45 : decode cX4_attempt 45 = .ok (.aload_n 0, 1) := by decide +kernel
theorem dX4_attempt_46 : decode cX4_attempt 46 = .ok (.getfield 16, 3) := by decide +kernel
theorem dX4_attempt_49 : decode cX4_attempt 49 = .ok (.aload_n 0, 1) := by decide +kernel
theorem dX4_attempt_50 : decode cX4_attempt 50 = .ok (.getfield 10, 3) := by decide +kernel
theorem dX4_attempt_53 : decode cX4_attempt 53 = .ok (.invokevirtual 99, 3) := by decide +kernel
theorem dX4_attempt_56 : decode cX4_attempt 56 = .ok (.aload_n 0, 1) := by decide +kernel
theorem dX4_attempt_57 : decode cX4_attempt 57 = .ok (.getfield 16, 3) := by decide +kernel
theorem dX4_attempt_60 : decode cX4_attempt 60 = .ok (.iload_n 1, 1) := by decide +kernel
theorem dX4_attempt_61 : decode cX4_attempt 61 = .ok (.iload_n 2, 1) := by decide +kernel
theorem dX4_attempt_62 : decode cX4_attempt 62 = .ok (.invokevirtual 116, 3) := by decide +kernel
theorem dX4_attempt_65 : decode cX4_attempt 65 = .ok (.istore 4, 2) := by decide +kernel
theorem dX4_attempt_67 : decode cX4_attempt 67 = .ok (.iload_n 3, 1) := by decide +kernel
theorem dX4_attempt_68 : decode cX4_attempt 68 = .ok (.ifCond .ne 17, 3) := by decide +kernel
theorem dX4_attempt_71 : decode cX4_attempt 71 = .ok (.aload_n 0, 1) := by decide +kernel
theorem dX4_attempt_72 : decode cX4_attempt 72 = .ok (.getfield 16, 3) := by decide +kernel
theorem dX4_attempt_75 : decode cX4_attempt 75 = .ok (.iload_n 1, 1) := by decide +kernel
theorem dX4_attempt_76 : decode cX4_attempt 76 = .ok (.invokevirtual 107, 3) := by decide +kernel
theorem dX4_attempt_79 : decode cX4_attempt 79 = .ok (.getfield 111, 3) := by decide +kernel
theorem dX4_attempt_82 : decode cX4_attempt 82 = .ok (.goto 5, 3) := by decide +kernel
theorem dX4_attempt_85 : decode cX4_attempt 85 = .ok (.iload 4, 2) := by decide +kernel
theorem dX4_attempt_87 : decode cX4_attempt 87 = .ok (.ireturn, 1) := by decide +kernel
theorem dX4_put_0 : decode cX4_put 0 = .ok (.aload_n 0, 1) := by decide +kernel
theorem dX4_put_1 : decode cX4_put 1 = .ok (.getfield 26, 3) := by decide +kernel
theorem dX4_put_4 : decode cX4_put 4 = .ok (.lload_n 1, 1) := by decide +kernel
theorem dX4_put_5 : decode cX4_put 5 = .ok (.invokevirtual 119, 3) := by decide +kernel
theorem dX4_put_8 : decode cX4_put 8 = .ok (.ireturn, 1) := by decide +kernel
theorem dX4_wipe_0 : decode cX4_wipe 0 = .ok (.aload_n 0, 1) := by decide +kernel
theorem dX4_wipe_1 : decode cX4_wipe 1 = .ok (.getfield 26, 3) := by decide +kernel
theorem dX4_wipe_4 : decode cX4_wipe 4 = .ok (.getfield 92, 3) := by decide +kernel
theorem dX4_wipe_7 : decode cX4_wipe 7 = .ok (.istore_n 1, 1) := by decide +kernel
theorem dX4_wipe_8 : decode cX4_wipe 8 = .ok (.aload_n 0, 1) := by decide +kernel
theorem dX4_wipe_9 : decode cX4_wipe 9 = .ok (.getfield 26, 3) := by decide +kernel
theorem dX4_wipe_12 : decode cX4_wipe 12 = .ok (.iconst 0, 1) := by decide +kernel
theorem dX4_wipe_13 : decode cX4_wipe 13 = .ok (.putfield 92, 3) := by decide +kernel
theorem dX4_wipe_16 : decode cX4_wipe 16 = .ok (.iload_n 1, 1) := by decide +kernel
theorem dX4_wipe_17 : decode cX4_wipe 17 = .ok (.ireturn, 1) := by decide +kernel
theorem dX4_fault_0 : decode cX4_fault 0 = .ok (.aload_n 0, 1) := by decide +kernel
theorem dX4_fault_1 : decode cX4_fault 1 = .ok (.getfield 26, 3) := by decide +kernel
theorem dX4_fault_4 : decode cX4_fault 4 = .ok (.invokevirtual 123, 3) := by decide +kernel
theorem dX4_fault_7 : decode cX4_fault 7 = .ok (.ireturn, 1) := by decide +kernel
theorem dX4_carryOut_0 : decode cX4_carryOut 0 = .ok (.aload_n 0, 1) := by decide +kernel
theorem dX4_carryOut_1 : decode cX4_carryOut 1 = .ok (.getfield 26, 3) := by decide +kernel
theorem dX4_carryOut_4 : decode cX4_carryOut 4 = .ok (.invokevirtual 123, 3) := by decide +kernel
theorem dX4_carryOut_7 : decode cX4_carryOut 7 = .ok (.bipush (-6), 2) := by decide +kernel
theorem dX4_carryOut_9 : decode cX4_carryOut 9 = .ok (.if_icmp .eq 6, 3) := by decide +kernel
theorem dX4_carryOut_12 : decode cX4_carryOut 12 = .ok (.bipush (-3), 2) := by decide +kernel
theorem dX4_carryOut_14 : decode cX4_carryOut 14 = .ok (.ireturn, 1) := by decide +kernel
theorem dX4_carryOut_15 : decode cX4_carryOut 15 = .ok (.iconst 0, 1) := by decide +kernel
theorem dX4_carryOut_16 : decode cX4_carryOut 16 = .ok (.istore_n 1, 1) := by decide +kernel
theorem dX4_carryOut_17 : decode cX4_carryOut 17 = .ok (.iconst 0, 1) := by decide +kernel
theorem dX4_carryOut_18 : decode cX4_carryOut 18 = .ok (.istore_n 2, 1) := by decide +kernel
theorem dX4_carryOut_19 : decode cX4_carryOut 19 = .ok (.iload_n 2, 1) := by decide +kernel
theorem dX4_carryOut_20 : decode cX4_carryOut 20 = .ok (.aload_n 0, 1) := by decide +kernel
theorem dX4_carryOut_21 : decode cX4_carryOut 21 = .ok (.getfield 26, 3) := by decide +kernel
theorem dX4_carryOut_24 : decode cX4_carryOut 24 = .ok (.getfield 92, 3) := by decide +kernel
theorem dX4_carryOut_27 : decode cX4_carryOut 27 = .ok (.if_icmp .ge 34, 3) := by decide +kernel
theorem dX4_carryOut_30 : decode cX4_carryOut 30 = .ok (.aload_n 0, 1) := by decide +kernel
theorem dX4_carryOut_31 : decode cX4_carryOut 31 = .ok (.getfield 26, 3) := by decide +kernel
theorem dX4_carryOut_34 : decode cX4_carryOut 34 = .ok (.iload_n 2, 1) := by decide +kernel
theorem dX4_carryOut_35 : decode cX4_carryOut 35 = .ok (.invokevirtual 127, 3) := by decide +kernel
theorem dX4_carryOut_38 : decode cX4_carryOut 38 = .ok (.ifCond .eq 17, 3) := by decide +kernel
theorem dX4_carryOut_41 : decode cX4_carryOut 41 = .ok (.aload_n 0, 1) := by decide +kernel
theorem dX4_carryOut_42 : decode cX4_carryOut 42 = .ok (.iload_n 2, 1) := by decide +kernel
theorem dX4_carryOut_43 : decode cX4_carryOut 43 = .ok (.invokevirtual 130, 3) := by decide +kernel
theorem dX4_carryOut_46 : decode cX4_carryOut 46 = .ok (.ifCond .ne 6, 3) := by decide +kernel
theorem dX4_carryOut_49 : decode cX4_carryOut 49 = .ok (.goto 12, 3) := by decide +kernel
theorem dX4_carryOut_52 : decode cX4_carryOut 52 = .ok (.iinc 1 1, 3) := by decide +kernel
theorem dX4_carryOut_55 : decode cX4_carryOut 55 = .ok (.iinc 2 1, 3) := by decide +kernel
theorem dX4_carryOut_58 : decode cX4_carryOut 58 = .ok (.goto (-39), 3) := by decide +kernel
theorem dX4_carryOut_61 : decode cX4_carryOut 61 = .ok (.aload_n 0, 1) := by decide +kernel
theorem dX4_carryOut_62 : decode cX4_carryOut 62 = .ok (.getfield 26, 3) := by decide +kernel
theorem dX4_carryOut_65 : decode cX4_carryOut 65 = .ok (.iconst 0, 1) := by decide +kernel
theorem dX4_carryOut_66 : decode cX4_carryOut 66 = .ok (.putfield 92, 3) := by decide +kernel
theorem dX4_carryOut_69 : decode cX4_carryOut 69 = .ok (.iload_n 1, 1) := by decide +kernel
theorem dX4_carryOut_70 : decode cX4_carryOut 70 = .ok (.ireturn, 1) := by decide +kernel
theorem dX4_save_0 : decode cX4_save 0 = .ok (.iload_n 1, 1) := by decide +kernel
theorem dX4_save_1 : decode cX4_save 1 = .ok (.iconst 0, 1) := by decide +kernel
theorem dX4_save_2 : decode cX4_save 2 = .ok (.aload_n 0, 1) := by decide +kernel
theorem dX4_save_3 : decode cX4_save 3 = .ok (.getfield 19, 3) := by decide +kernel
theorem dX4_save_6 : decode cX4_save 6 = .ok (.arraylength, 1) := by decide +kernel
theorem dX4_save_7 : decode cX4_save 7 = .ok (.iconst 1, 1) := by decide +kernel
theorem dX4_save_8 : decode cX4_save 8 = .ok (.isub, 1) := by decide +kernel
theorem dX4_save_9 : decode cX4_save 9 = .ok (.invokestatic 30, 3) := by decide +kernel
theorem dX4_save_12 : decode cX4_save 12 = .ok (.ifCond .ne 6, 3) := by decide +kernel
theorem dX4_save_15 : decode cX4_save 15 = .ok (.bipush (-2), 2) := by decide +kernel
theorem dX4_save_17 : decode cX4_save 17 = .ok (.ireturn, 1) := by decide +kernel
theorem dX4_save_18 : decode cX4_save 18 = .ok (.aload_n 0, 1) := by decide +kernel
theorem dX4_save_19 : decode cX4_save 19 = .ok (.getfield 19, 3) := by decide +kernel
theorem dX4_save_22 : decode cX4_save 22 = .ok (.iload_n 1, 1) := by decide +kernel
theorem dX4_save_23 : decode cX4_save 23 = .ok (.aaload, 1) := by decide +kernel
theorem dX4_save_24 : decode cX4_save 24 = .ok (.astore_n 2, 1) := by decide +kernel
theorem dX4_save_25 : decode cX4_save 25 = .ok (.aload_n 2, 1) := by decide +kernel
theorem dX4_save_26 : decode cX4_save 26 = .ok (.ifnonnull 18, 3) := by decide +kernel
theorem dX4_save_29 : decode cX4_save 29 = .ok (.new 7, 3) := by decide +kernel
theorem dX4_save_32 : decode cX4_save 32 = .ok (.dup, 1) := by decide +kernel
theorem dX4_save_33 : decode cX4_save 33 = .ok (.invokespecial 9, 3) := by decide +kernel
theorem dX4_save_36 : decode cX4_save 36 = .ok (.astore_n 2, 1) := by decide +kernel
theorem dX4_save_37 : decode cX4_save 37 = .ok (.aload_n 0, 1) := by decide +kernel
theorem dX4_save_38 : decode cX4_save 38 = .ok (.getfield 19, 3) := by decide +kernel
theorem dX4_save_41 : decode cX4_save 41 = .ok (.iload_n 1, 1) := by decide +kernel
theorem dX4_save_42 : decode cX4_save 42 = .ok (.aload_n 2, 1) := by decide +kernel
theorem dX4_save_43 : decode cX4_save 43 = .ok (.aastore, 1) := by decide +kernel
theorem dX4_save_44 : decode cX4_save 44 = .ok (.aload_n 2, 1) := by decide +kernel
theorem dX4_save_45 : decode cX4_save 45 = .ok (.aload_n 0, 1) := by decide +kernel
theorem dX4_save_46 : decode cX4_save 46 = .ok (.getfield 10, 3) := by decide +kernel
theorem dX4_save_49 : decode cX4_save 49 = .ok (.invokevirtual 99, 3) := by decide +kernel
theorem dX4_save_52 : decode cX4_save 52 = .ok (.aload_n 0, 1) := by decide +kernel
theorem dX4_save_53 : decode cX4_save 53 = .ok (.getfield 10, 3) := by decide +kernel
theorem dX4_save_56 : decode cX4_save 56 = .ok (.getfield 71, 3) := by decide +kernel
theorem dX4_save_59 : decode cX4_save 59 = .ok (.ireturn, 1) := by decide +kernel
theorem dX4_restore_0 : decode cX4_restore 0 = .ok (.iload_n 1, 1) := by decide +kernel
theorem dX4_restore_1 : decode cX4_restore 1 = .ok (.iconst 0, 1) := by decide +kernel
theorem dX4_restore_2 : decode cX4_restore 2 = .ok (.aload_n 0, 1) := by decide +kernel
theorem dX4_restore_3 : decode cX4_restore 3 = .ok (.getfield 19, 3) := by decide +kernel
theorem dX4_restore_6 : decode cX4_restore 6 = .ok (.arraylength, 1) := by decide +kernel
theorem dX4_restore_7 : decode cX4_restore 7 = .ok (.iconst 1, 1) := by decide +kernel
theorem dX4_restore_8 : decode cX4_restore 8 = .ok (.isub, 1) := by decide +kernel
theorem dX4_restore_9 : decode cX4_restore 9 = .ok (.invokestatic 30, 3) := by decide +kernel
theorem dX4_restore_12 : decode cX4_restore 12 = .ok (.ifCond .ne 6, 3) := by decide +kernel
theorem dX4_restore_15 : decode cX4_restore 15 = .ok (.bipush (-2), 2) := by decide +kernel
theorem dX4_restore_17 : decode cX4_restore 17 = .ok (.ireturn, 1) := by decide +kernel
theorem dX4_restore_18 : decode cX4_restore 18 = .ok (.aload_n 0, 1) := by decide +kernel
theorem dX4_restore_19 : decode cX4_restore 19 = .ok (.getfield 19, 3) := by decide +kernel
theorem dX4_restore_22 : decode cX4_restore 22 = .ok (.iload_n 1, 1) := by decide +kernel
theorem dX4_restore_23 : decode cX4_restore 23 = .ok (.aaload, 1) := by decide +kernel
theorem dX4_restore_24 : decode cX4_restore 24 = .ok (.astore_n 2, 1) := by decide +kernel
theorem dX4_restore_25 : decode cX4_restore 25 = .ok (.aload_n 2, 1) := by decide +kernel
theorem dX4_restore_26 : decode cX4_restore 26 = .ok (.ifnonnull 6, 3) := by decide +kernel
theorem dX4_restore_29 : decode cX4_restore 29 = .ok (.bipush (-5), 2) := by decide +kernel
theorem dX4_restore_31 : decode cX4_restore 31 = .ok (.ireturn, 1) := by decide +kernel
theorem dX4_restore_32 : decode cX4_restore 32 = .ok (.aload_n 0, 1) := by decide +kernel
theorem dX4_restore_33 : decode cX4_restore 33 = .ok (.getfield 10, 3) := by decide +kernel
theorem dX4_restore_36 : decode cX4_restore 36 = .ok (.aload_n 2, 1) := by decide +kernel
theorem dX4_restore_37 : decode cX4_restore 37 = .ok (.invokevirtual 99, 3) := by decide +kernel
theorem dX4_restore_40 : decode cX4_restore 40 = .ok (.aload_n 0, 1) := by decide +kernel
theorem dX4_restore_41 : decode cX4_restore 41 = .ok (.getfield 10, 3) := by decide +kernel
theorem dX4_restore_44 : decode cX4_restore 44 = .ok (.getfield 71, 3) := by decide +kernel
theorem dX4_restore_47 : decode cX4_restore 47 = .ok (.ireturn, 1) := by decide +kernel
theorem dX4_succeeds_0 : decode cX4_succeeds 0 = .ok (.aload_n 0, 1) := by decide +kernel
theorem dX4_succeeds_1 : decode cX4_succeeds 1 = .ok (.getfield 26, 3) := by decide +kernel
theorem dX4_succeeds_4 : decode cX4_succeeds 4 = .ok (.iload_n 1, 1) := by decide +kernel
theorem dX4_succeeds_5 : decode cX4_succeeds 5 = .ok (.iconst 1, 1) := by decide +kernel
theorem dX4_succeeds_6 : decode cX4_succeeds 6 = .ok (.iadd, 1) := by decide +kernel
theorem dX4_succeeds_7 : decode cX4_succeeds 7 = .ok (.invokevirtual 133, 3) := by decide +kernel
theorem dX4_succeeds_10 : decode cX4_succeeds 10 = .ok (.istore_n 2, 1) := by decide +kernel
theorem dX4_succeeds_11 : decode cX4_succeeds 11 = .ok (.aload_n 0, 1) := by decide +kernel
theorem dX4_succeeds_12 : decode cX4_succeeds 12 = .ok (.getfield 26, 3) := by decide +kernel
theorem dX4_succeeds_15 : decode cX4_succeeds 15 = .ok (.iload_n 1, 1) := by decide +kernel
theorem dX4_succeeds_16 : decode cX4_succeeds 16 = .ok (.invokevirtual 135, 3) := by decide +kernel
theorem dX4_succeeds_19 : decode cX4_succeeds 19 = .ok (.lookupswitch 76 #[(100, 67), (104, 50), (108, 33)], 33) := by decide +kernel
theorem dX4_succeeds_52 : decode cX4_succeeds 52 = .ok (.aload_n 0, 1) := by decide +kernel
theorem dX4_succeeds_53 : decode cX4_succeeds 53 = .ok (.getfield 10, 3) := by decide +kernel
theorem dX4_succeeds_56 : decode cX4_succeeds 56 = .ok (.iload_n 2, 1) := by decide +kernel
theorem dX4_succeeds_57 : decode cX4_succeeds 57 = .ok (.invokevirtual 54, 3) := by decide +kernel
theorem dX4_succeeds_60 : decode cX4_succeeds 60 = .ok (.ifCond .lt 7, 3) := by decide +kernel
theorem dX4_succeeds_63 : decode cX4_succeeds 63 = .ok (.iconst 1, 1) := by decide +kernel
theorem dX4_succeeds_64 : decode cX4_succeeds 64 = .ok (.goto 4, 3) := by decide +kernel
theorem dX4_succeeds_67 : decode cX4_succeeds 67 = .ok (.iconst 0, 1) := by decide +kernel
theorem dX4_succeeds_68 : decode cX4_succeeds 68 = .ok (.ireturn, 1) := by decide +kernel
theorem dX4_succeeds_69 : decode cX4_succeeds 69 = .ok (.aload_n 0, 1) := by decide +kernel
theorem dX4_succeeds_70 : decode cX4_succeeds 70 = .ok (.getfield 10, 3) := by decide +kernel
theorem dX4_succeeds_73 : decode cX4_succeeds 73 = .ok (.iload_n 2, 1) := by decide +kernel
theorem dX4_succeeds_74 : decode cX4_succeeds 74 = .ok (.invokevirtual 58, 3) := by decide +kernel
theorem dX4_succeeds_77 : decode cX4_succeeds 77 = .ok (.ifCond .lt 7, 3) := by decide +kernel
theorem dX4_succeeds_80 : decode cX4_succeeds 80 = .ok (.iconst 1, 1) := by decide +kernel
theorem dX4_succeeds_81 : decode cX4_succeeds 81 = .ok (.goto 4, 3) := by decide +kernel
theorem dX4_succeeds_84 : decode cX4_succeeds 84 = .ok (.iconst 0, 1) := by decide +kernel
theorem dX4_succeeds_85 : decode cX4_succeeds 85 = .ok (.ireturn, 1) := by decide +kernel
theorem dX4_succeeds_86 : decode cX4_succeeds 86 = .ok (.aload_n 0, 1) := by decide +kernel
theorem dX4_succeeds_87 : decode cX4_succeeds 87 = .ok (.iload_n 2, 1) := by decide +kernel
theorem dX4_succeeds_88 : decode cX4_succeeds 88 = .ok (.iload_n 1, 1) := by decide +kernel
theorem dX4_succeeds_89 : decode cX4_succeeds 89 = .ok (.iconst 2, 1) := by decide +kernel
theorem dX4_succeeds_90 : decode cX4_succeeds 90 = .ok (.iadd, 1) := by decide +kernel
theorem dX4_succeeds_91 : decode cX4_succeeds 91 = .ok (.invokevirtual 138, 3) := by decide +kernel
theorem dX4_succeeds_94 : decode cX4_succeeds 94 = .ok (.ireturn, 1) := by decide +kernel
theorem dX4_succeeds_95 : decode cX4_succeeds 95 = .ok (.aload_n 0, 1) := by decide +kernel
theorem dX4_succeeds_96 : decode cX4_succeeds 96 = .ok (.getfield 26, 3) := by decide +kernel
theorem dX4_succeeds_99 : decode cX4_succeeds 99 = .ok (.iload_n 1, 1) := by decide +kernel
theorem dX4_succeeds_100 : decode cX4_succeeds 100 = .ok (.iconst 1, 1) := by decide +kernel
theorem dX4_succeeds_101 : decode cX4_succeeds 101 = .ok (.iadd, 1) := by decide +kernel
theorem dX4_succeeds_102 : decode cX4_succeeds 102 = .ok (.invokevirtual 142, 3) := by decide +kernel
theorem dX4_succeeds_105 : decode cX4_succeeds 105 = .ok (.istore_n 3, 1) := by decide +kernel
theorem dX4_succeeds_106 : decode cX4_succeeds 106 = .ok (.aload_n 0, 1) := by decide +kernel
theorem dX4_succeeds_107 : decode cX4_succeeds 107 = .ok (.getfield 10, 3) := by decide +kernel
theorem dX4_succeeds_110 : decode cX4_succeeds 110 = .ok (.iload_n 3, 1) := by decide +kernel
theorem dX4_succeeds_111 : decode cX4_succeeds 111 = .ok (.invokevirtual 64, 3) := by decide +kernel
theorem dX4_succeeds_114 : decode cX4_succeeds 114 = .ok (.ifCond .ne 5, 3) := by decide +kernel
theorem dX4_succeeds_117 : decode cX4_succeeds 117 = .ok (.iconst 0, 1) := by decide +kernel
theorem dX4_succeeds_118 : decode cX4_succeeds 118 = .ok (.ireturn, 1) := by decide +kernel
theorem dX4_succeeds_119 : decode cX4_succeeds 119 = .ok (.aload_n 0, 1) := by decide +kernel
theorem dX4_succeeds_120 : decode cX4_succeeds 120 = .ok (.getfield 10, 3) := by decide +kernel
theorem dX4_succeeds_123 : decode cX4_succeeds 123 = .ok (.iload_n 3, 1) := by decide +kernel
theorem dX4_succeeds_124 : decode cX4_succeeds 124 = .ok (.invokevirtual 67, 3) := by decide +kernel
theorem dX4_succeeds_127 : decode cX4_succeeds 127 = .ok (.iconst 1, 1) := by decide +kernel
theorem dX4_succeeds_128 : decode cX4_succeeds 128 = .ok (.ireturn, 1) := by decide +kernel
theorem dX4_dialsAll_0 : decode cX4_dialsAll 0 = .ok (.iload_n 2, 1) := by decide +kernel
theorem dX4_dialsAll_1 : decode cX4_dialsAll 1 = .ok (.istore_n 3, 1) := by decide +kernel
theorem dX4_dialsAll_2 : decode cX4_dialsAll 2 = .ok (.iload_n 3, 1) := by decide +kernel
theorem dX4_dialsAll_3 : decode cX4_dialsAll 3 = .ok (.aload_n 0, 1) := by decide +kernel
theorem dX4_dialsAll_4 : decode cX4_dialsAll 4 = .ok (.getfield 26, 3) := by decide +kernel
theorem dX4_dialsAll_7 : decode cX4_dialsAll 7 = .ok (.getfield 92, 3) := by decide +kernel
theorem dX4_dialsAll_10 : decode cX4_dialsAll 10 = .ok (.if_icmp .ge 47, 3) := by decide +kernel
theorem dX4_dialsAll_13 : decode cX4_dialsAll 13 = .ok (.aload_n 0, 1) := by decide +kernel
theorem dX4_dialsAll_14 : decode cX4_dialsAll 14 = .ok (.getfield 26, 3) := by decide +kernel
theorem dX4_dialsAll_17 : decode cX4_dialsAll 17 = .ok (.iload_n 3, 1) := by decide +kernel
theorem dX4_dialsAll_18 : decode cX4_dialsAll 18 = .ok (.invokevirtual 135, 3) := by decide +kernel
theorem dX4_dialsAll_21 : decode cX4_dialsAll 21 = .ok (.invokestatic 145, 3) := by decide +kernel
theorem dX4_dialsAll_24 : decode cX4_dialsAll 24 = .ok (.ifCond .eq 33, 3) := by decide +kernel
theorem dX4_dialsAll_27 : decode cX4_dialsAll 27 = .ok (.aload_n 0, 1) := by decide +kernel
theorem dX4_dialsAll_28 : decode cX4_dialsAll 28 = .ok (.getfield 10, 3) := by decide +kernel
theorem dX4_dialsAll_31 : decode cX4_dialsAll 31 = .ok (.iload_n 1, 1) := by decide +kernel
theorem dX4_dialsAll_32 : decode cX4_dialsAll 32 = .ok (.aload_n 0, 1) := by decide +kernel
theorem dX4_dialsAll_33 : decode cX4_dialsAll 33 = .ok (.getfield 26, 3) := by decide +kernel
theorem dX4_dialsAll_36 : decode cX4_dialsAll 36 = .ok (.iload_n 3, 1) := by decide +kernel
theorem dX4_dialsAll_37 : decode cX4_dialsAll 37 = .ok (.invokevirtual 135, 3) := by decide +kernel
theorem dX4_dialsAll_40 : decode cX4_dialsAll 40 = .ok (.bipush 48, 2) := by decide +kernel
theorem dX4_dialsAll_42 : decode cX4_dialsAll 42 = .ok (.isub, 1) := by decide +kernel
theorem dX4_dialsAll_43 : decode cX4_dialsAll 43 = .ok (.invokevirtual 61, 3) := by decide +kernel
theorem dX4_dialsAll_46 : decode cX4_dialsAll 46 = .ok (.ifCond .ge 5, 3) := by decide +kernel
theorem dX4_dialsAll_49 : decode cX4_dialsAll 49 = .ok (.iconst 0, 1) := by decide +kernel
theorem dX4_dialsAll_50 : decode cX4_dialsAll 50 = .ok (.ireturn, 1) := by decide +kernel
theorem dX4_dialsAll_51 : decode cX4_dialsAll 51 = .ok (.iinc 3 1, 3) := by decide +kernel
theorem dX4_dialsAll_54 : decode cX4_dialsAll 54 = .ok (.goto (-52), 3) := by decide +kernel
theorem dX4_dialsAll_57 : decode cX4_dialsAll 57 = .ok (.iconst 1, 1) := by decide +kernel
theorem dX4_dialsAll_58 : decode cX4_dialsAll 58 = .ok (.ireturn, 1) := by decide +kernel
theorem dX4_isLine_0 : decode cX4_isLine 0 = .ok (.iload_n 0, 1) := by decide +kernel
theorem dX4_isLine_1 : decode cX4_isLine 1 = .ok (.iconst 0, 1) := by decide +kernel
theorem dX4_isLine_2 : decode cX4_isLine 2 = .ok (.bipush 15, 2) := by decide +kernel
theorem dX4_isLine_4 : decode cX4_isLine 4 = .ok (.invokestatic 30, 3) := by decide +kernel
theorem dX4_isLine_7 : decode cX4_isLine 7 = .ok (.ireturn, 1) := by decide +kernel
theorem dX4_isWithin_0 : decode cX4_isWithin 0 = .ok (.iload_n 0, 1) := by decide +kernel
theorem dX4_isWithin_1 : decode cX4_isWithin 1 = .ok (.iload_n 1, 1) := by decide +kernel
theorem dX4_isWithin_2 : decode cX4_isWithin 2 = .ok (.if_icmp .lt 12, 3) := by decide +kernel
theorem dX4_isWithin_5 : decode cX4_isWithin 5 = .ok (.iload_n 0, 1) := by decide +kernel
theorem dX4_isWithin_6 : decode cX4_isWithin 6 = .ok (.iload_n 2, 1) := by decide +kernel
theorem dX4_isWithin_7 : decode cX4_isWithin 7 = .ok (.if_icmp .gt 7, 3) := by decide +kernel
theorem dX4_isWithin_10 : decode cX4_isWithin 10 = .ok (.iconst 1, 1) := by decide +kernel
theorem dX4_isWithin_11 : decode cX4_isWithin 11 = .ok (.goto 4, 3) := by decide +kernel
theorem dX4_isWithin_14 : decode cX4_isWithin 14 = .ok (.iconst 0, 1) := by decide +kernel
theorem dX4_isWithin_15 : decode cX4_isWithin 15 = .ok (.ireturn, 1) := by decide +kernel
theorem dX5_init_0 : decode cX5_init 0 = .ok (.aload_n 0, 1) := by decide +kernel
theorem dX5_init_1 : decode cX5_init 1 = .ok (.invokespecial 1, 3) := by decide +kernel
theorem dX5_init_4 : decode cX5_init 4 = .ok (.aload_n 0, 1) := by decide +kernel
theorem dX5_init_5 : decode cX5_init 5 = .ok (.sipush 233, 3) := by decide +kernel
theorem dX5_init_8 : decode cX5_init 8 = .ok (.newarray .int, 2) := by decide +kernel
theorem dX5_init_10 : decode cX5_init 10 = .ok (.putfield 7, 3) := by decide +kernel
theorem dX5_init_13 : decode cX5_init 13 = .ok (.aload_n 0, 1) := by decide +kernel
theorem dX5_init_14 : decode cX5_init 14 = .ok (.sipush 233, 3) := by decide +kernel
theorem dX5_init_17 : decode cX5_init 17 = .ok (.newarray .int, 2) := by decide +kernel
theorem dX5_init_19 : decode cX5_init 19 = .ok (.putfield 13, 3) := by decide +kernel
theorem dX5_init_22 : decode cX5_init 22 = .ok (.aload_n 0, 1) := by decide +kernel
theorem dX5_init_23 : decode cX5_init 23 = .ok (.sipush 466, 3) := by decide +kernel
theorem dX5_init_26 : decode cX5_init 26 = .ok (.newarray .int, 2) := by decide +kernel
theorem dX5_init_28 : decode cX5_init 28 = .ok (.putfield 16, 3) := by decide +kernel
theorem dX5_init_31 : decode cX5_init 31 = .ok (.aload_n 0, 1) := by decide +kernel
theorem dX5_init_32 : decode cX5_init 32 = .ok (.iconst 2, 1) := by decide +kernel
theorem dX5_init_33 : decode cX5_init 33 = .ok (.newarray .boolean, 2) := by decide +kernel
theorem dX5_init_35 : decode cX5_init 35 = .ok (.putfield 19, 3) := by decide +kernel
theorem dX5_init_38 : decode cX5_init 38 = .ok (.aload_n 0, 1) := by decide +kernel
theorem dX5_init_39 : decode cX5_init 39 = .ok (.bipush 60, 2) := by decide +kernel
theorem dX5_init_41 : decode cX5_init 41 = .ok (.newarray .int, 2) := by decide +kernel
theorem dX5_init_43 : decode cX5_init 43 = .ok (.putfield 23, 3) := by decide +kernel
theorem dX5_init_46 : decode cX5_init 46 = .ok (.aload_n 0, 1) := by decide +kernel
theorem dX5_init_47 : decode cX5_init 47 = .ok (.sipush 128, 3) := by decide +kernel
theorem dX5_init_50 : decode cX5_init 50 = .ok (.newarray .int, 2) := by decide +kernel
theorem dX5_init_52 : decode cX5_init 52 = .ok (.putfield 26, 3) := by decide +kernel
theorem dX5_init_55 : decode cX5_init 55 = .ok (.aload_n 0, 1) := by decide +kernel
theorem dX5_init_56 : decode cX5_init 56 = .ok (.getfield 7, 3) := by decide +kernel
theorem dX5_init_59 : decode cX5_init 59 = .ok (.iconst 5, 1) := by decide +kernel
theorem dX5_init_60 : decode cX5_init 60 = .ok (.bipush 20, 2) := by decide +kernel
theorem dX5_init_62 : decode cX5_init 62 = .ok (.iastore, 1) := by decide +kernel
theorem dX5_init_63 : decode cX5_init 63 = .ok (.aload_n 0, 1) := by decide +kernel
theorem dX5_init_64 : decode cX5_init 64 = .ok (.getfield 7, 3) := by decide +kernel
theorem dX5_init_67 : decode cX5_init 67 = .ok (.bipush 6, 2) := by decide +kernel
theorem dX5_init_69 : decode cX5_init 69 = .ok (.bipush 40, 2) := by decide +kernel
theorem dX5_init_71 : decode cX5_init 71 = .ok (.iastore, 1) := by decide +kernel
theorem dX5_init_72 : decode cX5_init 72 = .ok (.aload_n 0, 1) := by decide +kernel
theorem dX5_init_73 : decode cX5_init 73 = .ok (.getfield 7, 3) := by decide +kernel
theorem dX5_init_76 : decode cX5_init 76 = .ok (.bipush 7, 2) := by decide +kernel
theorem dX5_init_78 : decode cX5_init 78 = .ok (.bipush 30, 2) := by decide +kernel
theorem dX5_init_80 : decode cX5_init 80 = .ok (.iastore, 1) := by decide +kernel
theorem dX5_init_81 : decode cX5_init 81 = .ok (.aload_n 0, 1) := by decide +kernel
theorem dX5_init_82 : decode cX5_init 82 = .ok (.getfield 7, 3) := by decide +kernel
theorem dX5_init_85 : decode cX5_init 85 = .ok (.bipush 8, 2) := by decide +kernel
theorem dX5_init_87 : decode cX5_init 87 = .ok (.bipush 10, 2) := by decide +kernel
theorem dX5_init_89 : decode cX5_init 89 = .ok (.iastore, 1) := by decide +kernel
theorem dX5_init_90 : decode cX5_init 90 = .ok (.aload_n 0, 1) := by decide +kernel
theorem dX5_init_91 : decode cX5_init 91 = .ok (.getfield 7, 3) := by decide +kernel
theorem dX5_init_94 : decode cX5_init 94 = .ok (.bipush 9, 2) := by decide +kernel
theorem dX5_init_96 : decode cX5_init 96 = .ok (.bipush 15, 2) := by decide +kernel
theorem dX5_init_98 : decode cX5_init 98 = .ok (.iastore, 1) := by decide +kernel
theorem dX5_init_99 : decode cX5_init 99 = .ok (.aload_n 0, 1) := by decide +kernel
theorem dX5_init_100 : decode cX5_init 100 = .ok (.iconst 2, 1) := by decide +kernel
theorem dX5_init_101 : decode cX5_init 101 = .ok (.iconst 1, 1) := by decide +kernel
theorem dX5_init_102 : decode cX5_init 102 = .ok (.invokevirtual 29, 3) := by decide +kernel
theorem dX5_init_105 : decode cX5_init 105 = .ok (.return_, 1) := by decide +kernel
theorem dX5_in_0 : decode cX5_in 0 = .ok (.iload_n 0, 1) := by decide +kernel
theorem dX5_in_1 : decode cX5_in 1 = .ok (.iload_n 1, 1) := by decide +kernel
theorem dX5_in_2 : decode cX5_in 2 = .ok (.if_icmp .lt 12, 3) := by decide +kernel
theorem dX5_in_5 : decode cX5_in 5 = .ok (.iload_n 0, 1) := by decide +kernel
theorem dX5_in_6 : decode cX5_in 6 = .ok (.iload_n 2, 1) := by decide +kernel
theorem dX5_in_7 : decode cX5_in 7 = .ok (.if_icmp .gt 7, 3) := by decide +kernel
theorem dX5_in_10 : decode cX5_in 10 = .ok (.iconst 1, 1) := by decide +kernel
theorem dX5_in_11 : decode cX5_in 11 = .ok (.goto 4, 3) := by decide +kernel
theorem dX5_in_14 : decode cX5_in 14 = .ok (.iconst 0, 1) := by decide +kernel
theorem dX5_in_15 : decode cX5_in 15 = .ok (.ireturn, 1) := by decide +kernel
theorem dX5_of_0 : decode cX5_of 0 = .ok (.aload_n 0, 1) := by decide +kernel
theorem dX5_of_1 : decode cX5_of 1 = .ok (.getfield 7, 3) := by decide +kernel
theorem dX5_of_4 : decode cX5_of 4 = .ok (.bipush 17, 2) := by decide +kernel
theorem dX5_of_6 : decode cX5_of 6 = .ok (.bipush 11, 2) := by decide +kernel
theorem dX5_of_8 : decode cX5_of 8 = .ok (.iload_n 1, 1) := by decide +kernel
theorem dX5_of_9 : decode cX5_of 9 = .ok (.imul, 1) := by decide +kernel
theorem dX5_of_10 : decode cX5_of 10 = .ok (.iadd, 1) := by decide +kernel
theorem dX5_of_11 : decode cX5_of 11 = .ok (.iload_n 2, 1) := by decide +kernel
theorem dX5_of_12 : decode cX5_of 12 = .ok (.iadd, 1) := by decide +kernel
theorem dX5_of_13 : decode cX5_of 13 = .ok (.iaload, 1) := by decide +kernel
theorem dX5_of_14 : decode cX5_of 14 = .ok (.ireturn, 1) := by decide +kernel
theorem dX5_lay_0 : decode cX5_lay 0 = .ok (.aload_n 0, 1) := by decide +kernel
theorem dX5_lay_1 : decode cX5_lay 1 = .ok (.getfield 7, 3) := by decide +kernel
theorem dX5_lay_4 : decode cX5_lay 4 = .ok (.bipush 17, 2) := by decide +kernel
theorem dX5_lay_6 : decode cX5_lay 6 = .ok (.bipush 11, 2) := by decide +kernel
theorem dX5_lay_8 : decode cX5_lay 8 = .ok (.iload_n 1, 1) := by decide +kernel
theorem dX5_lay_9 : decode cX5_lay 9 = .ok (.imul, 1) := by decide +kernel
theorem dX5_lay_10 : decode cX5_lay 10 = .ok (.iadd, 1) := by decide +kernel
theorem dX5_lay_11 : decode cX5_lay 11 = .ok (.iload_n 2, 1) := by decide +kernel
theorem dX5_lay_12 : decode cX5_lay 12 = .ok (.iadd, 1) := by decide +kernel
theorem dX5_lay_13 : decode cX5_lay 13 = .ok (.iload_n 3, 1) := by decide +kernel
theorem dX5_lay_14 : decode cX5_lay 14 = .ok (.iastore, 1) := by decide +kernel
theorem dX5_lay_15 : decode cX5_lay 15 = .ok (.return_, 1) := by decide +kernel
theorem dX5_ofFinder_0 : decode cX5_ofFinder 0 = .ok (.aload_n 0, 1) := by decide +kernel
theorem dX5_ofFinder_1 : decode cX5_ofFinder 1 = .ok (.getfield 7, 3) := by decide +kernel
theorem dX5_ofFinder_4 : decode cX5_ofFinder 4 = .ok (.sipush 193, 3) := by decide +kernel
theorem dX5_ofFinder_7 : decode cX5_ofFinder 7 = .ok (.bipush 10, 2) := by decide +kernel
theorem dX5_ofFinder_9 : decode cX5_ofFinder 9 = .ok (.iload_n 1, 1) := by decide +kernel
theorem dX5_ofFinder_10 : decode cX5_ofFinder 10 = .ok (.imul, 1) := by decide +kernel
theorem dX5_ofFinder_11 : decode cX5_ofFinder 11 = .ok (.iadd, 1) := by decide +kernel
theorem dX5_ofFinder_12 : decode cX5_ofFinder 12 = .ok (.iload_n 2, 1) := by decide +kernel
theorem dX5_ofFinder_13 : decode cX5_ofFinder 13 = .ok (.iadd, 1) := by decide +kernel
theorem dX5_ofFinder_14 : decode cX5_ofFinder 14 = .ok (.iaload, 1) := by decide +kernel
theorem dX5_ofFinder_15 : decode cX5_ofFinder 15 = .ok (.ireturn, 1) := by decide +kernel
theorem dX5_layFinder_0 : decode cX5_layFinder 0 = .ok (.aload_n 0, 1) := by decide +kernel
theorem dX5_layFinder_1 : decode cX5_layFinder 1 = .ok (.getfield 7, 3) := by decide +kernel
theorem dX5_layFinder_4 : decode cX5_layFinder 4 = .ok (.sipush 193, 3) := by decide +kernel
theorem dX5_layFinder_7 : decode cX5_layFinder 7 = .ok (.bipush 10, 2) := by decide +kernel
theorem dX5_layFinder_9 : decode cX5_layFinder 9 = .ok (.iload_n 1, 1) := by decide +kernel
theorem dX5_layFinder_10 : decode cX5_layFinder 10 = .ok (.imul, 1) := by decide +kernel
theorem dX5_layFinder_11 : decode cX5_layFinder 11 = .ok (.iadd, 1) := by decide +kernel
theorem dX5_layFinder_12 : decode cX5_layFinder 12 = .ok (.iload_n 2, 1) := by decide +kernel
theorem dX5_layFinder_13 : decode cX5_layFinder 13 = .ok (.iadd, 1) := by decide +kernel
theorem dX5_layFinder_14 : decode cX5_layFinder 14 = .ok (.iload_n 3, 1) := by decide +kernel
theorem dX5_layFinder_15 : decode cX5_layFinder 15 = .ok (.iastore, 1) := by decide +kernel
theorem dX5_layFinder_16 : decode cX5_layFinder 16 = .ok (.return_, 1) := by decide +kernel
theorem dX5_setting_0 : decode cX5_setting 0 = .ok (.aload_n 0, 1) := by decide +kernel
theorem dX5_setting_1 : decode cX5_setting 1 = .ok (.getfield 7, 3) := by decide +kernel
theorem dX5_setting_4 : decode cX5_setting 4 = .ok (.iconst 5, 1) := by decide +kernel
theorem dX5_setting_5 : decode cX5_setting 5 = .ok (.iload_n 1, 1) := by decide +kernel
theorem dX5_setting_6 : decode cX5_setting 6 = .ok (.iadd, 1) := by decide +kernel
theorem dX5_setting_7 : decode cX5_setting 7 = .ok (.iaload, 1) := by decide +kernel
theorem dX5_setting_8 : decode cX5_setting 8 = .ok (.ireturn, 1) := by decide +kernel
theorem dX5_countOne_0 : decode cX5_countOne 0 = .ok (.aload_n 0, 1) := by decide +kernel
theorem dX5_countOne_1 : decode cX5_countOne 1 = .ok (.getfield 7, 3) := by decide +kernel
theorem dX5_countOne_4 : decode cX5_countOne 4 = .ok (.bipush 10, 2) := by decide +kernel
theorem dX5_countOne_6 : decode cX5_countOne 6 = .ok (.iload_n 1, 1) := by decide +kernel
theorem dX5_countOne_7 : decode cX5_countOne 7 = .ok (.iadd, 1) := by decide +kernel
theorem dX5_countOne_8 : decode cX5_countOne 8 = .ok (.dup2, 1) := by decide +kernel
theorem dX5_countOne_9 : decode cX5_countOne 9 = .ok (.iaload, 1) := by decide +kernel
theorem dX5_countOne_10 : decode cX5_countOne 10 = .ok (.iconst 1, 1) := by decide +kernel
theorem dX5_countOne_11 : decode cX5_countOne 11 = .ok (.iadd, 1) := by decide +kernel
theorem dX5_countOne_12 : decode cX5_countOne 12 = .ok (.iastore, 1) := by decide +kernel
theorem dX5_countOne_13 : decode cX5_countOne 13 = .ok (.return_, 1) := by decide +kernel
theorem dX5_begin_0 : decode cX5_begin 0 = .ok (.iconst 0, 1) := by decide +kernel
theorem dX5_begin_1 : decode cX5_begin 1 = .ok (.istore_n 3, 1) := by decide +kernel
theorem dX5_begin_2 : decode cX5_begin 2 = .ok (.iload_n 3, 1) := by decide +kernel
theorem dX5_begin_3 : decode cX5_begin 3 = .ok (.sipush 233, 3) := by decide +kernel
theorem dX5_begin_6 : decode cX5_begin 6 = .ok (.if_icmp .ge 35, 3) := by decide +kernel
theorem dX5_begin_9 : decode cX5_begin 9 = .ok (.aload_n 0, 1) := by decide +kernel
theorem dX5_begin_10 : decode cX5_begin 10 = .ok (.getfield 7, 3) := by decide +kernel
theorem dX5_begin_13 : decode cX5_begin 13 = .ok (.iload_n 3, 1) := by decide +kernel
theorem dX5_begin_14 : decode cX5_begin 14 = .ok (.iload_n 3, 1) := by decide +kernel
theorem dX5_begin_15 : decode cX5_begin 15 = .ok (.iconst 5, 1) := by decide +kernel
theorem dX5_begin_16 : decode cX5_begin 16 = .ok (.bipush 9, 2) := by decide +kernel
theorem dX5_begin_18 : decode cX5_begin 18 = .ok (.invokestatic 33, 3) := by decide +kernel
theorem dX5_begin_21 : decode cX5_begin 21 = .ok (.ifCond .eq 12, 3) := by decide +kernel
theorem dX5_begin_24 : decode cX5_begin 24 = .ok (.aload_n 0, 1) := by decide +kernel
theorem dX5_begin_25 : decode cX5_begin 25 = .ok (.getfield 7, 3) := by decide +kernel
theorem dX5_begin_28 : decode cX5_begin 28 = .ok (.iload_n 3, 1) := by decide +kernel
theorem dX5_begin_29 : decode cX5_begin 29 = .ok (.iaload, 1) := by decide +kernel
theorem dX5_begin_30 : decode cX5_begin 30 = .ok (.goto 4, 3) := by decide +kernel
theorem dX5_begin_33 : decode cX5_begin 33 = .ok (.iconst 0, 1) := by decide +kernel
theorem dX5_begin_34 : decode cX5_begin 34 = .ok (.iastore, 1) := by decide +kernel
theorem dX5_begin_35 : decode cX5_begin 35 = .ok (.iinc 3 1, 3) := by decide +kernel
theorem dX5_begin_38 : decode cX5_begin 38 = .ok (.goto (-36), 3) := by decide +kernel
theorem dX5_begin_41 : decode cX5_begin 41 = .ok (.aload_n 0, 1) := by decide +kernel
theorem dX5_begin_42 : decode cX5_begin 42 = .ok (.getfield 7, 3) := by decide +kernel
theorem dX5_begin_45 : decode cX5_begin 45 = .ok (.iconst 1, 1) := by decide +kernel
theorem dX5_begin_46 : decode cX5_begin 46 = .ok (.iload_n 1, 1) := by decide +kernel
theorem dX5_begin_47 : decode cX5_begin 47 = .ok (.iastore, 1) := by decide +kernel
theorem dX5_begin_48 : decode cX5_begin 48 = .ok (.aload_n 0, 1) := by decide +kernel
theorem dX5_begin_49 : decode cX5_begin 49 = .ok (.getfield 7, 3) := by decide +kernel
theorem dX5_begin_52 : decode cX5_begin 52 = .ok (.iconst 2, 1) := by decide +kernel
theorem dX5_begin_53 : decode cX5_begin 53 = .ok (.iload_n 2, 1) := by decide +kernel
theorem dX5_begin_54 : decode cX5_begin 54 = .ok (.iastore, 1) := by decide +kernel
theorem dX5_begin_55 : decode cX5_begin 55 = .ok (.aload_n 0, 1) := by decide +kernel
theorem dX5_begin_56 : decode cX5_begin 56 = .ok (.getfield 7, 3) := by decide +kernel
theorem dX5_begin_59 : decode cX5_begin 59 = .ok (.iconst 3, 1) := by decide +kernel
theorem dX5_begin_60 : decode cX5_begin 60 = .ok (.bipush (-6), 2) := by decide +kernel
theorem dX5_begin_62 : decode cX5_begin 62 = .ok (.iastore, 1) := by decide +kernel
theorem dX5_begin_63 : decode cX5_begin 63 = .ok (.iconst 0, 1) := by decide +kernel
theorem dX5_begin_64 : decode cX5_begin 64 = .ok (.istore_n 3, 1) := by decide +kernel
theorem dX5_begin_65 : decode cX5_begin 65 = .ok (.iload_n 3, 1) := by decide +kernel
theorem dX5_begin_66 : decode cX5_begin 66 = .ok (.iconst 4, 1) := by decide +kernel
theorem dX5_begin_67 : decode cX5_begin 67 = .ok (.if_icmp .ge 14, 3) := by decide +kernel
theorem dX5_begin_70 : decode cX5_begin 70 = .ok (.aload_n 0, 1) := by decide +kernel
theorem dX5_begin_71 : decode cX5_begin 71 = .ok (.iload_n 3, 1) := by decide +kernel
theorem dX5_begin_72 : decode cX5_begin 72 = .ok (.invokevirtual 37, 3) := by decide +kernel
theorem dX5_begin_75 : decode cX5_begin 75 = .ok (.iinc 3 1, 3) := by decide +kernel
theorem dX5_begin_78 : decode cX5_begin 78 = .ok (.goto (-13), 3) := by decide +kernel
theorem dX5_begin_81 : decode cX5_begin 81 = .ok (.return_, 1) := by decide +kernel
theorem dX5_free_0 : decode cX5_free 0 = .ok (.iconst 0, 1) := by decide +kernel
theorem dX5_free_1 : decode cX5_free 1 = .ok (.istore_n 2, 1) := by decide +kernel
theorem dX5_free_2 : decode cX5_free 2 = .ok (.iload_n 2, 1) := by decide +kernel
theorem dX5_free_3 : decode cX5_free 3 = .ok (.bipush 10, 2) := by decide +kernel
theorem dX5_free_5 : decode cX5_free 5 = .ok (.if_icmp .ge 61, 3) := by decide +kernel
theorem dX5_free_8 : decode cX5_free 8 = .ok (.iload_n 2, 1) := by decide +kernel
theorem dX5_free_9 : decode cX5_free 9 = .ok (.iconst 2, 1) := by decide +kernel
theorem dX5_free_10 : decode cX5_free 10 = .ok (.if_icmp .eq 14, 3) := by decide +kernel
theorem dX5_free_13 : decode cX5_free 13 = .ok (.iload_n 2, 1) := by decide +kernel
theorem dX5_free_14 : decode cX5_free 14 = .ok (.iconst 4, 1) := by decide +kernel
theorem dX5_free_15 : decode cX5_free 15 = .ok (.if_icmp .eq 9, 3) := by decide +kernel
theorem dX5_free_18 : decode cX5_free 18 = .ok (.iload_n 2, 1) := by decide +kernel
theorem dX5_free_19 : decode cX5_free 19 = .ok (.bipush 9, 2) := by decide +kernel
theorem dX5_free_21 : decode cX5_free 21 = .ok (.if_icmp .ne 7, 3) := by decide +kernel
theorem dX5_free_24 : decode cX5_free 24 = .ok (.iconst 1, 1) := by decide +kernel
theorem dX5_free_25 : decode cX5_free 25 = .ok (.goto 4, 3) := by decide +kernel
theorem dX5_free_28 : decode cX5_free 28 = .ok (.iconst 0, 1) := by decide +kernel
theorem dX5_free_29 : decode cX5_free 29 = .ok (.istore_n 3, 1) := by decide +kernel
theorem dX5_free_30 : decode cX5_free 30 = .ok (.aload_n 0, 1) := by decide +kernel
theorem dX5_free_31 : decode cX5_free 31 = .ok (.iload_n 1, 1) := by decide +kernel
theorem dX5_free_32 : decode cX5_free 32 = .ok (.iload_n 2, 1) := by decide +kernel
theorem dX5_free_33 : decode cX5_free 33 = .ok (.iload_n 2, 1) := by decide +kernel
theorem dX5_free_34 : decode cX5_free 34 = .ok (.iconst 1, 1) := by decide +kernel
theorem dX5_free_35 : decode cX5_free 35 = .ok (.if_icmp .ne 12, 3) := by decide +kernel
theorem dX5_free_38 : decode cX5_free 38 = .ok (.aload_n 0, 1) := by decide +kernel
theorem dX5_free_39 : decode cX5_free 39 = .ok (.iload_n 1, 1) := by decide +kernel
theorem dX5_free_40 : decode cX5_free 40 = .ok (.iload_n 2, 1) := by decide +kernel
theorem dX5_free_41 : decode cX5_free 41 = .ok (.invokevirtual 41, 3) := by decide +kernel
theorem dX5_free_44 : decode cX5_free 44 = .ok (.goto 13, 3) := by decide +kernel
theorem dX5_free_47 : decode cX5_free 47 = .ok (.iload_n 3, 1) := by decide +kernel
theorem dX5_free_48 : decode cX5_free 48 = .ok (.ifCond .eq 8, 3) := by decide +kernel
theorem dX5_free_51 : decode cX5_free 51 = .ok (.bipush (-6), 2) := by decide +kernel
theorem dX5_free_53 : decode cX5_free 53 = .ok (.goto 4, 3) := by decide +kernel
theorem dX5_free_56 : decode cX5_free 56 = .ok (.iconst 0, 1) := by decide +kernel
theorem dX5_free_57 : decode cX5_free 57 = .ok (.invokevirtual 45, 3) := by decide +kernel
theorem dX5_free_60 : decode cX5_free 60 = .ok (.iinc 2 1, 3) := by decide +kernel
theorem dX5_free_63 : decode cX5_free 63 = .ok (.goto (-61), 3) := by decide +kernel
theorem dX5_free_66 : decode cX5_free 66 = .ok (.return_, 1) := by decide +kernel
theorem dX5_setUp_0 : decode cX5_setUp 0 = .ok (.iload_n 1, 1) := by decide +kernel
theorem dX5_setUp_1 : decode cX5_setUp 1 = .ok (.iconst 1, 1) := by decide +kernel
theorem dX5_setUp_2 : decode cX5_setUp 2 = .ok (.iconst 4, 1) := by decide +kernel
theorem dX5_setUp_3 : decode cX5_setUp 3 = .ok (.invokestatic 33, 3) := by decide +kernel
theorem dX5_setUp_6 : decode cX5_setUp 6 = .ok (.ifCond .eq 12, 3) := by decide +kernel
theorem dX5_setUp_9 : decode cX5_setUp 9 = .ok (.iload_n 2, 1) := by decide +kernel
theorem dX5_setUp_10 : decode cX5_setUp 10 = .ok (.iconst 1, 1) := by decide +kernel
theorem dX5_setUp_11 : decode cX5_setUp 11 = .ok (.iconst 3, 1) := by decide +kernel
theorem dX5_setUp_12 : decode cX5_setUp 12 = .ok (.invokestatic 33, 3) := by decide +kernel
theorem dX5_setUp_15 : decode cX5_setUp 15 = .ok (.ifCond .ne 6, 3) := by decide +kernel
theorem dX5_setUp_18 : decode cX5_setUp 18 = .ok (.bipush (-2), 2) := by decide +kernel
theorem dX5_setUp_20 : decode cX5_setUp 20 = .ok (.ireturn, 1) := by decide +kernel
theorem dX5_setUp_21 : decode cX5_setUp 21 = .ok (.aload_n 0, 1) := by decide +kernel
theorem dX5_setUp_22 : decode cX5_setUp 22 = .ok (.getfield 7, 3) := by decide +kernel
theorem dX5_setUp_25 : decode cX5_setUp 25 = .ok (.iconst 1, 1) := by decide +kernel
theorem dX5_setUp_26 : decode cX5_setUp 26 = .ok (.iaload, 1) := by decide +kernel
theorem dX5_setUp_27 : decode cX5_setUp 27 = .ok (.istore_n 3, 1) := by decide +kernel
theorem dX5_setUp_28 : decode cX5_setUp 28 = .ok (.aload_n 0, 1) := by decide +kernel
theorem dX5_setUp_29 : decode cX5_setUp 29 = .ok (.iload_n 1, 1) := by decide +kernel
theorem dX5_setUp_30 : decode cX5_setUp 30 = .ok (.iload_n 2, 1) := by decide +kernel
theorem dX5_setUp_31 : decode cX5_setUp 31 = .ok (.invokevirtual 29, 3) := by decide +kernel
theorem dX5_setUp_34 : decode cX5_setUp 34 = .ok (.iload_n 3, 1) := by decide +kernel
theorem dX5_setUp_35 : decode cX5_setUp 35 = .ok (.ireturn, 1) := by decide +kernel
theorem dX5_takes_0 : decode cX5_takes 0 = .ok (.iload_n 0, 1) := by decide +kernel
theorem dX5_takes_1 : decode cX5_takes 1 = .ok (.tableswitch 52 0 4 #[35, 35, 44, 44, 35], 35) := by decide +kernel
theorem dX5_takes_36 : decode cX5_takes 36 = .ok (.iload_n 1, 1) := by decide +kernel
theorem dX5_takes_37 : decode cX5_takes 37 = .ok (.iconst 1, 1) := by decide +kernel
theorem dX5_takes_38 : decode cX5_takes 38 = .ok (.sipush 200, 3) := by decide +kernel
theorem dX5_takes_41 : decode cX5_takes 41 = .ok (.invokestatic 33, 3) := by decide +kernel
theorem dX5_takes_44 : decode cX5_takes 44 = .ok (.ireturn, 1) := by decide +kernel
theorem dX5_takes_45 : decode cX5_takes 45 = .ok (.iload_n 1, 1) := by decide +kernel
theorem dX5_takes_46 : decode cX5_takes 46 = .ok (.iconst 1, 1) := by decide +kernel
theorem dX5_takes_47 : decode cX5_takes 47 = .ok (.bipush 100, 2) := by decide +kernel
theorem dX5_takes_49 : decode cX5_takes 49 = .ok (.invokestatic 33, 3) := by decide +kernel
theorem dX5_takes_52 : decode cX5_takes 52 = .ok (.ireturn, 1) := by decide +kernel
theorem dX5_takes_53 : decode cX5_takes 53 = .ok (.iconst 0, 1) := by decide +kernel
theorem dX5_takes_54 : decode cX5_takes 54 = .ok (.ireturn, 1) := by decide +kernel
end
section
theorem dX5_set_0 : decode cX5_set 0 = .ok (.iload_n 1, 1) := by decide +kernel
theorem dX5_set_1 : decode cX5_set 1 = .ok (.iload_n 2, 1) := by decide +kernel
theorem dX5_set_2 : decode cX5_set 2 = .ok (.invokestatic 49, 3) := by decide +kernel
theorem dX5_set_5 : decode cX5_set 5 = .ok (.ifCond .ne 6, 3) := by decide +kernel
theorem dX5_set_8 : decode cX5_set 8 = .ok (.bipush (-2), 2) := by decide +kernel
theorem dX5_set_10 : decode cX5_set 10 = .ok (.ireturn, 1) := by decide +kernel
theorem dX5_set_11 : decode cX5_set 11 = .ok (.aload_n 0, 1) := by decide +kernel
theorem dX5_set_12 : decode cX5_set 12 = .ok (.iload_n 1, 1) := by decide +kernel
theorem dX5_set_13 : decode cX5_set 13 = .ok (.invokevirtual 53, 3) := by decide +kernel
theorem dX5_set_16 : decode cX5_set 16 = .ok (.istore_n 3, 1) := by decide +kernel
theorem dX5_set_17 : decode cX5_set 17 = .ok (.aload_n 0, 1) := by decide +kernel
theorem dX5_set_18 : decode cX5_set 18 = .ok (.getfield 7, 3) := by decide +kernel
theorem dX5_set_21 : decode cX5_set 21 = .ok (.iconst 5, 1) := by decide +kernel
theorem dX5_set_22 : decode cX5_set 22 = .ok (.iload_n 1, 1) := by decide +kernel
theorem dX5_set_23 : decode cX5_set 23 = .ok (.iadd, 1) := by decide +kernel
theorem dX5_set_24 : decode cX5_set 24 = .ok (.iload_n 2, 1) := by decide +kernel
theorem dX5_set_25 : decode cX5_set 25 = .ok (.iastore, 1) := by decide +kernel
theorem dX5_set_26 : decode cX5_set 26 = .ok (.iload_n 3, 1) := by decide +kernel
theorem dX5_set_27 : decode cX5_set 27 = .ok (.ireturn, 1) := by decide +kernel
theorem dX5_isLine_0 : decode cX5_isLine 0 = .ok (.iload_n 0, 1) := by decide +kernel
theorem dX5_isLine_1 : decode cX5_isLine 1 = .ok (.iconst 0, 1) := by decide +kernel
theorem dX5_isLine_2 : decode cX5_isLine 2 = .ok (.bipush 15, 2) := by decide +kernel
theorem dX5_isLine_4 : decode cX5_isLine 4 = .ok (.invokestatic 33, 3) := by decide +kernel
theorem dX5_isLine_7 : decode cX5_isLine 7 = .ok (.ireturn, 1) := by decide +kernel
theorem dX5_isFinder_0 : decode cX5_isFinder 0 = .ok (.iload_n 1, 1) := by decide +kernel
theorem dX5_isFinder_1 : decode cX5_isFinder 1 = .ok (.iconst 0, 1) := by decide +kernel
theorem dX5_isFinder_2 : decode cX5_isFinder 2 = .ok (.aload_n 0, 1) := by decide +kernel
theorem dX5_isFinder_3 : decode cX5_isFinder 3 = .ok (.getfield 7, 3) := by decide +kernel
theorem dX5_isFinder_6 : decode cX5_isFinder 6 = .ok (.iconst 1, 1) := by decide +kernel
theorem dX5_isFinder_7 : decode cX5_isFinder 7 = .ok (.iaload, 1) := by decide +kernel
theorem dX5_isFinder_8 : decode cX5_isFinder 8 = .ok (.iconst 1, 1) := by decide +kernel
theorem dX5_isFinder_9 : decode cX5_isFinder 9 = .ok (.isub, 1) := by decide +kernel
theorem dX5_isFinder_10 : decode cX5_isFinder 10 = .ok (.invokestatic 33, 3) := by decide +kernel
theorem dX5_isFinder_13 : decode cX5_isFinder 13 = .ok (.ireturn, 1) := by decide +kernel
theorem dX5_finderOf_0 : decode cX5_finderOf 0 = .ok (.iconst 0, 1) := by decide +kernel
theorem dX5_finderOf_1 : decode cX5_finderOf 1 = .ok (.istore_n 2, 1) := by decide +kernel
theorem dX5_finderOf_2 : decode cX5_finderOf 2 = .ok (.iload_n 2, 1) := by decide +kernel
theorem dX5_finderOf_3 : decode cX5_finderOf 3 = .ok (.aload_n 0, 1) := by decide +kernel
theorem dX5_finderOf_4 : decode cX5_finderOf 4 = .ok (.getfield 7, 3) := by decide +kernel
theorem dX5_finderOf_7 : decode cX5_finderOf 7 = .ok (.iconst 1, 1) := by decide +kernel
theorem dX5_finderOf_8 : decode cX5_finderOf 8 = .ok (.iaload, 1) := by decide +kernel
theorem dX5_finderOf_9 : decode cX5_finderOf 9 = .ok (.if_icmp .ge 30, 3) := by decide +kernel
theorem dX5_finderOf_12 : decode cX5_finderOf 12 = .ok (.aload_n 0, 1) := by decide +kernel
theorem dX5_finderOf_13 : decode cX5_finderOf 13 = .ok (.iload_n 2, 1) := by decide +kernel
theorem dX5_finderOf_14 : decode cX5_finderOf 14 = .ok (.iconst 0, 1) := by decide +kernel
theorem dX5_finderOf_15 : decode cX5_finderOf 15 = .ok (.invokevirtual 41, 3) := by decide +kernel
theorem dX5_finderOf_18 : decode cX5_finderOf 18 = .ok (.ifCond .eq 15, 3) := by decide +kernel
theorem dX5_finderOf_21 : decode cX5_finderOf 21 = .ok (.aload_n 0, 1) := by decide +kernel
theorem dX5_finderOf_22 : decode cX5_finderOf 22 = .ok (.iload_n 2, 1) := by decide +kernel
theorem dX5_finderOf_23 : decode cX5_finderOf 23 = .ok (.iconst 2, 1) := by decide +kernel
theorem dX5_finderOf_24 : decode cX5_finderOf 24 = .ok (.invokevirtual 41, 3) := by decide +kernel
theorem dX5_finderOf_27 : decode cX5_finderOf 27 = .ok (.iload_n 1, 1) := by decide +kernel
theorem dX5_finderOf_28 : decode cX5_finderOf 28 = .ok (.if_icmp .ne 5, 3) := by decide +kernel
theorem dX5_finderOf_31 : decode cX5_finderOf 31 = .ok (.iload_n 2, 1) := by decide +kernel
theorem dX5_finderOf_32 : decode cX5_finderOf 32 = .ok (.ireturn, 1) := by decide +kernel
theorem dX5_finderOf_33 : decode cX5_finderOf 33 = .ok (.iinc 2 1, 3) := by decide +kernel
theorem dX5_finderOf_36 : decode cX5_finderOf 36 = .ok (.goto (-34), 3) := by decide +kernel
theorem dX5_finderOf_39 : decode cX5_finderOf 39 = .ok (.bipush (-6), 2) := by decide +kernel
theorem dX5_finderOf_41 : decode cX5_finderOf 41 = .ok (.ireturn, 1) := by decide +kernel
theorem dX5_isHolding_0 : decode cX5_isHolding 0 = .ok (.aload_n 0, 1) := by decide +kernel
theorem dX5_isHolding_1 : decode cX5_isHolding 1 = .ok (.iload_n 1, 1) := by decide +kernel
theorem dX5_isHolding_2 : decode cX5_isHolding 2 = .ok (.iconst 0, 1) := by decide +kernel
theorem dX5_isHolding_3 : decode cX5_isHolding 3 = .ok (.invokevirtual 41, 3) := by decide +kernel
theorem dX5_isHolding_6 : decode cX5_isHolding 6 = .ok (.iconst 5, 1) := by decide +kernel
theorem dX5_isHolding_7 : decode cX5_isHolding 7 = .ok (.bipush 8, 2) := by decide +kernel
theorem dX5_isHolding_9 : decode cX5_isHolding 9 = .ok (.invokestatic 33, 3) := by decide +kernel
theorem dX5_isHolding_12 : decode cX5_isHolding 12 = .ok (.ireturn, 1) := by decide +kernel
theorem dX5_holder_0 : decode cX5_holder 0 = .ok (.iconst 0, 1) := by decide +kernel
theorem dX5_holder_1 : decode cX5_holder 1 = .ok (.istore_n 3, 1) := by decide +kernel
theorem dX5_holder_2 : decode cX5_holder 2 = .ok (.iload_n 3, 1) := by decide +kernel
theorem dX5_holder_3 : decode cX5_holder 3 = .ok (.aload_n 0, 1) := by decide +kernel
theorem dX5_holder_4 : decode cX5_holder 4 = .ok (.getfield 7, 3) := by decide +kernel
theorem dX5_holder_7 : decode cX5_holder 7 = .ok (.iconst 1, 1) := by decide +kernel
theorem dX5_holder_8 : decode cX5_holder 8 = .ok (.iaload, 1) := by decide +kernel
theorem dX5_holder_9 : decode cX5_holder 9 = .ok (.if_icmp .ge 39, 3) := by decide +kernel
theorem dX5_holder_12 : decode cX5_holder 12 = .ok (.aload_n 0, 1) := by decide +kernel
theorem dX5_holder_13 : decode cX5_holder 13 = .ok (.iload_n 3, 1) := by decide +kernel
theorem dX5_holder_14 : decode cX5_holder 14 = .ok (.invokevirtual 57, 3) := by decide +kernel
theorem dX5_holder_17 : decode cX5_holder 17 = .ok (.ifCond .eq 25, 3) := by decide +kernel
theorem dX5_holder_20 : decode cX5_holder 20 = .ok (.aload_n 0, 1) := by decide +kernel
theorem dX5_holder_21 : decode cX5_holder 21 = .ok (.iload_n 3, 1) := by decide +kernel
theorem dX5_holder_22 : decode cX5_holder 22 = .ok (.iconst 3, 1) := by decide +kernel
theorem dX5_holder_23 : decode cX5_holder 23 = .ok (.invokevirtual 41, 3) := by decide +kernel
theorem dX5_holder_26 : decode cX5_holder 26 = .ok (.iload_n 1, 1) := by decide +kernel
theorem dX5_holder_27 : decode cX5_holder 27 = .ok (.if_icmp .ne 15, 3) := by decide +kernel
theorem dX5_holder_30 : decode cX5_holder 30 = .ok (.aload_n 0, 1) := by decide +kernel
theorem dX5_holder_31 : decode cX5_holder 31 = .ok (.iload_n 3, 1) := by decide +kernel
theorem dX5_holder_32 : decode cX5_holder 32 = .ok (.iconst 4, 1) := by decide +kernel
theorem dX5_holder_33 : decode cX5_holder 33 = .ok (.invokevirtual 41, 3) := by decide +kernel
theorem dX5_holder_36 : decode cX5_holder 36 = .ok (.iload_n 2, 1) := by decide +kernel
theorem dX5_holder_37 : decode cX5_holder 37 = .ok (.if_icmp .ne 5, 3) := by decide +kernel
theorem dX5_holder_40 : decode cX5_holder 40 = .ok (.iload_n 3, 1) := by decide +kernel
theorem dX5_holder_41 : decode cX5_holder 41 = .ok (.ireturn, 1) := by decide +kernel
theorem dX5_holder_42 : decode cX5_holder 42 = .ok (.iinc 3 1, 3) := by decide +kernel
theorem dX5_holder_45 : decode cX5_holder 45 = .ok (.goto (-43), 3) := by decide +kernel
theorem dX5_holder_48 : decode cX5_holder 48 = .ok (.bipush (-6), 2) := by decide +kernel
theorem dX5_holder_50 : decode cX5_holder 50 = .ok (.ireturn, 1) := by decide +kernel
theorem dX5_finderTo_0 : decode cX5_finderTo 0 = .ok (.iconst 0, 1) := by decide +kernel
theorem dX5_finderTo_1 : decode cX5_finderTo 1 = .ok (.istore_n 2, 1) := by decide +kernel
theorem dX5_finderTo_2 : decode cX5_finderTo 2 = .ok (.iload_n 2, 1) := by decide +kernel
theorem dX5_finderTo_3 : decode cX5_finderTo 3 = .ok (.aload_n 0, 1) := by decide +kernel
theorem dX5_finderTo_4 : decode cX5_finderTo 4 = .ok (.getfield 7, 3) := by decide +kernel
theorem dX5_finderTo_7 : decode cX5_finderTo 7 = .ok (.iconst 1, 1) := by decide +kernel
theorem dX5_finderTo_8 : decode cX5_finderTo 8 = .ok (.iaload, 1) := by decide +kernel
theorem dX5_finderTo_9 : decode cX5_finderTo 9 = .ok (.if_icmp .ge 38, 3) := by decide +kernel
theorem dX5_finderTo_12 : decode cX5_finderTo 12 = .ok (.aload_n 0, 1) := by decide +kernel
theorem dX5_finderTo_13 : decode cX5_finderTo 13 = .ok (.iload_n 2, 1) := by decide +kernel
theorem dX5_finderTo_14 : decode cX5_finderTo 14 = .ok (.iconst 0, 1) := by decide +kernel
theorem dX5_finderTo_15 : decode cX5_finderTo 15 = .ok (.invokevirtual 41, 3) := by decide +kernel
theorem dX5_finderTo_18 : decode cX5_finderTo 18 = .ok (.bipush 7, 2) := by decide +kernel
theorem dX5_finderTo_20 : decode cX5_finderTo 20 = .ok (.bipush 8, 2) := by decide +kernel
theorem dX5_finderTo_22 : decode cX5_finderTo 22 = .ok (.invokestatic 33, 3) := by decide +kernel
theorem dX5_finderTo_25 : decode cX5_finderTo 25 = .ok (.ifCond .eq 16, 3) := by decide +kernel
theorem dX5_finderTo_28 : decode cX5_finderTo 28 = .ok (.aload_n 0, 1) := by decide +kernel
theorem dX5_finderTo_29 : decode cX5_finderTo 29 = .ok (.iload_n 2, 1) := by decide +kernel
theorem dX5_finderTo_30 : decode cX5_finderTo 30 = .ok (.bipush 9, 2) := by decide +kernel
theorem dX5_finderTo_32 : decode cX5_finderTo 32 = .ok (.invokevirtual 41, 3) := by decide +kernel
theorem dX5_finderTo_35 : decode cX5_finderTo 35 = .ok (.iload_n 1, 1) := by decide +kernel
theorem dX5_finderTo_36 : decode cX5_finderTo 36 = .ok (.if_icmp .ne 5, 3) := by decide +kernel
theorem dX5_finderTo_39 : decode cX5_finderTo 39 = .ok (.iload_n 2, 1) := by decide +kernel
theorem dX5_finderTo_40 : decode cX5_finderTo 40 = .ok (.ireturn, 1) := by decide +kernel
theorem dX5_finderTo_41 : decode cX5_finderTo 41 = .ok (.iinc 2 1, 3) := by decide +kernel
theorem dX5_finderTo_44 : decode cX5_finderTo 44 = .ok (.goto (-42), 3) := by decide +kernel
theorem dX5_finderTo_47 : decode cX5_finderTo 47 = .ok (.bipush (-6), 2) := by decide +kernel
theorem dX5_finderTo_49 : decode cX5_finderTo 49 = .ok (.ireturn, 1) := by decide +kernel
theorem dX5_park_0 : decode cX5_park 0 = .ok (.aload_n 0, 1) := by decide +kernel
theorem dX5_park_1 : decode cX5_park 1 = .ok (.iload_n 1, 1) := by decide +kernel
theorem dX5_park_2 : decode cX5_park 2 = .ok (.iconst 0, 1) := by decide +kernel
theorem dX5_park_3 : decode cX5_park 3 = .ok (.bipush 10, 2) := by decide +kernel
theorem dX5_park_5 : decode cX5_park 5 = .ok (.invokevirtual 61, 3) := by decide +kernel
theorem dX5_park_8 : decode cX5_park 8 = .ok (.aload_n 0, 1) := by decide +kernel
theorem dX5_park_9 : decode cX5_park 9 = .ok (.iload_n 1, 1) := by decide +kernel
theorem dX5_park_10 : decode cX5_park 10 = .ok (.iconst 5, 1) := by decide +kernel
theorem dX5_park_11 : decode cX5_park 11 = .ok (.iconst 0, 1) := by decide +kernel
theorem dX5_park_12 : decode cX5_park 12 = .ok (.invokevirtual 61, 3) := by decide +kernel
theorem dX5_park_15 : decode cX5_park 15 = .ok (.aload_n 0, 1) := by decide +kernel
theorem dX5_park_16 : decode cX5_park 16 = .ok (.iload_n 1, 1) := by decide +kernel
theorem dX5_park_17 : decode cX5_park 17 = .ok (.bipush 10, 2) := by decide +kernel
theorem dX5_park_19 : decode cX5_park 19 = .ok (.iconst 0, 1) := by decide +kernel
theorem dX5_park_20 : decode cX5_park 20 = .ok (.invokevirtual 61, 3) := by decide +kernel
theorem dX5_park_23 : decode cX5_park 23 = .ok (.return_, 1) := by decide +kernel
theorem dX5_lift_0 : decode cX5_lift 0 = .ok (.iload_n 1, 1) := by decide +kernel
theorem dX5_lift_1 : decode cX5_lift 1 = .ok (.invokestatic 64, 3) := by decide +kernel
theorem dX5_lift_4 : decode cX5_lift 4 = .ok (.ifCond .ne 5, 3) := by decide +kernel
theorem dX5_lift_7 : decode cX5_lift 7 = .ok (.iconst (-1), 1) := by decide +kernel
theorem dX5_lift_8 : decode cX5_lift 8 = .ok (.ireturn, 1) := by decide +kernel
theorem dX5_lift_9 : decode cX5_lift 9 = .ok (.aload_n 0, 1) := by decide +kernel
theorem dX5_lift_10 : decode cX5_lift 10 = .ok (.iload_n 1, 1) := by decide +kernel
theorem dX5_lift_11 : decode cX5_lift 11 = .ok (.iconst 1, 1) := by decide +kernel
theorem dX5_lift_12 : decode cX5_lift 12 = .ok (.invokevirtual 67, 3) := by decide +kernel
theorem dX5_lift_15 : decode cX5_lift 15 = .ok (.iconst 1, 1) := by decide +kernel
theorem dX5_lift_16 : decode cX5_lift 16 = .ok (.if_icmp .ne 6, 3) := by decide +kernel
theorem dX5_lift_19 : decode cX5_lift 19 = .ok (.bipush (-5), 2) := by decide +kernel
theorem dX5_lift_21 : decode cX5_lift 21 = .ok (.ireturn, 1) := by decide +kernel
theorem dX5_lift_22 : decode cX5_lift 22 = .ok (.aload_n 0, 1) := by decide +kernel
theorem dX5_lift_23 : decode cX5_lift 23 = .ok (.iload_n 1, 1) := by decide +kernel
theorem dX5_lift_24 : decode cX5_lift 24 = .ok (.iconst 1, 1) := by decide +kernel
theorem dX5_lift_25 : decode cX5_lift 25 = .ok (.iconst 1, 1) := by decide +kernel
theorem dX5_lift_26 : decode cX5_lift 26 = .ok (.invokevirtual 61, 3) := by decide +kernel
theorem dX5_lift_29 : decode cX5_lift 29 = .ok (.aload_n 0, 1) := by decide +kernel
theorem dX5_lift_30 : decode cX5_lift 30 = .ok (.iload_n 1, 1) := by decide +kernel
theorem dX5_lift_31 : decode cX5_lift 31 = .ok (.iconst 0, 1) := by decide +kernel
theorem dX5_lift_32 : decode cX5_lift 32 = .ok (.invokevirtual 67, 3) := by decide +kernel
theorem dX5_lift_35 : decode cX5_lift 35 = .ok (.ifCond .ne 44, 3) := by decide +kernel
theorem dX5_lift_38 : decode cX5_lift 38 = .ok (.aload_n 0, 1) := by decide +kernel
theorem dX5_lift_39 : decode cX5_lift 39 = .ok (.iload_n 1, 1) := by decide +kernel
theorem dX5_lift_40 : decode cX5_lift 40 = .ok (.iconst 0, 1) := by decide +kernel
theorem dX5_lift_41 : decode cX5_lift 41 = .ok (.iconst 1, 1) := by decide +kernel
theorem dX5_lift_42 : decode cX5_lift 42 = .ok (.invokevirtual 61, 3) := by decide +kernel
theorem dX5_lift_45 : decode cX5_lift 45 = .ok (.aload_n 0, 1) := by decide +kernel
theorem dX5_lift_46 : decode cX5_lift 46 = .ok (.iload_n 1, 1) := by decide +kernel
theorem dX5_lift_47 : decode cX5_lift 47 = .ok (.iconst 3, 1) := by decide +kernel
theorem dX5_lift_48 : decode cX5_lift 48 = .ok (.iconst 0, 1) := by decide +kernel
theorem dX5_lift_49 : decode cX5_lift 49 = .ok (.invokevirtual 61, 3) := by decide +kernel
theorem dX5_lift_52 : decode cX5_lift 52 = .ok (.aload_n 0, 1) := by decide +kernel
theorem dX5_lift_53 : decode cX5_lift 53 = .ok (.iload_n 1, 1) := by decide +kernel
theorem dX5_lift_54 : decode cX5_lift 54 = .ok (.iconst 4, 1) := by decide +kernel
theorem dX5_lift_55 : decode cX5_lift 55 = .ok (.aload_n 0, 1) := by decide +kernel
theorem dX5_lift_56 : decode cX5_lift 56 = .ok (.getfield 7, 3) := by decide +kernel
theorem dX5_lift_59 : decode cX5_lift 59 = .ok (.iconst 4, 1) := by decide +kernel
theorem dX5_lift_60 : decode cX5_lift 60 = .ok (.iaload, 1) := by decide +kernel
theorem dX5_lift_61 : decode cX5_lift 61 = .ok (.invokevirtual 61, 3) := by decide +kernel
theorem dX5_lift_64 : decode cX5_lift 64 = .ok (.aload_n 0, 1) := by decide +kernel
theorem dX5_lift_65 : decode cX5_lift 65 = .ok (.getfield 7, 3) := by decide +kernel
theorem dX5_lift_68 : decode cX5_lift 68 = .ok (.iconst 4, 1) := by decide +kernel
theorem dX5_lift_69 : decode cX5_lift 69 = .ok (.dup2, 1) := by decide +kernel
theorem dX5_lift_70 : decode cX5_lift 70 = .ok (.iaload, 1) := by decide +kernel
theorem dX5_lift_71 : decode cX5_lift 71 = .ok (.iconst 1, 1) := by decide +kernel
theorem dX5_lift_72 : decode cX5_lift 72 = .ok (.iadd, 1) := by decide +kernel
theorem dX5_lift_73 : decode cX5_lift 73 = .ok (.iastore, 1) := by decide +kernel
theorem dX5_lift_74 : decode cX5_lift 74 = .ok (.aload_n 0, 1) := by decide +kernel
theorem dX5_lift_75 : decode cX5_lift 75 = .ok (.iconst 0, 1) := by decide +kernel
theorem dX5_lift_76 : decode cX5_lift 76 = .ok (.invokevirtual 70, 3) := by decide +kernel
theorem dX5_lift_79 : decode cX5_lift 79 = .ok (.aload_n 0, 1) := by decide +kernel
theorem dX5_lift_80 : decode cX5_lift 80 = .ok (.iload_n 1, 1) := by decide +kernel
theorem dX5_lift_81 : decode cX5_lift 81 = .ok (.iconst 0, 1) := by decide +kernel
theorem dX5_lift_82 : decode cX5_lift 82 = .ok (.invokevirtual 67, 3) := by decide +kernel
theorem dX5_lift_85 : decode cX5_lift 85 = .ok (.ireturn, 1) := by decide +kernel
theorem dX5_dropCall_0 : decode cX5_dropCall 0 = .ok (.aload_n 0, 1) := by decide +kernel
theorem dX5_dropCall_1 : decode cX5_dropCall 1 = .ok (.iload_n 1, 1) := by decide +kernel
theorem dX5_dropCall_2 : decode cX5_dropCall 2 = .ok (.invokevirtual 73, 3) := by decide +kernel
theorem dX5_dropCall_5 : decode cX5_dropCall 5 = .ok (.istore_n 2, 1) := by decide +kernel
theorem dX5_dropCall_6 : decode cX5_dropCall 6 = .ok (.iload_n 2, 1) := by decide +kernel
theorem dX5_dropCall_7 : decode cX5_dropCall 7 = .ok (.ifCond .ge 4, 3) := by decide +kernel
theorem dX5_dropCall_10 : decode cX5_dropCall 10 = .ok (.return_, 1) := by decide +kernel
theorem dX5_dropCall_11 : decode cX5_dropCall 11 = .ok (.aload_n 0, 1) := by decide +kernel
theorem dX5_dropCall_12 : decode cX5_dropCall 12 = .ok (.iload_n 2, 1) := by decide +kernel
theorem dX5_dropCall_13 : decode cX5_dropCall 13 = .ok (.iconst 0, 1) := by decide +kernel
theorem dX5_dropCall_14 : decode cX5_dropCall 14 = .ok (.invokevirtual 41, 3) := by decide +kernel
theorem dX5_dropCall_17 : decode cX5_dropCall 17 = .ok (.bipush 7, 2) := by decide +kernel
theorem dX5_dropCall_19 : decode cX5_dropCall 19 = .ok (.bipush 8, 2) := by decide +kernel
theorem dX5_dropCall_21 : decode cX5_dropCall 21 = .ok (.invokestatic 33, 3) := by decide +kernel
theorem dX5_dropCall_24 : decode cX5_dropCall 24 = .ok (.ifCond .eq 13, 3) := by decide +kernel
theorem dX5_dropCall_27 : decode cX5_dropCall 27 = .ok (.aload_n 0, 1) := by decide +kernel
theorem dX5_dropCall_28 : decode cX5_dropCall 28 = .ok (.iload_n 2, 1) := by decide +kernel
theorem dX5_dropCall_29 : decode cX5_dropCall 29 = .ok (.bipush 9, 2) := by decide +kernel
theorem dX5_dropCall_31 : decode cX5_dropCall 31 = .ok (.invokevirtual 41, 3) := by decide +kernel
theorem dX5_dropCall_34 : decode cX5_dropCall 34 = .ok (.goto 5, 3) := by decide +kernel
theorem dX5_dropCall_37 : decode cX5_dropCall 37 = .ok (.bipush (-6), 2) := by decide +kernel
theorem dX5_dropCall_39 : decode cX5_dropCall 39 = .ok (.istore_n 3, 1) := by decide +kernel
theorem dX5_dropCall_40 : decode cX5_dropCall 40 = .ok (.aload_n 0, 1) := by decide +kernel
theorem dX5_dropCall_41 : decode cX5_dropCall 41 = .ok (.iload_n 2, 1) := by decide +kernel
theorem dX5_dropCall_42 : decode cX5_dropCall 42 = .ok (.invokevirtual 37, 3) := by decide +kernel
theorem dX5_dropCall_45 : decode cX5_dropCall 45 = .ok (.iload_n 3, 1) := by decide +kernel
theorem dX5_dropCall_46 : decode cX5_dropCall 46 = .ok (.ifCond .lt 29, 3) := by decide +kernel
theorem dX5_dropCall_49 : decode cX5_dropCall 49 = .ok (.aload_n 0, 1) := by decide +kernel
theorem dX5_dropCall_50 : decode cX5_dropCall 50 = .ok (.iload_n 3, 1) := by decide +kernel
theorem dX5_dropCall_51 : decode cX5_dropCall 51 = .ok (.iconst 1, 1) := by decide +kernel
theorem dX5_dropCall_52 : decode cX5_dropCall 52 = .ok (.invokevirtual 67, 3) := by decide +kernel
theorem dX5_dropCall_55 : decode cX5_dropCall 55 = .ok (.iconst 1, 1) := by decide +kernel
theorem dX5_dropCall_56 : decode cX5_dropCall 56 = .ok (.if_icmp .ne 19, 3) := by decide +kernel
theorem dX5_dropCall_59 : decode cX5_dropCall 59 = .ok (.aload_n 0, 1) := by decide +kernel
theorem dX5_dropCall_60 : decode cX5_dropCall 60 = .ok (.iload_n 3, 1) := by decide +kernel
theorem dX5_dropCall_61 : decode cX5_dropCall 61 = .ok (.invokevirtual 76, 3) := by decide +kernel
theorem dX5_dropCall_64 : decode cX5_dropCall 64 = .ok (.aload_n 0, 1) := by decide +kernel
theorem dX5_dropCall_65 : decode cX5_dropCall 65 = .ok (.iload_n 3, 1) := by decide +kernel
theorem dX5_dropCall_66 : decode cX5_dropCall 66 = .ok (.iconst 3, 1) := by decide +kernel
theorem dX5_dropCall_67 : decode cX5_dropCall 67 = .ok (.bipush 6, 2) := by decide +kernel
theorem dX5_dropCall_69 : decode cX5_dropCall 69 = .ok (.invokevirtual 61, 3) := by decide +kernel
theorem dX5_dropCall_72 : decode cX5_dropCall 72 = .ok (.goto 14, 3) := by decide +kernel
theorem dX5_dropCall_75 : decode cX5_dropCall 75 = .ok (.iload_n 3, 1) := by decide +kernel
theorem dX5_dropCall_76 : decode cX5_dropCall 76 = .ok (.ifCond .lt 10, 3) := by decide +kernel
theorem dX5_dropCall_79 : decode cX5_dropCall 79 = .ok (.aload_n 0, 1) := by decide +kernel
theorem dX5_dropCall_80 : decode cX5_dropCall 80 = .ok (.iload_n 3, 1) := by decide +kernel
theorem dX5_dropCall_81 : decode cX5_dropCall 81 = .ok (.iconst 0, 1) := by decide +kernel
theorem dX5_dropCall_82 : decode cX5_dropCall 82 = .ok (.iconst 0, 1) := by decide +kernel
theorem dX5_dropCall_83 : decode cX5_dropCall 83 = .ok (.invokevirtual 61, 3) := by decide +kernel
theorem dX5_dropCall_86 : decode cX5_dropCall 86 = .ok (.return_, 1) := by decide +kernel
theorem dX5_hang_0 : decode cX5_hang 0 = .ok (.iload_n 1, 1) := by decide +kernel
theorem dX5_hang_1 : decode cX5_hang 1 = .ok (.invokestatic 64, 3) := by decide +kernel
theorem dX5_hang_4 : decode cX5_hang 4 = .ok (.ifCond .ne 5, 3) := by decide +kernel
theorem dX5_hang_7 : decode cX5_hang 7 = .ok (.iconst (-1), 1) := by decide +kernel
theorem dX5_hang_8 : decode cX5_hang 8 = .ok (.ireturn, 1) := by decide +kernel
theorem dX5_hang_9 : decode cX5_hang 9 = .ok (.aload_n 0, 1) := by decide +kernel
theorem dX5_hang_10 : decode cX5_hang 10 = .ok (.iload_n 1, 1) := by decide +kernel
theorem dX5_hang_11 : decode cX5_hang 11 = .ok (.iconst 1, 1) := by decide +kernel
theorem dX5_hang_12 : decode cX5_hang 12 = .ok (.invokevirtual 67, 3) := by decide +kernel
theorem dX5_hang_15 : decode cX5_hang 15 = .ok (.ifCond .ne 6, 3) := by decide +kernel
theorem dX5_hang_18 : decode cX5_hang 18 = .ok (.bipush (-5), 2) := by decide +kernel
theorem dX5_hang_20 : decode cX5_hang 20 = .ok (.ireturn, 1) := by decide +kernel
theorem dX5_hang_21 : decode cX5_hang 21 = .ok (.aload_n 0, 1) := by decide +kernel
theorem dX5_hang_22 : decode cX5_hang 22 = .ok (.iload_n 1, 1) := by decide +kernel
theorem dX5_hang_23 : decode cX5_hang 23 = .ok (.iconst 0, 1) := by decide +kernel
theorem dX5_hang_24 : decode cX5_hang 24 = .ok (.invokevirtual 67, 3) := by decide +kernel
theorem dX5_hang_27 : decode cX5_hang 27 = .ok (.istore_n 2, 1) := by decide +kernel
theorem dX5_hang_28 : decode cX5_hang 28 = .ok (.aload_n 0, 1) := by decide +kernel
theorem dX5_hang_29 : decode cX5_hang 29 = .ok (.iload_n 1, 1) := by decide +kernel
theorem dX5_hang_30 : decode cX5_hang 30 = .ok (.iconst 1, 1) := by decide +kernel
theorem dX5_hang_31 : decode cX5_hang 31 = .ok (.iconst 0, 1) := by decide +kernel
theorem dX5_hang_32 : decode cX5_hang 32 = .ok (.invokevirtual 61, 3) := by decide +kernel
theorem dX5_hang_35 : decode cX5_hang 35 = .ok (.iload_n 2, 1) := by decide +kernel
theorem dX5_hang_36 : decode cX5_hang 36 = .ok (.iconst 5, 1) := by decide +kernel
theorem dX5_hang_37 : decode cX5_hang 37 = .ok (.if_icmp .eq 36, 3) := by decide +kernel
theorem dX5_hang_40 : decode cX5_hang 40 = .ok (.iload_n 2, 1) := by decide +kernel
theorem dX5_hang_41 : decode cX5_hang 41 = .ok (.bipush 7, 2) := by decide +kernel
theorem dX5_hang_43 : decode cX5_hang 43 = .ok (.if_icmp .eq 30, 3) := by decide +kernel
theorem dX5_hang_46 : decode cX5_hang 46 = .ok (.aload_n 0, 1) := by decide +kernel
theorem dX5_hang_47 : decode cX5_hang 47 = .ok (.iload_n 1, 1) := by decide +kernel
theorem dX5_hang_48 : decode cX5_hang 48 = .ok (.iconst 0, 1) := by decide +kernel
theorem dX5_hang_49 : decode cX5_hang 49 = .ok (.iconst 0, 1) := by decide +kernel
theorem dX5_hang_50 : decode cX5_hang 50 = .ok (.invokevirtual 61, 3) := by decide +kernel
theorem dX5_hang_53 : decode cX5_hang 53 = .ok (.aload_n 0, 1) := by decide +kernel
theorem dX5_hang_54 : decode cX5_hang 54 = .ok (.iload_n 1, 1) := by decide +kernel
theorem dX5_hang_55 : decode cX5_hang 55 = .ok (.bipush 10, 2) := by decide +kernel
theorem dX5_hang_57 : decode cX5_hang 57 = .ok (.iconst 0, 1) := by decide +kernel
theorem dX5_hang_58 : decode cX5_hang 58 = .ok (.invokevirtual 61, 3) := by decide +kernel
theorem dX5_hang_61 : decode cX5_hang 61 = .ok (.aload_n 0, 1) := by decide +kernel
theorem dX5_hang_62 : decode cX5_hang 62 = .ok (.iload_n 1, 1) := by decide +kernel
theorem dX5_hang_63 : decode cX5_hang 63 = .ok (.iconst 5, 1) := by decide +kernel
theorem dX5_hang_64 : decode cX5_hang 64 = .ok (.iconst 0, 1) := by decide +kernel
theorem dX5_hang_65 : decode cX5_hang 65 = .ok (.invokevirtual 61, 3) := by decide +kernel
theorem dX5_hang_68 : decode cX5_hang 68 = .ok (.aload_n 0, 1) := by decide +kernel
theorem dX5_hang_69 : decode cX5_hang 69 = .ok (.iload_n 1, 1) := by decide +kernel
theorem dX5_hang_70 : decode cX5_hang 70 = .ok (.invokevirtual 79, 3) := by decide +kernel
theorem dX5_hang_73 : decode cX5_hang 73 = .ok (.iload_n 2, 1) := by decide +kernel
theorem dX5_hang_74 : decode cX5_hang 74 = .ok (.ireturn, 1) := by decide +kernel
theorem dX5_dial_0 : decode cX5_dial 0 = .ok (.iload_n 1, 1) := by decide +kernel
theorem dX5_dial_1 : decode cX5_dial 1 = .ok (.invokestatic 64, 3) := by decide +kernel
theorem dX5_dial_4 : decode cX5_dial 4 = .ok (.ifCond .ne 5, 3) := by decide +kernel
theorem dX5_dial_7 : decode cX5_dial 7 = .ok (.iconst (-1), 1) := by decide +kernel
theorem dX5_dial_8 : decode cX5_dial 8 = .ok (.ireturn, 1) := by decide +kernel
theorem dX5_dial_9 : decode cX5_dial 9 = .ok (.iload_n 2, 1) := by decide +kernel
theorem dX5_dial_10 : decode cX5_dial 10 = .ok (.iconst 0, 1) := by decide +kernel
theorem dX5_dial_11 : decode cX5_dial 11 = .ok (.bipush 9, 2) := by decide +kernel
theorem dX5_dial_13 : decode cX5_dial 13 = .ok (.invokestatic 33, 3) := by decide +kernel
theorem dX5_dial_16 : decode cX5_dial 16 = .ok (.ifCond .ne 6, 3) := by decide +kernel
theorem dX5_dial_19 : decode cX5_dial 19 = .ok (.bipush (-2), 2) := by decide +kernel
theorem dX5_dial_21 : decode cX5_dial 21 = .ok (.ireturn, 1) := by decide +kernel
theorem dX5_dial_22 : decode cX5_dial 22 = .ok (.aload_n 0, 1) := by decide +kernel
theorem dX5_dial_23 : decode cX5_dial 23 = .ok (.iload_n 1, 1) := by decide +kernel
theorem dX5_dial_24 : decode cX5_dial 24 = .ok (.iconst 0, 1) := by decide +kernel
theorem dX5_dial_25 : decode cX5_dial 25 = .ok (.invokevirtual 67, 3) := by decide +kernel
theorem dX5_dial_28 : decode cX5_dial 28 = .ok (.iconst 2, 1) := by decide +kernel
theorem dX5_dial_29 : decode cX5_dial 29 = .ok (.iconst 3, 1) := by decide +kernel
theorem dX5_dial_30 : decode cX5_dial 30 = .ok (.invokestatic 33, 3) := by decide +kernel
theorem dX5_dial_33 : decode cX5_dial 33 = .ok (.ifCond .ne 6, 3) := by decide +kernel
theorem dX5_dial_36 : decode cX5_dial 36 = .ok (.bipush (-5), 2) := by decide +kernel
theorem dX5_dial_38 : decode cX5_dial 38 = .ok (.ireturn, 1) := by decide +kernel
theorem dX5_dial_39 : decode cX5_dial 39 = .ok (.aload_n 0, 1) := by decide +kernel
theorem dX5_dial_40 : decode cX5_dial 40 = .ok (.iload_n 1, 1) := by decide +kernel
theorem dX5_dial_41 : decode cX5_dial 41 = .ok (.bipush 10, 2) := by decide +kernel
theorem dX5_dial_43 : decode cX5_dial 43 = .ok (.invokevirtual 67, 3) := by decide +kernel
theorem dX5_dial_46 : decode cX5_dial 46 = .ok (.istore_n 3, 1) := by decide +kernel
theorem dX5_dial_47 : decode cX5_dial 47 = .ok (.iload_n 3, 1) := by decide +kernel
theorem dX5_dial_48 : decode cX5_dial 48 = .ok (.iconst 4, 1) := by decide +kernel
theorem dX5_dial_49 : decode cX5_dial 49 = .ok (.if_icmp .ne 6, 3) := by decide +kernel
theorem dX5_dial_52 : decode cX5_dial 52 = .ok (.bipush (-4), 2) := by decide +kernel
theorem dX5_dial_54 : decode cX5_dial 54 = .ok (.ireturn, 1) := by decide +kernel
theorem dX5_dial_55 : decode cX5_dial 55 = .ok (.aload_n 0, 1) := by decide +kernel
theorem dX5_dial_56 : decode cX5_dial 56 = .ok (.iload_n 1, 1) := by decide +kernel
theorem dX5_dial_57 : decode cX5_dial 57 = .ok (.bipush 6, 2) := by decide +kernel
theorem dX5_dial_59 : decode cX5_dial 59 = .ok (.iload_n 3, 1) := by decide +kernel
theorem dX5_dial_60 : decode cX5_dial 60 = .ok (.iadd, 1) := by decide +kernel
theorem dX5_dial_61 : decode cX5_dial 61 = .ok (.iload_n 2, 1) := by decide +kernel
theorem dX5_dial_62 : decode cX5_dial 62 = .ok (.invokevirtual 61, 3) := by decide +kernel
theorem dX5_dial_65 : decode cX5_dial 65 = .ok (.aload_n 0, 1) := by decide +kernel
theorem dX5_dial_66 : decode cX5_dial 66 = .ok (.iload_n 1, 1) := by decide +kernel
theorem dX5_dial_67 : decode cX5_dial 67 = .ok (.bipush 10, 2) := by decide +kernel
theorem dX5_dial_69 : decode cX5_dial 69 = .ok (.iload_n 3, 1) := by decide +kernel
theorem dX5_dial_70 : decode cX5_dial 70 = .ok (.iconst 1, 1) := by decide +kernel
theorem dX5_dial_71 : decode cX5_dial 71 = .ok (.iadd, 1) := by decide +kernel
theorem dX5_dial_72 : decode cX5_dial 72 = .ok (.invokevirtual 61, 3) := by decide +kernel
theorem dX5_dial_75 : decode cX5_dial 75 = .ok (.iload_n 3, 1) := by decide +kernel
theorem dX5_dial_76 : decode cX5_dial 76 = .ok (.iconst 1, 1) := by decide +kernel
theorem dX5_dial_77 : decode cX5_dial 77 = .ok (.iadd, 1) := by decide +kernel
theorem dX5_dial_78 : decode cX5_dial 78 = .ok (.ireturn, 1) := by decide +kernel
theorem dX5_takeDigit_0 : decode cX5_takeDigit 0 = .ok (.aload_n 0, 1) := by decide +kernel
theorem dX5_takeDigit_1 : decode cX5_takeDigit 1 = .ok (.iload_n 1, 1) := by decide +kernel
theorem dX5_takeDigit_2 : decode cX5_takeDigit 2 = .ok (.bipush 10, 2) := by decide +kernel
theorem dX5_takeDigit_4 : decode cX5_takeDigit 4 = .ok (.invokevirtual 67, 3) := by decide +kernel
theorem dX5_takeDigit_7 : decode cX5_takeDigit 7 = .ok (.istore_n 2, 1) := by decide +kernel
theorem dX5_takeDigit_8 : decode cX5_takeDigit 8 = .ok (.iload_n 2, 1) := by decide +kernel
theorem dX5_takeDigit_9 : decode cX5_takeDigit 9 = .ok (.ifCond .ne 5, 3) := by decide +kernel
theorem dX5_takeDigit_12 : decode cX5_takeDigit 12 = .ok (.iconst 0, 1) := by decide +kernel
theorem dX5_takeDigit_13 : decode cX5_takeDigit 13 = .ok (.ireturn, 1) := by decide +kernel
theorem dX5_takeDigit_14 : decode cX5_takeDigit 14 = .ok (.aload_n 0, 1) := by decide +kernel
theorem dX5_takeDigit_15 : decode cX5_takeDigit 15 = .ok (.iload_n 1, 1) := by decide +kernel
theorem dX5_takeDigit_16 : decode cX5_takeDigit 16 = .ok (.bipush 6, 2) := by decide +kernel
theorem dX5_takeDigit_18 : decode cX5_takeDigit 18 = .ok (.invokevirtual 67, 3) := by decide +kernel
theorem dX5_takeDigit_21 : decode cX5_takeDigit 21 = .ok (.istore_n 3, 1) := by decide +kernel
theorem dX5_takeDigit_22 : decode cX5_takeDigit 22 = .ok (.iconst 1, 1) := by decide +kernel
theorem dX5_takeDigit_23 : decode cX5_takeDigit 23 = .ok (.istore 4, 2) := by decide +kernel
theorem dX5_takeDigit_25 : decode cX5_takeDigit 25 = .ok (.iload 4, 2) := by decide +kernel
theorem dX5_takeDigit_27 : decode cX5_takeDigit 27 = .ok (.iload_n 2, 1) := by decide +kernel
theorem dX5_takeDigit_28 : decode cX5_takeDigit 28 = .ok (.if_icmp .ge 31, 3) := by decide +kernel
theorem dX5_takeDigit_31 : decode cX5_takeDigit 31 = .ok (.aload_n 0, 1) := by decide +kernel
theorem dX5_takeDigit_32 : decode cX5_takeDigit 32 = .ok (.iload_n 1, 1) := by decide +kernel
theorem dX5_takeDigit_33 : decode cX5_takeDigit 33 = .ok (.bipush 6, 2) := by decide +kernel
theorem dX5_takeDigit_35 : decode cX5_takeDigit 35 = .ok (.iload 4, 2) := by decide +kernel
theorem dX5_takeDigit_37 : decode cX5_takeDigit 37 = .ok (.iadd, 1) := by decide +kernel
theorem dX5_takeDigit_38 : decode cX5_takeDigit 38 = .ok (.iconst 1, 1) := by decide +kernel
theorem dX5_takeDigit_39 : decode cX5_takeDigit 39 = .ok (.isub, 1) := by decide +kernel
theorem dX5_takeDigit_40 : decode cX5_takeDigit 40 = .ok (.aload_n 0, 1) := by decide +kernel
theorem dX5_takeDigit_41 : decode cX5_takeDigit 41 = .ok (.iload_n 1, 1) := by decide +kernel
theorem dX5_takeDigit_42 : decode cX5_takeDigit 42 = .ok (.bipush 6, 2) := by decide +kernel
theorem dX5_takeDigit_44 : decode cX5_takeDigit 44 = .ok (.iload 4, 2) := by decide +kernel
theorem dX5_takeDigit_46 : decode cX5_takeDigit 46 = .ok (.iadd, 1) := by decide +kernel
theorem dX5_takeDigit_47 : decode cX5_takeDigit 47 = .ok (.invokevirtual 67, 3) := by decide +kernel
theorem dX5_takeDigit_50 : decode cX5_takeDigit 50 = .ok (.invokevirtual 61, 3) := by decide +kernel
theorem dX5_takeDigit_53 : decode cX5_takeDigit 53 = .ok (.iinc 4 1, 3) := by decide +kernel
theorem dX5_takeDigit_56 : decode cX5_takeDigit 56 = .ok (.goto (-31), 3) := by decide +kernel
theorem dX5_takeDigit_59 : decode cX5_takeDigit 59 = .ok (.aload_n 0, 1) := by decide +kernel
theorem dX5_takeDigit_60 : decode cX5_takeDigit 60 = .ok (.iload_n 1, 1) := by decide +kernel
theorem dX5_takeDigit_61 : decode cX5_takeDigit 61 = .ok (.bipush 10, 2) := by decide +kernel
theorem dX5_takeDigit_63 : decode cX5_takeDigit 63 = .ok (.iload_n 2, 1) := by decide +kernel
theorem dX5_takeDigit_64 : decode cX5_takeDigit 64 = .ok (.iconst 1, 1) := by decide +kernel
theorem dX5_takeDigit_65 : decode cX5_takeDigit 65 = .ok (.isub, 1) := by decide +kernel
theorem dX5_takeDigit_66 : decode cX5_takeDigit 66 = .ok (.invokevirtual 61, 3) := by decide +kernel
theorem dX5_takeDigit_69 : decode cX5_takeDigit 69 = .ok (.iload_n 3, 1) := by decide +kernel
theorem dX5_takeDigit_70 : decode cX5_takeDigit 70 = .ok (.ifCond .ne 8, 3) := by decide +kernel
theorem dX5_takeDigit_73 : decode cX5_takeDigit 73 = .ok (.bipush 10, 2) := by decide +kernel
theorem dX5_takeDigit_75 : decode cX5_takeDigit 75 = .ok (.goto 4, 3) := by decide +kernel
theorem dX5_takeDigit_78 : decode cX5_takeDigit 78 = .ok (.iload_n 3, 1) := by decide +kernel
theorem dX5_takeDigit_79 : decode cX5_takeDigit 79 = .ok (.ireturn, 1) := by decide +kernel
theorem dX5_giveUp_0 : decode cX5_giveUp 0 = .ok (.aload_n 0, 1) := by decide +kernel
theorem dX5_giveUp_1 : decode cX5_giveUp 1 = .ok (.iload_n 1, 1) := by decide +kernel
theorem dX5_giveUp_2 : decode cX5_giveUp 2 = .ok (.iconst 2, 1) := by decide +kernel
theorem dX5_giveUp_3 : decode cX5_giveUp 3 = .ok (.invokevirtual 41, 3) := by decide +kernel
theorem dX5_giveUp_6 : decode cX5_giveUp 6 = .ok (.istore_n 2, 1) := by decide +kernel
theorem dX5_giveUp_7 : decode cX5_giveUp 7 = .ok (.aload_n 0, 1) := by decide +kernel
theorem dX5_giveUp_8 : decode cX5_giveUp 8 = .ok (.iload_n 1, 1) := by decide +kernel
theorem dX5_giveUp_9 : decode cX5_giveUp 9 = .ok (.invokevirtual 37, 3) := by decide +kernel
theorem dX5_giveUp_12 : decode cX5_giveUp 12 = .ok (.aload_n 0, 1) := by decide +kernel
theorem dX5_giveUp_13 : decode cX5_giveUp 13 = .ok (.iload_n 2, 1) := by decide +kernel
theorem dX5_giveUp_14 : decode cX5_giveUp 14 = .ok (.invokevirtual 76, 3) := by decide +kernel
theorem dX5_giveUp_17 : decode cX5_giveUp 17 = .ok (.aload_n 0, 1) := by decide +kernel
theorem dX5_giveUp_18 : decode cX5_giveUp 18 = .ok (.iload_n 2, 1) := by decide +kernel
theorem dX5_giveUp_19 : decode cX5_giveUp 19 = .ok (.iconst 3, 1) := by decide +kernel
theorem dX5_giveUp_20 : decode cX5_giveUp 20 = .ok (.iconst 5, 1) := by decide +kernel
theorem dX5_giveUp_21 : decode cX5_giveUp 21 = .ok (.invokevirtual 61, 3) := by decide +kernel
theorem dX5_giveUp_24 : decode cX5_giveUp 24 = .ok (.aload_n 0, 1) := by decide +kernel
theorem dX5_giveUp_25 : decode cX5_giveUp 25 = .ok (.bipush 6, 2) := by decide +kernel
theorem dX5_giveUp_27 : decode cX5_giveUp 27 = .ok (.invokevirtual 70, 3) := by decide +kernel
theorem dX5_giveUp_30 : decode cX5_giveUp 30 = .ok (.return_, 1) := by decide +kernel
theorem dX5_sound_0 : decode cX5_sound 0 = .ok (.aload_n 0, 1) := by decide +kernel
theorem dX5_sound_1 : decode cX5_sound 1 = .ok (.iload_n 1, 1) := by decide +kernel
theorem dX5_sound_2 : decode cX5_sound 2 = .ok (.iconst 2, 1) := by decide +kernel
theorem dX5_sound_3 : decode cX5_sound 3 = .ok (.invokevirtual 41, 3) := by decide +kernel
theorem dX5_sound_6 : decode cX5_sound 6 = .ok (.istore 4, 2) := by decide +kernel
theorem dX5_sound_8 : decode cX5_sound 8 = .ok (.aload_n 0, 1) := by decide +kernel
theorem dX5_sound_9 : decode cX5_sound 9 = .ok (.iload_n 1, 1) := by decide +kernel
theorem dX5_sound_10 : decode cX5_sound 10 = .ok (.iconst 0, 1) := by decide +kernel
theorem dX5_sound_11 : decode cX5_sound 11 = .ok (.bipush 9, 2) := by decide +kernel
theorem dX5_sound_13 : decode cX5_sound 13 = .ok (.invokevirtual 45, 3) := by decide +kernel
theorem dX5_sound_16 : decode cX5_sound 16 = .ok (.aload_n 0, 1) := by decide +kernel
theorem dX5_sound_17 : decode cX5_sound 17 = .ok (.iload_n 1, 1) := by decide +kernel
theorem dX5_sound_18 : decode cX5_sound 18 = .ok (.iconst 4, 1) := by decide +kernel
theorem dX5_sound_19 : decode cX5_sound 19 = .ok (.bipush (-6), 2) := by decide +kernel
theorem dX5_sound_21 : decode cX5_sound 21 = .ok (.invokevirtual 45, 3) := by decide +kernel
theorem dX5_sound_24 : decode cX5_sound 24 = .ok (.aload_n 0, 1) := by decide +kernel
theorem dX5_sound_25 : decode cX5_sound 25 = .ok (.iload_n 1, 1) := by decide +kernel
theorem dX5_sound_26 : decode cX5_sound 26 = .ok (.bipush 9, 2) := by decide +kernel
theorem dX5_sound_28 : decode cX5_sound 28 = .ok (.bipush (-6), 2) := by decide +kernel
theorem dX5_sound_30 : decode cX5_sound 30 = .ok (.invokevirtual 45, 3) := by decide +kernel
theorem dX5_sound_33 : decode cX5_sound 33 = .ok (.aload_n 0, 1) := by decide +kernel
theorem dX5_sound_34 : decode cX5_sound 34 = .ok (.iload_n 1, 1) := by decide +kernel
theorem dX5_sound_35 : decode cX5_sound 35 = .ok (.bipush 7, 2) := by decide +kernel
theorem dX5_sound_37 : decode cX5_sound 37 = .ok (.iconst 0, 1) := by decide +kernel
theorem dX5_sound_38 : decode cX5_sound 38 = .ok (.invokevirtual 45, 3) := by decide +kernel
theorem dX5_sound_41 : decode cX5_sound 41 = .ok (.aload_n 0, 1) := by decide +kernel
theorem dX5_sound_42 : decode cX5_sound 42 = .ok (.iload_n 1, 1) := by decide +kernel
theorem dX5_sound_43 : decode cX5_sound 43 = .ok (.iconst 5, 1) := by decide +kernel
theorem dX5_sound_44 : decode cX5_sound 44 = .ok (.iconst 0, 1) := by decide +kernel
theorem dX5_sound_45 : decode cX5_sound 45 = .ok (.invokevirtual 45, 3) := by decide +kernel
theorem dX5_sound_48 : decode cX5_sound 48 = .ok (.aload_n 0, 1) := by decide +kernel
theorem dX5_sound_49 : decode cX5_sound 49 = .ok (.iload 4, 2) := by decide +kernel
theorem dX5_sound_51 : decode cX5_sound 51 = .ok (.iconst 0, 1) := by decide +kernel
theorem dX5_sound_52 : decode cX5_sound 52 = .ok (.iload_n 2, 1) := by decide +kernel
theorem dX5_sound_53 : decode cX5_sound 53 = .ok (.invokevirtual 61, 3) := by decide +kernel
theorem dX5_sound_56 : decode cX5_sound 56 = .ok (.aload_n 0, 1) := by decide +kernel
theorem dX5_sound_57 : decode cX5_sound 57 = .ok (.iload 4, 2) := by decide +kernel
theorem dX5_sound_59 : decode cX5_sound 59 = .ok (.iconst 3, 1) := by decide +kernel
theorem dX5_sound_60 : decode cX5_sound 60 = .ok (.iload_n 3, 1) := by decide +kernel
theorem dX5_sound_61 : decode cX5_sound 61 = .ok (.invokevirtual 61, 3) := by decide +kernel
theorem dX5_sound_64 : decode cX5_sound 64 = .ok (.aload_n 0, 1) := by decide +kernel
theorem dX5_sound_65 : decode cX5_sound 65 = .ok (.iload_n 2, 1) := by decide +kernel
theorem dX5_sound_66 : decode cX5_sound 66 = .ok (.bipush 8, 2) := by decide +kernel
theorem dX5_sound_68 : decode cX5_sound 68 = .ok (.if_icmp .ne 7, 3) := by decide +kernel
theorem dX5_sound_71 : decode cX5_sound 71 = .ok (.iconst 4, 1) := by decide +kernel
theorem dX5_sound_72 : decode cX5_sound 72 = .ok (.goto 4, 3) := by decide +kernel
theorem dX5_sound_75 : decode cX5_sound 75 = .ok (.iconst 5, 1) := by decide +kernel
theorem dX5_sound_76 : decode cX5_sound 76 = .ok (.invokevirtual 70, 3) := by decide +kernel
theorem dX5_sound_79 : decode cX5_sound 79 = .ok (.return_, 1) := by decide +kernel
theorem dX5_reaches_0 : decode cX5_reaches 0 = .ok (.aload_n 0, 1) := by decide +kernel
theorem dX5_reaches_1 : decode cX5_reaches 1 = .ok (.iload_n 1, 1) := by decide +kernel
theorem dX5_reaches_2 : decode cX5_reaches 2 = .ok (.iload_n 2, 1) := by decide +kernel
theorem dX5_reaches_3 : decode cX5_reaches 3 = .ok (.aload_n 0, 1) := by decide +kernel
theorem dX5_reaches_4 : decode cX5_reaches 4 = .ok (.iload_n 1, 1) := by decide +kernel
theorem dX5_reaches_5 : decode cX5_reaches 5 = .ok (.iload_n 2, 1) := by decide +kernel
theorem dX5_reaches_6 : decode cX5_reaches 6 = .ok (.invokevirtual 41, 3) := by decide +kernel
theorem dX5_reaches_9 : decode cX5_reaches 9 = .ok (.iconst 1, 1) := by decide +kernel
theorem dX5_reaches_10 : decode cX5_reaches 10 = .ok (.iadd, 1) := by decide +kernel
theorem dX5_reaches_11 : decode cX5_reaches 11 = .ok (.invokevirtual 45, 3) := by decide +kernel
theorem dX5_reaches_14 : decode cX5_reaches 14 = .ok (.aload_n 0, 1) := by decide +kernel
theorem dX5_reaches_15 : decode cX5_reaches 15 = .ok (.iload_n 1, 1) := by decide +kernel
theorem dX5_reaches_16 : decode cX5_reaches 16 = .ok (.iload_n 2, 1) := by decide +kernel
theorem dX5_reaches_17 : decode cX5_reaches 17 = .ok (.invokevirtual 41, 3) := by decide +kernel
theorem dX5_reaches_20 : decode cX5_reaches 20 = .ok (.iload_n 3, 1) := by decide +kernel
theorem dX5_reaches_21 : decode cX5_reaches 21 = .ok (.if_icmp .lt 7, 3) := by decide +kernel
theorem dX5_reaches_24 : decode cX5_reaches 24 = .ok (.iconst 1, 1) := by decide +kernel
theorem dX5_reaches_25 : decode cX5_reaches 25 = .ok (.goto 4, 3) := by decide +kernel
theorem dX5_reaches_28 : decode cX5_reaches 28 = .ok (.iconst 0, 1) := by decide +kernel
theorem dX5_reaches_29 : decode cX5_reaches 29 = .ok (.ireturn, 1) := by decide +kernel
theorem dX5_seek_0 : decode cX5_seek 0 = .ok (.aload_n 0, 1) := by decide +kernel
theorem dX5_seek_1 : decode cX5_seek 1 = .ok (.iload_n 1, 1) := by decide +kernel
theorem dX5_seek_2 : decode cX5_seek 2 = .ok (.iconst 2, 1) := by decide +kernel
theorem dX5_seek_3 : decode cX5_seek 3 = .ok (.invokevirtual 41, 3) := by decide +kernel
theorem dX5_seek_6 : decode cX5_seek 6 = .ok (.istore_n 2, 1) := by decide +kernel
theorem dX5_seek_7 : decode cX5_seek 7 = .ok (.aload_n 0, 1) := by decide +kernel
theorem dX5_seek_8 : decode cX5_seek 8 = .ok (.iload_n 1, 1) := by decide +kernel
theorem dX5_seek_9 : decode cX5_seek 9 = .ok (.iconst 1, 1) := by decide +kernel
theorem dX5_seek_10 : decode cX5_seek 10 = .ok (.invokevirtual 41, 3) := by decide +kernel
theorem dX5_seek_13 : decode cX5_seek 13 = .ok (.iload_n 2, 1) := by decide +kernel
theorem dX5_seek_14 : decode cX5_seek 14 = .ok (.if_icmp .ne 33, 3) := by decide +kernel
theorem dX5_seek_17 : decode cX5_seek 17 = .ok (.aload_n 0, 1) := by decide +kernel
theorem dX5_seek_18 : decode cX5_seek 18 = .ok (.iload_n 1, 1) := by decide +kernel
theorem dX5_seek_19 : decode cX5_seek 19 = .ok (.iconst 0, 1) := by decide +kernel
theorem dX5_seek_20 : decode cX5_seek 20 = .ok (.iconst 2, 1) := by decide +kernel
theorem dX5_seek_21 : decode cX5_seek 21 = .ok (.invokevirtual 45, 3) := by decide +kernel
theorem dX5_seek_24 : decode cX5_seek 24 = .ok (.aload_n 0, 1) := by decide +kernel
theorem dX5_seek_25 : decode cX5_seek 25 = .ok (.iload_n 1, 1) := by decide +kernel
theorem dX5_seek_26 : decode cX5_seek 26 = .ok (.bipush 7, 2) := by decide +kernel
theorem dX5_seek_28 : decode cX5_seek 28 = .ok (.iconst 0, 1) := by decide +kernel
theorem dX5_seek_29 : decode cX5_seek 29 = .ok (.invokevirtual 45, 3) := by decide +kernel
theorem dX5_seek_32 : decode cX5_seek 32 = .ok (.aload_n 0, 1) := by decide +kernel
theorem dX5_seek_33 : decode cX5_seek 33 = .ok (.iload_n 2, 1) := by decide +kernel
theorem dX5_seek_34 : decode cX5_seek 34 = .ok (.iconst 0, 1) := by decide +kernel
theorem dX5_seek_35 : decode cX5_seek 35 = .ok (.iconst 2, 1) := by decide +kernel
theorem dX5_seek_36 : decode cX5_seek 36 = .ok (.invokevirtual 61, 3) := by decide +kernel
theorem dX5_seek_39 : decode cX5_seek 39 = .ok (.aload_n 0, 1) := by decide +kernel
theorem dX5_seek_40 : decode cX5_seek 40 = .ok (.iconst 1, 1) := by decide +kernel
theorem dX5_seek_41 : decode cX5_seek 41 = .ok (.invokevirtual 70, 3) := by decide +kernel
theorem dX5_seek_44 : decode cX5_seek 44 = .ok (.goto 20, 3) := by decide +kernel
theorem dX5_seek_47 : decode cX5_seek 47 = .ok (.aload_n 0, 1) := by decide +kernel
theorem dX5_seek_48 : decode cX5_seek 48 = .ok (.iload_n 1, 1) := by decide +kernel
theorem dX5_seek_49 : decode cX5_seek 49 = .ok (.iconst 1, 1) := by decide +kernel
theorem dX5_seek_50 : decode cX5_seek 50 = .ok (.aload_n 0, 1) := by decide +kernel
theorem dX5_seek_51 : decode cX5_seek 51 = .ok (.iload_n 1, 1) := by decide +kernel
theorem dX5_seek_52 : decode cX5_seek 52 = .ok (.iconst 1, 1) := by decide +kernel
theorem dX5_seek_53 : decode cX5_seek 53 = .ok (.invokevirtual 41, 3) := by decide +kernel
theorem dX5_seek_56 : decode cX5_seek 56 = .ok (.iconst 1, 1) := by decide +kernel
theorem dX5_seek_57 : decode cX5_seek 57 = .ok (.iadd, 1) := by decide +kernel
theorem dX5_seek_58 : decode cX5_seek 58 = .ok (.bipush 16, 2) := by decide +kernel
theorem dX5_seek_60 : decode cX5_seek 60 = .ok (.irem, 1) := by decide +kernel
theorem dX5_seek_61 : decode cX5_seek 61 = .ok (.invokevirtual 45, 3) := by decide +kernel
theorem dX5_seek_64 : decode cX5_seek 64 = .ok (.return_, 1) := by decide +kernel
theorem dX5_waitForDigit_0 : decode cX5_waitForDigit 0 = .ok (.aload_n 0, 1) := by decide +kernel
theorem dX5_waitForDigit_1 : decode cX5_waitForDigit 1 = .ok (.iload_n 1, 1) := by decide +kernel
theorem dX5_waitForDigit_2 : decode cX5_waitForDigit 2 = .ok (.iconst 2, 1) := by decide +kernel
theorem dX5_waitForDigit_3 : decode cX5_waitForDigit 3 = .ok (.invokevirtual 41, 3) := by decide +kernel
theorem dX5_waitForDigit_6 : decode cX5_waitForDigit 6 = .ok (.istore_n 2, 1) := by decide +kernel
theorem dX5_waitForDigit_7 : decode cX5_waitForDigit 7 = .ok (.aload_n 0, 1) := by decide +kernel
theorem dX5_waitForDigit_8 : decode cX5_waitForDigit 8 = .ok (.iload_n 2, 1) := by decide +kernel
theorem dX5_waitForDigit_9 : decode cX5_waitForDigit 9 = .ok (.invokevirtual 82, 3) := by decide +kernel
theorem dX5_waitForDigit_12 : decode cX5_waitForDigit 12 = .ok (.istore_n 3, 1) := by decide +kernel
theorem dX5_waitForDigit_13 : decode cX5_waitForDigit 13 = .ok (.iload_n 3, 1) := by decide +kernel
theorem dX5_waitForDigit_14 : decode cX5_waitForDigit 14 = .ok (.ifCond .le 58, 3) := by decide +kernel
theorem dX5_waitForDigit_17 : decode cX5_waitForDigit 17 = .ok (.aload_n 0, 1) := by decide +kernel
theorem dX5_waitForDigit_18 : decode cX5_waitForDigit 18 = .ok (.iload_n 1, 1) := by decide +kernel
theorem dX5_waitForDigit_19 : decode cX5_waitForDigit 19 = .ok (.iconst 0, 1) := by decide +kernel
theorem dX5_waitForDigit_20 : decode cX5_waitForDigit 20 = .ok (.aload_n 0, 1) := by decide +kernel
theorem dX5_waitForDigit_21 : decode cX5_waitForDigit 21 = .ok (.iload_n 1, 1) := by decide +kernel
theorem dX5_waitForDigit_22 : decode cX5_waitForDigit 22 = .ok (.iconst 0, 1) := by decide +kernel
theorem dX5_waitForDigit_23 : decode cX5_waitForDigit 23 = .ok (.invokevirtual 41, 3) := by decide +kernel
theorem dX5_waitForDigit_26 : decode cX5_waitForDigit 26 = .ok (.iconst 2, 1) := by decide +kernel
theorem dX5_waitForDigit_27 : decode cX5_waitForDigit 27 = .ok (.if_icmp .ne 7, 3) := by decide +kernel
theorem dX5_waitForDigit_30 : decode cX5_waitForDigit 30 = .ok (.iconst 3, 1) := by decide +kernel
theorem dX5_waitForDigit_31 : decode cX5_waitForDigit 31 = .ok (.goto 5, 3) := by decide +kernel
theorem dX5_waitForDigit_34 : decode cX5_waitForDigit 34 = .ok (.bipush 6, 2) := by decide +kernel
theorem dX5_waitForDigit_36 : decode cX5_waitForDigit 36 = .ok (.invokevirtual 45, 3) := by decide +kernel
theorem dX5_waitForDigit_39 : decode cX5_waitForDigit 39 = .ok (.aload_n 0, 1) := by decide +kernel
theorem dX5_waitForDigit_40 : decode cX5_waitForDigit 40 = .ok (.iload_n 1, 1) := by decide +kernel
theorem dX5_waitForDigit_41 : decode cX5_waitForDigit 41 = .ok (.iconst 5, 1) := by decide +kernel
theorem dX5_waitForDigit_42 : decode cX5_waitForDigit 42 = .ok (.iload_n 3, 1) := by decide +kernel
theorem dX5_waitForDigit_43 : decode cX5_waitForDigit 43 = .ok (.invokevirtual 45, 3) := by decide +kernel
theorem dX5_waitForDigit_46 : decode cX5_waitForDigit 46 = .ok (.aload_n 0, 1) := by decide +kernel
theorem dX5_waitForDigit_47 : decode cX5_waitForDigit 47 = .ok (.iload_n 1, 1) := by decide +kernel
theorem dX5_waitForDigit_48 : decode cX5_waitForDigit 48 = .ok (.bipush 6, 2) := by decide +kernel
theorem dX5_waitForDigit_50 : decode cX5_waitForDigit 50 = .ok (.iload_n 3, 1) := by decide +kernel
theorem dX5_waitForDigit_51 : decode cX5_waitForDigit 51 = .ok (.invokevirtual 45, 3) := by decide +kernel
theorem dX5_waitForDigit_54 : decode cX5_waitForDigit 54 = .ok (.aload_n 0, 1) := by decide +kernel
theorem dX5_waitForDigit_55 : decode cX5_waitForDigit 55 = .ok (.iload_n 1, 1) := by decide +kernel
theorem dX5_waitForDigit_56 : decode cX5_waitForDigit 56 = .ok (.bipush 7, 2) := by decide +kernel
theorem dX5_waitForDigit_58 : decode cX5_waitForDigit 58 = .ok (.iconst 0, 1) := by decide +kernel
theorem dX5_waitForDigit_59 : decode cX5_waitForDigit 59 = .ok (.invokevirtual 45, 3) := by decide +kernel
theorem dX5_waitForDigit_62 : decode cX5_waitForDigit 62 = .ok (.aload_n 0, 1) := by decide +kernel
theorem dX5_waitForDigit_63 : decode cX5_waitForDigit 63 = .ok (.iload_n 2, 1) := by decide +kernel
theorem dX5_waitForDigit_64 : decode cX5_waitForDigit 64 = .ok (.iconst 0, 1) := by decide +kernel
theorem dX5_waitForDigit_65 : decode cX5_waitForDigit 65 = .ok (.iconst 3, 1) := by decide +kernel
theorem dX5_waitForDigit_66 : decode cX5_waitForDigit 66 = .ok (.invokevirtual 61, 3) := by decide +kernel
theorem dX5_waitForDigit_69 : decode cX5_waitForDigit 69 = .ok (.goto 23, 3) := by decide +kernel
theorem dX5_waitForDigit_72 : decode cX5_waitForDigit 72 = .ok (.aload_n 0, 1) := by decide +kernel
theorem dX5_waitForDigit_73 : decode cX5_waitForDigit 73 = .ok (.iload_n 1, 1) := by decide +kernel
theorem dX5_waitForDigit_74 : decode cX5_waitForDigit 74 = .ok (.bipush 7, 2) := by decide +kernel
theorem dX5_waitForDigit_76 : decode cX5_waitForDigit 76 = .ok (.aload_n 0, 1) := by decide +kernel
theorem dX5_waitForDigit_77 : decode cX5_waitForDigit 77 = .ok (.iconst 0, 1) := by decide +kernel
theorem dX5_waitForDigit_78 : decode cX5_waitForDigit 78 = .ok (.invokevirtual 53, 3) := by decide +kernel
theorem dX5_waitForDigit_81 : decode cX5_waitForDigit 81 = .ok (.invokevirtual 85, 3) := by decide +kernel
theorem dX5_waitForDigit_84 : decode cX5_waitForDigit 84 = .ok (.ifCond .eq 8, 3) := by decide +kernel
theorem dX5_waitForDigit_87 : decode cX5_waitForDigit 87 = .ok (.aload_n 0, 1) := by decide +kernel
theorem dX5_waitForDigit_88 : decode cX5_waitForDigit 88 = .ok (.iload_n 1, 1) := by decide +kernel
theorem dX5_waitForDigit_89 : decode cX5_waitForDigit 89 = .ok (.invokevirtual 88, 3) := by decide +kernel
theorem dX5_waitForDigit_92 : decode cX5_waitForDigit 92 = .ok (.return_, 1) := by decide +kernel
theorem dX5_rise_0 : decode cX5_rise 0 = .ok (.aload_n 0, 1) := by decide +kernel
theorem dX5_rise_1 : decode cX5_rise 1 = .ok (.iload_n 1, 1) := by decide +kernel
theorem dX5_rise_2 : decode cX5_rise 2 = .ok (.iconst 5, 1) := by decide +kernel
theorem dX5_rise_3 : decode cX5_rise 3 = .ok (.aload_n 0, 1) := by decide +kernel
theorem dX5_rise_4 : decode cX5_rise 4 = .ok (.iload_n 1, 1) := by decide +kernel
theorem dX5_rise_5 : decode cX5_rise 5 = .ok (.iconst 5, 1) := by decide +kernel
theorem dX5_rise_6 : decode cX5_rise 6 = .ok (.invokevirtual 41, 3) := by decide +kernel
theorem dX5_rise_9 : decode cX5_rise 9 = .ok (.iconst 1, 1) := by decide +kernel
theorem dX5_rise_10 : decode cX5_rise 10 = .ok (.isub, 1) := by decide +kernel
theorem dX5_rise_11 : decode cX5_rise 11 = .ok (.invokevirtual 45, 3) := by decide +kernel
theorem dX5_rise_14 : decode cX5_rise 14 = .ok (.aload_n 0, 1) := by decide +kernel
theorem dX5_rise_15 : decode cX5_rise 15 = .ok (.iload_n 1, 1) := by decide +kernel
theorem dX5_rise_16 : decode cX5_rise 16 = .ok (.iconst 3, 1) := by decide +kernel
theorem dX5_rise_17 : decode cX5_rise 17 = .ok (.aload_n 0, 1) := by decide +kernel
theorem dX5_rise_18 : decode cX5_rise 18 = .ok (.iload_n 1, 1) := by decide +kernel
theorem dX5_rise_19 : decode cX5_rise 19 = .ok (.iconst 3, 1) := by decide +kernel
theorem dX5_rise_20 : decode cX5_rise 20 = .ok (.invokevirtual 41, 3) := by decide +kernel
theorem dX5_rise_23 : decode cX5_rise 23 = .ok (.iconst 1, 1) := by decide +kernel
theorem dX5_rise_24 : decode cX5_rise 24 = .ok (.iadd, 1) := by decide +kernel
theorem dX5_rise_25 : decode cX5_rise 25 = .ok (.invokevirtual 45, 3) := by decide +kernel
theorem dX5_rise_28 : decode cX5_rise 28 = .ok (.aload_n 0, 1) := by decide +kernel
theorem dX5_rise_29 : decode cX5_rise 29 = .ok (.iload_n 1, 1) := by decide +kernel
theorem dX5_rise_30 : decode cX5_rise 30 = .ok (.iconst 5, 1) := by decide +kernel
theorem dX5_rise_31 : decode cX5_rise 31 = .ok (.invokevirtual 41, 3) := by decide +kernel
theorem dX5_rise_34 : decode cX5_rise 34 = .ok (.ifCond .ne 30, 3) := by decide +kernel
theorem dX5_rise_37 : decode cX5_rise 37 = .ok (.aload_n 0, 1) := by decide +kernel
theorem dX5_rise_38 : decode cX5_rise 38 = .ok (.iload_n 1, 1) := by decide +kernel
theorem dX5_rise_39 : decode cX5_rise 39 = .ok (.iconst 3, 1) := by decide +kernel
theorem dX5_rise_40 : decode cX5_rise 40 = .ok (.invokevirtual 41, 3) := by decide +kernel
theorem dX5_rise_43 : decode cX5_rise 43 = .ok (.iconst 4, 1) := by decide +kernel
theorem dX5_rise_44 : decode cX5_rise 44 = .ok (.if_icmp .gt 20, 3) := by decide +kernel
theorem dX5_rise_47 : decode cX5_rise 47 = .ok (.aload_n 0, 1) := by decide +kernel
theorem dX5_rise_48 : decode cX5_rise 48 = .ok (.iload_n 1, 1) := by decide +kernel
theorem dX5_rise_49 : decode cX5_rise 49 = .ok (.iconst 0, 1) := by decide +kernel
theorem dX5_rise_50 : decode cX5_rise 50 = .ok (.iconst 4, 1) := by decide +kernel
theorem dX5_rise_51 : decode cX5_rise 51 = .ok (.invokevirtual 45, 3) := by decide +kernel
theorem dX5_rise_54 : decode cX5_rise 54 = .ok (.aload_n 0, 1) := by decide +kernel
theorem dX5_rise_55 : decode cX5_rise 55 = .ok (.iload_n 1, 1) := by decide +kernel
theorem dX5_rise_56 : decode cX5_rise 56 = .ok (.iconst 4, 1) := by decide +kernel
theorem dX5_rise_57 : decode cX5_rise 57 = .ok (.iconst 0, 1) := by decide +kernel
theorem dX5_rise_58 : decode cX5_rise 58 = .ok (.invokevirtual 45, 3) := by decide +kernel
theorem dX5_rise_61 : decode cX5_rise 61 = .ok (.goto 20, 3) := by decide +kernel
theorem dX5_rise_64 : decode cX5_rise 64 = .ok (.aload_n 0, 1) := by decide +kernel
theorem dX5_rise_65 : decode cX5_rise 65 = .ok (.iload_n 1, 1) := by decide +kernel
theorem dX5_rise_66 : decode cX5_rise 66 = .ok (.iconst 5, 1) := by decide +kernel
theorem dX5_rise_67 : decode cX5_rise 67 = .ok (.invokevirtual 41, 3) := by decide +kernel
theorem dX5_rise_70 : decode cX5_rise 70 = .ok (.ifCond .ne 11, 3) := by decide +kernel
theorem dX5_rise_73 : decode cX5_rise 73 = .ok (.aload_n 0, 1) := by decide +kernel
theorem dX5_rise_74 : decode cX5_rise 74 = .ok (.iload_n 1, 1) := by decide +kernel
theorem dX5_rise_75 : decode cX5_rise 75 = .ok (.bipush 9, 2) := by decide +kernel
theorem dX5_rise_77 : decode cX5_rise 77 = .ok (.iconst 3, 1) := by decide +kernel
theorem dX5_rise_78 : decode cX5_rise 78 = .ok (.invokevirtual 91, 3) := by decide +kernel
theorem dX5_rise_81 : decode cX5_rise 81 = .ok (.return_, 1) := by decide +kernel
theorem dX5_hunt_0 : decode cX5_hunt 0 = .ok (.aload_n 0, 1) := by decide +kernel
theorem dX5_hunt_1 : decode cX5_hunt 1 = .ok (.iload_n 1, 1) := by decide +kernel
theorem dX5_hunt_2 : decode cX5_hunt 2 = .ok (.iconst 4, 1) := by decide +kernel
theorem dX5_hunt_3 : decode cX5_hunt 3 = .ok (.invokevirtual 41, 3) := by decide +kernel
theorem dX5_hunt_6 : decode cX5_hunt 6 = .ok (.istore_n 2, 1) := by decide +kernel
theorem dX5_hunt_7 : decode cX5_hunt 7 = .ok (.aload_n 0, 1) := by decide +kernel
theorem dX5_hunt_8 : decode cX5_hunt 8 = .ok (.aload_n 0, 1) := by decide +kernel
theorem dX5_hunt_9 : decode cX5_hunt 9 = .ok (.iload_n 1, 1) := by decide +kernel
theorem dX5_hunt_10 : decode cX5_hunt 10 = .ok (.iconst 3, 1) := by decide +kernel
theorem dX5_hunt_11 : decode cX5_hunt 11 = .ok (.invokevirtual 41, 3) := by decide +kernel
theorem dX5_hunt_14 : decode cX5_hunt 14 = .ok (.iload_n 2, 1) := by decide +kernel
theorem dX5_hunt_15 : decode cX5_hunt 15 = .ok (.invokevirtual 94, 3) := by decide +kernel
theorem dX5_hunt_18 : decode cX5_hunt 18 = .ok (.ifCond .ge 21, 3) := by decide +kernel
theorem dX5_hunt_21 : decode cX5_hunt 21 = .ok (.aload_n 0, 1) := by decide +kernel
theorem dX5_hunt_22 : decode cX5_hunt 22 = .ok (.iload_n 1, 1) := by decide +kernel
theorem dX5_hunt_23 : decode cX5_hunt 23 = .ok (.iconst 0, 1) := by decide +kernel
theorem dX5_hunt_24 : decode cX5_hunt 24 = .ok (.iconst 5, 1) := by decide +kernel
theorem dX5_hunt_25 : decode cX5_hunt 25 = .ok (.invokevirtual 45, 3) := by decide +kernel
theorem dX5_hunt_28 : decode cX5_hunt 28 = .ok (.aload_n 0, 1) := by decide +kernel
theorem dX5_hunt_29 : decode cX5_hunt 29 = .ok (.iload_n 1, 1) := by decide +kernel
theorem dX5_hunt_30 : decode cX5_hunt 30 = .ok (.bipush 7, 2) := by decide +kernel
theorem dX5_hunt_32 : decode cX5_hunt 32 = .ok (.iconst 0, 1) := by decide +kernel
theorem dX5_hunt_33 : decode cX5_hunt 33 = .ok (.invokevirtual 45, 3) := by decide +kernel
theorem dX5_hunt_36 : decode cX5_hunt 36 = .ok (.goto 35, 3) := by decide +kernel
theorem dX5_hunt_39 : decode cX5_hunt 39 = .ok (.iload_n 2, 1) := by decide +kernel
theorem dX5_hunt_40 : decode cX5_hunt 40 = .ok (.iconst 1, 1) := by decide +kernel
theorem dX5_hunt_41 : decode cX5_hunt 41 = .ok (.iadd, 1) := by decide +kernel
theorem dX5_hunt_42 : decode cX5_hunt 42 = .ok (.aload_n 0, 1) := by decide +kernel
theorem dX5_hunt_43 : decode cX5_hunt 43 = .ok (.getfield 7, 3) := by decide +kernel
theorem dX5_hunt_46 : decode cX5_hunt 46 = .ok (.iconst 2, 1) := by decide +kernel
theorem dX5_hunt_47 : decode cX5_hunt 47 = .ok (.iaload, 1) := by decide +kernel
theorem dX5_hunt_48 : decode cX5_hunt 48 = .ok (.if_icmp .ge 15, 3) := by decide +kernel
theorem dX5_hunt_51 : decode cX5_hunt 51 = .ok (.aload_n 0, 1) := by decide +kernel
theorem dX5_hunt_52 : decode cX5_hunt 52 = .ok (.iload_n 1, 1) := by decide +kernel
theorem dX5_hunt_53 : decode cX5_hunt 53 = .ok (.iconst 4, 1) := by decide +kernel
theorem dX5_hunt_54 : decode cX5_hunt 54 = .ok (.iload_n 2, 1) := by decide +kernel
theorem dX5_hunt_55 : decode cX5_hunt 55 = .ok (.iconst 1, 1) := by decide +kernel
theorem dX5_hunt_56 : decode cX5_hunt 56 = .ok (.iadd, 1) := by decide +kernel
theorem dX5_hunt_57 : decode cX5_hunt 57 = .ok (.invokevirtual 45, 3) := by decide +kernel
theorem dX5_hunt_60 : decode cX5_hunt 60 = .ok (.goto 11, 3) := by decide +kernel
theorem dX5_hunt_63 : decode cX5_hunt 63 = .ok (.aload_n 0, 1) := by decide +kernel
theorem dX5_hunt_64 : decode cX5_hunt 64 = .ok (.iload_n 1, 1) := by decide +kernel
theorem dX5_hunt_65 : decode cX5_hunt 65 = .ok (.bipush 8, 2) := by decide +kernel
theorem dX5_hunt_67 : decode cX5_hunt 67 = .ok (.iconst 2, 1) := by decide +kernel
theorem dX5_hunt_68 : decode cX5_hunt 68 = .ok (.invokevirtual 91, 3) := by decide +kernel
theorem dX5_hunt_71 : decode cX5_hunt 71 = .ok (.return_, 1) := by decide +kernel
theorem dX5_test_0 : decode cX5_test 0 = .ok (.iconst 4, 1) := by decide +kernel
theorem dX5_test_1 : decode cX5_test 1 = .ok (.aload_n 0, 1) := by decide +kernel
theorem dX5_test_2 : decode cX5_test 2 = .ok (.iload_n 1, 1) := by decide +kernel
theorem dX5_test_3 : decode cX5_test 3 = .ok (.iconst 3, 1) := by decide +kernel
theorem dX5_test_4 : decode cX5_test 4 = .ok (.invokevirtual 41, 3) := by decide +kernel
theorem dX5_test_7 : decode cX5_test 7 = .ok (.iconst 1, 1) := by decide +kernel
theorem dX5_test_8 : decode cX5_test 8 = .ok (.isub, 1) := by decide +kernel
theorem dX5_test_9 : decode cX5_test 9 = .ok (.imul, 1) := by decide +kernel
theorem dX5_test_10 : decode cX5_test 10 = .ok (.aload_n 0, 1) := by decide +kernel
theorem dX5_test_11 : decode cX5_test 11 = .ok (.iload_n 1, 1) := by decide +kernel
theorem dX5_test_12 : decode cX5_test 12 = .ok (.bipush 6, 2) := by decide +kernel
theorem dX5_test_14 : decode cX5_test 14 = .ok (.invokevirtual 41, 3) := by decide +kernel
theorem dX5_test_17 : decode cX5_test 17 = .ok (.iadd, 1) := by decide +kernel
theorem dX5_test_18 : decode cX5_test 18 = .ok (.iconst 1, 1) := by decide +kernel
theorem dX5_test_19 : decode cX5_test 19 = .ok (.isub, 1) := by decide +kernel
theorem dX5_test_20 : decode cX5_test 20 = .ok (.istore_n 2, 1) := by decide +kernel
theorem dX5_test_21 : decode cX5_test 21 = .ok (.aload_n 0, 1) := by decide +kernel
theorem dX5_test_22 : decode cX5_test 22 = .ok (.iload_n 2, 1) := by decide +kernel
theorem dX5_test_23 : decode cX5_test 23 = .ok (.iconst 0, 1) := by decide +kernel
theorem dX5_test_24 : decode cX5_test 24 = .ok (.invokevirtual 67, 3) := by decide +kernel
theorem dX5_test_27 : decode cX5_test 27 = .ok (.ifCond .eq 12, 3) := by decide +kernel
theorem dX5_test_30 : decode cX5_test 30 = .ok (.aload_n 0, 1) := by decide +kernel
theorem dX5_test_31 : decode cX5_test 31 = .ok (.iload_n 1, 1) := by decide +kernel
theorem dX5_test_32 : decode cX5_test 32 = .ok (.bipush 8, 2) := by decide +kernel
theorem dX5_test_34 : decode cX5_test 34 = .ok (.iconst 1, 1) := by decide +kernel
theorem dX5_test_35 : decode cX5_test 35 = .ok (.invokevirtual 91, 3) := by decide +kernel
theorem dX5_test_38 : decode cX5_test 38 = .ok (.return_, 1) := by decide +kernel
theorem dX5_test_39 : decode cX5_test 39 = .ok (.aload_n 0, 1) := by decide +kernel
theorem dX5_test_40 : decode cX5_test 40 = .ok (.iload_n 1, 1) := by decide +kernel
theorem dX5_test_41 : decode cX5_test 41 = .ok (.iconst 0, 1) := by decide +kernel
theorem dX5_test_42 : decode cX5_test 42 = .ok (.bipush 7, 2) := by decide +kernel
theorem dX5_test_44 : decode cX5_test 44 = .ok (.invokevirtual 45, 3) := by decide +kernel
theorem dX5_test_47 : decode cX5_test 47 = .ok (.aload_n 0, 1) := by decide +kernel
theorem dX5_test_48 : decode cX5_test 48 = .ok (.iload_n 1, 1) := by decide +kernel
theorem dX5_test_49 : decode cX5_test 49 = .ok (.bipush 7, 2) := by decide +kernel
theorem dX5_test_51 : decode cX5_test 51 = .ok (.iconst 0, 1) := by decide +kernel
theorem dX5_test_52 : decode cX5_test 52 = .ok (.invokevirtual 45, 3) := by decide +kernel
theorem dX5_test_55 : decode cX5_test 55 = .ok (.aload_n 0, 1) := by decide +kernel
theorem dX5_test_56 : decode cX5_test 56 = .ok (.iload_n 1, 1) := by decide +kernel
theorem dX5_test_57 : decode cX5_test 57 = .ok (.bipush 9, 2) := by decide +kernel
theorem dX5_test_59 : decode cX5_test 59 = .ok (.iload_n 2, 1) := by decide +kernel
theorem dX5_test_60 : decode cX5_test 60 = .ok (.invokevirtual 45, 3) := by decide +kernel
theorem dX5_test_63 : decode cX5_test 63 = .ok (.aload_n 0, 1) := by decide +kernel
theorem dX5_test_64 : decode cX5_test 64 = .ok (.aload_n 0, 1) := by decide +kernel
theorem dX5_test_65 : decode cX5_test 65 = .ok (.iload_n 1, 1) := by decide +kernel
theorem dX5_test_66 : decode cX5_test 66 = .ok (.iconst 2, 1) := by decide +kernel
theorem dX5_test_67 : decode cX5_test 67 = .ok (.invokevirtual 41, 3) := by decide +kernel
theorem dX5_test_70 : decode cX5_test 70 = .ok (.iconst 0, 1) := by decide +kernel
theorem dX5_test_71 : decode cX5_test 71 = .ok (.iconst 4, 1) := by decide +kernel
theorem dX5_test_72 : decode cX5_test 72 = .ok (.invokevirtual 61, 3) := by decide +kernel
theorem dX5_test_75 : decode cX5_test 75 = .ok (.aload_n 0, 1) := by decide +kernel
theorem dX5_test_76 : decode cX5_test 76 = .ok (.iload_n 2, 1) := by decide +kernel
theorem dX5_test_77 : decode cX5_test 77 = .ok (.iconst 0, 1) := by decide +kernel
theorem dX5_test_78 : decode cX5_test 78 = .ok (.iconst 5, 1) := by decide +kernel
theorem dX5_test_79 : decode cX5_test 79 = .ok (.invokevirtual 61, 3) := by decide +kernel
theorem dX5_test_82 : decode cX5_test 82 = .ok (.aload_n 0, 1) := by decide +kernel
theorem dX5_test_83 : decode cX5_test 83 = .ok (.iconst 2, 1) := by decide +kernel
theorem dX5_test_84 : decode cX5_test 84 = .ok (.invokevirtual 70, 3) := by decide +kernel
theorem dX5_test_87 : decode cX5_test 87 = .ok (.return_, 1) := by decide +kernel
theorem dX5_step_0 : decode cX5_step 0 = .ok (.aload_n 0, 1) := by decide +kernel
theorem dX5_step_1 : decode cX5_step 1 = .ok (.iload_n 1, 1) := by decide +kernel
theorem dX5_step_2 : decode cX5_step 2 = .ok (.iconst 5, 1) := by decide +kernel
theorem dX5_step_3 : decode cX5_step 3 = .ok (.aload_n 0, 1) := by decide +kernel
theorem dX5_step_4 : decode cX5_step 4 = .ok (.iload_n 1, 1) := by decide +kernel
theorem dX5_step_5 : decode cX5_step 5 = .ok (.iconst 5, 1) := by decide +kernel
theorem dX5_step_6 : decode cX5_step 6 = .ok (.invokevirtual 41, 3) := by decide +kernel
theorem dX5_step_9 : decode cX5_step 9 = .ok (.iconst 1, 1) := by decide +kernel
theorem dX5_step_10 : decode cX5_step 10 = .ok (.isub, 1) := by decide +kernel
theorem dX5_step_11 : decode cX5_step 11 = .ok (.invokevirtual 45, 3) := by decide +kernel
theorem dX5_step_14 : decode cX5_step 14 = .ok (.aload_n 0, 1) := by decide +kernel
theorem dX5_step_15 : decode cX5_step 15 = .ok (.iload_n 1, 1) := by decide +kernel
theorem dX5_step_16 : decode cX5_step 16 = .ok (.iconst 5, 1) := by decide +kernel
theorem dX5_step_17 : decode cX5_step 17 = .ok (.invokevirtual 41, 3) := by decide +kernel
theorem dX5_step_20 : decode cX5_step 20 = .ok (.ifCond .le 4, 3) := by decide +kernel
theorem dX5_step_23 : decode cX5_step 23 = .ok (.return_, 1) := by decide +kernel
theorem dX5_step_24 : decode cX5_step 24 = .ok (.aload_n 0, 1) := by decide +kernel
theorem dX5_step_25 : decode cX5_step 25 = .ok (.iload_n 1, 1) := by decide +kernel
theorem dX5_step_26 : decode cX5_step 26 = .ok (.bipush 6, 2) := by decide +kernel
theorem dX5_step_28 : decode cX5_step 28 = .ok (.invokevirtual 41, 3) := by decide +kernel
theorem dX5_step_31 : decode cX5_step 31 = .ok (.iconst 4, 1) := by decide +kernel
theorem dX5_step_32 : decode cX5_step 32 = .ok (.if_icmp .le 14, 3) := by decide +kernel
theorem dX5_step_35 : decode cX5_step 35 = .ok (.aload_n 0, 1) := by decide +kernel
theorem dX5_step_36 : decode cX5_step 36 = .ok (.iload_n 1, 1) := by decide +kernel
theorem dX5_step_37 : decode cX5_step 37 = .ok (.bipush 9, 2) := by decide +kernel
theorem dX5_step_39 : decode cX5_step 39 = .ok (.iconst 3, 1) := by decide +kernel
theorem dX5_step_40 : decode cX5_step 40 = .ok (.invokevirtual 91, 3) := by decide +kernel
theorem dX5_step_43 : decode cX5_step 43 = .ok (.goto 8, 3) := by decide +kernel
theorem dX5_step_46 : decode cX5_step 46 = .ok (.aload_n 0, 1) := by decide +kernel
theorem dX5_step_47 : decode cX5_step 47 = .ok (.iload_n 1, 1) := by decide +kernel
theorem dX5_step_48 : decode cX5_step 48 = .ok (.invokevirtual 97, 3) := by decide +kernel
theorem dX5_step_51 : decode cX5_step 51 = .ok (.return_, 1) := by decide +kernel
theorem dX5_meter_0 : decode cX5_meter 0 = .ok (.aload_n 0, 1) := by decide +kernel
theorem dX5_meter_1 : decode cX5_meter 1 = .ok (.iload_n 1, 1) := by decide +kernel
theorem dX5_meter_2 : decode cX5_meter 2 = .ok (.iconst 2, 1) := by decide +kernel
theorem dX5_meter_3 : decode cX5_meter 3 = .ok (.aload_n 0, 1) := by decide +kernel
theorem dX5_meter_4 : decode cX5_meter 4 = .ok (.iload_n 1, 1) := by decide +kernel
theorem dX5_meter_5 : decode cX5_meter 5 = .ok (.iconst 2, 1) := by decide +kernel
theorem dX5_meter_6 : decode cX5_meter 6 = .ok (.invokevirtual 67, 3) := by decide +kernel
theorem dX5_meter_9 : decode cX5_meter 9 = .ok (.iconst 1, 1) := by decide +kernel
theorem dX5_meter_10 : decode cX5_meter 10 = .ok (.iadd, 1) := by decide +kernel
theorem dX5_meter_11 : decode cX5_meter 11 = .ok (.invokevirtual 61, 3) := by decide +kernel
theorem dX5_meter_14 : decode cX5_meter 14 = .ok (.return_, 1) := by decide +kernel
theorem dX5_ring_0 : decode cX5_ring 0 = .ok (.aload_n 0, 1) := by decide +kernel
theorem dX5_ring_1 : decode cX5_ring 1 = .ok (.iload_n 1, 1) := by decide +kernel
theorem dX5_ring_2 : decode cX5_ring 2 = .ok (.iconst 2, 1) := by decide +kernel
theorem dX5_ring_3 : decode cX5_ring 3 = .ok (.invokevirtual 41, 3) := by decide +kernel
theorem dX5_ring_6 : decode cX5_ring 6 = .ok (.istore_n 2, 1) := by decide +kernel
theorem dX5_ring_7 : decode cX5_ring 7 = .ok (.aload_n 0, 1) := by decide +kernel
theorem dX5_ring_8 : decode cX5_ring 8 = .ok (.iload_n 1, 1) := by decide +kernel
theorem dX5_ring_9 : decode cX5_ring 9 = .ok (.bipush 9, 2) := by decide +kernel
theorem dX5_ring_11 : decode cX5_ring 11 = .ok (.invokevirtual 41, 3) := by decide +kernel
theorem dX5_ring_14 : decode cX5_ring 14 = .ok (.istore_n 3, 1) := by decide +kernel
theorem dX5_ring_15 : decode cX5_ring 15 = .ok (.aload_n 0, 1) := by decide +kernel
theorem dX5_ring_16 : decode cX5_ring 16 = .ok (.iload_n 3, 1) := by decide +kernel
theorem dX5_ring_17 : decode cX5_ring 17 = .ok (.iconst 1, 1) := by decide +kernel
theorem dX5_ring_18 : decode cX5_ring 18 = .ok (.invokevirtual 67, 3) := by decide +kernel
theorem dX5_ring_21 : decode cX5_ring 21 = .ok (.iconst 1, 1) := by decide +kernel
theorem dX5_ring_22 : decode cX5_ring 22 = .ok (.if_icmp .ne 56, 3) := by decide +kernel
theorem dX5_ring_25 : decode cX5_ring 25 = .ok (.aload_n 0, 1) := by decide +kernel
theorem dX5_ring_26 : decode cX5_ring 26 = .ok (.iload_n 1, 1) := by decide +kernel
theorem dX5_ring_27 : decode cX5_ring 27 = .ok (.iconst 0, 1) := by decide +kernel
theorem dX5_ring_28 : decode cX5_ring 28 = .ok (.bipush 8, 2) := by decide +kernel
theorem dX5_ring_30 : decode cX5_ring 30 = .ok (.invokevirtual 45, 3) := by decide +kernel
theorem dX5_ring_33 : decode cX5_ring 33 = .ok (.aload_n 0, 1) := by decide +kernel
theorem dX5_ring_34 : decode cX5_ring 34 = .ok (.iload_n 1, 1) := by decide +kernel
theorem dX5_ring_35 : decode cX5_ring 35 = .ok (.bipush 7, 2) := by decide +kernel
theorem dX5_ring_37 : decode cX5_ring 37 = .ok (.iconst 0, 1) := by decide +kernel
theorem dX5_ring_38 : decode cX5_ring 38 = .ok (.invokevirtual 45, 3) := by decide +kernel
theorem dX5_ring_41 : decode cX5_ring 41 = .ok (.aload_n 0, 1) := by decide +kernel
theorem dX5_ring_42 : decode cX5_ring 42 = .ok (.iload_n 1, 1) := by decide +kernel
theorem dX5_ring_43 : decode cX5_ring 43 = .ok (.bipush 8, 2) := by decide +kernel
theorem dX5_ring_45 : decode cX5_ring 45 = .ok (.iconst 0, 1) := by decide +kernel
theorem dX5_ring_46 : decode cX5_ring 46 = .ok (.invokevirtual 45, 3) := by decide +kernel
theorem dX5_ring_49 : decode cX5_ring 49 = .ok (.aload_n 0, 1) := by decide +kernel
theorem dX5_ring_50 : decode cX5_ring 50 = .ok (.iload_n 2, 1) := by decide +kernel
theorem dX5_ring_51 : decode cX5_ring 51 = .ok (.iconst 0, 1) := by decide +kernel
theorem dX5_ring_52 : decode cX5_ring 52 = .ok (.bipush 6, 2) := by decide +kernel
theorem dX5_ring_54 : decode cX5_ring 54 = .ok (.invokevirtual 61, 3) := by decide +kernel
theorem dX5_ring_57 : decode cX5_ring 57 = .ok (.aload_n 0, 1) := by decide +kernel
theorem dX5_ring_58 : decode cX5_ring 58 = .ok (.iload_n 3, 1) := by decide +kernel
theorem dX5_ring_59 : decode cX5_ring 59 = .ok (.iconst 0, 1) := by decide +kernel
theorem dX5_ring_60 : decode cX5_ring 60 = .ok (.bipush 7, 2) := by decide +kernel
theorem dX5_ring_62 : decode cX5_ring 62 = .ok (.invokevirtual 61, 3) := by decide +kernel
theorem dX5_ring_65 : decode cX5_ring 65 = .ok (.aload_n 0, 1) := by decide +kernel
theorem dX5_ring_66 : decode cX5_ring 66 = .ok (.iload_n 2, 1) := by decide +kernel
theorem dX5_ring_67 : decode cX5_ring 67 = .ok (.invokevirtual 100, 3) := by decide +kernel
theorem dX5_ring_70 : decode cX5_ring 70 = .ok (.aload_n 0, 1) := by decide +kernel
theorem dX5_ring_71 : decode cX5_ring 71 = .ok (.iconst 3, 1) := by decide +kernel
theorem dX5_ring_72 : decode cX5_ring 72 = .ok (.invokevirtual 70, 3) := by decide +kernel
theorem dX5_ring_75 : decode cX5_ring 75 = .ok (.goto 33, 3) := by decide +kernel
theorem dX5_ring_78 : decode cX5_ring 78 = .ok (.aload_n 0, 1) := by decide +kernel
theorem dX5_ring_79 : decode cX5_ring 79 = .ok (.iload_n 1, 1) := by decide +kernel
theorem dX5_ring_80 : decode cX5_ring 80 = .ok (.bipush 7, 2) := by decide +kernel
theorem dX5_ring_82 : decode cX5_ring 82 = .ok (.aload_n 0, 1) := by decide +kernel
theorem dX5_ring_83 : decode cX5_ring 83 = .ok (.iconst 1, 1) := by decide +kernel
theorem dX5_ring_84 : decode cX5_ring 84 = .ok (.invokevirtual 53, 3) := by decide +kernel
theorem dX5_ring_87 : decode cX5_ring 87 = .ok (.invokevirtual 85, 3) := by decide +kernel
theorem dX5_ring_90 : decode cX5_ring 90 = .ok (.ifCond .eq 18, 3) := by decide +kernel
theorem dX5_ring_93 : decode cX5_ring 93 = .ok (.aload_n 0, 1) := by decide +kernel
theorem dX5_ring_94 : decode cX5_ring 94 = .ok (.iload_n 1, 1) := by decide +kernel
theorem dX5_ring_95 : decode cX5_ring 95 = .ok (.bipush 8, 2) := by decide +kernel
theorem dX5_ring_97 : decode cX5_ring 97 = .ok (.iconst 4, 1) := by decide +kernel
theorem dX5_ring_98 : decode cX5_ring 98 = .ok (.invokevirtual 91, 3) := by decide +kernel
theorem dX5_ring_101 : decode cX5_ring 101 = .ok (.aload_n 0, 1) := by decide +kernel
theorem dX5_ring_102 : decode cX5_ring 102 = .ok (.iload_n 3, 1) := by decide +kernel
theorem dX5_ring_103 : decode cX5_ring 103 = .ok (.iconst 0, 1) := by decide +kernel
theorem dX5_ring_104 : decode cX5_ring 104 = .ok (.iconst 0, 1) := by decide +kernel
theorem dX5_ring_105 : decode cX5_ring 105 = .ok (.invokevirtual 61, 3) := by decide +kernel
theorem dX5_ring_108 : decode cX5_ring 108 = .ok (.return_, 1) := by decide +kernel
theorem dX5_talk_0 : decode cX5_talk 0 = .ok (.aload_n 0, 1) := by decide +kernel
theorem dX5_talk_1 : decode cX5_talk 1 = .ok (.iload_n 1, 1) := by decide +kernel
theorem dX5_talk_2 : decode cX5_talk 2 = .ok (.iconst 2, 1) := by decide +kernel
theorem dX5_talk_3 : decode cX5_talk 3 = .ok (.invokevirtual 41, 3) := by decide +kernel
theorem dX5_talk_6 : decode cX5_talk 6 = .ok (.istore_n 2, 1) := by decide +kernel
theorem dX5_talk_7 : decode cX5_talk 7 = .ok (.aload_n 0, 1) := by decide +kernel
theorem dX5_talk_8 : decode cX5_talk 8 = .ok (.iload_n 1, 1) := by decide +kernel
theorem dX5_talk_9 : decode cX5_talk 9 = .ok (.bipush 9, 2) := by decide +kernel
theorem dX5_talk_11 : decode cX5_talk 11 = .ok (.invokevirtual 41, 3) := by decide +kernel
theorem dX5_talk_14 : decode cX5_talk 14 = .ok (.istore_n 3, 1) := by decide +kernel
theorem dX5_talk_15 : decode cX5_talk 15 = .ok (.aload_n 0, 1) := by decide +kernel
theorem dX5_talk_16 : decode cX5_talk 16 = .ok (.iload_n 3, 1) := by decide +kernel
theorem dX5_talk_17 : decode cX5_talk 17 = .ok (.iconst 1, 1) := by decide +kernel
theorem dX5_talk_18 : decode cX5_talk 18 = .ok (.invokevirtual 67, 3) := by decide +kernel
theorem dX5_talk_21 : decode cX5_talk 21 = .ok (.iconst 1, 1) := by decide +kernel
theorem dX5_talk_22 : decode cX5_talk 22 = .ok (.if_icmp .ne 14, 3) := by decide +kernel
theorem dX5_talk_25 : decode cX5_talk 25 = .ok (.aload_n 0, 1) := by decide +kernel
theorem dX5_talk_26 : decode cX5_talk 26 = .ok (.iload_n 1, 1) := by decide +kernel
theorem dX5_talk_27 : decode cX5_talk 27 = .ok (.bipush 8, 2) := by decide +kernel
theorem dX5_talk_29 : decode cX5_talk 29 = .ok (.iconst 0, 1) := by decide +kernel
theorem dX5_talk_30 : decode cX5_talk 30 = .ok (.invokevirtual 45, 3) := by decide +kernel
theorem dX5_talk_33 : decode cX5_talk 33 = .ok (.goto 44, 3) := by decide +kernel
theorem dX5_talk_36 : decode cX5_talk 36 = .ok (.aload_n 0, 1) := by decide +kernel
theorem dX5_talk_37 : decode cX5_talk 37 = .ok (.iload_n 1, 1) := by decide +kernel
theorem dX5_talk_38 : decode cX5_talk 38 = .ok (.bipush 8, 2) := by decide +kernel
theorem dX5_talk_40 : decode cX5_talk 40 = .ok (.aload_n 0, 1) := by decide +kernel
theorem dX5_talk_41 : decode cX5_talk 41 = .ok (.iconst 3, 1) := by decide +kernel
theorem dX5_talk_42 : decode cX5_talk 42 = .ok (.invokevirtual 53, 3) := by decide +kernel
theorem dX5_talk_45 : decode cX5_talk 45 = .ok (.invokevirtual 85, 3) := by decide +kernel
theorem dX5_talk_48 : decode cX5_talk 48 = .ok (.ifCond .eq 29, 3) := by decide +kernel
theorem dX5_talk_51 : decode cX5_talk 51 = .ok (.aload_n 0, 1) := by decide +kernel
theorem dX5_talk_52 : decode cX5_talk 52 = .ok (.iload_n 1, 1) := by decide +kernel
theorem dX5_talk_53 : decode cX5_talk 53 = .ok (.invokevirtual 37, 3) := by decide +kernel
theorem dX5_talk_56 : decode cX5_talk 56 = .ok (.aload_n 0, 1) := by decide +kernel
theorem dX5_talk_57 : decode cX5_talk 57 = .ok (.iload_n 2, 1) := by decide +kernel
theorem dX5_talk_58 : decode cX5_talk 58 = .ok (.invokevirtual 76, 3) := by decide +kernel
theorem dX5_talk_61 : decode cX5_talk 61 = .ok (.aload_n 0, 1) := by decide +kernel
theorem dX5_talk_62 : decode cX5_talk 62 = .ok (.iload_n 2, 1) := by decide +kernel
theorem dX5_talk_63 : decode cX5_talk 63 = .ok (.iconst 3, 1) := by decide +kernel
theorem dX5_talk_64 : decode cX5_talk 64 = .ok (.bipush 6, 2) := by decide +kernel
theorem dX5_talk_66 : decode cX5_talk 66 = .ok (.invokevirtual 61, 3) := by decide +kernel
theorem dX5_talk_69 : decode cX5_talk 69 = .ok (.aload_n 0, 1) := by decide +kernel
theorem dX5_talk_70 : decode cX5_talk 70 = .ok (.iload_n 3, 1) := by decide +kernel
theorem dX5_talk_71 : decode cX5_talk 71 = .ok (.iconst 0, 1) := by decide +kernel
theorem dX5_talk_72 : decode cX5_talk 72 = .ok (.iconst 0, 1) := by decide +kernel
theorem dX5_talk_73 : decode cX5_talk 73 = .ok (.invokevirtual 61, 3) := by decide +kernel
theorem dX5_talk_76 : decode cX5_talk 76 = .ok (.return_, 1) := by decide +kernel
theorem dX5_talk_77 : decode cX5_talk 77 = .ok (.aload_n 0, 1) := by decide +kernel
theorem dX5_talk_78 : decode cX5_talk 78 = .ok (.iload_n 1, 1) := by decide +kernel
theorem dX5_talk_79 : decode cX5_talk 79 = .ok (.bipush 7, 2) := by decide +kernel
theorem dX5_talk_81 : decode cX5_talk 81 = .ok (.aload_n 0, 1) := by decide +kernel
theorem dX5_talk_82 : decode cX5_talk 82 = .ok (.iload_n 1, 1) := by decide +kernel
theorem dX5_talk_83 : decode cX5_talk 83 = .ok (.bipush 7, 2) := by decide +kernel
theorem dX5_talk_85 : decode cX5_talk 85 = .ok (.invokevirtual 41, 3) := by decide +kernel
theorem dX5_talk_88 : decode cX5_talk 88 = .ok (.iconst 1, 1) := by decide +kernel
theorem dX5_talk_89 : decode cX5_talk 89 = .ok (.iadd, 1) := by decide +kernel
theorem dX5_talk_90 : decode cX5_talk 90 = .ok (.invokevirtual 45, 3) := by decide +kernel
theorem dX5_talk_93 : decode cX5_talk 93 = .ok (.aload_n 0, 1) := by decide +kernel
theorem dX5_talk_94 : decode cX5_talk 94 = .ok (.iload_n 1, 1) := by decide +kernel
theorem dX5_talk_95 : decode cX5_talk 95 = .ok (.bipush 7, 2) := by decide +kernel
theorem dX5_talk_97 : decode cX5_talk 97 = .ok (.invokevirtual 41, 3) := by decide +kernel
theorem dX5_talk_100 : decode cX5_talk 100 = .ok (.aload_n 0, 1) := by decide +kernel
theorem dX5_talk_101 : decode cX5_talk 101 = .ok (.iconst 2, 1) := by decide +kernel
theorem dX5_talk_102 : decode cX5_talk 102 = .ok (.invokevirtual 53, 3) := by decide +kernel
theorem dX5_talk_105 : decode cX5_talk 105 = .ok (.irem, 1) := by decide +kernel
theorem dX5_talk_106 : decode cX5_talk 106 = .ok (.ifCond .ne 8, 3) := by decide +kernel
theorem dX5_talk_109 : decode cX5_talk 109 = .ok (.aload_n 0, 1) := by decide +kernel
theorem dX5_talk_110 : decode cX5_talk 110 = .ok (.iload_n 2, 1) := by decide +kernel
theorem dX5_talk_111 : decode cX5_talk 111 = .ok (.invokevirtual 100, 3) := by decide +kernel
theorem dX5_talk_114 : decode cX5_talk 114 = .ok (.return_, 1) := by decide +kernel
theorem dX5_soundOn_0 : decode cX5_soundOn 0 = .ok (.aload_n 0, 1) := by decide +kernel
theorem dX5_soundOn_1 : decode cX5_soundOn 1 = .ok (.iload_n 1, 1) := by decide +kernel
theorem dX5_soundOn_2 : decode cX5_soundOn 2 = .ok (.iconst 2, 1) := by decide +kernel
theorem dX5_soundOn_3 : decode cX5_soundOn 3 = .ok (.invokevirtual 41, 3) := by decide +kernel
theorem dX5_soundOn_6 : decode cX5_soundOn 6 = .ok (.istore_n 2, 1) := by decide +kernel
theorem dX5_soundOn_7 : decode cX5_soundOn 7 = .ok (.aload_n 0, 1) := by decide +kernel
theorem dX5_soundOn_8 : decode cX5_soundOn 8 = .ok (.iload_n 1, 1) := by decide +kernel
theorem dX5_soundOn_9 : decode cX5_soundOn 9 = .ok (.bipush 7, 2) := by decide +kernel
theorem dX5_soundOn_11 : decode cX5_soundOn 11 = .ok (.aload_n 0, 1) := by decide +kernel
theorem dX5_soundOn_12 : decode cX5_soundOn 12 = .ok (.iconst 0, 1) := by decide +kernel
theorem dX5_soundOn_13 : decode cX5_soundOn 13 = .ok (.invokevirtual 53, 3) := by decide +kernel
theorem dX5_soundOn_16 : decode cX5_soundOn 16 = .ok (.invokevirtual 85, 3) := by decide +kernel
theorem dX5_soundOn_19 : decode cX5_soundOn 19 = .ok (.ifCond .eq 13, 3) := by decide +kernel
theorem dX5_soundOn_22 : decode cX5_soundOn 22 = .ok (.aload_n 0, 1) := by decide +kernel
theorem dX5_soundOn_23 : decode cX5_soundOn 23 = .ok (.iload_n 1, 1) := by decide +kernel
theorem dX5_soundOn_24 : decode cX5_soundOn 24 = .ok (.invokevirtual 37, 3) := by decide +kernel
theorem dX5_soundOn_27 : decode cX5_soundOn 27 = .ok (.aload_n 0, 1) := by decide +kernel
theorem dX5_soundOn_28 : decode cX5_soundOn 28 = .ok (.iload_n 2, 1) := by decide +kernel
theorem dX5_soundOn_29 : decode cX5_soundOn 29 = .ok (.invokevirtual 76, 3) := by decide +kernel
theorem dX5_soundOn_32 : decode cX5_soundOn 32 = .ok (.return_, 1) := by decide +kernel
theorem dX5_stepFinder_0 : decode cX5_stepFinder 0 = .ok (.aload_n 0, 1) := by decide +kernel
theorem dX5_stepFinder_1 : decode cX5_stepFinder 1 = .ok (.iload_n 1, 1) := by decide +kernel
theorem dX5_stepFinder_2 : decode cX5_stepFinder 2 = .ok (.iconst 0, 1) := by decide +kernel
theorem dX5_stepFinder_3 : decode cX5_stepFinder 3 = .ok (.invokevirtual 41, 3) := by decide +kernel
theorem dX5_stepFinder_6 : decode cX5_stepFinder 6 = .ok (.tableswitch 114 1 9 #[50, 58, 66, 74, 58, 82, 90, 98, 106], 50) := by decide +kernel
theorem dX5_stepFinder_56 : decode cX5_stepFinder 56 = .ok (.aload_n 0, 1) := by decide +kernel
theorem dX5_stepFinder_57 : decode cX5_stepFinder 57 = .ok (.iload_n 1, 1) := by decide +kernel
theorem dX5_stepFinder_58 : decode cX5_stepFinder 58 = .ok (.invokevirtual 103, 3) := by decide +kernel
theorem dX5_stepFinder_61 : decode cX5_stepFinder 61 = .ok (.goto 59, 3) := by decide +kernel
theorem dX5_stepFinder_64 : decode cX5_stepFinder 64 = .ok (.aload_n 0, 1) := by decide +kernel
theorem dX5_stepFinder_65 : decode cX5_stepFinder 65 = .ok (.iload_n 1, 1) := by decide +kernel
theorem dX5_stepFinder_66 : decode cX5_stepFinder 66 = .ok (.invokevirtual 106, 3) := by decide +kernel
theorem dX5_stepFinder_69 : decode cX5_stepFinder 69 = .ok (.goto 51, 3) := by decide +kernel
theorem dX5_stepFinder_72 : decode cX5_stepFinder 72 = .ok (.aload_n 0, 1) := by decide +kernel
theorem dX5_stepFinder_73 : decode cX5_stepFinder 73 = .ok (.iload_n 1, 1) := by decide +kernel
theorem dX5_stepFinder_74 : decode cX5_stepFinder 74 = .ok (.invokevirtual 109, 3) := by decide +kernel
theorem dX5_stepFinder_77 : decode cX5_stepFinder 77 = .ok (.goto 43, 3) := by decide +kernel
theorem dX5_stepFinder_80 : decode cX5_stepFinder 80 = .ok (.aload_n 0, 1) := by decide +kernel
theorem dX5_stepFinder_81 : decode cX5_stepFinder 81 = .ok (.iload_n 1, 1) := by decide +kernel
theorem dX5_stepFinder_82 : decode cX5_stepFinder 82 = .ok (.invokevirtual 112, 3) := by decide +kernel
theorem dX5_stepFinder_85 : decode cX5_stepFinder 85 = .ok (.goto 35, 3) := by decide +kernel
theorem dX5_stepFinder_88 : decode cX5_stepFinder 88 = .ok (.aload_n 0, 1) := by decide +kernel
theorem dX5_stepFinder_89 : decode cX5_stepFinder 89 = .ok (.iload_n 1, 1) := by decide +kernel
theorem dX5_stepFinder_90 : decode cX5_stepFinder 90 = .ok (.invokevirtual 115, 3) := by decide +kernel
theorem dX5_stepFinder_93 : decode cX5_stepFinder 93 = .ok (.goto 27, 3) := by decide +kernel
theorem dX5_stepFinder_96 : decode cX5_stepFinder 96 = .ok (.aload_n 0, 1) := by decide +kernel
theorem dX5_stepFinder_97 : decode cX5_stepFinder 97 = .ok (.iload_n 1, 1) := by decide +kernel
theorem dX5_stepFinder_98 : decode cX5_stepFinder 98 = .ok (.invokevirtual 118, 3) := by decide +kernel
theorem dX5_stepFinder_101 : decode cX5_stepFinder 101 = .ok (.goto 19, 3) := by decide +kernel
theorem dX5_stepFinder_104 : decode cX5_stepFinder 104 = .ok (.aload_n 0, 1) := by decide +kernel
theorem dX5_stepFinder_105 : decode cX5_stepFinder 105 = .ok (.iload_n 1, 1) := by decide +kernel
theorem dX5_stepFinder_106 : decode cX5_stepFinder 106 = .ok (.invokevirtual 121, 3) := by decide +kernel
theorem dX5_stepFinder_109 : decode cX5_stepFinder 109 = .ok (.goto 11, 3) := by decide +kernel
theorem dX5_stepFinder_112 : decode cX5_stepFinder 112 = .ok (.aload_n 0, 1) := by decide +kernel
theorem dX5_stepFinder_113 : decode cX5_stepFinder 113 = .ok (.iload_n 1, 1) := by decide +kernel
theorem dX5_stepFinder_114 : decode cX5_stepFinder 114 = .ok (.invokevirtual 124, 3) := by decide +kernel
theorem dX5_stepFinder_117 : decode cX5_stepFinder 117 = .ok (.goto 3, 3) := by decide +kernel
theorem dX5_stepFinder_120 : decode cX5_stepFinder 120 = .ok (.return_, 1) := by decide +kernel
theorem dX5_isQueued_0 : decode cX5_isQueued 0 = .ok (.aload_n 0, 1) := by decide +kernel
theorem dX5_isQueued_1 : decode cX5_isQueued 1 = .ok (.iload_n 1, 1) := by decide +kernel
theorem dX5_isQueued_2 : decode cX5_isQueued 2 = .ok (.iconst 0, 1) := by decide +kernel
theorem dX5_isQueued_3 : decode cX5_isQueued 3 = .ok (.invokevirtual 67, 3) := by decide +kernel
theorem dX5_isQueued_6 : decode cX5_isQueued 6 = .ok (.iconst 1, 1) := by decide +kernel
theorem dX5_isQueued_7 : decode cX5_isQueued 7 = .ok (.if_icmp .ne 15, 3) := by decide +kernel
theorem dX5_isQueued_10 : decode cX5_isQueued 10 = .ok (.aload_n 0, 1) := by decide +kernel
theorem dX5_isQueued_11 : decode cX5_isQueued 11 = .ok (.iload_n 1, 1) := by decide +kernel
theorem dX5_isQueued_12 : decode cX5_isQueued 12 = .ok (.invokevirtual 73, 3) := by decide +kernel
theorem dX5_isQueued_15 : decode cX5_isQueued 15 = .ok (.ifCond .ge 7, 3) := by decide +kernel
theorem dX5_isQueued_18 : decode cX5_isQueued 18 = .ok (.iconst 1, 1) := by decide +kernel
theorem dX5_isQueued_19 : decode cX5_isQueued 19 = .ok (.goto 4, 3) := by decide +kernel
theorem dX5_isQueued_22 : decode cX5_isQueued 22 = .ok (.iconst 0, 1) := by decide +kernel
theorem dX5_isQueued_23 : decode cX5_isQueued 23 = .ok (.ireturn, 1) := by decide +kernel
theorem dX5_allot_0 : decode cX5_allot 0 = .ok (.bipush (-6), 2) := by decide +kernel
theorem dX5_allot_2 : decode cX5_allot 2 = .ok (.istore_n 1, 1) := by decide +kernel
theorem dX5_allot_3 : decode cX5_allot 3 = .ok (.iconst 0, 1) := by decide +kernel
theorem dX5_allot_4 : decode cX5_allot 4 = .ok (.istore_n 2, 1) := by decide +kernel
theorem dX5_allot_5 : decode cX5_allot 5 = .ok (.iload_n 2, 1) := by decide +kernel
theorem dX5_allot_6 : decode cX5_allot 6 = .ok (.bipush 16, 2) := by decide +kernel
theorem dX5_allot_8 : decode cX5_allot 8 = .ok (.if_icmp .ge 42, 3) := by decide +kernel
theorem dX5_allot_11 : decode cX5_allot 11 = .ok (.aload_n 0, 1) := by decide +kernel
theorem dX5_allot_12 : decode cX5_allot 12 = .ok (.iload_n 2, 1) := by decide +kernel
theorem dX5_allot_13 : decode cX5_allot 13 = .ok (.invokevirtual 127, 3) := by decide +kernel
theorem dX5_allot_16 : decode cX5_allot 16 = .ok (.ifCond .eq 26, 3) := by decide +kernel
theorem dX5_allot_19 : decode cX5_allot 19 = .ok (.iload_n 1, 1) := by decide +kernel
theorem dX5_allot_20 : decode cX5_allot 20 = .ok (.ifCond .lt 18, 3) := by decide +kernel
theorem dX5_allot_23 : decode cX5_allot 23 = .ok (.aload_n 0, 1) := by decide +kernel
theorem dX5_allot_24 : decode cX5_allot 24 = .ok (.iload_n 2, 1) := by decide +kernel
theorem dX5_allot_25 : decode cX5_allot 25 = .ok (.iconst 4, 1) := by decide +kernel
theorem dX5_allot_26 : decode cX5_allot 26 = .ok (.invokevirtual 67, 3) := by decide +kernel
theorem dX5_allot_29 : decode cX5_allot 29 = .ok (.aload_n 0, 1) := by decide +kernel
theorem dX5_allot_30 : decode cX5_allot 30 = .ok (.iload_n 1, 1) := by decide +kernel
theorem dX5_allot_31 : decode cX5_allot 31 = .ok (.iconst 4, 1) := by decide +kernel
theorem dX5_allot_32 : decode cX5_allot 32 = .ok (.invokevirtual 67, 3) := by decide +kernel
theorem dX5_allot_35 : decode cX5_allot 35 = .ok (.if_icmp .ge 7, 3) := by decide +kernel
theorem dX5_allot_38 : decode cX5_allot 38 = .ok (.iload_n 2, 1) := by decide +kernel
theorem dX5_allot_39 : decode cX5_allot 39 = .ok (.goto 4, 3) := by decide +kernel
theorem dX5_allot_42 : decode cX5_allot 42 = .ok (.iload_n 1, 1) := by decide +kernel
theorem dX5_allot_43 : decode cX5_allot 43 = .ok (.istore_n 1, 1) := by decide +kernel
theorem dX5_allot_44 : decode cX5_allot 44 = .ok (.iinc 2 1, 3) := by decide +kernel
theorem dX5_allot_47 : decode cX5_allot 47 = .ok (.goto (-42), 3) := by decide +kernel
theorem dX5_allot_50 : decode cX5_allot 50 = .ok (.aload_n 0, 1) := by decide +kernel
theorem dX5_allot_51 : decode cX5_allot 51 = .ok (.getfield 7, 3) := by decide +kernel
theorem dX5_allot_54 : decode cX5_allot 54 = .ok (.iconst 3, 1) := by decide +kernel
theorem dX5_allot_55 : decode cX5_allot 55 = .ok (.iaload, 1) := by decide +kernel
theorem dX5_allot_56 : decode cX5_allot 56 = .ok (.ifCond .ge 7, 3) := by decide +kernel
theorem dX5_allot_59 : decode cX5_allot 59 = .ok (.iconst 0, 1) := by decide +kernel
theorem dX5_allot_60 : decode cX5_allot 60 = .ok (.goto 11, 3) := by decide +kernel
theorem dX5_allot_63 : decode cX5_allot 63 = .ok (.aload_n 0, 1) := by decide +kernel
theorem dX5_allot_64 : decode cX5_allot 64 = .ok (.getfield 7, 3) := by decide +kernel
theorem dX5_allot_67 : decode cX5_allot 67 = .ok (.iconst 3, 1) := by decide +kernel
theorem dX5_allot_68 : decode cX5_allot 68 = .ok (.iaload, 1) := by decide +kernel
theorem dX5_allot_69 : decode cX5_allot 69 = .ok (.iconst 1, 1) := by decide +kernel
theorem dX5_allot_70 : decode cX5_allot 70 = .ok (.iadd, 1) := by decide +kernel
theorem dX5_allot_71 : decode cX5_allot 71 = .ok (.istore_n 2, 1) := by decide +kernel
theorem dX5_allot_72 : decode cX5_allot 72 = .ok (.bipush (-6), 2) := by decide +kernel
theorem dX5_allot_74 : decode cX5_allot 74 = .ok (.istore_n 3, 1) := by decide +kernel
theorem dX5_allot_75 : decode cX5_allot 75 = .ok (.aload_n 0, 1) := by decide +kernel
theorem dX5_allot_76 : decode cX5_allot 76 = .ok (.getfield 7, 3) := by decide +kernel
theorem dX5_allot_79 : decode cX5_allot 79 = .ok (.iconst 1, 1) := by decide +kernel
theorem dX5_allot_80 : decode cX5_allot 80 = .ok (.iaload, 1) := by decide +kernel
theorem dX5_allot_81 : decode cX5_allot 81 = .ok (.iconst 1, 1) := by decide +kernel
theorem dX5_allot_82 : decode cX5_allot 82 = .ok (.isub, 1) := by decide +kernel
theorem dX5_allot_83 : decode cX5_allot 83 = .ok (.istore 4, 2) := by decide +kernel
theorem dX5_allot_85 : decode cX5_allot 85 = .ok (.iload 4, 2) := by decide +kernel
theorem dX5_allot_87 : decode cX5_allot 87 = .ok (.ifCond .lt 39, 3) := by decide +kernel
theorem dX5_allot_90 : decode cX5_allot 90 = .ok (.iload_n 2, 1) := by decide +kernel
theorem dX5_allot_91 : decode cX5_allot 91 = .ok (.iload 4, 2) := by decide +kernel
theorem dX5_allot_93 : decode cX5_allot 93 = .ok (.iadd, 1) := by decide +kernel
theorem dX5_allot_94 : decode cX5_allot 94 = .ok (.aload_n 0, 1) := by decide +kernel
theorem dX5_allot_95 : decode cX5_allot 95 = .ok (.getfield 7, 3) := by decide +kernel
theorem dX5_allot_98 : decode cX5_allot 98 = .ok (.iconst 1, 1) := by decide +kernel
theorem dX5_allot_99 : decode cX5_allot 99 = .ok (.iaload, 1) := by decide +kernel
theorem dX5_allot_100 : decode cX5_allot 100 = .ok (.irem, 1) := by decide +kernel
theorem dX5_allot_101 : decode cX5_allot 101 = .ok (.istore 5, 2) := by decide +kernel
theorem dX5_allot_103 : decode cX5_allot 103 = .ok (.aload_n 0, 1) := by decide +kernel
theorem dX5_allot_104 : decode cX5_allot 104 = .ok (.iload 5, 2) := by decide +kernel
theorem dX5_allot_106 : decode cX5_allot 106 = .ok (.iconst 0, 1) := by decide +kernel
theorem dX5_allot_107 : decode cX5_allot 107 = .ok (.invokevirtual 41, 3) := by decide +kernel
theorem dX5_allot_110 : decode cX5_allot 110 = .ok (.ifCond .ne 8, 3) := by decide +kernel
theorem dX5_allot_113 : decode cX5_allot 113 = .ok (.iload 5, 2) := by decide +kernel
theorem dX5_allot_115 : decode cX5_allot 115 = .ok (.goto 4, 3) := by decide +kernel
theorem dX5_allot_118 : decode cX5_allot 118 = .ok (.iload_n 3, 1) := by decide +kernel
theorem dX5_allot_119 : decode cX5_allot 119 = .ok (.istore_n 3, 1) := by decide +kernel
theorem dX5_allot_120 : decode cX5_allot 120 = .ok (.iinc 4 (-1), 3) := by decide +kernel
theorem dX5_allot_123 : decode cX5_allot 123 = .ok (.goto (-38), 3) := by decide +kernel
theorem dX5_allot_126 : decode cX5_allot 126 = .ok (.iload_n 1, 1) := by decide +kernel
theorem dX5_allot_127 : decode cX5_allot 127 = .ok (.ifCond .lt 28, 3) := by decide +kernel
theorem dX5_allot_130 : decode cX5_allot 130 = .ok (.iload_n 3, 1) := by decide +kernel
theorem dX5_allot_131 : decode cX5_allot 131 = .ok (.ifCond .lt 24, 3) := by decide +kernel
theorem dX5_allot_134 : decode cX5_allot 134 = .ok (.aload_n 0, 1) := by decide +kernel
theorem dX5_allot_135 : decode cX5_allot 135 = .ok (.iload_n 3, 1) := by decide +kernel
theorem dX5_allot_136 : decode cX5_allot 136 = .ok (.iconst 0, 1) := by decide +kernel
theorem dX5_allot_137 : decode cX5_allot 137 = .ok (.iconst 1, 1) := by decide +kernel
theorem dX5_allot_138 : decode cX5_allot 138 = .ok (.invokevirtual 45, 3) := by decide +kernel
theorem dX5_allot_141 : decode cX5_allot 141 = .ok (.aload_n 0, 1) := by decide +kernel
theorem dX5_allot_142 : decode cX5_allot 142 = .ok (.iload_n 3, 1) := by decide +kernel
theorem dX5_allot_143 : decode cX5_allot 143 = .ok (.iconst 2, 1) := by decide +kernel
theorem dX5_allot_144 : decode cX5_allot 144 = .ok (.iload_n 1, 1) := by decide +kernel
theorem dX5_allot_145 : decode cX5_allot 145 = .ok (.invokevirtual 45, 3) := by decide +kernel
theorem dX5_allot_148 : decode cX5_allot 148 = .ok (.aload_n 0, 1) := by decide +kernel
theorem dX5_allot_149 : decode cX5_allot 149 = .ok (.getfield 7, 3) := by decide +kernel
theorem dX5_allot_152 : decode cX5_allot 152 = .ok (.iconst 3, 1) := by decide +kernel
theorem dX5_allot_153 : decode cX5_allot 153 = .ok (.iload_n 3, 1) := by decide +kernel
theorem dX5_allot_154 : decode cX5_allot 154 = .ok (.iastore, 1) := by decide +kernel
theorem dX5_allot_155 : decode cX5_allot 155 = .ok (.return_, 1) := by decide +kernel
theorem dX5_makeTick_0 : decode cX5_makeTick 0 = .ok (.iconst 0, 1) := by decide +kernel
theorem dX5_makeTick_1 : decode cX5_makeTick 1 = .ok (.istore_n 1, 1) := by decide +kernel
theorem dX5_makeTick_2 : decode cX5_makeTick 2 = .ok (.iload_n 1, 1) := by decide +kernel
theorem dX5_makeTick_3 : decode cX5_makeTick 3 = .ok (.aload_n 0, 1) := by decide +kernel
theorem dX5_makeTick_4 : decode cX5_makeTick 4 = .ok (.getfield 7, 3) := by decide +kernel
theorem dX5_makeTick_7 : decode cX5_makeTick 7 = .ok (.iconst 1, 1) := by decide +kernel
theorem dX5_makeTick_8 : decode cX5_makeTick 8 = .ok (.iaload, 1) := by decide +kernel
theorem dX5_makeTick_9 : decode cX5_makeTick 9 = .ok (.if_icmp .ge 14, 3) := by decide +kernel
theorem dX5_makeTick_12 : decode cX5_makeTick 12 = .ok (.aload_n 0, 1) := by decide +kernel
theorem dX5_makeTick_13 : decode cX5_makeTick 13 = .ok (.iload_n 1, 1) := by decide +kernel
theorem dX5_makeTick_14 : decode cX5_makeTick 14 = .ok (.invokevirtual 130, 3) := by decide +kernel
theorem dX5_makeTick_17 : decode cX5_makeTick 17 = .ok (.iinc 1 1, 3) := by decide +kernel
theorem dX5_makeTick_20 : decode cX5_makeTick 20 = .ok (.goto (-18), 3) := by decide +kernel
theorem dX5_makeTick_23 : decode cX5_makeTick 23 = .ok (.aload_n 0, 1) := by decide +kernel
theorem dX5_makeTick_24 : decode cX5_makeTick 24 = .ok (.invokevirtual 133, 3) := by decide +kernel
theorem dX5_makeTick_27 : decode cX5_makeTick 27 = .ok (.iconst 0, 1) := by decide +kernel
theorem dX5_makeTick_28 : decode cX5_makeTick 28 = .ok (.istore_n 1, 1) := by decide +kernel
theorem dX5_makeTick_29 : decode cX5_makeTick 29 = .ok (.iload_n 1, 1) := by decide +kernel
theorem dX5_makeTick_30 : decode cX5_makeTick 30 = .ok (.bipush 16, 2) := by decide +kernel
theorem dX5_makeTick_32 : decode cX5_makeTick 32 = .ok (.if_icmp .ge 61, 3) := by decide +kernel
theorem dX5_makeTick_35 : decode cX5_makeTick 35 = .ok (.aload_n 0, 1) := by decide +kernel
theorem dX5_makeTick_36 : decode cX5_makeTick 36 = .ok (.iload_n 1, 1) := by decide +kernel
theorem dX5_makeTick_37 : decode cX5_makeTick 37 = .ok (.iconst 0, 1) := by decide +kernel
theorem dX5_makeTick_38 : decode cX5_makeTick 38 = .ok (.invokevirtual 67, 3) := by decide +kernel
theorem dX5_makeTick_41 : decode cX5_makeTick 41 = .ok (.bipush 10, 2) := by decide +kernel
theorem dX5_makeTick_43 : decode cX5_makeTick 43 = .ok (.if_icmp .ne 44, 3) := by decide +kernel
theorem dX5_makeTick_46 : decode cX5_makeTick 46 = .ok (.aload_n 0, 1) := by decide +kernel
theorem dX5_makeTick_47 : decode cX5_makeTick 47 = .ok (.iload_n 1, 1) := by decide +kernel
theorem dX5_makeTick_48 : decode cX5_makeTick 48 = .ok (.iconst 5, 1) := by decide +kernel
theorem dX5_makeTick_49 : decode cX5_makeTick 49 = .ok (.aload_n 0, 1) := by decide +kernel
theorem dX5_makeTick_50 : decode cX5_makeTick 50 = .ok (.iload_n 1, 1) := by decide +kernel
theorem dX5_makeTick_51 : decode cX5_makeTick 51 = .ok (.iconst 5, 1) := by decide +kernel
theorem dX5_makeTick_52 : decode cX5_makeTick 52 = .ok (.invokevirtual 67, 3) := by decide +kernel
theorem dX5_makeTick_55 : decode cX5_makeTick 55 = .ok (.iconst 1, 1) := by decide +kernel
theorem dX5_makeTick_56 : decode cX5_makeTick 56 = .ok (.iadd, 1) := by decide +kernel
theorem dX5_makeTick_57 : decode cX5_makeTick 57 = .ok (.invokevirtual 61, 3) := by decide +kernel
theorem dX5_makeTick_60 : decode cX5_makeTick 60 = .ok (.aload_n 0, 1) := by decide +kernel
theorem dX5_makeTick_61 : decode cX5_makeTick 61 = .ok (.iload_n 1, 1) := by decide +kernel
theorem dX5_makeTick_62 : decode cX5_makeTick 62 = .ok (.iconst 0, 1) := by decide +kernel
theorem dX5_makeTick_63 : decode cX5_makeTick 63 = .ok (.aload_n 0, 1) := by decide +kernel
theorem dX5_makeTick_64 : decode cX5_makeTick 64 = .ok (.iload_n 1, 1) := by decide +kernel
theorem dX5_makeTick_65 : decode cX5_makeTick 65 = .ok (.iconst 5, 1) := by decide +kernel
theorem dX5_makeTick_66 : decode cX5_makeTick 66 = .ok (.invokevirtual 67, 3) := by decide +kernel
theorem dX5_makeTick_69 : decode cX5_makeTick 69 = .ok (.aload_n 0, 1) := by decide +kernel
theorem dX5_makeTick_70 : decode cX5_makeTick 70 = .ok (.iconst 4, 1) := by decide +kernel
theorem dX5_makeTick_71 : decode cX5_makeTick 71 = .ok (.invokevirtual 53, 3) := by decide +kernel
theorem dX5_makeTick_74 : decode cX5_makeTick 74 = .ok (.if_icmp .lt 8, 3) := by decide +kernel
theorem dX5_makeTick_77 : decode cX5_makeTick 77 = .ok (.bipush 11, 2) := by decide +kernel
theorem dX5_makeTick_79 : decode cX5_makeTick 79 = .ok (.goto 5, 3) := by decide +kernel
theorem dX5_makeTick_82 : decode cX5_makeTick 82 = .ok (.bipush 10, 2) := by decide +kernel
theorem dX5_makeTick_84 : decode cX5_makeTick 84 = .ok (.invokevirtual 61, 3) := by decide +kernel
theorem dX5_makeTick_87 : decode cX5_makeTick 87 = .ok (.iinc 1 1, 3) := by decide +kernel
theorem dX5_makeTick_90 : decode cX5_makeTick 90 = .ok (.goto (-61), 3) := by decide +kernel
theorem dX5_makeTick_93 : decode cX5_makeTick 93 = .ok (.aload_n 0, 1) := by decide +kernel
theorem dX5_makeTick_94 : decode cX5_makeTick 94 = .ok (.getfield 7, 3) := by decide +kernel
theorem dX5_makeTick_97 : decode cX5_makeTick 97 = .ok (.iconst 0, 1) := by decide +kernel
theorem dX5_makeTick_98 : decode cX5_makeTick 98 = .ok (.dup2, 1) := by decide +kernel
theorem dX5_makeTick_99 : decode cX5_makeTick 99 = .ok (.iaload, 1) := by decide +kernel
theorem dX5_makeTick_100 : decode cX5_makeTick 100 = .ok (.iconst 1, 1) := by decide +kernel
theorem dX5_makeTick_101 : decode cX5_makeTick 101 = .ok (.iadd, 1) := by decide +kernel
theorem dX5_makeTick_102 : decode cX5_makeTick 102 = .ok (.iastore, 1) := by decide +kernel
theorem dX5_makeTick_103 : decode cX5_makeTick 103 = .ok (.return_, 1) := by decide +kernel
theorem dX5_tick_0 : decode cX5_tick 0 = .ok (.iload_n 1, 1) := by decide +kernel
theorem dX5_tick_1 : decode cX5_tick 1 = .ok (.iconst 1, 1) := by decide +kernel
theorem dX5_tick_2 : decode cX5_tick 2 = .ok (.sipush 1000, 3) := by decide +kernel
theorem dX5_tick_5 : decode cX5_tick 5 = .ok (.invokestatic 33, 3) := by decide +kernel
theorem dX5_tick_8 : decode cX5_tick 8 = .ok (.ifCond .ne 6, 3) := by decide +kernel
theorem dX5_tick_11 : decode cX5_tick 11 = .ok (.bipush (-2), 2) := by decide +kernel
theorem dX5_tick_13 : decode cX5_tick 13 = .ok (.ireturn, 1) := by decide +kernel
theorem dX5_tick_14 : decode cX5_tick 14 = .ok (.aload_n 0, 1) := by decide +kernel
theorem dX5_tick_15 : decode cX5_tick 15 = .ok (.getfield 7, 3) := by decide +kernel
theorem dX5_tick_18 : decode cX5_tick 18 = .ok (.iconst 0, 1) := by decide +kernel
theorem dX5_tick_19 : decode cX5_tick 19 = .ok (.iaload, 1) := by decide +kernel
theorem dX5_tick_20 : decode cX5_tick 20 = .ok (.iload_n 1, 1) := by decide +kernel
theorem dX5_tick_21 : decode cX5_tick 21 = .ok (.iadd, 1) := by decide +kernel
theorem dX5_tick_22 : decode cX5_tick 22 = .ok (.ldc 136, 2) := by decide +kernel
theorem dX5_tick_24 : decode cX5_tick 24 = .ok (.if_icmp .le 6, 3) := by decide +kernel
theorem dX5_tick_27 : decode cX5_tick 27 = .ok (.bipush (-5), 2) := by decide +kernel
theorem dX5_tick_29 : decode cX5_tick 29 = .ok (.ireturn, 1) := by decide +kernel
theorem dX5_tick_30 : decode cX5_tick 30 = .ok (.iconst 0, 1) := by decide +kernel
theorem dX5_tick_31 : decode cX5_tick 31 = .ok (.istore_n 2, 1) := by decide +kernel
theorem dX5_tick_32 : decode cX5_tick 32 = .ok (.iload_n 2, 1) := by decide +kernel
theorem dX5_tick_33 : decode cX5_tick 33 = .ok (.iload_n 1, 1) := by decide +kernel
theorem dX5_tick_34 : decode cX5_tick 34 = .ok (.if_icmp .ge 13, 3) := by decide +kernel
theorem dX5_tick_37 : decode cX5_tick 37 = .ok (.aload_n 0, 1) := by decide +kernel
theorem dX5_tick_38 : decode cX5_tick 38 = .ok (.invokevirtual 137, 3) := by decide +kernel
theorem dX5_tick_41 : decode cX5_tick 41 = .ok (.iinc 2 1, 3) := by decide +kernel
theorem dX5_tick_44 : decode cX5_tick 44 = .ok (.goto (-12), 3) := by decide +kernel
theorem dX5_tick_47 : decode cX5_tick 47 = .ok (.aload_n 0, 1) := by decide +kernel
theorem dX5_tick_48 : decode cX5_tick 48 = .ok (.getfield 7, 3) := by decide +kernel
theorem dX5_tick_51 : decode cX5_tick 51 = .ok (.iconst 0, 1) := by decide +kernel
theorem dX5_tick_52 : decode cX5_tick 52 = .ok (.iaload, 1) := by decide +kernel
theorem dX5_tick_53 : decode cX5_tick 53 = .ok (.ireturn, 1) := by decide +kernel
theorem dX5_pathOf_0 : decode cX5_pathOf 0 = .ok (.aload_n 0, 1) := by decide +kernel
theorem dX5_pathOf_1 : decode cX5_pathOf 1 = .ok (.iload_n 1, 1) := by decide +kernel
theorem dX5_pathOf_2 : decode cX5_pathOf 2 = .ok (.iconst 0, 1) := by decide +kernel
theorem dX5_pathOf_3 : decode cX5_pathOf 3 = .ok (.invokevirtual 67, 3) := by decide +kernel
theorem dX5_pathOf_6 : decode cX5_pathOf 6 = .ok (.iconst 5, 1) := by decide +kernel
theorem dX5_pathOf_7 : decode cX5_pathOf 7 = .ok (.iconst 5, 1) := by decide +kernel
theorem dX5_pathOf_8 : decode cX5_pathOf 8 = .ok (.invokestatic 33, 3) := by decide +kernel
theorem dX5_pathOf_11 : decode cX5_pathOf 11 = .ok (.ifCond .ne 14, 3) := by decide +kernel
theorem dX5_pathOf_14 : decode cX5_pathOf 14 = .ok (.aload_n 0, 1) := by decide +kernel
theorem dX5_pathOf_15 : decode cX5_pathOf 15 = .ok (.iload_n 1, 1) := by decide +kernel
theorem dX5_pathOf_16 : decode cX5_pathOf 16 = .ok (.iconst 0, 1) := by decide +kernel
theorem dX5_pathOf_17 : decode cX5_pathOf 17 = .ok (.invokevirtual 67, 3) := by decide +kernel
theorem dX5_pathOf_20 : decode cX5_pathOf 20 = .ok (.bipush 7, 2) := by decide +kernel
theorem dX5_pathOf_22 : decode cX5_pathOf 22 = .ok (.if_icmp .ne 11, 3) := by decide +kernel
theorem dX5_pathOf_25 : decode cX5_pathOf 25 = .ok (.aload_n 0, 1) := by decide +kernel
theorem dX5_pathOf_26 : decode cX5_pathOf 26 = .ok (.iload_n 1, 1) := by decide +kernel
theorem dX5_pathOf_27 : decode cX5_pathOf 27 = .ok (.invokevirtual 140, 3) := by decide +kernel
theorem dX5_pathOf_30 : decode cX5_pathOf 30 = .ok (.goto 8, 3) := by decide +kernel
theorem dX5_pathOf_33 : decode cX5_pathOf 33 = .ok (.aload_n 0, 1) := by decide +kernel
theorem dX5_pathOf_34 : decode cX5_pathOf 34 = .ok (.iload_n 1, 1) := by decide +kernel
theorem dX5_pathOf_35 : decode cX5_pathOf 35 = .ok (.invokevirtual 73, 3) := by decide +kernel
theorem dX5_pathOf_38 : decode cX5_pathOf 38 = .ok (.ireturn, 1) := by decide +kernel
theorem dX5_otherOf_0 : decode cX5_otherOf 0 = .ok (.aload_n 0, 1) := by decide +kernel
theorem dX5_otherOf_1 : decode cX5_otherOf 1 = .ok (.iload_n 1, 1) := by decide +kernel
theorem dX5_otherOf_2 : decode cX5_otherOf 2 = .ok (.iconst 0, 1) := by decide +kernel
theorem dX5_otherOf_3 : decode cX5_otherOf 3 = .ok (.invokevirtual 67, 3) := by decide +kernel
theorem dX5_otherOf_6 : decode cX5_otherOf 6 = .ok (.istore_n 2, 1) := by decide +kernel
theorem dX5_otherOf_7 : decode cX5_otherOf 7 = .ok (.iload_n 2, 1) := by decide +kernel
theorem dX5_otherOf_8 : decode cX5_otherOf 8 = .ok (.iconst 4, 1) := by decide +kernel
theorem dX5_otherOf_9 : decode cX5_otherOf 9 = .ok (.if_icmp .eq 9, 3) := by decide +kernel
theorem dX5_otherOf_12 : decode cX5_otherOf 12 = .ok (.iload_n 2, 1) := by decide +kernel
theorem dX5_otherOf_13 : decode cX5_otherOf 13 = .ok (.bipush 6, 2) := by decide +kernel
theorem dX5_otherOf_15 : decode cX5_otherOf 15 = .ok (.if_icmp .ne 15, 3) := by decide +kernel
theorem dX5_otherOf_18 : decode cX5_otherOf 18 = .ok (.aload_n 0, 1) := by decide +kernel
theorem dX5_otherOf_19 : decode cX5_otherOf 19 = .ok (.aload_n 0, 1) := by decide +kernel
theorem dX5_otherOf_20 : decode cX5_otherOf 20 = .ok (.iload_n 1, 1) := by decide +kernel
theorem dX5_otherOf_21 : decode cX5_otherOf 21 = .ok (.invokevirtual 73, 3) := by decide +kernel
theorem dX5_otherOf_24 : decode cX5_otherOf 24 = .ok (.bipush 9, 2) := by decide +kernel
theorem dX5_otherOf_26 : decode cX5_otherOf 26 = .ok (.invokevirtual 41, 3) := by decide +kernel
theorem dX5_otherOf_29 : decode cX5_otherOf 29 = .ok (.ireturn, 1) := by decide +kernel
theorem dX5_otherOf_30 : decode cX5_otherOf 30 = .ok (.iload_n 2, 1) := by decide +kernel
theorem dX5_otherOf_31 : decode cX5_otherOf 31 = .ok (.iconst 5, 1) := by decide +kernel
theorem dX5_otherOf_32 : decode cX5_otherOf 32 = .ok (.if_icmp .eq 9, 3) := by decide +kernel
theorem dX5_otherOf_35 : decode cX5_otherOf 35 = .ok (.iload_n 2, 1) := by decide +kernel
theorem dX5_otherOf_36 : decode cX5_otherOf 36 = .ok (.bipush 7, 2) := by decide +kernel
theorem dX5_otherOf_38 : decode cX5_otherOf 38 = .ok (.if_icmp .ne 16, 3) := by decide +kernel
theorem dX5_otherOf_41 : decode cX5_otherOf 41 = .ok (.aload_n 0, 1) := by decide +kernel
theorem dX5_otherOf_42 : decode cX5_otherOf 42 = .ok (.aload_n 0, 1) := by decide +kernel
theorem dX5_otherOf_43 : decode cX5_otherOf 43 = .ok (.iload_n 1, 1) := by decide +kernel
theorem dX5_otherOf_44 : decode cX5_otherOf 44 = .ok (.invokevirtual 140, 3) := by decide +kernel
theorem dX5_otherOf_47 : decode cX5_otherOf 47 = .ok (.iconst 2, 1) := by decide +kernel
theorem dX5_otherOf_48 : decode cX5_otherOf 48 = .ok (.invokevirtual 41, 3) := by decide +kernel
theorem dX5_otherOf_51 : decode cX5_otherOf 51 = .ok (.goto 5, 3) := by decide +kernel
theorem dX5_otherOf_54 : decode cX5_otherOf 54 = .ok (.bipush (-6), 2) := by decide +kernel
theorem dX5_otherOf_56 : decode cX5_otherOf 56 = .ok (.ireturn, 1) := by decide +kernel
theorem dX5_placeOf_0 : decode cX5_placeOf 0 = .ok (.aload_n 0, 1) := by decide +kernel
theorem dX5_placeOf_1 : decode cX5_placeOf 1 = .ok (.iload_n 1, 1) := by decide +kernel
theorem dX5_placeOf_2 : decode cX5_placeOf 2 = .ok (.invokevirtual 127, 3) := by decide +kernel
theorem dX5_placeOf_5 : decode cX5_placeOf 5 = .ok (.ifCond .ne 6, 3) := by decide +kernel
theorem dX5_placeOf_8 : decode cX5_placeOf 8 = .ok (.bipush (-6), 2) := by decide +kernel
theorem dX5_placeOf_10 : decode cX5_placeOf 10 = .ok (.ireturn, 1) := by decide +kernel
theorem dX5_placeOf_11 : decode cX5_placeOf 11 = .ok (.iconst 0, 1) := by decide +kernel
theorem dX5_placeOf_12 : decode cX5_placeOf 12 = .ok (.istore_n 2, 1) := by decide +kernel
theorem dX5_placeOf_13 : decode cX5_placeOf 13 = .ok (.iconst 0, 1) := by decide +kernel
theorem dX5_placeOf_14 : decode cX5_placeOf 14 = .ok (.istore_n 3, 1) := by decide +kernel
theorem dX5_placeOf_15 : decode cX5_placeOf 15 = .ok (.iload_n 3, 1) := by decide +kernel
theorem dX5_placeOf_16 : decode cX5_placeOf 16 = .ok (.bipush 16, 2) := by decide +kernel
theorem dX5_placeOf_18 : decode cX5_placeOf 18 = .ok (.if_icmp .ge 40, 3) := by decide +kernel
theorem dX5_placeOf_21 : decode cX5_placeOf 21 = .ok (.iload_n 2, 1) := by decide +kernel
theorem dX5_placeOf_22 : decode cX5_placeOf 22 = .ok (.aload_n 0, 1) := by decide +kernel
theorem dX5_placeOf_23 : decode cX5_placeOf 23 = .ok (.iload_n 3, 1) := by decide +kernel
theorem dX5_placeOf_24 : decode cX5_placeOf 24 = .ok (.invokevirtual 127, 3) := by decide +kernel
theorem dX5_placeOf_27 : decode cX5_placeOf 27 = .ok (.ifCond .eq 22, 3) := by decide +kernel
theorem dX5_placeOf_30 : decode cX5_placeOf 30 = .ok (.aload_n 0, 1) := by decide +kernel
theorem dX5_placeOf_31 : decode cX5_placeOf 31 = .ok (.iload_n 3, 1) := by decide +kernel
theorem dX5_placeOf_32 : decode cX5_placeOf 32 = .ok (.iconst 4, 1) := by decide +kernel
theorem dX5_placeOf_33 : decode cX5_placeOf 33 = .ok (.invokevirtual 67, 3) := by decide +kernel
theorem dX5_placeOf_36 : decode cX5_placeOf 36 = .ok (.aload_n 0, 1) := by decide +kernel
theorem dX5_placeOf_37 : decode cX5_placeOf 37 = .ok (.iload_n 1, 1) := by decide +kernel
theorem dX5_placeOf_38 : decode cX5_placeOf 38 = .ok (.iconst 4, 1) := by decide +kernel
theorem dX5_placeOf_39 : decode cX5_placeOf 39 = .ok (.invokevirtual 67, 3) := by decide +kernel
theorem dX5_placeOf_42 : decode cX5_placeOf 42 = .ok (.if_icmp .ge 7, 3) := by decide +kernel
theorem dX5_placeOf_45 : decode cX5_placeOf 45 = .ok (.iconst 1, 1) := by decide +kernel
theorem dX5_placeOf_46 : decode cX5_placeOf 46 = .ok (.goto 4, 3) := by decide +kernel
theorem dX5_placeOf_49 : decode cX5_placeOf 49 = .ok (.iconst 0, 1) := by decide +kernel
theorem dX5_placeOf_50 : decode cX5_placeOf 50 = .ok (.iadd, 1) := by decide +kernel
theorem dX5_placeOf_51 : decode cX5_placeOf 51 = .ok (.istore_n 2, 1) := by decide +kernel
theorem dX5_placeOf_52 : decode cX5_placeOf 52 = .ok (.iinc 3 1, 3) := by decide +kernel
theorem dX5_placeOf_55 : decode cX5_placeOf 55 = .ok (.goto (-40), 3) := by decide +kernel
theorem dX5_placeOf_58 : decode cX5_placeOf 58 = .ok (.iload_n 2, 1) := by decide +kernel
theorem dX5_placeOf_59 : decode cX5_placeOf 59 = .ok (.ireturn, 1) := by decide +kernel
theorem dX5_line_0 : decode cX5_line 0 = .ok (.iload_n 1, 1) := by decide +kernel
theorem dX5_line_1 : decode cX5_line 1 = .ok (.invokestatic 64, 3) := by decide +kernel
theorem dX5_line_4 : decode cX5_line 4 = .ok (.ifCond .ne 5, 3) := by decide +kernel
theorem dX5_line_7 : decode cX5_line 7 = .ok (.iconst (-1), 1) := by decide +kernel
theorem dX5_line_8 : decode cX5_line 8 = .ok (.ireturn, 1) := by decide +kernel
theorem dX5_line_9 : decode cX5_line 9 = .ok (.iload_n 2, 1) := by decide +kernel
theorem dX5_line_10 : decode cX5_line 10 = .ok (.tableswitch 126 0 8 #[50, 57, 64, 70, 76, 84, 91, 98, 104], 50) := by decide +kernel
theorem dX5_line_60 : decode cX5_line 60 = .ok (.aload_n 0, 1) := by decide +kernel
theorem dX5_line_61 : decode cX5_line 61 = .ok (.iload_n 1, 1) := by decide +kernel
theorem dX5_line_62 : decode cX5_line 62 = .ok (.iconst 0, 1) := by decide +kernel
theorem dX5_line_63 : decode cX5_line 63 = .ok (.invokevirtual 67, 3) := by decide +kernel
theorem dX5_line_66 : decode cX5_line 66 = .ok (.ireturn, 1) := by decide +kernel
theorem dX5_line_67 : decode cX5_line 67 = .ok (.aload_n 0, 1) := by decide +kernel
theorem dX5_line_68 : decode cX5_line 68 = .ok (.iload_n 1, 1) := by decide +kernel
theorem dX5_line_69 : decode cX5_line 69 = .ok (.iconst 1, 1) := by decide +kernel
theorem dX5_line_70 : decode cX5_line 70 = .ok (.invokevirtual 67, 3) := by decide +kernel
theorem dX5_line_73 : decode cX5_line 73 = .ok (.ireturn, 1) := by decide +kernel
theorem dX5_line_74 : decode cX5_line 74 = .ok (.aload_n 0, 1) := by decide +kernel
theorem dX5_line_75 : decode cX5_line 75 = .ok (.iload_n 1, 1) := by decide +kernel
theorem dX5_line_76 : decode cX5_line 76 = .ok (.invokevirtual 143, 3) := by decide +kernel
theorem dX5_line_79 : decode cX5_line 79 = .ok (.ireturn, 1) := by decide +kernel
theorem dX5_line_80 : decode cX5_line 80 = .ok (.aload_n 0, 1) := by decide +kernel
theorem dX5_line_81 : decode cX5_line 81 = .ok (.iload_n 1, 1) := by decide +kernel
theorem dX5_line_82 : decode cX5_line 82 = .ok (.invokevirtual 146, 3) := by decide +kernel
theorem dX5_line_85 : decode cX5_line 85 = .ok (.ireturn, 1) := by decide +kernel
theorem dX5_line_86 : decode cX5_line 86 = .ok (.aload_n 0, 1) := by decide +kernel
theorem dX5_line_87 : decode cX5_line 87 = .ok (.iload_n 1, 1) := by decide +kernel
theorem dX5_line_88 : decode cX5_line 88 = .ok (.bipush 10, 2) := by decide +kernel
theorem dX5_line_90 : decode cX5_line 90 = .ok (.invokevirtual 67, 3) := by decide +kernel
theorem dX5_line_93 : decode cX5_line 93 = .ok (.ireturn, 1) := by decide +kernel
theorem dX5_line_94 : decode cX5_line 94 = .ok (.aload_n 0, 1) := by decide +kernel
theorem dX5_line_95 : decode cX5_line 95 = .ok (.iload_n 1, 1) := by decide +kernel
theorem dX5_line_96 : decode cX5_line 96 = .ok (.iconst 2, 1) := by decide +kernel
theorem dX5_line_97 : decode cX5_line 97 = .ok (.invokevirtual 67, 3) := by decide +kernel
theorem dX5_line_100 : decode cX5_line 100 = .ok (.ireturn, 1) := by decide +kernel
theorem dX5_line_101 : decode cX5_line 101 = .ok (.aload_n 0, 1) := by decide +kernel
theorem dX5_line_102 : decode cX5_line 102 = .ok (.iload_n 1, 1) := by decide +kernel
theorem dX5_line_103 : decode cX5_line 103 = .ok (.iconst 3, 1) := by decide +kernel
theorem dX5_line_104 : decode cX5_line 104 = .ok (.invokevirtual 67, 3) := by decide +kernel
theorem dX5_line_107 : decode cX5_line 107 = .ok (.ireturn, 1) := by decide +kernel
theorem dX5_line_108 : decode cX5_line 108 = .ok (.aload_n 0, 1) := by decide +kernel
theorem dX5_line_109 : decode cX5_line 109 = .ok (.iload_n 1, 1) := by decide +kernel
theorem dX5_line_110 : decode cX5_line 110 = .ok (.invokevirtual 149, 3) := by decide +kernel
theorem dX5_line_113 : decode cX5_line 113 = .ok (.ireturn, 1) := by decide +kernel
theorem dX5_line_114 : decode cX5_line 114 = .ok (.aload_n 0, 1) := by decide +kernel
theorem dX5_line_115 : decode cX5_line 115 = .ok (.iload_n 1, 1) := by decide +kernel
theorem dX5_line_116 : decode cX5_line 116 = .ok (.iconst 0, 1) := by decide +kernel
theorem dX5_line_117 : decode cX5_line 117 = .ok (.invokevirtual 67, 3) := by decide +kernel
theorem dX5_line_120 : decode cX5_line 120 = .ok (.bipush 10, 2) := by decide +kernel
theorem dX5_line_122 : decode cX5_line 122 = .ok (.if_icmp .ne 12, 3) := by decide +kernel
theorem dX5_line_125 : decode cX5_line 125 = .ok (.aload_n 0, 1) := by decide +kernel
theorem dX5_line_126 : decode cX5_line 126 = .ok (.iload_n 1, 1) := by decide +kernel
theorem dX5_line_127 : decode cX5_line 127 = .ok (.iconst 5, 1) := by decide +kernel
theorem dX5_line_128 : decode cX5_line 128 = .ok (.invokevirtual 67, 3) := by decide +kernel
theorem dX5_line_131 : decode cX5_line 131 = .ok (.goto 4, 3) := by decide +kernel
theorem dX5_line_134 : decode cX5_line 134 = .ok (.iconst 0, 1) := by decide +kernel
theorem dX5_line_135 : decode cX5_line 135 = .ok (.ireturn, 1) := by decide +kernel
theorem dX5_line_136 : decode cX5_line 136 = .ok (.bipush (-2), 2) := by decide +kernel
theorem dX5_line_138 : decode cX5_line 138 = .ok (.ireturn, 1) := by decide +kernel
theorem dX5_showsTimer_0 : decode cX5_showsTimer 0 = .ok (.iload_n 1, 1) := by decide +kernel
theorem dX5_showsTimer_1 : decode cX5_showsTimer 1 = .ok (.iconst 2, 1) := by decide +kernel
theorem dX5_showsTimer_2 : decode cX5_showsTimer 2 = .ok (.if_icmp .eq 19, 3) := by decide +kernel
theorem dX5_showsTimer_5 : decode cX5_showsTimer 5 = .ok (.iload_n 1, 1) := by decide +kernel
theorem dX5_showsTimer_6 : decode cX5_showsTimer 6 = .ok (.iconst 5, 1) := by decide +kernel
theorem dX5_showsTimer_7 : decode cX5_showsTimer 7 = .ok (.if_icmp .eq 14, 3) := by decide +kernel
theorem dX5_showsTimer_10 : decode cX5_showsTimer 10 = .ok (.iload_n 1, 1) := by decide +kernel
theorem dX5_showsTimer_11 : decode cX5_showsTimer 11 = .ok (.bipush 7, 2) := by decide +kernel
theorem dX5_showsTimer_13 : decode cX5_showsTimer 13 = .ok (.bipush 9, 2) := by decide +kernel
theorem dX5_showsTimer_15 : decode cX5_showsTimer 15 = .ok (.invokestatic 33, 3) := by decide +kernel
theorem dX5_showsTimer_18 : decode cX5_showsTimer 18 = .ok (.ifCond .eq 7, 3) := by decide +kernel
theorem dX5_showsTimer_21 : decode cX5_showsTimer 21 = .ok (.iconst 1, 1) := by decide +kernel
theorem dX5_showsTimer_22 : decode cX5_showsTimer 22 = .ok (.goto 4, 3) := by decide +kernel
theorem dX5_showsTimer_25 : decode cX5_showsTimer 25 = .ok (.iconst 0, 1) := by decide +kernel
theorem dX5_showsTimer_26 : decode cX5_showsTimer 26 = .ok (.ireturn, 1) := by decide +kernel
theorem dX5_finder_0 : decode cX5_finder 0 = .ok (.aload_n 0, 1) := by decide +kernel
theorem dX5_finder_1 : decode cX5_finder 1 = .ok (.iload_n 1, 1) := by decide +kernel
theorem dX5_finder_2 : decode cX5_finder 2 = .ok (.invokevirtual 152, 3) := by decide +kernel
theorem dX5_finder_5 : decode cX5_finder 5 = .ok (.ifCond .ne 5, 3) := by decide +kernel
theorem dX5_finder_8 : decode cX5_finder 8 = .ok (.iconst (-1), 1) := by decide +kernel
theorem dX5_finder_9 : decode cX5_finder 9 = .ok (.ireturn, 1) := by decide +kernel
theorem dX5_finder_10 : decode cX5_finder 10 = .ok (.aload_n 0, 1) := by decide +kernel
theorem dX5_finder_11 : decode cX5_finder 11 = .ok (.iload_n 1, 1) := by decide +kernel
theorem dX5_finder_12 : decode cX5_finder 12 = .ok (.iconst 0, 1) := by decide +kernel
theorem dX5_finder_13 : decode cX5_finder 13 = .ok (.invokevirtual 41, 3) := by decide +kernel
theorem dX5_finder_16 : decode cX5_finder 16 = .ok (.istore_n 3, 1) := by decide +kernel
theorem dX5_finder_17 : decode cX5_finder 17 = .ok (.iload_n 2, 1) := by decide +kernel
theorem dX5_finder_18 : decode cX5_finder 18 = .ok (.tableswitch 154 0 7 #[46, 48, 55, 62, 69, 94, 116, 136], 46) := by decide +kernel
theorem dX5_finder_64 : decode cX5_finder 64 = .ok (.iload_n 3, 1) := by decide +kernel
theorem dX5_finder_65 : decode cX5_finder 65 = .ok (.ireturn, 1) := by decide +kernel
theorem dX5_finder_66 : decode cX5_finder 66 = .ok (.aload_n 0, 1) := by decide +kernel
theorem dX5_finder_67 : decode cX5_finder 67 = .ok (.iload_n 1, 1) := by decide +kernel
theorem dX5_finder_68 : decode cX5_finder 68 = .ok (.iconst 1, 1) := by decide +kernel
theorem dX5_finder_69 : decode cX5_finder 69 = .ok (.invokevirtual 41, 3) := by decide +kernel
theorem dX5_finder_72 : decode cX5_finder 72 = .ok (.ireturn, 1) := by decide +kernel
theorem dX5_finder_73 : decode cX5_finder 73 = .ok (.aload_n 0, 1) := by decide +kernel
theorem dX5_finder_74 : decode cX5_finder 74 = .ok (.iload_n 1, 1) := by decide +kernel
theorem dX5_finder_75 : decode cX5_finder 75 = .ok (.iconst 2, 1) := by decide +kernel
theorem dX5_finder_76 : decode cX5_finder 76 = .ok (.invokevirtual 41, 3) := by decide +kernel
theorem dX5_finder_79 : decode cX5_finder 79 = .ok (.ireturn, 1) := by decide +kernel
theorem dX5_finder_80 : decode cX5_finder 80 = .ok (.aload_n 0, 1) := by decide +kernel
theorem dX5_finder_81 : decode cX5_finder 81 = .ok (.iload_n 1, 1) := by decide +kernel
theorem dX5_finder_82 : decode cX5_finder 82 = .ok (.iconst 3, 1) := by decide +kernel
theorem dX5_finder_83 : decode cX5_finder 83 = .ok (.invokevirtual 41, 3) := by decide +kernel
theorem dX5_finder_86 : decode cX5_finder 86 = .ok (.ireturn, 1) := by decide +kernel
theorem dX5_finder_87 : decode cX5_finder 87 = .ok (.iload_n 3, 1) := by decide +kernel
theorem dX5_finder_88 : decode cX5_finder 88 = .ok (.iconst 4, 1) := by decide +kernel
theorem dX5_finder_89 : decode cX5_finder 89 = .ok (.if_icmp .eq 11, 3) := by decide +kernel
theorem dX5_finder_92 : decode cX5_finder 92 = .ok (.aload_n 0, 1) := by decide +kernel
theorem dX5_finder_93 : decode cX5_finder 93 = .ok (.iload_n 1, 1) := by decide +kernel
theorem dX5_finder_94 : decode cX5_finder 94 = .ok (.invokevirtual 57, 3) := by decide +kernel
theorem dX5_finder_97 : decode cX5_finder 97 = .ok (.ifCond .eq 12, 3) := by decide +kernel
theorem dX5_finder_100 : decode cX5_finder 100 = .ok (.aload_n 0, 1) := by decide +kernel
theorem dX5_finder_101 : decode cX5_finder 101 = .ok (.iload_n 1, 1) := by decide +kernel
theorem dX5_finder_102 : decode cX5_finder 102 = .ok (.iconst 4, 1) := by decide +kernel
theorem dX5_finder_103 : decode cX5_finder 103 = .ok (.invokevirtual 41, 3) := by decide +kernel
theorem dX5_finder_106 : decode cX5_finder 106 = .ok (.goto 5, 3) := by decide +kernel
theorem dX5_finder_109 : decode cX5_finder 109 = .ok (.bipush (-6), 2) := by decide +kernel
theorem dX5_finder_111 : decode cX5_finder 111 = .ok (.ireturn, 1) := by decide +kernel
theorem dX5_finder_112 : decode cX5_finder 112 = .ok (.iload_n 3, 1) := by decide +kernel
theorem dX5_finder_113 : decode cX5_finder 113 = .ok (.iconst 3, 1) := by decide +kernel
theorem dX5_finder_114 : decode cX5_finder 114 = .ok (.if_icmp .eq 9, 3) := by decide +kernel
theorem dX5_finder_117 : decode cX5_finder 117 = .ok (.iload_n 3, 1) := by decide +kernel
theorem dX5_finder_118 : decode cX5_finder 118 = .ok (.bipush 6, 2) := by decide +kernel
theorem dX5_finder_120 : decode cX5_finder 120 = .ok (.if_icmp .ne 12, 3) := by decide +kernel
theorem dX5_finder_123 : decode cX5_finder 123 = .ok (.aload_n 0, 1) := by decide +kernel
theorem dX5_finder_124 : decode cX5_finder 124 = .ok (.iload_n 1, 1) := by decide +kernel
theorem dX5_finder_125 : decode cX5_finder 125 = .ok (.iconst 5, 1) := by decide +kernel
theorem dX5_finder_126 : decode cX5_finder 126 = .ok (.invokevirtual 41, 3) := by decide +kernel
theorem dX5_finder_129 : decode cX5_finder 129 = .ok (.goto 4, 3) := by decide +kernel
theorem dX5_finder_132 : decode cX5_finder 132 = .ok (.iconst 0, 1) := by decide +kernel
theorem dX5_finder_133 : decode cX5_finder 133 = .ok (.ireturn, 1) := by decide +kernel
end
section
theorem dX5_finder_134 : decode cX5_finder 134 = .ok (.aload_n 0, 1) := by decide +kernel
theorem dX5_finder_135 : decode cX5_finder 135 = .ok (.iload_n 3, 1) := by decide +kernel
theorem dX5_finder_136 : decode cX5_finder 136 = .ok (.invokevirtual 155, 3) := by decide +kernel
theorem dX5_finder_139 : decode cX5_finder 139 = .ok (.ifCond .eq 13, 3) := by decide +kernel
theorem dX5_finder_142 : decode cX5_finder 142 = .ok (.aload_n 0, 1) := by decide +kernel
theorem dX5_finder_143 : decode cX5_finder 143 = .ok (.iload_n 1, 1) := by decide +kernel
theorem dX5_finder_144 : decode cX5_finder 144 = .ok (.bipush 7, 2) := by decide +kernel
theorem dX5_finder_146 : decode cX5_finder 146 = .ok (.invokevirtual 41, 3) := by decide +kernel
theorem dX5_finder_149 : decode cX5_finder 149 = .ok (.goto 4, 3) := by decide +kernel
theorem dX5_finder_152 : decode cX5_finder 152 = .ok (.iconst 0, 1) := by decide +kernel
theorem dX5_finder_153 : decode cX5_finder 153 = .ok (.ireturn, 1) := by decide +kernel
theorem dX5_finder_154 : decode cX5_finder 154 = .ok (.iload_n 3, 1) := by decide +kernel
theorem dX5_finder_155 : decode cX5_finder 155 = .ok (.bipush 8, 2) := by decide +kernel
theorem dX5_finder_157 : decode cX5_finder 157 = .ok (.if_icmp .ne 13, 3) := by decide +kernel
theorem dX5_finder_160 : decode cX5_finder 160 = .ok (.aload_n 0, 1) := by decide +kernel
theorem dX5_finder_161 : decode cX5_finder 161 = .ok (.iload_n 1, 1) := by decide +kernel
theorem dX5_finder_162 : decode cX5_finder 162 = .ok (.bipush 8, 2) := by decide +kernel
theorem dX5_finder_164 : decode cX5_finder 164 = .ok (.invokevirtual 41, 3) := by decide +kernel
theorem dX5_finder_167 : decode cX5_finder 167 = .ok (.goto 4, 3) := by decide +kernel
theorem dX5_finder_170 : decode cX5_finder 170 = .ok (.iconst 0, 1) := by decide +kernel
theorem dX5_finder_171 : decode cX5_finder 171 = .ok (.ireturn, 1) := by decide +kernel
theorem dX5_finder_172 : decode cX5_finder 172 = .ok (.bipush (-2), 2) := by decide +kernel
theorem dX5_finder_174 : decode cX5_finder 174 = .ok (.ireturn, 1) := by decide +kernel
theorem dX5_connector_0 : decode cX5_connector 0 = .ok (.iload_n 1, 1) := by decide +kernel
theorem dX5_connector_1 : decode cX5_connector 1 = .ok (.iconst 1, 1) := by decide +kernel
theorem dX5_connector_2 : decode cX5_connector 2 = .ok (.iconst 4, 1) := by decide +kernel
theorem dX5_connector_3 : decode cX5_connector 3 = .ok (.invokestatic 33, 3) := by decide +kernel
theorem dX5_connector_6 : decode cX5_connector 6 = .ok (.ifCond .eq 28, 3) := by decide +kernel
theorem dX5_connector_9 : decode cX5_connector 9 = .ok (.iload_n 2, 1) := by decide +kernel
theorem dX5_connector_10 : decode cX5_connector 10 = .ok (.iconst 0, 1) := by decide +kernel
theorem dX5_connector_11 : decode cX5_connector 11 = .ok (.aload_n 0, 1) := by decide +kernel
theorem dX5_connector_12 : decode cX5_connector 12 = .ok (.getfield 7, 3) := by decide +kernel
theorem dX5_connector_15 : decode cX5_connector 15 = .ok (.iconst 2, 1) := by decide +kernel
theorem dX5_connector_16 : decode cX5_connector 16 = .ok (.iaload, 1) := by decide +kernel
theorem dX5_connector_17 : decode cX5_connector 17 = .ok (.iconst 1, 1) := by decide +kernel
theorem dX5_connector_18 : decode cX5_connector 18 = .ok (.isub, 1) := by decide +kernel
theorem dX5_connector_19 : decode cX5_connector 19 = .ok (.invokestatic 33, 3) := by decide +kernel
theorem dX5_connector_22 : decode cX5_connector 22 = .ok (.ifCond .eq 12, 3) := by decide +kernel
theorem dX5_connector_25 : decode cX5_connector 25 = .ok (.aload_n 0, 1) := by decide +kernel
theorem dX5_connector_26 : decode cX5_connector 26 = .ok (.iload_n 1, 1) := by decide +kernel
theorem dX5_connector_27 : decode cX5_connector 27 = .ok (.iload_n 2, 1) := by decide +kernel
theorem dX5_connector_28 : decode cX5_connector 28 = .ok (.invokevirtual 94, 3) := by decide +kernel
theorem dX5_connector_31 : decode cX5_connector 31 = .ok (.goto 4, 3) := by decide +kernel
theorem dX5_connector_34 : decode cX5_connector 34 = .ok (.iconst (-1), 1) := by decide +kernel
theorem dX5_connector_35 : decode cX5_connector 35 = .ok (.ireturn, 1) := by decide +kernel
theorem dX5_finders_0 : decode cX5_finders 0 = .ok (.iconst 0, 1) := by decide +kernel
theorem dX5_finders_1 : decode cX5_finders 1 = .ok (.istore_n 2, 1) := by decide +kernel
theorem dX5_finders_2 : decode cX5_finders 2 = .ok (.iconst 0, 1) := by decide +kernel
theorem dX5_finders_3 : decode cX5_finders 3 = .ok (.istore_n 3, 1) := by decide +kernel
theorem dX5_finders_4 : decode cX5_finders 4 = .ok (.iload_n 3, 1) := by decide +kernel
theorem dX5_finders_5 : decode cX5_finders 5 = .ok (.aload_n 0, 1) := by decide +kernel
theorem dX5_finders_6 : decode cX5_finders 6 = .ok (.getfield 7, 3) := by decide +kernel
theorem dX5_finders_9 : decode cX5_finders 9 = .ok (.iconst 1, 1) := by decide +kernel
theorem dX5_finders_10 : decode cX5_finders 10 = .ok (.iaload, 1) := by decide +kernel
theorem dX5_finders_11 : decode cX5_finders 11 = .ok (.if_icmp .ge 41, 3) := by decide +kernel
theorem dX5_finders_14 : decode cX5_finders 14 = .ok (.iload_n 2, 1) := by decide +kernel
theorem dX5_finders_15 : decode cX5_finders 15 = .ok (.iload_n 1, 1) := by decide +kernel
theorem dX5_finders_16 : decode cX5_finders 16 = .ok (.ifCond .eq 15, 3) := by decide +kernel
theorem dX5_finders_19 : decode cX5_finders 19 = .ok (.aload_n 0, 1) := by decide +kernel
theorem dX5_finders_20 : decode cX5_finders 20 = .ok (.iload_n 3, 1) := by decide +kernel
theorem dX5_finders_21 : decode cX5_finders 21 = .ok (.iconst 0, 1) := by decide +kernel
theorem dX5_finders_22 : decode cX5_finders 22 = .ok (.invokevirtual 41, 3) := by decide +kernel
theorem dX5_finders_25 : decode cX5_finders 25 = .ok (.ifCond .ne 18, 3) := by decide +kernel
theorem dX5_finders_28 : decode cX5_finders 28 = .ok (.goto 11, 3) := by decide +kernel
theorem dX5_finders_31 : decode cX5_finders 31 = .ok (.aload_n 0, 1) := by decide +kernel
theorem dX5_finders_32 : decode cX5_finders 32 = .ok (.iload_n 3, 1) := by decide +kernel
theorem dX5_finders_33 : decode cX5_finders 33 = .ok (.invokevirtual 57, 3) := by decide +kernel
theorem dX5_finders_36 : decode cX5_finders 36 = .ok (.ifCond .eq 7, 3) := by decide +kernel
theorem dX5_finders_39 : decode cX5_finders 39 = .ok (.iconst 1, 1) := by decide +kernel
theorem dX5_finders_40 : decode cX5_finders 40 = .ok (.goto 4, 3) := by decide +kernel
theorem dX5_finders_43 : decode cX5_finders 43 = .ok (.iconst 0, 1) := by decide +kernel
theorem dX5_finders_44 : decode cX5_finders 44 = .ok (.iadd, 1) := by decide +kernel
theorem dX5_finders_45 : decode cX5_finders 45 = .ok (.istore_n 2, 1) := by decide +kernel
theorem dX5_finders_46 : decode cX5_finders 46 = .ok (.iinc 3 1, 3) := by decide +kernel
theorem dX5_finders_49 : decode cX5_finders 49 = .ok (.goto (-45), 3) := by decide +kernel
theorem dX5_finders_52 : decode cX5_finders 52 = .ok (.iload_n 2, 1) := by decide +kernel
theorem dX5_finders_53 : decode cX5_finders 53 = .ok (.ireturn, 1) := by decide +kernel
theorem dX5_sumOf_0 : decode cX5_sumOf 0 = .ok (.iconst 0, 1) := by decide +kernel
theorem dX5_sumOf_1 : decode cX5_sumOf 1 = .ok (.istore_n 2, 1) := by decide +kernel
theorem dX5_sumOf_2 : decode cX5_sumOf 2 = .ok (.iconst 0, 1) := by decide +kernel
theorem dX5_sumOf_3 : decode cX5_sumOf 3 = .ok (.istore_n 3, 1) := by decide +kernel
theorem dX5_sumOf_4 : decode cX5_sumOf 4 = .ok (.iload_n 3, 1) := by decide +kernel
theorem dX5_sumOf_5 : decode cX5_sumOf 5 = .ok (.bipush 16, 2) := by decide +kernel
theorem dX5_sumOf_7 : decode cX5_sumOf 7 = .ok (.if_icmp .ge 18, 3) := by decide +kernel
theorem dX5_sumOf_10 : decode cX5_sumOf 10 = .ok (.iload_n 2, 1) := by decide +kernel
theorem dX5_sumOf_11 : decode cX5_sumOf 11 = .ok (.aload_n 0, 1) := by decide +kernel
theorem dX5_sumOf_12 : decode cX5_sumOf 12 = .ok (.iload_n 3, 1) := by decide +kernel
theorem dX5_sumOf_13 : decode cX5_sumOf 13 = .ok (.iload_n 1, 1) := by decide +kernel
theorem dX5_sumOf_14 : decode cX5_sumOf 14 = .ok (.invokevirtual 67, 3) := by decide +kernel
theorem dX5_sumOf_17 : decode cX5_sumOf 17 = .ok (.iadd, 1) := by decide +kernel
theorem dX5_sumOf_18 : decode cX5_sumOf 18 = .ok (.istore_n 2, 1) := by decide +kernel
theorem dX5_sumOf_19 : decode cX5_sumOf 19 = .ok (.iinc 3 1, 3) := by decide +kernel
theorem dX5_sumOf_22 : decode cX5_sumOf 22 = .ok (.goto (-18), 3) := by decide +kernel
theorem dX5_sumOf_25 : decode cX5_sumOf 25 = .ok (.iload_n 2, 1) := by decide +kernel
theorem dX5_sumOf_26 : decode cX5_sumOf 26 = .ok (.ireturn, 1) := by decide +kernel
theorem dX5_count_0 : decode cX5_count 0 = .ok (.iload_n 1, 1) := by decide +kernel
theorem dX5_count_1 : decode cX5_count 1 = .ok (.bipush 6, 2) := by decide +kernel
theorem dX5_count_3 : decode cX5_count 3 = .ok (.bipush 12, 2) := by decide +kernel
theorem dX5_count_5 : decode cX5_count 5 = .ok (.invokestatic 33, 3) := by decide +kernel
theorem dX5_count_8 : decode cX5_count 8 = .ok (.ifCond .eq 16, 3) := by decide +kernel
theorem dX5_count_11 : decode cX5_count 11 = .ok (.aload_n 0, 1) := by decide +kernel
theorem dX5_count_12 : decode cX5_count 12 = .ok (.getfield 7, 3) := by decide +kernel
theorem dX5_count_15 : decode cX5_count 15 = .ok (.bipush 10, 2) := by decide +kernel
theorem dX5_count_17 : decode cX5_count 17 = .ok (.iload_n 1, 1) := by decide +kernel
theorem dX5_count_18 : decode cX5_count 18 = .ok (.iadd, 1) := by decide +kernel
theorem dX5_count_19 : decode cX5_count 19 = .ok (.bipush 6, 2) := by decide +kernel
theorem dX5_count_21 : decode cX5_count 21 = .ok (.isub, 1) := by decide +kernel
theorem dX5_count_22 : decode cX5_count 22 = .ok (.iaload, 1) := by decide +kernel
theorem dX5_count_23 : decode cX5_count 23 = .ok (.ireturn, 1) := by decide +kernel
theorem dX5_count_24 : decode cX5_count 24 = .ok (.iload_n 1, 1) := by decide +kernel
theorem dX5_count_25 : decode cX5_count 25 = .ok (.bipush 15, 2) := by decide +kernel
theorem dX5_count_27 : decode cX5_count 27 = .ok (.bipush 19, 2) := by decide +kernel
theorem dX5_count_29 : decode cX5_count 29 = .ok (.invokestatic 33, 3) := by decide +kernel
theorem dX5_count_32 : decode cX5_count 32 = .ok (.ifCond .eq 12, 3) := by decide +kernel
theorem dX5_count_35 : decode cX5_count 35 = .ok (.aload_n 0, 1) := by decide +kernel
theorem dX5_count_36 : decode cX5_count 36 = .ok (.iload_n 1, 1) := by decide +kernel
theorem dX5_count_37 : decode cX5_count 37 = .ok (.bipush 15, 2) := by decide +kernel
theorem dX5_count_39 : decode cX5_count 39 = .ok (.isub, 1) := by decide +kernel
theorem dX5_count_40 : decode cX5_count 40 = .ok (.invokevirtual 53, 3) := by decide +kernel
theorem dX5_count_43 : decode cX5_count 43 = .ok (.ireturn, 1) := by decide +kernel
theorem dX5_count_44 : decode cX5_count 44 = .ok (.iload_n 1, 1) := by decide +kernel
theorem dX5_count_45 : decode cX5_count 45 = .ok (.tableswitch 134 0 14 #[75, 82, 89, 96, 102, 117, 134, 134, 134, 134, 134, 134, 134, 123, 129], 75) := by decide +kernel
theorem dX5_count_120 : decode cX5_count 120 = .ok (.aload_n 0, 1) := by decide +kernel
theorem dX5_count_121 : decode cX5_count 121 = .ok (.getfield 7, 3) := by decide +kernel
theorem dX5_count_124 : decode cX5_count 124 = .ok (.iconst 0, 1) := by decide +kernel
theorem dX5_count_125 : decode cX5_count 125 = .ok (.iaload, 1) := by decide +kernel
theorem dX5_count_126 : decode cX5_count 126 = .ok (.ireturn, 1) := by decide +kernel
theorem dX5_count_127 : decode cX5_count 127 = .ok (.aload_n 0, 1) := by decide +kernel
theorem dX5_count_128 : decode cX5_count 128 = .ok (.getfield 7, 3) := by decide +kernel
theorem dX5_count_131 : decode cX5_count 131 = .ok (.iconst 1, 1) := by decide +kernel
theorem dX5_count_132 : decode cX5_count 132 = .ok (.iaload, 1) := by decide +kernel
theorem dX5_count_133 : decode cX5_count 133 = .ok (.ireturn, 1) := by decide +kernel
theorem dX5_count_134 : decode cX5_count 134 = .ok (.aload_n 0, 1) := by decide +kernel
theorem dX5_count_135 : decode cX5_count 135 = .ok (.getfield 7, 3) := by decide +kernel
theorem dX5_count_138 : decode cX5_count 138 = .ok (.iconst 2, 1) := by decide +kernel
theorem dX5_count_139 : decode cX5_count 139 = .ok (.iaload, 1) := by decide +kernel
theorem dX5_count_140 : decode cX5_count 140 = .ok (.ireturn, 1) := by decide +kernel
theorem dX5_count_141 : decode cX5_count 141 = .ok (.aload_n 0, 1) := by decide +kernel
theorem dX5_count_142 : decode cX5_count 142 = .ok (.iconst 1, 1) := by decide +kernel
theorem dX5_count_143 : decode cX5_count 143 = .ok (.invokevirtual 158, 3) := by decide +kernel
theorem dX5_count_146 : decode cX5_count 146 = .ok (.ireturn, 1) := by decide +kernel
theorem dX5_count_147 : decode cX5_count 147 = .ok (.iconst 4, 1) := by decide +kernel
theorem dX5_count_148 : decode cX5_count 148 = .ok (.aload_n 0, 1) := by decide +kernel
theorem dX5_count_149 : decode cX5_count 149 = .ok (.getfield 7, 3) := by decide +kernel
theorem dX5_count_152 : decode cX5_count 152 = .ok (.iconst 2, 1) := by decide +kernel
theorem dX5_count_153 : decode cX5_count 153 = .ok (.iaload, 1) := by decide +kernel
theorem dX5_count_154 : decode cX5_count 154 = .ok (.imul, 1) := by decide +kernel
theorem dX5_count_155 : decode cX5_count 155 = .ok (.aload_n 0, 1) := by decide +kernel
theorem dX5_count_156 : decode cX5_count 156 = .ok (.iconst 0, 1) := by decide +kernel
theorem dX5_count_157 : decode cX5_count 157 = .ok (.invokevirtual 158, 3) := by decide +kernel
theorem dX5_count_160 : decode cX5_count 160 = .ok (.isub, 1) := by decide +kernel
theorem dX5_count_161 : decode cX5_count 161 = .ok (.ireturn, 1) := by decide +kernel
theorem dX5_count_162 : decode cX5_count 162 = .ok (.aload_n 0, 1) := by decide +kernel
theorem dX5_count_163 : decode cX5_count 163 = .ok (.iconst 2, 1) := by decide +kernel
theorem dX5_count_164 : decode cX5_count 164 = .ok (.invokevirtual 162, 3) := by decide +kernel
theorem dX5_count_167 : decode cX5_count 167 = .ok (.ireturn, 1) := by decide +kernel
theorem dX5_count_168 : decode cX5_count 168 = .ok (.aload_n 0, 1) := by decide +kernel
theorem dX5_count_169 : decode cX5_count 169 = .ok (.iconst 1, 1) := by decide +kernel
theorem dX5_count_170 : decode cX5_count 170 = .ok (.invokevirtual 162, 3) := by decide +kernel
theorem dX5_count_173 : decode cX5_count 173 = .ok (.ireturn, 1) := by decide +kernel
theorem dX5_count_174 : decode cX5_count 174 = .ok (.aload_n 0, 1) := by decide +kernel
theorem dX5_count_175 : decode cX5_count 175 = .ok (.getfield 165, 3) := by decide +kernel
theorem dX5_count_178 : decode cX5_count 178 = .ok (.ireturn, 1) := by decide +kernel
theorem dX5_count_179 : decode cX5_count 179 = .ok (.bipush (-2), 2) := by decide +kernel
theorem dX5_count_181 : decode cX5_count 181 = .ok (.ireturn, 1) := by decide +kernel
theorem dX5_trace_0 : decode cX5_trace 0 = .ok (.iload_n 1, 1) := by decide +kernel
theorem dX5_trace_1 : decode cX5_trace 1 = .ok (.invokestatic 64, 3) := by decide +kernel
theorem dX5_trace_4 : decode cX5_trace 4 = .ok (.ifCond .ne 5, 3) := by decide +kernel
theorem dX5_trace_7 : decode cX5_trace 7 = .ok (.iconst (-1), 1) := by decide +kernel
theorem dX5_trace_8 : decode cX5_trace 8 = .ok (.ireturn, 1) := by decide +kernel
theorem dX5_trace_9 : decode cX5_trace 9 = .ok (.iload_n 2, 1) := by decide +kernel
theorem dX5_trace_10 : decode cX5_trace 10 = .ok (.iconst 0, 1) := by decide +kernel
theorem dX5_trace_11 : decode cX5_trace 11 = .ok (.iconst 2, 1) := by decide +kernel
theorem dX5_trace_12 : decode cX5_trace 12 = .ok (.invokestatic 33, 3) := by decide +kernel
theorem dX5_trace_15 : decode cX5_trace 15 = .ok (.ifCond .ne 6, 3) := by decide +kernel
theorem dX5_trace_18 : decode cX5_trace 18 = .ok (.bipush (-2), 2) := by decide +kernel
theorem dX5_trace_20 : decode cX5_trace 20 = .ok (.ireturn, 1) := by decide +kernel
theorem dX5_trace_21 : decode cX5_trace 21 = .ok (.aload_n 0, 1) := by decide +kernel
theorem dX5_trace_22 : decode cX5_trace 22 = .ok (.iload_n 1, 1) := by decide +kernel
theorem dX5_trace_23 : decode cX5_trace 23 = .ok (.iconst 0, 1) := by decide +kernel
theorem dX5_trace_24 : decode cX5_trace 24 = .ok (.invokevirtual 67, 3) := by decide +kernel
theorem dX5_trace_27 : decode cX5_trace 27 = .ok (.istore_n 3, 1) := by decide +kernel
theorem dX5_trace_28 : decode cX5_trace 28 = .ok (.iload_n 3, 1) := by decide +kernel
theorem dX5_trace_29 : decode cX5_trace 29 = .ok (.iconst 5, 1) := by decide +kernel
theorem dX5_trace_30 : decode cX5_trace 30 = .ok (.if_icmp .eq 12, 3) := by decide +kernel
theorem dX5_trace_33 : decode cX5_trace 33 = .ok (.iload_n 3, 1) := by decide +kernel
theorem dX5_trace_34 : decode cX5_trace 34 = .ok (.bipush 7, 2) := by decide +kernel
theorem dX5_trace_36 : decode cX5_trace 36 = .ok (.if_icmp .eq 6, 3) := by decide +kernel
theorem dX5_trace_39 : decode cX5_trace 39 = .ok (.bipush (-6), 2) := by decide +kernel
theorem dX5_trace_41 : decode cX5_trace 41 = .ok (.ireturn, 1) := by decide +kernel
theorem dX5_trace_42 : decode cX5_trace 42 = .ok (.aload_n 0, 1) := by decide +kernel
theorem dX5_trace_43 : decode cX5_trace 43 = .ok (.iload_n 1, 1) := by decide +kernel
theorem dX5_trace_44 : decode cX5_trace 44 = .ok (.invokevirtual 140, 3) := by decide +kernel
theorem dX5_trace_47 : decode cX5_trace 47 = .ok (.istore 4, 2) := by decide +kernel
theorem dX5_trace_49 : decode cX5_trace 49 = .ok (.iload_n 2, 1) := by decide +kernel
theorem dX5_trace_50 : decode cX5_trace 50 = .ok (.ifCond .ne 13, 3) := by decide +kernel
theorem dX5_trace_53 : decode cX5_trace 53 = .ok (.aload_n 0, 1) := by decide +kernel
theorem dX5_trace_54 : decode cX5_trace 54 = .ok (.iload 4, 2) := by decide +kernel
theorem dX5_trace_56 : decode cX5_trace 56 = .ok (.iconst 4, 1) := by decide +kernel
theorem dX5_trace_57 : decode cX5_trace 57 = .ok (.invokevirtual 41, 3) := by decide +kernel
theorem dX5_trace_60 : decode cX5_trace 60 = .ok (.goto 20, 3) := by decide +kernel
theorem dX5_trace_63 : decode cX5_trace 63 = .ok (.iload_n 2, 1) := by decide +kernel
theorem dX5_trace_64 : decode cX5_trace 64 = .ok (.iconst 1, 1) := by decide +kernel
theorem dX5_trace_65 : decode cX5_trace 65 = .ok (.if_icmp .ne 8, 3) := by decide +kernel
theorem dX5_trace_68 : decode cX5_trace 68 = .ok (.iload 4, 2) := by decide +kernel
theorem dX5_trace_70 : decode cX5_trace 70 = .ok (.goto 10, 3) := by decide +kernel
theorem dX5_trace_73 : decode cX5_trace 73 = .ok (.aload_n 0, 1) := by decide +kernel
theorem dX5_trace_74 : decode cX5_trace 74 = .ok (.iload 4, 2) := by decide +kernel
theorem dX5_trace_76 : decode cX5_trace 76 = .ok (.iconst 2, 1) := by decide +kernel
theorem dX5_trace_77 : decode cX5_trace 77 = .ok (.invokevirtual 41, 3) := by decide +kernel
theorem dX5_trace_80 : decode cX5_trace 80 = .ok (.ireturn, 1) := by decide +kernel
theorem dX5_putAside_0 : decode cX5_putAside 0 = .ok (.iconst 0, 1) := by decide +kernel
theorem dX5_putAside_1 : decode cX5_putAside 1 = .ok (.istore_n 1, 1) := by decide +kernel
theorem dX5_putAside_2 : decode cX5_putAside 2 = .ok (.iload_n 1, 1) := by decide +kernel
theorem dX5_putAside_3 : decode cX5_putAside 3 = .ok (.sipush 233, 3) := by decide +kernel
theorem dX5_putAside_6 : decode cX5_putAside 6 = .ok (.if_icmp .ge 21, 3) := by decide +kernel
theorem dX5_putAside_9 : decode cX5_putAside 9 = .ok (.aload_n 0, 1) := by decide +kernel
theorem dX5_putAside_10 : decode cX5_putAside 10 = .ok (.getfield 13, 3) := by decide +kernel
theorem dX5_putAside_13 : decode cX5_putAside 13 = .ok (.iload_n 1, 1) := by decide +kernel
theorem dX5_putAside_14 : decode cX5_putAside 14 = .ok (.aload_n 0, 1) := by decide +kernel
theorem dX5_putAside_15 : decode cX5_putAside 15 = .ok (.getfield 7, 3) := by decide +kernel
theorem dX5_putAside_18 : decode cX5_putAside 18 = .ok (.iload_n 1, 1) := by decide +kernel
theorem dX5_putAside_19 : decode cX5_putAside 19 = .ok (.iaload, 1) := by decide +kernel
theorem dX5_putAside_20 : decode cX5_putAside 20 = .ok (.iastore, 1) := by decide +kernel
theorem dX5_putAside_21 : decode cX5_putAside 21 = .ok (.iinc 1 1, 3) := by decide +kernel
theorem dX5_putAside_24 : decode cX5_putAside 24 = .ok (.goto (-22), 3) := by decide +kernel
theorem dX5_putAside_27 : decode cX5_putAside 27 = .ok (.return_, 1) := by decide +kernel
theorem dX5_putBack_0 : decode cX5_putBack 0 = .ok (.iconst 0, 1) := by decide +kernel
theorem dX5_putBack_1 : decode cX5_putBack 1 = .ok (.istore_n 1, 1) := by decide +kernel
theorem dX5_putBack_2 : decode cX5_putBack 2 = .ok (.iload_n 1, 1) := by decide +kernel
theorem dX5_putBack_3 : decode cX5_putBack 3 = .ok (.sipush 233, 3) := by decide +kernel
theorem dX5_putBack_6 : decode cX5_putBack 6 = .ok (.if_icmp .ge 21, 3) := by decide +kernel
theorem dX5_putBack_9 : decode cX5_putBack 9 = .ok (.aload_n 0, 1) := by decide +kernel
theorem dX5_putBack_10 : decode cX5_putBack 10 = .ok (.getfield 7, 3) := by decide +kernel
theorem dX5_putBack_13 : decode cX5_putBack 13 = .ok (.iload_n 1, 1) := by decide +kernel
theorem dX5_putBack_14 : decode cX5_putBack 14 = .ok (.aload_n 0, 1) := by decide +kernel
theorem dX5_putBack_15 : decode cX5_putBack 15 = .ok (.getfield 13, 3) := by decide +kernel
theorem dX5_putBack_18 : decode cX5_putBack 18 = .ok (.iload_n 1, 1) := by decide +kernel
theorem dX5_putBack_19 : decode cX5_putBack 19 = .ok (.iaload, 1) := by decide +kernel
theorem dX5_putBack_20 : decode cX5_putBack 20 = .ok (.iastore, 1) := by decide +kernel
theorem dX5_putBack_21 : decode cX5_putBack 21 = .ok (.iinc 1 1, 3) := by decide +kernel
theorem dX5_putBack_24 : decode cX5_putBack 24 = .ok (.goto (-22), 3) := by decide +kernel
theorem dX5_putBack_27 : decode cX5_putBack 27 = .ok (.return_, 1) := by decide +kernel
theorem dX5_until_0 : decode cX5_until 0 = .ok (.iload_n 1, 1) := by decide +kernel
theorem dX5_until_1 : decode cX5_until 1 = .ok (.invokestatic 64, 3) := by decide +kernel
theorem dX5_until_4 : decode cX5_until 4 = .ok (.ifCond .ne 5, 3) := by decide +kernel
theorem dX5_until_7 : decode cX5_until 7 = .ok (.iconst (-1), 1) := by decide +kernel
theorem dX5_until_8 : decode cX5_until 8 = .ok (.ireturn, 1) := by decide +kernel
theorem dX5_until_9 : decode cX5_until 9 = .ok (.iload_n 2, 1) := by decide +kernel
theorem dX5_until_10 : decode cX5_until 10 = .ok (.iconst 0, 1) := by decide +kernel
theorem dX5_until_11 : decode cX5_until 11 = .ok (.bipush 11, 2) := by decide +kernel
theorem dX5_until_13 : decode cX5_until 13 = .ok (.invokestatic 33, 3) := by decide +kernel
theorem dX5_until_16 : decode cX5_until 16 = .ok (.ifCond .eq 14, 3) := by decide +kernel
theorem dX5_until_19 : decode cX5_until 19 = .ok (.iload_n 3, 1) := by decide +kernel
theorem dX5_until_20 : decode cX5_until 20 = .ok (.iconst 0, 1) := by decide +kernel
theorem dX5_until_21 : decode cX5_until 21 = .ok (.sipush 1000, 3) := by decide +kernel
theorem dX5_until_24 : decode cX5_until 24 = .ok (.invokestatic 33, 3) := by decide +kernel
theorem dX5_until_27 : decode cX5_until 27 = .ok (.ifCond .ne 6, 3) := by decide +kernel
theorem dX5_until_30 : decode cX5_until 30 = .ok (.bipush (-2), 2) := by decide +kernel
theorem dX5_until_32 : decode cX5_until 32 = .ok (.ireturn, 1) := by decide +kernel
theorem dX5_until_33 : decode cX5_until 33 = .ok (.aload_n 0, 1) := by decide +kernel
theorem dX5_until_34 : decode cX5_until 34 = .ok (.invokevirtual 169, 3) := by decide +kernel
theorem dX5_until_37 : decode cX5_until 37 = .ok (.iconst 0, 1) := by decide +kernel
theorem dX5_until_38 : decode cX5_until 38 = .ok (.istore 4, 2) := by decide +kernel
theorem dX5_until_40 : decode cX5_until 40 = .ok (.iload 4, 2) := by decide +kernel
theorem dX5_until_42 : decode cX5_until 42 = .ok (.iload_n 3, 1) := by decide +kernel
theorem dX5_until_43 : decode cX5_until 43 = .ok (.if_icmp .ge 23, 3) := by decide +kernel
theorem dX5_until_46 : decode cX5_until 46 = .ok (.aload_n 0, 1) := by decide +kernel
theorem dX5_until_47 : decode cX5_until 47 = .ok (.iload_n 1, 1) := by decide +kernel
theorem dX5_until_48 : decode cX5_until 48 = .ok (.iconst 0, 1) := by decide +kernel
theorem dX5_until_49 : decode cX5_until 49 = .ok (.invokevirtual 67, 3) := by decide +kernel
theorem dX5_until_52 : decode cX5_until 52 = .ok (.iload_n 2, 1) := by decide +kernel
theorem dX5_until_53 : decode cX5_until 53 = .ok (.if_icmp .eq 13, 3) := by decide +kernel
theorem dX5_until_56 : decode cX5_until 56 = .ok (.aload_n 0, 1) := by decide +kernel
theorem dX5_until_57 : decode cX5_until 57 = .ok (.invokevirtual 137, 3) := by decide +kernel
theorem dX5_until_60 : decode cX5_until 60 = .ok (.iinc 4 1, 3) := by decide +kernel
theorem dX5_until_63 : decode cX5_until 63 = .ok (.goto (-23), 3) := by decide +kernel
theorem dX5_until_66 : decode cX5_until 66 = .ok (.aload_n 0, 1) := by decide +kernel
theorem dX5_until_67 : decode cX5_until 67 = .ok (.iload_n 1, 1) := by decide +kernel
theorem dX5_until_68 : decode cX5_until 68 = .ok (.iconst 0, 1) := by decide +kernel
theorem dX5_until_69 : decode cX5_until 69 = .ok (.invokevirtual 67, 3) := by decide +kernel
theorem dX5_until_72 : decode cX5_until 72 = .ok (.iload_n 2, 1) := by decide +kernel
theorem dX5_until_73 : decode cX5_until 73 = .ok (.if_icmp .ne 7, 3) := by decide +kernel
theorem dX5_until_76 : decode cX5_until 76 = .ok (.iconst 1, 1) := by decide +kernel
theorem dX5_until_77 : decode cX5_until 77 = .ok (.goto 4, 3) := by decide +kernel
theorem dX5_until_80 : decode cX5_until 80 = .ok (.iconst 0, 1) := by decide +kernel
theorem dX5_until_81 : decode cX5_until 81 = .ok (.istore 5, 2) := by decide +kernel
theorem dX5_until_83 : decode cX5_until 83 = .ok (.aload_n 0, 1) := by decide +kernel
theorem dX5_until_84 : decode cX5_until 84 = .ok (.invokevirtual 172, 3) := by decide +kernel
theorem dX5_until_87 : decode cX5_until 87 = .ok (.iload 5, 2) := by decide +kernel
theorem dX5_until_89 : decode cX5_until 89 = .ok (.ifCond .eq 8, 3) := by decide +kernel
theorem dX5_until_92 : decode cX5_until 92 = .ok (.iload 4, 2) := by decide +kernel
theorem dX5_until_94 : decode cX5_until 94 = .ok (.goto 5, 3) := by decide +kernel
theorem dX5_until_97 : decode cX5_until 97 = .ok (.bipush (-6), 2) := by decide +kernel
theorem dX5_until_99 : decode cX5_until 99 = .ok (.ireturn, 1) := by decide +kernel
theorem dX5_isEnd_0 : decode cX5_isEnd 0 = .ok (.iload_n 0, 1) := by decide +kernel
theorem dX5_isEnd_1 : decode cX5_isEnd 1 = .ok (.iconst 4, 1) := by decide +kernel
theorem dX5_isEnd_2 : decode cX5_isEnd 2 = .ok (.if_icmp .eq 14, 3) := by decide +kernel
theorem dX5_isEnd_5 : decode cX5_isEnd 5 = .ok (.iload_n 0, 1) := by decide +kernel
theorem dX5_isEnd_6 : decode cX5_isEnd 6 = .ok (.bipush 8, 2) := by decide +kernel
theorem dX5_isEnd_8 : decode cX5_isEnd 8 = .ok (.bipush 11, 2) := by decide +kernel
theorem dX5_isEnd_10 : decode cX5_isEnd 10 = .ok (.invokestatic 33, 3) := by decide +kernel
theorem dX5_isEnd_13 : decode cX5_isEnd 13 = .ok (.ifCond .eq 7, 3) := by decide +kernel
theorem dX5_isEnd_16 : decode cX5_isEnd 16 = .ok (.iconst 1, 1) := by decide +kernel
theorem dX5_isEnd_17 : decode cX5_isEnd 17 = .ok (.goto 4, 3) := by decide +kernel
theorem dX5_isEnd_20 : decode cX5_isEnd 20 = .ok (.iconst 0, 1) := by decide +kernel
theorem dX5_isEnd_21 : decode cX5_isEnd 21 = .ok (.ireturn, 1) := by decide +kernel
theorem dX5_attempt_0 : decode cX5_attempt 0 = .ok (.iload_n 1, 1) := by decide +kernel
theorem dX5_attempt_1 : decode cX5_attempt 1 = .ok (.invokestatic 64, 3) := by decide +kernel
theorem dX5_attempt_4 : decode cX5_attempt 4 = .ok (.ifCond .eq 10, 3) := by decide +kernel
theorem dX5_attempt_7 : decode cX5_attempt 7 = .ok (.iload_n 2, 1) := by decide +kernel
theorem dX5_attempt_8 : decode cX5_attempt 8 = .ok (.invokestatic 64, 3) := by decide +kernel
theorem dX5_attempt_11 : decode cX5_attempt 11 = .ok (.ifCond .ne 5, 3) := by decide +kernel
theorem dX5_attempt_14 : decode cX5_attempt 14 = .ok (.iconst (-1), 1) := by decide +kernel
theorem dX5_attempt_15 : decode cX5_attempt 15 = .ok (.ireturn, 1) := by decide +kernel
theorem dX5_attempt_16 : decode cX5_attempt 16 = .ok (.iload_n 3, 1) := by decide +kernel
theorem dX5_attempt_17 : decode cX5_attempt 17 = .ok (.iconst 0, 1) := by decide +kernel
theorem dX5_attempt_18 : decode cX5_attempt 18 = .ok (.iconst 1, 1) := by decide +kernel
theorem dX5_attempt_19 : decode cX5_attempt 19 = .ok (.invokestatic 33, 3) := by decide +kernel
theorem dX5_attempt_22 : decode cX5_attempt 22 = .ok (.ifCond .ne 6, 3) := by decide +kernel
theorem dX5_attempt_25 : decode cX5_attempt 25 = .ok (.bipush (-2), 2) := by decide +kernel
theorem dX5_attempt_27 : decode cX5_attempt 27 = .ok (.ireturn, 1) := by decide +kernel
theorem dX5_attempt_28 : decode cX5_attempt 28 = .ok (.aload_n 0, 1) := by decide +kernel
theorem dX5_attempt_29 : decode cX5_attempt 29 = .ok (.iload_n 1, 1) := by decide +kernel
theorem dX5_attempt_30 : decode cX5_attempt 30 = .ok (.iconst 0, 1) := by decide +kernel
theorem dX5_attempt_31 : decode cX5_attempt 31 = .ok (.invokevirtual 67, 3) := by decide +kernel
theorem dX5_attempt_34 : decode cX5_attempt 34 = .ok (.ifCond .eq 6, 3) := by decide +kernel
theorem dX5_attempt_37 : decode cX5_attempt 37 = .ok (.bipush (-5), 2) := by decide +kernel
theorem dX5_attempt_39 : decode cX5_attempt 39 = .ok (.ireturn, 1) := by decide +kernel
theorem dX5_attempt_40 : decode cX5_attempt 40 = .ok (.aload_n 0, 1) := by decide +kernel
theorem dX5_attempt_41 : decode cX5_attempt 41 = .ok (.invokevirtual 169, 3) := by decide +kernel
theorem dX5_attempt_44 : decode cX5_attempt 44 = .ok (.aload_n 0, 1) := by decide +kernel
theorem dX5_attempt_45 : decode cX5_attempt 45 = .ok (.iload_n 1, 1) := by decide +kernel
theorem dX5_attempt_46 : decode cX5_attempt 46 = .ok (.invokevirtual 175, 3) := by decide +kernel
theorem dX5_attempt_49 : decode cX5_attempt 49 = .ok (.istore 4, 2) := by decide +kernel
theorem dX5_attempt_51 : decode cX5_attempt 51 = .ok (.iconst 0, 1) := by decide +kernel
theorem dX5_attempt_52 : decode cX5_attempt 52 = .ok (.istore 5, 2) := by decide +kernel
theorem dX5_attempt_54 : decode cX5_attempt 54 = .ok (.iconst 0, 1) := by decide +kernel
theorem dX5_attempt_55 : decode cX5_attempt 55 = .ok (.istore 6, 2) := by decide +kernel
theorem dX5_attempt_57 : decode cX5_attempt 57 = .ok (.iload 5, 2) := by decide +kernel
theorem dX5_attempt_59 : decode cX5_attempt 59 = .ok (.sipush 500, 3) := by decide +kernel
theorem dX5_attempt_62 : decode cX5_attempt 62 = .ok (.if_icmp .ge 66, 3) := by decide +kernel
theorem dX5_attempt_65 : decode cX5_attempt 65 = .ok (.aload_n 0, 1) := by decide +kernel
theorem dX5_attempt_66 : decode cX5_attempt 66 = .ok (.iload_n 1, 1) := by decide +kernel
theorem dX5_attempt_67 : decode cX5_attempt 67 = .ok (.iconst 0, 1) := by decide +kernel
theorem dX5_attempt_68 : decode cX5_attempt 68 = .ok (.invokevirtual 67, 3) := by decide +kernel
theorem dX5_attempt_71 : decode cX5_attempt 71 = .ok (.invokestatic 178, 3) := by decide +kernel
theorem dX5_attempt_74 : decode cX5_attempt 74 = .ok (.ifCond .ne 54, 3) := by decide +kernel
theorem dX5_attempt_77 : decode cX5_attempt 77 = .ok (.aload_n 0, 1) := by decide +kernel
theorem dX5_attempt_78 : decode cX5_attempt 78 = .ok (.invokevirtual 137, 3) := by decide +kernel
theorem dX5_attempt_81 : decode cX5_attempt 81 = .ok (.iinc 5 1, 3) := by decide +kernel
theorem dX5_attempt_84 : decode cX5_attempt 84 = .ok (.iload 6, 2) := by decide +kernel
theorem dX5_attempt_86 : decode cX5_attempt 86 = .ok (.ifCond .ne (-29), 3) := by decide +kernel
theorem dX5_attempt_89 : decode cX5_attempt 89 = .ok (.aload_n 0, 1) := by decide +kernel
theorem dX5_attempt_90 : decode cX5_attempt 90 = .ok (.iload_n 1, 1) := by decide +kernel
theorem dX5_attempt_91 : decode cX5_attempt 91 = .ok (.iconst 0, 1) := by decide +kernel
theorem dX5_attempt_92 : decode cX5_attempt 92 = .ok (.invokevirtual 67, 3) := by decide +kernel
theorem dX5_attempt_95 : decode cX5_attempt 95 = .ok (.iconst 2, 1) := by decide +kernel
theorem dX5_attempt_96 : decode cX5_attempt 96 = .ok (.if_icmp .ne (-39), 3) := by decide +kernel
theorem dX5_attempt_99 : decode cX5_attempt 99 = .ok (.aload_n 0, 1) := by decide +kernel
theorem dX5_attempt_100 : decode cX5_attempt 100 = .ok (.iload_n 1, 1) := by decide +kernel
theorem dX5_attempt_101 : decode cX5_attempt 101 = .ok (.iload_n 2, 1) := by decide +kernel
theorem dX5_attempt_102 : decode cX5_attempt 102 = .ok (.iconst 4, 1) := by decide +kernel
theorem dX5_attempt_103 : decode cX5_attempt 103 = .ok (.idiv, 1) := by decide +kernel
theorem dX5_attempt_104 : decode cX5_attempt 104 = .ok (.iconst 1, 1) := by decide +kernel
theorem dX5_attempt_105 : decode cX5_attempt 105 = .ok (.iadd, 1) := by decide +kernel
theorem dX5_attempt_106 : decode cX5_attempt 106 = .ok (.invokevirtual 181, 3) := by decide +kernel
theorem dX5_attempt_109 : decode cX5_attempt 109 = .ok (.aload_n 0, 1) := by decide +kernel
theorem dX5_attempt_110 : decode cX5_attempt 110 = .ok (.iload_n 1, 1) := by decide +kernel
theorem dX5_attempt_111 : decode cX5_attempt 111 = .ok (.iload_n 2, 1) := by decide +kernel
theorem dX5_attempt_112 : decode cX5_attempt 112 = .ok (.iconst 4, 1) := by decide +kernel
theorem dX5_attempt_113 : decode cX5_attempt 113 = .ok (.irem, 1) := by decide +kernel
theorem dX5_attempt_114 : decode cX5_attempt 114 = .ok (.iconst 1, 1) := by decide +kernel
theorem dX5_attempt_115 : decode cX5_attempt 115 = .ok (.iadd, 1) := by decide +kernel
theorem dX5_attempt_116 : decode cX5_attempt 116 = .ok (.invokevirtual 181, 3) := by decide +kernel
theorem dX5_attempt_119 : decode cX5_attempt 119 = .ok (.iadd, 1) := by decide +kernel
theorem dX5_attempt_120 : decode cX5_attempt 120 = .ok (.istore 4, 2) := by decide +kernel
theorem dX5_attempt_122 : decode cX5_attempt 122 = .ok (.iconst 1, 1) := by decide +kernel
theorem dX5_attempt_123 : decode cX5_attempt 123 = .ok (.istore 6, 2) := by decide +kernel
theorem dX5_attempt_125 : decode cX5_attempt 125 = .ok (.goto (-68), 3) := by decide +kernel
theorem dX5_attempt_128 : decode cX5_attempt 128 = .ok (.iload_n 3, 1) := by decide +kernel
theorem dX5_attempt_129 : decode cX5_attempt 129 = .ok (.ifCond .ne 12, 3) := by decide +kernel
theorem dX5_attempt_132 : decode cX5_attempt 132 = .ok (.aload_n 0, 1) := by decide +kernel
theorem dX5_attempt_133 : decode cX5_attempt 133 = .ok (.iload_n 1, 1) := by decide +kernel
theorem dX5_attempt_134 : decode cX5_attempt 134 = .ok (.iconst 0, 1) := by decide +kernel
theorem dX5_attempt_135 : decode cX5_attempt 135 = .ok (.invokevirtual 67, 3) := by decide +kernel
theorem dX5_attempt_138 : decode cX5_attempt 138 = .ok (.goto 5, 3) := by decide +kernel
theorem dX5_attempt_141 : decode cX5_attempt 141 = .ok (.iload 5, 2) := by decide +kernel
theorem dX5_attempt_143 : decode cX5_attempt 143 = .ok (.istore 4, 2) := by decide +kernel
theorem dX5_attempt_145 : decode cX5_attempt 145 = .ok (.aload_n 0, 1) := by decide +kernel
theorem dX5_attempt_146 : decode cX5_attempt 146 = .ok (.invokevirtual 172, 3) := by decide +kernel
theorem dX5_attempt_149 : decode cX5_attempt 149 = .ok (.iload 4, 2) := by decide +kernel
theorem dX5_attempt_151 : decode cX5_attempt 151 = .ok (.ireturn, 1) := by decide +kernel
theorem dX5_put_0 : decode cX5_put 0 = .ok (.iconst 0, 1) := by decide +kernel
theorem dX5_put_1 : decode cX5_put 1 = .ok (.istore_n 3, 1) := by decide +kernel
theorem dX5_put_2 : decode cX5_put 2 = .ok (.lload_n 1, 1) := by decide +kernel
theorem dX5_put_3 : decode cX5_put 3 = .ok (.lstore 4, 2) := by decide +kernel
theorem dX5_put_5 : decode cX5_put 5 = .ok (.iload_n 3, 1) := by decide +kernel
theorem dX5_put_6 : decode cX5_put 6 = .ok (.bipush 8, 2) := by decide +kernel
theorem dX5_put_8 : decode cX5_put 8 = .ok (.if_icmp .ge 47, 3) := by decide +kernel
theorem dX5_put_11 : decode cX5_put 11 = .ok (.lload 4, 2) := by decide +kernel
theorem dX5_put_13 : decode cX5_put 13 = .ok (.ldc2_w 184, 3) := by decide +kernel
theorem dX5_put_16 : decode cX5_put 16 = .ok (.land, 1) := by decide +kernel
theorem dX5_put_17 : decode cX5_put 17 = .ok (.lconst 0, 1) := by decide +kernel
theorem dX5_put_18 : decode cX5_put 18 = .ok (.lcmp, 1) := by decide +kernel
theorem dX5_put_19 : decode cX5_put 19 = .ok (.ifCond .eq 36, 3) := by decide +kernel
theorem dX5_put_22 : decode cX5_put 22 = .ok (.lload 4, 2) := by decide +kernel
theorem dX5_put_24 : decode cX5_put 24 = .ok (.ldc2_w 184, 3) := by decide +kernel
theorem dX5_put_27 : decode cX5_put 27 = .ok (.land, 1) := by decide +kernel
theorem dX5_put_28 : decode cX5_put 28 = .ok (.l2i, 1) := by decide +kernel
theorem dX5_put_29 : decode cX5_put 29 = .ok (.bipush 33, 2) := by decide +kernel
theorem dX5_put_31 : decode cX5_put 31 = .ok (.bipush 126, 2) := by decide +kernel
theorem dX5_put_33 : decode cX5_put 33 = .ok (.invokestatic 33, 3) := by decide +kernel
theorem dX5_put_36 : decode cX5_put 36 = .ok (.ifCond .ne 6, 3) := by decide +kernel
theorem dX5_put_39 : decode cX5_put 39 = .ok (.bipush (-2), 2) := by decide +kernel
theorem dX5_put_41 : decode cX5_put 41 = .ok (.ireturn, 1) := by decide +kernel
theorem dX5_put_42 : decode cX5_put 42 = .ok (.iinc 3 1, 3) := by decide +kernel
theorem dX5_put_45 : decode cX5_put 45 = .ok (.lload 4, 2) := by decide +kernel
theorem dX5_put_47 : decode cX5_put 47 = .ok (.bipush 8, 2) := by decide +kernel
theorem dX5_put_49 : decode cX5_put 49 = .ok (.lushr, 1) := by decide +kernel
theorem dX5_put_50 : decode cX5_put 50 = .ok (.lstore 4, 2) := by decide +kernel
theorem dX5_put_52 : decode cX5_put 52 = .ok (.goto (-47), 3) := by decide +kernel
theorem dX5_put_55 : decode cX5_put 55 = .ok (.iload_n 3, 1) := by decide +kernel
theorem dX5_put_56 : decode cX5_put 56 = .ok (.ifCond .eq 10, 3) := by decide +kernel
theorem dX5_put_59 : decode cX5_put 59 = .ok (.lload 4, 2) := by decide +kernel
theorem dX5_put_61 : decode cX5_put 61 = .ok (.lconst 0, 1) := by decide +kernel
theorem dX5_put_62 : decode cX5_put 62 = .ok (.lcmp, 1) := by decide +kernel
theorem dX5_put_63 : decode cX5_put 63 = .ok (.ifCond .eq 6, 3) := by decide +kernel
theorem dX5_put_66 : decode cX5_put 66 = .ok (.bipush (-2), 2) := by decide +kernel
theorem dX5_put_68 : decode cX5_put 68 = .ok (.ireturn, 1) := by decide +kernel
theorem dX5_put_69 : decode cX5_put 69 = .ok (.aload_n 0, 1) := by decide +kernel
theorem dX5_put_70 : decode cX5_put 70 = .ok (.getfield 165, 3) := by decide +kernel
theorem dX5_put_73 : decode cX5_put 73 = .ok (.iload_n 3, 1) := by decide +kernel
theorem dX5_put_74 : decode cX5_put 74 = .ok (.iadd, 1) := by decide +kernel
theorem dX5_put_75 : decode cX5_put 75 = .ok (.bipush 60, 2) := by decide +kernel
theorem dX5_put_77 : decode cX5_put 77 = .ok (.if_icmp .le 6, 3) := by decide +kernel
theorem dX5_put_80 : decode cX5_put 80 = .ok (.bipush (-4), 2) := by decide +kernel
theorem dX5_put_82 : decode cX5_put 82 = .ok (.ireturn, 1) := by decide +kernel
theorem dX5_put_83 : decode cX5_put 83 = .ok (.iconst 0, 1) := by decide +kernel
theorem dX5_put_84 : decode cX5_put 84 = .ok (.istore 6, 2) := by decide +kernel
theorem dX5_put_86 : decode cX5_put 86 = .ok (.iload 6, 2) := by decide +kernel
theorem dX5_put_88 : decode cX5_put 88 = .ok (.iload_n 3, 1) := by decide +kernel
theorem dX5_put_89 : decode cX5_put 89 = .ok (.if_icmp .ge 37, 3) := by decide +kernel
theorem dX5_put_92 : decode cX5_put 92 = .ok (.aload_n 0, 1) := by decide +kernel
theorem dX5_put_93 : decode cX5_put 93 = .ok (.getfield 23, 3) := by decide +kernel
theorem dX5_put_96 : decode cX5_put 96 = .ok (.aload_n 0, 1) := by decide +kernel
theorem dX5_put_97 : decode cX5_put 97 = .ok (.getfield 165, 3) := by decide +kernel
theorem dX5_put_100 : decode cX5_put 100 = .ok (.iload 6, 2) := by decide +kernel
theorem dX5_put_102 : decode cX5_put 102 = .ok (.iadd, 1) := by decide +kernel
theorem dX5_put_103 : decode cX5_put 103 = .ok (.lload_n 1, 1) := by decide +kernel
theorem dX5_put_104 : decode cX5_put 104 = .ok (.bipush 8, 2) := by decide +kernel
theorem dX5_put_106 : decode cX5_put 106 = .ok (.iload_n 3, 1) := by decide +kernel
theorem dX5_put_107 : decode cX5_put 107 = .ok (.iconst 1, 1) := by decide +kernel
theorem dX5_put_108 : decode cX5_put 108 = .ok (.isub, 1) := by decide +kernel
theorem dX5_put_109 : decode cX5_put 109 = .ok (.iload 6, 2) := by decide +kernel
theorem dX5_put_111 : decode cX5_put 111 = .ok (.isub, 1) := by decide +kernel
theorem dX5_put_112 : decode cX5_put 112 = .ok (.imul, 1) := by decide +kernel
theorem dX5_put_113 : decode cX5_put 113 = .ok (.lshr, 1) := by decide +kernel
theorem dX5_put_114 : decode cX5_put 114 = .ok (.ldc2_w 184, 3) := by decide +kernel
theorem dX5_put_117 : decode cX5_put 117 = .ok (.land, 1) := by decide +kernel
theorem dX5_put_118 : decode cX5_put 118 = .ok (.l2i, 1) := by decide +kernel
theorem dX5_put_119 : decode cX5_put 119 = .ok (.iastore, 1) := by decide +kernel
theorem dX5_put_120 : decode cX5_put 120 = .ok (.iinc 6 1, 3) := by decide +kernel
theorem dX5_put_123 : decode cX5_put 123 = .ok (.goto (-37), 3) := by decide +kernel
theorem dX5_put_126 : decode cX5_put 126 = .ok (.aload_n 0, 1) := by decide +kernel
theorem dX5_put_127 : decode cX5_put 127 = .ok (.dup, 1) := by decide +kernel
theorem dX5_put_128 : decode cX5_put 128 = .ok (.getfield 165, 3) := by decide +kernel
theorem dX5_put_131 : decode cX5_put 131 = .ok (.iload_n 3, 1) := by decide +kernel
theorem dX5_put_132 : decode cX5_put 132 = .ok (.iadd, 1) := by decide +kernel
theorem dX5_put_133 : decode cX5_put 133 = .ok (.putfield 165, 3) := by decide +kernel
theorem dX5_put_136 : decode cX5_put 136 = .ok (.aload_n 0, 1) := by decide +kernel
theorem dX5_put_137 : decode cX5_put 137 = .ok (.getfield 165, 3) := by decide +kernel
theorem dX5_put_140 : decode cX5_put 140 = .ok (.ireturn, 1) := by decide +kernel
theorem dX5_wipe_0 : decode cX5_wipe 0 = .ok (.aload_n 0, 1) := by decide +kernel
theorem dX5_wipe_1 : decode cX5_wipe 1 = .ok (.getfield 165, 3) := by decide +kernel
theorem dX5_wipe_4 : decode cX5_wipe 4 = .ok (.istore_n 1, 1) := by decide +kernel
theorem dX5_wipe_5 : decode cX5_wipe 5 = .ok (.aload_n 0, 1) := by decide +kernel
theorem dX5_wipe_6 : decode cX5_wipe 6 = .ok (.iconst 0, 1) := by decide +kernel
theorem dX5_wipe_7 : decode cX5_wipe 7 = .ok (.putfield 165, 3) := by decide +kernel
theorem dX5_wipe_10 : decode cX5_wipe 10 = .ok (.iload_n 1, 1) := by decide +kernel
theorem dX5_wipe_11 : decode cX5_wipe 11 = .ok (.ireturn, 1) := by decide +kernel
theorem dX5_next_0 : decode cX5_next 0 = .ok (.aload_n 0, 1) := by decide +kernel
theorem dX5_next_1 : decode cX5_next 1 = .ok (.getfield 186, 3) := by decide +kernel
theorem dX5_next_4 : decode cX5_next 4 = .ok (.aload_n 0, 1) := by decide +kernel
theorem dX5_next_5 : decode cX5_next 5 = .ok (.getfield 165, 3) := by decide +kernel
theorem dX5_next_8 : decode cX5_next 8 = .ok (.if_icmp .ge 15, 3) := by decide +kernel
theorem dX5_next_11 : decode cX5_next 11 = .ok (.aload_n 0, 1) := by decide +kernel
theorem dX5_next_12 : decode cX5_next 12 = .ok (.getfield 23, 3) := by decide +kernel
theorem dX5_next_15 : decode cX5_next 15 = .ok (.aload_n 0, 1) := by decide +kernel
theorem dX5_next_16 : decode cX5_next 16 = .ok (.getfield 186, 3) := by decide +kernel
theorem dX5_next_19 : decode cX5_next 19 = .ok (.iaload, 1) := by decide +kernel
theorem dX5_next_20 : decode cX5_next 20 = .ok (.goto 4, 3) := by decide +kernel
theorem dX5_next_23 : decode cX5_next 23 = .ok (.iconst 0, 1) := by decide +kernel
theorem dX5_next_24 : decode cX5_next 24 = .ok (.ireturn, 1) := by decide +kernel
theorem dX5_lineBy_0 : decode cX5_lineBy 0 = .ok (.iload_n 0, 1) := by decide +kernel
theorem dX5_lineBy_1 : decode cX5_lineBy 1 = .ok (.bipush 48, 2) := by decide +kernel
theorem dX5_lineBy_3 : decode cX5_lineBy 3 = .ok (.bipush 57, 2) := by decide +kernel
theorem dX5_lineBy_5 : decode cX5_lineBy 5 = .ok (.invokestatic 33, 3) := by decide +kernel
theorem dX5_lineBy_8 : decode cX5_lineBy 8 = .ok (.ifCond .eq 10, 3) := by decide +kernel
theorem dX5_lineBy_11 : decode cX5_lineBy 11 = .ok (.iload_n 0, 1) := by decide +kernel
theorem dX5_lineBy_12 : decode cX5_lineBy 12 = .ok (.bipush 48, 2) := by decide +kernel
theorem dX5_lineBy_14 : decode cX5_lineBy 14 = .ok (.isub, 1) := by decide +kernel
theorem dX5_lineBy_15 : decode cX5_lineBy 15 = .ok (.goto 26, 3) := by decide +kernel
theorem dX5_lineBy_18 : decode cX5_lineBy 18 = .ok (.iload_n 0, 1) := by decide +kernel
theorem dX5_lineBy_19 : decode cX5_lineBy 19 = .ok (.bipush 97, 2) := by decide +kernel
theorem dX5_lineBy_21 : decode cX5_lineBy 21 = .ok (.bipush 102, 2) := by decide +kernel
theorem dX5_lineBy_23 : decode cX5_lineBy 23 = .ok (.invokestatic 33, 3) := by decide +kernel
theorem dX5_lineBy_26 : decode cX5_lineBy 26 = .ok (.ifCond .eq 13, 3) := by decide +kernel
theorem dX5_lineBy_29 : decode cX5_lineBy 29 = .ok (.iload_n 0, 1) := by decide +kernel
theorem dX5_lineBy_30 : decode cX5_lineBy 30 = .ok (.bipush 97, 2) := by decide +kernel
theorem dX5_lineBy_32 : decode cX5_lineBy 32 = .ok (.isub, 1) := by decide +kernel
theorem dX5_lineBy_33 : decode cX5_lineBy 33 = .ok (.bipush 10, 2) := by decide +kernel
theorem dX5_lineBy_35 : decode cX5_lineBy 35 = .ok (.iadd, 1) := by decide +kernel
theorem dX5_lineBy_36 : decode cX5_lineBy 36 = .ok (.goto 5, 3) := by decide +kernel
theorem dX5_lineBy_39 : decode cX5_lineBy 39 = .ok (.bipush (-6), 2) := by decide +kernel
theorem dX5_lineBy_41 : decode cX5_lineBy 41 = .ok (.ireturn, 1) := by decide +kernel
theorem dX5_readLine_0 : decode cX5_readLine 0 = .ok (.aload_n 0, 1) := by decide +kernel
theorem dX5_readLine_1 : decode cX5_readLine 1 = .ok (.invokevirtual 189, 3) := by decide +kernel
theorem dX5_readLine_4 : decode cX5_readLine 4 = .ok (.invokestatic 193, 3) := by decide +kernel
theorem dX5_readLine_7 : decode cX5_readLine 7 = .ok (.istore_n 1, 1) := by decide +kernel
theorem dX5_readLine_8 : decode cX5_readLine 8 = .ok (.aload_n 0, 1) := by decide +kernel
theorem dX5_readLine_9 : decode cX5_readLine 9 = .ok (.aload_n 0, 1) := by decide +kernel
theorem dX5_readLine_10 : decode cX5_readLine 10 = .ok (.getfield 196, 3) := by decide +kernel
theorem dX5_readLine_13 : decode cX5_readLine 13 = .ok (.ifCond .ne 7, 3) := by decide +kernel
theorem dX5_readLine_16 : decode cX5_readLine 16 = .ok (.iload_n 1, 1) := by decide +kernel
theorem dX5_readLine_17 : decode cX5_readLine 17 = .ok (.ifCond .ge 7, 3) := by decide +kernel
theorem dX5_readLine_20 : decode cX5_readLine 20 = .ok (.iconst 1, 1) := by decide +kernel
theorem dX5_readLine_21 : decode cX5_readLine 21 = .ok (.goto 4, 3) := by decide +kernel
theorem dX5_readLine_24 : decode cX5_readLine 24 = .ok (.iconst 0, 1) := by decide +kernel
theorem dX5_readLine_25 : decode cX5_readLine 25 = .ok (.putfield 196, 3) := by decide +kernel
theorem dX5_readLine_28 : decode cX5_readLine 28 = .ok (.aload_n 0, 1) := by decide +kernel
theorem dX5_readLine_29 : decode cX5_readLine 29 = .ok (.dup, 1) := by decide +kernel
theorem dX5_readLine_30 : decode cX5_readLine 30 = .ok (.getfield 186, 3) := by decide +kernel
theorem dX5_readLine_33 : decode cX5_readLine 33 = .ok (.aload_n 0, 1) := by decide +kernel
theorem dX5_readLine_34 : decode cX5_readLine 34 = .ok (.getfield 196, 3) := by decide +kernel
theorem dX5_readLine_37 : decode cX5_readLine 37 = .ok (.ifCond .eq 7, 3) := by decide +kernel
theorem dX5_readLine_40 : decode cX5_readLine 40 = .ok (.iconst 0, 1) := by decide +kernel
theorem dX5_readLine_41 : decode cX5_readLine 41 = .ok (.goto 4, 3) := by decide +kernel
theorem dX5_readLine_44 : decode cX5_readLine 44 = .ok (.iconst 1, 1) := by decide +kernel
theorem dX5_readLine_45 : decode cX5_readLine 45 = .ok (.iadd, 1) := by decide +kernel
theorem dX5_readLine_46 : decode cX5_readLine 46 = .ok (.putfield 186, 3) := by decide +kernel
theorem dX5_readLine_49 : decode cX5_readLine 49 = .ok (.iload_n 1, 1) := by decide +kernel
theorem dX5_readLine_50 : decode cX5_readLine 50 = .ok (.ireturn, 1) := by decide +kernel
theorem dX5_readNumber_0 : decode cX5_readNumber 0 = .ok (.aload_n 0, 1) := by decide +kernel
theorem dX5_readNumber_1 : decode cX5_readNumber 1 = .ok (.invokevirtual 189, 3) := by decide +kernel
theorem dX5_readNumber_4 : decode cX5_readNumber 4 = .ok (.bipush 49, 2) := by decide +kernel
theorem dX5_readNumber_6 : decode cX5_readNumber 6 = .ok (.bipush 57, 2) := by decide +kernel
theorem dX5_readNumber_8 : decode cX5_readNumber 8 = .ok (.invokestatic 33, 3) := by decide +kernel
theorem dX5_readNumber_11 : decode cX5_readNumber 11 = .ok (.ifCond .ne 10, 3) := by decide +kernel
theorem dX5_readNumber_14 : decode cX5_readNumber 14 = .ok (.aload_n 0, 1) := by decide +kernel
theorem dX5_readNumber_15 : decode cX5_readNumber 15 = .ok (.iconst 1, 1) := by decide +kernel
theorem dX5_readNumber_16 : decode cX5_readNumber 16 = .ok (.putfield 196, 3) := by decide +kernel
theorem dX5_readNumber_19 : decode cX5_readNumber 19 = .ok (.iconst 0, 1) := by decide +kernel
theorem dX5_readNumber_20 : decode cX5_readNumber 20 = .ok (.ireturn, 1) := by decide +kernel
theorem dX5_readNumber_21 : decode cX5_readNumber 21 = .ok (.aload_n 0, 1) := by decide +kernel
theorem dX5_readNumber_22 : decode cX5_readNumber 22 = .ok (.invokevirtual 189, 3) := by decide +kernel
theorem dX5_readNumber_25 : decode cX5_readNumber 25 = .ok (.bipush 48, 2) := by decide +kernel
theorem dX5_readNumber_27 : decode cX5_readNumber 27 = .ok (.isub, 1) := by decide +kernel
theorem dX5_readNumber_28 : decode cX5_readNumber 28 = .ok (.istore_n 1, 1) := by decide +kernel
theorem dX5_readNumber_29 : decode cX5_readNumber 29 = .ok (.aload_n 0, 1) := by decide +kernel
theorem dX5_readNumber_30 : decode cX5_readNumber 30 = .ok (.dup, 1) := by decide +kernel
theorem dX5_readNumber_31 : decode cX5_readNumber 31 = .ok (.getfield 186, 3) := by decide +kernel
theorem dX5_readNumber_34 : decode cX5_readNumber 34 = .ok (.iconst 1, 1) := by decide +kernel
theorem dX5_readNumber_35 : decode cX5_readNumber 35 = .ok (.iadd, 1) := by decide +kernel
theorem dX5_readNumber_36 : decode cX5_readNumber 36 = .ok (.putfield 186, 3) := by decide +kernel
theorem dX5_readNumber_39 : decode cX5_readNumber 39 = .ok (.aload_n 0, 1) := by decide +kernel
theorem dX5_readNumber_40 : decode cX5_readNumber 40 = .ok (.invokevirtual 189, 3) := by decide +kernel
theorem dX5_readNumber_43 : decode cX5_readNumber 43 = .ok (.bipush 48, 2) := by decide +kernel
theorem dX5_readNumber_45 : decode cX5_readNumber 45 = .ok (.bipush 57, 2) := by decide +kernel
theorem dX5_readNumber_47 : decode cX5_readNumber 47 = .ok (.invokestatic 33, 3) := by decide +kernel
theorem dX5_readNumber_50 : decode cX5_readNumber 50 = .ok (.ifCond .eq 47, 3) := by decide +kernel
theorem dX5_readNumber_53 : decode cX5_readNumber 53 = .ok (.bipush 10, 2) := by decide +kernel
theorem dX5_readNumber_55 : decode cX5_readNumber 55 = .ok (.iload_n 1, 1) := by decide +kernel
theorem dX5_readNumber_56 : decode cX5_readNumber 56 = .ok (.imul, 1) := by decide +kernel
theorem dX5_readNumber_57 : decode cX5_readNumber 57 = .ok (.aload_n 0, 1) := by decide +kernel
theorem dX5_readNumber_58 : decode cX5_readNumber 58 = .ok (.invokevirtual 189, 3) := by decide +kernel
theorem dX5_readNumber_61 : decode cX5_readNumber 61 = .ok (.iadd, 1) := by decide +kernel
theorem dX5_readNumber_62 : decode cX5_readNumber 62 = .ok (.bipush 48, 2) := by decide +kernel
theorem dX5_readNumber_64 : decode cX5_readNumber 64 = .ok (.isub, 1) := by decide +kernel
theorem dX5_readNumber_65 : decode cX5_readNumber 65 = .ok (.sipush 200, 3) := by decide +kernel
theorem dX5_readNumber_68 : decode cX5_readNumber 68 = .ok (.if_icmp .gt 29, 3) := by decide +kernel
theorem dX5_readNumber_71 : decode cX5_readNumber 71 = .ok (.bipush 10, 2) := by decide +kernel
theorem dX5_readNumber_73 : decode cX5_readNumber 73 = .ok (.iload_n 1, 1) := by decide +kernel
theorem dX5_readNumber_74 : decode cX5_readNumber 74 = .ok (.imul, 1) := by decide +kernel
theorem dX5_readNumber_75 : decode cX5_readNumber 75 = .ok (.aload_n 0, 1) := by decide +kernel
theorem dX5_readNumber_76 : decode cX5_readNumber 76 = .ok (.invokevirtual 189, 3) := by decide +kernel
theorem dX5_readNumber_79 : decode cX5_readNumber 79 = .ok (.iadd, 1) := by decide +kernel
theorem dX5_readNumber_80 : decode cX5_readNumber 80 = .ok (.bipush 48, 2) := by decide +kernel
theorem dX5_readNumber_82 : decode cX5_readNumber 82 = .ok (.isub, 1) := by decide +kernel
theorem dX5_readNumber_83 : decode cX5_readNumber 83 = .ok (.istore_n 1, 1) := by decide +kernel
theorem dX5_readNumber_84 : decode cX5_readNumber 84 = .ok (.aload_n 0, 1) := by decide +kernel
theorem dX5_readNumber_85 : decode cX5_readNumber 85 = .ok (.dup, 1) := by decide +kernel
theorem dX5_readNumber_86 : decode cX5_readNumber 86 = .ok (.getfield 186, 3) := by decide +kernel
theorem dX5_readNumber_89 : decode cX5_readNumber 89 = .ok (.iconst 1, 1) := by decide +kernel
theorem dX5_readNumber_90 : decode cX5_readNumber 90 = .ok (.iadd, 1) := by decide +kernel
theorem dX5_readNumber_91 : decode cX5_readNumber 91 = .ok (.putfield 186, 3) := by decide +kernel
theorem dX5_readNumber_94 : decode cX5_readNumber 94 = .ok (.goto (-55), 3) := by decide +kernel
theorem dX5_readNumber_97 : decode cX5_readNumber 97 = .ok (.iload_n 1, 1) := by decide +kernel
theorem dX5_readNumber_98 : decode cX5_readNumber 98 = .ok (.ireturn, 1) := by decide +kernel
theorem dX5_readDigits_0 : decode cX5_readDigits 0 = .ok (.aload_n 0, 1) := by decide +kernel
theorem dX5_readDigits_1 : decode cX5_readDigits 1 = .ok (.getfield 26, 3) := by decide +kernel
theorem dX5_readDigits_4 : decode cX5_readDigits 4 = .ok (.iload_n 1, 1) := by decide +kernel
theorem dX5_readDigits_5 : decode cX5_readDigits 5 = .ok (.iconst 2, 1) := by decide +kernel
theorem dX5_readDigits_6 : decode cX5_readDigits 6 = .ok (.iadd, 1) := by decide +kernel
theorem dX5_readDigits_7 : decode cX5_readDigits 7 = .ok (.aload_n 0, 1) := by decide +kernel
theorem dX5_readDigits_8 : decode cX5_readDigits 8 = .ok (.getfield 186, 3) := by decide +kernel
theorem dX5_readDigits_11 : decode cX5_readDigits 11 = .ok (.iastore, 1) := by decide +kernel
theorem dX5_readDigits_12 : decode cX5_readDigits 12 = .ok (.aload_n 0, 1) := by decide +kernel
theorem dX5_readDigits_13 : decode cX5_readDigits 13 = .ok (.getfield 196, 3) := by decide +kernel
theorem dX5_readDigits_16 : decode cX5_readDigits 16 = .ok (.ifCond .ne 30, 3) := by decide +kernel
theorem dX5_readDigits_19 : decode cX5_readDigits 19 = .ok (.aload_n 0, 1) := by decide +kernel
theorem dX5_readDigits_20 : decode cX5_readDigits 20 = .ok (.invokevirtual 189, 3) := by decide +kernel
theorem dX5_readDigits_23 : decode cX5_readDigits 23 = .ok (.bipush 48, 2) := by decide +kernel
theorem dX5_readDigits_25 : decode cX5_readDigits 25 = .ok (.bipush 57, 2) := by decide +kernel
theorem dX5_readDigits_27 : decode cX5_readDigits 27 = .ok (.invokestatic 33, 3) := by decide +kernel
theorem dX5_readDigits_30 : decode cX5_readDigits 30 = .ok (.ifCond .eq 16, 3) := by decide +kernel
theorem dX5_readDigits_33 : decode cX5_readDigits 33 = .ok (.aload_n 0, 1) := by decide +kernel
theorem dX5_readDigits_34 : decode cX5_readDigits 34 = .ok (.dup, 1) := by decide +kernel
theorem dX5_readDigits_35 : decode cX5_readDigits 35 = .ok (.getfield 186, 3) := by decide +kernel
theorem dX5_readDigits_38 : decode cX5_readDigits 38 = .ok (.iconst 1, 1) := by decide +kernel
theorem dX5_readDigits_39 : decode cX5_readDigits 39 = .ok (.iadd, 1) := by decide +kernel
theorem dX5_readDigits_40 : decode cX5_readDigits 40 = .ok (.putfield 186, 3) := by decide +kernel
theorem dX5_readDigits_43 : decode cX5_readDigits 43 = .ok (.goto (-31), 3) := by decide +kernel
theorem dX5_readDigits_46 : decode cX5_readDigits 46 = .ok (.aload_n 0, 1) := by decide +kernel
theorem dX5_readDigits_47 : decode cX5_readDigits 47 = .ok (.getfield 26, 3) := by decide +kernel
theorem dX5_readDigits_50 : decode cX5_readDigits 50 = .ok (.iload_n 1, 1) := by decide +kernel
theorem dX5_readDigits_51 : decode cX5_readDigits 51 = .ok (.iconst 3, 1) := by decide +kernel
theorem dX5_readDigits_52 : decode cX5_readDigits 52 = .ok (.iadd, 1) := by decide +kernel
theorem dX5_readDigits_53 : decode cX5_readDigits 53 = .ok (.aload_n 0, 1) := by decide +kernel
theorem dX5_readDigits_54 : decode cX5_readDigits 54 = .ok (.getfield 186, 3) := by decide +kernel
theorem dX5_readDigits_57 : decode cX5_readDigits 57 = .ok (.aload_n 0, 1) := by decide +kernel
theorem dX5_readDigits_58 : decode cX5_readDigits 58 = .ok (.getfield 26, 3) := by decide +kernel
theorem dX5_readDigits_61 : decode cX5_readDigits 61 = .ok (.iload_n 1, 1) := by decide +kernel
theorem dX5_readDigits_62 : decode cX5_readDigits 62 = .ok (.iconst 2, 1) := by decide +kernel
theorem dX5_readDigits_63 : decode cX5_readDigits 63 = .ok (.iadd, 1) := by decide +kernel
theorem dX5_readDigits_64 : decode cX5_readDigits 64 = .ok (.iaload, 1) := by decide +kernel
theorem dX5_readDigits_65 : decode cX5_readDigits 65 = .ok (.isub, 1) := by decide +kernel
theorem dX5_readDigits_66 : decode cX5_readDigits 66 = .ok (.iastore, 1) := by decide +kernel
theorem dX5_readDigits_67 : decode cX5_readDigits 67 = .ok (.aload_n 0, 1) := by decide +kernel
theorem dX5_readDigits_68 : decode cX5_readDigits 68 = .ok (.aload_n 0, 1) := by decide +kernel
theorem dX5_readDigits_69 : decode cX5_readDigits 69 = .ok (.getfield 196, 3) := by decide +kernel
theorem dX5_readDigits_72 : decode cX5_readDigits 72 = .ok (.ifCond .ne 14, 3) := by decide +kernel
theorem dX5_readDigits_75 : decode cX5_readDigits 75 = .ok (.aload_n 0, 1) := by decide +kernel
theorem dX5_readDigits_76 : decode cX5_readDigits 76 = .ok (.getfield 26, 3) := by decide +kernel
theorem dX5_readDigits_79 : decode cX5_readDigits 79 = .ok (.iload_n 1, 1) := by decide +kernel
theorem dX5_readDigits_80 : decode cX5_readDigits 80 = .ok (.iconst 3, 1) := by decide +kernel
theorem dX5_readDigits_81 : decode cX5_readDigits 81 = .ok (.iadd, 1) := by decide +kernel
theorem dX5_readDigits_82 : decode cX5_readDigits 82 = .ok (.iaload, 1) := by decide +kernel
theorem dX5_readDigits_83 : decode cX5_readDigits 83 = .ok (.ifCond .ne 7, 3) := by decide +kernel
theorem dX5_readDigits_86 : decode cX5_readDigits 86 = .ok (.iconst 1, 1) := by decide +kernel
theorem dX5_readDigits_87 : decode cX5_readDigits 87 = .ok (.goto 4, 3) := by decide +kernel
theorem dX5_readDigits_90 : decode cX5_readDigits 90 = .ok (.iconst 0, 1) := by decide +kernel
theorem dX5_readDigits_91 : decode cX5_readDigits 91 = .ok (.putfield 196, 3) := by decide +kernel
theorem dX5_readDigits_94 : decode cX5_readDigits 94 = .ok (.return_, 1) := by decide +kernel
theorem dX5_readAct_0 : decode cX5_readAct 0 = .ok (.aload_n 0, 1) := by decide +kernel
theorem dX5_readAct_1 : decode cX5_readAct 1 = .ok (.invokevirtual 189, 3) := by decide +kernel
theorem dX5_readAct_4 : decode cX5_readAct 4 = .ok (.istore_n 1, 1) := by decide +kernel
theorem dX5_readAct_5 : decode cX5_readAct 5 = .ok (.iload_n 1, 1) := by decide +kernel
theorem dX5_readAct_6 : decode cX5_readAct 6 = .ok (.bipush 108, 2) := by decide +kernel
theorem dX5_readAct_8 : decode cX5_readAct 8 = .ok (.if_icmp .eq 27, 3) := by decide +kernel
theorem dX5_readAct_11 : decode cX5_readAct 11 = .ok (.iload_n 1, 1) := by decide +kernel
theorem dX5_readAct_12 : decode cX5_readAct 12 = .ok (.bipush 104, 2) := by decide +kernel
theorem dX5_readAct_14 : decode cX5_readAct 14 = .ok (.if_icmp .eq 21, 3) := by decide +kernel
theorem dX5_readAct_17 : decode cX5_readAct 17 = .ok (.iload_n 1, 1) := by decide +kernel
theorem dX5_readAct_18 : decode cX5_readAct 18 = .ok (.bipush 100, 2) := by decide +kernel
theorem dX5_readAct_20 : decode cX5_readAct 20 = .ok (.if_icmp .eq 15, 3) := by decide +kernel
theorem dX5_readAct_23 : decode cX5_readAct 23 = .ok (.iload_n 1, 1) := by decide +kernel
theorem dX5_readAct_24 : decode cX5_readAct 24 = .ok (.bipush 116, 2) := by decide +kernel
theorem dX5_readAct_26 : decode cX5_readAct 26 = .ok (.if_icmp .eq 9, 3) := by decide +kernel
theorem dX5_readAct_29 : decode cX5_readAct 29 = .ok (.aload_n 0, 1) := by decide +kernel
theorem dX5_readAct_30 : decode cX5_readAct 30 = .ok (.iconst 1, 1) := by decide +kernel
theorem dX5_readAct_31 : decode cX5_readAct 31 = .ok (.putfield 196, 3) := by decide +kernel
theorem dX5_readAct_34 : decode cX5_readAct 34 = .ok (.return_, 1) := by decide +kernel
theorem dX5_readAct_35 : decode cX5_readAct 35 = .ok (.aload_n 0, 1) := by decide +kernel
theorem dX5_readAct_36 : decode cX5_readAct 36 = .ok (.dup, 1) := by decide +kernel
theorem dX5_readAct_37 : decode cX5_readAct 37 = .ok (.getfield 186, 3) := by decide +kernel
theorem dX5_readAct_40 : decode cX5_readAct 40 = .ok (.iconst 1, 1) := by decide +kernel
theorem dX5_readAct_41 : decode cX5_readAct 41 = .ok (.iadd, 1) := by decide +kernel
theorem dX5_readAct_42 : decode cX5_readAct 42 = .ok (.putfield 186, 3) := by decide +kernel
theorem dX5_readAct_45 : decode cX5_readAct 45 = .ok (.iconst 4, 1) := by decide +kernel
theorem dX5_readAct_46 : decode cX5_readAct 46 = .ok (.aload_n 0, 1) := by decide +kernel
theorem dX5_readAct_47 : decode cX5_readAct 47 = .ok (.getfield 200, 3) := by decide +kernel
theorem dX5_readAct_50 : decode cX5_readAct 50 = .ok (.imul, 1) := by decide +kernel
theorem dX5_readAct_51 : decode cX5_readAct 51 = .ok (.istore_n 2, 1) := by decide +kernel
theorem dX5_readAct_52 : decode cX5_readAct 52 = .ok (.aload_n 0, 1) := by decide +kernel
theorem dX5_readAct_53 : decode cX5_readAct 53 = .ok (.getfield 26, 3) := by decide +kernel
theorem dX5_readAct_56 : decode cX5_readAct 56 = .ok (.iload_n 2, 1) := by decide +kernel
theorem dX5_readAct_57 : decode cX5_readAct 57 = .ok (.iload_n 1, 1) := by decide +kernel
theorem dX5_readAct_58 : decode cX5_readAct 58 = .ok (.iastore, 1) := by decide +kernel
theorem dX5_readAct_59 : decode cX5_readAct 59 = .ok (.aload_n 0, 1) := by decide +kernel
theorem dX5_readAct_60 : decode cX5_readAct 60 = .ok (.getfield 26, 3) := by decide +kernel
theorem dX5_readAct_63 : decode cX5_readAct 63 = .ok (.iload_n 2, 1) := by decide +kernel
theorem dX5_readAct_64 : decode cX5_readAct 64 = .ok (.iconst 1, 1) := by decide +kernel
theorem dX5_readAct_65 : decode cX5_readAct 65 = .ok (.iadd, 1) := by decide +kernel
theorem dX5_readAct_66 : decode cX5_readAct 66 = .ok (.iload_n 1, 1) := by decide +kernel
theorem dX5_readAct_67 : decode cX5_readAct 67 = .ok (.bipush 116, 2) := by decide +kernel
theorem dX5_readAct_69 : decode cX5_readAct 69 = .ok (.if_icmp .ne 10, 3) := by decide +kernel
theorem dX5_readAct_72 : decode cX5_readAct 72 = .ok (.aload_n 0, 1) := by decide +kernel
theorem dX5_readAct_73 : decode cX5_readAct 73 = .ok (.invokevirtual 203, 3) := by decide +kernel
theorem dX5_readAct_76 : decode cX5_readAct 76 = .ok (.goto 7, 3) := by decide +kernel
theorem dX5_readAct_79 : decode cX5_readAct 79 = .ok (.aload_n 0, 1) := by decide +kernel
theorem dX5_readAct_80 : decode cX5_readAct 80 = .ok (.invokevirtual 206, 3) := by decide +kernel
theorem dX5_readAct_83 : decode cX5_readAct 83 = .ok (.iastore, 1) := by decide +kernel
theorem dX5_readAct_84 : decode cX5_readAct 84 = .ok (.iload_n 1, 1) := by decide +kernel
theorem dX5_readAct_85 : decode cX5_readAct 85 = .ok (.bipush 100, 2) := by decide +kernel
theorem dX5_readAct_87 : decode cX5_readAct 87 = .ok (.if_icmp .ne 8, 3) := by decide +kernel
theorem dX5_readAct_90 : decode cX5_readAct 90 = .ok (.aload_n 0, 1) := by decide +kernel
theorem dX5_readAct_91 : decode cX5_readAct 91 = .ok (.iload_n 2, 1) := by decide +kernel
theorem dX5_readAct_92 : decode cX5_readAct 92 = .ok (.invokevirtual 209, 3) := by decide +kernel
theorem dX5_readAct_95 : decode cX5_readAct 95 = .ok (.aload_n 0, 1) := by decide +kernel
theorem dX5_readAct_96 : decode cX5_readAct 96 = .ok (.dup, 1) := by decide +kernel
theorem dX5_readAct_97 : decode cX5_readAct 97 = .ok (.getfield 200, 3) := by decide +kernel
theorem dX5_readAct_100 : decode cX5_readAct 100 = .ok (.iconst 1, 1) := by decide +kernel
theorem dX5_readAct_101 : decode cX5_readAct 101 = .ok (.iadd, 1) := by decide +kernel
theorem dX5_readAct_102 : decode cX5_readAct 102 = .ok (.putfield 200, 3) := by decide +kernel
theorem dX5_readAct_105 : decode cX5_readAct 105 = .ok (.return_, 1) := by decide +kernel
theorem dX5_fault_0 : decode cX5_fault 0 = .ok (.aload_n 0, 1) := by decide +kernel
theorem dX5_fault_1 : decode cX5_fault 1 = .ok (.iconst 0, 1) := by decide +kernel
theorem dX5_fault_2 : decode cX5_fault 2 = .ok (.putfield 186, 3) := by decide +kernel
theorem dX5_fault_5 : decode cX5_fault 5 = .ok (.aload_n 0, 1) := by decide +kernel
theorem dX5_fault_6 : decode cX5_fault 6 = .ok (.iconst 0, 1) := by decide +kernel
theorem dX5_fault_7 : decode cX5_fault 7 = .ok (.putfield 196, 3) := by decide +kernel
theorem dX5_fault_10 : decode cX5_fault 10 = .ok (.aload_n 0, 1) := by decide +kernel
theorem dX5_fault_11 : decode cX5_fault 11 = .ok (.iconst 0, 1) := by decide +kernel
theorem dX5_fault_12 : decode cX5_fault 12 = .ok (.putfield 200, 3) := by decide +kernel
theorem dX5_fault_15 : decode cX5_fault 15 = .ok (.aload_n 0, 1) := by decide +kernel
theorem dX5_fault_16 : decode cX5_fault 16 = .ok (.invokevirtual 212, 3) := by decide +kernel
theorem dX5_fault_19 : decode cX5_fault 19 = .ok (.aload_n 0, 1) := by decide +kernel
theorem dX5_fault_20 : decode cX5_fault 20 = .ok (.getfield 196, 3) := by decide +kernel
theorem dX5_fault_23 : decode cX5_fault 23 = .ok (.ifCond .ne 29, 3) := by decide +kernel
theorem dX5_fault_26 : decode cX5_fault 26 = .ok (.aload_n 0, 1) := by decide +kernel
theorem dX5_fault_27 : decode cX5_fault 27 = .ok (.invokevirtual 189, 3) := by decide +kernel
theorem dX5_fault_30 : decode cX5_fault 30 = .ok (.bipush 44, 2) := by decide +kernel
theorem dX5_fault_32 : decode cX5_fault 32 = .ok (.if_icmp .ne 20, 3) := by decide +kernel
theorem dX5_fault_35 : decode cX5_fault 35 = .ok (.aload_n 0, 1) := by decide +kernel
theorem dX5_fault_36 : decode cX5_fault 36 = .ok (.dup, 1) := by decide +kernel
theorem dX5_fault_37 : decode cX5_fault 37 = .ok (.getfield 186, 3) := by decide +kernel
theorem dX5_fault_40 : decode cX5_fault 40 = .ok (.iconst 1, 1) := by decide +kernel
theorem dX5_fault_41 : decode cX5_fault 41 = .ok (.iadd, 1) := by decide +kernel
theorem dX5_fault_42 : decode cX5_fault 42 = .ok (.putfield 186, 3) := by decide +kernel
theorem dX5_fault_45 : decode cX5_fault 45 = .ok (.aload_n 0, 1) := by decide +kernel
theorem dX5_fault_46 : decode cX5_fault 46 = .ok (.invokevirtual 212, 3) := by decide +kernel
theorem dX5_fault_49 : decode cX5_fault 49 = .ok (.goto (-30), 3) := by decide +kernel
theorem dX5_fault_52 : decode cX5_fault 52 = .ok (.aload_n 0, 1) := by decide +kernel
theorem dX5_fault_53 : decode cX5_fault 53 = .ok (.getfield 196, 3) := by decide +kernel
theorem dX5_fault_56 : decode cX5_fault 56 = .ok (.ifCond .ne 14, 3) := by decide +kernel
theorem dX5_fault_59 : decode cX5_fault 59 = .ok (.aload_n 0, 1) := by decide +kernel
theorem dX5_fault_60 : decode cX5_fault 60 = .ok (.getfield 186, 3) := by decide +kernel
theorem dX5_fault_63 : decode cX5_fault 63 = .ok (.aload_n 0, 1) := by decide +kernel
theorem dX5_fault_64 : decode cX5_fault 64 = .ok (.getfield 165, 3) := by decide +kernel
theorem dX5_fault_67 : decode cX5_fault 67 = .ok (.if_icmp .ge 10, 3) := by decide +kernel
theorem dX5_fault_70 : decode cX5_fault 70 = .ok (.aload_n 0, 1) := by decide +kernel
theorem dX5_fault_71 : decode cX5_fault 71 = .ok (.getfield 186, 3) := by decide +kernel
theorem dX5_fault_74 : decode cX5_fault 74 = .ok (.goto 5, 3) := by decide +kernel
theorem dX5_fault_77 : decode cX5_fault 77 = .ok (.bipush (-6), 2) := by decide +kernel
theorem dX5_fault_79 : decode cX5_fault 79 = .ok (.ireturn, 1) := by decide +kernel
theorem dX5_dials_0 : decode cX5_dials 0 = .ok (.iconst 1, 1) := by decide +kernel
theorem dX5_dials_1 : decode cX5_dials 1 = .ok (.istore_n 2, 1) := by decide +kernel
theorem dX5_dials_2 : decode cX5_dials 2 = .ok (.iconst 0, 1) := by decide +kernel
theorem dX5_dials_3 : decode cX5_dials 3 = .ok (.istore_n 3, 1) := by decide +kernel
theorem dX5_dials_4 : decode cX5_dials 4 = .ok (.iload_n 3, 1) := by decide +kernel
theorem dX5_dials_5 : decode cX5_dials 5 = .ok (.aload_n 0, 1) := by decide +kernel
theorem dX5_dials_6 : decode cX5_dials 6 = .ok (.getfield 26, 3) := by decide +kernel
theorem dX5_dials_9 : decode cX5_dials 9 = .ok (.iload_n 1, 1) := by decide +kernel
theorem dX5_dials_10 : decode cX5_dials 10 = .ok (.iconst 3, 1) := by decide +kernel
theorem dX5_dials_11 : decode cX5_dials 11 = .ok (.iadd, 1) := by decide +kernel
theorem dX5_dials_12 : decode cX5_dials 12 = .ok (.iaload, 1) := by decide +kernel
theorem dX5_dials_13 : decode cX5_dials 13 = .ok (.if_icmp .ge 52, 3) := by decide +kernel
theorem dX5_dials_16 : decode cX5_dials 16 = .ok (.iload_n 2, 1) := by decide +kernel
theorem dX5_dials_17 : decode cX5_dials 17 = .ok (.ifCond .eq 48, 3) := by decide +kernel
theorem dX5_dials_20 : decode cX5_dials 20 = .ok (.aload_n 0, 1) := by decide +kernel
theorem dX5_dials_21 : decode cX5_dials 21 = .ok (.aload_n 0, 1) := by decide +kernel
theorem dX5_dials_22 : decode cX5_dials 22 = .ok (.getfield 26, 3) := by decide +kernel
theorem dX5_dials_25 : decode cX5_dials 25 = .ok (.iload_n 1, 1) := by decide +kernel
theorem dX5_dials_26 : decode cX5_dials 26 = .ok (.iconst 1, 1) := by decide +kernel
theorem dX5_dials_27 : decode cX5_dials 27 = .ok (.iadd, 1) := by decide +kernel
theorem dX5_dials_28 : decode cX5_dials 28 = .ok (.iaload, 1) := by decide +kernel
theorem dX5_dials_29 : decode cX5_dials 29 = .ok (.aload_n 0, 1) := by decide +kernel
theorem dX5_dials_30 : decode cX5_dials 30 = .ok (.getfield 23, 3) := by decide +kernel
theorem dX5_dials_33 : decode cX5_dials 33 = .ok (.aload_n 0, 1) := by decide +kernel
theorem dX5_dials_34 : decode cX5_dials 34 = .ok (.getfield 26, 3) := by decide +kernel
theorem dX5_dials_37 : decode cX5_dials 37 = .ok (.iload_n 1, 1) := by decide +kernel
theorem dX5_dials_38 : decode cX5_dials 38 = .ok (.iconst 2, 1) := by decide +kernel
theorem dX5_dials_39 : decode cX5_dials 39 = .ok (.iadd, 1) := by decide +kernel
theorem dX5_dials_40 : decode cX5_dials 40 = .ok (.iaload, 1) := by decide +kernel
theorem dX5_dials_41 : decode cX5_dials 41 = .ok (.iload_n 3, 1) := by decide +kernel
theorem dX5_dials_42 : decode cX5_dials 42 = .ok (.iadd, 1) := by decide +kernel
theorem dX5_dials_43 : decode cX5_dials 43 = .ok (.iaload, 1) := by decide +kernel
theorem dX5_dials_44 : decode cX5_dials 44 = .ok (.bipush 48, 2) := by decide +kernel
theorem dX5_dials_46 : decode cX5_dials 46 = .ok (.isub, 1) := by decide +kernel
theorem dX5_dials_47 : decode cX5_dials 47 = .ok (.invokevirtual 181, 3) := by decide +kernel
theorem dX5_dials_50 : decode cX5_dials 50 = .ok (.ifCond .lt 7, 3) := by decide +kernel
theorem dX5_dials_53 : decode cX5_dials 53 = .ok (.iconst 1, 1) := by decide +kernel
theorem dX5_dials_54 : decode cX5_dials 54 = .ok (.goto 4, 3) := by decide +kernel
theorem dX5_dials_57 : decode cX5_dials 57 = .ok (.iconst 0, 1) := by decide +kernel
theorem dX5_dials_58 : decode cX5_dials 58 = .ok (.istore_n 2, 1) := by decide +kernel
theorem dX5_dials_59 : decode cX5_dials 59 = .ok (.iinc 3 1, 3) := by decide +kernel
theorem dX5_dials_62 : decode cX5_dials 62 = .ok (.goto (-58), 3) := by decide +kernel
theorem dX5_dials_65 : decode cX5_dials 65 = .ok (.iload_n 2, 1) := by decide +kernel
theorem dX5_dials_66 : decode cX5_dials 66 = .ok (.ireturn, 1) := by decide +kernel
theorem dX5_does_0 : decode cX5_does 0 = .ok (.aload_n 0, 1) := by decide +kernel
theorem dX5_does_1 : decode cX5_does 1 = .ok (.getfield 26, 3) := by decide +kernel
theorem dX5_does_4 : decode cX5_does 4 = .ok (.iload_n 1, 1) := by decide +kernel
theorem dX5_does_5 : decode cX5_does 5 = .ok (.iaload, 1) := by decide +kernel
theorem dX5_does_6 : decode cX5_does 6 = .ok (.lookupswitch 82 #[(100, 76), (104, 55), (108, 34)], 34) := by decide +kernel
theorem dX5_does_40 : decode cX5_does 40 = .ok (.aload_n 0, 1) := by decide +kernel
theorem dX5_does_41 : decode cX5_does 41 = .ok (.aload_n 0, 1) := by decide +kernel
theorem dX5_does_42 : decode cX5_does 42 = .ok (.getfield 26, 3) := by decide +kernel
theorem dX5_does_45 : decode cX5_does 45 = .ok (.iload_n 1, 1) := by decide +kernel
theorem dX5_does_46 : decode cX5_does 46 = .ok (.iconst 1, 1) := by decide +kernel
theorem dX5_does_47 : decode cX5_does 47 = .ok (.iadd, 1) := by decide +kernel
theorem dX5_does_48 : decode cX5_does 48 = .ok (.iaload, 1) := by decide +kernel
theorem dX5_does_49 : decode cX5_does 49 = .ok (.invokevirtual 175, 3) := by decide +kernel
theorem dX5_does_52 : decode cX5_does 52 = .ok (.ifCond .lt 7, 3) := by decide +kernel
theorem dX5_does_55 : decode cX5_does 55 = .ok (.iconst 1, 1) := by decide +kernel
theorem dX5_does_56 : decode cX5_does 56 = .ok (.goto 4, 3) := by decide +kernel
theorem dX5_does_59 : decode cX5_does 59 = .ok (.iconst 0, 1) := by decide +kernel
theorem dX5_does_60 : decode cX5_does 60 = .ok (.ireturn, 1) := by decide +kernel
theorem dX5_does_61 : decode cX5_does 61 = .ok (.aload_n 0, 1) := by decide +kernel
theorem dX5_does_62 : decode cX5_does 62 = .ok (.aload_n 0, 1) := by decide +kernel
theorem dX5_does_63 : decode cX5_does 63 = .ok (.getfield 26, 3) := by decide +kernel
theorem dX5_does_66 : decode cX5_does 66 = .ok (.iload_n 1, 1) := by decide +kernel
theorem dX5_does_67 : decode cX5_does 67 = .ok (.iconst 1, 1) := by decide +kernel
theorem dX5_does_68 : decode cX5_does 68 = .ok (.iadd, 1) := by decide +kernel
theorem dX5_does_69 : decode cX5_does 69 = .ok (.iaload, 1) := by decide +kernel
theorem dX5_does_70 : decode cX5_does 70 = .ok (.invokevirtual 215, 3) := by decide +kernel
theorem dX5_does_73 : decode cX5_does 73 = .ok (.ifCond .lt 7, 3) := by decide +kernel
theorem dX5_does_76 : decode cX5_does 76 = .ok (.iconst 1, 1) := by decide +kernel
theorem dX5_does_77 : decode cX5_does 77 = .ok (.goto 4, 3) := by decide +kernel
theorem dX5_does_80 : decode cX5_does 80 = .ok (.iconst 0, 1) := by decide +kernel
theorem dX5_does_81 : decode cX5_does 81 = .ok (.ireturn, 1) := by decide +kernel
theorem dX5_does_82 : decode cX5_does 82 = .ok (.aload_n 0, 1) := by decide +kernel
theorem dX5_does_83 : decode cX5_does 83 = .ok (.iload_n 1, 1) := by decide +kernel
theorem dX5_does_84 : decode cX5_does 84 = .ok (.invokevirtual 218, 3) := by decide +kernel
theorem dX5_does_87 : decode cX5_does 87 = .ok (.ireturn, 1) := by decide +kernel
theorem dX5_does_88 : decode cX5_does 88 = .ok (.aload_n 0, 1) := by decide +kernel
theorem dX5_does_89 : decode cX5_does 89 = .ok (.aload_n 0, 1) := by decide +kernel
theorem dX5_does_90 : decode cX5_does 90 = .ok (.getfield 26, 3) := by decide +kernel
theorem dX5_does_93 : decode cX5_does 93 = .ok (.iload_n 1, 1) := by decide +kernel
theorem dX5_does_94 : decode cX5_does 94 = .ok (.iconst 1, 1) := by decide +kernel
theorem dX5_does_95 : decode cX5_does 95 = .ok (.iadd, 1) := by decide +kernel
theorem dX5_does_96 : decode cX5_does 96 = .ok (.iaload, 1) := by decide +kernel
theorem dX5_does_97 : decode cX5_does 97 = .ok (.invokevirtual 221, 3) := by decide +kernel
theorem dX5_does_100 : decode cX5_does 100 = .ok (.ifCond .lt 7, 3) := by decide +kernel
theorem dX5_does_103 : decode cX5_does 103 = .ok (.iconst 1, 1) := by decide +kernel
theorem dX5_does_104 : decode cX5_does 104 = .ok (.goto 4, 3) := by decide +kernel
theorem dX5_does_107 : decode cX5_does 107 = .ok (.iconst 0, 1) := by decide +kernel
theorem dX5_does_108 : decode cX5_does 108 = .ok (.ireturn, 1) := by decide +kernel
theorem dX5_carryOut_0 : decode cX5_carryOut 0 = .ok (.aload_n 0, 1) := by decide +kernel
theorem dX5_carryOut_1 : decode cX5_carryOut 1 = .ok (.invokevirtual 224, 3) := by decide +kernel
theorem dX5_carryOut_4 : decode cX5_carryOut 4 = .ok (.bipush (-6), 2) := by decide +kernel
theorem dX5_carryOut_6 : decode cX5_carryOut 6 = .ok (.if_icmp .eq 6, 3) := by decide +kernel
theorem dX5_carryOut_9 : decode cX5_carryOut 9 = .ok (.bipush (-3), 2) := by decide +kernel
theorem dX5_carryOut_11 : decode cX5_carryOut 11 = .ok (.ireturn, 1) := by decide +kernel
theorem dX5_carryOut_12 : decode cX5_carryOut 12 = .ok (.iconst 0, 1) := by decide +kernel
theorem dX5_carryOut_13 : decode cX5_carryOut 13 = .ok (.istore_n 1, 1) := by decide +kernel
theorem dX5_carryOut_14 : decode cX5_carryOut 14 = .ok (.iload_n 1, 1) := by decide +kernel
theorem dX5_carryOut_15 : decode cX5_carryOut 15 = .ok (.aload_n 0, 1) := by decide +kernel
theorem dX5_carryOut_16 : decode cX5_carryOut 16 = .ok (.getfield 200, 3) := by decide +kernel
theorem dX5_carryOut_19 : decode cX5_carryOut 19 = .ok (.if_icmp .ge 19, 3) := by decide +kernel
theorem dX5_carryOut_22 : decode cX5_carryOut 22 = .ok (.aload_n 0, 1) := by decide +kernel
theorem dX5_carryOut_23 : decode cX5_carryOut 23 = .ok (.iconst 4, 1) := by decide +kernel
theorem dX5_carryOut_24 : decode cX5_carryOut 24 = .ok (.iload_n 1, 1) := by decide +kernel
theorem dX5_carryOut_25 : decode cX5_carryOut 25 = .ok (.imul, 1) := by decide +kernel
theorem dX5_carryOut_26 : decode cX5_carryOut 26 = .ok (.invokevirtual 227, 3) := by decide +kernel
theorem dX5_carryOut_29 : decode cX5_carryOut 29 = .ok (.ifCond .eq 9, 3) := by decide +kernel
theorem dX5_carryOut_32 : decode cX5_carryOut 32 = .ok (.iinc 1 1, 3) := by decide +kernel
theorem dX5_carryOut_35 : decode cX5_carryOut 35 = .ok (.goto (-21), 3) := by decide +kernel
theorem dX5_carryOut_38 : decode cX5_carryOut 38 = .ok (.aload_n 0, 1) := by decide +kernel
theorem dX5_carryOut_39 : decode cX5_carryOut 39 = .ok (.iconst 0, 1) := by decide +kernel
theorem dX5_carryOut_40 : decode cX5_carryOut 40 = .ok (.putfield 165, 3) := by decide +kernel
theorem dX5_carryOut_43 : decode cX5_carryOut 43 = .ok (.iload_n 1, 1) := by decide +kernel
theorem dX5_carryOut_44 : decode cX5_carryOut 44 = .ok (.ireturn, 1) := by decide +kernel
theorem dX5_save_0 : decode cX5_save 0 = .ok (.iload_n 1, 1) := by decide +kernel
theorem dX5_save_1 : decode cX5_save 1 = .ok (.iconst 0, 1) := by decide +kernel
theorem dX5_save_2 : decode cX5_save 2 = .ok (.iconst 1, 1) := by decide +kernel
theorem dX5_save_3 : decode cX5_save 3 = .ok (.invokestatic 33, 3) := by decide +kernel
theorem dX5_save_6 : decode cX5_save 6 = .ok (.ifCond .ne 6, 3) := by decide +kernel
theorem dX5_save_9 : decode cX5_save 9 = .ok (.bipush (-2), 2) := by decide +kernel
theorem dX5_save_11 : decode cX5_save 11 = .ok (.ireturn, 1) := by decide +kernel
theorem dX5_save_12 : decode cX5_save 12 = .ok (.iconst 0, 1) := by decide +kernel
theorem dX5_save_13 : decode cX5_save 13 = .ok (.istore_n 2, 1) := by decide +kernel
theorem dX5_save_14 : decode cX5_save 14 = .ok (.iload_n 2, 1) := by decide +kernel
theorem dX5_save_15 : decode cX5_save 15 = .ok (.sipush 233, 3) := by decide +kernel
theorem dX5_save_18 : decode cX5_save 18 = .ok (.if_icmp .ge 27, 3) := by decide +kernel
theorem dX5_save_21 : decode cX5_save 21 = .ok (.aload_n 0, 1) := by decide +kernel
theorem dX5_save_22 : decode cX5_save 22 = .ok (.getfield 16, 3) := by decide +kernel
theorem dX5_save_25 : decode cX5_save 25 = .ok (.sipush 233, 3) := by decide +kernel
theorem dX5_save_28 : decode cX5_save 28 = .ok (.iload_n 1, 1) := by decide +kernel
theorem dX5_save_29 : decode cX5_save 29 = .ok (.imul, 1) := by decide +kernel
theorem dX5_save_30 : decode cX5_save 30 = .ok (.iload_n 2, 1) := by decide +kernel
theorem dX5_save_31 : decode cX5_save 31 = .ok (.iadd, 1) := by decide +kernel
theorem dX5_save_32 : decode cX5_save 32 = .ok (.aload_n 0, 1) := by decide +kernel
theorem dX5_save_33 : decode cX5_save 33 = .ok (.getfield 7, 3) := by decide +kernel
theorem dX5_save_36 : decode cX5_save 36 = .ok (.iload_n 2, 1) := by decide +kernel
theorem dX5_save_37 : decode cX5_save 37 = .ok (.iaload, 1) := by decide +kernel
theorem dX5_save_38 : decode cX5_save 38 = .ok (.iastore, 1) := by decide +kernel
theorem dX5_save_39 : decode cX5_save 39 = .ok (.iinc 2 1, 3) := by decide +kernel
theorem dX5_save_42 : decode cX5_save 42 = .ok (.goto (-28), 3) := by decide +kernel
theorem dX5_save_45 : decode cX5_save 45 = .ok (.aload_n 0, 1) := by decide +kernel
theorem dX5_save_46 : decode cX5_save 46 = .ok (.getfield 19, 3) := by decide +kernel
theorem dX5_save_49 : decode cX5_save 49 = .ok (.iload_n 1, 1) := by decide +kernel
theorem dX5_save_50 : decode cX5_save 50 = .ok (.iconst 1, 1) := by decide +kernel
theorem dX5_save_51 : decode cX5_save 51 = .ok (.bastore, 1) := by decide +kernel
theorem dX5_save_52 : decode cX5_save 52 = .ok (.aload_n 0, 1) := by decide +kernel
theorem dX5_save_53 : decode cX5_save 53 = .ok (.getfield 7, 3) := by decide +kernel
theorem dX5_save_56 : decode cX5_save 56 = .ok (.iconst 0, 1) := by decide +kernel
theorem dX5_save_57 : decode cX5_save 57 = .ok (.iaload, 1) := by decide +kernel
theorem dX5_save_58 : decode cX5_save 58 = .ok (.ireturn, 1) := by decide +kernel
theorem dX5_restore_0 : decode cX5_restore 0 = .ok (.iload_n 1, 1) := by decide +kernel
theorem dX5_restore_1 : decode cX5_restore 1 = .ok (.iconst 0, 1) := by decide +kernel
theorem dX5_restore_2 : decode cX5_restore 2 = .ok (.iconst 1, 1) := by decide +kernel
theorem dX5_restore_3 : decode cX5_restore 3 = .ok (.invokestatic 33, 3) := by decide +kernel
theorem dX5_restore_6 : decode cX5_restore 6 = .ok (.ifCond .ne 6, 3) := by decide +kernel
theorem dX5_restore_9 : decode cX5_restore 9 = .ok (.bipush (-2), 2) := by decide +kernel
theorem dX5_restore_11 : decode cX5_restore 11 = .ok (.ireturn, 1) := by decide +kernel
theorem dX5_restore_12 : decode cX5_restore 12 = .ok (.aload_n 0, 1) := by decide +kernel
theorem dX5_restore_13 : decode cX5_restore 13 = .ok (.getfield 19, 3) := by decide +kernel
theorem dX5_restore_16 : decode cX5_restore 16 = .ok (.iload_n 1, 1) := by decide +kernel
theorem dX5_restore_17 : decode cX5_restore 17 = .ok (.baload, 1) := by decide +kernel
theorem dX5_restore_18 : decode cX5_restore 18 = .ok (.ifCond .ne 6, 3) := by decide +kernel
theorem dX5_restore_21 : decode cX5_restore 21 = .ok (.bipush (-5), 2) := by decide +kernel
theorem dX5_restore_23 : decode cX5_restore 23 = .ok (.ireturn, 1) := by decide +kernel
theorem dX5_restore_24 : decode cX5_restore 24 = .ok (.iconst 0, 1) := by decide +kernel
theorem dX5_restore_25 : decode cX5_restore 25 = .ok (.istore_n 2, 1) := by decide +kernel
theorem dX5_restore_26 : decode cX5_restore 26 = .ok (.iload_n 2, 1) := by decide +kernel
theorem dX5_restore_27 : decode cX5_restore 27 = .ok (.sipush 233, 3) := by decide +kernel
theorem dX5_restore_30 : decode cX5_restore 30 = .ok (.if_icmp .ge 27, 3) := by decide +kernel
theorem dX5_restore_33 : decode cX5_restore 33 = .ok (.aload_n 0, 1) := by decide +kernel
theorem dX5_restore_34 : decode cX5_restore 34 = .ok (.getfield 7, 3) := by decide +kernel
theorem dX5_restore_37 : decode cX5_restore 37 = .ok (.iload_n 2, 1) := by decide +kernel
theorem dX5_restore_38 : decode cX5_restore 38 = .ok (.aload_n 0, 1) := by decide +kernel
theorem dX5_restore_39 : decode cX5_restore 39 = .ok (.getfield 16, 3) := by decide +kernel
theorem dX5_restore_42 : decode cX5_restore 42 = .ok (.sipush 233, 3) := by decide +kernel
theorem dX5_restore_45 : decode cX5_restore 45 = .ok (.iload_n 1, 1) := by decide +kernel
theorem dX5_restore_46 : decode cX5_restore 46 = .ok (.imul, 1) := by decide +kernel
theorem dX5_restore_47 : decode cX5_restore 47 = .ok (.iload_n 2, 1) := by decide +kernel
theorem dX5_restore_48 : decode cX5_restore 48 = .ok (.iadd, 1) := by decide +kernel
theorem dX5_restore_49 : decode cX5_restore 49 = .ok (.iaload, 1) := by decide +kernel
theorem dX5_restore_50 : decode cX5_restore 50 = .ok (.iastore, 1) := by decide +kernel
theorem dX5_restore_51 : decode cX5_restore 51 = .ok (.iinc 2 1, 3) := by decide +kernel
theorem dX5_restore_54 : decode cX5_restore 54 = .ok (.goto (-28), 3) := by decide +kernel
theorem dX5_restore_57 : decode cX5_restore 57 = .ok (.aload_n 0, 1) := by decide +kernel
theorem dX5_restore_58 : decode cX5_restore 58 = .ok (.getfield 7, 3) := by decide +kernel
theorem dX5_restore_61 : decode cX5_restore 61 = .ok (.iconst 0, 1) := by decide +kernel
theorem dX5_restore_62 : decode cX5_restore 62 = .ok (.iaload, 1) := by decide +kernel
theorem dX5_restore_63 : decode cX5_restore 63 = .ok (.ireturn, 1) := by decide +kernel
theorem dL_law_0 : decode code 0 = .ok (.new 7, 3) := by decide +kernel
theorem dL_law_3 : decode code 3 = .ok (.dup, 1) := by decide +kernel
theorem dL_law_4 : decode code 4 = .ok (.invokespecial 9, 3) := by decide +kernel
theorem dL_law_7 : decode code 7 = .ok (.astore_n 1, 1) := by decide +kernel
theorem dL_law_8 : decode code 8 = .ok (.new 10, 3) := by decide +kernel
theorem dL_law_11 : decode code 11 = .ok (.dup, 1) := by decide +kernel
theorem dL_law_12 : decode code 12 = .ok (.invokespecial 12, 3) := by decide +kernel
theorem dL_law_15 : decode code 15 = .ok (.astore_n 2, 1) := by decide +kernel
theorem dL_law_16 : decode code 16 = .ok (.iconst 0, 1) := by decide +kernel
theorem dL_law_17 : decode code 17 = .ok (.istore_n 3, 1) := by decide +kernel
theorem dL_law_18 : decode code 18 = .ok (.iload_n 3, 1) := by decide +kernel
theorem dL_law_19 : decode code 19 = .ok (.aload_n 0, 1) := by decide +kernel
theorem dL_law_20 : decode code 20 = .ok (.arraylength, 1) := by decide +kernel
theorem dL_law_21 : decode code 21 = .ok (.iconst 4, 1) := by decide +kernel
theorem dL_law_22 : decode code 22 = .ok (.isub, 1) := by decide +kernel
theorem dL_law_23 : decode code 23 = .ok (.if_icmp .gt 654, 3) := by decide +kernel
theorem dL_law_26 : decode code 26 = .ok (.aload_n 0, 1) := by decide +kernel
theorem dL_law_27 : decode code 27 = .ok (.iload_n 3, 1) := by decide +kernel
theorem dL_law_28 : decode code 28 = .ok (.iaload, 1) := by decide +kernel
theorem dL_law_29 : decode code 29 = .ok (.bipush 31, 2) := by decide +kernel
theorem dL_law_31 : decode code 31 = .ok (.iand, 1) := by decide +kernel
theorem dL_law_32 : decode code 32 = .ok (.tableswitch 639 0 18 #[92, 125, 158, 181, 204, 237, 260, 293, 326, 359, 382, 415, 458, 501, 554, 567, 580, 593, 616], 92) := by decide +kernel
theorem dL_law_124 : decode code 124 = .ok (.aload_n 1, 1) := by decide +kernel
theorem dL_law_125 : decode code 125 = .ok (.aload_n 0, 1) := by decide +kernel
theorem dL_law_126 : decode code 126 = .ok (.iload_n 3, 1) := by decide +kernel
theorem dL_law_127 : decode code 127 = .ok (.iconst 1, 1) := by decide +kernel
theorem dL_law_128 : decode code 128 = .ok (.iadd, 1) := by decide +kernel
theorem dL_law_129 : decode code 129 = .ok (.iaload, 1) := by decide +kernel
theorem dL_law_130 : decode code 130 = .ok (.aload_n 0, 1) := by decide +kernel
theorem dL_law_131 : decode code 131 = .ok (.iload_n 3, 1) := by decide +kernel
theorem dL_law_132 : decode code 132 = .ok (.iconst 2, 1) := by decide +kernel
theorem dL_law_133 : decode code 133 = .ok (.iadd, 1) := by decide +kernel
theorem dL_law_134 : decode code 134 = .ok (.iaload, 1) := by decide +kernel
theorem dL_law_135 : decode code 135 = .ok (.invokevirtual 13, 3) := by decide +kernel
theorem dL_law_138 : decode code 138 = .ok (.aload_n 2, 1) := by decide +kernel
theorem dL_law_139 : decode code 139 = .ok (.aload_n 0, 1) := by decide +kernel
theorem dL_law_140 : decode code 140 = .ok (.iload_n 3, 1) := by decide +kernel
theorem dL_law_141 : decode code 141 = .ok (.iconst 1, 1) := by decide +kernel
theorem dL_law_142 : decode code 142 = .ok (.iadd, 1) := by decide +kernel
theorem dL_law_143 : decode code 143 = .ok (.iaload, 1) := by decide +kernel
theorem dL_law_144 : decode code 144 = .ok (.aload_n 0, 1) := by decide +kernel
theorem dL_law_145 : decode code 145 = .ok (.iload_n 3, 1) := by decide +kernel
theorem dL_law_146 : decode code 146 = .ok (.iconst 2, 1) := by decide +kernel
theorem dL_law_147 : decode code 147 = .ok (.iadd, 1) := by decide +kernel
theorem dL_law_148 : decode code 148 = .ok (.iaload, 1) := by decide +kernel
theorem dL_law_149 : decode code 149 = .ok (.invokevirtual 17, 3) := by decide +kernel
theorem dL_law_152 : decode code 152 = .ok (.if_icmp .eq 519, 3) := by decide +kernel
theorem dL_law_155 : decode code 155 = .ok (.iconst 0, 1) := by decide +kernel
theorem dL_law_156 : decode code 156 = .ok (.ireturn, 1) := by decide +kernel
theorem dL_law_157 : decode code 157 = .ok (.aload_n 1, 1) := by decide +kernel
theorem dL_law_158 : decode code 158 = .ok (.aload_n 0, 1) := by decide +kernel
theorem dL_law_159 : decode code 159 = .ok (.iload_n 3, 1) := by decide +kernel
theorem dL_law_160 : decode code 160 = .ok (.iconst 1, 1) := by decide +kernel
theorem dL_law_161 : decode code 161 = .ok (.iadd, 1) := by decide +kernel
theorem dL_law_162 : decode code 162 = .ok (.iaload, 1) := by decide +kernel
theorem dL_law_163 : decode code 163 = .ok (.aload_n 0, 1) := by decide +kernel
theorem dL_law_164 : decode code 164 = .ok (.iload_n 3, 1) := by decide +kernel
theorem dL_law_165 : decode code 165 = .ok (.iconst 2, 1) := by decide +kernel
theorem dL_law_166 : decode code 166 = .ok (.iadd, 1) := by decide +kernel
theorem dL_law_167 : decode code 167 = .ok (.iaload, 1) := by decide +kernel
theorem dL_law_168 : decode code 168 = .ok (.invokevirtual 18, 3) := by decide +kernel
theorem dL_law_171 : decode code 171 = .ok (.aload_n 2, 1) := by decide +kernel
theorem dL_law_172 : decode code 172 = .ok (.aload_n 0, 1) := by decide +kernel
theorem dL_law_173 : decode code 173 = .ok (.iload_n 3, 1) := by decide +kernel
theorem dL_law_174 : decode code 174 = .ok (.iconst 1, 1) := by decide +kernel
theorem dL_law_175 : decode code 175 = .ok (.iadd, 1) := by decide +kernel
theorem dL_law_176 : decode code 176 = .ok (.iaload, 1) := by decide +kernel
theorem dL_law_177 : decode code 177 = .ok (.aload_n 0, 1) := by decide +kernel
theorem dL_law_178 : decode code 178 = .ok (.iload_n 3, 1) := by decide +kernel
theorem dL_law_179 : decode code 179 = .ok (.iconst 2, 1) := by decide +kernel
theorem dL_law_180 : decode code 180 = .ok (.iadd, 1) := by decide +kernel
theorem dL_law_181 : decode code 181 = .ok (.iaload, 1) := by decide +kernel
theorem dL_law_182 : decode code 182 = .ok (.invokevirtual 21, 3) := by decide +kernel
theorem dL_law_185 : decode code 185 = .ok (.if_icmp .eq 486, 3) := by decide +kernel
theorem dL_law_188 : decode code 188 = .ok (.iconst 0, 1) := by decide +kernel
theorem dL_law_189 : decode code 189 = .ok (.ireturn, 1) := by decide +kernel
theorem dL_law_190 : decode code 190 = .ok (.aload_n 1, 1) := by decide +kernel
theorem dL_law_191 : decode code 191 = .ok (.aload_n 0, 1) := by decide +kernel
theorem dL_law_192 : decode code 192 = .ok (.iload_n 3, 1) := by decide +kernel
theorem dL_law_193 : decode code 193 = .ok (.iconst 1, 1) := by decide +kernel
theorem dL_law_194 : decode code 194 = .ok (.iadd, 1) := by decide +kernel
theorem dL_law_195 : decode code 195 = .ok (.iaload, 1) := by decide +kernel
theorem dL_law_196 : decode code 196 = .ok (.invokevirtual 22, 3) := by decide +kernel
theorem dL_law_199 : decode code 199 = .ok (.aload_n 2, 1) := by decide +kernel
theorem dL_law_200 : decode code 200 = .ok (.aload_n 0, 1) := by decide +kernel
theorem dL_law_201 : decode code 201 = .ok (.iload_n 3, 1) := by decide +kernel
theorem dL_law_202 : decode code 202 = .ok (.iconst 1, 1) := by decide +kernel
theorem dL_law_203 : decode code 203 = .ok (.iadd, 1) := by decide +kernel
theorem dL_law_204 : decode code 204 = .ok (.iaload, 1) := by decide +kernel
theorem dL_law_205 : decode code 205 = .ok (.invokevirtual 26, 3) := by decide +kernel
theorem dL_law_208 : decode code 208 = .ok (.if_icmp .eq 463, 3) := by decide +kernel
theorem dL_law_211 : decode code 211 = .ok (.iconst 0, 1) := by decide +kernel
theorem dL_law_212 : decode code 212 = .ok (.ireturn, 1) := by decide +kernel
theorem dL_law_213 : decode code 213 = .ok (.aload_n 1, 1) := by decide +kernel
theorem dL_law_214 : decode code 214 = .ok (.aload_n 0, 1) := by decide +kernel
theorem dL_law_215 : decode code 215 = .ok (.iload_n 3, 1) := by decide +kernel
theorem dL_law_216 : decode code 216 = .ok (.iconst 1, 1) := by decide +kernel
theorem dL_law_217 : decode code 217 = .ok (.iadd, 1) := by decide +kernel
theorem dL_law_218 : decode code 218 = .ok (.iaload, 1) := by decide +kernel
theorem dL_law_219 : decode code 219 = .ok (.invokevirtual 27, 3) := by decide +kernel
theorem dL_law_222 : decode code 222 = .ok (.aload_n 2, 1) := by decide +kernel
theorem dL_law_223 : decode code 223 = .ok (.aload_n 0, 1) := by decide +kernel
theorem dL_law_224 : decode code 224 = .ok (.iload_n 3, 1) := by decide +kernel
theorem dL_law_225 : decode code 225 = .ok (.iconst 1, 1) := by decide +kernel
theorem dL_law_226 : decode code 226 = .ok (.iadd, 1) := by decide +kernel
theorem dL_law_227 : decode code 227 = .ok (.iaload, 1) := by decide +kernel
theorem dL_law_228 : decode code 228 = .ok (.invokevirtual 30, 3) := by decide +kernel
theorem dL_law_231 : decode code 231 = .ok (.if_icmp .eq 440, 3) := by decide +kernel
theorem dL_law_234 : decode code 234 = .ok (.iconst 0, 1) := by decide +kernel
theorem dL_law_235 : decode code 235 = .ok (.ireturn, 1) := by decide +kernel
theorem dL_law_236 : decode code 236 = .ok (.aload_n 1, 1) := by decide +kernel
theorem dL_law_237 : decode code 237 = .ok (.aload_n 0, 1) := by decide +kernel
theorem dL_law_238 : decode code 238 = .ok (.iload_n 3, 1) := by decide +kernel
theorem dL_law_239 : decode code 239 = .ok (.iconst 1, 1) := by decide +kernel
theorem dL_law_240 : decode code 240 = .ok (.iadd, 1) := by decide +kernel
theorem dL_law_241 : decode code 241 = .ok (.iaload, 1) := by decide +kernel
theorem dL_law_242 : decode code 242 = .ok (.aload_n 0, 1) := by decide +kernel
theorem dL_law_243 : decode code 243 = .ok (.iload_n 3, 1) := by decide +kernel
theorem dL_law_244 : decode code 244 = .ok (.iconst 2, 1) := by decide +kernel
theorem dL_law_245 : decode code 245 = .ok (.iadd, 1) := by decide +kernel
theorem dL_law_246 : decode code 246 = .ok (.iaload, 1) := by decide +kernel
theorem dL_law_247 : decode code 247 = .ok (.invokevirtual 31, 3) := by decide +kernel
theorem dL_law_250 : decode code 250 = .ok (.aload_n 2, 1) := by decide +kernel
theorem dL_law_251 : decode code 251 = .ok (.aload_n 0, 1) := by decide +kernel
theorem dL_law_252 : decode code 252 = .ok (.iload_n 3, 1) := by decide +kernel
theorem dL_law_253 : decode code 253 = .ok (.iconst 1, 1) := by decide +kernel
theorem dL_law_254 : decode code 254 = .ok (.iadd, 1) := by decide +kernel
theorem dL_law_255 : decode code 255 = .ok (.iaload, 1) := by decide +kernel
theorem dL_law_256 : decode code 256 = .ok (.aload_n 0, 1) := by decide +kernel
theorem dL_law_257 : decode code 257 = .ok (.iload_n 3, 1) := by decide +kernel
theorem dL_law_258 : decode code 258 = .ok (.iconst 2, 1) := by decide +kernel
theorem dL_law_259 : decode code 259 = .ok (.iadd, 1) := by decide +kernel
theorem dL_law_260 : decode code 260 = .ok (.iaload, 1) := by decide +kernel
theorem dL_law_261 : decode code 261 = .ok (.invokevirtual 34, 3) := by decide +kernel
theorem dL_law_264 : decode code 264 = .ok (.if_icmp .eq 407, 3) := by decide +kernel
theorem dL_law_267 : decode code 267 = .ok (.iconst 0, 1) := by decide +kernel
theorem dL_law_268 : decode code 268 = .ok (.ireturn, 1) := by decide +kernel
theorem dL_law_269 : decode code 269 = .ok (.aload_n 1, 1) := by decide +kernel
theorem dL_law_270 : decode code 270 = .ok (.aload_n 0, 1) := by decide +kernel
theorem dL_law_271 : decode code 271 = .ok (.iload_n 3, 1) := by decide +kernel
theorem dL_law_272 : decode code 272 = .ok (.iconst 1, 1) := by decide +kernel
theorem dL_law_273 : decode code 273 = .ok (.iadd, 1) := by decide +kernel
theorem dL_law_274 : decode code 274 = .ok (.iaload, 1) := by decide +kernel
theorem dL_law_275 : decode code 275 = .ok (.invokevirtual 35, 3) := by decide +kernel
theorem dL_law_278 : decode code 278 = .ok (.aload_n 2, 1) := by decide +kernel
theorem dL_law_279 : decode code 279 = .ok (.aload_n 0, 1) := by decide +kernel
theorem dL_law_280 : decode code 280 = .ok (.iload_n 3, 1) := by decide +kernel
theorem dL_law_281 : decode code 281 = .ok (.iconst 1, 1) := by decide +kernel
theorem dL_law_282 : decode code 282 = .ok (.iadd, 1) := by decide +kernel
theorem dL_law_283 : decode code 283 = .ok (.iaload, 1) := by decide +kernel
theorem dL_law_284 : decode code 284 = .ok (.invokevirtual 38, 3) := by decide +kernel
theorem dL_law_287 : decode code 287 = .ok (.if_icmp .eq 384, 3) := by decide +kernel
theorem dL_law_290 : decode code 290 = .ok (.iconst 0, 1) := by decide +kernel
theorem dL_law_291 : decode code 291 = .ok (.ireturn, 1) := by decide +kernel
theorem dL_law_292 : decode code 292 = .ok (.aload_n 1, 1) := by decide +kernel
theorem dL_law_293 : decode code 293 = .ok (.aload_n 0, 1) := by decide +kernel
theorem dL_law_294 : decode code 294 = .ok (.iload_n 3, 1) := by decide +kernel
theorem dL_law_295 : decode code 295 = .ok (.iconst 1, 1) := by decide +kernel
theorem dL_law_296 : decode code 296 = .ok (.iadd, 1) := by decide +kernel
theorem dL_law_297 : decode code 297 = .ok (.iaload, 1) := by decide +kernel
theorem dL_law_298 : decode code 298 = .ok (.aload_n 0, 1) := by decide +kernel
theorem dL_law_299 : decode code 299 = .ok (.iload_n 3, 1) := by decide +kernel
theorem dL_law_300 : decode code 300 = .ok (.iconst 2, 1) := by decide +kernel
theorem dL_law_301 : decode code 301 = .ok (.iadd, 1) := by decide +kernel
theorem dL_law_302 : decode code 302 = .ok (.iaload, 1) := by decide +kernel
theorem dL_law_303 : decode code 303 = .ok (.invokevirtual 39, 3) := by decide +kernel
theorem dL_law_306 : decode code 306 = .ok (.aload_n 2, 1) := by decide +kernel
theorem dL_law_307 : decode code 307 = .ok (.aload_n 0, 1) := by decide +kernel
theorem dL_law_308 : decode code 308 = .ok (.iload_n 3, 1) := by decide +kernel
theorem dL_law_309 : decode code 309 = .ok (.iconst 1, 1) := by decide +kernel
theorem dL_law_310 : decode code 310 = .ok (.iadd, 1) := by decide +kernel
theorem dL_law_311 : decode code 311 = .ok (.iaload, 1) := by decide +kernel
theorem dL_law_312 : decode code 312 = .ok (.aload_n 0, 1) := by decide +kernel
theorem dL_law_313 : decode code 313 = .ok (.iload_n 3, 1) := by decide +kernel
theorem dL_law_314 : decode code 314 = .ok (.iconst 2, 1) := by decide +kernel
theorem dL_law_315 : decode code 315 = .ok (.iadd, 1) := by decide +kernel
theorem dL_law_316 : decode code 316 = .ok (.iaload, 1) := by decide +kernel
theorem dL_law_317 : decode code 317 = .ok (.invokevirtual 42, 3) := by decide +kernel
theorem dL_law_320 : decode code 320 = .ok (.if_icmp .eq 351, 3) := by decide +kernel
theorem dL_law_323 : decode code 323 = .ok (.iconst 0, 1) := by decide +kernel
theorem dL_law_324 : decode code 324 = .ok (.ireturn, 1) := by decide +kernel
theorem dL_law_325 : decode code 325 = .ok (.aload_n 1, 1) := by decide +kernel
theorem dL_law_326 : decode code 326 = .ok (.aload_n 0, 1) := by decide +kernel
theorem dL_law_327 : decode code 327 = .ok (.iload_n 3, 1) := by decide +kernel
theorem dL_law_328 : decode code 328 = .ok (.iconst 1, 1) := by decide +kernel
theorem dL_law_329 : decode code 329 = .ok (.iadd, 1) := by decide +kernel
theorem dL_law_330 : decode code 330 = .ok (.iaload, 1) := by decide +kernel
theorem dL_law_331 : decode code 331 = .ok (.aload_n 0, 1) := by decide +kernel
theorem dL_law_332 : decode code 332 = .ok (.iload_n 3, 1) := by decide +kernel
theorem dL_law_333 : decode code 333 = .ok (.iconst 2, 1) := by decide +kernel
theorem dL_law_334 : decode code 334 = .ok (.iadd, 1) := by decide +kernel
theorem dL_law_335 : decode code 335 = .ok (.iaload, 1) := by decide +kernel
theorem dL_law_336 : decode code 336 = .ok (.invokevirtual 43, 3) := by decide +kernel
theorem dL_law_339 : decode code 339 = .ok (.aload_n 2, 1) := by decide +kernel
theorem dL_law_340 : decode code 340 = .ok (.aload_n 0, 1) := by decide +kernel
theorem dL_law_341 : decode code 341 = .ok (.iload_n 3, 1) := by decide +kernel
theorem dL_law_342 : decode code 342 = .ok (.iconst 1, 1) := by decide +kernel
theorem dL_law_343 : decode code 343 = .ok (.iadd, 1) := by decide +kernel
theorem dL_law_344 : decode code 344 = .ok (.iaload, 1) := by decide +kernel
theorem dL_law_345 : decode code 345 = .ok (.aload_n 0, 1) := by decide +kernel
theorem dL_law_346 : decode code 346 = .ok (.iload_n 3, 1) := by decide +kernel
theorem dL_law_347 : decode code 347 = .ok (.iconst 2, 1) := by decide +kernel
theorem dL_law_348 : decode code 348 = .ok (.iadd, 1) := by decide +kernel
theorem dL_law_349 : decode code 349 = .ok (.iaload, 1) := by decide +kernel
theorem dL_law_350 : decode code 350 = .ok (.invokevirtual 46, 3) := by decide +kernel
theorem dL_law_353 : decode code 353 = .ok (.if_icmp .eq 318, 3) := by decide +kernel
theorem dL_law_356 : decode code 356 = .ok (.iconst 0, 1) := by decide +kernel
theorem dL_law_357 : decode code 357 = .ok (.ireturn, 1) := by decide +kernel
theorem dL_law_358 : decode code 358 = .ok (.aload_n 1, 1) := by decide +kernel
theorem dL_law_359 : decode code 359 = .ok (.aload_n 0, 1) := by decide +kernel
theorem dL_law_360 : decode code 360 = .ok (.iload_n 3, 1) := by decide +kernel
theorem dL_law_361 : decode code 361 = .ok (.iconst 1, 1) := by decide +kernel
theorem dL_law_362 : decode code 362 = .ok (.iadd, 1) := by decide +kernel
theorem dL_law_363 : decode code 363 = .ok (.iaload, 1) := by decide +kernel
theorem dL_law_364 : decode code 364 = .ok (.aload_n 0, 1) := by decide +kernel
theorem dL_law_365 : decode code 365 = .ok (.iload_n 3, 1) := by decide +kernel
theorem dL_law_366 : decode code 366 = .ok (.iconst 2, 1) := by decide +kernel
theorem dL_law_367 : decode code 367 = .ok (.iadd, 1) := by decide +kernel
theorem dL_law_368 : decode code 368 = .ok (.iaload, 1) := by decide +kernel
theorem dL_law_369 : decode code 369 = .ok (.invokevirtual 47, 3) := by decide +kernel
theorem dL_law_372 : decode code 372 = .ok (.aload_n 2, 1) := by decide +kernel
theorem dL_law_373 : decode code 373 = .ok (.aload_n 0, 1) := by decide +kernel
theorem dL_law_374 : decode code 374 = .ok (.iload_n 3, 1) := by decide +kernel
theorem dL_law_375 : decode code 375 = .ok (.iconst 1, 1) := by decide +kernel
theorem dL_law_376 : decode code 376 = .ok (.iadd, 1) := by decide +kernel
theorem dL_law_377 : decode code 377 = .ok (.iaload, 1) := by decide +kernel
theorem dL_law_378 : decode code 378 = .ok (.aload_n 0, 1) := by decide +kernel
theorem dL_law_379 : decode code 379 = .ok (.iload_n 3, 1) := by decide +kernel
theorem dL_law_380 : decode code 380 = .ok (.iconst 2, 1) := by decide +kernel
theorem dL_law_381 : decode code 381 = .ok (.iadd, 1) := by decide +kernel
theorem dL_law_382 : decode code 382 = .ok (.iaload, 1) := by decide +kernel
theorem dL_law_383 : decode code 383 = .ok (.invokevirtual 50, 3) := by decide +kernel
theorem dL_law_386 : decode code 386 = .ok (.if_icmp .eq 285, 3) := by decide +kernel
theorem dL_law_389 : decode code 389 = .ok (.iconst 0, 1) := by decide +kernel
theorem dL_law_390 : decode code 390 = .ok (.ireturn, 1) := by decide +kernel
theorem dL_law_391 : decode code 391 = .ok (.aload_n 1, 1) := by decide +kernel
theorem dL_law_392 : decode code 392 = .ok (.aload_n 0, 1) := by decide +kernel
theorem dL_law_393 : decode code 393 = .ok (.iload_n 3, 1) := by decide +kernel
theorem dL_law_394 : decode code 394 = .ok (.iconst 1, 1) := by decide +kernel
theorem dL_law_395 : decode code 395 = .ok (.iadd, 1) := by decide +kernel
theorem dL_law_396 : decode code 396 = .ok (.iaload, 1) := by decide +kernel
theorem dL_law_397 : decode code 397 = .ok (.invokevirtual 51, 3) := by decide +kernel
theorem dL_law_400 : decode code 400 = .ok (.aload_n 2, 1) := by decide +kernel
theorem dL_law_401 : decode code 401 = .ok (.aload_n 0, 1) := by decide +kernel
theorem dL_law_402 : decode code 402 = .ok (.iload_n 3, 1) := by decide +kernel
theorem dL_law_403 : decode code 403 = .ok (.iconst 1, 1) := by decide +kernel
theorem dL_law_404 : decode code 404 = .ok (.iadd, 1) := by decide +kernel
theorem dL_law_405 : decode code 405 = .ok (.iaload, 1) := by decide +kernel
theorem dL_law_406 : decode code 406 = .ok (.invokevirtual 54, 3) := by decide +kernel
theorem dL_law_409 : decode code 409 = .ok (.if_icmp .eq 262, 3) := by decide +kernel
theorem dL_law_412 : decode code 412 = .ok (.iconst 0, 1) := by decide +kernel
theorem dL_law_413 : decode code 413 = .ok (.ireturn, 1) := by decide +kernel
theorem dL_law_414 : decode code 414 = .ok (.aload_n 1, 1) := by decide +kernel
theorem dL_law_415 : decode code 415 = .ok (.aload_n 0, 1) := by decide +kernel
theorem dL_law_416 : decode code 416 = .ok (.iload_n 3, 1) := by decide +kernel
theorem dL_law_417 : decode code 417 = .ok (.iconst 1, 1) := by decide +kernel
theorem dL_law_418 : decode code 418 = .ok (.iadd, 1) := by decide +kernel
theorem dL_law_419 : decode code 419 = .ok (.iaload, 1) := by decide +kernel
theorem dL_law_420 : decode code 420 = .ok (.aload_n 0, 1) := by decide +kernel
theorem dL_law_421 : decode code 421 = .ok (.iload_n 3, 1) := by decide +kernel
theorem dL_law_422 : decode code 422 = .ok (.iconst 2, 1) := by decide +kernel
theorem dL_law_423 : decode code 423 = .ok (.iadd, 1) := by decide +kernel
theorem dL_law_424 : decode code 424 = .ok (.iaload, 1) := by decide +kernel
theorem dL_law_425 : decode code 425 = .ok (.invokevirtual 55, 3) := by decide +kernel
theorem dL_law_428 : decode code 428 = .ok (.aload_n 2, 1) := by decide +kernel
theorem dL_law_429 : decode code 429 = .ok (.aload_n 0, 1) := by decide +kernel
theorem dL_law_430 : decode code 430 = .ok (.iload_n 3, 1) := by decide +kernel
theorem dL_law_431 : decode code 431 = .ok (.iconst 1, 1) := by decide +kernel
theorem dL_law_432 : decode code 432 = .ok (.iadd, 1) := by decide +kernel
theorem dL_law_433 : decode code 433 = .ok (.iaload, 1) := by decide +kernel
theorem dL_law_434 : decode code 434 = .ok (.aload_n 0, 1) := by decide +kernel
theorem dL_law_435 : decode code 435 = .ok (.iload_n 3, 1) := by decide +kernel
theorem dL_law_436 : decode code 436 = .ok (.iconst 2, 1) := by decide +kernel
theorem dL_law_437 : decode code 437 = .ok (.iadd, 1) := by decide +kernel
theorem dL_law_438 : decode code 438 = .ok (.iaload, 1) := by decide +kernel
theorem dL_law_439 : decode code 439 = .ok (.invokevirtual 58, 3) := by decide +kernel
theorem dL_law_442 : decode code 442 = .ok (.if_icmp .eq 229, 3) := by decide +kernel
theorem dL_law_445 : decode code 445 = .ok (.iconst 0, 1) := by decide +kernel
theorem dL_law_446 : decode code 446 = .ok (.ireturn, 1) := by decide +kernel
theorem dL_law_447 : decode code 447 = .ok (.aload_n 1, 1) := by decide +kernel
theorem dL_law_448 : decode code 448 = .ok (.aload_n 0, 1) := by decide +kernel
theorem dL_law_449 : decode code 449 = .ok (.iload_n 3, 1) := by decide +kernel
theorem dL_law_450 : decode code 450 = .ok (.iconst 1, 1) := by decide +kernel
theorem dL_law_451 : decode code 451 = .ok (.iadd, 1) := by decide +kernel
theorem dL_law_452 : decode code 452 = .ok (.iaload, 1) := by decide +kernel
theorem dL_law_453 : decode code 453 = .ok (.aload_n 0, 1) := by decide +kernel
theorem dL_law_454 : decode code 454 = .ok (.iload_n 3, 1) := by decide +kernel
theorem dL_law_455 : decode code 455 = .ok (.iconst 2, 1) := by decide +kernel
theorem dL_law_456 : decode code 456 = .ok (.iadd, 1) := by decide +kernel
theorem dL_law_457 : decode code 457 = .ok (.iaload, 1) := by decide +kernel
theorem dL_law_458 : decode code 458 = .ok (.aload_n 0, 1) := by decide +kernel
theorem dL_law_459 : decode code 459 = .ok (.iload_n 3, 1) := by decide +kernel
theorem dL_law_460 : decode code 460 = .ok (.iconst 3, 1) := by decide +kernel
theorem dL_law_461 : decode code 461 = .ok (.iadd, 1) := by decide +kernel
theorem dL_law_462 : decode code 462 = .ok (.iaload, 1) := by decide +kernel
theorem dL_law_463 : decode code 463 = .ok (.invokevirtual 59, 3) := by decide +kernel
theorem dL_law_466 : decode code 466 = .ok (.aload_n 2, 1) := by decide +kernel
theorem dL_law_467 : decode code 467 = .ok (.aload_n 0, 1) := by decide +kernel
theorem dL_law_468 : decode code 468 = .ok (.iload_n 3, 1) := by decide +kernel
theorem dL_law_469 : decode code 469 = .ok (.iconst 1, 1) := by decide +kernel
theorem dL_law_470 : decode code 470 = .ok (.iadd, 1) := by decide +kernel
theorem dL_law_471 : decode code 471 = .ok (.iaload, 1) := by decide +kernel
theorem dL_law_472 : decode code 472 = .ok (.aload_n 0, 1) := by decide +kernel
theorem dL_law_473 : decode code 473 = .ok (.iload_n 3, 1) := by decide +kernel
theorem dL_law_474 : decode code 474 = .ok (.iconst 2, 1) := by decide +kernel
theorem dL_law_475 : decode code 475 = .ok (.iadd, 1) := by decide +kernel
theorem dL_law_476 : decode code 476 = .ok (.iaload, 1) := by decide +kernel
theorem dL_law_477 : decode code 477 = .ok (.aload_n 0, 1) := by decide +kernel
theorem dL_law_478 : decode code 478 = .ok (.iload_n 3, 1) := by decide +kernel
theorem dL_law_479 : decode code 479 = .ok (.iconst 3, 1) := by decide +kernel
theorem dL_law_480 : decode code 480 = .ok (.iadd, 1) := by decide +kernel
theorem dL_law_481 : decode code 481 = .ok (.iaload, 1) := by decide +kernel
theorem dL_law_482 : decode code 482 = .ok (.invokevirtual 63, 3) := by decide +kernel
theorem dL_law_485 : decode code 485 = .ok (.if_icmp .eq 186, 3) := by decide +kernel
theorem dL_law_488 : decode code 488 = .ok (.iconst 0, 1) := by decide +kernel
theorem dL_law_489 : decode code 489 = .ok (.ireturn, 1) := by decide +kernel
theorem dL_law_490 : decode code 490 = .ok (.aload_n 1, 1) := by decide +kernel
theorem dL_law_491 : decode code 491 = .ok (.aload_n 0, 1) := by decide +kernel
theorem dL_law_492 : decode code 492 = .ok (.iload_n 3, 1) := by decide +kernel
theorem dL_law_493 : decode code 493 = .ok (.iconst 1, 1) := by decide +kernel
theorem dL_law_494 : decode code 494 = .ok (.iadd, 1) := by decide +kernel
theorem dL_law_495 : decode code 495 = .ok (.iaload, 1) := by decide +kernel
theorem dL_law_496 : decode code 496 = .ok (.aload_n 0, 1) := by decide +kernel
theorem dL_law_497 : decode code 497 = .ok (.iload_n 3, 1) := by decide +kernel
theorem dL_law_498 : decode code 498 = .ok (.iconst 2, 1) := by decide +kernel
theorem dL_law_499 : decode code 499 = .ok (.iadd, 1) := by decide +kernel
theorem dL_law_500 : decode code 500 = .ok (.iaload, 1) := by decide +kernel
theorem dL_law_501 : decode code 501 = .ok (.aload_n 0, 1) := by decide +kernel
theorem dL_law_502 : decode code 502 = .ok (.iload_n 3, 1) := by decide +kernel
theorem dL_law_503 : decode code 503 = .ok (.iconst 3, 1) := by decide +kernel
theorem dL_law_504 : decode code 504 = .ok (.iadd, 1) := by decide +kernel
theorem dL_law_505 : decode code 505 = .ok (.iaload, 1) := by decide +kernel
theorem dL_law_506 : decode code 506 = .ok (.invokevirtual 64, 3) := by decide +kernel
theorem dL_law_509 : decode code 509 = .ok (.aload_n 2, 1) := by decide +kernel
theorem dL_law_510 : decode code 510 = .ok (.aload_n 0, 1) := by decide +kernel
theorem dL_law_511 : decode code 511 = .ok (.iload_n 3, 1) := by decide +kernel
theorem dL_law_512 : decode code 512 = .ok (.iconst 1, 1) := by decide +kernel
theorem dL_law_513 : decode code 513 = .ok (.iadd, 1) := by decide +kernel
theorem dL_law_514 : decode code 514 = .ok (.iaload, 1) := by decide +kernel
theorem dL_law_515 : decode code 515 = .ok (.aload_n 0, 1) := by decide +kernel
theorem dL_law_516 : decode code 516 = .ok (.iload_n 3, 1) := by decide +kernel
theorem dL_law_517 : decode code 517 = .ok (.iconst 2, 1) := by decide +kernel
theorem dL_law_518 : decode code 518 = .ok (.iadd, 1) := by decide +kernel
theorem dL_law_519 : decode code 519 = .ok (.iaload, 1) := by decide +kernel
theorem dL_law_520 : decode code 520 = .ok (.aload_n 0, 1) := by decide +kernel
theorem dL_law_521 : decode code 521 = .ok (.iload_n 3, 1) := by decide +kernel
theorem dL_law_522 : decode code 522 = .ok (.iconst 3, 1) := by decide +kernel
theorem dL_law_523 : decode code 523 = .ok (.iadd, 1) := by decide +kernel
theorem dL_law_524 : decode code 524 = .ok (.iaload, 1) := by decide +kernel
theorem dL_law_525 : decode code 525 = .ok (.invokevirtual 67, 3) := by decide +kernel
theorem dL_law_528 : decode code 528 = .ok (.if_icmp .eq 143, 3) := by decide +kernel
theorem dL_law_531 : decode code 531 = .ok (.iconst 0, 1) := by decide +kernel
theorem dL_law_532 : decode code 532 = .ok (.ireturn, 1) := by decide +kernel
theorem dL_law_533 : decode code 533 = .ok (.aload_n 1, 1) := by decide +kernel
theorem dL_law_534 : decode code 534 = .ok (.aload_n 0, 1) := by decide +kernel
theorem dL_law_535 : decode code 535 = .ok (.iload_n 3, 1) := by decide +kernel
theorem dL_law_536 : decode code 536 = .ok (.iconst 1, 1) := by decide +kernel
theorem dL_law_537 : decode code 537 = .ok (.iadd, 1) := by decide +kernel
theorem dL_law_538 : decode code 538 = .ok (.iaload, 1) := by decide +kernel
theorem dL_law_539 : decode code 539 = .ok (.i2l, 1) := by decide +kernel
theorem dL_law_540 : decode code 540 = .ok (.bipush 32, 2) := by decide +kernel
theorem dL_law_542 : decode code 542 = .ok (.lshl, 1) := by decide +kernel
theorem dL_law_543 : decode code 543 = .ok (.aload_n 0, 1) := by decide +kernel
theorem dL_law_544 : decode code 544 = .ok (.iload_n 3, 1) := by decide +kernel
theorem dL_law_545 : decode code 545 = .ok (.iconst 2, 1) := by decide +kernel
theorem dL_law_546 : decode code 546 = .ok (.iadd, 1) := by decide +kernel
theorem dL_law_547 : decode code 547 = .ok (.iaload, 1) := by decide +kernel
theorem dL_law_548 : decode code 548 = .ok (.i2l, 1) := by decide +kernel
theorem dL_law_549 : decode code 549 = .ok (.ldc2_w 68, 3) := by decide +kernel
theorem dL_law_552 : decode code 552 = .ok (.land, 1) := by decide +kernel
theorem dL_law_553 : decode code 553 = .ok (.lor, 1) := by decide +kernel
theorem dL_law_554 : decode code 554 = .ok (.invokevirtual 70, 3) := by decide +kernel
theorem dL_law_557 : decode code 557 = .ok (.aload_n 2, 1) := by decide +kernel
theorem dL_law_558 : decode code 558 = .ok (.aload_n 0, 1) := by decide +kernel
theorem dL_law_559 : decode code 559 = .ok (.iload_n 3, 1) := by decide +kernel
theorem dL_law_560 : decode code 560 = .ok (.iconst 1, 1) := by decide +kernel
theorem dL_law_561 : decode code 561 = .ok (.iadd, 1) := by decide +kernel
theorem dL_law_562 : decode code 562 = .ok (.iaload, 1) := by decide +kernel
theorem dL_law_563 : decode code 563 = .ok (.i2l, 1) := by decide +kernel
theorem dL_law_564 : decode code 564 = .ok (.bipush 32, 2) := by decide +kernel
theorem dL_law_566 : decode code 566 = .ok (.lshl, 1) := by decide +kernel
theorem dL_law_567 : decode code 567 = .ok (.aload_n 0, 1) := by decide +kernel
theorem dL_law_568 : decode code 568 = .ok (.iload_n 3, 1) := by decide +kernel
theorem dL_law_569 : decode code 569 = .ok (.iconst 2, 1) := by decide +kernel
theorem dL_law_570 : decode code 570 = .ok (.iadd, 1) := by decide +kernel
theorem dL_law_571 : decode code 571 = .ok (.iaload, 1) := by decide +kernel
theorem dL_law_572 : decode code 572 = .ok (.i2l, 1) := by decide +kernel
theorem dL_law_573 : decode code 573 = .ok (.ldc2_w 68, 3) := by decide +kernel
theorem dL_law_576 : decode code 576 = .ok (.land, 1) := by decide +kernel
theorem dL_law_577 : decode code 577 = .ok (.lor, 1) := by decide +kernel
theorem dL_law_578 : decode code 578 = .ok (.invokevirtual 74, 3) := by decide +kernel
theorem dL_law_581 : decode code 581 = .ok (.if_icmp .eq 90, 3) := by decide +kernel
theorem dL_law_584 : decode code 584 = .ok (.iconst 0, 1) := by decide +kernel
theorem dL_law_585 : decode code 585 = .ok (.ireturn, 1) := by decide +kernel
theorem dL_law_586 : decode code 586 = .ok (.aload_n 1, 1) := by decide +kernel
theorem dL_law_587 : decode code 587 = .ok (.invokevirtual 75, 3) := by decide +kernel
theorem dL_law_590 : decode code 590 = .ok (.aload_n 2, 1) := by decide +kernel
theorem dL_law_591 : decode code 591 = .ok (.invokevirtual 79, 3) := by decide +kernel
theorem dL_law_594 : decode code 594 = .ok (.if_icmp .eq 77, 3) := by decide +kernel
theorem dL_law_597 : decode code 597 = .ok (.iconst 0, 1) := by decide +kernel
theorem dL_law_598 : decode code 598 = .ok (.ireturn, 1) := by decide +kernel
theorem dL_law_599 : decode code 599 = .ok (.aload_n 1, 1) := by decide +kernel
theorem dL_law_600 : decode code 600 = .ok (.invokevirtual 80, 3) := by decide +kernel
theorem dL_law_603 : decode code 603 = .ok (.aload_n 2, 1) := by decide +kernel
theorem dL_law_604 : decode code 604 = .ok (.invokevirtual 83, 3) := by decide +kernel
theorem dL_law_607 : decode code 607 = .ok (.if_icmp .eq 64, 3) := by decide +kernel
theorem dL_law_610 : decode code 610 = .ok (.iconst 0, 1) := by decide +kernel
theorem dL_law_611 : decode code 611 = .ok (.ireturn, 1) := by decide +kernel
theorem dL_law_612 : decode code 612 = .ok (.aload_n 1, 1) := by decide +kernel
theorem dL_law_613 : decode code 613 = .ok (.invokevirtual 84, 3) := by decide +kernel
theorem dL_law_616 : decode code 616 = .ok (.aload_n 2, 1) := by decide +kernel
theorem dL_law_617 : decode code 617 = .ok (.invokevirtual 87, 3) := by decide +kernel
theorem dL_law_620 : decode code 620 = .ok (.if_icmp .eq 51, 3) := by decide +kernel
theorem dL_law_623 : decode code 623 = .ok (.iconst 0, 1) := by decide +kernel
theorem dL_law_624 : decode code 624 = .ok (.ireturn, 1) := by decide +kernel
theorem dL_law_625 : decode code 625 = .ok (.aload_n 1, 1) := by decide +kernel
theorem dL_law_626 : decode code 626 = .ok (.aload_n 0, 1) := by decide +kernel
theorem dL_law_627 : decode code 627 = .ok (.iload_n 3, 1) := by decide +kernel
theorem dL_law_628 : decode code 628 = .ok (.iconst 1, 1) := by decide +kernel
theorem dL_law_629 : decode code 629 = .ok (.iadd, 1) := by decide +kernel
theorem dL_law_630 : decode code 630 = .ok (.iaload, 1) := by decide +kernel
theorem dL_law_631 : decode code 631 = .ok (.invokevirtual 88, 3) := by decide +kernel
theorem dL_law_634 : decode code 634 = .ok (.aload_n 2, 1) := by decide +kernel
theorem dL_law_635 : decode code 635 = .ok (.aload_n 0, 1) := by decide +kernel
theorem dL_law_636 : decode code 636 = .ok (.iload_n 3, 1) := by decide +kernel
theorem dL_law_637 : decode code 637 = .ok (.iconst 1, 1) := by decide +kernel
theorem dL_law_638 : decode code 638 = .ok (.iadd, 1) := by decide +kernel
theorem dL_law_639 : decode code 639 = .ok (.iaload, 1) := by decide +kernel
theorem dL_law_640 : decode code 640 = .ok (.invokevirtual 91, 3) := by decide +kernel
theorem dL_law_643 : decode code 643 = .ok (.if_icmp .eq 28, 3) := by decide +kernel
theorem dL_law_646 : decode code 646 = .ok (.iconst 0, 1) := by decide +kernel
theorem dL_law_647 : decode code 647 = .ok (.ireturn, 1) := by decide +kernel
theorem dL_law_648 : decode code 648 = .ok (.aload_n 1, 1) := by decide +kernel
theorem dL_law_649 : decode code 649 = .ok (.aload_n 0, 1) := by decide +kernel
theorem dL_law_650 : decode code 650 = .ok (.iload_n 3, 1) := by decide +kernel
theorem dL_law_651 : decode code 651 = .ok (.iconst 1, 1) := by decide +kernel
theorem dL_law_652 : decode code 652 = .ok (.iadd, 1) := by decide +kernel
theorem dL_law_653 : decode code 653 = .ok (.iaload, 1) := by decide +kernel
theorem dL_law_654 : decode code 654 = .ok (.invokevirtual 92, 3) := by decide +kernel
theorem dL_law_657 : decode code 657 = .ok (.aload_n 2, 1) := by decide +kernel
theorem dL_law_658 : decode code 658 = .ok (.aload_n 0, 1) := by decide +kernel
theorem dL_law_659 : decode code 659 = .ok (.iload_n 3, 1) := by decide +kernel
theorem dL_law_660 : decode code 660 = .ok (.iconst 1, 1) := by decide +kernel
theorem dL_law_661 : decode code 661 = .ok (.iadd, 1) := by decide +kernel
theorem dL_law_662 : decode code 662 = .ok (.iaload, 1) := by decide +kernel
theorem dL_law_663 : decode code 663 = .ok (.invokevirtual 95, 3) := by decide +kernel
theorem dL_law_666 : decode code 666 = .ok (.if_icmp .eq 5, 3) := by decide +kernel
theorem dL_law_669 : decode code 669 = .ok (.iconst 0, 1) := by decide +kernel
theorem dL_law_670 : decode code 670 = .ok (.ireturn, 1) := by decide +kernel
theorem dL_law_671 : decode code 671 = .ok (.iinc 3 4, 3) := by decide +kernel
theorem dL_law_674 : decode code 674 = .ok (.goto (-656), 3) := by decide +kernel
theorem dL_law_677 : decode code 677 = .ok (.iconst 1, 1) := by decide +kernel
theorem dL_law_678 : decode code 678 = .ok (.ireturn, 1) := by decide +kernel
end
section
-- ===== the world: cells at addresses, each with a row of ints; where they lie is the layout =====
abbrev CS : Type := Nat → Int32
abbrev ES : Type := Nat → CS
abbrev LY : Type := Nat → Option (CS → va_E)
/-- the ids of classes and slots; of int[], boolean[], Exchange[], Finder[], Line[]; the heap at the law's start -/
abbrev GG : Type := va_G × (ClassId × ClassId × ClassId × ClassId × ClassId) × Heap
def gI (g : GG) : ClassId := g.2.1.1
def gZ (g : GG) : ClassId := g.2.1.2.1
def gX (g : GG) : ClassId := g.2.1.2.2.1
def gF (g : GG) : ClassId := g.2.1.2.2.2.1
def gL (g : GG) : ClassId := g.2.1.2.2.2.2
def gH (g : GG) : Heap := g.2.2
def Ab (g : GG) : Nat → Prop := fun q => (gH g).size ≤ q
def tyG (g : GG) : List (ClassId × FieldType) := [(gI g, .int), (gZ g, .boolean), (gX g, .object RX0), (gF g, .object RX1), (gL g, .object RX2)]
def nestOK (U : State) : Prop := va_Nw (.methodLinkNest RX0 23 yX2_init RX4) U ∧ va_Nw (.methodLinkNest RX0 28 yX1_init RX4) U ∧ va_Nw (.methodLinkNest RX4 25 yX3_init RX4) U ∧ va_Nw (.methodLinkNest RX3 27 yX4_isWithin RX4) U ∧ va_Nw (.fieldLinkNest RX0 33 RX4 "FIRST_SETTINGS" "[I" RX4) U ∧ va_Nw (.castable "[I" "java/lang/Cloneable") U
/-- the two static rows of the class -/
def stOK (g : GG) (U : State) : Prop := ∃ t0 t1 : Nat, va_Z RX4 "FIRST_SETTINGS" "[I" (.ref t0) (Ab g) U (gH g) ∧ va_Z RX4 "MOST_SETTINGS" "[I" (.ref t1) (Ab g) U (gH g) ∧ (∃ f : CS, (gH g)[t0]? = some (vp_cell (gI g) (5, .inl f)) ∧ f 0 = 20 ∧ f 1 = 40 ∧ f 2 = 30 ∧ f 3 = 10 ∧ f 4 = 15) ∧ (∃ f : CS, (gH g)[t1]? = some (vp_cell (gI g) (5, .inl f)) ∧ f 0 = 200 ∧ f 1 = 200 ∧ f 2 = 100 ∧ f 3 = 100 ∧ f 4 = 200)
def KK (g : GG) (U : State) : Prop := va_K g.1 vwCl (tyG g) U ∧ nestOK U ∧ stOK g U
theorem nestOK_warm {s U : State} (hW : s.WarmedH U.vm) (h : nestOK s) : nestOK U := ⟨h.1.warmM hW, h.2.1.warmM hW, h.2.2.1.warmM hW, h.2.2.2.1.warmM hW, h.2.2.2.2.1.warmF hW, h.2.2.2.2.2.warmC hW⟩
theorem nestOK_same {u U : State} (hv : u.vm = U.vm) (h : nestOK u) : nestOK U := ⟨h.1.same rfl hv, h.2.1.same rfl hv, h.2.2.1.same rfl hv, h.2.2.2.1.same rfl hv, h.2.2.2.2.1.same rfl hv, h.2.2.2.2.2.same rfl hv⟩
theorem stOK_moved {g : GG} {u U : State} (hvm : u.vm.Alike U.vm) (h : stOK g u) : stOK g U := by
  obtain ⟨t0, t1, h0, h1, h2⟩ := h
  exact ⟨t0, t1, h0.moved hvm, h1.moved hvm, h2⟩
theorem KK_warm {g : GG} {s U : State} (hW : s.WarmedH U.vm) (h : KK g s) : KK g U := ⟨h.1.moved hW.alike, nestOK_warm hW h.2.1, stOK_moved hW.alike h.2.2⟩
theorem KK_same {g : GG} {u U : State} (hv : u.vm = U.vm) (h : KK g u) : KK g U := by
  have ha : u.vm.Alike U.vm := by rw [hv]; exact Vm.Alike.refl _
  exact ⟨h.1.moved ha, nestOK_same hv h.2.1, stOK_moved ha h.2.2⟩
def Wd (g : GG) (lay : LY) (E : ES) (H : Heap) : Prop := (∀ (a : Nat) (f : CS → va_E), lay a = some f → va_at g.1 vwCl (a, f (E a)) H) ∧ ∀ q : Nat, q < (gH g).size → H[q]? = (gH g)[q]?
def okL (g : GG) (lay : LY) : Prop := ∀ (a : Nat) (f : CS → va_E), lay a = some f → (gH g).size ≤ a
/-- a world that differs in cells that the layout doesn't name -/
theorem Wd.eqOn {g : GG} {lay : LY} {E E' : ES} {H : Heap} (h : Wd g lay E H) (he : ∀ a f, lay a = some f → E a = E' a) : Wd g lay E' H := ⟨fun a f hf => by rw [← he a f hf]; exact h.1 a f hf, h.2⟩
-- one cell set; a block of n cells laid at o
theorem vuS {α : Type} (f : Nat → α) (k : Nat) (v : α) : va_up f k v k = v := by simp [va_up]
theorem vuN {α : Type} {f : Nat → α} {k j : Nat} {v : α} (h : j ≠ k) : va_up f k v j = f j := by simp [va_up, h]
theorem vuU {α : Type} (f : Nat → α) (k : Nat) (v w : α) : va_up (va_up f k v) k w = va_up f k w := by
  funext j; by_cases h : j = k <;> simp [va_up, h]
theorem vuSelf {α : Type} (f : Nat → α) (k : Nat) : va_up f k (f k) = f := by
  funext j; by_cases h : j = k <;> simp [va_up, h]
def put (n o : Nat) (X E : ES) : ES := fun a => if o ≤ a ∧ a < o + n then X (a - o) else E a
def vw (o : Nat) (E : ES) : ES := fun k => E (o + k)
theorem putAt {n o k : Nat} {X E : ES} (h : k < n) : put n o X E (o + k) = X k := by
  have h1 : o ≤ o + k ∧ o + k < o + n := ⟨by omega, by omega⟩
  simp [put, h]
theorem putOff {n o a : Nat} {X E : ES} (h : a < o ∨ o + n ≤ a) : put n o X E a = E a := by
  have h1 : ¬ (o ≤ a ∧ a < o + n) := by omega
  simp [put, h1]
theorem putVw (n o : Nat) (E : ES) : put n o (vw o E) E = E := by
  funext a
  by_cases h : o ≤ a ∧ a < o + n
  · simp [put, h, vw]
  · simp [put, h]
theorem vwPut {n o : Nat} {X E : ES} {k : Nat} (h : k < n) : vw o (put n o X E) k = X k := putAt h
theorem putPut (n o : Nat) (X Y E : ES) : put n o X (put n o Y E) = put n o X E := by
  funext a
  by_cases h : o ≤ a ∧ a < o + n <;> simp [put, h]
theorem putUp {n o k : Nat} {X E : ES} {L : CS} (h : k < n) : va_up (put n o X E) (o + k) L = put n o (va_up X k L) E := by
  funext a
  by_cases e : a = o + k
  · subst e
    rw [vuS, putAt h, vuS]
  · rw [vuN e]
    by_cases h1 : o ≤ a ∧ a < o + n
    · have h2 : a - o ≠ k := by omega
      simp [put, h1, vuN h2]
    · simp [put, h1]
-- the kinds of cells
def lineE (L : CS) : va_E := .inr (2, [.int (L 0), .int (L 1), .int (L 2), .int (L 3), .int (L 4), .int (L 5), .int (L 6), .int (L 7), .int (L 8)])
def finE (L : CS) : va_E := .inr (1, [.int (L 0), .int (L 1), .int (L 2), .int (L 3), .int (L 4), .int (L 5), .int (L 6), .int (L 7), .int (L 8), .int (L 9)])
def exE (o : Nat) (L : CS) : va_E := .inr (0, [.ref (o + 1), .ref (o + 2), .ref (o + 3), .ref (o + 4), .ref (o + 5), .int (L 5), .int (L 6), .int (L 7), .int (L 8), .int (L 9), .int (L 10), .int (L 11), .int (L 12), .int (L 13), .int (L 14), .int (L 15)])
def arI (g : GG) (n : Nat) (L : CS) : va_E := .inl (gI g, n, .inl L)
def arZ (g : GG) (n : Nat) (L : CS) : va_E := .inl (gZ g, n, .inl L)
def arQ (cA : ClassId) (n : Nat) (f : Nat → Option Nat) (_ : CS) : va_E := .inl (cA, n, .inr (.inr (.inr (.inr f))))
def padE (o : Nat) (L : CS) : va_E := .inr (3, [.ref (o + 1), .int (L 1)])
def rotE (o : Nat) (_ : CS) : va_E := .inr (4, [.ref (o + 1), .ref (o + 27), .ref (o + 53), .ref (o + 54)])
def modE (o : Nat) (L : CS) : va_E := .inr (5, [.ref (o + 1), .ref (o + 2), .ref (o + 3), .ref (o + 4), .ref (o + 5), .int (L 5), .int (L 6), .int (L 7), .ref (o + 6), .int (L 9)])
def isLi (k : Nat) : Prop := k = 3 ∨ (6 ≤ k ∧ k < 22)
def isFi (k : Nat) : Prop := k = 4 ∨ (22 ≤ k ∧ k < 26)
def lix (n : Int32) : Nat := if n < 0 ∨ 16 ≤ n then 3 else 6 + n.toNatClampNeg
def fix (n : Int32) : Nat := if n < 0 ∨ 4 ≤ n then 4 else 22 + n.toNatClampNeg
theorem isLi_lt {k : Nat} (h : isLi k) : k < 26 := by rcases h with rfl | h <;> omega
theorem isFi_lt {k : Nat} (h : isFi k) : k < 26 := by rcases h with rfl | h <;> omega
/-- what the layout has of an exchange at o -/
def XL (g : GG) (lay : LY) (o : Nat) : Prop := lay o = some (exE o) ∧ lay (o + 1) = some (arQ (gL g) 16 (fun j => some (o + (6 + j)))) ∧ lay (o + 2) = some (arQ (gF g) 4 (fun j => some (o + (22 + j)))) ∧ lay (o + 5) = some (arI g 5) ∧ (∀ k, isLi k → lay (o + k) = some lineE) ∧ ∀ k, isFi k → lay (o + k) = some finE
def PL (g : GG) (lay : LY) (o : Nat) : Prop := lay o = some (padE o) ∧ lay (o + 1) = some (arI g 60)
def ML (g : GG) (lay : LY) (o : Nat) : Prop := lay o = some (modE o) ∧ lay (o + 1) = some (arI g 233) ∧ lay (o + 2) = some (arI g 233) ∧ lay (o + 3) = some (arI g 466) ∧ lay (o + 4) = some (arZ g 2) ∧ lay (o + 5) = some (arI g 60) ∧ lay (o + 6) = some (arI g 128)
/-- the whole component at o: the object, two exchanges, the row of the slots, the pad -/
def RL4 (g : GG) (lay : LY) (o : Nat) (sv : Nat → Option Nat) : Prop := lay o = some (rotE o) ∧ XL g lay (o + 1) ∧ XL g lay (o + 27) ∧ lay (o + 53) = some (arQ (gX g) 2 sv) ∧ PL g lay (o + 54)
-- the judgements of a method
def JMi (l : Launch) (g : GG) (lay : LY) (y : MethodName) (ws : List Cond) (rm : Room) (av : List Value) (E : ES) (Φ : Int32 → ES → Prop) : Prop :=
  Met l y ws rm (va_Pc av (fun U => KK g U ∧ Wd g lay E U.heap)) (va_Qi Φ (fun E' t => Wd g lay E' t.heap) (Ab g)) 0 0 (Ab g)
def JMv (l : Launch) (g : GG) (lay : LY) (y : MethodName) (ws : List Cond) (rm : Room) (av : List Value) (E : ES) (Φ : ES → Prop) : Prop :=
  Met l y ws rm (va_Pc av (fun U => KK g U ∧ Wd g lay E U.heap)) (va_Qv Φ (fun E' t => Wd g lay E' t.heap) (Ab g)) 0 0 (Ab g)
def JMr (l : Launch) (g : GG) (lay : LY) (y : MethodName) (ws : List Cond) (rm : Room) (av : List Value) (E : ES) (Φ : Nat → ES → Prop) : Prop :=
  Met l y ws rm (va_Pc av (fun U => KK g U ∧ Wd g lay E U.heap)) (va_Qr (S := ES) (fun _ => True) (fun E' a t => Φ a E' ∧ Wd g lay E' t.heap) (Ab g)) 0 0 (Ab g)
theorem blindW {g : GG} {lay : LY} {E : ES} {av : List Value} : FrameBlind (va_Pc av (fun U => KK g U ∧ Wd g lay E U.heap)) := fun _ _ _ _ q => ⟨q.1, KK_same rfl q.2.1, q.2.2⟩
/-- the words of a method: its code, and the tables' good ones -/
theorem gd_of {c0 : Cond} {args : Array Value} {s : State} (h : ∀ w ∈ (c0 :: lw_gd), w.before args s = true) : ∀ w ∈ lw_gd, w.before args s = true := fun w hw => h w (List.mem_cons_of_mem _ hw)
theorem gd_GI {c0 : Cond} (h0 : c0 ∈ lw_gd) : GoodIn lw_gd (c0 :: lw_gd) := fun w hw => by
  rcases List.mem_cons.mp hw with rfl | h
  · exact ⟨h0, good_of_word (gd_good _ h0)⟩
  · exact ⟨h, good_of_word (gd_good _ h)⟩
theorem gd_GV {own C : String} {idx : Nat} {y : MethodName} {c0 : Cond} (h1 : Cond.methodLink own idx y ∈ lw_gd) (h2 : Cond.instanceMethod y ∈ lw_gd) (h3 : Cond.selects C y y ∈ lw_gd) (h4 : Cond.initialized C ∈ lw_gd) (h0 : c0 ∈ lw_gd) : GoodIn lw_gd (wsV own idx C y (c0 :: lw_gd)) := fun w hw => by
  have h : w ∈ lw_gd := by
    simp only [wsV, List.cons_append, List.nil_append, List.mem_cons] at hw
    rcases hw with rfl | rfl | rfl | rfl | rfl | h
    · exact h1
    · exact h2
    · exact h3
    · exact h4
    · exact h0
    · exact h
  exact ⟨h, good_of_word (gd_good _ h)⟩
theorem gd_GS {own : String} {idx : Nat} {y : MethodName} {c0 : Cond} (h1 : Cond.methodLink own idx y ∈ lw_gd) (h2 : Cond.static y ∈ lw_gd) (h4 : Cond.initialized own ∈ lw_gd) (h0 : c0 ∈ lw_gd) : GoodIn lw_gd (wsS own idx y (c0 :: lw_gd)) := fun w hw => by
  have h : w ∈ lw_gd := by
    simp only [wsS, List.cons_append, List.nil_append, List.mem_cons] at hw
    rcases hw with rfl | rfl | rfl | rfl | h
    · exact h1
    · exact h2
    · exact h4
    · exact h0
    · exact h
  exact ⟨h, good_of_word (gd_good _ h)⟩
section WR
variable {p : Program} {l : Launch} {e : Env} {R : Room} {s : State} {m : MethodId} {args : Array Value} {below : List Frame} {meth : Method} {c : Code} {H : Heap} {locs : List Loc} {cells slots : Nat} {Q : State → Prop}
variable {cc : ByteArray} {pc : Nat} {ls : Array Slot} {rest st : List Value} {g : GG} {lay : LY} {E E1 : ES} {H0 : Heap} {a : Nat} {f : CS → va_E} {L : CS}
theorem Wd.at {a : Nat} {f : CS → va_E} {L : CS} (hW : Wd g lay E H) (hla : lay a = some f) (hL : E a = L) : va_at g.1 vwCl (a, f L) H := by
  rw [← hL]; exact hW.1 a f hla
theorem Wd.one {a : Nat} {f : CS → va_E} {L : CS} {e : va_E} (hW : Wd g lay E H) (hla : lay a = some f) (hL : E a = L) (he : f L = e) : va_P g.1 vwCl [(a, e)] H := by
  intro k q hk
  have hz : k < 1 := (List.getElem?_eq_some_iff.mp hk).1
  rw [show k = 0 by omega] at hk
  cases hk
  rw [← he]; exact hW.at hla hL
/-- one cell of the world written -/
theorem Wd.set {H1 : Heap} {L1 : CS} (hW : Wd g lay E H) (hge : okL g lay) (hla : lay a = some f) (h1 : va_at g.1 vwCl (a, f L1) H1) (oq : ∀ q : Nat, q ≠ a → H1[q]? = H[q]?) (hE : va_up E a L1 = E1) : Wd g lay E1 H1 := by
  refine ⟨fun a2 f2 h2 => ?_, fun q hq => ?_⟩
  · by_cases e : a2 = a
    · subst e
      cases hla.symm.trans h2
      rw [← hE, vuS]
      exact h1
    · rw [← hE, vuN e]
      exact (hW.1 a2 f2 h2).kept (oq a2 e)
  · rw [oq q (fun e => by have := hge a f hla; omega)]
    exact hW.2 q hq
theorem vaS_put {H1 : Heap} {i : Nat} (hS : va_S (Ab g) H0 H locs) (hge : okL g lay) (hla : lay a = some f) (z : H1.size = H.size) (oq : ∀ q : Nat, q ≠ a → H1[q]? = H[q]?) : va_S (Ab g) H0 H1 (locs ++ [⟨a, i⟩]) := by
  refine ⟨by rw [z]; exact hS.1, fun q h1 h2 => ?_, fun q hq => ?_⟩
  · rw [oq q (fun e => h2 (by rw [e]; exact hge a f hla))]
    exact hS.2.1 q h1 h2
  · rcases List.mem_append.mp hq with h | h
    · exact hS.2.2 q h
    · rw [List.mem_singleton.mp h]
      exact hge a f hla
theorem w_get (hx : p.tables.exec = Jvm.exec) (hb : c.code = cc) {own C : String} {T : u_T} {N ci index j : Nat} (hown : s.vm.findClass own = some m.cls) (hts : ∀ w ∈ lw_gd, w.before args s = true) (hK : KK g s) (hW : Wd g lay E H) (hla : lay a = some f) (hL : E a = L) {fs : List Value} {v : Value} (hfe : f L = .inr (ci, fs)) (hv : fs[j]? = some v) (hc : vwCl[ci]? = some (C, T, N)) (hj : j < N) (hin : ∀ w ∈ u_ws C T N, w ∈ lw_gd) (hlk : Cond.fieldLink own index C (T j).2.1 (T j).2.2.1 ∈ lw_gd) (hsame : (T j).1 = C) (hdg : decode cc pc = .ok (.getfield index, 3))
    (kk : W p l e R s m args below meth c H locs cells slots Q (F0 m (pc + 3) ls (v :: rest))) : W p l e R s m args below meth c H locs cells slots Q (F0 m pc ls (.ref a :: rest)) :=
  va_get (D := g.1) hx hb hts hin hown hK.1 (hW.one hla hL hfe) 0 rfl hc j hj (hts _ hlk) (by rw [hsame]; exact fun _ h => h) hv hdg kk
theorem w_put (hx : p.tables.exec = Jvm.exec) (hb : c.code = cc) {own C : String} {T : u_T} {N ci index j : Nat} (hown : s.vm.findClass own = some m.cls) (hts : ∀ w ∈ lw_gd, w.before args s = true) (hK : KK g s) (hge : okL g lay) (hW : Wd g lay E H) (hS : va_S (Ab g) H0 H locs) (hla : lay a = some f) (hL : E a = L) {fs : List Value} {x : Int32} (hfe : f L = .inr (ci, fs)) (hfe2 : f (upd L j x) = .inr (ci, fs.set j (.int x))) (hl : j < fs.length) (hc : vwCl[ci]? = some (C, T, N)) (hj : j < N) (hin : ∀ w ∈ u_ws C T N, w ∈ lw_gd) (ty0 : Nat → FieldType) (hty : ∀ k, k < N → parseFieldDescriptor (T k).2.2.1 = some (ty0 k)) (hnm : ∀ a, a < N → ∀ b, b < N → a ≠ b → (T a).2.1 ≠ (T b).2.1) (hlk : Cond.fieldLink own index C (T j).2.1 (T j).2.2.1 ∈ lw_gd) (hsame : (T j).1 = C) (hfin : (T j).2.2.2 = false) {ty : FieldType} (hd : parseFieldDescriptor (T j).2.2.1 = some ty) (hn : narrow ty (.int x) = .int x) (hfit : fits ty (.int x) = true) (hdg : decode cc pc = .ok (.putfield index, 3)) (hE : va_up E a (upd L j x) = E1)
    (kk : ∀ (H1 : Heap) (locs1 : List Loc), Wd g lay E1 H1 → va_S (Ab g) H0 H1 locs1 → W p l e R s m args below meth c H1 locs1 cells slots Q (F0 m (pc + 3) ls rest)) : W p l e R s m args below meth c H locs cells slots Q (F0 m pc ls (.int x :: .ref a :: rest)) := by
  have hap := va_apart (own := own) hts hin ty0 hty hnm hK.1 hc
  obtain ⟨r, h1, cell, q1, q2, q3, q4⟩ := (hW.one hla hL hfe) 0 _ rfl
  have hr : r = (C, T, N) := Option.some.inj (h1.symm.trans hc)
  subst hr
  obtain ⟨hSl, hfc, kC, hkC, hkind⟩ := hK.1.1 ci _ hc
  obtain ⟨cf, kf, fi, fd, hi, hsl⟩ := hSl j hj
  have hlay := hts _ (hin _ (u_in_lay hj))
  unfold u_lay at hlay
  rw [if_neg (by rw [hfin]; decide)] at hlay
  have hst := (u_facts hfc hkC (u_lays hts hin hj) hi).1
  have h6 := u_store hfc hkC hkind hlay hi hd hn hfit
  refine W.putK hx hb (f := fd) ⟨hown, hts _ hlk, ⟨_, _, _, by rw [hsame] at hi; exact hi⟩, hst⟩ (by rw [q2]; exact h6) q1 q3 (by rw [hsl]; exact k2_hasslot (q4 j hj)) rfl rfl hdg fun H' e1 e2 e3 => ?_
  rw [hsl] at e1 ⊢
  refine kk H' _ (hW.set hge hla ?_ e3 hE) (vaS_put hS hge hla e2 e3)
  rw [hfe2]
  exact ⟨_, hc, t_OB.to (V := updV (vp_V fs) j (.int x)) ⟨_, e1, q2, q3, t_set q4 hap hj (.int x)⟩ (fun i _ => vp_updV_set hl (.int x) i)⟩
theorem w_iald (hx : p.tables.exec = Jvm.exec) (hb : c.code = cc) (hK : KK g s) (hW : Wd g lay E H) {n : Nat} (hla : lay a = some (arI g n)) (hL : E a = L) {i : Int32} (hin : vp_in i n) (hdg : decode cc pc = .ok (.iaload, 1))
    (kk : W p l e R s m args below meth c H locs cells slots Q (F0 m (pc + 1) ls (.int (L i.toNatClampNeg) :: rest))) : W p l e R s m args below meth c H locs cells slots Q (F0 m pc ls (.int i :: .ref a :: rest)) :=
  va_iald (D := g.1) hx hb hK.1 (hW.one hla hL rfl) 0 0 rfl rfl hin hdg kk
theorem w_zald (hx : p.tables.exec = Jvm.exec) (hb : c.code = cc) (hK : KK g s) (hW : Wd g lay E H) {n : Nat} (hla : lay a = some (arZ g n)) (hL : E a = L) {i : Int32} (hin : vp_in i n) (hdg : decode cc pc = .ok (.baload, 1))
    (kk : W p l e R s m args below meth c H locs cells slots Q (F0 m (pc + 1) ls (.int (L i.toNatClampNeg) :: rest))) : W p l e R s m args below meth c H locs cells slots Q (F0 m pc ls (.int i :: .ref a :: rest)) :=
  va_zald (D := g.1) hx hb hK.1 (hW.one hla hL rfl) 0 1 rfl rfl hin hdg kk
theorem w_aldq (hx : p.tables.exec = Jvm.exec) (hb : c.code = cc) (hK : KK g s) (hW : Wd g lay E H) {n : Nat} {cA : ClassId} {C : String} {q : Nat → Option Nat} (t0 : Nat) (ht : (tyG g)[t0]? = some (cA, .object C)) (hla : lay a = some (arQ cA n q)) {i : Int32} (hin : vp_in i n) (hdg : decode cc pc = .ok (.aaload, 1))
    (kk : W p l e R s m args below meth c H locs cells slots Q (F0 m (pc + 1) ls (va_rf (q i.toNatClampNeg) :: rest))) : W p l e R s m args below meth c H locs cells slots Q (F0 m pc ls (.int i :: .ref a :: rest)) :=
  va_aldq (D := g.1) hx hb hK.1 (hW.one hla rfl rfl) 0 t0 rfl ht hin hdg kk
theorem w_alen (hx : p.tables.exec = Jvm.exec) (hb : c.code = cc) (hK : KK g s) (hW : Wd g lay E H) {cA : ClassId} {z : vp_A} {ty : FieldType} (t0 : Nat) (ht : (tyG g)[t0]? = some (cA, ty)) (hla : lay a = some f) (hL : E a = L) (hfe : f L = .inl (cA, z)) {v : Int32} (hv : Int32.ofNat z.1 = v) (hdg : decode cc pc = .ok (.arraylength, 1))
    (kk : W p l e R s m args below meth c H locs cells slots Q (F0 m (pc + 1) ls (.int v :: rest))) : W p l e R s m args below meth c H locs cells slots Q (F0 m pc ls (.ref a :: rest)) :=
  va_alen (D := g.1) hx hb hK.1 (hW.one hla hL hfe) 0 t0 rfl ht hv hdg kk
theorem w_iast (hx : p.tables.exec = Jvm.exec) (hb : c.code = cc) (hK : KK g s) (hge : okL g lay) (hW : Wd g lay E H) (hS : va_S (Ab g) H0 H locs) {n : Nat} (hla : lay a = some (arI g n)) (hL : E a = L) {i x : Int32} (hin : vp_in i n) (hdg : decode cc pc = .ok (.iastore, 1)) (hE : va_up E a (upd L i.toNatClampNeg x) = E1)
    (kk : ∀ (H1 : Heap) (locs1 : List Loc), Wd g lay E1 H1 → va_S (Ab g) H0 H1 locs1 → W p l e R s m args below meth c H1 locs1 cells slots Q (F0 m (pc + 1) ls rest)) : W p l e R s m args below meth c H locs cells slots Q (F0 m pc ls (.int x :: .int i :: .ref a :: rest)) := by
  refine W.iast hx hb ((hW.one hla hL rfl) 0 _ rfl) ((hK.1.2 0 _ rfl).1 n (fun j => .int (L j))) (fun q => by cases q) (by show ¬ (i < 0 ∨ (arrV _ _ _).slots.size ≤ _); rw [arrV_size]; exact hin) rfl rfl hdg fun H1 e z oq => ?_
  refine kk H1 _ (hW.set hge hla ?_ oq hE) (vaS_put hS hge hla z oq)
  show H1[a]? = some (vp_cell _ _)
  rw [e]
  rw [vp_cell_i, vp_cell_i, arrV_store]
  congr 2
  funext q
  by_cases hq : q = i.toNatClampNeg
  · subst hq
    simp [updV, upd]
  · simp [updV, upd, hq]
theorem w_recv {C : String} {T : u_T} {N ci : Nat} {fs : List Value} (hK : KK g s) (hW : Wd g lay E H) (hla : lay a = some f) (hL : E a = L) (hfe : f L = .inr (ci, fs)) (hc : vwCl[ci]? = some (C, T, N)) : ∃ cellB : Cell, H[a]? = some cellB ∧ cellB.vm.isStatics = false ∧ s.vm.findClass C = some cellB.cls :=
  va_recv hK.1 (hW.one hla hL hfe) (q := (C, T, N)) hc (q0 := 0) rfl
variable {y : MethodName} {bytes : ByteArray} {maxL nL n index : Nat} {ret : Option FieldType} {rm : Room} {own C : String} {As : List Value} {ws : List Cond}
theorem w_cvi (hx : p.tables.exec = Jvm.exec) (hb : c.code = cc) (hml : c.maxLocals = nL) (hown : s.vm.findClass own = some m.cls) (hts : ∀ w ∈ lw_gd, w.before args s = true) (hK : KK g s) (hW : Wd g lay E H) (hS : va_S (Ab g) H0 H locs) (hls : ls.size = nL) {Φ : Int32 → ES → Prop} (hM : JMi l g lay y ws rm (.ref a :: As) E Φ) (cw : CallW R s args own C index y bytes maxL ret ws rm 0 0 n) (hrc : ∃ cellB : Cell, H[a]? = some cellB ∧ cellB.vm.isStatics = false ∧ s.vm.findClass C = some cellB.cls) (hn : As.length = n) (hst : st = As.reverse ++ .ref a :: rest) (hcat : (rest.map fun v => v.category).sum ≤ 8) (hdg : decode cc pc = .ok (.invokevirtual index, 3)) (hf : cells + 0 ≤ R.cells ∧ slots + 0 ≤ R.slots)
    (kk : ∀ (r : Int32) (E1 : ES) (H1 : Heap) (locs1 : List Loc), Φ r E1 → Wd g lay E1 H1 → va_S (Ab g) H0 H1 locs1 → W p l e R s m args below meth c H1 locs1 cells slots Q (F0 m (pc + 3) ls (.int r :: rest))) : W p l e R s m args below meth c H locs cells slots Q (F0 m pc ls st) := by
  subst hst
  refine va_calli (va_runV (As := As) (rest := rest) ⟨hx, hb, hml, hown, hts⟩ hM cw ⟨blindW, hrc, fun U hU hW' => ⟨rfl, KK_warm hW' hK, by rw [hU]; exact hW⟩⟩ rfl hn hls rfl (lv_room hcat) hdg hf) hS (fun q _ h => h) (fun q h => h) (fun r u t H1 locs1 ht hvm hw hB hz hk hS1 => ?_)
  rw [ht] at hB
  exact kk r u H1 locs1 hw hB hS1
theorem w_cvv (hx : p.tables.exec = Jvm.exec) (hb : c.code = cc) (hml : c.maxLocals = nL) (hown : s.vm.findClass own = some m.cls) (hts : ∀ w ∈ lw_gd, w.before args s = true) (hK : KK g s) (hW : Wd g lay E H) (hS : va_S (Ab g) H0 H locs) (hls : ls.size = nL) {Φ : ES → Prop} (hM : JMv l g lay y ws rm (.ref a :: As) E Φ) (cw : CallW R s args own C index y bytes maxL ret ws rm 0 0 n) (hrc : ∃ cellB : Cell, H[a]? = some cellB ∧ cellB.vm.isStatics = false ∧ s.vm.findClass C = some cellB.cls) (hn : As.length = n) (hst : st = As.reverse ++ .ref a :: rest) (hcat : (rest.map fun v => v.category).sum ≤ 8) (hdg : decode cc pc = .ok (.invokevirtual index, 3)) (hf : cells + 0 ≤ R.cells ∧ slots + 0 ≤ R.slots)
    (kk : ∀ (E1 : ES) (H1 : Heap) (locs1 : List Loc), Φ E1 → Wd g lay E1 H1 → va_S (Ab g) H0 H1 locs1 → W p l e R s m args below meth c H1 locs1 cells slots Q (F0 m (pc + 3) ls rest)) : W p l e R s m args below meth c H locs cells slots Q (F0 m pc ls st) := by
  subst hst
  refine va_callv (va_runV (As := As) (rest := rest) ⟨hx, hb, hml, hown, hts⟩ hM cw ⟨blindW, hrc, fun U hU hW' => ⟨rfl, KK_warm hW' hK, by rw [hU]; exact hW⟩⟩ rfl hn hls rfl (lv_room hcat) hdg hf) hS (fun q _ h => h) (fun q h => h) (fun u t H1 locs1 ht hvm hw hB hz hk hS1 => ?_)
  rw [ht] at hB
  exact kk u H1 locs1 hw hB hS1
theorem w_cvr (hx : p.tables.exec = Jvm.exec) (hb : c.code = cc) (hml : c.maxLocals = nL) (hown : s.vm.findClass own = some m.cls) (hts : ∀ w ∈ lw_gd, w.before args s = true) (hK : KK g s) (hW : Wd g lay E H) (hS : va_S (Ab g) H0 H locs) (hls : ls.size = nL) {Φ : Nat → ES → Prop} (hM : JMr l g lay y ws rm (.ref a :: As) E Φ) (cw : CallW R s args own C index y bytes maxL ret ws rm 0 0 n) (hrc : ∃ cellB : Cell, H[a]? = some cellB ∧ cellB.vm.isStatics = false ∧ s.vm.findClass C = some cellB.cls) (hn : As.length = n) (hst : st = As.reverse ++ .ref a :: rest) (hcat : (rest.map fun v => v.category).sum ≤ 8) (hdg : decode cc pc = .ok (.invokevirtual index, 3)) (hf : cells + 0 ≤ R.cells ∧ slots + 0 ≤ R.slots)
    (kk : ∀ (r : Nat) (E1 : ES) (H1 : Heap) (locs1 : List Loc), Φ r E1 → Wd g lay E1 H1 → va_S (Ab g) H0 H1 locs1 → W p l e R s m args below meth c H1 locs1 cells slots Q (F0 m (pc + 3) ls (.ref r :: rest))) : W p l e R s m args below meth c H locs cells slots Q (F0 m pc ls st) := by
  subst hst
  refine va_callr (va_runV (As := As) (rest := rest) ⟨hx, hb, hml, hown, hts⟩ hM cw ⟨blindW, hrc, fun U hU hW' => ⟨rfl, KK_warm hW' hK, by rw [hU]; exact hW⟩⟩ rfl hn hls rfl (lv_room hcat) hdg hf) hS (fun q _ h => h) (fun q h => h) (fun u ra t H1 locs1 ht hvm hw hB hz hk hS1 => ?_)
  rw [ht] at hB
  exact kk ra u H1 locs1 hB.1 hB.2 hS1
theorem w_csi (hx : p.tables.exec = Jvm.exec) (hb : c.code = cc) (hml : c.maxLocals = nL) (hown : s.vm.findClass own = some m.cls) (hts : ∀ w ∈ lw_gd, w.before args s = true) (hK : KK g s) (hW : Wd g lay E H) (hS : va_S (Ab g) H0 H locs) (hls : ls.size = nL) {Φ : Int32 → ES → Prop} (hM : JMi l g lay y ws rm As E Φ) (cw : CallB R s args own index y bytes maxL ret ws rm 0 0 n ∧ (Cond.static y).before args s = true) (hn : As.length = n) (hst : st = As.reverse ++ rest) (hcat : (rest.map fun v => v.category).sum ≤ 8) (hdg : decode cc pc = .ok (.invokestatic index, 3)) (hf : cells + 0 ≤ R.cells ∧ slots + 0 ≤ R.slots)
    (kk : ∀ (r : Int32) (E1 : ES) (H1 : Heap) (locs1 : List Loc), Φ r E1 → Wd g lay E1 H1 → va_S (Ab g) H0 H1 locs1 → W p l e R s m args below meth c H1 locs1 cells slots Q (F0 m (pc + 3) ls (.int r :: rest))) : W p l e R s m args below meth c H locs cells slots Q (F0 m pc ls st) := by
  subst hst
  refine va_calli (va_runS (As := As) (rest := rest) ⟨hx, hb, hml, hown, hts⟩ hM cw ⟨blindW, fun U hU hW' => ⟨rfl, KK_warm hW' hK, by rw [hU]; exact hW⟩⟩ rfl hn hls rfl (lv_room hcat) hdg hf) hS (fun q _ h => h) (fun q h => h) (fun r u t H1 locs1 ht hvm hw hB hz hk hS1 => ?_)
  rw [ht] at hB
  exact kk r u H1 locs1 hw hB hS1
theorem w_csiN {host : String} (hx : p.tables.exec = Jvm.exec) (hb : c.code = cc) (hml : c.maxLocals = nL) (hown : s.vm.findClass own = some m.cls) (hts : ∀ w ∈ lw_gd, w.before args s = true) (hK : KK g s) (hW : Wd g lay E H) (hS : va_S (Ab g) H0 H locs) (hls : ls.size = nL) {Φ : Int32 → ES → Prop} (hM : JMi l g lay y ws rm As E Φ) (cw : va_CN R s args own index y host bytes maxL ret ws rm 0 0 n ∧ (Cond.static y).before args s = true ∧ True) (hn : As.length = n) (hst : st = As.reverse ++ rest) (hcat : (rest.map fun v => v.category).sum ≤ 8) (hdg : decode cc pc = .ok (.invokestatic index, 3)) (hf : cells + 0 ≤ R.cells ∧ slots + 0 ≤ R.slots)
    (kk : ∀ (r : Int32) (E1 : ES) (H1 : Heap) (locs1 : List Loc), Φ r E1 → Wd g lay E1 H1 → va_S (Ab g) H0 H1 locs1 → W p l e R s m args below meth c H1 locs1 cells slots Q (F0 m (pc + 3) ls (.int r :: rest))) : W p l e R s m args below meth c H locs cells slots Q (F0 m pc ls st) := by
  subst hst
  refine va_calli (va_runSN (As := As) (rest := rest) ⟨hx, hb, hml, hown, hts⟩ hM cw ⟨blindW, fun U hU hW' => ⟨rfl, KK_warm hW' hK, by rw [hU]; exact hW⟩⟩ rfl hn hls rfl (lv_room hcat) hdg hf) hS (fun q _ h => h) (fun q h => h) (fun r u t H1 locs1 ht hvm hw hB hz hk hS1 => ?_)
  rw [ht] at hB
  exact kk r u H1 locs1 hw hB hS1
end WR
section WE
variable {p : Program} {l : Launch} {e : Env} {R : Room} {s : State} {m : MethodId} {args : Array Value} {below : List Frame} {meth : Method} {c : Code} {H : Heap} {locs : List Loc}
variable {cc : ByteArray} {pc : Nat} {ls : Array Slot} {g : GG} {lay : LY} {E : ES}
theorem w_iret {v : Int32} {Φ : Int32 → ES → Prop} (hx : p.tables.exec = Jvm.exec) (hb : c.code = cc) (hr : meth.sig.returnType = some .int) (hlocks : meth.locks = false) (hW : Wd g lay E H) (hS : va_S (Ab g) s.heap H locs) (hq : Φ v E) (hdg : decode cc pc = .ok (.ireturn, 1)) : W p l e R s m args below meth c H locs 0 0 (MQ below (va_Qi Φ (fun E' t => Wd g lay E' t.heap) (Ab g)) args s 0 0 (Ab g)) (F0 m pc ls [.int v]) :=
  W.iret hx hb hr (fun t ht _ => ⟨⟨v, E, rfl, hq, (by show Wd g lay E t.heap; rw [ht]; exact hW)⟩, hS.F ht⟩) hS.2.2 hdg hlocks
theorem narZ {v : Int32} (h : v = 0 ∨ v = 1) : narrow .boolean (.int v) = .int v := by rcases h with rfl | rfl <;> decide
theorem fitZ {v : Int32} (h : v = 0 ∨ v = 1) : fits .boolean (.int v) = true := by rcases h with rfl | rfl <;> decide
theorem w_zret {v : Int32} {Φ : Int32 → ES → Prop} (hx : p.tables.exec = Jvm.exec) (hb : c.code = cc) (hr : meth.sig.returnType = some .boolean) (hlocks : meth.locks = false) (hW : Wd g lay E H) (hS : va_S (Ab g) s.heap H locs) (hz : v = 0 ∨ v = 1) (hq : Φ v E) (hdg : decode cc pc = .ok (.ireturn, 1)) : W p l e R s m args below meth c H locs 0 0 (MQ below (va_Qi Φ (fun E' t => Wd g lay E' t.heap) (Ab g)) args s 0 0 (Ab g)) (F0 m pc ls [.int v]) :=
  W.zret (ty := .boolean) hx hb hr (narZ hz) (fun t ht _ => ⟨⟨v, E, rfl, hq, (by show Wd g lay E t.heap; rw [ht]; exact hW)⟩, hS.F ht⟩) hS.2.2 hdg hlocks
theorem w_vret {Φ : ES → Prop} (hx : p.tables.exec = Jvm.exec) (hb : c.code = cc) (hr : meth.sig.returnType = none) (hlocks : meth.locks = false) (hW : Wd g lay E H) (hS : va_S (Ab g) s.heap H locs) (hq : Φ E) (hdg : decode cc pc = .ok (.return_, 1)) : W p l e R s m args below meth c H locs 0 0 (MQ below (va_Qv Φ (fun E' t => Wd g lay E' t.heap) (Ab g)) args s 0 0 (Ab g)) (F0 m pc ls []) :=
  W.vret hx hb hr (fun t ht _ => ⟨⟨E, rfl, hq, (by show Wd g lay E t.heap; rw [ht]; exact hW)⟩, hS.F ht⟩) hS.2.2 hdg hlocks
theorem w_aret {v : Nat} {rt : FieldType} {Φ : Nat → ES → Prop} (hx : p.tables.exec = Jvm.exec) (hb : c.code = cc) (hr : meth.sig.returnType = some rt) (hrt : (∃ n, rt = .object n) ∨ ∃ t, rt = .array t) (hlocks : meth.locks = false) (hW : Wd g lay E H) (hS : va_S (Ab g) s.heap H locs) (hq : Φ v E) (hdg : decode cc pc = .ok (.areturn, 1)) : W p l e R s m args below meth c H locs 0 0 (MQ below (va_Qr (S := ES) (fun _ => True) (fun E' a t => Φ a E' ∧ Wd g lay E' t.heap) (Ab g)) args s 0 0 (Ab g)) (F0 m pc ls [.ref v]) :=
  W.aret hx hb hr hrt (Or.inr ⟨v, rfl⟩) (fun t ht _ => ⟨⟨E, v, rfl, trivial, hq, (by show Wd g lay E t.heap; rw [ht]; exact hW)⟩, hS.F ht⟩) hS.2.2 hdg hlocks
end WE
theorem gd_GSU {own : String} {idx : Nat} {y : MethodName} {c0 : Cond} (h1 : Cond.methodLink own idx y ∈ lw_gd) (h2 : Cond.static y ∈ lw_gd) (h4 : Cond.initialized y.cls ∈ lw_gd) (h0 : c0 ∈ lw_gd) : GoodIn lw_gd (va_wsS own idx y (c0 :: lw_gd)) := fun w hw => by
  have h : w ∈ lw_gd := by
    simp only [va_wsS, List.cons_append, List.nil_append, List.mem_cons] at hw
    rcases hw with rfl | rfl | rfl | rfl | h
    · exact h1
    · exact h2
    · exact h4
    · exact h0
    · exact h
  exact ⟨h, good_of_word (gd_good _ h)⟩
end
section
theorem wd_195 : Cond.fieldLink RX0 11 RX0 (TX0 0).2.1 (TX0 0).2.2.1 ∈ lw_gd := gd_in (List.mem_of_getElem? (i := 195) (by decide +kernel)) (by decide +kernel)
theorem wd_196 : Cond.fieldLink RX0 19 RX0 (TX0 1).2.1 (TX0 1).2.2.1 ∈ lw_gd := gd_in (List.mem_of_getElem? (i := 196) (by decide +kernel)) (by decide +kernel)
theorem wd_197 : Cond.fieldLink RX0 24 RX0 (TX0 2).2.1 (TX0 2).2.2.1 ∈ lw_gd := gd_in (List.mem_of_getElem? (i := 197) (by decide +kernel)) (by decide +kernel)
theorem wd_198 : Cond.fieldLink RX0 29 RX0 (TX0 3).2.1 (TX0 3).2.2.1 ∈ lw_gd := gd_in (List.mem_of_getElem? (i := 198) (by decide +kernel)) (by decide +kernel)
theorem wd_199 : Cond.fieldLink RX0 42 RX0 (TX0 4).2.1 (TX0 4).2.2.1 ∈ lw_gd := gd_in (List.mem_of_getElem? (i := 199) (by decide +kernel)) (by decide +kernel)
theorem wd_200 : Cond.fieldLink RX0 45 RX0 (TX0 5).2.1 (TX0 5).2.2.1 ∈ lw_gd := gd_in (List.mem_of_getElem? (i := 200) (by decide +kernel)) (by decide +kernel)
theorem wd_202 : Cond.fieldLink RX0 49 RX0 (TX0 6).2.1 (TX0 6).2.2.1 ∈ lw_gd := gd_in (List.mem_of_getElem? (i := 202) (by decide +kernel)) (by decide +kernel)
theorem wd_204 : Cond.fieldLink RX0 52 RX0 (TX0 7).2.1 (TX0 7).2.2.1 ∈ lw_gd := gd_in (List.mem_of_getElem? (i := 204) (by decide +kernel)) (by decide +kernel)
theorem wd_206 : Cond.fieldLink RX0 55 RX0 (TX0 8).2.1 (TX0 8).2.2.1 ∈ lw_gd := gd_in (List.mem_of_getElem? (i := 206) (by decide +kernel)) (by decide +kernel)
theorem wd_207 : Cond.fieldLink RX0 58 RX0 (TX0 9).2.1 (TX0 9).2.2.1 ∈ lw_gd := gd_in (List.mem_of_getElem? (i := 207) (by decide +kernel)) (by decide +kernel)
theorem wd_208 : Cond.fieldLink RX0 61 RX0 (TX0 10).2.1 (TX0 10).2.2.1 ∈ lw_gd := gd_in (List.mem_of_getElem? (i := 208) (by decide +kernel)) (by decide +kernel)
theorem wd_209 : Cond.fieldLink RX0 64 RX0 (TX0 11).2.1 (TX0 11).2.2.1 ∈ lw_gd := gd_in (List.mem_of_getElem? (i := 209) (by decide +kernel)) (by decide +kernel)
theorem wd_210 : Cond.fieldLink RX0 67 RX0 (TX0 12).2.1 (TX0 12).2.2.1 ∈ lw_gd := gd_in (List.mem_of_getElem? (i := 210) (by decide +kernel)) (by decide +kernel)
theorem wd_211 : Cond.fieldLink RX0 70 RX0 (TX0 13).2.1 (TX0 13).2.2.1 ∈ lw_gd := gd_in (List.mem_of_getElem? (i := 211) (by decide +kernel)) (by decide +kernel)
theorem wd_212 : Cond.fieldLink RX0 73 RX0 (TX0 14).2.1 (TX0 14).2.2.1 ∈ lw_gd := gd_in (List.mem_of_getElem? (i := 212) (by decide +kernel)) (by decide +kernel)
theorem wd_213 : Cond.fieldLink RX0 76 RX0 (TX0 15).2.1 (TX0 15).2.2.1 ∈ lw_gd := gd_in (List.mem_of_getElem? (i := 213) (by decide +kernel)) (by decide +kernel)
theorem wd_107 : Cond.fieldLink RX0 102 RX2 (TX2 1).2.1 (TX2 1).2.2.1 ∈ lw_gd := gd_in (List.mem_of_getElem? (i := 107) (by decide +kernel)) (by decide +kernel)
theorem wd_104 : Cond.fieldLink RX0 106 RX2 (TX2 0).2.1 (TX2 0).2.2.1 ∈ lw_gd := gd_in (List.mem_of_getElem? (i := 104) (by decide +kernel)) (by decide +kernel)
theorem wd_111 : Cond.fieldLink RX0 109 RX2 (TX2 3).2.1 (TX2 3).2.2.1 ∈ lw_gd := gd_in (List.mem_of_getElem? (i := 111) (by decide +kernel)) (by decide +kernel)
theorem wd_118 : Cond.fieldLink RX0 112 RX2 (TX2 7).2.1 (TX2 7).2.2.1 ∈ lw_gd := gd_in (List.mem_of_getElem? (i := 118) (by decide +kernel)) (by decide +kernel)
theorem wd_116 : Cond.fieldLink RX0 119 RX2 (TX2 6).2.1 (TX2 6).2.2.1 ∈ lw_gd := gd_in (List.mem_of_getElem? (i := 116) (by decide +kernel)) (by decide +kernel)
theorem wd_164 : Cond.fieldLink RX0 129 RX1 (TX1 9).2.1 (TX1 9).2.2.1 ∈ lw_gd := gd_in (List.mem_of_getElem? (i := 164) (by decide +kernel)) (by decide +kernel)
theorem wd_114 : Cond.fieldLink RX0 135 RX2 (TX2 5).2.1 (TX2 5).2.2.1 ∈ lw_gd := gd_in (List.mem_of_getElem? (i := 114) (by decide +kernel)) (by decide +kernel)
theorem wd_150 : Cond.fieldLink RX0 151 RX1 (TX1 2).2.1 (TX1 2).2.2.1 ∈ lw_gd := gd_in (List.mem_of_getElem? (i := 150) (by decide +kernel)) (by decide +kernel)
theorem wd_146 : Cond.fieldLink RX0 154 RX1 (TX1 0).2.1 (TX1 0).2.2.1 ∈ lw_gd := gd_in (List.mem_of_getElem? (i := 146) (by decide +kernel)) (by decide +kernel)
theorem wd_148 : Cond.fieldLink RX0 181 RX1 (TX1 1).2.1 (TX1 1).2.2.1 ∈ lw_gd := gd_in (List.mem_of_getElem? (i := 148) (by decide +kernel)) (by decide +kernel)
theorem wd_156 : Cond.fieldLink RX0 191 RX1 (TX1 5).2.1 (TX1 5).2.2.1 ∈ lw_gd := gd_in (List.mem_of_getElem? (i := 156) (by decide +kernel)) (by decide +kernel)
theorem wd_160 : Cond.fieldLink RX0 194 RX1 (TX1 7).2.1 (TX1 7).2.2.1 ∈ lw_gd := gd_in (List.mem_of_getElem? (i := 160) (by decide +kernel)) (by decide +kernel)
theorem wd_152 : Cond.fieldLink RX0 197 RX1 (TX1 3).2.1 (TX1 3).2.2.1 ∈ lw_gd := gd_in (List.mem_of_getElem? (i := 152) (by decide +kernel)) (by decide +kernel)
theorem wd_154 : Cond.fieldLink RX0 204 RX1 (TX1 4).2.1 (TX1 4).2.2.1 ∈ lw_gd := gd_in (List.mem_of_getElem? (i := 154) (by decide +kernel)) (by decide +kernel)
theorem wd_158 : Cond.fieldLink RX0 211 RX1 (TX1 6).2.1 (TX1 6).2.2.1 ∈ lw_gd := gd_in (List.mem_of_getElem? (i := 158) (by decide +kernel)) (by decide +kernel)
theorem wd_109 : Cond.fieldLink RX0 214 RX2 (TX2 2).2.1 (TX2 2).2.2.1 ∈ lw_gd := gd_in (List.mem_of_getElem? (i := 109) (by decide +kernel)) (by decide +kernel)
theorem wd_162 : Cond.fieldLink RX0 217 RX1 (TX1 8).2.1 (TX1 8).2.2.1 ∈ lw_gd := gd_in (List.mem_of_getElem? (i := 162) (by decide +kernel)) (by decide +kernel)
theorem wd_120 : Cond.fieldLink RX0 255 RX2 (TX2 8).2.1 (TX2 8).2.2.1 ∈ lw_gd := gd_in (List.mem_of_getElem? (i := 120) (by decide +kernel)) (by decide +kernel)
theorem wd_145 : Cond.fieldLink RX1 9 RX1 (TX1 0).2.1 (TX1 0).2.2.1 ∈ lw_gd := gd_in (List.mem_of_getElem? (i := 145) (by decide +kernel)) (by decide +kernel)
theorem wd_147 : Cond.fieldLink RX1 15 RX1 (TX1 1).2.1 (TX1 1).2.2.1 ∈ lw_gd := gd_in (List.mem_of_getElem? (i := 147) (by decide +kernel)) (by decide +kernel)
theorem wd_149 : Cond.fieldLink RX1 18 RX1 (TX1 2).2.1 (TX1 2).2.2.1 ∈ lw_gd := gd_in (List.mem_of_getElem? (i := 149) (by decide +kernel)) (by decide +kernel)
theorem wd_151 : Cond.fieldLink RX1 21 RX1 (TX1 3).2.1 (TX1 3).2.2.1 ∈ lw_gd := gd_in (List.mem_of_getElem? (i := 151) (by decide +kernel)) (by decide +kernel)
theorem wd_153 : Cond.fieldLink RX1 24 RX1 (TX1 4).2.1 (TX1 4).2.2.1 ∈ lw_gd := gd_in (List.mem_of_getElem? (i := 153) (by decide +kernel)) (by decide +kernel)
theorem wd_155 : Cond.fieldLink RX1 27 RX1 (TX1 5).2.1 (TX1 5).2.2.1 ∈ lw_gd := gd_in (List.mem_of_getElem? (i := 155) (by decide +kernel)) (by decide +kernel)
theorem wd_157 : Cond.fieldLink RX1 30 RX1 (TX1 6).2.1 (TX1 6).2.2.1 ∈ lw_gd := gd_in (List.mem_of_getElem? (i := 157) (by decide +kernel)) (by decide +kernel)
theorem wd_159 : Cond.fieldLink RX1 33 RX1 (TX1 7).2.1 (TX1 7).2.2.1 ∈ lw_gd := gd_in (List.mem_of_getElem? (i := 159) (by decide +kernel)) (by decide +kernel)
theorem wd_161 : Cond.fieldLink RX1 36 RX1 (TX1 8).2.1 (TX1 8).2.2.1 ∈ lw_gd := gd_in (List.mem_of_getElem? (i := 161) (by decide +kernel)) (by decide +kernel)
theorem wd_163 : Cond.fieldLink RX1 39 RX1 (TX1 9).2.1 (TX1 9).2.2.1 ∈ lw_gd := gd_in (List.mem_of_getElem? (i := 163) (by decide +kernel)) (by decide +kernel)
theorem wd_103 : Cond.fieldLink RX2 9 RX2 (TX2 0).2.1 (TX2 0).2.2.1 ∈ lw_gd := gd_in (List.mem_of_getElem? (i := 103) (by decide +kernel)) (by decide +kernel)
theorem wd_106 : Cond.fieldLink RX2 15 RX2 (TX2 1).2.1 (TX2 1).2.2.1 ∈ lw_gd := gd_in (List.mem_of_getElem? (i := 106) (by decide +kernel)) (by decide +kernel)
theorem wd_108 : Cond.fieldLink RX2 19 RX2 (TX2 2).2.1 (TX2 2).2.2.1 ∈ lw_gd := gd_in (List.mem_of_getElem? (i := 108) (by decide +kernel)) (by decide +kernel)
theorem wd_110 : Cond.fieldLink RX2 22 RX2 (TX2 3).2.1 (TX2 3).2.2.1 ∈ lw_gd := gd_in (List.mem_of_getElem? (i := 110) (by decide +kernel)) (by decide +kernel)
theorem wd_112 : Cond.fieldLink RX2 25 RX2 (TX2 4).2.1 (TX2 4).2.2.1 ∈ lw_gd := gd_in (List.mem_of_getElem? (i := 112) (by decide +kernel)) (by decide +kernel)
theorem wd_113 : Cond.fieldLink RX2 28 RX2 (TX2 5).2.1 (TX2 5).2.2.1 ∈ lw_gd := gd_in (List.mem_of_getElem? (i := 113) (by decide +kernel)) (by decide +kernel)
theorem wd_115 : Cond.fieldLink RX2 31 RX2 (TX2 6).2.1 (TX2 6).2.2.1 ∈ lw_gd := gd_in (List.mem_of_getElem? (i := 115) (by decide +kernel)) (by decide +kernel)
theorem wd_117 : Cond.fieldLink RX2 34 RX2 (TX2 7).2.1 (TX2 7).2.2.1 ∈ lw_gd := gd_in (List.mem_of_getElem? (i := 117) (by decide +kernel)) (by decide +kernel)
theorem wd_119 : Cond.fieldLink RX2 37 RX2 (TX2 8).2.1 (TX2 8).2.2.1 ∈ lw_gd := gd_in (List.mem_of_getElem? (i := 119) (by decide +kernel)) (by decide +kernel)
theorem wd_255 : Cond.fieldLink RX3 9 RX3 (TX3 0).2.1 (TX3 0).2.2.1 ∈ lw_gd := gd_in (List.mem_of_getElem? (i := 255) (by decide +kernel)) (by decide +kernel)
theorem wd_256 : Cond.fieldLink RX3 15 RX3 (TX3 1).2.1 (TX3 1).2.2.1 ∈ lw_gd := gd_in (List.mem_of_getElem? (i := 256) (by decide +kernel)) (by decide +kernel)
theorem wd_263 : Cond.fieldLink RX4 10 RX4 (TX4 0).2.1 (TX4 0).2.2.1 ∈ lw_gd := gd_in (List.mem_of_getElem? (i := 263) (by decide +kernel)) (by decide +kernel)
theorem wd_264 : Cond.fieldLink RX4 16 RX4 (TX4 1).2.1 (TX4 1).2.2.1 ∈ lw_gd := gd_in (List.mem_of_getElem? (i := 264) (by decide +kernel)) (by decide +kernel)
theorem wd_265 : Cond.fieldLink RX4 19 RX4 (TX4 2).2.1 (TX4 2).2.2.1 ∈ lw_gd := gd_in (List.mem_of_getElem? (i := 265) (by decide +kernel)) (by decide +kernel)
theorem wd_266 : Cond.fieldLink RX4 26 RX4 (TX4 3).2.1 (TX4 3).2.2.1 ∈ lw_gd := gd_in (List.mem_of_getElem? (i := 266) (by decide +kernel)) (by decide +kernel)
theorem wd_201 : Cond.fieldLink RX4 34 RX0 (TX0 5).2.1 (TX0 5).2.2.1 ∈ lw_gd := gd_in (List.mem_of_getElem? (i := 201) (by decide +kernel)) (by decide +kernel)
theorem wd_205 : Cond.fieldLink RX4 71 RX0 (TX0 7).2.1 (TX0 7).2.2.1 ∈ lw_gd := gd_in (List.mem_of_getElem? (i := 205) (by decide +kernel)) (by decide +kernel)
theorem wd_203 : Cond.fieldLink RX4 86 RX0 (TX0 6).2.1 (TX0 6).2.2.1 ∈ lw_gd := gd_in (List.mem_of_getElem? (i := 203) (by decide +kernel)) (by decide +kernel)
theorem wd_257 : Cond.fieldLink RX4 92 RX3 (TX3 1).2.1 (TX3 1).2.2.1 ∈ lw_gd := gd_in (List.mem_of_getElem? (i := 257) (by decide +kernel)) (by decide +kernel)
theorem wd_105 : Cond.fieldLink RX4 111 RX2 (TX2 0).2.1 (TX2 0).2.2.1 ∈ lw_gd := gd_in (List.mem_of_getElem? (i := 105) (by decide +kernel)) (by decide +kernel)
theorem wd_667 : Cond.fieldLink RX5 7 RX5 (TX5 0).2.1 (TX5 0).2.2.1 ∈ lw_gd := gd_in (List.mem_of_getElem? (i := 667) (by decide +kernel)) (by decide +kernel)
theorem wd_668 : Cond.fieldLink RX5 13 RX5 (TX5 1).2.1 (TX5 1).2.2.1 ∈ lw_gd := gd_in (List.mem_of_getElem? (i := 668) (by decide +kernel)) (by decide +kernel)
theorem wd_669 : Cond.fieldLink RX5 16 RX5 (TX5 2).2.1 (TX5 2).2.2.1 ∈ lw_gd := gd_in (List.mem_of_getElem? (i := 669) (by decide +kernel)) (by decide +kernel)
theorem wd_670 : Cond.fieldLink RX5 19 RX5 (TX5 3).2.1 (TX5 3).2.2.1 ∈ lw_gd := gd_in (List.mem_of_getElem? (i := 670) (by decide +kernel)) (by decide +kernel)
theorem wd_671 : Cond.fieldLink RX5 23 RX5 (TX5 4).2.1 (TX5 4).2.2.1 ∈ lw_gd := gd_in (List.mem_of_getElem? (i := 671) (by decide +kernel)) (by decide +kernel)
theorem wd_675 : Cond.fieldLink RX5 26 RX5 (TX5 8).2.1 (TX5 8).2.2.1 ∈ lw_gd := gd_in (List.mem_of_getElem? (i := 675) (by decide +kernel)) (by decide +kernel)
theorem wd_672 : Cond.fieldLink RX5 165 RX5 (TX5 5).2.1 (TX5 5).2.2.1 ∈ lw_gd := gd_in (List.mem_of_getElem? (i := 672) (by decide +kernel)) (by decide +kernel)
theorem wd_673 : Cond.fieldLink RX5 186 RX5 (TX5 6).2.1 (TX5 6).2.2.1 ∈ lw_gd := gd_in (List.mem_of_getElem? (i := 673) (by decide +kernel)) (by decide +kernel)
theorem wd_674 : Cond.fieldLink RX5 196 RX5 (TX5 7).2.1 (TX5 7).2.2.1 ∈ lw_gd := gd_in (List.mem_of_getElem? (i := 674) (by decide +kernel)) (by decide +kernel)
theorem wd_676 : Cond.fieldLink RX5 200 RX5 (TX5 9).2.1 (TX5 9).2.2.1 ∈ lw_gd := gd_in (List.mem_of_getElem? (i := 676) (by decide +kernel)) (by decide +kernel)
theorem wd_279 : Cond.code yX4_setUp cX4_setUp 4 (some .int) ∈ lw_gd := gd_in (List.mem_of_getElem? (i := 279) (by decide +kernel)) (by decide +kernel)
theorem wd_276 : Cond.methodLink RL 13 yX4_setUp ∈ lw_gd := gd_in (List.mem_of_getElem? (i := 276) (by decide +kernel)) (by decide +kernel)
theorem wd_277 : Cond.instanceMethod yX4_setUp ∈ lw_gd := gd_in (List.mem_of_getElem? (i := 277) (by decide +kernel)) (by decide +kernel)
theorem wd_278 : Cond.selects RX4 yX4_setUp yX4_setUp ∈ lw_gd := gd_in (List.mem_of_getElem? (i := 278) (by decide +kernel)) (by decide +kernel)
theorem wd_74 : Cond.initialized RX4 ∈ lw_gd := gd_in (List.mem_of_getElem? (i := 74) (by decide +kernel)) (by decide +kernel)
theorem wd_702 : Cond.code yX5_setUp cX5_setUp 4 (some .int) ∈ lw_gd := gd_in (List.mem_of_getElem? (i := 702) (by decide +kernel)) (by decide +kernel)
theorem wd_699 : Cond.methodLink RL 17 yX5_setUp ∈ lw_gd := gd_in (List.mem_of_getElem? (i := 699) (by decide +kernel)) (by decide +kernel)
theorem wd_700 : Cond.instanceMethod yX5_setUp ∈ lw_gd := gd_in (List.mem_of_getElem? (i := 700) (by decide +kernel)) (by decide +kernel)
theorem wd_701 : Cond.selects RX5 yX5_setUp yX5_setUp ∈ lw_gd := gd_in (List.mem_of_getElem? (i := 701) (by decide +kernel)) (by decide +kernel)
theorem wd_79 : Cond.initialized RX5 ∈ lw_gd := gd_in (List.mem_of_getElem? (i := 79) (by decide +kernel)) (by decide +kernel)
theorem wd_318 : Cond.code yX4_set cX4_set 3 (some .int) ∈ lw_gd := gd_in (List.mem_of_getElem? (i := 318) (by decide +kernel)) (by decide +kernel)
theorem wd_315 : Cond.methodLink RL 18 yX4_set ∈ lw_gd := gd_in (List.mem_of_getElem? (i := 315) (by decide +kernel)) (by decide +kernel)
theorem wd_316 : Cond.instanceMethod yX4_set ∈ lw_gd := gd_in (List.mem_of_getElem? (i := 316) (by decide +kernel)) (by decide +kernel)
theorem wd_317 : Cond.selects RX4 yX4_set yX4_set ∈ lw_gd := gd_in (List.mem_of_getElem? (i := 317) (by decide +kernel)) (by decide +kernel)
theorem wd_706 : Cond.code yX5_set cX5_set 4 (some .int) ∈ lw_gd := gd_in (List.mem_of_getElem? (i := 706) (by decide +kernel)) (by decide +kernel)
theorem wd_703 : Cond.methodLink RL 21 yX5_set ∈ lw_gd := gd_in (List.mem_of_getElem? (i := 703) (by decide +kernel)) (by decide +kernel)
theorem wd_704 : Cond.instanceMethod yX5_set ∈ lw_gd := gd_in (List.mem_of_getElem? (i := 704) (by decide +kernel)) (by decide +kernel)
theorem wd_705 : Cond.selects RX5 yX5_set yX5_set ∈ lw_gd := gd_in (List.mem_of_getElem? (i := 705) (by decide +kernel)) (by decide +kernel)
theorem wd_332 : Cond.code yX4_lift cX4_lift 2 (some .int) ∈ lw_gd := gd_in (List.mem_of_getElem? (i := 332) (by decide +kernel)) (by decide +kernel)
theorem wd_329 : Cond.methodLink RL 22 yX4_lift ∈ lw_gd := gd_in (List.mem_of_getElem? (i := 329) (by decide +kernel)) (by decide +kernel)
theorem wd_330 : Cond.instanceMethod yX4_lift ∈ lw_gd := gd_in (List.mem_of_getElem? (i := 330) (by decide +kernel)) (by decide +kernel)
theorem wd_331 : Cond.selects RX4 yX4_lift yX4_lift ∈ lw_gd := gd_in (List.mem_of_getElem? (i := 331) (by decide +kernel)) (by decide +kernel)
theorem wd_717 : Cond.code yX5_lift cX5_lift 2 (some .int) ∈ lw_gd := gd_in (List.mem_of_getElem? (i := 717) (by decide +kernel)) (by decide +kernel)
theorem wd_714 : Cond.methodLink RL 26 yX5_lift ∈ lw_gd := gd_in (List.mem_of_getElem? (i := 714) (by decide +kernel)) (by decide +kernel)
theorem wd_715 : Cond.instanceMethod yX5_lift ∈ lw_gd := gd_in (List.mem_of_getElem? (i := 715) (by decide +kernel)) (by decide +kernel)
theorem wd_716 : Cond.selects RX5 yX5_lift yX5_lift ∈ lw_gd := gd_in (List.mem_of_getElem? (i := 716) (by decide +kernel)) (by decide +kernel)
theorem wd_343 : Cond.code yX4_hang cX4_hang 2 (some .int) ∈ lw_gd := gd_in (List.mem_of_getElem? (i := 343) (by decide +kernel)) (by decide +kernel)
theorem wd_340 : Cond.methodLink RL 27 yX4_hang ∈ lw_gd := gd_in (List.mem_of_getElem? (i := 340) (by decide +kernel)) (by decide +kernel)
theorem wd_341 : Cond.instanceMethod yX4_hang ∈ lw_gd := gd_in (List.mem_of_getElem? (i := 341) (by decide +kernel)) (by decide +kernel)
theorem wd_342 : Cond.selects RX4 yX4_hang yX4_hang ∈ lw_gd := gd_in (List.mem_of_getElem? (i := 342) (by decide +kernel)) (by decide +kernel)
theorem wd_736 : Cond.code yX5_hang cX5_hang 3 (some .int) ∈ lw_gd := gd_in (List.mem_of_getElem? (i := 736) (by decide +kernel)) (by decide +kernel)
theorem wd_733 : Cond.methodLink RL 30 yX5_hang ∈ lw_gd := gd_in (List.mem_of_getElem? (i := 733) (by decide +kernel)) (by decide +kernel)
theorem wd_734 : Cond.instanceMethod yX5_hang ∈ lw_gd := gd_in (List.mem_of_getElem? (i := 734) (by decide +kernel)) (by decide +kernel)
theorem wd_735 : Cond.selects RX5 yX5_hang yX5_hang ∈ lw_gd := gd_in (List.mem_of_getElem? (i := 735) (by decide +kernel)) (by decide +kernel)
theorem wd_361 : Cond.code yX4_dial cX4_dial 3 (some .int) ∈ lw_gd := gd_in (List.mem_of_getElem? (i := 361) (by decide +kernel)) (by decide +kernel)
theorem wd_358 : Cond.methodLink RL 31 yX4_dial ∈ lw_gd := gd_in (List.mem_of_getElem? (i := 358) (by decide +kernel)) (by decide +kernel)
theorem wd_359 : Cond.instanceMethod yX4_dial ∈ lw_gd := gd_in (List.mem_of_getElem? (i := 359) (by decide +kernel)) (by decide +kernel)
theorem wd_360 : Cond.selects RX4 yX4_dial yX4_dial ∈ lw_gd := gd_in (List.mem_of_getElem? (i := 360) (by decide +kernel)) (by decide +kernel)
theorem wd_752 : Cond.code yX5_dial cX5_dial 4 (some .int) ∈ lw_gd := gd_in (List.mem_of_getElem? (i := 752) (by decide +kernel)) (by decide +kernel)
theorem wd_749 : Cond.methodLink RL 34 yX5_dial ∈ lw_gd := gd_in (List.mem_of_getElem? (i := 749) (by decide +kernel)) (by decide +kernel)
theorem wd_750 : Cond.instanceMethod yX5_dial ∈ lw_gd := gd_in (List.mem_of_getElem? (i := 750) (by decide +kernel)) (by decide +kernel)
theorem wd_751 : Cond.selects RX5 yX5_dial yX5_dial ∈ lw_gd := gd_in (List.mem_of_getElem? (i := 751) (by decide +kernel)) (by decide +kernel)
theorem wd_373 : Cond.code yX4_tick cX4_tick 2 (some .int) ∈ lw_gd := gd_in (List.mem_of_getElem? (i := 373) (by decide +kernel)) (by decide +kernel)
theorem wd_370 : Cond.methodLink RL 35 yX4_tick ∈ lw_gd := gd_in (List.mem_of_getElem? (i := 370) (by decide +kernel)) (by decide +kernel)
theorem wd_371 : Cond.instanceMethod yX4_tick ∈ lw_gd := gd_in (List.mem_of_getElem? (i := 371) (by decide +kernel)) (by decide +kernel)
theorem wd_372 : Cond.selects RX4 yX4_tick yX4_tick ∈ lw_gd := gd_in (List.mem_of_getElem? (i := 372) (by decide +kernel)) (by decide +kernel)
theorem wd_756 : Cond.code yX5_tick cX5_tick 3 (some .int) ∈ lw_gd := gd_in (List.mem_of_getElem? (i := 756) (by decide +kernel)) (by decide +kernel)
theorem wd_753 : Cond.methodLink RL 38 yX5_tick ∈ lw_gd := gd_in (List.mem_of_getElem? (i := 753) (by decide +kernel)) (by decide +kernel)
theorem wd_754 : Cond.instanceMethod yX5_tick ∈ lw_gd := gd_in (List.mem_of_getElem? (i := 754) (by decide +kernel)) (by decide +kernel)
theorem wd_755 : Cond.selects RX5 yX5_tick yX5_tick ∈ lw_gd := gd_in (List.mem_of_getElem? (i := 755) (by decide +kernel)) (by decide +kernel)
theorem wd_463 : Cond.code yX4_line cX4_line 3 (some .int) ∈ lw_gd := gd_in (List.mem_of_getElem? (i := 463) (by decide +kernel)) (by decide +kernel)
theorem wd_460 : Cond.methodLink RL 39 yX4_line ∈ lw_gd := gd_in (List.mem_of_getElem? (i := 460) (by decide +kernel)) (by decide +kernel)
theorem wd_461 : Cond.instanceMethod yX4_line ∈ lw_gd := gd_in (List.mem_of_getElem? (i := 461) (by decide +kernel)) (by decide +kernel)
theorem wd_462 : Cond.selects RX4 yX4_line yX4_line ∈ lw_gd := gd_in (List.mem_of_getElem? (i := 462) (by decide +kernel)) (by decide +kernel)
theorem wd_841 : Cond.code yX5_line cX5_line 3 (some .int) ∈ lw_gd := gd_in (List.mem_of_getElem? (i := 841) (by decide +kernel)) (by decide +kernel)
theorem wd_838 : Cond.methodLink RL 42 yX5_line ∈ lw_gd := gd_in (List.mem_of_getElem? (i := 838) (by decide +kernel)) (by decide +kernel)
theorem wd_839 : Cond.instanceMethod yX5_line ∈ lw_gd := gd_in (List.mem_of_getElem? (i := 839) (by decide +kernel)) (by decide +kernel)
theorem wd_840 : Cond.selects RX5 yX5_line yX5_line ∈ lw_gd := gd_in (List.mem_of_getElem? (i := 840) (by decide +kernel)) (by decide +kernel)
theorem wd_483 : Cond.code yX4_finder cX4_finder 3 (some .int) ∈ lw_gd := gd_in (List.mem_of_getElem? (i := 483) (by decide +kernel)) (by decide +kernel)
theorem wd_480 : Cond.methodLink RL 43 yX4_finder ∈ lw_gd := gd_in (List.mem_of_getElem? (i := 480) (by decide +kernel)) (by decide +kernel)
theorem wd_481 : Cond.instanceMethod yX4_finder ∈ lw_gd := gd_in (List.mem_of_getElem? (i := 481) (by decide +kernel)) (by decide +kernel)
theorem wd_482 : Cond.selects RX4 yX4_finder yX4_finder ∈ lw_gd := gd_in (List.mem_of_getElem? (i := 482) (by decide +kernel)) (by decide +kernel)
theorem wd_861 : Cond.code yX5_finder cX5_finder 4 (some .int) ∈ lw_gd := gd_in (List.mem_of_getElem? (i := 861) (by decide +kernel)) (by decide +kernel)
theorem wd_858 : Cond.methodLink RL 46 yX5_finder ∈ lw_gd := gd_in (List.mem_of_getElem? (i := 858) (by decide +kernel)) (by decide +kernel)
theorem wd_859 : Cond.instanceMethod yX5_finder ∈ lw_gd := gd_in (List.mem_of_getElem? (i := 859) (by decide +kernel)) (by decide +kernel)
theorem wd_860 : Cond.selects RX5 yX5_finder yX5_finder ∈ lw_gd := gd_in (List.mem_of_getElem? (i := 860) (by decide +kernel)) (by decide +kernel)
theorem wd_492 : Cond.code yX4_connector cX4_connector 3 (some .int) ∈ lw_gd := gd_in (List.mem_of_getElem? (i := 492) (by decide +kernel)) (by decide +kernel)
theorem wd_489 : Cond.methodLink RL 47 yX4_connector ∈ lw_gd := gd_in (List.mem_of_getElem? (i := 489) (by decide +kernel)) (by decide +kernel)
theorem wd_490 : Cond.instanceMethod yX4_connector ∈ lw_gd := gd_in (List.mem_of_getElem? (i := 490) (by decide +kernel)) (by decide +kernel)
theorem wd_491 : Cond.selects RX4 yX4_connector yX4_connector ∈ lw_gd := gd_in (List.mem_of_getElem? (i := 491) (by decide +kernel)) (by decide +kernel)
theorem wd_873 : Cond.code yX5_connector cX5_connector 3 (some .int) ∈ lw_gd := gd_in (List.mem_of_getElem? (i := 873) (by decide +kernel)) (by decide +kernel)
theorem wd_870 : Cond.methodLink RL 50 yX5_connector ∈ lw_gd := gd_in (List.mem_of_getElem? (i := 870) (by decide +kernel)) (by decide +kernel)
theorem wd_871 : Cond.instanceMethod yX5_connector ∈ lw_gd := gd_in (List.mem_of_getElem? (i := 871) (by decide +kernel)) (by decide +kernel)
theorem wd_872 : Cond.selects RX5 yX5_connector yX5_connector ∈ lw_gd := gd_in (List.mem_of_getElem? (i := 872) (by decide +kernel)) (by decide +kernel)
theorem wd_497 : Cond.code yX4_count cX4_count 2 (some .int) ∈ lw_gd := gd_in (List.mem_of_getElem? (i := 497) (by decide +kernel)) (by decide +kernel)
theorem wd_494 : Cond.methodLink RL 51 yX4_count ∈ lw_gd := gd_in (List.mem_of_getElem? (i := 494) (by decide +kernel)) (by decide +kernel)
theorem wd_495 : Cond.instanceMethod yX4_count ∈ lw_gd := gd_in (List.mem_of_getElem? (i := 495) (by decide +kernel)) (by decide +kernel)
theorem wd_496 : Cond.selects RX4 yX4_count yX4_count ∈ lw_gd := gd_in (List.mem_of_getElem? (i := 496) (by decide +kernel)) (by decide +kernel)
theorem wd_877 : Cond.code yX5_count cX5_count 2 (some .int) ∈ lw_gd := gd_in (List.mem_of_getElem? (i := 877) (by decide +kernel)) (by decide +kernel)
theorem wd_874 : Cond.methodLink RL 54 yX5_count ∈ lw_gd := gd_in (List.mem_of_getElem? (i := 874) (by decide +kernel)) (by decide +kernel)
theorem wd_875 : Cond.instanceMethod yX5_count ∈ lw_gd := gd_in (List.mem_of_getElem? (i := 875) (by decide +kernel)) (by decide +kernel)
theorem wd_876 : Cond.selects RX5 yX5_count yX5_count ∈ lw_gd := gd_in (List.mem_of_getElem? (i := 876) (by decide +kernel)) (by decide +kernel)
theorem wd_521 : Cond.code yX4_trace cX4_trace 3 (some .int) ∈ lw_gd := gd_in (List.mem_of_getElem? (i := 521) (by decide +kernel)) (by decide +kernel)
theorem wd_518 : Cond.methodLink RL 55 yX4_trace ∈ lw_gd := gd_in (List.mem_of_getElem? (i := 518) (by decide +kernel)) (by decide +kernel)
theorem wd_519 : Cond.instanceMethod yX4_trace ∈ lw_gd := gd_in (List.mem_of_getElem? (i := 519) (by decide +kernel)) (by decide +kernel)
theorem wd_520 : Cond.selects RX4 yX4_trace yX4_trace ∈ lw_gd := gd_in (List.mem_of_getElem? (i := 520) (by decide +kernel)) (by decide +kernel)
theorem wd_889 : Cond.code yX5_trace cX5_trace 5 (some .int) ∈ lw_gd := gd_in (List.mem_of_getElem? (i := 889) (by decide +kernel)) (by decide +kernel)
theorem wd_886 : Cond.methodLink RL 58 yX5_trace ∈ lw_gd := gd_in (List.mem_of_getElem? (i := 886) (by decide +kernel)) (by decide +kernel)
theorem wd_887 : Cond.instanceMethod yX5_trace ∈ lw_gd := gd_in (List.mem_of_getElem? (i := 887) (by decide +kernel)) (by decide +kernel)
theorem wd_888 : Cond.selects RX5 yX5_trace yX5_trace ∈ lw_gd := gd_in (List.mem_of_getElem? (i := 888) (by decide +kernel)) (by decide +kernel)
theorem wd_529 : Cond.code yX4_until cX4_until 4 (some .int) ∈ lw_gd := gd_in (List.mem_of_getElem? (i := 529) (by decide +kernel)) (by decide +kernel)
theorem wd_526 : Cond.methodLink RL 59 yX4_until ∈ lw_gd := gd_in (List.mem_of_getElem? (i := 526) (by decide +kernel)) (by decide +kernel)
theorem wd_527 : Cond.instanceMethod yX4_until ∈ lw_gd := gd_in (List.mem_of_getElem? (i := 527) (by decide +kernel)) (by decide +kernel)
theorem wd_528 : Cond.selects RX4 yX4_until yX4_until ∈ lw_gd := gd_in (List.mem_of_getElem? (i := 528) (by decide +kernel)) (by decide +kernel)
theorem wd_893 : Cond.code yX5_until cX5_until 6 (some .int) ∈ lw_gd := gd_in (List.mem_of_getElem? (i := 893) (by decide +kernel)) (by decide +kernel)
theorem wd_890 : Cond.methodLink RL 63 yX5_until ∈ lw_gd := gd_in (List.mem_of_getElem? (i := 890) (by decide +kernel)) (by decide +kernel)
theorem wd_891 : Cond.instanceMethod yX5_until ∈ lw_gd := gd_in (List.mem_of_getElem? (i := 891) (by decide +kernel)) (by decide +kernel)
theorem wd_892 : Cond.selects RX5 yX5_until yX5_until ∈ lw_gd := gd_in (List.mem_of_getElem? (i := 892) (by decide +kernel)) (by decide +kernel)
theorem wd_550 : Cond.code yX4_attempt cX4_attempt 5 (some .int) ∈ lw_gd := gd_in (List.mem_of_getElem? (i := 550) (by decide +kernel)) (by decide +kernel)
theorem wd_547 : Cond.methodLink RL 64 yX4_attempt ∈ lw_gd := gd_in (List.mem_of_getElem? (i := 547) (by decide +kernel)) (by decide +kernel)
theorem wd_548 : Cond.instanceMethod yX4_attempt ∈ lw_gd := gd_in (List.mem_of_getElem? (i := 548) (by decide +kernel)) (by decide +kernel)
theorem wd_549 : Cond.selects RX4 yX4_attempt yX4_attempt ∈ lw_gd := gd_in (List.mem_of_getElem? (i := 549) (by decide +kernel)) (by decide +kernel)
theorem wd_905 : Cond.code yX5_attempt cX5_attempt 7 (some .int) ∈ lw_gd := gd_in (List.mem_of_getElem? (i := 905) (by decide +kernel)) (by decide +kernel)
theorem wd_902 : Cond.methodLink RL 67 yX5_attempt ∈ lw_gd := gd_in (List.mem_of_getElem? (i := 902) (by decide +kernel)) (by decide +kernel)
theorem wd_903 : Cond.instanceMethod yX5_attempt ∈ lw_gd := gd_in (List.mem_of_getElem? (i := 903) (by decide +kernel)) (by decide +kernel)
theorem wd_904 : Cond.selects RX5 yX5_attempt yX5_attempt ∈ lw_gd := gd_in (List.mem_of_getElem? (i := 904) (by decide +kernel)) (by decide +kernel)
theorem wd_564 : Cond.code yX4_put cX4_put 3 (some .int) ∈ lw_gd := gd_in (List.mem_of_getElem? (i := 564) (by decide +kernel)) (by decide +kernel)
theorem wd_561 : Cond.methodLink RL 70 yX4_put ∈ lw_gd := gd_in (List.mem_of_getElem? (i := 561) (by decide +kernel)) (by decide +kernel)
theorem wd_562 : Cond.instanceMethod yX4_put ∈ lw_gd := gd_in (List.mem_of_getElem? (i := 562) (by decide +kernel)) (by decide +kernel)
theorem wd_563 : Cond.selects RX4 yX4_put yX4_put ∈ lw_gd := gd_in (List.mem_of_getElem? (i := 563) (by decide +kernel)) (by decide +kernel)
theorem wd_914 : Cond.code yX5_put cX5_put 7 (some .int) ∈ lw_gd := gd_in (List.mem_of_getElem? (i := 914) (by decide +kernel)) (by decide +kernel)
theorem wd_911 : Cond.methodLink RL 74 yX5_put ∈ lw_gd := gd_in (List.mem_of_getElem? (i := 911) (by decide +kernel)) (by decide +kernel)
theorem wd_912 : Cond.instanceMethod yX5_put ∈ lw_gd := gd_in (List.mem_of_getElem? (i := 912) (by decide +kernel)) (by decide +kernel)
theorem wd_913 : Cond.selects RX5 yX5_put yX5_put ∈ lw_gd := gd_in (List.mem_of_getElem? (i := 913) (by decide +kernel)) (by decide +kernel)
theorem wd_580 : Cond.code yX4_wipe cX4_wipe 2 (some .int) ∈ lw_gd := gd_in (List.mem_of_getElem? (i := 580) (by decide +kernel)) (by decide +kernel)
theorem wd_577 : Cond.methodLink RL 75 yX4_wipe ∈ lw_gd := gd_in (List.mem_of_getElem? (i := 577) (by decide +kernel)) (by decide +kernel)
theorem wd_578 : Cond.instanceMethod yX4_wipe ∈ lw_gd := gd_in (List.mem_of_getElem? (i := 578) (by decide +kernel)) (by decide +kernel)
theorem wd_579 : Cond.selects RX4 yX4_wipe yX4_wipe ∈ lw_gd := gd_in (List.mem_of_getElem? (i := 579) (by decide +kernel)) (by decide +kernel)
theorem wd_919 : Cond.code yX5_wipe cX5_wipe 2 (some .int) ∈ lw_gd := gd_in (List.mem_of_getElem? (i := 919) (by decide +kernel)) (by decide +kernel)
theorem wd_916 : Cond.methodLink RL 79 yX5_wipe ∈ lw_gd := gd_in (List.mem_of_getElem? (i := 916) (by decide +kernel)) (by decide +kernel)
theorem wd_917 : Cond.instanceMethod yX5_wipe ∈ lw_gd := gd_in (List.mem_of_getElem? (i := 917) (by decide +kernel)) (by decide +kernel)
theorem wd_918 : Cond.selects RX5 yX5_wipe yX5_wipe ∈ lw_gd := gd_in (List.mem_of_getElem? (i := 918) (by decide +kernel)) (by decide +kernel)
theorem wd_584 : Cond.code yX4_fault cX4_fault 1 (some .int) ∈ lw_gd := gd_in (List.mem_of_getElem? (i := 584) (by decide +kernel)) (by decide +kernel)
theorem wd_581 : Cond.methodLink RL 80 yX4_fault ∈ lw_gd := gd_in (List.mem_of_getElem? (i := 581) (by decide +kernel)) (by decide +kernel)
theorem wd_582 : Cond.instanceMethod yX4_fault ∈ lw_gd := gd_in (List.mem_of_getElem? (i := 582) (by decide +kernel)) (by decide +kernel)
theorem wd_583 : Cond.selects RX4 yX4_fault yX4_fault ∈ lw_gd := gd_in (List.mem_of_getElem? (i := 583) (by decide +kernel)) (by decide +kernel)
theorem wd_923 : Cond.code yX5_fault cX5_fault 1 (some .int) ∈ lw_gd := gd_in (List.mem_of_getElem? (i := 923) (by decide +kernel)) (by decide +kernel)
theorem wd_920 : Cond.methodLink RL 83 yX5_fault ∈ lw_gd := gd_in (List.mem_of_getElem? (i := 920) (by decide +kernel)) (by decide +kernel)
theorem wd_921 : Cond.instanceMethod yX5_fault ∈ lw_gd := gd_in (List.mem_of_getElem? (i := 921) (by decide +kernel)) (by decide +kernel)
theorem wd_922 : Cond.selects RX5 yX5_fault yX5_fault ∈ lw_gd := gd_in (List.mem_of_getElem? (i := 922) (by decide +kernel)) (by decide +kernel)
theorem wd_611 : Cond.code yX4_carryOut cX4_carryOut 3 (some .int) ∈ lw_gd := gd_in (List.mem_of_getElem? (i := 611) (by decide +kernel)) (by decide +kernel)
theorem wd_608 : Cond.methodLink RL 84 yX4_carryOut ∈ lw_gd := gd_in (List.mem_of_getElem? (i := 608) (by decide +kernel)) (by decide +kernel)
theorem wd_609 : Cond.instanceMethod yX4_carryOut ∈ lw_gd := gd_in (List.mem_of_getElem? (i := 609) (by decide +kernel)) (by decide +kernel)
theorem wd_610 : Cond.selects RX4 yX4_carryOut yX4_carryOut ∈ lw_gd := gd_in (List.mem_of_getElem? (i := 610) (by decide +kernel)) (by decide +kernel)
theorem wd_950 : Cond.code yX5_carryOut cX5_carryOut 2 (some .int) ∈ lw_gd := gd_in (List.mem_of_getElem? (i := 950) (by decide +kernel)) (by decide +kernel)
theorem wd_947 : Cond.methodLink RL 87 yX5_carryOut ∈ lw_gd := gd_in (List.mem_of_getElem? (i := 947) (by decide +kernel)) (by decide +kernel)
theorem wd_948 : Cond.instanceMethod yX5_carryOut ∈ lw_gd := gd_in (List.mem_of_getElem? (i := 948) (by decide +kernel)) (by decide +kernel)
theorem wd_949 : Cond.selects RX5 yX5_carryOut yX5_carryOut ∈ lw_gd := gd_in (List.mem_of_getElem? (i := 949) (by decide +kernel)) (by decide +kernel)
theorem wd_637 : Cond.code yX4_save cX4_save 3 (some .int) ∈ lw_gd := gd_in (List.mem_of_getElem? (i := 637) (by decide +kernel)) (by decide +kernel)
theorem wd_634 : Cond.methodLink RL 88 yX4_save ∈ lw_gd := gd_in (List.mem_of_getElem? (i := 634) (by decide +kernel)) (by decide +kernel)
theorem wd_635 : Cond.instanceMethod yX4_save ∈ lw_gd := gd_in (List.mem_of_getElem? (i := 635) (by decide +kernel)) (by decide +kernel)
theorem wd_636 : Cond.selects RX4 yX4_save yX4_save ∈ lw_gd := gd_in (List.mem_of_getElem? (i := 636) (by decide +kernel)) (by decide +kernel)
theorem wd_965 : Cond.code yX5_save cX5_save 3 (some .int) ∈ lw_gd := gd_in (List.mem_of_getElem? (i := 965) (by decide +kernel)) (by decide +kernel)
theorem wd_962 : Cond.methodLink RL 91 yX5_save ∈ lw_gd := gd_in (List.mem_of_getElem? (i := 962) (by decide +kernel)) (by decide +kernel)
theorem wd_963 : Cond.instanceMethod yX5_save ∈ lw_gd := gd_in (List.mem_of_getElem? (i := 963) (by decide +kernel)) (by decide +kernel)
theorem wd_964 : Cond.selects RX5 yX5_save yX5_save ∈ lw_gd := gd_in (List.mem_of_getElem? (i := 964) (by decide +kernel)) (by decide +kernel)
theorem wd_641 : Cond.code yX4_restore cX4_restore 3 (some .int) ∈ lw_gd := gd_in (List.mem_of_getElem? (i := 641) (by decide +kernel)) (by decide +kernel)
theorem wd_638 : Cond.methodLink RL 92 yX4_restore ∈ lw_gd := gd_in (List.mem_of_getElem? (i := 638) (by decide +kernel)) (by decide +kernel)
theorem wd_639 : Cond.instanceMethod yX4_restore ∈ lw_gd := gd_in (List.mem_of_getElem? (i := 639) (by decide +kernel)) (by decide +kernel)
theorem wd_640 : Cond.selects RX4 yX4_restore yX4_restore ∈ lw_gd := gd_in (List.mem_of_getElem? (i := 640) (by decide +kernel)) (by decide +kernel)
theorem wd_969 : Cond.code yX5_restore cX5_restore 3 (some .int) ∈ lw_gd := gd_in (List.mem_of_getElem? (i := 969) (by decide +kernel)) (by decide +kernel)
theorem wd_966 : Cond.methodLink RL 95 yX5_restore ∈ lw_gd := gd_in (List.mem_of_getElem? (i := 966) (by decide +kernel)) (by decide +kernel)
theorem wd_967 : Cond.instanceMethod yX5_restore ∈ lw_gd := gd_in (List.mem_of_getElem? (i := 967) (by decide +kernel)) (by decide +kernel)
theorem wd_968 : Cond.selects RX5 yX5_restore yX5_restore ∈ lw_gd := gd_in (List.mem_of_getElem? (i := 968) (by decide +kernel)) (by decide +kernel)
theorem wd_559 : Cond.code yX0_endsTrial cX0_endsTrial 1 (some .boolean) ∈ lw_gd := gd_in (List.mem_of_getElem? (i := 559) (by decide +kernel)) (by decide +kernel)
theorem wd_557 : Cond.methodLink RX0 241 yX0_endsTrial ∈ lw_gd := gd_in (List.mem_of_getElem? (i := 557) (by decide +kernel)) (by decide +kernel)
theorem wd_558 : Cond.static yX0_endsTrial ∈ lw_gd := gd_in (List.mem_of_getElem? (i := 558) (by decide +kernel)) (by decide +kernel)
theorem wd_75 : Cond.initialized RX0 ∈ lw_gd := gd_in (List.mem_of_getElem? (i := 75) (by decide +kernel)) (by decide +kernel)
theorem wd_328 : Cond.code yX0_settingAt cX0_settingAt 2 (some .int) ∈ lw_gd := gd_in (List.mem_of_getElem? (i := 328) (by decide +kernel)) (by decide +kernel)
theorem wd_325 : Cond.methodLink RX0 79 yX0_settingAt ∈ lw_gd := gd_in (List.mem_of_getElem? (i := 325) (by decide +kernel)) (by decide +kernel)
theorem wd_327 : Cond.instanceMethod yX0_settingAt ∈ lw_gd := gd_in (List.mem_of_getElem? (i := 327) (by decide +kernel)) (by decide +kernel)
theorem wd_0 : Cond.selects RX0 yX0_settingAt yX0_settingAt ∈ lw_gd := gd_in (List.mem_of_getElem? (i := 0) (by decide +kernel)) (by decide +kernel)
theorem wd_290 : Cond.code yX0_lineAt cX0_lineAt 2 (some (.object "RotaryExchange$Line")) ∈ lw_gd := gd_in (List.mem_of_getElem? (i := 290) (by decide +kernel)) (by decide +kernel)
theorem wd_287 : Cond.methodLink RX0 83 yX0_lineAt ∈ lw_gd := gd_in (List.mem_of_getElem? (i := 287) (by decide +kernel)) (by decide +kernel)
theorem wd_288 : Cond.instanceMethod yX0_lineAt ∈ lw_gd := gd_in (List.mem_of_getElem? (i := 288) (by decide +kernel)) (by decide +kernel)
theorem wd_289 : Cond.selects RX0 yX0_lineAt yX0_lineAt ∈ lw_gd := gd_in (List.mem_of_getElem? (i := 289) (by decide +kernel)) (by decide +kernel)
theorem wd_294 : Cond.code yX2_renew cX2_renew 1 none ∈ lw_gd := gd_in (List.mem_of_getElem? (i := 294) (by decide +kernel)) (by decide +kernel)
theorem wd_291 : Cond.methodLink RX0 87 yX2_renew ∈ lw_gd := gd_in (List.mem_of_getElem? (i := 291) (by decide +kernel)) (by decide +kernel)
theorem wd_292 : Cond.instanceMethod yX2_renew ∈ lw_gd := gd_in (List.mem_of_getElem? (i := 292) (by decide +kernel)) (by decide +kernel)
theorem wd_293 : Cond.selects RX2 yX2_renew yX2_renew ∈ lw_gd := gd_in (List.mem_of_getElem? (i := 293) (by decide +kernel)) (by decide +kernel)
theorem wd_76 : Cond.initialized RX2 ∈ lw_gd := gd_in (List.mem_of_getElem? (i := 76) (by decide +kernel)) (by decide +kernel)
theorem wd_302 : Cond.code yX0_finderAt cX0_finderAt 2 (some (.object "RotaryExchange$Finder")) ∈ lw_gd := gd_in (List.mem_of_getElem? (i := 302) (by decide +kernel)) (by decide +kernel)
theorem wd_299 : Cond.methodLink RX0 90 yX0_finderAt ∈ lw_gd := gd_in (List.mem_of_getElem? (i := 299) (by decide +kernel)) (by decide +kernel)
theorem wd_300 : Cond.instanceMethod yX0_finderAt ∈ lw_gd := gd_in (List.mem_of_getElem? (i := 300) (by decide +kernel)) (by decide +kernel)
theorem wd_301 : Cond.selects RX0 yX0_finderAt yX0_finderAt ∈ lw_gd := gd_in (List.mem_of_getElem? (i := 301) (by decide +kernel)) (by decide +kernel)
theorem wd_306 : Cond.code yX1_renew cX1_renew 1 none ∈ lw_gd := gd_in (List.mem_of_getElem? (i := 306) (by decide +kernel)) (by decide +kernel)
theorem wd_303 : Cond.methodLink RX0 94 yX1_renew ∈ lw_gd := gd_in (List.mem_of_getElem? (i := 303) (by decide +kernel)) (by decide +kernel)
theorem wd_304 : Cond.instanceMethod yX1_renew ∈ lw_gd := gd_in (List.mem_of_getElem? (i := 304) (by decide +kernel)) (by decide +kernel)
theorem wd_305 : Cond.selects RX1 yX1_renew yX1_renew ∈ lw_gd := gd_in (List.mem_of_getElem? (i := 305) (by decide +kernel)) (by decide +kernel)
theorem wd_77 : Cond.initialized RX1 ∈ lw_gd := gd_in (List.mem_of_getElem? (i := 77) (by decide +kernel)) (by decide +kernel)
theorem wd_537 : Cond.code yX2_copyFrom cX2_copyFrom 2 none ∈ lw_gd := gd_in (List.mem_of_getElem? (i := 537) (by decide +kernel)) (by decide +kernel)
theorem wd_534 : Cond.methodLink RX0 95 yX2_copyFrom ∈ lw_gd := gd_in (List.mem_of_getElem? (i := 534) (by decide +kernel)) (by decide +kernel)
theorem wd_535 : Cond.instanceMethod yX2_copyFrom ∈ lw_gd := gd_in (List.mem_of_getElem? (i := 535) (by decide +kernel)) (by decide +kernel)
theorem wd_536 : Cond.selects RX2 yX2_copyFrom yX2_copyFrom ∈ lw_gd := gd_in (List.mem_of_getElem? (i := 536) (by decide +kernel)) (by decide +kernel)
theorem wd_541 : Cond.code yX1_copyFrom cX1_copyFrom 2 none ∈ lw_gd := gd_in (List.mem_of_getElem? (i := 541) (by decide +kernel)) (by decide +kernel)
theorem wd_538 : Cond.methodLink RX0 99 yX1_copyFrom ∈ lw_gd := gd_in (List.mem_of_getElem? (i := 538) (by decide +kernel)) (by decide +kernel)
theorem wd_539 : Cond.instanceMethod yX1_copyFrom ∈ lw_gd := gd_in (List.mem_of_getElem? (i := 539) (by decide +kernel)) (by decide +kernel)
theorem wd_540 : Cond.selects RX1 yX1_copyFrom yX1_copyFrom ∈ lw_gd := gd_in (List.mem_of_getElem? (i := 540) (by decide +kernel)) (by decide +kernel)
theorem wd_351 : Cond.code yX2_isCalledByAnother cX2_isCalledByAnother 1 (some .boolean) ∈ lw_gd := gd_in (List.mem_of_getElem? (i := 351) (by decide +kernel)) (by decide +kernel)
theorem wd_348 : Cond.methodLink RX0 115 yX2_isCalledByAnother ∈ lw_gd := gd_in (List.mem_of_getElem? (i := 348) (by decide +kernel)) (by decide +kernel)
theorem wd_349 : Cond.instanceMethod yX2_isCalledByAnother ∈ lw_gd := gd_in (List.mem_of_getElem? (i := 349) (by decide +kernel)) (by decide +kernel)
theorem wd_350 : Cond.selects RX2 yX2_isCalledByAnother yX2_isCalledByAnother ∈ lw_gd := gd_in (List.mem_of_getElem? (i := 350) (by decide +kernel)) (by decide +kernel)
theorem wd_355 : Cond.code yX0_release cX0_release 3 none ∈ lw_gd := gd_in (List.mem_of_getElem? (i := 355) (by decide +kernel)) (by decide +kernel)
theorem wd_352 : Cond.methodLink RX0 122 yX0_release ∈ lw_gd := gd_in (List.mem_of_getElem? (i := 352) (by decide +kernel)) (by decide +kernel)
theorem wd_354 : Cond.instanceMethod yX0_release ∈ lw_gd := gd_in (List.mem_of_getElem? (i := 354) (by decide +kernel)) (by decide +kernel)
theorem wd_1 : Cond.selects RX0 yX0_release yX0_release ∈ lw_gd := gd_in (List.mem_of_getElem? (i := 1) (by decide +kernel)) (by decide +kernel)
theorem wd_298 : Cond.code yX2_leaveCall cX2_leaveCall 2 none ∈ lw_gd := gd_in (List.mem_of_getElem? (i := 298) (by decide +kernel)) (by decide +kernel)
theorem wd_356 : Cond.methodLink RX0 125 yX2_leaveCall ∈ lw_gd := gd_in (List.mem_of_getElem? (i := 356) (by decide +kernel)) (by decide +kernel)
theorem wd_296 : Cond.instanceMethod yX2_leaveCall ∈ lw_gd := gd_in (List.mem_of_getElem? (i := 296) (by decide +kernel)) (by decide +kernel)
theorem wd_297 : Cond.selects RX2 yX2_leaveCall yX2_leaveCall ∈ lw_gd := gd_in (List.mem_of_getElem? (i := 297) (by decide +kernel)) (by decide +kernel)
theorem wd_310 : Cond.code yX1_becomeFree cX1_becomeFree 1 none ∈ lw_gd := gd_in (List.mem_of_getElem? (i := 310) (by decide +kernel)) (by decide +kernel)
theorem wd_357 : Cond.methodLink RX0 132 yX1_becomeFree ∈ lw_gd := gd_in (List.mem_of_getElem? (i := 357) (by decide +kernel)) (by decide +kernel)
theorem wd_308 : Cond.instanceMethod yX1_becomeFree ∈ lw_gd := gd_in (List.mem_of_getElem? (i := 308) (by decide +kernel)) (by decide +kernel)
theorem wd_309 : Cond.selects RX1 yX1_becomeFree yX1_becomeFree ∈ lw_gd := gd_in (List.mem_of_getElem? (i := 309) (by decide +kernel)) (by decide +kernel)
theorem wd_369 : Cond.code yX2_appendDigit cX2_appendDigit 2 none ∈ lw_gd := gd_in (List.mem_of_getElem? (i := 369) (by decide +kernel)) (by decide +kernel)
theorem wd_366 : Cond.methodLink RX0 138 yX2_appendDigit ∈ lw_gd := gd_in (List.mem_of_getElem? (i := 366) (by decide +kernel)) (by decide +kernel)
theorem wd_367 : Cond.instanceMethod yX2_appendDigit ∈ lw_gd := gd_in (List.mem_of_getElem? (i := 367) (by decide +kernel)) (by decide +kernel)
theorem wd_368 : Cond.selects RX2 yX2_appendDigit yX2_appendDigit ∈ lw_gd := gd_in (List.mem_of_getElem? (i := 368) (by decide +kernel)) (by decide +kernel)
theorem wd_386 : Cond.code yX0_takeStep cX0_takeStep 3 none ∈ lw_gd := gd_in (List.mem_of_getElem? (i := 386) (by decide +kernel)) (by decide +kernel)
theorem wd_383 : Cond.methodLink RX0 142 yX0_takeStep ∈ lw_gd := gd_in (List.mem_of_getElem? (i := 383) (by decide +kernel)) (by decide +kernel)
theorem wd_385 : Cond.instanceMethod yX0_takeStep ∈ lw_gd := gd_in (List.mem_of_getElem? (i := 385) (by decide +kernel)) (by decide +kernel)
theorem wd_2 : Cond.selects RX0 yX0_takeStep yX0_takeStep ∈ lw_gd := gd_in (List.mem_of_getElem? (i := 2) (by decide +kernel)) (by decide +kernel)
theorem wd_439 : Cond.code yX0_allotFinder cX0_allotFinder 4 none ∈ lw_gd := gd_in (List.mem_of_getElem? (i := 439) (by decide +kernel)) (by decide +kernel)
theorem wd_436 : Cond.methodLink RX0 145 yX0_allotFinder ∈ lw_gd := gd_in (List.mem_of_getElem? (i := 436) (by decide +kernel)) (by decide +kernel)
theorem wd_438 : Cond.instanceMethod yX0_allotFinder ∈ lw_gd := gd_in (List.mem_of_getElem? (i := 438) (by decide +kernel)) (by decide +kernel)
theorem wd_12 : Cond.selects RX0 yX0_allotFinder yX0_allotFinder ∈ lw_gd := gd_in (List.mem_of_getElem? (i := 12) (by decide +kernel)) (by decide +kernel)
theorem wd_455 : Cond.code yX0_countParked cX0_countParked 3 none ∈ lw_gd := gd_in (List.mem_of_getElem? (i := 455) (by decide +kernel)) (by decide +kernel)
theorem wd_452 : Cond.methodLink RX0 148 yX0_countParked ∈ lw_gd := gd_in (List.mem_of_getElem? (i := 452) (by decide +kernel)) (by decide +kernel)
theorem wd_454 : Cond.instanceMethod yX0_countParked ∈ lw_gd := gd_in (List.mem_of_getElem? (i := 454) (by decide +kernel)) (by decide +kernel)
theorem wd_15 : Cond.selects RX0 yX0_countParked yX0_countParked ∈ lw_gd := gd_in (List.mem_of_getElem? (i := 15) (by decide +kernel)) (by decide +kernel)
theorem wd_390 : Cond.code yX0_seek cX0_seek 3 none ∈ lw_gd := gd_in (List.mem_of_getElem? (i := 390) (by decide +kernel)) (by decide +kernel)
theorem wd_387 : Cond.methodLink RX0 155 yX0_seek ∈ lw_gd := gd_in (List.mem_of_getElem? (i := 387) (by decide +kernel)) (by decide +kernel)
theorem wd_389 : Cond.instanceMethod yX0_seek ∈ lw_gd := gd_in (List.mem_of_getElem? (i := 389) (by decide +kernel)) (by decide +kernel)
theorem wd_3 : Cond.selects RX0 yX0_seek yX0_seek ∈ lw_gd := gd_in (List.mem_of_getElem? (i := 3) (by decide +kernel)) (by decide +kernel)
theorem wd_395 : Cond.code yX0_awaitDigit cX0_awaitDigit 4 none ∈ lw_gd := gd_in (List.mem_of_getElem? (i := 395) (by decide +kernel)) (by decide +kernel)
theorem wd_392 : Cond.methodLink RX0 159 yX0_awaitDigit ∈ lw_gd := gd_in (List.mem_of_getElem? (i := 392) (by decide +kernel)) (by decide +kernel)
theorem wd_394 : Cond.instanceMethod yX0_awaitDigit ∈ lw_gd := gd_in (List.mem_of_getElem? (i := 394) (by decide +kernel)) (by decide +kernel)
theorem wd_4 : Cond.selects RX0 yX0_awaitDigit yX0_awaitDigit ∈ lw_gd := gd_in (List.mem_of_getElem? (i := 4) (by decide +kernel)) (by decide +kernel)
theorem wd_403 : Cond.code yX0_rise cX0_rise 3 none ∈ lw_gd := gd_in (List.mem_of_getElem? (i := 403) (by decide +kernel)) (by decide +kernel)
theorem wd_400 : Cond.methodLink RX0 163 yX0_rise ∈ lw_gd := gd_in (List.mem_of_getElem? (i := 400) (by decide +kernel)) (by decide +kernel)
theorem wd_402 : Cond.instanceMethod yX0_rise ∈ lw_gd := gd_in (List.mem_of_getElem? (i := 402) (by decide +kernel)) (by decide +kernel)
theorem wd_5 : Cond.selects RX0 yX0_rise yX0_rise ∈ lw_gd := gd_in (List.mem_of_getElem? (i := 5) (by decide +kernel)) (by decide +kernel)
theorem wd_411 : Cond.code yX0_hunt cX0_hunt 3 none ∈ lw_gd := gd_in (List.mem_of_getElem? (i := 411) (by decide +kernel)) (by decide +kernel)
theorem wd_408 : Cond.methodLink RX0 166 yX0_hunt ∈ lw_gd := gd_in (List.mem_of_getElem? (i := 408) (by decide +kernel)) (by decide +kernel)
theorem wd_410 : Cond.instanceMethod yX0_hunt ∈ lw_gd := gd_in (List.mem_of_getElem? (i := 410) (by decide +kernel)) (by decide +kernel)
theorem wd_7 : Cond.selects RX0 yX0_hunt yX0_hunt ∈ lw_gd := gd_in (List.mem_of_getElem? (i := 7) (by decide +kernel)) (by decide +kernel)
theorem wd_423 : Cond.code yX0_stepOn cX0_stepOn 5 none ∈ lw_gd := gd_in (List.mem_of_getElem? (i := 423) (by decide +kernel)) (by decide +kernel)
theorem wd_420 : Cond.methodLink RX0 169 yX0_stepOn ∈ lw_gd := gd_in (List.mem_of_getElem? (i := 420) (by decide +kernel)) (by decide +kernel)
theorem wd_422 : Cond.instanceMethod yX0_stepOn ∈ lw_gd := gd_in (List.mem_of_getElem? (i := 422) (by decide +kernel)) (by decide +kernel)
theorem wd_8 : Cond.selects RX0 yX0_stepOn yX0_stepOn ∈ lw_gd := gd_in (List.mem_of_getElem? (i := 8) (by decide +kernel)) (by decide +kernel)
theorem wd_427 : Cond.code yX0_ringOn cX0_ringOn 4 none ∈ lw_gd := gd_in (List.mem_of_getElem? (i := 427) (by decide +kernel)) (by decide +kernel)
theorem wd_424 : Cond.methodLink RX0 172 yX0_ringOn ∈ lw_gd := gd_in (List.mem_of_getElem? (i := 424) (by decide +kernel)) (by decide +kernel)
theorem wd_426 : Cond.instanceMethod yX0_ringOn ∈ lw_gd := gd_in (List.mem_of_getElem? (i := 426) (by decide +kernel)) (by decide +kernel)
theorem wd_9 : Cond.selects RX0 yX0_ringOn yX0_ringOn ∈ lw_gd := gd_in (List.mem_of_getElem? (i := 9) (by decide +kernel)) (by decide +kernel)
theorem wd_431 : Cond.code yX0_talkOn cX0_talkOn 5 none ∈ lw_gd := gd_in (List.mem_of_getElem? (i := 431) (by decide +kernel)) (by decide +kernel)
theorem wd_428 : Cond.methodLink RX0 175 yX0_talkOn ∈ lw_gd := gd_in (List.mem_of_getElem? (i := 428) (by decide +kernel)) (by decide +kernel)
theorem wd_430 : Cond.instanceMethod yX0_talkOn ∈ lw_gd := gd_in (List.mem_of_getElem? (i := 430) (by decide +kernel)) (by decide +kernel)
theorem wd_10 : Cond.selects RX0 yX0_talkOn yX0_talkOn ∈ lw_gd := gd_in (List.mem_of_getElem? (i := 10) (by decide +kernel)) (by decide +kernel)
theorem wd_435 : Cond.code yX0_soundOn cX0_soundOn 3 none ∈ lw_gd := gd_in (List.mem_of_getElem? (i := 435) (by decide +kernel)) (by decide +kernel)
theorem wd_432 : Cond.methodLink RX0 178 yX0_soundOn ∈ lw_gd := gd_in (List.mem_of_getElem? (i := 432) (by decide +kernel)) (by decide +kernel)
theorem wd_434 : Cond.instanceMethod yX0_soundOn ∈ lw_gd := gd_in (List.mem_of_getElem? (i := 434) (by decide +kernel)) (by decide +kernel)
theorem wd_11 : Cond.selects RX0 yX0_soundOn yX0_soundOn ∈ lw_gd := gd_in (List.mem_of_getElem? (i := 11) (by decide +kernel)) (by decide +kernel)
theorem wd_314 : Cond.code yX1_become cX1_become 2 none ∈ lw_gd := gd_in (List.mem_of_getElem? (i := 314) (by decide +kernel)) (by decide +kernel)
theorem wd_391 : Cond.methodLink RX0 184 yX1_become ∈ lw_gd := gd_in (List.mem_of_getElem? (i := 391) (by decide +kernel)) (by decide +kernel)
theorem wd_312 : Cond.instanceMethod yX1_become ∈ lw_gd := gd_in (List.mem_of_getElem? (i := 312) (by decide +kernel)) (by decide +kernel)
theorem wd_313 : Cond.selects RX1 yX1_become yX1_become ∈ lw_gd := gd_in (List.mem_of_getElem? (i := 313) (by decide +kernel)) (by decide +kernel)
theorem wd_399 : Cond.code yX2_takePulses cX2_takePulses 2 (some .int) ∈ lw_gd := gd_in (List.mem_of_getElem? (i := 399) (by decide +kernel)) (by decide +kernel)
theorem wd_396 : Cond.methodLink RX0 187 yX2_takePulses ∈ lw_gd := gd_in (List.mem_of_getElem? (i := 396) (by decide +kernel)) (by decide +kernel)
theorem wd_397 : Cond.instanceMethod yX2_takePulses ∈ lw_gd := gd_in (List.mem_of_getElem? (i := 397) (by decide +kernel)) (by decide +kernel)
theorem wd_398 : Cond.selects RX2 yX2_takePulses yX2_takePulses ∈ lw_gd := gd_in (List.mem_of_getElem? (i := 398) (by decide +kernel)) (by decide +kernel)
theorem wd_407 : Cond.code yX0_sound cX0_sound 5 none ∈ lw_gd := gd_in (List.mem_of_getElem? (i := 407) (by decide +kernel)) (by decide +kernel)
theorem wd_404 : Cond.methodLink RX0 200 yX0_sound ∈ lw_gd := gd_in (List.mem_of_getElem? (i := 404) (by decide +kernel)) (by decide +kernel)
theorem wd_406 : Cond.instanceMethod yX0_sound ∈ lw_gd := gd_in (List.mem_of_getElem? (i := 406) (by decide +kernel)) (by decide +kernel)
theorem wd_6 : Cond.selects RX0 yX0_sound yX0_sound ∈ lw_gd := gd_in (List.mem_of_getElem? (i := 6) (by decide +kernel)) (by decide +kernel)
theorem wd_415 : Cond.code yX0_holderOf cX0_holderOf 5 (some .int) ∈ lw_gd := gd_in (List.mem_of_getElem? (i := 415) (by decide +kernel)) (by decide +kernel)
theorem wd_412 : Cond.methodLink RX0 207 yX0_holderOf ∈ lw_gd := gd_in (List.mem_of_getElem? (i := 412) (by decide +kernel)) (by decide +kernel)
theorem wd_413 : Cond.instanceMethod yX0_holderOf ∈ lw_gd := gd_in (List.mem_of_getElem? (i := 413) (by decide +kernel)) (by decide +kernel)
theorem wd_414 : Cond.selects RX0 yX0_holderOf yX0_holderOf ∈ lw_gd := gd_in (List.mem_of_getElem? (i := 414) (by decide +kernel)) (by decide +kernel)
theorem wd_443 : Cond.code yX0_nextFreeFinder cX0_nextFreeFinder 3 (some .int) ∈ lw_gd := gd_in (List.mem_of_getElem? (i := 443) (by decide +kernel)) (by decide +kernel)
theorem wd_440 : Cond.methodLink RX0 220 yX0_nextFreeFinder ∈ lw_gd := gd_in (List.mem_of_getElem? (i := 440) (by decide +kernel)) (by decide +kernel)
theorem wd_442 : Cond.instanceMethod yX0_nextFreeFinder ∈ lw_gd := gd_in (List.mem_of_getElem? (i := 442) (by decide +kernel)) (by decide +kernel)
theorem wd_13 : Cond.selects RX0 yX0_nextFreeFinder yX0_nextFreeFinder ∈ lw_gd := gd_in (List.mem_of_getElem? (i := 13) (by decide +kernel)) (by decide +kernel)
theorem wd_447 : Cond.code yX0_firstWaitingLine cX0_firstWaitingLine 4 (some .int) ∈ lw_gd := gd_in (List.mem_of_getElem? (i := 447) (by decide +kernel)) (by decide +kernel)
theorem wd_444 : Cond.methodLink RX0 223 yX0_firstWaitingLine ∈ lw_gd := gd_in (List.mem_of_getElem? (i := 444) (by decide +kernel)) (by decide +kernel)
theorem wd_446 : Cond.instanceMethod yX0_firstWaitingLine ∈ lw_gd := gd_in (List.mem_of_getElem? (i := 446) (by decide +kernel)) (by decide +kernel)
theorem wd_14 : Cond.selects RX0 yX0_firstWaitingLine yX0_firstWaitingLine ∈ lw_gd := gd_in (List.mem_of_getElem? (i := 14) (by decide +kernel)) (by decide +kernel)
theorem wd_459 : Cond.code yX2_waitParked cX2_waitParked 2 none ∈ lw_gd := gd_in (List.mem_of_getElem? (i := 459) (by decide +kernel)) (by decide +kernel)
theorem wd_456 : Cond.methodLink RX0 226 yX2_waitParked ∈ lw_gd := gd_in (List.mem_of_getElem? (i := 456) (by decide +kernel)) (by decide +kernel)
theorem wd_457 : Cond.instanceMethod yX2_waitParked ∈ lw_gd := gd_in (List.mem_of_getElem? (i := 457) (by decide +kernel)) (by decide +kernel)
theorem wd_458 : Cond.selects RX2 yX2_waitParked yX2_waitParked ∈ lw_gd := gd_in (List.mem_of_getElem? (i := 458) (by decide +kernel)) (by decide +kernel)
theorem wd_451 : Cond.code yX2_waitsUnsought cX2_waitsUnsought 1 (some .boolean) ∈ lw_gd := gd_in (List.mem_of_getElem? (i := 451) (by decide +kernel)) (by decide +kernel)
theorem wd_448 : Cond.methodLink RX0 229 yX2_waitsUnsought ∈ lw_gd := gd_in (List.mem_of_getElem? (i := 448) (by decide +kernel)) (by decide +kernel)
theorem wd_449 : Cond.instanceMethod yX2_waitsUnsought ∈ lw_gd := gd_in (List.mem_of_getElem? (i := 449) (by decide +kernel)) (by decide +kernel)
theorem wd_450 : Cond.selects RX2 yX2_waitsUnsought yX2_waitsUnsought ∈ lw_gd := gd_in (List.mem_of_getElem? (i := 450) (by decide +kernel)) (by decide +kernel)
theorem wd_419 : Cond.code yX1_holdsConnector cX1_holdsConnector 1 (some .boolean) ∈ lw_gd := gd_in (List.mem_of_getElem? (i := 419) (by decide +kernel)) (by decide +kernel)
theorem wd_416 : Cond.methodLink RX0 232 yX1_holdsConnector ∈ lw_gd := gd_in (List.mem_of_getElem? (i := 416) (by decide +kernel)) (by decide +kernel)
theorem wd_417 : Cond.instanceMethod yX1_holdsConnector ∈ lw_gd := gd_in (List.mem_of_getElem? (i := 417) (by decide +kernel)) (by decide +kernel)
theorem wd_418 : Cond.selects RX1 yX1_holdsConnector yX1_holdsConnector ∈ lw_gd := gd_in (List.mem_of_getElem? (i := 418) (by decide +kernel)) (by decide +kernel)
theorem wd_382 : Cond.code yX0_pass cX0_pass 4 none ∈ lw_gd := gd_in (List.mem_of_getElem? (i := 382) (by decide +kernel)) (by decide +kernel)
theorem wd_546 : Cond.methodLink RX0 235 yX0_pass ∈ lw_gd := gd_in (List.mem_of_getElem? (i := 546) (by decide +kernel)) (by decide +kernel)
theorem wd_380 : Cond.instanceMethod yX0_pass ∈ lw_gd := gd_in (List.mem_of_getElem? (i := 380) (by decide +kernel)) (by decide +kernel)
theorem wd_381 : Cond.selects RX0 yX0_pass yX0_pass ∈ lw_gd := gd_in (List.mem_of_getElem? (i := 381) (by decide +kernel)) (by decide +kernel)
theorem wd_339 : Cond.code yX0_liftLine cX0_liftLine 3 (some .int) ∈ lw_gd := gd_in (List.mem_of_getElem? (i := 339) (by decide +kernel)) (by decide +kernel)
theorem wd_556 : Cond.methodLink RX0 238 yX0_liftLine ∈ lw_gd := gd_in (List.mem_of_getElem? (i := 556) (by decide +kernel)) (by decide +kernel)
theorem wd_337 : Cond.instanceMethod yX0_liftLine ∈ lw_gd := gd_in (List.mem_of_getElem? (i := 337) (by decide +kernel)) (by decide +kernel)
theorem wd_338 : Cond.selects RX0 yX0_liftLine yX0_liftLine ∈ lw_gd := gd_in (List.mem_of_getElem? (i := 338) (by decide +kernel)) (by decide +kernel)
theorem wd_365 : Cond.code yX0_dialDigit cX0_dialDigit 4 (some .int) ∈ lw_gd := gd_in (List.mem_of_getElem? (i := 365) (by decide +kernel)) (by decide +kernel)
theorem wd_560 : Cond.methodLink RX0 245 yX0_dialDigit ∈ lw_gd := gd_in (List.mem_of_getElem? (i := 560) (by decide +kernel)) (by decide +kernel)
theorem wd_363 : Cond.instanceMethod yX0_dialDigit ∈ lw_gd := gd_in (List.mem_of_getElem? (i := 363) (by decide +kernel)) (by decide +kernel)
theorem wd_364 : Cond.selects RX0 yX0_dialDigit yX0_dialDigit ∈ lw_gd := gd_in (List.mem_of_getElem? (i := 364) (by decide +kernel)) (by decide +kernel)
theorem wd_471 : Cond.code yX0_partnerOf cX0_partnerOf 3 (some .int) ∈ lw_gd := gd_in (List.mem_of_getElem? (i := 471) (by decide +kernel)) (by decide +kernel)
theorem wd_468 : Cond.methodLink RX0 248 yX0_partnerOf ∈ lw_gd := gd_in (List.mem_of_getElem? (i := 468) (by decide +kernel)) (by decide +kernel)
theorem wd_470 : Cond.instanceMethod yX0_partnerOf ∈ lw_gd := gd_in (List.mem_of_getElem? (i := 470) (by decide +kernel)) (by decide +kernel)
theorem wd_16 : Cond.selects RX0 yX0_partnerOf yX0_partnerOf ∈ lw_gd := gd_in (List.mem_of_getElem? (i := 16) (by decide +kernel)) (by decide +kernel)
theorem wd_479 : Cond.code yX0_placeOf cX0_placeOf 4 (some .int) ∈ lw_gd := gd_in (List.mem_of_getElem? (i := 479) (by decide +kernel)) (by decide +kernel)
theorem wd_476 : Cond.methodLink RX0 252 yX0_placeOf ∈ lw_gd := gd_in (List.mem_of_getElem? (i := 476) (by decide +kernel)) (by decide +kernel)
theorem wd_478 : Cond.instanceMethod yX0_placeOf ∈ lw_gd := gd_in (List.mem_of_getElem? (i := 478) (by decide +kernel)) (by decide +kernel)
theorem wd_17 : Cond.selects RX0 yX0_placeOf yX0_placeOf ∈ lw_gd := gd_in (List.mem_of_getElem? (i := 17) (by decide +kernel)) (by decide +kernel)
theorem wd_475 : Cond.code yX2_callsAnother cX2_callsAnother 1 (some .boolean) ∈ lw_gd := gd_in (List.mem_of_getElem? (i := 475) (by decide +kernel)) (by decide +kernel)
theorem wd_472 : Cond.methodLink RX0 258 yX2_callsAnother ∈ lw_gd := gd_in (List.mem_of_getElem? (i := 472) (by decide +kernel)) (by decide +kernel)
theorem wd_473 : Cond.instanceMethod yX2_callsAnother ∈ lw_gd := gd_in (List.mem_of_getElem? (i := 473) (by decide +kernel)) (by decide +kernel)
theorem wd_474 : Cond.selects RX2 yX2_callsAnother yX2_callsAnother ∈ lw_gd := gd_in (List.mem_of_getElem? (i := 474) (by decide +kernel)) (by decide +kernel)
theorem wd_505 : Cond.code yX0_freeFinders cX0_freeFinders 3 (some .int) ∈ lw_gd := gd_in (List.mem_of_getElem? (i := 505) (by decide +kernel)) (by decide +kernel)
theorem wd_502 : Cond.methodLink RX0 261 yX0_freeFinders ∈ lw_gd := gd_in (List.mem_of_getElem? (i := 502) (by decide +kernel)) (by decide +kernel)
theorem wd_504 : Cond.instanceMethod yX0_freeFinders ∈ lw_gd := gd_in (List.mem_of_getElem? (i := 504) (by decide +kernel)) (by decide +kernel)
theorem wd_18 : Cond.selects RX0 yX0_freeFinders yX0_freeFinders ∈ lw_gd := gd_in (List.mem_of_getElem? (i := 18) (by decide +kernel)) (by decide +kernel)
theorem wd_509 : Cond.code yX0_freeConnectors cX0_freeConnectors 3 (some .int) ∈ lw_gd := gd_in (List.mem_of_getElem? (i := 509) (by decide +kernel)) (by decide +kernel)
theorem wd_506 : Cond.methodLink RX0 264 yX0_freeConnectors ∈ lw_gd := gd_in (List.mem_of_getElem? (i := 506) (by decide +kernel)) (by decide +kernel)
theorem wd_508 : Cond.instanceMethod yX0_freeConnectors ∈ lw_gd := gd_in (List.mem_of_getElem? (i := 508) (by decide +kernel)) (by decide +kernel)
theorem wd_19 : Cond.selects RX0 yX0_freeConnectors yX0_freeConnectors ∈ lw_gd := gd_in (List.mem_of_getElem? (i := 19) (by decide +kernel)) (by decide +kernel)
theorem wd_513 : Cond.code yX0_sumOfMeters cX0_sumOfMeters 3 (some .int) ∈ lw_gd := gd_in (List.mem_of_getElem? (i := 513) (by decide +kernel)) (by decide +kernel)
theorem wd_510 : Cond.methodLink RX0 267 yX0_sumOfMeters ∈ lw_gd := gd_in (List.mem_of_getElem? (i := 510) (by decide +kernel)) (by decide +kernel)
theorem wd_512 : Cond.instanceMethod yX0_sumOfMeters ∈ lw_gd := gd_in (List.mem_of_getElem? (i := 512) (by decide +kernel)) (by decide +kernel)
theorem wd_20 : Cond.selects RX0 yX0_sumOfMeters yX0_sumOfMeters ∈ lw_gd := gd_in (List.mem_of_getElem? (i := 20) (by decide +kernel)) (by decide +kernel)
theorem wd_517 : Cond.code yX0_liftedLines cX0_liftedLines 3 (some .int) ∈ lw_gd := gd_in (List.mem_of_getElem? (i := 517) (by decide +kernel)) (by decide +kernel)
theorem wd_514 : Cond.methodLink RX0 270 yX0_liftedLines ∈ lw_gd := gd_in (List.mem_of_getElem? (i := 514) (by decide +kernel)) (by decide +kernel)
theorem wd_516 : Cond.instanceMethod yX0_liftedLines ∈ lw_gd := gd_in (List.mem_of_getElem? (i := 516) (by decide +kernel)) (by decide +kernel)
theorem wd_21 : Cond.selects RX0 yX0_liftedLines yX0_liftedLines ∈ lw_gd := gd_in (List.mem_of_getElem? (i := 21) (by decide +kernel)) (by decide +kernel)
theorem wd_307 : Cond.methodLink RX1 42 yX1_becomeFree ∈ lw_gd := gd_in (List.mem_of_getElem? (i := 307) (by decide +kernel)) (by decide +kernel)
theorem wd_311 : Cond.methodLink RX1 45 yX1_become ∈ lw_gd := gd_in (List.mem_of_getElem? (i := 311) (by decide +kernel)) (by decide +kernel)
theorem wd_295 : Cond.methodLink RX2 40 yX2_leaveCall ∈ lw_gd := gd_in (List.mem_of_getElem? (i := 295) (by decide +kernel)) (by decide +kernel)
theorem wd_571 : Cond.code yX3_countOf cX3_countOf 6 (some .int) ∈ lw_gd := gd_in (List.mem_of_getElem? (i := 571) (by decide +kernel)) (by decide +kernel)
theorem wd_569 : Cond.methodLink RX3 19 yX3_countOf ∈ lw_gd := gd_in (List.mem_of_getElem? (i := 569) (by decide +kernel)) (by decide +kernel)
theorem wd_570 : Cond.static yX3_countOf ∈ lw_gd := gd_in (List.mem_of_getElem? (i := 570) (by decide +kernel)) (by decide +kernel)
theorem wd_78 : Cond.initialized RX3 ∈ lw_gd := gd_in (List.mem_of_getElem? (i := 78) (by decide +kernel)) (by decide +kernel)
theorem wd_282 : Cond.code yX4_isWithin cX4_isWithin 3 (some .boolean) ∈ lw_gd := gd_in (List.mem_of_getElem? (i := 282) (by decide +kernel)) (by decide +kernel)
theorem wd_281 : Cond.static yX4_isWithin ∈ lw_gd := gd_in (List.mem_of_getElem? (i := 281) (by decide +kernel)) (by decide +kernel)
theorem wd_595 : Cond.code yX3_isDigit cX3_isDigit 1 (some .boolean) ∈ lw_gd := gd_in (List.mem_of_getElem? (i := 595) (by decide +kernel)) (by decide +kernel)
theorem wd_593 : Cond.methodLink RX3 35 yX3_isDigit ∈ lw_gd := gd_in (List.mem_of_getElem? (i := 593) (by decide +kernel)) (by decide +kernel)
theorem wd_594 : Cond.static yX3_isDigit ∈ lw_gd := gd_in (List.mem_of_getElem? (i := 594) (by decide +kernel)) (by decide +kernel)
theorem wd_598 : Cond.code yX3_awaitedBehind cX3_awaitedBehind 3 (some .int) ∈ lw_gd := gd_in (List.mem_of_getElem? (i := 598) (by decide +kernel)) (by decide +kernel)
theorem wd_596 : Cond.methodLink RX3 39 yX3_awaitedBehind ∈ lw_gd := gd_in (List.mem_of_getElem? (i := 596) (by decide +kernel)) (by decide +kernel)
theorem wd_597 : Cond.static yX3_awaitedBehind ∈ lw_gd := gd_in (List.mem_of_getElem? (i := 597) (by decide +kernel)) (by decide +kernel)
theorem wd_601 : Cond.code yX3_awaitedBehindLetter cX3_awaitedBehindLetter 1 (some .int) ∈ lw_gd := gd_in (List.mem_of_getElem? (i := 601) (by decide +kernel)) (by decide +kernel)
theorem wd_599 : Cond.methodLink RX3 43 yX3_awaitedBehindLetter ∈ lw_gd := gd_in (List.mem_of_getElem? (i := 599) (by decide +kernel)) (by decide +kernel)
theorem wd_600 : Cond.static yX3_awaitedBehindLetter ∈ lw_gd := gd_in (List.mem_of_getElem? (i := 600) (by decide +kernel)) (by decide +kernel)
theorem wd_604 : Cond.code yX3_lineOf cX3_lineOf 1 (some .int) ∈ lw_gd := gd_in (List.mem_of_getElem? (i := 604) (by decide +kernel)) (by decide +kernel)
theorem wd_602 : Cond.methodLink RX3 46 yX3_lineOf ∈ lw_gd := gd_in (List.mem_of_getElem? (i := 602) (by decide +kernel)) (by decide +kernel)
theorem wd_603 : Cond.static yX3_lineOf ∈ lw_gd := gd_in (List.mem_of_getElem? (i := 603) (by decide +kernel)) (by decide +kernel)
theorem wd_607 : Cond.code yX3_awaitedBehindComma cX3_awaitedBehindComma 1 (some .int) ∈ lw_gd := gd_in (List.mem_of_getElem? (i := 607) (by decide +kernel)) (by decide +kernel)
theorem wd_605 : Cond.methodLink RX3 49 yX3_awaitedBehindComma ∈ lw_gd := gd_in (List.mem_of_getElem? (i := 605) (by decide +kernel)) (by decide +kernel)
theorem wd_606 : Cond.static yX3_awaitedBehindComma ∈ lw_gd := gd_in (List.mem_of_getElem? (i := 606) (by decide +kernel)) (by decide +kernel)
theorem wd_576 : Cond.code yX3_appendCode cX3_appendCode 2 none ∈ lw_gd := gd_in (List.mem_of_getElem? (i := 576) (by decide +kernel)) (by decide +kernel)
theorem wd_573 : Cond.methodLink RX3 23 yX3_appendCode ∈ lw_gd := gd_in (List.mem_of_getElem? (i := 573) (by decide +kernel)) (by decide +kernel)
theorem wd_575 : Cond.instanceMethod yX3_appendCode ∈ lw_gd := gd_in (List.mem_of_getElem? (i := 575) (by decide +kernel)) (by decide +kernel)
theorem wd_22 : Cond.selects RX3 yX3_appendCode yX3_appendCode ∈ lw_gd := gd_in (List.mem_of_getElem? (i := 22) (by decide +kernel)) (by decide +kernel)
theorem wd_592 : Cond.code yX3_codeAt cX3_codeAt 2 (some .int) ∈ lw_gd := gd_in (List.mem_of_getElem? (i := 592) (by decide +kernel)) (by decide +kernel)
theorem wd_589 : Cond.methodLink RX3 31 yX3_codeAt ∈ lw_gd := gd_in (List.mem_of_getElem? (i := 589) (by decide +kernel)) (by decide +kernel)
theorem wd_590 : Cond.instanceMethod yX3_codeAt ∈ lw_gd := gd_in (List.mem_of_getElem? (i := 590) (by decide +kernel)) (by decide +kernel)
theorem wd_591 : Cond.selects RX3 yX3_codeAt yX3_codeAt ∈ lw_gd := gd_in (List.mem_of_getElem? (i := 591) (by decide +kernel)) (by decide +kernel)
theorem wd_280 : Cond.methodLink RX4 30 yX4_isWithin ∈ lw_gd := gd_in (List.mem_of_getElem? (i := 280) (by decide +kernel)) (by decide +kernel)
theorem wd_335 : Cond.code yX4_isLine cX4_isLine 1 (some .boolean) ∈ lw_gd := gd_in (List.mem_of_getElem? (i := 335) (by decide +kernel)) (by decide +kernel)
theorem wd_333 : Cond.methodLink RX4 50 yX4_isLine ∈ lw_gd := gd_in (List.mem_of_getElem? (i := 333) (by decide +kernel)) (by decide +kernel)
theorem wd_334 : Cond.static yX4_isLine ∈ lw_gd := gd_in (List.mem_of_getElem? (i := 334) (by decide +kernel)) (by decide +kernel)
theorem wd_629 : Cond.methodLink RX4 145 yX3_isDigit ∈ lw_gd := gd_in (List.mem_of_getElem? (i := 629) (by decide +kernel)) (by decide +kernel)
theorem wd_286 : Cond.code yX0_renew cX0_renew 4 none ∈ lw_gd := gd_in (List.mem_of_getElem? (i := 286) (by decide +kernel)) (by decide +kernel)
theorem wd_283 : Cond.methodLink RX4 38 yX0_renew ∈ lw_gd := gd_in (List.mem_of_getElem? (i := 283) (by decide +kernel)) (by decide +kernel)
theorem wd_284 : Cond.instanceMethod yX0_renew ∈ lw_gd := gd_in (List.mem_of_getElem? (i := 284) (by decide +kernel)) (by decide +kernel)
theorem wd_285 : Cond.selects RX0 yX0_renew yX0_renew ∈ lw_gd := gd_in (List.mem_of_getElem? (i := 285) (by decide +kernel)) (by decide +kernel)
theorem wd_324 : Cond.code yX0_changeSetting cX0_changeSetting 4 (some .int) ∈ lw_gd := gd_in (List.mem_of_getElem? (i := 324) (by decide +kernel)) (by decide +kernel)
theorem wd_321 : Cond.methodLink RX4 46 yX0_changeSetting ∈ lw_gd := gd_in (List.mem_of_getElem? (i := 321) (by decide +kernel)) (by decide +kernel)
theorem wd_322 : Cond.instanceMethod yX0_changeSetting ∈ lw_gd := gd_in (List.mem_of_getElem? (i := 322) (by decide +kernel)) (by decide +kernel)
theorem wd_323 : Cond.selects RX0 yX0_changeSetting yX0_changeSetting ∈ lw_gd := gd_in (List.mem_of_getElem? (i := 323) (by decide +kernel)) (by decide +kernel)
theorem wd_336 : Cond.methodLink RX4 54 yX0_liftLine ∈ lw_gd := gd_in (List.mem_of_getElem? (i := 336) (by decide +kernel)) (by decide +kernel)
theorem wd_347 : Cond.code yX0_hangLine cX0_hangLine 4 (some .int) ∈ lw_gd := gd_in (List.mem_of_getElem? (i := 347) (by decide +kernel)) (by decide +kernel)
theorem wd_344 : Cond.methodLink RX4 58 yX0_hangLine ∈ lw_gd := gd_in (List.mem_of_getElem? (i := 344) (by decide +kernel)) (by decide +kernel)
theorem wd_345 : Cond.instanceMethod yX0_hangLine ∈ lw_gd := gd_in (List.mem_of_getElem? (i := 345) (by decide +kernel)) (by decide +kernel)
theorem wd_346 : Cond.selects RX0 yX0_hangLine yX0_hangLine ∈ lw_gd := gd_in (List.mem_of_getElem? (i := 346) (by decide +kernel)) (by decide +kernel)
theorem wd_362 : Cond.methodLink RX4 61 yX0_dialDigit ∈ lw_gd := gd_in (List.mem_of_getElem? (i := 362) (by decide +kernel)) (by decide +kernel)
theorem wd_377 : Cond.code yX0_hasTimeFor cX0_hasTimeFor 2 (some .boolean) ∈ lw_gd := gd_in (List.mem_of_getElem? (i := 377) (by decide +kernel)) (by decide +kernel)
theorem wd_374 : Cond.methodLink RX4 64 yX0_hasTimeFor ∈ lw_gd := gd_in (List.mem_of_getElem? (i := 374) (by decide +kernel)) (by decide +kernel)
theorem wd_375 : Cond.instanceMethod yX0_hasTimeFor ∈ lw_gd := gd_in (List.mem_of_getElem? (i := 375) (by decide +kernel)) (by decide +kernel)
theorem wd_376 : Cond.selects RX0 yX0_hasTimeFor yX0_hasTimeFor ∈ lw_gd := gd_in (List.mem_of_getElem? (i := 376) (by decide +kernel)) (by decide +kernel)
theorem wd_379 : Cond.methodLink RX4 67 yX0_pass ∈ lw_gd := gd_in (List.mem_of_getElem? (i := 379) (by decide +kernel)) (by decide +kernel)
theorem wd_467 : Cond.code yX0_numberOfLine cX0_numberOfLine 4 (some .int) ∈ lw_gd := gd_in (List.mem_of_getElem? (i := 467) (by decide +kernel)) (by decide +kernel)
theorem wd_464 : Cond.methodLink RX4 74 yX0_numberOfLine ∈ lw_gd := gd_in (List.mem_of_getElem? (i := 464) (by decide +kernel)) (by decide +kernel)
theorem wd_465 : Cond.instanceMethod yX0_numberOfLine ∈ lw_gd := gd_in (List.mem_of_getElem? (i := 465) (by decide +kernel)) (by decide +kernel)
theorem wd_466 : Cond.selects RX0 yX0_numberOfLine yX0_numberOfLine ∈ lw_gd := gd_in (List.mem_of_getElem? (i := 466) (by decide +kernel)) (by decide +kernel)
theorem wd_484 : Cond.methodLink RX4 77 yX0_finderAt ∈ lw_gd := gd_in (List.mem_of_getElem? (i := 484) (by decide +kernel)) (by decide +kernel)
theorem wd_488 : Cond.code yX1_numberFor cX1_numberFor 2 (some .int) ∈ lw_gd := gd_in (List.mem_of_getElem? (i := 488) (by decide +kernel)) (by decide +kernel)
theorem wd_485 : Cond.methodLink RX4 81 yX1_numberFor ∈ lw_gd := gd_in (List.mem_of_getElem? (i := 485) (by decide +kernel)) (by decide +kernel)
theorem wd_486 : Cond.instanceMethod yX1_numberFor ∈ lw_gd := gd_in (List.mem_of_getElem? (i := 486) (by decide +kernel)) (by decide +kernel)
theorem wd_487 : Cond.selects RX1 yX1_numberFor yX1_numberFor ∈ lw_gd := gd_in (List.mem_of_getElem? (i := 487) (by decide +kernel)) (by decide +kernel)
theorem wd_493 : Cond.methodLink RX4 89 yX0_holderOf ∈ lw_gd := gd_in (List.mem_of_getElem? (i := 493) (by decide +kernel)) (by decide +kernel)
theorem wd_501 : Cond.code yX0_numberFor cX0_numberFor 2 (some .int) ∈ lw_gd := gd_in (List.mem_of_getElem? (i := 501) (by decide +kernel)) (by decide +kernel)
theorem wd_498 : Cond.methodLink RX4 95 yX0_numberFor ∈ lw_gd := gd_in (List.mem_of_getElem? (i := 498) (by decide +kernel)) (by decide +kernel)
theorem wd_499 : Cond.instanceMethod yX0_numberFor ∈ lw_gd := gd_in (List.mem_of_getElem? (i := 499) (by decide +kernel)) (by decide +kernel)
theorem wd_500 : Cond.selects RX0 yX0_numberFor yX0_numberFor ∈ lw_gd := gd_in (List.mem_of_getElem? (i := 500) (by decide +kernel)) (by decide +kernel)
theorem wd_525 : Cond.code yX0_traceFrom cX0_traceFrom 5 (some .int) ∈ lw_gd := gd_in (List.mem_of_getElem? (i := 525) (by decide +kernel)) (by decide +kernel)
theorem wd_522 : Cond.methodLink RX4 96 yX0_traceFrom ∈ lw_gd := gd_in (List.mem_of_getElem? (i := 522) (by decide +kernel)) (by decide +kernel)
theorem wd_523 : Cond.instanceMethod yX0_traceFrom ∈ lw_gd := gd_in (List.mem_of_getElem? (i := 523) (by decide +kernel)) (by decide +kernel)
theorem wd_524 : Cond.selects RX0 yX0_traceFrom yX0_traceFrom ∈ lw_gd := gd_in (List.mem_of_getElem? (i := 524) (by decide +kernel)) (by decide +kernel)
theorem wd_533 : Cond.code yX0_copyFrom cX0_copyFrom 3 none ∈ lw_gd := gd_in (List.mem_of_getElem? (i := 533) (by decide +kernel)) (by decide +kernel)
theorem wd_530 : Cond.methodLink RX4 99 yX0_copyFrom ∈ lw_gd := gd_in (List.mem_of_getElem? (i := 530) (by decide +kernel)) (by decide +kernel)
theorem wd_531 : Cond.instanceMethod yX0_copyFrom ∈ lw_gd := gd_in (List.mem_of_getElem? (i := 531) (by decide +kernel)) (by decide +kernel)
theorem wd_532 : Cond.selects RX0 yX0_copyFrom yX0_copyFrom ∈ lw_gd := gd_in (List.mem_of_getElem? (i := 532) (by decide +kernel)) (by decide +kernel)
theorem wd_545 : Cond.code yX0_ticksUntil cX0_ticksUntil 5 (some .int) ∈ lw_gd := gd_in (List.mem_of_getElem? (i := 545) (by decide +kernel)) (by decide +kernel)
theorem wd_542 : Cond.methodLink RX4 103 yX0_ticksUntil ∈ lw_gd := gd_in (List.mem_of_getElem? (i := 542) (by decide +kernel)) (by decide +kernel)
theorem wd_543 : Cond.instanceMethod yX0_ticksUntil ∈ lw_gd := gd_in (List.mem_of_getElem? (i := 543) (by decide +kernel)) (by decide +kernel)
theorem wd_544 : Cond.selects RX0 yX0_ticksUntil yX0_ticksUntil ∈ lw_gd := gd_in (List.mem_of_getElem? (i := 544) (by decide +kernel)) (by decide +kernel)
theorem wd_551 : Cond.methodLink RX4 107 yX0_lineAt ∈ lw_gd := gd_in (List.mem_of_getElem? (i := 551) (by decide +kernel)) (by decide +kernel)
theorem wd_555 : Cond.code yX0_tryCall cX0_tryCall 5 (some .int) ∈ lw_gd := gd_in (List.mem_of_getElem? (i := 555) (by decide +kernel)) (by decide +kernel)
theorem wd_552 : Cond.methodLink RX4 116 yX0_tryCall ∈ lw_gd := gd_in (List.mem_of_getElem? (i := 552) (by decide +kernel)) (by decide +kernel)
theorem wd_553 : Cond.instanceMethod yX0_tryCall ∈ lw_gd := gd_in (List.mem_of_getElem? (i := 553) (by decide +kernel)) (by decide +kernel)
theorem wd_554 : Cond.selects RX0 yX0_tryCall yX0_tryCall ∈ lw_gd := gd_in (List.mem_of_getElem? (i := 554) (by decide +kernel)) (by decide +kernel)
theorem wd_568 : Cond.code yX3_append cX3_append 5 (some .int) ∈ lw_gd := gd_in (List.mem_of_getElem? (i := 568) (by decide +kernel)) (by decide +kernel)
theorem wd_565 : Cond.methodLink RX4 119 yX3_append ∈ lw_gd := gd_in (List.mem_of_getElem? (i := 565) (by decide +kernel)) (by decide +kernel)
theorem wd_566 : Cond.instanceMethod yX3_append ∈ lw_gd := gd_in (List.mem_of_getElem? (i := 566) (by decide +kernel)) (by decide +kernel)
theorem wd_567 : Cond.selects RX3 yX3_append yX3_append ∈ lw_gd := gd_in (List.mem_of_getElem? (i := 567) (by decide +kernel)) (by decide +kernel)
theorem wd_588 : Cond.code yX3_firstFault cX3_firstFault 5 (some .int) ∈ lw_gd := gd_in (List.mem_of_getElem? (i := 588) (by decide +kernel)) (by decide +kernel)
theorem wd_585 : Cond.methodLink RX4 123 yX3_firstFault ∈ lw_gd := gd_in (List.mem_of_getElem? (i := 585) (by decide +kernel)) (by decide +kernel)
theorem wd_586 : Cond.instanceMethod yX3_firstFault ∈ lw_gd := gd_in (List.mem_of_getElem? (i := 586) (by decide +kernel)) (by decide +kernel)
theorem wd_587 : Cond.selects RX3 yX3_firstFault yX3_firstFault ∈ lw_gd := gd_in (List.mem_of_getElem? (i := 587) (by decide +kernel)) (by decide +kernel)
theorem wd_615 : Cond.code yX3_beginsAnAct cX3_beginsAnAct 2 (some .boolean) ∈ lw_gd := gd_in (List.mem_of_getElem? (i := 615) (by decide +kernel)) (by decide +kernel)
theorem wd_612 : Cond.methodLink RX4 127 yX3_beginsAnAct ∈ lw_gd := gd_in (List.mem_of_getElem? (i := 612) (by decide +kernel)) (by decide +kernel)
theorem wd_613 : Cond.instanceMethod yX3_beginsAnAct ∈ lw_gd := gd_in (List.mem_of_getElem? (i := 613) (by decide +kernel)) (by decide +kernel)
theorem wd_614 : Cond.selects RX3 yX3_beginsAnAct yX3_beginsAnAct ∈ lw_gd := gd_in (List.mem_of_getElem? (i := 614) (by decide +kernel)) (by decide +kernel)
theorem wd_619 : Cond.code yX4_succeeds cX4_succeeds 4 (some .boolean) ∈ lw_gd := gd_in (List.mem_of_getElem? (i := 619) (by decide +kernel)) (by decide +kernel)
theorem wd_616 : Cond.methodLink RX4 130 yX4_succeeds ∈ lw_gd := gd_in (List.mem_of_getElem? (i := 616) (by decide +kernel)) (by decide +kernel)
theorem wd_618 : Cond.instanceMethod yX4_succeeds ∈ lw_gd := gd_in (List.mem_of_getElem? (i := 618) (by decide +kernel)) (by decide +kernel)
theorem wd_23 : Cond.selects RX4 yX4_succeeds yX4_succeeds ∈ lw_gd := gd_in (List.mem_of_getElem? (i := 23) (by decide +kernel)) (by decide +kernel)
theorem wd_623 : Cond.code yX3_lineAt cX3_lineAt 2 (some .int) ∈ lw_gd := gd_in (List.mem_of_getElem? (i := 623) (by decide +kernel)) (by decide +kernel)
theorem wd_620 : Cond.methodLink RX4 133 yX3_lineAt ∈ lw_gd := gd_in (List.mem_of_getElem? (i := 620) (by decide +kernel)) (by decide +kernel)
theorem wd_621 : Cond.instanceMethod yX3_lineAt ∈ lw_gd := gd_in (List.mem_of_getElem? (i := 621) (by decide +kernel)) (by decide +kernel)
theorem wd_622 : Cond.selects RX3 yX3_lineAt yX3_lineAt ∈ lw_gd := gd_in (List.mem_of_getElem? (i := 622) (by decide +kernel)) (by decide +kernel)
theorem wd_624 : Cond.methodLink RX4 135 yX3_codeAt ∈ lw_gd := gd_in (List.mem_of_getElem? (i := 624) (by decide +kernel)) (by decide +kernel)
theorem wd_628 : Cond.code yX4_dialsAll cX4_dialsAll 4 (some .boolean) ∈ lw_gd := gd_in (List.mem_of_getElem? (i := 628) (by decide +kernel)) (by decide +kernel)
theorem wd_625 : Cond.methodLink RX4 138 yX4_dialsAll ∈ lw_gd := gd_in (List.mem_of_getElem? (i := 625) (by decide +kernel)) (by decide +kernel)
theorem wd_627 : Cond.instanceMethod yX4_dialsAll ∈ lw_gd := gd_in (List.mem_of_getElem? (i := 627) (by decide +kernel)) (by decide +kernel)
theorem wd_24 : Cond.selects RX4 yX4_dialsAll yX4_dialsAll ∈ lw_gd := gd_in (List.mem_of_getElem? (i := 24) (by decide +kernel)) (by decide +kernel)
theorem wd_633 : Cond.code yX3_numberAt cX3_numberAt 4 (some .int) ∈ lw_gd := gd_in (List.mem_of_getElem? (i := 633) (by decide +kernel)) (by decide +kernel)
theorem wd_630 : Cond.methodLink RX4 142 yX3_numberAt ∈ lw_gd := gd_in (List.mem_of_getElem? (i := 630) (by decide +kernel)) (by decide +kernel)
theorem wd_631 : Cond.instanceMethod yX3_numberAt ∈ lw_gd := gd_in (List.mem_of_getElem? (i := 631) (by decide +kernel)) (by decide +kernel)
theorem wd_632 : Cond.selects RX3 yX3_numberAt yX3_numberAt ∈ lw_gd := gd_in (List.mem_of_getElem? (i := 632) (by decide +kernel)) (by decide +kernel)
theorem wd_654 : Cond.code yX5_in cX5_in 3 (some .boolean) ∈ lw_gd := gd_in (List.mem_of_getElem? (i := 654) (by decide +kernel)) (by decide +kernel)
theorem wd_652 : Cond.methodLink RX5 33 yX5_in ∈ lw_gd := gd_in (List.mem_of_getElem? (i := 652) (by decide +kernel)) (by decide +kernel)
theorem wd_653 : Cond.static yX5_in ∈ lw_gd := gd_in (List.mem_of_getElem? (i := 653) (by decide +kernel)) (by decide +kernel)
theorem wd_709 : Cond.code yX5_takes cX5_takes 2 (some .boolean) ∈ lw_gd := gd_in (List.mem_of_getElem? (i := 709) (by decide +kernel)) (by decide +kernel)
theorem wd_707 : Cond.methodLink RX5 49 yX5_takes ∈ lw_gd := gd_in (List.mem_of_getElem? (i := 707) (by decide +kernel)) (by decide +kernel)
theorem wd_708 : Cond.static yX5_takes ∈ lw_gd := gd_in (List.mem_of_getElem? (i := 708) (by decide +kernel)) (by decide +kernel)
theorem wd_720 : Cond.code yX5_isLine cX5_isLine 1 (some .boolean) ∈ lw_gd := gd_in (List.mem_of_getElem? (i := 720) (by decide +kernel)) (by decide +kernel)
theorem wd_718 : Cond.methodLink RX5 64 yX5_isLine ∈ lw_gd := gd_in (List.mem_of_getElem? (i := 718) (by decide +kernel)) (by decide +kernel)
theorem wd_719 : Cond.static yX5_isLine ∈ lw_gd := gd_in (List.mem_of_getElem? (i := 719) (by decide +kernel)) (by decide +kernel)
theorem wd_909 : Cond.code yX5_isEnd cX5_isEnd 1 (some .boolean) ∈ lw_gd := gd_in (List.mem_of_getElem? (i := 909) (by decide +kernel)) (by decide +kernel)
theorem wd_907 : Cond.methodLink RX5 178 yX5_isEnd ∈ lw_gd := gd_in (List.mem_of_getElem? (i := 907) (by decide +kernel)) (by decide +kernel)
theorem wd_908 : Cond.static yX5_isEnd ∈ lw_gd := gd_in (List.mem_of_getElem? (i := 908) (by decide +kernel)) (by decide +kernel)
theorem wd_942 : Cond.code yX5_lineBy cX5_lineBy 1 (some .int) ∈ lw_gd := gd_in (List.mem_of_getElem? (i := 942) (by decide +kernel)) (by decide +kernel)
theorem wd_940 : Cond.methodLink RX5 193 yX5_lineBy ∈ lw_gd := gd_in (List.mem_of_getElem? (i := 940) (by decide +kernel)) (by decide +kernel)
theorem wd_941 : Cond.static yX5_lineBy ∈ lw_gd := gd_in (List.mem_of_getElem? (i := 941) (by decide +kernel)) (by decide +kernel)
theorem wd_651 : Cond.code yX5_begin cX5_begin 4 none ∈ lw_gd := gd_in (List.mem_of_getElem? (i := 651) (by decide +kernel)) (by decide +kernel)
theorem wd_648 : Cond.methodLink RX5 29 yX5_begin ∈ lw_gd := gd_in (List.mem_of_getElem? (i := 648) (by decide +kernel)) (by decide +kernel)
theorem wd_650 : Cond.instanceMethod yX5_begin ∈ lw_gd := gd_in (List.mem_of_getElem? (i := 650) (by decide +kernel)) (by decide +kernel)
theorem wd_25 : Cond.selects RX5 yX5_begin yX5_begin ∈ lw_gd := gd_in (List.mem_of_getElem? (i := 25) (by decide +kernel)) (by decide +kernel)
theorem wd_658 : Cond.code yX5_free cX5_free 4 none ∈ lw_gd := gd_in (List.mem_of_getElem? (i := 658) (by decide +kernel)) (by decide +kernel)
theorem wd_655 : Cond.methodLink RX5 37 yX5_free ∈ lw_gd := gd_in (List.mem_of_getElem? (i := 655) (by decide +kernel)) (by decide +kernel)
theorem wd_657 : Cond.instanceMethod yX5_free ∈ lw_gd := gd_in (List.mem_of_getElem? (i := 657) (by decide +kernel)) (by decide +kernel)
theorem wd_26 : Cond.selects RX5 yX5_free yX5_free ∈ lw_gd := gd_in (List.mem_of_getElem? (i := 26) (by decide +kernel)) (by decide +kernel)
theorem wd_662 : Cond.code yX5_ofFinder cX5_ofFinder 3 (some .int) ∈ lw_gd := gd_in (List.mem_of_getElem? (i := 662) (by decide +kernel)) (by decide +kernel)
theorem wd_659 : Cond.methodLink RX5 41 yX5_ofFinder ∈ lw_gd := gd_in (List.mem_of_getElem? (i := 659) (by decide +kernel)) (by decide +kernel)
theorem wd_661 : Cond.instanceMethod yX5_ofFinder ∈ lw_gd := gd_in (List.mem_of_getElem? (i := 661) (by decide +kernel)) (by decide +kernel)
theorem wd_27 : Cond.selects RX5 yX5_ofFinder yX5_ofFinder ∈ lw_gd := gd_in (List.mem_of_getElem? (i := 27) (by decide +kernel)) (by decide +kernel)
theorem wd_666 : Cond.code yX5_layFinder cX5_layFinder 4 none ∈ lw_gd := gd_in (List.mem_of_getElem? (i := 666) (by decide +kernel)) (by decide +kernel)
theorem wd_663 : Cond.methodLink RX5 45 yX5_layFinder ∈ lw_gd := gd_in (List.mem_of_getElem? (i := 663) (by decide +kernel)) (by decide +kernel)
theorem wd_665 : Cond.instanceMethod yX5_layFinder ∈ lw_gd := gd_in (List.mem_of_getElem? (i := 665) (by decide +kernel)) (by decide +kernel)
theorem wd_28 : Cond.selects RX5 yX5_layFinder yX5_layFinder ∈ lw_gd := gd_in (List.mem_of_getElem? (i := 28) (by decide +kernel)) (by decide +kernel)
theorem wd_713 : Cond.code yX5_setting cX5_setting 2 (some .int) ∈ lw_gd := gd_in (List.mem_of_getElem? (i := 713) (by decide +kernel)) (by decide +kernel)
theorem wd_710 : Cond.methodLink RX5 53 yX5_setting ∈ lw_gd := gd_in (List.mem_of_getElem? (i := 710) (by decide +kernel)) (by decide +kernel)
theorem wd_712 : Cond.instanceMethod yX5_setting ∈ lw_gd := gd_in (List.mem_of_getElem? (i := 712) (by decide +kernel)) (by decide +kernel)
theorem wd_29 : Cond.selects RX5 yX5_setting yX5_setting ∈ lw_gd := gd_in (List.mem_of_getElem? (i := 29) (by decide +kernel)) (by decide +kernel)
theorem wd_805 : Cond.code yX5_isHolding cX5_isHolding 2 (some .boolean) ∈ lw_gd := gd_in (List.mem_of_getElem? (i := 805) (by decide +kernel)) (by decide +kernel)
theorem wd_802 : Cond.methodLink RX5 57 yX5_isHolding ∈ lw_gd := gd_in (List.mem_of_getElem? (i := 802) (by decide +kernel)) (by decide +kernel)
theorem wd_804 : Cond.instanceMethod yX5_isHolding ∈ lw_gd := gd_in (List.mem_of_getElem? (i := 804) (by decide +kernel)) (by decide +kernel)
theorem wd_47 : Cond.selects RX5 yX5_isHolding yX5_isHolding ∈ lw_gd := gd_in (List.mem_of_getElem? (i := 47) (by decide +kernel)) (by decide +kernel)
theorem wd_728 : Cond.code yX5_lay cX5_lay 4 none ∈ lw_gd := gd_in (List.mem_of_getElem? (i := 728) (by decide +kernel)) (by decide +kernel)
theorem wd_725 : Cond.methodLink RX5 61 yX5_lay ∈ lw_gd := gd_in (List.mem_of_getElem? (i := 725) (by decide +kernel)) (by decide +kernel)
theorem wd_727 : Cond.instanceMethod yX5_lay ∈ lw_gd := gd_in (List.mem_of_getElem? (i := 727) (by decide +kernel)) (by decide +kernel)
theorem wd_31 : Cond.selects RX5 yX5_lay yX5_lay ∈ lw_gd := gd_in (List.mem_of_getElem? (i := 31) (by decide +kernel)) (by decide +kernel)
theorem wd_724 : Cond.code yX5_of cX5_of 3 (some .int) ∈ lw_gd := gd_in (List.mem_of_getElem? (i := 724) (by decide +kernel)) (by decide +kernel)
theorem wd_721 : Cond.methodLink RX5 67 yX5_of ∈ lw_gd := gd_in (List.mem_of_getElem? (i := 721) (by decide +kernel)) (by decide +kernel)
theorem wd_723 : Cond.instanceMethod yX5_of ∈ lw_gd := gd_in (List.mem_of_getElem? (i := 723) (by decide +kernel)) (by decide +kernel)
theorem wd_30 : Cond.selects RX5 yX5_of yX5_of ∈ lw_gd := gd_in (List.mem_of_getElem? (i := 30) (by decide +kernel)) (by decide +kernel)
theorem wd_732 : Cond.code yX5_countOne cX5_countOne 2 none ∈ lw_gd := gd_in (List.mem_of_getElem? (i := 732) (by decide +kernel)) (by decide +kernel)
theorem wd_729 : Cond.methodLink RX5 70 yX5_countOne ∈ lw_gd := gd_in (List.mem_of_getElem? (i := 729) (by decide +kernel)) (by decide +kernel)
theorem wd_731 : Cond.instanceMethod yX5_countOne ∈ lw_gd := gd_in (List.mem_of_getElem? (i := 731) (by decide +kernel)) (by decide +kernel)
theorem wd_32 : Cond.selects RX5 yX5_countOne yX5_countOne ∈ lw_gd := gd_in (List.mem_of_getElem? (i := 32) (by decide +kernel)) (by decide +kernel)
theorem wd_744 : Cond.code yX5_finderOf cX5_finderOf 3 (some .int) ∈ lw_gd := gd_in (List.mem_of_getElem? (i := 744) (by decide +kernel)) (by decide +kernel)
theorem wd_741 : Cond.methodLink RX5 73 yX5_finderOf ∈ lw_gd := gd_in (List.mem_of_getElem? (i := 741) (by decide +kernel)) (by decide +kernel)
theorem wd_743 : Cond.instanceMethod yX5_finderOf ∈ lw_gd := gd_in (List.mem_of_getElem? (i := 743) (by decide +kernel)) (by decide +kernel)
theorem wd_34 : Cond.selects RX5 yX5_finderOf yX5_finderOf ∈ lw_gd := gd_in (List.mem_of_getElem? (i := 34) (by decide +kernel)) (by decide +kernel)
theorem wd_748 : Cond.code yX5_park cX5_park 2 none ∈ lw_gd := gd_in (List.mem_of_getElem? (i := 748) (by decide +kernel)) (by decide +kernel)
theorem wd_745 : Cond.methodLink RX5 76 yX5_park ∈ lw_gd := gd_in (List.mem_of_getElem? (i := 745) (by decide +kernel)) (by decide +kernel)
theorem wd_747 : Cond.instanceMethod yX5_park ∈ lw_gd := gd_in (List.mem_of_getElem? (i := 747) (by decide +kernel)) (by decide +kernel)
theorem wd_35 : Cond.selects RX5 yX5_park yX5_park ∈ lw_gd := gd_in (List.mem_of_getElem? (i := 35) (by decide +kernel)) (by decide +kernel)
theorem wd_740 : Cond.code yX5_dropCall cX5_dropCall 4 none ∈ lw_gd := gd_in (List.mem_of_getElem? (i := 740) (by decide +kernel)) (by decide +kernel)
theorem wd_737 : Cond.methodLink RX5 79 yX5_dropCall ∈ lw_gd := gd_in (List.mem_of_getElem? (i := 737) (by decide +kernel)) (by decide +kernel)
theorem wd_739 : Cond.instanceMethod yX5_dropCall ∈ lw_gd := gd_in (List.mem_of_getElem? (i := 739) (by decide +kernel)) (by decide +kernel)
theorem wd_33 : Cond.selects RX5 yX5_dropCall yX5_dropCall ∈ lw_gd := gd_in (List.mem_of_getElem? (i := 33) (by decide +kernel)) (by decide +kernel)
theorem wd_777 : Cond.code yX5_takeDigit cX5_takeDigit 5 (some .int) ∈ lw_gd := gd_in (List.mem_of_getElem? (i := 777) (by decide +kernel)) (by decide +kernel)
theorem wd_774 : Cond.methodLink RX5 82 yX5_takeDigit ∈ lw_gd := gd_in (List.mem_of_getElem? (i := 774) (by decide +kernel)) (by decide +kernel)
theorem wd_776 : Cond.instanceMethod yX5_takeDigit ∈ lw_gd := gd_in (List.mem_of_getElem? (i := 776) (by decide +kernel)) (by decide +kernel)
theorem wd_40 : Cond.selects RX5 yX5_takeDigit yX5_takeDigit ∈ lw_gd := gd_in (List.mem_of_getElem? (i := 40) (by decide +kernel)) (by decide +kernel)
theorem wd_781 : Cond.code yX5_reaches cX5_reaches 4 (some .boolean) ∈ lw_gd := gd_in (List.mem_of_getElem? (i := 781) (by decide +kernel)) (by decide +kernel)
theorem wd_778 : Cond.methodLink RX5 85 yX5_reaches ∈ lw_gd := gd_in (List.mem_of_getElem? (i := 778) (by decide +kernel)) (by decide +kernel)
theorem wd_780 : Cond.instanceMethod yX5_reaches ∈ lw_gd := gd_in (List.mem_of_getElem? (i := 780) (by decide +kernel)) (by decide +kernel)
theorem wd_41 : Cond.selects RX5 yX5_reaches yX5_reaches ∈ lw_gd := gd_in (List.mem_of_getElem? (i := 41) (by decide +kernel)) (by decide +kernel)
theorem wd_785 : Cond.code yX5_giveUp cX5_giveUp 3 none ∈ lw_gd := gd_in (List.mem_of_getElem? (i := 785) (by decide +kernel)) (by decide +kernel)
theorem wd_782 : Cond.methodLink RX5 88 yX5_giveUp ∈ lw_gd := gd_in (List.mem_of_getElem? (i := 782) (by decide +kernel)) (by decide +kernel)
theorem wd_784 : Cond.instanceMethod yX5_giveUp ∈ lw_gd := gd_in (List.mem_of_getElem? (i := 784) (by decide +kernel)) (by decide +kernel)
theorem wd_42 : Cond.selects RX5 yX5_giveUp yX5_giveUp ∈ lw_gd := gd_in (List.mem_of_getElem? (i := 42) (by decide +kernel)) (by decide +kernel)
theorem wd_793 : Cond.code yX5_sound cX5_sound 5 none ∈ lw_gd := gd_in (List.mem_of_getElem? (i := 793) (by decide +kernel)) (by decide +kernel)
theorem wd_790 : Cond.methodLink RX5 91 yX5_sound ∈ lw_gd := gd_in (List.mem_of_getElem? (i := 790) (by decide +kernel)) (by decide +kernel)
theorem wd_792 : Cond.instanceMethod yX5_sound ∈ lw_gd := gd_in (List.mem_of_getElem? (i := 792) (by decide +kernel)) (by decide +kernel)
theorem wd_44 : Cond.selects RX5 yX5_sound yX5_sound ∈ lw_gd := gd_in (List.mem_of_getElem? (i := 44) (by decide +kernel)) (by decide +kernel)
theorem wd_801 : Cond.code yX5_holder cX5_holder 4 (some .int) ∈ lw_gd := gd_in (List.mem_of_getElem? (i := 801) (by decide +kernel)) (by decide +kernel)
theorem wd_798 : Cond.methodLink RX5 94 yX5_holder ∈ lw_gd := gd_in (List.mem_of_getElem? (i := 798) (by decide +kernel)) (by decide +kernel)
theorem wd_800 : Cond.instanceMethod yX5_holder ∈ lw_gd := gd_in (List.mem_of_getElem? (i := 800) (by decide +kernel)) (by decide +kernel)
theorem wd_46 : Cond.selects RX5 yX5_holder yX5_holder ∈ lw_gd := gd_in (List.mem_of_getElem? (i := 46) (by decide +kernel)) (by decide +kernel)
theorem wd_813 : Cond.code yX5_test cX5_test 3 none ∈ lw_gd := gd_in (List.mem_of_getElem? (i := 813) (by decide +kernel)) (by decide +kernel)
theorem wd_810 : Cond.methodLink RX5 97 yX5_test ∈ lw_gd := gd_in (List.mem_of_getElem? (i := 810) (by decide +kernel)) (by decide +kernel)
theorem wd_812 : Cond.instanceMethod yX5_test ∈ lw_gd := gd_in (List.mem_of_getElem? (i := 812) (by decide +kernel)) (by decide +kernel)
theorem wd_49 : Cond.selects RX5 yX5_test yX5_test ∈ lw_gd := gd_in (List.mem_of_getElem? (i := 49) (by decide +kernel)) (by decide +kernel)
theorem wd_821 : Cond.code yX5_meter cX5_meter 2 none ∈ lw_gd := gd_in (List.mem_of_getElem? (i := 821) (by decide +kernel)) (by decide +kernel)
theorem wd_818 : Cond.methodLink RX5 100 yX5_meter ∈ lw_gd := gd_in (List.mem_of_getElem? (i := 818) (by decide +kernel)) (by decide +kernel)
theorem wd_820 : Cond.instanceMethod yX5_meter ∈ lw_gd := gd_in (List.mem_of_getElem? (i := 820) (by decide +kernel)) (by decide +kernel)
theorem wd_51 : Cond.selects RX5 yX5_meter yX5_meter ∈ lw_gd := gd_in (List.mem_of_getElem? (i := 51) (by decide +kernel)) (by decide +kernel)
theorem wd_769 : Cond.code yX5_seek cX5_seek 3 none ∈ lw_gd := gd_in (List.mem_of_getElem? (i := 769) (by decide +kernel)) (by decide +kernel)
theorem wd_766 : Cond.methodLink RX5 103 yX5_seek ∈ lw_gd := gd_in (List.mem_of_getElem? (i := 766) (by decide +kernel)) (by decide +kernel)
theorem wd_768 : Cond.instanceMethod yX5_seek ∈ lw_gd := gd_in (List.mem_of_getElem? (i := 768) (by decide +kernel)) (by decide +kernel)
theorem wd_38 : Cond.selects RX5 yX5_seek yX5_seek ∈ lw_gd := gd_in (List.mem_of_getElem? (i := 38) (by decide +kernel)) (by decide +kernel)
theorem wd_773 : Cond.code yX5_waitForDigit cX5_waitForDigit 4 none ∈ lw_gd := gd_in (List.mem_of_getElem? (i := 773) (by decide +kernel)) (by decide +kernel)
theorem wd_770 : Cond.methodLink RX5 106 yX5_waitForDigit ∈ lw_gd := gd_in (List.mem_of_getElem? (i := 770) (by decide +kernel)) (by decide +kernel)
theorem wd_772 : Cond.instanceMethod yX5_waitForDigit ∈ lw_gd := gd_in (List.mem_of_getElem? (i := 772) (by decide +kernel)) (by decide +kernel)
theorem wd_39 : Cond.selects RX5 yX5_waitForDigit yX5_waitForDigit ∈ lw_gd := gd_in (List.mem_of_getElem? (i := 39) (by decide +kernel)) (by decide +kernel)
theorem wd_789 : Cond.code yX5_rise cX5_rise 2 none ∈ lw_gd := gd_in (List.mem_of_getElem? (i := 789) (by decide +kernel)) (by decide +kernel)
theorem wd_786 : Cond.methodLink RX5 109 yX5_rise ∈ lw_gd := gd_in (List.mem_of_getElem? (i := 786) (by decide +kernel)) (by decide +kernel)
theorem wd_788 : Cond.instanceMethod yX5_rise ∈ lw_gd := gd_in (List.mem_of_getElem? (i := 788) (by decide +kernel)) (by decide +kernel)
theorem wd_43 : Cond.selects RX5 yX5_rise yX5_rise ∈ lw_gd := gd_in (List.mem_of_getElem? (i := 43) (by decide +kernel)) (by decide +kernel)
theorem wd_797 : Cond.code yX5_hunt cX5_hunt 3 none ∈ lw_gd := gd_in (List.mem_of_getElem? (i := 797) (by decide +kernel)) (by decide +kernel)
theorem wd_794 : Cond.methodLink RX5 112 yX5_hunt ∈ lw_gd := gd_in (List.mem_of_getElem? (i := 794) (by decide +kernel)) (by decide +kernel)
theorem wd_796 : Cond.instanceMethod yX5_hunt ∈ lw_gd := gd_in (List.mem_of_getElem? (i := 796) (by decide +kernel)) (by decide +kernel)
theorem wd_45 : Cond.selects RX5 yX5_hunt yX5_hunt ∈ lw_gd := gd_in (List.mem_of_getElem? (i := 45) (by decide +kernel)) (by decide +kernel)
theorem wd_809 : Cond.code yX5_step cX5_step 2 none ∈ lw_gd := gd_in (List.mem_of_getElem? (i := 809) (by decide +kernel)) (by decide +kernel)
theorem wd_806 : Cond.methodLink RX5 115 yX5_step ∈ lw_gd := gd_in (List.mem_of_getElem? (i := 806) (by decide +kernel)) (by decide +kernel)
theorem wd_808 : Cond.instanceMethod yX5_step ∈ lw_gd := gd_in (List.mem_of_getElem? (i := 808) (by decide +kernel)) (by decide +kernel)
theorem wd_48 : Cond.selects RX5 yX5_step yX5_step ∈ lw_gd := gd_in (List.mem_of_getElem? (i := 48) (by decide +kernel)) (by decide +kernel)
theorem wd_817 : Cond.code yX5_ring cX5_ring 4 none ∈ lw_gd := gd_in (List.mem_of_getElem? (i := 817) (by decide +kernel)) (by decide +kernel)
theorem wd_814 : Cond.methodLink RX5 118 yX5_ring ∈ lw_gd := gd_in (List.mem_of_getElem? (i := 814) (by decide +kernel)) (by decide +kernel)
theorem wd_816 : Cond.instanceMethod yX5_ring ∈ lw_gd := gd_in (List.mem_of_getElem? (i := 816) (by decide +kernel)) (by decide +kernel)
theorem wd_50 : Cond.selects RX5 yX5_ring yX5_ring ∈ lw_gd := gd_in (List.mem_of_getElem? (i := 50) (by decide +kernel)) (by decide +kernel)
theorem wd_825 : Cond.code yX5_talk cX5_talk 4 none ∈ lw_gd := gd_in (List.mem_of_getElem? (i := 825) (by decide +kernel)) (by decide +kernel)
theorem wd_822 : Cond.methodLink RX5 121 yX5_talk ∈ lw_gd := gd_in (List.mem_of_getElem? (i := 822) (by decide +kernel)) (by decide +kernel)
theorem wd_824 : Cond.instanceMethod yX5_talk ∈ lw_gd := gd_in (List.mem_of_getElem? (i := 824) (by decide +kernel)) (by decide +kernel)
theorem wd_52 : Cond.selects RX5 yX5_talk yX5_talk ∈ lw_gd := gd_in (List.mem_of_getElem? (i := 52) (by decide +kernel)) (by decide +kernel)
theorem wd_829 : Cond.code yX5_soundOn cX5_soundOn 3 none ∈ lw_gd := gd_in (List.mem_of_getElem? (i := 829) (by decide +kernel)) (by decide +kernel)
theorem wd_826 : Cond.methodLink RX5 124 yX5_soundOn ∈ lw_gd := gd_in (List.mem_of_getElem? (i := 826) (by decide +kernel)) (by decide +kernel)
theorem wd_828 : Cond.instanceMethod yX5_soundOn ∈ lw_gd := gd_in (List.mem_of_getElem? (i := 828) (by decide +kernel)) (by decide +kernel)
theorem wd_53 : Cond.selects RX5 yX5_soundOn yX5_soundOn ∈ lw_gd := gd_in (List.mem_of_getElem? (i := 53) (by decide +kernel)) (by decide +kernel)
theorem wd_837 : Cond.code yX5_isQueued cX5_isQueued 2 (some .boolean) ∈ lw_gd := gd_in (List.mem_of_getElem? (i := 837) (by decide +kernel)) (by decide +kernel)
theorem wd_834 : Cond.methodLink RX5 127 yX5_isQueued ∈ lw_gd := gd_in (List.mem_of_getElem? (i := 834) (by decide +kernel)) (by decide +kernel)
theorem wd_836 : Cond.instanceMethod yX5_isQueued ∈ lw_gd := gd_in (List.mem_of_getElem? (i := 836) (by decide +kernel)) (by decide +kernel)
theorem wd_55 : Cond.selects RX5 yX5_isQueued yX5_isQueued ∈ lw_gd := gd_in (List.mem_of_getElem? (i := 55) (by decide +kernel)) (by decide +kernel)
theorem wd_765 : Cond.code yX5_stepFinder cX5_stepFinder 2 none ∈ lw_gd := gd_in (List.mem_of_getElem? (i := 765) (by decide +kernel)) (by decide +kernel)
theorem wd_762 : Cond.methodLink RX5 130 yX5_stepFinder ∈ lw_gd := gd_in (List.mem_of_getElem? (i := 762) (by decide +kernel)) (by decide +kernel)
theorem wd_764 : Cond.instanceMethod yX5_stepFinder ∈ lw_gd := gd_in (List.mem_of_getElem? (i := 764) (by decide +kernel)) (by decide +kernel)
theorem wd_37 : Cond.selects RX5 yX5_stepFinder yX5_stepFinder ∈ lw_gd := gd_in (List.mem_of_getElem? (i := 37) (by decide +kernel)) (by decide +kernel)
theorem wd_833 : Cond.code yX5_allot cX5_allot 6 none ∈ lw_gd := gd_in (List.mem_of_getElem? (i := 833) (by decide +kernel)) (by decide +kernel)
theorem wd_830 : Cond.methodLink RX5 133 yX5_allot ∈ lw_gd := gd_in (List.mem_of_getElem? (i := 830) (by decide +kernel)) (by decide +kernel)
theorem wd_832 : Cond.instanceMethod yX5_allot ∈ lw_gd := gd_in (List.mem_of_getElem? (i := 832) (by decide +kernel)) (by decide +kernel)
theorem wd_54 : Cond.selects RX5 yX5_allot yX5_allot ∈ lw_gd := gd_in (List.mem_of_getElem? (i := 54) (by decide +kernel)) (by decide +kernel)
theorem wd_761 : Cond.code yX5_makeTick cX5_makeTick 2 none ∈ lw_gd := gd_in (List.mem_of_getElem? (i := 761) (by decide +kernel)) (by decide +kernel)
theorem wd_758 : Cond.methodLink RX5 137 yX5_makeTick ∈ lw_gd := gd_in (List.mem_of_getElem? (i := 758) (by decide +kernel)) (by decide +kernel)
theorem wd_760 : Cond.instanceMethod yX5_makeTick ∈ lw_gd := gd_in (List.mem_of_getElem? (i := 760) (by decide +kernel)) (by decide +kernel)
theorem wd_36 : Cond.selects RX5 yX5_makeTick yX5_makeTick ∈ lw_gd := gd_in (List.mem_of_getElem? (i := 36) (by decide +kernel)) (by decide +kernel)
theorem wd_849 : Cond.code yX5_finderTo cX5_finderTo 3 (some .int) ∈ lw_gd := gd_in (List.mem_of_getElem? (i := 849) (by decide +kernel)) (by decide +kernel)
theorem wd_846 : Cond.methodLink RX5 140 yX5_finderTo ∈ lw_gd := gd_in (List.mem_of_getElem? (i := 846) (by decide +kernel)) (by decide +kernel)
theorem wd_848 : Cond.instanceMethod yX5_finderTo ∈ lw_gd := gd_in (List.mem_of_getElem? (i := 848) (by decide +kernel)) (by decide +kernel)
theorem wd_57 : Cond.selects RX5 yX5_finderTo yX5_finderTo ∈ lw_gd := gd_in (List.mem_of_getElem? (i := 57) (by decide +kernel)) (by decide +kernel)
theorem wd_845 : Cond.code yX5_pathOf cX5_pathOf 2 (some .int) ∈ lw_gd := gd_in (List.mem_of_getElem? (i := 845) (by decide +kernel)) (by decide +kernel)
theorem wd_842 : Cond.methodLink RX5 143 yX5_pathOf ∈ lw_gd := gd_in (List.mem_of_getElem? (i := 842) (by decide +kernel)) (by decide +kernel)
theorem wd_844 : Cond.instanceMethod yX5_pathOf ∈ lw_gd := gd_in (List.mem_of_getElem? (i := 844) (by decide +kernel)) (by decide +kernel)
theorem wd_56 : Cond.selects RX5 yX5_pathOf yX5_pathOf ∈ lw_gd := gd_in (List.mem_of_getElem? (i := 56) (by decide +kernel)) (by decide +kernel)
theorem wd_853 : Cond.code yX5_otherOf cX5_otherOf 3 (some .int) ∈ lw_gd := gd_in (List.mem_of_getElem? (i := 853) (by decide +kernel)) (by decide +kernel)
theorem wd_850 : Cond.methodLink RX5 146 yX5_otherOf ∈ lw_gd := gd_in (List.mem_of_getElem? (i := 850) (by decide +kernel)) (by decide +kernel)
theorem wd_852 : Cond.instanceMethod yX5_otherOf ∈ lw_gd := gd_in (List.mem_of_getElem? (i := 852) (by decide +kernel)) (by decide +kernel)
theorem wd_58 : Cond.selects RX5 yX5_otherOf yX5_otherOf ∈ lw_gd := gd_in (List.mem_of_getElem? (i := 58) (by decide +kernel)) (by decide +kernel)
theorem wd_857 : Cond.code yX5_placeOf cX5_placeOf 4 (some .int) ∈ lw_gd := gd_in (List.mem_of_getElem? (i := 857) (by decide +kernel)) (by decide +kernel)
theorem wd_854 : Cond.methodLink RX5 149 yX5_placeOf ∈ lw_gd := gd_in (List.mem_of_getElem? (i := 854) (by decide +kernel)) (by decide +kernel)
theorem wd_856 : Cond.instanceMethod yX5_placeOf ∈ lw_gd := gd_in (List.mem_of_getElem? (i := 856) (by decide +kernel)) (by decide +kernel)
theorem wd_59 : Cond.selects RX5 yX5_placeOf yX5_placeOf ∈ lw_gd := gd_in (List.mem_of_getElem? (i := 59) (by decide +kernel)) (by decide +kernel)
theorem wd_865 : Cond.code yX5_isFinder cX5_isFinder 2 (some .boolean) ∈ lw_gd := gd_in (List.mem_of_getElem? (i := 865) (by decide +kernel)) (by decide +kernel)
theorem wd_862 : Cond.methodLink RX5 152 yX5_isFinder ∈ lw_gd := gd_in (List.mem_of_getElem? (i := 862) (by decide +kernel)) (by decide +kernel)
theorem wd_864 : Cond.instanceMethod yX5_isFinder ∈ lw_gd := gd_in (List.mem_of_getElem? (i := 864) (by decide +kernel)) (by decide +kernel)
theorem wd_60 : Cond.selects RX5 yX5_isFinder yX5_isFinder ∈ lw_gd := gd_in (List.mem_of_getElem? (i := 60) (by decide +kernel)) (by decide +kernel)
theorem wd_869 : Cond.code yX5_showsTimer cX5_showsTimer 2 (some .boolean) ∈ lw_gd := gd_in (List.mem_of_getElem? (i := 869) (by decide +kernel)) (by decide +kernel)
theorem wd_866 : Cond.methodLink RX5 155 yX5_showsTimer ∈ lw_gd := gd_in (List.mem_of_getElem? (i := 866) (by decide +kernel)) (by decide +kernel)
theorem wd_868 : Cond.instanceMethod yX5_showsTimer ∈ lw_gd := gd_in (List.mem_of_getElem? (i := 868) (by decide +kernel)) (by decide +kernel)
theorem wd_61 : Cond.selects RX5 yX5_showsTimer yX5_showsTimer ∈ lw_gd := gd_in (List.mem_of_getElem? (i := 61) (by decide +kernel)) (by decide +kernel)
theorem wd_881 : Cond.code yX5_finders cX5_finders 4 (some .int) ∈ lw_gd := gd_in (List.mem_of_getElem? (i := 881) (by decide +kernel)) (by decide +kernel)
theorem wd_878 : Cond.methodLink RX5 158 yX5_finders ∈ lw_gd := gd_in (List.mem_of_getElem? (i := 878) (by decide +kernel)) (by decide +kernel)
theorem wd_880 : Cond.instanceMethod yX5_finders ∈ lw_gd := gd_in (List.mem_of_getElem? (i := 880) (by decide +kernel)) (by decide +kernel)
theorem wd_62 : Cond.selects RX5 yX5_finders yX5_finders ∈ lw_gd := gd_in (List.mem_of_getElem? (i := 62) (by decide +kernel)) (by decide +kernel)
theorem wd_885 : Cond.code yX5_sumOf cX5_sumOf 4 (some .int) ∈ lw_gd := gd_in (List.mem_of_getElem? (i := 885) (by decide +kernel)) (by decide +kernel)
theorem wd_882 : Cond.methodLink RX5 162 yX5_sumOf ∈ lw_gd := gd_in (List.mem_of_getElem? (i := 882) (by decide +kernel)) (by decide +kernel)
theorem wd_884 : Cond.instanceMethod yX5_sumOf ∈ lw_gd := gd_in (List.mem_of_getElem? (i := 884) (by decide +kernel)) (by decide +kernel)
theorem wd_63 : Cond.selects RX5 yX5_sumOf yX5_sumOf ∈ lw_gd := gd_in (List.mem_of_getElem? (i := 63) (by decide +kernel)) (by decide +kernel)
theorem wd_897 : Cond.code yX5_putAside cX5_putAside 2 none ∈ lw_gd := gd_in (List.mem_of_getElem? (i := 897) (by decide +kernel)) (by decide +kernel)
theorem wd_894 : Cond.methodLink RX5 169 yX5_putAside ∈ lw_gd := gd_in (List.mem_of_getElem? (i := 894) (by decide +kernel)) (by decide +kernel)
theorem wd_896 : Cond.instanceMethod yX5_putAside ∈ lw_gd := gd_in (List.mem_of_getElem? (i := 896) (by decide +kernel)) (by decide +kernel)
theorem wd_64 : Cond.selects RX5 yX5_putAside yX5_putAside ∈ lw_gd := gd_in (List.mem_of_getElem? (i := 64) (by decide +kernel)) (by decide +kernel)
theorem wd_901 : Cond.code yX5_putBack cX5_putBack 2 none ∈ lw_gd := gd_in (List.mem_of_getElem? (i := 901) (by decide +kernel)) (by decide +kernel)
theorem wd_898 : Cond.methodLink RX5 172 yX5_putBack ∈ lw_gd := gd_in (List.mem_of_getElem? (i := 898) (by decide +kernel)) (by decide +kernel)
theorem wd_900 : Cond.instanceMethod yX5_putBack ∈ lw_gd := gd_in (List.mem_of_getElem? (i := 900) (by decide +kernel)) (by decide +kernel)
theorem wd_65 : Cond.selects RX5 yX5_putBack yX5_putBack ∈ lw_gd := gd_in (List.mem_of_getElem? (i := 65) (by decide +kernel)) (by decide +kernel)
theorem wd_906 : Cond.methodLink RX5 175 yX5_lift ∈ lw_gd := gd_in (List.mem_of_getElem? (i := 906) (by decide +kernel)) (by decide +kernel)
theorem wd_910 : Cond.methodLink RX5 181 yX5_dial ∈ lw_gd := gd_in (List.mem_of_getElem? (i := 910) (by decide +kernel)) (by decide +kernel)
theorem wd_931 : Cond.code yX5_next cX5_next 1 (some .int) ∈ lw_gd := gd_in (List.mem_of_getElem? (i := 931) (by decide +kernel)) (by decide +kernel)
theorem wd_928 : Cond.methodLink RX5 189 yX5_next ∈ lw_gd := gd_in (List.mem_of_getElem? (i := 928) (by decide +kernel)) (by decide +kernel)
theorem wd_930 : Cond.instanceMethod yX5_next ∈ lw_gd := gd_in (List.mem_of_getElem? (i := 930) (by decide +kernel)) (by decide +kernel)
theorem wd_67 : Cond.selects RX5 yX5_next yX5_next ∈ lw_gd := gd_in (List.mem_of_getElem? (i := 67) (by decide +kernel)) (by decide +kernel)
theorem wd_935 : Cond.code yX5_readNumber cX5_readNumber 2 (some .int) ∈ lw_gd := gd_in (List.mem_of_getElem? (i := 935) (by decide +kernel)) (by decide +kernel)
theorem wd_932 : Cond.methodLink RX5 203 yX5_readNumber ∈ lw_gd := gd_in (List.mem_of_getElem? (i := 932) (by decide +kernel)) (by decide +kernel)
theorem wd_934 : Cond.instanceMethod yX5_readNumber ∈ lw_gd := gd_in (List.mem_of_getElem? (i := 934) (by decide +kernel)) (by decide +kernel)
theorem wd_68 : Cond.selects RX5 yX5_readNumber yX5_readNumber ∈ lw_gd := gd_in (List.mem_of_getElem? (i := 68) (by decide +kernel)) (by decide +kernel)
theorem wd_939 : Cond.code yX5_readLine cX5_readLine 2 (some .int) ∈ lw_gd := gd_in (List.mem_of_getElem? (i := 939) (by decide +kernel)) (by decide +kernel)
theorem wd_936 : Cond.methodLink RX5 206 yX5_readLine ∈ lw_gd := gd_in (List.mem_of_getElem? (i := 936) (by decide +kernel)) (by decide +kernel)
theorem wd_938 : Cond.instanceMethod yX5_readLine ∈ lw_gd := gd_in (List.mem_of_getElem? (i := 938) (by decide +kernel)) (by decide +kernel)
theorem wd_69 : Cond.selects RX5 yX5_readLine yX5_readLine ∈ lw_gd := gd_in (List.mem_of_getElem? (i := 69) (by decide +kernel)) (by decide +kernel)
theorem wd_946 : Cond.code yX5_readDigits cX5_readDigits 2 none ∈ lw_gd := gd_in (List.mem_of_getElem? (i := 946) (by decide +kernel)) (by decide +kernel)
theorem wd_943 : Cond.methodLink RX5 209 yX5_readDigits ∈ lw_gd := gd_in (List.mem_of_getElem? (i := 943) (by decide +kernel)) (by decide +kernel)
theorem wd_945 : Cond.instanceMethod yX5_readDigits ∈ lw_gd := gd_in (List.mem_of_getElem? (i := 945) (by decide +kernel)) (by decide +kernel)
theorem wd_70 : Cond.selects RX5 yX5_readDigits yX5_readDigits ∈ lw_gd := gd_in (List.mem_of_getElem? (i := 70) (by decide +kernel)) (by decide +kernel)
theorem wd_927 : Cond.code yX5_readAct cX5_readAct 3 none ∈ lw_gd := gd_in (List.mem_of_getElem? (i := 927) (by decide +kernel)) (by decide +kernel)
theorem wd_924 : Cond.methodLink RX5 212 yX5_readAct ∈ lw_gd := gd_in (List.mem_of_getElem? (i := 924) (by decide +kernel)) (by decide +kernel)
theorem wd_926 : Cond.instanceMethod yX5_readAct ∈ lw_gd := gd_in (List.mem_of_getElem? (i := 926) (by decide +kernel)) (by decide +kernel)
theorem wd_66 : Cond.selects RX5 yX5_readAct yX5_readAct ∈ lw_gd := gd_in (List.mem_of_getElem? (i := 66) (by decide +kernel)) (by decide +kernel)
theorem wd_956 : Cond.methodLink RX5 215 yX5_hang ∈ lw_gd := gd_in (List.mem_of_getElem? (i := 956) (by decide +kernel)) (by decide +kernel)
theorem wd_960 : Cond.code yX5_dials cX5_dials 4 (some .boolean) ∈ lw_gd := gd_in (List.mem_of_getElem? (i := 960) (by decide +kernel)) (by decide +kernel)
theorem wd_957 : Cond.methodLink RX5 218 yX5_dials ∈ lw_gd := gd_in (List.mem_of_getElem? (i := 957) (by decide +kernel)) (by decide +kernel)
theorem wd_959 : Cond.instanceMethod yX5_dials ∈ lw_gd := gd_in (List.mem_of_getElem? (i := 959) (by decide +kernel)) (by decide +kernel)
theorem wd_72 : Cond.selects RX5 yX5_dials yX5_dials ∈ lw_gd := gd_in (List.mem_of_getElem? (i := 72) (by decide +kernel)) (by decide +kernel)
theorem wd_961 : Cond.methodLink RX5 221 yX5_tick ∈ lw_gd := gd_in (List.mem_of_getElem? (i := 961) (by decide +kernel)) (by decide +kernel)
theorem wd_951 : Cond.methodLink RX5 224 yX5_fault ∈ lw_gd := gd_in (List.mem_of_getElem? (i := 951) (by decide +kernel)) (by decide +kernel)
theorem wd_955 : Cond.code yX5_does cX5_does 2 (some .boolean) ∈ lw_gd := gd_in (List.mem_of_getElem? (i := 955) (by decide +kernel)) (by decide +kernel)
theorem wd_952 : Cond.methodLink RX5 227 yX5_does ∈ lw_gd := gd_in (List.mem_of_getElem? (i := 952) (by decide +kernel)) (by decide +kernel)
theorem wd_954 : Cond.instanceMethod yX5_does ∈ lw_gd := gd_in (List.mem_of_getElem? (i := 954) (by decide +kernel)) (by decide +kernel)
theorem wd_71 : Cond.selects RX5 yX5_does yX5_does ∈ lw_gd := gd_in (List.mem_of_getElem? (i := 71) (by decide +kernel)) (by decide +kernel)
end
section
def wsX0_init : List Cond := .code yX0_init cX0_init 2 none :: lw_gd
def rmX0_init : Room := { frames := 2, cells := 25, slots := 228, locals := 44 }
def wsX0_lineAt : List Cond := .code yX0_lineAt cX0_lineAt 2 (some (.object "RotaryExchange$Line")) :: lw_gd
def rmX0_lineAt : Room := { frames := 0, cells := 0, slots := 0, locals := 0 }
def wsX0_finderAt : List Cond := .code yX0_finderAt cX0_finderAt 2 (some (.object "RotaryExchange$Finder")) :: lw_gd
def rmX0_finderAt : Room := { frames := 0, cells := 0, slots := 0, locals := 0 }
def wsX0_settingAt : List Cond := .code yX0_settingAt cX0_settingAt 2 (some .int) :: lw_gd
def rmX0_settingAt : Room := { frames := 0, cells := 0, slots := 0, locals := 0 }
def wsX0_changeSetting : List Cond := .code yX0_changeSetting cX0_changeSetting 4 (some .int) :: lw_gd
def rmX0_changeSetting : Room := { frames := 1, cells := 0, slots := 0, locals := 21 }
def wsX0_renew : List Cond := .code yX0_renew cX0_renew 4 none :: lw_gd
def rmX0_renew : Room := { frames := 3, cells := 0, slots := 0, locals := 61 }
def wsX0_copyFrom : List Cond := .code yX0_copyFrom cX0_copyFrom 3 none :: lw_gd
def rmX0_copyFrom : Room := { frames := 1, cells := 0, slots := 0, locals := 21 }
def wsX0_liftLine : List Cond := .code yX0_liftLine cX0_liftLine 3 (some .int) :: lw_gd
def rmX0_liftLine : Room := { frames := 1, cells := 0, slots := 0, locals := 21 }
def wsX0_hangLine : List Cond := .code yX0_hangLine cX0_hangLine 4 (some .int) :: lw_gd
def rmX0_hangLine : Room := { frames := 3, cells := 0, slots := 0, locals := 63 }
def wsX0_release : List Cond := .code yX0_release cX0_release 3 none :: lw_gd
def rmX0_release : Room := { frames := 2, cells := 0, slots := 0, locals := 41 }
def wsX0_dialDigit : List Cond := .code yX0_dialDigit cX0_dialDigit 4 (some .int) :: lw_gd
def rmX0_dialDigit : Room := { frames := 1, cells := 0, slots := 0, locals := 21 }
def wsX0_hasTimeFor : List Cond := .code yX0_hasTimeFor cX0_hasTimeFor 2 (some .boolean) :: lw_gd
def rmX0_hasTimeFor : Room := { frames := 0, cells := 0, slots := 0, locals := 0 }
def wsX0_pass : List Cond := .code yX0_pass cX0_pass 4 none :: lw_gd
def rmX0_pass : Room := { frames := 4, cells := 0, slots := 0, locals := 91 }
def wsX0_takeStep : List Cond := .code yX0_takeStep cX0_takeStep 3 none :: lw_gd
def rmX0_takeStep : Room := { frames := 3, cells := 0, slots := 0, locals := 69 }
def wsX0_seek : List Cond := .code yX0_seek cX0_seek 3 none :: lw_gd
def rmX0_seek : Room := { frames := 1, cells := 0, slots := 0, locals := 21 }
def wsX0_awaitDigit : List Cond := .code yX0_awaitDigit cX0_awaitDigit 4 none :: lw_gd
def rmX0_awaitDigit : Room := { frames := 2, cells := 0, slots := 0, locals := 41 }
def wsX0_rise : List Cond := .code yX0_rise cX0_rise 3 none :: lw_gd
def rmX0_rise : Room := { frames := 2, cells := 0, slots := 0, locals := 45 }
def wsX0_hunt : List Cond := .code yX0_hunt cX0_hunt 3 none :: lw_gd
def rmX0_hunt : Room := { frames := 2, cells := 0, slots := 0, locals := 45 }
def wsX0_stepOn : List Cond := .code yX0_stepOn cX0_stepOn 5 none :: lw_gd
def rmX0_stepOn : Room := { frames := 2, cells := 0, slots := 0, locals := 45 }
def wsX0_ringOn : List Cond := .code yX0_ringOn cX0_ringOn 4 none :: lw_gd
def rmX0_ringOn : Room := { frames := 2, cells := 0, slots := 0, locals := 45 }
def wsX0_talkOn : List Cond := .code yX0_talkOn cX0_talkOn 5 none :: lw_gd
def rmX0_talkOn : Room := { frames := 2, cells := 0, slots := 0, locals := 41 }
def wsX0_soundOn : List Cond := .code yX0_soundOn cX0_soundOn 3 none :: lw_gd
def rmX0_soundOn : Room := { frames := 2, cells := 0, slots := 0, locals := 41 }
def wsX0_sound : List Cond := .code yX0_sound cX0_sound 5 none :: lw_gd
def rmX0_sound : Room := { frames := 1, cells := 0, slots := 0, locals := 21 }
def wsX0_allotFinder : List Cond := .code yX0_allotFinder cX0_allotFinder 4 none :: lw_gd
def rmX0_allotFinder : Room := { frames := 2, cells := 0, slots := 0, locals := 44 }
def wsX0_countParked : List Cond := .code yX0_countParked cX0_countParked 3 none :: lw_gd
def rmX0_countParked : Room := { frames := 1, cells := 0, slots := 0, locals := 21 }
def wsX0_nextFreeFinder : List Cond := .code yX0_nextFreeFinder cX0_nextFreeFinder 3 (some .int) :: lw_gd
def rmX0_nextFreeFinder : Room := { frames := 1, cells := 0, slots := 0, locals := 21 }
def wsX0_firstWaitingLine : List Cond := .code yX0_firstWaitingLine cX0_firstWaitingLine 4 (some .int) :: lw_gd
def rmX0_firstWaitingLine : Room := { frames := 1, cells := 0, slots := 0, locals := 21 }
def wsX0_holderOf : List Cond := .code yX0_holderOf cX0_holderOf 5 (some .int) :: lw_gd
def rmX0_holderOf : Room := { frames := 1, cells := 0, slots := 0, locals := 21 }
def wsX0_ticksUntil : List Cond := .code yX0_ticksUntil cX0_ticksUntil 5 (some .int) :: lw_gd
def rmX0_ticksUntil : Room := { frames := 5, cells := 0, slots := 0, locals := 114 }
def wsX0_tryCall : List Cond := .code yX0_tryCall cX0_tryCall 5 (some .int) :: lw_gd
def rmX0_tryCall : Room := { frames := 5, cells := 0, slots := 0, locals := 114 }
def wsX0_endsTrial : List Cond := .code yX0_endsTrial cX0_endsTrial 1 (some .boolean) :: lw_gd
def rmX0_endsTrial : Room := { frames := 0, cells := 0, slots := 0, locals := 0 }
def wsX0_numberOfLine : List Cond := .code yX0_numberOfLine cX0_numberOfLine 4 (some .int) :: lw_gd
def rmX0_numberOfLine : Room := { frames := 2, cells := 0, slots := 0, locals := 44 }
def wsX0_partnerOf : List Cond := .code yX0_partnerOf cX0_partnerOf 3 (some .int) :: lw_gd
def rmX0_partnerOf : Room := { frames := 1, cells := 0, slots := 0, locals := 21 }
def wsX0_placeOf : List Cond := .code yX0_placeOf cX0_placeOf 4 (some .int) :: lw_gd
def rmX0_placeOf : Room := { frames := 1, cells := 0, slots := 0, locals := 21 }
def wsX0_traceFrom : List Cond := .code yX0_traceFrom cX0_traceFrom 5 (some .int) :: lw_gd
def rmX0_traceFrom : Room := { frames := 1, cells := 0, slots := 0, locals := 21 }
def wsX0_numberFor : List Cond := .code yX0_numberFor cX0_numberFor 2 (some .int) :: lw_gd
def rmX0_numberFor : Room := { frames := 2, cells := 0, slots := 0, locals := 43 }
def wsX0_freeFinders : List Cond := .code yX0_freeFinders cX0_freeFinders 3 (some .int) :: lw_gd
def rmX0_freeFinders : Room := { frames := 1, cells := 0, slots := 0, locals := 21 }
def wsX0_freeConnectors : List Cond := .code yX0_freeConnectors cX0_freeConnectors 3 (some .int) :: lw_gd
def rmX0_freeConnectors : Room := { frames := 1, cells := 0, slots := 0, locals := 21 }
def wsX0_sumOfMeters : List Cond := .code yX0_sumOfMeters cX0_sumOfMeters 3 (some .int) :: lw_gd
def rmX0_sumOfMeters : Room := { frames := 1, cells := 0, slots := 0, locals := 21 }
def wsX0_liftedLines : List Cond := .code yX0_liftedLines cX0_liftedLines 3 (some .int) :: lw_gd
def rmX0_liftedLines : Room := { frames := 1, cells := 0, slots := 0, locals := 21 }
def wsX1_init : List Cond := .code yX1_init cX1_init 1 none :: lw_gd
def rmX1_init : Room := { frames := 1, cells := 0, slots := 0, locals := 24 }
def wsX1_renew : List Cond := .code yX1_renew cX1_renew 1 none :: lw_gd
def rmX1_renew : Room := { frames := 2, cells := 0, slots := 0, locals := 41 }
def wsX1_copyFrom : List Cond := .code yX1_copyFrom cX1_copyFrom 2 none :: lw_gd
def rmX1_copyFrom : Room := { frames := 0, cells := 0, slots := 0, locals := 0 }
def wsX1_become : List Cond := .code yX1_become cX1_become 2 none :: lw_gd
def rmX1_become : Room := { frames := 0, cells := 0, slots := 0, locals := 0 }
def wsX1_becomeFree : List Cond := .code yX1_becomeFree cX1_becomeFree 1 none :: lw_gd
def rmX1_becomeFree : Room := { frames := 1, cells := 0, slots := 0, locals := 21 }
def wsX1_holdsConnector : List Cond := .code yX1_holdsConnector cX1_holdsConnector 1 (some .boolean) :: lw_gd
def rmX1_holdsConnector : Room := { frames := 0, cells := 0, slots := 0, locals := 0 }
def wsX1_numberFor : List Cond := .code yX1_numberFor cX1_numberFor 2 (some .int) :: lw_gd
def rmX1_numberFor : Room := { frames := 0, cells := 0, slots := 0, locals := 0 }
def wsX2_init : List Cond := .code yX2_init cX2_init 1 none :: lw_gd
def rmX2_init : Room := { frames := 1, cells := 0, slots := 0, locals := 24 }
def wsX2_renew : List Cond := .code yX2_renew cX2_renew 1 none :: lw_gd
def rmX2_renew : Room := { frames := 1, cells := 0, slots := 0, locals := 21 }
def wsX2_copyFrom : List Cond := .code yX2_copyFrom cX2_copyFrom 2 none :: lw_gd
def rmX2_copyFrom : Room := { frames := 0, cells := 0, slots := 0, locals := 0 }
def wsX2_waitsUnsought : List Cond := .code yX2_waitsUnsought cX2_waitsUnsought 1 (some .boolean) :: lw_gd
def rmX2_waitsUnsought : Room := { frames := 0, cells := 0, slots := 0, locals := 0 }
def wsX2_isCalledByAnother : List Cond := .code yX2_isCalledByAnother cX2_isCalledByAnother 1 (some .boolean) :: lw_gd
def rmX2_isCalledByAnother : Room := { frames := 0, cells := 0, slots := 0, locals := 0 }
def wsX2_callsAnother : List Cond := .code yX2_callsAnother cX2_callsAnother 1 (some .boolean) :: lw_gd
def rmX2_callsAnother : Room := { frames := 0, cells := 0, slots := 0, locals := 0 }
def wsX2_appendDigit : List Cond := .code yX2_appendDigit cX2_appendDigit 2 none :: lw_gd
def rmX2_appendDigit : Room := { frames := 0, cells := 0, slots := 0, locals := 0 }
def wsX2_takePulses : List Cond := .code yX2_takePulses cX2_takePulses 2 (some .int) :: lw_gd
def rmX2_takePulses : Room := { frames := 0, cells := 0, slots := 0, locals := 0 }
def wsX2_leaveCall : List Cond := .code yX2_leaveCall cX2_leaveCall 2 none :: lw_gd
def rmX2_leaveCall : Room := { frames := 0, cells := 0, slots := 0, locals := 0 }
def wsX2_waitParked : List Cond := .code yX2_waitParked cX2_waitParked 2 none :: lw_gd
def rmX2_waitParked : Room := { frames := 0, cells := 0, slots := 0, locals := 0 }
def wsX3_init : List Cond := .code yX3_init cX3_init 1 none :: lw_gd
def rmX3_init : Room := { frames := 1, cells := 1, slots := 60, locals := 24 }
def wsX3_codeAt : List Cond := .code yX3_codeAt cX3_codeAt 2 (some .int) :: lw_gd
def rmX3_codeAt : Room := { frames := 0, cells := 0, slots := 0, locals := 0 }
def wsX3_append : List Cond := .code yX3_append cX3_append 5 (some .int) :: lw_gd
def rmX3_append : Room := { frames := 2, cells := 0, slots := 0, locals := 47 }
def wsX3_appendCode : List Cond := .code yX3_appendCode cX3_appendCode 2 none :: lw_gd
def rmX3_appendCode : Room := { frames := 0, cells := 0, slots := 0, locals := 0 }
def wsX3_countOf : List Cond := .code yX3_countOf cX3_countOf 6 (some .int) :: lw_gd
def rmX3_countOf : Room := { frames := 1, cells := 0, slots := 0, locals := 22 }
def wsX3_firstFault : List Cond := .code yX3_firstFault cX3_firstFault 5 (some .int) :: lw_gd
def rmX3_firstFault : Room := { frames := 4, cells := 0, slots := 0, locals := 84 }
def wsX3_awaitedBehind : List Cond := .code yX3_awaitedBehind cX3_awaitedBehind 3 (some .int) :: lw_gd
def rmX3_awaitedBehind : Room := { frames := 3, cells := 0, slots := 0, locals := 62 }
def wsX3_awaitedBehindLetter : List Cond := .code yX3_awaitedBehindLetter cX3_awaitedBehindLetter 1 (some .int) :: lw_gd
def rmX3_awaitedBehindLetter : Room := { frames := 0, cells := 0, slots := 0, locals := 0 }
def wsX3_awaitedBehindComma : List Cond := .code yX3_awaitedBehindComma cX3_awaitedBehindComma 1 (some .int) :: lw_gd
def rmX3_awaitedBehindComma : Room := { frames := 0, cells := 0, slots := 0, locals := 0 }
def wsX3_beginsAnAct : List Cond := .code yX3_beginsAnAct cX3_beginsAnAct 2 (some .boolean) :: lw_gd
def rmX3_beginsAnAct : Room := { frames := 1, cells := 0, slots := 0, locals := 21 }
def wsX3_lineAt : List Cond := .code yX3_lineAt cX3_lineAt 2 (some .int) :: lw_gd
def rmX3_lineAt : Room := { frames := 3, cells := 0, slots := 0, locals := 62 }
def wsX3_lineOf : List Cond := .code yX3_lineOf cX3_lineOf 1 (some .int) :: lw_gd
def rmX3_lineOf : Room := { frames := 2, cells := 0, slots := 0, locals := 42 }
def wsX3_numberAt : List Cond := .code yX3_numberAt cX3_numberAt 4 (some .int) :: lw_gd
def rmX3_numberAt : Room := { frames := 2, cells := 0, slots := 0, locals := 42 }
def wsX3_isDigit : List Cond := .code yX3_isDigit cX3_isDigit 1 (some .boolean) :: lw_gd
def rmX3_isDigit : Room := { frames := 1, cells := 0, slots := 0, locals := 22 }
def wsX4_init : List Cond := .code yX4_init cX4_init 1 none :: lw_gd
def rmX4_init : Room := { frames := 3, cells := 55, slots := 552, locals := 65 }
def wsX4_setUp : List Cond := .code yX4_setUp cX4_setUp 4 (some .int) :: lw_gd
def rmX4_setUp : Room := { frames := 4, cells := 0, slots := 0, locals := 84 }
def wsX4_set : List Cond := .code yX4_set cX4_set 3 (some .int) :: lw_gd
def rmX4_set : Room := { frames := 2, cells := 0, slots := 0, locals := 44 }
def wsX4_lift : List Cond := .code yX4_lift cX4_lift 2 (some .int) :: lw_gd
def rmX4_lift : Room := { frames := 2, cells := 0, slots := 0, locals := 43 }
def wsX4_hang : List Cond := .code yX4_hang cX4_hang 2 (some .int) :: lw_gd
def rmX4_hang : Room := { frames := 4, cells := 0, slots := 0, locals := 86 }
def wsX4_dial : List Cond := .code yX4_dial cX4_dial 3 (some .int) :: lw_gd
def rmX4_dial : Room := { frames := 2, cells := 0, slots := 0, locals := 44 }
def wsX4_tick : List Cond := .code yX4_tick cX4_tick 2 (some .int) :: lw_gd
def rmX4_tick : Room := { frames := 5, cells := 0, slots := 0, locals := 114 }
def wsX4_line : List Cond := .code yX4_line cX4_line 3 (some .int) :: lw_gd
def rmX4_line : Room := { frames := 3, cells := 0, slots := 0, locals := 67 }
def wsX4_finder : List Cond := .code yX4_finder cX4_finder 3 (some .int) :: lw_gd
def rmX4_finder : Room := { frames := 1, cells := 0, slots := 0, locals := 22 }
def wsX4_connector : List Cond := .code yX4_connector cX4_connector 3 (some .int) :: lw_gd
def rmX4_connector : Room := { frames := 2, cells := 0, slots := 0, locals := 45 }
def wsX4_count : List Cond := .code yX4_count cX4_count 2 (some .int) :: lw_gd
def rmX4_count : Room := { frames := 3, cells := 0, slots := 0, locals := 64 }
def wsX4_trace : List Cond := .code yX4_trace cX4_trace 3 (some .int) :: lw_gd
def rmX4_trace : Room := { frames := 2, cells := 0, slots := 0, locals := 45 }
def wsX4_until : List Cond := .code yX4_until cX4_until 4 (some .int) :: lw_gd
def rmX4_until : Room := { frames := 6, cells := 0, slots := 0, locals := 138 }
def wsX4_attempt : List Cond := .code yX4_attempt cX4_attempt 5 (some .int) :: lw_gd
def rmX4_attempt : Room := { frames := 6, cells := 0, slots := 0, locals := 138 }
def wsX4_put : List Cond := .code yX4_put cX4_put 3 (some .int) :: lw_gd
def rmX4_put : Room := { frames := 3, cells := 0, slots := 0, locals := 71 }
def wsX4_wipe : List Cond := .code yX4_wipe cX4_wipe 2 (some .int) :: lw_gd
def rmX4_wipe : Room := { frames := 0, cells := 0, slots := 0, locals := 0 }
def wsX4_fault : List Cond := .code yX4_fault cX4_fault 1 (some .int) :: lw_gd
def rmX4_fault : Room := { frames := 5, cells := 0, slots := 0, locals := 108 }
def wsX4_carryOut : List Cond := .code yX4_carryOut cX4_carryOut 3 (some .int) :: lw_gd
def rmX4_carryOut : Room := { frames := 6, cells := 0, slots := 0, locals := 137 }
def wsX4_save : List Cond := .code yX4_save cX4_save 3 (some .int) :: lw_gd
def rmX4_save : Room := { frames := 3, cells := 26, slots := 244, locals := 65 }
def wsX4_restore : List Cond := .code yX4_restore cX4_restore 3 (some .int) :: lw_gd
def rmX4_restore : Room := { frames := 2, cells := 0, slots := 0, locals := 43 }
def wsX4_succeeds : List Cond := .code yX4_succeeds cX4_succeeds 4 (some .boolean) :: lw_gd
def rmX4_succeeds : Room := { frames := 5, cells := 0, slots := 0, locals := 114 }
def wsX4_dialsAll : List Cond := .code yX4_dialsAll cX4_dialsAll 4 (some .boolean) :: lw_gd
def rmX4_dialsAll : Room := { frames := 2, cells := 0, slots := 0, locals := 44 }
def wsX4_isLine : List Cond := .code yX4_isLine cX4_isLine 1 (some .boolean) :: lw_gd
def rmX4_isLine : Room := { frames := 1, cells := 0, slots := 0, locals := 22 }
def wsX4_isWithin : List Cond := .code yX4_isWithin cX4_isWithin 3 (some .boolean) :: lw_gd
def rmX4_isWithin : Room := { frames := 0, cells := 0, slots := 0, locals := 0 }
def wsX5_init : List Cond := .code yX5_init cX5_init 1 none :: lw_gd
def rmX5_init : Room := { frames := 3, cells := 6, slots := 1122, locals := 69 }
def wsX5_in : List Cond := .code yX5_in cX5_in 3 (some .boolean) :: lw_gd
def rmX5_in : Room := { frames := 0, cells := 0, slots := 0, locals := 0 }
def wsX5_of : List Cond := .code yX5_of cX5_of 3 (some .int) :: lw_gd
def rmX5_of : Room := { frames := 0, cells := 0, slots := 0, locals := 0 }
def wsX5_lay : List Cond := .code yX5_lay cX5_lay 4 none :: lw_gd
def rmX5_lay : Room := { frames := 0, cells := 0, slots := 0, locals := 0 }
def wsX5_ofFinder : List Cond := .code yX5_ofFinder cX5_ofFinder 3 (some .int) :: lw_gd
def rmX5_ofFinder : Room := { frames := 0, cells := 0, slots := 0, locals := 0 }
def wsX5_layFinder : List Cond := .code yX5_layFinder cX5_layFinder 4 none :: lw_gd
def rmX5_layFinder : Room := { frames := 0, cells := 0, slots := 0, locals := 0 }
def wsX5_setting : List Cond := .code yX5_setting cX5_setting 2 (some .int) :: lw_gd
def rmX5_setting : Room := { frames := 0, cells := 0, slots := 0, locals := 0 }
def wsX5_countOne : List Cond := .code yX5_countOne cX5_countOne 2 none :: lw_gd
def rmX5_countOne : Room := { frames := 0, cells := 0, slots := 0, locals := 0 }
def wsX5_begin : List Cond := .code yX5_begin cX5_begin 4 none :: lw_gd
def rmX5_begin : Room := { frames := 2, cells := 0, slots := 0, locals := 46 }
def wsX5_free : List Cond := .code yX5_free cX5_free 4 none :: lw_gd
def rmX5_free : Room := { frames := 1, cells := 0, slots := 0, locals := 23 }
def wsX5_setUp : List Cond := .code yX5_setUp cX5_setUp 4 (some .int) :: lw_gd
def rmX5_setUp : Room := { frames := 3, cells := 0, slots := 0, locals := 69 }
def wsX5_takes : List Cond := .code yX5_takes cX5_takes 2 (some .boolean) :: lw_gd
def rmX5_takes : Room := { frames := 1, cells := 0, slots := 0, locals := 22 }
def wsX5_set : List Cond := .code yX5_set cX5_set 4 (some .int) :: lw_gd
def rmX5_set : Room := { frames := 2, cells := 0, slots := 0, locals := 43 }
def wsX5_isLine : List Cond := .code yX5_isLine cX5_isLine 1 (some .boolean) :: lw_gd
def rmX5_isLine : Room := { frames := 1, cells := 0, slots := 0, locals := 22 }
def wsX5_isFinder : List Cond := .code yX5_isFinder cX5_isFinder 2 (some .boolean) :: lw_gd
def rmX5_isFinder : Room := { frames := 1, cells := 0, slots := 0, locals := 22 }
def wsX5_finderOf : List Cond := .code yX5_finderOf cX5_finderOf 3 (some .int) :: lw_gd
def rmX5_finderOf : Room := { frames := 1, cells := 0, slots := 0, locals := 22 }
def wsX5_isHolding : List Cond := .code yX5_isHolding cX5_isHolding 2 (some .boolean) :: lw_gd
def rmX5_isHolding : Room := { frames := 1, cells := 0, slots := 0, locals := 22 }
def wsX5_holder : List Cond := .code yX5_holder cX5_holder 4 (some .int) :: lw_gd
def rmX5_holder : Room := { frames := 2, cells := 0, slots := 0, locals := 43 }
def wsX5_finderTo : List Cond := .code yX5_finderTo cX5_finderTo 3 (some .int) :: lw_gd
def rmX5_finderTo : Room := { frames := 1, cells := 0, slots := 0, locals := 22 }
def wsX5_park : List Cond := .code yX5_park cX5_park 2 none :: lw_gd
def rmX5_park : Room := { frames := 1, cells := 0, slots := 0, locals := 23 }
def wsX5_lift : List Cond := .code yX5_lift cX5_lift 2 (some .int) :: lw_gd
def rmX5_lift : Room := { frames := 2, cells := 0, slots := 0, locals := 42 }
def wsX5_dropCall : List Cond := .code yX5_dropCall cX5_dropCall 4 none :: lw_gd
def rmX5_dropCall : Room := { frames := 2, cells := 0, slots := 0, locals := 46 }
def wsX5_hang : List Cond := .code yX5_hang cX5_hang 3 (some .int) :: lw_gd
def rmX5_hang : Room := { frames := 3, cells := 0, slots := 0, locals := 69 }
def wsX5_dial : List Cond := .code yX5_dial cX5_dial 4 (some .int) :: lw_gd
def rmX5_dial : Room := { frames := 2, cells := 0, slots := 0, locals := 42 }
def wsX5_takeDigit : List Cond := .code yX5_takeDigit cX5_takeDigit 5 (some .int) :: lw_gd
def rmX5_takeDigit : Room := { frames := 1, cells := 0, slots := 0, locals := 23 }
def wsX5_giveUp : List Cond := .code yX5_giveUp cX5_giveUp 3 none :: lw_gd
def rmX5_giveUp : Room := { frames := 2, cells := 0, slots := 0, locals := 46 }
def wsX5_sound : List Cond := .code yX5_sound cX5_sound 5 none :: lw_gd
def rmX5_sound : Room := { frames := 1, cells := 0, slots := 0, locals := 23 }
def wsX5_reaches : List Cond := .code yX5_reaches cX5_reaches 4 (some .boolean) :: lw_gd
def rmX5_reaches : Room := { frames := 1, cells := 0, slots := 0, locals := 23 }
def wsX5_seek : List Cond := .code yX5_seek cX5_seek 3 none :: lw_gd
def rmX5_seek : Room := { frames := 1, cells := 0, slots := 0, locals := 23 }
def wsX5_waitForDigit : List Cond := .code yX5_waitForDigit cX5_waitForDigit 4 none :: lw_gd
def rmX5_waitForDigit : Room := { frames := 3, cells := 0, slots := 0, locals := 68 }
def wsX5_rise : List Cond := .code yX5_rise cX5_rise 2 none :: lw_gd
def rmX5_rise : Room := { frames := 2, cells := 0, slots := 0, locals := 47 }
def wsX5_hunt : List Cond := .code yX5_hunt cX5_hunt 3 none :: lw_gd
def rmX5_hunt : Room := { frames := 3, cells := 0, slots := 0, locals := 66 }
def wsX5_test : List Cond := .code yX5_test cX5_test 3 none :: lw_gd
def rmX5_test : Room := { frames := 2, cells := 0, slots := 0, locals := 47 }
def wsX5_step : List Cond := .code yX5_step cX5_step 2 none :: lw_gd
def rmX5_step : Room := { frames := 3, cells := 0, slots := 0, locals := 69 }
def wsX5_meter : List Cond := .code yX5_meter cX5_meter 2 none :: lw_gd
def rmX5_meter : Room := { frames := 1, cells := 0, slots := 0, locals := 23 }
def wsX5_ring : List Cond := .code yX5_ring cX5_ring 4 none :: lw_gd
def rmX5_ring : Room := { frames := 2, cells := 0, slots := 0, locals := 47 }
def wsX5_talk : List Cond := .code yX5_talk cX5_talk 4 none :: lw_gd
def rmX5_talk : Room := { frames := 2, cells := 0, slots := 0, locals := 46 }
def wsX5_soundOn : List Cond := .code yX5_soundOn cX5_soundOn 3 none :: lw_gd
def rmX5_soundOn : Room := { frames := 2, cells := 0, slots := 0, locals := 46 }
def wsX5_stepFinder : List Cond := .code yX5_stepFinder cX5_stepFinder 2 none :: lw_gd
def rmX5_stepFinder : Room := { frames := 4, cells := 0, slots := 0, locals := 91 }
def wsX5_isQueued : List Cond := .code yX5_isQueued cX5_isQueued 2 (some .boolean) :: lw_gd
def rmX5_isQueued : Room := { frames := 2, cells := 0, slots := 0, locals := 44 }
def wsX5_allot : List Cond := .code yX5_allot cX5_allot 6 none :: lw_gd
def rmX5_allot : Room := { frames := 3, cells := 0, slots := 0, locals := 65 }
def wsX5_makeTick : List Cond := .code yX5_makeTick cX5_makeTick 2 none :: lw_gd
def rmX5_makeTick : Room := { frames := 5, cells := 0, slots := 0, locals := 112 }
def wsX5_tick : List Cond := .code yX5_tick cX5_tick 3 (some .int) :: lw_gd
def rmX5_tick : Room := { frames := 6, cells := 0, slots := 0, locals := 133 }
def wsX5_pathOf : List Cond := .code yX5_pathOf cX5_pathOf 2 (some .int) :: lw_gd
def rmX5_pathOf : Room := { frames := 2, cells := 0, slots := 0, locals := 44 }
def wsX5_otherOf : List Cond := .code yX5_otherOf cX5_otherOf 3 (some .int) :: lw_gd
def rmX5_otherOf : Room := { frames := 2, cells := 0, slots := 0, locals := 44 }
def wsX5_placeOf : List Cond := .code yX5_placeOf cX5_placeOf 4 (some .int) :: lw_gd
def rmX5_placeOf : Room := { frames := 3, cells := 0, slots := 0, locals := 65 }
def wsX5_line : List Cond := .code yX5_line cX5_line 3 (some .int) :: lw_gd
def rmX5_line : Room := { frames := 4, cells := 0, slots := 0, locals := 88 }
def wsX5_showsTimer : List Cond := .code yX5_showsTimer cX5_showsTimer 2 (some .boolean) :: lw_gd
def rmX5_showsTimer : Room := { frames := 1, cells := 0, slots := 0, locals := 22 }
def wsX5_finder : List Cond := .code yX5_finder cX5_finder 4 (some .int) :: lw_gd
def rmX5_finder : Room := { frames := 2, cells := 0, slots := 0, locals := 43 }
def wsX5_connector : List Cond := .code yX5_connector cX5_connector 3 (some .int) :: lw_gd
def rmX5_connector : Room := { frames := 3, cells := 0, slots := 0, locals := 66 }
def wsX5_finders : List Cond := .code yX5_finders cX5_finders 4 (some .int) :: lw_gd
def rmX5_finders : Room := { frames := 2, cells := 0, slots := 0, locals := 43 }
def wsX5_sumOf : List Cond := .code yX5_sumOf cX5_sumOf 4 (some .int) :: lw_gd
def rmX5_sumOf : Room := { frames := 1, cells := 0, slots := 0, locals := 22 }
def wsX5_count : List Cond := .code yX5_count cX5_count 2 (some .int) :: lw_gd
def rmX5_count : Room := { frames := 3, cells := 0, slots := 0, locals := 66 }
def wsX5_trace : List Cond := .code yX5_trace cX5_trace 5 (some .int) :: lw_gd
def rmX5_trace : Room := { frames := 2, cells := 0, slots := 0, locals := 44 }
def wsX5_putAside : List Cond := .code yX5_putAside cX5_putAside 2 none :: lw_gd
def rmX5_putAside : Room := { frames := 0, cells := 0, slots := 0, locals := 0 }
def wsX5_putBack : List Cond := .code yX5_putBack cX5_putBack 2 none :: lw_gd
def rmX5_putBack : Room := { frames := 0, cells := 0, slots := 0, locals := 0 }
def wsX5_until : List Cond := .code yX5_until cX5_until 6 (some .int) :: lw_gd
def rmX5_until : Room := { frames := 6, cells := 0, slots := 0, locals := 133 }
def wsX5_isEnd : List Cond := .code yX5_isEnd cX5_isEnd 1 (some .boolean) :: lw_gd
def rmX5_isEnd : Room := { frames := 1, cells := 0, slots := 0, locals := 22 }
def wsX5_attempt : List Cond := .code yX5_attempt cX5_attempt 7 (some .int) :: lw_gd
def rmX5_attempt : Room := { frames := 6, cells := 0, slots := 0, locals := 133 }
def wsX5_put : List Cond := .code yX5_put cX5_put 7 (some .int) :: lw_gd
def rmX5_put : Room := { frames := 1, cells := 0, slots := 0, locals := 22 }
def wsX5_wipe : List Cond := .code yX5_wipe cX5_wipe 2 (some .int) :: lw_gd
def rmX5_wipe : Room := { frames := 0, cells := 0, slots := 0, locals := 0 }
def wsX5_next : List Cond := .code yX5_next cX5_next 1 (some .int) :: lw_gd
def rmX5_next : Room := { frames := 0, cells := 0, slots := 0, locals := 0 }
def wsX5_lineBy : List Cond := .code yX5_lineBy cX5_lineBy 1 (some .int) :: lw_gd
def rmX5_lineBy : Room := { frames := 1, cells := 0, slots := 0, locals := 22 }
def wsX5_readLine : List Cond := .code yX5_readLine cX5_readLine 2 (some .int) :: lw_gd
def rmX5_readLine : Room := { frames := 2, cells := 0, slots := 0, locals := 42 }
def wsX5_readNumber : List Cond := .code yX5_readNumber cX5_readNumber 2 (some .int) :: lw_gd
def rmX5_readNumber : Room := { frames := 1, cells := 0, slots := 0, locals := 22 }
def wsX5_readDigits : List Cond := .code yX5_readDigits cX5_readDigits 2 none :: lw_gd
def rmX5_readDigits : Room := { frames := 1, cells := 0, slots := 0, locals := 22 }
def wsX5_readAct : List Cond := .code yX5_readAct cX5_readAct 3 none :: lw_gd
def rmX5_readAct : Room := { frames := 3, cells := 0, slots := 0, locals := 63 }
def wsX5_fault : List Cond := .code yX5_fault cX5_fault 1 (some .int) :: lw_gd
def rmX5_fault : Room := { frames := 4, cells := 0, slots := 0, locals := 85 }
def wsX5_dials : List Cond := .code yX5_dials cX5_dials 4 (some .boolean) :: lw_gd
def rmX5_dials : Room := { frames := 3, cells := 0, slots := 0, locals := 65 }
def wsX5_does : List Cond := .code yX5_does cX5_does 2 (some .boolean) :: lw_gd
def rmX5_does : Room := { frames := 7, cells := 0, slots := 0, locals := 155 }
def wsX5_carryOut : List Cond := .code yX5_carryOut cX5_carryOut 2 (some .int) :: lw_gd
def rmX5_carryOut : Room := { frames := 8, cells := 0, slots := 0, locals := 176 }
def wsX5_save : List Cond := .code yX5_save cX5_save 3 (some .int) :: lw_gd
def rmX5_save : Room := { frames := 1, cells := 0, slots := 0, locals := 22 }
def wsX5_restore : List Cond := .code yX5_restore cX5_restore 3 (some .int) :: lw_gd
def rmX5_restore : Room := { frames := 1, cells := 0, slots := 0, locals := 22 }
section FR
variable {p : Program} {l : Launch} {e : Env} {R : Room} {s : State} {m : MethodId} {args : Array Value} {below : List Frame} {meth : Method} {c : Code} {H : Heap} {locs : List Loc} {cells slots : Nat} {Q : State → Prop}
variable {cc : ByteArray} {pc : Nat} {ls : Array Slot} {rest : List Value} {g : GG} {lay : LY} {E E1 : ES} {H0 : Heap} {a o : Nat} {L : CS}
theorem g_X0_11 (hx : p.tables.exec = Jvm.exec) (hb : c.code = cc) (hown : s.vm.findClass RX0 = some m.cls) (hts : ∀ w ∈ lw_gd, w.before args s = true) (hK : KK g s) (hW : Wd g lay E H) (hla : lay a = some (exE o)) (hL : E a = L) (hdg : decode cc pc = .ok (.getfield 11, 3)) (kk : W p l e R s m args below meth c H locs cells slots Q (F0 m (pc + 3) ls (.ref (o + 1) :: rest))) : W p l e R s m args below meth c H locs cells slots Q (F0 m pc ls (.ref a :: rest)) :=
  w_get (C := RX0) (T := TX0) (N := 16) (ci := 0) (j := 0) hx hb hown hts hK hW hla hL rfl rfl rfl (by decide) inX0 wd_195 rfl hdg kk
theorem g_X0_19 (hx : p.tables.exec = Jvm.exec) (hb : c.code = cc) (hown : s.vm.findClass RX0 = some m.cls) (hts : ∀ w ∈ lw_gd, w.before args s = true) (hK : KK g s) (hW : Wd g lay E H) (hla : lay a = some (exE o)) (hL : E a = L) (hdg : decode cc pc = .ok (.getfield 19, 3)) (kk : W p l e R s m args below meth c H locs cells slots Q (F0 m (pc + 3) ls (.ref (o + 2) :: rest))) : W p l e R s m args below meth c H locs cells slots Q (F0 m pc ls (.ref a :: rest)) :=
  w_get (C := RX0) (T := TX0) (N := 16) (ci := 0) (j := 1) hx hb hown hts hK hW hla hL rfl rfl rfl (by decide) inX0 wd_196 rfl hdg kk
theorem g_X0_24 (hx : p.tables.exec = Jvm.exec) (hb : c.code = cc) (hown : s.vm.findClass RX0 = some m.cls) (hts : ∀ w ∈ lw_gd, w.before args s = true) (hK : KK g s) (hW : Wd g lay E H) (hla : lay a = some (exE o)) (hL : E a = L) (hdg : decode cc pc = .ok (.getfield 24, 3)) (kk : W p l e R s m args below meth c H locs cells slots Q (F0 m (pc + 3) ls (.ref (o + 3) :: rest))) : W p l e R s m args below meth c H locs cells slots Q (F0 m pc ls (.ref a :: rest)) :=
  w_get (C := RX0) (T := TX0) (N := 16) (ci := 0) (j := 2) hx hb hown hts hK hW hla hL rfl rfl rfl (by decide) inX0 wd_197 rfl hdg kk
theorem g_X0_29 (hx : p.tables.exec = Jvm.exec) (hb : c.code = cc) (hown : s.vm.findClass RX0 = some m.cls) (hts : ∀ w ∈ lw_gd, w.before args s = true) (hK : KK g s) (hW : Wd g lay E H) (hla : lay a = some (exE o)) (hL : E a = L) (hdg : decode cc pc = .ok (.getfield 29, 3)) (kk : W p l e R s m args below meth c H locs cells slots Q (F0 m (pc + 3) ls (.ref (o + 4) :: rest))) : W p l e R s m args below meth c H locs cells slots Q (F0 m pc ls (.ref a :: rest)) :=
  w_get (C := RX0) (T := TX0) (N := 16) (ci := 0) (j := 3) hx hb hown hts hK hW hla hL rfl rfl rfl (by decide) inX0 wd_198 rfl hdg kk
theorem g_X0_42 (hx : p.tables.exec = Jvm.exec) (hb : c.code = cc) (hown : s.vm.findClass RX0 = some m.cls) (hts : ∀ w ∈ lw_gd, w.before args s = true) (hK : KK g s) (hW : Wd g lay E H) (hla : lay a = some (exE o)) (hL : E a = L) (hdg : decode cc pc = .ok (.getfield 42, 3)) (kk : W p l e R s m args below meth c H locs cells slots Q (F0 m (pc + 3) ls (.ref (o + 5) :: rest))) : W p l e R s m args below meth c H locs cells slots Q (F0 m pc ls (.ref a :: rest)) :=
  w_get (C := RX0) (T := TX0) (N := 16) (ci := 0) (j := 4) hx hb hown hts hK hW hla hL rfl rfl rfl (by decide) inX0 wd_199 rfl hdg kk
theorem g_X0_45 (hx : p.tables.exec = Jvm.exec) (hb : c.code = cc) (hown : s.vm.findClass RX0 = some m.cls) (hts : ∀ w ∈ lw_gd, w.before args s = true) (hK : KK g s) (hW : Wd g lay E H) (hla : lay a = some (exE o)) (hL : E a = L) (hdg : decode cc pc = .ok (.getfield 45, 3)) (kk : W p l e R s m args below meth c H locs cells slots Q (F0 m (pc + 3) ls (.int (L 5) :: rest))) : W p l e R s m args below meth c H locs cells slots Q (F0 m pc ls (.ref a :: rest)) :=
  w_get (C := RX0) (T := TX0) (N := 16) (ci := 0) (j := 5) hx hb hown hts hK hW hla hL rfl rfl rfl (by decide) inX0 wd_200 rfl hdg kk
theorem g_X0_49 (hx : p.tables.exec = Jvm.exec) (hb : c.code = cc) (hown : s.vm.findClass RX0 = some m.cls) (hts : ∀ w ∈ lw_gd, w.before args s = true) (hK : KK g s) (hW : Wd g lay E H) (hla : lay a = some (exE o)) (hL : E a = L) (hdg : decode cc pc = .ok (.getfield 49, 3)) (kk : W p l e R s m args below meth c H locs cells slots Q (F0 m (pc + 3) ls (.int (L 6) :: rest))) : W p l e R s m args below meth c H locs cells slots Q (F0 m pc ls (.ref a :: rest)) :=
  w_get (C := RX0) (T := TX0) (N := 16) (ci := 0) (j := 6) hx hb hown hts hK hW hla hL rfl rfl rfl (by decide) inX0 wd_202 rfl hdg kk
theorem g_X0_52 (hx : p.tables.exec = Jvm.exec) (hb : c.code = cc) (hown : s.vm.findClass RX0 = some m.cls) (hts : ∀ w ∈ lw_gd, w.before args s = true) (hK : KK g s) (hW : Wd g lay E H) (hla : lay a = some (exE o)) (hL : E a = L) (hdg : decode cc pc = .ok (.getfield 52, 3)) (kk : W p l e R s m args below meth c H locs cells slots Q (F0 m (pc + 3) ls (.int (L 7) :: rest))) : W p l e R s m args below meth c H locs cells slots Q (F0 m pc ls (.ref a :: rest)) :=
  w_get (C := RX0) (T := TX0) (N := 16) (ci := 0) (j := 7) hx hb hown hts hK hW hla hL rfl rfl rfl (by decide) inX0 wd_204 rfl hdg kk
theorem g_X0_55 (hx : p.tables.exec = Jvm.exec) (hb : c.code = cc) (hown : s.vm.findClass RX0 = some m.cls) (hts : ∀ w ∈ lw_gd, w.before args s = true) (hK : KK g s) (hW : Wd g lay E H) (hla : lay a = some (exE o)) (hL : E a = L) (hdg : decode cc pc = .ok (.getfield 55, 3)) (kk : W p l e R s m args below meth c H locs cells slots Q (F0 m (pc + 3) ls (.int (L 8) :: rest))) : W p l e R s m args below meth c H locs cells slots Q (F0 m pc ls (.ref a :: rest)) :=
  w_get (C := RX0) (T := TX0) (N := 16) (ci := 0) (j := 8) hx hb hown hts hK hW hla hL rfl rfl rfl (by decide) inX0 wd_206 rfl hdg kk
theorem g_X0_58 (hx : p.tables.exec = Jvm.exec) (hb : c.code = cc) (hown : s.vm.findClass RX0 = some m.cls) (hts : ∀ w ∈ lw_gd, w.before args s = true) (hK : KK g s) (hW : Wd g lay E H) (hla : lay a = some (exE o)) (hL : E a = L) (hdg : decode cc pc = .ok (.getfield 58, 3)) (kk : W p l e R s m args below meth c H locs cells slots Q (F0 m (pc + 3) ls (.int (L 9) :: rest))) : W p l e R s m args below meth c H locs cells slots Q (F0 m pc ls (.ref a :: rest)) :=
  w_get (C := RX0) (T := TX0) (N := 16) (ci := 0) (j := 9) hx hb hown hts hK hW hla hL rfl rfl rfl (by decide) inX0 wd_207 rfl hdg kk
theorem g_X0_61 (hx : p.tables.exec = Jvm.exec) (hb : c.code = cc) (hown : s.vm.findClass RX0 = some m.cls) (hts : ∀ w ∈ lw_gd, w.before args s = true) (hK : KK g s) (hW : Wd g lay E H) (hla : lay a = some (exE o)) (hL : E a = L) (hdg : decode cc pc = .ok (.getfield 61, 3)) (kk : W p l e R s m args below meth c H locs cells slots Q (F0 m (pc + 3) ls (.int (L 10) :: rest))) : W p l e R s m args below meth c H locs cells slots Q (F0 m pc ls (.ref a :: rest)) :=
  w_get (C := RX0) (T := TX0) (N := 16) (ci := 0) (j := 10) hx hb hown hts hK hW hla hL rfl rfl rfl (by decide) inX0 wd_208 rfl hdg kk
theorem g_X0_64 (hx : p.tables.exec = Jvm.exec) (hb : c.code = cc) (hown : s.vm.findClass RX0 = some m.cls) (hts : ∀ w ∈ lw_gd, w.before args s = true) (hK : KK g s) (hW : Wd g lay E H) (hla : lay a = some (exE o)) (hL : E a = L) (hdg : decode cc pc = .ok (.getfield 64, 3)) (kk : W p l e R s m args below meth c H locs cells slots Q (F0 m (pc + 3) ls (.int (L 11) :: rest))) : W p l e R s m args below meth c H locs cells slots Q (F0 m pc ls (.ref a :: rest)) :=
  w_get (C := RX0) (T := TX0) (N := 16) (ci := 0) (j := 11) hx hb hown hts hK hW hla hL rfl rfl rfl (by decide) inX0 wd_209 rfl hdg kk
theorem g_X0_67 (hx : p.tables.exec = Jvm.exec) (hb : c.code = cc) (hown : s.vm.findClass RX0 = some m.cls) (hts : ∀ w ∈ lw_gd, w.before args s = true) (hK : KK g s) (hW : Wd g lay E H) (hla : lay a = some (exE o)) (hL : E a = L) (hdg : decode cc pc = .ok (.getfield 67, 3)) (kk : W p l e R s m args below meth c H locs cells slots Q (F0 m (pc + 3) ls (.int (L 12) :: rest))) : W p l e R s m args below meth c H locs cells slots Q (F0 m pc ls (.ref a :: rest)) :=
  w_get (C := RX0) (T := TX0) (N := 16) (ci := 0) (j := 12) hx hb hown hts hK hW hla hL rfl rfl rfl (by decide) inX0 wd_210 rfl hdg kk
theorem g_X0_70 (hx : p.tables.exec = Jvm.exec) (hb : c.code = cc) (hown : s.vm.findClass RX0 = some m.cls) (hts : ∀ w ∈ lw_gd, w.before args s = true) (hK : KK g s) (hW : Wd g lay E H) (hla : lay a = some (exE o)) (hL : E a = L) (hdg : decode cc pc = .ok (.getfield 70, 3)) (kk : W p l e R s m args below meth c H locs cells slots Q (F0 m (pc + 3) ls (.int (L 13) :: rest))) : W p l e R s m args below meth c H locs cells slots Q (F0 m pc ls (.ref a :: rest)) :=
  w_get (C := RX0) (T := TX0) (N := 16) (ci := 0) (j := 13) hx hb hown hts hK hW hla hL rfl rfl rfl (by decide) inX0 wd_211 rfl hdg kk
theorem g_X0_73 (hx : p.tables.exec = Jvm.exec) (hb : c.code = cc) (hown : s.vm.findClass RX0 = some m.cls) (hts : ∀ w ∈ lw_gd, w.before args s = true) (hK : KK g s) (hW : Wd g lay E H) (hla : lay a = some (exE o)) (hL : E a = L) (hdg : decode cc pc = .ok (.getfield 73, 3)) (kk : W p l e R s m args below meth c H locs cells slots Q (F0 m (pc + 3) ls (.int (L 14) :: rest))) : W p l e R s m args below meth c H locs cells slots Q (F0 m pc ls (.ref a :: rest)) :=
  w_get (C := RX0) (T := TX0) (N := 16) (ci := 0) (j := 14) hx hb hown hts hK hW hla hL rfl rfl rfl (by decide) inX0 wd_212 rfl hdg kk
theorem g_X0_76 (hx : p.tables.exec = Jvm.exec) (hb : c.code = cc) (hown : s.vm.findClass RX0 = some m.cls) (hts : ∀ w ∈ lw_gd, w.before args s = true) (hK : KK g s) (hW : Wd g lay E H) (hla : lay a = some (exE o)) (hL : E a = L) (hdg : decode cc pc = .ok (.getfield 76, 3)) (kk : W p l e R s m args below meth c H locs cells slots Q (F0 m (pc + 3) ls (.int (L 15) :: rest))) : W p l e R s m args below meth c H locs cells slots Q (F0 m pc ls (.ref a :: rest)) :=
  w_get (C := RX0) (T := TX0) (N := 16) (ci := 0) (j := 15) hx hb hown hts hK hW hla hL rfl rfl rfl (by decide) inX0 wd_213 rfl hdg kk
theorem g_X0_102 (hx : p.tables.exec = Jvm.exec) (hb : c.code = cc) (hown : s.vm.findClass RX0 = some m.cls) (hts : ∀ w ∈ lw_gd, w.before args s = true) (hK : KK g s) (hW : Wd g lay E H) (hla : lay a = some lineE) (hL : E a = L) (hdg : decode cc pc = .ok (.getfield 102, 3)) (kk : W p l e R s m args below meth c H locs cells slots Q (F0 m (pc + 3) ls (.int (L 1) :: rest))) : W p l e R s m args below meth c H locs cells slots Q (F0 m pc ls (.ref a :: rest)) :=
  w_get (C := RX2) (T := TX2) (N := 9) (ci := 2) (j := 1) hx hb hown hts hK hW hla hL rfl rfl rfl (by decide) inX2 wd_107 rfl hdg kk
theorem g_X0_106 (hx : p.tables.exec = Jvm.exec) (hb : c.code = cc) (hown : s.vm.findClass RX0 = some m.cls) (hts : ∀ w ∈ lw_gd, w.before args s = true) (hK : KK g s) (hW : Wd g lay E H) (hla : lay a = some lineE) (hL : E a = L) (hdg : decode cc pc = .ok (.getfield 106, 3)) (kk : W p l e R s m args below meth c H locs cells slots Q (F0 m (pc + 3) ls (.int (L 0) :: rest))) : W p l e R s m args below meth c H locs cells slots Q (F0 m pc ls (.ref a :: rest)) :=
  w_get (C := RX2) (T := TX2) (N := 9) (ci := 2) (j := 0) hx hb hown hts hK hW hla hL rfl rfl rfl (by decide) inX2 wd_104 rfl hdg kk
theorem g_X0_109 (hx : p.tables.exec = Jvm.exec) (hb : c.code = cc) (hown : s.vm.findClass RX0 = some m.cls) (hts : ∀ w ∈ lw_gd, w.before args s = true) (hK : KK g s) (hW : Wd g lay E H) (hla : lay a = some lineE) (hL : E a = L) (hdg : decode cc pc = .ok (.getfield 109, 3)) (kk : W p l e R s m args below meth c H locs cells slots Q (F0 m (pc + 3) ls (.int (L 3) :: rest))) : W p l e R s m args below meth c H locs cells slots Q (F0 m pc ls (.ref a :: rest)) :=
  w_get (C := RX2) (T := TX2) (N := 9) (ci := 2) (j := 3) hx hb hown hts hK hW hla hL rfl rfl rfl (by decide) inX2 wd_111 rfl hdg kk
theorem g_X0_112 (hx : p.tables.exec = Jvm.exec) (hb : c.code = cc) (hown : s.vm.findClass RX0 = some m.cls) (hts : ∀ w ∈ lw_gd, w.before args s = true) (hK : KK g s) (hW : Wd g lay E H) (hla : lay a = some lineE) (hL : E a = L) (hdg : decode cc pc = .ok (.getfield 112, 3)) (kk : W p l e R s m args below meth c H locs cells slots Q (F0 m (pc + 3) ls (.int (L 7) :: rest))) : W p l e R s m args below meth c H locs cells slots Q (F0 m pc ls (.ref a :: rest)) :=
  w_get (C := RX2) (T := TX2) (N := 9) (ci := 2) (j := 7) hx hb hown hts hK hW hla hL rfl rfl rfl (by decide) inX2 wd_118 rfl hdg kk
theorem g_X0_119 (hx : p.tables.exec = Jvm.exec) (hb : c.code = cc) (hown : s.vm.findClass RX0 = some m.cls) (hts : ∀ w ∈ lw_gd, w.before args s = true) (hK : KK g s) (hW : Wd g lay E H) (hla : lay a = some lineE) (hL : E a = L) (hdg : decode cc pc = .ok (.getfield 119, 3)) (kk : W p l e R s m args below meth c H locs cells slots Q (F0 m (pc + 3) ls (.int (L 6) :: rest))) : W p l e R s m args below meth c H locs cells slots Q (F0 m pc ls (.ref a :: rest)) :=
  w_get (C := RX2) (T := TX2) (N := 9) (ci := 2) (j := 6) hx hb hown hts hK hW hla hL rfl rfl rfl (by decide) inX2 wd_116 rfl hdg kk
theorem g_X0_129 (hx : p.tables.exec = Jvm.exec) (hb : c.code = cc) (hown : s.vm.findClass RX0 = some m.cls) (hts : ∀ w ∈ lw_gd, w.before args s = true) (hK : KK g s) (hW : Wd g lay E H) (hla : lay a = some finE) (hL : E a = L) (hdg : decode cc pc = .ok (.getfield 129, 3)) (kk : W p l e R s m args below meth c H locs cells slots Q (F0 m (pc + 3) ls (.int (L 9) :: rest))) : W p l e R s m args below meth c H locs cells slots Q (F0 m pc ls (.ref a :: rest)) :=
  w_get (C := RX1) (T := TX1) (N := 10) (ci := 1) (j := 9) hx hb hown hts hK hW hla hL rfl rfl rfl (by decide) inX1 wd_164 rfl hdg kk
theorem g_X0_135 (hx : p.tables.exec = Jvm.exec) (hb : c.code = cc) (hown : s.vm.findClass RX0 = some m.cls) (hts : ∀ w ∈ lw_gd, w.before args s = true) (hK : KK g s) (hW : Wd g lay E H) (hla : lay a = some lineE) (hL : E a = L) (hdg : decode cc pc = .ok (.getfield 135, 3)) (kk : W p l e R s m args below meth c H locs cells slots Q (F0 m (pc + 3) ls (.int (L 5) :: rest))) : W p l e R s m args below meth c H locs cells slots Q (F0 m pc ls (.ref a :: rest)) :=
  w_get (C := RX2) (T := TX2) (N := 9) (ci := 2) (j := 5) hx hb hown hts hK hW hla hL rfl rfl rfl (by decide) inX2 wd_114 rfl hdg kk
theorem g_X0_151 (hx : p.tables.exec = Jvm.exec) (hb : c.code = cc) (hown : s.vm.findClass RX0 = some m.cls) (hts : ∀ w ∈ lw_gd, w.before args s = true) (hK : KK g s) (hW : Wd g lay E H) (hla : lay a = some finE) (hL : E a = L) (hdg : decode cc pc = .ok (.getfield 151, 3)) (kk : W p l e R s m args below meth c H locs cells slots Q (F0 m (pc + 3) ls (.int (L 2) :: rest))) : W p l e R s m args below meth c H locs cells slots Q (F0 m pc ls (.ref a :: rest)) :=
  w_get (C := RX1) (T := TX1) (N := 10) (ci := 1) (j := 2) hx hb hown hts hK hW hla hL rfl rfl rfl (by decide) inX1 wd_150 rfl hdg kk
theorem g_X0_154 (hx : p.tables.exec = Jvm.exec) (hb : c.code = cc) (hown : s.vm.findClass RX0 = some m.cls) (hts : ∀ w ∈ lw_gd, w.before args s = true) (hK : KK g s) (hW : Wd g lay E H) (hla : lay a = some finE) (hL : E a = L) (hdg : decode cc pc = .ok (.getfield 154, 3)) (kk : W p l e R s m args below meth c H locs cells slots Q (F0 m (pc + 3) ls (.int (L 0) :: rest))) : W p l e R s m args below meth c H locs cells slots Q (F0 m pc ls (.ref a :: rest)) :=
  w_get (C := RX1) (T := TX1) (N := 10) (ci := 1) (j := 0) hx hb hown hts hK hW hla hL rfl rfl rfl (by decide) inX1 wd_146 rfl hdg kk
theorem g_X0_181 (hx : p.tables.exec = Jvm.exec) (hb : c.code = cc) (hown : s.vm.findClass RX0 = some m.cls) (hts : ∀ w ∈ lw_gd, w.before args s = true) (hK : KK g s) (hW : Wd g lay E H) (hla : lay a = some finE) (hL : E a = L) (hdg : decode cc pc = .ok (.getfield 181, 3)) (kk : W p l e R s m args below meth c H locs cells slots Q (F0 m (pc + 3) ls (.int (L 1) :: rest))) : W p l e R s m args below meth c H locs cells slots Q (F0 m pc ls (.ref a :: rest)) :=
  w_get (C := RX1) (T := TX1) (N := 10) (ci := 1) (j := 1) hx hb hown hts hK hW hla hL rfl rfl rfl (by decide) inX1 wd_148 rfl hdg kk
theorem g_X0_191 (hx : p.tables.exec = Jvm.exec) (hb : c.code = cc) (hown : s.vm.findClass RX0 = some m.cls) (hts : ∀ w ∈ lw_gd, w.before args s = true) (hK : KK g s) (hW : Wd g lay E H) (hla : lay a = some finE) (hL : E a = L) (hdg : decode cc pc = .ok (.getfield 191, 3)) (kk : W p l e R s m args below meth c H locs cells slots Q (F0 m (pc + 3) ls (.int (L 5) :: rest))) : W p l e R s m args below meth c H locs cells slots Q (F0 m pc ls (.ref a :: rest)) :=
  w_get (C := RX1) (T := TX1) (N := 10) (ci := 1) (j := 5) hx hb hown hts hK hW hla hL rfl rfl rfl (by decide) inX1 wd_156 rfl hdg kk
theorem g_X0_194 (hx : p.tables.exec = Jvm.exec) (hb : c.code = cc) (hown : s.vm.findClass RX0 = some m.cls) (hts : ∀ w ∈ lw_gd, w.before args s = true) (hK : KK g s) (hW : Wd g lay E H) (hla : lay a = some finE) (hL : E a = L) (hdg : decode cc pc = .ok (.getfield 194, 3)) (kk : W p l e R s m args below meth c H locs cells slots Q (F0 m (pc + 3) ls (.int (L 7) :: rest))) : W p l e R s m args below meth c H locs cells slots Q (F0 m pc ls (.ref a :: rest)) :=
  w_get (C := RX1) (T := TX1) (N := 10) (ci := 1) (j := 7) hx hb hown hts hK hW hla hL rfl rfl rfl (by decide) inX1 wd_160 rfl hdg kk
theorem g_X0_197 (hx : p.tables.exec = Jvm.exec) (hb : c.code = cc) (hown : s.vm.findClass RX0 = some m.cls) (hts : ∀ w ∈ lw_gd, w.before args s = true) (hK : KK g s) (hW : Wd g lay E H) (hla : lay a = some finE) (hL : E a = L) (hdg : decode cc pc = .ok (.getfield 197, 3)) (kk : W p l e R s m args below meth c H locs cells slots Q (F0 m (pc + 3) ls (.int (L 3) :: rest))) : W p l e R s m args below meth c H locs cells slots Q (F0 m pc ls (.ref a :: rest)) :=
  w_get (C := RX1) (T := TX1) (N := 10) (ci := 1) (j := 3) hx hb hown hts hK hW hla hL rfl rfl rfl (by decide) inX1 wd_152 rfl hdg kk
theorem g_X0_204 (hx : p.tables.exec = Jvm.exec) (hb : c.code = cc) (hown : s.vm.findClass RX0 = some m.cls) (hts : ∀ w ∈ lw_gd, w.before args s = true) (hK : KK g s) (hW : Wd g lay E H) (hla : lay a = some finE) (hL : E a = L) (hdg : decode cc pc = .ok (.getfield 204, 3)) (kk : W p l e R s m args below meth c H locs cells slots Q (F0 m (pc + 3) ls (.int (L 4) :: rest))) : W p l e R s m args below meth c H locs cells slots Q (F0 m pc ls (.ref a :: rest)) :=
  w_get (C := RX1) (T := TX1) (N := 10) (ci := 1) (j := 4) hx hb hown hts hK hW hla hL rfl rfl rfl (by decide) inX1 wd_154 rfl hdg kk
theorem g_X0_211 (hx : p.tables.exec = Jvm.exec) (hb : c.code = cc) (hown : s.vm.findClass RX0 = some m.cls) (hts : ∀ w ∈ lw_gd, w.before args s = true) (hK : KK g s) (hW : Wd g lay E H) (hla : lay a = some finE) (hL : E a = L) (hdg : decode cc pc = .ok (.getfield 211, 3)) (kk : W p l e R s m args below meth c H locs cells slots Q (F0 m (pc + 3) ls (.int (L 6) :: rest))) : W p l e R s m args below meth c H locs cells slots Q (F0 m pc ls (.ref a :: rest)) :=
  w_get (C := RX1) (T := TX1) (N := 10) (ci := 1) (j := 6) hx hb hown hts hK hW hla hL rfl rfl rfl (by decide) inX1 wd_158 rfl hdg kk
theorem g_X0_214 (hx : p.tables.exec = Jvm.exec) (hb : c.code = cc) (hown : s.vm.findClass RX0 = some m.cls) (hts : ∀ w ∈ lw_gd, w.before args s = true) (hK : KK g s) (hW : Wd g lay E H) (hla : lay a = some lineE) (hL : E a = L) (hdg : decode cc pc = .ok (.getfield 214, 3)) (kk : W p l e R s m args below meth c H locs cells slots Q (F0 m (pc + 3) ls (.int (L 2) :: rest))) : W p l e R s m args below meth c H locs cells slots Q (F0 m pc ls (.ref a :: rest)) :=
  w_get (C := RX2) (T := TX2) (N := 9) (ci := 2) (j := 2) hx hb hown hts hK hW hla hL rfl rfl rfl (by decide) inX2 wd_109 rfl hdg kk
theorem g_X0_217 (hx : p.tables.exec = Jvm.exec) (hb : c.code = cc) (hown : s.vm.findClass RX0 = some m.cls) (hts : ∀ w ∈ lw_gd, w.before args s = true) (hK : KK g s) (hW : Wd g lay E H) (hla : lay a = some finE) (hL : E a = L) (hdg : decode cc pc = .ok (.getfield 217, 3)) (kk : W p l e R s m args below meth c H locs cells slots Q (F0 m (pc + 3) ls (.int (L 8) :: rest))) : W p l e R s m args below meth c H locs cells slots Q (F0 m pc ls (.ref a :: rest)) :=
  w_get (C := RX1) (T := TX1) (N := 10) (ci := 1) (j := 8) hx hb hown hts hK hW hla hL rfl rfl rfl (by decide) inX1 wd_162 rfl hdg kk
theorem g_X0_255 (hx : p.tables.exec = Jvm.exec) (hb : c.code = cc) (hown : s.vm.findClass RX0 = some m.cls) (hts : ∀ w ∈ lw_gd, w.before args s = true) (hK : KK g s) (hW : Wd g lay E H) (hla : lay a = some lineE) (hL : E a = L) (hdg : decode cc pc = .ok (.getfield 255, 3)) (kk : W p l e R s m args below meth c H locs cells slots Q (F0 m (pc + 3) ls (.int (L 8) :: rest))) : W p l e R s m args below meth c H locs cells slots Q (F0 m pc ls (.ref a :: rest)) :=
  w_get (C := RX2) (T := TX2) (N := 9) (ci := 2) (j := 8) hx hb hown hts hK hW hla hL rfl rfl rfl (by decide) inX2 wd_120 rfl hdg kk
theorem p_X0_45 (hx : p.tables.exec = Jvm.exec) (hb : c.code = cc) (hown : s.vm.findClass RX0 = some m.cls) (hts : ∀ w ∈ lw_gd, w.before args s = true) (hK : KK g s) (hge : okL g lay) (hW : Wd g lay E H) (hS : va_S (Ab g) H0 H locs) (hla : lay a = some (exE o)) (hL : E a = L) {x : Int32} (hdg : decode cc pc = .ok (.putfield 45, 3)) (hE : va_up E a (upd L 5 x) = E1) (kk : ∀ (H1 : Heap) (locs1 : List Loc), Wd g lay E1 H1 → va_S (Ab g) H0 H1 locs1 → W p l e R s m args below meth c H1 locs1 cells slots Q (F0 m (pc + 3) ls rest)) : W p l e R s m args below meth c H locs cells slots Q (F0 m pc ls (.int x :: .ref a :: rest)) :=
  w_put (C := RX0) (T := TX0) (N := 16) (ci := 0) (j := 5) hx hb hown hts hK hge hW hS hla hL rfl rfl (Nat.le_of_ble_eq_true rfl) rfl (by decide) inX0 tyX0 tyX0_ok nmX0 wd_200 rfl rfl (ty := .int) (by decide +kernel) rfl rfl hdg hE kk
theorem p_X0_49 (hx : p.tables.exec = Jvm.exec) (hb : c.code = cc) (hown : s.vm.findClass RX0 = some m.cls) (hts : ∀ w ∈ lw_gd, w.before args s = true) (hK : KK g s) (hge : okL g lay) (hW : Wd g lay E H) (hS : va_S (Ab g) H0 H locs) (hla : lay a = some (exE o)) (hL : E a = L) {x : Int32} (hdg : decode cc pc = .ok (.putfield 49, 3)) (hE : va_up E a (upd L 6 x) = E1) (kk : ∀ (H1 : Heap) (locs1 : List Loc), Wd g lay E1 H1 → va_S (Ab g) H0 H1 locs1 → W p l e R s m args below meth c H1 locs1 cells slots Q (F0 m (pc + 3) ls rest)) : W p l e R s m args below meth c H locs cells slots Q (F0 m pc ls (.int x :: .ref a :: rest)) :=
  w_put (C := RX0) (T := TX0) (N := 16) (ci := 0) (j := 6) hx hb hown hts hK hge hW hS hla hL rfl rfl (Nat.le_of_ble_eq_true rfl) rfl (by decide) inX0 tyX0 tyX0_ok nmX0 wd_202 rfl rfl (ty := .int) (by decide +kernel) rfl rfl hdg hE kk
theorem p_X0_52 (hx : p.tables.exec = Jvm.exec) (hb : c.code = cc) (hown : s.vm.findClass RX0 = some m.cls) (hts : ∀ w ∈ lw_gd, w.before args s = true) (hK : KK g s) (hge : okL g lay) (hW : Wd g lay E H) (hS : va_S (Ab g) H0 H locs) (hla : lay a = some (exE o)) (hL : E a = L) {x : Int32} (hdg : decode cc pc = .ok (.putfield 52, 3)) (hE : va_up E a (upd L 7 x) = E1) (kk : ∀ (H1 : Heap) (locs1 : List Loc), Wd g lay E1 H1 → va_S (Ab g) H0 H1 locs1 → W p l e R s m args below meth c H1 locs1 cells slots Q (F0 m (pc + 3) ls rest)) : W p l e R s m args below meth c H locs cells slots Q (F0 m pc ls (.int x :: .ref a :: rest)) :=
  w_put (C := RX0) (T := TX0) (N := 16) (ci := 0) (j := 7) hx hb hown hts hK hge hW hS hla hL rfl rfl (Nat.le_of_ble_eq_true rfl) rfl (by decide) inX0 tyX0 tyX0_ok nmX0 wd_204 rfl rfl (ty := .int) (by decide +kernel) rfl rfl hdg hE kk
theorem p_X0_55 (hx : p.tables.exec = Jvm.exec) (hb : c.code = cc) (hown : s.vm.findClass RX0 = some m.cls) (hts : ∀ w ∈ lw_gd, w.before args s = true) (hK : KK g s) (hge : okL g lay) (hW : Wd g lay E H) (hS : va_S (Ab g) H0 H locs) (hla : lay a = some (exE o)) (hL : E a = L) {x : Int32} (hdg : decode cc pc = .ok (.putfield 55, 3)) (hE : va_up E a (upd L 8 x) = E1) (kk : ∀ (H1 : Heap) (locs1 : List Loc), Wd g lay E1 H1 → va_S (Ab g) H0 H1 locs1 → W p l e R s m args below meth c H1 locs1 cells slots Q (F0 m (pc + 3) ls rest)) : W p l e R s m args below meth c H locs cells slots Q (F0 m pc ls (.int x :: .ref a :: rest)) :=
  w_put (C := RX0) (T := TX0) (N := 16) (ci := 0) (j := 8) hx hb hown hts hK hge hW hS hla hL rfl rfl (Nat.le_of_ble_eq_true rfl) rfl (by decide) inX0 tyX0 tyX0_ok nmX0 wd_206 rfl rfl (ty := .int) (by decide +kernel) rfl rfl hdg hE kk
theorem p_X0_58 (hx : p.tables.exec = Jvm.exec) (hb : c.code = cc) (hown : s.vm.findClass RX0 = some m.cls) (hts : ∀ w ∈ lw_gd, w.before args s = true) (hK : KK g s) (hge : okL g lay) (hW : Wd g lay E H) (hS : va_S (Ab g) H0 H locs) (hla : lay a = some (exE o)) (hL : E a = L) {x : Int32} (hdg : decode cc pc = .ok (.putfield 58, 3)) (hE : va_up E a (upd L 9 x) = E1) (kk : ∀ (H1 : Heap) (locs1 : List Loc), Wd g lay E1 H1 → va_S (Ab g) H0 H1 locs1 → W p l e R s m args below meth c H1 locs1 cells slots Q (F0 m (pc + 3) ls rest)) : W p l e R s m args below meth c H locs cells slots Q (F0 m pc ls (.int x :: .ref a :: rest)) :=
  w_put (C := RX0) (T := TX0) (N := 16) (ci := 0) (j := 9) hx hb hown hts hK hge hW hS hla hL rfl rfl (Nat.le_of_ble_eq_true rfl) rfl (by decide) inX0 tyX0 tyX0_ok nmX0 wd_207 rfl rfl (ty := .int) (by decide +kernel) rfl rfl hdg hE kk
theorem p_X0_61 (hx : p.tables.exec = Jvm.exec) (hb : c.code = cc) (hown : s.vm.findClass RX0 = some m.cls) (hts : ∀ w ∈ lw_gd, w.before args s = true) (hK : KK g s) (hge : okL g lay) (hW : Wd g lay E H) (hS : va_S (Ab g) H0 H locs) (hla : lay a = some (exE o)) (hL : E a = L) {x : Int32} (hdg : decode cc pc = .ok (.putfield 61, 3)) (hE : va_up E a (upd L 10 x) = E1) (kk : ∀ (H1 : Heap) (locs1 : List Loc), Wd g lay E1 H1 → va_S (Ab g) H0 H1 locs1 → W p l e R s m args below meth c H1 locs1 cells slots Q (F0 m (pc + 3) ls rest)) : W p l e R s m args below meth c H locs cells slots Q (F0 m pc ls (.int x :: .ref a :: rest)) :=
  w_put (C := RX0) (T := TX0) (N := 16) (ci := 0) (j := 10) hx hb hown hts hK hge hW hS hla hL rfl rfl (Nat.le_of_ble_eq_true rfl) rfl (by decide) inX0 tyX0 tyX0_ok nmX0 wd_208 rfl rfl (ty := .int) (by decide +kernel) rfl rfl hdg hE kk
theorem p_X0_64 (hx : p.tables.exec = Jvm.exec) (hb : c.code = cc) (hown : s.vm.findClass RX0 = some m.cls) (hts : ∀ w ∈ lw_gd, w.before args s = true) (hK : KK g s) (hge : okL g lay) (hW : Wd g lay E H) (hS : va_S (Ab g) H0 H locs) (hla : lay a = some (exE o)) (hL : E a = L) {x : Int32} (hdg : decode cc pc = .ok (.putfield 64, 3)) (hE : va_up E a (upd L 11 x) = E1) (kk : ∀ (H1 : Heap) (locs1 : List Loc), Wd g lay E1 H1 → va_S (Ab g) H0 H1 locs1 → W p l e R s m args below meth c H1 locs1 cells slots Q (F0 m (pc + 3) ls rest)) : W p l e R s m args below meth c H locs cells slots Q (F0 m pc ls (.int x :: .ref a :: rest)) :=
  w_put (C := RX0) (T := TX0) (N := 16) (ci := 0) (j := 11) hx hb hown hts hK hge hW hS hla hL rfl rfl (Nat.le_of_ble_eq_true rfl) rfl (by decide) inX0 tyX0 tyX0_ok nmX0 wd_209 rfl rfl (ty := .int) (by decide +kernel) rfl rfl hdg hE kk
theorem p_X0_67 (hx : p.tables.exec = Jvm.exec) (hb : c.code = cc) (hown : s.vm.findClass RX0 = some m.cls) (hts : ∀ w ∈ lw_gd, w.before args s = true) (hK : KK g s) (hge : okL g lay) (hW : Wd g lay E H) (hS : va_S (Ab g) H0 H locs) (hla : lay a = some (exE o)) (hL : E a = L) {x : Int32} (hdg : decode cc pc = .ok (.putfield 67, 3)) (hE : va_up E a (upd L 12 x) = E1) (kk : ∀ (H1 : Heap) (locs1 : List Loc), Wd g lay E1 H1 → va_S (Ab g) H0 H1 locs1 → W p l e R s m args below meth c H1 locs1 cells slots Q (F0 m (pc + 3) ls rest)) : W p l e R s m args below meth c H locs cells slots Q (F0 m pc ls (.int x :: .ref a :: rest)) :=
  w_put (C := RX0) (T := TX0) (N := 16) (ci := 0) (j := 12) hx hb hown hts hK hge hW hS hla hL rfl rfl (Nat.le_of_ble_eq_true rfl) rfl (by decide) inX0 tyX0 tyX0_ok nmX0 wd_210 rfl rfl (ty := .int) (by decide +kernel) rfl rfl hdg hE kk
theorem p_X0_70 (hx : p.tables.exec = Jvm.exec) (hb : c.code = cc) (hown : s.vm.findClass RX0 = some m.cls) (hts : ∀ w ∈ lw_gd, w.before args s = true) (hK : KK g s) (hge : okL g lay) (hW : Wd g lay E H) (hS : va_S (Ab g) H0 H locs) (hla : lay a = some (exE o)) (hL : E a = L) {x : Int32} (hdg : decode cc pc = .ok (.putfield 70, 3)) (hE : va_up E a (upd L 13 x) = E1) (kk : ∀ (H1 : Heap) (locs1 : List Loc), Wd g lay E1 H1 → va_S (Ab g) H0 H1 locs1 → W p l e R s m args below meth c H1 locs1 cells slots Q (F0 m (pc + 3) ls rest)) : W p l e R s m args below meth c H locs cells slots Q (F0 m pc ls (.int x :: .ref a :: rest)) :=
  w_put (C := RX0) (T := TX0) (N := 16) (ci := 0) (j := 13) hx hb hown hts hK hge hW hS hla hL rfl rfl (Nat.le_of_ble_eq_true rfl) rfl (by decide) inX0 tyX0 tyX0_ok nmX0 wd_211 rfl rfl (ty := .int) (by decide +kernel) rfl rfl hdg hE kk
theorem p_X0_73 (hx : p.tables.exec = Jvm.exec) (hb : c.code = cc) (hown : s.vm.findClass RX0 = some m.cls) (hts : ∀ w ∈ lw_gd, w.before args s = true) (hK : KK g s) (hge : okL g lay) (hW : Wd g lay E H) (hS : va_S (Ab g) H0 H locs) (hla : lay a = some (exE o)) (hL : E a = L) {x : Int32} (hdg : decode cc pc = .ok (.putfield 73, 3)) (hE : va_up E a (upd L 14 x) = E1) (kk : ∀ (H1 : Heap) (locs1 : List Loc), Wd g lay E1 H1 → va_S (Ab g) H0 H1 locs1 → W p l e R s m args below meth c H1 locs1 cells slots Q (F0 m (pc + 3) ls rest)) : W p l e R s m args below meth c H locs cells slots Q (F0 m pc ls (.int x :: .ref a :: rest)) :=
  w_put (C := RX0) (T := TX0) (N := 16) (ci := 0) (j := 14) hx hb hown hts hK hge hW hS hla hL rfl rfl (Nat.le_of_ble_eq_true rfl) rfl (by decide) inX0 tyX0 tyX0_ok nmX0 wd_212 rfl rfl (ty := .int) (by decide +kernel) rfl rfl hdg hE kk
theorem p_X0_76 (hx : p.tables.exec = Jvm.exec) (hb : c.code = cc) (hown : s.vm.findClass RX0 = some m.cls) (hts : ∀ w ∈ lw_gd, w.before args s = true) (hK : KK g s) (hge : okL g lay) (hW : Wd g lay E H) (hS : va_S (Ab g) H0 H locs) (hla : lay a = some (exE o)) (hL : E a = L) {x : Int32} (hdg : decode cc pc = .ok (.putfield 76, 3)) (hE : va_up E a (upd L 15 x) = E1) (kk : ∀ (H1 : Heap) (locs1 : List Loc), Wd g lay E1 H1 → va_S (Ab g) H0 H1 locs1 → W p l e R s m args below meth c H1 locs1 cells slots Q (F0 m (pc + 3) ls rest)) : W p l e R s m args below meth c H locs cells slots Q (F0 m pc ls (.int x :: .ref a :: rest)) :=
  w_put (C := RX0) (T := TX0) (N := 16) (ci := 0) (j := 15) hx hb hown hts hK hge hW hS hla hL rfl rfl (Nat.le_of_ble_eq_true rfl) rfl (by decide) inX0 tyX0 tyX0_ok nmX0 wd_213 rfl rfl (ty := .int) (by decide +kernel) rfl rfl hdg hE kk
theorem p_X0_102 (hx : p.tables.exec = Jvm.exec) (hb : c.code = cc) (hown : s.vm.findClass RX0 = some m.cls) (hts : ∀ w ∈ lw_gd, w.before args s = true) (hK : KK g s) (hge : okL g lay) (hW : Wd g lay E H) (hS : va_S (Ab g) H0 H locs) (hla : lay a = some lineE) (hL : E a = L) {x : Int32} (hz : x = 0 ∨ x = 1) (hdg : decode cc pc = .ok (.putfield 102, 3)) (hE : va_up E a (upd L 1 x) = E1) (kk : ∀ (H1 : Heap) (locs1 : List Loc), Wd g lay E1 H1 → va_S (Ab g) H0 H1 locs1 → W p l e R s m args below meth c H1 locs1 cells slots Q (F0 m (pc + 3) ls rest)) : W p l e R s m args below meth c H locs cells slots Q (F0 m pc ls (.int x :: .ref a :: rest)) :=
  w_put (C := RX2) (T := TX2) (N := 9) (ci := 2) (j := 1) hx hb hown hts hK hge hW hS hla hL rfl rfl (Nat.le_of_ble_eq_true rfl) rfl (by decide) inX2 tyX2 tyX2_ok nmX2 wd_107 rfl rfl (ty := .boolean) (by decide +kernel) (narZ hz) (fitZ hz) hdg hE kk
theorem p_X0_106 (hx : p.tables.exec = Jvm.exec) (hb : c.code = cc) (hown : s.vm.findClass RX0 = some m.cls) (hts : ∀ w ∈ lw_gd, w.before args s = true) (hK : KK g s) (hge : okL g lay) (hW : Wd g lay E H) (hS : va_S (Ab g) H0 H locs) (hla : lay a = some lineE) (hL : E a = L) {x : Int32} (hdg : decode cc pc = .ok (.putfield 106, 3)) (hE : va_up E a (upd L 0 x) = E1) (kk : ∀ (H1 : Heap) (locs1 : List Loc), Wd g lay E1 H1 → va_S (Ab g) H0 H1 locs1 → W p l e R s m args below meth c H1 locs1 cells slots Q (F0 m (pc + 3) ls rest)) : W p l e R s m args below meth c H locs cells slots Q (F0 m pc ls (.int x :: .ref a :: rest)) :=
  w_put (C := RX2) (T := TX2) (N := 9) (ci := 2) (j := 0) hx hb hown hts hK hge hW hS hla hL rfl rfl (Nat.le_of_ble_eq_true rfl) rfl (by decide) inX2 tyX2 tyX2_ok nmX2 wd_104 rfl rfl (ty := .int) (by decide +kernel) rfl rfl hdg hE kk
theorem p_X0_109 (hx : p.tables.exec = Jvm.exec) (hb : c.code = cc) (hown : s.vm.findClass RX0 = some m.cls) (hts : ∀ w ∈ lw_gd, w.before args s = true) (hK : KK g s) (hge : okL g lay) (hW : Wd g lay E H) (hS : va_S (Ab g) H0 H locs) (hla : lay a = some lineE) (hL : E a = L) {x : Int32} (hdg : decode cc pc = .ok (.putfield 109, 3)) (hE : va_up E a (upd L 3 x) = E1) (kk : ∀ (H1 : Heap) (locs1 : List Loc), Wd g lay E1 H1 → va_S (Ab g) H0 H1 locs1 → W p l e R s m args below meth c H1 locs1 cells slots Q (F0 m (pc + 3) ls rest)) : W p l e R s m args below meth c H locs cells slots Q (F0 m pc ls (.int x :: .ref a :: rest)) :=
  w_put (C := RX2) (T := TX2) (N := 9) (ci := 2) (j := 3) hx hb hown hts hK hge hW hS hla hL rfl rfl (Nat.le_of_ble_eq_true rfl) rfl (by decide) inX2 tyX2 tyX2_ok nmX2 wd_111 rfl rfl (ty := .int) (by decide +kernel) rfl rfl hdg hE kk
theorem p_X0_112 (hx : p.tables.exec = Jvm.exec) (hb : c.code = cc) (hown : s.vm.findClass RX0 = some m.cls) (hts : ∀ w ∈ lw_gd, w.before args s = true) (hK : KK g s) (hge : okL g lay) (hW : Wd g lay E H) (hS : va_S (Ab g) H0 H locs) (hla : lay a = some lineE) (hL : E a = L) {x : Int32} (hdg : decode cc pc = .ok (.putfield 112, 3)) (hE : va_up E a (upd L 7 x) = E1) (kk : ∀ (H1 : Heap) (locs1 : List Loc), Wd g lay E1 H1 → va_S (Ab g) H0 H1 locs1 → W p l e R s m args below meth c H1 locs1 cells slots Q (F0 m (pc + 3) ls rest)) : W p l e R s m args below meth c H locs cells slots Q (F0 m pc ls (.int x :: .ref a :: rest)) :=
  w_put (C := RX2) (T := TX2) (N := 9) (ci := 2) (j := 7) hx hb hown hts hK hge hW hS hla hL rfl rfl (Nat.le_of_ble_eq_true rfl) rfl (by decide) inX2 tyX2 tyX2_ok nmX2 wd_118 rfl rfl (ty := .int) (by decide +kernel) rfl rfl hdg hE kk
theorem p_X0_119 (hx : p.tables.exec = Jvm.exec) (hb : c.code = cc) (hown : s.vm.findClass RX0 = some m.cls) (hts : ∀ w ∈ lw_gd, w.before args s = true) (hK : KK g s) (hge : okL g lay) (hW : Wd g lay E H) (hS : va_S (Ab g) H0 H locs) (hla : lay a = some lineE) (hL : E a = L) {x : Int32} (hdg : decode cc pc = .ok (.putfield 119, 3)) (hE : va_up E a (upd L 6 x) = E1) (kk : ∀ (H1 : Heap) (locs1 : List Loc), Wd g lay E1 H1 → va_S (Ab g) H0 H1 locs1 → W p l e R s m args below meth c H1 locs1 cells slots Q (F0 m (pc + 3) ls rest)) : W p l e R s m args below meth c H locs cells slots Q (F0 m pc ls (.int x :: .ref a :: rest)) :=
  w_put (C := RX2) (T := TX2) (N := 9) (ci := 2) (j := 6) hx hb hown hts hK hge hW hS hla hL rfl rfl (Nat.le_of_ble_eq_true rfl) rfl (by decide) inX2 tyX2 tyX2_ok nmX2 wd_116 rfl rfl (ty := .int) (by decide +kernel) rfl rfl hdg hE kk
theorem p_X0_129 (hx : p.tables.exec = Jvm.exec) (hb : c.code = cc) (hown : s.vm.findClass RX0 = some m.cls) (hts : ∀ w ∈ lw_gd, w.before args s = true) (hK : KK g s) (hge : okL g lay) (hW : Wd g lay E H) (hS : va_S (Ab g) H0 H locs) (hla : lay a = some finE) (hL : E a = L) {x : Int32} (hdg : decode cc pc = .ok (.putfield 129, 3)) (hE : va_up E a (upd L 9 x) = E1) (kk : ∀ (H1 : Heap) (locs1 : List Loc), Wd g lay E1 H1 → va_S (Ab g) H0 H1 locs1 → W p l e R s m args below meth c H1 locs1 cells slots Q (F0 m (pc + 3) ls rest)) : W p l e R s m args below meth c H locs cells slots Q (F0 m pc ls (.int x :: .ref a :: rest)) :=
  w_put (C := RX1) (T := TX1) (N := 10) (ci := 1) (j := 9) hx hb hown hts hK hge hW hS hla hL rfl rfl (Nat.le_of_ble_eq_true rfl) rfl (by decide) inX1 tyX1 tyX1_ok nmX1 wd_164 rfl rfl (ty := .int) (by decide +kernel) rfl rfl hdg hE kk
theorem p_X0_151 (hx : p.tables.exec = Jvm.exec) (hb : c.code = cc) (hown : s.vm.findClass RX0 = some m.cls) (hts : ∀ w ∈ lw_gd, w.before args s = true) (hK : KK g s) (hge : okL g lay) (hW : Wd g lay E H) (hS : va_S (Ab g) H0 H locs) (hla : lay a = some finE) (hL : E a = L) {x : Int32} (hdg : decode cc pc = .ok (.putfield 151, 3)) (hE : va_up E a (upd L 2 x) = E1) (kk : ∀ (H1 : Heap) (locs1 : List Loc), Wd g lay E1 H1 → va_S (Ab g) H0 H1 locs1 → W p l e R s m args below meth c H1 locs1 cells slots Q (F0 m (pc + 3) ls rest)) : W p l e R s m args below meth c H locs cells slots Q (F0 m pc ls (.int x :: .ref a :: rest)) :=
  w_put (C := RX1) (T := TX1) (N := 10) (ci := 1) (j := 2) hx hb hown hts hK hge hW hS hla hL rfl rfl (Nat.le_of_ble_eq_true rfl) rfl (by decide) inX1 tyX1 tyX1_ok nmX1 wd_150 rfl rfl (ty := .int) (by decide +kernel) rfl rfl hdg hE kk
theorem p_X0_181 (hx : p.tables.exec = Jvm.exec) (hb : c.code = cc) (hown : s.vm.findClass RX0 = some m.cls) (hts : ∀ w ∈ lw_gd, w.before args s = true) (hK : KK g s) (hge : okL g lay) (hW : Wd g lay E H) (hS : va_S (Ab g) H0 H locs) (hla : lay a = some finE) (hL : E a = L) {x : Int32} (hdg : decode cc pc = .ok (.putfield 181, 3)) (hE : va_up E a (upd L 1 x) = E1) (kk : ∀ (H1 : Heap) (locs1 : List Loc), Wd g lay E1 H1 → va_S (Ab g) H0 H1 locs1 → W p l e R s m args below meth c H1 locs1 cells slots Q (F0 m (pc + 3) ls rest)) : W p l e R s m args below meth c H locs cells slots Q (F0 m pc ls (.int x :: .ref a :: rest)) :=
  w_put (C := RX1) (T := TX1) (N := 10) (ci := 1) (j := 1) hx hb hown hts hK hge hW hS hla hL rfl rfl (Nat.le_of_ble_eq_true rfl) rfl (by decide) inX1 tyX1 tyX1_ok nmX1 wd_148 rfl rfl (ty := .int) (by decide +kernel) rfl rfl hdg hE kk
theorem p_X0_191 (hx : p.tables.exec = Jvm.exec) (hb : c.code = cc) (hown : s.vm.findClass RX0 = some m.cls) (hts : ∀ w ∈ lw_gd, w.before args s = true) (hK : KK g s) (hge : okL g lay) (hW : Wd g lay E H) (hS : va_S (Ab g) H0 H locs) (hla : lay a = some finE) (hL : E a = L) {x : Int32} (hdg : decode cc pc = .ok (.putfield 191, 3)) (hE : va_up E a (upd L 5 x) = E1) (kk : ∀ (H1 : Heap) (locs1 : List Loc), Wd g lay E1 H1 → va_S (Ab g) H0 H1 locs1 → W p l e R s m args below meth c H1 locs1 cells slots Q (F0 m (pc + 3) ls rest)) : W p l e R s m args below meth c H locs cells slots Q (F0 m pc ls (.int x :: .ref a :: rest)) :=
  w_put (C := RX1) (T := TX1) (N := 10) (ci := 1) (j := 5) hx hb hown hts hK hge hW hS hla hL rfl rfl (Nat.le_of_ble_eq_true rfl) rfl (by decide) inX1 tyX1 tyX1_ok nmX1 wd_156 rfl rfl (ty := .int) (by decide +kernel) rfl rfl hdg hE kk
theorem p_X0_194 (hx : p.tables.exec = Jvm.exec) (hb : c.code = cc) (hown : s.vm.findClass RX0 = some m.cls) (hts : ∀ w ∈ lw_gd, w.before args s = true) (hK : KK g s) (hge : okL g lay) (hW : Wd g lay E H) (hS : va_S (Ab g) H0 H locs) (hla : lay a = some finE) (hL : E a = L) {x : Int32} (hdg : decode cc pc = .ok (.putfield 194, 3)) (hE : va_up E a (upd L 7 x) = E1) (kk : ∀ (H1 : Heap) (locs1 : List Loc), Wd g lay E1 H1 → va_S (Ab g) H0 H1 locs1 → W p l e R s m args below meth c H1 locs1 cells slots Q (F0 m (pc + 3) ls rest)) : W p l e R s m args below meth c H locs cells slots Q (F0 m pc ls (.int x :: .ref a :: rest)) :=
  w_put (C := RX1) (T := TX1) (N := 10) (ci := 1) (j := 7) hx hb hown hts hK hge hW hS hla hL rfl rfl (Nat.le_of_ble_eq_true rfl) rfl (by decide) inX1 tyX1 tyX1_ok nmX1 wd_160 rfl rfl (ty := .int) (by decide +kernel) rfl rfl hdg hE kk
theorem p_X0_197 (hx : p.tables.exec = Jvm.exec) (hb : c.code = cc) (hown : s.vm.findClass RX0 = some m.cls) (hts : ∀ w ∈ lw_gd, w.before args s = true) (hK : KK g s) (hge : okL g lay) (hW : Wd g lay E H) (hS : va_S (Ab g) H0 H locs) (hla : lay a = some finE) (hL : E a = L) {x : Int32} (hdg : decode cc pc = .ok (.putfield 197, 3)) (hE : va_up E a (upd L 3 x) = E1) (kk : ∀ (H1 : Heap) (locs1 : List Loc), Wd g lay E1 H1 → va_S (Ab g) H0 H1 locs1 → W p l e R s m args below meth c H1 locs1 cells slots Q (F0 m (pc + 3) ls rest)) : W p l e R s m args below meth c H locs cells slots Q (F0 m pc ls (.int x :: .ref a :: rest)) :=
  w_put (C := RX1) (T := TX1) (N := 10) (ci := 1) (j := 3) hx hb hown hts hK hge hW hS hla hL rfl rfl (Nat.le_of_ble_eq_true rfl) rfl (by decide) inX1 tyX1 tyX1_ok nmX1 wd_152 rfl rfl (ty := .int) (by decide +kernel) rfl rfl hdg hE kk
theorem p_X0_204 (hx : p.tables.exec = Jvm.exec) (hb : c.code = cc) (hown : s.vm.findClass RX0 = some m.cls) (hts : ∀ w ∈ lw_gd, w.before args s = true) (hK : KK g s) (hge : okL g lay) (hW : Wd g lay E H) (hS : va_S (Ab g) H0 H locs) (hla : lay a = some finE) (hL : E a = L) {x : Int32} (hdg : decode cc pc = .ok (.putfield 204, 3)) (hE : va_up E a (upd L 4 x) = E1) (kk : ∀ (H1 : Heap) (locs1 : List Loc), Wd g lay E1 H1 → va_S (Ab g) H0 H1 locs1 → W p l e R s m args below meth c H1 locs1 cells slots Q (F0 m (pc + 3) ls rest)) : W p l e R s m args below meth c H locs cells slots Q (F0 m pc ls (.int x :: .ref a :: rest)) :=
  w_put (C := RX1) (T := TX1) (N := 10) (ci := 1) (j := 4) hx hb hown hts hK hge hW hS hla hL rfl rfl (Nat.le_of_ble_eq_true rfl) rfl (by decide) inX1 tyX1 tyX1_ok nmX1 wd_154 rfl rfl (ty := .int) (by decide +kernel) rfl rfl hdg hE kk
theorem p_X0_211 (hx : p.tables.exec = Jvm.exec) (hb : c.code = cc) (hown : s.vm.findClass RX0 = some m.cls) (hts : ∀ w ∈ lw_gd, w.before args s = true) (hK : KK g s) (hge : okL g lay) (hW : Wd g lay E H) (hS : va_S (Ab g) H0 H locs) (hla : lay a = some finE) (hL : E a = L) {x : Int32} (hdg : decode cc pc = .ok (.putfield 211, 3)) (hE : va_up E a (upd L 6 x) = E1) (kk : ∀ (H1 : Heap) (locs1 : List Loc), Wd g lay E1 H1 → va_S (Ab g) H0 H1 locs1 → W p l e R s m args below meth c H1 locs1 cells slots Q (F0 m (pc + 3) ls rest)) : W p l e R s m args below meth c H locs cells slots Q (F0 m pc ls (.int x :: .ref a :: rest)) :=
  w_put (C := RX1) (T := TX1) (N := 10) (ci := 1) (j := 6) hx hb hown hts hK hge hW hS hla hL rfl rfl (Nat.le_of_ble_eq_true rfl) rfl (by decide) inX1 tyX1 tyX1_ok nmX1 wd_158 rfl rfl (ty := .int) (by decide +kernel) rfl rfl hdg hE kk
theorem p_X0_214 (hx : p.tables.exec = Jvm.exec) (hb : c.code = cc) (hown : s.vm.findClass RX0 = some m.cls) (hts : ∀ w ∈ lw_gd, w.before args s = true) (hK : KK g s) (hge : okL g lay) (hW : Wd g lay E H) (hS : va_S (Ab g) H0 H locs) (hla : lay a = some lineE) (hL : E a = L) {x : Int32} (hdg : decode cc pc = .ok (.putfield 214, 3)) (hE : va_up E a (upd L 2 x) = E1) (kk : ∀ (H1 : Heap) (locs1 : List Loc), Wd g lay E1 H1 → va_S (Ab g) H0 H1 locs1 → W p l e R s m args below meth c H1 locs1 cells slots Q (F0 m (pc + 3) ls rest)) : W p l e R s m args below meth c H locs cells slots Q (F0 m pc ls (.int x :: .ref a :: rest)) :=
  w_put (C := RX2) (T := TX2) (N := 9) (ci := 2) (j := 2) hx hb hown hts hK hge hW hS hla hL rfl rfl (Nat.le_of_ble_eq_true rfl) rfl (by decide) inX2 tyX2 tyX2_ok nmX2 wd_109 rfl rfl (ty := .int) (by decide +kernel) rfl rfl hdg hE kk
theorem p_X0_217 (hx : p.tables.exec = Jvm.exec) (hb : c.code = cc) (hown : s.vm.findClass RX0 = some m.cls) (hts : ∀ w ∈ lw_gd, w.before args s = true) (hK : KK g s) (hge : okL g lay) (hW : Wd g lay E H) (hS : va_S (Ab g) H0 H locs) (hla : lay a = some finE) (hL : E a = L) {x : Int32} (hdg : decode cc pc = .ok (.putfield 217, 3)) (hE : va_up E a (upd L 8 x) = E1) (kk : ∀ (H1 : Heap) (locs1 : List Loc), Wd g lay E1 H1 → va_S (Ab g) H0 H1 locs1 → W p l e R s m args below meth c H1 locs1 cells slots Q (F0 m (pc + 3) ls rest)) : W p l e R s m args below meth c H locs cells slots Q (F0 m pc ls (.int x :: .ref a :: rest)) :=
  w_put (C := RX1) (T := TX1) (N := 10) (ci := 1) (j := 8) hx hb hown hts hK hge hW hS hla hL rfl rfl (Nat.le_of_ble_eq_true rfl) rfl (by decide) inX1 tyX1 tyX1_ok nmX1 wd_162 rfl rfl (ty := .int) (by decide +kernel) rfl rfl hdg hE kk
theorem g_X1_9 (hx : p.tables.exec = Jvm.exec) (hb : c.code = cc) (hown : s.vm.findClass RX1 = some m.cls) (hts : ∀ w ∈ lw_gd, w.before args s = true) (hK : KK g s) (hW : Wd g lay E H) (hla : lay a = some finE) (hL : E a = L) (hdg : decode cc pc = .ok (.getfield 9, 3)) (kk : W p l e R s m args below meth c H locs cells slots Q (F0 m (pc + 3) ls (.int (L 0) :: rest))) : W p l e R s m args below meth c H locs cells slots Q (F0 m pc ls (.ref a :: rest)) :=
  w_get (C := RX1) (T := TX1) (N := 10) (ci := 1) (j := 0) hx hb hown hts hK hW hla hL rfl rfl rfl (by decide) inX1 wd_145 rfl hdg kk
theorem g_X1_15 (hx : p.tables.exec = Jvm.exec) (hb : c.code = cc) (hown : s.vm.findClass RX1 = some m.cls) (hts : ∀ w ∈ lw_gd, w.before args s = true) (hK : KK g s) (hW : Wd g lay E H) (hla : lay a = some finE) (hL : E a = L) (hdg : decode cc pc = .ok (.getfield 15, 3)) (kk : W p l e R s m args below meth c H locs cells slots Q (F0 m (pc + 3) ls (.int (L 1) :: rest))) : W p l e R s m args below meth c H locs cells slots Q (F0 m pc ls (.ref a :: rest)) :=
  w_get (C := RX1) (T := TX1) (N := 10) (ci := 1) (j := 1) hx hb hown hts hK hW hla hL rfl rfl rfl (by decide) inX1 wd_147 rfl hdg kk
theorem g_X1_18 (hx : p.tables.exec = Jvm.exec) (hb : c.code = cc) (hown : s.vm.findClass RX1 = some m.cls) (hts : ∀ w ∈ lw_gd, w.before args s = true) (hK : KK g s) (hW : Wd g lay E H) (hla : lay a = some finE) (hL : E a = L) (hdg : decode cc pc = .ok (.getfield 18, 3)) (kk : W p l e R s m args below meth c H locs cells slots Q (F0 m (pc + 3) ls (.int (L 2) :: rest))) : W p l e R s m args below meth c H locs cells slots Q (F0 m pc ls (.ref a :: rest)) :=
  w_get (C := RX1) (T := TX1) (N := 10) (ci := 1) (j := 2) hx hb hown hts hK hW hla hL rfl rfl rfl (by decide) inX1 wd_149 rfl hdg kk
theorem g_X1_21 (hx : p.tables.exec = Jvm.exec) (hb : c.code = cc) (hown : s.vm.findClass RX1 = some m.cls) (hts : ∀ w ∈ lw_gd, w.before args s = true) (hK : KK g s) (hW : Wd g lay E H) (hla : lay a = some finE) (hL : E a = L) (hdg : decode cc pc = .ok (.getfield 21, 3)) (kk : W p l e R s m args below meth c H locs cells slots Q (F0 m (pc + 3) ls (.int (L 3) :: rest))) : W p l e R s m args below meth c H locs cells slots Q (F0 m pc ls (.ref a :: rest)) :=
  w_get (C := RX1) (T := TX1) (N := 10) (ci := 1) (j := 3) hx hb hown hts hK hW hla hL rfl rfl rfl (by decide) inX1 wd_151 rfl hdg kk
theorem g_X1_24 (hx : p.tables.exec = Jvm.exec) (hb : c.code = cc) (hown : s.vm.findClass RX1 = some m.cls) (hts : ∀ w ∈ lw_gd, w.before args s = true) (hK : KK g s) (hW : Wd g lay E H) (hla : lay a = some finE) (hL : E a = L) (hdg : decode cc pc = .ok (.getfield 24, 3)) (kk : W p l e R s m args below meth c H locs cells slots Q (F0 m (pc + 3) ls (.int (L 4) :: rest))) : W p l e R s m args below meth c H locs cells slots Q (F0 m pc ls (.ref a :: rest)) :=
  w_get (C := RX1) (T := TX1) (N := 10) (ci := 1) (j := 4) hx hb hown hts hK hW hla hL rfl rfl rfl (by decide) inX1 wd_153 rfl hdg kk
theorem g_X1_27 (hx : p.tables.exec = Jvm.exec) (hb : c.code = cc) (hown : s.vm.findClass RX1 = some m.cls) (hts : ∀ w ∈ lw_gd, w.before args s = true) (hK : KK g s) (hW : Wd g lay E H) (hla : lay a = some finE) (hL : E a = L) (hdg : decode cc pc = .ok (.getfield 27, 3)) (kk : W p l e R s m args below meth c H locs cells slots Q (F0 m (pc + 3) ls (.int (L 5) :: rest))) : W p l e R s m args below meth c H locs cells slots Q (F0 m pc ls (.ref a :: rest)) :=
  w_get (C := RX1) (T := TX1) (N := 10) (ci := 1) (j := 5) hx hb hown hts hK hW hla hL rfl rfl rfl (by decide) inX1 wd_155 rfl hdg kk
theorem g_X1_30 (hx : p.tables.exec = Jvm.exec) (hb : c.code = cc) (hown : s.vm.findClass RX1 = some m.cls) (hts : ∀ w ∈ lw_gd, w.before args s = true) (hK : KK g s) (hW : Wd g lay E H) (hla : lay a = some finE) (hL : E a = L) (hdg : decode cc pc = .ok (.getfield 30, 3)) (kk : W p l e R s m args below meth c H locs cells slots Q (F0 m (pc + 3) ls (.int (L 6) :: rest))) : W p l e R s m args below meth c H locs cells slots Q (F0 m pc ls (.ref a :: rest)) :=
  w_get (C := RX1) (T := TX1) (N := 10) (ci := 1) (j := 6) hx hb hown hts hK hW hla hL rfl rfl rfl (by decide) inX1 wd_157 rfl hdg kk
theorem g_X1_33 (hx : p.tables.exec = Jvm.exec) (hb : c.code = cc) (hown : s.vm.findClass RX1 = some m.cls) (hts : ∀ w ∈ lw_gd, w.before args s = true) (hK : KK g s) (hW : Wd g lay E H) (hla : lay a = some finE) (hL : E a = L) (hdg : decode cc pc = .ok (.getfield 33, 3)) (kk : W p l e R s m args below meth c H locs cells slots Q (F0 m (pc + 3) ls (.int (L 7) :: rest))) : W p l e R s m args below meth c H locs cells slots Q (F0 m pc ls (.ref a :: rest)) :=
  w_get (C := RX1) (T := TX1) (N := 10) (ci := 1) (j := 7) hx hb hown hts hK hW hla hL rfl rfl rfl (by decide) inX1 wd_159 rfl hdg kk
theorem g_X1_36 (hx : p.tables.exec = Jvm.exec) (hb : c.code = cc) (hown : s.vm.findClass RX1 = some m.cls) (hts : ∀ w ∈ lw_gd, w.before args s = true) (hK : KK g s) (hW : Wd g lay E H) (hla : lay a = some finE) (hL : E a = L) (hdg : decode cc pc = .ok (.getfield 36, 3)) (kk : W p l e R s m args below meth c H locs cells slots Q (F0 m (pc + 3) ls (.int (L 8) :: rest))) : W p l e R s m args below meth c H locs cells slots Q (F0 m pc ls (.ref a :: rest)) :=
  w_get (C := RX1) (T := TX1) (N := 10) (ci := 1) (j := 8) hx hb hown hts hK hW hla hL rfl rfl rfl (by decide) inX1 wd_161 rfl hdg kk
theorem g_X1_39 (hx : p.tables.exec = Jvm.exec) (hb : c.code = cc) (hown : s.vm.findClass RX1 = some m.cls) (hts : ∀ w ∈ lw_gd, w.before args s = true) (hK : KK g s) (hW : Wd g lay E H) (hla : lay a = some finE) (hL : E a = L) (hdg : decode cc pc = .ok (.getfield 39, 3)) (kk : W p l e R s m args below meth c H locs cells slots Q (F0 m (pc + 3) ls (.int (L 9) :: rest))) : W p l e R s m args below meth c H locs cells slots Q (F0 m pc ls (.ref a :: rest)) :=
  w_get (C := RX1) (T := TX1) (N := 10) (ci := 1) (j := 9) hx hb hown hts hK hW hla hL rfl rfl rfl (by decide) inX1 wd_163 rfl hdg kk
theorem p_X1_9 (hx : p.tables.exec = Jvm.exec) (hb : c.code = cc) (hown : s.vm.findClass RX1 = some m.cls) (hts : ∀ w ∈ lw_gd, w.before args s = true) (hK : KK g s) (hge : okL g lay) (hW : Wd g lay E H) (hS : va_S (Ab g) H0 H locs) (hla : lay a = some finE) (hL : E a = L) {x : Int32} (hdg : decode cc pc = .ok (.putfield 9, 3)) (hE : va_up E a (upd L 0 x) = E1) (kk : ∀ (H1 : Heap) (locs1 : List Loc), Wd g lay E1 H1 → va_S (Ab g) H0 H1 locs1 → W p l e R s m args below meth c H1 locs1 cells slots Q (F0 m (pc + 3) ls rest)) : W p l e R s m args below meth c H locs cells slots Q (F0 m pc ls (.int x :: .ref a :: rest)) :=
  w_put (C := RX1) (T := TX1) (N := 10) (ci := 1) (j := 0) hx hb hown hts hK hge hW hS hla hL rfl rfl (Nat.le_of_ble_eq_true rfl) rfl (by decide) inX1 tyX1 tyX1_ok nmX1 wd_145 rfl rfl (ty := .int) (by decide +kernel) rfl rfl hdg hE kk
theorem p_X1_15 (hx : p.tables.exec = Jvm.exec) (hb : c.code = cc) (hown : s.vm.findClass RX1 = some m.cls) (hts : ∀ w ∈ lw_gd, w.before args s = true) (hK : KK g s) (hge : okL g lay) (hW : Wd g lay E H) (hS : va_S (Ab g) H0 H locs) (hla : lay a = some finE) (hL : E a = L) {x : Int32} (hdg : decode cc pc = .ok (.putfield 15, 3)) (hE : va_up E a (upd L 1 x) = E1) (kk : ∀ (H1 : Heap) (locs1 : List Loc), Wd g lay E1 H1 → va_S (Ab g) H0 H1 locs1 → W p l e R s m args below meth c H1 locs1 cells slots Q (F0 m (pc + 3) ls rest)) : W p l e R s m args below meth c H locs cells slots Q (F0 m pc ls (.int x :: .ref a :: rest)) :=
  w_put (C := RX1) (T := TX1) (N := 10) (ci := 1) (j := 1) hx hb hown hts hK hge hW hS hla hL rfl rfl (Nat.le_of_ble_eq_true rfl) rfl (by decide) inX1 tyX1 tyX1_ok nmX1 wd_147 rfl rfl (ty := .int) (by decide +kernel) rfl rfl hdg hE kk
theorem p_X1_18 (hx : p.tables.exec = Jvm.exec) (hb : c.code = cc) (hown : s.vm.findClass RX1 = some m.cls) (hts : ∀ w ∈ lw_gd, w.before args s = true) (hK : KK g s) (hge : okL g lay) (hW : Wd g lay E H) (hS : va_S (Ab g) H0 H locs) (hla : lay a = some finE) (hL : E a = L) {x : Int32} (hdg : decode cc pc = .ok (.putfield 18, 3)) (hE : va_up E a (upd L 2 x) = E1) (kk : ∀ (H1 : Heap) (locs1 : List Loc), Wd g lay E1 H1 → va_S (Ab g) H0 H1 locs1 → W p l e R s m args below meth c H1 locs1 cells slots Q (F0 m (pc + 3) ls rest)) : W p l e R s m args below meth c H locs cells slots Q (F0 m pc ls (.int x :: .ref a :: rest)) :=
  w_put (C := RX1) (T := TX1) (N := 10) (ci := 1) (j := 2) hx hb hown hts hK hge hW hS hla hL rfl rfl (Nat.le_of_ble_eq_true rfl) rfl (by decide) inX1 tyX1 tyX1_ok nmX1 wd_149 rfl rfl (ty := .int) (by decide +kernel) rfl rfl hdg hE kk
theorem p_X1_21 (hx : p.tables.exec = Jvm.exec) (hb : c.code = cc) (hown : s.vm.findClass RX1 = some m.cls) (hts : ∀ w ∈ lw_gd, w.before args s = true) (hK : KK g s) (hge : okL g lay) (hW : Wd g lay E H) (hS : va_S (Ab g) H0 H locs) (hla : lay a = some finE) (hL : E a = L) {x : Int32} (hdg : decode cc pc = .ok (.putfield 21, 3)) (hE : va_up E a (upd L 3 x) = E1) (kk : ∀ (H1 : Heap) (locs1 : List Loc), Wd g lay E1 H1 → va_S (Ab g) H0 H1 locs1 → W p l e R s m args below meth c H1 locs1 cells slots Q (F0 m (pc + 3) ls rest)) : W p l e R s m args below meth c H locs cells slots Q (F0 m pc ls (.int x :: .ref a :: rest)) :=
  w_put (C := RX1) (T := TX1) (N := 10) (ci := 1) (j := 3) hx hb hown hts hK hge hW hS hla hL rfl rfl (Nat.le_of_ble_eq_true rfl) rfl (by decide) inX1 tyX1 tyX1_ok nmX1 wd_151 rfl rfl (ty := .int) (by decide +kernel) rfl rfl hdg hE kk
theorem p_X1_24 (hx : p.tables.exec = Jvm.exec) (hb : c.code = cc) (hown : s.vm.findClass RX1 = some m.cls) (hts : ∀ w ∈ lw_gd, w.before args s = true) (hK : KK g s) (hge : okL g lay) (hW : Wd g lay E H) (hS : va_S (Ab g) H0 H locs) (hla : lay a = some finE) (hL : E a = L) {x : Int32} (hdg : decode cc pc = .ok (.putfield 24, 3)) (hE : va_up E a (upd L 4 x) = E1) (kk : ∀ (H1 : Heap) (locs1 : List Loc), Wd g lay E1 H1 → va_S (Ab g) H0 H1 locs1 → W p l e R s m args below meth c H1 locs1 cells slots Q (F0 m (pc + 3) ls rest)) : W p l e R s m args below meth c H locs cells slots Q (F0 m pc ls (.int x :: .ref a :: rest)) :=
  w_put (C := RX1) (T := TX1) (N := 10) (ci := 1) (j := 4) hx hb hown hts hK hge hW hS hla hL rfl rfl (Nat.le_of_ble_eq_true rfl) rfl (by decide) inX1 tyX1 tyX1_ok nmX1 wd_153 rfl rfl (ty := .int) (by decide +kernel) rfl rfl hdg hE kk
theorem p_X1_27 (hx : p.tables.exec = Jvm.exec) (hb : c.code = cc) (hown : s.vm.findClass RX1 = some m.cls) (hts : ∀ w ∈ lw_gd, w.before args s = true) (hK : KK g s) (hge : okL g lay) (hW : Wd g lay E H) (hS : va_S (Ab g) H0 H locs) (hla : lay a = some finE) (hL : E a = L) {x : Int32} (hdg : decode cc pc = .ok (.putfield 27, 3)) (hE : va_up E a (upd L 5 x) = E1) (kk : ∀ (H1 : Heap) (locs1 : List Loc), Wd g lay E1 H1 → va_S (Ab g) H0 H1 locs1 → W p l e R s m args below meth c H1 locs1 cells slots Q (F0 m (pc + 3) ls rest)) : W p l e R s m args below meth c H locs cells slots Q (F0 m pc ls (.int x :: .ref a :: rest)) :=
  w_put (C := RX1) (T := TX1) (N := 10) (ci := 1) (j := 5) hx hb hown hts hK hge hW hS hla hL rfl rfl (Nat.le_of_ble_eq_true rfl) rfl (by decide) inX1 tyX1 tyX1_ok nmX1 wd_155 rfl rfl (ty := .int) (by decide +kernel) rfl rfl hdg hE kk
theorem p_X1_30 (hx : p.tables.exec = Jvm.exec) (hb : c.code = cc) (hown : s.vm.findClass RX1 = some m.cls) (hts : ∀ w ∈ lw_gd, w.before args s = true) (hK : KK g s) (hge : okL g lay) (hW : Wd g lay E H) (hS : va_S (Ab g) H0 H locs) (hla : lay a = some finE) (hL : E a = L) {x : Int32} (hdg : decode cc pc = .ok (.putfield 30, 3)) (hE : va_up E a (upd L 6 x) = E1) (kk : ∀ (H1 : Heap) (locs1 : List Loc), Wd g lay E1 H1 → va_S (Ab g) H0 H1 locs1 → W p l e R s m args below meth c H1 locs1 cells slots Q (F0 m (pc + 3) ls rest)) : W p l e R s m args below meth c H locs cells slots Q (F0 m pc ls (.int x :: .ref a :: rest)) :=
  w_put (C := RX1) (T := TX1) (N := 10) (ci := 1) (j := 6) hx hb hown hts hK hge hW hS hla hL rfl rfl (Nat.le_of_ble_eq_true rfl) rfl (by decide) inX1 tyX1 tyX1_ok nmX1 wd_157 rfl rfl (ty := .int) (by decide +kernel) rfl rfl hdg hE kk
theorem p_X1_33 (hx : p.tables.exec = Jvm.exec) (hb : c.code = cc) (hown : s.vm.findClass RX1 = some m.cls) (hts : ∀ w ∈ lw_gd, w.before args s = true) (hK : KK g s) (hge : okL g lay) (hW : Wd g lay E H) (hS : va_S (Ab g) H0 H locs) (hla : lay a = some finE) (hL : E a = L) {x : Int32} (hdg : decode cc pc = .ok (.putfield 33, 3)) (hE : va_up E a (upd L 7 x) = E1) (kk : ∀ (H1 : Heap) (locs1 : List Loc), Wd g lay E1 H1 → va_S (Ab g) H0 H1 locs1 → W p l e R s m args below meth c H1 locs1 cells slots Q (F0 m (pc + 3) ls rest)) : W p l e R s m args below meth c H locs cells slots Q (F0 m pc ls (.int x :: .ref a :: rest)) :=
  w_put (C := RX1) (T := TX1) (N := 10) (ci := 1) (j := 7) hx hb hown hts hK hge hW hS hla hL rfl rfl (Nat.le_of_ble_eq_true rfl) rfl (by decide) inX1 tyX1 tyX1_ok nmX1 wd_159 rfl rfl (ty := .int) (by decide +kernel) rfl rfl hdg hE kk
theorem p_X1_36 (hx : p.tables.exec = Jvm.exec) (hb : c.code = cc) (hown : s.vm.findClass RX1 = some m.cls) (hts : ∀ w ∈ lw_gd, w.before args s = true) (hK : KK g s) (hge : okL g lay) (hW : Wd g lay E H) (hS : va_S (Ab g) H0 H locs) (hla : lay a = some finE) (hL : E a = L) {x : Int32} (hdg : decode cc pc = .ok (.putfield 36, 3)) (hE : va_up E a (upd L 8 x) = E1) (kk : ∀ (H1 : Heap) (locs1 : List Loc), Wd g lay E1 H1 → va_S (Ab g) H0 H1 locs1 → W p l e R s m args below meth c H1 locs1 cells slots Q (F0 m (pc + 3) ls rest)) : W p l e R s m args below meth c H locs cells slots Q (F0 m pc ls (.int x :: .ref a :: rest)) :=
  w_put (C := RX1) (T := TX1) (N := 10) (ci := 1) (j := 8) hx hb hown hts hK hge hW hS hla hL rfl rfl (Nat.le_of_ble_eq_true rfl) rfl (by decide) inX1 tyX1 tyX1_ok nmX1 wd_161 rfl rfl (ty := .int) (by decide +kernel) rfl rfl hdg hE kk
theorem p_X1_39 (hx : p.tables.exec = Jvm.exec) (hb : c.code = cc) (hown : s.vm.findClass RX1 = some m.cls) (hts : ∀ w ∈ lw_gd, w.before args s = true) (hK : KK g s) (hge : okL g lay) (hW : Wd g lay E H) (hS : va_S (Ab g) H0 H locs) (hla : lay a = some finE) (hL : E a = L) {x : Int32} (hdg : decode cc pc = .ok (.putfield 39, 3)) (hE : va_up E a (upd L 9 x) = E1) (kk : ∀ (H1 : Heap) (locs1 : List Loc), Wd g lay E1 H1 → va_S (Ab g) H0 H1 locs1 → W p l e R s m args below meth c H1 locs1 cells slots Q (F0 m (pc + 3) ls rest)) : W p l e R s m args below meth c H locs cells slots Q (F0 m pc ls (.int x :: .ref a :: rest)) :=
  w_put (C := RX1) (T := TX1) (N := 10) (ci := 1) (j := 9) hx hb hown hts hK hge hW hS hla hL rfl rfl (Nat.le_of_ble_eq_true rfl) rfl (by decide) inX1 tyX1 tyX1_ok nmX1 wd_163 rfl rfl (ty := .int) (by decide +kernel) rfl rfl hdg hE kk
theorem g_X2_9 (hx : p.tables.exec = Jvm.exec) (hb : c.code = cc) (hown : s.vm.findClass RX2 = some m.cls) (hts : ∀ w ∈ lw_gd, w.before args s = true) (hK : KK g s) (hW : Wd g lay E H) (hla : lay a = some lineE) (hL : E a = L) (hdg : decode cc pc = .ok (.getfield 9, 3)) (kk : W p l e R s m args below meth c H locs cells slots Q (F0 m (pc + 3) ls (.int (L 0) :: rest))) : W p l e R s m args below meth c H locs cells slots Q (F0 m pc ls (.ref a :: rest)) :=
  w_get (C := RX2) (T := TX2) (N := 9) (ci := 2) (j := 0) hx hb hown hts hK hW hla hL rfl rfl rfl (by decide) inX2 wd_103 rfl hdg kk
theorem g_X2_15 (hx : p.tables.exec = Jvm.exec) (hb : c.code = cc) (hown : s.vm.findClass RX2 = some m.cls) (hts : ∀ w ∈ lw_gd, w.before args s = true) (hK : KK g s) (hW : Wd g lay E H) (hla : lay a = some lineE) (hL : E a = L) (hdg : decode cc pc = .ok (.getfield 15, 3)) (kk : W p l e R s m args below meth c H locs cells slots Q (F0 m (pc + 3) ls (.int (L 1) :: rest))) : W p l e R s m args below meth c H locs cells slots Q (F0 m pc ls (.ref a :: rest)) :=
  w_get (C := RX2) (T := TX2) (N := 9) (ci := 2) (j := 1) hx hb hown hts hK hW hla hL rfl rfl rfl (by decide) inX2 wd_106 rfl hdg kk
theorem g_X2_19 (hx : p.tables.exec = Jvm.exec) (hb : c.code = cc) (hown : s.vm.findClass RX2 = some m.cls) (hts : ∀ w ∈ lw_gd, w.before args s = true) (hK : KK g s) (hW : Wd g lay E H) (hla : lay a = some lineE) (hL : E a = L) (hdg : decode cc pc = .ok (.getfield 19, 3)) (kk : W p l e R s m args below meth c H locs cells slots Q (F0 m (pc + 3) ls (.int (L 2) :: rest))) : W p l e R s m args below meth c H locs cells slots Q (F0 m pc ls (.ref a :: rest)) :=
  w_get (C := RX2) (T := TX2) (N := 9) (ci := 2) (j := 2) hx hb hown hts hK hW hla hL rfl rfl rfl (by decide) inX2 wd_108 rfl hdg kk
theorem g_X2_22 (hx : p.tables.exec = Jvm.exec) (hb : c.code = cc) (hown : s.vm.findClass RX2 = some m.cls) (hts : ∀ w ∈ lw_gd, w.before args s = true) (hK : KK g s) (hW : Wd g lay E H) (hla : lay a = some lineE) (hL : E a = L) (hdg : decode cc pc = .ok (.getfield 22, 3)) (kk : W p l e R s m args below meth c H locs cells slots Q (F0 m (pc + 3) ls (.int (L 3) :: rest))) : W p l e R s m args below meth c H locs cells slots Q (F0 m pc ls (.ref a :: rest)) :=
  w_get (C := RX2) (T := TX2) (N := 9) (ci := 2) (j := 3) hx hb hown hts hK hW hla hL rfl rfl rfl (by decide) inX2 wd_110 rfl hdg kk
theorem g_X2_25 (hx : p.tables.exec = Jvm.exec) (hb : c.code = cc) (hown : s.vm.findClass RX2 = some m.cls) (hts : ∀ w ∈ lw_gd, w.before args s = true) (hK : KK g s) (hW : Wd g lay E H) (hla : lay a = some lineE) (hL : E a = L) (hdg : decode cc pc = .ok (.getfield 25, 3)) (kk : W p l e R s m args below meth c H locs cells slots Q (F0 m (pc + 3) ls (.int (L 4) :: rest))) : W p l e R s m args below meth c H locs cells slots Q (F0 m pc ls (.ref a :: rest)) :=
  w_get (C := RX2) (T := TX2) (N := 9) (ci := 2) (j := 4) hx hb hown hts hK hW hla hL rfl rfl rfl (by decide) inX2 wd_112 rfl hdg kk
theorem g_X2_28 (hx : p.tables.exec = Jvm.exec) (hb : c.code = cc) (hown : s.vm.findClass RX2 = some m.cls) (hts : ∀ w ∈ lw_gd, w.before args s = true) (hK : KK g s) (hW : Wd g lay E H) (hla : lay a = some lineE) (hL : E a = L) (hdg : decode cc pc = .ok (.getfield 28, 3)) (kk : W p l e R s m args below meth c H locs cells slots Q (F0 m (pc + 3) ls (.int (L 5) :: rest))) : W p l e R s m args below meth c H locs cells slots Q (F0 m pc ls (.ref a :: rest)) :=
  w_get (C := RX2) (T := TX2) (N := 9) (ci := 2) (j := 5) hx hb hown hts hK hW hla hL rfl rfl rfl (by decide) inX2 wd_113 rfl hdg kk
theorem g_X2_31 (hx : p.tables.exec = Jvm.exec) (hb : c.code = cc) (hown : s.vm.findClass RX2 = some m.cls) (hts : ∀ w ∈ lw_gd, w.before args s = true) (hK : KK g s) (hW : Wd g lay E H) (hla : lay a = some lineE) (hL : E a = L) (hdg : decode cc pc = .ok (.getfield 31, 3)) (kk : W p l e R s m args below meth c H locs cells slots Q (F0 m (pc + 3) ls (.int (L 6) :: rest))) : W p l e R s m args below meth c H locs cells slots Q (F0 m pc ls (.ref a :: rest)) :=
  w_get (C := RX2) (T := TX2) (N := 9) (ci := 2) (j := 6) hx hb hown hts hK hW hla hL rfl rfl rfl (by decide) inX2 wd_115 rfl hdg kk
theorem g_X2_34 (hx : p.tables.exec = Jvm.exec) (hb : c.code = cc) (hown : s.vm.findClass RX2 = some m.cls) (hts : ∀ w ∈ lw_gd, w.before args s = true) (hK : KK g s) (hW : Wd g lay E H) (hla : lay a = some lineE) (hL : E a = L) (hdg : decode cc pc = .ok (.getfield 34, 3)) (kk : W p l e R s m args below meth c H locs cells slots Q (F0 m (pc + 3) ls (.int (L 7) :: rest))) : W p l e R s m args below meth c H locs cells slots Q (F0 m pc ls (.ref a :: rest)) :=
  w_get (C := RX2) (T := TX2) (N := 9) (ci := 2) (j := 7) hx hb hown hts hK hW hla hL rfl rfl rfl (by decide) inX2 wd_117 rfl hdg kk
theorem g_X2_37 (hx : p.tables.exec = Jvm.exec) (hb : c.code = cc) (hown : s.vm.findClass RX2 = some m.cls) (hts : ∀ w ∈ lw_gd, w.before args s = true) (hK : KK g s) (hW : Wd g lay E H) (hla : lay a = some lineE) (hL : E a = L) (hdg : decode cc pc = .ok (.getfield 37, 3)) (kk : W p l e R s m args below meth c H locs cells slots Q (F0 m (pc + 3) ls (.int (L 8) :: rest))) : W p l e R s m args below meth c H locs cells slots Q (F0 m pc ls (.ref a :: rest)) :=
  w_get (C := RX2) (T := TX2) (N := 9) (ci := 2) (j := 8) hx hb hown hts hK hW hla hL rfl rfl rfl (by decide) inX2 wd_119 rfl hdg kk
theorem p_X2_9 (hx : p.tables.exec = Jvm.exec) (hb : c.code = cc) (hown : s.vm.findClass RX2 = some m.cls) (hts : ∀ w ∈ lw_gd, w.before args s = true) (hK : KK g s) (hge : okL g lay) (hW : Wd g lay E H) (hS : va_S (Ab g) H0 H locs) (hla : lay a = some lineE) (hL : E a = L) {x : Int32} (hdg : decode cc pc = .ok (.putfield 9, 3)) (hE : va_up E a (upd L 0 x) = E1) (kk : ∀ (H1 : Heap) (locs1 : List Loc), Wd g lay E1 H1 → va_S (Ab g) H0 H1 locs1 → W p l e R s m args below meth c H1 locs1 cells slots Q (F0 m (pc + 3) ls rest)) : W p l e R s m args below meth c H locs cells slots Q (F0 m pc ls (.int x :: .ref a :: rest)) :=
  w_put (C := RX2) (T := TX2) (N := 9) (ci := 2) (j := 0) hx hb hown hts hK hge hW hS hla hL rfl rfl (Nat.le_of_ble_eq_true rfl) rfl (by decide) inX2 tyX2 tyX2_ok nmX2 wd_103 rfl rfl (ty := .int) (by decide +kernel) rfl rfl hdg hE kk
theorem p_X2_15 (hx : p.tables.exec = Jvm.exec) (hb : c.code = cc) (hown : s.vm.findClass RX2 = some m.cls) (hts : ∀ w ∈ lw_gd, w.before args s = true) (hK : KK g s) (hge : okL g lay) (hW : Wd g lay E H) (hS : va_S (Ab g) H0 H locs) (hla : lay a = some lineE) (hL : E a = L) {x : Int32} (hz : x = 0 ∨ x = 1) (hdg : decode cc pc = .ok (.putfield 15, 3)) (hE : va_up E a (upd L 1 x) = E1) (kk : ∀ (H1 : Heap) (locs1 : List Loc), Wd g lay E1 H1 → va_S (Ab g) H0 H1 locs1 → W p l e R s m args below meth c H1 locs1 cells slots Q (F0 m (pc + 3) ls rest)) : W p l e R s m args below meth c H locs cells slots Q (F0 m pc ls (.int x :: .ref a :: rest)) :=
  w_put (C := RX2) (T := TX2) (N := 9) (ci := 2) (j := 1) hx hb hown hts hK hge hW hS hla hL rfl rfl (Nat.le_of_ble_eq_true rfl) rfl (by decide) inX2 tyX2 tyX2_ok nmX2 wd_106 rfl rfl (ty := .boolean) (by decide +kernel) (narZ hz) (fitZ hz) hdg hE kk
theorem p_X2_19 (hx : p.tables.exec = Jvm.exec) (hb : c.code = cc) (hown : s.vm.findClass RX2 = some m.cls) (hts : ∀ w ∈ lw_gd, w.before args s = true) (hK : KK g s) (hge : okL g lay) (hW : Wd g lay E H) (hS : va_S (Ab g) H0 H locs) (hla : lay a = some lineE) (hL : E a = L) {x : Int32} (hdg : decode cc pc = .ok (.putfield 19, 3)) (hE : va_up E a (upd L 2 x) = E1) (kk : ∀ (H1 : Heap) (locs1 : List Loc), Wd g lay E1 H1 → va_S (Ab g) H0 H1 locs1 → W p l e R s m args below meth c H1 locs1 cells slots Q (F0 m (pc + 3) ls rest)) : W p l e R s m args below meth c H locs cells slots Q (F0 m pc ls (.int x :: .ref a :: rest)) :=
  w_put (C := RX2) (T := TX2) (N := 9) (ci := 2) (j := 2) hx hb hown hts hK hge hW hS hla hL rfl rfl (Nat.le_of_ble_eq_true rfl) rfl (by decide) inX2 tyX2 tyX2_ok nmX2 wd_108 rfl rfl (ty := .int) (by decide +kernel) rfl rfl hdg hE kk
theorem p_X2_22 (hx : p.tables.exec = Jvm.exec) (hb : c.code = cc) (hown : s.vm.findClass RX2 = some m.cls) (hts : ∀ w ∈ lw_gd, w.before args s = true) (hK : KK g s) (hge : okL g lay) (hW : Wd g lay E H) (hS : va_S (Ab g) H0 H locs) (hla : lay a = some lineE) (hL : E a = L) {x : Int32} (hdg : decode cc pc = .ok (.putfield 22, 3)) (hE : va_up E a (upd L 3 x) = E1) (kk : ∀ (H1 : Heap) (locs1 : List Loc), Wd g lay E1 H1 → va_S (Ab g) H0 H1 locs1 → W p l e R s m args below meth c H1 locs1 cells slots Q (F0 m (pc + 3) ls rest)) : W p l e R s m args below meth c H locs cells slots Q (F0 m pc ls (.int x :: .ref a :: rest)) :=
  w_put (C := RX2) (T := TX2) (N := 9) (ci := 2) (j := 3) hx hb hown hts hK hge hW hS hla hL rfl rfl (Nat.le_of_ble_eq_true rfl) rfl (by decide) inX2 tyX2 tyX2_ok nmX2 wd_110 rfl rfl (ty := .int) (by decide +kernel) rfl rfl hdg hE kk
theorem p_X2_25 (hx : p.tables.exec = Jvm.exec) (hb : c.code = cc) (hown : s.vm.findClass RX2 = some m.cls) (hts : ∀ w ∈ lw_gd, w.before args s = true) (hK : KK g s) (hge : okL g lay) (hW : Wd g lay E H) (hS : va_S (Ab g) H0 H locs) (hla : lay a = some lineE) (hL : E a = L) {x : Int32} (hdg : decode cc pc = .ok (.putfield 25, 3)) (hE : va_up E a (upd L 4 x) = E1) (kk : ∀ (H1 : Heap) (locs1 : List Loc), Wd g lay E1 H1 → va_S (Ab g) H0 H1 locs1 → W p l e R s m args below meth c H1 locs1 cells slots Q (F0 m (pc + 3) ls rest)) : W p l e R s m args below meth c H locs cells slots Q (F0 m pc ls (.int x :: .ref a :: rest)) :=
  w_put (C := RX2) (T := TX2) (N := 9) (ci := 2) (j := 4) hx hb hown hts hK hge hW hS hla hL rfl rfl (Nat.le_of_ble_eq_true rfl) rfl (by decide) inX2 tyX2 tyX2_ok nmX2 wd_112 rfl rfl (ty := .int) (by decide +kernel) rfl rfl hdg hE kk
theorem p_X2_28 (hx : p.tables.exec = Jvm.exec) (hb : c.code = cc) (hown : s.vm.findClass RX2 = some m.cls) (hts : ∀ w ∈ lw_gd, w.before args s = true) (hK : KK g s) (hge : okL g lay) (hW : Wd g lay E H) (hS : va_S (Ab g) H0 H locs) (hla : lay a = some lineE) (hL : E a = L) {x : Int32} (hdg : decode cc pc = .ok (.putfield 28, 3)) (hE : va_up E a (upd L 5 x) = E1) (kk : ∀ (H1 : Heap) (locs1 : List Loc), Wd g lay E1 H1 → va_S (Ab g) H0 H1 locs1 → W p l e R s m args below meth c H1 locs1 cells slots Q (F0 m (pc + 3) ls rest)) : W p l e R s m args below meth c H locs cells slots Q (F0 m pc ls (.int x :: .ref a :: rest)) :=
  w_put (C := RX2) (T := TX2) (N := 9) (ci := 2) (j := 5) hx hb hown hts hK hge hW hS hla hL rfl rfl (Nat.le_of_ble_eq_true rfl) rfl (by decide) inX2 tyX2 tyX2_ok nmX2 wd_113 rfl rfl (ty := .int) (by decide +kernel) rfl rfl hdg hE kk
theorem p_X2_31 (hx : p.tables.exec = Jvm.exec) (hb : c.code = cc) (hown : s.vm.findClass RX2 = some m.cls) (hts : ∀ w ∈ lw_gd, w.before args s = true) (hK : KK g s) (hge : okL g lay) (hW : Wd g lay E H) (hS : va_S (Ab g) H0 H locs) (hla : lay a = some lineE) (hL : E a = L) {x : Int32} (hdg : decode cc pc = .ok (.putfield 31, 3)) (hE : va_up E a (upd L 6 x) = E1) (kk : ∀ (H1 : Heap) (locs1 : List Loc), Wd g lay E1 H1 → va_S (Ab g) H0 H1 locs1 → W p l e R s m args below meth c H1 locs1 cells slots Q (F0 m (pc + 3) ls rest)) : W p l e R s m args below meth c H locs cells slots Q (F0 m pc ls (.int x :: .ref a :: rest)) :=
  w_put (C := RX2) (T := TX2) (N := 9) (ci := 2) (j := 6) hx hb hown hts hK hge hW hS hla hL rfl rfl (Nat.le_of_ble_eq_true rfl) rfl (by decide) inX2 tyX2 tyX2_ok nmX2 wd_115 rfl rfl (ty := .int) (by decide +kernel) rfl rfl hdg hE kk
theorem p_X2_34 (hx : p.tables.exec = Jvm.exec) (hb : c.code = cc) (hown : s.vm.findClass RX2 = some m.cls) (hts : ∀ w ∈ lw_gd, w.before args s = true) (hK : KK g s) (hge : okL g lay) (hW : Wd g lay E H) (hS : va_S (Ab g) H0 H locs) (hla : lay a = some lineE) (hL : E a = L) {x : Int32} (hdg : decode cc pc = .ok (.putfield 34, 3)) (hE : va_up E a (upd L 7 x) = E1) (kk : ∀ (H1 : Heap) (locs1 : List Loc), Wd g lay E1 H1 → va_S (Ab g) H0 H1 locs1 → W p l e R s m args below meth c H1 locs1 cells slots Q (F0 m (pc + 3) ls rest)) : W p l e R s m args below meth c H locs cells slots Q (F0 m pc ls (.int x :: .ref a :: rest)) :=
  w_put (C := RX2) (T := TX2) (N := 9) (ci := 2) (j := 7) hx hb hown hts hK hge hW hS hla hL rfl rfl (Nat.le_of_ble_eq_true rfl) rfl (by decide) inX2 tyX2 tyX2_ok nmX2 wd_117 rfl rfl (ty := .int) (by decide +kernel) rfl rfl hdg hE kk
theorem p_X2_37 (hx : p.tables.exec = Jvm.exec) (hb : c.code = cc) (hown : s.vm.findClass RX2 = some m.cls) (hts : ∀ w ∈ lw_gd, w.before args s = true) (hK : KK g s) (hge : okL g lay) (hW : Wd g lay E H) (hS : va_S (Ab g) H0 H locs) (hla : lay a = some lineE) (hL : E a = L) {x : Int32} (hdg : decode cc pc = .ok (.putfield 37, 3)) (hE : va_up E a (upd L 8 x) = E1) (kk : ∀ (H1 : Heap) (locs1 : List Loc), Wd g lay E1 H1 → va_S (Ab g) H0 H1 locs1 → W p l e R s m args below meth c H1 locs1 cells slots Q (F0 m (pc + 3) ls rest)) : W p l e R s m args below meth c H locs cells slots Q (F0 m pc ls (.int x :: .ref a :: rest)) :=
  w_put (C := RX2) (T := TX2) (N := 9) (ci := 2) (j := 8) hx hb hown hts hK hge hW hS hla hL rfl rfl (Nat.le_of_ble_eq_true rfl) rfl (by decide) inX2 tyX2 tyX2_ok nmX2 wd_119 rfl rfl (ty := .int) (by decide +kernel) rfl rfl hdg hE kk
theorem g_X3_9 (hx : p.tables.exec = Jvm.exec) (hb : c.code = cc) (hown : s.vm.findClass RX3 = some m.cls) (hts : ∀ w ∈ lw_gd, w.before args s = true) (hK : KK g s) (hW : Wd g lay E H) (hla : lay a = some (padE o)) (hL : E a = L) (hdg : decode cc pc = .ok (.getfield 9, 3)) (kk : W p l e R s m args below meth c H locs cells slots Q (F0 m (pc + 3) ls (.ref (o + 1) :: rest))) : W p l e R s m args below meth c H locs cells slots Q (F0 m pc ls (.ref a :: rest)) :=
  w_get (C := RX3) (T := TX3) (N := 2) (ci := 3) (j := 0) hx hb hown hts hK hW hla hL rfl rfl rfl (by decide) inX3 wd_255 rfl hdg kk
theorem g_X3_15 (hx : p.tables.exec = Jvm.exec) (hb : c.code = cc) (hown : s.vm.findClass RX3 = some m.cls) (hts : ∀ w ∈ lw_gd, w.before args s = true) (hK : KK g s) (hW : Wd g lay E H) (hla : lay a = some (padE o)) (hL : E a = L) (hdg : decode cc pc = .ok (.getfield 15, 3)) (kk : W p l e R s m args below meth c H locs cells slots Q (F0 m (pc + 3) ls (.int (L 1) :: rest))) : W p l e R s m args below meth c H locs cells slots Q (F0 m pc ls (.ref a :: rest)) :=
  w_get (C := RX3) (T := TX3) (N := 2) (ci := 3) (j := 1) hx hb hown hts hK hW hla hL rfl rfl rfl (by decide) inX3 wd_256 rfl hdg kk
theorem p_X3_15 (hx : p.tables.exec = Jvm.exec) (hb : c.code = cc) (hown : s.vm.findClass RX3 = some m.cls) (hts : ∀ w ∈ lw_gd, w.before args s = true) (hK : KK g s) (hge : okL g lay) (hW : Wd g lay E H) (hS : va_S (Ab g) H0 H locs) (hla : lay a = some (padE o)) (hL : E a = L) {x : Int32} (hdg : decode cc pc = .ok (.putfield 15, 3)) (hE : va_up E a (upd L 1 x) = E1) (kk : ∀ (H1 : Heap) (locs1 : List Loc), Wd g lay E1 H1 → va_S (Ab g) H0 H1 locs1 → W p l e R s m args below meth c H1 locs1 cells slots Q (F0 m (pc + 3) ls rest)) : W p l e R s m args below meth c H locs cells slots Q (F0 m pc ls (.int x :: .ref a :: rest)) :=
  w_put (C := RX3) (T := TX3) (N := 2) (ci := 3) (j := 1) hx hb hown hts hK hge hW hS hla hL rfl rfl (Nat.le_of_ble_eq_true rfl) rfl (by decide) inX3 tyX3 tyX3_ok nmX3 wd_256 rfl rfl (ty := .int) (by decide +kernel) rfl rfl hdg hE kk
theorem g_X4_10 (hx : p.tables.exec = Jvm.exec) (hb : c.code = cc) (hown : s.vm.findClass RX4 = some m.cls) (hts : ∀ w ∈ lw_gd, w.before args s = true) (hK : KK g s) (hW : Wd g lay E H) (hla : lay a = some (rotE o)) (hL : E a = L) (hdg : decode cc pc = .ok (.getfield 10, 3)) (kk : W p l e R s m args below meth c H locs cells slots Q (F0 m (pc + 3) ls (.ref (o + 1) :: rest))) : W p l e R s m args below meth c H locs cells slots Q (F0 m pc ls (.ref a :: rest)) :=
  w_get (C := RX4) (T := TX4) (N := 4) (ci := 4) (j := 0) hx hb hown hts hK hW hla hL rfl rfl rfl (by decide) inX4 wd_263 rfl hdg kk
theorem g_X4_16 (hx : p.tables.exec = Jvm.exec) (hb : c.code = cc) (hown : s.vm.findClass RX4 = some m.cls) (hts : ∀ w ∈ lw_gd, w.before args s = true) (hK : KK g s) (hW : Wd g lay E H) (hla : lay a = some (rotE o)) (hL : E a = L) (hdg : decode cc pc = .ok (.getfield 16, 3)) (kk : W p l e R s m args below meth c H locs cells slots Q (F0 m (pc + 3) ls (.ref (o + 27) :: rest))) : W p l e R s m args below meth c H locs cells slots Q (F0 m pc ls (.ref a :: rest)) :=
  w_get (C := RX4) (T := TX4) (N := 4) (ci := 4) (j := 1) hx hb hown hts hK hW hla hL rfl rfl rfl (by decide) inX4 wd_264 rfl hdg kk
theorem g_X4_19 (hx : p.tables.exec = Jvm.exec) (hb : c.code = cc) (hown : s.vm.findClass RX4 = some m.cls) (hts : ∀ w ∈ lw_gd, w.before args s = true) (hK : KK g s) (hW : Wd g lay E H) (hla : lay a = some (rotE o)) (hL : E a = L) (hdg : decode cc pc = .ok (.getfield 19, 3)) (kk : W p l e R s m args below meth c H locs cells slots Q (F0 m (pc + 3) ls (.ref (o + 53) :: rest))) : W p l e R s m args below meth c H locs cells slots Q (F0 m pc ls (.ref a :: rest)) :=
  w_get (C := RX4) (T := TX4) (N := 4) (ci := 4) (j := 2) hx hb hown hts hK hW hla hL rfl rfl rfl (by decide) inX4 wd_265 rfl hdg kk
theorem g_X4_26 (hx : p.tables.exec = Jvm.exec) (hb : c.code = cc) (hown : s.vm.findClass RX4 = some m.cls) (hts : ∀ w ∈ lw_gd, w.before args s = true) (hK : KK g s) (hW : Wd g lay E H) (hla : lay a = some (rotE o)) (hL : E a = L) (hdg : decode cc pc = .ok (.getfield 26, 3)) (kk : W p l e R s m args below meth c H locs cells slots Q (F0 m (pc + 3) ls (.ref (o + 54) :: rest))) : W p l e R s m args below meth c H locs cells slots Q (F0 m pc ls (.ref a :: rest)) :=
  w_get (C := RX4) (T := TX4) (N := 4) (ci := 4) (j := 3) hx hb hown hts hK hW hla hL rfl rfl rfl (by decide) inX4 wd_266 rfl hdg kk
theorem g_X4_34 (hx : p.tables.exec = Jvm.exec) (hb : c.code = cc) (hown : s.vm.findClass RX4 = some m.cls) (hts : ∀ w ∈ lw_gd, w.before args s = true) (hK : KK g s) (hW : Wd g lay E H) (hla : lay a = some (exE o)) (hL : E a = L) (hdg : decode cc pc = .ok (.getfield 34, 3)) (kk : W p l e R s m args below meth c H locs cells slots Q (F0 m (pc + 3) ls (.int (L 5) :: rest))) : W p l e R s m args below meth c H locs cells slots Q (F0 m pc ls (.ref a :: rest)) :=
  w_get (C := RX0) (T := TX0) (N := 16) (ci := 0) (j := 5) hx hb hown hts hK hW hla hL rfl rfl rfl (by decide) inX0 wd_201 rfl hdg kk
theorem g_X4_71 (hx : p.tables.exec = Jvm.exec) (hb : c.code = cc) (hown : s.vm.findClass RX4 = some m.cls) (hts : ∀ w ∈ lw_gd, w.before args s = true) (hK : KK g s) (hW : Wd g lay E H) (hla : lay a = some (exE o)) (hL : E a = L) (hdg : decode cc pc = .ok (.getfield 71, 3)) (kk : W p l e R s m args below meth c H locs cells slots Q (F0 m (pc + 3) ls (.int (L 7) :: rest))) : W p l e R s m args below meth c H locs cells slots Q (F0 m pc ls (.ref a :: rest)) :=
  w_get (C := RX0) (T := TX0) (N := 16) (ci := 0) (j := 7) hx hb hown hts hK hW hla hL rfl rfl rfl (by decide) inX0 wd_205 rfl hdg kk
theorem g_X4_86 (hx : p.tables.exec = Jvm.exec) (hb : c.code = cc) (hown : s.vm.findClass RX4 = some m.cls) (hts : ∀ w ∈ lw_gd, w.before args s = true) (hK : KK g s) (hW : Wd g lay E H) (hla : lay a = some (exE o)) (hL : E a = L) (hdg : decode cc pc = .ok (.getfield 86, 3)) (kk : W p l e R s m args below meth c H locs cells slots Q (F0 m (pc + 3) ls (.int (L 6) :: rest))) : W p l e R s m args below meth c H locs cells slots Q (F0 m pc ls (.ref a :: rest)) :=
  w_get (C := RX0) (T := TX0) (N := 16) (ci := 0) (j := 6) hx hb hown hts hK hW hla hL rfl rfl rfl (by decide) inX0 wd_203 rfl hdg kk
theorem g_X4_92 (hx : p.tables.exec = Jvm.exec) (hb : c.code = cc) (hown : s.vm.findClass RX4 = some m.cls) (hts : ∀ w ∈ lw_gd, w.before args s = true) (hK : KK g s) (hW : Wd g lay E H) (hla : lay a = some (padE o)) (hL : E a = L) (hdg : decode cc pc = .ok (.getfield 92, 3)) (kk : W p l e R s m args below meth c H locs cells slots Q (F0 m (pc + 3) ls (.int (L 1) :: rest))) : W p l e R s m args below meth c H locs cells slots Q (F0 m pc ls (.ref a :: rest)) :=
  w_get (C := RX3) (T := TX3) (N := 2) (ci := 3) (j := 1) hx hb hown hts hK hW hla hL rfl rfl rfl (by decide) inX3 wd_257 rfl hdg kk
theorem g_X4_111 (hx : p.tables.exec = Jvm.exec) (hb : c.code = cc) (hown : s.vm.findClass RX4 = some m.cls) (hts : ∀ w ∈ lw_gd, w.before args s = true) (hK : KK g s) (hW : Wd g lay E H) (hla : lay a = some lineE) (hL : E a = L) (hdg : decode cc pc = .ok (.getfield 111, 3)) (kk : W p l e R s m args below meth c H locs cells slots Q (F0 m (pc + 3) ls (.int (L 0) :: rest))) : W p l e R s m args below meth c H locs cells slots Q (F0 m pc ls (.ref a :: rest)) :=
  w_get (C := RX2) (T := TX2) (N := 9) (ci := 2) (j := 0) hx hb hown hts hK hW hla hL rfl rfl rfl (by decide) inX2 wd_105 rfl hdg kk
theorem p_X4_92 (hx : p.tables.exec = Jvm.exec) (hb : c.code = cc) (hown : s.vm.findClass RX4 = some m.cls) (hts : ∀ w ∈ lw_gd, w.before args s = true) (hK : KK g s) (hge : okL g lay) (hW : Wd g lay E H) (hS : va_S (Ab g) H0 H locs) (hla : lay a = some (padE o)) (hL : E a = L) {x : Int32} (hdg : decode cc pc = .ok (.putfield 92, 3)) (hE : va_up E a (upd L 1 x) = E1) (kk : ∀ (H1 : Heap) (locs1 : List Loc), Wd g lay E1 H1 → va_S (Ab g) H0 H1 locs1 → W p l e R s m args below meth c H1 locs1 cells slots Q (F0 m (pc + 3) ls rest)) : W p l e R s m args below meth c H locs cells slots Q (F0 m pc ls (.int x :: .ref a :: rest)) :=
  w_put (C := RX3) (T := TX3) (N := 2) (ci := 3) (j := 1) hx hb hown hts hK hge hW hS hla hL rfl rfl (Nat.le_of_ble_eq_true rfl) rfl (by decide) inX3 tyX3 tyX3_ok nmX3 wd_257 rfl rfl (ty := .int) (by decide +kernel) rfl rfl hdg hE kk
theorem g_X5_7 (hx : p.tables.exec = Jvm.exec) (hb : c.code = cc) (hown : s.vm.findClass RX5 = some m.cls) (hts : ∀ w ∈ lw_gd, w.before args s = true) (hK : KK g s) (hW : Wd g lay E H) (hla : lay a = some (modE o)) (hL : E a = L) (hdg : decode cc pc = .ok (.getfield 7, 3)) (kk : W p l e R s m args below meth c H locs cells slots Q (F0 m (pc + 3) ls (.ref (o + 1) :: rest))) : W p l e R s m args below meth c H locs cells slots Q (F0 m pc ls (.ref a :: rest)) :=
  w_get (C := RX5) (T := TX5) (N := 10) (ci := 5) (j := 0) hx hb hown hts hK hW hla hL rfl rfl rfl (by decide) inX5 wd_667 rfl hdg kk
theorem g_X5_13 (hx : p.tables.exec = Jvm.exec) (hb : c.code = cc) (hown : s.vm.findClass RX5 = some m.cls) (hts : ∀ w ∈ lw_gd, w.before args s = true) (hK : KK g s) (hW : Wd g lay E H) (hla : lay a = some (modE o)) (hL : E a = L) (hdg : decode cc pc = .ok (.getfield 13, 3)) (kk : W p l e R s m args below meth c H locs cells slots Q (F0 m (pc + 3) ls (.ref (o + 2) :: rest))) : W p l e R s m args below meth c H locs cells slots Q (F0 m pc ls (.ref a :: rest)) :=
  w_get (C := RX5) (T := TX5) (N := 10) (ci := 5) (j := 1) hx hb hown hts hK hW hla hL rfl rfl rfl (by decide) inX5 wd_668 rfl hdg kk
theorem g_X5_16 (hx : p.tables.exec = Jvm.exec) (hb : c.code = cc) (hown : s.vm.findClass RX5 = some m.cls) (hts : ∀ w ∈ lw_gd, w.before args s = true) (hK : KK g s) (hW : Wd g lay E H) (hla : lay a = some (modE o)) (hL : E a = L) (hdg : decode cc pc = .ok (.getfield 16, 3)) (kk : W p l e R s m args below meth c H locs cells slots Q (F0 m (pc + 3) ls (.ref (o + 3) :: rest))) : W p l e R s m args below meth c H locs cells slots Q (F0 m pc ls (.ref a :: rest)) :=
  w_get (C := RX5) (T := TX5) (N := 10) (ci := 5) (j := 2) hx hb hown hts hK hW hla hL rfl rfl rfl (by decide) inX5 wd_669 rfl hdg kk
theorem g_X5_19 (hx : p.tables.exec = Jvm.exec) (hb : c.code = cc) (hown : s.vm.findClass RX5 = some m.cls) (hts : ∀ w ∈ lw_gd, w.before args s = true) (hK : KK g s) (hW : Wd g lay E H) (hla : lay a = some (modE o)) (hL : E a = L) (hdg : decode cc pc = .ok (.getfield 19, 3)) (kk : W p l e R s m args below meth c H locs cells slots Q (F0 m (pc + 3) ls (.ref (o + 4) :: rest))) : W p l e R s m args below meth c H locs cells slots Q (F0 m pc ls (.ref a :: rest)) :=
  w_get (C := RX5) (T := TX5) (N := 10) (ci := 5) (j := 3) hx hb hown hts hK hW hla hL rfl rfl rfl (by decide) inX5 wd_670 rfl hdg kk
theorem g_X5_23 (hx : p.tables.exec = Jvm.exec) (hb : c.code = cc) (hown : s.vm.findClass RX5 = some m.cls) (hts : ∀ w ∈ lw_gd, w.before args s = true) (hK : KK g s) (hW : Wd g lay E H) (hla : lay a = some (modE o)) (hL : E a = L) (hdg : decode cc pc = .ok (.getfield 23, 3)) (kk : W p l e R s m args below meth c H locs cells slots Q (F0 m (pc + 3) ls (.ref (o + 5) :: rest))) : W p l e R s m args below meth c H locs cells slots Q (F0 m pc ls (.ref a :: rest)) :=
  w_get (C := RX5) (T := TX5) (N := 10) (ci := 5) (j := 4) hx hb hown hts hK hW hla hL rfl rfl rfl (by decide) inX5 wd_671 rfl hdg kk
theorem g_X5_26 (hx : p.tables.exec = Jvm.exec) (hb : c.code = cc) (hown : s.vm.findClass RX5 = some m.cls) (hts : ∀ w ∈ lw_gd, w.before args s = true) (hK : KK g s) (hW : Wd g lay E H) (hla : lay a = some (modE o)) (hL : E a = L) (hdg : decode cc pc = .ok (.getfield 26, 3)) (kk : W p l e R s m args below meth c H locs cells slots Q (F0 m (pc + 3) ls (.ref (o + 6) :: rest))) : W p l e R s m args below meth c H locs cells slots Q (F0 m pc ls (.ref a :: rest)) :=
  w_get (C := RX5) (T := TX5) (N := 10) (ci := 5) (j := 8) hx hb hown hts hK hW hla hL rfl rfl rfl (by decide) inX5 wd_675 rfl hdg kk
theorem g_X5_165 (hx : p.tables.exec = Jvm.exec) (hb : c.code = cc) (hown : s.vm.findClass RX5 = some m.cls) (hts : ∀ w ∈ lw_gd, w.before args s = true) (hK : KK g s) (hW : Wd g lay E H) (hla : lay a = some (modE o)) (hL : E a = L) (hdg : decode cc pc = .ok (.getfield 165, 3)) (kk : W p l e R s m args below meth c H locs cells slots Q (F0 m (pc + 3) ls (.int (L 5) :: rest))) : W p l e R s m args below meth c H locs cells slots Q (F0 m pc ls (.ref a :: rest)) :=
  w_get (C := RX5) (T := TX5) (N := 10) (ci := 5) (j := 5) hx hb hown hts hK hW hla hL rfl rfl rfl (by decide) inX5 wd_672 rfl hdg kk
theorem g_X5_186 (hx : p.tables.exec = Jvm.exec) (hb : c.code = cc) (hown : s.vm.findClass RX5 = some m.cls) (hts : ∀ w ∈ lw_gd, w.before args s = true) (hK : KK g s) (hW : Wd g lay E H) (hla : lay a = some (modE o)) (hL : E a = L) (hdg : decode cc pc = .ok (.getfield 186, 3)) (kk : W p l e R s m args below meth c H locs cells slots Q (F0 m (pc + 3) ls (.int (L 6) :: rest))) : W p l e R s m args below meth c H locs cells slots Q (F0 m pc ls (.ref a :: rest)) :=
  w_get (C := RX5) (T := TX5) (N := 10) (ci := 5) (j := 6) hx hb hown hts hK hW hla hL rfl rfl rfl (by decide) inX5 wd_673 rfl hdg kk
theorem g_X5_196 (hx : p.tables.exec = Jvm.exec) (hb : c.code = cc) (hown : s.vm.findClass RX5 = some m.cls) (hts : ∀ w ∈ lw_gd, w.before args s = true) (hK : KK g s) (hW : Wd g lay E H) (hla : lay a = some (modE o)) (hL : E a = L) (hdg : decode cc pc = .ok (.getfield 196, 3)) (kk : W p l e R s m args below meth c H locs cells slots Q (F0 m (pc + 3) ls (.int (L 7) :: rest))) : W p l e R s m args below meth c H locs cells slots Q (F0 m pc ls (.ref a :: rest)) :=
  w_get (C := RX5) (T := TX5) (N := 10) (ci := 5) (j := 7) hx hb hown hts hK hW hla hL rfl rfl rfl (by decide) inX5 wd_674 rfl hdg kk
theorem g_X5_200 (hx : p.tables.exec = Jvm.exec) (hb : c.code = cc) (hown : s.vm.findClass RX5 = some m.cls) (hts : ∀ w ∈ lw_gd, w.before args s = true) (hK : KK g s) (hW : Wd g lay E H) (hla : lay a = some (modE o)) (hL : E a = L) (hdg : decode cc pc = .ok (.getfield 200, 3)) (kk : W p l e R s m args below meth c H locs cells slots Q (F0 m (pc + 3) ls (.int (L 9) :: rest))) : W p l e R s m args below meth c H locs cells slots Q (F0 m pc ls (.ref a :: rest)) :=
  w_get (C := RX5) (T := TX5) (N := 10) (ci := 5) (j := 9) hx hb hown hts hK hW hla hL rfl rfl rfl (by decide) inX5 wd_676 rfl hdg kk
theorem p_X5_165 (hx : p.tables.exec = Jvm.exec) (hb : c.code = cc) (hown : s.vm.findClass RX5 = some m.cls) (hts : ∀ w ∈ lw_gd, w.before args s = true) (hK : KK g s) (hge : okL g lay) (hW : Wd g lay E H) (hS : va_S (Ab g) H0 H locs) (hla : lay a = some (modE o)) (hL : E a = L) {x : Int32} (hdg : decode cc pc = .ok (.putfield 165, 3)) (hE : va_up E a (upd L 5 x) = E1) (kk : ∀ (H1 : Heap) (locs1 : List Loc), Wd g lay E1 H1 → va_S (Ab g) H0 H1 locs1 → W p l e R s m args below meth c H1 locs1 cells slots Q (F0 m (pc + 3) ls rest)) : W p l e R s m args below meth c H locs cells slots Q (F0 m pc ls (.int x :: .ref a :: rest)) :=
  w_put (C := RX5) (T := TX5) (N := 10) (ci := 5) (j := 5) hx hb hown hts hK hge hW hS hla hL rfl rfl (Nat.le_of_ble_eq_true rfl) rfl (by decide) inX5 tyX5 tyX5_ok nmX5 wd_672 rfl rfl (ty := .int) (by decide +kernel) rfl rfl hdg hE kk
theorem p_X5_186 (hx : p.tables.exec = Jvm.exec) (hb : c.code = cc) (hown : s.vm.findClass RX5 = some m.cls) (hts : ∀ w ∈ lw_gd, w.before args s = true) (hK : KK g s) (hge : okL g lay) (hW : Wd g lay E H) (hS : va_S (Ab g) H0 H locs) (hla : lay a = some (modE o)) (hL : E a = L) {x : Int32} (hdg : decode cc pc = .ok (.putfield 186, 3)) (hE : va_up E a (upd L 6 x) = E1) (kk : ∀ (H1 : Heap) (locs1 : List Loc), Wd g lay E1 H1 → va_S (Ab g) H0 H1 locs1 → W p l e R s m args below meth c H1 locs1 cells slots Q (F0 m (pc + 3) ls rest)) : W p l e R s m args below meth c H locs cells slots Q (F0 m pc ls (.int x :: .ref a :: rest)) :=
  w_put (C := RX5) (T := TX5) (N := 10) (ci := 5) (j := 6) hx hb hown hts hK hge hW hS hla hL rfl rfl (Nat.le_of_ble_eq_true rfl) rfl (by decide) inX5 tyX5 tyX5_ok nmX5 wd_673 rfl rfl (ty := .int) (by decide +kernel) rfl rfl hdg hE kk
theorem p_X5_196 (hx : p.tables.exec = Jvm.exec) (hb : c.code = cc) (hown : s.vm.findClass RX5 = some m.cls) (hts : ∀ w ∈ lw_gd, w.before args s = true) (hK : KK g s) (hge : okL g lay) (hW : Wd g lay E H) (hS : va_S (Ab g) H0 H locs) (hla : lay a = some (modE o)) (hL : E a = L) {x : Int32} (hz : x = 0 ∨ x = 1) (hdg : decode cc pc = .ok (.putfield 196, 3)) (hE : va_up E a (upd L 7 x) = E1) (kk : ∀ (H1 : Heap) (locs1 : List Loc), Wd g lay E1 H1 → va_S (Ab g) H0 H1 locs1 → W p l e R s m args below meth c H1 locs1 cells slots Q (F0 m (pc + 3) ls rest)) : W p l e R s m args below meth c H locs cells slots Q (F0 m pc ls (.int x :: .ref a :: rest)) :=
  w_put (C := RX5) (T := TX5) (N := 10) (ci := 5) (j := 7) hx hb hown hts hK hge hW hS hla hL rfl rfl (Nat.le_of_ble_eq_true rfl) rfl (by decide) inX5 tyX5 tyX5_ok nmX5 wd_674 rfl rfl (ty := .boolean) (by decide +kernel) (narZ hz) (fitZ hz) hdg hE kk
theorem p_X5_200 (hx : p.tables.exec = Jvm.exec) (hb : c.code = cc) (hown : s.vm.findClass RX5 = some m.cls) (hts : ∀ w ∈ lw_gd, w.before args s = true) (hK : KK g s) (hge : okL g lay) (hW : Wd g lay E H) (hS : va_S (Ab g) H0 H locs) (hla : lay a = some (modE o)) (hL : E a = L) {x : Int32} (hdg : decode cc pc = .ok (.putfield 200, 3)) (hE : va_up E a (upd L 9 x) = E1) (kk : ∀ (H1 : Heap) (locs1 : List Loc), Wd g lay E1 H1 → va_S (Ab g) H0 H1 locs1 → W p l e R s m args below meth c H1 locs1 cells slots Q (F0 m (pc + 3) ls rest)) : W p l e R s m args below meth c H locs cells slots Q (F0 m pc ls (.int x :: .ref a :: rest)) :=
  w_put (C := RX5) (T := TX5) (N := 10) (ci := 5) (j := 9) hx hb hown hts hK hge hW hS hla hL rfl rfl (Nat.le_of_ble_eq_true rfl) rfl (by decide) inX5 tyX5 tyX5_ok nmX5 wd_676 rfl rfl (ty := .int) (by decide +kernel) rfl rfl hdg hE kk
end FR
section CR
variable {R : Room} {s : State} {args : Array Value}
theorem k_L_13 (hts : ∀ w ∈ lw_gd, w.before args s = true) (hR : rmX4_setUp.frames + 1 ≤ R.frames ∧ 8 + (4 + 11) + rmX4_setUp.locals ≤ R.locals) : CallW R s args RL RX4 13 yX4_setUp cX4_setUp 4 (some .int) wsX4_setUp rmX4_setUp 0 0 2 :=
  cwV 2 hts (gd_GV wd_276 wd_277 wd_278 wd_74 wd_279) rfl rfl rfl (by decide +kernel) hR
theorem k_L_17 (hts : ∀ w ∈ lw_gd, w.before args s = true) (hR : rmX5_setUp.frames + 1 ≤ R.frames ∧ 8 + (4 + 11) + rmX5_setUp.locals ≤ R.locals) : CallW R s args RL RX5 17 yX5_setUp cX5_setUp 4 (some .int) wsX5_setUp rmX5_setUp 0 0 2 :=
  cwV 2 hts (gd_GV wd_699 wd_700 wd_701 wd_79 wd_702) rfl rfl rfl (by decide +kernel) hR
theorem k_L_18 (hts : ∀ w ∈ lw_gd, w.before args s = true) (hR : rmX4_set.frames + 1 ≤ R.frames ∧ 8 + (3 + 11) + rmX4_set.locals ≤ R.locals) : CallW R s args RL RX4 18 yX4_set cX4_set 3 (some .int) wsX4_set rmX4_set 0 0 2 :=
  cwV 2 hts (gd_GV wd_315 wd_316 wd_317 wd_74 wd_318) rfl rfl rfl (by decide +kernel) hR
theorem k_L_21 (hts : ∀ w ∈ lw_gd, w.before args s = true) (hR : rmX5_set.frames + 1 ≤ R.frames ∧ 8 + (4 + 11) + rmX5_set.locals ≤ R.locals) : CallW R s args RL RX5 21 yX5_set cX5_set 4 (some .int) wsX5_set rmX5_set 0 0 2 :=
  cwV 2 hts (gd_GV wd_703 wd_704 wd_705 wd_79 wd_706) rfl rfl rfl (by decide +kernel) hR
theorem k_L_22 (hts : ∀ w ∈ lw_gd, w.before args s = true) (hR : rmX4_lift.frames + 1 ≤ R.frames ∧ 8 + (2 + 11) + rmX4_lift.locals ≤ R.locals) : CallW R s args RL RX4 22 yX4_lift cX4_lift 2 (some .int) wsX4_lift rmX4_lift 0 0 1 :=
  cwV 1 hts (gd_GV wd_329 wd_330 wd_331 wd_74 wd_332) rfl rfl rfl (by decide +kernel) hR
theorem k_L_26 (hts : ∀ w ∈ lw_gd, w.before args s = true) (hR : rmX5_lift.frames + 1 ≤ R.frames ∧ 8 + (2 + 11) + rmX5_lift.locals ≤ R.locals) : CallW R s args RL RX5 26 yX5_lift cX5_lift 2 (some .int) wsX5_lift rmX5_lift 0 0 1 :=
  cwV 1 hts (gd_GV wd_714 wd_715 wd_716 wd_79 wd_717) rfl rfl rfl (by decide +kernel) hR
theorem k_L_27 (hts : ∀ w ∈ lw_gd, w.before args s = true) (hR : rmX4_hang.frames + 1 ≤ R.frames ∧ 8 + (2 + 11) + rmX4_hang.locals ≤ R.locals) : CallW R s args RL RX4 27 yX4_hang cX4_hang 2 (some .int) wsX4_hang rmX4_hang 0 0 1 :=
  cwV 1 hts (gd_GV wd_340 wd_341 wd_342 wd_74 wd_343) rfl rfl rfl (by decide +kernel) hR
theorem k_L_30 (hts : ∀ w ∈ lw_gd, w.before args s = true) (hR : rmX5_hang.frames + 1 ≤ R.frames ∧ 8 + (3 + 11) + rmX5_hang.locals ≤ R.locals) : CallW R s args RL RX5 30 yX5_hang cX5_hang 3 (some .int) wsX5_hang rmX5_hang 0 0 1 :=
  cwV 1 hts (gd_GV wd_733 wd_734 wd_735 wd_79 wd_736) rfl rfl rfl (by decide +kernel) hR
theorem k_L_31 (hts : ∀ w ∈ lw_gd, w.before args s = true) (hR : rmX4_dial.frames + 1 ≤ R.frames ∧ 8 + (3 + 11) + rmX4_dial.locals ≤ R.locals) : CallW R s args RL RX4 31 yX4_dial cX4_dial 3 (some .int) wsX4_dial rmX4_dial 0 0 2 :=
  cwV 2 hts (gd_GV wd_358 wd_359 wd_360 wd_74 wd_361) rfl rfl rfl (by decide +kernel) hR
theorem k_L_34 (hts : ∀ w ∈ lw_gd, w.before args s = true) (hR : rmX5_dial.frames + 1 ≤ R.frames ∧ 8 + (4 + 11) + rmX5_dial.locals ≤ R.locals) : CallW R s args RL RX5 34 yX5_dial cX5_dial 4 (some .int) wsX5_dial rmX5_dial 0 0 2 :=
  cwV 2 hts (gd_GV wd_749 wd_750 wd_751 wd_79 wd_752) rfl rfl rfl (by decide +kernel) hR
theorem k_L_35 (hts : ∀ w ∈ lw_gd, w.before args s = true) (hR : rmX4_tick.frames + 1 ≤ R.frames ∧ 8 + (2 + 11) + rmX4_tick.locals ≤ R.locals) : CallW R s args RL RX4 35 yX4_tick cX4_tick 2 (some .int) wsX4_tick rmX4_tick 0 0 1 :=
  cwV 1 hts (gd_GV wd_370 wd_371 wd_372 wd_74 wd_373) rfl rfl rfl (by decide +kernel) hR
theorem k_L_38 (hts : ∀ w ∈ lw_gd, w.before args s = true) (hR : rmX5_tick.frames + 1 ≤ R.frames ∧ 8 + (3 + 11) + rmX5_tick.locals ≤ R.locals) : CallW R s args RL RX5 38 yX5_tick cX5_tick 3 (some .int) wsX5_tick rmX5_tick 0 0 1 :=
  cwV 1 hts (gd_GV wd_753 wd_754 wd_755 wd_79 wd_756) rfl rfl rfl (by decide +kernel) hR
theorem k_L_39 (hts : ∀ w ∈ lw_gd, w.before args s = true) (hR : rmX4_line.frames + 1 ≤ R.frames ∧ 8 + (3 + 11) + rmX4_line.locals ≤ R.locals) : CallW R s args RL RX4 39 yX4_line cX4_line 3 (some .int) wsX4_line rmX4_line 0 0 2 :=
  cwV 2 hts (gd_GV wd_460 wd_461 wd_462 wd_74 wd_463) rfl rfl rfl (by decide +kernel) hR
theorem k_L_42 (hts : ∀ w ∈ lw_gd, w.before args s = true) (hR : rmX5_line.frames + 1 ≤ R.frames ∧ 8 + (3 + 11) + rmX5_line.locals ≤ R.locals) : CallW R s args RL RX5 42 yX5_line cX5_line 3 (some .int) wsX5_line rmX5_line 0 0 2 :=
  cwV 2 hts (gd_GV wd_838 wd_839 wd_840 wd_79 wd_841) rfl rfl rfl (by decide +kernel) hR
theorem k_L_43 (hts : ∀ w ∈ lw_gd, w.before args s = true) (hR : rmX4_finder.frames + 1 ≤ R.frames ∧ 8 + (3 + 11) + rmX4_finder.locals ≤ R.locals) : CallW R s args RL RX4 43 yX4_finder cX4_finder 3 (some .int) wsX4_finder rmX4_finder 0 0 2 :=
  cwV 2 hts (gd_GV wd_480 wd_481 wd_482 wd_74 wd_483) rfl rfl rfl (by decide +kernel) hR
theorem k_L_46 (hts : ∀ w ∈ lw_gd, w.before args s = true) (hR : rmX5_finder.frames + 1 ≤ R.frames ∧ 8 + (4 + 11) + rmX5_finder.locals ≤ R.locals) : CallW R s args RL RX5 46 yX5_finder cX5_finder 4 (some .int) wsX5_finder rmX5_finder 0 0 2 :=
  cwV 2 hts (gd_GV wd_858 wd_859 wd_860 wd_79 wd_861) rfl rfl rfl (by decide +kernel) hR
theorem k_L_47 (hts : ∀ w ∈ lw_gd, w.before args s = true) (hR : rmX4_connector.frames + 1 ≤ R.frames ∧ 8 + (3 + 11) + rmX4_connector.locals ≤ R.locals) : CallW R s args RL RX4 47 yX4_connector cX4_connector 3 (some .int) wsX4_connector rmX4_connector 0 0 2 :=
  cwV 2 hts (gd_GV wd_489 wd_490 wd_491 wd_74 wd_492) rfl rfl rfl (by decide +kernel) hR
theorem k_L_50 (hts : ∀ w ∈ lw_gd, w.before args s = true) (hR : rmX5_connector.frames + 1 ≤ R.frames ∧ 8 + (3 + 11) + rmX5_connector.locals ≤ R.locals) : CallW R s args RL RX5 50 yX5_connector cX5_connector 3 (some .int) wsX5_connector rmX5_connector 0 0 2 :=
  cwV 2 hts (gd_GV wd_870 wd_871 wd_872 wd_79 wd_873) rfl rfl rfl (by decide +kernel) hR
theorem k_L_51 (hts : ∀ w ∈ lw_gd, w.before args s = true) (hR : rmX4_count.frames + 1 ≤ R.frames ∧ 8 + (2 + 11) + rmX4_count.locals ≤ R.locals) : CallW R s args RL RX4 51 yX4_count cX4_count 2 (some .int) wsX4_count rmX4_count 0 0 1 :=
  cwV 1 hts (gd_GV wd_494 wd_495 wd_496 wd_74 wd_497) rfl rfl rfl (by decide +kernel) hR
theorem k_L_54 (hts : ∀ w ∈ lw_gd, w.before args s = true) (hR : rmX5_count.frames + 1 ≤ R.frames ∧ 8 + (2 + 11) + rmX5_count.locals ≤ R.locals) : CallW R s args RL RX5 54 yX5_count cX5_count 2 (some .int) wsX5_count rmX5_count 0 0 1 :=
  cwV 1 hts (gd_GV wd_874 wd_875 wd_876 wd_79 wd_877) rfl rfl rfl (by decide +kernel) hR
theorem k_L_55 (hts : ∀ w ∈ lw_gd, w.before args s = true) (hR : rmX4_trace.frames + 1 ≤ R.frames ∧ 8 + (3 + 11) + rmX4_trace.locals ≤ R.locals) : CallW R s args RL RX4 55 yX4_trace cX4_trace 3 (some .int) wsX4_trace rmX4_trace 0 0 2 :=
  cwV 2 hts (gd_GV wd_518 wd_519 wd_520 wd_74 wd_521) rfl rfl rfl (by decide +kernel) hR
theorem k_L_58 (hts : ∀ w ∈ lw_gd, w.before args s = true) (hR : rmX5_trace.frames + 1 ≤ R.frames ∧ 8 + (5 + 11) + rmX5_trace.locals ≤ R.locals) : CallW R s args RL RX5 58 yX5_trace cX5_trace 5 (some .int) wsX5_trace rmX5_trace 0 0 2 :=
  cwV 2 hts (gd_GV wd_886 wd_887 wd_888 wd_79 wd_889) rfl rfl rfl (by decide +kernel) hR
theorem k_L_59 (hts : ∀ w ∈ lw_gd, w.before args s = true) (hR : rmX4_until.frames + 1 ≤ R.frames ∧ 8 + (4 + 11) + rmX4_until.locals ≤ R.locals) : CallW R s args RL RX4 59 yX4_until cX4_until 4 (some .int) wsX4_until rmX4_until 0 0 3 :=
  cwV 3 hts (gd_GV wd_526 wd_527 wd_528 wd_74 wd_529) rfl rfl rfl (by decide +kernel) hR
theorem k_L_63 (hts : ∀ w ∈ lw_gd, w.before args s = true) (hR : rmX5_until.frames + 1 ≤ R.frames ∧ 8 + (6 + 11) + rmX5_until.locals ≤ R.locals) : CallW R s args RL RX5 63 yX5_until cX5_until 6 (some .int) wsX5_until rmX5_until 0 0 3 :=
  cwV 3 hts (gd_GV wd_890 wd_891 wd_892 wd_79 wd_893) rfl rfl rfl (by decide +kernel) hR
theorem k_L_64 (hts : ∀ w ∈ lw_gd, w.before args s = true) (hR : rmX4_attempt.frames + 1 ≤ R.frames ∧ 8 + (5 + 11) + rmX4_attempt.locals ≤ R.locals) : CallW R s args RL RX4 64 yX4_attempt cX4_attempt 5 (some .int) wsX4_attempt rmX4_attempt 0 0 3 :=
  cwV 3 hts (gd_GV wd_547 wd_548 wd_549 wd_74 wd_550) rfl rfl rfl (by decide +kernel) hR
theorem k_L_67 (hts : ∀ w ∈ lw_gd, w.before args s = true) (hR : rmX5_attempt.frames + 1 ≤ R.frames ∧ 8 + (7 + 11) + rmX5_attempt.locals ≤ R.locals) : CallW R s args RL RX5 67 yX5_attempt cX5_attempt 7 (some .int) wsX5_attempt rmX5_attempt 0 0 3 :=
  cwV 3 hts (gd_GV wd_902 wd_903 wd_904 wd_79 wd_905) rfl rfl rfl (by decide +kernel) hR
theorem k_L_70 (hts : ∀ w ∈ lw_gd, w.before args s = true) (hR : rmX4_put.frames + 1 ≤ R.frames ∧ 8 + (3 + 11) + rmX4_put.locals ≤ R.locals) : CallW R s args RL RX4 70 yX4_put cX4_put 3 (some .int) wsX4_put rmX4_put 0 0 1 :=
  cwV 1 hts (gd_GV wd_561 wd_562 wd_563 wd_74 wd_564) rfl rfl rfl (by decide +kernel) hR
theorem k_L_74 (hts : ∀ w ∈ lw_gd, w.before args s = true) (hR : rmX5_put.frames + 1 ≤ R.frames ∧ 8 + (7 + 11) + rmX5_put.locals ≤ R.locals) : CallW R s args RL RX5 74 yX5_put cX5_put 7 (some .int) wsX5_put rmX5_put 0 0 1 :=
  cwV 1 hts (gd_GV wd_911 wd_912 wd_913 wd_79 wd_914) rfl rfl rfl (by decide +kernel) hR
theorem k_L_75 (hts : ∀ w ∈ lw_gd, w.before args s = true) (hR : rmX4_wipe.frames + 1 ≤ R.frames ∧ 8 + (2 + 11) + rmX4_wipe.locals ≤ R.locals) : CallW R s args RL RX4 75 yX4_wipe cX4_wipe 2 (some .int) wsX4_wipe rmX4_wipe 0 0 0 :=
  cwV 0 hts (gd_GV wd_577 wd_578 wd_579 wd_74 wd_580) rfl rfl rfl (by decide +kernel) hR
theorem k_L_79 (hts : ∀ w ∈ lw_gd, w.before args s = true) (hR : rmX5_wipe.frames + 1 ≤ R.frames ∧ 8 + (2 + 11) + rmX5_wipe.locals ≤ R.locals) : CallW R s args RL RX5 79 yX5_wipe cX5_wipe 2 (some .int) wsX5_wipe rmX5_wipe 0 0 0 :=
  cwV 0 hts (gd_GV wd_916 wd_917 wd_918 wd_79 wd_919) rfl rfl rfl (by decide +kernel) hR
theorem k_L_80 (hts : ∀ w ∈ lw_gd, w.before args s = true) (hR : rmX4_fault.frames + 1 ≤ R.frames ∧ 8 + (1 + 11) + rmX4_fault.locals ≤ R.locals) : CallW R s args RL RX4 80 yX4_fault cX4_fault 1 (some .int) wsX4_fault rmX4_fault 0 0 0 :=
  cwV 0 hts (gd_GV wd_581 wd_582 wd_583 wd_74 wd_584) rfl rfl rfl (by decide +kernel) hR
theorem k_L_83 (hts : ∀ w ∈ lw_gd, w.before args s = true) (hR : rmX5_fault.frames + 1 ≤ R.frames ∧ 8 + (1 + 11) + rmX5_fault.locals ≤ R.locals) : CallW R s args RL RX5 83 yX5_fault cX5_fault 1 (some .int) wsX5_fault rmX5_fault 0 0 0 :=
  cwV 0 hts (gd_GV wd_920 wd_921 wd_922 wd_79 wd_923) rfl rfl rfl (by decide +kernel) hR
theorem k_L_84 (hts : ∀ w ∈ lw_gd, w.before args s = true) (hR : rmX4_carryOut.frames + 1 ≤ R.frames ∧ 8 + (3 + 11) + rmX4_carryOut.locals ≤ R.locals) : CallW R s args RL RX4 84 yX4_carryOut cX4_carryOut 3 (some .int) wsX4_carryOut rmX4_carryOut 0 0 0 :=
  cwV 0 hts (gd_GV wd_608 wd_609 wd_610 wd_74 wd_611) rfl rfl rfl (by decide +kernel) hR
theorem k_L_87 (hts : ∀ w ∈ lw_gd, w.before args s = true) (hR : rmX5_carryOut.frames + 1 ≤ R.frames ∧ 8 + (2 + 11) + rmX5_carryOut.locals ≤ R.locals) : CallW R s args RL RX5 87 yX5_carryOut cX5_carryOut 2 (some .int) wsX5_carryOut rmX5_carryOut 0 0 0 :=
  cwV 0 hts (gd_GV wd_947 wd_948 wd_949 wd_79 wd_950) rfl rfl rfl (by decide +kernel) hR
theorem k_L_88 (hts : ∀ w ∈ lw_gd, w.before args s = true) (hR : rmX4_save.frames + 1 ≤ R.frames ∧ 8 + (3 + 11) + rmX4_save.locals ≤ R.locals) : CallW R s args RL RX4 88 yX4_save cX4_save 3 (some .int) wsX4_save rmX4_save 26 244 1 :=
  cwV 1 hts (gd_GV wd_634 wd_635 wd_636 wd_74 wd_637) rfl rfl rfl (by decide +kernel) hR
theorem k_L_91 (hts : ∀ w ∈ lw_gd, w.before args s = true) (hR : rmX5_save.frames + 1 ≤ R.frames ∧ 8 + (3 + 11) + rmX5_save.locals ≤ R.locals) : CallW R s args RL RX5 91 yX5_save cX5_save 3 (some .int) wsX5_save rmX5_save 0 0 1 :=
  cwV 1 hts (gd_GV wd_962 wd_963 wd_964 wd_79 wd_965) rfl rfl rfl (by decide +kernel) hR
theorem k_L_92 (hts : ∀ w ∈ lw_gd, w.before args s = true) (hR : rmX4_restore.frames + 1 ≤ R.frames ∧ 8 + (3 + 11) + rmX4_restore.locals ≤ R.locals) : CallW R s args RL RX4 92 yX4_restore cX4_restore 3 (some .int) wsX4_restore rmX4_restore 0 0 1 :=
  cwV 1 hts (gd_GV wd_638 wd_639 wd_640 wd_74 wd_641) rfl rfl rfl (by decide +kernel) hR
theorem k_L_95 (hts : ∀ w ∈ lw_gd, w.before args s = true) (hR : rmX5_restore.frames + 1 ≤ R.frames ∧ 8 + (3 + 11) + rmX5_restore.locals ≤ R.locals) : CallW R s args RL RX5 95 yX5_restore cX5_restore 3 (some .int) wsX5_restore rmX5_restore 0 0 1 :=
  cwV 1 hts (gd_GV wd_966 wd_967 wd_968 wd_79 wd_969) rfl rfl rfl (by decide +kernel) hR
theorem k_X0_241 (hts : ∀ w ∈ lw_gd, w.before args s = true) (hR : rmX0_endsTrial.frames + 1 ≤ R.frames ∧ 8 + (1 + 11) + rmX0_endsTrial.locals ≤ R.locals) : CallB R s args RX0 241 yX0_endsTrial cX0_endsTrial 1 (some .boolean) wsX0_endsTrial rmX0_endsTrial 0 0 1 ∧ (Cond.static yX0_endsTrial).before args s = true :=
  cwS 1 hts (gd_GS wd_557 wd_558 wd_75 wd_559) rfl rfl rfl (by decide +kernel) hR
theorem k_X0_79 (hts : ∀ w ∈ lw_gd, w.before args s = true) (hR : rmX0_settingAt.frames + 1 ≤ R.frames ∧ 8 + (2 + 11) + rmX0_settingAt.locals ≤ R.locals) : CallW R s args RX0 RX0 79 yX0_settingAt cX0_settingAt 2 (some .int) wsX0_settingAt rmX0_settingAt 0 0 1 :=
  cwV 1 hts (gd_GV wd_325 wd_327 wd_0 wd_75 wd_328) rfl rfl rfl (by decide +kernel) hR
theorem k_X0_83 (hts : ∀ w ∈ lw_gd, w.before args s = true) (hR : rmX0_lineAt.frames + 1 ≤ R.frames ∧ 8 + (2 + 11) + rmX0_lineAt.locals ≤ R.locals) : CallW R s args RX0 RX0 83 yX0_lineAt cX0_lineAt 2 (some (.object "RotaryExchange$Line")) wsX0_lineAt rmX0_lineAt 0 0 1 :=
  cwV 1 hts (gd_GV wd_287 wd_288 wd_289 wd_75 wd_290) rfl rfl rfl (by decide +kernel) hR
theorem k_X0_87 (hts : ∀ w ∈ lw_gd, w.before args s = true) (hR : rmX2_renew.frames + 1 ≤ R.frames ∧ 8 + (1 + 11) + rmX2_renew.locals ≤ R.locals) : CallW R s args RX0 RX2 87 yX2_renew cX2_renew 1 none wsX2_renew rmX2_renew 0 0 0 :=
  cwV 0 hts (gd_GV wd_291 wd_292 wd_293 wd_76 wd_294) rfl rfl rfl (by decide +kernel) hR
theorem k_X0_90 (hts : ∀ w ∈ lw_gd, w.before args s = true) (hR : rmX0_finderAt.frames + 1 ≤ R.frames ∧ 8 + (2 + 11) + rmX0_finderAt.locals ≤ R.locals) : CallW R s args RX0 RX0 90 yX0_finderAt cX0_finderAt 2 (some (.object "RotaryExchange$Finder")) wsX0_finderAt rmX0_finderAt 0 0 1 :=
  cwV 1 hts (gd_GV wd_299 wd_300 wd_301 wd_75 wd_302) rfl rfl rfl (by decide +kernel) hR
theorem k_X0_94 (hts : ∀ w ∈ lw_gd, w.before args s = true) (hR : rmX1_renew.frames + 1 ≤ R.frames ∧ 8 + (1 + 11) + rmX1_renew.locals ≤ R.locals) : CallW R s args RX0 RX1 94 yX1_renew cX1_renew 1 none wsX1_renew rmX1_renew 0 0 0 :=
  cwV 0 hts (gd_GV wd_303 wd_304 wd_305 wd_77 wd_306) rfl rfl rfl (by decide +kernel) hR
theorem k_X0_95 (hts : ∀ w ∈ lw_gd, w.before args s = true) (hR : rmX2_copyFrom.frames + 1 ≤ R.frames ∧ 8 + (2 + 11) + rmX2_copyFrom.locals ≤ R.locals) : CallW R s args RX0 RX2 95 yX2_copyFrom cX2_copyFrom 2 none wsX2_copyFrom rmX2_copyFrom 0 0 1 :=
  cwV 1 hts (gd_GV wd_534 wd_535 wd_536 wd_76 wd_537) rfl rfl rfl (by decide +kernel) hR
theorem k_X0_99 (hts : ∀ w ∈ lw_gd, w.before args s = true) (hR : rmX1_copyFrom.frames + 1 ≤ R.frames ∧ 8 + (2 + 11) + rmX1_copyFrom.locals ≤ R.locals) : CallW R s args RX0 RX1 99 yX1_copyFrom cX1_copyFrom 2 none wsX1_copyFrom rmX1_copyFrom 0 0 1 :=
  cwV 1 hts (gd_GV wd_538 wd_539 wd_540 wd_77 wd_541) rfl rfl rfl (by decide +kernel) hR
theorem k_X0_115 (hts : ∀ w ∈ lw_gd, w.before args s = true) (hR : rmX2_isCalledByAnother.frames + 1 ≤ R.frames ∧ 8 + (1 + 11) + rmX2_isCalledByAnother.locals ≤ R.locals) : CallW R s args RX0 RX2 115 yX2_isCalledByAnother cX2_isCalledByAnother 1 (some .boolean) wsX2_isCalledByAnother rmX2_isCalledByAnother 0 0 0 :=
  cwV 0 hts (gd_GV wd_348 wd_349 wd_350 wd_76 wd_351) rfl rfl rfl (by decide +kernel) hR
theorem k_X0_122 (hts : ∀ w ∈ lw_gd, w.before args s = true) (hR : rmX0_release.frames + 1 ≤ R.frames ∧ 8 + (3 + 11) + rmX0_release.locals ≤ R.locals) : CallW R s args RX0 RX0 122 yX0_release cX0_release 3 none wsX0_release rmX0_release 0 0 1 :=
  cwV 1 hts (gd_GV wd_352 wd_354 wd_1 wd_75 wd_355) rfl rfl rfl (by decide +kernel) hR
theorem k_X0_125 (hts : ∀ w ∈ lw_gd, w.before args s = true) (hR : rmX2_leaveCall.frames + 1 ≤ R.frames ∧ 8 + (2 + 11) + rmX2_leaveCall.locals ≤ R.locals) : CallW R s args RX0 RX2 125 yX2_leaveCall cX2_leaveCall 2 none wsX2_leaveCall rmX2_leaveCall 0 0 1 :=
  cwV 1 hts (gd_GV wd_356 wd_296 wd_297 wd_76 wd_298) rfl rfl rfl (by decide +kernel) hR
theorem k_X0_132 (hts : ∀ w ∈ lw_gd, w.before args s = true) (hR : rmX1_becomeFree.frames + 1 ≤ R.frames ∧ 8 + (1 + 11) + rmX1_becomeFree.locals ≤ R.locals) : CallW R s args RX0 RX1 132 yX1_becomeFree cX1_becomeFree 1 none wsX1_becomeFree rmX1_becomeFree 0 0 0 :=
  cwV 0 hts (gd_GV wd_357 wd_308 wd_309 wd_77 wd_310) rfl rfl rfl (by decide +kernel) hR
theorem k_X0_138 (hts : ∀ w ∈ lw_gd, w.before args s = true) (hR : rmX2_appendDigit.frames + 1 ≤ R.frames ∧ 8 + (2 + 11) + rmX2_appendDigit.locals ≤ R.locals) : CallW R s args RX0 RX2 138 yX2_appendDigit cX2_appendDigit 2 none wsX2_appendDigit rmX2_appendDigit 0 0 1 :=
  cwV 1 hts (gd_GV wd_366 wd_367 wd_368 wd_76 wd_369) rfl rfl rfl (by decide +kernel) hR
theorem k_X0_142 (hts : ∀ w ∈ lw_gd, w.before args s = true) (hR : rmX0_takeStep.frames + 1 ≤ R.frames ∧ 8 + (3 + 11) + rmX0_takeStep.locals ≤ R.locals) : CallW R s args RX0 RX0 142 yX0_takeStep cX0_takeStep 3 none wsX0_takeStep rmX0_takeStep 0 0 1 :=
  cwV 1 hts (gd_GV wd_383 wd_385 wd_2 wd_75 wd_386) rfl rfl rfl (by decide +kernel) hR
theorem k_X0_145 (hts : ∀ w ∈ lw_gd, w.before args s = true) (hR : rmX0_allotFinder.frames + 1 ≤ R.frames ∧ 8 + (4 + 11) + rmX0_allotFinder.locals ≤ R.locals) : CallW R s args RX0 RX0 145 yX0_allotFinder cX0_allotFinder 4 none wsX0_allotFinder rmX0_allotFinder 0 0 0 :=
  cwV 0 hts (gd_GV wd_436 wd_438 wd_12 wd_75 wd_439) rfl rfl rfl (by decide +kernel) hR
theorem k_X0_148 (hts : ∀ w ∈ lw_gd, w.before args s = true) (hR : rmX0_countParked.frames + 1 ≤ R.frames ∧ 8 + (3 + 11) + rmX0_countParked.locals ≤ R.locals) : CallW R s args RX0 RX0 148 yX0_countParked cX0_countParked 3 none wsX0_countParked rmX0_countParked 0 0 0 :=
  cwV 0 hts (gd_GV wd_452 wd_454 wd_15 wd_75 wd_455) rfl rfl rfl (by decide +kernel) hR
theorem k_X0_155 (hts : ∀ w ∈ lw_gd, w.before args s = true) (hR : rmX0_seek.frames + 1 ≤ R.frames ∧ 8 + (3 + 11) + rmX0_seek.locals ≤ R.locals) : CallW R s args RX0 RX0 155 yX0_seek cX0_seek 3 none wsX0_seek rmX0_seek 0 0 2 :=
  cwV 2 hts (gd_GV wd_387 wd_389 wd_3 wd_75 wd_390) rfl rfl rfl (by decide +kernel) hR
theorem k_X0_159 (hts : ∀ w ∈ lw_gd, w.before args s = true) (hR : rmX0_awaitDigit.frames + 1 ≤ R.frames ∧ 8 + (4 + 11) + rmX0_awaitDigit.locals ≤ R.locals) : CallW R s args RX0 RX0 159 yX0_awaitDigit cX0_awaitDigit 4 none wsX0_awaitDigit rmX0_awaitDigit 0 0 3 :=
  cwV 3 hts (gd_GV wd_392 wd_394 wd_4 wd_75 wd_395) rfl rfl rfl (by decide +kernel) hR
theorem k_X0_163 (hts : ∀ w ∈ lw_gd, w.before args s = true) (hR : rmX0_rise.frames + 1 ≤ R.frames ∧ 8 + (3 + 11) + rmX0_rise.locals ≤ R.locals) : CallW R s args RX0 RX0 163 yX0_rise cX0_rise 3 none wsX0_rise rmX0_rise 0 0 2 :=
  cwV 2 hts (gd_GV wd_400 wd_402 wd_5 wd_75 wd_403) rfl rfl rfl (by decide +kernel) hR
theorem k_X0_166 (hts : ∀ w ∈ lw_gd, w.before args s = true) (hR : rmX0_hunt.frames + 1 ≤ R.frames ∧ 8 + (3 + 11) + rmX0_hunt.locals ≤ R.locals) : CallW R s args RX0 RX0 166 yX0_hunt cX0_hunt 3 none wsX0_hunt rmX0_hunt 0 0 2 :=
  cwV 2 hts (gd_GV wd_408 wd_410 wd_7 wd_75 wd_411) rfl rfl rfl (by decide +kernel) hR
theorem k_X0_169 (hts : ∀ w ∈ lw_gd, w.before args s = true) (hR : rmX0_stepOn.frames + 1 ≤ R.frames ∧ 8 + (5 + 11) + rmX0_stepOn.locals ≤ R.locals) : CallW R s args RX0 RX0 169 yX0_stepOn cX0_stepOn 5 none wsX0_stepOn rmX0_stepOn 0 0 2 :=
  cwV 2 hts (gd_GV wd_420 wd_422 wd_8 wd_75 wd_423) rfl rfl rfl (by decide +kernel) hR
theorem k_X0_172 (hts : ∀ w ∈ lw_gd, w.before args s = true) (hR : rmX0_ringOn.frames + 1 ≤ R.frames ∧ 8 + (4 + 11) + rmX0_ringOn.locals ≤ R.locals) : CallW R s args RX0 RX0 172 yX0_ringOn cX0_ringOn 4 none wsX0_ringOn rmX0_ringOn 0 0 2 :=
  cwV 2 hts (gd_GV wd_424 wd_426 wd_9 wd_75 wd_427) rfl rfl rfl (by decide +kernel) hR
theorem k_X0_175 (hts : ∀ w ∈ lw_gd, w.before args s = true) (hR : rmX0_talkOn.frames + 1 ≤ R.frames ∧ 8 + (5 + 11) + rmX0_talkOn.locals ≤ R.locals) : CallW R s args RX0 RX0 175 yX0_talkOn cX0_talkOn 5 none wsX0_talkOn rmX0_talkOn 0 0 2 :=
  cwV 2 hts (gd_GV wd_428 wd_430 wd_10 wd_75 wd_431) rfl rfl rfl (by decide +kernel) hR
theorem k_X0_178 (hts : ∀ w ∈ lw_gd, w.before args s = true) (hR : rmX0_soundOn.frames + 1 ≤ R.frames ∧ 8 + (3 + 11) + rmX0_soundOn.locals ≤ R.locals) : CallW R s args RX0 RX0 178 yX0_soundOn cX0_soundOn 3 none wsX0_soundOn rmX0_soundOn 0 0 2 :=
  cwV 2 hts (gd_GV wd_432 wd_434 wd_11 wd_75 wd_435) rfl rfl rfl (by decide +kernel) hR
theorem k_X0_184 (hts : ∀ w ∈ lw_gd, w.before args s = true) (hR : rmX1_become.frames + 1 ≤ R.frames ∧ 8 + (2 + 11) + rmX1_become.locals ≤ R.locals) : CallW R s args RX0 RX1 184 yX1_become cX1_become 2 none wsX1_become rmX1_become 0 0 1 :=
  cwV 1 hts (gd_GV wd_391 wd_312 wd_313 wd_77 wd_314) rfl rfl rfl (by decide +kernel) hR
theorem k_X0_187 (hts : ∀ w ∈ lw_gd, w.before args s = true) (hR : rmX2_takePulses.frames + 1 ≤ R.frames ∧ 8 + (2 + 11) + rmX2_takePulses.locals ≤ R.locals) : CallW R s args RX0 RX2 187 yX2_takePulses cX2_takePulses 2 (some .int) wsX2_takePulses rmX2_takePulses 0 0 0 :=
  cwV 0 hts (gd_GV wd_396 wd_397 wd_398 wd_76 wd_399) rfl rfl rfl (by decide +kernel) hR
theorem k_X0_200 (hts : ∀ w ∈ lw_gd, w.before args s = true) (hR : rmX0_sound.frames + 1 ≤ R.frames ∧ 8 + (5 + 11) + rmX0_sound.locals ≤ R.locals) : CallW R s args RX0 RX0 200 yX0_sound cX0_sound 5 none wsX0_sound rmX0_sound 0 0 4 :=
  cwV 4 hts (gd_GV wd_404 wd_406 wd_6 wd_75 wd_407) rfl rfl rfl (by decide +kernel) hR
theorem k_X0_207 (hts : ∀ w ∈ lw_gd, w.before args s = true) (hR : rmX0_holderOf.frames + 1 ≤ R.frames ∧ 8 + (5 + 11) + rmX0_holderOf.locals ≤ R.locals) : CallW R s args RX0 RX0 207 yX0_holderOf cX0_holderOf 5 (some .int) wsX0_holderOf rmX0_holderOf 0 0 2 :=
  cwV 2 hts (gd_GV wd_412 wd_413 wd_414 wd_75 wd_415) rfl rfl rfl (by decide +kernel) hR
theorem k_X0_220 (hts : ∀ w ∈ lw_gd, w.before args s = true) (hR : rmX0_nextFreeFinder.frames + 1 ≤ R.frames ∧ 8 + (3 + 11) + rmX0_nextFreeFinder.locals ≤ R.locals) : CallW R s args RX0 RX0 220 yX0_nextFreeFinder cX0_nextFreeFinder 3 (some .int) wsX0_nextFreeFinder rmX0_nextFreeFinder 0 0 0 :=
  cwV 0 hts (gd_GV wd_440 wd_442 wd_13 wd_75 wd_443) rfl rfl rfl (by decide +kernel) hR
theorem k_X0_223 (hts : ∀ w ∈ lw_gd, w.before args s = true) (hR : rmX0_firstWaitingLine.frames + 1 ≤ R.frames ∧ 8 + (4 + 11) + rmX0_firstWaitingLine.locals ≤ R.locals) : CallW R s args RX0 RX0 223 yX0_firstWaitingLine cX0_firstWaitingLine 4 (some .int) wsX0_firstWaitingLine rmX0_firstWaitingLine 0 0 0 :=
  cwV 0 hts (gd_GV wd_444 wd_446 wd_14 wd_75 wd_447) rfl rfl rfl (by decide +kernel) hR
theorem k_X0_226 (hts : ∀ w ∈ lw_gd, w.before args s = true) (hR : rmX2_waitParked.frames + 1 ≤ R.frames ∧ 8 + (2 + 11) + rmX2_waitParked.locals ≤ R.locals) : CallW R s args RX0 RX2 226 yX2_waitParked cX2_waitParked 2 none wsX2_waitParked rmX2_waitParked 0 0 1 :=
  cwV 1 hts (gd_GV wd_456 wd_457 wd_458 wd_76 wd_459) rfl rfl rfl (by decide +kernel) hR
theorem k_X0_229 (hts : ∀ w ∈ lw_gd, w.before args s = true) (hR : rmX2_waitsUnsought.frames + 1 ≤ R.frames ∧ 8 + (1 + 11) + rmX2_waitsUnsought.locals ≤ R.locals) : CallW R s args RX0 RX2 229 yX2_waitsUnsought cX2_waitsUnsought 1 (some .boolean) wsX2_waitsUnsought rmX2_waitsUnsought 0 0 0 :=
  cwV 0 hts (gd_GV wd_448 wd_449 wd_450 wd_76 wd_451) rfl rfl rfl (by decide +kernel) hR
theorem k_X0_232 (hts : ∀ w ∈ lw_gd, w.before args s = true) (hR : rmX1_holdsConnector.frames + 1 ≤ R.frames ∧ 8 + (1 + 11) + rmX1_holdsConnector.locals ≤ R.locals) : CallW R s args RX0 RX1 232 yX1_holdsConnector cX1_holdsConnector 1 (some .boolean) wsX1_holdsConnector rmX1_holdsConnector 0 0 0 :=
  cwV 0 hts (gd_GV wd_416 wd_417 wd_418 wd_77 wd_419) rfl rfl rfl (by decide +kernel) hR
theorem k_X0_235 (hts : ∀ w ∈ lw_gd, w.before args s = true) (hR : rmX0_pass.frames + 1 ≤ R.frames ∧ 8 + (4 + 11) + rmX0_pass.locals ≤ R.locals) : CallW R s args RX0 RX0 235 yX0_pass cX0_pass 4 none wsX0_pass rmX0_pass 0 0 1 :=
  cwV 1 hts (gd_GV wd_546 wd_380 wd_381 wd_75 wd_382) rfl rfl rfl (by decide +kernel) hR
theorem k_X0_238 (hts : ∀ w ∈ lw_gd, w.before args s = true) (hR : rmX0_liftLine.frames + 1 ≤ R.frames ∧ 8 + (3 + 11) + rmX0_liftLine.locals ≤ R.locals) : CallW R s args RX0 RX0 238 yX0_liftLine cX0_liftLine 3 (some .int) wsX0_liftLine rmX0_liftLine 0 0 1 :=
  cwV 1 hts (gd_GV wd_556 wd_337 wd_338 wd_75 wd_339) rfl rfl rfl (by decide +kernel) hR
theorem k_X0_245 (hts : ∀ w ∈ lw_gd, w.before args s = true) (hR : rmX0_dialDigit.frames + 1 ≤ R.frames ∧ 8 + (4 + 11) + rmX0_dialDigit.locals ≤ R.locals) : CallW R s args RX0 RX0 245 yX0_dialDigit cX0_dialDigit 4 (some .int) wsX0_dialDigit rmX0_dialDigit 0 0 2 :=
  cwV 2 hts (gd_GV wd_560 wd_363 wd_364 wd_75 wd_365) rfl rfl rfl (by decide +kernel) hR
theorem k_X0_248 (hts : ∀ w ∈ lw_gd, w.before args s = true) (hR : rmX0_partnerOf.frames + 1 ≤ R.frames ∧ 8 + (3 + 11) + rmX0_partnerOf.locals ≤ R.locals) : CallW R s args RX0 RX0 248 yX0_partnerOf cX0_partnerOf 3 (some .int) wsX0_partnerOf rmX0_partnerOf 0 0 1 :=
  cwV 1 hts (gd_GV wd_468 wd_470 wd_16 wd_75 wd_471) rfl rfl rfl (by decide +kernel) hR
theorem k_X0_252 (hts : ∀ w ∈ lw_gd, w.before args s = true) (hR : rmX0_placeOf.frames + 1 ≤ R.frames ∧ 8 + (4 + 11) + rmX0_placeOf.locals ≤ R.locals) : CallW R s args RX0 RX0 252 yX0_placeOf cX0_placeOf 4 (some .int) wsX0_placeOf rmX0_placeOf 0 0 1 :=
  cwV 1 hts (gd_GV wd_476 wd_478 wd_17 wd_75 wd_479) rfl rfl rfl (by decide +kernel) hR
theorem k_X0_258 (hts : ∀ w ∈ lw_gd, w.before args s = true) (hR : rmX2_callsAnother.frames + 1 ≤ R.frames ∧ 8 + (1 + 11) + rmX2_callsAnother.locals ≤ R.locals) : CallW R s args RX0 RX2 258 yX2_callsAnother cX2_callsAnother 1 (some .boolean) wsX2_callsAnother rmX2_callsAnother 0 0 0 :=
  cwV 0 hts (gd_GV wd_472 wd_473 wd_474 wd_76 wd_475) rfl rfl rfl (by decide +kernel) hR
theorem k_X0_261 (hts : ∀ w ∈ lw_gd, w.before args s = true) (hR : rmX0_freeFinders.frames + 1 ≤ R.frames ∧ 8 + (3 + 11) + rmX0_freeFinders.locals ≤ R.locals) : CallW R s args RX0 RX0 261 yX0_freeFinders cX0_freeFinders 3 (some .int) wsX0_freeFinders rmX0_freeFinders 0 0 0 :=
  cwV 0 hts (gd_GV wd_502 wd_504 wd_18 wd_75 wd_505) rfl rfl rfl (by decide +kernel) hR
theorem k_X0_264 (hts : ∀ w ∈ lw_gd, w.before args s = true) (hR : rmX0_freeConnectors.frames + 1 ≤ R.frames ∧ 8 + (3 + 11) + rmX0_freeConnectors.locals ≤ R.locals) : CallW R s args RX0 RX0 264 yX0_freeConnectors cX0_freeConnectors 3 (some .int) wsX0_freeConnectors rmX0_freeConnectors 0 0 0 :=
  cwV 0 hts (gd_GV wd_506 wd_508 wd_19 wd_75 wd_509) rfl rfl rfl (by decide +kernel) hR
theorem k_X0_267 (hts : ∀ w ∈ lw_gd, w.before args s = true) (hR : rmX0_sumOfMeters.frames + 1 ≤ R.frames ∧ 8 + (3 + 11) + rmX0_sumOfMeters.locals ≤ R.locals) : CallW R s args RX0 RX0 267 yX0_sumOfMeters cX0_sumOfMeters 3 (some .int) wsX0_sumOfMeters rmX0_sumOfMeters 0 0 0 :=
  cwV 0 hts (gd_GV wd_510 wd_512 wd_20 wd_75 wd_513) rfl rfl rfl (by decide +kernel) hR
theorem k_X0_270 (hts : ∀ w ∈ lw_gd, w.before args s = true) (hR : rmX0_liftedLines.frames + 1 ≤ R.frames ∧ 8 + (3 + 11) + rmX0_liftedLines.locals ≤ R.locals) : CallW R s args RX0 RX0 270 yX0_liftedLines cX0_liftedLines 3 (some .int) wsX0_liftedLines rmX0_liftedLines 0 0 0 :=
  cwV 0 hts (gd_GV wd_514 wd_516 wd_21 wd_75 wd_517) rfl rfl rfl (by decide +kernel) hR
theorem k_X1_42 (hts : ∀ w ∈ lw_gd, w.before args s = true) (hR : rmX1_becomeFree.frames + 1 ≤ R.frames ∧ 8 + (1 + 11) + rmX1_becomeFree.locals ≤ R.locals) : CallW R s args RX1 RX1 42 yX1_becomeFree cX1_becomeFree 1 none wsX1_becomeFree rmX1_becomeFree 0 0 0 :=
  cwV 0 hts (gd_GV wd_307 wd_308 wd_309 wd_77 wd_310) rfl rfl rfl (by decide +kernel) hR
theorem k_X1_45 (hts : ∀ w ∈ lw_gd, w.before args s = true) (hR : rmX1_become.frames + 1 ≤ R.frames ∧ 8 + (2 + 11) + rmX1_become.locals ≤ R.locals) : CallW R s args RX1 RX1 45 yX1_become cX1_become 2 none wsX1_become rmX1_become 0 0 1 :=
  cwV 1 hts (gd_GV wd_311 wd_312 wd_313 wd_77 wd_314) rfl rfl rfl (by decide +kernel) hR
theorem k_X2_40 (hts : ∀ w ∈ lw_gd, w.before args s = true) (hR : rmX2_leaveCall.frames + 1 ≤ R.frames ∧ 8 + (2 + 11) + rmX2_leaveCall.locals ≤ R.locals) : CallW R s args RX2 RX2 40 yX2_leaveCall cX2_leaveCall 2 none wsX2_leaveCall rmX2_leaveCall 0 0 1 :=
  cwV 1 hts (gd_GV wd_295 wd_296 wd_297 wd_76 wd_298) rfl rfl rfl (by decide +kernel) hR
theorem k_X3_19 (hts : ∀ w ∈ lw_gd, w.before args s = true) (hR : rmX3_countOf.frames + 1 ≤ R.frames ∧ 8 + (6 + 11) + rmX3_countOf.locals ≤ R.locals) : CallB R s args RX3 19 yX3_countOf cX3_countOf 6 (some .int) wsX3_countOf rmX3_countOf 0 0 1 ∧ (Cond.static yX3_countOf).before args s = true :=
  cwS 1 hts (gd_GS wd_569 wd_570 wd_78 wd_571) rfl rfl rfl (by decide +kernel) hR
theorem k_X3_27 (hNw : nestOK s) (hts : ∀ w ∈ lw_gd, w.before args s = true) (hR : rmX4_isWithin.frames + 1 ≤ R.frames ∧ 8 + (3 + 11) + rmX4_isWithin.locals ≤ R.locals) : va_CN R s args RX3 27 yX4_isWithin RX4 cX4_isWithin 3 (some .boolean) wsX4_isWithin rmX4_isWithin 0 0 3 ∧ (Cond.static yX4_isWithin).before args s = true ∧ True :=
  ⟨va_cnB 3 hts (gd_GI wd_282) rfl rfl rfl hNw.2.2.2.1 (hts _ wd_74) (by decide +kernel) hR, hts _ wd_281, trivial⟩
theorem k_X3_35 (hts : ∀ w ∈ lw_gd, w.before args s = true) (hR : rmX3_isDigit.frames + 1 ≤ R.frames ∧ 8 + (1 + 11) + rmX3_isDigit.locals ≤ R.locals) : CallB R s args RX3 35 yX3_isDigit cX3_isDigit 1 (some .boolean) wsX3_isDigit rmX3_isDigit 0 0 1 ∧ (Cond.static yX3_isDigit).before args s = true :=
  cwS 1 hts (gd_GS wd_593 wd_594 wd_78 wd_595) rfl rfl rfl (by decide +kernel) hR
theorem k_X3_39 (hts : ∀ w ∈ lw_gd, w.before args s = true) (hR : rmX3_awaitedBehind.frames + 1 ≤ R.frames ∧ 8 + (3 + 11) + rmX3_awaitedBehind.locals ≤ R.locals) : CallB R s args RX3 39 yX3_awaitedBehind cX3_awaitedBehind 3 (some .int) wsX3_awaitedBehind rmX3_awaitedBehind 0 0 3 ∧ (Cond.static yX3_awaitedBehind).before args s = true :=
  cwS 3 hts (gd_GS wd_596 wd_597 wd_78 wd_598) rfl rfl rfl (by decide +kernel) hR
theorem k_X3_43 (hts : ∀ w ∈ lw_gd, w.before args s = true) (hR : rmX3_awaitedBehindLetter.frames + 1 ≤ R.frames ∧ 8 + (1 + 11) + rmX3_awaitedBehindLetter.locals ≤ R.locals) : CallB R s args RX3 43 yX3_awaitedBehindLetter cX3_awaitedBehindLetter 1 (some .int) wsX3_awaitedBehindLetter rmX3_awaitedBehindLetter 0 0 1 ∧ (Cond.static yX3_awaitedBehindLetter).before args s = true :=
  cwS 1 hts (gd_GS wd_599 wd_600 wd_78 wd_601) rfl rfl rfl (by decide +kernel) hR
theorem k_X3_46 (hts : ∀ w ∈ lw_gd, w.before args s = true) (hR : rmX3_lineOf.frames + 1 ≤ R.frames ∧ 8 + (1 + 11) + rmX3_lineOf.locals ≤ R.locals) : CallB R s args RX3 46 yX3_lineOf cX3_lineOf 1 (some .int) wsX3_lineOf rmX3_lineOf 0 0 1 ∧ (Cond.static yX3_lineOf).before args s = true :=
  cwS 1 hts (gd_GS wd_602 wd_603 wd_78 wd_604) rfl rfl rfl (by decide +kernel) hR
theorem k_X3_49 (hts : ∀ w ∈ lw_gd, w.before args s = true) (hR : rmX3_awaitedBehindComma.frames + 1 ≤ R.frames ∧ 8 + (1 + 11) + rmX3_awaitedBehindComma.locals ≤ R.locals) : CallB R s args RX3 49 yX3_awaitedBehindComma cX3_awaitedBehindComma 1 (some .int) wsX3_awaitedBehindComma rmX3_awaitedBehindComma 0 0 1 ∧ (Cond.static yX3_awaitedBehindComma).before args s = true :=
  cwS 1 hts (gd_GS wd_605 wd_606 wd_78 wd_607) rfl rfl rfl (by decide +kernel) hR
theorem k_X3_23 (hts : ∀ w ∈ lw_gd, w.before args s = true) (hR : rmX3_appendCode.frames + 1 ≤ R.frames ∧ 8 + (2 + 11) + rmX3_appendCode.locals ≤ R.locals) : CallW R s args RX3 RX3 23 yX3_appendCode cX3_appendCode 2 none wsX3_appendCode rmX3_appendCode 0 0 1 :=
  cwV 1 hts (gd_GV wd_573 wd_575 wd_22 wd_78 wd_576) rfl rfl rfl (by decide +kernel) hR
theorem k_X3_31 (hts : ∀ w ∈ lw_gd, w.before args s = true) (hR : rmX3_codeAt.frames + 1 ≤ R.frames ∧ 8 + (2 + 11) + rmX3_codeAt.locals ≤ R.locals) : CallW R s args RX3 RX3 31 yX3_codeAt cX3_codeAt 2 (some .int) wsX3_codeAt rmX3_codeAt 0 0 1 :=
  cwV 1 hts (gd_GV wd_589 wd_590 wd_591 wd_78 wd_592) rfl rfl rfl (by decide +kernel) hR
theorem k_X4_30 (hts : ∀ w ∈ lw_gd, w.before args s = true) (hR : rmX4_isWithin.frames + 1 ≤ R.frames ∧ 8 + (3 + 11) + rmX4_isWithin.locals ≤ R.locals) : CallB R s args RX4 30 yX4_isWithin cX4_isWithin 3 (some .boolean) wsX4_isWithin rmX4_isWithin 0 0 3 ∧ (Cond.static yX4_isWithin).before args s = true :=
  cwS 3 hts (gd_GS wd_280 wd_281 wd_74 wd_282) rfl rfl rfl (by decide +kernel) hR
theorem k_X4_50 (hts : ∀ w ∈ lw_gd, w.before args s = true) (hR : rmX4_isLine.frames + 1 ≤ R.frames ∧ 8 + (1 + 11) + rmX4_isLine.locals ≤ R.locals) : CallB R s args RX4 50 yX4_isLine cX4_isLine 1 (some .boolean) wsX4_isLine rmX4_isLine 0 0 1 ∧ (Cond.static yX4_isLine).before args s = true :=
  cwS 1 hts (gd_GS wd_333 wd_334 wd_74 wd_335) rfl rfl rfl (by decide +kernel) hR
theorem k_X4_145 (hts : ∀ w ∈ lw_gd, w.before args s = true) (hR : rmX3_isDigit.frames + 1 ≤ R.frames ∧ 8 + (1 + 11) + rmX3_isDigit.locals ≤ R.locals) : CallB R s args RX4 145 yX3_isDigit cX3_isDigit 1 (some .boolean) wsX3_isDigit rmX3_isDigit 0 0 1 ∧ (Cond.static yX3_isDigit).before args s = true :=
  va_cwS 1 hts (gd_GSU wd_629 wd_594 wd_78 wd_595) rfl rfl rfl (by decide +kernel) hR
theorem k_X4_38 (hts : ∀ w ∈ lw_gd, w.before args s = true) (hR : rmX0_renew.frames + 1 ≤ R.frames ∧ 8 + (4 + 11) + rmX0_renew.locals ≤ R.locals) : CallW R s args RX4 RX0 38 yX0_renew cX0_renew 4 none wsX0_renew rmX0_renew 0 0 2 :=
  cwV 2 hts (gd_GV wd_283 wd_284 wd_285 wd_75 wd_286) rfl rfl rfl (by decide +kernel) hR
theorem k_X4_46 (hts : ∀ w ∈ lw_gd, w.before args s = true) (hR : rmX0_changeSetting.frames + 1 ≤ R.frames ∧ 8 + (4 + 11) + rmX0_changeSetting.locals ≤ R.locals) : CallW R s args RX4 RX0 46 yX0_changeSetting cX0_changeSetting 4 (some .int) wsX0_changeSetting rmX0_changeSetting 0 0 2 :=
  cwV 2 hts (gd_GV wd_321 wd_322 wd_323 wd_75 wd_324) rfl rfl rfl (by decide +kernel) hR
theorem k_X4_54 (hts : ∀ w ∈ lw_gd, w.before args s = true) (hR : rmX0_liftLine.frames + 1 ≤ R.frames ∧ 8 + (3 + 11) + rmX0_liftLine.locals ≤ R.locals) : CallW R s args RX4 RX0 54 yX0_liftLine cX0_liftLine 3 (some .int) wsX0_liftLine rmX0_liftLine 0 0 1 :=
  cwV 1 hts (gd_GV wd_336 wd_337 wd_338 wd_75 wd_339) rfl rfl rfl (by decide +kernel) hR
theorem k_X4_58 (hts : ∀ w ∈ lw_gd, w.before args s = true) (hR : rmX0_hangLine.frames + 1 ≤ R.frames ∧ 8 + (4 + 11) + rmX0_hangLine.locals ≤ R.locals) : CallW R s args RX4 RX0 58 yX0_hangLine cX0_hangLine 4 (some .int) wsX0_hangLine rmX0_hangLine 0 0 1 :=
  cwV 1 hts (gd_GV wd_344 wd_345 wd_346 wd_75 wd_347) rfl rfl rfl (by decide +kernel) hR
theorem k_X4_61 (hts : ∀ w ∈ lw_gd, w.before args s = true) (hR : rmX0_dialDigit.frames + 1 ≤ R.frames ∧ 8 + (4 + 11) + rmX0_dialDigit.locals ≤ R.locals) : CallW R s args RX4 RX0 61 yX0_dialDigit cX0_dialDigit 4 (some .int) wsX0_dialDigit rmX0_dialDigit 0 0 2 :=
  cwV 2 hts (gd_GV wd_362 wd_363 wd_364 wd_75 wd_365) rfl rfl rfl (by decide +kernel) hR
theorem k_X4_64 (hts : ∀ w ∈ lw_gd, w.before args s = true) (hR : rmX0_hasTimeFor.frames + 1 ≤ R.frames ∧ 8 + (2 + 11) + rmX0_hasTimeFor.locals ≤ R.locals) : CallW R s args RX4 RX0 64 yX0_hasTimeFor cX0_hasTimeFor 2 (some .boolean) wsX0_hasTimeFor rmX0_hasTimeFor 0 0 1 :=
  cwV 1 hts (gd_GV wd_374 wd_375 wd_376 wd_75 wd_377) rfl rfl rfl (by decide +kernel) hR
theorem k_X4_67 (hts : ∀ w ∈ lw_gd, w.before args s = true) (hR : rmX0_pass.frames + 1 ≤ R.frames ∧ 8 + (4 + 11) + rmX0_pass.locals ≤ R.locals) : CallW R s args RX4 RX0 67 yX0_pass cX0_pass 4 none wsX0_pass rmX0_pass 0 0 1 :=
  cwV 1 hts (gd_GV wd_379 wd_380 wd_381 wd_75 wd_382) rfl rfl rfl (by decide +kernel) hR
theorem k_X4_74 (hts : ∀ w ∈ lw_gd, w.before args s = true) (hR : rmX0_numberOfLine.frames + 1 ≤ R.frames ∧ 8 + (4 + 11) + rmX0_numberOfLine.locals ≤ R.locals) : CallW R s args RX4 RX0 74 yX0_numberOfLine cX0_numberOfLine 4 (some .int) wsX0_numberOfLine rmX0_numberOfLine 0 0 2 :=
  cwV 2 hts (gd_GV wd_464 wd_465 wd_466 wd_75 wd_467) rfl rfl rfl (by decide +kernel) hR
theorem k_X4_77 (hts : ∀ w ∈ lw_gd, w.before args s = true) (hR : rmX0_finderAt.frames + 1 ≤ R.frames ∧ 8 + (2 + 11) + rmX0_finderAt.locals ≤ R.locals) : CallW R s args RX4 RX0 77 yX0_finderAt cX0_finderAt 2 (some (.object "RotaryExchange$Finder")) wsX0_finderAt rmX0_finderAt 0 0 1 :=
  cwV 1 hts (gd_GV wd_484 wd_300 wd_301 wd_75 wd_302) rfl rfl rfl (by decide +kernel) hR
theorem k_X4_81 (hts : ∀ w ∈ lw_gd, w.before args s = true) (hR : rmX1_numberFor.frames + 1 ≤ R.frames ∧ 8 + (2 + 11) + rmX1_numberFor.locals ≤ R.locals) : CallW R s args RX4 RX1 81 yX1_numberFor cX1_numberFor 2 (some .int) wsX1_numberFor rmX1_numberFor 0 0 1 :=
  cwV 1 hts (gd_GV wd_485 wd_486 wd_487 wd_77 wd_488) rfl rfl rfl (by decide +kernel) hR
theorem k_X4_89 (hts : ∀ w ∈ lw_gd, w.before args s = true) (hR : rmX0_holderOf.frames + 1 ≤ R.frames ∧ 8 + (5 + 11) + rmX0_holderOf.locals ≤ R.locals) : CallW R s args RX4 RX0 89 yX0_holderOf cX0_holderOf 5 (some .int) wsX0_holderOf rmX0_holderOf 0 0 2 :=
  cwV 2 hts (gd_GV wd_493 wd_413 wd_414 wd_75 wd_415) rfl rfl rfl (by decide +kernel) hR
theorem k_X4_95 (hts : ∀ w ∈ lw_gd, w.before args s = true) (hR : rmX0_numberFor.frames + 1 ≤ R.frames ∧ 8 + (2 + 11) + rmX0_numberFor.locals ≤ R.locals) : CallW R s args RX4 RX0 95 yX0_numberFor cX0_numberFor 2 (some .int) wsX0_numberFor rmX0_numberFor 0 0 1 :=
  cwV 1 hts (gd_GV wd_498 wd_499 wd_500 wd_75 wd_501) rfl rfl rfl (by decide +kernel) hR
theorem k_X4_96 (hts : ∀ w ∈ lw_gd, w.before args s = true) (hR : rmX0_traceFrom.frames + 1 ≤ R.frames ∧ 8 + (5 + 11) + rmX0_traceFrom.locals ≤ R.locals) : CallW R s args RX4 RX0 96 yX0_traceFrom cX0_traceFrom 5 (some .int) wsX0_traceFrom rmX0_traceFrom 0 0 2 :=
  cwV 2 hts (gd_GV wd_522 wd_523 wd_524 wd_75 wd_525) rfl rfl rfl (by decide +kernel) hR
theorem k_X4_99 (hts : ∀ w ∈ lw_gd, w.before args s = true) (hR : rmX0_copyFrom.frames + 1 ≤ R.frames ∧ 8 + (3 + 11) + rmX0_copyFrom.locals ≤ R.locals) : CallW R s args RX4 RX0 99 yX0_copyFrom cX0_copyFrom 3 none wsX0_copyFrom rmX0_copyFrom 0 0 1 :=
  cwV 1 hts (gd_GV wd_530 wd_531 wd_532 wd_75 wd_533) rfl rfl rfl (by decide +kernel) hR
theorem k_X4_103 (hts : ∀ w ∈ lw_gd, w.before args s = true) (hR : rmX0_ticksUntil.frames + 1 ≤ R.frames ∧ 8 + (5 + 11) + rmX0_ticksUntil.locals ≤ R.locals) : CallW R s args RX4 RX0 103 yX0_ticksUntil cX0_ticksUntil 5 (some .int) wsX0_ticksUntil rmX0_ticksUntil 0 0 3 :=
  cwV 3 hts (gd_GV wd_542 wd_543 wd_544 wd_75 wd_545) rfl rfl rfl (by decide +kernel) hR
theorem k_X4_107 (hts : ∀ w ∈ lw_gd, w.before args s = true) (hR : rmX0_lineAt.frames + 1 ≤ R.frames ∧ 8 + (2 + 11) + rmX0_lineAt.locals ≤ R.locals) : CallW R s args RX4 RX0 107 yX0_lineAt cX0_lineAt 2 (some (.object "RotaryExchange$Line")) wsX0_lineAt rmX0_lineAt 0 0 1 :=
  cwV 1 hts (gd_GV wd_551 wd_288 wd_289 wd_75 wd_290) rfl rfl rfl (by decide +kernel) hR
theorem k_X4_116 (hts : ∀ w ∈ lw_gd, w.before args s = true) (hR : rmX0_tryCall.frames + 1 ≤ R.frames ∧ 8 + (5 + 11) + rmX0_tryCall.locals ≤ R.locals) : CallW R s args RX4 RX0 116 yX0_tryCall cX0_tryCall 5 (some .int) wsX0_tryCall rmX0_tryCall 0 0 2 :=
  cwV 2 hts (gd_GV wd_552 wd_553 wd_554 wd_75 wd_555) rfl rfl rfl (by decide +kernel) hR
theorem k_X4_119 (hts : ∀ w ∈ lw_gd, w.before args s = true) (hR : rmX3_append.frames + 1 ≤ R.frames ∧ 8 + (5 + 11) + rmX3_append.locals ≤ R.locals) : CallW R s args RX4 RX3 119 yX3_append cX3_append 5 (some .int) wsX3_append rmX3_append 0 0 1 :=
  cwV 1 hts (gd_GV wd_565 wd_566 wd_567 wd_78 wd_568) rfl rfl rfl (by decide +kernel) hR
theorem k_X4_123 (hts : ∀ w ∈ lw_gd, w.before args s = true) (hR : rmX3_firstFault.frames + 1 ≤ R.frames ∧ 8 + (5 + 11) + rmX3_firstFault.locals ≤ R.locals) : CallW R s args RX4 RX3 123 yX3_firstFault cX3_firstFault 5 (some .int) wsX3_firstFault rmX3_firstFault 0 0 0 :=
  cwV 0 hts (gd_GV wd_585 wd_586 wd_587 wd_78 wd_588) rfl rfl rfl (by decide +kernel) hR
theorem k_X4_127 (hts : ∀ w ∈ lw_gd, w.before args s = true) (hR : rmX3_beginsAnAct.frames + 1 ≤ R.frames ∧ 8 + (2 + 11) + rmX3_beginsAnAct.locals ≤ R.locals) : CallW R s args RX4 RX3 127 yX3_beginsAnAct cX3_beginsAnAct 2 (some .boolean) wsX3_beginsAnAct rmX3_beginsAnAct 0 0 1 :=
  cwV 1 hts (gd_GV wd_612 wd_613 wd_614 wd_78 wd_615) rfl rfl rfl (by decide +kernel) hR
theorem k_X4_130 (hts : ∀ w ∈ lw_gd, w.before args s = true) (hR : rmX4_succeeds.frames + 1 ≤ R.frames ∧ 8 + (4 + 11) + rmX4_succeeds.locals ≤ R.locals) : CallW R s args RX4 RX4 130 yX4_succeeds cX4_succeeds 4 (some .boolean) wsX4_succeeds rmX4_succeeds 0 0 1 :=
  cwV 1 hts (gd_GV wd_616 wd_618 wd_23 wd_74 wd_619) rfl rfl rfl (by decide +kernel) hR
theorem k_X4_133 (hts : ∀ w ∈ lw_gd, w.before args s = true) (hR : rmX3_lineAt.frames + 1 ≤ R.frames ∧ 8 + (2 + 11) + rmX3_lineAt.locals ≤ R.locals) : CallW R s args RX4 RX3 133 yX3_lineAt cX3_lineAt 2 (some .int) wsX3_lineAt rmX3_lineAt 0 0 1 :=
  cwV 1 hts (gd_GV wd_620 wd_621 wd_622 wd_78 wd_623) rfl rfl rfl (by decide +kernel) hR
theorem k_X4_135 (hts : ∀ w ∈ lw_gd, w.before args s = true) (hR : rmX3_codeAt.frames + 1 ≤ R.frames ∧ 8 + (2 + 11) + rmX3_codeAt.locals ≤ R.locals) : CallW R s args RX4 RX3 135 yX3_codeAt cX3_codeAt 2 (some .int) wsX3_codeAt rmX3_codeAt 0 0 1 :=
  cwV 1 hts (gd_GV wd_624 wd_590 wd_591 wd_78 wd_592) rfl rfl rfl (by decide +kernel) hR
theorem k_X4_138 (hts : ∀ w ∈ lw_gd, w.before args s = true) (hR : rmX4_dialsAll.frames + 1 ≤ R.frames ∧ 8 + (4 + 11) + rmX4_dialsAll.locals ≤ R.locals) : CallW R s args RX4 RX4 138 yX4_dialsAll cX4_dialsAll 4 (some .boolean) wsX4_dialsAll rmX4_dialsAll 0 0 2 :=
  cwV 2 hts (gd_GV wd_625 wd_627 wd_24 wd_74 wd_628) rfl rfl rfl (by decide +kernel) hR
theorem k_X4_142 (hts : ∀ w ∈ lw_gd, w.before args s = true) (hR : rmX3_numberAt.frames + 1 ≤ R.frames ∧ 8 + (4 + 11) + rmX3_numberAt.locals ≤ R.locals) : CallW R s args RX4 RX3 142 yX3_numberAt cX3_numberAt 4 (some .int) wsX3_numberAt rmX3_numberAt 0 0 1 :=
  cwV 1 hts (gd_GV wd_630 wd_631 wd_632 wd_78 wd_633) rfl rfl rfl (by decide +kernel) hR
theorem k_X5_33 (hts : ∀ w ∈ lw_gd, w.before args s = true) (hR : rmX5_in.frames + 1 ≤ R.frames ∧ 8 + (3 + 11) + rmX5_in.locals ≤ R.locals) : CallB R s args RX5 33 yX5_in cX5_in 3 (some .boolean) wsX5_in rmX5_in 0 0 3 ∧ (Cond.static yX5_in).before args s = true :=
  cwS 3 hts (gd_GS wd_652 wd_653 wd_79 wd_654) rfl rfl rfl (by decide +kernel) hR
theorem k_X5_49 (hts : ∀ w ∈ lw_gd, w.before args s = true) (hR : rmX5_takes.frames + 1 ≤ R.frames ∧ 8 + (2 + 11) + rmX5_takes.locals ≤ R.locals) : CallB R s args RX5 49 yX5_takes cX5_takes 2 (some .boolean) wsX5_takes rmX5_takes 0 0 2 ∧ (Cond.static yX5_takes).before args s = true :=
  cwS 2 hts (gd_GS wd_707 wd_708 wd_79 wd_709) rfl rfl rfl (by decide +kernel) hR
theorem k_X5_64 (hts : ∀ w ∈ lw_gd, w.before args s = true) (hR : rmX5_isLine.frames + 1 ≤ R.frames ∧ 8 + (1 + 11) + rmX5_isLine.locals ≤ R.locals) : CallB R s args RX5 64 yX5_isLine cX5_isLine 1 (some .boolean) wsX5_isLine rmX5_isLine 0 0 1 ∧ (Cond.static yX5_isLine).before args s = true :=
  cwS 1 hts (gd_GS wd_718 wd_719 wd_79 wd_720) rfl rfl rfl (by decide +kernel) hR
theorem k_X5_178 (hts : ∀ w ∈ lw_gd, w.before args s = true) (hR : rmX5_isEnd.frames + 1 ≤ R.frames ∧ 8 + (1 + 11) + rmX5_isEnd.locals ≤ R.locals) : CallB R s args RX5 178 yX5_isEnd cX5_isEnd 1 (some .boolean) wsX5_isEnd rmX5_isEnd 0 0 1 ∧ (Cond.static yX5_isEnd).before args s = true :=
  cwS 1 hts (gd_GS wd_907 wd_908 wd_79 wd_909) rfl rfl rfl (by decide +kernel) hR
theorem k_X5_193 (hts : ∀ w ∈ lw_gd, w.before args s = true) (hR : rmX5_lineBy.frames + 1 ≤ R.frames ∧ 8 + (1 + 11) + rmX5_lineBy.locals ≤ R.locals) : CallB R s args RX5 193 yX5_lineBy cX5_lineBy 1 (some .int) wsX5_lineBy rmX5_lineBy 0 0 1 ∧ (Cond.static yX5_lineBy).before args s = true :=
  cwS 1 hts (gd_GS wd_940 wd_941 wd_79 wd_942) rfl rfl rfl (by decide +kernel) hR
theorem k_X5_29 (hts : ∀ w ∈ lw_gd, w.before args s = true) (hR : rmX5_begin.frames + 1 ≤ R.frames ∧ 8 + (4 + 11) + rmX5_begin.locals ≤ R.locals) : CallW R s args RX5 RX5 29 yX5_begin cX5_begin 4 none wsX5_begin rmX5_begin 0 0 2 :=
  cwV 2 hts (gd_GV wd_648 wd_650 wd_25 wd_79 wd_651) rfl rfl rfl (by decide +kernel) hR
theorem k_X5_37 (hts : ∀ w ∈ lw_gd, w.before args s = true) (hR : rmX5_free.frames + 1 ≤ R.frames ∧ 8 + (4 + 11) + rmX5_free.locals ≤ R.locals) : CallW R s args RX5 RX5 37 yX5_free cX5_free 4 none wsX5_free rmX5_free 0 0 1 :=
  cwV 1 hts (gd_GV wd_655 wd_657 wd_26 wd_79 wd_658) rfl rfl rfl (by decide +kernel) hR
theorem k_X5_41 (hts : ∀ w ∈ lw_gd, w.before args s = true) (hR : rmX5_ofFinder.frames + 1 ≤ R.frames ∧ 8 + (3 + 11) + rmX5_ofFinder.locals ≤ R.locals) : CallW R s args RX5 RX5 41 yX5_ofFinder cX5_ofFinder 3 (some .int) wsX5_ofFinder rmX5_ofFinder 0 0 2 :=
  cwV 2 hts (gd_GV wd_659 wd_661 wd_27 wd_79 wd_662) rfl rfl rfl (by decide +kernel) hR
theorem k_X5_45 (hts : ∀ w ∈ lw_gd, w.before args s = true) (hR : rmX5_layFinder.frames + 1 ≤ R.frames ∧ 8 + (4 + 11) + rmX5_layFinder.locals ≤ R.locals) : CallW R s args RX5 RX5 45 yX5_layFinder cX5_layFinder 4 none wsX5_layFinder rmX5_layFinder 0 0 3 :=
  cwV 3 hts (gd_GV wd_663 wd_665 wd_28 wd_79 wd_666) rfl rfl rfl (by decide +kernel) hR
theorem k_X5_53 (hts : ∀ w ∈ lw_gd, w.before args s = true) (hR : rmX5_setting.frames + 1 ≤ R.frames ∧ 8 + (2 + 11) + rmX5_setting.locals ≤ R.locals) : CallW R s args RX5 RX5 53 yX5_setting cX5_setting 2 (some .int) wsX5_setting rmX5_setting 0 0 1 :=
  cwV 1 hts (gd_GV wd_710 wd_712 wd_29 wd_79 wd_713) rfl rfl rfl (by decide +kernel) hR
theorem k_X5_57 (hts : ∀ w ∈ lw_gd, w.before args s = true) (hR : rmX5_isHolding.frames + 1 ≤ R.frames ∧ 8 + (2 + 11) + rmX5_isHolding.locals ≤ R.locals) : CallW R s args RX5 RX5 57 yX5_isHolding cX5_isHolding 2 (some .boolean) wsX5_isHolding rmX5_isHolding 0 0 1 :=
  cwV 1 hts (gd_GV wd_802 wd_804 wd_47 wd_79 wd_805) rfl rfl rfl (by decide +kernel) hR
theorem k_X5_61 (hts : ∀ w ∈ lw_gd, w.before args s = true) (hR : rmX5_lay.frames + 1 ≤ R.frames ∧ 8 + (4 + 11) + rmX5_lay.locals ≤ R.locals) : CallW R s args RX5 RX5 61 yX5_lay cX5_lay 4 none wsX5_lay rmX5_lay 0 0 3 :=
  cwV 3 hts (gd_GV wd_725 wd_727 wd_31 wd_79 wd_728) rfl rfl rfl (by decide +kernel) hR
theorem k_X5_67 (hts : ∀ w ∈ lw_gd, w.before args s = true) (hR : rmX5_of.frames + 1 ≤ R.frames ∧ 8 + (3 + 11) + rmX5_of.locals ≤ R.locals) : CallW R s args RX5 RX5 67 yX5_of cX5_of 3 (some .int) wsX5_of rmX5_of 0 0 2 :=
  cwV 2 hts (gd_GV wd_721 wd_723 wd_30 wd_79 wd_724) rfl rfl rfl (by decide +kernel) hR
theorem k_X5_70 (hts : ∀ w ∈ lw_gd, w.before args s = true) (hR : rmX5_countOne.frames + 1 ≤ R.frames ∧ 8 + (2 + 11) + rmX5_countOne.locals ≤ R.locals) : CallW R s args RX5 RX5 70 yX5_countOne cX5_countOne 2 none wsX5_countOne rmX5_countOne 0 0 1 :=
  cwV 1 hts (gd_GV wd_729 wd_731 wd_32 wd_79 wd_732) rfl rfl rfl (by decide +kernel) hR
theorem k_X5_73 (hts : ∀ w ∈ lw_gd, w.before args s = true) (hR : rmX5_finderOf.frames + 1 ≤ R.frames ∧ 8 + (3 + 11) + rmX5_finderOf.locals ≤ R.locals) : CallW R s args RX5 RX5 73 yX5_finderOf cX5_finderOf 3 (some .int) wsX5_finderOf rmX5_finderOf 0 0 1 :=
  cwV 1 hts (gd_GV wd_741 wd_743 wd_34 wd_79 wd_744) rfl rfl rfl (by decide +kernel) hR
theorem k_X5_76 (hts : ∀ w ∈ lw_gd, w.before args s = true) (hR : rmX5_park.frames + 1 ≤ R.frames ∧ 8 + (2 + 11) + rmX5_park.locals ≤ R.locals) : CallW R s args RX5 RX5 76 yX5_park cX5_park 2 none wsX5_park rmX5_park 0 0 1 :=
  cwV 1 hts (gd_GV wd_745 wd_747 wd_35 wd_79 wd_748) rfl rfl rfl (by decide +kernel) hR
theorem k_X5_79 (hts : ∀ w ∈ lw_gd, w.before args s = true) (hR : rmX5_dropCall.frames + 1 ≤ R.frames ∧ 8 + (4 + 11) + rmX5_dropCall.locals ≤ R.locals) : CallW R s args RX5 RX5 79 yX5_dropCall cX5_dropCall 4 none wsX5_dropCall rmX5_dropCall 0 0 1 :=
  cwV 1 hts (gd_GV wd_737 wd_739 wd_33 wd_79 wd_740) rfl rfl rfl (by decide +kernel) hR
theorem k_X5_82 (hts : ∀ w ∈ lw_gd, w.before args s = true) (hR : rmX5_takeDigit.frames + 1 ≤ R.frames ∧ 8 + (5 + 11) + rmX5_takeDigit.locals ≤ R.locals) : CallW R s args RX5 RX5 82 yX5_takeDigit cX5_takeDigit 5 (some .int) wsX5_takeDigit rmX5_takeDigit 0 0 1 :=
  cwV 1 hts (gd_GV wd_774 wd_776 wd_40 wd_79 wd_777) rfl rfl rfl (by decide +kernel) hR
theorem k_X5_85 (hts : ∀ w ∈ lw_gd, w.before args s = true) (hR : rmX5_reaches.frames + 1 ≤ R.frames ∧ 8 + (4 + 11) + rmX5_reaches.locals ≤ R.locals) : CallW R s args RX5 RX5 85 yX5_reaches cX5_reaches 4 (some .boolean) wsX5_reaches rmX5_reaches 0 0 3 :=
  cwV 3 hts (gd_GV wd_778 wd_780 wd_41 wd_79 wd_781) rfl rfl rfl (by decide +kernel) hR
theorem k_X5_88 (hts : ∀ w ∈ lw_gd, w.before args s = true) (hR : rmX5_giveUp.frames + 1 ≤ R.frames ∧ 8 + (3 + 11) + rmX5_giveUp.locals ≤ R.locals) : CallW R s args RX5 RX5 88 yX5_giveUp cX5_giveUp 3 none wsX5_giveUp rmX5_giveUp 0 0 1 :=
  cwV 1 hts (gd_GV wd_782 wd_784 wd_42 wd_79 wd_785) rfl rfl rfl (by decide +kernel) hR
theorem k_X5_91 (hts : ∀ w ∈ lw_gd, w.before args s = true) (hR : rmX5_sound.frames + 1 ≤ R.frames ∧ 8 + (5 + 11) + rmX5_sound.locals ≤ R.locals) : CallW R s args RX5 RX5 91 yX5_sound cX5_sound 5 none wsX5_sound rmX5_sound 0 0 3 :=
  cwV 3 hts (gd_GV wd_790 wd_792 wd_44 wd_79 wd_793) rfl rfl rfl (by decide +kernel) hR
theorem k_X5_94 (hts : ∀ w ∈ lw_gd, w.before args s = true) (hR : rmX5_holder.frames + 1 ≤ R.frames ∧ 8 + (4 + 11) + rmX5_holder.locals ≤ R.locals) : CallW R s args RX5 RX5 94 yX5_holder cX5_holder 4 (some .int) wsX5_holder rmX5_holder 0 0 2 :=
  cwV 2 hts (gd_GV wd_798 wd_800 wd_46 wd_79 wd_801) rfl rfl rfl (by decide +kernel) hR
theorem k_X5_97 (hts : ∀ w ∈ lw_gd, w.before args s = true) (hR : rmX5_test.frames + 1 ≤ R.frames ∧ 8 + (3 + 11) + rmX5_test.locals ≤ R.locals) : CallW R s args RX5 RX5 97 yX5_test cX5_test 3 none wsX5_test rmX5_test 0 0 1 :=
  cwV 1 hts (gd_GV wd_810 wd_812 wd_49 wd_79 wd_813) rfl rfl rfl (by decide +kernel) hR
theorem k_X5_100 (hts : ∀ w ∈ lw_gd, w.before args s = true) (hR : rmX5_meter.frames + 1 ≤ R.frames ∧ 8 + (2 + 11) + rmX5_meter.locals ≤ R.locals) : CallW R s args RX5 RX5 100 yX5_meter cX5_meter 2 none wsX5_meter rmX5_meter 0 0 1 :=
  cwV 1 hts (gd_GV wd_818 wd_820 wd_51 wd_79 wd_821) rfl rfl rfl (by decide +kernel) hR
theorem k_X5_103 (hts : ∀ w ∈ lw_gd, w.before args s = true) (hR : rmX5_seek.frames + 1 ≤ R.frames ∧ 8 + (3 + 11) + rmX5_seek.locals ≤ R.locals) : CallW R s args RX5 RX5 103 yX5_seek cX5_seek 3 none wsX5_seek rmX5_seek 0 0 1 :=
  cwV 1 hts (gd_GV wd_766 wd_768 wd_38 wd_79 wd_769) rfl rfl rfl (by decide +kernel) hR
theorem k_X5_106 (hts : ∀ w ∈ lw_gd, w.before args s = true) (hR : rmX5_waitForDigit.frames + 1 ≤ R.frames ∧ 8 + (4 + 11) + rmX5_waitForDigit.locals ≤ R.locals) : CallW R s args RX5 RX5 106 yX5_waitForDigit cX5_waitForDigit 4 none wsX5_waitForDigit rmX5_waitForDigit 0 0 1 :=
  cwV 1 hts (gd_GV wd_770 wd_772 wd_39 wd_79 wd_773) rfl rfl rfl (by decide +kernel) hR
theorem k_X5_109 (hts : ∀ w ∈ lw_gd, w.before args s = true) (hR : rmX5_rise.frames + 1 ≤ R.frames ∧ 8 + (2 + 11) + rmX5_rise.locals ≤ R.locals) : CallW R s args RX5 RX5 109 yX5_rise cX5_rise 2 none wsX5_rise rmX5_rise 0 0 1 :=
  cwV 1 hts (gd_GV wd_786 wd_788 wd_43 wd_79 wd_789) rfl rfl rfl (by decide +kernel) hR
theorem k_X5_112 (hts : ∀ w ∈ lw_gd, w.before args s = true) (hR : rmX5_hunt.frames + 1 ≤ R.frames ∧ 8 + (3 + 11) + rmX5_hunt.locals ≤ R.locals) : CallW R s args RX5 RX5 112 yX5_hunt cX5_hunt 3 none wsX5_hunt rmX5_hunt 0 0 1 :=
  cwV 1 hts (gd_GV wd_794 wd_796 wd_45 wd_79 wd_797) rfl rfl rfl (by decide +kernel) hR
theorem k_X5_115 (hts : ∀ w ∈ lw_gd, w.before args s = true) (hR : rmX5_step.frames + 1 ≤ R.frames ∧ 8 + (2 + 11) + rmX5_step.locals ≤ R.locals) : CallW R s args RX5 RX5 115 yX5_step cX5_step 2 none wsX5_step rmX5_step 0 0 1 :=
  cwV 1 hts (gd_GV wd_806 wd_808 wd_48 wd_79 wd_809) rfl rfl rfl (by decide +kernel) hR
theorem k_X5_118 (hts : ∀ w ∈ lw_gd, w.before args s = true) (hR : rmX5_ring.frames + 1 ≤ R.frames ∧ 8 + (4 + 11) + rmX5_ring.locals ≤ R.locals) : CallW R s args RX5 RX5 118 yX5_ring cX5_ring 4 none wsX5_ring rmX5_ring 0 0 1 :=
  cwV 1 hts (gd_GV wd_814 wd_816 wd_50 wd_79 wd_817) rfl rfl rfl (by decide +kernel) hR
theorem k_X5_121 (hts : ∀ w ∈ lw_gd, w.before args s = true) (hR : rmX5_talk.frames + 1 ≤ R.frames ∧ 8 + (4 + 11) + rmX5_talk.locals ≤ R.locals) : CallW R s args RX5 RX5 121 yX5_talk cX5_talk 4 none wsX5_talk rmX5_talk 0 0 1 :=
  cwV 1 hts (gd_GV wd_822 wd_824 wd_52 wd_79 wd_825) rfl rfl rfl (by decide +kernel) hR
theorem k_X5_124 (hts : ∀ w ∈ lw_gd, w.before args s = true) (hR : rmX5_soundOn.frames + 1 ≤ R.frames ∧ 8 + (3 + 11) + rmX5_soundOn.locals ≤ R.locals) : CallW R s args RX5 RX5 124 yX5_soundOn cX5_soundOn 3 none wsX5_soundOn rmX5_soundOn 0 0 1 :=
  cwV 1 hts (gd_GV wd_826 wd_828 wd_53 wd_79 wd_829) rfl rfl rfl (by decide +kernel) hR
theorem k_X5_127 (hts : ∀ w ∈ lw_gd, w.before args s = true) (hR : rmX5_isQueued.frames + 1 ≤ R.frames ∧ 8 + (2 + 11) + rmX5_isQueued.locals ≤ R.locals) : CallW R s args RX5 RX5 127 yX5_isQueued cX5_isQueued 2 (some .boolean) wsX5_isQueued rmX5_isQueued 0 0 1 :=
  cwV 1 hts (gd_GV wd_834 wd_836 wd_55 wd_79 wd_837) rfl rfl rfl (by decide +kernel) hR
theorem k_X5_130 (hts : ∀ w ∈ lw_gd, w.before args s = true) (hR : rmX5_stepFinder.frames + 1 ≤ R.frames ∧ 8 + (2 + 11) + rmX5_stepFinder.locals ≤ R.locals) : CallW R s args RX5 RX5 130 yX5_stepFinder cX5_stepFinder 2 none wsX5_stepFinder rmX5_stepFinder 0 0 1 :=
  cwV 1 hts (gd_GV wd_762 wd_764 wd_37 wd_79 wd_765) rfl rfl rfl (by decide +kernel) hR
theorem k_X5_133 (hts : ∀ w ∈ lw_gd, w.before args s = true) (hR : rmX5_allot.frames + 1 ≤ R.frames ∧ 8 + (6 + 11) + rmX5_allot.locals ≤ R.locals) : CallW R s args RX5 RX5 133 yX5_allot cX5_allot 6 none wsX5_allot rmX5_allot 0 0 0 :=
  cwV 0 hts (gd_GV wd_830 wd_832 wd_54 wd_79 wd_833) rfl rfl rfl (by decide +kernel) hR
theorem k_X5_137 (hts : ∀ w ∈ lw_gd, w.before args s = true) (hR : rmX5_makeTick.frames + 1 ≤ R.frames ∧ 8 + (2 + 11) + rmX5_makeTick.locals ≤ R.locals) : CallW R s args RX5 RX5 137 yX5_makeTick cX5_makeTick 2 none wsX5_makeTick rmX5_makeTick 0 0 0 :=
  cwV 0 hts (gd_GV wd_758 wd_760 wd_36 wd_79 wd_761) rfl rfl rfl (by decide +kernel) hR
theorem k_X5_140 (hts : ∀ w ∈ lw_gd, w.before args s = true) (hR : rmX5_finderTo.frames + 1 ≤ R.frames ∧ 8 + (3 + 11) + rmX5_finderTo.locals ≤ R.locals) : CallW R s args RX5 RX5 140 yX5_finderTo cX5_finderTo 3 (some .int) wsX5_finderTo rmX5_finderTo 0 0 1 :=
  cwV 1 hts (gd_GV wd_846 wd_848 wd_57 wd_79 wd_849) rfl rfl rfl (by decide +kernel) hR
theorem k_X5_143 (hts : ∀ w ∈ lw_gd, w.before args s = true) (hR : rmX5_pathOf.frames + 1 ≤ R.frames ∧ 8 + (2 + 11) + rmX5_pathOf.locals ≤ R.locals) : CallW R s args RX5 RX5 143 yX5_pathOf cX5_pathOf 2 (some .int) wsX5_pathOf rmX5_pathOf 0 0 1 :=
  cwV 1 hts (gd_GV wd_842 wd_844 wd_56 wd_79 wd_845) rfl rfl rfl (by decide +kernel) hR
theorem k_X5_146 (hts : ∀ w ∈ lw_gd, w.before args s = true) (hR : rmX5_otherOf.frames + 1 ≤ R.frames ∧ 8 + (3 + 11) + rmX5_otherOf.locals ≤ R.locals) : CallW R s args RX5 RX5 146 yX5_otherOf cX5_otherOf 3 (some .int) wsX5_otherOf rmX5_otherOf 0 0 1 :=
  cwV 1 hts (gd_GV wd_850 wd_852 wd_58 wd_79 wd_853) rfl rfl rfl (by decide +kernel) hR
theorem k_X5_149 (hts : ∀ w ∈ lw_gd, w.before args s = true) (hR : rmX5_placeOf.frames + 1 ≤ R.frames ∧ 8 + (4 + 11) + rmX5_placeOf.locals ≤ R.locals) : CallW R s args RX5 RX5 149 yX5_placeOf cX5_placeOf 4 (some .int) wsX5_placeOf rmX5_placeOf 0 0 1 :=
  cwV 1 hts (gd_GV wd_854 wd_856 wd_59 wd_79 wd_857) rfl rfl rfl (by decide +kernel) hR
theorem k_X5_152 (hts : ∀ w ∈ lw_gd, w.before args s = true) (hR : rmX5_isFinder.frames + 1 ≤ R.frames ∧ 8 + (2 + 11) + rmX5_isFinder.locals ≤ R.locals) : CallW R s args RX5 RX5 152 yX5_isFinder cX5_isFinder 2 (some .boolean) wsX5_isFinder rmX5_isFinder 0 0 1 :=
  cwV 1 hts (gd_GV wd_862 wd_864 wd_60 wd_79 wd_865) rfl rfl rfl (by decide +kernel) hR
theorem k_X5_155 (hts : ∀ w ∈ lw_gd, w.before args s = true) (hR : rmX5_showsTimer.frames + 1 ≤ R.frames ∧ 8 + (2 + 11) + rmX5_showsTimer.locals ≤ R.locals) : CallW R s args RX5 RX5 155 yX5_showsTimer cX5_showsTimer 2 (some .boolean) wsX5_showsTimer rmX5_showsTimer 0 0 1 :=
  cwV 1 hts (gd_GV wd_866 wd_868 wd_61 wd_79 wd_869) rfl rfl rfl (by decide +kernel) hR
theorem k_X5_158 (hts : ∀ w ∈ lw_gd, w.before args s = true) (hR : rmX5_finders.frames + 1 ≤ R.frames ∧ 8 + (4 + 11) + rmX5_finders.locals ≤ R.locals) : CallW R s args RX5 RX5 158 yX5_finders cX5_finders 4 (some .int) wsX5_finders rmX5_finders 0 0 1 :=
  cwV 1 hts (gd_GV wd_878 wd_880 wd_62 wd_79 wd_881) rfl rfl rfl (by decide +kernel) hR
theorem k_X5_162 (hts : ∀ w ∈ lw_gd, w.before args s = true) (hR : rmX5_sumOf.frames + 1 ≤ R.frames ∧ 8 + (4 + 11) + rmX5_sumOf.locals ≤ R.locals) : CallW R s args RX5 RX5 162 yX5_sumOf cX5_sumOf 4 (some .int) wsX5_sumOf rmX5_sumOf 0 0 1 :=
  cwV 1 hts (gd_GV wd_882 wd_884 wd_63 wd_79 wd_885) rfl rfl rfl (by decide +kernel) hR
theorem k_X5_169 (hts : ∀ w ∈ lw_gd, w.before args s = true) (hR : rmX5_putAside.frames + 1 ≤ R.frames ∧ 8 + (2 + 11) + rmX5_putAside.locals ≤ R.locals) : CallW R s args RX5 RX5 169 yX5_putAside cX5_putAside 2 none wsX5_putAside rmX5_putAside 0 0 0 :=
  cwV 0 hts (gd_GV wd_894 wd_896 wd_64 wd_79 wd_897) rfl rfl rfl (by decide +kernel) hR
theorem k_X5_172 (hts : ∀ w ∈ lw_gd, w.before args s = true) (hR : rmX5_putBack.frames + 1 ≤ R.frames ∧ 8 + (2 + 11) + rmX5_putBack.locals ≤ R.locals) : CallW R s args RX5 RX5 172 yX5_putBack cX5_putBack 2 none wsX5_putBack rmX5_putBack 0 0 0 :=
  cwV 0 hts (gd_GV wd_898 wd_900 wd_65 wd_79 wd_901) rfl rfl rfl (by decide +kernel) hR
theorem k_X5_175 (hts : ∀ w ∈ lw_gd, w.before args s = true) (hR : rmX5_lift.frames + 1 ≤ R.frames ∧ 8 + (2 + 11) + rmX5_lift.locals ≤ R.locals) : CallW R s args RX5 RX5 175 yX5_lift cX5_lift 2 (some .int) wsX5_lift rmX5_lift 0 0 1 :=
  cwV 1 hts (gd_GV wd_906 wd_715 wd_716 wd_79 wd_717) rfl rfl rfl (by decide +kernel) hR
theorem k_X5_181 (hts : ∀ w ∈ lw_gd, w.before args s = true) (hR : rmX5_dial.frames + 1 ≤ R.frames ∧ 8 + (4 + 11) + rmX5_dial.locals ≤ R.locals) : CallW R s args RX5 RX5 181 yX5_dial cX5_dial 4 (some .int) wsX5_dial rmX5_dial 0 0 2 :=
  cwV 2 hts (gd_GV wd_910 wd_750 wd_751 wd_79 wd_752) rfl rfl rfl (by decide +kernel) hR
theorem k_X5_189 (hts : ∀ w ∈ lw_gd, w.before args s = true) (hR : rmX5_next.frames + 1 ≤ R.frames ∧ 8 + (1 + 11) + rmX5_next.locals ≤ R.locals) : CallW R s args RX5 RX5 189 yX5_next cX5_next 1 (some .int) wsX5_next rmX5_next 0 0 0 :=
  cwV 0 hts (gd_GV wd_928 wd_930 wd_67 wd_79 wd_931) rfl rfl rfl (by decide +kernel) hR
theorem k_X5_203 (hts : ∀ w ∈ lw_gd, w.before args s = true) (hR : rmX5_readNumber.frames + 1 ≤ R.frames ∧ 8 + (2 + 11) + rmX5_readNumber.locals ≤ R.locals) : CallW R s args RX5 RX5 203 yX5_readNumber cX5_readNumber 2 (some .int) wsX5_readNumber rmX5_readNumber 0 0 0 :=
  cwV 0 hts (gd_GV wd_932 wd_934 wd_68 wd_79 wd_935) rfl rfl rfl (by decide +kernel) hR
theorem k_X5_206 (hts : ∀ w ∈ lw_gd, w.before args s = true) (hR : rmX5_readLine.frames + 1 ≤ R.frames ∧ 8 + (2 + 11) + rmX5_readLine.locals ≤ R.locals) : CallW R s args RX5 RX5 206 yX5_readLine cX5_readLine 2 (some .int) wsX5_readLine rmX5_readLine 0 0 0 :=
  cwV 0 hts (gd_GV wd_936 wd_938 wd_69 wd_79 wd_939) rfl rfl rfl (by decide +kernel) hR
theorem k_X5_209 (hts : ∀ w ∈ lw_gd, w.before args s = true) (hR : rmX5_readDigits.frames + 1 ≤ R.frames ∧ 8 + (2 + 11) + rmX5_readDigits.locals ≤ R.locals) : CallW R s args RX5 RX5 209 yX5_readDigits cX5_readDigits 2 none wsX5_readDigits rmX5_readDigits 0 0 1 :=
  cwV 1 hts (gd_GV wd_943 wd_945 wd_70 wd_79 wd_946) rfl rfl rfl (by decide +kernel) hR
theorem k_X5_212 (hts : ∀ w ∈ lw_gd, w.before args s = true) (hR : rmX5_readAct.frames + 1 ≤ R.frames ∧ 8 + (3 + 11) + rmX5_readAct.locals ≤ R.locals) : CallW R s args RX5 RX5 212 yX5_readAct cX5_readAct 3 none wsX5_readAct rmX5_readAct 0 0 0 :=
  cwV 0 hts (gd_GV wd_924 wd_926 wd_66 wd_79 wd_927) rfl rfl rfl (by decide +kernel) hR
theorem k_X5_215 (hts : ∀ w ∈ lw_gd, w.before args s = true) (hR : rmX5_hang.frames + 1 ≤ R.frames ∧ 8 + (3 + 11) + rmX5_hang.locals ≤ R.locals) : CallW R s args RX5 RX5 215 yX5_hang cX5_hang 3 (some .int) wsX5_hang rmX5_hang 0 0 1 :=
  cwV 1 hts (gd_GV wd_956 wd_734 wd_735 wd_79 wd_736) rfl rfl rfl (by decide +kernel) hR
theorem k_X5_218 (hts : ∀ w ∈ lw_gd, w.before args s = true) (hR : rmX5_dials.frames + 1 ≤ R.frames ∧ 8 + (4 + 11) + rmX5_dials.locals ≤ R.locals) : CallW R s args RX5 RX5 218 yX5_dials cX5_dials 4 (some .boolean) wsX5_dials rmX5_dials 0 0 1 :=
  cwV 1 hts (gd_GV wd_957 wd_959 wd_72 wd_79 wd_960) rfl rfl rfl (by decide +kernel) hR
theorem k_X5_221 (hts : ∀ w ∈ lw_gd, w.before args s = true) (hR : rmX5_tick.frames + 1 ≤ R.frames ∧ 8 + (3 + 11) + rmX5_tick.locals ≤ R.locals) : CallW R s args RX5 RX5 221 yX5_tick cX5_tick 3 (some .int) wsX5_tick rmX5_tick 0 0 1 :=
  cwV 1 hts (gd_GV wd_961 wd_754 wd_755 wd_79 wd_756) rfl rfl rfl (by decide +kernel) hR
theorem k_X5_224 (hts : ∀ w ∈ lw_gd, w.before args s = true) (hR : rmX5_fault.frames + 1 ≤ R.frames ∧ 8 + (1 + 11) + rmX5_fault.locals ≤ R.locals) : CallW R s args RX5 RX5 224 yX5_fault cX5_fault 1 (some .int) wsX5_fault rmX5_fault 0 0 0 :=
  cwV 0 hts (gd_GV wd_951 wd_921 wd_922 wd_79 wd_923) rfl rfl rfl (by decide +kernel) hR
theorem k_X5_227 (hts : ∀ w ∈ lw_gd, w.before args s = true) (hR : rmX5_does.frames + 1 ≤ R.frames ∧ 8 + (2 + 11) + rmX5_does.locals ≤ R.locals) : CallW R s args RX5 RX5 227 yX5_does cX5_does 2 (some .boolean) wsX5_does rmX5_does 0 0 1 :=
  cwV 1 hts (gd_GV wd_952 wd_954 wd_71 wd_79 wd_955) rfl rfl rfl (by decide +kernel) hR
end CR
end
section
theorem vuE {E0 : ES} {a : Nat} {L L' L1 : CS} (h : L1 = L') : va_up (va_up E0 a L) a L' = va_up E0 a L1 := by rw [vuU, h]
theorem puE {n o k : Nat} {X E X1 : ES} {L' : CS} (hk : k < n) (h : X1 = va_up X k L') : va_up (put n o X E) (o + k) L' = put n o X1 E := by rw [putUp hk, h]
theorem putSelf {n o : Nat} {X E : ES} (h : ∀ k, k < n → E (o + k) = X k) : put n o X E = E := by
  funext a
  by_cases h1 : o ≤ a ∧ a < o + n
  · have h2 := h (a - o) (by omega)
    rw [show o + (a - o) = a by omega] at h2
    simp [put, h1, h2]
  · simp [put, h1]
theorem neTwo {o o2 i j : Nat} (hd : o2 + 26 ≤ o ∨ o + 26 ≤ o2) (hi : i < 26) (hj : j < 26) : o + i ≠ o2 + j := by omega
theorem offTwo {o o2 k : Nat} (hd : o2 + 26 ≤ o ∨ o + 26 ≤ o2) (hk : k < 26) : o2 + k < o ∨ o + 26 ≤ o2 + k := by omega
theorem clamp_lt {x : Int32} {n : Nat} (h0 : ¬ x < 0) (h : ¬ Int32.ofNat n ≤ x) (hn : n < 2 ^ 31) : x.toNatClampNeg < n := by
  have h1 : (0 : Int) ≤ x.toInt := by have := mt Int32.lt_iff_toInt_lt.mpr h0; simp at this; exact this
  have h2 : x.toInt < n := by
    have h3 := mt Int32.le_iff_toInt_le.mpr h
    have h4 : (Int32.ofNat n).toInt = n := nI_toInt hn
    omega
  have h5 : x.toNatClampNeg = x.toInt.toNat := rfl
  omega
theorem isLi_lix (n : Int32) : isLi (lix n) := by
  unfold lix isLi
  by_cases h : n < 0 ∨ 16 ≤ n
  · rw [if_pos h]; exact Or.inl rfl
  · rw [if_neg h]
    have h1 := clamp_lt (n := 16) (fun q => h (Or.inl q)) (fun q => h (Or.inr q)) (by decide)
    exact Or.inr ⟨by omega, by omega⟩
theorem isFi_fix (n : Int32) : isFi (fix n) := by
  unfold fix isFi
  by_cases h : n < 0 ∨ 4 ≤ n
  · rw [if_pos h]; exact Or.inl rfl
  · rw [if_neg h]
    have h1 := clamp_lt (n := 4) (fun q => h (Or.inl q)) (fun q => h (Or.inr q)) (by decide)
    exact Or.inr ⟨by omega, by omega⟩
section WR2
variable {p : Program} {l : Launch} {e : Env} {R : Room} {s : State} {m : MethodId} {args : Array Value} {below : List Frame} {meth : Method} {c : Code} {H : Heap} {locs : List Loc} {cells slots : Nat} {Q : State → Prop}
variable {cc : ByteArray} {pc : Nat} {ls : Array Slot} {rest st : List Value} {g : GG} {lay : LY} {E E1 : ES} {H0 : Heap} {a : Nat} {f : CS → va_E} {L : CS}
theorem w_loop {σ : Type} {Wl : Nat → σ → Prop} {Pw : σ → Heap → Prop} {lvf : σ → List (Nat × Value)} {nL : Nat} {Aw : Nat → Prop} (n : Nat) (q : σ) (hw : Wl n q) (hW : Pw q H) (hS : va_S Aw H0 H locs) (hl : lv_has ls nL (lvf q)) (h0 : ∀ q, Wl 0 q → False) (step : ∀ (n : Nat) (q : σ) (H : Heap) (locs : List Loc) (ls : Array Slot), Wl (n + 1) q → Pw q H → va_S Aw H0 H locs → lv_has ls nL (lvf q) → (∀ (q : σ) (H : Heap) (locs : List Loc) (ls : Array Slot), Wl n q → Pw q H → va_S Aw H0 H locs → lv_has ls nL (lvf q) → W p l e R s m args below meth c H locs cells slots Q (F0 m pc ls [])) → W p l e R s m args below meth c H locs cells slots Q (F0 m pc ls [])) : W p l e R s m args below meth c H locs cells slots Q (F0 m pc ls []) := by
  revert H locs ls q
  induction n with
  | zero => exact fun q hw => absurd hw (h0 q)
  | succ n ih => exact fun q hw hW hS hl => step n q _ _ _ hw hW hS hl (fun q H locs ls hw hW hS hl => ih q hw hW hS hl)
theorem w_zast (hx : p.tables.exec = Jvm.exec) (hb : c.code = cc) (hK : KK g s) (hge : okL g lay) (hW : Wd g lay E H) (hS : va_S (Ab g) H0 H locs) {n : Nat} (hla : lay a = some (arZ g n)) (hL : E a = L) {i x : Int32} (hz : x = 0 ∨ x = 1) (hin : vp_in i n) (hdg : decode cc pc = .ok (.bastore, 1)) (hE : va_up E a (upd L i.toNatClampNeg x) = E1)
    (kk : ∀ (H1 : Heap) (locs1 : List Loc), Wd g lay E1 H1 → va_S (Ab g) H0 H1 locs1 → W p l e R s m args below meth c H1 locs1 cells slots Q (F0 m (pc + 1) ls rest)) : W p l e R s m args below meth c H locs cells slots Q (F0 m pc ls (.int x :: .int i :: .ref a :: rest)) := by
  refine W.zast hx hb ((hW.one hla hL rfl) 0 _ rfl) ((hK.1.2 1 _ rfl).1 n (fun j => .int (L j))) (fun q => by cases q) (by show ¬ (i < 0 ∨ (arrV _ _ _).slots.size ≤ _); rw [arrV_size]; exact hin) rfl rfl hdg fun H1 e z oq => ?_
  refine kk H1 _ (hW.set hge hla ?_ oq hE) (vaS_put hS hge hla z oq)
  show H1[a]? = some (vp_cell _ _)
  rw [e]
  rw [vp_cell_i, vp_cell_i, arrV_store]
  congr 2
  funext q
  by_cases hq : q = i.toNatClampNeg
  · subst hq
    rcases hz with rfl | rfl <;> simp [updV, upd] <;> decide
  · simp [updV, upd, hq]
theorem lv_tabOut (hx : p.tables.exec = Jvm.exec) (hb : c.code = cc) {x : Int32} {dflt lo hi : Int} {offs : Array Int} {len tgt : Nat} (hdg : decode cc pc = .ok (.tableswitch dflt lo hi offs, len)) (h : x.toInt < lo ∨ hi < x.toInt) (ht : (pc : Int) + dflt = (tgt : Int)) (k : W p l e R s m args below meth c H locs cells slots Q (F0 m tgt ls rest)) : W p l e R s m args below meth c H locs cells slots Q (F0 m pc ls (.int x :: rest)) := lv_tableOut hx hb hdg h ht k
end WR2
end
section
set_option maxHeartbeats 4000000 in
set_option maxRecDepth 100000 in
theorem c_X0_lineAt {l : Launch} {g : GG} {lay : LY} {E0 : ES} {o : Nat} (hA : okL g lay) (HB : XL g lay o) (p1 : Int32) : JMr l g lay yX0_lineAt wsX0_lineAt rmX0_lineAt [.ref o, .int p1] E0 (fun a E1 => E1 = E0 ∧ a = o + lix p1) := by
  refine Met.ofW (cc := cX0_lineAt) (maxL := 2) (ret := (some (.object "RotaryExchange$Line"))) (by decide) rfl ?_
  intro p e s m args below meth c s₁ B hml hv
  obtain ⟨rfl, hK, hW⟩ := hv
  have hx := B.exec
  have hb := B.bytes
  have hr := B.returns
  have hts := gd_of (atoms_spec (ws := wsX0_lineAt) B.pre)
  have hown : s.vm.findClass RX0 = some m.cls := findClass_of_methodNamed B.named
  have hlocks := B.notSynchronized
  have hS : va_S (Ab g) s.heap s.heap [] := va_S.rf
  have hl := lv_entry [.ref o, .int p1] (n := 2) (Nat.le_of_ble_eq_true rfl)
  rw [lg_entry_eq]
  generalize (lg_sl [.ref o, .int p1] ++ List.replicate (2 - (lg_sl [.ref o, .int p1]).length) Slot.unset).toArray = ls at hl ⊢
  have hl : lv_has ls 2 [(0, .ref o), (1, .int p1)] := hl
  refine lv_iload_n hx hb dX0_lineAt_0 rfl (lv_at hl 1 rfl) ?_
  refine lv_if_lt (tgt := 22) hx hb dX0_lineAt_1 (by decide) (fun c1 => ?_) (fun c1 => ?_)
  · refine lv_aload_n hx hb dX0_lineAt_22 rfl (lv_at hl 0 rfl) ?_
    refine g_X0_24 hx hb hown hts hK hW HB.1 rfl dX0_lineAt_23 ?_
    exact w_aret hx hb hr (Or.inl ⟨_, rfl⟩) hlocks hW hS ⟨rfl, by rw [lix, if_pos (Or.inl c1)]⟩ dX0_lineAt_26
  · refine lv_iload_n hx hb dX0_lineAt_4 rfl (lv_at hl 1 rfl) ?_
    refine lv_aload_n hx hb dX0_lineAt_5 rfl (lv_at hl 0 rfl) ?_
    refine g_X0_11 hx hb hown hts hK hW HB.1 rfl dX0_lineAt_6 ?_
    refine w_alen (v := 16) hx hb hK hW 4 rfl HB.2.1 rfl rfl rfl dX0_lineAt_9 ?_
    refine lv_icmp_ge (tgt := 22) hx hb dX0_lineAt_10 (by decide) (fun c2 => ?_) (fun c2 => ?_)
    · refine lv_aload_n hx hb dX0_lineAt_22 rfl (lv_at hl 0 rfl) ?_
      refine g_X0_24 hx hb hown hts hK hW HB.1 rfl dX0_lineAt_23 ?_
      exact w_aret hx hb hr (Or.inl ⟨_, rfl⟩) hlocks hW hS ⟨rfl, by rw [lix, if_pos (Or.inr c2)]⟩ dX0_lineAt_26
    · have hin : vp_in p1 16 := fun q => q.elim c1 (fun q => absurd (clamp_lt (n := 16) c1 c2 (by decide)) (by omega))
      refine lv_aload_n hx hb dX0_lineAt_13 rfl (lv_at hl 0 rfl) ?_
      refine g_X0_11 hx hb hown hts hK hW HB.1 rfl dX0_lineAt_14 ?_
      refine lv_iload_n hx hb dX0_lineAt_17 rfl (lv_at hl 1 rfl) ?_
      refine w_aldq hx hb hK hW 4 rfl HB.2.1 hin dX0_lineAt_18 ?_
      refine lv_ifnonnull (tgt := 27) hx hb dX0_lineAt_19 (by decide) ?_
      refine lv_aload_n hx hb dX0_lineAt_27 rfl (lv_at hl 0 rfl) ?_
      refine g_X0_11 hx hb hown hts hK hW HB.1 rfl dX0_lineAt_28 ?_
      refine lv_iload_n hx hb dX0_lineAt_31 rfl (lv_at hl 1 rfl) ?_
      refine w_aldq hx hb hK hW 4 rfl HB.2.1 hin dX0_lineAt_32 ?_
      exact w_aret hx hb hr (Or.inl ⟨_, rfl⟩) hlocks hW hS ⟨rfl, by rw [lix, if_neg (fun q => q.elim c1 c2)]⟩ dX0_lineAt_33
set_option maxHeartbeats 4000000 in
set_option maxRecDepth 100000 in
theorem c_X0_finderAt {l : Launch} {g : GG} {lay : LY} {E0 : ES} {o : Nat} (hA : okL g lay) (HB : XL g lay o) (p1 : Int32) : JMr l g lay yX0_finderAt wsX0_finderAt rmX0_finderAt [.ref o, .int p1] E0 (fun a E1 => E1 = E0 ∧ a = o + fix p1) := by
  refine Met.ofW (cc := cX0_finderAt) (maxL := 2) (ret := (some (.object "RotaryExchange$Finder"))) (by decide) rfl ?_
  intro p e s m args below meth c s₁ B hml hv
  obtain ⟨rfl, hK, hW⟩ := hv
  have hx := B.exec
  have hb := B.bytes
  have hr := B.returns
  have hts := gd_of (atoms_spec (ws := wsX0_finderAt) B.pre)
  have hown : s.vm.findClass RX0 = some m.cls := findClass_of_methodNamed B.named
  have hlocks := B.notSynchronized
  have hS : va_S (Ab g) s.heap s.heap [] := va_S.rf
  have hl := lv_entry [.ref o, .int p1] (n := 2) (Nat.le_of_ble_eq_true rfl)
  rw [lg_entry_eq]
  generalize (lg_sl [.ref o, .int p1] ++ List.replicate (2 - (lg_sl [.ref o, .int p1]).length) Slot.unset).toArray = ls at hl ⊢
  have hl : lv_has ls 2 [(0, .ref o), (1, .int p1)] := hl
  refine lv_iload_n hx hb dX0_finderAt_0 rfl (lv_at hl 1 rfl) ?_
  refine lv_if_lt (tgt := 22) hx hb dX0_finderAt_1 (by decide) (fun c1 => ?_) (fun c1 => ?_)
  · refine lv_aload_n hx hb dX0_finderAt_22 rfl (lv_at hl 0 rfl) ?_
    refine g_X0_29 hx hb hown hts hK hW HB.1 rfl dX0_finderAt_23 ?_
    exact w_aret hx hb hr (Or.inl ⟨_, rfl⟩) hlocks hW hS ⟨rfl, by rw [fix, if_pos (Or.inl c1)]⟩ dX0_finderAt_26
  · refine lv_iload_n hx hb dX0_finderAt_4 rfl (lv_at hl 1 rfl) ?_
    refine lv_aload_n hx hb dX0_finderAt_5 rfl (lv_at hl 0 rfl) ?_
    refine g_X0_19 hx hb hown hts hK hW HB.1 rfl dX0_finderAt_6 ?_
    refine w_alen (v := 4) hx hb hK hW 3 rfl HB.2.2.1 rfl rfl rfl dX0_finderAt_9 ?_
    refine lv_icmp_ge (tgt := 22) hx hb dX0_finderAt_10 (by decide) (fun c2 => ?_) (fun c2 => ?_)
    · refine lv_aload_n hx hb dX0_finderAt_22 rfl (lv_at hl 0 rfl) ?_
      refine g_X0_29 hx hb hown hts hK hW HB.1 rfl dX0_finderAt_23 ?_
      exact w_aret hx hb hr (Or.inl ⟨_, rfl⟩) hlocks hW hS ⟨rfl, by rw [fix, if_pos (Or.inr c2)]⟩ dX0_finderAt_26
    · have hin : vp_in p1 4 := fun q => q.elim c1 (fun q => absurd (clamp_lt (n := 4) c1 c2 (by decide)) (by omega))
      refine lv_aload_n hx hb dX0_finderAt_13 rfl (lv_at hl 0 rfl) ?_
      refine g_X0_19 hx hb hown hts hK hW HB.1 rfl dX0_finderAt_14 ?_
      refine lv_iload_n hx hb dX0_finderAt_17 rfl (lv_at hl 1 rfl) ?_
      refine w_aldq hx hb hK hW 3 rfl HB.2.2.1 hin dX0_finderAt_18 ?_
      refine lv_ifnonnull (tgt := 27) hx hb dX0_finderAt_19 (by decide) ?_
      refine lv_aload_n hx hb dX0_finderAt_27 rfl (lv_at hl 0 rfl) ?_
      refine g_X0_19 hx hb hown hts hK hW HB.1 rfl dX0_finderAt_28 ?_
      refine lv_iload_n hx hb dX0_finderAt_31 rfl (lv_at hl 1 rfl) ?_
      refine w_aldq hx hb hK hW 3 rfl HB.2.2.1 hin dX0_finderAt_32 ?_
      exact w_aret hx hb hr (Or.inl ⟨_, rfl⟩) hlocks hW hS ⟨rfl, by rw [fix, if_neg (fun q => q.elim c1 c2)]⟩ dX0_finderAt_33
end
