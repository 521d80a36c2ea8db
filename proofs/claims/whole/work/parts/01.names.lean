-- ===== PART A: goes FIRST, ahead of the names: the tables' words, and 'selects' of the private methods out of them =====
/-- a private method of a class that the tables say can be made, by its rows of tables_1 -/
def lw_okq (q : MethodName × Nat) : Prop := (q.1.cls ≠ "java/lang/invoke/MethodHandle" ∧ q.1.cls ≠ "java/lang/invoke/VarHandle") ∧ Cond.instantiable q.1.cls q.2 ∈ tables_1 ∧ Cond.privateMethod q.1 ∈ tables_1 ∧ Cond.instanceMethod q.1 ∈ tables_1
theorem lw_p0 : lw_okq (⟨"RotaryExchange$Exchange", "settingAt", "(I)I"⟩, 16) := ⟨⟨by decide +kernel, by decide +kernel⟩, List.mem_of_getElem? (i := 16) (by decide +kernel), List.mem_of_getElem? (i := 253) (by decide +kernel), List.mem_of_getElem? (i := 254) (by decide +kernel)⟩
theorem lw_p1 : lw_okq (⟨"RotaryExchange$Exchange", "release", "(LRotaryExchange$Finder;)V"⟩, 16) := ⟨⟨by decide +kernel, by decide +kernel⟩, List.mem_of_getElem? (i := 16) (by decide +kernel), List.mem_of_getElem? (i := 280) (by decide +kernel), List.mem_of_getElem? (i := 281) (by decide +kernel)⟩
theorem lw_p2 : lw_okq (⟨"RotaryExchange$Exchange", "takeStep", "(LRotaryExchange$Finder;)V"⟩, 16) := ⟨⟨by decide +kernel, by decide +kernel⟩, List.mem_of_getElem? (i := 16) (by decide +kernel), List.mem_of_getElem? (i := 311) (by decide +kernel), List.mem_of_getElem? (i := 312) (by decide +kernel)⟩
theorem lw_p3 : lw_okq (⟨"RotaryExchange$Exchange", "seek", "(LRotaryExchange$Finder;LRotaryExchange$Line;)V"⟩, 16) := ⟨⟨by decide +kernel, by decide +kernel⟩, List.mem_of_getElem? (i := 16) (by decide +kernel), List.mem_of_getElem? (i := 315) (by decide +kernel), List.mem_of_getElem? (i := 316) (by decide +kernel)⟩
theorem lw_p4 : lw_okq (⟨"RotaryExchange$Exchange", "awaitDigit", "(LRotaryExchange$Finder;LRotaryExchange$Line;I)V"⟩, 16) := ⟨⟨by decide +kernel, by decide +kernel⟩, List.mem_of_getElem? (i := 16) (by decide +kernel), List.mem_of_getElem? (i := 320) (by decide +kernel), List.mem_of_getElem? (i := 321) (by decide +kernel)⟩
theorem lw_p5 : lw_okq (⟨"RotaryExchange$Exchange", "rise", "(LRotaryExchange$Finder;LRotaryExchange$Line;)V"⟩, 16) := ⟨⟨by decide +kernel, by decide +kernel⟩, List.mem_of_getElem? (i := 16) (by decide +kernel), List.mem_of_getElem? (i := 328) (by decide +kernel), List.mem_of_getElem? (i := 329) (by decide +kernel)⟩
theorem lw_p6 : lw_okq (⟨"RotaryExchange$Exchange", "sound", "(LRotaryExchange$Finder;LRotaryExchange$Line;II)V"⟩, 16) := ⟨⟨by decide +kernel, by decide +kernel⟩, List.mem_of_getElem? (i := 16) (by decide +kernel), List.mem_of_getElem? (i := 332) (by decide +kernel), List.mem_of_getElem? (i := 333) (by decide +kernel)⟩
theorem lw_p7 : lw_okq (⟨"RotaryExchange$Exchange", "hunt", "(LRotaryExchange$Finder;LRotaryExchange$Line;)V"⟩, 16) := ⟨⟨by decide +kernel, by decide +kernel⟩, List.mem_of_getElem? (i := 16) (by decide +kernel), List.mem_of_getElem? (i := 336) (by decide +kernel), List.mem_of_getElem? (i := 337) (by decide +kernel)⟩
theorem lw_p8 : lw_okq (⟨"RotaryExchange$Exchange", "stepOn", "(LRotaryExchange$Finder;LRotaryExchange$Line;)V"⟩, 16) := ⟨⟨by decide +kernel, by decide +kernel⟩, List.mem_of_getElem? (i := 16) (by decide +kernel), List.mem_of_getElem? (i := 348) (by decide +kernel), List.mem_of_getElem? (i := 349) (by decide +kernel)⟩
theorem lw_p9 : lw_okq (⟨"RotaryExchange$Exchange", "ringOn", "(LRotaryExchange$Finder;LRotaryExchange$Line;)V"⟩, 16) := ⟨⟨by decide +kernel, by decide +kernel⟩, List.mem_of_getElem? (i := 16) (by decide +kernel), List.mem_of_getElem? (i := 352) (by decide +kernel), List.mem_of_getElem? (i := 353) (by decide +kernel)⟩
theorem lw_p10 : lw_okq (⟨"RotaryExchange$Exchange", "talkOn", "(LRotaryExchange$Finder;LRotaryExchange$Line;)V"⟩, 16) := ⟨⟨by decide +kernel, by decide +kernel⟩, List.mem_of_getElem? (i := 16) (by decide +kernel), List.mem_of_getElem? (i := 356) (by decide +kernel), List.mem_of_getElem? (i := 357) (by decide +kernel)⟩
theorem lw_p11 : lw_okq (⟨"RotaryExchange$Exchange", "soundOn", "(LRotaryExchange$Finder;LRotaryExchange$Line;)V"⟩, 16) := ⟨⟨by decide +kernel, by decide +kernel⟩, List.mem_of_getElem? (i := 16) (by decide +kernel), List.mem_of_getElem? (i := 360) (by decide +kernel), List.mem_of_getElem? (i := 361) (by decide +kernel)⟩
theorem lw_p12 : lw_okq (⟨"RotaryExchange$Exchange", "allotFinder", "()V"⟩, 16) := ⟨⟨by decide +kernel, by decide +kernel⟩, List.mem_of_getElem? (i := 16) (by decide +kernel), List.mem_of_getElem? (i := 364) (by decide +kernel), List.mem_of_getElem? (i := 365) (by decide +kernel)⟩
theorem lw_p13 : lw_okq (⟨"RotaryExchange$Exchange", "nextFreeFinder", "()I"⟩, 16) := ⟨⟨by decide +kernel, by decide +kernel⟩, List.mem_of_getElem? (i := 16) (by decide +kernel), List.mem_of_getElem? (i := 368) (by decide +kernel), List.mem_of_getElem? (i := 369) (by decide +kernel)⟩
theorem lw_p14 : lw_okq (⟨"RotaryExchange$Exchange", "firstWaitingLine", "()I"⟩, 16) := ⟨⟨by decide +kernel, by decide +kernel⟩, List.mem_of_getElem? (i := 16) (by decide +kernel), List.mem_of_getElem? (i := 372) (by decide +kernel), List.mem_of_getElem? (i := 373) (by decide +kernel)⟩
theorem lw_p15 : lw_okq (⟨"RotaryExchange$Exchange", "countParked", "()V"⟩, 16) := ⟨⟨by decide +kernel, by decide +kernel⟩, List.mem_of_getElem? (i := 16) (by decide +kernel), List.mem_of_getElem? (i := 380) (by decide +kernel), List.mem_of_getElem? (i := 381) (by decide +kernel)⟩
def lw_privs_1 : List (MethodName × Nat) := [(⟨"RotaryExchange$Exchange", "settingAt", "(I)I"⟩, 16), (⟨"RotaryExchange$Exchange", "release", "(LRotaryExchange$Finder;)V"⟩, 16), (⟨"RotaryExchange$Exchange", "takeStep", "(LRotaryExchange$Finder;)V"⟩, 16), (⟨"RotaryExchange$Exchange", "seek", "(LRotaryExchange$Finder;LRotaryExchange$Line;)V"⟩, 16), (⟨"RotaryExchange$Exchange", "awaitDigit", "(LRotaryExchange$Finder;LRotaryExchange$Line;I)V"⟩, 16), (⟨"RotaryExchange$Exchange", "rise", "(LRotaryExchange$Finder;LRotaryExchange$Line;)V"⟩, 16), (⟨"RotaryExchange$Exchange", "sound", "(LRotaryExchange$Finder;LRotaryExchange$Line;II)V"⟩, 16), (⟨"RotaryExchange$Exchange", "hunt", "(LRotaryExchange$Finder;LRotaryExchange$Line;)V"⟩, 16), (⟨"RotaryExchange$Exchange", "stepOn", "(LRotaryExchange$Finder;LRotaryExchange$Line;)V"⟩, 16), (⟨"RotaryExchange$Exchange", "ringOn", "(LRotaryExchange$Finder;LRotaryExchange$Line;)V"⟩, 16), (⟨"RotaryExchange$Exchange", "talkOn", "(LRotaryExchange$Finder;LRotaryExchange$Line;)V"⟩, 16), (⟨"RotaryExchange$Exchange", "soundOn", "(LRotaryExchange$Finder;LRotaryExchange$Line;)V"⟩, 16), (⟨"RotaryExchange$Exchange", "allotFinder", "()V"⟩, 16), (⟨"RotaryExchange$Exchange", "nextFreeFinder", "()I"⟩, 16), (⟨"RotaryExchange$Exchange", "firstWaitingLine", "()I"⟩, 16), (⟨"RotaryExchange$Exchange", "countParked", "()V"⟩, 16)]
theorem lw_r1 : ∀ q ∈ lw_privs_1, lw_okq q := List.forall_mem_cons.mpr ⟨lw_p0, List.forall_mem_cons.mpr ⟨lw_p1, List.forall_mem_cons.mpr ⟨lw_p2, List.forall_mem_cons.mpr ⟨lw_p3, List.forall_mem_cons.mpr ⟨lw_p4, List.forall_mem_cons.mpr ⟨lw_p5, List.forall_mem_cons.mpr ⟨lw_p6, List.forall_mem_cons.mpr ⟨lw_p7, List.forall_mem_cons.mpr ⟨lw_p8, List.forall_mem_cons.mpr ⟨lw_p9, List.forall_mem_cons.mpr ⟨lw_p10, List.forall_mem_cons.mpr ⟨lw_p11, List.forall_mem_cons.mpr ⟨lw_p12, List.forall_mem_cons.mpr ⟨lw_p13, List.forall_mem_cons.mpr ⟨lw_p14, List.forall_mem_cons.mpr ⟨lw_p15, fun _ h => absurd h List.not_mem_nil⟩⟩⟩⟩⟩⟩⟩⟩⟩⟩⟩⟩⟩⟩⟩⟩
theorem lw_p16 : lw_okq (⟨"RotaryExchange$Exchange", "partnerOf", "(LRotaryExchange$Line;)I"⟩, 16) := ⟨⟨by decide +kernel, by decide +kernel⟩, List.mem_of_getElem? (i := 16) (by decide +kernel), List.mem_of_getElem? (i := 396) (by decide +kernel), List.mem_of_getElem? (i := 397) (by decide +kernel)⟩
theorem lw_p17 : lw_okq (⟨"RotaryExchange$Exchange", "placeOf", "(LRotaryExchange$Line;)I"⟩, 16) := ⟨⟨by decide +kernel, by decide +kernel⟩, List.mem_of_getElem? (i := 16) (by decide +kernel), List.mem_of_getElem? (i := 404) (by decide +kernel), List.mem_of_getElem? (i := 405) (by decide +kernel)⟩
theorem lw_p18 : lw_okq (⟨"RotaryExchange$Exchange", "freeFinders", "()I"⟩, 16) := ⟨⟨by decide +kernel, by decide +kernel⟩, List.mem_of_getElem? (i := 16) (by decide +kernel), List.mem_of_getElem? (i := 430) (by decide +kernel), List.mem_of_getElem? (i := 431) (by decide +kernel)⟩
theorem lw_p19 : lw_okq (⟨"RotaryExchange$Exchange", "freeConnectors", "()I"⟩, 16) := ⟨⟨by decide +kernel, by decide +kernel⟩, List.mem_of_getElem? (i := 16) (by decide +kernel), List.mem_of_getElem? (i := 434) (by decide +kernel), List.mem_of_getElem? (i := 435) (by decide +kernel)⟩
theorem lw_p20 : lw_okq (⟨"RotaryExchange$Exchange", "sumOfMeters", "()I"⟩, 16) := ⟨⟨by decide +kernel, by decide +kernel⟩, List.mem_of_getElem? (i := 16) (by decide +kernel), List.mem_of_getElem? (i := 438) (by decide +kernel), List.mem_of_getElem? (i := 439) (by decide +kernel)⟩
theorem lw_p21 : lw_okq (⟨"RotaryExchange$Exchange", "liftedLines", "()I"⟩, 16) := ⟨⟨by decide +kernel, by decide +kernel⟩, List.mem_of_getElem? (i := 16) (by decide +kernel), List.mem_of_getElem? (i := 442) (by decide +kernel), List.mem_of_getElem? (i := 443) (by decide +kernel)⟩
theorem lw_p22 : lw_okq (⟨"RotaryExchange$Pad", "appendCode", "(I)V"⟩, 2) := ⟨⟨by decide +kernel, by decide +kernel⟩, List.mem_of_getElem? (i := 177) (by decide +kernel), List.mem_of_getElem? (i := 501) (by decide +kernel), List.mem_of_getElem? (i := 502) (by decide +kernel)⟩
theorem lw_p23 : lw_okq (⟨"RotaryExchange", "succeeds", "(I)Z"⟩, 4) := ⟨⟨by decide +kernel, by decide +kernel⟩, List.mem_of_getElem? (i := 8) (by decide +kernel), List.mem_of_getElem? (i := 544) (by decide +kernel), List.mem_of_getElem? (i := 545) (by decide +kernel)⟩
theorem lw_p24 : lw_okq (⟨"RotaryExchange", "dialsAll", "(II)Z"⟩, 4) := ⟨⟨by decide +kernel, by decide +kernel⟩, List.mem_of_getElem? (i := 8) (by decide +kernel), List.mem_of_getElem? (i := 553) (by decide +kernel), List.mem_of_getElem? (i := 554) (by decide +kernel)⟩
theorem lw_p25 : lw_okq (⟨"RotaryExchangeModel", "begin", "(II)V"⟩, 10) := ⟨⟨by decide +kernel, by decide +kernel⟩, List.mem_of_getElem? (i := 570) (by decide +kernel), List.mem_of_getElem? (i := 576) (by decide +kernel), List.mem_of_getElem? (i := 577) (by decide +kernel)⟩
theorem lw_p26 : lw_okq (⟨"RotaryExchangeModel", "free", "(I)V"⟩, 10) := ⟨⟨by decide +kernel, by decide +kernel⟩, List.mem_of_getElem? (i := 570) (by decide +kernel), List.mem_of_getElem? (i := 583) (by decide +kernel), List.mem_of_getElem? (i := 584) (by decide +kernel)⟩
theorem lw_p27 : lw_okq (⟨"RotaryExchangeModel", "ofFinder", "(II)I"⟩, 10) := ⟨⟨by decide +kernel, by decide +kernel⟩, List.mem_of_getElem? (i := 570) (by decide +kernel), List.mem_of_getElem? (i := 587) (by decide +kernel), List.mem_of_getElem? (i := 588) (by decide +kernel)⟩
theorem lw_p28 : lw_okq (⟨"RotaryExchangeModel", "layFinder", "(III)V"⟩, 10) := ⟨⟨by decide +kernel, by decide +kernel⟩, List.mem_of_getElem? (i := 570) (by decide +kernel), List.mem_of_getElem? (i := 591) (by decide +kernel), List.mem_of_getElem? (i := 592) (by decide +kernel)⟩
theorem lw_p29 : lw_okq (⟨"RotaryExchangeModel", "setting", "(I)I"⟩, 10) := ⟨⟨by decide +kernel, by decide +kernel⟩, List.mem_of_getElem? (i := 570) (by decide +kernel), List.mem_of_getElem? (i := 638) (by decide +kernel), List.mem_of_getElem? (i := 639) (by decide +kernel)⟩
theorem lw_p30 : lw_okq (⟨"RotaryExchangeModel", "of", "(II)I"⟩, 10) := ⟨⟨by decide +kernel, by decide +kernel⟩, List.mem_of_getElem? (i := 570) (by decide +kernel), List.mem_of_getElem? (i := 649) (by decide +kernel), List.mem_of_getElem? (i := 650) (by decide +kernel)⟩
theorem lw_p31 : lw_okq (⟨"RotaryExchangeModel", "lay", "(III)V"⟩, 10) := ⟨⟨by decide +kernel, by decide +kernel⟩, List.mem_of_getElem? (i := 570) (by decide +kernel), List.mem_of_getElem? (i := 653) (by decide +kernel), List.mem_of_getElem? (i := 654) (by decide +kernel)⟩
def lw_privs_2 : List (MethodName × Nat) := [(⟨"RotaryExchange$Exchange", "partnerOf", "(LRotaryExchange$Line;)I"⟩, 16), (⟨"RotaryExchange$Exchange", "placeOf", "(LRotaryExchange$Line;)I"⟩, 16), (⟨"RotaryExchange$Exchange", "freeFinders", "()I"⟩, 16), (⟨"RotaryExchange$Exchange", "freeConnectors", "()I"⟩, 16), (⟨"RotaryExchange$Exchange", "sumOfMeters", "()I"⟩, 16), (⟨"RotaryExchange$Exchange", "liftedLines", "()I"⟩, 16), (⟨"RotaryExchange$Pad", "appendCode", "(I)V"⟩, 2), (⟨"RotaryExchange", "succeeds", "(I)Z"⟩, 4), (⟨"RotaryExchange", "dialsAll", "(II)Z"⟩, 4), (⟨"RotaryExchangeModel", "begin", "(II)V"⟩, 10), (⟨"RotaryExchangeModel", "free", "(I)V"⟩, 10), (⟨"RotaryExchangeModel", "ofFinder", "(II)I"⟩, 10), (⟨"RotaryExchangeModel", "layFinder", "(III)V"⟩, 10), (⟨"RotaryExchangeModel", "setting", "(I)I"⟩, 10), (⟨"RotaryExchangeModel", "of", "(II)I"⟩, 10), (⟨"RotaryExchangeModel", "lay", "(III)V"⟩, 10)]
theorem lw_r2 : ∀ q ∈ lw_privs_2, lw_okq q := List.forall_mem_cons.mpr ⟨lw_p16, List.forall_mem_cons.mpr ⟨lw_p17, List.forall_mem_cons.mpr ⟨lw_p18, List.forall_mem_cons.mpr ⟨lw_p19, List.forall_mem_cons.mpr ⟨lw_p20, List.forall_mem_cons.mpr ⟨lw_p21, List.forall_mem_cons.mpr ⟨lw_p22, List.forall_mem_cons.mpr ⟨lw_p23, List.forall_mem_cons.mpr ⟨lw_p24, List.forall_mem_cons.mpr ⟨lw_p25, List.forall_mem_cons.mpr ⟨lw_p26, List.forall_mem_cons.mpr ⟨lw_p27, List.forall_mem_cons.mpr ⟨lw_p28, List.forall_mem_cons.mpr ⟨lw_p29, List.forall_mem_cons.mpr ⟨lw_p30, List.forall_mem_cons.mpr ⟨lw_p31, fun _ h => absurd h List.not_mem_nil⟩⟩⟩⟩⟩⟩⟩⟩⟩⟩⟩⟩⟩⟩⟩⟩
theorem lw_p32 : lw_okq (⟨"RotaryExchangeModel", "countOne", "(I)V"⟩, 10) := ⟨⟨by decide +kernel, by decide +kernel⟩, List.mem_of_getElem? (i := 570) (by decide +kernel), List.mem_of_getElem? (i := 657) (by decide +kernel), List.mem_of_getElem? (i := 658) (by decide +kernel)⟩
theorem lw_p33 : lw_okq (⟨"RotaryExchangeModel", "dropCall", "(I)V"⟩, 10) := ⟨⟨by decide +kernel, by decide +kernel⟩, List.mem_of_getElem? (i := 570) (by decide +kernel), List.mem_of_getElem? (i := 665) (by decide +kernel), List.mem_of_getElem? (i := 666) (by decide +kernel)⟩
theorem lw_p34 : lw_okq (⟨"RotaryExchangeModel", "finderOf", "(I)I"⟩, 10) := ⟨⟨by decide +kernel, by decide +kernel⟩, List.mem_of_getElem? (i := 570) (by decide +kernel), List.mem_of_getElem? (i := 669) (by decide +kernel), List.mem_of_getElem? (i := 670) (by decide +kernel)⟩
theorem lw_p35 : lw_okq (⟨"RotaryExchangeModel", "park", "(I)V"⟩, 10) := ⟨⟨by decide +kernel, by decide +kernel⟩, List.mem_of_getElem? (i := 570) (by decide +kernel), List.mem_of_getElem? (i := 673) (by decide +kernel), List.mem_of_getElem? (i := 674) (by decide +kernel)⟩
theorem lw_p36 : lw_okq (⟨"RotaryExchangeModel", "makeTick", "()V"⟩, 10) := ⟨⟨by decide +kernel, by decide +kernel⟩, List.mem_of_getElem? (i := 570) (by decide +kernel), List.mem_of_getElem? (i := 686) (by decide +kernel), List.mem_of_getElem? (i := 687) (by decide +kernel)⟩
theorem lw_p37 : lw_okq (⟨"RotaryExchangeModel", "stepFinder", "(I)V"⟩, 10) := ⟨⟨by decide +kernel, by decide +kernel⟩, List.mem_of_getElem? (i := 570) (by decide +kernel), List.mem_of_getElem? (i := 690) (by decide +kernel), List.mem_of_getElem? (i := 691) (by decide +kernel)⟩
theorem lw_p38 : lw_okq (⟨"RotaryExchangeModel", "seek", "(I)V"⟩, 10) := ⟨⟨by decide +kernel, by decide +kernel⟩, List.mem_of_getElem? (i := 570) (by decide +kernel), List.mem_of_getElem? (i := 694) (by decide +kernel), List.mem_of_getElem? (i := 695) (by decide +kernel)⟩
theorem lw_p39 : lw_okq (⟨"RotaryExchangeModel", "waitForDigit", "(I)V"⟩, 10) := ⟨⟨by decide +kernel, by decide +kernel⟩, List.mem_of_getElem? (i := 570) (by decide +kernel), List.mem_of_getElem? (i := 698) (by decide +kernel), List.mem_of_getElem? (i := 699) (by decide +kernel)⟩
theorem lw_p40 : lw_okq (⟨"RotaryExchangeModel", "takeDigit", "(I)I"⟩, 10) := ⟨⟨by decide +kernel, by decide +kernel⟩, List.mem_of_getElem? (i := 570) (by decide +kernel), List.mem_of_getElem? (i := 702) (by decide +kernel), List.mem_of_getElem? (i := 703) (by decide +kernel)⟩
theorem lw_p41 : lw_okq (⟨"RotaryExchangeModel", "reaches", "(III)Z"⟩, 10) := ⟨⟨by decide +kernel, by decide +kernel⟩, List.mem_of_getElem? (i := 570) (by decide +kernel), List.mem_of_getElem? (i := 706) (by decide +kernel), List.mem_of_getElem? (i := 707) (by decide +kernel)⟩
theorem lw_p42 : lw_okq (⟨"RotaryExchangeModel", "giveUp", "(I)V"⟩, 10) := ⟨⟨by decide +kernel, by decide +kernel⟩, List.mem_of_getElem? (i := 570) (by decide +kernel), List.mem_of_getElem? (i := 710) (by decide +kernel), List.mem_of_getElem? (i := 711) (by decide +kernel)⟩
theorem lw_p43 : lw_okq (⟨"RotaryExchangeModel", "rise", "(I)V"⟩, 10) := ⟨⟨by decide +kernel, by decide +kernel⟩, List.mem_of_getElem? (i := 570) (by decide +kernel), List.mem_of_getElem? (i := 714) (by decide +kernel), List.mem_of_getElem? (i := 715) (by decide +kernel)⟩
theorem lw_p44 : lw_okq (⟨"RotaryExchangeModel", "sound", "(III)V"⟩, 10) := ⟨⟨by decide +kernel, by decide +kernel⟩, List.mem_of_getElem? (i := 570) (by decide +kernel), List.mem_of_getElem? (i := 718) (by decide +kernel), List.mem_of_getElem? (i := 719) (by decide +kernel)⟩
theorem lw_p45 : lw_okq (⟨"RotaryExchangeModel", "hunt", "(I)V"⟩, 10) := ⟨⟨by decide +kernel, by decide +kernel⟩, List.mem_of_getElem? (i := 570) (by decide +kernel), List.mem_of_getElem? (i := 722) (by decide +kernel), List.mem_of_getElem? (i := 723) (by decide +kernel)⟩
theorem lw_p46 : lw_okq (⟨"RotaryExchangeModel", "holder", "(II)I"⟩, 10) := ⟨⟨by decide +kernel, by decide +kernel⟩, List.mem_of_getElem? (i := 570) (by decide +kernel), List.mem_of_getElem? (i := 726) (by decide +kernel), List.mem_of_getElem? (i := 727) (by decide +kernel)⟩
theorem lw_p47 : lw_okq (⟨"RotaryExchangeModel", "isHolding", "(I)Z"⟩, 10) := ⟨⟨by decide +kernel, by decide +kernel⟩, List.mem_of_getElem? (i := 570) (by decide +kernel), List.mem_of_getElem? (i := 730) (by decide +kernel), List.mem_of_getElem? (i := 731) (by decide +kernel)⟩
def lw_privs_3 : List (MethodName × Nat) := [(⟨"RotaryExchangeModel", "countOne", "(I)V"⟩, 10), (⟨"RotaryExchangeModel", "dropCall", "(I)V"⟩, 10), (⟨"RotaryExchangeModel", "finderOf", "(I)I"⟩, 10), (⟨"RotaryExchangeModel", "park", "(I)V"⟩, 10), (⟨"RotaryExchangeModel", "makeTick", "()V"⟩, 10), (⟨"RotaryExchangeModel", "stepFinder", "(I)V"⟩, 10), (⟨"RotaryExchangeModel", "seek", "(I)V"⟩, 10), (⟨"RotaryExchangeModel", "waitForDigit", "(I)V"⟩, 10), (⟨"RotaryExchangeModel", "takeDigit", "(I)I"⟩, 10), (⟨"RotaryExchangeModel", "reaches", "(III)Z"⟩, 10), (⟨"RotaryExchangeModel", "giveUp", "(I)V"⟩, 10), (⟨"RotaryExchangeModel", "rise", "(I)V"⟩, 10), (⟨"RotaryExchangeModel", "sound", "(III)V"⟩, 10), (⟨"RotaryExchangeModel", "hunt", "(I)V"⟩, 10), (⟨"RotaryExchangeModel", "holder", "(II)I"⟩, 10), (⟨"RotaryExchangeModel", "isHolding", "(I)Z"⟩, 10)]
theorem lw_r3 : ∀ q ∈ lw_privs_3, lw_okq q := List.forall_mem_cons.mpr ⟨lw_p32, List.forall_mem_cons.mpr ⟨lw_p33, List.forall_mem_cons.mpr ⟨lw_p34, List.forall_mem_cons.mpr ⟨lw_p35, List.forall_mem_cons.mpr ⟨lw_p36, List.forall_mem_cons.mpr ⟨lw_p37, List.forall_mem_cons.mpr ⟨lw_p38, List.forall_mem_cons.mpr ⟨lw_p39, List.forall_mem_cons.mpr ⟨lw_p40, List.forall_mem_cons.mpr ⟨lw_p41, List.forall_mem_cons.mpr ⟨lw_p42, List.forall_mem_cons.mpr ⟨lw_p43, List.forall_mem_cons.mpr ⟨lw_p44, List.forall_mem_cons.mpr ⟨lw_p45, List.forall_mem_cons.mpr ⟨lw_p46, List.forall_mem_cons.mpr ⟨lw_p47, fun _ h => absurd h List.not_mem_nil⟩⟩⟩⟩⟩⟩⟩⟩⟩⟩⟩⟩⟩⟩⟩⟩
theorem lw_p48 : lw_okq (⟨"RotaryExchangeModel", "step", "(I)V"⟩, 10) := ⟨⟨by decide +kernel, by decide +kernel⟩, List.mem_of_getElem? (i := 570) (by decide +kernel), List.mem_of_getElem? (i := 734) (by decide +kernel), List.mem_of_getElem? (i := 735) (by decide +kernel)⟩
theorem lw_p49 : lw_okq (⟨"RotaryExchangeModel", "test", "(I)V"⟩, 10) := ⟨⟨by decide +kernel, by decide +kernel⟩, List.mem_of_getElem? (i := 570) (by decide +kernel), List.mem_of_getElem? (i := 738) (by decide +kernel), List.mem_of_getElem? (i := 739) (by decide +kernel)⟩
theorem lw_p50 : lw_okq (⟨"RotaryExchangeModel", "ring", "(I)V"⟩, 10) := ⟨⟨by decide +kernel, by decide +kernel⟩, List.mem_of_getElem? (i := 570) (by decide +kernel), List.mem_of_getElem? (i := 742) (by decide +kernel), List.mem_of_getElem? (i := 743) (by decide +kernel)⟩
theorem lw_p51 : lw_okq (⟨"RotaryExchangeModel", "meter", "(I)V"⟩, 10) := ⟨⟨by decide +kernel, by decide +kernel⟩, List.mem_of_getElem? (i := 570) (by decide +kernel), List.mem_of_getElem? (i := 746) (by decide +kernel), List.mem_of_getElem? (i := 747) (by decide +kernel)⟩
theorem lw_p52 : lw_okq (⟨"RotaryExchangeModel", "talk", "(I)V"⟩, 10) := ⟨⟨by decide +kernel, by decide +kernel⟩, List.mem_of_getElem? (i := 570) (by decide +kernel), List.mem_of_getElem? (i := 750) (by decide +kernel), List.mem_of_getElem? (i := 751) (by decide +kernel)⟩
theorem lw_p53 : lw_okq (⟨"RotaryExchangeModel", "soundOn", "(I)V"⟩, 10) := ⟨⟨by decide +kernel, by decide +kernel⟩, List.mem_of_getElem? (i := 570) (by decide +kernel), List.mem_of_getElem? (i := 754) (by decide +kernel), List.mem_of_getElem? (i := 755) (by decide +kernel)⟩
theorem lw_p54 : lw_okq (⟨"RotaryExchangeModel", "allot", "()V"⟩, 10) := ⟨⟨by decide +kernel, by decide +kernel⟩, List.mem_of_getElem? (i := 570) (by decide +kernel), List.mem_of_getElem? (i := 758) (by decide +kernel), List.mem_of_getElem? (i := 759) (by decide +kernel)⟩
theorem lw_p55 : lw_okq (⟨"RotaryExchangeModel", "isQueued", "(I)Z"⟩, 10) := ⟨⟨by decide +kernel, by decide +kernel⟩, List.mem_of_getElem? (i := 570) (by decide +kernel), List.mem_of_getElem? (i := 762) (by decide +kernel), List.mem_of_getElem? (i := 763) (by decide +kernel)⟩
theorem lw_p56 : lw_okq (⟨"RotaryExchangeModel", "pathOf", "(I)I"⟩, 10) := ⟨⟨by decide +kernel, by decide +kernel⟩, List.mem_of_getElem? (i := 570) (by decide +kernel), List.mem_of_getElem? (i := 770) (by decide +kernel), List.mem_of_getElem? (i := 771) (by decide +kernel)⟩
theorem lw_p57 : lw_okq (⟨"RotaryExchangeModel", "finderTo", "(I)I"⟩, 10) := ⟨⟨by decide +kernel, by decide +kernel⟩, List.mem_of_getElem? (i := 570) (by decide +kernel), List.mem_of_getElem? (i := 774) (by decide +kernel), List.mem_of_getElem? (i := 775) (by decide +kernel)⟩
theorem lw_p58 : lw_okq (⟨"RotaryExchangeModel", "otherOf", "(I)I"⟩, 10) := ⟨⟨by decide +kernel, by decide +kernel⟩, List.mem_of_getElem? (i := 570) (by decide +kernel), List.mem_of_getElem? (i := 778) (by decide +kernel), List.mem_of_getElem? (i := 779) (by decide +kernel)⟩
theorem lw_p59 : lw_okq (⟨"RotaryExchangeModel", "placeOf", "(I)I"⟩, 10) := ⟨⟨by decide +kernel, by decide +kernel⟩, List.mem_of_getElem? (i := 570) (by decide +kernel), List.mem_of_getElem? (i := 782) (by decide +kernel), List.mem_of_getElem? (i := 783) (by decide +kernel)⟩
theorem lw_p60 : lw_okq (⟨"RotaryExchangeModel", "isFinder", "(I)Z"⟩, 10) := ⟨⟨by decide +kernel, by decide +kernel⟩, List.mem_of_getElem? (i := 570) (by decide +kernel), List.mem_of_getElem? (i := 790) (by decide +kernel), List.mem_of_getElem? (i := 791) (by decide +kernel)⟩
theorem lw_p61 : lw_okq (⟨"RotaryExchangeModel", "showsTimer", "(I)Z"⟩, 10) := ⟨⟨by decide +kernel, by decide +kernel⟩, List.mem_of_getElem? (i := 570) (by decide +kernel), List.mem_of_getElem? (i := 794) (by decide +kernel), List.mem_of_getElem? (i := 795) (by decide +kernel)⟩
theorem lw_p62 : lw_okq (⟨"RotaryExchangeModel", "finders", "(Z)I"⟩, 10) := ⟨⟨by decide +kernel, by decide +kernel⟩, List.mem_of_getElem? (i := 570) (by decide +kernel), List.mem_of_getElem? (i := 806) (by decide +kernel), List.mem_of_getElem? (i := 807) (by decide +kernel)⟩
theorem lw_p63 : lw_okq (⟨"RotaryExchangeModel", "sumOf", "(I)I"⟩, 10) := ⟨⟨by decide +kernel, by decide +kernel⟩, List.mem_of_getElem? (i := 570) (by decide +kernel), List.mem_of_getElem? (i := 810) (by decide +kernel), List.mem_of_getElem? (i := 811) (by decide +kernel)⟩
def lw_privs_4 : List (MethodName × Nat) := [(⟨"RotaryExchangeModel", "step", "(I)V"⟩, 10), (⟨"RotaryExchangeModel", "test", "(I)V"⟩, 10), (⟨"RotaryExchangeModel", "ring", "(I)V"⟩, 10), (⟨"RotaryExchangeModel", "meter", "(I)V"⟩, 10), (⟨"RotaryExchangeModel", "talk", "(I)V"⟩, 10), (⟨"RotaryExchangeModel", "soundOn", "(I)V"⟩, 10), (⟨"RotaryExchangeModel", "allot", "()V"⟩, 10), (⟨"RotaryExchangeModel", "isQueued", "(I)Z"⟩, 10), (⟨"RotaryExchangeModel", "pathOf", "(I)I"⟩, 10), (⟨"RotaryExchangeModel", "finderTo", "(I)I"⟩, 10), (⟨"RotaryExchangeModel", "otherOf", "(I)I"⟩, 10), (⟨"RotaryExchangeModel", "placeOf", "(I)I"⟩, 10), (⟨"RotaryExchangeModel", "isFinder", "(I)Z"⟩, 10), (⟨"RotaryExchangeModel", "showsTimer", "(I)Z"⟩, 10), (⟨"RotaryExchangeModel", "finders", "(Z)I"⟩, 10), (⟨"RotaryExchangeModel", "sumOf", "(I)I"⟩, 10)]
theorem lw_r4 : ∀ q ∈ lw_privs_4, lw_okq q := List.forall_mem_cons.mpr ⟨lw_p48, List.forall_mem_cons.mpr ⟨lw_p49, List.forall_mem_cons.mpr ⟨lw_p50, List.forall_mem_cons.mpr ⟨lw_p51, List.forall_mem_cons.mpr ⟨lw_p52, List.forall_mem_cons.mpr ⟨lw_p53, List.forall_mem_cons.mpr ⟨lw_p54, List.forall_mem_cons.mpr ⟨lw_p55, List.forall_mem_cons.mpr ⟨lw_p56, List.forall_mem_cons.mpr ⟨lw_p57, List.forall_mem_cons.mpr ⟨lw_p58, List.forall_mem_cons.mpr ⟨lw_p59, List.forall_mem_cons.mpr ⟨lw_p60, List.forall_mem_cons.mpr ⟨lw_p61, List.forall_mem_cons.mpr ⟨lw_p62, List.forall_mem_cons.mpr ⟨lw_p63, fun _ h => absurd h List.not_mem_nil⟩⟩⟩⟩⟩⟩⟩⟩⟩⟩⟩⟩⟩⟩⟩⟩
theorem lw_p64 : lw_okq (⟨"RotaryExchangeModel", "putAside", "()V"⟩, 10) := ⟨⟨by decide +kernel, by decide +kernel⟩, List.mem_of_getElem? (i := 570) (by decide +kernel), List.mem_of_getElem? (i := 822) (by decide +kernel), List.mem_of_getElem? (i := 823) (by decide +kernel)⟩
theorem lw_p65 : lw_okq (⟨"RotaryExchangeModel", "putBack", "()V"⟩, 10) := ⟨⟨by decide +kernel, by decide +kernel⟩, List.mem_of_getElem? (i := 570) (by decide +kernel), List.mem_of_getElem? (i := 826) (by decide +kernel), List.mem_of_getElem? (i := 827) (by decide +kernel)⟩
theorem lw_p66 : lw_okq (⟨"RotaryExchangeModel", "readAct", "()V"⟩, 10) := ⟨⟨by decide +kernel, by decide +kernel⟩, List.mem_of_getElem? (i := 570) (by decide +kernel), List.mem_of_getElem? (i := 852) (by decide +kernel), List.mem_of_getElem? (i := 853) (by decide +kernel)⟩
theorem lw_p67 : lw_okq (⟨"RotaryExchangeModel", "next", "()I"⟩, 10) := ⟨⟨by decide +kernel, by decide +kernel⟩, List.mem_of_getElem? (i := 570) (by decide +kernel), List.mem_of_getElem? (i := 856) (by decide +kernel), List.mem_of_getElem? (i := 857) (by decide +kernel)⟩
theorem lw_p68 : lw_okq (⟨"RotaryExchangeModel", "readNumber", "()I"⟩, 10) := ⟨⟨by decide +kernel, by decide +kernel⟩, List.mem_of_getElem? (i := 570) (by decide +kernel), List.mem_of_getElem? (i := 860) (by decide +kernel), List.mem_of_getElem? (i := 861) (by decide +kernel)⟩
theorem lw_p69 : lw_okq (⟨"RotaryExchangeModel", "readLine", "()I"⟩, 10) := ⟨⟨by decide +kernel, by decide +kernel⟩, List.mem_of_getElem? (i := 570) (by decide +kernel), List.mem_of_getElem? (i := 864) (by decide +kernel), List.mem_of_getElem? (i := 865) (by decide +kernel)⟩
theorem lw_p70 : lw_okq (⟨"RotaryExchangeModel", "readDigits", "(I)V"⟩, 10) := ⟨⟨by decide +kernel, by decide +kernel⟩, List.mem_of_getElem? (i := 570) (by decide +kernel), List.mem_of_getElem? (i := 871) (by decide +kernel), List.mem_of_getElem? (i := 872) (by decide +kernel)⟩
theorem lw_p71 : lw_okq (⟨"RotaryExchangeModel", "does", "(I)Z"⟩, 10) := ⟨⟨by decide +kernel, by decide +kernel⟩, List.mem_of_getElem? (i := 570) (by decide +kernel), List.mem_of_getElem? (i := 880) (by decide +kernel), List.mem_of_getElem? (i := 881) (by decide +kernel)⟩
theorem lw_p72 : lw_okq (⟨"RotaryExchangeModel", "dials", "(I)Z"⟩, 10) := ⟨⟨by decide +kernel, by decide +kernel⟩, List.mem_of_getElem? (i := 570) (by decide +kernel), List.mem_of_getElem? (i := 885) (by decide +kernel), List.mem_of_getElem? (i := 886) (by decide +kernel)⟩
def lw_privs_5 : List (MethodName × Nat) := [(⟨"RotaryExchangeModel", "putAside", "()V"⟩, 10), (⟨"RotaryExchangeModel", "putBack", "()V"⟩, 10), (⟨"RotaryExchangeModel", "readAct", "()V"⟩, 10), (⟨"RotaryExchangeModel", "next", "()I"⟩, 10), (⟨"RotaryExchangeModel", "readNumber", "()I"⟩, 10), (⟨"RotaryExchangeModel", "readLine", "()I"⟩, 10), (⟨"RotaryExchangeModel", "readDigits", "(I)V"⟩, 10), (⟨"RotaryExchangeModel", "does", "(I)Z"⟩, 10), (⟨"RotaryExchangeModel", "dials", "(I)Z"⟩, 10)]
theorem lw_r5 : ∀ q ∈ lw_privs_5, lw_okq q := List.forall_mem_cons.mpr ⟨lw_p64, List.forall_mem_cons.mpr ⟨lw_p65, List.forall_mem_cons.mpr ⟨lw_p66, List.forall_mem_cons.mpr ⟨lw_p67, List.forall_mem_cons.mpr ⟨lw_p68, List.forall_mem_cons.mpr ⟨lw_p69, List.forall_mem_cons.mpr ⟨lw_p70, List.forall_mem_cons.mpr ⟨lw_p71, List.forall_mem_cons.mpr ⟨lw_p72, fun _ h => absurd h List.not_mem_nil⟩⟩⟩⟩⟩⟩⟩⟩⟩
def lw_privs : List (MethodName × Nat) := lw_privs_1 ++ (lw_privs_2 ++ (lw_privs_3 ++ (lw_privs_4 ++ (lw_privs_5))))
def lw_tbl : List Cond := k2_sels lw_privs ++ tables_1
theorem lw_privs_ok : ∀ q ∈ lw_privs, lw_okq q := by
  show ∀ q ∈ lw_privs_1 ++ (lw_privs_2 ++ (lw_privs_3 ++ (lw_privs_4 ++ (lw_privs_5)))), lw_okq q
  exact List.forall_mem_append.mpr ⟨lw_r1, List.forall_mem_append.mpr ⟨lw_r2, List.forall_mem_append.mpr ⟨lw_r3, List.forall_mem_append.mpr ⟨lw_r4, lw_r5⟩⟩⟩⟩
-- ===== names: by program out of the claim's printed names =====
def RX0 : String := "RotaryExchange$Exchange"
def TX0 : u_T := fun k => match k with
  | 0 => ("RotaryExchange$Exchange", "lines", "[LRotaryExchange$Line;", true)
  | 1 => ("RotaryExchange$Exchange", "finders", "[LRotaryExchange$Finder;", true)
  | 2 => ("RotaryExchange$Exchange", "noLine", "LRotaryExchange$Line;", true)
  | 3 => ("RotaryExchange$Exchange", "noFinder", "LRotaryExchange$Finder;", true)
  | 4 => ("RotaryExchange$Exchange", "settings", "[I", true)
  | 5 => ("RotaryExchange$Exchange", "finderCount", "I", false)
  | 6 => ("RotaryExchange$Exchange", "connectorCount", "I", false)
  | 7 => ("RotaryExchange$Exchange", "time", "I", false)
  | 8 => ("RotaryExchange$Exchange", "lastAllotted", "I", false)
  | 9 => ("RotaryExchange$Exchange", "lifts", "I", false)
  | 10 => ("RotaryExchange$Exchange", "readies", "I", false)
  | 11 => ("RotaryExchange$Exchange", "callings", "I", false)
  | 12 => ("RotaryExchange$Exchange", "throughs", "I", false)
  | 13 => ("RotaryExchange$Exchange", "busies", "I", false)
  | 14 => ("RotaryExchange$Exchange", "vacants", "I", false)
  | _ => ("RotaryExchange$Exchange", "waitsGivenUp", "I", false)
def tyX0 : Nat → FieldType := fun k => match k with
  | 0 => .array (.object "RotaryExchange$Line")
  | 1 => .array (.object "RotaryExchange$Finder")
  | 2 => .object "RotaryExchange$Line"
  | 3 => .object "RotaryExchange$Finder"
  | 4 => .array .int
  | 5 => .int
  | 6 => .int
  | 7 => .int
  | 8 => .int
  | 9 => .int
  | 10 => .int
  | 11 => .int
  | 12 => .int
  | 13 => .int
  | 14 => .int
  | _ => .int
abbrev wsX00 : List Cond := u_ws RX0 TX0 16
theorem nmX0 : ∀ a, a < 16 → ∀ b, b < 16 → a ≠ b → (TX0 a).2.1 ≠ (TX0 b).2.1 := by decide +kernel
theorem tyX0_ok : ∀ k, k < 16 → parseFieldDescriptor (TX0 k).2.2.1 = some (tyX0 k) := by decide +kernel
abbrev cX0_init : ByteArray := prog_2_method_1_code
def yX0_init : MethodName := ⟨RX0, "<init>", "()V"⟩
abbrev cX0_lineAt : ByteArray := prog_2_method_2_code
def yX0_lineAt : MethodName := ⟨RX0, "lineAt", "(I)LRotaryExchange$Line;"⟩
abbrev cX0_finderAt : ByteArray := prog_2_method_3_code
def yX0_finderAt : MethodName := ⟨RX0, "finderAt", "(I)LRotaryExchange$Finder;"⟩
abbrev cX0_settingAt : ByteArray := prog_2_method_4_code
def yX0_settingAt : MethodName := ⟨RX0, "settingAt", "(I)I"⟩
abbrev cX0_changeSetting : ByteArray := prog_2_method_5_code
def yX0_changeSetting : MethodName := ⟨RX0, "changeSetting", "(II)I"⟩
abbrev cX0_renew : ByteArray := prog_2_method_6_code
def yX0_renew : MethodName := ⟨RX0, "renew", "(II)V"⟩
abbrev cX0_copyFrom : ByteArray := prog_2_method_7_code
def yX0_copyFrom : MethodName := ⟨RX0, "copyFrom", "(LRotaryExchange$Exchange;)V"⟩
abbrev cX0_liftLine : ByteArray := prog_2_method_8_code
def yX0_liftLine : MethodName := ⟨RX0, "liftLine", "(I)I"⟩
abbrev cX0_hangLine : ByteArray := prog_2_method_9_code
def yX0_hangLine : MethodName := ⟨RX0, "hangLine", "(I)I"⟩
abbrev cX0_release : ByteArray := prog_2_method_10_code
def yX0_release : MethodName := ⟨RX0, "release", "(LRotaryExchange$Finder;)V"⟩
abbrev cX0_dialDigit : ByteArray := prog_2_method_11_code
def yX0_dialDigit : MethodName := ⟨RX0, "dialDigit", "(II)I"⟩
abbrev cX0_hasTimeFor : ByteArray := prog_2_method_12_code
def yX0_hasTimeFor : MethodName := ⟨RX0, "hasTimeFor", "(I)Z"⟩
abbrev cX0_pass : ByteArray := prog_2_method_13_code
def yX0_pass : MethodName := ⟨RX0, "pass", "(I)V"⟩
abbrev cX0_takeStep : ByteArray := prog_2_method_14_code
def yX0_takeStep : MethodName := ⟨RX0, "takeStep", "(LRotaryExchange$Finder;)V"⟩
abbrev cX0_seek : ByteArray := prog_2_method_15_code
def yX0_seek : MethodName := ⟨RX0, "seek", "(LRotaryExchange$Finder;LRotaryExchange$Line;)V"⟩
abbrev cX0_awaitDigit : ByteArray := prog_2_method_16_code
def yX0_awaitDigit : MethodName := ⟨RX0, "awaitDigit", "(LRotaryExchange$Finder;LRotaryExchange$Line;I)V"⟩
abbrev cX0_rise : ByteArray := prog_2_method_17_code
def yX0_rise : MethodName := ⟨RX0, "rise", "(LRotaryExchange$Finder;LRotaryExchange$Line;)V"⟩
abbrev cX0_hunt : ByteArray := prog_2_method_18_code
def yX0_hunt : MethodName := ⟨RX0, "hunt", "(LRotaryExchange$Finder;LRotaryExchange$Line;)V"⟩
abbrev cX0_stepOn : ByteArray := prog_2_method_19_code
def yX0_stepOn : MethodName := ⟨RX0, "stepOn", "(LRotaryExchange$Finder;LRotaryExchange$Line;)V"⟩
abbrev cX0_ringOn : ByteArray := prog_2_method_20_code
def yX0_ringOn : MethodName := ⟨RX0, "ringOn", "(LRotaryExchange$Finder;LRotaryExchange$Line;)V"⟩
abbrev cX0_talkOn : ByteArray := prog_2_method_21_code
def yX0_talkOn : MethodName := ⟨RX0, "talkOn", "(LRotaryExchange$Finder;LRotaryExchange$Line;)V"⟩
abbrev cX0_soundOn : ByteArray := prog_2_method_22_code
def yX0_soundOn : MethodName := ⟨RX0, "soundOn", "(LRotaryExchange$Finder;LRotaryExchange$Line;)V"⟩
abbrev cX0_sound : ByteArray := prog_2_method_23_code
def yX0_sound : MethodName := ⟨RX0, "sound", "(LRotaryExchange$Finder;LRotaryExchange$Line;II)V"⟩
abbrev cX0_allotFinder : ByteArray := prog_2_method_24_code
def yX0_allotFinder : MethodName := ⟨RX0, "allotFinder", "()V"⟩
abbrev cX0_countParked : ByteArray := prog_2_method_25_code
def yX0_countParked : MethodName := ⟨RX0, "countParked", "()V"⟩
abbrev cX0_nextFreeFinder : ByteArray := prog_2_method_26_code
def yX0_nextFreeFinder : MethodName := ⟨RX0, "nextFreeFinder", "()I"⟩
abbrev cX0_firstWaitingLine : ByteArray := prog_2_method_27_code
def yX0_firstWaitingLine : MethodName := ⟨RX0, "firstWaitingLine", "()I"⟩
abbrev cX0_holderOf : ByteArray := prog_2_method_28_code
def yX0_holderOf : MethodName := ⟨RX0, "holderOf", "(II)I"⟩
abbrev cX0_ticksUntil : ByteArray := prog_2_method_29_code
def yX0_ticksUntil : MethodName := ⟨RX0, "ticksUntil", "(III)I"⟩
abbrev cX0_tryCall : ByteArray := prog_2_method_30_code
def yX0_tryCall : MethodName := ⟨RX0, "tryCall", "(II)I"⟩
abbrev cX0_endsTrial : ByteArray := prog_2_method_31_code
def yX0_endsTrial : MethodName := ⟨RX0, "endsTrial", "(I)Z"⟩
abbrev cX0_numberOfLine : ByteArray := prog_2_method_32_code
def yX0_numberOfLine : MethodName := ⟨RX0, "numberOfLine", "(II)I"⟩
abbrev cX0_partnerOf : ByteArray := prog_2_method_33_code
def yX0_partnerOf : MethodName := ⟨RX0, "partnerOf", "(LRotaryExchange$Line;)I"⟩
abbrev cX0_placeOf : ByteArray := prog_2_method_34_code
def yX0_placeOf : MethodName := ⟨RX0, "placeOf", "(LRotaryExchange$Line;)I"⟩
abbrev cX0_traceFrom : ByteArray := prog_2_method_35_code
def yX0_traceFrom : MethodName := ⟨RX0, "traceFrom", "(II)I"⟩
abbrev cX0_numberFor : ByteArray := prog_2_method_36_code
def yX0_numberFor : MethodName := ⟨RX0, "numberFor", "(I)I"⟩
abbrev cX0_freeFinders : ByteArray := prog_2_method_37_code
def yX0_freeFinders : MethodName := ⟨RX0, "freeFinders", "()I"⟩
abbrev cX0_freeConnectors : ByteArray := prog_2_method_38_code
def yX0_freeConnectors : MethodName := ⟨RX0, "freeConnectors", "()I"⟩
abbrev cX0_sumOfMeters : ByteArray := prog_2_method_39_code
def yX0_sumOfMeters : MethodName := ⟨RX0, "sumOfMeters", "()I"⟩
abbrev cX0_liftedLines : ByteArray := prog_2_method_40_code
def yX0_liftedLines : MethodName := ⟨RX0, "liftedLines", "()I"⟩
def RX1 : String := "RotaryExchange$Finder"
def TX1 : u_T := fun k => match k with
  | 0 => ("RotaryExchange$Finder", "state", "I", false)
  | 1 => ("RotaryExchange$Finder", "position", "I", false)
  | 2 => ("RotaryExchange$Finder", "line", "I", false)
  | 3 => ("RotaryExchange$Finder", "level", "I", false)
  | 4 => ("RotaryExchange$Finder", "connector", "I", false)
  | 5 => ("RotaryExchange$Finder", "pulses", "I", false)
  | 6 => ("RotaryExchange$Finder", "steps", "I", false)
  | 7 => ("RotaryExchange$Finder", "timer", "I", false)
  | 8 => ("RotaryExchange$Finder", "clearing", "I", false)
  | _ => ("RotaryExchange$Finder", "called", "I", false)
def tyX1 : Nat → FieldType := fun k => match k with
  | 0 => .int
  | 1 => .int
  | 2 => .int
  | 3 => .int
  | 4 => .int
  | 5 => .int
  | 6 => .int
  | 7 => .int
  | 8 => .int
  | _ => .int
abbrev wsX10 : List Cond := u_ws RX1 TX1 10
theorem nmX1 : ∀ a, a < 10 → ∀ b, b < 10 → a ≠ b → (TX1 a).2.1 ≠ (TX1 b).2.1 := by decide +kernel
theorem tyX1_ok : ∀ k, k < 10 → parseFieldDescriptor (TX1 k).2.2.1 = some (tyX1 k) := by decide +kernel
abbrev cX1_init : ByteArray := prog_3_method_1_code
def yX1_init : MethodName := ⟨RX1, "<init>", "()V"⟩
abbrev cX1_renew : ByteArray := prog_3_method_2_code
def yX1_renew : MethodName := ⟨RX1, "renew", "()V"⟩
abbrev cX1_copyFrom : ByteArray := prog_3_method_3_code
def yX1_copyFrom : MethodName := ⟨RX1, "copyFrom", "(LRotaryExchange$Finder;)V"⟩
abbrev cX1_become : ByteArray := prog_3_method_4_code
def yX1_become : MethodName := ⟨RX1, "become", "(I)V"⟩
abbrev cX1_becomeFree : ByteArray := prog_3_method_5_code
def yX1_becomeFree : MethodName := ⟨RX1, "becomeFree", "()V"⟩
abbrev cX1_holdsConnector : ByteArray := prog_3_method_6_code
def yX1_holdsConnector : MethodName := ⟨RX1, "holdsConnector", "()Z"⟩
abbrev cX1_numberFor : ByteArray := prog_3_method_7_code
def yX1_numberFor : MethodName := ⟨RX1, "numberFor", "(I)I"⟩
def RX2 : String := "RotaryExchange$Line"
def TX2 : u_T := fun k => match k with
  | 0 => ("RotaryExchange$Line", "state", "I", false)
  | 1 => ("RotaryExchange$Line", "lifted", "Z", false)
  | 2 => ("RotaryExchange$Line", "meter", "I", false)
  | 3 => ("RotaryExchange$Line", "reason", "I", false)
  | 4 => ("RotaryExchange$Line", "digits", "I", false)
  | 5 => ("RotaryExchange$Line", "digitCount", "I", false)
  | 6 => ("RotaryExchange$Line", "finder", "I", false)
  | 7 => ("RotaryExchange$Line", "turn", "I", false)
  | _ => ("RotaryExchange$Line", "parking", "I", false)
def tyX2 : Nat → FieldType := fun k => match k with
  | 0 => .int
  | 1 => .boolean
  | 2 => .int
  | 3 => .int
  | 4 => .int
  | 5 => .int
  | 6 => .int
  | 7 => .int
  | _ => .int
abbrev wsX20 : List Cond := u_ws RX2 TX2 9
theorem nmX2 : ∀ a, a < 9 → ∀ b, b < 9 → a ≠ b → (TX2 a).2.1 ≠ (TX2 b).2.1 := by decide +kernel
theorem tyX2_ok : ∀ k, k < 9 → parseFieldDescriptor (TX2 k).2.2.1 = some (tyX2 k) := by decide +kernel
abbrev cX2_init : ByteArray := prog_4_method_1_code
def yX2_init : MethodName := ⟨RX2, "<init>", "()V"⟩
abbrev cX2_renew : ByteArray := prog_4_method_2_code
def yX2_renew : MethodName := ⟨RX2, "renew", "()V"⟩
abbrev cX2_copyFrom : ByteArray := prog_4_method_3_code
def yX2_copyFrom : MethodName := ⟨RX2, "copyFrom", "(LRotaryExchange$Line;)V"⟩
abbrev cX2_waitsUnsought : ByteArray := prog_4_method_4_code
def yX2_waitsUnsought : MethodName := ⟨RX2, "waitsUnsought", "()Z"⟩
abbrev cX2_isCalledByAnother : ByteArray := prog_4_method_5_code
def yX2_isCalledByAnother : MethodName := ⟨RX2, "isCalledByAnother", "()Z"⟩
abbrev cX2_callsAnother : ByteArray := prog_4_method_6_code
def yX2_callsAnother : MethodName := ⟨RX2, "callsAnother", "()Z"⟩
abbrev cX2_appendDigit : ByteArray := prog_4_method_7_code
def yX2_appendDigit : MethodName := ⟨RX2, "appendDigit", "(I)V"⟩
abbrev cX2_takePulses : ByteArray := prog_4_method_8_code
def yX2_takePulses : MethodName := ⟨RX2, "takePulses", "()I"⟩
abbrev cX2_leaveCall : ByteArray := prog_4_method_9_code
def yX2_leaveCall : MethodName := ⟨RX2, "leaveCall", "(I)V"⟩
abbrev cX2_waitParked : ByteArray := prog_4_method_10_code
def yX2_waitParked : MethodName := ⟨RX2, "waitParked", "(I)V"⟩
def RX3 : String := "RotaryExchange$Pad"
def TX3 : u_T := fun k => match k with
  | 0 => ("RotaryExchange$Pad", "codes", "[I", true)
  | _ => ("RotaryExchange$Pad", "length", "I", false)
def tyX3 : Nat → FieldType := fun k => match k with
  | 0 => .array .int
  | _ => .int
abbrev wsX30 : List Cond := u_ws RX3 TX3 2
theorem nmX3 : ∀ a, a < 2 → ∀ b, b < 2 → a ≠ b → (TX3 a).2.1 ≠ (TX3 b).2.1 := by decide +kernel
theorem tyX3_ok : ∀ k, k < 2 → parseFieldDescriptor (TX3 k).2.2.1 = some (tyX3 k) := by decide +kernel
abbrev cX3_init : ByteArray := prog_5_method_1_code
def yX3_init : MethodName := ⟨RX3, "<init>", "()V"⟩
abbrev cX3_codeAt : ByteArray := prog_5_method_2_code
def yX3_codeAt : MethodName := ⟨RX3, "codeAt", "(I)I"⟩
abbrev cX3_append : ByteArray := prog_5_method_3_code
def yX3_append : MethodName := ⟨RX3, "append", "(J)I"⟩
abbrev cX3_appendCode : ByteArray := prog_5_method_4_code
def yX3_appendCode : MethodName := ⟨RX3, "appendCode", "(I)V"⟩
abbrev cX3_countOf : ByteArray := prog_5_method_5_code
def yX3_countOf : MethodName := ⟨RX3, "countOf", "(J)I"⟩
abbrev cX3_firstFault : ByteArray := prog_5_method_6_code
def yX3_firstFault : MethodName := ⟨RX3, "firstFault", "()I"⟩
abbrev cX3_awaitedBehind : ByteArray := prog_5_method_7_code
def yX3_awaitedBehind : MethodName := ⟨RX3, "awaitedBehind", "(III)I"⟩
abbrev cX3_awaitedBehindLetter : ByteArray := prog_5_method_8_code
def yX3_awaitedBehindLetter : MethodName := ⟨RX3, "awaitedBehindLetter", "(I)I"⟩
abbrev cX3_awaitedBehindComma : ByteArray := prog_5_method_9_code
def yX3_awaitedBehindComma : MethodName := ⟨RX3, "awaitedBehindComma", "(I)I"⟩
abbrev cX3_beginsAnAct : ByteArray := prog_5_method_10_code
def yX3_beginsAnAct : MethodName := ⟨RX3, "beginsAnAct", "(I)Z"⟩
abbrev cX3_lineAt : ByteArray := prog_5_method_11_code
def yX3_lineAt : MethodName := ⟨RX3, "lineAt", "(I)I"⟩
abbrev cX3_lineOf : ByteArray := prog_5_method_12_code
def yX3_lineOf : MethodName := ⟨RX3, "lineOf", "(I)I"⟩
abbrev cX3_numberAt : ByteArray := prog_5_method_13_code
def yX3_numberAt : MethodName := ⟨RX3, "numberAt", "(I)I"⟩
abbrev cX3_isDigit : ByteArray := prog_5_method_14_code
def yX3_isDigit : MethodName := ⟨RX3, "isDigit", "(I)Z"⟩
def RX4 : String := "RotaryExchange"
def TX4 : u_T := fun k => match k with
  | 0 => ("RotaryExchange", "exchange", "LRotaryExchange$Exchange;", true)
  | 1 => ("RotaryExchange", "trial", "LRotaryExchange$Exchange;", true)
  | 2 => ("RotaryExchange", "slots", "[LRotaryExchange$Exchange;", true)
  | _ => ("RotaryExchange", "pad", "LRotaryExchange$Pad;", true)
def tyX4 : Nat → FieldType := fun k => match k with
  | 0 => .object "RotaryExchange$Exchange"
  | 1 => .object "RotaryExchange$Exchange"
  | 2 => .array (.object "RotaryExchange$Exchange")
  | _ => .object "RotaryExchange$Pad"
abbrev wsX40 : List Cond := u_ws RX4 TX4 4
theorem nmX4 : ∀ a, a < 4 → ∀ b, b < 4 → a ≠ b → (TX4 a).2.1 ≠ (TX4 b).2.1 := by decide +kernel
theorem tyX4_ok : ∀ k, k < 4 → parseFieldDescriptor (TX4 k).2.2.1 = some (tyX4 k) := by decide +kernel
abbrev cX4_init : ByteArray := prog_1_method_1_code
def yX4_init : MethodName := ⟨RX4, "<init>", "()V"⟩
abbrev cX4_setUp : ByteArray := prog_1_method_2_code
def yX4_setUp : MethodName := ⟨RX4, "setUp", "(II)I"⟩
abbrev cX4_set : ByteArray := prog_1_method_3_code
def yX4_set : MethodName := ⟨RX4, "set", "(II)I"⟩
abbrev cX4_lift : ByteArray := prog_1_method_4_code
def yX4_lift : MethodName := ⟨RX4, "lift", "(I)I"⟩
abbrev cX4_hang : ByteArray := prog_1_method_5_code
def yX4_hang : MethodName := ⟨RX4, "hang", "(I)I"⟩
abbrev cX4_dial : ByteArray := prog_1_method_6_code
def yX4_dial : MethodName := ⟨RX4, "dial", "(II)I"⟩
abbrev cX4_tick : ByteArray := prog_1_method_7_code
def yX4_tick : MethodName := ⟨RX4, "tick", "(I)I"⟩
abbrev cX4_line : ByteArray := prog_1_method_8_code
def yX4_line : MethodName := ⟨RX4, "line", "(II)I"⟩
abbrev cX4_finder : ByteArray := prog_1_method_9_code
def yX4_finder : MethodName := ⟨RX4, "finder", "(II)I"⟩
abbrev cX4_connector : ByteArray := prog_1_method_10_code
def yX4_connector : MethodName := ⟨RX4, "connector", "(II)I"⟩
abbrev cX4_count : ByteArray := prog_1_method_11_code
def yX4_count : MethodName := ⟨RX4, "count", "(I)I"⟩
abbrev cX4_trace : ByteArray := prog_1_method_12_code
def yX4_trace : MethodName := ⟨RX4, "trace", "(II)I"⟩
abbrev cX4_until : ByteArray := prog_1_method_13_code
def yX4_until : MethodName := ⟨RX4, "until", "(III)I"⟩
abbrev cX4_attempt : ByteArray := prog_1_method_14_code
def yX4_attempt : MethodName := ⟨RX4, "attempt", "(III)I"⟩
abbrev cX4_put : ByteArray := prog_1_method_15_code
def yX4_put : MethodName := ⟨RX4, "put", "(J)I"⟩
abbrev cX4_wipe : ByteArray := prog_1_method_16_code
def yX4_wipe : MethodName := ⟨RX4, "wipe", "()I"⟩
abbrev cX4_fault : ByteArray := prog_1_method_17_code
def yX4_fault : MethodName := ⟨RX4, "fault", "()I"⟩
abbrev cX4_carryOut : ByteArray := prog_1_method_18_code
def yX4_carryOut : MethodName := ⟨RX4, "carryOut", "()I"⟩
abbrev cX4_save : ByteArray := prog_1_method_19_code
def yX4_save : MethodName := ⟨RX4, "save", "(I)I"⟩
abbrev cX4_restore : ByteArray := prog_1_method_20_code
def yX4_restore : MethodName := ⟨RX4, "restore", "(I)I"⟩
abbrev cX4_succeeds : ByteArray := prog_1_method_21_code
def yX4_succeeds : MethodName := ⟨RX4, "succeeds", "(I)Z"⟩
abbrev cX4_dialsAll : ByteArray := prog_1_method_22_code
def yX4_dialsAll : MethodName := ⟨RX4, "dialsAll", "(II)Z"⟩
abbrev cX4_isLine : ByteArray := prog_1_method_23_code
def yX4_isLine : MethodName := ⟨RX4, "isLine", "(I)Z"⟩
abbrev cX4_isWithin : ByteArray := prog_1_method_24_code
def yX4_isWithin : MethodName := ⟨RX4, "isWithin", "(III)Z"⟩
def RX5 : String := "RotaryExchangeModel"
def TX5 : u_T := fun k => match k with
  | 0 => ("RotaryExchangeModel", "at", "[I", true)
  | 1 => ("RotaryExchangeModel", "aside", "[I", true)
  | 2 => ("RotaryExchangeModel", "slots", "[I", true)
  | 3 => ("RotaryExchangeModel", "isSaved", "[Z", true)
  | 4 => ("RotaryExchangeModel", "pad", "[I", true)
  | 5 => ("RotaryExchangeModel", "padMany", "I", false)
  | 6 => ("RotaryExchangeModel", "spot", "I", false)
  | 7 => ("RotaryExchangeModel", "isWrong", "Z", false)
  | 8 => ("RotaryExchangeModel", "acts", "[I", true)
  | _ => ("RotaryExchangeModel", "actMany", "I", false)
def tyX5 : Nat → FieldType := fun k => match k with
  | 0 => .array .int
  | 1 => .array .int
  | 2 => .array .int
  | 3 => .array .boolean
  | 4 => .array .int
  | 5 => .int
  | 6 => .int
  | 7 => .boolean
  | 8 => .array .int
  | _ => .int
abbrev wsX50 : List Cond := u_ws RX5 TX5 10
theorem nmX5 : ∀ a, a < 10 → ∀ b, b < 10 → a ≠ b → (TX5 a).2.1 ≠ (TX5 b).2.1 := by decide +kernel
theorem tyX5_ok : ∀ k, k < 10 → parseFieldDescriptor (TX5 k).2.2.1 = some (tyX5 k) := by decide +kernel
abbrev cX5_init : ByteArray := prog_7_method_1_code
def yX5_init : MethodName := ⟨RX5, "<init>", "()V"⟩
abbrev cX5_in : ByteArray := prog_7_method_3_code
def yX5_in : MethodName := ⟨RX5, "in", "(III)Z"⟩
abbrev cX5_of : ByteArray := prog_7_method_4_code
def yX5_of : MethodName := ⟨RX5, "of", "(II)I"⟩
abbrev cX5_lay : ByteArray := prog_7_method_5_code
def yX5_lay : MethodName := ⟨RX5, "lay", "(III)V"⟩
abbrev cX5_ofFinder : ByteArray := prog_7_method_6_code
def yX5_ofFinder : MethodName := ⟨RX5, "ofFinder", "(II)I"⟩
abbrev cX5_layFinder : ByteArray := prog_7_method_7_code
def yX5_layFinder : MethodName := ⟨RX5, "layFinder", "(III)V"⟩
abbrev cX5_setting : ByteArray := prog_7_method_8_code
def yX5_setting : MethodName := ⟨RX5, "setting", "(I)I"⟩
abbrev cX5_countOne : ByteArray := prog_7_method_9_code
def yX5_countOne : MethodName := ⟨RX5, "countOne", "(I)V"⟩
abbrev cX5_begin : ByteArray := prog_7_method_10_code
def yX5_begin : MethodName := ⟨RX5, "begin", "(II)V"⟩
abbrev cX5_free : ByteArray := prog_7_method_11_code
def yX5_free : MethodName := ⟨RX5, "free", "(I)V"⟩
abbrev cX5_setUp : ByteArray := prog_7_method_12_code
def yX5_setUp : MethodName := ⟨RX5, "setUp", "(II)I"⟩
abbrev cX5_takes : ByteArray := prog_7_method_13_code
def yX5_takes : MethodName := ⟨RX5, "takes", "(II)Z"⟩
abbrev cX5_set : ByteArray := prog_7_method_14_code
def yX5_set : MethodName := ⟨RX5, "set", "(II)I"⟩
abbrev cX5_isLine : ByteArray := prog_7_method_15_code
def yX5_isLine : MethodName := ⟨RX5, "isLine", "(I)Z"⟩
abbrev cX5_isFinder : ByteArray := prog_7_method_16_code
def yX5_isFinder : MethodName := ⟨RX5, "isFinder", "(I)Z"⟩
abbrev cX5_finderOf : ByteArray := prog_7_method_17_code
def yX5_finderOf : MethodName := ⟨RX5, "finderOf", "(I)I"⟩
abbrev cX5_isHolding : ByteArray := prog_7_method_18_code
def yX5_isHolding : MethodName := ⟨RX5, "isHolding", "(I)Z"⟩
abbrev cX5_holder : ByteArray := prog_7_method_19_code
def yX5_holder : MethodName := ⟨RX5, "holder", "(II)I"⟩
abbrev cX5_finderTo : ByteArray := prog_7_method_20_code
def yX5_finderTo : MethodName := ⟨RX5, "finderTo", "(I)I"⟩
abbrev cX5_park : ByteArray := prog_7_method_21_code
def yX5_park : MethodName := ⟨RX5, "park", "(I)V"⟩
abbrev cX5_lift : ByteArray := prog_7_method_22_code
def yX5_lift : MethodName := ⟨RX5, "lift", "(I)I"⟩
abbrev cX5_dropCall : ByteArray := prog_7_method_23_code
def yX5_dropCall : MethodName := ⟨RX5, "dropCall", "(I)V"⟩
abbrev cX5_hang : ByteArray := prog_7_method_24_code
def yX5_hang : MethodName := ⟨RX5, "hang", "(I)I"⟩
abbrev cX5_dial : ByteArray := prog_7_method_25_code
def yX5_dial : MethodName := ⟨RX5, "dial", "(II)I"⟩
abbrev cX5_takeDigit : ByteArray := prog_7_method_26_code
def yX5_takeDigit : MethodName := ⟨RX5, "takeDigit", "(I)I"⟩
abbrev cX5_giveUp : ByteArray := prog_7_method_27_code
def yX5_giveUp : MethodName := ⟨RX5, "giveUp", "(I)V"⟩
abbrev cX5_sound : ByteArray := prog_7_method_28_code
def yX5_sound : MethodName := ⟨RX5, "sound", "(III)V"⟩
abbrev cX5_reaches : ByteArray := prog_7_method_29_code
def yX5_reaches : MethodName := ⟨RX5, "reaches", "(III)Z"⟩
abbrev cX5_seek : ByteArray := prog_7_method_30_code
def yX5_seek : MethodName := ⟨RX5, "seek", "(I)V"⟩
abbrev cX5_waitForDigit : ByteArray := prog_7_method_31_code
def yX5_waitForDigit : MethodName := ⟨RX5, "waitForDigit", "(I)V"⟩
abbrev cX5_rise : ByteArray := prog_7_method_32_code
def yX5_rise : MethodName := ⟨RX5, "rise", "(I)V"⟩
abbrev cX5_hunt : ByteArray := prog_7_method_33_code
def yX5_hunt : MethodName := ⟨RX5, "hunt", "(I)V"⟩
abbrev cX5_test : ByteArray := prog_7_method_34_code
def yX5_test : MethodName := ⟨RX5, "test", "(I)V"⟩
abbrev cX5_step : ByteArray := prog_7_method_35_code
def yX5_step : MethodName := ⟨RX5, "step", "(I)V"⟩
abbrev cX5_meter : ByteArray := prog_7_method_36_code
def yX5_meter : MethodName := ⟨RX5, "meter", "(I)V"⟩
abbrev cX5_ring : ByteArray := prog_7_method_37_code
def yX5_ring : MethodName := ⟨RX5, "ring", "(I)V"⟩
abbrev cX5_talk : ByteArray := prog_7_method_38_code
def yX5_talk : MethodName := ⟨RX5, "talk", "(I)V"⟩
abbrev cX5_soundOn : ByteArray := prog_7_method_39_code
def yX5_soundOn : MethodName := ⟨RX5, "soundOn", "(I)V"⟩
abbrev cX5_stepFinder : ByteArray := prog_7_method_40_code
def yX5_stepFinder : MethodName := ⟨RX5, "stepFinder", "(I)V"⟩
abbrev cX5_isQueued : ByteArray := prog_7_method_41_code
def yX5_isQueued : MethodName := ⟨RX5, "isQueued", "(I)Z"⟩
abbrev cX5_allot : ByteArray := prog_7_method_42_code
def yX5_allot : MethodName := ⟨RX5, "allot", "()V"⟩
abbrev cX5_makeTick : ByteArray := prog_7_method_43_code
def yX5_makeTick : MethodName := ⟨RX5, "makeTick", "()V"⟩
abbrev cX5_tick : ByteArray := prog_7_method_44_code
def yX5_tick : MethodName := ⟨RX5, "tick", "(I)I"⟩
abbrev cX5_pathOf : ByteArray := prog_7_method_45_code
def yX5_pathOf : MethodName := ⟨RX5, "pathOf", "(I)I"⟩
abbrev cX5_otherOf : ByteArray := prog_7_method_46_code
def yX5_otherOf : MethodName := ⟨RX5, "otherOf", "(I)I"⟩
abbrev cX5_placeOf : ByteArray := prog_7_method_47_code
def yX5_placeOf : MethodName := ⟨RX5, "placeOf", "(I)I"⟩
abbrev cX5_line : ByteArray := prog_7_method_48_code
def yX5_line : MethodName := ⟨RX5, "line", "(II)I"⟩
abbrev cX5_showsTimer : ByteArray := prog_7_method_49_code
def yX5_showsTimer : MethodName := ⟨RX5, "showsTimer", "(I)Z"⟩
abbrev cX5_finder : ByteArray := prog_7_method_50_code
def yX5_finder : MethodName := ⟨RX5, "finder", "(II)I"⟩
abbrev cX5_connector : ByteArray := prog_7_method_51_code
def yX5_connector : MethodName := ⟨RX5, "connector", "(II)I"⟩
abbrev cX5_finders : ByteArray := prog_7_method_52_code
def yX5_finders : MethodName := ⟨RX5, "finders", "(Z)I"⟩
abbrev cX5_sumOf : ByteArray := prog_7_method_53_code
def yX5_sumOf : MethodName := ⟨RX5, "sumOf", "(I)I"⟩
abbrev cX5_count : ByteArray := prog_7_method_54_code
def yX5_count : MethodName := ⟨RX5, "count", "(I)I"⟩
abbrev cX5_trace : ByteArray := prog_7_method_55_code
def yX5_trace : MethodName := ⟨RX5, "trace", "(II)I"⟩
abbrev cX5_putAside : ByteArray := prog_7_method_56_code
def yX5_putAside : MethodName := ⟨RX5, "putAside", "()V"⟩
abbrev cX5_putBack : ByteArray := prog_7_method_57_code
def yX5_putBack : MethodName := ⟨RX5, "putBack", "()V"⟩
abbrev cX5_until : ByteArray := prog_7_method_58_code
def yX5_until : MethodName := ⟨RX5, "until", "(III)I"⟩
abbrev cX5_isEnd : ByteArray := prog_7_method_59_code
def yX5_isEnd : MethodName := ⟨RX5, "isEnd", "(I)Z"⟩
abbrev cX5_attempt : ByteArray := prog_7_method_60_code
def yX5_attempt : MethodName := ⟨RX5, "attempt", "(III)I"⟩
abbrev cX5_put : ByteArray := prog_7_method_61_code
def yX5_put : MethodName := ⟨RX5, "put", "(J)I"⟩
abbrev cX5_wipe : ByteArray := prog_7_method_62_code
def yX5_wipe : MethodName := ⟨RX5, "wipe", "()I"⟩
abbrev cX5_next : ByteArray := prog_7_method_63_code
def yX5_next : MethodName := ⟨RX5, "next", "()I"⟩
abbrev cX5_lineBy : ByteArray := prog_7_method_64_code
def yX5_lineBy : MethodName := ⟨RX5, "lineBy", "(I)I"⟩
abbrev cX5_readLine : ByteArray := prog_7_method_65_code
def yX5_readLine : MethodName := ⟨RX5, "readLine", "()I"⟩
abbrev cX5_readNumber : ByteArray := prog_7_method_66_code
def yX5_readNumber : MethodName := ⟨RX5, "readNumber", "()I"⟩
abbrev cX5_readDigits : ByteArray := prog_7_method_67_code
def yX5_readDigits : MethodName := ⟨RX5, "readDigits", "(I)V"⟩
abbrev cX5_readAct : ByteArray := prog_7_method_68_code
def yX5_readAct : MethodName := ⟨RX5, "readAct", "()V"⟩
abbrev cX5_fault : ByteArray := prog_7_method_69_code
def yX5_fault : MethodName := ⟨RX5, "fault", "()I"⟩
abbrev cX5_dials : ByteArray := prog_7_method_70_code
def yX5_dials : MethodName := ⟨RX5, "dials", "(I)Z"⟩
abbrev cX5_does : ByteArray := prog_7_method_71_code
def yX5_does : MethodName := ⟨RX5, "does", "(I)Z"⟩
abbrev cX5_carryOut : ByteArray := prog_7_method_72_code
def yX5_carryOut : MethodName := ⟨RX5, "carryOut", "()I"⟩
abbrev cX5_save : ByteArray := prog_7_method_73_code
def yX5_save : MethodName := ⟨RX5, "save", "(I)I"⟩
abbrev cX5_restore : ByteArray := prog_7_method_74_code
def yX5_restore : MethodName := ⟨RX5, "restore", "(I)I"⟩
def RL : String := "RotaryExchangeLaw"
abbrev cL_law : ByteArray := code
def yL_law : MethodName := ⟨RL, "law", "([I)Z"⟩
abbrev vwCl : List vw_C := [(RX0, TX0, 16), (RX1, TX1, 10), (RX2, TX2, 9), (RX3, TX3, 2), (RX4, TX4, 4), (RX5, TX5, 10)]
def lw_gd : List Cond := lw_tbl.filter goodWord
theorem gd_in {w : Cond} (h : w ∈ lw_tbl) (hg : goodWord w = true) : w ∈ lw_gd := List.mem_filter.mpr ⟨h, hg⟩
theorem gd_good : ∀ w ∈ lw_gd, goodWord w = true := fun _ h => (List.mem_filter.mp h).2
theorem gd_tbl : ∀ w ∈ lw_gd, w ∈ lw_tbl := fun _ h => (List.mem_filter.mp h).1
set_option maxRecDepth 20000 in
theorem inX0 : ∀ w ∈ wsX00, w ∈ lw_gd := fun w h => gd_in ((by decide +kernel : ∀ w ∈ wsX00, w ∈ lw_tbl) w h) ((by decide +kernel : ∀ w ∈ wsX00, goodWord w = true) w h)
set_option maxRecDepth 20000 in
theorem inX1 : ∀ w ∈ wsX10, w ∈ lw_gd := fun w h => gd_in ((by decide +kernel : ∀ w ∈ wsX10, w ∈ lw_tbl) w h) ((by decide +kernel : ∀ w ∈ wsX10, goodWord w = true) w h)
set_option maxRecDepth 20000 in
theorem inX2 : ∀ w ∈ wsX20, w ∈ lw_gd := fun w h => gd_in ((by decide +kernel : ∀ w ∈ wsX20, w ∈ lw_tbl) w h) ((by decide +kernel : ∀ w ∈ wsX20, goodWord w = true) w h)
set_option maxRecDepth 20000 in
theorem inX3 : ∀ w ∈ wsX30, w ∈ lw_gd := fun w h => gd_in ((by decide +kernel : ∀ w ∈ wsX30, w ∈ lw_tbl) w h) ((by decide +kernel : ∀ w ∈ wsX30, goodWord w = true) w h)
set_option maxRecDepth 20000 in
theorem inX4 : ∀ w ∈ wsX40, w ∈ lw_gd := fun w h => gd_in ((by decide +kernel : ∀ w ∈ wsX40, w ∈ lw_tbl) w h) ((by decide +kernel : ∀ w ∈ wsX40, goodWord w = true) w h)
set_option maxRecDepth 20000 in
theorem inX5 : ∀ w ∈ wsX50, w ∈ lw_gd := fun w h => gd_in ((by decide +kernel : ∀ w ∈ wsX50, w ∈ lw_tbl) w h) ((by decide +kernel : ∀ w ∈ wsX50, goodWord w = true) w h)
