def wsX0_init : List Cond := .code yX0_init cX0_init 2 none :: lw_gd
def rmX0_init : Room := { frames := 2, cells := 25, slots := 228, locals := 44 }
def wsX0_lineAt : List Cond := .code yX0_lineAt cX0_lineAt 2 (some (.object "RotaryExchange$Line")) :: lw_gd
def rmX0_lineAt : Room := { frames := 0, cells := 0, slots := 0, locals := 0 }
def wsX0_finderAt : List Cond := .code yX0_finderAt cX0_finderAt 2 (some (.object "RotaryExchange$Finder")) :: lw_gd
def rmX0_finderAt : Room := { frames := 0, cells := 0, slots := 0, locals := 0 }
def wsX0_settingAt : List Cond := .code yX0_settingAt cX0_settingAt 2 (some .int) :: lw_gd
def rmX0_settingAt : Room := { frames := 0, cells := 0, slots := 0, locals := 0 }
def wsX0_changeSetting : List Cond := .code yX0_changeSetting cX0_changeSetting 4 (some .int) :: lw_gd
def rmX0_changeSetting : Room := { frames := 1, cells := 0, slots := 0, locals := 21 }
def wsX0_renew : List Cond := .code yX0_renew cX0_renew 4 none :: lw_gd
def rmX0_renew : Room := { frames := 3, cells := 0, slots := 0, locals := 61 }
def wsX0_copyFrom : List Cond := .code yX0_copyFrom cX0_copyFrom 3 none :: lw_gd
def rmX0_copyFrom : Room := { frames := 1, cells := 0, slots := 0, locals := 21 }
def wsX0_liftLine : List Cond := .code yX0_liftLine cX0_liftLine 3 (some .int) :: lw_gd
def rmX0_liftLine : Room := { frames := 1, cells := 0, slots := 0, locals := 21 }
def wsX0_hangLine : List Cond := .code yX0_hangLine cX0_hangLine 4 (some .int) :: lw_gd
def rmX0_hangLine : Room := { frames := 3, cells := 0, slots := 0, locals := 63 }
def wsX0_release : List Cond := .code yX0_release cX0_release 3 none :: lw_gd
def rmX0_release : Room := { frames := 2, cells := 0, slots := 0, locals := 41 }
def wsX0_dialDigit : List Cond := .code yX0_dialDigit cX0_dialDigit 4 (some .int) :: lw_gd
def rmX0_dialDigit : Room := { frames := 1, cells := 0, slots := 0, locals := 21 }
def wsX0_hasTimeFor : List Cond := .code yX0_hasTimeFor cX0_hasTimeFor 2 (some .boolean) :: lw_gd
def rmX0_hasTimeFor : Room := { frames := 0, cells := 0, slots := 0, locals := 0 }
def wsX0_pass : List Cond := .code yX0_pass cX0_pass 4 none :: lw_gd
def rmX0_pass : Room := { frames := 4, cells := 0, slots := 0, locals := 91 }
def wsX0_takeStep : List Cond := .code yX0_takeStep cX0_takeStep 3 none :: lw_gd
def rmX0_takeStep : Room := { frames := 3, cells := 0, slots := 0, locals := 69 }
def wsX0_seek : List Cond := .code yX0_seek cX0_seek 3 none :: lw_gd
def rmX0_seek : Room := { frames := 1, cells := 0, slots := 0, locals := 21 }
def wsX0_awaitDigit : List Cond := .code yX0_awaitDigit cX0_awaitDigit 4 none :: lw_gd
def rmX0_awaitDigit : Room := { frames := 2, cells := 0, slots := 0, locals := 41 }
def wsX0_rise : List Cond := .code yX0_rise cX0_rise 3 none :: lw_gd
def rmX0_rise : Room := { frames := 2, cells := 0, slots := 0, locals := 45 }
def wsX0_hunt : List Cond := .code yX0_hunt cX0_hunt 3 none :: lw_gd
def rmX0_hunt : Room := { frames := 2, cells := 0, slots := 0, locals := 45 }
def wsX0_stepOn : List Cond := .code yX0_stepOn cX0_stepOn 5 none :: lw_gd
def rmX0_stepOn : Room := { frames := 2, cells := 0, slots := 0, locals := 45 }
def wsX0_ringOn : List Cond := .code yX0_ringOn cX0_ringOn 4 none :: lw_gd
def rmX0_ringOn : Room := { frames := 2, cells := 0, slots := 0, locals := 45 }
def wsX0_talkOn : List Cond := .code yX0_talkOn cX0_talkOn 5 none :: lw_gd
def rmX0_talkOn : Room := { frames := 2, cells := 0, slots := 0, locals := 41 }
def wsX0_soundOn : List Cond := .code yX0_soundOn cX0_soundOn 3 none :: lw_gd
def rmX0_soundOn : Room := { frames := 2, cells := 0, slots := 0, locals := 41 }
def wsX0_sound : List Cond := .code yX0_sound cX0_sound 5 none :: lw_gd
def rmX0_sound : Room := { frames := 1, cells := 0, slots := 0, locals := 21 }
def wsX0_allotFinder : List Cond := .code yX0_allotFinder cX0_allotFinder 4 none :: lw_gd
def rmX0_allotFinder : Room := { frames := 2, cells := 0, slots := 0, locals := 44 }
def wsX0_countParked : List Cond := .code yX0_countParked cX0_countParked 3 none :: lw_gd
def rmX0_countParked : Room := { frames := 1, cells := 0, slots := 0, locals := 21 }
def wsX0_nextFreeFinder : List Cond := .code yX0_nextFreeFinder cX0_nextFreeFinder 3 (some .int) :: lw_gd
def rmX0_nextFreeFinder : Room := { frames := 1, cells := 0, slots := 0, locals := 21 }
def wsX0_firstWaitingLine : List Cond := .code yX0_firstWaitingLine cX0_firstWaitingLine 4 (some .int) :: lw_gd
def rmX0_firstWaitingLine : Room := { frames := 1, cells := 0, slots := 0, locals := 21 }
def wsX0_holderOf : List Cond := .code yX0_holderOf cX0_holderOf 5 (some .int) :: lw_gd
def rmX0_holderOf : Room := { frames := 1, cells := 0, slots := 0, locals := 21 }
def wsX0_ticksUntil : List Cond := .code yX0_ticksUntil cX0_ticksUntil 5 (some .int) :: lw_gd
def rmX0_ticksUntil : Room := { frames := 5, cells := 0, slots := 0, locals := 114 }
def wsX0_tryCall : List Cond := .code yX0_tryCall cX0_tryCall 5 (some .int) :: lw_gd
def rmX0_tryCall : Room := { frames := 5, cells := 0, slots := 0, locals := 114 }
def wsX0_endsTrial : List Cond := .code yX0_endsTrial cX0_endsTrial 1 (some .boolean) :: lw_gd
def rmX0_endsTrial : Room := { frames := 0, cells := 0, slots := 0, locals := 0 }
def wsX0_numberOfLine : List Cond := .code yX0_numberOfLine cX0_numberOfLine 4 (some .int) :: lw_gd
def rmX0_numberOfLine : Room := { frames := 2, cells := 0, slots := 0, locals := 44 }
def wsX0_partnerOf : List Cond := .code yX0_partnerOf cX0_partnerOf 3 (some .int) :: lw_gd
def rmX0_partnerOf : Room := { frames := 1, cells := 0, slots := 0, locals := 21 }
def wsX0_placeOf : List Cond := .code yX0_placeOf cX0_placeOf 4 (some .int) :: lw_gd
def rmX0_placeOf : Room := { frames := 1, cells := 0, slots := 0, locals := 21 }
def wsX0_traceFrom : List Cond := .code yX0_traceFrom cX0_traceFrom 5 (some .int) :: lw_gd
def rmX0_traceFrom : Room := { frames := 1, cells := 0, slots := 0, locals := 21 }
def wsX0_numberFor : List Cond := .code yX0_numberFor cX0_numberFor 2 (some .int) :: lw_gd
def rmX0_numberFor : Room := { frames := 2, cells := 0, slots := 0, locals := 43 }
def wsX0_freeFinders : List Cond := .code yX0_freeFinders cX0_freeFinders 3 (some .int) :: lw_gd
def rmX0_freeFinders : Room := { frames := 1, cells := 0, slots := 0, locals := 21 }
def wsX0_freeConnectors : List Cond := .code yX0_freeConnectors cX0_freeConnectors 3 (some .int) :: lw_gd
def rmX0_freeConnectors : Room := { frames := 1, cells := 0, slots := 0, locals := 21 }
def wsX0_sumOfMeters : List Cond := .code yX0_sumOfMeters cX0_sumOfMeters 3 (some .int) :: lw_gd
def rmX0_sumOfMeters : Room := { frames := 1, cells := 0, slots := 0, locals := 21 }
def wsX0_liftedLines : List Cond := .code yX0_liftedLines cX0_liftedLines 3 (some .int) :: lw_gd
def rmX0_liftedLines : Room := { frames := 1, cells := 0, slots := 0, locals := 21 }
def wsX1_init : List Cond := .code yX1_init cX1_init 1 none :: lw_gd
def rmX1_init : Room := { frames := 1, cells := 0, slots := 0, locals := 24 }
def wsX1_renew : List Cond := .code yX1_renew cX1_renew 1 none :: lw_gd
def rmX1_renew : Room := { frames := 2, cells := 0, slots := 0, locals := 41 }
def wsX1_copyFrom : List Cond := .code yX1_copyFrom cX1_copyFrom 2 none :: lw_gd
def rmX1_copyFrom : Room := { frames := 0, cells := 0, slots := 0, locals := 0 }
def wsX1_become : List Cond := .code yX1_become cX1_become 2 none :: lw_gd
def rmX1_become : Room := { frames := 0, cells := 0, slots := 0, locals := 0 }
def wsX1_becomeFree : List Cond := .code yX1_becomeFree cX1_becomeFree 1 none :: lw_gd
def rmX1_becomeFree : Room := { frames := 1, cells := 0, slots := 0, locals := 21 }
def wsX1_holdsConnector : List Cond := .code yX1_holdsConnector cX1_holdsConnector 1 (some .boolean) :: lw_gd
def rmX1_holdsConnector : Room := { frames := 0, cells := 0, slots := 0, locals := 0 }
def wsX1_numberFor : List Cond := .code yX1_numberFor cX1_numberFor 2 (some .int) :: lw_gd
def rmX1_numberFor : Room := { frames := 0, cells := 0, slots := 0, locals := 0 }
def wsX2_init : List Cond := .code yX2_init cX2_init 1 none :: lw_gd
def rmX2_init : Room := { frames := 1, cells := 0, slots := 0, locals := 24 }
def wsX2_renew : List Cond := .code yX2_renew cX2_renew 1 none :: lw_gd
def rmX2_renew : Room := { frames := 1, cells := 0, slots := 0, locals := 21 }
def wsX2_copyFrom : List Cond := .code yX2_copyFrom cX2_copyFrom 2 none :: lw_gd
def rmX2_copyFrom : Room := { frames := 0, cells := 0, slots := 0, locals := 0 }
def wsX2_waitsUnsought : List Cond := .code yX2_waitsUnsought cX2_waitsUnsought 1 (some .boolean) :: lw_gd
def rmX2_waitsUnsought : Room := { frames := 0, cells := 0, slots := 0, locals := 0 }
def wsX2_isCalledByAnother : List Cond := .code yX2_isCalledByAnother cX2_isCalledByAnother 1 (some .boolean) :: lw_gd
def rmX2_isCalledByAnother : Room := { frames := 0, cells := 0, slots := 0, locals := 0 }
def wsX2_callsAnother : List Cond := .code yX2_callsAnother cX2_callsAnother 1 (some .boolean) :: lw_gd
def rmX2_callsAnother : Room := { frames := 0, cells := 0, slots := 0, locals := 0 }
def wsX2_appendDigit : List Cond := .code yX2_appendDigit cX2_appendDigit 2 none :: lw_gd
def rmX2_appendDigit : Room := { frames := 0, cells := 0, slots := 0, locals := 0 }
def wsX2_takePulses : List Cond := .code yX2_takePulses cX2_takePulses 2 (some .int) :: lw_gd
def rmX2_takePulses : Room := { frames := 0, cells := 0, slots := 0, locals := 0 }
def wsX2_leaveCall : List Cond := .code yX2_leaveCall cX2_leaveCall 2 none :: lw_gd
def rmX2_leaveCall : Room := { frames := 0, cells := 0, slots := 0, locals := 0 }
def wsX2_waitParked : List Cond := .code yX2_waitParked cX2_waitParked 2 none :: lw_gd
def rmX2_waitParked : Room := { frames := 0, cells := 0, slots := 0, locals := 0 }
def wsX3_init : List Cond := .code yX3_init cX3_init 1 none :: lw_gd
def rmX3_init : Room := { frames := 1, cells := 1, slots := 60, locals := 24 }
def wsX3_codeAt : List Cond := .code yX3_codeAt cX3_codeAt 2 (some .int) :: lw_gd
def rmX3_codeAt : Room := { frames := 0, cells := 0, slots := 0, locals := 0 }
def wsX3_append : List Cond := .code yX3_append cX3_append 5 (some .int) :: lw_gd
def rmX3_append : Room := { frames := 2, cells := 0, slots := 0, locals := 47 }
def wsX3_appendCode : List Cond := .code yX3_appendCode cX3_appendCode 2 none :: lw_gd
def rmX3_appendCode : Room := { frames := 0, cells := 0, slots := 0, locals := 0 }
def wsX3_countOf : List Cond := .code yX3_countOf cX3_countOf 6 (some .int) :: lw_gd
def rmX3_countOf : Room := { frames := 1, cells := 0, slots := 0, locals := 22 }
def wsX3_firstFault : List Cond := .code yX3_firstFault cX3_firstFault 5 (some .int) :: lw_gd
def rmX3_firstFault : Room := { frames := 4, cells := 0, slots := 0, locals := 84 }
def wsX3_awaitedBehind : List Cond := .code yX3_awaitedBehind cX3_awaitedBehind 3 (some .int) :: lw_gd
def rmX3_awaitedBehind : Room := { frames := 3, cells := 0, slots := 0, locals := 62 }
def wsX3_awaitedBehindLetter : List Cond := .code yX3_awaitedBehindLetter cX3_awaitedBehindLetter 1 (some .int) :: lw_gd
def rmX3_awaitedBehindLetter : Room := { frames := 0, cells := 0, slots := 0, locals := 0 }
def wsX3_awaitedBehindComma : List Cond := .code yX3_awaitedBehindComma cX3_awaitedBehindComma 1 (some .int) :: lw_gd
def rmX3_awaitedBehindComma : Room := { frames := 0, cells := 0, slots := 0, locals := 0 }
def wsX3_beginsAnAct : List Cond := .code yX3_beginsAnAct cX3_beginsAnAct 2 (some .boolean) :: lw_gd
def rmX3_beginsAnAct : Room := { frames := 1, cells := 0, slots := 0, locals := 21 }
def wsX3_lineAt : List Cond := .code yX3_lineAt cX3_lineAt 2 (some .int) :: lw_gd
def rmX3_lineAt : Room := { frames := 3, cells := 0, slots := 0, locals := 62 }
def wsX3_lineOf : List Cond := .code yX3_lineOf cX3_lineOf 1 (some .int) :: lw_gd
def rmX3_lineOf : Room := { frames := 2, cells := 0, slots := 0, locals := 42 }
def wsX3_numberAt : List Cond := .code yX3_numberAt cX3_numberAt 4 (some .int) :: lw_gd
def rmX3_numberAt : Room := { frames := 2, cells := 0, slots := 0, locals := 42 }
def wsX3_isDigit : List Cond := .code yX3_isDigit cX3_isDigit 1 (some .boolean) :: lw_gd
def rmX3_isDigit : Room := { frames := 1, cells := 0, slots := 0, locals := 22 }
def wsX4_init : List Cond := .code yX4_init cX4_init 1 none :: lw_gd
def rmX4_init : Room := { frames := 3, cells := 55, slots := 552, locals := 65 }
def wsX4_setUp : List Cond := .code yX4_setUp cX4_setUp 4 (some .int) :: lw_gd
def rmX4_setUp : Room := { frames := 4, cells := 0, slots := 0, locals := 84 }
def wsX4_set : List Cond := .code yX4_set cX4_set 3 (some .int) :: lw_gd
def rmX4_set : Room := { frames := 2, cells := 0, slots := 0, locals := 44 }
def wsX4_lift : List Cond := .code yX4_lift cX4_lift 2 (some .int) :: lw_gd
def rmX4_lift : Room := { frames := 2, cells := 0, slots := 0, locals := 43 }
def wsX4_hang : List Cond := .code yX4_hang cX4_hang 2 (some .int) :: lw_gd
def rmX4_hang : Room := { frames := 4, cells := 0, slots := 0, locals := 86 }
def wsX4_dial : List Cond := .code yX4_dial cX4_dial 3 (some .int) :: lw_gd
def rmX4_dial : Room := { frames := 2, cells := 0, slots := 0, locals := 44 }
def wsX4_tick : List Cond := .code yX4_tick cX4_tick 2 (some .int) :: lw_gd
def rmX4_tick : Room := { frames := 5, cells := 0, slots := 0, locals := 114 }
def wsX4_line : List Cond := .code yX4_line cX4_line 3 (some .int) :: lw_gd
def rmX4_line : Room := { frames := 3, cells := 0, slots := 0, locals := 67 }
def wsX4_finder : List Cond := .code yX4_finder cX4_finder 3 (some .int) :: lw_gd
def rmX4_finder : Room := { frames := 1, cells := 0, slots := 0, locals := 22 }
def wsX4_connector : List Cond := .code yX4_connector cX4_connector 3 (some .int) :: lw_gd
def rmX4_connector : Room := { frames := 2, cells := 0, slots := 0, locals := 45 }
def wsX4_count : List Cond := .code yX4_count cX4_count 2 (some .int) :: lw_gd
def rmX4_count : Room := { frames := 3, cells := 0, slots := 0, locals := 64 }
def wsX4_trace : List Cond := .code yX4_trace cX4_trace 3 (some .int) :: lw_gd
def rmX4_trace : Room := { frames := 2, cells := 0, slots := 0, locals := 45 }
def wsX4_until : List Cond := .code yX4_until cX4_until 4 (some .int) :: lw_gd
def rmX4_until : Room := { frames := 6, cells := 0, slots := 0, locals := 138 }
def wsX4_attempt : List Cond := .code yX4_attempt cX4_attempt 5 (some .int) :: lw_gd
def rmX4_attempt : Room := { frames := 6, cells := 0, slots := 0, locals := 138 }
def wsX4_put : List Cond := .code yX4_put cX4_put 3 (some .int) :: lw_gd
def rmX4_put : Room := { frames := 3, cells := 0, slots := 0, locals := 71 }
def wsX4_wipe : List Cond := .code yX4_wipe cX4_wipe 2 (some .int) :: lw_gd
def rmX4_wipe : Room := { frames := 0, cells := 0, slots := 0, locals := 0 }
def wsX4_fault : List Cond := .code yX4_fault cX4_fault 1 (some .int) :: lw_gd
def rmX4_fault : Room := { frames := 5, cells := 0, slots := 0, locals := 108 }
def wsX4_carryOut : List Cond := .code yX4_carryOut cX4_carryOut 3 (some .int) :: lw_gd
def rmX4_carryOut : Room := { frames := 6, cells := 0, slots := 0, locals := 137 }
def wsX4_save : List Cond := .code yX4_save cX4_save 3 (some .int) :: lw_gd
def rmX4_save : Room := { frames := 3, cells := 26, slots := 244, locals := 65 }
def wsX4_restore : List Cond := .code yX4_restore cX4_restore 3 (some .int) :: lw_gd
def rmX4_restore : Room := { frames := 2, cells := 0, slots := 0, locals := 43 }
def wsX4_succeeds : List Cond := .code yX4_succeeds cX4_succeeds 4 (some .boolean) :: lw_gd
def rmX4_succeeds : Room := { frames := 5, cells := 0, slots := 0, locals := 114 }
def wsX4_dialsAll : List Cond := .code yX4_dialsAll cX4_dialsAll 4 (some .boolean) :: lw_gd
def rmX4_dialsAll : Room := { frames := 2, cells := 0, slots := 0, locals := 44 }
def wsX4_isLine : List Cond := .code yX4_isLine cX4_isLine 1 (some .boolean) :: lw_gd
def rmX4_isLine : Room := { frames := 1, cells := 0, slots := 0, locals := 22 }
def wsX4_isWithin : List Cond := .code yX4_isWithin cX4_isWithin 3 (some .boolean) :: lw_gd
def rmX4_isWithin : Room := { frames := 0, cells := 0, slots := 0, locals := 0 }
def wsX5_init : List Cond := .code yX5_init cX5_init 1 none :: lw_gd
def rmX5_init : Room := { frames := 3, cells := 6, slots := 1122, locals := 69 }
def wsX5_in : List Cond := .code yX5_in cX5_in 3 (some .boolean) :: lw_gd
def rmX5_in : Room := { frames := 0, cells := 0, slots := 0, locals := 0 }
def wsX5_of : List Cond := .code yX5_of cX5_of 3 (some .int) :: lw_gd
def rmX5_of : Room := { frames := 0, cells := 0, slots := 0, locals := 0 }
def wsX5_lay : List Cond := .code yX5_lay cX5_lay 4 none :: lw_gd
def rmX5_lay : Room := { frames := 0, cells := 0, slots := 0, locals := 0 }
def wsX5_ofFinder : List Cond := .code yX5_ofFinder cX5_ofFinder 3 (some .int) :: lw_gd
def rmX5_ofFinder : Room := { frames := 0, cells := 0, slots := 0, locals := 0 }
def wsX5_layFinder : List Cond := .code yX5_layFinder cX5_layFinder 4 none :: lw_gd
def rmX5_layFinder : Room := { frames := 0, cells := 0, slots := 0, locals := 0 }
def wsX5_setting : List Cond := .code yX5_setting cX5_setting 2 (some .int) :: lw_gd
def rmX5_setting : Room := { frames := 0, cells := 0, slots := 0, locals := 0 }
def wsX5_countOne : List Cond := .code yX5_countOne cX5_countOne 2 none :: lw_gd
def rmX5_countOne : Room := { frames := 0, cells := 0, slots := 0, locals := 0 }
def wsX5_begin : List Cond := .code yX5_begin cX5_begin 4 none :: lw_gd
def rmX5_begin : Room := { frames := 2, cells := 0, slots := 0, locals := 46 }
def wsX5_free : List Cond := .code yX5_free cX5_free 4 none :: lw_gd
def rmX5_free : Room := { frames := 1, cells := 0, slots := 0, locals := 23 }
def wsX5_setUp : List Cond := .code yX5_setUp cX5_setUp 4 (some .int) :: lw_gd
def rmX5_setUp : Room := { frames := 3, cells := 0, slots := 0, locals := 69 }
def wsX5_takes : List Cond := .code yX5_takes cX5_takes 2 (some .boolean) :: lw_gd
def rmX5_takes : Room := { frames := 1, cells := 0, slots := 0, locals := 22 }
def wsX5_set : List Cond := .code yX5_set cX5_set 4 (some .int) :: lw_gd
def rmX5_set : Room := { frames := 2, cells := 0, slots := 0, locals := 43 }
def wsX5_isLine : List Cond := .code yX5_isLine cX5_isLine 1 (some .boolean) :: lw_gd
def rmX5_isLine : Room := { frames := 1, cells := 0, slots := 0, locals := 22 }
def wsX5_isFinder : List Cond := .code yX5_isFinder cX5_isFinder 2 (some .boolean) :: lw_gd
def rmX5_isFinder : Room := { frames := 1, cells := 0, slots := 0, locals := 22 }
def wsX5_finderOf : List Cond := .code yX5_finderOf cX5_finderOf 3 (some .int) :: lw_gd
def rmX5_finderOf : Room := { frames := 1, cells := 0, slots := 0, locals := 22 }
def wsX5_isHolding : List Cond := .code yX5_isHolding cX5_isHolding 2 (some .boolean) :: lw_gd
def rmX5_isHolding : Room := { frames := 1, cells := 0, slots := 0, locals := 22 }
def wsX5_holder : List Cond := .code yX5_holder cX5_holder 4 (some .int) :: lw_gd
def rmX5_holder : Room := { frames := 2, cells := 0, slots := 0, locals := 43 }
def wsX5_finderTo : List Cond := .code yX5_finderTo cX5_finderTo 3 (some .int) :: lw_gd
def rmX5_finderTo : Room := { frames := 1, cells := 0, slots := 0, locals := 22 }
def wsX5_park : List Cond := .code yX5_park cX5_park 2 none :: lw_gd
def rmX5_park : Room := { frames := 1, cells := 0, slots := 0, locals := 23 }
def wsX5_lift : List Cond := .code yX5_lift cX5_lift 2 (some .int) :: lw_gd
def rmX5_lift : Room := { frames := 2, cells := 0, slots := 0, locals := 42 }
def wsX5_dropCall : List Cond := .code yX5_dropCall cX5_dropCall 4 none :: lw_gd
def rmX5_dropCall : Room := { frames := 2, cells := 0, slots := 0, locals := 46 }
def wsX5_hang : List Cond := .code yX5_hang cX5_hang 3 (some .int) :: lw_gd
def rmX5_hang : Room := { frames := 3, cells := 0, slots := 0, locals := 69 }
def wsX5_dial : List Cond := .code yX5_dial cX5_dial 4 (some .int) :: lw_gd
def rmX5_dial : Room := { frames := 2, cells := 0, slots := 0, locals := 42 }
def wsX5_takeDigit : List Cond := .code yX5_takeDigit cX5_takeDigit 5 (some .int) :: lw_gd
def rmX5_takeDigit : Room := { frames := 1, cells := 0, slots := 0, locals := 23 }
def wsX5_giveUp : List Cond := .code yX5_giveUp cX5_giveUp 3 none :: lw_gd
def rmX5_giveUp : Room := { frames := 2, cells := 0, slots := 0, locals := 46 }
def wsX5_sound : List Cond := .code yX5_sound cX5_sound 5 none :: lw_gd
def rmX5_sound : Room := { frames := 1, cells := 0, slots := 0, locals := 23 }
def wsX5_reaches : List Cond := .code yX5_reaches cX5_reaches 4 (some .boolean) :: lw_gd
def rmX5_reaches : Room := { frames := 1, cells := 0, slots := 0, locals := 23 }
def wsX5_seek : List Cond := .code yX5_seek cX5_seek 3 none :: lw_gd
def rmX5_seek : Room := { frames := 1, cells := 0, slots := 0, locals := 23 }
def wsX5_waitForDigit : List Cond := .code yX5_waitForDigit cX5_waitForDigit 4 none :: lw_gd
def rmX5_waitForDigit : Room := { frames := 3, cells := 0, slots := 0, locals := 68 }
def wsX5_rise : List Cond := .code yX5_rise cX5_rise 2 none :: lw_gd
def rmX5_rise : Room := { frames := 2, cells := 0, slots := 0, locals := 47 }
def wsX5_hunt : List Cond := .code yX5_hunt cX5_hunt 3 none :: lw_gd
def rmX5_hunt : Room := { frames := 3, cells := 0, slots := 0, locals := 66 }
def wsX5_test : List Cond := .code yX5_test cX5_test 3 none :: lw_gd
def rmX5_test : Room := { frames := 2, cells := 0, slots := 0, locals := 47 }
def wsX5_step : List Cond := .code yX5_step cX5_step 2 none :: lw_gd
def rmX5_step : Room := { frames := 3, cells := 0, slots := 0, locals := 69 }
def wsX5_meter : List Cond := .code yX5_meter cX5_meter 2 none :: lw_gd
def rmX5_meter : Room := { frames := 1, cells := 0, slots := 0, locals := 23 }
def wsX5_ring : List Cond := .code yX5_ring cX5_ring 4 none :: lw_gd
def rmX5_ring : Room := { frames := 2, cells := 0, slots := 0, locals := 47 }
def wsX5_talk : List Cond := .code yX5_talk cX5_talk 4 none :: lw_gd
def rmX5_talk : Room := { frames := 2, cells := 0, slots := 0, locals := 46 }
def wsX5_soundOn : List Cond := .code yX5_soundOn cX5_soundOn 3 none :: lw_gd
def rmX5_soundOn : Room := { frames := 2, cells := 0, slots := 0, locals := 46 }
def wsX5_stepFinder : List Cond := .code yX5_stepFinder cX5_stepFinder 2 none :: lw_gd
def rmX5_stepFinder : Room := { frames := 4, cells := 0, slots := 0, locals := 91 }
def wsX5_isQueued : List Cond := .code yX5_isQueued cX5_isQueued 2 (some .boolean) :: lw_gd
def rmX5_isQueued : Room := { frames := 2, cells := 0, slots := 0, locals := 44 }
def wsX5_allot : List Cond := .code yX5_allot cX5_allot 6 none :: lw_gd
def rmX5_allot : Room := { frames := 3, cells := 0, slots := 0, locals := 65 }
def wsX5_makeTick : List Cond := .code yX5_makeTick cX5_makeTick 2 none :: lw_gd
def rmX5_makeTick : Room := { frames := 5, cells := 0, slots := 0, locals := 112 }
def wsX5_tick : List Cond := .code yX5_tick cX5_tick 3 (some .int) :: lw_gd
def rmX5_tick : Room := { frames := 6, cells := 0, slots := 0, locals := 133 }
def wsX5_pathOf : List Cond := .code yX5_pathOf cX5_pathOf 2 (some .int) :: lw_gd
def rmX5_pathOf : Room := { frames := 2, cells := 0, slots := 0, locals := 44 }
def wsX5_otherOf : List Cond := .code yX5_otherOf cX5_otherOf 3 (some .int) :: lw_gd
def rmX5_otherOf : Room := { frames := 2, cells := 0, slots := 0, locals := 44 }
def wsX5_placeOf : List Cond := .code yX5_placeOf cX5_placeOf 4 (some .int) :: lw_gd
def rmX5_placeOf : Room := { frames := 3, cells := 0, slots := 0, locals := 65 }
def wsX5_line : List Cond := .code yX5_line cX5_line 3 (some .int) :: lw_gd
def rmX5_line : Room := { frames := 4, cells := 0, slots := 0, locals := 88 }
def wsX5_showsTimer : List Cond := .code yX5_showsTimer cX5_showsTimer 2 (some .boolean) :: lw_gd
def rmX5_showsTimer : Room := { frames := 1, cells := 0, slots := 0, locals := 22 }
def wsX5_finder : List Cond := .code yX5_finder cX5_finder 4 (some .int) :: lw_gd
def rmX5_finder : Room := { frames := 2, cells := 0, slots := 0, locals := 43 }
def wsX5_connector : List Cond := .code yX5_connector cX5_connector 3 (some .int) :: lw_gd
def rmX5_connector : Room := { frames := 3, cells := 0, slots := 0, locals := 66 }
def wsX5_finders : List Cond := .code yX5_finders cX5_finders 4 (some .int) :: lw_gd
def rmX5_finders : Room := { frames := 2, cells := 0, slots := 0, locals := 43 }
def wsX5_sumOf : List Cond := .code yX5_sumOf cX5_sumOf 4 (some .int) :: lw_gd
def rmX5_sumOf : Room := { frames := 1, cells := 0, slots := 0, locals := 22 }
def wsX5_count : List Cond := .code yX5_count cX5_count 2 (some .int) :: lw_gd
def rmX5_count : Room := { frames := 3, cells := 0, slots := 0, locals := 66 }
def wsX5_trace : List Cond := .code yX5_trace cX5_trace 5 (some .int) :: lw_gd
def rmX5_trace : Room := { frames := 2, cells := 0, slots := 0, locals := 44 }
def wsX5_putAside : List Cond := .code yX5_putAside cX5_putAside 2 none :: lw_gd
def rmX5_putAside : Room := { frames := 0, cells := 0, slots := 0, locals := 0 }
def wsX5_putBack : List Cond := .code yX5_putBack cX5_putBack 2 none :: lw_gd
def rmX5_putBack : Room := { frames := 0, cells := 0, slots := 0, locals := 0 }
def wsX5_until : List Cond := .code yX5_until cX5_until 6 (some .int) :: lw_gd
def rmX5_until : Room := { frames := 6, cells := 0, slots := 0, locals := 133 }
def wsX5_isEnd : List Cond := .code yX5_isEnd cX5_isEnd 1 (some .boolean) :: lw_gd
def rmX5_isEnd : Room := { frames := 1, cells := 0, slots := 0, locals := 22 }
def wsX5_attempt : List Cond := .code yX5_attempt cX5_attempt 7 (some .int) :: lw_gd
def rmX5_attempt : Room := { frames := 6, cells := 0, slots := 0, locals := 133 }
def wsX5_put : List Cond := .code yX5_put cX5_put 7 (some .int) :: lw_gd
def rmX5_put : Room := { frames := 1, cells := 0, slots := 0, locals := 22 }
def wsX5_wipe : List Cond := .code yX5_wipe cX5_wipe 2 (some .int) :: lw_gd
def rmX5_wipe : Room := { frames := 0, cells := 0, slots := 0, locals := 0 }
def wsX5_next : List Cond := .code yX5_next cX5_next 1 (some .int) :: lw_gd
def rmX5_next : Room := { frames := 0, cells := 0, slots := 0, locals := 0 }
def wsX5_lineBy : List Cond := .code yX5_lineBy cX5_lineBy 1 (some .int) :: lw_gd
def rmX5_lineBy : Room := { frames := 1, cells := 0, slots := 0, locals := 22 }
def wsX5_readLine : List Cond := .code yX5_readLine cX5_readLine 2 (some .int) :: lw_gd
def rmX5_readLine : Room := { frames := 2, cells := 0, slots := 0, locals := 42 }
def wsX5_readNumber : List Cond := .code yX5_readNumber cX5_readNumber 2 (some .int) :: lw_gd
def rmX5_readNumber : Room := { frames := 1, cells := 0, slots := 0, locals := 22 }
def wsX5_readDigits : List Cond := .code yX5_readDigits cX5_readDigits 2 none :: lw_gd
def rmX5_readDigits : Room := { frames := 1, cells := 0, slots := 0, locals := 22 }
def wsX5_readAct : List Cond := .code yX5_readAct cX5_readAct 3 none :: lw_gd
def rmX5_readAct : Room := { frames := 3, cells := 0, slots := 0, locals := 63 }
def wsX5_fault : List Cond := .code yX5_fault cX5_fault 1 (some .int) :: lw_gd
def rmX5_fault : Room := { frames := 4, cells := 0, slots := 0, locals := 85 }
def wsX5_dials : List Cond := .code yX5_dials cX5_dials 4 (some .boolean) :: lw_gd
def rmX5_dials : Room := { frames := 3, cells := 0, slots := 0, locals := 65 }
def wsX5_does : List Cond := .code yX5_does cX5_does 2 (some .boolean) :: lw_gd
def rmX5_does : Room := { frames := 7, cells := 0, slots := 0, locals := 155 }
def wsX5_carryOut : List Cond := .code yX5_carryOut cX5_carryOut 2 (some .int) :: lw_gd
def rmX5_carryOut : Room := { frames := 8, cells := 0, slots := 0, locals := 176 }
def wsX5_save : List Cond := .code yX5_save cX5_save 3 (some .int) :: lw_gd
def rmX5_save : Room := { frames := 1, cells := 0, slots := 0, locals := 22 }
def wsX5_restore : List Cond := .code yX5_restore cX5_restore 3 (some .int) :: lw_gd
def rmX5_restore : Room := { frames := 1, cells := 0, slots := 0, locals := 22 }
section FR
variable {p : Program} {l : Launch} {e : Env} {R : Room} {s : State} {m : MethodId} {args : Array Value} {below : List Frame} {meth : Method} {c : Code} {H : Heap} {locs : List Loc} {cells slots : Nat} {Q : State → Prop}
variable {cc : ByteArray} {pc : Nat} {ls : Array Slot} {rest : List Value} {g : GG} {lay : LY} {E E1 : ES} {H0 : Heap} {a o : Nat} {L : CS}
theorem g_X0_11 (hx : p.tables.exec = Jvm.exec) (hb : c.code = cc) (hown : s.vm.findClass RX0 = some m.cls) (hts : ∀ w ∈ lw_gd, w.before args s = true) (hK : KK g s) (hW : Wd g lay E H) (hla : lay a = some (exE o)) (hL : E a = L) (hdg : decode cc pc = .ok (.getfield 11, 3)) (kk : W p l e R s m args below meth c H locs cells slots Q (F0 m (pc + 3) ls (.ref (o + 1) :: rest))) : W p l e R s m args below meth c H locs cells slots Q (F0 m pc ls (.ref a :: rest)) :=
  w_get (C := RX0) (T := TX0) (N := 16) (ci := 0) (j := 0) hx hb hown hts hK hW hla hL rfl rfl rfl (by decide) inX0 wd_195 rfl hdg kk
theorem g_X0_19 (hx : p.tables.exec = Jvm.exec) (hb : c.code = cc) (hown : s.vm.findClass RX0 = some m.cls) (hts : ∀ w ∈ lw_gd, w.before args s = true) (hK : KK g s) (hW : Wd g lay E H) (hla : lay a = some (exE o)) (hL : E a = L) (hdg : decode cc pc = .ok (.getfield 19, 3)) (kk : W p l e R s m args below meth c H locs cells slots Q (F0 m (pc + 3) ls (.ref (o + 2) :: rest))) : W p l e R s m args below meth c H locs cells slots Q (F0 m pc ls (.ref a :: rest)) :=
  w_get (C := RX0) (T := TX0) (N := 16) (ci := 0) (j := 1) hx hb hown hts hK hW hla hL rfl rfl rfl (by decide) inX0 wd_196 rfl hdg kk
theorem g_X0_24 (hx : p.tables.exec = Jvm.exec) (hb : c.code = cc) (hown : s.vm.findClass RX0 = some m.cls) (hts : ∀ w ∈ lw_gd, w.before args s = true) (hK : KK g s) (hW : Wd g lay E H) (hla : lay a = some (exE o)) (hL : E a = L) (hdg : decode cc pc = .ok (.getfield 24, 3)) (kk : W p l e R s m args below meth c H locs cells slots Q (F0 m (pc + 3) ls (.ref (o + 3) :: rest))) : W p l e R s m args below meth c H locs cells slots Q (F0 m pc ls (.ref a :: rest)) :=
  w_get (C := RX0) (T := TX0) (N := 16) (ci := 0) (j := 2) hx hb hown hts hK hW hla hL rfl rfl rfl (by decide) inX0 wd_197 rfl hdg kk
theorem g_X0_29 (hx : p.tables.exec = Jvm.exec) (hb : c.code = cc) (hown : s.vm.findClass RX0 = some m.cls) (hts : ∀ w ∈ lw_gd, w.before args s = true) (hK : KK g s) (hW : Wd g lay E H) (hla : lay a = some (exE o)) (hL : E a = L) (hdg : decode cc pc = .ok (.getfield 29, 3)) (kk : W p l e R s m args below meth c H locs cells slots Q (F0 m (pc + 3) ls (.ref (o + 4) :: rest))) : W p l e R s m args below meth c H locs cells slots Q (F0 m pc ls (.ref a :: rest)) :=
  w_get (C := RX0) (T := TX0) (N := 16) (ci := 0) (j := 3) hx hb hown hts hK hW hla hL rfl rfl rfl (by decide) inX0 wd_198 rfl hdg kk
theorem g_X0_42 (hx : p.tables.exec = Jvm.exec) (hb : c.code = cc) (hown : s.vm.findClass RX0 = some m.cls) (hts : ∀ w ∈ lw_gd, w.before args s = true) (hK : KK g s) (hW : Wd g lay E H) (hla : lay a = some (exE o)) (hL : E a = L) (hdg : decode cc pc = .ok (.getfield 42, 3)) (kk : W p l e R s m args below meth c H locs cells slots Q (F0 m (pc + 3) ls (.ref (o + 5) :: rest))) : W p l e R s m args below meth c H locs cells slots Q (F0 m pc ls (.ref a :: rest)) :=
  w_get (C := RX0) (T := TX0) (N := 16) (ci := 0) (j := 4) hx hb hown hts hK hW hla hL rfl rfl rfl (by decide) inX0 wd_199 rfl hdg kk
theorem g_X0_45 (hx : p.tables.exec = Jvm.exec) (hb : c.code = cc) (hown : s.vm.findClass RX0 = some m.cls) (hts : ∀ w ∈ lw_gd, w.before args s = true) (hK : KK g s) (hW : Wd g lay E H) (hla : lay a = some (exE o)) (hL : E a = L) (hdg : decode cc pc = .ok (.getfield 45, 3)) (kk : W p l e R s m args below meth c H locs cells slots Q (F0 m (pc + 3) ls (.int (L 5) :: rest))) : W p l e R s m args below meth c H locs cells slots Q (F0 m pc ls (.ref a :: rest)) :=
  w_get (C := RX0) (T := TX0) (N := 16) (ci := 0) (j := 5) hx hb hown hts hK hW hla hL rfl rfl rfl (by decide) inX0 wd_200 rfl hdg kk
theorem g_X0_49 (hx : p.tables.exec = Jvm.exec) (hb : c.code = cc) (hown : s.vm.findClass RX0 = some m.cls) (hts : ∀ w ∈ lw_gd, w.before args s = true) (hK : KK g s) (hW : Wd g lay E H) (hla : lay a = some (exE o)) (hL : E a = L) (hdg : decode cc pc = .ok (.getfield 49, 3)) (kk : W p l e R s m args below meth c H locs cells slots Q (F0 m (pc + 3) ls (.int (L 6) :: rest))) : W p l e R s m args below meth c H locs cells slots Q (F0 m pc ls (.ref a :: rest)) :=
  w_get (C := RX0) (T := TX0) (N := 16) (ci := 0) (j := 6) hx hb hown hts hK hW hla hL rfl rfl rfl (by decide) inX0 wd_202 rfl hdg kk
theorem g_X0_52 (hx : p.tables.exec = Jvm.exec) (hb : c.code = cc) (hown : s.vm.findClass RX0 = some m.cls) (hts : ∀ w ∈ lw_gd, w.before args s = true) (hK : KK g s) (hW : Wd g lay E H) (hla : lay a = some (exE o)) (hL : E a = L) (hdg : decode cc pc = .ok (.getfield 52, 3)) (kk : W p l e R s m args below meth c H locs cells slots Q (F0 m (pc + 3) ls (.int (L 7) :: rest))) : W p l e R s m args below meth c H locs cells slots Q (F0 m pc ls (.ref a :: rest)) :=
  w_get (C := RX0) (T := TX0) (N := 16) (ci := 0) (j := 7) hx hb hown hts hK hW hla hL rfl rfl rfl (by decide) inX0 wd_204 rfl hdg kk
theorem g_X0_55 (hx : p.tables.exec = Jvm.exec) (hb : c.code = cc) (hown : s.vm.findClass RX0 = some m.cls) (hts : ∀ w ∈ lw_gd, w.before args s = true) (hK : KK g s) (hW : Wd g lay E H) (hla : lay a = some (exE o)) (hL : E a = L) (hdg : decode cc pc = .ok (.getfield 55, 3)) (kk : W p l e R s m args below meth c H locs cells slots Q (F0 m (pc + 3) ls (.int (L 8) :: rest))) : W p l e R s m args below meth c H locs cells slots Q (F0 m pc ls (.ref a :: rest)) :=
  w_get (C := RX0) (T := TX0) (N := 16) (ci := 0) (j := 8) hx hb hown hts hK hW hla hL rfl rfl rfl (by decide) inX0 wd_206 rfl hdg kk
theorem g_X0_58 (hx : p.tables.exec = Jvm.exec) (hb : c.code = cc) (hown : s.vm.findClass RX0 = some m.cls) (hts : ∀ w ∈ lw_gd, w.before args s = true) (hK : KK g s) (hW : Wd g lay E H) (hla : lay a = some (exE o)) (hL : E a = L) (hdg : decode cc pc = .ok (.getfield 58, 3)) (kk : W p l e R s m args below meth c H locs cells slots Q (F0 m (pc + 3) ls (.int (L 9) :: rest))) : W p l e R s m args below meth c H locs cells slots Q (F0 m pc ls (.ref a :: rest)) :=
  w_get (C := RX0) (T := TX0) (N := 16) (ci := 0) (j := 9) hx hb hown hts hK hW hla hL rfl rfl rfl (by decide) inX0 wd_207 rfl hdg kk
theorem g_X0_61 (hx : p.tables.exec = Jvm.exec) (hb : c.code = cc) (hown : s.vm.findClass RX0 = some m.cls) (hts : ∀ w ∈ lw_gd, w.before args s = true) (hK : KK g s) (hW : Wd g lay E H) (hla : lay a = some (exE o)) (hL : E a = L) (hdg : decode cc pc = .ok (.getfield 61, 3)) (kk : W p l e R s m args below meth c H locs cells slots Q (F0 m (pc + 3) ls (.int (L 10) :: rest))) : W p l e R s m args below meth c H locs cells slots Q (F0 m pc ls (.ref a :: rest)) :=
  w_get (C := RX0) (T := TX0) (N := 16) (ci := 0) (j := 10) hx hb hown hts hK hW hla hL rfl rfl rfl (by decide) inX0 wd_208 rfl hdg kk
theorem g_X0_64 (hx : p.tables.exec = Jvm.exec) (hb : c.code = cc) (hown : s.vm.findClass RX0 = some m.cls) (hts : ∀ w ∈ lw_gd, w.before args s = true) (hK : KK g s) (hW : Wd g lay E H) (hla : lay a = some (exE o)) (hL : E a = L) (hdg : decode cc pc = .ok (.getfield 64, 3)) (kk : W p l e R s m args below meth c H locs cells slots Q (F0 m (pc + 3) ls (.int (L 11) :: rest))) : W p l e R s m args below meth c H locs cells slots Q (F0 m pc ls (.ref a :: rest)) :=
  w_get (C := RX0) (T := TX0) (N := 16) (ci := 0) (j := 11) hx hb hown hts hK hW hla hL rfl rfl rfl (by decide) inX0 wd_209 rfl hdg kk
theorem g_X0_67 (hx : p.tables.exec = Jvm.exec) (hb : c.code = cc) (hown : s.vm.findClass RX0 = some m.cls) (hts : ∀ w ∈ lw_gd, w.before args s = true) (hK : KK g s) (hW : Wd g lay E H) (hla : lay a = some (exE o)) (hL : E a = L) (hdg : decode cc pc = .ok (.getfield 67, 3)) (kk : W p l e R s m args below meth c H locs cells slots Q (F0 m (pc + 3) ls (.int (L 12) :: rest))) : W p l e R s m args below meth c H locs cells slots Q (F0 m pc ls (.ref a :: rest)) :=
  w_get (C := RX0) (T := TX0) (N := 16) (ci := 0) (j := 12) hx hb hown hts hK hW hla hL rfl rfl rfl (by decide) inX0 wd_210 rfl hdg kk
theorem g_X0_70 (hx : p.tables.exec = Jvm.exec) (hb : c.code = cc) (hown : s.vm.findClass RX0 = some m.cls) (hts : ∀ w ∈ lw_gd, w.before args s = true) (hK : KK g s) (hW : Wd g lay E H) (hla : lay a = some (exE o)) (hL : E a = L) (hdg : decode cc pc = .ok (.getfield 70, 3)) (kk : W p l e R s m args below meth c H locs cells slots Q (F0 m (pc + 3) ls (.int (L 13) :: rest))) : W p l e R s m args below meth c H locs cells slots Q (F0 m pc ls (.ref a :: rest)) :=
  w_get (C := RX0) (T := TX0) (N := 16) (ci := 0) (j := 13) hx hb hown hts hK hW hla hL rfl rfl rfl (by decide) inX0 wd_211 rfl hdg kk
theorem g_X0_73 (hx : p.tables.exec = Jvm.exec) (hb : c.code = cc) (hown : s.vm.findClass RX0 = some m.cls) (hts : ∀ w ∈ lw_gd, w.before args s = true) (hK : KK g s) (hW : Wd g lay E H) (hla : lay a = some (exE o)) (hL : E a = L) (hdg : decode cc pc = .ok (.getfield 73, 3)) (kk : W p l e R s m args below meth c H locs cells slots Q (F0 m (pc + 3) ls (.int (L 14) :: rest))) : W p l e R s m args below meth c H locs cells slots Q (F0 m pc ls (.ref a :: rest)) :=
  w_get (C := RX0) (T := TX0) (N := 16) (ci := 0) (j := 14) hx hb hown hts hK hW hla hL rfl rfl rfl (by decide) inX0 wd_212 rfl hdg kk
theorem g_X0_76 (hx : p.tables.exec = Jvm.exec) (hb : c.code = cc) (hown : s.vm.findClass RX0 = some m.cls) (hts : ∀ w ∈ lw_gd, w.before args s = true) (hK : KK g s) (hW : Wd g lay E H) (hla : lay a = some (exE o)) (hL : E a = L) (hdg : decode cc pc = .ok (.getfield 76, 3)) (kk : W p l e R s m args below meth c H locs cells slots Q (F0 m (pc + 3) ls (.int (L 15) :: rest))) : W p l e R s m args below meth c H locs cells slots Q (F0 m pc ls (.ref a :: rest)) :=
  w_get (C := RX0) (T := TX0) (N := 16) (ci := 0) (j := 15) hx hb hown hts hK hW hla hL rfl rfl rfl (by decide) inX0 wd_213 rfl hdg kk
theorem g_X0_102 (hx : p.tables.exec = Jvm.exec) (hb : c.code = cc) (hown : s.vm.findClass RX0 = some m.cls) (hts : ∀ w ∈ lw_gd, w.before args s = true) (hK : KK g s) (hW : Wd g lay E H) (hla : lay a = some lineE) (hL : E a = L) (hdg : decode cc pc = .ok (.getfield 102, 3)) (kk : W p l e R s m args below meth c H locs cells slots Q (F0 m (pc + 3) ls (.int (L 1) :: rest))) : W p l e R s m args below meth c H locs cells slots Q (F0 m pc ls (.ref a :: rest)) :=
  w_get (C := RX2) (T := TX2) (N := 9) (ci := 2) (j := 1) hx hb hown hts hK hW hla hL rfl rfl rfl (by decide) inX2 wd_107 rfl hdg kk
theorem g_X0_106 (hx : p.tables.exec = Jvm.exec) (hb : c.code = cc) (hown : s.vm.findClass RX0 = some m.cls) (hts : ∀ w ∈ lw_gd, w.before args s = true) (hK : KK g s) (hW : Wd g lay E H) (hla : lay a = some lineE) (hL : E a = L) (hdg : decode cc pc = .ok (.getfield 106, 3)) (kk : W p l e R s m args below meth c H locs cells slots Q (F0 m (pc + 3) ls (.int (L 0) :: rest))) : W p l e R s m args below meth c H locs cells slots Q (F0 m pc ls (.ref a :: rest)) :=
  w_get (C := RX2) (T := TX2) (N := 9) (ci := 2) (j := 0) hx hb hown hts hK hW hla hL rfl rfl rfl (by decide) inX2 wd_104 rfl hdg kk
theorem g_X0_109 (hx : p.tables.exec = Jvm.exec) (hb : c.code = cc) (hown : s.vm.findClass RX0 = some m.cls) (hts : ∀ w ∈ lw_gd, w.before args s = true) (hK : KK g s) (hW : Wd g lay E H) (hla : lay a = some lineE) (hL : E a = L) (hdg : decode cc pc = .ok (.getfield 109, 3)) (kk : W p l e R s m args below meth c H locs cells slots Q (F0 m (pc + 3) ls (.int (L 3) :: rest))) : W p l e R s m args below meth c H locs cells slots Q (F0 m pc ls (.ref a :: rest)) :=
  w_get (C := RX2) (T := TX2) (N := 9) (ci := 2) (j := 3) hx hb hown hts hK hW hla hL rfl rfl rfl (by decide) inX2 wd_111 rfl hdg kk
theorem g_X0_112 (hx : p.tables.exec = Jvm.exec) (hb : c.code = cc) (hown : s.vm.findClass RX0 = some m.cls) (hts : ∀ w ∈ lw_gd, w.before args s = true) (hK : KK g s) (hW : Wd g lay E H) (hla : lay a = some lineE) (hL : E a = L) (hdg : decode cc pc = .ok (.getfield 112, 3)) (kk : W p l e R s m args below meth c H locs cells slots Q (F0 m (pc + 3) ls (.int (L 7) :: rest))) : W p l e R s m args below meth c H locs cells slots Q (F0 m pc ls (.ref a :: rest)) :=
  w_get (C := RX2) (T := TX2) (N := 9) (ci := 2) (j := 7) hx hb hown hts hK hW hla hL rfl rfl rfl (by decide) inX2 wd_118 rfl hdg kk
theorem g_X0_119 (hx : p.tables.exec = Jvm.exec) (hb : c.code = cc) (hown : s.vm.findClass RX0 = some m.cls) (hts : ∀ w ∈ lw_gd, w.before args s = true) (hK : KK g s) (hW : Wd g lay E H) (hla : lay a = some lineE) (hL : E a = L) (hdg : decode cc pc = .ok (.getfield 119, 3)) (kk : W p l e R s m args below meth c H locs cells slots Q (F0 m (pc + 3) ls (.int (L 6) :: rest))) : W p l e R s m args below meth c H locs cells slots Q (F0 m pc ls (.ref a :: rest)) :=
  w_get (C := RX2) (T := TX2) (N := 9) (ci := 2) (j := 6) hx hb hown hts hK hW hla hL rfl rfl rfl (by decide) inX2 wd_116 rfl hdg kk
theorem g_X0_129 (hx : p.tables.exec = Jvm.exec) (hb : c.code = cc) (hown : s.vm.findClass RX0 = some m.cls) (hts : ∀ w ∈ lw_gd, w.before args s = true) (hK : KK g s) (hW : Wd g lay E H) (hla : lay a = some finE) (hL : E a = L) (hdg : decode cc pc = .ok (.getfield 129, 3)) (kk : W p l e R s m args below meth c H locs cells slots Q (F0 m (pc + 3) ls (.int (L 9) :: rest))) : W p l e R s m args below meth c H locs cells slots Q (F0 m pc ls (.ref a :: rest)) :=
  w_get (C := RX1) (T := TX1) (N := 10) (ci := 1) (j := 9) hx hb hown hts hK hW hla hL rfl rfl rfl (by decide) inX1 wd_164 rfl hdg kk
theorem g_X0_135 (hx : p.tables.exec = Jvm.exec) (hb : c.code = cc) (hown : s.vm.findClass RX0 = some m.cls) (hts : ∀ w ∈ lw_gd, w.before args s = true) (hK : KK g s) (hW : Wd g lay E H) (hla : lay a = some lineE) (hL : E a = L) (hdg : decode cc pc = .ok (.getfield 135, 3)) (kk : W p l e R s m args below meth c H locs cells slots Q (F0 m (pc + 3) ls (.int (L 5) :: rest))) : W p l e R s m args below meth c H locs cells slots Q (F0 m pc ls (.ref a :: rest)) :=
  w_get (C := RX2) (T := TX2) (N := 9) (ci := 2) (j := 5) hx hb hown hts hK hW hla hL rfl rfl rfl (by decide) inX2 wd_114 rfl hdg kk
theorem g_X0_151 (hx : p.tables.exec = Jvm.exec) (hb : c.code = cc) (hown : s.vm.findClass RX0 = some m.cls) (hts : ∀ w ∈ lw_gd, w.before args s = true) (hK : KK g s) (hW : Wd g lay E H) (hla : lay a = some finE) (hL : E a = L) (hdg : decode cc pc = .ok (.getfield 151, 3)) (kk : W p l e R s m args below meth c H locs cells slots Q (F0 m (pc + 3) ls (.int (L 2) :: rest))) : W p l e R s m args below meth c H locs cells slots Q (F0 m pc ls (.ref a :: rest)) :=
  w_get (C := RX1) (T := TX1) (N := 10) (ci := 1) (j := 2) hx hb hown hts hK hW hla hL rfl rfl rfl (by decide) inX1 wd_150 rfl hdg kk
theorem g_X0_154 (hx : p.tables.exec = Jvm.exec) (hb : c.code = cc) (hown : s.vm.findClass RX0 = some m.cls) (hts : ∀ w ∈ lw_gd, w.before args s = true) (hK : KK g s) (hW : Wd g lay E H) (hla : lay a = some finE) (hL : E a = L) (hdg : decode cc pc = .ok (.getfield 154, 3)) (kk : W p l e R s m args below meth c H locs cells slots Q (F0 m (pc + 3) ls (.int (L 0) :: rest))) : W p l e R s m args below meth c H locs cells slots Q (F0 m pc ls (.ref a :: rest)) :=
  w_get (C := RX1) (T := TX1) (N := 10) (ci := 1) (j := 0) hx hb hown hts hK hW hla hL rfl rfl rfl (by decide) inX1 wd_146 rfl hdg kk
theorem g_X0_181 (hx : p.tables.exec = Jvm.exec) (hb : c.code = cc) (hown : s.vm.findClass RX0 = some m.cls) (hts : ∀ w ∈ lw_gd, w.before args s = true) (hK : KK g s) (hW : Wd g lay E H) (hla : lay a = some finE) (hL : E a = L) (hdg : decode cc pc = .ok (.getfield 181, 3)) (kk : W p l e R s m args below meth c H locs cells slots Q (F0 m (pc + 3) ls (.int (L 1) :: rest))) : W p l e R s m args below meth c H locs cells slots Q (F0 m pc ls (.ref a :: rest)) :=
  w_get (C := RX1) (T := TX1) (N := 10) (ci := 1) (j := 1) hx hb hown hts hK hW hla hL rfl rfl rfl (by decide) inX1 wd_148 rfl hdg kk
theorem g_X0_191 (hx : p.tables.exec = Jvm.exec) (hb : c.code = cc) (hown : s.vm.findClass RX0 = some m.cls) (hts : ∀ w ∈ lw_gd, w.before args s = true) (hK : KK g s) (hW : Wd g lay E H) (hla : lay a = some finE) (hL : E a = L) (hdg : decode cc pc = .ok (.getfield 191, 3)) (kk : W p l e R s m args below meth c H locs cells slots Q (F0 m (pc + 3) ls (.int (L 5) :: rest))) : W p l e R s m args below meth c H locs cells slots Q (F0 m pc ls (.ref a :: rest)) :=
  w_get (C := RX1) (T := TX1) (N := 10) (ci := 1) (j := 5) hx hb hown hts hK hW hla hL rfl rfl rfl (by decide) inX1 wd_156 rfl hdg kk
theorem g_X0_194 (hx : p.tables.exec = Jvm.exec) (hb : c.code = cc) (hown : s.vm.findClass RX0 = some m.cls) (hts : ∀ w ∈ lw_gd, w.before args s = true) (hK : KK g s) (hW : Wd g lay E H) (hla : lay a = some finE) (hL : E a = L) (hdg : decode cc pc = .ok (.getfield 194, 3)) (kk : W p l e R s m args below meth c H locs cells slots Q (F0 m (pc + 3) ls (.int (L 7) :: rest))) : W p l e R s m args below meth c H locs cells slots Q (F0 m pc ls (.ref a :: rest)) :=
  w_get (C := RX1) (T := TX1) (N := 10) (ci := 1) (j := 7) hx hb hown hts hK hW hla hL rfl rfl rfl (by decide) inX1 wd_160 rfl hdg kk
theorem g_X0_197 (hx : p.tables.exec = Jvm.exec) (hb : c.code = cc) (hown : s.vm.findClass RX0 = some m.cls) (hts : ∀ w ∈ lw_gd, w.before args s = true) (hK : KK g s) (hW : Wd g lay E H) (hla : lay a = some finE) (hL : E a = L) (hdg : decode cc pc = .ok (.getfield 197, 3)) (kk : W p l e R s m args below meth c H locs cells slots Q (F0 m (pc + 3) ls (.int (L 3) :: rest))) : W p l e R s m args below meth c H locs cells slots Q (F0 m pc ls (.ref a :: rest)) :=
  w_get (C := RX1) (T := TX1) (N := 10) (ci := 1) (j := 3) hx hb hown hts hK hW hla hL rfl rfl rfl (by decide) inX1 wd_152 rfl hdg kk
theorem g_X0_204 (hx : p.tables.exec = Jvm.exec) (hb : c.code = cc) (hown : s.vm.findClass RX0 = some m.cls) (hts : ∀ w ∈ lw_gd, w.before args s = true) (hK : KK g s) (hW : Wd g lay E H) (hla : lay a = some finE) (hL : E a = L) (hdg : decode cc pc = .ok (.getfield 204, 3)) (kk : W p l e R s m args below meth c H locs cells slots Q (F0 m (pc + 3) ls (.int (L 4) :: rest))) : W p l e R s m args below meth c H locs cells slots Q (F0 m pc ls (.ref a :: rest)) :=
  w_get (C := RX1) (T := TX1) (N := 10) (ci := 1) (j := 4) hx hb hown hts hK hW hla hL rfl rfl rfl (by decide) inX1 wd_154 rfl hdg kk
theorem g_X0_211 (hx : p.tables.exec = Jvm.exec) (hb : c.code = cc) (hown : s.vm.findClass RX0 = some m.cls) (hts : ∀ w ∈ lw_gd, w.before args s = true) (hK : KK g s) (hW : Wd g lay E H) (hla : lay a = some finE) (hL : E a = L) (hdg : decode cc pc = .ok (.getfield 211, 3)) (kk : W p l e R s m args below meth c H locs cells slots Q (F0 m (pc + 3) ls (.int (L 6) :: rest))) : W p l e R s m args below meth c H locs cells slots Q (F0 m pc ls (.ref a :: rest)) :=
  w_get (C := RX1) (T := TX1) (N := 10) (ci := 1) (j := 6) hx hb hown hts hK hW hla hL rfl rfl rfl (by decide) inX1 wd_158 rfl hdg kk
theorem g_X0_214 (hx : p.tables.exec = Jvm.exec) (hb : c.code = cc) (hown : s.vm.findClass RX0 = some m.cls) (hts : ∀ w ∈ lw_gd, w.before args s = true) (hK : KK g s) (hW : Wd g lay E H) (hla : lay a = some lineE) (hL : E a = L) (hdg : decode cc pc = .ok (.getfield 214, 3)) (kk : W p l e R s m args below meth c H locs cells slots Q (F0 m (pc + 3) ls (.int (L 2) :: rest))) : W p l e R s m args below meth c H locs cells slots Q (F0 m pc ls (.ref a :: rest)) :=
  w_get (C := RX2) (T := TX2) (N := 9) (ci := 2) (j := 2) hx hb hown hts hK hW hla hL rfl rfl rfl (by decide) inX2 wd_109 rfl hdg kk
theorem g_X0_217 (hx : p.tables.exec = Jvm.exec) (hb : c.code = cc) (hown : s.vm.findClass RX0 = some m.cls) (hts : ∀ w ∈ lw_gd, w.before args s = true) (hK : KK g s) (hW : Wd g lay E H) (hla : lay a = some finE) (hL : E a = L) (hdg : decode cc pc = .ok (.getfield 217, 3)) (kk : W p l e R s m args below meth c H locs cells slots Q (F0 m (pc + 3) ls (.int (L 8) :: rest))) : W p l e R s m args below meth c H locs cells slots Q (F0 m pc ls (.ref a :: rest)) :=
  w_get (C := RX1) (T := TX1) (N := 10) (ci := 1) (j := 8) hx hb hown hts hK hW hla hL rfl rfl rfl (by decide) inX1 wd_162 rfl hdg kk
theorem g_X0_255 (hx : p.tables.exec = Jvm.exec) (hb : c.code = cc) (hown : s.vm.findClass RX0 = some m.cls) (hts : ∀ w ∈ lw_gd, w.before args s = true) (hK : KK g s) (hW : Wd g lay E H) (hla : lay a = some lineE) (hL : E a = L) (hdg : decode cc pc = .ok (.getfield 255, 3)) (kk : W p l e R s m args below meth c H locs cells slots Q (F0 m (pc + 3) ls (.int (L 8) :: rest))) : W p l e R s m args below meth c H locs cells slots Q (F0 m pc ls (.ref a :: rest)) :=
  w_get (C := RX2) (T := TX2) (N := 9) (ci := 2) (j := 8) hx hb hown hts hK hW hla hL rfl rfl rfl (by decide) inX2 wd_120 rfl hdg kk
theorem p_X0_45 (hx : p.tables.exec = Jvm.exec) (hb : c.code = cc) (hown : s.vm.findClass RX0 = some m.cls) (hts : ∀ w ∈ lw_gd, w.before args s = true) (hK : KK g s) (hge : okL g lay) (hW : Wd g lay E H) (hS : va_S (Ab g) H0 H locs) (hla : lay a = some (exE o)) (hL : E a = L) {x : Int32} (hdg : decode cc pc = .ok (.putfield 45, 3)) (hE : va_up E a (upd L 5 x) = E1) (kk : ∀ (H1 : Heap) (locs1 : List Loc), Wd g lay E1 H1 → va_S (Ab g) H0 H1 locs1 → W p l e R s m args below meth c H1 locs1 cells slots Q (F0 m (pc + 3) ls rest)) : W p l e R s m args below meth c H locs cells slots Q (F0 m pc ls (.int x :: .ref a :: rest)) :=
  w_put (C := RX0) (T := TX0) (N := 16) (ci := 0) (j := 5) hx hb hown hts hK hge hW hS hla hL rfl rfl (Nat.le_of_ble_eq_true rfl) rfl (by decide) inX0 tyX0 tyX0_ok nmX0 wd_200 rfl rfl (ty := .int) (by decide +kernel) rfl rfl hdg hE kk
theorem p_X0_49 (hx : p.tables.exec = Jvm.exec) (hb : c.code = cc) (hown : s.vm.findClass RX0 = some m.cls) (hts : ∀ w ∈ lw_gd, w.before args s = true) (hK : KK g s) (hge : okL g lay) (hW : Wd g lay E H) (hS : va_S (Ab g) H0 H locs) (hla : lay a = some (exE o)) (hL : E a = L) {x : Int32} (hdg : decode cc pc = .ok (.putfield 49, 3)) (hE : va_up E a (upd L 6 x) = E1) (kk : ∀ (H1 : Heap) (locs1 : List Loc), Wd g lay E1 H1 → va_S (Ab g) H0 H1 locs1 → W p l e R s m args below meth c H1 locs1 cells slots Q (F0 m (pc + 3) ls rest)) : W p l e R s m args below meth c H locs cells slots Q (F0 m pc ls (.int x :: .ref a :: rest)) :=
  w_put (C := RX0) (T := TX0) (N := 16) (ci := 0) (j := 6) hx hb hown hts hK hge hW hS hla hL rfl rfl (Nat.le_of_ble_eq_true rfl) rfl (by decide) inX0 tyX0 tyX0_ok nmX0 wd_202 rfl rfl (ty := .int) (by decide +kernel) rfl rfl hdg hE kk
theorem p_X0_52 (hx : p.tables.exec = Jvm.exec) (hb : c.code = cc) (hown : s.vm.findClass RX0 = some m.cls) (hts : ∀ w ∈ lw_gd, w.before args s = true) (hK : KK g s) (hge : okL g lay) (hW : Wd g lay E H) (hS : va_S (Ab g) H0 H locs) (hla : lay a = some (exE o)) (hL : E a = L) {x : Int32} (hdg : decode cc pc = .ok (.putfield 52, 3)) (hE : va_up E a (upd L 7 x) = E1) (kk : ∀ (H1 : Heap) (locs1 : List Loc), Wd g lay E1 H1 → va_S (Ab g) H0 H1 locs1 → W p l e R s m args below meth c H1 locs1 cells slots Q (F0 m (pc + 3) ls rest)) : W p l e R s m args below meth c H locs cells slots Q (F0 m pc ls (.int x :: .ref a :: rest)) :=
  w_put (C := RX0) (T := TX0) (N := 16) (ci := 0) (j := 7) hx hb hown hts hK hge hW hS hla hL rfl rfl (Nat.le_of_ble_eq_true rfl) rfl (by decide) inX0 tyX0 tyX0_ok nmX0 wd_204 rfl rfl (ty := .int) (by decide +kernel) rfl rfl hdg hE kk
theorem p_X0_55 (hx : p.tables.exec = Jvm.exec) (hb : c.code = cc) (hown : s.vm.findClass RX0 = some m.cls) (hts : ∀ w ∈ lw_gd, w.before args s = true) (hK : KK g s) (hge : okL g lay) (hW : Wd g lay E H) (hS : va_S (Ab g) H0 H locs) (hla : lay a = some (exE o)) (hL : E a = L) {x : Int32} (hdg : decode cc pc = .ok (.putfield 55, 3)) (hE : va_up E a (upd L 8 x) = E1) (kk : ∀ (H1 : Heap) (locs1 : List Loc), Wd g lay E1 H1 → va_S (Ab g) H0 H1 locs1 → W p l e R s m args below meth c H1 locs1 cells slots Q (F0 m (pc + 3) ls rest)) : W p l e R s m args below meth c H locs cells slots Q (F0 m pc ls (.int x :: .ref a :: rest)) :=
  w_put (C := RX0) (T := TX0) (N := 16) (ci := 0) (j := 8) hx hb hown hts hK hge hW hS hla hL rfl rfl (Nat.le_of_ble_eq_true rfl) rfl (by decide) inX0 tyX0 tyX0_ok nmX0 wd_206 rfl rfl (ty := .int) (by decide +kernel) rfl rfl hdg hE kk
theorem p_X0_58 (hx : p.tables.exec = Jvm.exec) (hb : c.code = cc) (hown : s.vm.findClass RX0 = some m.cls) (hts : ∀ w ∈ lw_gd, w.before args s = true) (hK : KK g s) (hge : okL g lay) (hW : Wd g lay E H) (hS : va_S (Ab g) H0 H locs) (hla : lay a = some (exE o)) (hL : E a = L) {x : Int32} (hdg : decode cc pc = .ok (.putfield 58, 3)) (hE : va_up E a (upd L 9 x) = E1) (kk : ∀ (H1 : Heap) (locs1 : List Loc), Wd g lay E1 H1 → va_S (Ab g) H0 H1 locs1 → W p l e R s m args below meth c H1 locs1 cells slots Q (F0 m (pc + 3) ls rest)) : W p l e R s m args below meth c H locs cells slots Q (F0 m pc ls (.int x :: .ref a :: rest)) :=
  w_put (C := RX0) (T := TX0) (N := 16) (ci := 0) (j := 9) hx hb hown hts hK hge hW hS hla hL rfl rfl (Nat.le_of_ble_eq_true rfl) rfl (by decide) inX0 tyX0 tyX0_ok nmX0 wd_207 rfl rfl (ty := .int) (by decide +kernel) rfl rfl hdg hE kk
theorem p_X0_61 (hx : p.tables.exec = Jvm.exec) (hb : c.code = cc) (hown : s.vm.findClass RX0 = some m.cls) (hts : ∀ w ∈ lw_gd, w.before args s = true) (hK : KK g s) (hge : okL g lay) (hW : Wd g lay E H) (hS : va_S (Ab g) H0 H locs) (hla : lay a = some (exE o)) (hL : E a = L) {x : Int32} (hdg : decode cc pc = .ok (.putfield 61, 3)) (hE : va_up E a (upd L 10 x) = E1) (kk : ∀ (H1 : Heap) (locs1 : List Loc), Wd g lay E1 H1 → va_S (Ab g) H0 H1 locs1 → W p l e R s m args below meth c H1 locs1 cells slots Q (F0 m (pc + 3) ls rest)) : W p l e R s m args below meth c H locs cells slots Q (F0 m pc ls (.int x :: .ref a :: rest)) :=
  w_put (C := RX0) (T := TX0) (N := 16) (ci := 0) (j := 10) hx hb hown hts hK hge hW hS hla hL rfl rfl (Nat.le_of_ble_eq_true rfl) rfl (by decide) inX0 tyX0 tyX0_ok nmX0 wd_208 rfl rfl (ty := .int) (by decide +kernel) rfl rfl hdg hE kk
theorem p_X0_64 (hx : p.tables.exec = Jvm.exec) (hb : c.code = cc) (hown : s.vm.findClass RX0 = some m.cls) (hts : ∀ w ∈ lw_gd, w.before args s = true) (hK : KK g s) (hge : okL g lay) (hW : Wd g lay E H) (hS : va_S (Ab g) H0 H locs) (hla : lay a = some (exE o)) (hL : E a = L) {x : Int32} (hdg : decode cc pc = .ok (.putfield 64, 3)) (hE : va_up E a (upd L 11 x) = E1) (kk : ∀ (H1 : Heap) (locs1 : List Loc), Wd g lay E1 H1 → va_S (Ab g) H0 H1 locs1 → W p l e R s m args below meth c H1 locs1 cells slots Q (F0 m (pc + 3) ls rest)) : W p l e R s m args below meth c H locs cells slots Q (F0 m pc ls (.int x :: .ref a :: rest)) :=
  w_put (C := RX0) (T := TX0) (N := 16) (ci := 0) (j := 11) hx hb hown hts hK hge hW hS hla hL rfl rfl (Nat.le_of_ble_eq_true rfl) rfl (by decide) inX0 tyX0 tyX0_ok nmX0 wd_209 rfl rfl (ty := .int) (by decide +kernel) rfl rfl hdg hE kk
theorem p_X0_67 (hx : p.tables.exec = Jvm.exec) (hb : c.code = cc) (hown : s.vm.findClass RX0 = some m.cls) (hts : ∀ w ∈ lw_gd, w.before args s = true) (hK : KK g s) (hge : okL g lay) (hW : Wd g lay E H) (hS : va_S (Ab g) H0 H locs) (hla : lay a = some (exE o)) (hL : E a = L) {x : Int32} (hdg : decode cc pc = .ok (.putfield 67, 3)) (hE : va_up E a (upd L 12 x) = E1) (kk : ∀ (H1 : Heap) (locs1 : List Loc), Wd g lay E1 H1 → va_S (Ab g) H0 H1 locs1 → W p l e R s m args below meth c H1 locs1 cells slots Q (F0 m (pc + 3) ls rest)) : W p l e R s m args below meth c H locs cells slots Q (F0 m pc ls (.int x :: .ref a :: rest)) :=
  w_put (C := RX0) (T := TX0) (N := 16) (ci := 0) (j := 12) hx hb hown hts hK hge hW hS hla hL rfl rfl (Nat.le_of_ble_eq_true rfl) rfl (by decide) inX0 tyX0 tyX0_ok nmX0 wd_210 rfl rfl (ty := .int) (by decide +kernel) rfl rfl hdg hE kk
theorem p_X0_70 (hx : p.tables.exec = Jvm.exec) (hb : c.code = cc) (hown : s.vm.findClass RX0 = some m.cls) (hts : ∀ w ∈ lw_gd, w.before args s = true) (hK : KK g s) (hge : okL g lay) (hW : Wd g lay E H) (hS : va_S (Ab g) H0 H locs) (hla : lay a = some (exE o)) (hL : E a = L) {x : Int32} (hdg : decode cc pc = .ok (.putfield 70, 3)) (hE : va_up E a (upd L 13 x) = E1) (kk : ∀ (H1 : Heap) (locs1 : List Loc), Wd g lay E1 H1 → va_S (Ab g) H0 H1 locs1 → W p l e R s m args below meth c H1 locs1 cells slots Q (F0 m (pc + 3) ls rest)) : W p l e R s m args below meth c H locs cells slots Q (F0 m pc ls (.int x :: .ref a :: rest)) :=
  w_put (C := RX0) (T := TX0) (N := 16) (ci := 0) (j := 13) hx hb hown hts hK hge hW hS hla hL rfl rfl (Nat.le_of_ble_eq_true rfl) rfl (by decide) inX0 tyX0 tyX0_ok nmX0 wd_211 rfl rfl (ty := .int) (by decide +kernel) rfl rfl hdg hE kk
theorem p_X0_73 (hx : p.tables.exec = Jvm.exec) (hb : c.code = cc) (hown : s.vm.findClass RX0 = some m.cls) (hts : ∀ w ∈ lw_gd, w.before args s = true) (hK : KK g s) (hge : okL g lay) (hW : Wd g lay E H) (hS : va_S (Ab g) H0 H locs) (hla : lay a = some (exE o)) (hL : E a = L) {x : Int32} (hdg : decode cc pc = .ok (.putfield 73, 3)) (hE : va_up E a (upd L 14 x) = E1) (kk : ∀ (H1 : Heap) (locs1 : List Loc), Wd g lay E1 H1 → va_S (Ab g) H0 H1 locs1 → W p l e R s m args below meth c H1 locs1 cells slots Q (F0 m (pc + 3) ls rest)) : W p l e R s m args below meth c H locs cells slots Q (F0 m pc ls (.int x :: .ref a :: rest)) :=
  w_put (C := RX0) (T := TX0) (N := 16) (ci := 0) (j := 14) hx hb hown hts hK hge hW hS hla hL rfl rfl (Nat.le_of_ble_eq_true rfl) rfl (by decide) inX0 tyX0 tyX0_ok nmX0 wd_212 rfl rfl (ty := .int) (by decide +kernel) rfl rfl hdg hE kk
theorem p_X0_76 (hx : p.tables.exec = Jvm.exec) (hb : c.code = cc) (hown : s.vm.findClass RX0 = some m.cls) (hts : ∀ w ∈ lw_gd, w.before args s = true) (hK : KK g s) (hge : okL g lay) (hW : Wd g lay E H) (hS : va_S (Ab g) H0 H locs) (hla : lay a = some (exE o)) (hL : E a = L) {x : Int32} (hdg : decode cc pc = .ok (.putfield 76, 3)) (hE : va_up E a (upd L 15 x) = E1) (kk : ∀ (H1 : Heap) (locs1 : List Loc), Wd g lay E1 H1 → va_S (Ab g) H0 H1 locs1 → W p l e R s m args below meth c H1 locs1 cells slots Q (F0 m (pc + 3) ls rest)) : W p l e R s m args below meth c H locs cells slots Q (F0 m pc ls (.int x :: .ref a :: rest)) :=
  w_put (C := RX0) (T := TX0) (N := 16) (ci := 0) (j := 15) hx hb hown hts hK hge hW hS hla hL rfl rfl (Nat.le_of_ble_eq_true rfl) rfl (by decide) inX0 tyX0 tyX0_ok nmX0 wd_213 rfl rfl (ty := .int) (by decide +kernel) rfl rfl hdg hE kk
theorem p_X0_102 (hx : p.tables.exec = Jvm.exec) (hb : c.code = cc) (hown : s.vm.findClass RX0 = some m.cls) (hts : ∀ w ∈ lw_gd, w.before args s = true) (hK : KK g s) (hge : okL g lay) (hW : Wd g lay E H) (hS : va_S (Ab g) H0 H locs) (hla : lay a = some lineE) (hL : E a = L) {x : Int32} (hz : x = 0 ∨ x = 1) (hdg : decode cc pc = .ok (.putfield 102, 3)) (hE : va_up E a (upd L 1 x) = E1) (kk : ∀ (H1 : Heap) (locs1 : List Loc), Wd g lay E1 H1 → va_S (Ab g) H0 H1 locs1 → W p l e R s m args below meth c H1 locs1 cells slots Q (F0 m (pc + 3) ls rest)) : W p l e R s m args below meth c H locs cells slots Q (F0 m pc ls (.int x :: .ref a :: rest)) :=
  w_put (C := RX2) (T := TX2) (N := 9) (ci := 2) (j := 1) hx hb hown hts hK hge hW hS hla hL rfl rfl (Nat.le_of_ble_eq_true rfl) rfl (by decide) inX2 tyX2 tyX2_ok nmX2 wd_107 rfl rfl (ty := .boolean) (by decide +kernel) (narZ hz) (fitZ hz) hdg hE kk
theorem p_X0_106 (hx : p.tables.exec = Jvm.exec) (hb : c.code = cc) (hown : s.vm.findClass RX0 = some m.cls) (hts : ∀ w ∈ lw_gd, w.before args s = true) (hK : KK g s) (hge : okL g lay) (hW : Wd g lay E H) (hS : va_S (Ab g) H0 H locs) (hla : lay a = some lineE) (hL : E a = L) {x : Int32} (hdg : decode cc pc = .ok (.putfield 106, 3)) (hE : va_up E a (upd L 0 x) = E1) (kk : ∀ (H1 : Heap) (locs1 : List Loc), Wd g lay E1 H1 → va_S (Ab g) H0 H1 locs1 → W p l e R s m args below meth c H1 locs1 cells slots Q (F0 m (pc + 3) ls rest)) : W p l e R s m args below meth c H locs cells slots Q (F0 m pc ls (.int x :: .ref a :: rest)) :=
  w_put (C := RX2) (T := TX2) (N := 9) (ci := 2) (j := 0) hx hb hown hts hK hge hW hS hla hL rfl rfl (Nat.le_of_ble_eq_true rfl) rfl (by decide) inX2 tyX2 tyX2_ok nmX2 wd_104 rfl rfl (ty := .int) (by decide +kernel) rfl rfl hdg hE kk
theorem p_X0_109 (hx : p.tables.exec = Jvm.exec) (hb : c.code = cc) (hown : s.vm.findClass RX0 = some m.cls) (hts : ∀ w ∈ lw_gd, w.before args s = true) (hK : KK g s) (hge : okL g lay) (hW : Wd g lay E H) (hS : va_S (Ab g) H0 H locs) (hla : lay a = some lineE) (hL : E a = L) {x : Int32} (hdg : decode cc pc = .ok (.putfield 109, 3)) (hE : va_up E a (upd L 3 x) = E1) (kk : ∀ (H1 : Heap) (locs1 : List Loc), Wd g lay E1 H1 → va_S (Ab g) H0 H1 locs1 → W p l e R s m args below meth c H1 locs1 cells slots Q (F0 m (pc + 3) ls rest)) : W p l e R s m args below meth c H locs cells slots Q (F0 m pc ls (.int x :: .ref a :: rest)) :=
  w_put (C := RX2) (T := TX2) (N := 9) (ci := 2) (j := 3) hx hb hown hts hK hge hW hS hla hL rfl rfl (Nat.le_of_ble_eq_true rfl) rfl (by decide) inX2 tyX2 tyX2_ok nmX2 wd_111 rfl rfl (ty := .int) (by decide +kernel) rfl rfl hdg hE kk
theorem p_X0_112 (hx : p.tables.exec = Jvm.exec) (hb : c.code = cc) (hown : s.vm.findClass RX0 = some m.cls) (hts : ∀ w ∈ lw_gd, w.before args s = true) (hK : KK g s) (hge : okL g lay) (hW : Wd g lay E H) (hS : va_S (Ab g) H0 H locs) (hla : lay a = some lineE) (hL : E a = L) {x : Int32} (hdg : decode cc pc = .ok (.putfield 112, 3)) (hE : va_up E a (upd L 7 x) = E1) (kk : ∀ (H1 : Heap) (locs1 : List Loc), Wd g lay E1 H1 → va_S (Ab g) H0 H1 locs1 → W p l e R s m args below meth c H1 locs1 cells slots Q (F0 m (pc + 3) ls rest)) : W p l e R s m args below meth c H locs cells slots Q (F0 m pc ls (.int x :: .ref a :: rest)) :=
  w_put (C := RX2) (T := TX2) (N := 9) (ci := 2) (j := 7) hx hb hown hts hK hge hW hS hla hL rfl rfl (Nat.le_of_ble_eq_true rfl) rfl (by decide) inX2 tyX2 tyX2_ok nmX2 wd_118 rfl rfl (ty := .int) (by decide +kernel) rfl rfl hdg hE kk
theorem p_X0_119 (hx : p.tables.exec = Jvm.exec) (hb : c.code = cc) (hown : s.vm.findClass RX0 = some m.cls) (hts : ∀ w ∈ lw_gd, w.before args s = true) (hK : KK g s) (hge : okL g lay) (hW : Wd g lay E H) (hS : va_S (Ab g) H0 H locs) (hla : lay a = some lineE) (hL : E a = L) {x : Int32} (hdg : decode cc pc = .ok (.putfield 119, 3)) (hE : va_up E a (upd L 6 x) = E1) (kk : ∀ (H1 : Heap) (locs1 : List Loc), Wd g lay E1 H1 → va_S (Ab g) H0 H1 locs1 → W p l e R s m args below meth c H1 locs1 cells slots Q (F0 m (pc + 3) ls rest)) : W p l e R s m args below meth c H locs cells slots Q (F0 m pc ls (.int x :: .ref a :: rest)) :=
  w_put (C := RX2) (T := TX2) (N := 9) (ci := 2) (j := 6) hx hb hown hts hK hge hW hS hla hL rfl rfl (Nat.le_of_ble_eq_true rfl) rfl (by decide) inX2 tyX2 tyX2_ok nmX2 wd_116 rfl rfl (ty := .int) (by decide +kernel) rfl rfl hdg hE kk
theorem p_X0_129 (hx : p.tables.exec = Jvm.exec) (hb : c.code = cc) (hown : s.vm.findClass RX0 = some m.cls) (hts : ∀ w ∈ lw_gd, w.before args s = true) (hK : KK g s) (hge : okL g lay) (hW : Wd g lay E H) (hS : va_S (Ab g) H0 H locs) (hla : lay a = some finE) (hL : E a = L) {x : Int32} (hdg : decode cc pc = .ok (.putfield 129, 3)) (hE : va_up E a (upd L 9 x) = E1) (kk : ∀ (H1 : Heap) (locs1 : List Loc), Wd g lay E1 H1 → va_S (Ab g) H0 H1 locs1 → W p l e R s m args below meth c H1 locs1 cells slots Q (F0 m (pc + 3) ls rest)) : W p l e R s m args below meth c H locs cells slots Q (F0 m pc ls (.int x :: .ref a :: rest)) :=
  w_put (C := RX1) (T := TX1) (N := 10) (ci := 1) (j := 9) hx hb hown hts hK hge hW hS hla hL rfl rfl (Nat.le_of_ble_eq_true rfl) rfl (by decide) inX1 tyX1 tyX1_ok nmX1 wd_164 rfl rfl (ty := .int) (by decide +kernel) rfl rfl hdg hE kk
theorem p_X0_151 (hx : p.tables.exec = Jvm.exec) (hb : c.code = cc) (hown : s.vm.findClass RX0 = some m.cls) (hts : ∀ w ∈ lw_gd, w.before args s = true) (hK : KK g s) (hge : okL g lay) (hW : Wd g lay E H) (hS : va_S (Ab g) H0 H locs) (hla : lay a = some finE) (hL : E a = L) {x : Int32} (hdg : decode cc pc = .ok (.putfield 151, 3)) (hE : va_up E a (upd L 2 x) = E1) (kk : ∀ (H1 : Heap) (locs1 : List Loc), Wd g lay E1 H1 → va_S (Ab g) H0 H1 locs1 → W p l e R s m args below meth c H1 locs1 cells slots Q (F0 m (pc + 3) ls rest)) : W p l e R s m args below meth c H locs cells slots Q (F0 m pc ls (.int x :: .ref a :: rest)) :=
  w_put (C := RX1) (T := TX1) (N := 10) (ci := 1) (j := 2) hx hb hown hts hK hge hW hS hla hL rfl rfl (Nat.le_of_ble_eq_true rfl) rfl (by decide) inX1 tyX1 tyX1_ok nmX1 wd_150 rfl rfl (ty := .int) (by decide +kernel) rfl rfl hdg hE kk
theorem p_X0_181 (hx : p.tables.exec = Jvm.exec) (hb : c.code = cc) (hown : s.vm.findClass RX0 = some m.cls) (hts : ∀ w ∈ lw_gd, w.before args s = true) (hK : KK g s) (hge : okL g lay) (hW : Wd g lay E H) (hS : va_S (Ab g) H0 H locs) (hla : lay a = some finE) (hL : E a = L) {x : Int32} (hdg : decode cc pc = .ok (.putfield 181, 3)) (hE : va_up E a (upd L 1 x) = E1) (kk : ∀ (H1 : Heap) (locs1 : List Loc), Wd g lay E1 H1 → va_S (Ab g) H0 H1 locs1 → W p l e R s m args below meth c H1 locs1 cells slots Q (F0 m (pc + 3) ls rest)) : W p l e R s m args below meth c H locs cells slots Q (F0 m pc ls (.int x :: .ref a :: rest)) :=
  w_put (C := RX1) (T := TX1) (N := 10) (ci := 1) (j := 1) hx hb hown hts hK hge hW hS hla hL rfl rfl (Nat.le_of_ble_eq_true rfl) rfl (by decide) inX1 tyX1 tyX1_ok nmX1 wd_148 rfl rfl (ty := .int) (by decide +kernel) rfl rfl hdg hE kk
theorem p_X0_191 (hx : p.tables.exec = Jvm.exec) (hb : c.code = cc) (hown : s.vm.findClass RX0 = some m.cls) (hts : ∀ w ∈ lw_gd, w.before args s = true) (hK : KK g s) (hge : okL g lay) (hW : Wd g lay E H) (hS : va_S (Ab g) H0 H locs) (hla : lay a = some finE) (hL : E a = L) {x : Int32} (hdg : decode cc pc = .ok (.putfield 191, 3)) (hE : va_up E a (upd L 5 x) = E1) (kk : ∀ (H1 : Heap) (locs1 : List Loc), Wd g lay E1 H1 → va_S (Ab g) H0 H1 locs1 → W p l e R s m args below meth c H1 locs1 cells slots Q (F0 m (pc + 3) ls rest)) : W p l e R s m args below meth c H locs cells slots Q (F0 m pc ls (.int x :: .ref a :: rest)) :=
  w_put (C := RX1) (T := TX1) (N := 10) (ci := 1) (j := 5) hx hb hown hts hK hge hW hS hla hL rfl rfl (Nat.le_of_ble_eq_true rfl) rfl (by decide) inX1 tyX1 tyX1_ok nmX1 wd_156 rfl rfl (ty := .int) (by decide +kernel) rfl rfl hdg hE kk
theorem p_X0_194 (hx : p.tables.exec = Jvm.exec) (hb : c.code = cc) (hown : s.vm.findClass RX0 = some m.cls) (hts : ∀ w ∈ lw_gd, w.before args s = true) (hK : KK g s) (hge : okL g lay) (hW : Wd g lay E H) (hS : va_S (Ab g) H0 H locs) (hla : lay a = some finE) (hL : E a = L) {x : Int32} (hdg : decode cc pc = .ok (.putfield 194, 3)) (hE : va_up E a (upd L 7 x) = E1) (kk : ∀ (H1 : Heap) (locs1 : List Loc), Wd g lay E1 H1 → va_S (Ab g) H0 H1 locs1 → W p l e R s m args below meth c H1 locs1 cells slots Q (F0 m (pc + 3) ls rest)) : W p l e R s m args below meth c H locs cells slots Q (F0 m pc ls (.int x :: .ref a :: rest)) :=
  w_put (C := RX1) (T := TX1) (N := 10) (ci := 1) (j := 7) hx hb hown hts hK hge hW hS hla hL rfl rfl (Nat.le_of_ble_eq_true rfl) rfl (by decide) inX1 tyX1 tyX1_ok nmX1 wd_160 rfl rfl (ty := .int) (by decide +kernel) rfl rfl hdg hE kk
theorem p_X0_197 (hx : p.tables.exec = Jvm.exec) (hb : c.code = cc) (hown : s.vm.findClass RX0 = some m.cls) (hts : ∀ w ∈ lw_gd, w.before args s = true) (hK : KK g s) (hge : okL g lay) (hW : Wd g lay E H) (hS : va_S (Ab g) H0 H locs) (hla : lay a = some finE) (hL : E a = L) {x : Int32} (hdg : decode cc pc = .ok (.putfield 197, 3)) (hE : va_up E a (upd L 3 x) = E1) (kk : ∀ (H1 : Heap) (locs1 : List Loc), Wd g lay E1 H1 → va_S (Ab g) H0 H1 locs1 → W p l e R s m args below meth c H1 locs1 cells slots Q (F0 m (pc + 3) ls rest)) : W p l e R s m args below meth c H locs cells slots Q (F0 m pc ls (.int x :: .ref a :: rest)) :=
  w_put (C := RX1) (T := TX1) (N := 10) (ci := 1) (j := 3) hx hb hown hts hK hge hW hS hla hL rfl rfl (Nat.le_of_ble_eq_true rfl) rfl (by decide) inX1 tyX1 tyX1_ok nmX1 wd_152 rfl rfl (ty := .int) (by decide +kernel) rfl rfl hdg hE kk
theorem p_X0_204 (hx : p.tables.exec = Jvm.exec) (hb : c.code = cc) (hown : s.vm.findClass RX0 = some m.cls) (hts : ∀ w ∈ lw_gd, w.before args s = true) (hK : KK g s) (hge : okL g lay) (hW : Wd g lay E H) (hS : va_S (Ab g) H0 H locs) (hla : lay a = some finE) (hL : E a = L) {x : Int32} (hdg : decode cc pc = .ok (.putfield 204, 3)) (hE : va_up E a (upd L 4 x) = E1) (kk : ∀ (H1 : Heap) (locs1 : List Loc), Wd g lay E1 H1 → va_S (Ab g) H0 H1 locs1 → W p l e R s m args below meth c H1 locs1 cells slots Q (F0 m (pc + 3) ls rest)) : W p l e R s m args below meth c H locs cells slots Q (F0 m pc ls (.int x :: .ref a :: rest)) :=
  w_put (C := RX1) (T := TX1) (N := 10) (ci := 1) (j := 4) hx hb hown hts hK hge hW hS hla hL rfl rfl (Nat.le_of_ble_eq_true rfl) rfl (by decide) inX1 tyX1 tyX1_ok nmX1 wd_154 rfl rfl (ty := .int) (by decide +kernel) rfl rfl hdg hE kk
theorem p_X0_211 (hx : p.tables.exec = Jvm.exec) (hb : c.code = cc) (hown : s.vm.findClass RX0 = some m.cls) (hts : ∀ w ∈ lw_gd, w.before args s = true) (hK : KK g s) (hge : okL g lay) (hW : Wd g lay E H) (hS : va_S (Ab g) H0 H locs) (hla : lay a = some finE) (hL : E a = L) {x : Int32} (hdg : decode cc pc = .ok (.putfield 211, 3)) (hE : va_up E a (upd L 6 x) = E1) (kk : ∀ (H1 : Heap) (locs1 : List Loc), Wd g lay E1 H1 → va_S (Ab g) H0 H1 locs1 → W p l e R s m args below meth c H1 locs1 cells slots Q (F0 m (pc + 3) ls rest)) : W p l e R s m args below meth c H locs cells slots Q (F0 m pc ls (.int x :: .ref a :: rest)) :=
  w_put (C := RX1) (T := TX1) (N := 10) (ci := 1) (j := 6) hx hb hown hts hK hge hW hS hla hL rfl rfl (Nat.le_of_ble_eq_true rfl) rfl (by decide) inX1 tyX1 tyX1_ok nmX1 wd_158 rfl rfl (ty := .int) (by decide +kernel) rfl rfl hdg hE kk
theorem p_X0_214 (hx : p.tables.exec = Jvm.exec) (hb : c.code = cc) (hown : s.vm.findClass RX0 = some m.cls) (hts : ∀ w ∈ lw_gd, w.before args s = true) (hK : KK g s) (hge : okL g lay) (hW : Wd g lay E H) (hS : va_S (Ab g) H0 H locs) (hla : lay a = some lineE) (hL : E a = L) {x : Int32} (hdg : decode cc pc = .ok (.putfield 214, 3)) (hE : va_up E a (upd L 2 x) = E1) (kk : ∀ (H1 : Heap) (locs1 : List Loc), Wd g lay E1 H1 → va_S (Ab g) H0 H1 locs1 → W p l e R s m args below meth c H1 locs1 cells slots Q (F0 m (pc + 3) ls rest)) : W p l e R s m args below meth c H locs cells slots Q (F0 m pc ls (.int x :: .ref a :: rest)) :=
  w_put (C := RX2) (T := TX2) (N := 9) (ci := 2) (j := 2) hx hb hown hts hK hge hW hS hla hL rfl rfl (Nat.le_of_ble_eq_true rfl) rfl (by decide) inX2 tyX2 tyX2_ok nmX2 wd_109 rfl rfl (ty := .int) (by decide +kernel) rfl rfl hdg hE kk
theorem p_X0_217 (hx : p.tables.exec = Jvm.exec) (hb : c.code = cc) (hown : s.vm.findClass RX0 = some m.cls) (hts : ∀ w ∈ lw_gd, w.before args s = true) (hK : KK g s) (hge : okL g lay) (hW : Wd g lay E H) (hS : va_S (Ab g) H0 H locs) (hla : lay a = some finE) (hL : E a = L) {x : Int32} (hdg : decode cc pc = .ok (.putfield 217, 3)) (hE : va_up E a (upd L 8 x) = E1) (kk : ∀ (H1 : Heap) (locs1 : List Loc), Wd g lay E1 H1 → va_S (Ab g) H0 H1 locs1 → W p l e R s m args below meth c H1 locs1 cells slots Q (F0 m (pc + 3) ls rest)) : W p l e R s m args below meth c H locs cells slots Q (F0 m pc ls (.int x :: .ref a :: rest)) :=
  w_put (C := RX1) (T := TX1) (N := 10) (ci := 1) (j := 8) hx hb hown hts hK hge hW hS hla hL rfl rfl (Nat.le_of_ble_eq_true rfl) rfl (by decide) inX1 tyX1 tyX1_ok nmX1 wd_162 rfl rfl (ty := .int) (by decide +kernel) rfl rfl hdg hE kk
theorem g_X1_9 (hx : p.tables.exec = Jvm.exec) (hb : c.code = cc) (hown : s.vm.findClass RX1 = some m.cls) (hts : ∀ w ∈ lw_gd, w.before args s = true) (hK : KK g s) (hW : Wd g lay E H) (hla : lay a = some finE) (hL : E a = L) (hdg : decode cc pc = .ok (.getfield 9, 3)) (kk : W p l e R s m args below meth c H locs cells slots Q (F0 m (pc + 3) ls (.int (L 0) :: rest))) : W p l e R s m args below meth c H locs cells slots Q (F0 m pc ls (.ref a :: rest)) :=
  w_get (C := RX1) (T := TX1) (N := 10) (ci := 1) (j := 0) hx hb hown hts hK hW hla hL rfl rfl rfl (by decide) inX1 wd_145 rfl hdg kk
theorem g_X1_15 (hx : p.tables.exec = Jvm.exec) (hb : c.code = cc) (hown : s.vm.findClass RX1 = some m.cls) (hts : ∀ w ∈ lw_gd, w.before args s = true) (hK : KK g s) (hW : Wd g lay E H) (hla : lay a = some finE) (hL : E a = L) (hdg : decode cc pc = .ok (.getfield 15, 3)) (kk : W p l e R s m args below meth c H locs cells slots Q (F0 m (pc + 3) ls (.int (L 1) :: rest))) : W p l e R s m args below meth c H locs cells slots Q (F0 m pc ls (.ref a :: rest)) :=
  w_get (C := RX1) (T := TX1) (N := 10) (ci := 1) (j := 1) hx hb hown hts hK hW hla hL rfl rfl rfl (by decide) inX1 wd_147 rfl hdg kk
theorem g_X1_18 (hx : p.tables.exec = Jvm.exec) (hb : c.code = cc) (hown : s.vm.findClass RX1 = some m.cls) (hts : ∀ w ∈ lw_gd, w.before args s = true) (hK : KK g s) (hW : Wd g lay E H) (hla : lay a = some finE) (hL : E a = L) (hdg : decode cc pc = .ok (.getfield 18, 3)) (kk : W p l e R s m args below meth c H locs cells slots Q (F0 m (pc + 3) ls (.int (L 2) :: rest))) : W p l e R s m args below meth c H locs cells slots Q (F0 m pc ls (.ref a :: rest)) :=
  w_get (C := RX1) (T := TX1) (N := 10) (ci := 1) (j := 2) hx hb hown hts hK hW hla hL rfl rfl rfl (by decide) inX1 wd_149 rfl hdg kk
theorem g_X1_21 (hx : p.tables.exec = Jvm.exec) (hb : c.code = cc) (hown : s.vm.findClass RX1 = some m.cls) (hts : ∀ w ∈ lw_gd, w.before args s = true) (hK : KK g s) (hW : Wd g lay E H) (hla : lay a = some finE) (hL : E a = L) (hdg : decode cc pc = .ok (.getfield 21, 3)) (kk : W p l e R s m args below meth c H locs cells slots Q (F0 m (pc + 3) ls (.int (L 3) :: rest))) : W p l e R s m args below meth c H locs cells slots Q (F0 m pc ls (.ref a :: rest)) :=
  w_get (C := RX1) (T := TX1) (N := 10) (ci := 1) (j := 3) hx hb hown hts hK hW hla hL rfl rfl rfl (by decide) inX1 wd_151 rfl hdg kk
theorem g_X1_24 (hx : p.tables.exec = Jvm.exec) (hb : c.code = cc) (hown : s.vm.findClass RX1 = some m.cls) (hts : ∀ w ∈ lw_gd, w.before args s = true) (hK : KK g s) (hW : Wd g lay E H) (hla : lay a = some finE) (hL : E a = L) (hdg : decode cc pc = .ok (.getfield 24, 3)) (kk : W p l e R s m args below meth c H locs cells slots Q (F0 m (pc + 3) ls (.int (L 4) :: rest))) : W p l e R s m args below meth c H locs cells slots Q (F0 m pc ls (.ref a :: rest)) :=
  w_get (C := RX1) (T := TX1) (N := 10) (ci := 1) (j := 4) hx hb hown hts hK hW hla hL rfl rfl rfl (by decide) inX1 wd_153 rfl hdg kk
theorem g_X1_27 (hx : p.tables.exec = Jvm.exec) (hb : c.code = cc) (hown : s.vm.findClass RX1 = some m.cls) (hts : ∀ w ∈ lw_gd, w.before args s = true) (hK : KK g s) (hW : Wd g lay E H) (hla : lay a = some finE) (hL : E a = L) (hdg : decode cc pc = .ok (.getfield 27, 3)) (kk : W p l e R s m args below meth c H locs cells slots Q (F0 m (pc + 3) ls (.int (L 5) :: rest))) : W p l e R s m args below meth c H locs cells slots Q (F0 m pc ls (.ref a :: rest)) :=
  w_get (C := RX1) (T := TX1) (N := 10) (ci := 1) (j := 5) hx hb hown hts hK hW hla hL rfl rfl rfl (by decide) inX1 wd_155 rfl hdg kk
theorem g_X1_30 (hx : p.tables.exec = Jvm.exec) (hb : c.code = cc) (hown : s.vm.findClass RX1 = some m.cls) (hts : ∀ w ∈ lw_gd, w.before args s = true) (hK : KK g s) (hW : Wd g lay E H) (hla : lay a = some finE) (hL : E a = L) (hdg : decode cc pc = .ok (.getfield 30, 3)) (kk : W p l e R s m args below meth c H locs cells slots Q (F0 m (pc + 3) ls (.int (L 6) :: rest))) : W p l e R s m args below meth c H locs cells slots Q (F0 m pc ls (.ref a :: rest)) :=
  w_get (C := RX1) (T := TX1) (N := 10) (ci := 1) (j := 6) hx hb hown hts hK hW hla hL rfl rfl rfl (by decide) inX1 wd_157 rfl hdg kk
theorem g_X1_33 (hx : p.tables.exec = Jvm.exec) (hb : c.code = cc) (hown : s.vm.findClass RX1 = some m.cls) (hts : ∀ w ∈ lw_gd, w.before args s = true) (hK : KK g s) (hW : Wd g lay E H) (hla : lay a = some finE) (hL : E a = L) (hdg : decode cc pc = .ok (.getfield 33, 3)) (kk : W p l e R s m args below meth c H locs cells slots Q (F0 m (pc + 3) ls (.int (L 7) :: rest))) : W p l e R s m args below meth c H locs cells slots Q (F0 m pc ls (.ref a :: rest)) :=
  w_get (C := RX1) (T := TX1) (N := 10) (ci := 1) (j := 7) hx hb hown hts hK hW hla hL rfl rfl rfl (by decide) inX1 wd_159 rfl hdg kk
theorem g_X1_36 (hx : p.tables.exec = Jvm.exec) (hb : c.code = cc) (hown : s.vm.findClass RX1 = some m.cls) (hts : ∀ w ∈ lw_gd, w.before args s = true) (hK : KK g s) (hW : Wd g lay E H) (hla : lay a = some finE) (hL : E a = L) (hdg : decode cc pc = .ok (.getfield 36, 3)) (kk : W p l e R s m args below meth c H locs cells slots Q (F0 m (pc + 3) ls (.int (L 8) :: rest))) : W p l e R s m args below meth c H locs cells slots Q (F0 m pc ls (.ref a :: rest)) :=
  w_get (C := RX1) (T := TX1) (N := 10) (ci := 1) (j := 8) hx hb hown hts hK hW hla hL rfl rfl rfl (by decide) inX1 wd_161 rfl hdg kk
theorem g_X1_39 (hx : p.tables.exec = Jvm.exec) (hb : c.code = cc) (hown : s.vm.findClass RX1 = some m.cls) (hts : ∀ w ∈ lw_gd, w.before args s = true) (hK : KK g s) (hW : Wd g lay E H) (hla : lay a = some finE) (hL : E a = L) (hdg : decode cc pc = .ok (.getfield 39, 3)) (kk : W p l e R s m args below meth c H locs cells slots Q (F0 m (pc + 3) ls (.int (L 9) :: rest))) : W p l e R s m args below meth c H locs cells slots Q (F0 m pc ls (.ref a :: rest)) :=
  w_get (C := RX1) (T := TX1) (N := 10) (ci := 1) (j := 9) hx hb hown hts hK hW hla hL rfl rfl rfl (by decide) inX1 wd_163 rfl hdg kk
theorem p_X1_9 (hx : p.tables.exec = Jvm.exec) (hb : c.code = cc) (hown : s.vm.findClass RX1 = some m.cls) (hts : ∀ w ∈ lw_gd, w.before args s = true) (hK : KK g s) (hge : okL g lay) (hW : Wd g lay E H) (hS : va_S (Ab g) H0 H locs) (hla : lay a = some finE) (hL : E a = L) {x : Int32} (hdg : decode cc pc = .ok (.putfield 9, 3)) (hE : va_up E a (upd L 0 x) = E1) (kk : ∀ (H1 : Heap) (locs1 : List Loc), Wd g lay E1 H1 → va_S (Ab g) H0 H1 locs1 → W p l e R s m args below meth c H1 locs1 cells slots Q (F0 m (pc + 3) ls rest)) : W p l e R s m args below meth c H locs cells slots Q (F0 m pc ls (.int x :: .ref a :: rest)) :=
  w_put (C := RX1) (T := TX1) (N := 10) (ci := 1) (j := 0) hx hb hown hts hK hge hW hS hla hL rfl rfl (Nat.le_of_ble_eq_true rfl) rfl (by decide) inX1 tyX1 tyX1_ok nmX1 wd_145 rfl rfl (ty := .int) (by decide +kernel) rfl rfl hdg hE kk
theorem p_X1_15 (hx : p.tables.exec = Jvm.exec) (hb : c.code = cc) (hown : s.vm.findClass RX1 = some m.cls) (hts : ∀ w ∈ lw_gd, w.before args s = true) (hK : KK g s) (hge : okL g lay) (hW : Wd g lay E H) (hS : va_S (Ab g) H0 H locs) (hla : lay a = some finE) (hL : E a = L) {x : Int32} (hdg : decode cc pc = .ok (.putfield 15, 3)) (hE : va_up E a (upd L 1 x) = E1) (kk : ∀ (H1 : Heap) (locs1 : List Loc), Wd g lay E1 H1 → va_S (Ab g) H0 H1 locs1 → W p l e R s m args below meth c H1 locs1 cells slots Q (F0 m (pc + 3) ls rest)) : W p l e R s m args below meth c H locs cells slots Q (F0 m pc ls (.int x :: .ref a :: rest)) :=
  w_put (C := RX1) (T := TX1) (N := 10) (ci := 1) (j := 1) hx hb hown hts hK hge hW hS hla hL rfl rfl (Nat.le_of_ble_eq_true rfl) rfl (by decide) inX1 tyX1 tyX1_ok nmX1 wd_147 rfl rfl (ty := .int) (by decide +kernel) rfl rfl hdg hE kk
theorem p_X1_18 (hx : p.tables.exec = Jvm.exec) (hb : c.code = cc) (hown : s.vm.findClass RX1 = some m.cls) (hts : ∀ w ∈ lw_gd, w.before args s = true) (hK : KK g s) (hge : okL g lay) (hW : Wd g lay E H) (hS : va_S (Ab g) H0 H locs) (hla : lay a = some finE) (hL : E a = L) {x : Int32} (hdg : decode cc pc = .ok (.putfield 18, 3)) (hE : va_up E a (upd L 2 x) = E1) (kk : ∀ (H1 : Heap) (locs1 : List Loc), Wd g lay E1 H1 → va_S (Ab g) H0 H1 locs1 → W p l e R s m args below meth c H1 locs1 cells slots Q (F0 m (pc + 3) ls rest)) : W p l e R s m args below meth c H locs cells slots Q (F0 m pc ls (.int x :: .ref a :: rest)) :=
  w_put (C := RX1) (T := TX1) (N := 10) (ci := 1) (j := 2) hx hb hown hts hK hge hW hS hla hL rfl rfl (Nat.le_of_ble_eq_true rfl) rfl (by decide) inX1 tyX1 tyX1_ok nmX1 wd_149 rfl rfl (ty := .int) (by decide +kernel) rfl rfl hdg hE kk
theorem p_X1_21 (hx : p.tables.exec = Jvm.exec) (hb : c.code = cc) (hown : s.vm.findClass RX1 = some m.cls) (hts : ∀ w ∈ lw_gd, w.before args s = true) (hK : KK g s) (hge : okL g lay) (hW : Wd g lay E H) (hS : va_S (Ab g) H0 H locs) (hla : lay a = some finE) (hL : E a = L) {x : Int32} (hdg : decode cc pc = .ok (.putfield 21, 3)) (hE : va_up E a (upd L 3 x) = E1) (kk : ∀ (H1 : Heap) (locs1 : List Loc), Wd g lay E1 H1 → va_S (Ab g) H0 H1 locs1 → W p l e R s m args below meth c H1 locs1 cells slots Q (F0 m (pc + 3) ls rest)) : W p l e R s m args below meth c H locs cells slots Q (F0 m pc ls (.int x :: .ref a :: rest)) :=
  w_put (C := RX1) (T := TX1) (N := 10) (ci := 1) (j := 3) hx hb hown hts hK hge hW hS hla hL rfl rfl (Nat.le_of_ble_eq_true rfl) rfl (by decide) inX1 tyX1 tyX1_ok nmX1 wd_151 rfl rfl (ty := .int) (by decide +kernel) rfl rfl hdg hE kk
theorem p_X1_24 (hx : p.tables.exec = Jvm.exec) (hb : c.code = cc) (hown : s.vm.findClass RX1 = some m.cls) (hts : ∀ w ∈ lw_gd, w.before args s = true) (hK : KK g s) (hge : okL g lay) (hW : Wd g lay E H) (hS : va_S (Ab g) H0 H locs) (hla : lay a = some finE) (hL : E a = L) {x : Int32} (hdg : decode cc pc = .ok (.putfield 24, 3)) (hE : va_up E a (upd L 4 x) = E1) (kk : ∀ (H1 : Heap) (locs1 : List Loc), Wd g lay E1 H1 → va_S (Ab g) H0 H1 locs1 → W p l e R s m args below meth c H1 locs1 cells slots Q (F0 m (pc + 3) ls rest)) : W p l e R s m args below meth c H locs cells slots Q (F0 m pc ls (.int x :: .ref a :: rest)) :=
  w_put (C := RX1) (T := TX1) (N := 10) (ci := 1) (j := 4) hx hb hown hts hK hge hW hS hla hL rfl rfl (Nat.le_of_ble_eq_true rfl) rfl (by decide) inX1 tyX1 tyX1_ok nmX1 wd_153 rfl rfl (ty := .int) (by decide +kernel) rfl rfl hdg hE kk
theorem p_X1_27 (hx : p.tables.exec = Jvm.exec) (hb : c.code = cc) (hown : s.vm.findClass RX1 = some m.cls) (hts : ∀ w ∈ lw_gd, w.before args s = true) (hK : KK g s) (hge : okL g lay) (hW : Wd g lay E H) (hS : va_S (Ab g) H0 H locs) (hla : lay a = some finE) (hL : E a = L) {x : Int32} (hdg : decode cc pc = .ok (.putfield 27, 3)) (hE : va_up E a (upd L 5 x) = E1) (kk : ∀ (H1 : Heap) (locs1 : List Loc), Wd g lay E1 H1 → va_S (Ab g) H0 H1 locs1 → W p l e R s m args below meth c H1 locs1 cells slots Q (F0 m (pc + 3) ls rest)) : W p l e R s m args below meth c H locs cells slots Q (F0 m pc ls (.int x :: .ref a :: rest)) :=
  w_put (C := RX1) (T := TX1) (N := 10) (ci := 1) (j := 5) hx hb hown hts hK hge hW hS hla hL rfl rfl (Nat.le_of_ble_eq_true rfl) rfl (by decide) inX1 tyX1 tyX1_ok nmX1 wd_155 rfl rfl (ty := .int) (by decide +kernel) rfl rfl hdg hE kk
theorem p_X1_30 (hx : p.tables.exec = Jvm.exec) (hb : c.code = cc) (hown : s.vm.findClass RX1 = some m.cls) (hts : ∀ w ∈ lw_gd, w.before args s = true) (hK : KK g s) (hge : okL g lay) (hW : Wd g lay E H) (hS : va_S (Ab g) H0 H locs) (hla : lay a = some finE) (hL : E a = L) {x : Int32} (hdg : decode cc pc = .ok (.putfield 30, 3)) (hE : va_up E a (upd L 6 x) = E1) (kk : ∀ (H1 : Heap) (locs1 : List Loc), Wd g lay E1 H1 → va_S (Ab g) H0 H1 locs1 → W p l e R s m args below meth c H1 locs1 cells slots Q (F0 m (pc + 3) ls rest)) : W p l e R s m args below meth c H locs cells slots Q (F0 m pc ls (.int x :: .ref a :: rest)) :=
  w_put (C := RX1) (T := TX1) (N := 10) (ci := 1) (j := 6) hx hb hown hts hK hge hW hS hla hL rfl rfl (Nat.le_of_ble_eq_true rfl) rfl (by decide) inX1 tyX1 tyX1_ok nmX1 wd_157 rfl rfl (ty := .int) (by decide +kernel) rfl rfl hdg hE kk
theorem p_X1_33 (hx : p.tables.exec = Jvm.exec) (hb : c.code = cc) (hown : s.vm.findClass RX1 = some m.cls) (hts : ∀ w ∈ lw_gd, w.before args s = true) (hK : KK g s) (hge : okL g lay) (hW : Wd g lay E H) (hS : va_S (Ab g) H0 H locs) (hla : lay a = some finE) (hL : E a = L) {x : Int32} (hdg : decode cc pc = .ok (.putfield 33, 3)) (hE : va_up E a (upd L 7 x) = E1) (kk : ∀ (H1 : Heap) (locs1 : List Loc), Wd g lay E1 H1 → va_S (Ab g) H0 H1 locs1 → W p l e R s m args below meth c H1 locs1 cells slots Q (F0 m (pc + 3) ls rest)) : W p l e R s m args below meth c H locs cells slots Q (F0 m pc ls (.int x :: .ref a :: rest)) :=
  w_put (C := RX1) (T := TX1) (N := 10) (ci := 1) (j := 7) hx hb hown hts hK hge hW hS hla hL rfl rfl (Nat.le_of_ble_eq_true rfl) rfl (by decide) inX1 tyX1 tyX1_ok nmX1 wd_159 rfl rfl (ty := .int) (by decide +kernel) rfl rfl hdg hE kk
theorem p_X1_36 (hx : p.tables.exec = Jvm.exec) (hb : c.code = cc) (hown : s.vm.findClass RX1 = some m.cls) (hts : ∀ w ∈ lw_gd, w.before args s = true) (hK : KK g s) (hge : okL g lay) (hW : Wd g lay E H) (hS : va_S (Ab g) H0 H locs) (hla : lay a = some finE) (hL : E a = L) {x : Int32} (hdg : decode cc pc = .ok (.putfield 36, 3)) (hE : va_up E a (upd L 8 x) = E1) (kk : ∀ (H1 : Heap) (locs1 : List Loc), Wd g lay E1 H1 → va_S (Ab g) H0 H1 locs1 → W p l e R s m args below meth c H1 locs1 cells slots Q (F0 m (pc + 3) ls rest)) : W p l e R s m args below meth c H locs cells slots Q (F0 m pc ls (.int x :: .ref a :: rest)) :=
  w_put (C := RX1) (T := TX1) (N := 10) (ci := 1) (j := 8) hx hb hown hts hK hge hW hS hla hL rfl rfl (Nat.le_of_ble_eq_true rfl) rfl (by decide) inX1 tyX1 tyX1_ok nmX1 wd_161 rfl rfl (ty := .int) (by decide +kernel) rfl rfl hdg hE kk
theorem p_X1_39 (hx : p.tables.exec = Jvm.exec) (hb : c.code = cc) (hown : s.vm.findClass RX1 = some m.cls) (hts : ∀ w ∈ lw_gd, w.before args s = true) (hK : KK g s) (hge : okL g lay) (hW : Wd g lay E H) (hS : va_S (Ab g) H0 H locs) (hla : lay a = some finE) (hL : E a = L) {x : Int32} (hdg : decode cc pc = .ok (.putfield 39, 3)) (hE : va_up E a (upd L 9 x) = E1) (kk : ∀ (H1 : Heap) (locs1 : List Loc), Wd g lay E1 H1 → va_S (Ab g) H0 H1 locs1 → W p l e R s m args below meth c H1 locs1 cells slots Q (F0 m (pc + 3) ls rest)) : W p l e R s m args below meth c H locs cells slots Q (F0 m pc ls (.int x :: .ref a :: rest)) :=
  w_put (C := RX1) (T := TX1) (N := 10) (ci := 1) (j := 9) hx hb hown hts hK hge hW hS hla hL rfl rfl (Nat.le_of_ble_eq_true rfl) rfl (by decide) inX1 tyX1 tyX1_ok nmX1 wd_163 rfl rfl (ty := .int) (by decide +kernel) rfl rfl hdg hE kk
theorem g_X2_9 (hx : p.tables.exec = Jvm.exec) (hb : c.code = cc) (hown : s.vm.findClass RX2 = some m.cls) (hts : ∀ w ∈ lw_gd, w.before args s = true) (hK : KK g s) (hW : Wd g lay E H) (hla : lay a = some lineE) (hL : E a = L) (hdg : decode cc pc = .ok (.getfield 9, 3)) (kk : W p l e R s m args below meth c H locs cells slots Q (F0 m (pc + 3) ls (.int (L 0) :: rest))) : W p l e R s m args below meth c H locs cells slots Q (F0 m pc ls (.ref a :: rest)) :=
  w_get (C := RX2) (T := TX2) (N := 9) (ci := 2) (j := 0) hx hb hown hts hK hW hla hL rfl rfl rfl (by decide) inX2 wd_103 rfl hdg kk
theorem g_X2_15 (hx : p.tables.exec = Jvm.exec) (hb : c.code = cc) (hown : s.vm.findClass RX2 = some m.cls) (hts : ∀ w ∈ lw_gd, w.before args s = true) (hK : KK g s) (hW : Wd g lay E H) (hla : lay a = some lineE) (hL : E a = L) (hdg : decode cc pc = .ok (.getfield 15, 3)) (kk : W p l e R s m args below meth c H locs cells slots Q (F0 m (pc + 3) ls (.int (L 1) :: rest))) : W p l e R s m args below meth c H locs cells slots Q (F0 m pc ls (.ref a :: rest)) :=
  w_get (C := RX2) (T := TX2) (N := 9) (ci := 2) (j := 1) hx hb hown hts hK hW hla hL rfl rfl rfl (by decide) inX2 wd_106 rfl hdg kk
theorem g_X2_19 (hx : p.tables.exec = Jvm.exec) (hb : c.code = cc) (hown : s.vm.findClass RX2 = some m.cls) (hts : ∀ w ∈ lw_gd, w.before args s = true) (hK : KK g s) (hW : Wd g lay E H) (hla : lay a = some lineE) (hL : E a = L) (hdg : decode cc pc = .ok (.getfield 19, 3)) (kk : W p l e R s m args below meth c H locs cells slots Q (F0 m (pc + 3) ls (.int (L 2) :: rest))) : W p l e R s m args below meth c H locs cells slots Q (F0 m pc ls (.ref a :: rest)) :=
  w_get (C := RX2) (T := TX2) (N := 9) (ci := 2) (j := 2) hx hb hown hts hK hW hla hL rfl rfl rfl (by decide) inX2 wd_108 rfl hdg kk
theorem g_X2_22 (hx : p.tables.exec = Jvm.exec) (hb : c.code = cc) (hown : s.vm.findClass RX2 = some m.cls) (hts : ∀ w ∈ lw_gd, w.before args s = true) (hK : KK g s) (hW : Wd g lay E H) (hla : lay a = some lineE) (hL : E a = L) (hdg : decode cc pc = .ok (.getfield 22, 3)) (kk : W p l e R s m args below meth c H locs cells slots Q (F0 m (pc + 3) ls (.int (L 3) :: rest))) : W p l e R s m args below meth c H locs cells slots Q (F0 m pc ls (.ref a :: rest)) :=
  w_get (C := RX2) (T := TX2) (N := 9) (ci := 2) (j := 3) hx hb hown hts hK hW hla hL rfl rfl rfl (by decide) inX2 wd_110 rfl hdg kk
theorem g_X2_25 (hx : p.tables.exec = Jvm.exec) (hb : c.code = cc) (hown : s.vm.findClass RX2 = some m.cls) (hts : ∀ w ∈ lw_gd, w.before args s = true) (hK : KK g s) (hW : Wd g lay E H) (hla : lay a = some lineE) (hL : E a = L) (hdg : decode cc pc = .ok (.getfield 25, 3)) (kk : W p l e R s m args below meth c H locs cells slots Q (F0 m (pc + 3) ls (.int (L 4) :: rest))) : W p l e R s m args below meth c H locs cells slots Q (F0 m pc ls (.ref a :: rest)) :=
  w_get (C := RX2) (T := TX2) (N := 9) (ci := 2) (j := 4) hx hb hown hts hK hW hla hL rfl rfl rfl (by decide) inX2 wd_112 rfl hdg kk
theorem g_X2_28 (hx : p.tables.exec = Jvm.exec) (hb : c.code = cc) (hown : s.vm.findClass RX2 = some m.cls) (hts : ∀ w ∈ lw_gd, w.before args s = true) (hK : KK g s) (hW : Wd g lay E H) (hla : lay a = some lineE) (hL : E a = L) (hdg : decode cc pc = .ok (.getfield 28, 3)) (kk : W p l e R s m args below meth c H locs cells slots Q (F0 m (pc + 3) ls (.int (L 5) :: rest))) : W p l e R s m args below meth c H locs cells slots Q (F0 m pc ls (.ref a :: rest)) :=
  w_get (C := RX2) (T := TX2) (N := 9) (ci := 2) (j := 5) hx hb hown hts hK hW hla hL rfl rfl rfl (by decide) inX2 wd_113 rfl hdg kk
theorem g_X2_31 (hx : p.tables.exec = Jvm.exec) (hb : c.code = cc) (hown : s.vm.findClass RX2 = some m.cls) (hts : ∀ w ∈ lw_gd, w.before args s = true) (hK : KK g s) (hW : Wd g lay E H) (hla : lay a = some lineE) (hL : E a = L) (hdg : decode cc pc = .ok (.getfield 31, 3)) (kk : W p l e R s m args below meth c H locs cells slots Q (F0 m (pc + 3) ls (.int (L 6) :: rest))) : W p l e R s m args below meth c H locs cells slots Q (F0 m pc ls (.ref a :: rest)) :=
  w_get (C := RX2) (T := TX2) (N := 9) (ci := 2) (j := 6) hx hb hown hts hK hW hla hL rfl rfl rfl (by decide) inX2 wd_115 rfl hdg kk
theorem g_X2_34 (hx : p.tables.exec = Jvm.exec) (hb : c.code = cc) (hown : s.vm.findClass RX2 = some m.cls) (hts : ∀ w ∈ lw_gd, w.before args s = true) (hK : KK g s) (hW : Wd g lay E H) (hla : lay a = some lineE) (hL : E a = L) (hdg : decode cc pc = .ok (.getfield 34, 3)) (kk : W p l e R s m args below meth c H locs cells slots Q (F0 m (pc + 3) ls (.int (L 7) :: rest))) : W p l e R s m args below meth c H locs cells slots Q (F0 m pc ls (.ref a :: rest)) :=
  w_get (C := RX2) (T := TX2) (N := 9) (ci := 2) (j := 7) hx hb hown hts hK hW hla hL rfl rfl rfl (by decide) inX2 wd_117 rfl hdg kk
theorem g_X2_37 (hx : p.tables.exec = Jvm.exec) (hb : c.code = cc) (hown : s.vm.findClass RX2 = some m.cls) (hts : ∀ w ∈ lw_gd, w.before args s = true) (hK : KK g s) (hW : Wd g lay E H) (hla : lay a = some lineE) (hL : E a = L) (hdg : decode cc pc = .ok (.getfield 37, 3)) (kk : W p l e R s m args below meth c H locs cells slots Q (F0 m (pc + 3) ls (.int (L 8) :: rest))) : W p l e R s m args below meth c H locs cells slots Q (F0 m pc ls (.ref a :: rest)) :=
  w_get (C := RX2) (T := TX2) (N := 9) (ci := 2) (j := 8) hx hb hown hts hK hW hla hL rfl rfl rfl (by decide) inX2 wd_119 rfl hdg kk
theorem p_X2_9 (hx : p.tables.exec = Jvm.exec) (hb : c.code = cc) (hown : s.vm.findClass RX2 = some m.cls) (hts : ∀ w ∈ lw_gd, w.before args s = true) (hK : KK g s) (hge : okL g lay) (hW : Wd g lay E H) (hS : va_S (Ab g) H0 H locs) (hla : lay a = some lineE) (hL : E a = L) {x : Int32} (hdg : decode cc pc = .ok (.putfield 9, 3)) (hE : va_up E a (upd L 0 x) = E1) (kk : ∀ (H1 : Heap) (locs1 : List Loc), Wd g lay E1 H1 → va_S (Ab g) H0 H1 locs1 → W p l e R s m args below meth c H1 locs1 cells slots Q (F0 m (pc + 3) ls rest)) : W p l e R s m args below meth c H locs cells slots Q (F0 m pc ls (.int x :: .ref a :: rest)) :=
  w_put (C := RX2) (T := TX2) (N := 9) (ci := 2) (j := 0) hx hb hown hts hK hge hW hS hla hL rfl rfl (Nat.le_of_ble_eq_true rfl) rfl (by decide) inX2 tyX2 tyX2_ok nmX2 wd_103 rfl rfl (ty := .int) (by decide +kernel) rfl rfl hdg hE kk
theorem p_X2_15 (hx : p.tables.exec = Jvm.exec) (hb : c.code = cc) (hown : s.vm.findClass RX2 = some m.cls) (hts : ∀ w ∈ lw_gd, w.before args s = true) (hK : KK g s) (hge : okL g lay) (hW : Wd g lay E H) (hS : va_S (Ab g) H0 H locs) (hla : lay a = some lineE) (hL : E a = L) {x : Int32} (hz : x = 0 ∨ x = 1) (hdg : decode cc pc = .ok (.putfield 15, 3)) (hE : va_up E a (upd L 1 x) = E1) (kk : ∀ (H1 : Heap) (locs1 : List Loc), Wd g lay E1 H1 → va_S (Ab g) H0 H1 locs1 → W p l e R s m args below meth c H1 locs1 cells slots Q (F0 m (pc + 3) ls rest)) : W p l e R s m args below meth c H locs cells slots Q (F0 m pc ls (.int x :: .ref a :: rest)) :=
  w_put (C := RX2) (T := TX2) (N := 9) (ci := 2) (j := 1) hx hb hown hts hK hge hW hS hla hL rfl rfl (Nat.le_of_ble_eq_true rfl) rfl (by decide) inX2 tyX2 tyX2_ok nmX2 wd_106 rfl rfl (ty := .boolean) (by decide +kernel) (narZ hz) (fitZ hz) hdg hE kk
theorem p_X2_19 (hx : p.tables.exec = Jvm.exec) (hb : c.code = cc) (hown : s.vm.findClass RX2 = some m.cls) (hts : ∀ w ∈ lw_gd, w.before args s = true) (hK : KK g s) (hge : okL g lay) (hW : Wd g lay E H) (hS : va_S (Ab g) H0 H locs) (hla : lay a = some lineE) (hL : E a = L) {x : Int32} (hdg : decode cc pc = .ok (.putfield 19, 3)) (hE : va_up E a (upd L 2 x) = E1) (kk : ∀ (H1 : Heap) (locs1 : List Loc), Wd g lay E1 H1 → va_S (Ab g) H0 H1 locs1 → W p l e R s m args below meth c H1 locs1 cells slots Q (F0 m (pc + 3) ls rest)) : W p l e R s m args below meth c H locs cells slots Q (F0 m pc ls (.int x :: .ref a :: rest)) :=
  w_put (C := RX2) (T := TX2) (N := 9) (ci := 2) (j := 2) hx hb hown hts hK hge hW hS hla hL rfl rfl (Nat.le_of_ble_eq_true rfl) rfl (by decide) inX2 tyX2 tyX2_ok nmX2 wd_108 rfl rfl (ty := .int) (by decide +kernel) rfl rfl hdg hE kk
theorem p_X2_22 (hx : p.tables.exec = Jvm.exec) (hb : c.code = cc) (hown : s.vm.findClass RX2 = some m.cls) (hts : ∀ w ∈ lw_gd, w.before args s = true) (hK : KK g s) (hge : okL g lay) (hW : Wd g lay E H) (hS : va_S (Ab g) H0 H locs) (hla : lay a = some lineE) (hL : E a = L) {x : Int32} (hdg : decode cc pc = .ok (.putfield 22, 3)) (hE : va_up E a (upd L 3 x) = E1) (kk : ∀ (H1 : Heap) (locs1 : List Loc), Wd g lay E1 H1 → va_S (Ab g) H0 H1 locs1 → W p l e R s m args below meth c H1 locs1 cells slots Q (F0 m (pc + 3) ls rest)) : W p l e R s m args below meth c H locs cells slots Q (F0 m pc ls (.int x :: .ref a :: rest)) :=
  w_put (C := RX2) (T := TX2) (N := 9) (ci := 2) (j := 3) hx hb hown hts hK hge hW hS hla hL rfl rfl (Nat.le_of_ble_eq_true rfl) rfl (by decide) inX2 tyX2 tyX2_ok nmX2 wd_110 rfl rfl (ty := .int) (by decide +kernel) rfl rfl hdg hE kk
theorem p_X2_25 (hx : p.tables.exec = Jvm.exec) (hb : c.code = cc) (hown : s.vm.findClass RX2 = some m.cls) (hts : ∀ w ∈ lw_gd, w.before args s = true) (hK : KK g s) (hge : okL g lay) (hW : Wd g lay E H) (hS : va_S (Ab g) H0 H locs) (hla : lay a = some lineE) (hL : E a = L) {x : Int32} (hdg : decode cc pc = .ok (.putfield 25, 3)) (hE : va_up E a (upd L 4 x) = E1) (kk : ∀ (H1 : Heap) (locs1 : List Loc), Wd g lay E1 H1 → va_S (Ab g) H0 H1 locs1 → W p l e R s m args below meth c H1 locs1 cells slots Q (F0 m (pc + 3) ls rest)) : W p l e R s m args below meth c H locs cells slots Q (F0 m pc ls (.int x :: .ref a :: rest)) :=
  w_put (C := RX2) (T := TX2) (N := 9) (ci := 2) (j := 4) hx hb hown hts hK hge hW hS hla hL rfl rfl (Nat.le_of_ble_eq_true rfl) rfl (by decide) inX2 tyX2 tyX2_ok nmX2 wd_112 rfl rfl (ty := .int) (by decide +kernel) rfl rfl hdg hE kk
theorem p_X2_28 (hx : p.tables.exec = Jvm.exec) (hb : c.code = cc) (hown : s.vm.findClass RX2 = some m.cls) (hts : ∀ w ∈ lw_gd, w.before args s = true) (hK : KK g s) (hge : okL g lay) (hW : Wd g lay E H) (hS : va_S (Ab g) H0 H locs) (hla : lay a = some lineE) (hL : E a = L) {x : Int32} (hdg : decode cc pc = .ok (.putfield 28, 3)) (hE : va_up E a (upd L 5 x) = E1) (kk : ∀ (H1 : Heap) (locs1 : List Loc), Wd g lay E1 H1 → va_S (Ab g) H0 H1 locs1 → W p l e R s m args below meth c H1 locs1 cells slots Q (F0 m (pc + 3) ls rest)) : W p l e R s m args below meth c H locs cells slots Q (F0 m pc ls (.int x :: .ref a :: rest)) :=
  w_put (C := RX2) (T := TX2) (N := 9) (ci := 2) (j := 5) hx hb hown hts hK hge hW hS hla hL rfl rfl (Nat.le_of_ble_eq_true rfl) rfl (by decide) inX2 tyX2 tyX2_ok nmX2 wd_113 rfl rfl (ty := .int) (by decide +kernel) rfl rfl hdg hE kk
theorem p_X2_31 (hx : p.tables.exec = Jvm.exec) (hb : c.code = cc) (hown : s.vm.findClass RX2 = some m.cls) (hts : ∀ w ∈ lw_gd, w.before args s = true) (hK : KK g s) (hge : okL g lay) (hW : Wd g lay E H) (hS : va_S (Ab g) H0 H locs) (hla : lay a = some lineE) (hL : E a = L) {x : Int32} (hdg : decode cc pc = .ok (.putfield 31, 3)) (hE : va_up E a (upd L 6 x) = E1) (kk : ∀ (H1 : Heap) (locs1 : List Loc), Wd g lay E1 H1 → va_S (Ab g) H0 H1 locs1 → W p l e R s m args below meth c H1 locs1 cells slots Q (F0 m (pc + 3) ls rest)) : W p l e R s m args below meth c H locs cells slots Q (F0 m pc ls (.int x :: .ref a :: rest)) :=
  w_put (C := RX2) (T := TX2) (N := 9) (ci := 2) (j := 6) hx hb hown hts hK hge hW hS hla hL rfl rfl (Nat.le_of_ble_eq_true rfl) rfl (by decide) inX2 tyX2 tyX2_ok nmX2 wd_115 rfl rfl (ty := .int) (by decide +kernel) rfl rfl hdg hE kk
theorem p_X2_34 (hx : p.tables.exec = Jvm.exec) (hb : c.code = cc) (hown : s.vm.findClass RX2 = some m.cls) (hts : ∀ w ∈ lw_gd, w.before args s = true) (hK : KK g s) (hge : okL g lay) (hW : Wd g lay E H) (hS : va_S (Ab g) H0 H locs) (hla : lay a = some lineE) (hL : E a = L) {x : Int32} (hdg : decode cc pc = .ok (.putfield 34, 3)) (hE : va_up E a (upd L 7 x) = E1) (kk : ∀ (H1 : Heap) (locs1 : List Loc), Wd g lay E1 H1 → va_S (Ab g) H0 H1 locs1 → W p l e R s m args below meth c H1 locs1 cells slots Q (F0 m (pc + 3) ls rest)) : W p l e R s m args below meth c H locs cells slots Q (F0 m pc ls (.int x :: .ref a :: rest)) :=
  w_put (C := RX2) (T := TX2) (N := 9) (ci := 2) (j := 7) hx hb hown hts hK hge hW hS hla hL rfl rfl (Nat.le_of_ble_eq_true rfl) rfl (by decide) inX2 tyX2 tyX2_ok nmX2 wd_117 rfl rfl (ty := .int) (by decide +kernel) rfl rfl hdg hE kk
theorem p_X2_37 (hx : p.tables.exec = Jvm.exec) (hb : c.code = cc) (hown : s.vm.findClass RX2 = some m.cls) (hts : ∀ w ∈ lw_gd, w.before args s = true) (hK : KK g s) (hge : okL g lay) (hW : Wd g lay E H) (hS : va_S (Ab g) H0 H locs) (hla : lay a = some lineE) (hL : E a = L) {x : Int32} (hdg : decode cc pc = .ok (.putfield 37, 3)) (hE : va_up E a (upd L 8 x) = E1) (kk : ∀ (H1 : Heap) (locs1 : List Loc), Wd g lay E1 H1 → va_S (Ab g) H0 H1 locs1 → W p l e R s m args below meth c H1 locs1 cells slots Q (F0 m (pc + 3) ls rest)) : W p l e R s m args below meth c H locs cells slots Q (F0 m pc ls (.int x :: .ref a :: rest)) :=
  w_put (C := RX2) (T := TX2) (N := 9) (ci := 2) (j := 8) hx hb hown hts hK hge hW hS hla hL rfl rfl (Nat.le_of_ble_eq_true rfl) rfl (by decide) inX2 tyX2 tyX2_ok nmX2 wd_119 rfl rfl (ty := .int) (by decide +kernel) rfl rfl hdg hE kk
theorem g_X3_9 (hx : p.tables.exec = Jvm.exec) (hb : c.code = cc) (hown : s.vm.findClass RX3 = some m.cls) (hts : ∀ w ∈ lw_gd, w.before args s = true) (hK : KK g s) (hW : Wd g lay E H) (hla : lay a = some (padE o)) (hL : E a = L) (hdg : decode cc pc = .ok (.getfield 9, 3)) (kk : W p l e R s m args below meth c H locs cells slots Q (F0 m (pc + 3) ls (.ref (o + 1) :: rest))) : W p l e R s m args below meth c H locs cells slots Q (F0 m pc ls (.ref a :: rest)) :=
  w_get (C := RX3) (T := TX3) (N := 2) (ci := 3) (j := 0) hx hb hown hts hK hW hla hL rfl rfl rfl (by decide) inX3 wd_255 rfl hdg kk
theorem g_X3_15 (hx : p.tables.exec = Jvm.exec) (hb : c.code = cc) (hown : s.vm.findClass RX3 = some m.cls) (hts : ∀ w ∈ lw_gd, w.before args s = true) (hK : KK g s) (hW : Wd g lay E H) (hla : lay a = some (padE o)) (hL : E a = L) (hdg : decode cc pc = .ok (.getfield 15, 3)) (kk : W p l e R s m args below meth c H locs cells slots Q (F0 m (pc + 3) ls (.int (L 1) :: rest))) : W p l e R s m args below meth c H locs cells slots Q (F0 m pc ls (.ref a :: rest)) :=
  w_get (C := RX3) (T := TX3) (N := 2) (ci := 3) (j := 1) hx hb hown hts hK hW hla hL rfl rfl rfl (by decide) inX3 wd_256 rfl hdg kk
theorem p_X3_15 (hx : p.tables.exec = Jvm.exec) (hb : c.code = cc) (hown : s.vm.findClass RX3 = some m.cls) (hts : ∀ w ∈ lw_gd, w.before args s = true) (hK : KK g s) (hge : okL g lay) (hW : Wd g lay E H) (hS : va_S (Ab g) H0 H locs) (hla : lay a = some (padE o)) (hL : E a = L) {x : Int32} (hdg : decode cc pc = .ok (.putfield 15, 3)) (hE : va_up E a (upd L 1 x) = E1) (kk : ∀ (H1 : Heap) (locs1 : List Loc), Wd g lay E1 H1 → va_S (Ab g) H0 H1 locs1 → W p l e R s m args below meth c H1 locs1 cells slots Q (F0 m (pc + 3) ls rest)) : W p l e R s m args below meth c H locs cells slots Q (F0 m pc ls (.int x :: .ref a :: rest)) :=
  w_put (C := RX3) (T := TX3) (N := 2) (ci := 3) (j := 1) hx hb hown hts hK hge hW hS hla hL rfl rfl (Nat.le_of_ble_eq_true rfl) rfl (by decide) inX3 tyX3 tyX3_ok nmX3 wd_256 rfl rfl (ty := .int) (by decide +kernel) rfl rfl hdg hE kk
theorem g_X4_10 (hx : p.tables.exec = Jvm.exec) (hb : c.code = cc) (hown : s.vm.findClass RX4 = some m.cls) (hts : ∀ w ∈ lw_gd, w.before args s = true) (hK : KK g s) (hW : Wd g lay E H) (hla : lay a = some (rotE o)) (hL : E a = L) (hdg : decode cc pc = .ok (.getfield 10, 3)) (kk : W p l e R s m args below meth c H locs cells slots Q (F0 m (pc + 3) ls (.ref (o + 1) :: rest))) : W p l e R s m args below meth c H locs cells slots Q (F0 m pc ls (.ref a :: rest)) :=
  w_get (C := RX4) (T := TX4) (N := 4) (ci := 4) (j := 0) hx hb hown hts hK hW hla hL rfl rfl rfl (by decide) inX4 wd_263 rfl hdg kk
theorem g_X4_16 (hx : p.tables.exec = Jvm.exec) (hb : c.code = cc) (hown : s.vm.findClass RX4 = some m.cls) (hts : ∀ w ∈ lw_gd, w.before args s = true) (hK : KK g s) (hW : Wd g lay E H) (hla : lay a = some (rotE o)) (hL : E a = L) (hdg : decode cc pc = .ok (.getfield 16, 3)) (kk : W p l e R s m args below meth c H locs cells slots Q (F0 m (pc + 3) ls (.ref (o + 27) :: rest))) : W p l e R s m args below meth c H locs cells slots Q (F0 m pc ls (.ref a :: rest)) :=
  w_get (C := RX4) (T := TX4) (N := 4) (ci := 4) (j := 1) hx hb hown hts hK hW hla hL rfl rfl rfl (by decide) inX4 wd_264 rfl hdg kk
theorem g_X4_19 (hx : p.tables.exec = Jvm.exec) (hb : c.code = cc) (hown : s.vm.findClass RX4 = some m.cls) (hts : ∀ w ∈ lw_gd, w.before args s = true) (hK : KK g s) (hW : Wd g lay E H) (hla : lay a = some (rotE o)) (hL : E a = L) (hdg : decode cc pc = .ok (.getfield 19, 3)) (kk : W p l e R s m args below meth c H locs cells slots Q (F0 m (pc + 3) ls (.ref (o + 53) :: rest))) : W p l e R s m args below meth c H locs cells slots Q (F0 m pc ls (.ref a :: rest)) :=
  w_get (C := RX4) (T := TX4) (N := 4) (ci := 4) (j := 2) hx hb hown hts hK hW hla hL rfl rfl rfl (by decide) inX4 wd_265 rfl hdg kk
theorem g_X4_26 (hx : p.tables.exec = Jvm.exec) (hb : c.code = cc) (hown : s.vm.findClass RX4 = some m.cls) (hts : ∀ w ∈ lw_gd, w.before args s = true) (hK : KK g s) (hW : Wd g lay E H) (hla : lay a = some (rotE o)) (hL : E a = L) (hdg : decode cc pc = .ok (.getfield 26, 3)) (kk : W p l e R s m args below meth c H locs cells slots Q (F0 m (pc + 3) ls (.ref (o + 54) :: rest))) : W p l e R s m args below meth c H locs cells slots Q (F0 m pc ls (.ref a :: rest)) :=
  w_get (C := RX4) (T := TX4) (N := 4) (ci := 4) (j := 3) hx hb hown hts hK hW hla hL rfl rfl rfl (by decide) inX4 wd_266 rfl hdg kk
theorem g_X4_34 (hx : p.tables.exec = Jvm.exec) (hb : c.code = cc) (hown : s.vm.findClass RX4 = some m.cls) (hts : ∀ w ∈ lw_gd, w.before args s = true) (hK : KK g s) (hW : Wd g lay E H) (hla : lay a = some (exE o)) (hL : E a = L) (hdg : decode cc pc = .ok (.getfield 34, 3)) (kk : W p l e R s m args below meth c H locs cells slots Q (F0 m (pc + 3) ls (.int (L 5) :: rest))) : W p l e R s m args below meth c H locs cells slots Q (F0 m pc ls (.ref a :: rest)) :=
  w_get (C := RX0) (T := TX0) (N := 16) (ci := 0) (j := 5) hx hb hown hts hK hW hla hL rfl rfl rfl (by decide) inX0 wd_201 rfl hdg kk
theorem g_X4_71 (hx : p.tables.exec = Jvm.exec) (hb : c.code = cc) (hown : s.vm.findClass RX4 = some m.cls) (hts : ∀ w ∈ lw_gd, w.before args s = true) (hK : KK g s) (hW : Wd g lay E H) (hla : lay a = some (exE o)) (hL : E a = L) (hdg : decode cc pc = .ok (.getfield 71, 3)) (kk : W p l e R s m args below meth c H locs cells slots Q (F0 m (pc + 3) ls (.int (L 7) :: rest))) : W p l e R s m args below meth c H locs cells slots Q (F0 m pc ls (.ref a :: rest)) :=
  w_get (C := RX0) (T := TX0) (N := 16) (ci := 0) (j := 7) hx hb hown hts hK hW hla hL rfl rfl rfl (by decide) inX0 wd_205 rfl hdg kk
theorem g_X4_86 (hx : p.tables.exec = Jvm.exec) (hb : c.code = cc) (hown : s.vm.findClass RX4 = some m.cls) (hts : ∀ w ∈ lw_gd, w.before args s = true) (hK : KK g s) (hW : Wd g lay E H) (hla : lay a = some (exE o)) (hL : E a = L) (hdg : decode cc pc = .ok (.getfield 86, 3)) (kk : W p l e R s m args below meth c H locs cells slots Q (F0 m (pc + 3) ls (.int (L 6) :: rest))) : W p l e R s m args below meth c H locs cells slots Q (F0 m pc ls (.ref a :: rest)) :=
  w_get (C := RX0) (T := TX0) (N := 16) (ci := 0) (j := 6) hx hb hown hts hK hW hla hL rfl rfl rfl (by decide) inX0 wd_203 rfl hdg kk
theorem g_X4_92 (hx : p.tables.exec = Jvm.exec) (hb : c.code = cc) (hown : s.vm.findClass RX4 = some m.cls) (hts : ∀ w ∈ lw_gd, w.before args s = true) (hK : KK g s) (hW : Wd g lay E H) (hla : lay a = some (padE o)) (hL : E a = L) (hdg : decode cc pc = .ok (.getfield 92, 3)) (kk : W p l e R s m args below meth c H locs cells slots Q (F0 m (pc + 3) ls (.int (L 1) :: rest))) : W p l e R s m args below meth c H locs cells slots Q (F0 m pc ls (.ref a :: rest)) :=
  w_get (C := RX3) (T := TX3) (N := 2) (ci := 3) (j := 1) hx hb hown hts hK hW hla hL rfl rfl rfl (by decide) inX3 wd_257 rfl hdg kk
theorem g_X4_111 (hx : p.tables.exec = Jvm.exec) (hb : c.code = cc) (hown : s.vm.findClass RX4 = some m.cls) (hts : ∀ w ∈ lw_gd, w.before args s = true) (hK : KK g s) (hW : Wd g lay E H) (hla : lay a = some lineE) (hL : E a = L) (hdg : decode cc pc = .ok (.getfield 111, 3)) (kk : W p l e R s m args below meth c H locs cells slots Q (F0 m (pc + 3) ls (.int (L 0) :: rest))) : W p l e R s m args below meth c H locs cells slots Q (F0 m pc ls (.ref a :: rest)) :=
  w_get (C := RX2) (T := TX2) (N := 9) (ci := 2) (j := 0) hx hb hown hts hK hW hla hL rfl rfl rfl (by decide) inX2 wd_105 rfl hdg kk
theorem p_X4_92 (hx : p.tables.exec = Jvm.exec) (hb : c.code = cc) (hown : s.vm.findClass RX4 = some m.cls) (hts : ∀ w ∈ lw_gd, w.before args s = true) (hK : KK g s) (hge : okL g lay) (hW : Wd g lay E H) (hS : va_S (Ab g) H0 H locs) (hla : lay a = some (padE o)) (hL : E a = L) {x : Int32} (hdg : decode cc pc = .ok (.putfield 92, 3)) (hE : va_up E a (upd L 1 x) = E1) (kk : ∀ (H1 : Heap) (locs1 : List Loc), Wd g lay E1 H1 → va_S (Ab g) H0 H1 locs1 → W p l e R s m args below meth c H1 locs1 cells slots Q (F0 m (pc + 3) ls rest)) : W p l e R s m args below meth c H locs cells slots Q (F0 m pc ls (.int x :: .ref a :: rest)) :=
  w_put (C := RX3) (T := TX3) (N := 2) (ci := 3) (j := 1) hx hb hown hts hK hge hW hS hla hL rfl rfl (Nat.le_of_ble_eq_true rfl) rfl (by decide) inX3 tyX3 tyX3_ok nmX3 wd_257 rfl rfl (ty := .int) (by decide +kernel) rfl rfl hdg hE kk
theorem g_X5_7 (hx : p.tables.exec = Jvm.exec) (hb : c.code = cc) (hown : s.vm.findClass RX5 = some m.cls) (hts : ∀ w ∈ lw_gd, w.before args s = true) (hK : KK g s) (hW : Wd g lay E H) (hla : lay a = some (modE o)) (hL : E a = L) (hdg : decode cc pc = .ok (.getfield 7, 3)) (kk : W p l e R s m args below meth c H locs cells slots Q (F0 m (pc + 3) ls (.ref (o + 1) :: rest))) : W p l e R s m args below meth c H locs cells slots Q (F0 m pc ls (.ref a :: rest)) :=
  w_get (C := RX5) (T := TX5) (N := 10) (ci := 5) (j := 0) hx hb hown hts hK hW hla hL rfl rfl rfl (by decide) inX5 wd_667 rfl hdg kk
theorem g_X5_13 (hx : p.tables.exec = Jvm.exec) (hb : c.code = cc) (hown : s.vm.findClass RX5 = some m.cls) (hts : ∀ w ∈ lw_gd, w.before args s = true) (hK : KK g s) (hW : Wd g lay E H) (hla : lay a = some (modE o)) (hL : E a = L) (hdg : decode cc pc = .ok (.getfield 13, 3)) (kk : W p l e R s m args below meth c H locs cells slots Q (F0 m (pc + 3) ls (.ref (o + 2) :: rest))) : W p l e R s m args below meth c H locs cells slots Q (F0 m pc ls (.ref a :: rest)) :=
  w_get (C := RX5) (T := TX5) (N := 10) (ci := 5) (j := 1) hx hb hown hts hK hW hla hL rfl rfl rfl (by decide) inX5 wd_668 rfl hdg kk
theorem g_X5_16 (hx : p.tables.exec = Jvm.exec) (hb : c.code = cc) (hown : s.vm.findClass RX5 = some m.cls) (hts : ∀ w ∈ lw_gd, w.before args s = true) (hK : KK g s) (hW : Wd g lay E H) (hla : lay a = some (modE o)) (hL : E a = L) (hdg : decode cc pc = .ok (.getfield 16, 3)) (kk : W p l e R s m args below meth c H locs cells slots Q (F0 m (pc + 3) ls (.ref (o + 3) :: rest))) : W p l e R s m args below meth c H locs cells slots Q (F0 m pc ls (.ref a :: rest)) :=
  w_get (C := RX5) (T := TX5) (N := 10) (ci := 5) (j := 2) hx hb hown hts hK hW hla hL rfl rfl rfl (by decide) inX5 wd_669 rfl hdg kk
theorem g_X5_19 (hx : p.tables.exec = Jvm.exec) (hb : c.code = cc) (hown : s.vm.findClass RX5 = some m.cls) (hts : ∀ w ∈ lw_gd, w.before args s = true) (hK : KK g s) (hW : Wd g lay E H) (hla : lay a = some (modE o)) (hL : E a = L) (hdg : decode cc pc = .ok (.getfield 19, 3)) (kk : W p l e R s m args below meth c H locs cells slots Q (F0 m (pc + 3) ls (.ref (o + 4) :: rest))) : W p l e R s m args below meth c H locs cells slots Q (F0 m pc ls (.ref a :: rest)) :=
  w_get (C := RX5) (T := TX5) (N := 10) (ci := 5) (j := 3) hx hb hown hts hK hW hla hL rfl rfl rfl (by decide) inX5 wd_670 rfl hdg kk
theorem g_X5_23 (hx : p.tables.exec = Jvm.exec) (hb : c.code = cc) (hown : s.vm.findClass RX5 = some m.cls) (hts : ∀ w ∈ lw_gd, w.before args s = true) (hK : KK g s) (hW : Wd g lay E H) (hla : lay a = some (modE o)) (hL : E a = L) (hdg : decode cc pc = .ok (.getfield 23, 3)) (kk : W p l e R s m args below meth c H locs cells slots Q (F0 m (pc + 3) ls (.ref (o + 5) :: rest))) : W p l e R s m args below meth c H locs cells slots Q (F0 m pc ls (.ref a :: rest)) :=
  w_get (C := RX5) (T := TX5) (N := 10) (ci := 5) (j := 4) hx hb hown hts hK hW hla hL rfl rfl rfl (by decide) inX5 wd_671 rfl hdg kk
theorem g_X5_26 (hx : p.tables.exec = Jvm.exec) (hb : c.code = cc) (hown : s.vm.findClass RX5 = some m.cls) (hts : ∀ w ∈ lw_gd, w.before args s = true) (hK : KK g s) (hW : Wd g lay E H) (hla : lay a = some (modE o)) (hL : E a = L) (hdg : decode cc pc = .ok (.getfield 26, 3)) (kk : W p l e R s m args below meth c H locs cells slots Q (F0 m (pc + 3) ls (.ref (o + 6) :: rest))) : W p l e R s m args below meth c H locs cells slots Q (F0 m pc ls (.ref a :: rest)) :=
  w_get (C := RX5) (T := TX5) (N := 10) (ci := 5) (j := 8) hx hb hown hts hK hW hla hL rfl rfl rfl (by decide) inX5 wd_675 rfl hdg kk
theorem g_X5_165 (hx : p.tables.exec = Jvm.exec) (hb : c.code = cc) (hown : s.vm.findClass RX5 = some m.cls) (hts : ∀ w ∈ lw_gd, w.before args s = true) (hK : KK g s) (hW : Wd g lay E H) (hla : lay a = some (modE o)) (hL : E a = L) (hdg : decode cc pc = .ok (.getfield 165, 3)) (kk : W p l e R s m args below meth c H locs cells slots Q (F0 m (pc + 3) ls (.int (L 5) :: rest))) : W p l e R s m args below meth c H locs cells slots Q (F0 m pc ls (.ref a :: rest)) :=
  w_get (C := RX5) (T := TX5) (N := 10) (ci := 5) (j := 5) hx hb hown hts hK hW hla hL rfl rfl rfl (by decide) inX5 wd_672 rfl hdg kk
theorem g_X5_186 (hx : p.tables.exec = Jvm.exec) (hb : c.code = cc) (hown : s.vm.findClass RX5 = some m.cls) (hts : ∀ w ∈ lw_gd, w.before args s = true) (hK : KK g s) (hW : Wd g lay E H) (hla : lay a = some (modE o)) (hL : E a = L) (hdg : decode cc pc = .ok (.getfield 186, 3)) (kk : W p l e R s m args below meth c H locs cells slots Q (F0 m (pc + 3) ls (.int (L 6) :: rest))) : W p l e R s m args below meth c H locs cells slots Q (F0 m pc ls (.ref a :: rest)) :=
  w_get (C := RX5) (T := TX5) (N := 10) (ci := 5) (j := 6) hx hb hown hts hK hW hla hL rfl rfl rfl (by decide) inX5 wd_673 rfl hdg kk
theorem g_X5_196 (hx : p.tables.exec = Jvm.exec) (hb : c.code = cc) (hown : s.vm.findClass RX5 = some m.cls) (hts : ∀ w ∈ lw_gd, w.before args s = true) (hK : KK g s) (hW : Wd g lay E H) (hla : lay a = some (modE o)) (hL : E a = L) (hdg : decode cc pc = .ok (.getfield 196, 3)) (kk : W p l e R s m args below meth c H locs cells slots Q (F0 m (pc + 3) ls (.int (L 7) :: rest))) : W p l e R s m args below meth c H locs cells slots Q (F0 m pc ls (.ref a :: rest)) :=
  w_get (C := RX5) (T := TX5) (N := 10) (ci := 5) (j := 7) hx hb hown hts hK hW hla hL rfl rfl rfl (by decide) inX5 wd_674 rfl hdg kk
theorem g_X5_200 (hx : p.tables.exec = Jvm.exec) (hb : c.code = cc) (hown : s.vm.findClass RX5 = some m.cls) (hts : ∀ w ∈ lw_gd, w.before args s = true) (hK : KK g s) (hW : Wd g lay E H) (hla : lay a = some (modE o)) (hL : E a = L) (hdg : decode cc pc = .ok (.getfield 200, 3)) (kk : W p l e R s m args below meth c H locs cells slots Q (F0 m (pc + 3) ls (.int (L 9) :: rest))) : W p l e R s m args below meth c H locs cells slots Q (F0 m pc ls (.ref a :: rest)) :=
  w_get (C := RX5) (T := TX5) (N := 10) (ci := 5) (j := 9) hx hb hown hts hK hW hla hL rfl rfl rfl (by decide) inX5 wd_676 rfl hdg kk
theorem p_X5_165 (hx : p.tables.exec = Jvm.exec) (hb : c.code = cc) (hown : s.vm.findClass RX5 = some m.cls) (hts : ∀ w ∈ lw_gd, w.before args s = true) (hK : KK g s) (hge : okL g lay) (hW : Wd g lay E H) (hS : va_S (Ab g) H0 H locs) (hla : lay a = some (modE o)) (hL : E a = L) {x : Int32} (hdg : decode cc pc = .ok (.putfield 165, 3)) (hE : va_up E a (upd L 5 x) = E1) (kk : ∀ (H1 : Heap) (locs1 : List Loc), Wd g lay E1 H1 → va_S (Ab g) H0 H1 locs1 → W p l e R s m args below meth c H1 locs1 cells slots Q (F0 m (pc + 3) ls rest)) : W p l e R s m args below meth c H locs cells slots Q (F0 m pc ls (.int x :: .ref a :: rest)) :=
  w_put (C := RX5) (T := TX5) (N := 10) (ci := 5) (j := 5) hx hb hown hts hK hge hW hS hla hL rfl rfl (Nat.le_of_ble_eq_true rfl) rfl (by decide) inX5 tyX5 tyX5_ok nmX5 wd_672 rfl rfl (ty := .int) (by decide +kernel) rfl rfl hdg hE kk
theorem p_X5_186 (hx : p.tables.exec = Jvm.exec) (hb : c.code = cc) (hown : s.vm.findClass RX5 = some m.cls) (hts : ∀ w ∈ lw_gd, w.before args s = true) (hK : KK g s) (hge : okL g lay) (hW : Wd g lay E H) (hS : va_S (Ab g) H0 H locs) (hla : lay a = some (modE o)) (hL : E a = L) {x : Int32} (hdg : decode cc pc = .ok (.putfield 186, 3)) (hE : va_up E a (upd L 6 x) = E1) (kk : ∀ (H1 : Heap) (locs1 : List Loc), Wd g lay E1 H1 → va_S (Ab g) H0 H1 locs1 → W p l e R s m args below meth c H1 locs1 cells slots Q (F0 m (pc + 3) ls rest)) : W p l e R s m args below meth c H locs cells slots Q (F0 m pc ls (.int x :: .ref a :: rest)) :=
  w_put (C := RX5) (T := TX5) (N := 10) (ci := 5) (j := 6) hx hb hown hts hK hge hW hS hla hL rfl rfl (Nat.le_of_ble_eq_true rfl) rfl (by decide) inX5 tyX5 tyX5_ok nmX5 wd_673 rfl rfl (ty := .int) (by decide +kernel) rfl rfl hdg hE kk
theorem p_X5_196 (hx : p.tables.exec = Jvm.exec) (hb : c.code = cc) (hown : s.vm.findClass RX5 = some m.cls) (hts : ∀ w ∈ lw_gd, w.before args s = true) (hK : KK g s) (hge : okL g lay) (hW : Wd g lay E H) (hS : va_S (Ab g) H0 H locs) (hla : lay a = some (modE o)) (hL : E a = L) {x : Int32} (hz : x = 0 ∨ x = 1) (hdg : decode cc pc = .ok (.putfield 196, 3)) (hE : va_up E a (upd L 7 x) = E1) (kk : ∀ (H1 : Heap) (locs1 : List Loc), Wd g lay E1 H1 → va_S (Ab g) H0 H1 locs1 → W p l e R s m args below meth c H1 locs1 cells slots Q (F0 m (pc + 3) ls rest)) : W p l e R s m args below meth c H locs cells slots Q (F0 m pc ls (.int x :: .ref a :: rest)) :=
  w_put (C := RX5) (T := TX5) (N := 10) (ci := 5) (j := 7) hx hb hown hts hK hge hW hS hla hL rfl rfl (Nat.le_of_ble_eq_true rfl) rfl (by decide) inX5 tyX5 tyX5_ok nmX5 wd_674 rfl rfl (ty := .boolean) (by decide +kernel) (narZ hz) (fitZ hz) hdg hE kk
theorem p_X5_200 (hx : p.tables.exec = Jvm.exec) (hb : c.code = cc) (hown : s.vm.findClass RX5 = some m.cls) (hts : ∀ w ∈ lw_gd, w.before args s = true) (hK : KK g s) (hge : okL g lay) (hW : Wd g lay E H) (hS : va_S (Ab g) H0 H locs) (hla : lay a = some (modE o)) (hL : E a = L) {x : Int32} (hdg : decode cc pc = .ok (.putfield 200, 3)) (hE : va_up E a (upd L 9 x) = E1) (kk : ∀ (H1 : Heap) (locs1 : List Loc), Wd g lay E1 H1 → va_S (Ab g) H0 H1 locs1 → W p l e R s m args below meth c H1 locs1 cells slots Q (F0 m (pc + 3) ls rest)) : W p l e R s m args below meth c H locs cells slots Q (F0 m pc ls (.int x :: .ref a :: rest)) :=
  w_put (C := RX5) (T := TX5) (N := 10) (ci := 5) (j := 9) hx hb hown hts hK hge hW hS hla hL rfl rfl (Nat.le_of_ble_eq_true rfl) rfl (by decide) inX5 tyX5 tyX5_ok nmX5 wd_676 rfl rfl (ty := .int) (by decide +kernel) rfl rfl hdg hE kk
end FR
section CR
variable {R : Room} {s : State} {args : Array Value}
theorem k_L_13 (hts : ∀ w ∈ lw_gd, w.before args s = true) (hR : rmX4_setUp.frames + 1 ≤ R.frames ∧ 8 + (4 + 11) + rmX4_setUp.locals ≤ R.locals) : CallW R s args RL RX4 13 yX4_setUp cX4_setUp 4 (some .int) wsX4_setUp rmX4_setUp 0 0 2 :=
  cwV 2 hts (gd_GV wd_276 wd_277 wd_278 wd_74 wd_279) rfl rfl rfl (by decide +kernel) hR
theorem k_L_17 (hts : ∀ w ∈ lw_gd, w.before args s = true) (hR : rmX5_setUp.frames + 1 ≤ R.frames ∧ 8 + (4 + 11) + rmX5_setUp.locals ≤ R.locals) : CallW R s args RL RX5 17 yX5_setUp cX5_setUp 4 (some .int) wsX5_setUp rmX5_setUp 0 0 2 :=
  cwV 2 hts (gd_GV wd_699 wd_700 wd_701 wd_79 wd_702) rfl rfl rfl (by decide +kernel) hR
theorem k_L_18 (hts : ∀ w ∈ lw_gd, w.before args s = true) (hR : rmX4_set.frames + 1 ≤ R.frames ∧ 8 + (3 + 11) + rmX4_set.locals ≤ R.locals) : CallW R s args RL RX4 18 yX4_set cX4_set 3 (some .int) wsX4_set rmX4_set 0 0 2 :=
  cwV 2 hts (gd_GV wd_315 wd_316 wd_317 wd_74 wd_318) rfl rfl rfl (by decide +kernel) hR
theorem k_L_21 (hts : ∀ w ∈ lw_gd, w.before args s = true) (hR : rmX5_set.frames + 1 ≤ R.frames ∧ 8 + (4 + 11) + rmX5_set.locals ≤ R.locals) : CallW R s args RL RX5 21 yX5_set cX5_set 4 (some .int) wsX5_set rmX5_set 0 0 2 :=
  cwV 2 hts (gd_GV wd_703 wd_704 wd_705 wd_79 wd_706) rfl rfl rfl (by decide +kernel) hR
theorem k_L_22 (hts : ∀ w ∈ lw_gd, w.before args s = true) (hR : rmX4_lift.frames + 1 ≤ R.frames ∧ 8 + (2 + 11) + rmX4_lift.locals ≤ R.locals) : CallW R s args RL RX4 22 yX4_lift cX4_lift 2 (some .int) wsX4_lift rmX4_lift 0 0 1 :=
  cwV 1 hts (gd_GV wd_329 wd_330 wd_331 wd_74 wd_332) rfl rfl rfl (by decide +kernel) hR
theorem k_L_26 (hts : ∀ w ∈ lw_gd, w.before args s = true) (hR : rmX5_lift.frames + 1 ≤ R.frames ∧ 8 + (2 + 11) + rmX5_lift.locals ≤ R.locals) : CallW R s args RL RX5 26 yX5_lift cX5_lift 2 (some .int) wsX5_lift rmX5_lift 0 0 1 :=
  cwV 1 hts (gd_GV wd_714 wd_715 wd_716 wd_79 wd_717) rfl rfl rfl (by decide +kernel) hR
theorem k_L_27 (hts : ∀ w ∈ lw_gd, w.before args s = true) (hR : rmX4_hang.frames + 1 ≤ R.frames ∧ 8 + (2 + 11) + rmX4_hang.locals ≤ R.locals) : CallW R s args RL RX4 27 yX4_hang cX4_hang 2 (some .int) wsX4_hang rmX4_hang 0 0 1 :=
  cwV 1 hts (gd_GV wd_340 wd_341 wd_342 wd_74 wd_343) rfl rfl rfl (by decide +kernel) hR
theorem k_L_30 (hts : ∀ w ∈ lw_gd, w.before args s = true) (hR : rmX5_hang.frames + 1 ≤ R.frames ∧ 8 + (3 + 11) + rmX5_hang.locals ≤ R.locals) : CallW R s args RL RX5 30 yX5_hang cX5_hang 3 (some .int) wsX5_hang rmX5_hang 0 0 1 :=
  cwV 1 hts (gd_GV wd_733 wd_734 wd_735 wd_79 wd_736) rfl rfl rfl (by decide +kernel) hR
theorem k_L_31 (hts : ∀ w ∈ lw_gd, w.before args s = true) (hR : rmX4_dial.frames + 1 ≤ R.frames ∧ 8 + (3 + 11) + rmX4_dial.locals ≤ R.locals) : CallW R s args RL RX4 31 yX4_dial cX4_dial 3 (some .int) wsX4_dial rmX4_dial 0 0 2 :=
  cwV 2 hts (gd_GV wd_358 wd_359 wd_360 wd_74 wd_361) rfl rfl rfl (by decide +kernel) hR
theorem k_L_34 (hts : ∀ w ∈ lw_gd, w.before args s = true) (hR : rmX5_dial.frames + 1 ≤ R.frames ∧ 8 + (4 + 11) + rmX5_dial.locals ≤ R.locals) : CallW R s args RL RX5 34 yX5_dial cX5_dial 4 (some .int) wsX5_dial rmX5_dial 0 0 2 :=
  cwV 2 hts (gd_GV wd_749 wd_750 wd_751 wd_79 wd_752) rfl rfl rfl (by decide +kernel) hR
theorem k_L_35 (hts : ∀ w ∈ lw_gd, w.before args s = true) (hR : rmX4_tick.frames + 1 ≤ R.frames ∧ 8 + (2 + 11) + rmX4_tick.locals ≤ R.locals) : CallW R s args RL RX4 35 yX4_tick cX4_tick 2 (some .int) wsX4_tick rmX4_tick 0 0 1 :=
  cwV 1 hts (gd_GV wd_370 wd_371 wd_372 wd_74 wd_373) rfl rfl rfl (by decide +kernel) hR
theorem k_L_38 (hts : ∀ w ∈ lw_gd, w.before args s = true) (hR : rmX5_tick.frames + 1 ≤ R.frames ∧ 8 + (3 + 11) + rmX5_tick.locals ≤ R.locals) : CallW R s args RL RX5 38 yX5_tick cX5_tick 3 (some .int) wsX5_tick rmX5_tick 0 0 1 :=
  cwV 1 hts (gd_GV wd_753 wd_754 wd_755 wd_79 wd_756) rfl rfl rfl (by decide +kernel) hR
theorem k_L_39 (hts : ∀ w ∈ lw_gd, w.before args s = true) (hR : rmX4_line.frames + 1 ≤ R.frames ∧ 8 + (3 + 11) + rmX4_line.locals ≤ R.locals) : CallW R s args RL RX4 39 yX4_line cX4_line 3 (some .int) wsX4_line rmX4_line 0 0 2 :=
  cwV 2 hts (gd_GV wd_460 wd_461 wd_462 wd_74 wd_463) rfl rfl rfl (by decide +kernel) hR
theorem k_L_42 (hts : ∀ w ∈ lw_gd, w.before args s = true) (hR : rmX5_line.frames + 1 ≤ R.frames ∧ 8 + (3 + 11) + rmX5_line.locals ≤ R.locals) : CallW R s args RL RX5 42 yX5_line cX5_line 3 (some .int) wsX5_line rmX5_line 0 0 2 :=
  cwV 2 hts (gd_GV wd_838 wd_839 wd_840 wd_79 wd_841) rfl rfl rfl (by decide +kernel) hR
theorem k_L_43 (hts : ∀ w ∈ lw_gd, w.before args s = true) (hR : rmX4_finder.frames + 1 ≤ R.frames ∧ 8 + (3 + 11) + rmX4_finder.locals ≤ R.locals) : CallW R s args RL RX4 43 yX4_finder cX4_finder 3 (some .int) wsX4_finder rmX4_finder 0 0 2 :=
  cwV 2 hts (gd_GV wd_480 wd_481 wd_482 wd_74 wd_483) rfl rfl rfl (by decide +kernel) hR
theorem k_L_46 (hts : ∀ w ∈ lw_gd, w.before args s = true) (hR : rmX5_finder.frames + 1 ≤ R.frames ∧ 8 + (4 + 11) + rmX5_finder.locals ≤ R.locals) : CallW R s args RL RX5 46 yX5_finder cX5_finder 4 (some .int) wsX5_finder rmX5_finder 0 0 2 :=
  cwV 2 hts (gd_GV wd_858 wd_859 wd_860 wd_79 wd_861) rfl rfl rfl (by decide +kernel) hR
theorem k_L_47 (hts : ∀ w ∈ lw_gd, w.before args s = true) (hR : rmX4_connector.frames + 1 ≤ R.frames ∧ 8 + (3 + 11) + rmX4_connector.locals ≤ R.locals) : CallW R s args RL RX4 47 yX4_connector cX4_connector 3 (some .int) wsX4_connector rmX4_connector 0 0 2 :=
  cwV 2 hts (gd_GV wd_489 wd_490 wd_491 wd_74 wd_492) rfl rfl rfl (by decide +kernel) hR
theorem k_L_50 (hts : ∀ w ∈ lw_gd, w.before args s = true) (hR : rmX5_connector.frames + 1 ≤ R.frames ∧ 8 + (3 + 11) + rmX5_connector.locals ≤ R.locals) : CallW R s args RL RX5 50 yX5_connector cX5_connector 3 (some .int) wsX5_connector rmX5_connector 0 0 2 :=
  cwV 2 hts (gd_GV wd_870 wd_871 wd_872 wd_79 wd_873) rfl rfl rfl (by decide +kernel) hR
theorem k_L_51 (hts : ∀ w ∈ lw_gd, w.before args s = true) (hR : rmX4_count.frames + 1 ≤ R.frames ∧ 8 + (2 + 11) + rmX4_count.locals ≤ R.locals) : CallW R s args RL RX4 51 yX4_count cX4_count 2 (some .int) wsX4_count rmX4_count 0 0 1 :=
  cwV 1 hts (gd_GV wd_494 wd_495 wd_496 wd_74 wd_497) rfl rfl rfl (by decide +kernel) hR
theorem k_L_54 (hts : ∀ w ∈ lw_gd, w.before args s = true) (hR : rmX5_count.frames + 1 ≤ R.frames ∧ 8 + (2 + 11) + rmX5_count.locals ≤ R.locals) : CallW R s args RL RX5 54 yX5_count cX5_count 2 (some .int) wsX5_count rmX5_count 0 0 1 :=
  cwV 1 hts (gd_GV wd_874 wd_875 wd_876 wd_79 wd_877) rfl rfl rfl (by decide +kernel) hR
theorem k_L_55 (hts : ∀ w ∈ lw_gd, w.before args s = true) (hR : rmX4_trace.frames + 1 ≤ R.frames ∧ 8 + (3 + 11) + rmX4_trace.locals ≤ R.locals) : CallW R s args RL RX4 55 yX4_trace cX4_trace 3 (some .int) wsX4_trace rmX4_trace 0 0 2 :=
  cwV 2 hts (gd_GV wd_518 wd_519 wd_520 wd_74 wd_521) rfl rfl rfl (by decide +kernel) hR
theorem k_L_58 (hts : ∀ w ∈ lw_gd, w.before args s = true) (hR : rmX5_trace.frames + 1 ≤ R.frames ∧ 8 + (5 + 11) + rmX5_trace.locals ≤ R.locals) : CallW R s args RL RX5 58 yX5_trace cX5_trace 5 (some .int) wsX5_trace rmX5_trace 0 0 2 :=
  cwV 2 hts (gd_GV wd_886 wd_887 wd_888 wd_79 wd_889) rfl rfl rfl (by decide +kernel) hR
theorem k_L_59 (hts : ∀ w ∈ lw_gd, w.before args s = true) (hR : rmX4_until.frames + 1 ≤ R.frames ∧ 8 + (4 + 11) + rmX4_until.locals ≤ R.locals) : CallW R s args RL RX4 59 yX4_until cX4_until 4 (some .int) wsX4_until rmX4_until 0 0 3 :=
  cwV 3 hts (gd_GV wd_526 wd_527 wd_528 wd_74 wd_529) rfl rfl rfl (by decide +kernel) hR
theorem k_L_63 (hts : ∀ w ∈ lw_gd, w.before args s = true) (hR : rmX5_until.frames + 1 ≤ R.frames ∧ 8 + (6 + 11) + rmX5_until.locals ≤ R.locals) : CallW R s args RL RX5 63 yX5_until cX5_until 6 (some .int) wsX5_until rmX5_until 0 0 3 :=
  cwV 3 hts (gd_GV wd_890 wd_891 wd_892 wd_79 wd_893) rfl rfl rfl (by decide +kernel) hR
theorem k_L_64 (hts : ∀ w ∈ lw_gd, w.before args s = true) (hR : rmX4_attempt.frames + 1 ≤ R.frames ∧ 8 + (5 + 11) + rmX4_attempt.locals ≤ R.locals) : CallW R s args RL RX4 64 yX4_attempt cX4_attempt 5 (some .int) wsX4_attempt rmX4_attempt 0 0 3 :=
  cwV 3 hts (gd_GV wd_547 wd_548 wd_549 wd_74 wd_550) rfl rfl rfl (by decide +kernel) hR
theorem k_L_67 (hts : ∀ w ∈ lw_gd, w.before args s = true) (hR : rmX5_attempt.frames + 1 ≤ R.frames ∧ 8 + (7 + 11) + rmX5_attempt.locals ≤ R.locals) : CallW R s args RL RX5 67 yX5_attempt cX5_attempt 7 (some .int) wsX5_attempt rmX5_attempt 0 0 3 :=
  cwV 3 hts (gd_GV wd_902 wd_903 wd_904 wd_79 wd_905) rfl rfl rfl (by decide +kernel) hR
theorem k_L_70 (hts : ∀ w ∈ lw_gd, w.before args s = true) (hR : rmX4_put.frames + 1 ≤ R.frames ∧ 8 + (3 + 11) + rmX4_put.locals ≤ R.locals) : CallW R s args RL RX4 70 yX4_put cX4_put 3 (some .int) wsX4_put rmX4_put 0 0 1 :=
  cwV 1 hts (gd_GV wd_561 wd_562 wd_563 wd_74 wd_564) rfl rfl rfl (by decide +kernel) hR
theorem k_L_74 (hts : ∀ w ∈ lw_gd, w.before args s = true) (hR : rmX5_put.frames + 1 ≤ R.frames ∧ 8 + (7 + 11) + rmX5_put.locals ≤ R.locals) : CallW R s args RL RX5 74 yX5_put cX5_put 7 (some .int) wsX5_put rmX5_put 0 0 1 :=
  cwV 1 hts (gd_GV wd_911 wd_912 wd_913 wd_79 wd_914) rfl rfl rfl (by decide +kernel) hR
theorem k_L_75 (hts : ∀ w ∈ lw_gd, w.before args s = true) (hR : rmX4_wipe.frames + 1 ≤ R.frames ∧ 8 + (2 + 11) + rmX4_wipe.locals ≤ R.locals) : CallW R s args RL RX4 75 yX4_wipe cX4_wipe 2 (some .int) wsX4_wipe rmX4_wipe 0 0 0 :=
  cwV 0 hts (gd_GV wd_577 wd_578 wd_579 wd_74 wd_580) rfl rfl rfl (by decide +kernel) hR
theorem k_L_79 (hts : ∀ w ∈ lw_gd, w.before args s = true) (hR : rmX5_wipe.frames + 1 ≤ R.frames ∧ 8 + (2 + 11) + rmX5_wipe.locals ≤ R.locals) : CallW R s args RL RX5 79 yX5_wipe cX5_wipe 2 (some .int) wsX5_wipe rmX5_wipe 0 0 0 :=
  cwV 0 hts (gd_GV wd_916 wd_917 wd_918 wd_79 wd_919) rfl rfl rfl (by decide +kernel) hR
theorem k_L_80 (hts : ∀ w ∈ lw_gd, w.before args s = true) (hR : rmX4_fault.frames + 1 ≤ R.frames ∧ 8 + (1 + 11) + rmX4_fault.locals ≤ R.locals) : CallW R s args RL RX4 80 yX4_fault cX4_fault 1 (some .int) wsX4_fault rmX4_fault 0 0 0 :=
  cwV 0 hts (gd_GV wd_581 wd_582 wd_583 wd_74 wd_584) rfl rfl rfl (by decide +kernel) hR
theorem k_L_83 (hts : ∀ w ∈ lw_gd, w.before args s = true) (hR : rmX5_fault.frames + 1 ≤ R.frames ∧ 8 + (1 + 11) + rmX5_fault.locals ≤ R.locals) : CallW R s args RL RX5 83 yX5_fault cX5_fault 1 (some .int) wsX5_fault rmX5_fault 0 0 0 :=
  cwV 0 hts (gd_GV wd_920 wd_921 wd_922 wd_79 wd_923) rfl rfl rfl (by decide +kernel) hR
theorem k_L_84 (hts : ∀ w ∈ lw_gd, w.before args s = true) (hR : rmX4_carryOut.frames + 1 ≤ R.frames ∧ 8 + (3 + 11) + rmX4_carryOut.locals ≤ R.locals) : CallW R s args RL RX4 84 yX4_carryOut cX4_carryOut 3 (some .int) wsX4_carryOut rmX4_carryOut 0 0 0 :=
  cwV 0 hts (gd_GV wd_608 wd_609 wd_610 wd_74 wd_611) rfl rfl rfl (by decide +kernel) hR
theorem k_L_87 (hts : ∀ w ∈ lw_gd, w.before args s = true) (hR : rmX5_carryOut.frames + 1 ≤ R.frames ∧ 8 + (2 + 11) + rmX5_carryOut.locals ≤ R.locals) : CallW R s args RL RX5 87 yX5_carryOut cX5_carryOut 2 (some .int) wsX5_carryOut rmX5_carryOut 0 0 0 :=
  cwV 0 hts (gd_GV wd_947 wd_948 wd_949 wd_79 wd_950) rfl rfl rfl (by decide +kernel) hR
theorem k_L_88 (hts : ∀ w ∈ lw_gd, w.before args s = true) (hR : rmX4_save.frames + 1 ≤ R.frames ∧ 8 + (3 + 11) + rmX4_save.locals ≤ R.locals) : CallW R s args RL RX4 88 yX4_save cX4_save 3 (some .int) wsX4_save rmX4_save 26 244 1 :=
  cwV 1 hts (gd_GV wd_634 wd_635 wd_636 wd_74 wd_637) rfl rfl rfl (by decide +kernel) hR
theorem k_L_91 (hts : ∀ w ∈ lw_gd, w.before args s = true) (hR : rmX5_save.frames + 1 ≤ R.frames ∧ 8 + (3 + 11) + rmX5_save.locals ≤ R.locals) : CallW R s args RL RX5 91 yX5_save cX5_save 3 (some .int) wsX5_save rmX5_save 0 0 1 :=
  cwV 1 hts (gd_GV wd_962 wd_963 wd_964 wd_79 wd_965) rfl rfl rfl (by decide +kernel) hR
theorem k_L_92 (hts : ∀ w ∈ lw_gd, w.before args s = true) (hR : rmX4_restore.frames + 1 ≤ R.frames ∧ 8 + (3 + 11) + rmX4_restore.locals ≤ R.locals) : CallW R s args RL RX4 92 yX4_restore cX4_restore 3 (some .int) wsX4_restore rmX4_restore 0 0 1 :=
  cwV 1 hts (gd_GV wd_638 wd_639 wd_640 wd_74 wd_641) rfl rfl rfl (by decide +kernel) hR
theorem k_L_95 (hts : ∀ w ∈ lw_gd, w.before args s = true) (hR : rmX5_restore.frames + 1 ≤ R.frames ∧ 8 + (3 + 11) + rmX5_restore.locals ≤ R.locals) : CallW R s args RL RX5 95 yX5_restore cX5_restore 3 (some .int) wsX5_restore rmX5_restore 0 0 1 :=
  cwV 1 hts (gd_GV wd_966 wd_967 wd_968 wd_79 wd_969) rfl rfl rfl (by decide +kernel) hR
theorem k_X0_241 (hts : ∀ w ∈ lw_gd, w.before args s = true) (hR : rmX0_endsTrial.frames + 1 ≤ R.frames ∧ 8 + (1 + 11) + rmX0_endsTrial.locals ≤ R.locals) : CallB R s args RX0 241 yX0_endsTrial cX0_endsTrial 1 (some .boolean) wsX0_endsTrial rmX0_endsTrial 0 0 1 ∧ (Cond.static yX0_endsTrial).before args s = true :=
  cwS 1 hts (gd_GS wd_557 wd_558 wd_75 wd_559) rfl rfl rfl (by decide +kernel) hR
theorem k_X0_79 (hts : ∀ w ∈ lw_gd, w.before args s = true) (hR : rmX0_settingAt.frames + 1 ≤ R.frames ∧ 8 + (2 + 11) + rmX0_settingAt.locals ≤ R.locals) : CallW R s args RX0 RX0 79 yX0_settingAt cX0_settingAt 2 (some .int) wsX0_settingAt rmX0_settingAt 0 0 1 :=
  cwV 1 hts (gd_GV wd_325 wd_327 wd_0 wd_75 wd_328) rfl rfl rfl (by decide +kernel) hR
theorem k_X0_83 (hts : ∀ w ∈ lw_gd, w.before args s = true) (hR : rmX0_lineAt.frames + 1 ≤ R.frames ∧ 8 + (2 + 11) + rmX0_lineAt.locals ≤ R.locals) : CallW R s args RX0 RX0 83 yX0_lineAt cX0_lineAt 2 (some (.object "RotaryExchange$Line")) wsX0_lineAt rmX0_lineAt 0 0 1 :=
  cwV 1 hts (gd_GV wd_287 wd_288 wd_289 wd_75 wd_290) rfl rfl rfl (by decide +kernel) hR
theorem k_X0_87 (hts : ∀ w ∈ lw_gd, w.before args s = true) (hR : rmX2_renew.frames + 1 ≤ R.frames ∧ 8 + (1 + 11) + rmX2_renew.locals ≤ R.locals) : CallW R s args RX0 RX2 87 yX2_renew cX2_renew 1 none wsX2_renew rmX2_renew 0 0 0 :=
  cwV 0 hts (gd_GV wd_291 wd_292 wd_293 wd_76 wd_294) rfl rfl rfl (by decide +kernel) hR
theorem k_X0_90 (hts : ∀ w ∈ lw_gd, w.before args s = true) (hR : rmX0_finderAt.frames + 1 ≤ R.frames ∧ 8 + (2 + 11) + rmX0_finderAt.locals ≤ R.locals) : CallW R s args RX0 RX0 90 yX0_finderAt cX0_finderAt 2 (some (.object "RotaryExchange$Finder")) wsX0_finderAt rmX0_finderAt 0 0 1 :=
  cwV 1 hts (gd_GV wd_299 wd_300 wd_301 wd_75 wd_302) rfl rfl rfl (by decide +kernel) hR
theorem k_X0_94 (hts : ∀ w ∈ lw_gd, w.before args s = true) (hR : rmX1_renew.frames + 1 ≤ R.frames ∧ 8 + (1 + 11) + rmX1_renew.locals ≤ R.locals) : CallW R s args RX0 RX1 94 yX1_renew cX1_renew 1 none wsX1_renew rmX1_renew 0 0 0 :=
  cwV 0 hts (gd_GV wd_303 wd_304 wd_305 wd_77 wd_306) rfl rfl rfl (by decide +kernel) hR
theorem k_X0_95 (hts : ∀ w ∈ lw_gd, w.before args s = true) (hR : rmX2_copyFrom.frames + 1 ≤ R.frames ∧ 8 + (2 + 11) + rmX2_copyFrom.locals ≤ R.locals) : CallW R s args RX0 RX2 95 yX2_copyFrom cX2_copyFrom 2 none wsX2_copyFrom rmX2_copyFrom 0 0 1 :=
  cwV 1 hts (gd_GV wd_534 wd_535 wd_536 wd_76 wd_537) rfl rfl rfl (by decide +kernel) hR
theorem k_X0_99 (hts : ∀ w ∈ lw_gd, w.before args s = true) (hR : rmX1_copyFrom.frames + 1 ≤ R.frames ∧ 8 + (2 + 11) + rmX1_copyFrom.locals ≤ R.locals) : CallW R s args RX0 RX1 99 yX1_copyFrom cX1_copyFrom 2 none wsX1_copyFrom rmX1_copyFrom 0 0 1 :=
  cwV 1 hts (gd_GV wd_538 wd_539 wd_540 wd_77 wd_541) rfl rfl rfl (by decide +kernel) hR
theorem k_X0_115 (hts : ∀ w ∈ lw_gd, w.before args s = true) (hR : rmX2_isCalledByAnother.frames + 1 ≤ R.frames ∧ 8 + (1 + 11) + rmX2_isCalledByAnother.locals ≤ R.locals) : CallW R s args RX0 RX2 115 yX2_isCalledByAnother cX2_isCalledByAnother 1 (some .boolean) wsX2_isCalledByAnother rmX2_isCalledByAnother 0 0 0 :=
  cwV 0 hts (gd_GV wd_348 wd_349 wd_350 wd_76 wd_351) rfl rfl rfl (by decide +kernel) hR
theorem k_X0_122 (hts : ∀ w ∈ lw_gd, w.before args s = true) (hR : rmX0_release.frames + 1 ≤ R.frames ∧ 8 + (3 + 11) + rmX0_release.locals ≤ R.locals) : CallW R s args RX0 RX0 122 yX0_release cX0_release 3 none wsX0_release rmX0_release 0 0 1 :=
  cwV 1 hts (gd_GV wd_352 wd_354 wd_1 wd_75 wd_355) rfl rfl rfl (by decide +kernel) hR
theorem k_X0_125 (hts : ∀ w ∈ lw_gd, w.before args s = true) (hR : rmX2_leaveCall.frames + 1 ≤ R.frames ∧ 8 + (2 + 11) + rmX2_leaveCall.locals ≤ R.locals) : CallW R s args RX0 RX2 125 yX2_leaveCall cX2_leaveCall 2 none wsX2_leaveCall rmX2_leaveCall 0 0 1 :=
  cwV 1 hts (gd_GV wd_356 wd_296 wd_297 wd_76 wd_298) rfl rfl rfl (by decide +kernel) hR
theorem k_X0_132 (hts : ∀ w ∈ lw_gd, w.before args s = true) (hR : rmX1_becomeFree.frames + 1 ≤ R.frames ∧ 8 + (1 + 11) + rmX1_becomeFree.locals ≤ R.locals) : CallW R s args RX0 RX1 132 yX1_becomeFree cX1_becomeFree 1 none wsX1_becomeFree rmX1_becomeFree 0 0 0 :=
  cwV 0 hts (gd_GV wd_357 wd_308 wd_309 wd_77 wd_310) rfl rfl rfl (by decide +kernel) hR
theorem k_X0_138 (hts : ∀ w ∈ lw_gd, w.before args s = true) (hR : rmX2_appendDigit.frames + 1 ≤ R.frames ∧ 8 + (2 + 11) + rmX2_appendDigit.locals ≤ R.locals) : CallW R s args RX0 RX2 138 yX2_appendDigit cX2_appendDigit 2 none wsX2_appendDigit rmX2_appendDigit 0 0 1 :=
  cwV 1 hts (gd_GV wd_366 wd_367 wd_368 wd_76 wd_369) rfl rfl rfl (by decide +kernel) hR
theorem k_X0_142 (hts : ∀ w ∈ lw_gd, w.before args s = true) (hR : rmX0_takeStep.frames + 1 ≤ R.frames ∧ 8 + (3 + 11) + rmX0_takeStep.locals ≤ R.locals) : CallW R s args RX0 RX0 142 yX0_takeStep cX0_takeStep 3 none wsX0_takeStep rmX0_takeStep 0 0 1 :=
  cwV 1 hts (gd_GV wd_383 wd_385 wd_2 wd_75 wd_386) rfl rfl rfl (by decide +kernel) hR
theorem k_X0_145 (hts : ∀ w ∈ lw_gd, w.before args s = true) (hR : rmX0_allotFinder.frames + 1 ≤ R.frames ∧ 8 + (4 + 11) + rmX0_allotFinder.locals ≤ R.locals) : CallW R s args RX0 RX0 145 yX0_allotFinder cX0_allotFinder 4 none wsX0_allotFinder rmX0_allotFinder 0 0 0 :=
  cwV 0 hts (gd_GV wd_436 wd_438 wd_12 wd_75 wd_439) rfl rfl rfl (by decide +kernel) hR
theorem k_X0_148 (hts : ∀ w ∈ lw_gd, w.before args s = true) (hR : rmX0_countParked.frames + 1 ≤ R.frames ∧ 8 + (3 + 11) + rmX0_countParked.locals ≤ R.locals) : CallW R s args RX0 RX0 148 yX0_countParked cX0_countParked 3 none wsX0_countParked rmX0_countParked 0 0 0 :=
  cwV 0 hts (gd_GV wd_452 wd_454 wd_15 wd_75 wd_455) rfl rfl rfl (by decide +kernel) hR
theorem k_X0_155 (hts : ∀ w ∈ lw_gd, w.before args s = true) (hR : rmX0_seek.frames + 1 ≤ R.frames ∧ 8 + (3 + 11) + rmX0_seek.locals ≤ R.locals) : CallW R s args RX0 RX0 155 yX0_seek cX0_seek 3 none wsX0_seek rmX0_seek 0 0 2 :=
  cwV 2 hts (gd_GV wd_387 wd_389 wd_3 wd_75 wd_390) rfl rfl rfl (by decide +kernel) hR
theorem k_X0_159 (hts : ∀ w ∈ lw_gd, w.before args s = true) (hR : rmX0_awaitDigit.frames + 1 ≤ R.frames ∧ 8 + (4 + 11) + rmX0_awaitDigit.locals ≤ R.locals) : CallW R s args RX0 RX0 159 yX0_awaitDigit cX0_awaitDigit 4 none wsX0_awaitDigit rmX0_awaitDigit 0 0 3 :=
  cwV 3 hts (gd_GV wd_392 wd_394 wd_4 wd_75 wd_395) rfl rfl rfl (by decide +kernel) hR
theorem k_X0_163 (hts : ∀ w ∈ lw_gd, w.before args s = true) (hR : rmX0_rise.frames + 1 ≤ R.frames ∧ 8 + (3 + 11) + rmX0_rise.locals ≤ R.locals) : CallW R s args RX0 RX0 163 yX0_rise cX0_rise 3 none wsX0_rise rmX0_rise 0 0 2 :=
  cwV 2 hts (gd_GV wd_400 wd_402 wd_5 wd_75 wd_403) rfl rfl rfl (by decide +kernel) hR
theorem k_X0_166 (hts : ∀ w ∈ lw_gd, w.before args s = true) (hR : rmX0_hunt.frames + 1 ≤ R.frames ∧ 8 + (3 + 11) + rmX0_hunt.locals ≤ R.locals) : CallW R s args RX0 RX0 166 yX0_hunt cX0_hunt 3 none wsX0_hunt rmX0_hunt 0 0 2 :=
  cwV 2 hts (gd_GV wd_408 wd_410 wd_7 wd_75 wd_411) rfl rfl rfl (by decide +kernel) hR
theorem k_X0_169 (hts : ∀ w ∈ lw_gd, w.before args s = true) (hR : rmX0_stepOn.frames + 1 ≤ R.frames ∧ 8 + (5 + 11) + rmX0_stepOn.locals ≤ R.locals) : CallW R s args RX0 RX0 169 yX0_stepOn cX0_stepOn 5 none wsX0_stepOn rmX0_stepOn 0 0 2 :=
  cwV 2 hts (gd_GV wd_420 wd_422 wd_8 wd_75 wd_423) rfl rfl rfl (by decide +kernel) hR
theorem k_X0_172 (hts : ∀ w ∈ lw_gd, w.before args s = true) (hR : rmX0_ringOn.frames + 1 ≤ R.frames ∧ 8 + (4 + 11) + rmX0_ringOn.locals ≤ R.locals) : CallW R s args RX0 RX0 172 yX0_ringOn cX0_ringOn 4 none wsX0_ringOn rmX0_ringOn 0 0 2 :=
  cwV 2 hts (gd_GV wd_424 wd_426 wd_9 wd_75 wd_427) rfl rfl rfl (by decide +kernel) hR
theorem k_X0_175 (hts : ∀ w ∈ lw_gd, w.before args s = true) (hR : rmX0_talkOn.frames + 1 ≤ R.frames ∧ 8 + (5 + 11) + rmX0_talkOn.locals ≤ R.locals) : CallW R s args RX0 RX0 175 yX0_talkOn cX0_talkOn 5 none wsX0_talkOn rmX0_talkOn 0 0 2 :=
  cwV 2 hts (gd_GV wd_428 wd_430 wd_10 wd_75 wd_431) rfl rfl rfl (by decide +kernel) hR
theorem k_X0_178 (hts : ∀ w ∈ lw_gd, w.before args s = true) (hR : rmX0_soundOn.frames + 1 ≤ R.frames ∧ 8 + (3 + 11) + rmX0_soundOn.locals ≤ R.locals) : CallW R s args RX0 RX0 178 yX0_soundOn cX0_soundOn 3 none wsX0_soundOn rmX0_soundOn 0 0 2 :=
  cwV 2 hts (gd_GV wd_432 wd_434 wd_11 wd_75 wd_435) rfl rfl rfl (by decide +kernel) hR
theorem k_X0_184 (hts : ∀ w ∈ lw_gd, w.before args s = true) (hR : rmX1_become.frames + 1 ≤ R.frames ∧ 8 + (2 + 11) + rmX1_become.locals ≤ R.locals) : CallW R s args RX0 RX1 184 yX1_become cX1_become 2 none wsX1_become rmX1_become 0 0 1 :=
  cwV 1 hts (gd_GV wd_391 wd_312 wd_313 wd_77 wd_314) rfl rfl rfl (by decide +kernel) hR
theorem k_X0_187 (hts : ∀ w ∈ lw_gd, w.before args s = true) (hR : rmX2_takePulses.frames + 1 ≤ R.frames ∧ 8 + (2 + 11) + rmX2_takePulses.locals ≤ R.locals) : CallW R s args RX0 RX2 187 yX2_takePulses cX2_takePulses 2 (some .int) wsX2_takePulses rmX2_takePulses 0 0 0 :=
  cwV 0 hts (gd_GV wd_396 wd_397 wd_398 wd_76 wd_399) rfl rfl rfl (by decide +kernel) hR
theorem k_X0_200 (hts : ∀ w ∈ lw_gd, w.before args s = true) (hR : rmX0_sound.frames + 1 ≤ R.frames ∧ 8 + (5 + 11) + rmX0_sound.locals ≤ R.locals) : CallW R s args RX0 RX0 200 yX0_sound cX0_sound 5 none wsX0_sound rmX0_sound 0 0 4 :=
  cwV 4 hts (gd_GV wd_404 wd_406 wd_6 wd_75 wd_407) rfl rfl rfl (by decide +kernel) hR
theorem k_X0_207 (hts : ∀ w ∈ lw_gd, w.before args s = true) (hR : rmX0_holderOf.frames + 1 ≤ R.frames ∧ 8 + (5 + 11) + rmX0_holderOf.locals ≤ R.locals) : CallW R s args RX0 RX0 207 yX0_holderOf cX0_holderOf 5 (some .int) wsX0_holderOf rmX0_holderOf 0 0 2 :=
  cwV 2 hts (gd_GV wd_412 wd_413 wd_414 wd_75 wd_415) rfl rfl rfl (by decide +kernel) hR
theorem k_X0_220 (hts : ∀ w ∈ lw_gd, w.before args s = true) (hR : rmX0_nextFreeFinder.frames + 1 ≤ R.frames ∧ 8 + (3 + 11) + rmX0_nextFreeFinder.locals ≤ R.locals) : CallW R s args RX0 RX0 220 yX0_nextFreeFinder cX0_nextFreeFinder 3 (some .int) wsX0_nextFreeFinder rmX0_nextFreeFinder 0 0 0 :=
  cwV 0 hts (gd_GV wd_440 wd_442 wd_13 wd_75 wd_443) rfl rfl rfl (by decide +kernel) hR
theorem k_X0_223 (hts : ∀ w ∈ lw_gd, w.before args s = true) (hR : rmX0_firstWaitingLine.frames + 1 ≤ R.frames ∧ 8 + (4 + 11) + rmX0_firstWaitingLine.locals ≤ R.locals) : CallW R s args RX0 RX0 223 yX0_firstWaitingLine cX0_firstWaitingLine 4 (some .int) wsX0_firstWaitingLine rmX0_firstWaitingLine 0 0 0 :=
  cwV 0 hts (gd_GV wd_444 wd_446 wd_14 wd_75 wd_447) rfl rfl rfl (by decide +kernel) hR
theorem k_X0_226 (hts : ∀ w ∈ lw_gd, w.before args s = true) (hR : rmX2_waitParked.frames + 1 ≤ R.frames ∧ 8 + (2 + 11) + rmX2_waitParked.locals ≤ R.locals) : CallW R s args RX0 RX2 226 yX2_waitParked cX2_waitParked 2 none wsX2_waitParked rmX2_waitParked 0 0 1 :=
  cwV 1 hts (gd_GV wd_456 wd_457 wd_458 wd_76 wd_459) rfl rfl rfl (by decide +kernel) hR
theorem k_X0_229 (hts : ∀ w ∈ lw_gd, w.before args s = true) (hR : rmX2_waitsUnsought.frames + 1 ≤ R.frames ∧ 8 + (1 + 11) + rmX2_waitsUnsought.locals ≤ R.locals) : CallW R s args RX0 RX2 229 yX2_waitsUnsought cX2_waitsUnsought 1 (some .boolean) wsX2_waitsUnsought rmX2_waitsUnsought 0 0 0 :=
  cwV 0 hts (gd_GV wd_448 wd_449 wd_450 wd_76 wd_451) rfl rfl rfl (by decide +kernel) hR
theorem k_X0_232 (hts : ∀ w ∈ lw_gd, w.before args s = true) (hR : rmX1_holdsConnector.frames + 1 ≤ R.frames ∧ 8 + (1 + 11) + rmX1_holdsConnector.locals ≤ R.locals) : CallW R s args RX0 RX1 232 yX1_holdsConnector cX1_holdsConnector 1 (some .boolean) wsX1_holdsConnector rmX1_holdsConnector 0 0 0 :=
  cwV 0 hts (gd_GV wd_416 wd_417 wd_418 wd_77 wd_419) rfl rfl rfl (by decide +kernel) hR
theorem k_X0_235 (hts : ∀ w ∈ lw_gd, w.before args s = true) (hR : rmX0_pass.frames + 1 ≤ R.frames ∧ 8 + (4 + 11) + rmX0_pass.locals ≤ R.locals) : CallW R s args RX0 RX0 235 yX0_pass cX0_pass 4 none wsX0_pass rmX0_pass 0 0 1 :=
  cwV 1 hts (gd_GV wd_546 wd_380 wd_381 wd_75 wd_382) rfl rfl rfl (by decide +kernel) hR
theorem k_X0_238 (hts : ∀ w ∈ lw_gd, w.before args s = true) (hR : rmX0_liftLine.frames + 1 ≤ R.frames ∧ 8 + (3 + 11) + rmX0_liftLine.locals ≤ R.locals) : CallW R s args RX0 RX0 238 yX0_liftLine cX0_liftLine 3 (some .int) wsX0_liftLine rmX0_liftLine 0 0 1 :=
  cwV 1 hts (gd_GV wd_556 wd_337 wd_338 wd_75 wd_339) rfl rfl rfl (by decide +kernel) hR
theorem k_X0_245 (hts : ∀ w ∈ lw_gd, w.before args s = true) (hR : rmX0_dialDigit.frames + 1 ≤ R.frames ∧ 8 + (4 + 11) + rmX0_dialDigit.locals ≤ R.locals) : CallW R s args RX0 RX0 245 yX0_dialDigit cX0_dialDigit 4 (some .int) wsX0_dialDigit rmX0_dialDigit 0 0 2 :=
  cwV 2 hts (gd_GV wd_560 wd_363 wd_364 wd_75 wd_365) rfl rfl rfl (by decide +kernel) hR
theorem k_X0_248 (hts : ∀ w ∈ lw_gd, w.before args s = true) (hR : rmX0_partnerOf.frames + 1 ≤ R.frames ∧ 8 + (3 + 11) + rmX0_partnerOf.locals ≤ R.locals) : CallW R s args RX0 RX0 248 yX0_partnerOf cX0_partnerOf 3 (some .int) wsX0_partnerOf rmX0_partnerOf 0 0 1 :=
  cwV 1 hts (gd_GV wd_468 wd_470 wd_16 wd_75 wd_471) rfl rfl rfl (by decide +kernel) hR
theorem k_X0_252 (hts : ∀ w ∈ lw_gd, w.before args s = true) (hR : rmX0_placeOf.frames + 1 ≤ R.frames ∧ 8 + (4 + 11) + rmX0_placeOf.locals ≤ R.locals) : CallW R s args RX0 RX0 252 yX0_placeOf cX0_placeOf 4 (some .int) wsX0_placeOf rmX0_placeOf 0 0 1 :=
  cwV 1 hts (gd_GV wd_476 wd_478 wd_17 wd_75 wd_479) rfl rfl rfl (by decide +kernel) hR
theorem k_X0_258 (hts : ∀ w ∈ lw_gd, w.before args s = true) (hR : rmX2_callsAnother.frames + 1 ≤ R.frames ∧ 8 + (1 + 11) + rmX2_callsAnother.locals ≤ R.locals) : CallW R s args RX0 RX2 258 yX2_callsAnother cX2_callsAnother 1 (some .boolean) wsX2_callsAnother rmX2_callsAnother 0 0 0 :=
  cwV 0 hts (gd_GV wd_472 wd_473 wd_474 wd_76 wd_475) rfl rfl rfl (by decide +kernel) hR
theorem k_X0_261 (hts : ∀ w ∈ lw_gd, w.before args s = true) (hR : rmX0_freeFinders.frames + 1 ≤ R.frames ∧ 8 + (3 + 11) + rmX0_freeFinders.locals ≤ R.locals) : CallW R s args RX0 RX0 261 yX0_freeFinders cX0_freeFinders 3 (some .int) wsX0_freeFinders rmX0_freeFinders 0 0 0 :=
  cwV 0 hts (gd_GV wd_502 wd_504 wd_18 wd_75 wd_505) rfl rfl rfl (by decide +kernel) hR
theorem k_X0_264 (hts : ∀ w ∈ lw_gd, w.before args s = true) (hR : rmX0_freeConnectors.frames + 1 ≤ R.frames ∧ 8 + (3 + 11) + rmX0_freeConnectors.locals ≤ R.locals) : CallW R s args RX0 RX0 264 yX0_freeConnectors cX0_freeConnectors 3 (some .int) wsX0_freeConnectors rmX0_freeConnectors 0 0 0 :=
  cwV 0 hts (gd_GV wd_506 wd_508 wd_19 wd_75 wd_509) rfl rfl rfl (by decide +kernel) hR
theorem k_X0_267 (hts : ∀ w ∈ lw_gd, w.before args s = true) (hR : rmX0_sumOfMeters.frames + 1 ≤ R.frames ∧ 8 + (3 + 11) + rmX0_sumOfMeters.locals ≤ R.locals) : CallW R s args RX0 RX0 267 yX0_sumOfMeters cX0_sumOfMeters 3 (some .int) wsX0_sumOfMeters rmX0_sumOfMeters 0 0 0 :=
  cwV 0 hts (gd_GV wd_510 wd_512 wd_20 wd_75 wd_513) rfl rfl rfl (by decide +kernel) hR
theorem k_X0_270 (hts : ∀ w ∈ lw_gd, w.before args s = true) (hR : rmX0_liftedLines.frames + 1 ≤ R.frames ∧ 8 + (3 + 11) + rmX0_liftedLines.locals ≤ R.locals) : CallW R s args RX0 RX0 270 yX0_liftedLines cX0_liftedLines 3 (some .int) wsX0_liftedLines rmX0_liftedLines 0 0 0 :=
  cwV 0 hts (gd_GV wd_514 wd_516 wd_21 wd_75 wd_517) rfl rfl rfl (by decide +kernel) hR
theorem k_X1_42 (hts : ∀ w ∈ lw_gd, w.before args s = true) (hR : rmX1_becomeFree.frames + 1 ≤ R.frames ∧ 8 + (1 + 11) + rmX1_becomeFree.locals ≤ R.locals) : CallW R s args RX1 RX1 42 yX1_becomeFree cX1_becomeFree 1 none wsX1_becomeFree rmX1_becomeFree 0 0 0 :=
  cwV 0 hts (gd_GV wd_307 wd_308 wd_309 wd_77 wd_310) rfl rfl rfl (by decide +kernel) hR
theorem k_X1_45 (hts : ∀ w ∈ lw_gd, w.before args s = true) (hR : rmX1_become.frames + 1 ≤ R.frames ∧ 8 + (2 + 11) + rmX1_become.locals ≤ R.locals) : CallW R s args RX1 RX1 45 yX1_become cX1_become 2 none wsX1_become rmX1_become 0 0 1 :=
  cwV 1 hts (gd_GV wd_311 wd_312 wd_313 wd_77 wd_314) rfl rfl rfl (by decide +kernel) hR
theorem k_X2_40 (hts : ∀ w ∈ lw_gd, w.before args s = true) (hR : rmX2_leaveCall.frames + 1 ≤ R.frames ∧ 8 + (2 + 11) + rmX2_leaveCall.locals ≤ R.locals) : CallW R s args RX2 RX2 40 yX2_leaveCall cX2_leaveCall 2 none wsX2_leaveCall rmX2_leaveCall 0 0 1 :=
  cwV 1 hts (gd_GV wd_295 wd_296 wd_297 wd_76 wd_298) rfl rfl rfl (by decide +kernel) hR
theorem k_X3_19 (hts : ∀ w ∈ lw_gd, w.before args s = true) (hR : rmX3_countOf.frames + 1 ≤ R.frames ∧ 8 + (6 + 11) + rmX3_countOf.locals ≤ R.locals) : CallB R s args RX3 19 yX3_countOf cX3_countOf 6 (some .int) wsX3_countOf rmX3_countOf 0 0 1 ∧ (Cond.static yX3_countOf).before args s = true :=
  cwS 1 hts (gd_GS wd_569 wd_570 wd_78 wd_571) rfl rfl rfl (by decide +kernel) hR
theorem k_X3_27 (hNw : nestOK s) (hts : ∀ w ∈ lw_gd, w.before args s = true) (hR : rmX4_isWithin.frames + 1 ≤ R.frames ∧ 8 + (3 + 11) + rmX4_isWithin.locals ≤ R.locals) : va_CN R s args RX3 27 yX4_isWithin RX4 cX4_isWithin 3 (some .boolean) wsX4_isWithin rmX4_isWithin 0 0 3 ∧ (Cond.static yX4_isWithin).before args s = true ∧ True :=
  ⟨va_cnB 3 hts (gd_GI wd_282) rfl rfl rfl hNw.2.2.2.1 (hts _ wd_74) (by decide +kernel) hR, hts _ wd_281, trivial⟩
theorem k_X3_35 (hts : ∀ w ∈ lw_gd, w.before args s = true) (hR : rmX3_isDigit.frames + 1 ≤ R.frames ∧ 8 + (1 + 11) + rmX3_isDigit.locals ≤ R.locals) : CallB R s args RX3 35 yX3_isDigit cX3_isDigit 1 (some .boolean) wsX3_isDigit rmX3_isDigit 0 0 1 ∧ (Cond.static yX3_isDigit).before args s = true :=
  cwS 1 hts (gd_GS wd_593 wd_594 wd_78 wd_595) rfl rfl rfl (by decide +kernel) hR
theorem k_X3_39 (hts : ∀ w ∈ lw_gd, w.before args s = true) (hR : rmX3_awaitedBehind.frames + 1 ≤ R.frames ∧ 8 + (3 + 11) + rmX3_awaitedBehind.locals ≤ R.locals) : CallB R s args RX3 39 yX3_awaitedBehind cX3_awaitedBehind 3 (some .int) wsX3_awaitedBehind rmX3_awaitedBehind 0 0 3 ∧ (Cond.static yX3_awaitedBehind).before args s = true :=
  cwS 3 hts (gd_GS wd_596 wd_597 wd_78 wd_598) rfl rfl rfl (by decide +kernel) hR
theorem k_X3_43 (hts : ∀ w ∈ lw_gd, w.before args s = true) (hR : rmX3_awaitedBehindLetter.frames + 1 ≤ R.frames ∧ 8 + (1 + 11) + rmX3_awaitedBehindLetter.locals ≤ R.locals) : CallB R s args RX3 43 yX3_awaitedBehindLetter cX3_awaitedBehindLetter 1 (some .int) wsX3_awaitedBehindLetter rmX3_awaitedBehindLetter 0 0 1 ∧ (Cond.static yX3_awaitedBehindLetter).before args s = true :=
  cwS 1 hts (gd_GS wd_599 wd_600 wd_78 wd_601) rfl rfl rfl (by decide +kernel) hR
theorem k_X3_46 (hts : ∀ w ∈ lw_gd, w.before args s = true) (hR : rmX3_lineOf.frames + 1 ≤ R.frames ∧ 8 + (1 + 11) + rmX3_lineOf.locals ≤ R.locals) : CallB R s args RX3 46 yX3_lineOf cX3_lineOf 1 (some .int) wsX3_lineOf rmX3_lineOf 0 0 1 ∧ (Cond.static yX3_lineOf).before args s = true :=
  cwS 1 hts (gd_GS wd_602 wd_603 wd_78 wd_604) rfl rfl rfl (by decide +kernel) hR
theorem k_X3_49 (hts : ∀ w ∈ lw_gd, w.before args s = true) (hR : rmX3_awaitedBehindComma.frames + 1 ≤ R.frames ∧ 8 + (1 + 11) + rmX3_awaitedBehindComma.locals ≤ R.locals) : CallB R s args RX3 49 yX3_awaitedBehindComma cX3_awaitedBehindComma 1 (some .int) wsX3_awaitedBehindComma rmX3_awaitedBehindComma 0 0 1 ∧ (Cond.static yX3_awaitedBehindComma).before args s = true :=
  cwS 1 hts (gd_GS wd_605 wd_606 wd_78 wd_607) rfl rfl rfl (by decide +kernel) hR
theorem k_X3_23 (hts : ∀ w ∈ lw_gd, w.before args s = true) (hR : rmX3_appendCode.frames + 1 ≤ R.frames ∧ 8 + (2 + 11) + rmX3_appendCode.locals ≤ R.locals) : CallW R s args RX3 RX3 23 yX3_appendCode cX3_appendCode 2 none wsX3_appendCode rmX3_appendCode 0 0 1 :=
  cwV 1 hts (gd_GV wd_573 wd_575 wd_22 wd_78 wd_576) rfl rfl rfl (by decide +kernel) hR
theorem k_X3_31 (hts : ∀ w ∈ lw_gd, w.before args s = true) (hR : rmX3_codeAt.frames + 1 ≤ R.frames ∧ 8 + (2 + 11) + rmX3_codeAt.locals ≤ R.locals) : CallW R s args RX3 RX3 31 yX3_codeAt cX3_codeAt 2 (some .int) wsX3_codeAt rmX3_codeAt 0 0 1 :=
  cwV 1 hts (gd_GV wd_589 wd_590 wd_591 wd_78 wd_592) rfl rfl rfl (by decide +kernel) hR
theorem k_X4_30 (hts : ∀ w ∈ lw_gd, w.before args s = true) (hR : rmX4_isWithin.frames + 1 ≤ R.frames ∧ 8 + (3 + 11) + rmX4_isWithin.locals ≤ R.locals) : CallB R s args RX4 30 yX4_isWithin cX4_isWithin 3 (some .boolean) wsX4_isWithin rmX4_isWithin 0 0 3 ∧ (Cond.static yX4_isWithin).before args s = true :=
  cwS 3 hts (gd_GS wd_280 wd_281 wd_74 wd_282) rfl rfl rfl (by decide +kernel) hR
theorem k_X4_50 (hts : ∀ w ∈ lw_gd, w.before args s = true) (hR : rmX4_isLine.frames + 1 ≤ R.frames ∧ 8 + (1 + 11) + rmX4_isLine.locals ≤ R.locals) : CallB R s args RX4 50 yX4_isLine cX4_isLine 1 (some .boolean) wsX4_isLine rmX4_isLine 0 0 1 ∧ (Cond.static yX4_isLine).before args s = true :=
  cwS 1 hts (gd_GS wd_333 wd_334 wd_74 wd_335) rfl rfl rfl (by decide +kernel) hR
theorem k_X4_145 (hts : ∀ w ∈ lw_gd, w.before args s = true) (hR : rmX3_isDigit.frames + 1 ≤ R.frames ∧ 8 + (1 + 11) + rmX3_isDigit.locals ≤ R.locals) : CallB R s args RX4 145 yX3_isDigit cX3_isDigit 1 (some .boolean) wsX3_isDigit rmX3_isDigit 0 0 1 ∧ (Cond.static yX3_isDigit).before args s = true :=
  va_cwS 1 hts (gd_GSU wd_629 wd_594 wd_78 wd_595) rfl rfl rfl (by decide +kernel) hR
theorem k_X4_38 (hts : ∀ w ∈ lw_gd, w.before args s = true) (hR : rmX0_renew.frames + 1 ≤ R.frames ∧ 8 + (4 + 11) + rmX0_renew.locals ≤ R.locals) : CallW R s args RX4 RX0 38 yX0_renew cX0_renew 4 none wsX0_renew rmX0_renew 0 0 2 :=
  cwV 2 hts (gd_GV wd_283 wd_284 wd_285 wd_75 wd_286) rfl rfl rfl (by decide +kernel) hR
theorem k_X4_46 (hts : ∀ w ∈ lw_gd, w.before args s = true) (hR : rmX0_changeSetting.frames + 1 ≤ R.frames ∧ 8 + (4 + 11) + rmX0_changeSetting.locals ≤ R.locals) : CallW R s args RX4 RX0 46 yX0_changeSetting cX0_changeSetting 4 (some .int) wsX0_changeSetting rmX0_changeSetting 0 0 2 :=
  cwV 2 hts (gd_GV wd_321 wd_322 wd_323 wd_75 wd_324) rfl rfl rfl (by decide +kernel) hR
theorem k_X4_54 (hts : ∀ w ∈ lw_gd, w.before args s = true) (hR : rmX0_liftLine.frames + 1 ≤ R.frames ∧ 8 + (3 + 11) + rmX0_liftLine.locals ≤ R.locals) : CallW R s args RX4 RX0 54 yX0_liftLine cX0_liftLine 3 (some .int) wsX0_liftLine rmX0_liftLine 0 0 1 :=
  cwV 1 hts (gd_GV wd_336 wd_337 wd_338 wd_75 wd_339) rfl rfl rfl (by decide +kernel) hR
theorem k_X4_58 (hts : ∀ w ∈ lw_gd, w.before args s = true) (hR : rmX0_hangLine.frames + 1 ≤ R.frames ∧ 8 + (4 + 11) + rmX0_hangLine.locals ≤ R.locals) : CallW R s args RX4 RX0 58 yX0_hangLine cX0_hangLine 4 (some .int) wsX0_hangLine rmX0_hangLine 0 0 1 :=
  cwV 1 hts (gd_GV wd_344 wd_345 wd_346 wd_75 wd_347) rfl rfl rfl (by decide +kernel) hR
theorem k_X4_61 (hts : ∀ w ∈ lw_gd, w.before args s = true) (hR : rmX0_dialDigit.frames + 1 ≤ R.frames ∧ 8 + (4 + 11) + rmX0_dialDigit.locals ≤ R.locals) : CallW R s args RX4 RX0 61 yX0_dialDigit cX0_dialDigit 4 (some .int) wsX0_dialDigit rmX0_dialDigit 0 0 2 :=
  cwV 2 hts (gd_GV wd_362 wd_363 wd_364 wd_75 wd_365) rfl rfl rfl (by decide +kernel) hR
theorem k_X4_64 (hts : ∀ w ∈ lw_gd, w.before args s = true) (hR : rmX0_hasTimeFor.frames + 1 ≤ R.frames ∧ 8 + (2 + 11) + rmX0_hasTimeFor.locals ≤ R.locals) : CallW R s args RX4 RX0 64 yX0_hasTimeFor cX0_hasTimeFor 2 (some .boolean) wsX0_hasTimeFor rmX0_hasTimeFor 0 0 1 :=
  cwV 1 hts (gd_GV wd_374 wd_375 wd_376 wd_75 wd_377) rfl rfl rfl (by decide +kernel) hR
theorem k_X4_67 (hts : ∀ w ∈ lw_gd, w.before args s = true) (hR : rmX0_pass.frames + 1 ≤ R.frames ∧ 8 + (4 + 11) + rmX0_pass.locals ≤ R.locals) : CallW R s args RX4 RX0 67 yX0_pass cX0_pass 4 none wsX0_pass rmX0_pass 0 0 1 :=
  cwV 1 hts (gd_GV wd_379 wd_380 wd_381 wd_75 wd_382) rfl rfl rfl (by decide +kernel) hR
theorem k_X4_74 (hts : ∀ w ∈ lw_gd, w.before args s = true) (hR : rmX0_numberOfLine.frames + 1 ≤ R.frames ∧ 8 + (4 + 11) + rmX0_numberOfLine.locals ≤ R.locals) : CallW R s args RX4 RX0 74 yX0_numberOfLine cX0_numberOfLine 4 (some .int) wsX0_numberOfLine rmX0_numberOfLine 0 0 2 :=
  cwV 2 hts (gd_GV wd_464 wd_465 wd_466 wd_75 wd_467) rfl rfl rfl (by decide +kernel) hR
theorem k_X4_77 (hts : ∀ w ∈ lw_gd, w.before args s = true) (hR : rmX0_finderAt.frames + 1 ≤ R.frames ∧ 8 + (2 + 11) + rmX0_finderAt.locals ≤ R.locals) : CallW R s args RX4 RX0 77 yX0_finderAt cX0_finderAt 2 (some (.object "RotaryExchange$Finder")) wsX0_finderAt rmX0_finderAt 0 0 1 :=
  cwV 1 hts (gd_GV wd_484 wd_300 wd_301 wd_75 wd_302) rfl rfl rfl (by decide +kernel) hR
theorem k_X4_81 (hts : ∀ w ∈ lw_gd, w.before args s = true) (hR : rmX1_numberFor.frames + 1 ≤ R.frames ∧ 8 + (2 + 11) + rmX1_numberFor.locals ≤ R.locals) : CallW R s args RX4 RX1 81 yX1_numberFor cX1_numberFor 2 (some .int) wsX1_numberFor rmX1_numberFor 0 0 1 :=
  cwV 1 hts (gd_GV wd_485 wd_486 wd_487 wd_77 wd_488) rfl rfl rfl (by decide +kernel) hR
theorem k_X4_89 (hts : ∀ w ∈ lw_gd, w.before args s = true) (hR : rmX0_holderOf.frames + 1 ≤ R.frames ∧ 8 + (5 + 11) + rmX0_holderOf.locals ≤ R.locals) : CallW R s args RX4 RX0 89 yX0_holderOf cX0_holderOf 5 (some .int) wsX0_holderOf rmX0_holderOf 0 0 2 :=
  cwV 2 hts (gd_GV wd_493 wd_413 wd_414 wd_75 wd_415) rfl rfl rfl (by decide +kernel) hR
theorem k_X4_95 (hts : ∀ w ∈ lw_gd, w.before args s = true) (hR : rmX0_numberFor.frames + 1 ≤ R.frames ∧ 8 + (2 + 11) + rmX0_numberFor.locals ≤ R.locals) : CallW R s args RX4 RX0 95 yX0_numberFor cX0_numberFor 2 (some .int) wsX0_numberFor rmX0_numberFor 0 0 1 :=
  cwV 1 hts (gd_GV wd_498 wd_499 wd_500 wd_75 wd_501) rfl rfl rfl (by decide +kernel) hR
theorem k_X4_96 (hts : ∀ w ∈ lw_gd, w.before args s = true) (hR : rmX0_traceFrom.frames + 1 ≤ R.frames ∧ 8 + (5 + 11) + rmX0_traceFrom.locals ≤ R.locals) : CallW R s args RX4 RX0 96 yX0_traceFrom cX0_traceFrom 5 (some .int) wsX0_traceFrom rmX0_traceFrom 0 0 2 :=
  cwV 2 hts (gd_GV wd_522 wd_523 wd_524 wd_75 wd_525) rfl rfl rfl (by decide +kernel) hR
theorem k_X4_99 (hts : ∀ w ∈ lw_gd, w.before args s = true) (hR : rmX0_copyFrom.frames + 1 ≤ R.frames ∧ 8 + (3 + 11) + rmX0_copyFrom.locals ≤ R.locals) : CallW R s args RX4 RX0 99 yX0_copyFrom cX0_copyFrom 3 none wsX0_copyFrom rmX0_copyFrom 0 0 1 :=
  cwV 1 hts (gd_GV wd_530 wd_531 wd_532 wd_75 wd_533) rfl rfl rfl (by decide +kernel) hR
theorem k_X4_103 (hts : ∀ w ∈ lw_gd, w.before args s = true) (hR : rmX0_ticksUntil.frames + 1 ≤ R.frames ∧ 8 + (5 + 11) + rmX0_ticksUntil.locals ≤ R.locals) : CallW R s args RX4 RX0 103 yX0_ticksUntil cX0_ticksUntil 5 (some .int) wsX0_ticksUntil rmX0_ticksUntil 0 0 3 :=
  cwV 3 hts (gd_GV wd_542 wd_543 wd_544 wd_75 wd_545) rfl rfl rfl (by decide +kernel) hR
theorem k_X4_107 (hts : ∀ w ∈ lw_gd, w.before args s = true) (hR : rmX0_lineAt.frames + 1 ≤ R.frames ∧ 8 + (2 + 11) + rmX0_lineAt.locals ≤ R.locals) : CallW R s args RX4 RX0 107 yX0_lineAt cX0_lineAt 2 (some (.object "RotaryExchange$Line")) wsX0_lineAt rmX0_lineAt 0 0 1 :=
  cwV 1 hts (gd_GV wd_551 wd_288 wd_289 wd_75 wd_290) rfl rfl rfl (by decide +kernel) hR
theorem k_X4_116 (hts : ∀ w ∈ lw_gd, w.before args s = true) (hR : rmX0_tryCall.frames + 1 ≤ R.frames ∧ 8 + (5 + 11) + rmX0_tryCall.locals ≤ R.locals) : CallW R s args RX4 RX0 116 yX0_tryCall cX0_tryCall 5 (some .int) wsX0_tryCall rmX0_tryCall 0 0 2 :=
  cwV 2 hts (gd_GV wd_552 wd_553 wd_554 wd_75 wd_555) rfl rfl rfl (by decide +kernel) hR
theorem k_X4_119 (hts : ∀ w ∈ lw_gd, w.before args s = true) (hR : rmX3_append.frames + 1 ≤ R.frames ∧ 8 + (5 + 11) + rmX3_append.locals ≤ R.locals) : CallW R s args RX4 RX3 119 yX3_append cX3_append 5 (some .int) wsX3_append rmX3_append 0 0 1 :=
  cwV 1 hts (gd_GV wd_565 wd_566 wd_567 wd_78 wd_568) rfl rfl rfl (by decide +kernel) hR
theorem k_X4_123 (hts : ∀ w ∈ lw_gd, w.before args s = true) (hR : rmX3_firstFault.frames + 1 ≤ R.frames ∧ 8 + (5 + 11) + rmX3_firstFault.locals ≤ R.locals) : CallW R s args RX4 RX3 123 yX3_firstFault cX3_firstFault 5 (some .int) wsX3_firstFault rmX3_firstFault 0 0 0 :=
  cwV 0 hts (gd_GV wd_585 wd_586 wd_587 wd_78 wd_588) rfl rfl rfl (by decide +kernel) hR
theorem k_X4_127 (hts : ∀ w ∈ lw_gd, w.before args s = true) (hR : rmX3_beginsAnAct.frames + 1 ≤ R.frames ∧ 8 + (2 + 11) + rmX3_beginsAnAct.locals ≤ R.locals) : CallW R s args RX4 RX3 127 yX3_beginsAnAct cX3_beginsAnAct 2 (some .boolean) wsX3_beginsAnAct rmX3_beginsAnAct 0 0 1 :=
  cwV 1 hts (gd_GV wd_612 wd_613 wd_614 wd_78 wd_615) rfl rfl rfl (by decide +kernel) hR
theorem k_X4_130 (hts : ∀ w ∈ lw_gd, w.before args s = true) (hR : rmX4_succeeds.frames + 1 ≤ R.frames ∧ 8 + (4 + 11) + rmX4_succeeds.locals ≤ R.locals) : CallW R s args RX4 RX4 130 yX4_succeeds cX4_succeeds 4 (some .boolean) wsX4_succeeds rmX4_succeeds 0 0 1 :=
  cwV 1 hts (gd_GV wd_616 wd_618 wd_23 wd_74 wd_619) rfl rfl rfl (by decide +kernel) hR
theorem k_X4_133 (hts : ∀ w ∈ lw_gd, w.before args s = true) (hR : rmX3_lineAt.frames + 1 ≤ R.frames ∧ 8 + (2 + 11) + rmX3_lineAt.locals ≤ R.locals) : CallW R s args RX4 RX3 133 yX3_lineAt cX3_lineAt 2 (some .int) wsX3_lineAt rmX3_lineAt 0 0 1 :=
  cwV 1 hts (gd_GV wd_620 wd_621 wd_622 wd_78 wd_623) rfl rfl rfl (by decide +kernel) hR
theorem k_X4_135 (hts : ∀ w ∈ lw_gd, w.before args s = true) (hR : rmX3_codeAt.frames + 1 ≤ R.frames ∧ 8 + (2 + 11) + rmX3_codeAt.locals ≤ R.locals) : CallW R s args RX4 RX3 135 yX3_codeAt cX3_codeAt 2 (some .int) wsX3_codeAt rmX3_codeAt 0 0 1 :=
  cwV 1 hts (gd_GV wd_624 wd_590 wd_591 wd_78 wd_592) rfl rfl rfl (by decide +kernel) hR
theorem k_X4_138 (hts : ∀ w ∈ lw_gd, w.before args s = true) (hR : rmX4_dialsAll.frames + 1 ≤ R.frames ∧ 8 + (4 + 11) + rmX4_dialsAll.locals ≤ R.locals) : CallW R s args RX4 RX4 138 yX4_dialsAll cX4_dialsAll 4 (some .boolean) wsX4_dialsAll rmX4_dialsAll 0 0 2 :=
  cwV 2 hts (gd_GV wd_625 wd_627 wd_24 wd_74 wd_628) rfl rfl rfl (by decide +kernel) hR
theorem k_X4_142 (hts : ∀ w ∈ lw_gd, w.before args s = true) (hR : rmX3_numberAt.frames + 1 ≤ R.frames ∧ 8 + (4 + 11) + rmX3_numberAt.locals ≤ R.locals) : CallW R s args RX4 RX3 142 yX3_numberAt cX3_numberAt 4 (some .int) wsX3_numberAt rmX3_numberAt 0 0 1 :=
  cwV 1 hts (gd_GV wd_630 wd_631 wd_632 wd_78 wd_633) rfl rfl rfl (by decide +kernel) hR
theorem k_X5_33 (hts : ∀ w ∈ lw_gd, w.before args s = true) (hR : rmX5_in.frames + 1 ≤ R.frames ∧ 8 + (3 + 11) + rmX5_in.locals ≤ R.locals) : CallB R s args RX5 33 yX5_in cX5_in 3 (some .boolean) wsX5_in rmX5_in 0 0 3 ∧ (Cond.static yX5_in).before args s = true :=
  cwS 3 hts (gd_GS wd_652 wd_653 wd_79 wd_654) rfl rfl rfl (by decide +kernel) hR
theorem k_X5_49 (hts : ∀ w ∈ lw_gd, w.before args s = true) (hR : rmX5_takes.frames + 1 ≤ R.frames ∧ 8 + (2 + 11) + rmX5_takes.locals ≤ R.locals) : CallB R s args RX5 49 yX5_takes cX5_takes 2 (some .boolean) wsX5_takes rmX5_takes 0 0 2 ∧ (Cond.static yX5_takes).before args s = true :=
  cwS 2 hts (gd_GS wd_707 wd_708 wd_79 wd_709) rfl rfl rfl (by decide +kernel) hR
theorem k_X5_64 (hts : ∀ w ∈ lw_gd, w.before args s = true) (hR : rmX5_isLine.frames + 1 ≤ R.frames ∧ 8 + (1 + 11) + rmX5_isLine.locals ≤ R.locals) : CallB R s args RX5 64 yX5_isLine cX5_isLine 1 (some .boolean) wsX5_isLine rmX5_isLine 0 0 1 ∧ (Cond.static yX5_isLine).before args s = true :=
  cwS 1 hts (gd_GS wd_718 wd_719 wd_79 wd_720) rfl rfl rfl (by decide +kernel) hR
theorem k_X5_178 (hts : ∀ w ∈ lw_gd, w.before args s = true) (hR : rmX5_isEnd.frames + 1 ≤ R.frames ∧ 8 + (1 + 11) + rmX5_isEnd.locals ≤ R.locals) : CallB R s args RX5 178 yX5_isEnd cX5_isEnd 1 (some .boolean) wsX5_isEnd rmX5_isEnd 0 0 1 ∧ (Cond.static yX5_isEnd).before args s = true :=
  cwS 1 hts (gd_GS wd_907 wd_908 wd_79 wd_909) rfl rfl rfl (by decide +kernel) hR
theorem k_X5_193 (hts : ∀ w ∈ lw_gd, w.before args s = true) (hR : rmX5_lineBy.frames + 1 ≤ R.frames ∧ 8 + (1 + 11) + rmX5_lineBy.locals ≤ R.locals) : CallB R s args RX5 193 yX5_lineBy cX5_lineBy 1 (some .int) wsX5_lineBy rmX5_lineBy 0 0 1 ∧ (Cond.static yX5_lineBy).before args s = true :=
  cwS 1 hts (gd_GS wd_940 wd_941 wd_79 wd_942) rfl rfl rfl (by decide +kernel) hR
theorem k_X5_29 (hts : ∀ w ∈ lw_gd, w.before args s = true) (hR : rmX5_begin.frames + 1 ≤ R.frames ∧ 8 + (4 + 11) + rmX5_begin.locals ≤ R.locals) : CallW R s args RX5 RX5 29 yX5_begin cX5_begin 4 none wsX5_begin rmX5_begin 0 0 2 :=
  cwV 2 hts (gd_GV wd_648 wd_650 wd_25 wd_79 wd_651) rfl rfl rfl (by decide +kernel) hR
theorem k_X5_37 (hts : ∀ w ∈ lw_gd, w.before args s = true) (hR : rmX5_free.frames + 1 ≤ R.frames ∧ 8 + (4 + 11) + rmX5_free.locals ≤ R.locals) : CallW R s args RX5 RX5 37 yX5_free cX5_free 4 none wsX5_free rmX5_free 0 0 1 :=
  cwV 1 hts (gd_GV wd_655 wd_657 wd_26 wd_79 wd_658) rfl rfl rfl (by decide +kernel) hR
theorem k_X5_41 (hts : ∀ w ∈ lw_gd, w.before args s = true) (hR : rmX5_ofFinder.frames + 1 ≤ R.frames ∧ 8 + (3 + 11) + rmX5_ofFinder.locals ≤ R.locals) : CallW R s args RX5 RX5 41 yX5_ofFinder cX5_ofFinder 3 (some .int) wsX5_ofFinder rmX5_ofFinder 0 0 2 :=
  cwV 2 hts (gd_GV wd_659 wd_661 wd_27 wd_79 wd_662) rfl rfl rfl (by decide +kernel) hR
theorem k_X5_45 (hts : ∀ w ∈ lw_gd, w.before args s = true) (hR : rmX5_layFinder.frames + 1 ≤ R.frames ∧ 8 + (4 + 11) + rmX5_layFinder.locals ≤ R.locals) : CallW R s args RX5 RX5 45 yX5_layFinder cX5_layFinder 4 none wsX5_layFinder rmX5_layFinder 0 0 3 :=
  cwV 3 hts (gd_GV wd_663 wd_665 wd_28 wd_79 wd_666) rfl rfl rfl (by decide +kernel) hR
theorem k_X5_53 (hts : ∀ w ∈ lw_gd, w.before args s = true) (hR : rmX5_setting.frames + 1 ≤ R.frames ∧ 8 + (2 + 11) + rmX5_setting.locals ≤ R.locals) : CallW R s args RX5 RX5 53 yX5_setting cX5_setting 2 (some .int) wsX5_setting rmX5_setting 0 0 1 :=
  cwV 1 hts (gd_GV wd_710 wd_712 wd_29 wd_79 wd_713) rfl rfl rfl (by decide +kernel) hR
theorem k_X5_57 (hts : ∀ w ∈ lw_gd, w.before args s = true) (hR : rmX5_isHolding.frames + 1 ≤ R.frames ∧ 8 + (2 + 11) + rmX5_isHolding.locals ≤ R.locals) : CallW R s args RX5 RX5 57 yX5_isHolding cX5_isHolding 2 (some .boolean) wsX5_isHolding rmX5_isHolding 0 0 1 :=
  cwV 1 hts (gd_GV wd_802 wd_804 wd_47 wd_79 wd_805) rfl rfl rfl (by decide +kernel) hR
theorem k_X5_61 (hts : ∀ w ∈ lw_gd, w.before args s = true) (hR : rmX5_lay.frames + 1 ≤ R.frames ∧ 8 + (4 + 11) + rmX5_lay.locals ≤ R.locals) : CallW R s args RX5 RX5 61 yX5_lay cX5_lay 4 none wsX5_lay rmX5_lay 0 0 3 :=
  cwV 3 hts (gd_GV wd_725 wd_727 wd_31 wd_79 wd_728) rfl rfl rfl (by decide +kernel) hR
theorem k_X5_67 (hts : ∀ w ∈ lw_gd, w.before args s = true) (hR : rmX5_of.frames + 1 ≤ R.frames ∧ 8 + (3 + 11) + rmX5_of.locals ≤ R.locals) : CallW R s args RX5 RX5 67 yX5_of cX5_of 3 (some .int) wsX5_of rmX5_of 0 0 2 :=
  cwV 2 hts (gd_GV wd_721 wd_723 wd_30 wd_79 wd_724) rfl rfl rfl (by decide +kernel) hR
theorem k_X5_70 (hts : ∀ w ∈ lw_gd, w.before args s = true) (hR : rmX5_countOne.frames + 1 ≤ R.frames ∧ 8 + (2 + 11) + rmX5_countOne.locals ≤ R.locals) : CallW R s args RX5 RX5 70 yX5_countOne cX5_countOne 2 none wsX5_countOne rmX5_countOne 0 0 1 :=
  cwV 1 hts (gd_GV wd_729 wd_731 wd_32 wd_79 wd_732) rfl rfl rfl (by decide +kernel) hR
theorem k_X5_73 (hts : ∀ w ∈ lw_gd, w.before args s = true) (hR : rmX5_finderOf.frames + 1 ≤ R.frames ∧ 8 + (3 + 11) + rmX5_finderOf.locals ≤ R.locals) : CallW R s args RX5 RX5 73 yX5_finderOf cX5_finderOf 3 (some .int) wsX5_finderOf rmX5_finderOf 0 0 1 :=
  cwV 1 hts (gd_GV wd_741 wd_743 wd_34 wd_79 wd_744) rfl rfl rfl (by decide +kernel) hR
theorem k_X5_76 (hts : ∀ w ∈ lw_gd, w.before args s = true) (hR : rmX5_park.frames + 1 ≤ R.frames ∧ 8 + (2 + 11) + rmX5_park.locals ≤ R.locals) : CallW R s args RX5 RX5 76 yX5_park cX5_park 2 none wsX5_park rmX5_park 0 0 1 :=
  cwV 1 hts (gd_GV wd_745 wd_747 wd_35 wd_79 wd_748) rfl rfl rfl (by decide +kernel) hR
theorem k_X5_79 (hts : ∀ w ∈ lw_gd, w.before args s = true) (hR : rmX5_dropCall.frames + 1 ≤ R.frames ∧ 8 + (4 + 11) + rmX5_dropCall.locals ≤ R.locals) : CallW R s args RX5 RX5 79 yX5_dropCall cX5_dropCall 4 none wsX5_dropCall rmX5_dropCall 0 0 1 :=
  cwV 1 hts (gd_GV wd_737 wd_739 wd_33 wd_79 wd_740) rfl rfl rfl (by decide +kernel) hR
theorem k_X5_82 (hts : ∀ w ∈ lw_gd, w.before args s = true) (hR : rmX5_takeDigit.frames + 1 ≤ R.frames ∧ 8 + (5 + 11) + rmX5_takeDigit.locals ≤ R.locals) : CallW R s args RX5 RX5 82 yX5_takeDigit cX5_takeDigit 5 (some .int) wsX5_takeDigit rmX5_takeDigit 0 0 1 :=
  cwV 1 hts (gd_GV wd_774 wd_776 wd_40 wd_79 wd_777) rfl rfl rfl (by decide +kernel) hR
theorem k_X5_85 (hts : ∀ w ∈ lw_gd, w.before args s = true) (hR : rmX5_reaches.frames + 1 ≤ R.frames ∧ 8 + (4 + 11) + rmX5_reaches.locals ≤ R.locals) : CallW R s args RX5 RX5 85 yX5_reaches cX5_reaches 4 (some .boolean) wsX5_reaches rmX5_reaches 0 0 3 :=
  cwV 3 hts (gd_GV wd_778 wd_780 wd_41 wd_79 wd_781) rfl rfl rfl (by decide +kernel) hR
theorem k_X5_88 (hts : ∀ w ∈ lw_gd, w.before args s = true) (hR : rmX5_giveUp.frames + 1 ≤ R.frames ∧ 8 + (3 + 11) + rmX5_giveUp.locals ≤ R.locals) : CallW R s args RX5 RX5 88 yX5_giveUp cX5_giveUp 3 none wsX5_giveUp rmX5_giveUp 0 0 1 :=
  cwV 1 hts (gd_GV wd_782 wd_784 wd_42 wd_79 wd_785) rfl rfl rfl (by decide +kernel) hR
theorem k_X5_91 (hts : ∀ w ∈ lw_gd, w.before args s = true) (hR : rmX5_sound.frames + 1 ≤ R.frames ∧ 8 + (5 + 11) + rmX5_sound.locals ≤ R.locals) : CallW R s args RX5 RX5 91 yX5_sound cX5_sound 5 none wsX5_sound rmX5_sound 0 0 3 :=
  cwV 3 hts (gd_GV wd_790 wd_792 wd_44 wd_79 wd_793) rfl rfl rfl (by decide +kernel) hR
theorem k_X5_94 (hts : ∀ w ∈ lw_gd, w.before args s = true) (hR : rmX5_holder.frames + 1 ≤ R.frames ∧ 8 + (4 + 11) + rmX5_holder.locals ≤ R.locals) : CallW R s args RX5 RX5 94 yX5_holder cX5_holder 4 (some .int) wsX5_holder rmX5_holder 0 0 2 :=
  cwV 2 hts (gd_GV wd_798 wd_800 wd_46 wd_79 wd_801) rfl rfl rfl (by decide +kernel) hR
theorem k_X5_97 (hts : ∀ w ∈ lw_gd, w.before args s = true) (hR : rmX5_test.frames + 1 ≤ R.frames ∧ 8 + (3 + 11) + rmX5_test.locals ≤ R.locals) : CallW R s args RX5 RX5 97 yX5_test cX5_test 3 none wsX5_test rmX5_test 0 0 1 :=
  cwV 1 hts (gd_GV wd_810 wd_812 wd_49 wd_79 wd_813) rfl rfl rfl (by decide +kernel) hR
theorem k_X5_100 (hts : ∀ w ∈ lw_gd, w.before args s = true) (hR : rmX5_meter.frames + 1 ≤ R.frames ∧ 8 + (2 + 11) + rmX5_meter.locals ≤ R.locals) : CallW R s args RX5 RX5 100 yX5_meter cX5_meter 2 none wsX5_meter rmX5_meter 0 0 1 :=
  cwV 1 hts (gd_GV wd_818 wd_820 wd_51 wd_79 wd_821) rfl rfl rfl (by decide +kernel) hR
theorem k_X5_103 (hts : ∀ w ∈ lw_gd, w.before args s = true) (hR : rmX5_seek.frames + 1 ≤ R.frames ∧ 8 + (3 + 11) + rmX5_seek.locals ≤ R.locals) : CallW R s args RX5 RX5 103 yX5_seek cX5_seek 3 none wsX5_seek rmX5_seek 0 0 1 :=
  cwV 1 hts (gd_GV wd_766 wd_768 wd_38 wd_79 wd_769) rfl rfl rfl (by decide +kernel) hR
theorem k_X5_106 (hts : ∀ w ∈ lw_gd, w.before args s = true) (hR : rmX5_waitForDigit.frames + 1 ≤ R.frames ∧ 8 + (4 + 11) + rmX5_waitForDigit.locals ≤ R.locals) : CallW R s args RX5 RX5 106 yX5_waitForDigit cX5_waitForDigit 4 none wsX5_waitForDigit rmX5_waitForDigit 0 0 1 :=
  cwV 1 hts (gd_GV wd_770 wd_772 wd_39 wd_79 wd_773) rfl rfl rfl (by decide +kernel) hR
theorem k_X5_109 (hts : ∀ w ∈ lw_gd, w.before args s = true) (hR : rmX5_rise.frames + 1 ≤ R.frames ∧ 8 + (2 + 11) + rmX5_rise.locals ≤ R.locals) : CallW R s args RX5 RX5 109 yX5_rise cX5_rise 2 none wsX5_rise rmX5_rise 0 0 1 :=
  cwV 1 hts (gd_GV wd_786 wd_788 wd_43 wd_79 wd_789) rfl rfl rfl (by decide +kernel) hR
theorem k_X5_112 (hts : ∀ w ∈ lw_gd, w.before args s = true) (hR : rmX5_hunt.frames + 1 ≤ R.frames ∧ 8 + (3 + 11) + rmX5_hunt.locals ≤ R.locals) : CallW R s args RX5 RX5 112 yX5_hunt cX5_hunt 3 none wsX5_hunt rmX5_hunt 0 0 1 :=
  cwV 1 hts (gd_GV wd_794 wd_796 wd_45 wd_79 wd_797) rfl rfl rfl (by decide +kernel) hR
theorem k_X5_115 (hts : ∀ w ∈ lw_gd, w.before args s = true) (hR : rmX5_step.frames + 1 ≤ R.frames ∧ 8 + (2 + 11) + rmX5_step.locals ≤ R.locals) : CallW R s args RX5 RX5 115 yX5_step cX5_step 2 none wsX5_step rmX5_step 0 0 1 :=
  cwV 1 hts (gd_GV wd_806 wd_808 wd_48 wd_79 wd_809) rfl rfl rfl (by decide +kernel) hR
theorem k_X5_118 (hts : ∀ w ∈ lw_gd, w.before args s = true) (hR : rmX5_ring.frames + 1 ≤ R.frames ∧ 8 + (4 + 11) + rmX5_ring.locals ≤ R.locals) : CallW R s args RX5 RX5 118 yX5_ring cX5_ring 4 none wsX5_ring rmX5_ring 0 0 1 :=
  cwV 1 hts (gd_GV wd_814 wd_816 wd_50 wd_79 wd_817) rfl rfl rfl (by decide +kernel) hR
theorem k_X5_121 (hts : ∀ w ∈ lw_gd, w.before args s = true) (hR : rmX5_talk.frames + 1 ≤ R.frames ∧ 8 + (4 + 11) + rmX5_talk.locals ≤ R.locals) : CallW R s args RX5 RX5 121 yX5_talk cX5_talk 4 none wsX5_talk rmX5_talk 0 0 1 :=
  cwV 1 hts (gd_GV wd_822 wd_824 wd_52 wd_79 wd_825) rfl rfl rfl (by decide +kernel) hR
theorem k_X5_124 (hts : ∀ w ∈ lw_gd, w.before args s = true) (hR : rmX5_soundOn.frames + 1 ≤ R.frames ∧ 8 + (3 + 11) + rmX5_soundOn.locals ≤ R.locals) : CallW R s args RX5 RX5 124 yX5_soundOn cX5_soundOn 3 none wsX5_soundOn rmX5_soundOn 0 0 1 :=
  cwV 1 hts (gd_GV wd_826 wd_828 wd_53 wd_79 wd_829) rfl rfl rfl (by decide +kernel) hR
theorem k_X5_127 (hts : ∀ w ∈ lw_gd, w.before args s = true) (hR : rmX5_isQueued.frames + 1 ≤ R.frames ∧ 8 + (2 + 11) + rmX5_isQueued.locals ≤ R.locals) : CallW R s args RX5 RX5 127 yX5_isQueued cX5_isQueued 2 (some .boolean) wsX5_isQueued rmX5_isQueued 0 0 1 :=
  cwV 1 hts (gd_GV wd_834 wd_836 wd_55 wd_79 wd_837) rfl rfl rfl (by decide +kernel) hR
theorem k_X5_130 (hts : ∀ w ∈ lw_gd, w.before args s = true) (hR : rmX5_stepFinder.frames + 1 ≤ R.frames ∧ 8 + (2 + 11) + rmX5_stepFinder.locals ≤ R.locals) : CallW R s args RX5 RX5 130 yX5_stepFinder cX5_stepFinder 2 none wsX5_stepFinder rmX5_stepFinder 0 0 1 :=
  cwV 1 hts (gd_GV wd_762 wd_764 wd_37 wd_79 wd_765) rfl rfl rfl (by decide +kernel) hR
theorem k_X5_133 (hts : ∀ w ∈ lw_gd, w.before args s = true) (hR : rmX5_allot.frames + 1 ≤ R.frames ∧ 8 + (6 + 11) + rmX5_allot.locals ≤ R.locals) : CallW R s args RX5 RX5 133 yX5_allot cX5_allot 6 none wsX5_allot rmX5_allot 0 0 0 :=
  cwV 0 hts (gd_GV wd_830 wd_832 wd_54 wd_79 wd_833) rfl rfl rfl (by decide +kernel) hR
theorem k_X5_137 (hts : ∀ w ∈ lw_gd, w.before args s = true) (hR : rmX5_makeTick.frames + 1 ≤ R.frames ∧ 8 + (2 + 11) + rmX5_makeTick.locals ≤ R.locals) : CallW R s args RX5 RX5 137 yX5_makeTick cX5_makeTick 2 none wsX5_makeTick rmX5_makeTick 0 0 0 :=
  cwV 0 hts (gd_GV wd_758 wd_760 wd_36 wd_79 wd_761) rfl rfl rfl (by decide +kernel) hR
theorem k_X5_140 (hts : ∀ w ∈ lw_gd, w.before args s = true) (hR : rmX5_finderTo.frames + 1 ≤ R.frames ∧ 8 + (3 + 11) + rmX5_finderTo.locals ≤ R.locals) : CallW R s args RX5 RX5 140 yX5_finderTo cX5_finderTo 3 (some .int) wsX5_finderTo rmX5_finderTo 0 0 1 :=
  cwV 1 hts (gd_GV wd_846 wd_848 wd_57 wd_79 wd_849) rfl rfl rfl (by decide +kernel) hR
theorem k_X5_143 (hts : ∀ w ∈ lw_gd, w.before args s = true) (hR : rmX5_pathOf.frames + 1 ≤ R.frames ∧ 8 + (2 + 11) + rmX5_pathOf.locals ≤ R.locals) : CallW R s args RX5 RX5 143 yX5_pathOf cX5_pathOf 2 (some .int) wsX5_pathOf rmX5_pathOf 0 0 1 :=
  cwV 1 hts (gd_GV wd_842 wd_844 wd_56 wd_79 wd_845) rfl rfl rfl (by decide +kernel) hR
theorem k_X5_146 (hts : ∀ w ∈ lw_gd, w.before args s = true) (hR : rmX5_otherOf.frames + 1 ≤ R.frames ∧ 8 + (3 + 11) + rmX5_otherOf.locals ≤ R.locals) : CallW R s args RX5 RX5 146 yX5_otherOf cX5_otherOf 3 (some .int) wsX5_otherOf rmX5_otherOf 0 0 1 :=
  cwV 1 hts (gd_GV wd_850 wd_852 wd_58 wd_79 wd_853) rfl rfl rfl (by decide +kernel) hR
theorem k_X5_149 (hts : ∀ w ∈ lw_gd, w.before args s = true) (hR : rmX5_placeOf.frames + 1 ≤ R.frames ∧ 8 + (4 + 11) + rmX5_placeOf.locals ≤ R.locals) : CallW R s args RX5 RX5 149 yX5_placeOf cX5_placeOf 4 (some .int) wsX5_placeOf rmX5_placeOf 0 0 1 :=
  cwV 1 hts (gd_GV wd_854 wd_856 wd_59 wd_79 wd_857) rfl rfl rfl (by decide +kernel) hR
theorem k_X5_152 (hts : ∀ w ∈ lw_gd, w.before args s = true) (hR : rmX5_isFinder.frames + 1 ≤ R.frames ∧ 8 + (2 + 11) + rmX5_isFinder.locals ≤ R.locals) : CallW R s args RX5 RX5 152 yX5_isFinder cX5_isFinder 2 (some .boolean) wsX5_isFinder rmX5_isFinder 0 0 1 :=
  cwV 1 hts (gd_GV wd_862 wd_864 wd_60 wd_79 wd_865) rfl rfl rfl (by decide +kernel) hR
theorem k_X5_155 (hts : ∀ w ∈ lw_gd, w.before args s = true) (hR : rmX5_showsTimer.frames + 1 ≤ R.frames ∧ 8 + (2 + 11) + rmX5_showsTimer.locals ≤ R.locals) : CallW R s args RX5 RX5 155 yX5_showsTimer cX5_showsTimer 2 (some .boolean) wsX5_showsTimer rmX5_showsTimer 0 0 1 :=
  cwV 1 hts (gd_GV wd_866 wd_868 wd_61 wd_79 wd_869) rfl rfl rfl (by decide +kernel) hR
theorem k_X5_158 (hts : ∀ w ∈ lw_gd, w.before args s = true) (hR : rmX5_finders.frames + 1 ≤ R.frames ∧ 8 + (4 + 11) + rmX5_finders.locals ≤ R.locals) : CallW R s args RX5 RX5 158 yX5_finders cX5_finders 4 (some .int) wsX5_finders rmX5_finders 0 0 1 :=
  cwV 1 hts (gd_GV wd_878 wd_880 wd_62 wd_79 wd_881) rfl rfl rfl (by decide +kernel) hR
theorem k_X5_162 (hts : ∀ w ∈ lw_gd, w.before args s = true) (hR : rmX5_sumOf.frames + 1 ≤ R.frames ∧ 8 + (4 + 11) + rmX5_sumOf.locals ≤ R.locals) : CallW R s args RX5 RX5 162 yX5_sumOf cX5_sumOf 4 (some .int) wsX5_sumOf rmX5_sumOf 0 0 1 :=
  cwV 1 hts (gd_GV wd_882 wd_884 wd_63 wd_79 wd_885) rfl rfl rfl (by decide +kernel) hR
theorem k_X5_169 (hts : ∀ w ∈ lw_gd, w.before args s = true) (hR : rmX5_putAside.frames + 1 ≤ R.frames ∧ 8 + (2 + 11) + rmX5_putAside.locals ≤ R.locals) : CallW R s args RX5 RX5 169 yX5_putAside cX5_putAside 2 none wsX5_putAside rmX5_putAside 0 0 0 :=
  cwV 0 hts (gd_GV wd_894 wd_896 wd_64 wd_79 wd_897) rfl rfl rfl (by decide +kernel) hR
theorem k_X5_172 (hts : ∀ w ∈ lw_gd, w.before args s = true) (hR : rmX5_putBack.frames + 1 ≤ R.frames ∧ 8 + (2 + 11) + rmX5_putBack.locals ≤ R.locals) : CallW R s args RX5 RX5 172 yX5_putBack cX5_putBack 2 none wsX5_putBack rmX5_putBack 0 0 0 :=
  cwV 0 hts (gd_GV wd_898 wd_900 wd_65 wd_79 wd_901) rfl rfl rfl (by decide +kernel) hR
theorem k_X5_175 (hts : ∀ w ∈ lw_gd, w.before args s = true) (hR : rmX5_lift.frames + 1 ≤ R.frames ∧ 8 + (2 + 11) + rmX5_lift.locals ≤ R.locals) : CallW R s args RX5 RX5 175 yX5_lift cX5_lift 2 (some .int) wsX5_lift rmX5_lift 0 0 1 :=
  cwV 1 hts (gd_GV wd_906 wd_715 wd_716 wd_79 wd_717) rfl rfl rfl (by decide +kernel) hR
theorem k_X5_181 (hts : ∀ w ∈ lw_gd, w.before args s = true) (hR : rmX5_dial.frames + 1 ≤ R.frames ∧ 8 + (4 + 11) + rmX5_dial.locals ≤ R.locals) : CallW R s args RX5 RX5 181 yX5_dial cX5_dial 4 (some .int) wsX5_dial rmX5_dial 0 0 2 :=
  cwV 2 hts (gd_GV wd_910 wd_750 wd_751 wd_79 wd_752) rfl rfl rfl (by decide +kernel) hR
theorem k_X5_189 (hts : ∀ w ∈ lw_gd, w.before args s = true) (hR : rmX5_next.frames + 1 ≤ R.frames ∧ 8 + (1 + 11) + rmX5_next.locals ≤ R.locals) : CallW R s args RX5 RX5 189 yX5_next cX5_next 1 (some .int) wsX5_next rmX5_next 0 0 0 :=
  cwV 0 hts (gd_GV wd_928 wd_930 wd_67 wd_79 wd_931) rfl rfl rfl (by decide +kernel) hR
theorem k_X5_203 (hts : ∀ w ∈ lw_gd, w.before args s = true) (hR : rmX5_readNumber.frames + 1 ≤ R.frames ∧ 8 + (2 + 11) + rmX5_readNumber.locals ≤ R.locals) : CallW R s args RX5 RX5 203 yX5_readNumber cX5_readNumber 2 (some .int) wsX5_readNumber rmX5_readNumber 0 0 0 :=
  cwV 0 hts (gd_GV wd_932 wd_934 wd_68 wd_79 wd_935) rfl rfl rfl (by decide +kernel) hR
theorem k_X5_206 (hts : ∀ w ∈ lw_gd, w.before args s = true) (hR : rmX5_readLine.frames + 1 ≤ R.frames ∧ 8 + (2 + 11) + rmX5_readLine.locals ≤ R.locals) : CallW R s args RX5 RX5 206 yX5_readLine cX5_readLine 2 (some .int) wsX5_readLine rmX5_readLine 0 0 0 :=
  cwV 0 hts (gd_GV wd_936 wd_938 wd_69 wd_79 wd_939) rfl rfl rfl (by decide +kernel) hR
theorem k_X5_209 (hts : ∀ w ∈ lw_gd, w.before args s = true) (hR : rmX5_readDigits.frames + 1 ≤ R.frames ∧ 8 + (2 + 11) + rmX5_readDigits.locals ≤ R.locals) : CallW R s args RX5 RX5 209 yX5_readDigits cX5_readDigits 2 none wsX5_readDigits rmX5_readDigits 0 0 1 :=
  cwV 1 hts (gd_GV wd_943 wd_945 wd_70 wd_79 wd_946) rfl rfl rfl (by decide +kernel) hR
theorem k_X5_212 (hts : ∀ w ∈ lw_gd, w.before args s = true) (hR : rmX5_readAct.frames + 1 ≤ R.frames ∧ 8 + (3 + 11) + rmX5_readAct.locals ≤ R.locals) : CallW R s args RX5 RX5 212 yX5_readAct cX5_readAct 3 none wsX5_readAct rmX5_readAct 0 0 0 :=
  cwV 0 hts (gd_GV wd_924 wd_926 wd_66 wd_79 wd_927) rfl rfl rfl (by decide +kernel) hR
theorem k_X5_215 (hts : ∀ w ∈ lw_gd, w.before args s = true) (hR : rmX5_hang.frames + 1 ≤ R.frames ∧ 8 + (3 + 11) + rmX5_hang.locals ≤ R.locals) : CallW R s args RX5 RX5 215 yX5_hang cX5_hang 3 (some .int) wsX5_hang rmX5_hang 0 0 1 :=
  cwV 1 hts (gd_GV wd_956 wd_734 wd_735 wd_79 wd_736) rfl rfl rfl (by decide +kernel) hR
theorem k_X5_218 (hts : ∀ w ∈ lw_gd, w.before args s = true) (hR : rmX5_dials.frames + 1 ≤ R.frames ∧ 8 + (4 + 11) + rmX5_dials.locals ≤ R.locals) : CallW R s args RX5 RX5 218 yX5_dials cX5_dials 4 (some .boolean) wsX5_dials rmX5_dials 0 0 1 :=
  cwV 1 hts (gd_GV wd_957 wd_959 wd_72 wd_79 wd_960) rfl rfl rfl (by decide +kernel) hR
theorem k_X5_221 (hts : ∀ w ∈ lw_gd, w.before args s = true) (hR : rmX5_tick.frames + 1 ≤ R.frames ∧ 8 + (3 + 11) + rmX5_tick.locals ≤ R.locals) : CallW R s args RX5 RX5 221 yX5_tick cX5_tick 3 (some .int) wsX5_tick rmX5_tick 0 0 1 :=
  cwV 1 hts (gd_GV wd_961 wd_754 wd_755 wd_79 wd_756) rfl rfl rfl (by decide +kernel) hR
theorem k_X5_224 (hts : ∀ w ∈ lw_gd, w.before args s = true) (hR : rmX5_fault.frames + 1 ≤ R.frames ∧ 8 + (1 + 11) + rmX5_fault.locals ≤ R.locals) : CallW R s args RX5 RX5 224 yX5_fault cX5_fault 1 (some .int) wsX5_fault rmX5_fault 0 0 0 :=
  cwV 0 hts (gd_GV wd_951 wd_921 wd_922 wd_79 wd_923) rfl rfl rfl (by decide +kernel) hR
theorem k_X5_227 (hts : ∀ w ∈ lw_gd, w.before args s = true) (hR : rmX5_does.frames + 1 ≤ R.frames ∧ 8 + (2 + 11) + rmX5_does.locals ≤ R.locals) : CallW R s args RX5 RX5 227 yX5_does cX5_does 2 (some .boolean) wsX5_does rmX5_does 0 0 1 :=
  cwV 1 hts (gd_GV wd_952 wd_954 wd_71 wd_79 wd_955) rfl rfl rfl (by decide +kernel) hR
end CR
