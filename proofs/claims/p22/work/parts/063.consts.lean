theorem wd_325 : Cond.constant RX0 141 (100000) ∈ lw_gd := gd_in (List.mem_of_getElem? (i := 325) (by decide +kernel)) (by decide +kernel)
theorem wd_459 : Cond.constant RL 7 (4194303) ∈ lw_gd := gd_in (List.mem_of_getElem? (i := 459) (by decide +kernel)) (by decide +kernel)
