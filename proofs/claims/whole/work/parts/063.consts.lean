theorem wd_378 : Cond.constant RX0 141 (100000) ∈ lw_gd := gd_in (List.mem_of_getElem? (i := 378) (by decide +kernel)) (by decide +kernel)
theorem wd_757 : Cond.constant RX5 136 (100000) ∈ lw_gd := gd_in (List.mem_of_getElem? (i := 757) (by decide +kernel)) (by decide +kernel)
theorem wd_915 : Cond.constantLong RX5 184 (255) ∈ lw_gd := gd_in (List.mem_of_getElem? (i := 915) (by decide +kernel)) (by decide +kernel)
theorem wd_970 : Cond.constantLong RL 68 (4294967295) ∈ lw_gd := gd_in (List.mem_of_getElem? (i := 970) (by decide +kernel)) (by decide +kernel)
