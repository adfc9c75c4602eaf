set_option maxRecDepth 100000 in
set_option maxHeartbeats 4000000 in
theorem mw1337 : Cond.code yL_refused cL_refused 9 (some .boolean) ∈ lw_tbl := List.mem_of_getElem? (i := 1337) rfl
