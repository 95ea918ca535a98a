theorem pz_mt {w : Cond} (n : Nat) (h : tables_1[n]? = some w) : w ∈ lw_tbl := List.mem_append_right _ (List.mem_of_getElem? h)
theorem pz_ms {w : Cond} (n : Nat) (h : (k2_sels lw_privs)[n]? = some w) : w ∈ lw_tbl := List.mem_append_left _ (List.mem_of_getElem? h)
