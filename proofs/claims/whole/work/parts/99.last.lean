theorem zz_test : (lw_tbl.filter (fun w => !goodWord w)).length = 0 := by decide +kernel
theorem zz_test2 : lw_tbl.length = 0 := by decide +kernel
