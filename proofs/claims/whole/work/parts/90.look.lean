theorem zz_l1 : (lw_tbl[122]?).map goodWord = some true := by decide +kernel
theorem zz_l2 : (lw_tbl[79]?).map goodWord = some true := by decide +kernel
theorem zz_l3 : (lw_tbl[296]?).map goodWord = some true := by decide +kernel
theorem zz_l4 : (lw_tbl.filter (fun w => !goodWord w && !isNest w)).length = 0 := by decide +kernel
theorem zz_l5 : (lw_tbl.filter (fun w => !goodWord w && !isNest w)).length = 24 := by decide +kernel
theorem zz_l6 : (lw_tbl.filter (fun w => !goodWord w && !isNest w)).length = 60 := by decide +kernel
theorem zz_l7 : (lw_tbl.filter (fun w => !goodWord w && !isNest w)).length = 31 := by decide +kernel
theorem zz_look : True := trivial
