set_option maxRecDepth 100000 in
theorem rr_cw120 : ((List.range 10).map (· + 120)).all rr_ckW = true := by decide +kernel
set_option maxRecDepth 100000 in
theorem rr_cw130 : ((List.range 10).map (· + 130)).all rr_ckW = true := by decide +kernel
set_option maxRecDepth 100000 in
theorem rr_cw140 : ((List.range 10).map (· + 140)).all rr_ckW = true := by decide +kernel
set_option maxRecDepth 100000 in
theorem rr_cw150 : ((List.range 10).map (· + 150)).all rr_ckW = true := by decide +kernel
