set_option maxRecDepth 100000 in
theorem rr_cw160 : ((List.range 10).map (· + 160)).all rr_ckW = true := by decide +kernel
set_option maxRecDepth 100000 in
theorem rr_cw170 : ((List.range 10).map (· + 170)).all rr_ckW = true := by decide +kernel
