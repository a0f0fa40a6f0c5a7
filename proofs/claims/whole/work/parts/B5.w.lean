set_option maxRecDepth 100000 in
theorem rr_cw210 : ((List.range 10).map (· + 210)).all rr_ckW = true := by decide +kernel
set_option maxRecDepth 100000 in
theorem rr_cw220 : ((List.range 10).map (· + 220)).all rr_ckW = true := by decide +kernel
set_option maxRecDepth 100000 in
theorem rr_cw230 : ((List.range 5).map (· + 230)).all rr_ckW = true := by decide +kernel
