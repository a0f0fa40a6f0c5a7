set_option maxRecDepth 100000 in
theorem rr_cw60 : ((List.range 10).map (· + 60)).all rr_ckW = true := by decide +kernel
set_option maxRecDepth 100000 in
theorem rr_cw70 : ((List.range 10).map (· + 70)).all rr_ckW = true := by decide +kernel
set_option maxRecDepth 100000 in
theorem rr_cw80 : ((List.range 10).map (· + 80)).all rr_ckW = true := by decide +kernel
set_option maxRecDepth 100000 in
theorem rr_cw90 : ((List.range 10).map (· + 90)).all rr_ckW = true := by decide +kernel
set_option maxRecDepth 100000 in
theorem rr_cw100 : ((List.range 10).map (· + 100)).all rr_ckW = true := by decide +kernel
set_option maxRecDepth 100000 in
theorem rr_cw110 : ((List.range 10).map (· + 110)).all rr_ckW = true := by decide +kernel
