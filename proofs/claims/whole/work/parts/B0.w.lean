set_option maxRecDepth 100000 in
theorem rr_cw0 : ((List.range 10).map (· + 0)).all rr_ckW = true := by decide +kernel
set_option maxRecDepth 100000 in
theorem rr_cw10 : ((List.range 10).map (· + 10)).all rr_ckW = true := by decide +kernel
set_option maxRecDepth 100000 in
theorem rr_cw20 : ((List.range 10).map (· + 20)).all rr_ckW = true := by decide +kernel
set_option maxRecDepth 100000 in
theorem rr_cw30 : ((List.range 10).map (· + 30)).all rr_ckW = true := by decide +kernel
set_option maxRecDepth 100000 in
theorem rr_cw40 : ((List.range 10).map (· + 40)).all rr_ckW = true := by decide +kernel
set_option maxRecDepth 100000 in
theorem rr_cw50 : ((List.range 10).map (· + 50)).all rr_ckW = true := by decide +kernel
