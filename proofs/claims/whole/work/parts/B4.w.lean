set_option maxRecDepth 100000 in
theorem rr_cw180 : ((List.range 10).map (· + 180)).all rr_ckW = true := by decide +kernel
set_option maxRecDepth 100000 in
theorem rr_cw190 : ((List.range 10).map (· + 190)).all rr_ckW = true := by decide +kernel
set_option maxRecDepth 100000 in
theorem rr_cw200 : ((List.range 10).map (· + 200)).all rr_ckW = true := by decide +kernel
