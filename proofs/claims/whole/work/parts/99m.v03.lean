def rr_g24 : List (Nat × Nat × Nat) := [(235, 640, 40), (235, 680, 40), (235, 720, 40)]
set_option maxRecDepth 100000 in
theorem rr_gv24 : rr_g24.all (fun q => ((List.range q.2.2).map (· + q.2.1)).all (rr_ck1 q.1)) = true := by decide +kernel
def rr_g25 : List (Nat × Nat × Nat) := [(235, 760, 40), (235, 800, 40), (235, 840, 40)]
set_option maxRecDepth 100000 in
theorem rr_gv25 : rr_g25.all (fun q => ((List.range q.2.2).map (· + q.2.1)).all (rr_ck1 q.1)) = true := by decide +kernel
def rr_g26 : List (Nat × Nat × Nat) := [(235, 880, 40), (235, 920, 29)]
set_option maxRecDepth 100000 in
theorem rr_gv26 : rr_g26.all (fun q => ((List.range q.2.2).map (· + q.2.1)).all (rr_ck1 q.1)) = true := by decide +kernel
