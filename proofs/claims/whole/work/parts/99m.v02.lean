def rr_g16 : List (Nat × Nat × Nat) := [(197, 0, 16), (198, 0, 40), (198, 40, 22), (199, 0, 40), (199, 40, 34), (200, 0, 40), (200, 40, 40), (200, 80, 5), (201, 0, 25), (202, 0, 13), (203, 0, 11), (204, 0, 25), (205, 0, 32), (206, 0, 40), (206, 40, 10), (207, 0, 13)]
set_option maxRecDepth 100000 in
theorem rr_gv16 : rr_g16.all (fun q => ((List.range q.2.2).map (· + q.2.1)).all (rr_ck1 q.1)) = true := by decide +kernel
def rr_g17 : List (Nat × Nat × Nat) := [(208, 0, 40), (208, 40, 40), (209, 0, 40), (209, 40, 39), (210, 0, 40), (210, 40, 40), (210, 80, 22), (211, 0, 9), (212, 0, 40), (212, 40, 13), (213, 0, 10), (214, 0, 24), (215, 0, 40), (215, 40, 2), (216, 0, 35)]
set_option maxRecDepth 100000 in
theorem rr_gv17 : rr_g17.all (fun q => ((List.range q.2.2).map (· + q.2.1)).all (rr_ck1 q.1)) = true := by decide +kernel
def rr_g18 : List (Nat × Nat × Nat) := [(217, 0, 18), (218, 0, 24), (219, 0, 35), (220, 0, 12), (221, 0, 6), (222, 0, 40), (222, 40, 2), (223, 0, 37), (224, 0, 31), (225, 0, 22), (226, 0, 31), (227, 0, 40), (227, 40, 2), (228, 0, 7), (229, 0, 13), (230, 0, 7), (231, 0, 9), (232, 0, 6), (233, 0, 11), (234, 0, 12), (235, 0, 40)]
set_option maxRecDepth 100000 in
theorem rr_gv18 : rr_g18.all (fun q => ((List.range q.2.2).map (· + q.2.1)).all (rr_ck1 q.1)) = true := by decide +kernel
def rr_g19 : List (Nat × Nat × Nat) := [(235, 40, 40), (235, 80, 40), (235, 120, 40)]
set_option maxRecDepth 100000 in
theorem rr_gv19 : rr_g19.all (fun q => ((List.range q.2.2).map (· + q.2.1)).all (rr_ck1 q.1)) = true := by decide +kernel
def rr_g20 : List (Nat × Nat × Nat) := [(235, 160, 40), (235, 200, 40), (235, 240, 40)]
set_option maxRecDepth 100000 in
theorem rr_gv20 : rr_g20.all (fun q => ((List.range q.2.2).map (· + q.2.1)).all (rr_ck1 q.1)) = true := by decide +kernel
def rr_g21 : List (Nat × Nat × Nat) := [(235, 280, 40), (235, 320, 40), (235, 360, 40)]
set_option maxRecDepth 100000 in
theorem rr_gv21 : rr_g21.all (fun q => ((List.range q.2.2).map (· + q.2.1)).all (rr_ck1 q.1)) = true := by decide +kernel
def rr_g22 : List (Nat × Nat × Nat) := [(235, 400, 40), (235, 440, 40), (235, 480, 40)]
set_option maxRecDepth 100000 in
theorem rr_gv22 : rr_g22.all (fun q => ((List.range q.2.2).map (· + q.2.1)).all (rr_ck1 q.1)) = true := by decide +kernel
def rr_g23 : List (Nat × Nat × Nat) := [(235, 520, 40), (235, 560, 40), (235, 600, 40)]
set_option maxRecDepth 100000 in
theorem rr_gv23 : rr_g23.all (fun q => ((List.range q.2.2).map (· + q.2.1)).all (rr_ck1 q.1)) = true := by decide +kernel
