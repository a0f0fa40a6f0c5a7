def rr_g0 : List (Nat × Nat × Nat) := [(0, 0, 12), (1, 0, 40), (1, 40, 40), (2, 0, 22), (3, 0, 40), (3, 40, 27), (4, 0, 9), (5, 0, 39), (6, 0, 20), (7, 0, 10), (8, 0, 10), (9, 0, 10), (10, 0, 7), (11, 0, 11), (12, 0, 11), (13, 0, 10), (14, 0, 16), (15, 0, 13), (16, 0, 18), (17, 0, 28), (18, 0, 9)]
set_option maxRecDepth 100000 in
theorem rr_gv0 : rr_g0.all (fun q => ((List.range q.2.2).map (· + q.2.1)).all (rr_ck1 q.1)) = true := by decide +kernel
def rr_g1 : List (Nat × Nat × Nat) := [(19, 0, 40), (19, 40, 21), (20, 0, 36), (21, 0, 40), (21, 40, 1), (22, 0, 29), (23, 0, 40), (23, 40, 22), (24, 0, 28), (25, 0, 9), (26, 0, 20), (27, 0, 27), (28, 0, 40), (28, 40, 38), (29, 0, 40)]
set_option maxRecDepth 100000 in
theorem rr_gv1 : rr_g1.all (fun q => ((List.range q.2.2).map (· + q.2.1)).all (rr_ck1 q.1)) = true := by decide +kernel
def rr_g2 : List (Nat × Nat × Nat) := [(29, 40, 6), (30, 0, 40), (30, 40, 17), (31, 0, 26), (32, 0, 20), (33, 0, 40), (33, 40, 2), (34, 0, 40), (35, 0, 40), (35, 40, 31), (36, 0, 8), (37, 0, 5), (38, 0, 13), (39, 0, 17), (40, 0, 12), (41, 0, 40), (41, 40, 21), (42, 0, 40)]
set_option maxRecDepth 100000 in
theorem rr_gv2 : rr_g2.all (fun q => ((List.range q.2.2).map (· + q.2.1)).all (rr_ck1 q.1)) = true := by decide +kernel
def rr_g3 : List (Nat × Nat × Nat) := [(42, 40, 5), (43, 0, 31), (44, 0, 14), (45, 0, 22), (46, 0, 40), (46, 40, 4), (47, 0, 31), (48, 0, 29), (49, 0, 40), (49, 40, 23), (50, 0, 10), (51, 0, 12), (52, 0, 37), (53, 0, 24), (54, 0, 40), (54, 40, 7), (55, 0, 27), (56, 0, 20)]
set_option maxRecDepth 100000 in
theorem rr_gv3 : rr_g3.all (fun q => ((List.range q.2.2).map (· + q.2.1)).all (rr_ck1 q.1)) = true := by decide +kernel
def rr_g4 : List (Nat × Nat × Nat) := [(57, 0, 33), (58, 0, 27), (59, 0, 19), (60, 0, 19), (61, 0, 9), (62, 0, 15), (63, 0, 9), (64, 0, 40), (64, 40, 1), (65, 0, 17), (66, 0, 36), (67, 0, 40), (67, 40, 14), (68, 0, 40), (68, 40, 7), (69, 0, 40), (69, 40, 1), (70, 0, 40)]
set_option maxRecDepth 100000 in
theorem rr_gv4 : rr_g4.all (fun q => ((List.range q.2.2).map (· + q.2.1)).all (rr_ck1 q.1)) = true := by decide +kernel
def rr_g5 : List (Nat × Nat × Nat) := [(71, 0, 11), (72, 0, 22), (73, 0, 40), (73, 40, 7), (74, 0, 40), (74, 40, 32), (75, 0, 40), (76, 0, 40), (76, 40, 40), (76, 80, 7), (77, 0, 27), (78, 0, 36), (79, 0, 40), (79, 40, 40)]
set_option maxRecDepth 100000 in
theorem rr_gv5 : rr_g5.all (fun q => ((List.range q.2.2).map (· + q.2.1)).all (rr_ck1 q.1)) = true := by decide +kernel
def rr_g6 : List (Nat × Nat × Nat) := [(79, 80, 26), (80, 0, 40), (80, 40, 40), (80, 80, 7), (81, 0, 40), (81, 40, 8), (82, 0, 20), (83, 0, 40), (83, 40, 23), (84, 0, 38), (85, 0, 40), (85, 40, 40), (85, 80, 9), (86, 0, 19), (87, 0, 40)]
set_option maxRecDepth 100000 in
theorem rr_gv6 : rr_g6.all (fun q => ((List.range q.2.2).map (· + q.2.1)).all (rr_ck1 q.1)) = true := by decide +kernel
def rr_g7 : List (Nat × Nat × Nat) := [(87, 40, 5), (88, 0, 31), (89, 0, 13), (90, 0, 27), (91, 0, 19), (92, 0, 26), (93, 0, 35), (94, 0, 40), (94, 40, 19), (95, 0, 18), (96, 0, 28), (97, 0, 14), (98, 0, 19), (99, 0, 10), (100, 0, 24), (101, 0, 20), (102, 0, 4), (103, 0, 23), (104, 0, 14), (105, 0, 12)]
set_option maxRecDepth 100000 in
theorem rr_gv7 : rr_g7.all (fun q => ((List.range q.2.2).map (· + q.2.1)).all (rr_ck1 q.1)) = true := by decide +kernel
