noncomputable def zig_0 : List (Nat × Nat × Nat) := [(0, 0, 10), (1, 0, 14), (2, 0, 32), (3, 0, 32), (4, 0, 9), (6, 0, 4), (7, 0, 4), (8, 0, 4), (9, 0, 4), (11, 0, 10), (12, 0, 24), (13, 0, 24), (14, 0, 5), (15, 0, 10), (16, 0, 4), (17, 0, 32), (18, 0, 10), (19, 0, 24), (20, 0, 24), (21, 0, 5), (22, 0, 10), (23, 0, 4)]
noncomputable def zig_1 : List (Nat × Nat × Nat) := [(24, 0, 32), (25, 0, 10), (26, 0, 24), (27, 0, 24), (28, 0, 5), (29, 0, 10), (30, 0, 4), (31, 0, 32), (32, 0, 10), (33, 0, 24), (34, 0, 24), (35, 0, 5), (36, 0, 10), (37, 0, 4), (38, 0, 32), (39, 0, 20), (40, 0, 20), (41, 0, 3)]
noncomputable def zig_2 : List (Nat × Nat × Nat) := [(42, 0, 200), (42, 200, 40), (128, 0, 5), (129, 0, 2), (131, 0, 10), (132, 0, 32), (134, 0, 4), (135, 0, 4), (136, 0, 10), (137, 0, 17)]
noncomputable def zig_3 : List (Nat × Nat × Nat) := [(138, 0, 200)]
noncomputable def zig_4 : List (Nat × Nat × Nat) := [(138, 200, 200)]
noncomputable def zig_5 : List (Nat × Nat × Nat) := [(138, 400, 200)]
noncomputable def zig_6 : List (Nat × Nat × Nat) := [(138, 600, 188), (142, 0, 5), (144, 0, 10)]
theorem zi_x : (zig_0.all (fun e => (List.range e.2.2).all (fun k => decide (zM3.2.1 e.1 (e.2.1 + k) = zmv e.1 (e.2.1 + k)))) = true) ∧ (zig_1.all (fun e => (List.range e.2.2).all (fun k => decide (zM3.2.1 e.1 (e.2.1 + k) = zmv e.1 (e.2.1 + k)))) = true) ∧ (zig_2.all (fun e => (List.range e.2.2).all (fun k => decide (zM3.2.1 e.1 (e.2.1 + k) = zmv e.1 (e.2.1 + k)))) = true) := by decide +kernel
theorem zi_0 : zig_0.all (fun e => (List.range e.2.2).all (fun k => decide (zM3.2.1 e.1 (e.2.1 + k) = zmv e.1 (e.2.1 + k)))) = true := zi_x.1
theorem zi_1 : zig_1.all (fun e => (List.range e.2.2).all (fun k => decide (zM3.2.1 e.1 (e.2.1 + k) = zmv e.1 (e.2.1 + k)))) = true := zi_x.2.1
theorem zi_2 : zig_2.all (fun e => (List.range e.2.2).all (fun k => decide (zM3.2.1 e.1 (e.2.1 + k) = zmv e.1 (e.2.1 + k)))) = true := zi_x.2.2
theorem zi_y : (zig_3.all (fun e => (List.range e.2.2).all (fun k => decide (zM3.2.1 e.1 (e.2.1 + k) = zmv e.1 (e.2.1 + k)))) = true) ∧ (zig_4.all (fun e => (List.range e.2.2).all (fun k => decide (zM3.2.1 e.1 (e.2.1 + k) = zmv e.1 (e.2.1 + k)))) = true) ∧ (zig_5.all (fun e => (List.range e.2.2).all (fun k => decide (zM3.2.1 e.1 (e.2.1 + k) = zmv e.1 (e.2.1 + k)))) = true) ∧ (zig_6.all (fun e => (List.range e.2.2).all (fun k => decide (zM3.2.1 e.1 (e.2.1 + k) = zmv e.1 (e.2.1 + k)))) = true) := by decide +kernel
theorem zi_3 : zig_3.all (fun e => (List.range e.2.2).all (fun k => decide (zM3.2.1 e.1 (e.2.1 + k) = zmv e.1 (e.2.1 + k)))) = true := zi_y.1
theorem zi_4 : zig_4.all (fun e => (List.range e.2.2).all (fun k => decide (zM3.2.1 e.1 (e.2.1 + k) = zmv e.1 (e.2.1 + k)))) = true := zi_y.2.1
theorem zi_5 : zig_5.all (fun e => (List.range e.2.2).all (fun k => decide (zM3.2.1 e.1 (e.2.1 + k) = zmv e.1 (e.2.1 + k)))) = true := zi_y.2.2.1
theorem zi_6 : zig_6.all (fun e => (List.range e.2.2).all (fun k => decide (zM3.2.1 e.1 (e.2.1 + k) = zmv e.1 (e.2.1 + k)))) = true := zi_y.2.2.2
