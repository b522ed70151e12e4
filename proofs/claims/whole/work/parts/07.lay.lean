-- the layout of the world (printed by wip/whole)
def imZ (T : Nat) : Nat := 50 * (T - 135) + 200
def cityL (z : Nat) : List (Nat × Kd) := [(z + 1, .inl (0, [(1, z + 2), (1, z + 14), (1, z + 19), (1, z + 30), (1, z + 35), (0, 0), (0, 0), (0, 0), (0, 0), (0, 0), (0, 0), (0, 0), (0, 0)])), (z + 2, .inl (2, [(1, z + 3), (1, z + 4), (1, z + 5), (1, z + 6), (1, z + 7), (1, z + 8), (1, z + 9), (1, z + 10), (1, z + 11), (1, z + 12), (1, z + 13)])), (z + 3, .inr (0, 100, nt)), (z + 4, .inr (0, 100, nt)), (z + 5, .inr (0, 100, nt)), (z + 6, .inr (0, 100, nt)), (z + 7, .inr (0, 100, nt)), (z + 8, .inr (0, 100, nt)), (z + 9, .inr (0, 100, nt)), (z + 10, .inr (0, 100, nt)), (z + 11, .inr (0, 100, nt)), (z + 12, .inr (0, 100, nt)), (z + 13, .inr (0, 100, nt)), (z + 14, .inl (10, [(1, z + 15), (1, z + 16), (1, z + 17), (1, z + 18), (0, 0), (0, 0), (0, 0), (0, 0), (0, 0), (0, 0), (0, 0)])), (z + 15, .inr (0, 100, nt)), (z + 16, .inr (0, 100, nt)), (z + 17, .inr (0, 100, nt)), (z + 18, .inr (0, 100, nt)), (z + 19, .inl (3, [(1, z + 20), (1, z + 21), (1, z + 22), (1, z + 23), (1, z + 24), (1, z + 25), (1, z + 26), (1, z + 27), (1, z + 28), (1, z + 29)])), (z + 20, .inr (0, 100, nt)), (z + 21, .inr (0, 100, nt)), (z + 22, .inr (0, 100, nt)), (z + 23, .inr (0, 100, nt)), (z + 24, .inr (0, 100, nt)), (z + 25, .inr (0, 100, nt)), (z + 26, .inr (0, 100, nt)), (z + 27, .inr (0, 100, nt)), (z + 28, .inr (0, 100, nt)), (z + 29, .inr (0, 100, nt)), (z + 30, .inl (6, [(0, 0), (1, z + 31), (1, z + 32), (1, z + 33), (1, z + 34)])), (z + 31, .inr (0, 200, nt)), (z + 32, .inr (0, 200, nt)), (z + 33, .inr (0, 200, nt)), (z + 34, .inr (0, 200, nt)), (z + 35, .inr (3, 8, (fun j => some (z + 36 + 7 * j)))), (z + 36, .inl (5, [(0, 0), (0, 0), (0, 0), (0, 0), (0, 0), (1, z + 37), (1, z + 38), (1, z + 39), (1, z + 40), (1, z + 41), (1, z + 42)])), (z + 37, .inr (0, 19, nt)), (z + 38, .inr (0, 19, nt)), (z + 39, .inr (0, 19, nt)), (z + 40, .inr (0, 19, nt)), (z + 41, .inr (0, 19, nt)), (z + 42, .inr (0, 19, nt)), (z + 43, .inl (5, [(0, 0), (0, 0), (0, 0), (0, 0), (0, 0), (1, z + 44), (1, z + 45), (1, z + 46), (1, z + 47), (1, z + 48), (1, z + 49)])), (z + 44, .inr (0, 19, nt)), (z + 45, .inr (0, 19, nt)), (z + 46, .inr (0, 19, nt)), (z + 47, .inr (0, 19, nt)), (z + 48, .inr (0, 19, nt)), (z + 49, .inr (0, 19, nt)), (z + 50, .inl (5, [(0, 0), (0, 0), (0, 0), (0, 0), (0, 0), (1, z + 51), (1, z + 52), (1, z + 53), (1, z + 54), (1, z + 55), (1, z + 56)])), (z + 51, .inr (0, 19, nt)), (z + 52, .inr (0, 19, nt)), (z + 53, .inr (0, 19, nt)), (z + 54, .inr (0, 19, nt)), (z + 55, .inr (0, 19, nt)), (z + 56, .inr (0, 19, nt)), (z + 57, .inl (5, [(0, 0), (0, 0), (0, 0), (0, 0), (0, 0), (1, z + 58), (1, z + 59), (1, z + 60), (1, z + 61), (1, z + 62), (1, z + 63)])), (z + 58, .inr (0, 19, nt)), (z + 59, .inr (0, 19, nt)), (z + 60, .inr (0, 19, nt)), (z + 61, .inr (0, 19, nt)), (z + 62, .inr (0, 19, nt)), (z + 63, .inr (0, 19, nt)), (z + 64, .inl (5, [(0, 0), (0, 0), (0, 0), (0, 0), (0, 0), (1, z + 65), (1, z + 66), (1, z + 67), (1, z + 68), (1, z + 69), (1, z + 70)])), (z + 65, .inr (0, 19, nt)), (z + 66, .inr (0, 19, nt)), (z + 67, .inr (0, 19, nt)), (z + 68, .inr (0, 19, nt)), (z + 69, .inr (0, 19, nt)), (z + 70, .inr (0, 19, nt)), (z + 71, .inl (5, [(0, 0), (0, 0), (0, 0), (0, 0), (0, 0), (1, z + 72), (1, z + 73), (1, z + 74), (1, z + 75), (1, z + 76), (1, z + 77)])), (z + 72, .inr (0, 19, nt)), (z + 73, .inr (0, 19, nt)), (z + 74, .inr (0, 19, nt)), (z + 75, .inr (0, 19, nt)), (z + 76, .inr (0, 19, nt)), (z + 77, .inr (0, 19, nt)), (z + 78, .inl (5, [(0, 0), (0, 0), (0, 0), (0, 0), (0, 0), (1, z + 79), (1, z + 80), (1, z + 81), (1, z + 82), (1, z + 83), (1, z + 84)])), (z + 79, .inr (0, 19, nt)), (z + 80, .inr (0, 19, nt)), (z + 81, .inr (0, 19, nt)), (z + 82, .inr (0, 19, nt)), (z + 83, .inr (0, 19, nt)), (z + 84, .inr (0, 19, nt)), (z + 85, .inl (5, [(0, 0), (0, 0), (0, 0), (0, 0), (0, 0), (1, z + 86), (1, z + 87), (1, z + 88), (1, z + 89), (1, z + 90), (1, z + 91)])), (z + 86, .inr (0, 19, nt)), (z + 87, .inr (0, 19, nt)), (z + 88, .inr (0, 19, nt)), (z + 89, .inr (0, 19, nt)), (z + 90, .inr (0, 19, nt)), (z + 91, .inr (0, 19, nt))]
def otherL : List (Nat × Kd) := [(0, .inl (11, [(1, 1), (1, 92), (1, 100), (1, 102), (1, 106), (1, 134), (1, 147), (0, 0), (0, 0), (0, 0), (0, 0)])), (92, .inl (1, [(1, 93), (1, 94), (1, 95), (1, 96), (1, 97), (1, 98), (1, 99)])), (93, .inr (0, 100, nt)), (94, .inr (0, 100, nt)), (95, .inr (0, 100, nt)), (96, .inr (0, 100, nt)), (97, .inr (0, 100, nt)), (98, .inr (0, 100, nt)), (99, .inr (0, 100, nt)), (100, .inl (9, [(0, 0), (1, 101)])), (101, .inr (0, 60, nt)), (102, .inl (7, [(0, 0), (1, 103), (1, 104), (1, 105)])), (103, .inr (0, 19, nt)), (104, .inr (0, 19, nt)), (105, .inr (0, 100, nt)), (106, .inl (4, [(0, 0), (1, 107), (1, 108), (1, 109), (1, 110), (1, 111), (1, 112), (1, 113), (0, 0), (0, 0), (0, 0), (0, 0)])), (107, .inr (0, 20, nt)), (108, .inr (0, 20, nt)), (109, .inr (0, 20, nt)), (110, .inr (5, 20, (fun j => some (114 + j)))), (111, .inr (0, 100, nt)), (112, .inr (1, 100, nt)), (113, .inr (0, 100, nt)), (114, .inr (0, 60, nt)), (115, .inr (0, 60, nt)), (116, .inr (0, 60, nt)), (117, .inr (0, 60, nt)), (118, .inr (0, 60, nt)), (119, .inr (0, 60, nt)), (120, .inr (0, 60, nt)), (121, .inr (0, 60, nt)), (122, .inr (0, 60, nt)), (123, .inr (0, 60, nt)), (124, .inr (0, 60, nt)), (125, .inr (0, 60, nt)), (126, .inr (0, 60, nt)), (127, .inr (0, 60, nt)), (128, .inr (0, 60, nt)), (129, .inr (0, 60, nt)), (130, .inr (0, 60, nt)), (131, .inr (0, 60, nt)), (132, .inr (0, 60, nt)), (133, .inr (0, 60, nt)), (134, .inr (4, 6, (fun j => some (135 + 2 * j)))), (135, .inl (8, [(0, 0), (0, 0), (1, 136), (2, 201)])), (136, .inr (1, 100, nt)), (137, .inl (8, [(0, 0), (0, 0), (1, 138), (2, 301)])), (138, .inr (1, 100, nt)), (139, .inl (8, [(0, 0), (0, 0), (1, 140), (2, 401)])), (140, .inr (1, 100, nt)), (141, .inl (8, [(0, 0), (0, 0), (1, 142), (2, 501)])), (142, .inr (1, 100, nt)), (143, .inl (8, [(0, 0), (0, 0), (1, 144), (2, 601)])), (144, .inr (1, 100, nt)), (145, .inl (8, [(0, 0), (0, 0), (1, 146), (2, 701)])), (146, .inr (1, 100, nt)), (147, .inr (0, 8, nt)), (148, .inl (12, [(0, 0), (1, 149), (0, 0), (1, 150), (0, 0), (1, 151), (0, 0), (0, 0), (0, 0), (1, 152), (0, 0), (1, 153), (1, 154), (1, 155), (1, 156), (1, 157), (1, 158), (1, 159), (1, 160), (1, 161), (1, 162), (0, 0), (1, 163), (0, 0), (0, 0), (0, 0), (0, 0), (0, 0), (1, 164), (1, 165), (1, 166), (1, 167), (1, 168)])), (149, .inr (0, 4340, nt)), (150, .inr (0, 60, nt)), (151, .inr (0, 19, nt)), (152, .inr (0, 100, nt)), (153, .inr (2, 8, nt)), (154, .inr (0, 100, nt)), (155, .inr (0, 100, nt)), (156, .inr (0, 100, nt)), (157, .inr (2, 100, nt)), (158, .inr (2, 100, nt)), (159, .inr (0, 20, nt)), (160, .inr (0, 20, nt)), (161, .inr (0, 20, nt)), (162, .inr (0, 1200, nt)), (163, .inr (0, 100, nt)), (164, .inr (0, 100, nt)), (165, .inr (0, 6, nt)), (166, .inr (0, 6, nt)), (167, .inr (1, 600, nt)), (168, .inr (0, 26040, nt))]
def IsCity (S : KS) (z : Nat) : Prop := ∀ q ∈ cityL z, KD S q.1 q.2
def Main (S : KS) : Prop := ((∀ q ∈ otherL, KD S q.1 q.2) ∧ ∀ A U H, S.X A U H → XG S A U H) ∧ IsCity S 0
theorem ic1 {S : KS} {z : Nat} (h : IsCity S z) : KD S (z + 1) (.inl (0, [(1, z + 2), (1, z + 14), (1, z + 19), (1, z + 30), (1, z + 35), (0, 0), (0, 0), (0, 0), (0, 0), (0, 0), (0, 0), (0, 0), (0, 0)])) := h _ (List.mem_of_getElem? (i := 0) rfl)
theorem ic2 {S : KS} {z : Nat} (h : IsCity S z) : KD S (z + 2) (.inl (2, [(1, z + 3), (1, z + 4), (1, z + 5), (1, z + 6), (1, z + 7), (1, z + 8), (1, z + 9), (1, z + 10), (1, z + 11), (1, z + 12), (1, z + 13)])) := h _ (List.mem_of_getElem? (i := 1) rfl)
theorem ic3 {S : KS} {z : Nat} (h : IsCity S z) : KD S (z + 3) (.inr (0, 100, nt)) := h _ (List.mem_of_getElem? (i := 2) rfl)
theorem ic4 {S : KS} {z : Nat} (h : IsCity S z) : KD S (z + 4) (.inr (0, 100, nt)) := h _ (List.mem_of_getElem? (i := 3) rfl)
theorem ic5 {S : KS} {z : Nat} (h : IsCity S z) : KD S (z + 5) (.inr (0, 100, nt)) := h _ (List.mem_of_getElem? (i := 4) rfl)
theorem ic6 {S : KS} {z : Nat} (h : IsCity S z) : KD S (z + 6) (.inr (0, 100, nt)) := h _ (List.mem_of_getElem? (i := 5) rfl)
theorem ic7 {S : KS} {z : Nat} (h : IsCity S z) : KD S (z + 7) (.inr (0, 100, nt)) := h _ (List.mem_of_getElem? (i := 6) rfl)
theorem ic8 {S : KS} {z : Nat} (h : IsCity S z) : KD S (z + 8) (.inr (0, 100, nt)) := h _ (List.mem_of_getElem? (i := 7) rfl)
theorem ic9 {S : KS} {z : Nat} (h : IsCity S z) : KD S (z + 9) (.inr (0, 100, nt)) := h _ (List.mem_of_getElem? (i := 8) rfl)
theorem ic10 {S : KS} {z : Nat} (h : IsCity S z) : KD S (z + 10) (.inr (0, 100, nt)) := h _ (List.mem_of_getElem? (i := 9) rfl)
theorem ic11 {S : KS} {z : Nat} (h : IsCity S z) : KD S (z + 11) (.inr (0, 100, nt)) := h _ (List.mem_of_getElem? (i := 10) rfl)
theorem ic12 {S : KS} {z : Nat} (h : IsCity S z) : KD S (z + 12) (.inr (0, 100, nt)) := h _ (List.mem_of_getElem? (i := 11) rfl)
theorem ic13 {S : KS} {z : Nat} (h : IsCity S z) : KD S (z + 13) (.inr (0, 100, nt)) := h _ (List.mem_of_getElem? (i := 12) rfl)
theorem ic14 {S : KS} {z : Nat} (h : IsCity S z) : KD S (z + 14) (.inl (10, [(1, z + 15), (1, z + 16), (1, z + 17), (1, z + 18), (0, 0), (0, 0), (0, 0), (0, 0), (0, 0), (0, 0), (0, 0)])) := h _ (List.mem_of_getElem? (i := 13) rfl)
theorem ic15 {S : KS} {z : Nat} (h : IsCity S z) : KD S (z + 15) (.inr (0, 100, nt)) := h _ (List.mem_of_getElem? (i := 14) rfl)
theorem ic16 {S : KS} {z : Nat} (h : IsCity S z) : KD S (z + 16) (.inr (0, 100, nt)) := h _ (List.mem_of_getElem? (i := 15) rfl)
theorem ic17 {S : KS} {z : Nat} (h : IsCity S z) : KD S (z + 17) (.inr (0, 100, nt)) := h _ (List.mem_of_getElem? (i := 16) rfl)
theorem ic18 {S : KS} {z : Nat} (h : IsCity S z) : KD S (z + 18) (.inr (0, 100, nt)) := h _ (List.mem_of_getElem? (i := 17) rfl)
theorem ic19 {S : KS} {z : Nat} (h : IsCity S z) : KD S (z + 19) (.inl (3, [(1, z + 20), (1, z + 21), (1, z + 22), (1, z + 23), (1, z + 24), (1, z + 25), (1, z + 26), (1, z + 27), (1, z + 28), (1, z + 29)])) := h _ (List.mem_of_getElem? (i := 18) rfl)
theorem ic20 {S : KS} {z : Nat} (h : IsCity S z) : KD S (z + 20) (.inr (0, 100, nt)) := h _ (List.mem_of_getElem? (i := 19) rfl)
theorem ic21 {S : KS} {z : Nat} (h : IsCity S z) : KD S (z + 21) (.inr (0, 100, nt)) := h _ (List.mem_of_getElem? (i := 20) rfl)
theorem ic22 {S : KS} {z : Nat} (h : IsCity S z) : KD S (z + 22) (.inr (0, 100, nt)) := h _ (List.mem_of_getElem? (i := 21) rfl)
theorem ic23 {S : KS} {z : Nat} (h : IsCity S z) : KD S (z + 23) (.inr (0, 100, nt)) := h _ (List.mem_of_getElem? (i := 22) rfl)
theorem ic24 {S : KS} {z : Nat} (h : IsCity S z) : KD S (z + 24) (.inr (0, 100, nt)) := h _ (List.mem_of_getElem? (i := 23) rfl)
theorem ic25 {S : KS} {z : Nat} (h : IsCity S z) : KD S (z + 25) (.inr (0, 100, nt)) := h _ (List.mem_of_getElem? (i := 24) rfl)
theorem ic26 {S : KS} {z : Nat} (h : IsCity S z) : KD S (z + 26) (.inr (0, 100, nt)) := h _ (List.mem_of_getElem? (i := 25) rfl)
theorem ic27 {S : KS} {z : Nat} (h : IsCity S z) : KD S (z + 27) (.inr (0, 100, nt)) := h _ (List.mem_of_getElem? (i := 26) rfl)
theorem ic28 {S : KS} {z : Nat} (h : IsCity S z) : KD S (z + 28) (.inr (0, 100, nt)) := h _ (List.mem_of_getElem? (i := 27) rfl)
theorem ic29 {S : KS} {z : Nat} (h : IsCity S z) : KD S (z + 29) (.inr (0, 100, nt)) := h _ (List.mem_of_getElem? (i := 28) rfl)
theorem ic30 {S : KS} {z : Nat} (h : IsCity S z) : KD S (z + 30) (.inl (6, [(0, 0), (1, z + 31), (1, z + 32), (1, z + 33), (1, z + 34)])) := h _ (List.mem_of_getElem? (i := 29) rfl)
theorem ic31 {S : KS} {z : Nat} (h : IsCity S z) : KD S (z + 31) (.inr (0, 200, nt)) := h _ (List.mem_of_getElem? (i := 30) rfl)
theorem ic32 {S : KS} {z : Nat} (h : IsCity S z) : KD S (z + 32) (.inr (0, 200, nt)) := h _ (List.mem_of_getElem? (i := 31) rfl)
theorem ic33 {S : KS} {z : Nat} (h : IsCity S z) : KD S (z + 33) (.inr (0, 200, nt)) := h _ (List.mem_of_getElem? (i := 32) rfl)
theorem ic34 {S : KS} {z : Nat} (h : IsCity S z) : KD S (z + 34) (.inr (0, 200, nt)) := h _ (List.mem_of_getElem? (i := 33) rfl)
theorem ic35 {S : KS} {z : Nat} (h : IsCity S z) : KD S (z + 35) (.inr (3, 8, (fun j => some (z + 36 + 7 * j)))) := h _ (List.mem_of_getElem? (i := 34) rfl)
theorem ic36 {S : KS} {z : Nat} (h : IsCity S z) : KD S (z + 36) (.inl (5, [(0, 0), (0, 0), (0, 0), (0, 0), (0, 0), (1, z + 37), (1, z + 38), (1, z + 39), (1, z + 40), (1, z + 41), (1, z + 42)])) := h _ (List.mem_of_getElem? (i := 35) rfl)
theorem ic37 {S : KS} {z : Nat} (h : IsCity S z) : KD S (z + 37) (.inr (0, 19, nt)) := h _ (List.mem_of_getElem? (i := 36) rfl)
theorem ic38 {S : KS} {z : Nat} (h : IsCity S z) : KD S (z + 38) (.inr (0, 19, nt)) := h _ (List.mem_of_getElem? (i := 37) rfl)
theorem ic39 {S : KS} {z : Nat} (h : IsCity S z) : KD S (z + 39) (.inr (0, 19, nt)) := h _ (List.mem_of_getElem? (i := 38) rfl)
theorem ic40 {S : KS} {z : Nat} (h : IsCity S z) : KD S (z + 40) (.inr (0, 19, nt)) := h _ (List.mem_of_getElem? (i := 39) rfl)
theorem ic41 {S : KS} {z : Nat} (h : IsCity S z) : KD S (z + 41) (.inr (0, 19, nt)) := h _ (List.mem_of_getElem? (i := 40) rfl)
theorem ic42 {S : KS} {z : Nat} (h : IsCity S z) : KD S (z + 42) (.inr (0, 19, nt)) := h _ (List.mem_of_getElem? (i := 41) rfl)
theorem ic43 {S : KS} {z : Nat} (h : IsCity S z) : KD S (z + 43) (.inl (5, [(0, 0), (0, 0), (0, 0), (0, 0), (0, 0), (1, z + 44), (1, z + 45), (1, z + 46), (1, z + 47), (1, z + 48), (1, z + 49)])) := h _ (List.mem_of_getElem? (i := 42) rfl)
theorem ic44 {S : KS} {z : Nat} (h : IsCity S z) : KD S (z + 44) (.inr (0, 19, nt)) := h _ (List.mem_of_getElem? (i := 43) rfl)
theorem ic45 {S : KS} {z : Nat} (h : IsCity S z) : KD S (z + 45) (.inr (0, 19, nt)) := h _ (List.mem_of_getElem? (i := 44) rfl)
theorem ic46 {S : KS} {z : Nat} (h : IsCity S z) : KD S (z + 46) (.inr (0, 19, nt)) := h _ (List.mem_of_getElem? (i := 45) rfl)
theorem ic47 {S : KS} {z : Nat} (h : IsCity S z) : KD S (z + 47) (.inr (0, 19, nt)) := h _ (List.mem_of_getElem? (i := 46) rfl)
theorem ic48 {S : KS} {z : Nat} (h : IsCity S z) : KD S (z + 48) (.inr (0, 19, nt)) := h _ (List.mem_of_getElem? (i := 47) rfl)
theorem ic49 {S : KS} {z : Nat} (h : IsCity S z) : KD S (z + 49) (.inr (0, 19, nt)) := h _ (List.mem_of_getElem? (i := 48) rfl)
theorem ic50 {S : KS} {z : Nat} (h : IsCity S z) : KD S (z + 50) (.inl (5, [(0, 0), (0, 0), (0, 0), (0, 0), (0, 0), (1, z + 51), (1, z + 52), (1, z + 53), (1, z + 54), (1, z + 55), (1, z + 56)])) := h _ (List.mem_of_getElem? (i := 49) rfl)
theorem ic51 {S : KS} {z : Nat} (h : IsCity S z) : KD S (z + 51) (.inr (0, 19, nt)) := h _ (List.mem_of_getElem? (i := 50) rfl)
theorem ic52 {S : KS} {z : Nat} (h : IsCity S z) : KD S (z + 52) (.inr (0, 19, nt)) := h _ (List.mem_of_getElem? (i := 51) rfl)
theorem ic53 {S : KS} {z : Nat} (h : IsCity S z) : KD S (z + 53) (.inr (0, 19, nt)) := h _ (List.mem_of_getElem? (i := 52) rfl)
theorem ic54 {S : KS} {z : Nat} (h : IsCity S z) : KD S (z + 54) (.inr (0, 19, nt)) := h _ (List.mem_of_getElem? (i := 53) rfl)
theorem ic55 {S : KS} {z : Nat} (h : IsCity S z) : KD S (z + 55) (.inr (0, 19, nt)) := h _ (List.mem_of_getElem? (i := 54) rfl)
theorem ic56 {S : KS} {z : Nat} (h : IsCity S z) : KD S (z + 56) (.inr (0, 19, nt)) := h _ (List.mem_of_getElem? (i := 55) rfl)
theorem ic57 {S : KS} {z : Nat} (h : IsCity S z) : KD S (z + 57) (.inl (5, [(0, 0), (0, 0), (0, 0), (0, 0), (0, 0), (1, z + 58), (1, z + 59), (1, z + 60), (1, z + 61), (1, z + 62), (1, z + 63)])) := h _ (List.mem_of_getElem? (i := 56) rfl)
theorem ic58 {S : KS} {z : Nat} (h : IsCity S z) : KD S (z + 58) (.inr (0, 19, nt)) := h _ (List.mem_of_getElem? (i := 57) rfl)
theorem ic59 {S : KS} {z : Nat} (h : IsCity S z) : KD S (z + 59) (.inr (0, 19, nt)) := h _ (List.mem_of_getElem? (i := 58) rfl)
theorem ic60 {S : KS} {z : Nat} (h : IsCity S z) : KD S (z + 60) (.inr (0, 19, nt)) := h _ (List.mem_of_getElem? (i := 59) rfl)
theorem ic61 {S : KS} {z : Nat} (h : IsCity S z) : KD S (z + 61) (.inr (0, 19, nt)) := h _ (List.mem_of_getElem? (i := 60) rfl)
theorem ic62 {S : KS} {z : Nat} (h : IsCity S z) : KD S (z + 62) (.inr (0, 19, nt)) := h _ (List.mem_of_getElem? (i := 61) rfl)
theorem ic63 {S : KS} {z : Nat} (h : IsCity S z) : KD S (z + 63) (.inr (0, 19, nt)) := h _ (List.mem_of_getElem? (i := 62) rfl)
theorem ic64 {S : KS} {z : Nat} (h : IsCity S z) : KD S (z + 64) (.inl (5, [(0, 0), (0, 0), (0, 0), (0, 0), (0, 0), (1, z + 65), (1, z + 66), (1, z + 67), (1, z + 68), (1, z + 69), (1, z + 70)])) := h _ (List.mem_of_getElem? (i := 63) rfl)
theorem ic65 {S : KS} {z : Nat} (h : IsCity S z) : KD S (z + 65) (.inr (0, 19, nt)) := h _ (List.mem_of_getElem? (i := 64) rfl)
theorem ic66 {S : KS} {z : Nat} (h : IsCity S z) : KD S (z + 66) (.inr (0, 19, nt)) := h _ (List.mem_of_getElem? (i := 65) rfl)
theorem ic67 {S : KS} {z : Nat} (h : IsCity S z) : KD S (z + 67) (.inr (0, 19, nt)) := h _ (List.mem_of_getElem? (i := 66) rfl)
theorem ic68 {S : KS} {z : Nat} (h : IsCity S z) : KD S (z + 68) (.inr (0, 19, nt)) := h _ (List.mem_of_getElem? (i := 67) rfl)
theorem ic69 {S : KS} {z : Nat} (h : IsCity S z) : KD S (z + 69) (.inr (0, 19, nt)) := h _ (List.mem_of_getElem? (i := 68) rfl)
theorem ic70 {S : KS} {z : Nat} (h : IsCity S z) : KD S (z + 70) (.inr (0, 19, nt)) := h _ (List.mem_of_getElem? (i := 69) rfl)
theorem ic71 {S : KS} {z : Nat} (h : IsCity S z) : KD S (z + 71) (.inl (5, [(0, 0), (0, 0), (0, 0), (0, 0), (0, 0), (1, z + 72), (1, z + 73), (1, z + 74), (1, z + 75), (1, z + 76), (1, z + 77)])) := h _ (List.mem_of_getElem? (i := 70) rfl)
theorem ic72 {S : KS} {z : Nat} (h : IsCity S z) : KD S (z + 72) (.inr (0, 19, nt)) := h _ (List.mem_of_getElem? (i := 71) rfl)
theorem ic73 {S : KS} {z : Nat} (h : IsCity S z) : KD S (z + 73) (.inr (0, 19, nt)) := h _ (List.mem_of_getElem? (i := 72) rfl)
theorem ic74 {S : KS} {z : Nat} (h : IsCity S z) : KD S (z + 74) (.inr (0, 19, nt)) := h _ (List.mem_of_getElem? (i := 73) rfl)
theorem ic75 {S : KS} {z : Nat} (h : IsCity S z) : KD S (z + 75) (.inr (0, 19, nt)) := h _ (List.mem_of_getElem? (i := 74) rfl)
theorem ic76 {S : KS} {z : Nat} (h : IsCity S z) : KD S (z + 76) (.inr (0, 19, nt)) := h _ (List.mem_of_getElem? (i := 75) rfl)
theorem ic77 {S : KS} {z : Nat} (h : IsCity S z) : KD S (z + 77) (.inr (0, 19, nt)) := h _ (List.mem_of_getElem? (i := 76) rfl)
theorem ic78 {S : KS} {z : Nat} (h : IsCity S z) : KD S (z + 78) (.inl (5, [(0, 0), (0, 0), (0, 0), (0, 0), (0, 0), (1, z + 79), (1, z + 80), (1, z + 81), (1, z + 82), (1, z + 83), (1, z + 84)])) := h _ (List.mem_of_getElem? (i := 77) rfl)
theorem ic79 {S : KS} {z : Nat} (h : IsCity S z) : KD S (z + 79) (.inr (0, 19, nt)) := h _ (List.mem_of_getElem? (i := 78) rfl)
theorem ic80 {S : KS} {z : Nat} (h : IsCity S z) : KD S (z + 80) (.inr (0, 19, nt)) := h _ (List.mem_of_getElem? (i := 79) rfl)
theorem ic81 {S : KS} {z : Nat} (h : IsCity S z) : KD S (z + 81) (.inr (0, 19, nt)) := h _ (List.mem_of_getElem? (i := 80) rfl)
theorem ic82 {S : KS} {z : Nat} (h : IsCity S z) : KD S (z + 82) (.inr (0, 19, nt)) := h _ (List.mem_of_getElem? (i := 81) rfl)
theorem ic83 {S : KS} {z : Nat} (h : IsCity S z) : KD S (z + 83) (.inr (0, 19, nt)) := h _ (List.mem_of_getElem? (i := 82) rfl)
theorem ic84 {S : KS} {z : Nat} (h : IsCity S z) : KD S (z + 84) (.inr (0, 19, nt)) := h _ (List.mem_of_getElem? (i := 83) rfl)
theorem ic85 {S : KS} {z : Nat} (h : IsCity S z) : KD S (z + 85) (.inl (5, [(0, 0), (0, 0), (0, 0), (0, 0), (0, 0), (1, z + 86), (1, z + 87), (1, z + 88), (1, z + 89), (1, z + 90), (1, z + 91)])) := h _ (List.mem_of_getElem? (i := 84) rfl)
theorem ic86 {S : KS} {z : Nat} (h : IsCity S z) : KD S (z + 86) (.inr (0, 19, nt)) := h _ (List.mem_of_getElem? (i := 85) rfl)
theorem ic87 {S : KS} {z : Nat} (h : IsCity S z) : KD S (z + 87) (.inr (0, 19, nt)) := h _ (List.mem_of_getElem? (i := 86) rfl)
theorem ic88 {S : KS} {z : Nat} (h : IsCity S z) : KD S (z + 88) (.inr (0, 19, nt)) := h _ (List.mem_of_getElem? (i := 87) rfl)
theorem ic89 {S : KS} {z : Nat} (h : IsCity S z) : KD S (z + 89) (.inr (0, 19, nt)) := h _ (List.mem_of_getElem? (i := 88) rfl)
theorem ic90 {S : KS} {z : Nat} (h : IsCity S z) : KD S (z + 90) (.inr (0, 19, nt)) := h _ (List.mem_of_getElem? (i := 89) rfl)
theorem ic91 {S : KS} {z : Nat} (h : IsCity S z) : KD S (z + 91) (.inr (0, 19, nt)) := h _ (List.mem_of_getElem? (i := 90) rfl)
theorem kd0 {S : KS} (M : Main S) : KD S 0 (.inl (11, [(1, 1), (1, 92), (1, 100), (1, 102), (1, 106), (1, 134), (1, 147), (0, 0), (0, 0), (0, 0), (0, 0)])) := M.1.1 _ (List.mem_of_getElem? (i := 0) rfl)
theorem kd92 {S : KS} (M : Main S) : KD S 92 (.inl (1, [(1, 93), (1, 94), (1, 95), (1, 96), (1, 97), (1, 98), (1, 99)])) := M.1.1 _ (List.mem_of_getElem? (i := 1) rfl)
theorem kd93 {S : KS} (M : Main S) : KD S 93 (.inr (0, 100, nt)) := M.1.1 _ (List.mem_of_getElem? (i := 2) rfl)
theorem kd94 {S : KS} (M : Main S) : KD S 94 (.inr (0, 100, nt)) := M.1.1 _ (List.mem_of_getElem? (i := 3) rfl)
theorem kd95 {S : KS} (M : Main S) : KD S 95 (.inr (0, 100, nt)) := M.1.1 _ (List.mem_of_getElem? (i := 4) rfl)
theorem kd96 {S : KS} (M : Main S) : KD S 96 (.inr (0, 100, nt)) := M.1.1 _ (List.mem_of_getElem? (i := 5) rfl)
theorem kd97 {S : KS} (M : Main S) : KD S 97 (.inr (0, 100, nt)) := M.1.1 _ (List.mem_of_getElem? (i := 6) rfl)
theorem kd98 {S : KS} (M : Main S) : KD S 98 (.inr (0, 100, nt)) := M.1.1 _ (List.mem_of_getElem? (i := 7) rfl)
theorem kd99 {S : KS} (M : Main S) : KD S 99 (.inr (0, 100, nt)) := M.1.1 _ (List.mem_of_getElem? (i := 8) rfl)
theorem kd100 {S : KS} (M : Main S) : KD S 100 (.inl (9, [(0, 0), (1, 101)])) := M.1.1 _ (List.mem_of_getElem? (i := 9) rfl)
theorem kd101 {S : KS} (M : Main S) : KD S 101 (.inr (0, 60, nt)) := M.1.1 _ (List.mem_of_getElem? (i := 10) rfl)
theorem kd102 {S : KS} (M : Main S) : KD S 102 (.inl (7, [(0, 0), (1, 103), (1, 104), (1, 105)])) := M.1.1 _ (List.mem_of_getElem? (i := 11) rfl)
theorem kd103 {S : KS} (M : Main S) : KD S 103 (.inr (0, 19, nt)) := M.1.1 _ (List.mem_of_getElem? (i := 12) rfl)
theorem kd104 {S : KS} (M : Main S) : KD S 104 (.inr (0, 19, nt)) := M.1.1 _ (List.mem_of_getElem? (i := 13) rfl)
theorem kd105 {S : KS} (M : Main S) : KD S 105 (.inr (0, 100, nt)) := M.1.1 _ (List.mem_of_getElem? (i := 14) rfl)
theorem kd106 {S : KS} (M : Main S) : KD S 106 (.inl (4, [(0, 0), (1, 107), (1, 108), (1, 109), (1, 110), (1, 111), (1, 112), (1, 113), (0, 0), (0, 0), (0, 0), (0, 0)])) := M.1.1 _ (List.mem_of_getElem? (i := 15) rfl)
theorem kd107 {S : KS} (M : Main S) : KD S 107 (.inr (0, 20, nt)) := M.1.1 _ (List.mem_of_getElem? (i := 16) rfl)
theorem kd108 {S : KS} (M : Main S) : KD S 108 (.inr (0, 20, nt)) := M.1.1 _ (List.mem_of_getElem? (i := 17) rfl)
theorem kd109 {S : KS} (M : Main S) : KD S 109 (.inr (0, 20, nt)) := M.1.1 _ (List.mem_of_getElem? (i := 18) rfl)
theorem kd110 {S : KS} (M : Main S) : KD S 110 (.inr (5, 20, (fun j => some (114 + j)))) := M.1.1 _ (List.mem_of_getElem? (i := 19) rfl)
theorem kd111 {S : KS} (M : Main S) : KD S 111 (.inr (0, 100, nt)) := M.1.1 _ (List.mem_of_getElem? (i := 20) rfl)
theorem kd112 {S : KS} (M : Main S) : KD S 112 (.inr (1, 100, nt)) := M.1.1 _ (List.mem_of_getElem? (i := 21) rfl)
theorem kd113 {S : KS} (M : Main S) : KD S 113 (.inr (0, 100, nt)) := M.1.1 _ (List.mem_of_getElem? (i := 22) rfl)
theorem kd114 {S : KS} (M : Main S) : KD S 114 (.inr (0, 60, nt)) := M.1.1 _ (List.mem_of_getElem? (i := 23) rfl)
theorem kd115 {S : KS} (M : Main S) : KD S 115 (.inr (0, 60, nt)) := M.1.1 _ (List.mem_of_getElem? (i := 24) rfl)
theorem kd116 {S : KS} (M : Main S) : KD S 116 (.inr (0, 60, nt)) := M.1.1 _ (List.mem_of_getElem? (i := 25) rfl)
theorem kd117 {S : KS} (M : Main S) : KD S 117 (.inr (0, 60, nt)) := M.1.1 _ (List.mem_of_getElem? (i := 26) rfl)
theorem kd118 {S : KS} (M : Main S) : KD S 118 (.inr (0, 60, nt)) := M.1.1 _ (List.mem_of_getElem? (i := 27) rfl)
theorem kd119 {S : KS} (M : Main S) : KD S 119 (.inr (0, 60, nt)) := M.1.1 _ (List.mem_of_getElem? (i := 28) rfl)
theorem kd120 {S : KS} (M : Main S) : KD S 120 (.inr (0, 60, nt)) := M.1.1 _ (List.mem_of_getElem? (i := 29) rfl)
theorem kd121 {S : KS} (M : Main S) : KD S 121 (.inr (0, 60, nt)) := M.1.1 _ (List.mem_of_getElem? (i := 30) rfl)
theorem kd122 {S : KS} (M : Main S) : KD S 122 (.inr (0, 60, nt)) := M.1.1 _ (List.mem_of_getElem? (i := 31) rfl)
theorem kd123 {S : KS} (M : Main S) : KD S 123 (.inr (0, 60, nt)) := M.1.1 _ (List.mem_of_getElem? (i := 32) rfl)
theorem kd124 {S : KS} (M : Main S) : KD S 124 (.inr (0, 60, nt)) := M.1.1 _ (List.mem_of_getElem? (i := 33) rfl)
theorem kd125 {S : KS} (M : Main S) : KD S 125 (.inr (0, 60, nt)) := M.1.1 _ (List.mem_of_getElem? (i := 34) rfl)
theorem kd126 {S : KS} (M : Main S) : KD S 126 (.inr (0, 60, nt)) := M.1.1 _ (List.mem_of_getElem? (i := 35) rfl)
theorem kd127 {S : KS} (M : Main S) : KD S 127 (.inr (0, 60, nt)) := M.1.1 _ (List.mem_of_getElem? (i := 36) rfl)
theorem kd128 {S : KS} (M : Main S) : KD S 128 (.inr (0, 60, nt)) := M.1.1 _ (List.mem_of_getElem? (i := 37) rfl)
theorem kd129 {S : KS} (M : Main S) : KD S 129 (.inr (0, 60, nt)) := M.1.1 _ (List.mem_of_getElem? (i := 38) rfl)
theorem kd130 {S : KS} (M : Main S) : KD S 130 (.inr (0, 60, nt)) := M.1.1 _ (List.mem_of_getElem? (i := 39) rfl)
theorem kd131 {S : KS} (M : Main S) : KD S 131 (.inr (0, 60, nt)) := M.1.1 _ (List.mem_of_getElem? (i := 40) rfl)
theorem kd132 {S : KS} (M : Main S) : KD S 132 (.inr (0, 60, nt)) := M.1.1 _ (List.mem_of_getElem? (i := 41) rfl)
theorem kd133 {S : KS} (M : Main S) : KD S 133 (.inr (0, 60, nt)) := M.1.1 _ (List.mem_of_getElem? (i := 42) rfl)
theorem kd134 {S : KS} (M : Main S) : KD S 134 (.inr (4, 6, (fun j => some (135 + 2 * j)))) := M.1.1 _ (List.mem_of_getElem? (i := 43) rfl)
theorem kd135 {S : KS} (M : Main S) : KD S 135 (.inl (8, [(0, 0), (0, 0), (1, 136), (2, 201)])) := M.1.1 _ (List.mem_of_getElem? (i := 44) rfl)
theorem kd136 {S : KS} (M : Main S) : KD S 136 (.inr (1, 100, nt)) := M.1.1 _ (List.mem_of_getElem? (i := 45) rfl)
theorem kd137 {S : KS} (M : Main S) : KD S 137 (.inl (8, [(0, 0), (0, 0), (1, 138), (2, 301)])) := M.1.1 _ (List.mem_of_getElem? (i := 46) rfl)
theorem kd138 {S : KS} (M : Main S) : KD S 138 (.inr (1, 100, nt)) := M.1.1 _ (List.mem_of_getElem? (i := 47) rfl)
theorem kd139 {S : KS} (M : Main S) : KD S 139 (.inl (8, [(0, 0), (0, 0), (1, 140), (2, 401)])) := M.1.1 _ (List.mem_of_getElem? (i := 48) rfl)
theorem kd140 {S : KS} (M : Main S) : KD S 140 (.inr (1, 100, nt)) := M.1.1 _ (List.mem_of_getElem? (i := 49) rfl)
theorem kd141 {S : KS} (M : Main S) : KD S 141 (.inl (8, [(0, 0), (0, 0), (1, 142), (2, 501)])) := M.1.1 _ (List.mem_of_getElem? (i := 50) rfl)
theorem kd142 {S : KS} (M : Main S) : KD S 142 (.inr (1, 100, nt)) := M.1.1 _ (List.mem_of_getElem? (i := 51) rfl)
theorem kd143 {S : KS} (M : Main S) : KD S 143 (.inl (8, [(0, 0), (0, 0), (1, 144), (2, 601)])) := M.1.1 _ (List.mem_of_getElem? (i := 52) rfl)
theorem kd144 {S : KS} (M : Main S) : KD S 144 (.inr (1, 100, nt)) := M.1.1 _ (List.mem_of_getElem? (i := 53) rfl)
theorem kd145 {S : KS} (M : Main S) : KD S 145 (.inl (8, [(0, 0), (0, 0), (1, 146), (2, 701)])) := M.1.1 _ (List.mem_of_getElem? (i := 54) rfl)
theorem kd146 {S : KS} (M : Main S) : KD S 146 (.inr (1, 100, nt)) := M.1.1 _ (List.mem_of_getElem? (i := 55) rfl)
theorem kd147 {S : KS} (M : Main S) : KD S 147 (.inr (0, 8, nt)) := M.1.1 _ (List.mem_of_getElem? (i := 56) rfl)
theorem kd148 {S : KS} (M : Main S) : KD S 148 (.inl (12, [(0, 0), (1, 149), (0, 0), (1, 150), (0, 0), (1, 151), (0, 0), (0, 0), (0, 0), (1, 152), (0, 0), (1, 153), (1, 154), (1, 155), (1, 156), (1, 157), (1, 158), (1, 159), (1, 160), (1, 161), (1, 162), (0, 0), (1, 163), (0, 0), (0, 0), (0, 0), (0, 0), (0, 0), (1, 164), (1, 165), (1, 166), (1, 167), (1, 168)])) := M.1.1 _ (List.mem_of_getElem? (i := 57) rfl)
theorem kd149 {S : KS} (M : Main S) : KD S 149 (.inr (0, 4340, nt)) := M.1.1 _ (List.mem_of_getElem? (i := 58) rfl)
theorem kd150 {S : KS} (M : Main S) : KD S 150 (.inr (0, 60, nt)) := M.1.1 _ (List.mem_of_getElem? (i := 59) rfl)
theorem kd151 {S : KS} (M : Main S) : KD S 151 (.inr (0, 19, nt)) := M.1.1 _ (List.mem_of_getElem? (i := 60) rfl)
theorem kd152 {S : KS} (M : Main S) : KD S 152 (.inr (0, 100, nt)) := M.1.1 _ (List.mem_of_getElem? (i := 61) rfl)
theorem kd153 {S : KS} (M : Main S) : KD S 153 (.inr (2, 8, nt)) := M.1.1 _ (List.mem_of_getElem? (i := 62) rfl)
theorem kd154 {S : KS} (M : Main S) : KD S 154 (.inr (0, 100, nt)) := M.1.1 _ (List.mem_of_getElem? (i := 63) rfl)
theorem kd155 {S : KS} (M : Main S) : KD S 155 (.inr (0, 100, nt)) := M.1.1 _ (List.mem_of_getElem? (i := 64) rfl)
theorem kd156 {S : KS} (M : Main S) : KD S 156 (.inr (0, 100, nt)) := M.1.1 _ (List.mem_of_getElem? (i := 65) rfl)
theorem kd157 {S : KS} (M : Main S) : KD S 157 (.inr (2, 100, nt)) := M.1.1 _ (List.mem_of_getElem? (i := 66) rfl)
theorem kd158 {S : KS} (M : Main S) : KD S 158 (.inr (2, 100, nt)) := M.1.1 _ (List.mem_of_getElem? (i := 67) rfl)
theorem kd159 {S : KS} (M : Main S) : KD S 159 (.inr (0, 20, nt)) := M.1.1 _ (List.mem_of_getElem? (i := 68) rfl)
theorem kd160 {S : KS} (M : Main S) : KD S 160 (.inr (0, 20, nt)) := M.1.1 _ (List.mem_of_getElem? (i := 69) rfl)
theorem kd161 {S : KS} (M : Main S) : KD S 161 (.inr (0, 20, nt)) := M.1.1 _ (List.mem_of_getElem? (i := 70) rfl)
theorem kd162 {S : KS} (M : Main S) : KD S 162 (.inr (0, 1200, nt)) := M.1.1 _ (List.mem_of_getElem? (i := 71) rfl)
theorem kd163 {S : KS} (M : Main S) : KD S 163 (.inr (0, 100, nt)) := M.1.1 _ (List.mem_of_getElem? (i := 72) rfl)
theorem kd164 {S : KS} (M : Main S) : KD S 164 (.inr (0, 100, nt)) := M.1.1 _ (List.mem_of_getElem? (i := 73) rfl)
theorem kd165 {S : KS} (M : Main S) : KD S 165 (.inr (0, 6, nt)) := M.1.1 _ (List.mem_of_getElem? (i := 74) rfl)
theorem kd166 {S : KS} (M : Main S) : KD S 166 (.inr (0, 6, nt)) := M.1.1 _ (List.mem_of_getElem? (i := 75) rfl)
theorem kd167 {S : KS} (M : Main S) : KD S 167 (.inr (1, 600, nt)) := M.1.1 _ (List.mem_of_getElem? (i := 76) rfl)
theorem kd168 {S : KS} (M : Main S) : KD S 168 (.inr (0, 26040, nt)) := M.1.1 _ (List.mem_of_getElem? (i := 77) rfl)
theorem kd1 {S : KS} (M : Main S) : KD S 1 (.inl (0, [(1, 2), (1, 14), (1, 19), (1, 30), (1, 35), (0, 0), (0, 0), (0, 0), (0, 0), (0, 0), (0, 0), (0, 0), (0, 0)])) := by have h := ic1 M.2; simpa using h
theorem kd2 {S : KS} (M : Main S) : KD S 2 (.inl (2, [(1, 3), (1, 4), (1, 5), (1, 6), (1, 7), (1, 8), (1, 9), (1, 10), (1, 11), (1, 12), (1, 13)])) := by have h := ic2 M.2; simpa using h
theorem kd3 {S : KS} (M : Main S) : KD S 3 (.inr (0, 100, nt)) := by have h := ic3 M.2; simpa using h
theorem kd4 {S : KS} (M : Main S) : KD S 4 (.inr (0, 100, nt)) := by have h := ic4 M.2; simpa using h
theorem kd5 {S : KS} (M : Main S) : KD S 5 (.inr (0, 100, nt)) := by have h := ic5 M.2; simpa using h
theorem kd6 {S : KS} (M : Main S) : KD S 6 (.inr (0, 100, nt)) := by have h := ic6 M.2; simpa using h
theorem kd7 {S : KS} (M : Main S) : KD S 7 (.inr (0, 100, nt)) := by have h := ic7 M.2; simpa using h
theorem kd8 {S : KS} (M : Main S) : KD S 8 (.inr (0, 100, nt)) := by have h := ic8 M.2; simpa using h
theorem kd9 {S : KS} (M : Main S) : KD S 9 (.inr (0, 100, nt)) := by have h := ic9 M.2; simpa using h
theorem kd10 {S : KS} (M : Main S) : KD S 10 (.inr (0, 100, nt)) := by have h := ic10 M.2; simpa using h
theorem kd11 {S : KS} (M : Main S) : KD S 11 (.inr (0, 100, nt)) := by have h := ic11 M.2; simpa using h
theorem kd12 {S : KS} (M : Main S) : KD S 12 (.inr (0, 100, nt)) := by have h := ic12 M.2; simpa using h
theorem kd13 {S : KS} (M : Main S) : KD S 13 (.inr (0, 100, nt)) := by have h := ic13 M.2; simpa using h
theorem kd14 {S : KS} (M : Main S) : KD S 14 (.inl (10, [(1, 15), (1, 16), (1, 17), (1, 18), (0, 0), (0, 0), (0, 0), (0, 0), (0, 0), (0, 0), (0, 0)])) := by have h := ic14 M.2; simpa using h
theorem kd15 {S : KS} (M : Main S) : KD S 15 (.inr (0, 100, nt)) := by have h := ic15 M.2; simpa using h
theorem kd16 {S : KS} (M : Main S) : KD S 16 (.inr (0, 100, nt)) := by have h := ic16 M.2; simpa using h
theorem kd17 {S : KS} (M : Main S) : KD S 17 (.inr (0, 100, nt)) := by have h := ic17 M.2; simpa using h
theorem kd18 {S : KS} (M : Main S) : KD S 18 (.inr (0, 100, nt)) := by have h := ic18 M.2; simpa using h
theorem kd19 {S : KS} (M : Main S) : KD S 19 (.inl (3, [(1, 20), (1, 21), (1, 22), (1, 23), (1, 24), (1, 25), (1, 26), (1, 27), (1, 28), (1, 29)])) := by have h := ic19 M.2; simpa using h
theorem kd20 {S : KS} (M : Main S) : KD S 20 (.inr (0, 100, nt)) := by have h := ic20 M.2; simpa using h
theorem kd21 {S : KS} (M : Main S) : KD S 21 (.inr (0, 100, nt)) := by have h := ic21 M.2; simpa using h
theorem kd22 {S : KS} (M : Main S) : KD S 22 (.inr (0, 100, nt)) := by have h := ic22 M.2; simpa using h
theorem kd23 {S : KS} (M : Main S) : KD S 23 (.inr (0, 100, nt)) := by have h := ic23 M.2; simpa using h
theorem kd24 {S : KS} (M : Main S) : KD S 24 (.inr (0, 100, nt)) := by have h := ic24 M.2; simpa using h
theorem kd25 {S : KS} (M : Main S) : KD S 25 (.inr (0, 100, nt)) := by have h := ic25 M.2; simpa using h
theorem kd26 {S : KS} (M : Main S) : KD S 26 (.inr (0, 100, nt)) := by have h := ic26 M.2; simpa using h
theorem kd27 {S : KS} (M : Main S) : KD S 27 (.inr (0, 100, nt)) := by have h := ic27 M.2; simpa using h
theorem kd28 {S : KS} (M : Main S) : KD S 28 (.inr (0, 100, nt)) := by have h := ic28 M.2; simpa using h
theorem kd29 {S : KS} (M : Main S) : KD S 29 (.inr (0, 100, nt)) := by have h := ic29 M.2; simpa using h
theorem kd30 {S : KS} (M : Main S) : KD S 30 (.inl (6, [(0, 0), (1, 31), (1, 32), (1, 33), (1, 34)])) := by have h := ic30 M.2; simpa using h
theorem kd31 {S : KS} (M : Main S) : KD S 31 (.inr (0, 200, nt)) := by have h := ic31 M.2; simpa using h
theorem kd32 {S : KS} (M : Main S) : KD S 32 (.inr (0, 200, nt)) := by have h := ic32 M.2; simpa using h
theorem kd33 {S : KS} (M : Main S) : KD S 33 (.inr (0, 200, nt)) := by have h := ic33 M.2; simpa using h
theorem kd34 {S : KS} (M : Main S) : KD S 34 (.inr (0, 200, nt)) := by have h := ic34 M.2; simpa using h
theorem kd35 {S : KS} (M : Main S) : KD S 35 (.inr (3, 8, (fun j => some (36 + 7 * j)))) := by have h := ic35 M.2; simpa using h
theorem kd36 {S : KS} (M : Main S) : KD S 36 (.inl (5, [(0, 0), (0, 0), (0, 0), (0, 0), (0, 0), (1, 37), (1, 38), (1, 39), (1, 40), (1, 41), (1, 42)])) := by have h := ic36 M.2; simpa using h
theorem kd37 {S : KS} (M : Main S) : KD S 37 (.inr (0, 19, nt)) := by have h := ic37 M.2; simpa using h
theorem kd38 {S : KS} (M : Main S) : KD S 38 (.inr (0, 19, nt)) := by have h := ic38 M.2; simpa using h
theorem kd39 {S : KS} (M : Main S) : KD S 39 (.inr (0, 19, nt)) := by have h := ic39 M.2; simpa using h
theorem kd40 {S : KS} (M : Main S) : KD S 40 (.inr (0, 19, nt)) := by have h := ic40 M.2; simpa using h
theorem kd41 {S : KS} (M : Main S) : KD S 41 (.inr (0, 19, nt)) := by have h := ic41 M.2; simpa using h
theorem kd42 {S : KS} (M : Main S) : KD S 42 (.inr (0, 19, nt)) := by have h := ic42 M.2; simpa using h
theorem kd43 {S : KS} (M : Main S) : KD S 43 (.inl (5, [(0, 0), (0, 0), (0, 0), (0, 0), (0, 0), (1, 44), (1, 45), (1, 46), (1, 47), (1, 48), (1, 49)])) := by have h := ic43 M.2; simpa using h
theorem kd44 {S : KS} (M : Main S) : KD S 44 (.inr (0, 19, nt)) := by have h := ic44 M.2; simpa using h
theorem kd45 {S : KS} (M : Main S) : KD S 45 (.inr (0, 19, nt)) := by have h := ic45 M.2; simpa using h
theorem kd46 {S : KS} (M : Main S) : KD S 46 (.inr (0, 19, nt)) := by have h := ic46 M.2; simpa using h
theorem kd47 {S : KS} (M : Main S) : KD S 47 (.inr (0, 19, nt)) := by have h := ic47 M.2; simpa using h
theorem kd48 {S : KS} (M : Main S) : KD S 48 (.inr (0, 19, nt)) := by have h := ic48 M.2; simpa using h
theorem kd49 {S : KS} (M : Main S) : KD S 49 (.inr (0, 19, nt)) := by have h := ic49 M.2; simpa using h
theorem kd50 {S : KS} (M : Main S) : KD S 50 (.inl (5, [(0, 0), (0, 0), (0, 0), (0, 0), (0, 0), (1, 51), (1, 52), (1, 53), (1, 54), (1, 55), (1, 56)])) := by have h := ic50 M.2; simpa using h
theorem kd51 {S : KS} (M : Main S) : KD S 51 (.inr (0, 19, nt)) := by have h := ic51 M.2; simpa using h
theorem kd52 {S : KS} (M : Main S) : KD S 52 (.inr (0, 19, nt)) := by have h := ic52 M.2; simpa using h
theorem kd53 {S : KS} (M : Main S) : KD S 53 (.inr (0, 19, nt)) := by have h := ic53 M.2; simpa using h
theorem kd54 {S : KS} (M : Main S) : KD S 54 (.inr (0, 19, nt)) := by have h := ic54 M.2; simpa using h
theorem kd55 {S : KS} (M : Main S) : KD S 55 (.inr (0, 19, nt)) := by have h := ic55 M.2; simpa using h
theorem kd56 {S : KS} (M : Main S) : KD S 56 (.inr (0, 19, nt)) := by have h := ic56 M.2; simpa using h
theorem kd57 {S : KS} (M : Main S) : KD S 57 (.inl (5, [(0, 0), (0, 0), (0, 0), (0, 0), (0, 0), (1, 58), (1, 59), (1, 60), (1, 61), (1, 62), (1, 63)])) := by have h := ic57 M.2; simpa using h
theorem kd58 {S : KS} (M : Main S) : KD S 58 (.inr (0, 19, nt)) := by have h := ic58 M.2; simpa using h
theorem kd59 {S : KS} (M : Main S) : KD S 59 (.inr (0, 19, nt)) := by have h := ic59 M.2; simpa using h
theorem kd60 {S : KS} (M : Main S) : KD S 60 (.inr (0, 19, nt)) := by have h := ic60 M.2; simpa using h
theorem kd61 {S : KS} (M : Main S) : KD S 61 (.inr (0, 19, nt)) := by have h := ic61 M.2; simpa using h
theorem kd62 {S : KS} (M : Main S) : KD S 62 (.inr (0, 19, nt)) := by have h := ic62 M.2; simpa using h
theorem kd63 {S : KS} (M : Main S) : KD S 63 (.inr (0, 19, nt)) := by have h := ic63 M.2; simpa using h
theorem kd64 {S : KS} (M : Main S) : KD S 64 (.inl (5, [(0, 0), (0, 0), (0, 0), (0, 0), (0, 0), (1, 65), (1, 66), (1, 67), (1, 68), (1, 69), (1, 70)])) := by have h := ic64 M.2; simpa using h
theorem kd65 {S : KS} (M : Main S) : KD S 65 (.inr (0, 19, nt)) := by have h := ic65 M.2; simpa using h
theorem kd66 {S : KS} (M : Main S) : KD S 66 (.inr (0, 19, nt)) := by have h := ic66 M.2; simpa using h
theorem kd67 {S : KS} (M : Main S) : KD S 67 (.inr (0, 19, nt)) := by have h := ic67 M.2; simpa using h
theorem kd68 {S : KS} (M : Main S) : KD S 68 (.inr (0, 19, nt)) := by have h := ic68 M.2; simpa using h
theorem kd69 {S : KS} (M : Main S) : KD S 69 (.inr (0, 19, nt)) := by have h := ic69 M.2; simpa using h
theorem kd70 {S : KS} (M : Main S) : KD S 70 (.inr (0, 19, nt)) := by have h := ic70 M.2; simpa using h
theorem kd71 {S : KS} (M : Main S) : KD S 71 (.inl (5, [(0, 0), (0, 0), (0, 0), (0, 0), (0, 0), (1, 72), (1, 73), (1, 74), (1, 75), (1, 76), (1, 77)])) := by have h := ic71 M.2; simpa using h
theorem kd72 {S : KS} (M : Main S) : KD S 72 (.inr (0, 19, nt)) := by have h := ic72 M.2; simpa using h
theorem kd73 {S : KS} (M : Main S) : KD S 73 (.inr (0, 19, nt)) := by have h := ic73 M.2; simpa using h
theorem kd74 {S : KS} (M : Main S) : KD S 74 (.inr (0, 19, nt)) := by have h := ic74 M.2; simpa using h
theorem kd75 {S : KS} (M : Main S) : KD S 75 (.inr (0, 19, nt)) := by have h := ic75 M.2; simpa using h
theorem kd76 {S : KS} (M : Main S) : KD S 76 (.inr (0, 19, nt)) := by have h := ic76 M.2; simpa using h
theorem kd77 {S : KS} (M : Main S) : KD S 77 (.inr (0, 19, nt)) := by have h := ic77 M.2; simpa using h
theorem kd78 {S : KS} (M : Main S) : KD S 78 (.inl (5, [(0, 0), (0, 0), (0, 0), (0, 0), (0, 0), (1, 79), (1, 80), (1, 81), (1, 82), (1, 83), (1, 84)])) := by have h := ic78 M.2; simpa using h
theorem kd79 {S : KS} (M : Main S) : KD S 79 (.inr (0, 19, nt)) := by have h := ic79 M.2; simpa using h
theorem kd80 {S : KS} (M : Main S) : KD S 80 (.inr (0, 19, nt)) := by have h := ic80 M.2; simpa using h
theorem kd81 {S : KS} (M : Main S) : KD S 81 (.inr (0, 19, nt)) := by have h := ic81 M.2; simpa using h
theorem kd82 {S : KS} (M : Main S) : KD S 82 (.inr (0, 19, nt)) := by have h := ic82 M.2; simpa using h
theorem kd83 {S : KS} (M : Main S) : KD S 83 (.inr (0, 19, nt)) := by have h := ic83 M.2; simpa using h
theorem kd84 {S : KS} (M : Main S) : KD S 84 (.inr (0, 19, nt)) := by have h := ic84 M.2; simpa using h
theorem kd85 {S : KS} (M : Main S) : KD S 85 (.inl (5, [(0, 0), (0, 0), (0, 0), (0, 0), (0, 0), (1, 86), (1, 87), (1, 88), (1, 89), (1, 90), (1, 91)])) := by have h := ic85 M.2; simpa using h
theorem kd86 {S : KS} (M : Main S) : KD S 86 (.inr (0, 19, nt)) := by have h := ic86 M.2; simpa using h
theorem kd87 {S : KS} (M : Main S) : KD S 87 (.inr (0, 19, nt)) := by have h := ic87 M.2; simpa using h
theorem kd88 {S : KS} (M : Main S) : KD S 88 (.inr (0, 19, nt)) := by have h := ic88 M.2; simpa using h
theorem kd89 {S : KS} (M : Main S) : KD S 89 (.inr (0, 19, nt)) := by have h := ic89 M.2; simpa using h
theorem kd90 {S : KS} (M : Main S) : KD S 90 (.inr (0, 19, nt)) := by have h := ic90 M.2; simpa using h
theorem kd91 {S : KS} (M : Main S) : KD S 91 (.inr (0, 19, nt)) := by have h := ic91 M.2; simpa using h
def lineF (L : Nat) : List (Nat × Nat) := [(0, 0), (0, 0), (0, 0), (0, 0), (0, 0), (1, L + 1), (1, L + 2), (1, L + 3), (1, L + 4), (1, L + 5), (1, L + 6)]
def IsLine (S : KS) (L : Nat) : Prop := KD S L (.inl (5, lineF L)) ∧ KD S (L + 1) (.inr (0, 19, nt)) ∧ KD S (L + 2) (.inr (0, 19, nt)) ∧ KD S (L + 3) (.inr (0, 19, nt)) ∧ KD S (L + 4) (.inr (0, 19, nt)) ∧ KD S (L + 5) (.inr (0, 19, nt)) ∧ KD S (L + 6) (.inr (0, 19, nt))
def IsTape (S : KS) (T : Nat) : Prop := KD S T (.inl (8, [(0, 0), (0, 0), (1, T + 1), (2, imZ T + 1)])) ∧ KD S (T + 1) (.inr (1, 100, nt))
theorem inb_lt {i : Int32} {n : Nat} (h : inb i n = true) : i.toNatClampNeg < n := by
  have h1 := inb_vp h
  unfold vp_in at h1
  omega
theorem lineAt {S : KS} {z : Nat} (h : IsCity S z) : ∀ j, j < 8 → IsLine S (z + 36 + 7 * j) := by
  intro j hj
  match j, hj with
  | 0, _ => exact ⟨ic36 h, ic37 h, ic38 h, ic39 h, ic40 h, ic41 h, ic42 h⟩
  | 1, _ => exact ⟨ic43 h, ic44 h, ic45 h, ic46 h, ic47 h, ic48 h, ic49 h⟩
  | 2, _ => exact ⟨ic50 h, ic51 h, ic52 h, ic53 h, ic54 h, ic55 h, ic56 h⟩
  | 3, _ => exact ⟨ic57 h, ic58 h, ic59 h, ic60 h, ic61 h, ic62 h, ic63 h⟩
  | 4, _ => exact ⟨ic64 h, ic65 h, ic66 h, ic67 h, ic68 h, ic69 h, ic70 h⟩
  | 5, _ => exact ⟨ic71 h, ic72 h, ic73 h, ic74 h, ic75 h, ic76 h, ic77 h⟩
  | 6, _ => exact ⟨ic78 h, ic79 h, ic80 h, ic81 h, ic82 h, ic83 h, ic84 h⟩
  | 7, _ => exact ⟨ic85 h, ic86 h, ic87 h, ic88 h, ic89 h, ic90 h, ic91 h⟩
theorem lineOk {S : KS} {z : Nat} (h : IsCity S z) {i : Int32} (hi : inb i 8 = true) : IsLine S (z + 36 + 7 * i.toNatClampNeg) := lineAt h _ (inb_lt hi)
theorem lineOkM {S : KS} (M : Main S) {i : Int32} (hi : inb i 8 = true) : IsLine S (36 + 7 * i.toNatClampNeg) := by
  have h := lineOk M.2 hi
  rwa [Nat.zero_add] at h
theorem tapeAt {S : KS} (M : Main S) : ∀ j, j < 6 → IsTape S (135 + 2 * j) := by
  intro j hj
  match j, hj with
  | 0, _ => exact ⟨kd135 M, kd136 M⟩
  | 1, _ => exact ⟨kd137 M, kd138 M⟩
  | 2, _ => exact ⟨kd139 M, kd140 M⟩
  | 3, _ => exact ⟨kd141 M, kd142 M⟩
  | 4, _ => exact ⟨kd143 M, kd144 M⟩
  | 5, _ => exact ⟨kd145 M, kd146 M⟩
theorem tapeOk {S : KS} (M : Main S) {i : Int32} (hi : inb i 6 = true) : IsTape S (135 + 2 * i.toNatClampNeg) := tapeAt M _ (inb_lt hi)
theorem stepAt {S : KS} (M : Main S) : ∀ j, j < 20 → KD S (114 + j) (.inr (0, 60, nt)) := by
  intro j hj
  match j, hj with
  | 0, _ => exact kd114 M
  | 1, _ => exact kd115 M
  | 2, _ => exact kd116 M
  | 3, _ => exact kd117 M
  | 4, _ => exact kd118 M
  | 5, _ => exact kd119 M
  | 6, _ => exact kd120 M
  | 7, _ => exact kd121 M
  | 8, _ => exact kd122 M
  | 9, _ => exact kd123 M
  | 10, _ => exact kd124 M
  | 11, _ => exact kd125 M
  | 12, _ => exact kd126 M
  | 13, _ => exact kd127 M
  | 14, _ => exact kd128 M
  | 15, _ => exact kd129 M
  | 16, _ => exact kd130 M
  | 17, _ => exact kd131 M
  | 18, _ => exact kd132 M
  | 19, _ => exact kd133 M
  | j + 20, h => exact absurd h (by omega)
theorem stepOk {S : KS} (M : Main S) {i : Int32} (hi : inb i 20 = true) : KD S (114 + i.toNatClampNeg) (.inr (0, 60, nt)) := stepAt M _ (inb_lt hi)
def IM (S : KS) (w : Wd) : Prop := ∀ T, IsTape S T → ¬ w.1 T 3 = 0 → IsCity S (imZ T)
set_option maxRecDepth 100000 in
theorem cl0 : CLS 0 RX0 TX0 13 tyX0 := ⟨rfl, fun w hw => gq ((by decide +kernel : ∀ w ∈ u_ws RX0 TX0 13, w ∈ lw_tbl) w hw) ((by decide +kernel : ∀ w ∈ u_ws RX0 TX0 13, goodWord w = true) w hw), tyX0_ok, nmX0⟩
set_option maxRecDepth 100000 in
theorem cl1 : CLS 1 RX1 TX1 7 tyX1 := ⟨rfl, fun w hw => gq ((by decide +kernel : ∀ w ∈ u_ws RX1 TX1 7, w ∈ lw_tbl) w hw) ((by decide +kernel : ∀ w ∈ u_ws RX1 TX1 7, goodWord w = true) w hw), tyX1_ok, nmX1⟩
set_option maxRecDepth 100000 in
theorem cl2 : CLS 2 RX2 TX2 11 tyX2 := ⟨rfl, fun w hw => gq ((by decide +kernel : ∀ w ∈ u_ws RX2 TX2 11, w ∈ lw_tbl) w hw) ((by decide +kernel : ∀ w ∈ u_ws RX2 TX2 11, goodWord w = true) w hw), tyX2_ok, nmX2⟩
set_option maxRecDepth 100000 in
theorem cl3 : CLS 3 RX3 TX3 10 tyX3 := ⟨rfl, fun w hw => gq ((by decide +kernel : ∀ w ∈ u_ws RX3 TX3 10, w ∈ lw_tbl) w hw) ((by decide +kernel : ∀ w ∈ u_ws RX3 TX3 10, goodWord w = true) w hw), tyX3_ok, nmX3⟩
set_option maxRecDepth 100000 in
theorem cl4 : CLS 4 RX4 TX4 12 tyX4 := ⟨rfl, fun w hw => gq ((by decide +kernel : ∀ w ∈ u_ws RX4 TX4 12, w ∈ lw_tbl) w hw) ((by decide +kernel : ∀ w ∈ u_ws RX4 TX4 12, goodWord w = true) w hw), tyX4_ok, nmX4⟩
set_option maxRecDepth 100000 in
theorem cl5 : CLS 5 RX5 TX5 11 tyX5 := ⟨rfl, fun w hw => gq ((by decide +kernel : ∀ w ∈ u_ws RX5 TX5 11, w ∈ lw_tbl) w hw) ((by decide +kernel : ∀ w ∈ u_ws RX5 TX5 11, goodWord w = true) w hw), tyX5_ok, nmX5⟩
set_option maxRecDepth 100000 in
theorem cl6 : CLS 6 RX6 TX6 5 tyX6 := ⟨rfl, fun w hw => gq ((by decide +kernel : ∀ w ∈ u_ws RX6 TX6 5, w ∈ lw_tbl) w hw) ((by decide +kernel : ∀ w ∈ u_ws RX6 TX6 5, goodWord w = true) w hw), tyX6_ok, nmX6⟩
set_option maxRecDepth 100000 in
theorem cl7 : CLS 7 RX7 TX7 4 tyX7 := ⟨rfl, fun w hw => gq ((by decide +kernel : ∀ w ∈ u_ws RX7 TX7 4, w ∈ lw_tbl) w hw) ((by decide +kernel : ∀ w ∈ u_ws RX7 TX7 4, goodWord w = true) w hw), tyX7_ok, nmX7⟩
set_option maxRecDepth 100000 in
theorem cl8 : CLS 8 RX8 TX8 4 tyX8 := ⟨rfl, fun w hw => gq ((by decide +kernel : ∀ w ∈ u_ws RX8 TX8 4, w ∈ lw_tbl) w hw) ((by decide +kernel : ∀ w ∈ u_ws RX8 TX8 4, goodWord w = true) w hw), tyX8_ok, nmX8⟩
set_option maxRecDepth 100000 in
theorem cl9 : CLS 9 RX9 TX9 2 tyX9 := ⟨rfl, fun w hw => gq ((by decide +kernel : ∀ w ∈ u_ws RX9 TX9 2, w ∈ lw_tbl) w hw) ((by decide +kernel : ∀ w ∈ u_ws RX9 TX9 2, goodWord w = true) w hw), tyX9_ok, nmX9⟩
set_option maxRecDepth 100000 in
theorem cl10 : CLS 10 RX10 TX10 11 tyX10 := ⟨rfl, fun w hw => gq ((by decide +kernel : ∀ w ∈ u_ws RX10 TX10 11, w ∈ lw_tbl) w hw) ((by decide +kernel : ∀ w ∈ u_ws RX10 TX10 11, goodWord w = true) w hw), tyX10_ok, nmX10⟩
set_option maxRecDepth 100000 in
theorem cl11 : CLS 11 RX11 TX11 11 tyX11 := ⟨rfl, fun w hw => gq ((by decide +kernel : ∀ w ∈ u_ws RX11 TX11 11, w ∈ lw_tbl) w hw) ((by decide +kernel : ∀ w ∈ u_ws RX11 TX11 11, goodWord w = true) w hw), tyX11_ok, nmX11⟩
set_option maxRecDepth 100000 in
theorem cl12 : CLS 12 RX12 TX12 33 tyX12 := ⟨rfl, fun w hw => gq ((by decide +kernel : ∀ w ∈ u_ws RX12 TX12 33, w ∈ lw_tbl) w hw) ((by decide +kernel : ∀ w ∈ u_ws RX12 TX12 33, goodWord w = true) w hw), tyX12_ok, nmX12⟩
