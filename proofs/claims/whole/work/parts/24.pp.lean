/-! the references once all cells are made (printed by wip/whole/genpp.py) -/
def PPo0 (t : Nat → Nat) (i s : Nat) : Option MR := if s = 0 then some (13, i) else if s = 1 then some (14, i) else if s = 2 then some (15, i) else if s = 3 then some (16, i) else if s = 4 then some (17, i) else if s = 5 then some (18, i) else if s = 6 then some (19, i) else if s = 7 then some (20, i) else if s = 8 then some (3, 60) else if s = 9 then some (21, i) else if s = 10 then some (1, 129) else if s = 11 then some (1, 130) else none
def PPo1 (t : Nat → Nat) (i s : Nat) : Option MR := if s = 0 then some (22, i) else none
def PPo2 (t : Nat → Nat) (i s : Nat) : Option MR := if s = 0 then some (23, i) else if s = 1 then some (24, i) else if s = 2 then some (25, i) else if s = 3 then some (26, i) else if s = 4 then some (27, i) else none
def PPo3 (t : Nat → Nat) (i s : Nat) : Option MR := if s = 0 then some (28, i) else if s = 1 then some (29, i) else none
def PPo4 (t : Nat → Nat) (i s : Nat) : Option MR := if s = 0 then some (30, i) else none
def PPo5 (t : Nat → Nat) (i s : Nat) : Option MR := if s = 0 then some (31, i) else if s = 1 then some (32, i) else if s = 2 then some (33, i) else none
def PPo6 (t : Nat → Nat) (i s : Nat) : Option MR := if s = 0 then some (4, 6 + i) else none
def PPo7 (t : Nat → Nat) (i s : Nat) : Option MR := if s = 0 then some (34, i) else if s = 1 then some (35, i) else if s = 2 then some (36, i) else if s = 3 then some (37, i) else none
def PPo8 (t : Nat → Nat) (i s : Nat) : Option MR := if i = 0 then (if s = 0 then some (7, 0) else if s = 1 then some (38, i) else if s = 2 then some (39, i) else if s = 3 then some (5, t 10) else if s = 4 then some (2, t 4) else if s = 5 then some (9, t 9) else if s = 6 then some (5, t 11) else none) else none
def PPo10 (t : Nat → Nat) (i s : Nat) : Option MR := if s = 0 then some (3, 20 + i) else if s = 1 then some (4, 106 + i) else none
def PPo11 (t : Nat → Nat) (i s : Nat) : Option MR := if s = 0 then some (40, i) else if s = 1 then some (41, i) else if s = 2 then some (42, i) else if s = 3 then some (8, 0) else if s = 4 then some (43, i) else if s = 5 then some (44, i) else if s = 6 then some (45, i) else if s = 7 then some (46, i) else if s = 8 then some (47, i) else if s = 9 then some (0, 0) else none
def PPo12 (t : Nat → Nat) (i s : Nat) : Option MR := if s = 5 then some (48, i) else if s = 6 then some (49, i) else if s = 7 then some (50, i) else if s = 8 then some (51, i) else if s = 9 then some (52, i) else if s = 10 then some (53, i) else if s = 11 then some (54, i) else if s = 13 then some (55, i) else if s = 14 then some (56, i) else if s = 15 then some (57, i) else if s = 16 then some (58, i) else if s = 17 then some (59, i) else if s = 18 then some (60, i) else if s = 19 then some (61, i) else if s = 20 then some (62, i) else if s = 21 then some (63, i) else if s = 22 then some (64, i) else if s = 23 then some (65, i) else if s = 24 then some (66, i) else if s = 25 then some (67, i) else if s = 26 then some (68, i) else if s = 27 then some (69, i) else if s = 28 then some (70, i) else if s = 29 then some (71, i) else if s = 30 then some (72, i) else if s = 31 then some (73, i) else if s = 32 then some (74, i) else if s = 51 then some (75, i) else if s = 52 then some (76, i) else if s = 53 then some (77, i) else if s = 56 then some (78, i) else if s = 57 then some (79, i) else if s = 58 then some (80, i) else if s = 59 then some (81, i) else if s = 60 then some (82, i) else if s = 61 then some (83, i) else if s = 62 then some (84, i) else if s = 63 then some (85, i) else if s = 64 then some (86, i) else if s = 65 then some (87, i) else if s = 66 then some (88, i) else if s = 67 then some (89, i) else if s = 68 then some (90, i) else if s = 69 then some (91, i) else if s = 70 then some (92, i) else if s = 71 then some (93, i) else if s = 73 then some (94, i) else if s = 74 then some (95, i) else if s = 75 then some (96, i) else if s = 76 then some (97, i) else if s = 77 then some (98, i) else if s = 78 then some (99, i) else if s = 79 then some (100, i) else if s = 80 then some (101, i) else if s = 81 then some (102, i) else if s = 82 then some (103, i) else if s = 83 then some (104, i) else if s = 84 then some (105, i) else if s = 85 then some (106, i) else if s = 86 then some (107, i) else if s = 87 then some (108, i) else if s = 88 then some (109, i) else if s = 89 then some (110, i) else if s = 90 then some (111, i) else if s = 91 then some (112, i) else if s = 92 then some (113, i) else if s = 93 then some (114, i) else none
def PP (t : Nat → Nat) (r i s : Nat) : Option MR := if r = 0 then PPo0 t i s else if r = 1 then PPo1 t i s else if r = 2 then PPo2 t i s else if r = 3 then PPo3 t i s else if r = 4 then PPo4 t i s else if r = 5 then PPo5 t i s else if r = 6 then PPo6 t i s else if r = 7 then PPo7 t i s else if r = 8 then PPo8 t i s else if r = 10 then PPo10 t i s else if r = 11 then PPo11 t i s else if r = 12 then PPo12 t i s else if r = 21 then some (1, 120 + s) else if r = 38 then (if i = 0 ∧ s < 4 then some (2, t s) else none) else if r = 39 then (if i = 0 ∧ s < 4 then some (9, t (5 + s)) else none) else if r = 40 then some (1, s) else if r = 41 then some (115, s) else if r = 42 then some (4, s) else if r = 43 then some (3, s) else if r = 44 then some (6, s) else if r = 45 then some (10, s) else none
abbrev mk (I L : Nat → Nat → Nat → Int) (t : Nat → Nat) : MS := (I, L, PP t, 1021)
theorem pp_0_0 (t : Nat → Nat) (i : Nat) : PP t 0 i 0 = some (13, i) := rfl
theorem pp_0_1 (t : Nat → Nat) (i : Nat) : PP t 0 i 1 = some (14, i) := rfl
theorem pp_0_2 (t : Nat → Nat) (i : Nat) : PP t 0 i 2 = some (15, i) := rfl
theorem pp_0_3 (t : Nat → Nat) (i : Nat) : PP t 0 i 3 = some (16, i) := rfl
theorem pp_0_4 (t : Nat → Nat) (i : Nat) : PP t 0 i 4 = some (17, i) := rfl
theorem pp_0_5 (t : Nat → Nat) (i : Nat) : PP t 0 i 5 = some (18, i) := rfl
theorem pp_0_6 (t : Nat → Nat) (i : Nat) : PP t 0 i 6 = some (19, i) := rfl
theorem pp_0_7 (t : Nat → Nat) (i : Nat) : PP t 0 i 7 = some (20, i) := rfl
theorem pp_0_8 (t : Nat → Nat) (i : Nat) : PP t 0 i 8 = some (3, 60) := rfl
theorem pp_0_9 (t : Nat → Nat) (i : Nat) : PP t 0 i 9 = some (21, i) := rfl
theorem pp_0_10 (t : Nat → Nat) (i : Nat) : PP t 0 i 10 = some (1, 129) := rfl
theorem pp_0_11 (t : Nat → Nat) (i : Nat) : PP t 0 i 11 = some (1, 130) := rfl
theorem pp_1_0 (t : Nat → Nat) (i : Nat) : PP t 1 i 0 = some (22, i) := rfl
theorem pp_2_0 (t : Nat → Nat) (i : Nat) : PP t 2 i 0 = some (23, i) := rfl
theorem pp_2_1 (t : Nat → Nat) (i : Nat) : PP t 2 i 1 = some (24, i) := rfl
theorem pp_2_2 (t : Nat → Nat) (i : Nat) : PP t 2 i 2 = some (25, i) := rfl
theorem pp_2_3 (t : Nat → Nat) (i : Nat) : PP t 2 i 3 = some (26, i) := rfl
theorem pp_2_4 (t : Nat → Nat) (i : Nat) : PP t 2 i 4 = some (27, i) := rfl
theorem pp_3_0 (t : Nat → Nat) (i : Nat) : PP t 3 i 0 = some (28, i) := rfl
theorem pp_3_1 (t : Nat → Nat) (i : Nat) : PP t 3 i 1 = some (29, i) := rfl
theorem pp_4_0 (t : Nat → Nat) (i : Nat) : PP t 4 i 0 = some (30, i) := rfl
theorem pp_5_0 (t : Nat → Nat) (i : Nat) : PP t 5 i 0 = some (31, i) := rfl
theorem pp_5_1 (t : Nat → Nat) (i : Nat) : PP t 5 i 1 = some (32, i) := rfl
theorem pp_5_2 (t : Nat → Nat) (i : Nat) : PP t 5 i 2 = some (33, i) := rfl
theorem pp_6_0 (t : Nat → Nat) (i : Nat) : PP t 6 i 0 = some (4, 6 + i) := rfl
theorem pp_7_0 (t : Nat → Nat) (i : Nat) : PP t 7 i 0 = some (34, i) := rfl
theorem pp_7_1 (t : Nat → Nat) (i : Nat) : PP t 7 i 1 = some (35, i) := rfl
theorem pp_7_2 (t : Nat → Nat) (i : Nat) : PP t 7 i 2 = some (36, i) := rfl
theorem pp_7_3 (t : Nat → Nat) (i : Nat) : PP t 7 i 3 = some (37, i) := rfl
theorem pp_8_0 (t : Nat → Nat) : PP t 8 0 0 = some (7, 0) := rfl
theorem pp_8_1 (t : Nat → Nat) : PP t 8 0 1 = some (38, 0) := rfl
theorem pp_8_2 (t : Nat → Nat) : PP t 8 0 2 = some (39, 0) := rfl
theorem pp_8_3 (t : Nat → Nat) : PP t 8 0 3 = some (5, t 10) := rfl
theorem pp_8_4 (t : Nat → Nat) : PP t 8 0 4 = some (2, t 4) := rfl
theorem pp_8_5 (t : Nat → Nat) : PP t 8 0 5 = some (9, t 9) := rfl
theorem pp_8_6 (t : Nat → Nat) : PP t 8 0 6 = some (5, t 11) := rfl
theorem pp_10_0 (t : Nat → Nat) (i : Nat) : PP t 10 i 0 = some (3, 20 + i) := rfl
theorem pp_10_1 (t : Nat → Nat) (i : Nat) : PP t 10 i 1 = some (4, 106 + i) := rfl
theorem pp_11_0 (t : Nat → Nat) (i : Nat) : PP t 11 i 0 = some (40, i) := rfl
theorem pp_11_1 (t : Nat → Nat) (i : Nat) : PP t 11 i 1 = some (41, i) := rfl
theorem pp_11_2 (t : Nat → Nat) (i : Nat) : PP t 11 i 2 = some (42, i) := rfl
theorem pp_11_3 (t : Nat → Nat) (i : Nat) : PP t 11 i 3 = some (8, 0) := rfl
theorem pp_11_4 (t : Nat → Nat) (i : Nat) : PP t 11 i 4 = some (43, i) := rfl
theorem pp_11_5 (t : Nat → Nat) (i : Nat) : PP t 11 i 5 = some (44, i) := rfl
theorem pp_11_6 (t : Nat → Nat) (i : Nat) : PP t 11 i 6 = some (45, i) := rfl
theorem pp_11_7 (t : Nat → Nat) (i : Nat) : PP t 11 i 7 = some (46, i) := rfl
theorem pp_11_8 (t : Nat → Nat) (i : Nat) : PP t 11 i 8 = some (47, i) := rfl
theorem pp_11_9 (t : Nat → Nat) (i : Nat) : PP t 11 i 9 = some (0, 0) := rfl
theorem pp_12_5 (t : Nat → Nat) (i : Nat) : PP t 12 i 5 = some (48, i) := rfl
theorem pp_12_6 (t : Nat → Nat) (i : Nat) : PP t 12 i 6 = some (49, i) := rfl
theorem pp_12_7 (t : Nat → Nat) (i : Nat) : PP t 12 i 7 = some (50, i) := rfl
theorem pp_12_8 (t : Nat → Nat) (i : Nat) : PP t 12 i 8 = some (51, i) := rfl
theorem pp_12_9 (t : Nat → Nat) (i : Nat) : PP t 12 i 9 = some (52, i) := rfl
theorem pp_12_10 (t : Nat → Nat) (i : Nat) : PP t 12 i 10 = some (53, i) := rfl
theorem pp_12_11 (t : Nat → Nat) (i : Nat) : PP t 12 i 11 = some (54, i) := rfl
theorem pp_12_13 (t : Nat → Nat) (i : Nat) : PP t 12 i 13 = some (55, i) := rfl
theorem pp_12_14 (t : Nat → Nat) (i : Nat) : PP t 12 i 14 = some (56, i) := rfl
theorem pp_12_15 (t : Nat → Nat) (i : Nat) : PP t 12 i 15 = some (57, i) := rfl
theorem pp_12_16 (t : Nat → Nat) (i : Nat) : PP t 12 i 16 = some (58, i) := rfl
theorem pp_12_17 (t : Nat → Nat) (i : Nat) : PP t 12 i 17 = some (59, i) := rfl
theorem pp_12_18 (t : Nat → Nat) (i : Nat) : PP t 12 i 18 = some (60, i) := rfl
theorem pp_12_19 (t : Nat → Nat) (i : Nat) : PP t 12 i 19 = some (61, i) := rfl
theorem pp_12_20 (t : Nat → Nat) (i : Nat) : PP t 12 i 20 = some (62, i) := rfl
theorem pp_12_21 (t : Nat → Nat) (i : Nat) : PP t 12 i 21 = some (63, i) := rfl
theorem pp_12_22 (t : Nat → Nat) (i : Nat) : PP t 12 i 22 = some (64, i) := rfl
theorem pp_12_23 (t : Nat → Nat) (i : Nat) : PP t 12 i 23 = some (65, i) := rfl
theorem pp_12_24 (t : Nat → Nat) (i : Nat) : PP t 12 i 24 = some (66, i) := rfl
theorem pp_12_25 (t : Nat → Nat) (i : Nat) : PP t 12 i 25 = some (67, i) := rfl
theorem pp_12_26 (t : Nat → Nat) (i : Nat) : PP t 12 i 26 = some (68, i) := rfl
theorem pp_12_27 (t : Nat → Nat) (i : Nat) : PP t 12 i 27 = some (69, i) := rfl
theorem pp_12_28 (t : Nat → Nat) (i : Nat) : PP t 12 i 28 = some (70, i) := rfl
theorem pp_12_29 (t : Nat → Nat) (i : Nat) : PP t 12 i 29 = some (71, i) := rfl
theorem pp_12_30 (t : Nat → Nat) (i : Nat) : PP t 12 i 30 = some (72, i) := rfl
theorem pp_12_31 (t : Nat → Nat) (i : Nat) : PP t 12 i 31 = some (73, i) := rfl
theorem pp_12_32 (t : Nat → Nat) (i : Nat) : PP t 12 i 32 = some (74, i) := rfl
theorem pp_12_51 (t : Nat → Nat) (i : Nat) : PP t 12 i 51 = some (75, i) := rfl
theorem pp_12_52 (t : Nat → Nat) (i : Nat) : PP t 12 i 52 = some (76, i) := rfl
theorem pp_12_53 (t : Nat → Nat) (i : Nat) : PP t 12 i 53 = some (77, i) := rfl
theorem pp_12_56 (t : Nat → Nat) (i : Nat) : PP t 12 i 56 = some (78, i) := rfl
theorem pp_12_57 (t : Nat → Nat) (i : Nat) : PP t 12 i 57 = some (79, i) := rfl
theorem pp_12_58 (t : Nat → Nat) (i : Nat) : PP t 12 i 58 = some (80, i) := rfl
theorem pp_12_59 (t : Nat → Nat) (i : Nat) : PP t 12 i 59 = some (81, i) := rfl
theorem pp_12_60 (t : Nat → Nat) (i : Nat) : PP t 12 i 60 = some (82, i) := rfl
theorem pp_12_61 (t : Nat → Nat) (i : Nat) : PP t 12 i 61 = some (83, i) := rfl
theorem pp_12_62 (t : Nat → Nat) (i : Nat) : PP t 12 i 62 = some (84, i) := rfl
theorem pp_12_63 (t : Nat → Nat) (i : Nat) : PP t 12 i 63 = some (85, i) := rfl
theorem pp_12_64 (t : Nat → Nat) (i : Nat) : PP t 12 i 64 = some (86, i) := rfl
theorem pp_12_65 (t : Nat → Nat) (i : Nat) : PP t 12 i 65 = some (87, i) := rfl
theorem pp_12_66 (t : Nat → Nat) (i : Nat) : PP t 12 i 66 = some (88, i) := rfl
theorem pp_12_67 (t : Nat → Nat) (i : Nat) : PP t 12 i 67 = some (89, i) := rfl
theorem pp_12_68 (t : Nat → Nat) (i : Nat) : PP t 12 i 68 = some (90, i) := rfl
theorem pp_12_69 (t : Nat → Nat) (i : Nat) : PP t 12 i 69 = some (91, i) := rfl
theorem pp_12_70 (t : Nat → Nat) (i : Nat) : PP t 12 i 70 = some (92, i) := rfl
theorem pp_12_71 (t : Nat → Nat) (i : Nat) : PP t 12 i 71 = some (93, i) := rfl
theorem pp_12_73 (t : Nat → Nat) (i : Nat) : PP t 12 i 73 = some (94, i) := rfl
theorem pp_12_74 (t : Nat → Nat) (i : Nat) : PP t 12 i 74 = some (95, i) := rfl
theorem pp_12_75 (t : Nat → Nat) (i : Nat) : PP t 12 i 75 = some (96, i) := rfl
theorem pp_12_76 (t : Nat → Nat) (i : Nat) : PP t 12 i 76 = some (97, i) := rfl
theorem pp_12_77 (t : Nat → Nat) (i : Nat) : PP t 12 i 77 = some (98, i) := rfl
theorem pp_12_78 (t : Nat → Nat) (i : Nat) : PP t 12 i 78 = some (99, i) := rfl
theorem pp_12_79 (t : Nat → Nat) (i : Nat) : PP t 12 i 79 = some (100, i) := rfl
theorem pp_12_80 (t : Nat → Nat) (i : Nat) : PP t 12 i 80 = some (101, i) := rfl
theorem pp_12_81 (t : Nat → Nat) (i : Nat) : PP t 12 i 81 = some (102, i) := rfl
theorem pp_12_82 (t : Nat → Nat) (i : Nat) : PP t 12 i 82 = some (103, i) := rfl
theorem pp_12_83 (t : Nat → Nat) (i : Nat) : PP t 12 i 83 = some (104, i) := rfl
theorem pp_12_84 (t : Nat → Nat) (i : Nat) : PP t 12 i 84 = some (105, i) := rfl
theorem pp_12_85 (t : Nat → Nat) (i : Nat) : PP t 12 i 85 = some (106, i) := rfl
theorem pp_12_86 (t : Nat → Nat) (i : Nat) : PP t 12 i 86 = some (107, i) := rfl
theorem pp_12_87 (t : Nat → Nat) (i : Nat) : PP t 12 i 87 = some (108, i) := rfl
theorem pp_12_88 (t : Nat → Nat) (i : Nat) : PP t 12 i 88 = some (109, i) := rfl
theorem pp_12_89 (t : Nat → Nat) (i : Nat) : PP t 12 i 89 = some (110, i) := rfl
theorem pp_12_90 (t : Nat → Nat) (i : Nat) : PP t 12 i 90 = some (111, i) := rfl
theorem pp_12_91 (t : Nat → Nat) (i : Nat) : PP t 12 i 91 = some (112, i) := rfl
theorem pp_12_92 (t : Nat → Nat) (i : Nat) : PP t 12 i 92 = some (113, i) := rfl
theorem pp_12_93 (t : Nat → Nat) (i : Nat) : PP t 12 i 93 = some (114, i) := rfl
theorem tn4 {x : Int} (h : 0 ≤ x ∧ x < 4) : x.toNat < 4 := by omega
theorem pa_21 (t : Nat → Nat) (i s : Nat) : PP t 21 i s = some (1, 120 + s) := rfl
theorem pa_38 (t : Nat → Nat) {s : Nat} (h : s < 4) : PP t 38 0 s = some (2, t s) := (show (if 0 = 0 ∧ s < 4 then some (2, t s) else none) = some (2, t s) from if_pos ⟨rfl, h⟩)
theorem pa_39 (t : Nat → Nat) {s : Nat} (h : s < 4) : PP t 39 0 s = some (9, t (5 + s)) := (show (if 0 = 0 ∧ s < 4 then some (9, t (5 + s)) else none) = some (9, t (5 + s)) from if_pos ⟨rfl, h⟩)
theorem pa_40 (t : Nat → Nat) (i s : Nat) : PP t 40 i s = some (1, s) := rfl
theorem pa_41 (t : Nat → Nat) (i s : Nat) : PP t 41 i s = some (115, s) := rfl
theorem pa_42 (t : Nat → Nat) (i s : Nat) : PP t 42 i s = some (4, s) := rfl
theorem pa_43 (t : Nat → Nat) (i s : Nat) : PP t 43 i s = some (3, s) := rfl
theorem pa_44 (t : Nat → Nat) (i s : Nat) : PP t 44 i s = some (6, s) := rfl
theorem pa_45 (t : Nat → Nat) (i s : Nat) : PP t 45 i s = some (10, s) := rfl
theorem sh_0 (i : Nat) : sh 0 i = .inl 0 := rfl
theorem sh_1 (i : Nat) : sh 1 i = .inl 1 := rfl
theorem sh_2 (i : Nat) : sh 2 i = .inl 2 := rfl
theorem sh_3 (i : Nat) : sh 3 i = .inl 3 := rfl
theorem sh_4 (i : Nat) : sh 4 i = .inl 4 := rfl
theorem sh_5 (i : Nat) : sh 5 i = .inl 5 := rfl
theorem sh_6 (i : Nat) : sh 6 i = .inl 6 := rfl
theorem sh_7 (i : Nat) : sh 7 i = .inl 7 := rfl
theorem sh_8 (i : Nat) : sh 8 i = .inl 8 := rfl
theorem sh_9 (i : Nat) : sh 9 i = .inl 9 := rfl
theorem sh_10 (i : Nat) : sh 10 i = .inl 10 := rfl
theorem sh_11 (i : Nat) : sh 11 i = .inl 11 := rfl
theorem sh_12 (i : Nat) : sh 12 i = .inl 12 := rfl
theorem sh_13 (i : Nat) : sh 13 i = .inr (0, 10) := rfl
theorem al_13 (i : Nat) : (alen 0 13 i : Int) = 10 := rfl
theorem sh_14 (i : Nat) : sh 14 i = .inr (0, 9) := rfl
theorem al_14 (i : Nat) : (alen 0 14 i : Int) = 9 := rfl
theorem sh_15 (i : Nat) : sh 15 i = .inr (0, 10) := rfl
theorem al_15 (i : Nat) : (alen 0 15 i : Int) = 10 := rfl
theorem sh_16 (i : Nat) : sh 16 i = .inr (0, 16) := rfl
theorem al_16 (i : Nat) : (alen 0 16 i : Int) = 16 := rfl
theorem sh_17 (i : Nat) : sh 17 i = .inr (0, 9) := rfl
theorem al_17 (i : Nat) : (alen 0 17 i : Int) = 9 := rfl
theorem sh_18 (i : Nat) : sh 18 i = .inr (0, 9) := rfl
theorem al_18 (i : Nat) : (alen 0 18 i : Int) = 9 := rfl
theorem sh_19 (i : Nat) : sh 19 i = .inr (1, 4) := rfl
theorem al_19 (i : Nat) : (alen 1 19 i : Int) = 4 := rfl
theorem sh_20 (i : Nat) : sh 20 i = .inr (1, 4) := rfl
theorem al_20 (i : Nat) : (alen 1 20 i : Int) = 4 := rfl
theorem sh_21 (i : Nat) : sh 21 i = .inr (11, 9) := rfl
theorem al_21 (i : Nat) : (alen 11 21 i : Int) = 9 := rfl
theorem sh_22 (i : Nat) : sh 22 i = .inr (0, 16) := rfl
theorem al_22 (i : Nat) : (alen 0 22 i : Int) = 16 := rfl
theorem sh_23 (i : Nat) : sh 23 i = .inr (0, 400) := rfl
theorem al_23 (i : Nat) : (alen 0 23 i : Int) = 400 := rfl
theorem sh_24 (i : Nat) : sh 24 i = .inr (0, 400) := rfl
theorem al_24 (i : Nat) : (alen 0 24 i : Int) = 400 := rfl
theorem sh_25 (i : Nat) : sh 25 i = .inr (0, 8) := rfl
theorem al_25 (i : Nat) : (alen 0 25 i : Int) = 8 := rfl
theorem sh_26 (i : Nat) : sh 26 i = .inr (0, 8) := rfl
theorem al_26 (i : Nat) : (alen 0 26 i : Int) = 8 := rfl
theorem sh_27 (i : Nat) : sh 27 i = .inr (0, 24) := rfl
theorem al_27 (i : Nat) : (alen 0 27 i : Int) = 24 := rfl
theorem sh_28 (i : Nat) : sh 28 i = .inr (0, 16) := rfl
theorem al_28 (i : Nat) : (alen 0 28 i : Int) = 16 := rfl
theorem sh_29 (i : Nat) : sh 29 i = .inr (0, 16) := rfl
theorem al_29 (i : Nat) : (alen 0 29 i : Int) = 16 := rfl
theorem sh_30 (i : Nat) : sh 30 i = .inr (0, 9) := rfl
theorem al_30 (i : Nat) : (alen 0 30 i : Int) = 9 := rfl
theorem sh_31 (i : Nat) : sh 31 i = .inr (0, 12) := rfl
theorem al_31 (i : Nat) : (alen 0 31 i : Int) = 12 := rfl
theorem sh_32 (i : Nat) : sh 32 i = .inr (0, 12) := rfl
theorem al_32 (i : Nat) : (alen 0 32 i : Int) = 12 := rfl
theorem sh_33 (i : Nat) : sh 33 i = .inr (0, 12) := rfl
theorem al_33 (i : Nat) : (alen 0 33 i : Int) = 12 := rfl
theorem sh_34 (i : Nat) : sh 34 i = .inr (0, 400) := rfl
theorem al_34 (i : Nat) : (alen 0 34 i : Int) = 400 := rfl
theorem sh_35 (i : Nat) : sh 35 i = .inr (0, 401) := rfl
theorem al_35 (i : Nat) : (alen 0 35 i : Int) = 401 := rfl
theorem sh_36 (i : Nat) : sh 36 i = .inr (0, 401) := rfl
theorem al_36 (i : Nat) : (alen 0 36 i : Int) = 401 := rfl
theorem sh_37 (i : Nat) : sh 37 i = .inr (0, 401) := rfl
theorem al_37 (i : Nat) : (alen 0 37 i : Int) = 401 := rfl
theorem sh_38 (i : Nat) : sh 38 i = .inr (12, 4) := rfl
theorem al_38 (i : Nat) : (alen 12 38 i : Int) = 4 := rfl
theorem sh_39 (i : Nat) : sh 39 i = .inr (19, 4) := rfl
theorem al_39 (i : Nat) : (alen 19 39 i : Int) = 4 := rfl
theorem sh_40 (i : Nat) : sh 40 i = .inr (11, 120) := rfl
theorem al_40 (i : Nat) : (alen 11 40 i : Int) = 120 := rfl
theorem sh_41 (i : Nat) : sh 41 i = .inr (9, 6) := rfl
theorem al_41 (i : Nat) : (alen 9 41 i : Int) = 6 := rfl
theorem sh_42 (i : Nat) : sh 42 i = .inr (14, 6) := rfl
theorem al_42 (i : Nat) : (alen 14 42 i : Int) = 6 := rfl
theorem sh_43 (i : Nat) : sh 43 i = .inr (13, 20) := rfl
theorem al_43 (i : Nat) : (alen 13 43 i : Int) = 20 := rfl
theorem sh_44 (i : Nat) : sh 44 i = .inr (16, 100) := rfl
theorem al_44 (i : Nat) : (alen 16 44 i : Int) = 100 := rfl
theorem sh_45 (i : Nat) : sh 45 i = .inr (20, 40) := rfl
theorem al_45 (i : Nat) : (alen 20 45 i : Int) = 40 := rfl
theorem sh_46 (i : Nat) : sh 46 i = .inr (0, 220) := rfl
theorem al_46 (i : Nat) : (alen 0 46 i : Int) = 220 := rfl
theorem sh_47 (i : Nat) : sh 47 i = .inr (0, 220) := rfl
theorem al_47 (i : Nat) : (alen 0 47 i : Int) = 220 := rfl
theorem sh_48 (i : Nat) : sh 48 i = .inr (0, 2112) := rfl
theorem al_48 (i : Nat) : (alen 0 48 i : Int) = 2112 := rfl
theorem sh_49 (i : Nat) : sh 49 i = .inr (0, 132) := rfl
theorem al_49 (i : Nat) : (alen 0 49 i : Int) = 132 := rfl
theorem sh_50 (i : Nat) : sh 50 i = .inr (0, 120) := rfl
theorem al_50 (i : Nat) : (alen 0 50 i : Int) = 120 := rfl
theorem sh_51 (i : Nat) : sh 51 i = .inr (0, 96) := rfl
theorem al_51 (i : Nat) : (alen 0 51 i : Int) = 96 := rfl
theorem sh_52 (i : Nat) : sh 52 i = .inr (0, 54) := rfl
theorem al_52 (i : Nat) : (alen 0 52 i : Int) = 54 := rfl
theorem sh_53 (i : Nat) : sh 53 i = .inr (0, 6) := rfl
theorem al_53 (i : Nat) : (alen 0 53 i : Int) = 6 := rfl
theorem sh_54 (i : Nat) : sh 54 i = .inr (0, 9) := rfl
theorem al_54 (i : Nat) : (alen 0 54 i : Int) = 9 := rfl
theorem sh_55 (i : Nat) : sh 55 i = .inr (0, 3200) := rfl
theorem al_55 (i : Nat) : (alen 0 55 i : Int) = 3200 := rfl
theorem sh_56 (i : Nat) : sh 56 i = .inr (0, 32) := rfl
theorem al_56 (i : Nat) : (alen 0 56 i : Int) = 32 := rfl
theorem sh_57 (i : Nat) : sh 57 i = .inr (0, 32) := rfl
theorem al_57 (i : Nat) : (alen 0 57 i : Int) = 32 := rfl
theorem sh_58 (i : Nat) : sh 58 i = .inr (0, 4) := rfl
theorem al_58 (i : Nat) : (alen 0 58 i : Int) = 4 := rfl
theorem sh_59 (i : Nat) : sh 59 i = .inr (0, 800) := rfl
theorem al_59 (i : Nat) : (alen 0 59 i : Int) = 800 := rfl
theorem sh_60 (i : Nat) : sh 60 i = .inr (0, 8) := rfl
theorem al_60 (i : Nat) : (alen 0 60 i : Int) = 8 := rfl
theorem sh_61 (i : Nat) : sh 61 i = .inr (0, 8) := rfl
theorem al_61 (i : Nat) : (alen 0 61 i : Int) = 8 := rfl
theorem sh_62 (i : Nat) : sh 62 i = .inr (0, 400) := rfl
theorem al_62 (i : Nat) : (alen 0 62 i : Int) = 400 := rfl
theorem sh_63 (i : Nat) : sh 63 i = .inr (0, 420) := rfl
theorem al_63 (i : Nat) : (alen 0 63 i : Int) = 420 := rfl
theorem sh_64 (i : Nat) : sh 64 i = .inr (0, 12) := rfl
theorem al_64 (i : Nat) : (alen 0 64 i : Int) = 12 := rfl
theorem sh_65 (i : Nat) : sh 65 i = .inr (0, 12) := rfl
theorem al_65 (i : Nat) : (alen 0 65 i : Int) = 12 := rfl
theorem sh_66 (i : Nat) : sh 66 i = .inr (0, 12) := rfl
theorem al_66 (i : Nat) : (alen 0 66 i : Int) = 12 := rfl
theorem sh_67 (i : Nat) : sh 67 i = .inr (0, 12) := rfl
theorem al_67 (i : Nat) : (alen 0 67 i : Int) = 12 := rfl
theorem sh_68 (i : Nat) : sh 68 i = .inr (0, 12) := rfl
theorem al_68 (i : Nat) : (alen 0 68 i : Int) = 12 := rfl
theorem sh_69 (i : Nat) : sh 69 i = .inr (0, 12) := rfl
theorem al_69 (i : Nat) : (alen 0 69 i : Int) = 12 := rfl
theorem sh_70 (i : Nat) : sh 70 i = .inr (2, 4) := rfl
theorem al_70 (i : Nat) : (alen 2 70 i : Int) = 4 := rfl
theorem sh_71 (i : Nat) : sh 71 i = .inr (2, 4) := rfl
theorem al_71 (i : Nat) : (alen 2 71 i : Int) = 4 := rfl
theorem sh_72 (i : Nat) : sh 72 i = .inr (0, 4) := rfl
theorem al_72 (i : Nat) : (alen 0 72 i : Int) = 4 := rfl
theorem sh_73 (i : Nat) : sh 73 i = .inr (0, 4) := rfl
theorem al_73 (i : Nat) : (alen 0 73 i : Int) = 4 := rfl
theorem sh_74 (i : Nat) : sh 74 i = .inr (0, 4) := rfl
theorem al_74 (i : Nat) : (alen 0 74 i : Int) = 4 := rfl
theorem sh_75 (i : Nat) : sh 75 i = .inr (0, 11) := rfl
theorem al_75 (i : Nat) : (alen 0 75 i : Int) = 11 := rfl
theorem sh_76 (i : Nat) : sh 76 i = .inr (0, 16) := rfl
theorem al_76 (i : Nat) : (alen 0 76 i : Int) = 16 := rfl
theorem sh_77 (i : Nat) : sh 77 i = .inr (0, 16) := rfl
theorem al_77 (i : Nat) : (alen 0 77 i : Int) = 16 := rfl
theorem sh_78 (i : Nat) : sh 78 i = .inr (0, 10) := rfl
theorem al_78 (i : Nat) : (alen 0 78 i : Int) = 10 := rfl
theorem sh_79 (i : Nat) : sh 79 i = .inr (0, 9) := rfl
theorem al_79 (i : Nat) : (alen 0 79 i : Int) = 9 := rfl
theorem sh_80 (i : Nat) : sh 80 i = .inr (0, 20) := rfl
theorem al_80 (i : Nat) : (alen 0 80 i : Int) = 20 := rfl
theorem sh_81 (i : Nat) : sh 81 i = .inr (0, 20) := rfl
theorem al_81 (i : Nat) : (alen 0 81 i : Int) = 20 := rfl
theorem sh_82 (i : Nat) : sh 82 i = .inr (0, 20) := rfl
theorem al_82 (i : Nat) : (alen 0 82 i : Int) = 20 := rfl
theorem sh_83 (i : Nat) : sh 83 i = .inr (0, 20) := rfl
theorem al_83 (i : Nat) : (alen 0 83 i : Int) = 20 := rfl
theorem sh_84 (i : Nat) : sh 84 i = .inr (0, 20) := rfl
theorem al_84 (i : Nat) : (alen 0 84 i : Int) = 20 := rfl
theorem sh_85 (i : Nat) : sh 85 i = .inr (0, 20) := rfl
theorem al_85 (i : Nat) : (alen 0 85 i : Int) = 20 := rfl
theorem sh_86 (i : Nat) : sh 86 i = .inr (0, 20) := rfl
theorem al_86 (i : Nat) : (alen 0 86 i : Int) = 20 := rfl
theorem sh_87 (i : Nat) : sh 87 i = .inr (0, 20) := rfl
theorem al_87 (i : Nat) : (alen 0 87 i : Int) = 20 := rfl
theorem sh_88 (i : Nat) : sh 88 i = .inr (0, 320) := rfl
theorem al_88 (i : Nat) : (alen 0 88 i : Int) = 320 := rfl
theorem sh_89 (i : Nat) : sh 89 i = .inr (0, 320) := rfl
theorem al_89 (i : Nat) : (alen 0 89 i : Int) = 320 := rfl
theorem sh_90 (i : Nat) : sh 90 i = .inr (0, 1900) := rfl
theorem al_90 (i : Nat) : (alen 0 90 i : Int) = 1900 := rfl
theorem sh_91 (i : Nat) : sh 91 i = .inr (0, 1900) := rfl
theorem al_91 (i : Nat) : (alen 0 91 i : Int) = 1900 := rfl
theorem sh_92 (i : Nat) : sh 92 i = .inr (0, 1900) := rfl
theorem al_92 (i : Nat) : (alen 0 92 i : Int) = 1900 := rfl
theorem sh_93 (i : Nat) : sh 93 i = .inr (0, 20) := rfl
theorem al_93 (i : Nat) : (alen 0 93 i : Int) = 20 := rfl
theorem sh_94 (i : Nat) : sh 94 i = .inr (0, 100) := rfl
theorem al_94 (i : Nat) : (alen 0 94 i : Int) = 100 := rfl
theorem sh_95 (i : Nat) : sh 95 i = .inr (0, 100) := rfl
theorem al_95 (i : Nat) : (alen 0 95 i : Int) = 100 := rfl
theorem sh_96 (i : Nat) : sh 96 i = .inr (0, 100) := rfl
theorem al_96 (i : Nat) : (alen 0 96 i : Int) = 100 := rfl
theorem sh_97 (i : Nat) : sh 97 i = .inr (0, 100) := rfl
theorem al_97 (i : Nat) : (alen 0 97 i : Int) = 100 := rfl
theorem sh_98 (i : Nat) : sh 98 i = .inr (0, 100) := rfl
theorem al_98 (i : Nat) : (alen 0 98 i : Int) = 100 := rfl
theorem sh_99 (i : Nat) : sh 99 i = .inr (0, 100) := rfl
theorem al_99 (i : Nat) : (alen 0 99 i : Int) = 100 := rfl
theorem sh_100 (i : Nat) : sh 100 i = .inr (0, 100) := rfl
theorem al_100 (i : Nat) : (alen 0 100 i : Int) = 100 := rfl
theorem sh_101 (i : Nat) : sh 101 i = .inr (0, 100) := rfl
theorem al_101 (i : Nat) : (alen 0 101 i : Int) = 100 := rfl
theorem sh_102 (i : Nat) : sh 102 i = .inr (0, 900) := rfl
theorem al_102 (i : Nat) : (alen 0 102 i : Int) = 900 := rfl
theorem sh_103 (i : Nat) : sh 103 i = .inr (0, 100) := rfl
theorem al_103 (i : Nat) : (alen 0 103 i : Int) = 100 := rfl
theorem sh_104 (i : Nat) : sh 104 i = .inr (0, 16) := rfl
theorem al_104 (i : Nat) : (alen 0 104 i : Int) = 16 := rfl
theorem sh_105 (i : Nat) : sh 105 i = .inr (0, 40) := rfl
theorem al_105 (i : Nat) : (alen 0 105 i : Int) = 40 := rfl
theorem sh_106 (i : Nat) : sh 106 i = .inr (0, 40) := rfl
theorem al_106 (i : Nat) : (alen 0 106 i : Int) = 40 := rfl
theorem sh_107 (i : Nat) : sh 107 i = .inr (0, 40) := rfl
theorem al_107 (i : Nat) : (alen 0 107 i : Int) = 40 := rfl
theorem sh_108 (i : Nat) : sh 108 i = .inr (0, 40) := rfl
theorem al_108 (i : Nat) : (alen 0 108 i : Int) = 40 := rfl
theorem sh_109 (i : Nat) : sh 109 i = .inr (0, 40) := rfl
theorem al_109 (i : Nat) : (alen 0 109 i : Int) = 40 := rfl
theorem sh_110 (i : Nat) : sh 110 i = .inr (0, 40) := rfl
theorem al_110 (i : Nat) : (alen 0 110 i : Int) = 40 := rfl
theorem sh_111 (i : Nat) : sh 111 i = .inr (0, 40) := rfl
theorem al_111 (i : Nat) : (alen 0 111 i : Int) = 40 := rfl
theorem sh_112 (i : Nat) : sh 112 i = .inr (0, 360) := rfl
theorem al_112 (i : Nat) : (alen 0 112 i : Int) = 360 := rfl
theorem sh_113 (i : Nat) : sh 113 i = .inr (0, 40) := rfl
theorem al_113 (i : Nat) : (alen 0 113 i : Int) = 40 := rfl
theorem sh_114 (i : Nat) : sh 114 i = .inr (0, 40) := rfl
theorem al_114 (i : Nat) : (alen 0 114 i : Int) = 40 := rfl
theorem sh_115 (i : Nat) : sh 115 i = .inr (0, 16) := rfl
theorem al_115 (i : Nat) : (alen 0 115 i : Int) = 16 := rfl
theorem sh_116 (i : Nat) : sh 116 i = .inr (0, 8) := rfl
theorem al_116 (i : Nat) : (alen 0 116 i : Int) = 8 := rfl
theorem sh_117 (i : Nat) : sh 117 i = .inr (7, 0) := rfl
theorem ae_21 (i : Nat) : 9 ≤ aek 21 i ∧ aek 21 i < 23 := ⟨by show 9 ≤ 11; decide, by show 11 < 23; decide⟩
theorem aq_21 (i : Nat) : (alen (aek 21 i) 21 i : Int) = 9 := rfl
theorem ae_38 (i : Nat) : 9 ≤ aek 38 i ∧ aek 38 i < 23 := ⟨by show 9 ≤ 12; decide, by show 12 < 23; decide⟩
theorem aq_38 (i : Nat) : (alen (aek 38 i) 38 i : Int) = 4 := rfl
theorem ae_39 (i : Nat) : 9 ≤ aek 39 i ∧ aek 39 i < 23 := ⟨by show 9 ≤ 19; decide, by show 19 < 23; decide⟩
theorem aq_39 (i : Nat) : (alen (aek 39 i) 39 i : Int) = 4 := rfl
theorem ae_40 (i : Nat) : 9 ≤ aek 40 i ∧ aek 40 i < 23 := ⟨by show 9 ≤ 11; decide, by show 11 < 23; decide⟩
theorem aq_40 (i : Nat) : (alen (aek 40 i) 40 i : Int) = 120 := rfl
theorem ae_41 (i : Nat) : 9 ≤ aek 41 i ∧ aek 41 i < 23 := ⟨by show 9 ≤ 9; decide, by show 9 < 23; decide⟩
theorem aq_41 (i : Nat) : (alen (aek 41 i) 41 i : Int) = 6 := rfl
theorem ae_42 (i : Nat) : 9 ≤ aek 42 i ∧ aek 42 i < 23 := ⟨by show 9 ≤ 14; decide, by show 14 < 23; decide⟩
theorem aq_42 (i : Nat) : (alen (aek 42 i) 42 i : Int) = 6 := rfl
theorem ae_43 (i : Nat) : 9 ≤ aek 43 i ∧ aek 43 i < 23 := ⟨by show 9 ≤ 13; decide, by show 13 < 23; decide⟩
theorem aq_43 (i : Nat) : (alen (aek 43 i) 43 i : Int) = 20 := rfl
theorem ae_44 (i : Nat) : 9 ≤ aek 44 i ∧ aek 44 i < 23 := ⟨by show 9 ≤ 16; decide, by show 16 < 23; decide⟩
theorem aq_44 (i : Nat) : (alen (aek 44 i) 44 i : Int) = 100 := rfl
theorem ae_45 (i : Nat) : 9 ≤ aek 45 i ∧ aek 45 i < 23 := ⟨by show 9 ≤ 20; decide, by show 20 < 23; decide⟩
theorem aq_45 (i : Nat) : (alen (aek 45 i) 45 i : Int) = 40 := rfl
theorem al_118 (i : Nat) : (alen 0 118 i : Int) = (i : Int) := rfl
theorem f_0_9 : fldR 0 9 = some (0, 0, 0, 282) := rfl
theorem f_0_15 : fldR 0 15 = some (0, 1, 0, 284) := rfl
theorem f_0_18 : fldR 0 18 = some (0, 2, 0, 286) := rfl
theorem f_0_21 : fldR 0 21 = some (0, 3, 0, 287) := rfl
theorem f_0_24 : fldR 0 24 = some (0, 4, 0, 289) := rfl
theorem f_0_27 : fldR 0 27 = some (0, 5, 0, 291) := rfl
theorem f_0_30 : fldR 0 30 = some (0, 6, 0, 293) := rfl
theorem f_0_34 : fldR 0 34 = some (0, 7, 0, 295) := rfl
theorem f_0_40 : fldR 0 40 = some (0, 8, 0, 297) := rfl
theorem f_0_46 : fldR 0 46 = some (0, 9, 0, 299) := rfl
theorem f_0_51 : fldR 0 51 = some (0, 10, 0, 301) := rfl
theorem f_0_55 : fldR 0 55 = some (0, 11, 0, 302) := rfl
theorem f_0_73 : fldR 0 73 = some (1, 0, 1, 270) := rfl
theorem f_1_9 : fldR 1 9 = some (1, 0, 0, 268) := rfl
theorem f_1_15 : fldR 1 15 = some (1, 2, 0, 273) := rfl
theorem f_1_19 : fldR 1 19 = some (1, 1, 0, 272) := rfl
theorem f_2_9 : fldR 2 9 = some (2, 0, 0, 125) := rfl
theorem f_2_15 : fldR 2 15 = some (2, 1, 0, 126) := rfl
theorem f_2_18 : fldR 2 18 = some (2, 2, 0, 127) := rfl
theorem f_2_21 : fldR 2 21 = some (2, 3, 0, 128) := rfl
theorem f_2_24 : fldR 2 24 = some (2, 4, 0, 129) := rfl
theorem f_2_27 : fldR 2 27 = some (2, 5, 0, 130) := rfl
theorem f_2_31 : fldR 2 31 = some (2, 6, 0, 131) := rfl
theorem f_3_9 : fldR 3 9 = some (3, 0, 0, 218) := rfl
theorem f_3_15 : fldR 3 15 = some (3, 1, 0, 220) := rfl
theorem f_3_18 : fldR 3 18 = some (3, 2, 0, 222) := rfl
theorem f_3_22 : fldR 3 22 = some (3, 3, 0, 224) := rfl
theorem f_3_25 : fldR 3 25 = some (3, 4, 0, 227) := rfl
theorem f_3_28 : fldR 3 28 = some (3, 5, 0, 229) := rfl
theorem f_3_31 : fldR 3 31 = some (3, 6, 0, 231) := rfl
theorem f_3_34 : fldR 3 34 = some (3, 7, 0, 233) := rfl
theorem f_4_9 : fldR 4 9 = some (4, 0, 0, 337) := rfl
theorem f_4_15 : fldR 4 15 = some (4, 1, 0, 339) := rfl
theorem f_5_11 : fldR 5 11 = some (5, 0, 0, 105) := rfl
theorem f_5_15 : fldR 5 15 = some (5, 1, 0, 106) := rfl
theorem f_5_18 : fldR 5 18 = some (5, 2, 0, 107) := rfl
theorem f_5_25 : fldR 5 25 = some (5, 3, 0, 108) := rfl
theorem f_6_10 : fldR 6 10 = some (6, 0, 0, 354) := rfl
theorem f_7_9 : fldR 7 9 = some (7, 0, 0, 48) := rfl
theorem f_7_15 : fldR 7 15 = some (7, 1, 0, 49) := rfl
theorem f_7_18 : fldR 7 18 = some (7, 2, 0, 50) := rfl
theorem f_7_21 : fldR 7 21 = some (7, 3, 0, 51) := rfl
theorem f_7_24 : fldR 7 24 = some (7, 12, 0, 65) := rfl
theorem f_7_28 : fldR 7 28 = some (7, 4, 0, 52) := rfl
theorem f_7_31 : fldR 7 31 = some (7, 11, 0, 63) := rfl
theorem f_7_34 : fldR 7 34 = some (7, 9, 0, 60) := rfl
theorem f_7_37 : fldR 7 37 = some (7, 7, 0, 57) := rfl
theorem f_7_40 : fldR 7 40 = some (7, 6, 0, 56) := rfl
theorem f_7_43 : fldR 7 43 = some (7, 8, 0, 58) := rfl
theorem f_7_46 : fldR 7 46 = some (7, 10, 0, 61) := rfl
theorem f_7_49 : fldR 7 49 = some (7, 5, 0, 55) := rfl
theorem f_8_12 : fldR 8 12 = some (8, 0, 0, 174) := rfl
theorem f_8_20 : fldR 8 20 = some (8, 1, 0, 176) := rfl
theorem f_8_26 : fldR 8 26 = some (8, 2, 0, 178) := rfl
theorem f_8_33 : fldR 8 33 = some (8, 3, 0, 180) := rfl
theorem f_8_38 : fldR 8 38 = some (8, 4, 0, 182) := rfl
theorem f_8_43 : fldR 8 43 = some (8, 5, 0, 183) := rfl
theorem f_8_47 : fldR 8 47 = some (8, 6, 0, 184) := rfl
theorem f_8_81 : fldR 8 81 = some (7, 4, 1, 53) := rfl
theorem f_8_85 : fldR 8 85 = some (2, 6, 1, 132) := rfl
theorem f_8_88 : fldR 8 88 = some (5, 3, 1, 109) := rfl
theorem f_8_89 : fldR 8 89 = some (9, 4, 1, 162) := rfl
theorem f_8_93 : fldR 8 93 = some (7, 8, 1, 59) := rfl
theorem f_8_132 : fldR 8 132 = some (7, 10, 1, 62) := rfl
theorem f_9_9 : fldR 9 9 = some (9, 2, 0, 157) := rfl
theorem f_9_15 : fldR 9 15 = some (9, 3, 0, 159) := rfl
theorem f_9_18 : fldR 9 18 = some (9, 0, 0, 153) := rfl
theorem f_9_22 : fldR 9 22 = some (9, 1, 0, 155) := rfl
theorem f_9_25 : fldR 9 25 = some (9, 4, 0, 161) := rfl
theorem f_10_12 : fldR 10 12 = some (10, 0, 0, 392) := rfl
theorem f_10_21 : fldR 10 21 = some (10, 1, 0, 394) := rfl
theorem f_10_25 : fldR 10 25 = some (3, 4, 1, 226) := rfl
theorem f_10_29 : fldR 10 29 = some (10, 3, 0, 397) := rfl
theorem f_11_11 : fldR 11 11 = some (11, 0, 0, 408) := rfl
theorem f_11_17 : fldR 11 17 = some (11, 1, 0, 409) := rfl
theorem f_11_22 : fldR 11 22 = some (11, 2, 0, 410) := rfl
theorem f_11_29 : fldR 11 29 = some (11, 3, 0, 411) := rfl
theorem f_11_35 : fldR 11 35 = some (11, 4, 0, 412) := rfl
theorem f_11_41 : fldR 11 41 = some (11, 5, 0, 413) := rfl
theorem f_11_47 : fldR 11 47 = some (11, 6, 0, 414) := rfl
theorem f_11_51 : fldR 11 51 = some (11, 7, 0, 415) := rfl
theorem f_11_55 : fldR 11 55 = some (11, 8, 0, 416) := rfl
theorem f_11_61 : fldR 11 61 = some (11, 9, 0, 417) := rfl
theorem f_11_80 : fldR 11 80 = some (11, 10, 0, 418) := rfl
theorem f_11_84 : fldR 11 84 = some (1, 1, 1, 271) := rfl
theorem f_11_87 : fldR 11 87 = some (1, 2, 1, 274) := rfl
theorem f_11_98 : fldR 11 98 = some (1, 0, 1, 269) := rfl
theorem f_11_110 : fldR 11 110 = some (4, 1, 1, 340) := rfl
theorem f_11_113 : fldR 11 113 = some (4, 0, 1, 338) := rfl
theorem f_11_116 : fldR 11 116 = some (8, 0, 1, 175) := rfl
theorem f_11_120 : fldR 11 120 = some (7, 4, 1, 54) := rfl
theorem f_11_131 : fldR 11 131 = some (7, 11, 1, 64) := rfl
theorem f_11_134 : fldR 11 134 = some (7, 12, 1, 66) := rfl
theorem f_11_137 : fldR 11 137 = some (11, 16, 0, 424) := rfl
theorem f_11_140 : fldR 11 140 = some (11, 12, 0, 420) := rfl
theorem f_11_155 : fldR 11 155 = some (3, 9, 1, 236) := rfl
theorem f_11_169 : fldR 11 169 = some (3, 0, 1, 219) := rfl
theorem f_11_191 : fldR 11 191 = some (11, 13, 0, 421) := rfl
theorem f_11_197 : fldR 11 197 = some (6, 1, 1, 356) := rfl
theorem f_11_200 : fldR 11 200 = some (6, 2, 1, 357) := rfl
theorem f_11_203 : fldR 11 203 = some (6, 3, 1, 358) := rfl
theorem f_11_206 : fldR 11 206 = some (6, 0, 1, 355) := rfl
theorem f_11_214 : fldR 11 214 = some (6, 4, 1, 359) := rfl
theorem f_11_217 : fldR 11 217 = some (6, 5, 1, 360) := rfl
theorem f_11_220 : fldR 11 220 = some (6, 6, 1, 361) := rfl
theorem f_11_227 : fldR 11 227 = some (6, 7, 1, 362) := rfl
theorem f_11_234 : fldR 11 234 = some (6, 8, 1, 363) := rfl
theorem f_11_250 : fldR 11 250 = some (3, 8, 1, 235) := rfl
theorem f_11_266 : fldR 11 266 = some (3, 4, 1, 228) := rfl
theorem f_11_269 : fldR 11 269 = some (0, 3, 1, 288) := rfl
theorem f_11_279 : fldR 11 279 = some (11, 11, 0, 419) := rfl
theorem f_11_297 : fldR 11 297 = some (0, 9, 1, 300) := rfl
theorem f_11_304 : fldR 11 304 = some (8, 3, 1, 181) := rfl
theorem f_11_335 : fldR 11 335 = some (11, 14, 0, 422) := rfl
theorem f_11_338 : fldR 11 338 = some (10, 0, 1, 393) := rfl
theorem f_11_342 : fldR 11 342 = some (10, 2, 1, 396) := rfl
theorem f_11_345 : fldR 11 345 = some (10, 1, 1, 395) := rfl
theorem f_11_346 : fldR 11 346 = some (10, 3, 1, 398) := rfl
theorem f_11_349 : fldR 11 349 = some (8, 2, 1, 179) := rfl
theorem f_11_366 : fldR 11 366 = some (0, 6, 1, 294) := rfl
theorem f_11_370 : fldR 11 370 = some (0, 7, 1, 296) := rfl
theorem f_11_399 : fldR 11 399 = some (5, 3, 1, 110) := rfl
theorem f_11_402 : fldR 11 402 = some (0, 0, 1, 283) := rfl
theorem f_11_405 : fldR 11 405 = some (3, 5, 1, 230) := rfl
theorem f_11_408 : fldR 11 408 = some (3, 6, 1, 232) := rfl
theorem f_11_411 : fldR 11 411 = some (3, 7, 1, 234) := rfl
theorem f_11_414 : fldR 11 414 = some (3, 10, 1, 237) := rfl
theorem f_11_421 : fldR 11 421 = some (3, 3, 1, 225) := rfl
theorem f_11_426 : fldR 11 426 = some (8, 1, 1, 177) := rfl
theorem f_11_430 : fldR 11 430 = some (3, 2, 1, 223) := rfl
theorem f_11_447 : fldR 11 447 = some (3, 1, 1, 221) := rfl
theorem f_11_456 : fldR 11 456 = some (0, 1, 1, 285) := rfl
theorem f_11_463 : fldR 11 463 = some (0, 4, 1, 290) := rfl
theorem f_11_466 : fldR 11 466 = some (0, 5, 1, 292) := rfl
theorem f_11_472 : fldR 11 472 = some (0, 8, 1, 298) := rfl
theorem f_11_476 : fldR 11 476 = some (9, 3, 1, 160) := rfl
theorem f_11_481 : fldR 11 481 = some (9, 2, 1, 158) := rfl
theorem f_11_482 : fldR 11 482 = some (9, 0, 1, 154) := rfl
theorem f_11_489 : fldR 11 489 = some (9, 1, 1, 156) := rfl
theorem f_11_496 : fldR 11 496 = some (11, 15, 0, 423) := rfl
theorem f_12_7 : fldR 12 7 = some (12, 5, 0, 1115) := rfl
theorem f_12_13 : fldR 12 13 = some (12, 6, 0, 1116) := rfl
theorem f_12_16 : fldR 12 16 = some (12, 7, 0, 1117) := rfl
theorem f_12_19 : fldR 12 19 = some (12, 8, 0, 1118) := rfl
theorem f_12_22 : fldR 12 22 = some (12, 9, 0, 1119) := rfl
theorem f_12_25 : fldR 12 25 = some (12, 10, 0, 1120) := rfl
theorem f_12_28 : fldR 12 28 = some (12, 11, 0, 1121) := rfl
theorem f_12_31 : fldR 12 31 = some (12, 13, 0, 1123) := rfl
theorem f_12_34 : fldR 12 34 = some (12, 14, 0, 1124) := rfl
theorem f_12_37 : fldR 12 37 = some (12, 15, 0, 1125) := rfl
theorem f_12_40 : fldR 12 40 = some (12, 16, 0, 1126) := rfl
theorem f_12_43 : fldR 12 43 = some (12, 17, 0, 1127) := rfl
theorem f_12_46 : fldR 12 46 = some (12, 18, 0, 1128) := rfl
theorem f_12_49 : fldR 12 49 = some (12, 19, 0, 1129) := rfl
theorem f_12_52 : fldR 12 52 = some (12, 20, 0, 1130) := rfl
theorem f_12_55 : fldR 12 55 = some (12, 21, 0, 1131) := rfl
theorem f_12_58 : fldR 12 58 = some (12, 22, 0, 1132) := rfl
theorem f_12_61 : fldR 12 61 = some (12, 23, 0, 1133) := rfl
theorem f_12_64 : fldR 12 64 = some (12, 24, 0, 1134) := rfl
theorem f_12_67 : fldR 12 67 = some (12, 25, 0, 1135) := rfl
theorem f_12_70 : fldR 12 70 = some (12, 26, 0, 1136) := rfl
theorem f_12_73 : fldR 12 73 = some (12, 27, 0, 1137) := rfl
theorem f_12_76 : fldR 12 76 = some (12, 28, 0, 1138) := rfl
theorem f_12_80 : fldR 12 80 = some (12, 29, 0, 1139) := rfl
theorem f_12_83 : fldR 12 83 = some (12, 30, 0, 1140) := rfl
theorem f_12_86 : fldR 12 86 = some (12, 31, 0, 1141) := rfl
theorem f_12_89 : fldR 12 89 = some (12, 32, 0, 1142) := rfl
theorem f_12_92 : fldR 12 92 = some (12, 50, 0, 1160) := rfl
theorem f_12_96 : fldR 12 96 = some (12, 51, 0, 1161) := rfl
theorem f_12_99 : fldR 12 99 = some (12, 52, 0, 1162) := rfl
theorem f_12_102 : fldR 12 102 = some (12, 53, 0, 1163) := rfl
theorem f_12_105 : fldR 12 105 = some (12, 56, 0, 1166) := rfl
theorem f_12_108 : fldR 12 108 = some (12, 57, 0, 1167) := rfl
theorem f_12_111 : fldR 12 111 = some (12, 58, 0, 1168) := rfl
theorem f_12_114 : fldR 12 114 = some (12, 59, 0, 1169) := rfl
theorem f_12_117 : fldR 12 117 = some (12, 60, 0, 1170) := rfl
theorem f_12_120 : fldR 12 120 = some (12, 61, 0, 1171) := rfl
theorem f_12_123 : fldR 12 123 = some (12, 62, 0, 1172) := rfl
theorem f_12_126 : fldR 12 126 = some (12, 63, 0, 1173) := rfl
theorem f_12_129 : fldR 12 129 = some (12, 64, 0, 1174) := rfl
theorem f_12_132 : fldR 12 132 = some (12, 65, 0, 1175) := rfl
theorem f_12_135 : fldR 12 135 = some (12, 66, 0, 1176) := rfl
theorem f_12_138 : fldR 12 138 = some (12, 67, 0, 1177) := rfl
theorem f_12_141 : fldR 12 141 = some (12, 68, 0, 1178) := rfl
theorem f_12_144 : fldR 12 144 = some (12, 69, 0, 1179) := rfl
theorem f_12_147 : fldR 12 147 = some (12, 70, 0, 1180) := rfl
theorem f_12_150 : fldR 12 150 = some (12, 71, 0, 1181) := rfl
theorem f_12_153 : fldR 12 153 = some (12, 73, 0, 1183) := rfl
theorem f_12_156 : fldR 12 156 = some (12, 74, 0, 1184) := rfl
theorem f_12_159 : fldR 12 159 = some (12, 75, 0, 1185) := rfl
theorem f_12_162 : fldR 12 162 = some (12, 76, 0, 1186) := rfl
theorem f_12_165 : fldR 12 165 = some (12, 77, 0, 1187) := rfl
theorem f_12_168 : fldR 12 168 = some (12, 78, 0, 1188) := rfl
theorem f_12_171 : fldR 12 171 = some (12, 79, 0, 1189) := rfl
theorem f_12_174 : fldR 12 174 = some (12, 80, 0, 1190) := rfl
theorem f_12_177 : fldR 12 177 = some (12, 81, 0, 1191) := rfl
theorem f_12_180 : fldR 12 180 = some (12, 82, 0, 1192) := rfl
theorem f_12_183 : fldR 12 183 = some (12, 83, 0, 1193) := rfl
theorem f_12_186 : fldR 12 186 = some (12, 84, 0, 1194) := rfl
theorem f_12_189 : fldR 12 189 = some (12, 85, 0, 1195) := rfl
theorem f_12_192 : fldR 12 192 = some (12, 86, 0, 1196) := rfl
theorem f_12_195 : fldR 12 195 = some (12, 87, 0, 1197) := rfl
theorem f_12_198 : fldR 12 198 = some (12, 88, 0, 1198) := rfl
theorem f_12_201 : fldR 12 201 = some (12, 89, 0, 1199) := rfl
theorem f_12_204 : fldR 12 204 = some (12, 90, 0, 1200) := rfl
theorem f_12_207 : fldR 12 207 = some (12, 91, 0, 1201) := rfl
theorem f_12_210 : fldR 12 210 = some (12, 92, 0, 1202) := rfl
theorem f_12_213 : fldR 12 213 = some (12, 93, 0, 1203) := rfl
theorem f_12_216 : fldR 12 216 = some (12, 1, 0, 1111) := rfl
theorem f_12_223 : fldR 12 223 = some (12, 2, 0, 1112) := rfl
theorem f_12_236 : fldR 12 236 = some (12, 12, 0, 1122) := rfl
theorem f_12_239 : fldR 12 239 = some (12, 36, 0, 1146) := rfl
theorem f_12_242 : fldR 12 242 = some (12, 37, 0, 1147) := rfl
theorem f_12_245 : fldR 12 245 = some (12, 39, 0, 1149) := rfl
theorem f_12_298 : fldR 12 298 = some (12, 45, 0, 1155) := rfl
theorem f_12_318 : fldR 12 318 = some (12, 38, 0, 1148) := rfl
theorem f_12_330 : fldR 12 330 = some (12, 40, 0, 1150) := rfl
theorem f_12_336 : fldR 12 336 = some (12, 41, 0, 1151) := rfl
theorem f_12_339 : fldR 12 339 = some (12, 42, 0, 1152) := rfl
theorem f_12_348 : fldR 12 348 = some (12, 35, 0, 1145) := rfl
theorem f_12_362 : fldR 12 362 = some (12, 44, 0, 1154) := rfl
theorem f_12_371 : fldR 12 371 = some (12, 34, 0, 1144) := rfl
theorem f_12_374 : fldR 12 374 = some (12, 48, 0, 1158) := rfl
theorem f_12_378 : fldR 12 378 = some (12, 49, 0, 1159) := rfl
theorem f_12_381 : fldR 12 381 = some (12, 46, 0, 1156) := rfl
theorem f_12_384 : fldR 12 384 = some (12, 47, 0, 1157) := rfl
theorem f_12_396 : fldR 12 396 = some (12, 43, 0, 1153) := rfl
theorem f_12_406 : fldR 12 406 = some (12, 33, 0, 1143) := rfl
theorem f_12_409 : fldR 12 409 = some (12, 54, 0, 1164) := rfl
theorem f_12_426 : fldR 12 426 = some (12, 55, 0, 1165) := rfl
theorem f_12_443 : fldR 12 443 = some (12, 72, 0, 1182) := rfl
theorem f_12_446 : fldR 12 446 = some (12, 0, 0, 1110) := rfl
theorem f_12_484 : fldR 12 484 = some (12, 3, 0, 1113) := rfl
theorem f_12_527 : fldR 12 527 = some (12, 4, 0, 1114) := rfl
theorem m_0_3 : mthR 0 3 = some (900, 0, 211) := rfl
theorem m_0_39 : mthR 0 39 = some (20, 1, 214) := rfl
theorem m_0_50 : mthR 0 50 = some (8, 1, 264) := rfl
theorem m_0_58 : mthR 0 58 = some (102, 1, 854) := rfl
theorem m_0_65 : mthR 0 65 = some (10, 1, 956) := rfl
theorem m_0_69 : mthR 0 69 = some (7, 0, 957) := rfl
theorem m_0_76 : mthR 0 76 = some (245, 0, 961) := rfl
theorem m_0_82 : mthR 0 82 = some (103, 1, 964) := rfl
theorem m_1_3 : mthR 1 3 = some (900, 0, 267) := rfl
theorem m_1_22 : mthR 1 22 = some (901, 0, 947) := rfl
theorem m_1_28 : mthR 1 28 = some (125, 1, 930) := rfl
theorem m_2_3 : mthR 2 3 = some (900, 0, 124) := rfl
theorem m_2_34 : mthR 2 34 = some (249, 0, 640) := rfl
theorem m_2_43 : mthR 2 43 = some (14, 0, 758) := rfl
theorem m_2_47 : mthR 2 47 = some (19, 0, 759) := rfl
theorem m_2_57 : mthR 2 57 = some (905, 0, 767) := rfl
theorem m_2_63 : mthR 2 63 = some (904, 0, 770) := rfl
theorem m_3_3 : mthR 3 3 = some (900, 0, 217) := rfl
theorem m_3_37 : mthR 3 37 = some (21, 0, 1029) := rfl
theorem m_4_3 : mthR 4 3 = some (900, 0, 336) := rfl
theorem m_4_19 : mthR 4 19 = some (901, 0, 866) := rfl
theorem m_5_3 : mthR 5 3 = some (900, 0, 104) := rfl
theorem m_5_21 : mthR 5 21 = some (102, 1, 702) := rfl
theorem m_5_29 : mthR 5 29 = some (32, 0, 975) := rfl
theorem m_5_33 : mthR 5 33 = some (243, 0, 979) := rfl
theorem m_6_1 : mthR 6 1 = some (900, 0, 351) := rfl
theorem m_6_9 : mthR 6 9 = some (24, 1, 353) := rfl
theorem m_7_3 : mthR 7 3 = some (900, 0, 47) := rfl
theorem m_7_52 : mthR 7 52 = some (44, 0, 526) := rfl
theorem m_7_56 : mthR 7 56 = some (42, 0, 530) := rfl
theorem m_7_60 : mthR 7 60 = some (40, 0, 613) := rfl
theorem m_7_64 : mthR 7 64 = some (45, 0, 617) := rfl
theorem m_7_67 : mthR 7 67 = some (41, 0, 620) := rfl
theorem m_7_70 : mthR 7 70 = some (46, 0, 624) := rfl
theorem m_7_73 : mthR 7 73 = some (38, 0, 627) := rfl
theorem m_7_76 : mthR 7 76 = some (47, 0, 534) := rfl
theorem m_7_80 : mthR 7 80 = some (43, 0, 561) := rfl
theorem m_7_84 : mthR 7 84 = some (902, 0, 565) := rfl
theorem m_7_90 : mthR 7 90 = some (903, 0, 575) := rfl
theorem m_7_94 : mthR 7 94 = some (102, 1, 529) := rfl
theorem m_8_3 : mthR 8 3 = some (900, 0, 41) := rfl
theorem m_8_11 : mthR 8 11 = some (34, 1, 44) := rfl
theorem m_8_32 : mthR 8 32 = some (29, 1, 101) := rfl
theorem m_8_37 : mthR 8 37 = some (12, 1, 121) := rfl
theorem m_8_42 : mthR 8 42 = some (64, 1, 149) := rfl
theorem m_8_50 : mthR 8 50 = some (36, 1, 518) := rfl
theorem m_8_53 : mthR 8 53 = some (39, 1, 522) := rfl
theorem m_8_56 : mthR 8 56 = some (102, 1, 631) := rfl
theorem m_8_60 : mthR 8 60 = some (53, 0, 632) := rfl
theorem m_8_64 : mthR 8 64 = some (50, 0, 682) := rfl
theorem m_8_68 : mthR 8 68 = some (60, 0, 686) := rfl
theorem m_8_71 : mthR 8 71 = some (51, 0, 703) := rfl
theorem m_8_75 : mthR 8 75 = some (62, 0, 707) := rfl
theorem m_8_78 : mthR 8 78 = some (52, 0, 727) := rfl
theorem m_8_90 : mthR 8 90 = some (13, 1, 636) := rfl
theorem m_8_96 : mthR 8 96 = some (37, 1, 641) := rfl
theorem m_8_100 : mthR 8 100 = some (14, 1, 645) := rfl
theorem m_8_103 : mthR 8 103 = some (15, 1, 649) := rfl
theorem m_8_107 : mthR 8 107 = some (38, 1, 653) := rfl
theorem m_8_110 : mthR 8 110 = some (54, 0, 654) := rfl
theorem m_8_113 : mthR 8 113 = some (58, 0, 666) := rfl
theorem m_8_116 : mthR 8 116 = some (16, 1, 678) := rfl
theorem m_8_119 : mthR 8 119 = some (55, 0, 658) := rfl
theorem m_8_122 : mthR 8 122 = some (17, 1, 670) := rfl
theorem m_8_126 : mthR 8 126 = some (57, 0, 662) := rfl
theorem m_8_129 : mthR 8 129 = some (56, 0, 674) := rfl
theorem m_8_135 : mthR 8 135 = some (61, 0, 690) := rfl
theorem m_8_138 : mthR 8 138 = some (59, 0, 694) := rfl
theorem m_8_141 : mthR 8 141 = some (30, 1, 698) := rfl
theorem m_8_145 : mthR 8 145 = some (65, 1, 711) := rfl
theorem m_8_146 : mthR 8 146 = some (66, 1, 715) := rfl
theorem m_8_147 : mthR 8 147 = some (63, 0, 719) := rfl
theorem m_8_150 : mthR 8 150 = some (67, 1, 723) := rfl
theorem m_9_3 : mthR 9 3 = some (900, 0, 152) := rfl
theorem m_10_3 : mthR 10 3 = some (900, 0, 387) := rfl
theorem m_10_11 : mthR 10 11 = some (20, 1, 389) := rfl
theorem m_10_20 : mthR 10 20 = some (24, 1, 391) := rfl
theorem m_11_1 : mthR 11 1 = some (900, 0, 27) := rfl
theorem m_11_28 : mthR 11 28 = some (48, 1, 38) := rfl
theorem m_11_60 : mthR 11 60 = some (0, 1, 208) := rfl
theorem m_11_65 : mthR 11 65 = some (8, 1, 328) := rfl
theorem m_11_66 : mthR 11 66 = some (249, 0, 329) := rfl
theorem m_11_72 : mthR 11 72 = some (24, 1, 333) := rfl
theorem m_11_73 : mthR 11 73 = some (20, 1, 346) := rfl
theorem m_11_74 : mthR 11 74 = some (33, 1, 348) := rfl
theorem m_11_75 : mthR 11 75 = some (68, 1, 384) := rfl
theorem m_11_76 : mthR 11 76 = some (102, 0, 464) := rfl
theorem m_11_90 : mthR 11 90 = some (9, 1, 467) := rfl
theorem m_11_94 : mthR 11 94 = some (104, 0, 475) := rfl
theorem m_11_101 : mthR 11 101 = some (901, 0, 483) := rfl
theorem m_11_107 : mthR 11 107 = some (105, 0, 490) := rfl
theorem m_11_123 : mthR 11 123 = some (35, 1, 502) := rfl
theorem m_11_127 : mthR 11 127 = some (49, 1, 514) := rfl
theorem m_11_143 : mthR 11 143 = some (120, 0, 740) := rfl
theorem m_11_147 : mthR 11 147 = some (109, 0, 781) := rfl
theorem m_11_151 : mthR 11 151 = some (21, 1, 785) := rfl
theorem m_11_158 : mthR 11 158 = some (118, 0, 789) := rfl
theorem m_11_162 : mthR 11 162 = some (119, 0, 793) := rfl
theorem m_11_166 : mthR 11 166 = some (106, 0, 805) := rfl
theorem m_11_172 : mthR 11 172 = some (115, 0, 813) := rfl
theorem m_11_176 : mthR 11 176 = some (110, 0, 828) := rfl
theorem m_11_180 : mthR 11 180 = some (25, 1, 831) := rfl
theorem m_11_183 : mthR 11 183 = some (127, 0, 835) := rfl
theorem m_11_187 : mthR 11 187 = some (1, 1, 850) := rfl
theorem m_11_194 : mthR 11 194 = some (111, 0, 859) := rfl
theorem m_11_210 : mthR 11 210 = some (28, 1, 862) := rfl
theorem m_11_223 : mthR 11 223 = some (128, 0, 867) := rfl
theorem m_11_230 : mthR 11 230 = some (116, 0, 871) := rfl
theorem m_11_237 : mthR 11 237 = some (121, 0, 879) := rfl
theorem m_11_241 : mthR 11 241 = some (139, 0, 883) := rfl
theorem m_11_244 : mthR 11 244 = some (107, 0, 891) := rfl
theorem m_11_247 : mthR 11 247 = some (26, 1, 839) := rfl
theorem m_11_253 : mthR 11 253 = some (905, 0, 800) := rfl
theorem m_11_258 : mthR 11 258 = some (27, 1, 907) := rfl
theorem m_11_262 : mthR 11 262 = some (122, 0, 911) := rfl
theorem m_11_272 : mthR 11 272 = some (114, 0, 744) := rfl
theorem m_11_276 : mthR 11 276 = some (23, 1, 773) := rfl
theorem m_11_282 : mthR 11 282 = some (11, 1, 926) := rfl
theorem m_11_286 : mthR 11 286 = some (126, 0, 931) := rfl
theorem m_11_289 : mthR 11 289 = some (131, 0, 939) := rfl
theorem m_11_293 : mthR 11 293 = some (132, 0, 948) := rfl
theorem m_11_300 : mthR 11 300 = some (6, 1, 952) := rfl
theorem m_11_308 : mthR 11 308 = some (31, 1, 971) := rfl
theorem m_11_313 : mthR 11 313 = some (129, 0, 986) := rfl
theorem m_11_318 : mthR 11 318 = some (904, 0, 843) := rfl
theorem m_11_321 : mthR 11 321 = some (130, 0, 995) := rfl
theorem m_11_324 : mthR 11 324 = some (244, 0, 999) := rfl
theorem m_11_329 : mthR 11 329 = some (4, 1, 1005) := rfl
theorem m_11_332 : mthR 11 332 = some (5, 1, 1009) := rfl
theorem m_11_353 : mthR 11 353 = some (133, 0, 1021) := rfl
theorem m_11_357 : mthR 11 357 = some (134, 0, 1030) := rfl
theorem m_11_363 : mthR 11 363 = some (135, 0, 1043) := rfl
theorem m_11_373 : mthR 11 373 = some (3, 1, 1047) := rfl
theorem m_11_376 : mthR 11 376 = some (136, 0, 1051) := rfl
theorem m_11_380 : mthR 11 380 = some (138, 0, 1059) := rfl
theorem m_11_384 : mthR 11 384 = some (108, 0, 1067) := rfl
theorem m_11_388 : mthR 11 388 = some (141, 0, 1071) := rfl
theorem m_11_391 : mthR 11 391 = some (906, 0, 919) := rfl
theorem m_11_394 : mthR 11 394 = some (143, 0, 1091) := rfl
theorem m_11_417 : mthR 11 417 = some (125, 0, 821) := rfl
theorem m_11_422 : mthR 11 422 = some (112, 0, 748) := rfl
theorem m_11_433 : mthR 11 433 = some (18, 1, 752) := rfl
theorem m_11_439 : mthR 11 439 = some (113, 0, 817) := rfl
theorem m_11_443 : mthR 11 443 = some (117, 0, 875) := rfl
theorem m_11_450 : mthR 11 450 = some (124, 0, 797) := rfl
theorem m_11_453 : mthR 11 453 = some (123, 0, 915) := rfl
theorem m_11_459 : mthR 11 459 = some (2, 1, 844) := rfl
theorem m_11_469 : mthR 11 469 = some (10, 1, 943) := rfl
theorem m_11_473 : mthR 11 473 = some (22, 1, 1025) := rfl
theorem m_11_486 : mthR 11 486 = some (69, 1, 1034) := rfl
theorem m_11_492 : mthR 11 492 = some (137, 0, 1055) := rfl
theorem m_11_499 : mthR 11 499 = some (140, 0, 1075) := rfl
theorem m_11_502 : mthR 11 502 = some (142, 0, 1079) := rfl
theorem m_11_506 : mthR 11 506 = some (144, 0, 1095) := rfl
theorem m_12_1 : mthR 12 1 = some (900, 0, 1109) := rfl
theorem m_12_219 : mthR 12 219 = some (146, 0, 1401) := rfl
theorem m_12_226 : mthR 12 226 = some (149, 0, 1398) := rfl
theorem m_12_230 : mthR 12 230 = some (147, 0, 1408) := rfl
theorem m_12_233 : mthR 12 233 = some (148, 0, 1420) := rfl
theorem m_12_248 : mthR 12 248 = some (902, 0, 1463) := rfl
theorem m_12_254 : mthR 12 254 = some (903, 0, 1464) := rfl
theorem m_12_260 : mthR 12 260 = some (164, 0, 1459) := rfl
theorem m_12_301 : mthR 12 301 = some (165, 0, 1454) := rfl
theorem m_12_314 : mthR 12 314 = some (161, 0, 1443) := rfl
theorem m_12_321 : mthR 12 321 = some (162, 0, 1447) := rfl
theorem m_12_324 : mthR 12 324 = some (166, 0, 1450) := rfl
theorem m_12_327 : mthR 12 327 = some (163, 0, 1487) := rfl
theorem m_12_333 : mthR 12 333 = some (167, 0, 1490) := rfl
theorem m_12_342 : mthR 12 342 = some (169, 0, 1502) := rfl
theorem m_12_345 : mthR 12 345 = some (168, 0, 1439) := rfl
theorem m_12_351 : mthR 12 351 = some (173, 0, 1510) := rfl
theorem m_12_355 : mthR 12 355 = some (171, 0, 1522) := rfl
theorem m_12_359 : mthR 12 359 = some (174, 0, 1514) := rfl
theorem m_12_365 : mthR 12 365 = some (172, 0, 1506) := rfl
theorem m_12_368 : mthR 12 368 = some (170, 0, 1518) := rfl
theorem m_12_387 : mthR 12 387 = some (175, 0, 1498) := rfl
theorem m_12_390 : mthR 12 390 = some (176, 0, 1526) := rfl
theorem m_12_393 : mthR 12 393 = some (177, 0, 1530) := rfl
theorem m_12_399 : mthR 12 399 = some (178, 0, 1494) := rfl
theorem m_12_402 : mthR 12 402 = some (180, 0, 1534) := rfl
theorem m_12_412 : mthR 12 412 = some (183, 0, 1561) := rfl
theorem m_12_415 : mthR 12 415 = some (182, 0, 1565) := rfl
theorem m_12_419 : mthR 12 419 = some (185, 0, 1553) := rfl
theorem m_12_422 : mthR 12 422 = some (186, 0, 1611) := rfl
theorem m_12_429 : mthR 12 429 = some (187, 0, 1607) := rfl
theorem m_12_432 : mthR 12 432 = some (184, 0, 1557) := rfl
theorem m_12_435 : mthR 12 435 = some (189, 0, 1568) := rfl
theorem m_12_438 : mthR 12 438 = some (188, 0, 1603) := rfl
theorem m_12_449 : mthR 12 449 = some (198, 0, 1546) := rfl
theorem m_12_452 : mthR 12 452 = some (191, 0, 1549) := rfl
theorem m_12_456 : mthR 12 456 = some (197, 0, 1571) := rfl
theorem m_12_459 : mthR 12 459 = some (196, 0, 1579) := rfl
theorem m_12_462 : mthR 12 462 = some (192, 0, 1583) := rfl
theorem m_12_465 : mthR 12 465 = some (195, 0, 1587) := rfl
theorem m_12_469 : mthR 12 469 = some (150, 0, 1595) := rfl
theorem m_12_472 : mthR 12 472 = some (156, 0, 1618) := rfl
theorem m_12_475 : mthR 12 475 = some (157, 0, 1622) := rfl
theorem m_12_478 : mthR 12 478 = some (193, 0, 1626) := rfl
theorem m_12_481 : mthR 12 481 = some (190, 0, 1643) := rfl
theorem m_12_487 : mthR 12 487 = some (194, 0, 1635) := rfl
theorem m_12_490 : mthR 12 490 = some (204, 0, 1639) := rfl
theorem m_12_493 : mthR 12 493 = some (206, 0, 1651) := rfl
theorem m_12_496 : mthR 12 496 = some (211, 0, 1675) := rfl
theorem m_12_499 : mthR 12 499 = some (158, 0, 1667) := rfl
theorem m_12_502 : mthR 12 502 = some (212, 0, 1671) := rfl
theorem m_12_505 : mthR 12 505 = some (213, 0, 1679) := rfl
theorem m_12_508 : mthR 12 508 = some (215, 0, 1687) := rfl
theorem m_12_511 : mthR 12 511 = some (217, 0, 1695) := rfl
theorem m_12_514 : mthR 12 514 = some (218, 0, 1699) := rfl
theorem m_12_517 : mthR 12 517 = some (220, 0, 1707) := rfl
theorem m_12_521 : mthR 12 521 = some (222, 0, 1715) := rfl
theorem m_12_524 : mthR 12 524 = some (224, 0, 1724) := rfl
theorem m_12_530 : mthR 12 530 = some (229, 0, 1735) := rfl
theorem m_12_533 : mthR 12 533 = some (227, 0, 1738) := rfl
theorem m_12_536 : mthR 12 536 = some (228, 0, 1742) := rfl
theorem m_12_539 : mthR 12 539 = some (231, 0, 1751) := rfl
theorem m_12_545 : mthR 12 545 = some (232, 0, 1755) := rfl
theorem m_12_548 : mthR 12 548 = some (233, 0, 1759) := rfl
theorem m_12_552 : mthR 12 552 = some (234, 0, 1763) := rfl
theorem m_12_556 : mthR 12 556 = some (207, 0, 1779) := rfl
theorem m_12_559 : mthR 12 559 = some (237, 0, 1771) := rfl
theorem m_12_562 : mthR 12 562 = some (236, 0, 1775) := rfl
theorem m_12_565 : mthR 12 565 = some (240, 0, 1791) := rfl
theorem m_16_9 : mthR 16 9 = some (70, 0, 24) := rfl
theorem m_16_12 : mthR 16 12 = some (145, 0, 1106) := rfl
theorem m_16_13 : mthR 16 13 = some (71, 0, 460) := rfl
theorem m_16_17 : mthR 16 17 = some (151, 0, 1394) := rfl
theorem m_16_18 : mthR 16 18 = some (72, 0, 471) := rfl
theorem m_16_22 : mthR 16 22 = some (152, 0, 1404) := rfl
theorem m_16_23 : mthR 16 23 = some (73, 0, 479) := rfl
theorem m_16_27 : mthR 16 27 = some (153, 0, 1412) := rfl
theorem m_16_28 : mthR 16 28 = some (74, 0, 486) := rfl
theorem m_16_31 : mthR 16 31 = some (154, 0, 1416) := rfl
theorem m_16_32 : mthR 16 32 = some (75, 0, 494) := rfl
theorem m_16_36 : mthR 16 36 = some (155, 0, 1423) := rfl
theorem m_16_37 : mthR 16 37 = some (76, 0, 498) := rfl
theorem m_16_40 : mthR 16 40 = some (159, 0, 1427) := rfl
theorem m_16_41 : mthR 16 41 = some (77, 0, 506) := rfl
theorem m_16_44 : mthR 16 44 = some (160, 0, 1431) := rfl
theorem m_16_45 : mthR 16 45 = some (78, 0, 510) := rfl
theorem m_16_48 : mthR 16 48 = some (179, 0, 1435) := rfl
theorem m_16_49 : mthR 16 49 = some (79, 0, 732) := rfl
theorem m_16_53 : mthR 16 53 = some (181, 0, 1538) := rfl
theorem m_16_54 : mthR 16 54 = some (80, 0, 736) := rfl
theorem m_16_57 : mthR 16 57 = some (200, 0, 1575) := rfl
theorem m_16_58 : mthR 16 58 = some (81, 0, 777) := rfl
theorem m_16_62 : mthR 16 62 = some (199, 0, 1542) := rfl
theorem m_16_63 : mthR 16 63 = some (82, 0, 801) := rfl
theorem m_16_66 : mthR 16 66 = some (201, 0, 1591) := rfl
theorem m_16_67 : mthR 16 67 = some (83, 0, 809) := rfl
theorem m_16_70 : mthR 16 70 = some (202, 0, 1599) := rfl
theorem m_16_71 : mthR 16 71 = some (84, 0, 824) := rfl
theorem m_16_74 : mthR 16 74 = some (203, 0, 1614) := rfl
theorem m_16_75 : mthR 16 75 = some (85, 0, 855) := rfl
theorem m_16_78 : mthR 16 78 = some (205, 0, 1631) := rfl
theorem m_16_79 : mthR 16 79 = some (86, 0, 887) := rfl
theorem m_16_82 : mthR 16 82 = some (208, 0, 1647) := rfl
theorem m_16_83 : mthR 16 83 = some (87, 0, 895) := rfl
theorem m_16_86 : mthR 16 86 = some (209, 0, 1655) := rfl
theorem m_16_87 : mthR 16 87 = some (88, 0, 899) := rfl
theorem m_16_91 : mthR 16 91 = some (210, 0, 1659) := rfl
theorem m_16_92 : mthR 16 92 = some (89, 0, 903) := rfl
theorem m_16_95 : mthR 16 95 = some (214, 0, 1663) := rfl
theorem m_16_96 : mthR 16 96 = some (90, 0, 922) := rfl
theorem m_16_99 : mthR 16 99 = some (216, 0, 1683) := rfl
theorem m_16_100 : mthR 16 100 = some (91, 0, 935) := rfl
theorem m_16_103 : mthR 16 103 = some (219, 0, 1691) := rfl
theorem m_16_104 : mthR 16 104 = some (92, 0, 967) := rfl
theorem m_16_107 : mthR 16 107 = some (221, 0, 1703) := rfl
theorem m_16_108 : mthR 16 108 = some (93, 0, 982) := rfl
theorem m_16_111 : mthR 16 111 = some (223, 0, 1711) := rfl
theorem m_16_112 : mthR 16 112 = some (94, 0, 991) := rfl
theorem m_16_115 : mthR 16 115 = some (225, 0, 1720) := rfl
theorem m_16_116 : mthR 16 116 = some (95, 0, 1013) := rfl
theorem m_16_120 : mthR 16 120 = some (226, 0, 1727) := rfl
theorem m_16_121 : mthR 16 121 = some (96, 0, 1017) := rfl
theorem m_16_124 : mthR 16 124 = some (230, 0, 1731) := rfl
theorem m_16_125 : mthR 16 125 = some (97, 0, 1038) := rfl
theorem m_16_129 : mthR 16 129 = some (235, 0, 1746) := rfl
theorem m_16_130 : mthR 16 130 = some (98, 0, 1063) := rfl
theorem m_16_133 : mthR 16 133 = some (238, 0, 1767) := rfl
theorem m_16_134 : mthR 16 134 = some (99, 0, 1083) := rfl
theorem m_16_137 : mthR 16 137 = some (239, 0, 1783) := rfl
theorem m_16_138 : mthR 16 138 = some (100, 0, 1087) := rfl
theorem m_16_141 : mthR 16 141 = some (241, 0, 1787) := rfl
theorem m_16_142 : mthR 16 142 = some (101, 0, 1100) := rfl
theorem m_16_145 : mthR 16 145 = some (242, 0, 1795) := rfl
theorem i_0_62 : intR 0 62 = some (1000000, 848) := rfl
theorem i_11_317 : intR 11 317 = some (1000000, 990) := rfl
theorem i_12_520 : intR 12 520 = some (1000000, 1719) := rfl
theorem i_13_265 : intR 13 265 = some (1431655765, 1002) := rfl
theorem i_13_266 : intR 13 266 = some (858993459, 1003) := rfl
theorem i_13_267 : intR 13 267 = some (252645135, 1004) := rfl
theorem l_0_63 : lngR 0 63 = some (1000000, 849) := rfl
theorem l_11_361 : lngR 11 361 = some (-1, 1042) := rfl
theorem l_11_397 : lngR 11 397 = some (1000000, 1099) := rfl
theorem l_12_441 : lngR 12 441 = some (1000000, 1630) := rfl
theorem l_12_543 : lngR 12 543 = some (-1, 1750) := rfl
theorem o_0 : own 0 = 0 := rfl
theorem o_1 : own 1 = 0 := rfl
theorem o_2 : own 2 = 0 := rfl
theorem o_3 : own 3 = 0 := rfl
theorem o_4 : own 4 = 0 := rfl
theorem o_5 : own 5 = 0 := rfl
theorem o_6 : own 6 = 0 := rfl
theorem o_7 : own 7 = 0 := rfl
theorem o_8 : own 8 = 1 := rfl
theorem o_9 : own 9 = 1 := rfl
theorem o_10 : own 10 = 1 := rfl
theorem o_11 : own 11 = 1 := rfl
theorem o_12 : own 12 = 2 := rfl
theorem o_13 : own 13 = 2 := rfl
theorem o_14 : own 14 = 2 := rfl
theorem o_15 : own 15 = 2 := rfl
theorem o_16 : own 16 = 2 := rfl
theorem o_17 : own 17 = 2 := rfl
theorem o_18 : own 18 = 2 := rfl
theorem o_19 : own 19 = 2 := rfl
theorem o_20 : own 20 = 3 := rfl
theorem o_21 : own 21 = 3 := rfl
theorem o_22 : own 22 = 3 := rfl
theorem o_23 : own 23 = 3 := rfl
theorem o_24 : own 24 = 4 := rfl
theorem o_25 : own 25 = 4 := rfl
theorem o_26 : own 26 = 4 := rfl
theorem o_27 : own 27 = 4 := rfl
theorem o_28 : own 28 = 4 := rfl
theorem o_29 : own 29 = 5 := rfl
theorem o_30 : own 30 = 5 := rfl
theorem o_31 : own 31 = 5 := rfl
theorem o_32 : own 32 = 5 := rfl
theorem o_33 : own 33 = 6 := rfl
theorem o_34 : own 34 = 7 := rfl
theorem o_35 : own 35 = 7 := rfl
theorem o_36 : own 36 = 7 := rfl
theorem o_37 : own 37 = 7 := rfl
theorem o_38 : own 38 = 7 := rfl
theorem o_39 : own 39 = 7 := rfl
theorem o_40 : own 40 = 7 := rfl
theorem o_41 : own 41 = 7 := rfl
theorem o_42 : own 42 = 7 := rfl
theorem o_43 : own 43 = 7 := rfl
theorem o_44 : own 44 = 7 := rfl
theorem o_45 : own 45 = 7 := rfl
theorem o_46 : own 46 = 7 := rfl
theorem o_47 : own 47 = 7 := rfl
theorem o_48 : own 48 = 8 := rfl
theorem o_49 : own 49 = 8 := rfl
theorem o_50 : own 50 = 8 := rfl
theorem o_51 : own 51 = 8 := rfl
theorem o_52 : own 52 = 8 := rfl
theorem o_53 : own 53 = 8 := rfl
theorem o_54 : own 54 = 8 := rfl
theorem o_55 : own 55 = 8 := rfl
theorem o_56 : own 56 = 8 := rfl
theorem o_57 : own 57 = 8 := rfl
theorem o_58 : own 58 = 8 := rfl
theorem o_59 : own 59 = 8 := rfl
theorem o_60 : own 60 = 8 := rfl
theorem o_61 : own 61 = 8 := rfl
theorem o_62 : own 62 = 8 := rfl
theorem o_63 : own 63 = 8 := rfl
theorem o_64 : own 64 = 9 := rfl
theorem o_65 : own 65 = 9 := rfl
theorem o_66 : own 66 = 9 := rfl
theorem o_67 : own 67 = 9 := rfl
theorem o_68 : own 68 = 10 := rfl
theorem o_69 : own 69 = 10 := rfl
theorem o_70 : own 70 = 11 := rfl
theorem o_71 : own 71 = 11 := rfl
theorem o_72 : own 72 = 11 := rfl
theorem o_73 : own 73 = 11 := rfl
theorem o_74 : own 74 = 11 := rfl
theorem o_75 : own 75 = 11 := rfl
theorem o_76 : own 76 = 11 := rfl
theorem o_77 : own 77 = 11 := rfl
theorem o_78 : own 78 = 11 := rfl
theorem o_79 : own 79 = 11 := rfl
theorem o_80 : own 80 = 11 := rfl
theorem o_81 : own 81 = 11 := rfl
theorem o_82 : own 82 = 11 := rfl
theorem o_83 : own 83 = 11 := rfl
theorem o_84 : own 84 = 11 := rfl
theorem o_85 : own 85 = 11 := rfl
theorem o_86 : own 86 = 11 := rfl
theorem o_87 : own 87 = 11 := rfl
theorem o_88 : own 88 = 11 := rfl
theorem o_89 : own 89 = 11 := rfl
theorem o_90 : own 90 = 11 := rfl
theorem o_91 : own 91 = 11 := rfl
theorem o_92 : own 92 = 11 := rfl
theorem o_93 : own 93 = 11 := rfl
theorem o_94 : own 94 = 11 := rfl
theorem o_95 : own 95 = 11 := rfl
theorem o_96 : own 96 = 11 := rfl
theorem o_97 : own 97 = 11 := rfl
theorem o_98 : own 98 = 11 := rfl
theorem o_99 : own 99 = 11 := rfl
theorem o_100 : own 100 = 11 := rfl
theorem o_101 : own 101 = 11 := rfl
theorem o_102 : own 102 = 11 := rfl
theorem o_103 : own 103 = 11 := rfl
theorem o_104 : own 104 = 11 := rfl
theorem o_105 : own 105 = 11 := rfl
theorem o_106 : own 106 = 11 := rfl
theorem o_107 : own 107 = 11 := rfl
theorem o_108 : own 108 = 11 := rfl
theorem o_109 : own 109 = 11 := rfl
theorem o_110 : own 110 = 11 := rfl
theorem o_111 : own 111 = 11 := rfl
theorem o_112 : own 112 = 11 := rfl
theorem o_113 : own 113 = 11 := rfl
theorem o_114 : own 114 = 11 := rfl
theorem o_115 : own 115 = 11 := rfl
theorem o_116 : own 116 = 11 := rfl
theorem o_117 : own 117 = 11 := rfl
theorem o_118 : own 118 = 11 := rfl
theorem o_119 : own 119 = 11 := rfl
theorem o_120 : own 120 = 11 := rfl
theorem o_121 : own 121 = 11 := rfl
theorem o_122 : own 122 = 11 := rfl
theorem o_123 : own 123 = 11 := rfl
theorem o_124 : own 124 = 11 := rfl
theorem o_125 : own 125 = 11 := rfl
theorem o_126 : own 126 = 11 := rfl
theorem o_127 : own 127 = 11 := rfl
theorem o_128 : own 128 = 11 := rfl
theorem o_129 : own 129 = 11 := rfl
theorem o_130 : own 130 = 11 := rfl
theorem o_131 : own 131 = 11 := rfl
theorem o_132 : own 132 = 11 := rfl
theorem o_133 : own 133 = 11 := rfl
theorem o_134 : own 134 = 11 := rfl
theorem o_135 : own 135 = 11 := rfl
theorem o_136 : own 136 = 11 := rfl
theorem o_137 : own 137 = 11 := rfl
theorem o_138 : own 138 = 11 := rfl
theorem o_139 : own 139 = 11 := rfl
theorem o_140 : own 140 = 11 := rfl
theorem o_141 : own 141 = 11 := rfl
theorem o_142 : own 142 = 11 := rfl
theorem o_143 : own 143 = 11 := rfl
theorem o_144 : own 144 = 11 := rfl
theorem o_145 : own 145 = 12 := rfl
theorem o_146 : own 146 = 12 := rfl
theorem o_147 : own 147 = 12 := rfl
theorem o_148 : own 148 = 12 := rfl
theorem o_149 : own 149 = 12 := rfl
theorem o_150 : own 150 = 12 := rfl
theorem o_151 : own 151 = 12 := rfl
theorem o_152 : own 152 = 12 := rfl
theorem o_153 : own 153 = 12 := rfl
theorem o_154 : own 154 = 12 := rfl
theorem o_155 : own 155 = 12 := rfl
theorem o_156 : own 156 = 12 := rfl
theorem o_157 : own 157 = 12 := rfl
theorem o_158 : own 158 = 12 := rfl
theorem o_159 : own 159 = 12 := rfl
theorem o_160 : own 160 = 12 := rfl
theorem o_161 : own 161 = 12 := rfl
theorem o_162 : own 162 = 12 := rfl
theorem o_163 : own 163 = 12 := rfl
theorem o_164 : own 164 = 12 := rfl
theorem o_165 : own 165 = 12 := rfl
theorem o_166 : own 166 = 12 := rfl
theorem o_167 : own 167 = 12 := rfl
theorem o_168 : own 168 = 12 := rfl
theorem o_169 : own 169 = 12 := rfl
theorem o_170 : own 170 = 12 := rfl
theorem o_171 : own 171 = 12 := rfl
theorem o_172 : own 172 = 12 := rfl
theorem o_173 : own 173 = 12 := rfl
theorem o_174 : own 174 = 12 := rfl
theorem o_175 : own 175 = 12 := rfl
theorem o_176 : own 176 = 12 := rfl
theorem o_177 : own 177 = 12 := rfl
theorem o_178 : own 178 = 12 := rfl
theorem o_179 : own 179 = 12 := rfl
theorem o_180 : own 180 = 12 := rfl
theorem o_181 : own 181 = 12 := rfl
theorem o_182 : own 182 = 12 := rfl
theorem o_183 : own 183 = 12 := rfl
theorem o_184 : own 184 = 12 := rfl
theorem o_185 : own 185 = 12 := rfl
theorem o_186 : own 186 = 12 := rfl
theorem o_187 : own 187 = 12 := rfl
theorem o_188 : own 188 = 12 := rfl
theorem o_189 : own 189 = 12 := rfl
theorem o_190 : own 190 = 12 := rfl
theorem o_191 : own 191 = 12 := rfl
theorem o_192 : own 192 = 12 := rfl
theorem o_193 : own 193 = 12 := rfl
theorem o_194 : own 194 = 12 := rfl
theorem o_195 : own 195 = 12 := rfl
theorem o_196 : own 196 = 12 := rfl
theorem o_197 : own 197 = 12 := rfl
theorem o_198 : own 198 = 12 := rfl
theorem o_199 : own 199 = 12 := rfl
theorem o_200 : own 200 = 12 := rfl
theorem o_201 : own 201 = 12 := rfl
theorem o_202 : own 202 = 12 := rfl
theorem o_203 : own 203 = 12 := rfl
theorem o_204 : own 204 = 12 := rfl
theorem o_205 : own 205 = 12 := rfl
theorem o_206 : own 206 = 12 := rfl
theorem o_207 : own 207 = 12 := rfl
theorem o_208 : own 208 = 12 := rfl
theorem o_209 : own 209 = 12 := rfl
theorem o_210 : own 210 = 12 := rfl
theorem o_211 : own 211 = 12 := rfl
theorem o_212 : own 212 = 12 := rfl
theorem o_213 : own 213 = 12 := rfl
theorem o_214 : own 214 = 12 := rfl
theorem o_215 : own 215 = 12 := rfl
theorem o_216 : own 216 = 12 := rfl
theorem o_217 : own 217 = 12 := rfl
theorem o_218 : own 218 = 12 := rfl
theorem o_219 : own 219 = 12 := rfl
theorem o_220 : own 220 = 12 := rfl
theorem o_221 : own 221 = 12 := rfl
theorem o_222 : own 222 = 12 := rfl
theorem o_223 : own 223 = 12 := rfl
theorem o_224 : own 224 = 12 := rfl
theorem o_225 : own 225 = 12 := rfl
theorem o_226 : own 226 = 12 := rfl
theorem o_227 : own 227 = 12 := rfl
theorem o_228 : own 228 = 12 := rfl
theorem o_229 : own 229 = 12 := rfl
theorem o_230 : own 230 = 12 := rfl
theorem o_231 : own 231 = 12 := rfl
theorem o_232 : own 232 = 12 := rfl
theorem o_233 : own 233 = 12 := rfl
theorem o_234 : own 234 = 12 := rfl
theorem o_235 : own 235 = 12 := rfl
theorem o_236 : own 236 = 12 := rfl
theorem o_237 : own 237 = 12 := rfl
theorem o_238 : own 238 = 12 := rfl
theorem o_239 : own 239 = 12 := rfl
theorem o_240 : own 240 = 12 := rfl
theorem o_241 : own 241 = 12 := rfl
theorem o_242 : own 242 = 12 := rfl
theorem o_243 : own 243 = 13 := rfl
theorem o_244 : own 244 = 13 := rfl
theorem o_245 : own 245 = 14 := rfl
theorem o_246 : own 246 = 14 := rfl
theorem o_247 : own 247 = 14 := rfl
theorem o_248 : own 248 = 14 := rfl
theorem o_249 : own 249 = 15 := rfl
theorem o_250 : own 250 = 16 := rfl
