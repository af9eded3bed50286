/-! THE LAW: its loop, given that the two answer alike -/
def opOK (Inv : mMem → Prop) (f g : mSem) (as : List Value) : Prop := ∀ C, Inv C → ∃ r C1 C2, f (.ref 0 :: as) C = some (some r, C1) ∧ g (.ref 139 :: as) C1 = some (some r, C2) ∧ Inv C2
/-- all twenty -/
def opsOK (Inv : mMem → Prop) : Prop :=
  (∀ a b c d e : Int32, opOK Inv f_F_feed f_M_feed [.int a, .int b, .int c, .int d, .int e]) ∧
  (∀ a : Int32, opOK Inv f_F_end f_M_end [.int a]) ∧
  (∀ a : Int32, opOK Inv f_F_text f_M_text [.int a]) ∧
  (∀ a : Int32, opOK Inv f_F_fault f_M_fault [.int a]) ∧
  (∀ a b c : Int32, opOK Inv f_F_one f_M_one [.int a, .int b, .int c]) ∧
  (∀ a b c : Int32, opOK Inv f_F_set f_M_set [.int a, .int b, .int c]) ∧
  (∀ a : Int32, opOK Inv f_F_seconds f_M_seconds [.int a]) ∧
  (∀ a b : Int32, opOK Inv f_F_car f_M_car [.int a, .int b]) ∧
  (∀ a b : Int32, opOK Inv f_F_person f_M_person [.int a, .int b]) ∧
  (∀ a b c : Int32, opOK Inv f_F_cost f_M_cost [.int a, .int b, .int c]) ∧
  (∀ a : Int32, opOK Inv f_F_sums f_M_sums [.int a]) ∧
  (∀ a b : Int32, opOK Inv f_F_thought f_M_thought [.int a, .int b]) ∧
  (∀ a b : Int32, opOK Inv f_F_better f_M_better [.int a, .int b]) ∧
  (∀ a : Int32, opOK Inv f_F_best f_M_best [.int a]) ∧
  (∀ a b c d : Int32, opOK Inv f_F_mornings f_M_mornings [.int a, .int b, .int c, .int d]) ∧
  (∀ a b : Int32, opOK Inv f_F_fun f_M_fun [.int a, .int b]) ∧
  (∀ a b : Int32, opOK Inv f_F_places f_M_places [.int a, .int b]) ∧
  (∀ a b : Int32, opOK Inv f_F_zones f_M_zones [.int a, .int b]) ∧
  (∀ a : Int32, a = 0 ∨ a = 1 → opOK Inv f_F_image f_M_image [.int a]) ∧
  (∀ a : Int32, opOK Inv f_F_look f_M_look [.int a])
def tbL_0 : List (Nat × Instr × Nat) := [(0, .new 7, 3), (3, .dup, 1), (4, .invokespecial 9, 3), (7, .astore_n 1, 1), (8, .new 10, 3), (11, .dup, 1), (12, .invokespecial 12, 3), (15, .astore_n 2, 1), (16, .iconst 0, 1), (17, .istore_n 3, 1), (18, .iload_n 3, 1), (19, .aload_n 0, 1), (20, .arraylength, 1), (21, .bipush 6, 2), (23, .isub, 1), (24, .if_icmp .gt 786, 3), (27, .aload_n 0, 1), (28, .iload_n 3, 1), (29, .iaload, 1), (30, .bipush 31, 2), (32, .iand, 1), (33, .tableswitch 771 0 19 #[95, 158, 181, 204, 227, 270, 313, 336, 369, 402, 445, 468, 501, 534, 557, 610, 643, 676, 709, 748], 95), (128, .aload_n 1, 1), (129, .aload_n 0, 1), (130, .iload_n 3, 1), (131, .iconst 1, 1), (132, .iadd, 1), (133, .iaload, 1), (134, .aload_n 0, 1), (135, .iload_n 3, 1), (136, .iconst 2, 1), (137, .iadd, 1), (138, .iaload, 1), (139, .aload_n 0, 1), (140, .iload_n 3, 1), (141, .iconst 3, 1), (142, .iadd, 1), (143, .iaload, 1), (144, .aload_n 0, 1), (145, .iload_n 3, 1), (146, .iconst 4, 1), (147, .iadd, 1), (148, .iaload, 1), (149, .aload_n 0, 1), (150, .iload_n 3, 1), (151, .iconst 5, 1), (152, .iadd, 1), (153, .iaload, 1)]
theorem tkL_0 : tbL_0.all (fun q => decide (decode code q.1 = .ok q.2)) = true := by decide +kernel
def tbL_1 : List (Nat × Instr × Nat) := [(154, .invokevirtual 13, 3), (157, .aload_n 2, 1), (158, .aload_n 0, 1), (159, .iload_n 3, 1), (160, .iconst 1, 1), (161, .iadd, 1), (162, .iaload, 1), (163, .aload_n 0, 1), (164, .iload_n 3, 1), (165, .iconst 2, 1), (166, .iadd, 1), (167, .iaload, 1), (168, .aload_n 0, 1), (169, .iload_n 3, 1), (170, .iconst 3, 1), (171, .iadd, 1), (172, .iaload, 1), (173, .aload_n 0, 1), (174, .iload_n 3, 1), (175, .iconst 4, 1), (176, .iadd, 1), (177, .iaload, 1), (178, .aload_n 0, 1), (179, .iload_n 3, 1), (180, .iconst 5, 1), (181, .iadd, 1), (182, .iaload, 1), (183, .invokevirtual 17, 3), (186, .if_icmp .eq 618, 3), (189, .iconst 0, 1), (190, .ireturn, 1), (191, .aload_n 1, 1), (192, .aload_n 0, 1), (193, .iload_n 3, 1), (194, .iconst 1, 1), (195, .iadd, 1), (196, .iaload, 1), (197, .invokevirtual 18, 3), (200, .aload_n 2, 1), (201, .aload_n 0, 1), (202, .iload_n 3, 1), (203, .iconst 1, 1), (204, .iadd, 1), (205, .iaload, 1), (206, .invokevirtual 22, 3), (209, .if_icmp .eq 595, 3), (212, .iconst 0, 1), (213, .ireturn, 1)]
theorem tkL_1 : tbL_1.all (fun q => decide (decode code q.1 = .ok q.2)) = true := by decide +kernel
def tbL_2 : List (Nat × Instr × Nat) := [(214, .aload_n 1, 1), (215, .aload_n 0, 1), (216, .iload_n 3, 1), (217, .iconst 1, 1), (218, .iadd, 1), (219, .iaload, 1), (220, .invokevirtual 23, 3), (223, .aload_n 2, 1), (224, .aload_n 0, 1), (225, .iload_n 3, 1), (226, .iconst 1, 1), (227, .iadd, 1), (228, .iaload, 1), (229, .invokevirtual 27, 3), (232, .if_icmp .eq 572, 3), (235, .iconst 0, 1), (236, .ireturn, 1), (237, .aload_n 1, 1), (238, .aload_n 0, 1), (239, .iload_n 3, 1), (240, .iconst 1, 1), (241, .iadd, 1), (242, .iaload, 1), (243, .invokevirtual 28, 3), (246, .aload_n 2, 1), (247, .aload_n 0, 1), (248, .iload_n 3, 1), (249, .iconst 1, 1), (250, .iadd, 1), (251, .iaload, 1), (252, .invokevirtual 31, 3), (255, .if_icmp .eq 549, 3), (258, .iconst 0, 1), (259, .ireturn, 1), (260, .aload_n 1, 1), (261, .aload_n 0, 1), (262, .iload_n 3, 1), (263, .iconst 1, 1), (264, .iadd, 1), (265, .iaload, 1), (266, .aload_n 0, 1), (267, .iload_n 3, 1), (268, .iconst 2, 1), (269, .iadd, 1), (270, .iaload, 1), (271, .aload_n 0, 1), (272, .iload_n 3, 1), (273, .iconst 3, 1)]
theorem tkL_2 : tbL_2.all (fun q => decide (decode code q.1 = .ok q.2)) = true := by decide +kernel
def tbL_3 : List (Nat × Instr × Nat) := [(274, .iadd, 1), (275, .iaload, 1), (276, .invokevirtual 32, 3), (279, .aload_n 2, 1), (280, .aload_n 0, 1), (281, .iload_n 3, 1), (282, .iconst 1, 1), (283, .iadd, 1), (284, .iaload, 1), (285, .aload_n 0, 1), (286, .iload_n 3, 1), (287, .iconst 2, 1), (288, .iadd, 1), (289, .iaload, 1), (290, .aload_n 0, 1), (291, .iload_n 3, 1), (292, .iconst 3, 1), (293, .iadd, 1), (294, .iaload, 1), (295, .invokevirtual 36, 3), (298, .if_icmp .eq 506, 3), (301, .iconst 0, 1), (302, .ireturn, 1), (303, .aload_n 1, 1), (304, .aload_n 0, 1), (305, .iload_n 3, 1), (306, .iconst 1, 1), (307, .iadd, 1), (308, .iaload, 1), (309, .aload_n 0, 1), (310, .iload_n 3, 1), (311, .iconst 2, 1), (312, .iadd, 1), (313, .iaload, 1), (314, .aload_n 0, 1), (315, .iload_n 3, 1), (316, .iconst 3, 1), (317, .iadd, 1), (318, .iaload, 1), (319, .invokevirtual 37, 3), (322, .aload_n 2, 1), (323, .aload_n 0, 1), (324, .iload_n 3, 1), (325, .iconst 1, 1), (326, .iadd, 1), (327, .iaload, 1), (328, .aload_n 0, 1), (329, .iload_n 3, 1)]
theorem tkL_3 : tbL_3.all (fun q => decide (decode code q.1 = .ok q.2)) = true := by decide +kernel
def tbL_4 : List (Nat × Instr × Nat) := [(330, .iconst 2, 1), (331, .iadd, 1), (332, .iaload, 1), (333, .aload_n 0, 1), (334, .iload_n 3, 1), (335, .iconst 3, 1), (336, .iadd, 1), (337, .iaload, 1), (338, .invokevirtual 41, 3), (341, .if_icmp .eq 463, 3), (344, .iconst 0, 1), (345, .ireturn, 1), (346, .aload_n 1, 1), (347, .aload_n 0, 1), (348, .iload_n 3, 1), (349, .iconst 1, 1), (350, .iadd, 1), (351, .iaload, 1), (352, .invokevirtual 42, 3), (355, .aload_n 2, 1), (356, .aload_n 0, 1), (357, .iload_n 3, 1), (358, .iconst 1, 1), (359, .iadd, 1), (360, .iaload, 1), (361, .invokevirtual 45, 3), (364, .if_icmp .eq 440, 3), (367, .iconst 0, 1), (368, .ireturn, 1), (369, .aload_n 1, 1), (370, .aload_n 0, 1), (371, .iload_n 3, 1), (372, .iconst 1, 1), (373, .iadd, 1), (374, .iaload, 1), (375, .aload_n 0, 1), (376, .iload_n 3, 1), (377, .iconst 2, 1), (378, .iadd, 1), (379, .iaload, 1), (380, .invokevirtual 46, 3), (383, .aload_n 2, 1), (384, .aload_n 0, 1), (385, .iload_n 3, 1), (386, .iconst 1, 1), (387, .iadd, 1), (388, .iaload, 1), (389, .aload_n 0, 1)]
theorem tkL_4 : tbL_4.all (fun q => decide (decode code q.1 = .ok q.2)) = true := by decide +kernel
def tbL_5 : List (Nat × Instr × Nat) := [(390, .iload_n 3, 1), (391, .iconst 2, 1), (392, .iadd, 1), (393, .iaload, 1), (394, .invokevirtual 50, 3), (397, .if_icmp .eq 407, 3), (400, .iconst 0, 1), (401, .ireturn, 1), (402, .aload_n 1, 1), (403, .aload_n 0, 1), (404, .iload_n 3, 1), (405, .iconst 1, 1), (406, .iadd, 1), (407, .iaload, 1), (408, .aload_n 0, 1), (409, .iload_n 3, 1), (410, .iconst 2, 1), (411, .iadd, 1), (412, .iaload, 1), (413, .invokevirtual 51, 3), (416, .aload_n 2, 1), (417, .aload_n 0, 1), (418, .iload_n 3, 1), (419, .iconst 1, 1), (420, .iadd, 1), (421, .iaload, 1), (422, .aload_n 0, 1), (423, .iload_n 3, 1), (424, .iconst 2, 1), (425, .iadd, 1), (426, .iaload, 1), (427, .invokevirtual 54, 3), (430, .if_icmp .eq 374, 3), (433, .iconst 0, 1), (434, .ireturn, 1), (435, .aload_n 1, 1), (436, .aload_n 0, 1), (437, .iload_n 3, 1), (438, .iconst 1, 1), (439, .iadd, 1), (440, .iaload, 1), (441, .aload_n 0, 1), (442, .iload_n 3, 1), (443, .iconst 2, 1), (444, .iadd, 1), (445, .iaload, 1), (446, .aload_n 0, 1), (447, .iload_n 3, 1)]
theorem tkL_5 : tbL_5.all (fun q => decide (decode code q.1 = .ok q.2)) = true := by decide +kernel
def tbL_6 : List (Nat × Instr × Nat) := [(448, .iconst 3, 1), (449, .iadd, 1), (450, .iaload, 1), (451, .invokevirtual 55, 3), (454, .aload_n 2, 1), (455, .aload_n 0, 1), (456, .iload_n 3, 1), (457, .iconst 1, 1), (458, .iadd, 1), (459, .iaload, 1), (460, .aload_n 0, 1), (461, .iload_n 3, 1), (462, .iconst 2, 1), (463, .iadd, 1), (464, .iaload, 1), (465, .aload_n 0, 1), (466, .iload_n 3, 1), (467, .iconst 3, 1), (468, .iadd, 1), (469, .iaload, 1), (470, .invokevirtual 58, 3), (473, .if_icmp .eq 331, 3), (476, .iconst 0, 1), (477, .ireturn, 1), (478, .aload_n 1, 1), (479, .aload_n 0, 1), (480, .iload_n 3, 1), (481, .iconst 1, 1), (482, .iadd, 1), (483, .iaload, 1), (484, .invokevirtual 59, 3), (487, .aload_n 2, 1), (488, .aload_n 0, 1), (489, .iload_n 3, 1), (490, .iconst 1, 1), (491, .iadd, 1), (492, .iaload, 1), (493, .invokevirtual 62, 3), (496, .if_icmp .eq 308, 3), (499, .iconst 0, 1), (500, .ireturn, 1), (501, .aload_n 1, 1), (502, .aload_n 0, 1), (503, .iload_n 3, 1), (504, .iconst 1, 1), (505, .iadd, 1), (506, .iaload, 1), (507, .aload_n 0, 1)]
theorem tkL_6 : tbL_6.all (fun q => decide (decode code q.1 = .ok q.2)) = true := by decide +kernel
def tbL_7 : List (Nat × Instr × Nat) := [(508, .iload_n 3, 1), (509, .iconst 2, 1), (510, .iadd, 1), (511, .iaload, 1), (512, .invokevirtual 63, 3), (515, .aload_n 2, 1), (516, .aload_n 0, 1), (517, .iload_n 3, 1), (518, .iconst 1, 1), (519, .iadd, 1), (520, .iaload, 1), (521, .aload_n 0, 1), (522, .iload_n 3, 1), (523, .iconst 2, 1), (524, .iadd, 1), (525, .iaload, 1), (526, .invokevirtual 66, 3), (529, .if_icmp .eq 275, 3), (532, .iconst 0, 1), (533, .ireturn, 1), (534, .aload_n 1, 1), (535, .aload_n 0, 1), (536, .iload_n 3, 1), (537, .iconst 1, 1), (538, .iadd, 1), (539, .iaload, 1), (540, .aload_n 0, 1), (541, .iload_n 3, 1), (542, .iconst 2, 1), (543, .iadd, 1), (544, .iaload, 1), (545, .invokevirtual 67, 3), (548, .aload_n 2, 1), (549, .aload_n 0, 1), (550, .iload_n 3, 1), (551, .iconst 1, 1), (552, .iadd, 1), (553, .iaload, 1), (554, .aload_n 0, 1), (555, .iload_n 3, 1), (556, .iconst 2, 1), (557, .iadd, 1), (558, .iaload, 1), (559, .invokevirtual 70, 3), (562, .if_icmp .eq 242, 3), (565, .iconst 0, 1), (566, .ireturn, 1), (567, .aload_n 1, 1)]
theorem tkL_7 : tbL_7.all (fun q => decide (decode code q.1 = .ok q.2)) = true := by decide +kernel
def tbL_8 : List (Nat × Instr × Nat) := [(568, .aload_n 0, 1), (569, .iload_n 3, 1), (570, .iconst 1, 1), (571, .iadd, 1), (572, .iaload, 1), (573, .invokevirtual 71, 3), (576, .aload_n 2, 1), (577, .aload_n 0, 1), (578, .iload_n 3, 1), (579, .iconst 1, 1), (580, .iadd, 1), (581, .iaload, 1), (582, .invokevirtual 74, 3), (585, .if_icmp .eq 219, 3), (588, .iconst 0, 1), (589, .ireturn, 1), (590, .aload_n 1, 1), (591, .aload_n 0, 1), (592, .iload_n 3, 1), (593, .iconst 1, 1), (594, .iadd, 1), (595, .iaload, 1), (596, .aload_n 0, 1), (597, .iload_n 3, 1), (598, .iconst 2, 1), (599, .iadd, 1), (600, .iaload, 1), (601, .aload_n 0, 1), (602, .iload_n 3, 1), (603, .iconst 3, 1), (604, .iadd, 1), (605, .iaload, 1), (606, .aload_n 0, 1), (607, .iload_n 3, 1), (608, .iconst 4, 1), (609, .iadd, 1), (610, .iaload, 1), (611, .invokevirtual 75, 3), (614, .aload_n 2, 1), (615, .aload_n 0, 1), (616, .iload_n 3, 1), (617, .iconst 1, 1), (618, .iadd, 1), (619, .iaload, 1), (620, .aload_n 0, 1), (621, .iload_n 3, 1), (622, .iconst 2, 1), (623, .iadd, 1)]
theorem tkL_8 : tbL_8.all (fun q => decide (decode code q.1 = .ok q.2)) = true := by decide +kernel
def tbL_9 : List (Nat × Instr × Nat) := [(624, .iaload, 1), (625, .aload_n 0, 1), (626, .iload_n 3, 1), (627, .iconst 3, 1), (628, .iadd, 1), (629, .iaload, 1), (630, .aload_n 0, 1), (631, .iload_n 3, 1), (632, .iconst 4, 1), (633, .iadd, 1), (634, .iaload, 1), (635, .invokevirtual 79, 3), (638, .if_icmp .eq 166, 3), (641, .iconst 0, 1), (642, .ireturn, 1), (643, .aload_n 1, 1), (644, .aload_n 0, 1), (645, .iload_n 3, 1), (646, .iconst 1, 1), (647, .iadd, 1), (648, .iaload, 1), (649, .aload_n 0, 1), (650, .iload_n 3, 1), (651, .iconst 2, 1), (652, .iadd, 1), (653, .iaload, 1), (654, .invokevirtual 80, 3), (657, .aload_n 2, 1), (658, .aload_n 0, 1), (659, .iload_n 3, 1), (660, .iconst 1, 1), (661, .iadd, 1), (662, .iaload, 1), (663, .aload_n 0, 1), (664, .iload_n 3, 1), (665, .iconst 2, 1), (666, .iadd, 1), (667, .iaload, 1), (668, .invokevirtual 83, 3), (671, .if_icmp .eq 133, 3), (674, .iconst 0, 1), (675, .ireturn, 1), (676, .aload_n 1, 1), (677, .aload_n 0, 1), (678, .iload_n 3, 1), (679, .iconst 1, 1), (680, .iadd, 1), (681, .iaload, 1)]
theorem tkL_9 : tbL_9.all (fun q => decide (decode code q.1 = .ok q.2)) = true := by decide +kernel
def tbL_10 : List (Nat × Instr × Nat) := [(682, .aload_n 0, 1), (683, .iload_n 3, 1), (684, .iconst 2, 1), (685, .iadd, 1), (686, .iaload, 1), (687, .invokevirtual 84, 3), (690, .aload_n 2, 1), (691, .aload_n 0, 1), (692, .iload_n 3, 1), (693, .iconst 1, 1), (694, .iadd, 1), (695, .iaload, 1), (696, .aload_n 0, 1), (697, .iload_n 3, 1), (698, .iconst 2, 1), (699, .iadd, 1), (700, .iaload, 1), (701, .invokevirtual 87, 3), (704, .if_icmp .eq 100, 3), (707, .iconst 0, 1), (708, .ireturn, 1), (709, .aload_n 1, 1), (710, .aload_n 0, 1), (711, .iload_n 3, 1), (712, .iconst 1, 1), (713, .iadd, 1), (714, .iaload, 1), (715, .aload_n 0, 1), (716, .iload_n 3, 1), (717, .iconst 2, 1), (718, .iadd, 1), (719, .iaload, 1), (720, .invokevirtual 88, 3), (723, .aload_n 2, 1), (724, .aload_n 0, 1), (725, .iload_n 3, 1), (726, .iconst 1, 1), (727, .iadd, 1), (728, .iaload, 1), (729, .aload_n 0, 1), (730, .iload_n 3, 1), (731, .iconst 2, 1), (732, .iadd, 1), (733, .iaload, 1), (734, .invokevirtual 91, 3), (737, .if_icmp .eq 67, 3), (740, .iconst 0, 1), (741, .ireturn, 1)]
theorem tkL_10 : tbL_10.all (fun q => decide (decode code q.1 = .ok q.2)) = true := by decide +kernel
def tbL_11 : List (Nat × Instr × Nat) := [(742, .aload_n 1, 1), (743, .aload_n 0, 1), (744, .iload_n 3, 1), (745, .iconst 1, 1), (746, .iadd, 1), (747, .iaload, 1), (748, .ifCond .eq 7, 3), (751, .iconst 1, 1), (752, .goto 4, 3), (755, .iconst 0, 1), (756, .invokevirtual 92, 3), (759, .aload_n 2, 1), (760, .aload_n 0, 1), (761, .iload_n 3, 1), (762, .iconst 1, 1), (763, .iadd, 1), (764, .iaload, 1), (765, .ifCond .eq 7, 3), (768, .iconst 1, 1), (769, .goto 4, 3), (772, .iconst 0, 1), (773, .invokevirtual 96, 3), (776, .if_icmp .eq 28, 3), (779, .iconst 0, 1), (780, .ireturn, 1), (781, .aload_n 1, 1), (782, .aload_n 0, 1), (783, .iload_n 3, 1), (784, .iconst 1, 1), (785, .iadd, 1), (786, .iaload, 1), (787, .invokevirtual 97, 3), (790, .aload_n 2, 1), (791, .aload_n 0, 1), (792, .iload_n 3, 1), (793, .iconst 1, 1), (794, .iadd, 1), (795, .iaload, 1), (796, .invokevirtual 100, 3), (799, .if_icmp .eq 5, 3), (802, .iconst 0, 1), (803, .ireturn, 1), (804, .iinc 3 6, 3), (807, .goto (-789), 3), (810, .iconst 1, 1), (811, .ireturn, 1)]
theorem tkL_11 : tbL_11.all (fun q => decide (decode code q.1 = .ok q.2)) = true := by decide +kernel
section LAW
variable {p : Program} {l : Launch} {e : Env} {s : State} {m : MethodId} {below : List Frame} {meth : Method} {c : Code} {b : Nat} {D : va_G} {tys : List (ClassId × FieldType)} {ad : Nat → Nat} {cA : Nat → ClassId} {adV : Nat → Nat}
theorem law_call {y : MethodName} {cc : ByteArray} {nL : Nat} {ret : Option FieldType} {d : Nat} {f : mSem} {ix k ci n : Nat} {fs : List (Option Nat)} {T : u_T} {N : Nat} {H : Heap} {locs : List Loc} {lsA : Array Slot} {bs rest : List Value} {r : Int32} {C C' : mMem} {cells slots pc : Nat} {Q : State → Prop}
    (hx : p.tables.exec = Jvm.exec) (hb : c.code = code) (hml : c.maxLocals = 4) (hown : s.vm.findClass R_law = some m.cls) (hts : ∀ w ∈ gX ++ lw_tbl, w.before #[Value.ref b] s = true) (hK : va_K D clsL tys s) (hinj : ∀ i j, i < SH.length → j < SH.length → ad i = ad j → i = j) (hAd : ∀ k, k < SH.length → s.heap.size ≤ ad k) (hT : mT SH cA tys) (hStr : mStr ad adV (fun q => s.heap.size ≤ q) s s.heap)
    (hM : mMet l y cc nL ret d f) (hf : f (.ref k :: bs) C = some (some r, C')) (hcat : ∀ v ∈ bs, v.category = 1) (hw : wdV R_law ix y cc nL ret) (hsh : SH[k]? = some (.inr (.inr (ci, fs)))) (hci : clsL[ci]? = some (y.cls, T, N)) (hd : d ≤ 2000) (hn : nL ≤ 21)
    (hy : y.cls ≠ "java/lang/invoke/MethodHandle" ∧ y.cls ≠ "java/lang/invoke/VarHandle" ∧ (parseMethodDescriptor y.desc).map (fun d => d.parameters.length) = some n) (hbs : bs.length = n) (hsum : (rest.map fun v => v.category).sum ≤ 8) (hP : va_P D clsL (mW SH ad cA C) H) (hS : va_S (fun q => s.heap.size ≤ q) s.heap H locs) (hsz : lsA.size = 4) (hdec : decode code pc = .ok (.invokevirtual ix, 3)) (hcells : cells ≤ 600000) (hslots : slots ≤ 7302250)
    (kk : ∀ (H' : Heap) (locs' : List Loc), va_P D clsL (mW SH ad cA C') H' → va_S (fun q => s.heap.size ≤ q) s.heap H' locs' → W p l e room_1 s m #[Value.ref b] below meth c H' locs' cells slots Q (F0 m (pc + 3) lsA (.int r :: rest))) :
    W p l e room_1 s m #[Value.ref b] below meth c H locs cells slots Q (F0 m pc lsA ((bs.map (mV ad)).reverse ++ .ref (ad k) :: rest)) := by
  have hin : ∀ w ∈ gT, w ∈ gX ++ lw_tbl := fun w hw => (List.mem_append.mp hw).elim (fun z => List.mem_append_left _ z) (fun z => List.mem_append_right _ (List.mem_filter.mp z).1)
  have hG : GoodIn (gX ++ lw_tbl) (wsV R_law ix y.cls y (wY y cc nL ret)) := by
    intro w hw'
    have h1 : w ∈ gT := by
      unfold wsV at hw'
      rcases List.mem_append.mp hw' with z | z
      · simp only [List.mem_cons, List.not_mem_nil, or_false] at z
        rcases z with rfl | rfl | rfl | rfl
        · exact hw.1
        · exact hw.2.1
        · exact hw.2.2.1
        · exact hw.2.2.2.1
      · exact wY_in hw.2.2.2.2 w z
    exact ⟨hin w h1, gT_good h1⟩
  have hA1 : ∀ q, mAd ad H.size q → s.heap.size ≤ q := by
    intro q hq
    rcases hq with ⟨k, hk, rfl⟩ | hq
    · exact hAd k hk
    · exact Nat.le_trans hS.1 hq
  have hcat2 : ∀ v ∈ Value.ref k :: bs, v.category = 1 := fun v hv => (List.mem_cons.mp hv).elim (fun e => by rw [e]; rfl) (hcat v)
  have run := va_runV (p := p) (l := l) (e := e) (R := room_1) (s := s) (m := m) (args := #[Value.ref b]) (below := below) (meth := meth) (c := c) (H := H) (locs := locs) (cells := cells) (slots := slots) (g := F0 m pc lsA (((bs.map (mV ad)).reverse) ++ .ref (ad k) :: rest)) (As := bs.map (mV ad)) (rest := rest) (b := ad k) ⟨hx, hb, hml, hown, hts⟩ (hM D tys ad cA adV H.size C _ (some r) C' hcat2 hf)
    (cwV n hts hG rfl rfl rfl ⟨rfl, hy⟩ ⟨by show d + 1 ≤ 2048; omega, by show 8 + (nL + 11) + 40 * d ≤ 84000; omega⟩)
    ⟨mPre_blind, va_recv hK hP hci (mW_at hsh), fun U hU hW => ⟨rfl, by rw [hU], by rw [hU]; exact hP, va_K.moved hW.alike hK, hinj, hT, by rw [hU]; exact mStr_go hStr hS.2.1 hW hA1⟩⟩ rfl (by rw [List.length_map]; exact hbs) hsz rfl (lv_room hsum) hdec ⟨by show cells + 0 ≤ 600000; omega, by show slots + 0 ≤ 7302250; omega⟩
  exact va_calli (a := (Value.ref (ad k) :: bs.map (mV ad)).toArray) run hS (fun q _ h => hA1 q h) (fun q h => hA1 q h) (fun z u t H1 locs1 ht hvm hw' hB hz1 hk1 hS1 => by rw [hw']; exact kk H1 locs1 (by rw [← ht]; exact hB) hS1)
theorem law_exit {x L i : Nat} (hL : L ≤ 3072) (hi : i ≤ 4000) : nI L - 6 < nI i ↔ ¬ i + 6 ≤ L := by
  rw [show (6 : Int32) = nI 6 from rfl, Int32.lt_iff_toInt_lt, pk_sub_toInt (by omega) (by omega), nI_toInt (by omega)]
  omega
theorem law_in {L i j : Nat} (hL : L ≤ 3072) (h : i + j < L) : vp_in (nI i + nI j) L := by
  rw [nI_add]; exact vp_in_nI h (by omega)
set_option maxHeartbeats 4000000 in
theorem law_case_0 {L : Nat} {xs : Nat → Int32} {Inv : mMem → Prop} {cells slots : Nat} (hL : L ≤ 3072) (C0 : lw_At p s m meth c b L xs) (hops : opsOK Inv) (hts : ∀ w ∈ gX ++ lw_tbl, w.before #[Value.ref b] s = true) (hK : va_K D clsL tys s) (hinj : ∀ i j, i < SH.length → j < SH.length → ad i = ad j → i = j) (hAd : ∀ k, k < SH.length → s.heap.size ≤ ad k) (hT : mT SH cA tys) (hStr : mStr ad adV (fun q => s.heap.size ≤ q) s s.heap) (hcells : cells ≤ 600000) (hslots : slots ≤ 7302250) {i : Nat} (hi : i + 6 ≤ L) {C : mMem} {H : Heap} {locs : List Loc} {lsA : Array Slot} (hI : Inv C) (hP : va_P D clsL (mW SH ad cA C) H) (hS : va_S (fun q => s.heap.size ≤ q) s.heap H locs) (hl : lv_has lsA 4 [(0, .ref b), (1, .ref (ad 0)), (2, .ref (ad 139)), (3, .int (nI i))]) (go : ∀ (C : mMem) (H : Heap) (locs : List Loc), Inv C → va_P D clsL (mW SH ad cA C) H → va_S (fun q => s.heap.size ≤ q) s.heap H locs → W p l e room_1 s m #[Value.ref b] below meth c H locs cells slots (lw_Z below #[Value.ref b] s) (F0 m 804 lsA [])) : W p l e room_1 s m #[Value.ref b] below meth c H locs cells slots (lw_Z below #[Value.ref b] s) (F0 m 128 lsA []) := by
  obtain ⟨hx, hb, hr, hml, hown, -, hX, hbl, hlocks, hgv⟩ := id C0
  have hbA : ¬ (fun q : Nat => s.heap.size ≤ q) b := Nat.not_le.mpr hbl
  obtain ⟨r, C1, C2, h1, h2, hI2⟩ := hops.1 (xs (nI i + nI 1).toNatClampNeg) (xs (nI i + nI 2).toNatClampNeg) (xs (nI i + nI 3).toNatClampNeg) (xs (nI i + nI 4).toNatClampNeg) (xs (nI i + nI 5).toNatClampNeg) C hI
  refine lv_aload_n hx hb (tbl tkL_0 22 rfl) rfl (lv_at hl 1 rfl) ?_
  refine lv_aload_n hx hb (tbl tkL_0 23 rfl) rfl (lv_at hl 0 rfl) ?_
  refine lv_iload_n hx hb (tbl tkL_0 24 rfl) rfl (lv_at hl 3 rfl) ?_
  refine lv_iconst (v := nI 1) hx hb (tbl tkL_0 25 rfl) (by decide) ?_
  refine lv_iadd hx hb (tbl tkL_0 26 rfl) ?_
  refine va_sld hx hb hX hbl hbA hS (law_in hL (by omega)) (tbl tkL_0 27 rfl) ?_
  refine lv_aload_n hx hb (tbl tkL_0 28 rfl) rfl (lv_at hl 0 rfl) ?_
  refine lv_iload_n hx hb (tbl tkL_0 29 rfl) rfl (lv_at hl 3 rfl) ?_
  refine lv_iconst (v := nI 2) hx hb (tbl tkL_0 30 rfl) (by decide) ?_
  refine lv_iadd hx hb (tbl tkL_0 31 rfl) ?_
  refine va_sld hx hb hX hbl hbA hS (law_in hL (by omega)) (tbl tkL_0 32 rfl) ?_
  refine lv_aload_n hx hb (tbl tkL_0 33 rfl) rfl (lv_at hl 0 rfl) ?_
  refine lv_iload_n hx hb (tbl tkL_0 34 rfl) rfl (lv_at hl 3 rfl) ?_
  refine lv_iconst (v := nI 3) hx hb (tbl tkL_0 35 rfl) (by decide) ?_
  refine lv_iadd hx hb (tbl tkL_0 36 rfl) ?_
  refine va_sld hx hb hX hbl hbA hS (law_in hL (by omega)) (tbl tkL_0 37 rfl) ?_
  refine lv_aload_n hx hb (tbl tkL_0 38 rfl) rfl (lv_at hl 0 rfl) ?_
  refine lv_iload_n hx hb (tbl tkL_0 39 rfl) rfl (lv_at hl 3 rfl) ?_
  refine lv_iconst (v := nI 4) hx hb (tbl tkL_0 40 rfl) (by decide) ?_
  refine lv_iadd hx hb (tbl tkL_0 41 rfl) ?_
  refine va_sld hx hb hX hbl hbA hS (law_in hL (by omega)) (tbl tkL_0 42 rfl) ?_
  refine lv_aload_n hx hb (tbl tkL_0 43 rfl) rfl (lv_at hl 0 rfl) ?_
  refine lv_iload_n hx hb (tbl tkL_0 44 rfl) rfl (lv_at hl 3 rfl) ?_
  refine lv_iconst (v := nI 5) hx hb (tbl tkL_0 45 rfl) (by decide) ?_
  refine lv_iadd hx hb (tbl tkL_0 46 rfl) ?_
  refine va_sld hx hb hX hbl hbA hS (law_in hL (by omega)) (tbl tkL_0 47 rfl) ?_
  refine law_call (bs := [.int (xs (nI i + nI 1).toNatClampNeg), .int (xs (nI i + nI 2).toNatClampNeg), .int (xs (nI i + nI 3).toNatClampNeg), .int (xs (nI i + nI 4).toNatClampNeg), .int (xs (nI i + nI 5).toNatClampNeg)]) (rest := []) (k := 0) (ci := 9) hx hb hml hown hts hK hinj hAd hT hStr (met_F_feed l) h1 (by intro v hv; simp only [List.mem_cons, List.not_mem_nil, or_false] at hv; rcases hv with rfl | rfl | rfl | rfl | rfl <;> rfl) ⟨gt2 179 rfl rfl, wq_F_feed⟩ rfl rfl (by decide) (by decide) wn_F_feed rfl (Nat.le_of_ble_eq_true rfl) hP hS hl.1 (tbl tkL_1 0 rfl) hcells hslots (fun H locs hP hS => ?_)
  refine lv_aload_n hx hb (tbl tkL_1 1 rfl) rfl (lv_at hl 2 rfl) ?_
  refine lv_aload_n hx hb (tbl tkL_1 2 rfl) rfl (lv_at hl 0 rfl) ?_
  refine lv_iload_n hx hb (tbl tkL_1 3 rfl) rfl (lv_at hl 3 rfl) ?_
  refine lv_iconst (v := nI 1) hx hb (tbl tkL_1 4 rfl) (by decide) ?_
  refine lv_iadd hx hb (tbl tkL_1 5 rfl) ?_
  refine va_sld hx hb hX hbl hbA hS (law_in hL (by omega)) (tbl tkL_1 6 rfl) ?_
  refine lv_aload_n hx hb (tbl tkL_1 7 rfl) rfl (lv_at hl 0 rfl) ?_
  refine lv_iload_n hx hb (tbl tkL_1 8 rfl) rfl (lv_at hl 3 rfl) ?_
  refine lv_iconst (v := nI 2) hx hb (tbl tkL_1 9 rfl) (by decide) ?_
  refine lv_iadd hx hb (tbl tkL_1 10 rfl) ?_
  refine va_sld hx hb hX hbl hbA hS (law_in hL (by omega)) (tbl tkL_1 11 rfl) ?_
  refine lv_aload_n hx hb (tbl tkL_1 12 rfl) rfl (lv_at hl 0 rfl) ?_
  refine lv_iload_n hx hb (tbl tkL_1 13 rfl) rfl (lv_at hl 3 rfl) ?_
  refine lv_iconst (v := nI 3) hx hb (tbl tkL_1 14 rfl) (by decide) ?_
  refine lv_iadd hx hb (tbl tkL_1 15 rfl) ?_
  refine va_sld hx hb hX hbl hbA hS (law_in hL (by omega)) (tbl tkL_1 16 rfl) ?_
  refine lv_aload_n hx hb (tbl tkL_1 17 rfl) rfl (lv_at hl 0 rfl) ?_
  refine lv_iload_n hx hb (tbl tkL_1 18 rfl) rfl (lv_at hl 3 rfl) ?_
  refine lv_iconst (v := nI 4) hx hb (tbl tkL_1 19 rfl) (by decide) ?_
  refine lv_iadd hx hb (tbl tkL_1 20 rfl) ?_
  refine va_sld hx hb hX hbl hbA hS (law_in hL (by omega)) (tbl tkL_1 21 rfl) ?_
  refine lv_aload_n hx hb (tbl tkL_1 22 rfl) rfl (lv_at hl 0 rfl) ?_
  refine lv_iload_n hx hb (tbl tkL_1 23 rfl) rfl (lv_at hl 3 rfl) ?_
  refine lv_iconst (v := nI 5) hx hb (tbl tkL_1 24 rfl) (by decide) ?_
  refine lv_iadd hx hb (tbl tkL_1 25 rfl) ?_
  refine va_sld hx hb hX hbl hbA hS (law_in hL (by omega)) (tbl tkL_1 26 rfl) ?_
  refine law_call (bs := [.int (xs (nI i + nI 1).toNatClampNeg), .int (xs (nI i + nI 2).toNatClampNeg), .int (xs (nI i + nI 3).toNatClampNeg), .int (xs (nI i + nI 4).toNatClampNeg), .int (xs (nI i + nI 5).toNatClampNeg)]) (rest := [.int r]) (k := 139) (ci := 10) hx hb hml hown hts hK hinj hAd hT hStr (met_M_feed l) h2 (by intro v hv; simp only [List.mem_cons, List.not_mem_nil, or_false] at hv; rcases hv with rfl | rfl | rfl | rfl | rfl <;> rfl) ⟨gt5 203 rfl rfl, wq_M_feed⟩ rfl rfl (by decide) (by decide) wn_M_feed rfl (Nat.le_of_ble_eq_true rfl) hP hS hl.1 (tbl tkL_1 27 rfl) hcells hslots (fun H locs hP hS => ?_)
  refine lv_icmp_eq (tgt := 804) hx hb (tbl tkL_1 28 rfl) (by decide) (fun _ => ?_) (fun q => absurd rfl q)
  exact go C2 H locs hI2 hP hS
set_option maxHeartbeats 4000000 in
theorem law_case_1 {L : Nat} {xs : Nat → Int32} {Inv : mMem → Prop} {cells slots : Nat} (hL : L ≤ 3072) (C0 : lw_At p s m meth c b L xs) (hops : opsOK Inv) (hts : ∀ w ∈ gX ++ lw_tbl, w.before #[Value.ref b] s = true) (hK : va_K D clsL tys s) (hinj : ∀ i j, i < SH.length → j < SH.length → ad i = ad j → i = j) (hAd : ∀ k, k < SH.length → s.heap.size ≤ ad k) (hT : mT SH cA tys) (hStr : mStr ad adV (fun q => s.heap.size ≤ q) s s.heap) (hcells : cells ≤ 600000) (hslots : slots ≤ 7302250) {i : Nat} (hi : i + 6 ≤ L) {C : mMem} {H : Heap} {locs : List Loc} {lsA : Array Slot} (hI : Inv C) (hP : va_P D clsL (mW SH ad cA C) H) (hS : va_S (fun q => s.heap.size ≤ q) s.heap H locs) (hl : lv_has lsA 4 [(0, .ref b), (1, .ref (ad 0)), (2, .ref (ad 139)), (3, .int (nI i))]) (go : ∀ (C : mMem) (H : Heap) (locs : List Loc), Inv C → va_P D clsL (mW SH ad cA C) H → va_S (fun q => s.heap.size ≤ q) s.heap H locs → W p l e room_1 s m #[Value.ref b] below meth c H locs cells slots (lw_Z below #[Value.ref b] s) (F0 m 804 lsA [])) : W p l e room_1 s m #[Value.ref b] below meth c H locs cells slots (lw_Z below #[Value.ref b] s) (F0 m 191 lsA []) := by
  obtain ⟨hx, hb, hr, hml, hown, -, hX, hbl, hlocks, hgv⟩ := id C0
  have hbA : ¬ (fun q : Nat => s.heap.size ≤ q) b := Nat.not_le.mpr hbl
  obtain ⟨r, C1, C2, h1, h2, hI2⟩ := hops.2.1 (xs (nI i + nI 1).toNatClampNeg) C hI
  refine lv_aload_n hx hb (tbl tkL_1 31 rfl) rfl (lv_at hl 1 rfl) ?_
  refine lv_aload_n hx hb (tbl tkL_1 32 rfl) rfl (lv_at hl 0 rfl) ?_
  refine lv_iload_n hx hb (tbl tkL_1 33 rfl) rfl (lv_at hl 3 rfl) ?_
  refine lv_iconst (v := nI 1) hx hb (tbl tkL_1 34 rfl) (by decide) ?_
  refine lv_iadd hx hb (tbl tkL_1 35 rfl) ?_
  refine va_sld hx hb hX hbl hbA hS (law_in hL (by omega)) (tbl tkL_1 36 rfl) ?_
  refine law_call (bs := [.int (xs (nI i + nI 1).toNatClampNeg)]) (rest := []) (k := 0) (ci := 9) hx hb hml hown hts hK hinj hAd hT hStr (met_F_end l) h1 (by intro v hv; simp only [List.mem_cons, List.not_mem_nil, or_false] at hv; rcases hv with rfl <;> rfl) ⟨gt2 187 rfl rfl, wq_F_end⟩ rfl rfl (by decide) (by decide) wn_F_end rfl (Nat.le_of_ble_eq_true rfl) hP hS hl.1 (tbl tkL_1 37 rfl) hcells hslots (fun H locs hP hS => ?_)
  refine lv_aload_n hx hb (tbl tkL_1 38 rfl) rfl (lv_at hl 2 rfl) ?_
  refine lv_aload_n hx hb (tbl tkL_1 39 rfl) rfl (lv_at hl 0 rfl) ?_
  refine lv_iload_n hx hb (tbl tkL_1 40 rfl) rfl (lv_at hl 3 rfl) ?_
  refine lv_iconst (v := nI 1) hx hb (tbl tkL_1 41 rfl) (by decide) ?_
  refine lv_iadd hx hb (tbl tkL_1 42 rfl) ?_
  refine va_sld hx hb hX hbl hbA hS (law_in hL (by omega)) (tbl tkL_1 43 rfl) ?_
  refine law_call (bs := [.int (xs (nI i + nI 1).toNatClampNeg)]) (rest := [.int r]) (k := 139) (ci := 10) hx hb hml hown hts hK hinj hAd hT hStr (met_M_end l) h2 (by intro v hv; simp only [List.mem_cons, List.not_mem_nil, or_false] at hv; rcases hv with rfl <;> rfl) ⟨gt5 207 rfl rfl, wq_M_end⟩ rfl rfl (by decide) (by decide) wn_M_end rfl (Nat.le_of_ble_eq_true rfl) hP hS hl.1 (tbl tkL_1 44 rfl) hcells hslots (fun H locs hP hS => ?_)
  refine lv_icmp_eq (tgt := 804) hx hb (tbl tkL_1 45 rfl) (by decide) (fun _ => ?_) (fun q => absurd rfl q)
  exact go C2 H locs hI2 hP hS
set_option maxHeartbeats 4000000 in
theorem law_case_2 {L : Nat} {xs : Nat → Int32} {Inv : mMem → Prop} {cells slots : Nat} (hL : L ≤ 3072) (C0 : lw_At p s m meth c b L xs) (hops : opsOK Inv) (hts : ∀ w ∈ gX ++ lw_tbl, w.before #[Value.ref b] s = true) (hK : va_K D clsL tys s) (hinj : ∀ i j, i < SH.length → j < SH.length → ad i = ad j → i = j) (hAd : ∀ k, k < SH.length → s.heap.size ≤ ad k) (hT : mT SH cA tys) (hStr : mStr ad adV (fun q => s.heap.size ≤ q) s s.heap) (hcells : cells ≤ 600000) (hslots : slots ≤ 7302250) {i : Nat} (hi : i + 6 ≤ L) {C : mMem} {H : Heap} {locs : List Loc} {lsA : Array Slot} (hI : Inv C) (hP : va_P D clsL (mW SH ad cA C) H) (hS : va_S (fun q => s.heap.size ≤ q) s.heap H locs) (hl : lv_has lsA 4 [(0, .ref b), (1, .ref (ad 0)), (2, .ref (ad 139)), (3, .int (nI i))]) (go : ∀ (C : mMem) (H : Heap) (locs : List Loc), Inv C → va_P D clsL (mW SH ad cA C) H → va_S (fun q => s.heap.size ≤ q) s.heap H locs → W p l e room_1 s m #[Value.ref b] below meth c H locs cells slots (lw_Z below #[Value.ref b] s) (F0 m 804 lsA [])) : W p l e room_1 s m #[Value.ref b] below meth c H locs cells slots (lw_Z below #[Value.ref b] s) (F0 m 214 lsA []) := by
  obtain ⟨hx, hb, hr, hml, hown, -, hX, hbl, hlocks, hgv⟩ := id C0
  have hbA : ¬ (fun q : Nat => s.heap.size ≤ q) b := Nat.not_le.mpr hbl
  obtain ⟨r, C1, C2, h1, h2, hI2⟩ := hops.2.2.1 (xs (nI i + nI 1).toNatClampNeg) C hI
  refine lv_aload_n hx hb (tbl tkL_2 0 rfl) rfl (lv_at hl 1 rfl) ?_
  refine lv_aload_n hx hb (tbl tkL_2 1 rfl) rfl (lv_at hl 0 rfl) ?_
  refine lv_iload_n hx hb (tbl tkL_2 2 rfl) rfl (lv_at hl 3 rfl) ?_
  refine lv_iconst (v := nI 1) hx hb (tbl tkL_2 3 rfl) (by decide) ?_
  refine lv_iadd hx hb (tbl tkL_2 4 rfl) ?_
  refine va_sld hx hb hX hbl hbA hS (law_in hL (by omega)) (tbl tkL_2 5 rfl) ?_
  refine law_call (bs := [.int (xs (nI i + nI 1).toNatClampNeg)]) (rest := []) (k := 0) (ci := 9) hx hb hml hown hts hK hinj hAd hT hStr (met_F_text l) h1 (by intro v hv; simp only [List.mem_cons, List.not_mem_nil, or_false] at hv; rcases hv with rfl <;> rfl) ⟨gt2 191 rfl rfl, wq_F_text⟩ rfl rfl (by decide) (by decide) wn_F_text rfl (Nat.le_of_ble_eq_true rfl) hP hS hl.1 (tbl tkL_2 6 rfl) hcells hslots (fun H locs hP hS => ?_)
  refine lv_aload_n hx hb (tbl tkL_2 7 rfl) rfl (lv_at hl 2 rfl) ?_
  refine lv_aload_n hx hb (tbl tkL_2 8 rfl) rfl (lv_at hl 0 rfl) ?_
  refine lv_iload_n hx hb (tbl tkL_2 9 rfl) rfl (lv_at hl 3 rfl) ?_
  refine lv_iconst (v := nI 1) hx hb (tbl tkL_2 10 rfl) (by decide) ?_
  refine lv_iadd hx hb (tbl tkL_2 11 rfl) ?_
  refine va_sld hx hb hX hbl hbA hS (law_in hL (by omega)) (tbl tkL_2 12 rfl) ?_
  refine law_call (bs := [.int (xs (nI i + nI 1).toNatClampNeg)]) (rest := [.int r]) (k := 139) (ci := 10) hx hb hml hown hts hK hinj hAd hT hStr (met_M_text l) h2 (by intro v hv; simp only [List.mem_cons, List.not_mem_nil, or_false] at hv; rcases hv with rfl <;> rfl) ⟨gt5 214 rfl rfl, wq_M_text⟩ rfl rfl (by decide) (by decide) wn_M_text rfl (Nat.le_of_ble_eq_true rfl) hP hS hl.1 (tbl tkL_2 13 rfl) hcells hslots (fun H locs hP hS => ?_)
  refine lv_icmp_eq (tgt := 804) hx hb (tbl tkL_2 14 rfl) (by decide) (fun _ => ?_) (fun q => absurd rfl q)
  exact go C2 H locs hI2 hP hS
set_option maxHeartbeats 4000000 in
theorem law_case_3 {L : Nat} {xs : Nat → Int32} {Inv : mMem → Prop} {cells slots : Nat} (hL : L ≤ 3072) (C0 : lw_At p s m meth c b L xs) (hops : opsOK Inv) (hts : ∀ w ∈ gX ++ lw_tbl, w.before #[Value.ref b] s = true) (hK : va_K D clsL tys s) (hinj : ∀ i j, i < SH.length → j < SH.length → ad i = ad j → i = j) (hAd : ∀ k, k < SH.length → s.heap.size ≤ ad k) (hT : mT SH cA tys) (hStr : mStr ad adV (fun q => s.heap.size ≤ q) s s.heap) (hcells : cells ≤ 600000) (hslots : slots ≤ 7302250) {i : Nat} (hi : i + 6 ≤ L) {C : mMem} {H : Heap} {locs : List Loc} {lsA : Array Slot} (hI : Inv C) (hP : va_P D clsL (mW SH ad cA C) H) (hS : va_S (fun q => s.heap.size ≤ q) s.heap H locs) (hl : lv_has lsA 4 [(0, .ref b), (1, .ref (ad 0)), (2, .ref (ad 139)), (3, .int (nI i))]) (go : ∀ (C : mMem) (H : Heap) (locs : List Loc), Inv C → va_P D clsL (mW SH ad cA C) H → va_S (fun q => s.heap.size ≤ q) s.heap H locs → W p l e room_1 s m #[Value.ref b] below meth c H locs cells slots (lw_Z below #[Value.ref b] s) (F0 m 804 lsA [])) : W p l e room_1 s m #[Value.ref b] below meth c H locs cells slots (lw_Z below #[Value.ref b] s) (F0 m 237 lsA []) := by
  obtain ⟨hx, hb, hr, hml, hown, -, hX, hbl, hlocks, hgv⟩ := id C0
  have hbA : ¬ (fun q : Nat => s.heap.size ≤ q) b := Nat.not_le.mpr hbl
  obtain ⟨r, C1, C2, h1, h2, hI2⟩ := hops.2.2.2.1 (xs (nI i + nI 1).toNatClampNeg) C hI
  refine lv_aload_n hx hb (tbl tkL_2 17 rfl) rfl (lv_at hl 1 rfl) ?_
  refine lv_aload_n hx hb (tbl tkL_2 18 rfl) rfl (lv_at hl 0 rfl) ?_
  refine lv_iload_n hx hb (tbl tkL_2 19 rfl) rfl (lv_at hl 3 rfl) ?_
  refine lv_iconst (v := nI 1) hx hb (tbl tkL_2 20 rfl) (by decide) ?_
  refine lv_iadd hx hb (tbl tkL_2 21 rfl) ?_
  refine va_sld hx hb hX hbl hbA hS (law_in hL (by omega)) (tbl tkL_2 22 rfl) ?_
  refine law_call (bs := [.int (xs (nI i + nI 1).toNatClampNeg)]) (rest := []) (k := 0) (ci := 9) hx hb hml hown hts hK hinj hAd hT hStr (met_F_fault l) h1 (by intro v hv; simp only [List.mem_cons, List.not_mem_nil, or_false] at hv; rcases hv with rfl <;> rfl) ⟨gt3 160 rfl rfl, wq_F_fault⟩ rfl rfl (by decide) (by decide) wn_F_fault rfl (Nat.le_of_ble_eq_true rfl) hP hS hl.1 (tbl tkL_2 23 rfl) hcells hslots (fun H locs hP hS => ?_)
  refine lv_aload_n hx hb (tbl tkL_2 24 rfl) rfl (lv_at hl 2 rfl) ?_
  refine lv_aload_n hx hb (tbl tkL_2 25 rfl) rfl (lv_at hl 0 rfl) ?_
  refine lv_iload_n hx hb (tbl tkL_2 26 rfl) rfl (lv_at hl 3 rfl) ?_
  refine lv_iconst (v := nI 1) hx hb (tbl tkL_2 27 rfl) (by decide) ?_
  refine lv_iadd hx hb (tbl tkL_2 28 rfl) ?_
  refine va_sld hx hb hX hbl hbA hS (law_in hL (by omega)) (tbl tkL_2 29 rfl) ?_
  refine law_call (bs := [.int (xs (nI i + nI 1).toNatClampNeg)]) (rest := [.int r]) (k := 139) (ci := 10) hx hb hml hown hts hK hinj hAd hT hStr (met_M_fault l) h2 (by intro v hv; simp only [List.mem_cons, List.not_mem_nil, or_false] at hv; rcases hv with rfl <;> rfl) ⟨gt6 112 rfl rfl, wq_M_fault⟩ rfl rfl (by decide) (by decide) wn_M_fault rfl (Nat.le_of_ble_eq_true rfl) hP hS hl.1 (tbl tkL_2 30 rfl) hcells hslots (fun H locs hP hS => ?_)
  refine lv_icmp_eq (tgt := 804) hx hb (tbl tkL_2 31 rfl) (by decide) (fun _ => ?_) (fun q => absurd rfl q)
  exact go C2 H locs hI2 hP hS
set_option maxHeartbeats 4000000 in
theorem law_case_4 {L : Nat} {xs : Nat → Int32} {Inv : mMem → Prop} {cells slots : Nat} (hL : L ≤ 3072) (C0 : lw_At p s m meth c b L xs) (hops : opsOK Inv) (hts : ∀ w ∈ gX ++ lw_tbl, w.before #[Value.ref b] s = true) (hK : va_K D clsL tys s) (hinj : ∀ i j, i < SH.length → j < SH.length → ad i = ad j → i = j) (hAd : ∀ k, k < SH.length → s.heap.size ≤ ad k) (hT : mT SH cA tys) (hStr : mStr ad adV (fun q => s.heap.size ≤ q) s s.heap) (hcells : cells ≤ 600000) (hslots : slots ≤ 7302250) {i : Nat} (hi : i + 6 ≤ L) {C : mMem} {H : Heap} {locs : List Loc} {lsA : Array Slot} (hI : Inv C) (hP : va_P D clsL (mW SH ad cA C) H) (hS : va_S (fun q => s.heap.size ≤ q) s.heap H locs) (hl : lv_has lsA 4 [(0, .ref b), (1, .ref (ad 0)), (2, .ref (ad 139)), (3, .int (nI i))]) (go : ∀ (C : mMem) (H : Heap) (locs : List Loc), Inv C → va_P D clsL (mW SH ad cA C) H → va_S (fun q => s.heap.size ≤ q) s.heap H locs → W p l e room_1 s m #[Value.ref b] below meth c H locs cells slots (lw_Z below #[Value.ref b] s) (F0 m 804 lsA [])) : W p l e room_1 s m #[Value.ref b] below meth c H locs cells slots (lw_Z below #[Value.ref b] s) (F0 m 260 lsA []) := by
  obtain ⟨hx, hb, hr, hml, hown, -, hX, hbl, hlocks, hgv⟩ := id C0
  have hbA : ¬ (fun q : Nat => s.heap.size ≤ q) b := Nat.not_le.mpr hbl
  obtain ⟨r, C1, C2, h1, h2, hI2⟩ := hops.2.2.2.2.1 (xs (nI i + nI 1).toNatClampNeg) (xs (nI i + nI 2).toNatClampNeg) (xs (nI i + nI 3).toNatClampNeg) C hI
  refine lv_aload_n hx hb (tbl tkL_2 34 rfl) rfl (lv_at hl 1 rfl) ?_
  refine lv_aload_n hx hb (tbl tkL_2 35 rfl) rfl (lv_at hl 0 rfl) ?_
  refine lv_iload_n hx hb (tbl tkL_2 36 rfl) rfl (lv_at hl 3 rfl) ?_
  refine lv_iconst (v := nI 1) hx hb (tbl tkL_2 37 rfl) (by decide) ?_
  refine lv_iadd hx hb (tbl tkL_2 38 rfl) ?_
  refine va_sld hx hb hX hbl hbA hS (law_in hL (by omega)) (tbl tkL_2 39 rfl) ?_
  refine lv_aload_n hx hb (tbl tkL_2 40 rfl) rfl (lv_at hl 0 rfl) ?_
  refine lv_iload_n hx hb (tbl tkL_2 41 rfl) rfl (lv_at hl 3 rfl) ?_
  refine lv_iconst (v := nI 2) hx hb (tbl tkL_2 42 rfl) (by decide) ?_
  refine lv_iadd hx hb (tbl tkL_2 43 rfl) ?_
  refine va_sld hx hb hX hbl hbA hS (law_in hL (by omega)) (tbl tkL_2 44 rfl) ?_
  refine lv_aload_n hx hb (tbl tkL_2 45 rfl) rfl (lv_at hl 0 rfl) ?_
  refine lv_iload_n hx hb (tbl tkL_2 46 rfl) rfl (lv_at hl 3 rfl) ?_
  refine lv_iconst (v := nI 3) hx hb (tbl tkL_2 47 rfl) (by decide) ?_
  refine lv_iadd hx hb (tbl tkL_3 0 rfl) ?_
  refine va_sld hx hb hX hbl hbA hS (law_in hL (by omega)) (tbl tkL_3 1 rfl) ?_
  refine law_call (bs := [.int (xs (nI i + nI 1).toNatClampNeg), .int (xs (nI i + nI 2).toNatClampNeg), .int (xs (nI i + nI 3).toNatClampNeg)]) (rest := []) (k := 0) (ci := 9) hx hb hml hown hts hK hinj hAd hT hStr (met_F_one l) h1 (by intro v hv; simp only [List.mem_cons, List.not_mem_nil, or_false] at hv; rcases hv with rfl | rfl | rfl <;> rfl) ⟨gt3 164 rfl rfl, wq_F_one⟩ rfl rfl (by decide) (by decide) wn_F_one rfl (Nat.le_of_ble_eq_true rfl) hP hS hl.1 (tbl tkL_3 2 rfl) hcells hslots (fun H locs hP hS => ?_)
  refine lv_aload_n hx hb (tbl tkL_3 3 rfl) rfl (lv_at hl 2 rfl) ?_
  refine lv_aload_n hx hb (tbl tkL_3 4 rfl) rfl (lv_at hl 0 rfl) ?_
  refine lv_iload_n hx hb (tbl tkL_3 5 rfl) rfl (lv_at hl 3 rfl) ?_
  refine lv_iconst (v := nI 1) hx hb (tbl tkL_3 6 rfl) (by decide) ?_
  refine lv_iadd hx hb (tbl tkL_3 7 rfl) ?_
  refine va_sld hx hb hX hbl hbA hS (law_in hL (by omega)) (tbl tkL_3 8 rfl) ?_
  refine lv_aload_n hx hb (tbl tkL_3 9 rfl) rfl (lv_at hl 0 rfl) ?_
  refine lv_iload_n hx hb (tbl tkL_3 10 rfl) rfl (lv_at hl 3 rfl) ?_
  refine lv_iconst (v := nI 2) hx hb (tbl tkL_3 11 rfl) (by decide) ?_
  refine lv_iadd hx hb (tbl tkL_3 12 rfl) ?_
  refine va_sld hx hb hX hbl hbA hS (law_in hL (by omega)) (tbl tkL_3 13 rfl) ?_
  refine lv_aload_n hx hb (tbl tkL_3 14 rfl) rfl (lv_at hl 0 rfl) ?_
  refine lv_iload_n hx hb (tbl tkL_3 15 rfl) rfl (lv_at hl 3 rfl) ?_
  refine lv_iconst (v := nI 3) hx hb (tbl tkL_3 16 rfl) (by decide) ?_
  refine lv_iadd hx hb (tbl tkL_3 17 rfl) ?_
  refine va_sld hx hb hX hbl hbA hS (law_in hL (by omega)) (tbl tkL_3 18 rfl) ?_
  refine law_call (bs := [.int (xs (nI i + nI 1).toNatClampNeg), .int (xs (nI i + nI 2).toNatClampNeg), .int (xs (nI i + nI 3).toNatClampNeg)]) (rest := [.int r]) (k := 139) (ci := 10) hx hb hml hown hts hK hinj hAd hT hStr (met_M_one l) h2 (by intro v hv; simp only [List.mem_cons, List.not_mem_nil, or_false] at hv; rcases hv with rfl | rfl | rfl <;> rfl) ⟨gt6 116 rfl rfl, wq_M_one⟩ rfl rfl (by decide) (by decide) wn_M_one rfl (Nat.le_of_ble_eq_true rfl) hP hS hl.1 (tbl tkL_3 19 rfl) hcells hslots (fun H locs hP hS => ?_)
  refine lv_icmp_eq (tgt := 804) hx hb (tbl tkL_3 20 rfl) (by decide) (fun _ => ?_) (fun q => absurd rfl q)
  exact go C2 H locs hI2 hP hS
set_option maxHeartbeats 4000000 in
theorem law_case_5 {L : Nat} {xs : Nat → Int32} {Inv : mMem → Prop} {cells slots : Nat} (hL : L ≤ 3072) (C0 : lw_At p s m meth c b L xs) (hops : opsOK Inv) (hts : ∀ w ∈ gX ++ lw_tbl, w.before #[Value.ref b] s = true) (hK : va_K D clsL tys s) (hinj : ∀ i j, i < SH.length → j < SH.length → ad i = ad j → i = j) (hAd : ∀ k, k < SH.length → s.heap.size ≤ ad k) (hT : mT SH cA tys) (hStr : mStr ad adV (fun q => s.heap.size ≤ q) s s.heap) (hcells : cells ≤ 600000) (hslots : slots ≤ 7302250) {i : Nat} (hi : i + 6 ≤ L) {C : mMem} {H : Heap} {locs : List Loc} {lsA : Array Slot} (hI : Inv C) (hP : va_P D clsL (mW SH ad cA C) H) (hS : va_S (fun q => s.heap.size ≤ q) s.heap H locs) (hl : lv_has lsA 4 [(0, .ref b), (1, .ref (ad 0)), (2, .ref (ad 139)), (3, .int (nI i))]) (go : ∀ (C : mMem) (H : Heap) (locs : List Loc), Inv C → va_P D clsL (mW SH ad cA C) H → va_S (fun q => s.heap.size ≤ q) s.heap H locs → W p l e room_1 s m #[Value.ref b] below meth c H locs cells slots (lw_Z below #[Value.ref b] s) (F0 m 804 lsA [])) : W p l e room_1 s m #[Value.ref b] below meth c H locs cells slots (lw_Z below #[Value.ref b] s) (F0 m 303 lsA []) := by
  obtain ⟨hx, hb, hr, hml, hown, -, hX, hbl, hlocks, hgv⟩ := id C0
  have hbA : ¬ (fun q : Nat => s.heap.size ≤ q) b := Nat.not_le.mpr hbl
  obtain ⟨r, C1, C2, h1, h2, hI2⟩ := hops.2.2.2.2.2.1 (xs (nI i + nI 1).toNatClampNeg) (xs (nI i + nI 2).toNatClampNeg) (xs (nI i + nI 3).toNatClampNeg) C hI
  refine lv_aload_n hx hb (tbl tkL_3 23 rfl) rfl (lv_at hl 1 rfl) ?_
  refine lv_aload_n hx hb (tbl tkL_3 24 rfl) rfl (lv_at hl 0 rfl) ?_
  refine lv_iload_n hx hb (tbl tkL_3 25 rfl) rfl (lv_at hl 3 rfl) ?_
  refine lv_iconst (v := nI 1) hx hb (tbl tkL_3 26 rfl) (by decide) ?_
  refine lv_iadd hx hb (tbl tkL_3 27 rfl) ?_
  refine va_sld hx hb hX hbl hbA hS (law_in hL (by omega)) (tbl tkL_3 28 rfl) ?_
  refine lv_aload_n hx hb (tbl tkL_3 29 rfl) rfl (lv_at hl 0 rfl) ?_
  refine lv_iload_n hx hb (tbl tkL_3 30 rfl) rfl (lv_at hl 3 rfl) ?_
  refine lv_iconst (v := nI 2) hx hb (tbl tkL_3 31 rfl) (by decide) ?_
  refine lv_iadd hx hb (tbl tkL_3 32 rfl) ?_
  refine va_sld hx hb hX hbl hbA hS (law_in hL (by omega)) (tbl tkL_3 33 rfl) ?_
  refine lv_aload_n hx hb (tbl tkL_3 34 rfl) rfl (lv_at hl 0 rfl) ?_
  refine lv_iload_n hx hb (tbl tkL_3 35 rfl) rfl (lv_at hl 3 rfl) ?_
  refine lv_iconst (v := nI 3) hx hb (tbl tkL_3 36 rfl) (by decide) ?_
  refine lv_iadd hx hb (tbl tkL_3 37 rfl) ?_
  refine va_sld hx hb hX hbl hbA hS (law_in hL (by omega)) (tbl tkL_3 38 rfl) ?_
  refine law_call (bs := [.int (xs (nI i + nI 1).toNatClampNeg), .int (xs (nI i + nI 2).toNatClampNeg), .int (xs (nI i + nI 3).toNatClampNeg)]) (rest := []) (k := 0) (ci := 9) hx hb hml hown hts hK hinj hAd hT hStr (met_F_set l) h1 (by intro v hv; simp only [List.mem_cons, List.not_mem_nil, or_false] at hv; rcases hv with rfl | rfl | rfl <;> rfl) ⟨gt3 176 rfl rfl, wq_F_set⟩ rfl rfl (by decide) (by decide) wn_F_set rfl (Nat.le_of_ble_eq_true rfl) hP hS hl.1 (tbl tkL_3 39 rfl) hcells hslots (fun H locs hP hS => ?_)
  refine lv_aload_n hx hb (tbl tkL_3 40 rfl) rfl (lv_at hl 2 rfl) ?_
  refine lv_aload_n hx hb (tbl tkL_3 41 rfl) rfl (lv_at hl 0 rfl) ?_
  refine lv_iload_n hx hb (tbl tkL_3 42 rfl) rfl (lv_at hl 3 rfl) ?_
  refine lv_iconst (v := nI 1) hx hb (tbl tkL_3 43 rfl) (by decide) ?_
  refine lv_iadd hx hb (tbl tkL_3 44 rfl) ?_
  refine va_sld hx hb hX hbl hbA hS (law_in hL (by omega)) (tbl tkL_3 45 rfl) ?_
  refine lv_aload_n hx hb (tbl tkL_3 46 rfl) rfl (lv_at hl 0 rfl) ?_
  refine lv_iload_n hx hb (tbl tkL_3 47 rfl) rfl (lv_at hl 3 rfl) ?_
  refine lv_iconst (v := nI 2) hx hb (tbl tkL_4 0 rfl) (by decide) ?_
  refine lv_iadd hx hb (tbl tkL_4 1 rfl) ?_
  refine va_sld hx hb hX hbl hbA hS (law_in hL (by omega)) (tbl tkL_4 2 rfl) ?_
  refine lv_aload_n hx hb (tbl tkL_4 3 rfl) rfl (lv_at hl 0 rfl) ?_
  refine lv_iload_n hx hb (tbl tkL_4 4 rfl) rfl (lv_at hl 3 rfl) ?_
  refine lv_iconst (v := nI 3) hx hb (tbl tkL_4 5 rfl) (by decide) ?_
  refine lv_iadd hx hb (tbl tkL_4 6 rfl) ?_
  refine va_sld hx hb hX hbl hbA hS (law_in hL (by omega)) (tbl tkL_4 7 rfl) ?_
  refine law_call (bs := [.int (xs (nI i + nI 1).toNatClampNeg), .int (xs (nI i + nI 2).toNatClampNeg), .int (xs (nI i + nI 3).toNatClampNeg)]) (rest := [.int r]) (k := 139) (ci := 10) hx hb hml hown hts hK hinj hAd hT hStr (met_M_set l) h2 (by intro v hv; simp only [List.mem_cons, List.not_mem_nil, or_false] at hv; rcases hv with rfl | rfl | rfl <;> rfl) ⟨gt6 132 rfl rfl, wq_M_set⟩ rfl rfl (by decide) (by decide) wn_M_set rfl (Nat.le_of_ble_eq_true rfl) hP hS hl.1 (tbl tkL_4 8 rfl) hcells hslots (fun H locs hP hS => ?_)
  refine lv_icmp_eq (tgt := 804) hx hb (tbl tkL_4 9 rfl) (by decide) (fun _ => ?_) (fun q => absurd rfl q)
  exact go C2 H locs hI2 hP hS
set_option maxHeartbeats 4000000 in
theorem law_case_6 {L : Nat} {xs : Nat → Int32} {Inv : mMem → Prop} {cells slots : Nat} (hL : L ≤ 3072) (C0 : lw_At p s m meth c b L xs) (hops : opsOK Inv) (hts : ∀ w ∈ gX ++ lw_tbl, w.before #[Value.ref b] s = true) (hK : va_K D clsL tys s) (hinj : ∀ i j, i < SH.length → j < SH.length → ad i = ad j → i = j) (hAd : ∀ k, k < SH.length → s.heap.size ≤ ad k) (hT : mT SH cA tys) (hStr : mStr ad adV (fun q => s.heap.size ≤ q) s s.heap) (hcells : cells ≤ 600000) (hslots : slots ≤ 7302250) {i : Nat} (hi : i + 6 ≤ L) {C : mMem} {H : Heap} {locs : List Loc} {lsA : Array Slot} (hI : Inv C) (hP : va_P D clsL (mW SH ad cA C) H) (hS : va_S (fun q => s.heap.size ≤ q) s.heap H locs) (hl : lv_has lsA 4 [(0, .ref b), (1, .ref (ad 0)), (2, .ref (ad 139)), (3, .int (nI i))]) (go : ∀ (C : mMem) (H : Heap) (locs : List Loc), Inv C → va_P D clsL (mW SH ad cA C) H → va_S (fun q => s.heap.size ≤ q) s.heap H locs → W p l e room_1 s m #[Value.ref b] below meth c H locs cells slots (lw_Z below #[Value.ref b] s) (F0 m 804 lsA [])) : W p l e room_1 s m #[Value.ref b] below meth c H locs cells slots (lw_Z below #[Value.ref b] s) (F0 m 346 lsA []) := by
  obtain ⟨hx, hb, hr, hml, hown, -, hX, hbl, hlocks, hgv⟩ := id C0
  have hbA : ¬ (fun q : Nat => s.heap.size ≤ q) b := Nat.not_le.mpr hbl
  obtain ⟨r, C1, C2, h1, h2, hI2⟩ := hops.2.2.2.2.2.2.1 (xs (nI i + nI 1).toNatClampNeg) C hI
  refine lv_aload_n hx hb (tbl tkL_4 12 rfl) rfl (lv_at hl 1 rfl) ?_
  refine lv_aload_n hx hb (tbl tkL_4 13 rfl) rfl (lv_at hl 0 rfl) ?_
  refine lv_iload_n hx hb (tbl tkL_4 14 rfl) rfl (lv_at hl 3 rfl) ?_
  refine lv_iconst (v := nI 1) hx hb (tbl tkL_4 15 rfl) (by decide) ?_
  refine lv_iadd hx hb (tbl tkL_4 16 rfl) ?_
  refine va_sld hx hb hX hbl hbA hS (law_in hL (by omega)) (tbl tkL_4 17 rfl) ?_
  refine law_call (bs := [.int (xs (nI i + nI 1).toNatClampNeg)]) (rest := []) (k := 0) (ci := 9) hx hb hml hown hts hK hinj hAd hT hStr (met_F_seconds l) h1 (by intro v hv; simp only [List.mem_cons, List.not_mem_nil, or_false] at hv; rcases hv with rfl <;> rfl) ⟨gt3 208 rfl rfl, wq_F_seconds⟩ rfl rfl (by decide) (by decide) wn_F_seconds rfl (Nat.le_of_ble_eq_true rfl) hP hS hl.1 (tbl tkL_4 18 rfl) hcells hslots (fun H locs hP hS => ?_)
  refine lv_aload_n hx hb (tbl tkL_4 19 rfl) rfl (lv_at hl 2 rfl) ?_
  refine lv_aload_n hx hb (tbl tkL_4 20 rfl) rfl (lv_at hl 0 rfl) ?_
  refine lv_iload_n hx hb (tbl tkL_4 21 rfl) rfl (lv_at hl 3 rfl) ?_
  refine lv_iconst (v := nI 1) hx hb (tbl tkL_4 22 rfl) (by decide) ?_
  refine lv_iadd hx hb (tbl tkL_4 23 rfl) ?_
  refine va_sld hx hb hX hbl hbA hS (law_in hL (by omega)) (tbl tkL_4 24 rfl) ?_
  refine law_call (bs := [.int (xs (nI i + nI 1).toNatClampNeg)]) (rest := [.int r]) (k := 139) (ci := 10) hx hb hml hown hts hK hinj hAd hT hStr (met_M_seconds l) h2 (by intro v hv; simp only [List.mem_cons, List.not_mem_nil, or_false] at hv; rcases hv with rfl <;> rfl) ⟨gt6 183 rfl rfl, wq_M_seconds⟩ rfl rfl (by decide) (by decide) wn_M_seconds rfl (Nat.le_of_ble_eq_true rfl) hP hS hl.1 (tbl tkL_4 25 rfl) hcells hslots (fun H locs hP hS => ?_)
  refine lv_icmp_eq (tgt := 804) hx hb (tbl tkL_4 26 rfl) (by decide) (fun _ => ?_) (fun q => absurd rfl q)
  exact go C2 H locs hI2 hP hS
set_option maxHeartbeats 4000000 in
theorem law_case_7 {L : Nat} {xs : Nat → Int32} {Inv : mMem → Prop} {cells slots : Nat} (hL : L ≤ 3072) (C0 : lw_At p s m meth c b L xs) (hops : opsOK Inv) (hts : ∀ w ∈ gX ++ lw_tbl, w.before #[Value.ref b] s = true) (hK : va_K D clsL tys s) (hinj : ∀ i j, i < SH.length → j < SH.length → ad i = ad j → i = j) (hAd : ∀ k, k < SH.length → s.heap.size ≤ ad k) (hT : mT SH cA tys) (hStr : mStr ad adV (fun q => s.heap.size ≤ q) s s.heap) (hcells : cells ≤ 600000) (hslots : slots ≤ 7302250) {i : Nat} (hi : i + 6 ≤ L) {C : mMem} {H : Heap} {locs : List Loc} {lsA : Array Slot} (hI : Inv C) (hP : va_P D clsL (mW SH ad cA C) H) (hS : va_S (fun q => s.heap.size ≤ q) s.heap H locs) (hl : lv_has lsA 4 [(0, .ref b), (1, .ref (ad 0)), (2, .ref (ad 139)), (3, .int (nI i))]) (go : ∀ (C : mMem) (H : Heap) (locs : List Loc), Inv C → va_P D clsL (mW SH ad cA C) H → va_S (fun q => s.heap.size ≤ q) s.heap H locs → W p l e room_1 s m #[Value.ref b] below meth c H locs cells slots (lw_Z below #[Value.ref b] s) (F0 m 804 lsA [])) : W p l e room_1 s m #[Value.ref b] below meth c H locs cells slots (lw_Z below #[Value.ref b] s) (F0 m 369 lsA []) := by
  obtain ⟨hx, hb, hr, hml, hown, -, hX, hbl, hlocks, hgv⟩ := id C0
  have hbA : ¬ (fun q : Nat => s.heap.size ≤ q) b := Nat.not_le.mpr hbl
  obtain ⟨r, C1, C2, h1, h2, hI2⟩ := hops.2.2.2.2.2.2.2.1 (xs (nI i + nI 1).toNatClampNeg) (xs (nI i + nI 2).toNatClampNeg) C hI
  refine lv_aload_n hx hb (tbl tkL_4 29 rfl) rfl (lv_at hl 1 rfl) ?_
  refine lv_aload_n hx hb (tbl tkL_4 30 rfl) rfl (lv_at hl 0 rfl) ?_
  refine lv_iload_n hx hb (tbl tkL_4 31 rfl) rfl (lv_at hl 3 rfl) ?_
  refine lv_iconst (v := nI 1) hx hb (tbl tkL_4 32 rfl) (by decide) ?_
  refine lv_iadd hx hb (tbl tkL_4 33 rfl) ?_
  refine va_sld hx hb hX hbl hbA hS (law_in hL (by omega)) (tbl tkL_4 34 rfl) ?_
  refine lv_aload_n hx hb (tbl tkL_4 35 rfl) rfl (lv_at hl 0 rfl) ?_
  refine lv_iload_n hx hb (tbl tkL_4 36 rfl) rfl (lv_at hl 3 rfl) ?_
  refine lv_iconst (v := nI 2) hx hb (tbl tkL_4 37 rfl) (by decide) ?_
  refine lv_iadd hx hb (tbl tkL_4 38 rfl) ?_
  refine va_sld hx hb hX hbl hbA hS (law_in hL (by omega)) (tbl tkL_4 39 rfl) ?_
  refine law_call (bs := [.int (xs (nI i + nI 1).toNatClampNeg), .int (xs (nI i + nI 2).toNatClampNeg)]) (rest := []) (k := 0) (ci := 9) hx hb hml hown hts hK hinj hAd hT hStr (met_F_car l) h1 (by intro v hv; simp only [List.mem_cons, List.not_mem_nil, or_false] at hv; rcases hv with rfl | rfl <;> rfl) ⟨gt4 51 rfl rfl, wq_F_car⟩ rfl rfl (by decide) (by decide) wn_F_car rfl (Nat.le_of_ble_eq_true rfl) hP hS hl.1 (tbl tkL_4 40 rfl) hcells hslots (fun H locs hP hS => ?_)
  refine lv_aload_n hx hb (tbl tkL_4 41 rfl) rfl (lv_at hl 2 rfl) ?_
  refine lv_aload_n hx hb (tbl tkL_4 42 rfl) rfl (lv_at hl 0 rfl) ?_
  refine lv_iload_n hx hb (tbl tkL_4 43 rfl) rfl (lv_at hl 3 rfl) ?_
  refine lv_iconst (v := nI 1) hx hb (tbl tkL_4 44 rfl) (by decide) ?_
  refine lv_iadd hx hb (tbl tkL_4 45 rfl) ?_
  refine va_sld hx hb hX hbl hbA hS (law_in hL (by omega)) (tbl tkL_4 46 rfl) ?_
  refine lv_aload_n hx hb (tbl tkL_4 47 rfl) rfl (lv_at hl 0 rfl) ?_
  refine lv_iload_n hx hb (tbl tkL_5 0 rfl) rfl (lv_at hl 3 rfl) ?_
  refine lv_iconst (v := nI 2) hx hb (tbl tkL_5 1 rfl) (by decide) ?_
  refine lv_iadd hx hb (tbl tkL_5 2 rfl) ?_
  refine va_sld hx hb hX hbl hbA hS (law_in hL (by omega)) (tbl tkL_5 3 rfl) ?_
  refine law_call (bs := [.int (xs (nI i + nI 1).toNatClampNeg), .int (xs (nI i + nI 2).toNatClampNeg)]) (rest := [.int r]) (k := 139) (ci := 10) hx hb hml hown hts hK hinj hAd hT hStr (met_M_car l) h2 (by intro v hv; simp only [List.mem_cons, List.not_mem_nil, or_false] at hv; rcases hv with rfl | rfl <;> rfl) ⟨gt6 235 rfl rfl, wq_M_car⟩ rfl rfl (by decide) (by decide) wn_M_car rfl (Nat.le_of_ble_eq_true rfl) hP hS hl.1 (tbl tkL_5 4 rfl) hcells hslots (fun H locs hP hS => ?_)
  refine lv_icmp_eq (tgt := 804) hx hb (tbl tkL_5 5 rfl) (by decide) (fun _ => ?_) (fun q => absurd rfl q)
  exact go C2 H locs hI2 hP hS
set_option maxHeartbeats 4000000 in
theorem law_case_8 {L : Nat} {xs : Nat → Int32} {Inv : mMem → Prop} {cells slots : Nat} (hL : L ≤ 3072) (C0 : lw_At p s m meth c b L xs) (hops : opsOK Inv) (hts : ∀ w ∈ gX ++ lw_tbl, w.before #[Value.ref b] s = true) (hK : va_K D clsL tys s) (hinj : ∀ i j, i < SH.length → j < SH.length → ad i = ad j → i = j) (hAd : ∀ k, k < SH.length → s.heap.size ≤ ad k) (hT : mT SH cA tys) (hStr : mStr ad adV (fun q => s.heap.size ≤ q) s s.heap) (hcells : cells ≤ 600000) (hslots : slots ≤ 7302250) {i : Nat} (hi : i + 6 ≤ L) {C : mMem} {H : Heap} {locs : List Loc} {lsA : Array Slot} (hI : Inv C) (hP : va_P D clsL (mW SH ad cA C) H) (hS : va_S (fun q => s.heap.size ≤ q) s.heap H locs) (hl : lv_has lsA 4 [(0, .ref b), (1, .ref (ad 0)), (2, .ref (ad 139)), (3, .int (nI i))]) (go : ∀ (C : mMem) (H : Heap) (locs : List Loc), Inv C → va_P D clsL (mW SH ad cA C) H → va_S (fun q => s.heap.size ≤ q) s.heap H locs → W p l e room_1 s m #[Value.ref b] below meth c H locs cells slots (lw_Z below #[Value.ref b] s) (F0 m 804 lsA [])) : W p l e room_1 s m #[Value.ref b] below meth c H locs cells slots (lw_Z below #[Value.ref b] s) (F0 m 402 lsA []) := by
  obtain ⟨hx, hb, hr, hml, hown, -, hX, hbl, hlocks, hgv⟩ := id C0
  have hbA : ¬ (fun q : Nat => s.heap.size ≤ q) b := Nat.not_le.mpr hbl
  obtain ⟨r, C1, C2, h1, h2, hI2⟩ := hops.2.2.2.2.2.2.2.2.1 (xs (nI i + nI 1).toNatClampNeg) (xs (nI i + nI 2).toNatClampNeg) C hI
  refine lv_aload_n hx hb (tbl tkL_5 8 rfl) rfl (lv_at hl 1 rfl) ?_
  refine lv_aload_n hx hb (tbl tkL_5 9 rfl) rfl (lv_at hl 0 rfl) ?_
  refine lv_iload_n hx hb (tbl tkL_5 10 rfl) rfl (lv_at hl 3 rfl) ?_
  refine lv_iconst (v := nI 1) hx hb (tbl tkL_5 11 rfl) (by decide) ?_
  refine lv_iadd hx hb (tbl tkL_5 12 rfl) ?_
  refine va_sld hx hb hX hbl hbA hS (law_in hL (by omega)) (tbl tkL_5 13 rfl) ?_
  refine lv_aload_n hx hb (tbl tkL_5 14 rfl) rfl (lv_at hl 0 rfl) ?_
  refine lv_iload_n hx hb (tbl tkL_5 15 rfl) rfl (lv_at hl 3 rfl) ?_
  refine lv_iconst (v := nI 2) hx hb (tbl tkL_5 16 rfl) (by decide) ?_
  refine lv_iadd hx hb (tbl tkL_5 17 rfl) ?_
  refine va_sld hx hb hX hbl hbA hS (law_in hL (by omega)) (tbl tkL_5 18 rfl) ?_
  refine law_call (bs := [.int (xs (nI i + nI 1).toNatClampNeg), .int (xs (nI i + nI 2).toNatClampNeg)]) (rest := []) (k := 0) (ci := 9) hx hb hml hown hts hK hinj hAd hT hStr (met_F_person l) h1 (by intro v hv; simp only [List.mem_cons, List.not_mem_nil, or_false] at hv; rcases hv with rfl | rfl <;> rfl) ⟨gt4 64 rfl rfl, wq_F_person⟩ rfl rfl (by decide) (by decide) wn_F_person rfl (Nat.le_of_ble_eq_true rfl) hP hS hl.1 (tbl tkL_5 19 rfl) hcells hslots (fun H locs hP hS => ?_)
  refine lv_aload_n hx hb (tbl tkL_5 20 rfl) rfl (lv_at hl 2 rfl) ?_
  refine lv_aload_n hx hb (tbl tkL_5 21 rfl) rfl (lv_at hl 0 rfl) ?_
  refine lv_iload_n hx hb (tbl tkL_5 22 rfl) rfl (lv_at hl 3 rfl) ?_
  refine lv_iconst (v := nI 1) hx hb (tbl tkL_5 23 rfl) (by decide) ?_
  refine lv_iadd hx hb (tbl tkL_5 24 rfl) ?_
  refine va_sld hx hb hX hbl hbA hS (law_in hL (by omega)) (tbl tkL_5 25 rfl) ?_
  refine lv_aload_n hx hb (tbl tkL_5 26 rfl) rfl (lv_at hl 0 rfl) ?_
  refine lv_iload_n hx hb (tbl tkL_5 27 rfl) rfl (lv_at hl 3 rfl) ?_
  refine lv_iconst (v := nI 2) hx hb (tbl tkL_5 28 rfl) (by decide) ?_
  refine lv_iadd hx hb (tbl tkL_5 29 rfl) ?_
  refine va_sld hx hb hX hbl hbA hS (law_in hL (by omega)) (tbl tkL_5 30 rfl) ?_
  refine law_call (bs := [.int (xs (nI i + nI 1).toNatClampNeg), .int (xs (nI i + nI 2).toNatClampNeg)]) (rest := [.int r]) (k := 139) (ci := 10) hx hb hml hown hts hK hinj hAd hT hStr (met_M_person l) h2 (by intro v hv; simp only [List.mem_cons, List.not_mem_nil, or_false] at hv; rcases hv with rfl | rfl <;> rfl) ⟨gt6 239 rfl rfl, wq_M_person⟩ rfl rfl (by decide) (by decide) wn_M_person rfl (Nat.le_of_ble_eq_true rfl) hP hS hl.1 (tbl tkL_5 31 rfl) hcells hslots (fun H locs hP hS => ?_)
  refine lv_icmp_eq (tgt := 804) hx hb (tbl tkL_5 32 rfl) (by decide) (fun _ => ?_) (fun q => absurd rfl q)
  exact go C2 H locs hI2 hP hS
set_option maxHeartbeats 4000000 in
theorem law_case_9 {L : Nat} {xs : Nat → Int32} {Inv : mMem → Prop} {cells slots : Nat} (hL : L ≤ 3072) (C0 : lw_At p s m meth c b L xs) (hops : opsOK Inv) (hts : ∀ w ∈ gX ++ lw_tbl, w.before #[Value.ref b] s = true) (hK : va_K D clsL tys s) (hinj : ∀ i j, i < SH.length → j < SH.length → ad i = ad j → i = j) (hAd : ∀ k, k < SH.length → s.heap.size ≤ ad k) (hT : mT SH cA tys) (hStr : mStr ad adV (fun q => s.heap.size ≤ q) s s.heap) (hcells : cells ≤ 600000) (hslots : slots ≤ 7302250) {i : Nat} (hi : i + 6 ≤ L) {C : mMem} {H : Heap} {locs : List Loc} {lsA : Array Slot} (hI : Inv C) (hP : va_P D clsL (mW SH ad cA C) H) (hS : va_S (fun q => s.heap.size ≤ q) s.heap H locs) (hl : lv_has lsA 4 [(0, .ref b), (1, .ref (ad 0)), (2, .ref (ad 139)), (3, .int (nI i))]) (go : ∀ (C : mMem) (H : Heap) (locs : List Loc), Inv C → va_P D clsL (mW SH ad cA C) H → va_S (fun q => s.heap.size ≤ q) s.heap H locs → W p l e room_1 s m #[Value.ref b] below meth c H locs cells slots (lw_Z below #[Value.ref b] s) (F0 m 804 lsA [])) : W p l e room_1 s m #[Value.ref b] below meth c H locs cells slots (lw_Z below #[Value.ref b] s) (F0 m 435 lsA []) := by
  obtain ⟨hx, hb, hr, hml, hown, -, hX, hbl, hlocks, hgv⟩ := id C0
  have hbA : ¬ (fun q : Nat => s.heap.size ≤ q) b := Nat.not_le.mpr hbl
  obtain ⟨r, C1, C2, h1, h2, hI2⟩ := hops.2.2.2.2.2.2.2.2.2.1 (xs (nI i + nI 1).toNatClampNeg) (xs (nI i + nI 2).toNatClampNeg) (xs (nI i + nI 3).toNatClampNeg) C hI
  refine lv_aload_n hx hb (tbl tkL_5 35 rfl) rfl (lv_at hl 1 rfl) ?_
  refine lv_aload_n hx hb (tbl tkL_5 36 rfl) rfl (lv_at hl 0 rfl) ?_
  refine lv_iload_n hx hb (tbl tkL_5 37 rfl) rfl (lv_at hl 3 rfl) ?_
  refine lv_iconst (v := nI 1) hx hb (tbl tkL_5 38 rfl) (by decide) ?_
  refine lv_iadd hx hb (tbl tkL_5 39 rfl) ?_
  refine va_sld hx hb hX hbl hbA hS (law_in hL (by omega)) (tbl tkL_5 40 rfl) ?_
  refine lv_aload_n hx hb (tbl tkL_5 41 rfl) rfl (lv_at hl 0 rfl) ?_
  refine lv_iload_n hx hb (tbl tkL_5 42 rfl) rfl (lv_at hl 3 rfl) ?_
  refine lv_iconst (v := nI 2) hx hb (tbl tkL_5 43 rfl) (by decide) ?_
  refine lv_iadd hx hb (tbl tkL_5 44 rfl) ?_
  refine va_sld hx hb hX hbl hbA hS (law_in hL (by omega)) (tbl tkL_5 45 rfl) ?_
  refine lv_aload_n hx hb (tbl tkL_5 46 rfl) rfl (lv_at hl 0 rfl) ?_
  refine lv_iload_n hx hb (tbl tkL_5 47 rfl) rfl (lv_at hl 3 rfl) ?_
  refine lv_iconst (v := nI 3) hx hb (tbl tkL_6 0 rfl) (by decide) ?_
  refine lv_iadd hx hb (tbl tkL_6 1 rfl) ?_
  refine va_sld hx hb hX hbl hbA hS (law_in hL (by omega)) (tbl tkL_6 2 rfl) ?_
  refine law_call (bs := [.int (xs (nI i + nI 1).toNatClampNeg), .int (xs (nI i + nI 2).toNatClampNeg), .int (xs (nI i + nI 3).toNatClampNeg)]) (rest := []) (k := 0) (ci := 9) hx hb hml hown hts hK hinj hAd hT hStr (met_F_cost l) h1 (by intro v hv; simp only [List.mem_cons, List.not_mem_nil, or_false] at hv; rcases hv with rfl | rfl | rfl <;> rfl) ⟨gt4 76 rfl rfl, wq_F_cost⟩ rfl rfl (by decide) (by decide) wn_F_cost rfl (Nat.le_of_ble_eq_true rfl) hP hS hl.1 (tbl tkL_6 3 rfl) hcells hslots (fun H locs hP hS => ?_)
  refine lv_aload_n hx hb (tbl tkL_6 4 rfl) rfl (lv_at hl 2 rfl) ?_
  refine lv_aload_n hx hb (tbl tkL_6 5 rfl) rfl (lv_at hl 0 rfl) ?_
  refine lv_iload_n hx hb (tbl tkL_6 6 rfl) rfl (lv_at hl 3 rfl) ?_
  refine lv_iconst (v := nI 1) hx hb (tbl tkL_6 7 rfl) (by decide) ?_
  refine lv_iadd hx hb (tbl tkL_6 8 rfl) ?_
  refine va_sld hx hb hX hbl hbA hS (law_in hL (by omega)) (tbl tkL_6 9 rfl) ?_
  refine lv_aload_n hx hb (tbl tkL_6 10 rfl) rfl (lv_at hl 0 rfl) ?_
  refine lv_iload_n hx hb (tbl tkL_6 11 rfl) rfl (lv_at hl 3 rfl) ?_
  refine lv_iconst (v := nI 2) hx hb (tbl tkL_6 12 rfl) (by decide) ?_
  refine lv_iadd hx hb (tbl tkL_6 13 rfl) ?_
  refine va_sld hx hb hX hbl hbA hS (law_in hL (by omega)) (tbl tkL_6 14 rfl) ?_
  refine lv_aload_n hx hb (tbl tkL_6 15 rfl) rfl (lv_at hl 0 rfl) ?_
  refine lv_iload_n hx hb (tbl tkL_6 16 rfl) rfl (lv_at hl 3 rfl) ?_
  refine lv_iconst (v := nI 3) hx hb (tbl tkL_6 17 rfl) (by decide) ?_
  refine lv_iadd hx hb (tbl tkL_6 18 rfl) ?_
  refine va_sld hx hb hX hbl hbA hS (law_in hL (by omega)) (tbl tkL_6 19 rfl) ?_
  refine law_call (bs := [.int (xs (nI i + nI 1).toNatClampNeg), .int (xs (nI i + nI 2).toNatClampNeg), .int (xs (nI i + nI 3).toNatClampNeg)]) (rest := [.int r]) (k := 139) (ci := 10) hx hb hml hown hts hK hinj hAd hT hStr (met_M_cost l) h2 (by intro v hv; simp only [List.mem_cons, List.not_mem_nil, or_false] at hv; rcases hv with rfl | rfl | rfl <;> rfl) ⟨gt6 148 rfl rfl, wq_M_cost⟩ rfl rfl (by decide) (by decide) wn_M_cost rfl (Nat.le_of_ble_eq_true rfl) hP hS hl.1 (tbl tkL_6 20 rfl) hcells hslots (fun H locs hP hS => ?_)
  refine lv_icmp_eq (tgt := 804) hx hb (tbl tkL_6 21 rfl) (by decide) (fun _ => ?_) (fun q => absurd rfl q)
  exact go C2 H locs hI2 hP hS
set_option maxHeartbeats 4000000 in
theorem law_case_10 {L : Nat} {xs : Nat → Int32} {Inv : mMem → Prop} {cells slots : Nat} (hL : L ≤ 3072) (C0 : lw_At p s m meth c b L xs) (hops : opsOK Inv) (hts : ∀ w ∈ gX ++ lw_tbl, w.before #[Value.ref b] s = true) (hK : va_K D clsL tys s) (hinj : ∀ i j, i < SH.length → j < SH.length → ad i = ad j → i = j) (hAd : ∀ k, k < SH.length → s.heap.size ≤ ad k) (hT : mT SH cA tys) (hStr : mStr ad adV (fun q => s.heap.size ≤ q) s s.heap) (hcells : cells ≤ 600000) (hslots : slots ≤ 7302250) {i : Nat} (hi : i + 6 ≤ L) {C : mMem} {H : Heap} {locs : List Loc} {lsA : Array Slot} (hI : Inv C) (hP : va_P D clsL (mW SH ad cA C) H) (hS : va_S (fun q => s.heap.size ≤ q) s.heap H locs) (hl : lv_has lsA 4 [(0, .ref b), (1, .ref (ad 0)), (2, .ref (ad 139)), (3, .int (nI i))]) (go : ∀ (C : mMem) (H : Heap) (locs : List Loc), Inv C → va_P D clsL (mW SH ad cA C) H → va_S (fun q => s.heap.size ≤ q) s.heap H locs → W p l e room_1 s m #[Value.ref b] below meth c H locs cells slots (lw_Z below #[Value.ref b] s) (F0 m 804 lsA [])) : W p l e room_1 s m #[Value.ref b] below meth c H locs cells slots (lw_Z below #[Value.ref b] s) (F0 m 478 lsA []) := by
  obtain ⟨hx, hb, hr, hml, hown, -, hX, hbl, hlocks, hgv⟩ := id C0
  have hbA : ¬ (fun q : Nat => s.heap.size ≤ q) b := Nat.not_le.mpr hbl
  obtain ⟨r, C1, C2, h1, h2, hI2⟩ := hops.2.2.2.2.2.2.2.2.2.2.1 (xs (nI i + nI 1).toNatClampNeg) C hI
  refine lv_aload_n hx hb (tbl tkL_6 24 rfl) rfl (lv_at hl 1 rfl) ?_
  refine lv_aload_n hx hb (tbl tkL_6 25 rfl) rfl (lv_at hl 0 rfl) ?_
  refine lv_iload_n hx hb (tbl tkL_6 26 rfl) rfl (lv_at hl 3 rfl) ?_
  refine lv_iconst (v := nI 1) hx hb (tbl tkL_6 27 rfl) (by decide) ?_
  refine lv_iadd hx hb (tbl tkL_6 28 rfl) ?_
  refine va_sld hx hb hX hbl hbA hS (law_in hL (by omega)) (tbl tkL_6 29 rfl) ?_
  refine law_call (bs := [.int (xs (nI i + nI 1).toNatClampNeg)]) (rest := []) (k := 0) (ci := 9) hx hb hml hown hts hK hinj hAd hT hStr (met_F_sums l) h1 (by intro v hv; simp only [List.mem_cons, List.not_mem_nil, or_false] at hv; rcases hv with rfl <;> rfl) ⟨gt4 88 rfl rfl, wq_F_sums⟩ rfl rfl (by decide) (by decide) wn_F_sums rfl (Nat.le_of_ble_eq_true rfl) hP hS hl.1 (tbl tkL_6 30 rfl) hcells hslots (fun H locs hP hS => ?_)
  refine lv_aload_n hx hb (tbl tkL_6 31 rfl) rfl (lv_at hl 2 rfl) ?_
  refine lv_aload_n hx hb (tbl tkL_6 32 rfl) rfl (lv_at hl 0 rfl) ?_
  refine lv_iload_n hx hb (tbl tkL_6 33 rfl) rfl (lv_at hl 3 rfl) ?_
  refine lv_iconst (v := nI 1) hx hb (tbl tkL_6 34 rfl) (by decide) ?_
  refine lv_iadd hx hb (tbl tkL_6 35 rfl) ?_
  refine va_sld hx hb hX hbl hbA hS (law_in hL (by omega)) (tbl tkL_6 36 rfl) ?_
  refine law_call (bs := [.int (xs (nI i + nI 1).toNatClampNeg)]) (rest := [.int r]) (k := 139) (ci := 10) hx hb hml hown hts hK hinj hAd hT hStr (met_M_sums l) h2 (by intro v hv; simp only [List.mem_cons, List.not_mem_nil, or_false] at hv; rcases hv with rfl <;> rfl) ⟨gt7 3 rfl rfl, wq_M_sums⟩ rfl rfl (by decide) (by decide) wn_M_sums rfl (Nat.le_of_ble_eq_true rfl) hP hS hl.1 (tbl tkL_6 37 rfl) hcells hslots (fun H locs hP hS => ?_)
  refine lv_icmp_eq (tgt := 804) hx hb (tbl tkL_6 38 rfl) (by decide) (fun _ => ?_) (fun q => absurd rfl q)
  exact go C2 H locs hI2 hP hS
set_option maxHeartbeats 4000000 in
theorem law_case_11 {L : Nat} {xs : Nat → Int32} {Inv : mMem → Prop} {cells slots : Nat} (hL : L ≤ 3072) (C0 : lw_At p s m meth c b L xs) (hops : opsOK Inv) (hts : ∀ w ∈ gX ++ lw_tbl, w.before #[Value.ref b] s = true) (hK : va_K D clsL tys s) (hinj : ∀ i j, i < SH.length → j < SH.length → ad i = ad j → i = j) (hAd : ∀ k, k < SH.length → s.heap.size ≤ ad k) (hT : mT SH cA tys) (hStr : mStr ad adV (fun q => s.heap.size ≤ q) s s.heap) (hcells : cells ≤ 600000) (hslots : slots ≤ 7302250) {i : Nat} (hi : i + 6 ≤ L) {C : mMem} {H : Heap} {locs : List Loc} {lsA : Array Slot} (hI : Inv C) (hP : va_P D clsL (mW SH ad cA C) H) (hS : va_S (fun q => s.heap.size ≤ q) s.heap H locs) (hl : lv_has lsA 4 [(0, .ref b), (1, .ref (ad 0)), (2, .ref (ad 139)), (3, .int (nI i))]) (go : ∀ (C : mMem) (H : Heap) (locs : List Loc), Inv C → va_P D clsL (mW SH ad cA C) H → va_S (fun q => s.heap.size ≤ q) s.heap H locs → W p l e room_1 s m #[Value.ref b] below meth c H locs cells slots (lw_Z below #[Value.ref b] s) (F0 m 804 lsA [])) : W p l e room_1 s m #[Value.ref b] below meth c H locs cells slots (lw_Z below #[Value.ref b] s) (F0 m 501 lsA []) := by
  obtain ⟨hx, hb, hr, hml, hown, -, hX, hbl, hlocks, hgv⟩ := id C0
  have hbA : ¬ (fun q : Nat => s.heap.size ≤ q) b := Nat.not_le.mpr hbl
  obtain ⟨r, C1, C2, h1, h2, hI2⟩ := hops.2.2.2.2.2.2.2.2.2.2.2.1 (xs (nI i + nI 1).toNatClampNeg) (xs (nI i + nI 2).toNatClampNeg) C hI
  refine lv_aload_n hx hb (tbl tkL_6 41 rfl) rfl (lv_at hl 1 rfl) ?_
  refine lv_aload_n hx hb (tbl tkL_6 42 rfl) rfl (lv_at hl 0 rfl) ?_
  refine lv_iload_n hx hb (tbl tkL_6 43 rfl) rfl (lv_at hl 3 rfl) ?_
  refine lv_iconst (v := nI 1) hx hb (tbl tkL_6 44 rfl) (by decide) ?_
  refine lv_iadd hx hb (tbl tkL_6 45 rfl) ?_
  refine va_sld hx hb hX hbl hbA hS (law_in hL (by omega)) (tbl tkL_6 46 rfl) ?_
  refine lv_aload_n hx hb (tbl tkL_6 47 rfl) rfl (lv_at hl 0 rfl) ?_
  refine lv_iload_n hx hb (tbl tkL_7 0 rfl) rfl (lv_at hl 3 rfl) ?_
  refine lv_iconst (v := nI 2) hx hb (tbl tkL_7 1 rfl) (by decide) ?_
  refine lv_iadd hx hb (tbl tkL_7 2 rfl) ?_
  refine va_sld hx hb hX hbl hbA hS (law_in hL (by omega)) (tbl tkL_7 3 rfl) ?_
  refine law_call (bs := [.int (xs (nI i + nI 1).toNatClampNeg), .int (xs (nI i + nI 2).toNatClampNeg)]) (rest := []) (k := 0) (ci := 9) hx hb hml hown hts hK hinj hAd hT hStr (met_F_thought l) h1 (by intro v hv; simp only [List.mem_cons, List.not_mem_nil, or_false] at hv; rcases hv with rfl | rfl <;> rfl) ⟨gt4 105 rfl rfl, wq_F_thought⟩ rfl rfl (by decide) (by decide) wn_F_thought rfl (Nat.le_of_ble_eq_true rfl) hP hS hl.1 (tbl tkL_7 4 rfl) hcells hslots (fun H locs hP hS => ?_)
  refine lv_aload_n hx hb (tbl tkL_7 5 rfl) rfl (lv_at hl 2 rfl) ?_
  refine lv_aload_n hx hb (tbl tkL_7 6 rfl) rfl (lv_at hl 0 rfl) ?_
  refine lv_iload_n hx hb (tbl tkL_7 7 rfl) rfl (lv_at hl 3 rfl) ?_
  refine lv_iconst (v := nI 1) hx hb (tbl tkL_7 8 rfl) (by decide) ?_
  refine lv_iadd hx hb (tbl tkL_7 9 rfl) ?_
  refine va_sld hx hb hX hbl hbA hS (law_in hL (by omega)) (tbl tkL_7 10 rfl) ?_
  refine lv_aload_n hx hb (tbl tkL_7 11 rfl) rfl (lv_at hl 0 rfl) ?_
  refine lv_iload_n hx hb (tbl tkL_7 12 rfl) rfl (lv_at hl 3 rfl) ?_
  refine lv_iconst (v := nI 2) hx hb (tbl tkL_7 13 rfl) (by decide) ?_
  refine lv_iadd hx hb (tbl tkL_7 14 rfl) ?_
  refine va_sld hx hb hX hbl hbA hS (law_in hL (by omega)) (tbl tkL_7 15 rfl) ?_
  refine law_call (bs := [.int (xs (nI i + nI 1).toNatClampNeg), .int (xs (nI i + nI 2).toNatClampNeg)]) (rest := [.int r]) (k := 139) (ci := 10) hx hb hml hown hts hK hinj hAd hT hStr (met_M_thought l) h2 (by intro v hv; simp only [List.mem_cons, List.not_mem_nil, or_false] at hv; rcases hv with rfl | rfl <;> rfl) ⟨gt7 8 rfl rfl, wq_M_thought⟩ rfl rfl (by decide) (by decide) wn_M_thought rfl (Nat.le_of_ble_eq_true rfl) hP hS hl.1 (tbl tkL_7 16 rfl) hcells hslots (fun H locs hP hS => ?_)
  refine lv_icmp_eq (tgt := 804) hx hb (tbl tkL_7 17 rfl) (by decide) (fun _ => ?_) (fun q => absurd rfl q)
  exact go C2 H locs hI2 hP hS
set_option maxHeartbeats 4000000 in
theorem law_case_12 {L : Nat} {xs : Nat → Int32} {Inv : mMem → Prop} {cells slots : Nat} (hL : L ≤ 3072) (C0 : lw_At p s m meth c b L xs) (hops : opsOK Inv) (hts : ∀ w ∈ gX ++ lw_tbl, w.before #[Value.ref b] s = true) (hK : va_K D clsL tys s) (hinj : ∀ i j, i < SH.length → j < SH.length → ad i = ad j → i = j) (hAd : ∀ k, k < SH.length → s.heap.size ≤ ad k) (hT : mT SH cA tys) (hStr : mStr ad adV (fun q => s.heap.size ≤ q) s s.heap) (hcells : cells ≤ 600000) (hslots : slots ≤ 7302250) {i : Nat} (hi : i + 6 ≤ L) {C : mMem} {H : Heap} {locs : List Loc} {lsA : Array Slot} (hI : Inv C) (hP : va_P D clsL (mW SH ad cA C) H) (hS : va_S (fun q => s.heap.size ≤ q) s.heap H locs) (hl : lv_has lsA 4 [(0, .ref b), (1, .ref (ad 0)), (2, .ref (ad 139)), (3, .int (nI i))]) (go : ∀ (C : mMem) (H : Heap) (locs : List Loc), Inv C → va_P D clsL (mW SH ad cA C) H → va_S (fun q => s.heap.size ≤ q) s.heap H locs → W p l e room_1 s m #[Value.ref b] below meth c H locs cells slots (lw_Z below #[Value.ref b] s) (F0 m 804 lsA [])) : W p l e room_1 s m #[Value.ref b] below meth c H locs cells slots (lw_Z below #[Value.ref b] s) (F0 m 534 lsA []) := by
  obtain ⟨hx, hb, hr, hml, hown, -, hX, hbl, hlocks, hgv⟩ := id C0
  have hbA : ¬ (fun q : Nat => s.heap.size ≤ q) b := Nat.not_le.mpr hbl
  obtain ⟨r, C1, C2, h1, h2, hI2⟩ := hops.2.2.2.2.2.2.2.2.2.2.2.2.1 (xs (nI i + nI 1).toNatClampNeg) (xs (nI i + nI 2).toNatClampNeg) C hI
  refine lv_aload_n hx hb (tbl tkL_7 20 rfl) rfl (lv_at hl 1 rfl) ?_
  refine lv_aload_n hx hb (tbl tkL_7 21 rfl) rfl (lv_at hl 0 rfl) ?_
  refine lv_iload_n hx hb (tbl tkL_7 22 rfl) rfl (lv_at hl 3 rfl) ?_
  refine lv_iconst (v := nI 1) hx hb (tbl tkL_7 23 rfl) (by decide) ?_
  refine lv_iadd hx hb (tbl tkL_7 24 rfl) ?_
  refine va_sld hx hb hX hbl hbA hS (law_in hL (by omega)) (tbl tkL_7 25 rfl) ?_
  refine lv_aload_n hx hb (tbl tkL_7 26 rfl) rfl (lv_at hl 0 rfl) ?_
  refine lv_iload_n hx hb (tbl tkL_7 27 rfl) rfl (lv_at hl 3 rfl) ?_
  refine lv_iconst (v := nI 2) hx hb (tbl tkL_7 28 rfl) (by decide) ?_
  refine lv_iadd hx hb (tbl tkL_7 29 rfl) ?_
  refine va_sld hx hb hX hbl hbA hS (law_in hL (by omega)) (tbl tkL_7 30 rfl) ?_
  refine law_call (bs := [.int (xs (nI i + nI 1).toNatClampNeg), .int (xs (nI i + nI 2).toNatClampNeg)]) (rest := []) (k := 0) (ci := 9) hx hb hml hown hts hK hinj hAd hT hStr (met_F_better l) h1 (by intro v hv; simp only [List.mem_cons, List.not_mem_nil, or_false] at hv; rcases hv with rfl | rfl <;> rfl) ⟨gt4 144 rfl rfl, wq_F_better⟩ rfl rfl (by decide) (by decide) wn_F_better rfl (Nat.le_of_ble_eq_true rfl) hP hS hl.1 (tbl tkL_7 31 rfl) hcells hslots (fun H locs hP hS => ?_)
  refine lv_aload_n hx hb (tbl tkL_7 32 rfl) rfl (lv_at hl 2 rfl) ?_
  refine lv_aload_n hx hb (tbl tkL_7 33 rfl) rfl (lv_at hl 0 rfl) ?_
  refine lv_iload_n hx hb (tbl tkL_7 34 rfl) rfl (lv_at hl 3 rfl) ?_
  refine lv_iconst (v := nI 1) hx hb (tbl tkL_7 35 rfl) (by decide) ?_
  refine lv_iadd hx hb (tbl tkL_7 36 rfl) ?_
  refine va_sld hx hb hX hbl hbA hS (law_in hL (by omega)) (tbl tkL_7 37 rfl) ?_
  refine lv_aload_n hx hb (tbl tkL_7 38 rfl) rfl (lv_at hl 0 rfl) ?_
  refine lv_iload_n hx hb (tbl tkL_7 39 rfl) rfl (lv_at hl 3 rfl) ?_
  refine lv_iconst (v := nI 2) hx hb (tbl tkL_7 40 rfl) (by decide) ?_
  refine lv_iadd hx hb (tbl tkL_7 41 rfl) ?_
  refine va_sld hx hb hX hbl hbA hS (law_in hL (by omega)) (tbl tkL_7 42 rfl) ?_
  refine law_call (bs := [.int (xs (nI i + nI 1).toNatClampNeg), .int (xs (nI i + nI 2).toNatClampNeg)]) (rest := [.int r]) (k := 139) (ci := 10) hx hb hml hown hts hK hinj hAd hT hStr (met_M_better l) h2 (by intro v hv; simp only [List.mem_cons, List.not_mem_nil, or_false] at hv; rcases hv with rfl | rfl <;> rfl) ⟨gt7 32 rfl rfl, wq_M_better⟩ rfl rfl (by decide) (by decide) wn_M_better rfl (Nat.le_of_ble_eq_true rfl) hP hS hl.1 (tbl tkL_7 43 rfl) hcells hslots (fun H locs hP hS => ?_)
  refine lv_icmp_eq (tgt := 804) hx hb (tbl tkL_7 44 rfl) (by decide) (fun _ => ?_) (fun q => absurd rfl q)
  exact go C2 H locs hI2 hP hS
set_option maxHeartbeats 4000000 in
theorem law_case_13 {L : Nat} {xs : Nat → Int32} {Inv : mMem → Prop} {cells slots : Nat} (hL : L ≤ 3072) (C0 : lw_At p s m meth c b L xs) (hops : opsOK Inv) (hts : ∀ w ∈ gX ++ lw_tbl, w.before #[Value.ref b] s = true) (hK : va_K D clsL tys s) (hinj : ∀ i j, i < SH.length → j < SH.length → ad i = ad j → i = j) (hAd : ∀ k, k < SH.length → s.heap.size ≤ ad k) (hT : mT SH cA tys) (hStr : mStr ad adV (fun q => s.heap.size ≤ q) s s.heap) (hcells : cells ≤ 600000) (hslots : slots ≤ 7302250) {i : Nat} (hi : i + 6 ≤ L) {C : mMem} {H : Heap} {locs : List Loc} {lsA : Array Slot} (hI : Inv C) (hP : va_P D clsL (mW SH ad cA C) H) (hS : va_S (fun q => s.heap.size ≤ q) s.heap H locs) (hl : lv_has lsA 4 [(0, .ref b), (1, .ref (ad 0)), (2, .ref (ad 139)), (3, .int (nI i))]) (go : ∀ (C : mMem) (H : Heap) (locs : List Loc), Inv C → va_P D clsL (mW SH ad cA C) H → va_S (fun q => s.heap.size ≤ q) s.heap H locs → W p l e room_1 s m #[Value.ref b] below meth c H locs cells slots (lw_Z below #[Value.ref b] s) (F0 m 804 lsA [])) : W p l e room_1 s m #[Value.ref b] below meth c H locs cells slots (lw_Z below #[Value.ref b] s) (F0 m 567 lsA []) := by
  obtain ⟨hx, hb, hr, hml, hown, -, hX, hbl, hlocks, hgv⟩ := id C0
  have hbA : ¬ (fun q : Nat => s.heap.size ≤ q) b := Nat.not_le.mpr hbl
  obtain ⟨r, C1, C2, h1, h2, hI2⟩ := hops.2.2.2.2.2.2.2.2.2.2.2.2.2.1 (xs (nI i + nI 1).toNatClampNeg) C hI
  refine lv_aload_n hx hb (tbl tkL_7 47 rfl) rfl (lv_at hl 1 rfl) ?_
  refine lv_aload_n hx hb (tbl tkL_8 0 rfl) rfl (lv_at hl 0 rfl) ?_
  refine lv_iload_n hx hb (tbl tkL_8 1 rfl) rfl (lv_at hl 3 rfl) ?_
  refine lv_iconst (v := nI 1) hx hb (tbl tkL_8 2 rfl) (by decide) ?_
  refine lv_iadd hx hb (tbl tkL_8 3 rfl) ?_
  refine va_sld hx hb hX hbl hbA hS (law_in hL (by omega)) (tbl tkL_8 4 rfl) ?_
  refine law_call (bs := [.int (xs (nI i + nI 1).toNatClampNeg)]) (rest := []) (k := 0) (ci := 9) hx hb hml hown hts hK hinj hAd hT hStr (met_F_best l) h1 (by intro v hv; simp only [List.mem_cons, List.not_mem_nil, or_false] at hv; rcases hv with rfl <;> rfl) ⟨gt4 155 rfl rfl, wq_F_best⟩ rfl rfl (by decide) (by decide) wn_F_best rfl (Nat.le_of_ble_eq_true rfl) hP hS hl.1 (tbl tkL_8 5 rfl) hcells hslots (fun H locs hP hS => ?_)
  refine lv_aload_n hx hb (tbl tkL_8 6 rfl) rfl (lv_at hl 2 rfl) ?_
  refine lv_aload_n hx hb (tbl tkL_8 7 rfl) rfl (lv_at hl 0 rfl) ?_
  refine lv_iload_n hx hb (tbl tkL_8 8 rfl) rfl (lv_at hl 3 rfl) ?_
  refine lv_iconst (v := nI 1) hx hb (tbl tkL_8 9 rfl) (by decide) ?_
  refine lv_iadd hx hb (tbl tkL_8 10 rfl) ?_
  refine va_sld hx hb hX hbl hbA hS (law_in hL (by omega)) (tbl tkL_8 11 rfl) ?_
  refine law_call (bs := [.int (xs (nI i + nI 1).toNatClampNeg)]) (rest := [.int r]) (k := 139) (ci := 10) hx hb hml hown hts hK hinj hAd hT hStr (met_M_best l) h2 (by intro v hv; simp only [List.mem_cons, List.not_mem_nil, or_false] at hv; rcases hv with rfl <;> rfl) ⟨gt7 37 rfl rfl, wq_M_best⟩ rfl rfl (by decide) (by decide) wn_M_best rfl (Nat.le_of_ble_eq_true rfl) hP hS hl.1 (tbl tkL_8 12 rfl) hcells hslots (fun H locs hP hS => ?_)
  refine lv_icmp_eq (tgt := 804) hx hb (tbl tkL_8 13 rfl) (by decide) (fun _ => ?_) (fun q => absurd rfl q)
  exact go C2 H locs hI2 hP hS
set_option maxHeartbeats 4000000 in
theorem law_case_14 {L : Nat} {xs : Nat → Int32} {Inv : mMem → Prop} {cells slots : Nat} (hL : L ≤ 3072) (C0 : lw_At p s m meth c b L xs) (hops : opsOK Inv) (hts : ∀ w ∈ gX ++ lw_tbl, w.before #[Value.ref b] s = true) (hK : va_K D clsL tys s) (hinj : ∀ i j, i < SH.length → j < SH.length → ad i = ad j → i = j) (hAd : ∀ k, k < SH.length → s.heap.size ≤ ad k) (hT : mT SH cA tys) (hStr : mStr ad adV (fun q => s.heap.size ≤ q) s s.heap) (hcells : cells ≤ 600000) (hslots : slots ≤ 7302250) {i : Nat} (hi : i + 6 ≤ L) {C : mMem} {H : Heap} {locs : List Loc} {lsA : Array Slot} (hI : Inv C) (hP : va_P D clsL (mW SH ad cA C) H) (hS : va_S (fun q => s.heap.size ≤ q) s.heap H locs) (hl : lv_has lsA 4 [(0, .ref b), (1, .ref (ad 0)), (2, .ref (ad 139)), (3, .int (nI i))]) (go : ∀ (C : mMem) (H : Heap) (locs : List Loc), Inv C → va_P D clsL (mW SH ad cA C) H → va_S (fun q => s.heap.size ≤ q) s.heap H locs → W p l e room_1 s m #[Value.ref b] below meth c H locs cells slots (lw_Z below #[Value.ref b] s) (F0 m 804 lsA [])) : W p l e room_1 s m #[Value.ref b] below meth c H locs cells slots (lw_Z below #[Value.ref b] s) (F0 m 590 lsA []) := by
  obtain ⟨hx, hb, hr, hml, hown, -, hX, hbl, hlocks, hgv⟩ := id C0
  have hbA : ¬ (fun q : Nat => s.heap.size ≤ q) b := Nat.not_le.mpr hbl
  obtain ⟨r, C1, C2, h1, h2, hI2⟩ := hops.2.2.2.2.2.2.2.2.2.2.2.2.2.2.1 (xs (nI i + nI 1).toNatClampNeg) (xs (nI i + nI 2).toNatClampNeg) (xs (nI i + nI 3).toNatClampNeg) (xs (nI i + nI 4).toNatClampNeg) C hI
  refine lv_aload_n hx hb (tbl tkL_8 16 rfl) rfl (lv_at hl 1 rfl) ?_
  refine lv_aload_n hx hb (tbl tkL_8 17 rfl) rfl (lv_at hl 0 rfl) ?_
  refine lv_iload_n hx hb (tbl tkL_8 18 rfl) rfl (lv_at hl 3 rfl) ?_
  refine lv_iconst (v := nI 1) hx hb (tbl tkL_8 19 rfl) (by decide) ?_
  refine lv_iadd hx hb (tbl tkL_8 20 rfl) ?_
  refine va_sld hx hb hX hbl hbA hS (law_in hL (by omega)) (tbl tkL_8 21 rfl) ?_
  refine lv_aload_n hx hb (tbl tkL_8 22 rfl) rfl (lv_at hl 0 rfl) ?_
  refine lv_iload_n hx hb (tbl tkL_8 23 rfl) rfl (lv_at hl 3 rfl) ?_
  refine lv_iconst (v := nI 2) hx hb (tbl tkL_8 24 rfl) (by decide) ?_
  refine lv_iadd hx hb (tbl tkL_8 25 rfl) ?_
  refine va_sld hx hb hX hbl hbA hS (law_in hL (by omega)) (tbl tkL_8 26 rfl) ?_
  refine lv_aload_n hx hb (tbl tkL_8 27 rfl) rfl (lv_at hl 0 rfl) ?_
  refine lv_iload_n hx hb (tbl tkL_8 28 rfl) rfl (lv_at hl 3 rfl) ?_
  refine lv_iconst (v := nI 3) hx hb (tbl tkL_8 29 rfl) (by decide) ?_
  refine lv_iadd hx hb (tbl tkL_8 30 rfl) ?_
  refine va_sld hx hb hX hbl hbA hS (law_in hL (by omega)) (tbl tkL_8 31 rfl) ?_
  refine lv_aload_n hx hb (tbl tkL_8 32 rfl) rfl (lv_at hl 0 rfl) ?_
  refine lv_iload_n hx hb (tbl tkL_8 33 rfl) rfl (lv_at hl 3 rfl) ?_
  refine lv_iconst (v := nI 4) hx hb (tbl tkL_8 34 rfl) (by decide) ?_
  refine lv_iadd hx hb (tbl tkL_8 35 rfl) ?_
  refine va_sld hx hb hX hbl hbA hS (law_in hL (by omega)) (tbl tkL_8 36 rfl) ?_
  refine law_call (bs := [.int (xs (nI i + nI 1).toNatClampNeg), .int (xs (nI i + nI 2).toNatClampNeg), .int (xs (nI i + nI 3).toNatClampNeg), .int (xs (nI i + nI 4).toNatClampNeg)]) (rest := []) (k := 0) (ci := 9) hx hb hml hown hts hK hinj hAd hT hStr (met_F_mornings l) h1 (by intro v hv; simp only [List.mem_cons, List.not_mem_nil, or_false] at hv; rcases hv with rfl | rfl | rfl | rfl <;> rfl) ⟨gt4 199 rfl rfl, wq_F_mornings⟩ rfl rfl (by decide) (by decide) wn_F_mornings rfl (Nat.le_of_ble_eq_true rfl) hP hS hl.1 (tbl tkL_8 37 rfl) hcells hslots (fun H locs hP hS => ?_)
  refine lv_aload_n hx hb (tbl tkL_8 38 rfl) rfl (lv_at hl 2 rfl) ?_
  refine lv_aload_n hx hb (tbl tkL_8 39 rfl) rfl (lv_at hl 0 rfl) ?_
  refine lv_iload_n hx hb (tbl tkL_8 40 rfl) rfl (lv_at hl 3 rfl) ?_
  refine lv_iconst (v := nI 1) hx hb (tbl tkL_8 41 rfl) (by decide) ?_
  refine lv_iadd hx hb (tbl tkL_8 42 rfl) ?_
  refine va_sld hx hb hX hbl hbA hS (law_in hL (by omega)) (tbl tkL_8 43 rfl) ?_
  refine lv_aload_n hx hb (tbl tkL_8 44 rfl) rfl (lv_at hl 0 rfl) ?_
  refine lv_iload_n hx hb (tbl tkL_8 45 rfl) rfl (lv_at hl 3 rfl) ?_
  refine lv_iconst (v := nI 2) hx hb (tbl tkL_8 46 rfl) (by decide) ?_
  refine lv_iadd hx hb (tbl tkL_8 47 rfl) ?_
  refine va_sld hx hb hX hbl hbA hS (law_in hL (by omega)) (tbl tkL_9 0 rfl) ?_
  refine lv_aload_n hx hb (tbl tkL_9 1 rfl) rfl (lv_at hl 0 rfl) ?_
  refine lv_iload_n hx hb (tbl tkL_9 2 rfl) rfl (lv_at hl 3 rfl) ?_
  refine lv_iconst (v := nI 3) hx hb (tbl tkL_9 3 rfl) (by decide) ?_
  refine lv_iadd hx hb (tbl tkL_9 4 rfl) ?_
  refine va_sld hx hb hX hbl hbA hS (law_in hL (by omega)) (tbl tkL_9 5 rfl) ?_
  refine lv_aload_n hx hb (tbl tkL_9 6 rfl) rfl (lv_at hl 0 rfl) ?_
  refine lv_iload_n hx hb (tbl tkL_9 7 rfl) rfl (lv_at hl 3 rfl) ?_
  refine lv_iconst (v := nI 4) hx hb (tbl tkL_9 8 rfl) (by decide) ?_
  refine lv_iadd hx hb (tbl tkL_9 9 rfl) ?_
  refine va_sld hx hb hX hbl hbA hS (law_in hL (by omega)) (tbl tkL_9 10 rfl) ?_
  refine law_call (bs := [.int (xs (nI i + nI 1).toNatClampNeg), .int (xs (nI i + nI 2).toNatClampNeg), .int (xs (nI i + nI 3).toNatClampNeg), .int (xs (nI i + nI 4).toNatClampNeg)]) (rest := [.int r]) (k := 139) (ci := 10) hx hb hml hown hts hK hinj hAd hT hStr (met_M_mornings l) h2 (by intro v hv; simp only [List.mem_cons, List.not_mem_nil, or_false] at hv; rcases hv with rfl | rfl | rfl | rfl <;> rfl) ⟨gt7 49 rfl rfl, wq_M_mornings⟩ rfl rfl (by decide) (by decide) wn_M_mornings rfl (Nat.le_of_ble_eq_true rfl) hP hS hl.1 (tbl tkL_9 11 rfl) hcells hslots (fun H locs hP hS => ?_)
  refine lv_icmp_eq (tgt := 804) hx hb (tbl tkL_9 12 rfl) (by decide) (fun _ => ?_) (fun q => absurd rfl q)
  exact go C2 H locs hI2 hP hS
set_option maxHeartbeats 4000000 in
theorem law_case_15 {L : Nat} {xs : Nat → Int32} {Inv : mMem → Prop} {cells slots : Nat} (hL : L ≤ 3072) (C0 : lw_At p s m meth c b L xs) (hops : opsOK Inv) (hts : ∀ w ∈ gX ++ lw_tbl, w.before #[Value.ref b] s = true) (hK : va_K D clsL tys s) (hinj : ∀ i j, i < SH.length → j < SH.length → ad i = ad j → i = j) (hAd : ∀ k, k < SH.length → s.heap.size ≤ ad k) (hT : mT SH cA tys) (hStr : mStr ad adV (fun q => s.heap.size ≤ q) s s.heap) (hcells : cells ≤ 600000) (hslots : slots ≤ 7302250) {i : Nat} (hi : i + 6 ≤ L) {C : mMem} {H : Heap} {locs : List Loc} {lsA : Array Slot} (hI : Inv C) (hP : va_P D clsL (mW SH ad cA C) H) (hS : va_S (fun q => s.heap.size ≤ q) s.heap H locs) (hl : lv_has lsA 4 [(0, .ref b), (1, .ref (ad 0)), (2, .ref (ad 139)), (3, .int (nI i))]) (go : ∀ (C : mMem) (H : Heap) (locs : List Loc), Inv C → va_P D clsL (mW SH ad cA C) H → va_S (fun q => s.heap.size ≤ q) s.heap H locs → W p l e room_1 s m #[Value.ref b] below meth c H locs cells slots (lw_Z below #[Value.ref b] s) (F0 m 804 lsA [])) : W p l e room_1 s m #[Value.ref b] below meth c H locs cells slots (lw_Z below #[Value.ref b] s) (F0 m 643 lsA []) := by
  obtain ⟨hx, hb, hr, hml, hown, -, hX, hbl, hlocks, hgv⟩ := id C0
  have hbA : ¬ (fun q : Nat => s.heap.size ≤ q) b := Nat.not_le.mpr hbl
  obtain ⟨r, C1, C2, h1, h2, hI2⟩ := hops.2.2.2.2.2.2.2.2.2.2.2.2.2.2.2.1 (xs (nI i + nI 1).toNatClampNeg) (xs (nI i + nI 2).toNatClampNeg) C hI
  refine lv_aload_n hx hb (tbl tkL_9 15 rfl) rfl (lv_at hl 1 rfl) ?_
  refine lv_aload_n hx hb (tbl tkL_9 16 rfl) rfl (lv_at hl 0 rfl) ?_
  refine lv_iload_n hx hb (tbl tkL_9 17 rfl) rfl (lv_at hl 3 rfl) ?_
  refine lv_iconst (v := nI 1) hx hb (tbl tkL_9 18 rfl) (by decide) ?_
  refine lv_iadd hx hb (tbl tkL_9 19 rfl) ?_
  refine va_sld hx hb hX hbl hbA hS (law_in hL (by omega)) (tbl tkL_9 20 rfl) ?_
  refine lv_aload_n hx hb (tbl tkL_9 21 rfl) rfl (lv_at hl 0 rfl) ?_
  refine lv_iload_n hx hb (tbl tkL_9 22 rfl) rfl (lv_at hl 3 rfl) ?_
  refine lv_iconst (v := nI 2) hx hb (tbl tkL_9 23 rfl) (by decide) ?_
  refine lv_iadd hx hb (tbl tkL_9 24 rfl) ?_
  refine va_sld hx hb hX hbl hbA hS (law_in hL (by omega)) (tbl tkL_9 25 rfl) ?_
  refine law_call (bs := [.int (xs (nI i + nI 1).toNatClampNeg), .int (xs (nI i + nI 2).toNatClampNeg)]) (rest := []) (k := 0) (ci := 9) hx hb hml hown hts hK hinj hAd hT hStr (met_F_fun l) h1 (by intro v hv; simp only [List.mem_cons, List.not_mem_nil, or_false] at hv; rcases hv with rfl | rfl <;> rfl) ⟨gt4 230 rfl rfl, wq_F_fun⟩ rfl rfl (by decide) (by decide) wn_F_fun rfl (Nat.le_of_ble_eq_true rfl) hP hS hl.1 (tbl tkL_9 26 rfl) hcells hslots (fun H locs hP hS => ?_)
  refine lv_aload_n hx hb (tbl tkL_9 27 rfl) rfl (lv_at hl 2 rfl) ?_
  refine lv_aload_n hx hb (tbl tkL_9 28 rfl) rfl (lv_at hl 0 rfl) ?_
  refine lv_iload_n hx hb (tbl tkL_9 29 rfl) rfl (lv_at hl 3 rfl) ?_
  refine lv_iconst (v := nI 1) hx hb (tbl tkL_9 30 rfl) (by decide) ?_
  refine lv_iadd hx hb (tbl tkL_9 31 rfl) ?_
  refine va_sld hx hb hX hbl hbA hS (law_in hL (by omega)) (tbl tkL_9 32 rfl) ?_
  refine lv_aload_n hx hb (tbl tkL_9 33 rfl) rfl (lv_at hl 0 rfl) ?_
  refine lv_iload_n hx hb (tbl tkL_9 34 rfl) rfl (lv_at hl 3 rfl) ?_
  refine lv_iconst (v := nI 2) hx hb (tbl tkL_9 35 rfl) (by decide) ?_
  refine lv_iadd hx hb (tbl tkL_9 36 rfl) ?_
  refine va_sld hx hb hX hbl hbA hS (law_in hL (by omega)) (tbl tkL_9 37 rfl) ?_
  refine law_call (bs := [.int (xs (nI i + nI 1).toNatClampNeg), .int (xs (nI i + nI 2).toNatClampNeg)]) (rest := [.int r]) (k := 139) (ci := 10) hx hb hml hown hts hK hinj hAd hT hStr (met_M_fun l) h2 (by intro v hv; simp only [List.mem_cons, List.not_mem_nil, or_false] at hv; rcases hv with rfl | rfl <;> rfl) ⟨gt7 62 rfl rfl, wq_M_fun⟩ rfl rfl (by decide) (by decide) wn_M_fun rfl (Nat.le_of_ble_eq_true rfl) hP hS hl.1 (tbl tkL_9 38 rfl) hcells hslots (fun H locs hP hS => ?_)
  refine lv_icmp_eq (tgt := 804) hx hb (tbl tkL_9 39 rfl) (by decide) (fun _ => ?_) (fun q => absurd rfl q)
  exact go C2 H locs hI2 hP hS
set_option maxHeartbeats 4000000 in
theorem law_case_16 {L : Nat} {xs : Nat → Int32} {Inv : mMem → Prop} {cells slots : Nat} (hL : L ≤ 3072) (C0 : lw_At p s m meth c b L xs) (hops : opsOK Inv) (hts : ∀ w ∈ gX ++ lw_tbl, w.before #[Value.ref b] s = true) (hK : va_K D clsL tys s) (hinj : ∀ i j, i < SH.length → j < SH.length → ad i = ad j → i = j) (hAd : ∀ k, k < SH.length → s.heap.size ≤ ad k) (hT : mT SH cA tys) (hStr : mStr ad adV (fun q => s.heap.size ≤ q) s s.heap) (hcells : cells ≤ 600000) (hslots : slots ≤ 7302250) {i : Nat} (hi : i + 6 ≤ L) {C : mMem} {H : Heap} {locs : List Loc} {lsA : Array Slot} (hI : Inv C) (hP : va_P D clsL (mW SH ad cA C) H) (hS : va_S (fun q => s.heap.size ≤ q) s.heap H locs) (hl : lv_has lsA 4 [(0, .ref b), (1, .ref (ad 0)), (2, .ref (ad 139)), (3, .int (nI i))]) (go : ∀ (C : mMem) (H : Heap) (locs : List Loc), Inv C → va_P D clsL (mW SH ad cA C) H → va_S (fun q => s.heap.size ≤ q) s.heap H locs → W p l e room_1 s m #[Value.ref b] below meth c H locs cells slots (lw_Z below #[Value.ref b] s) (F0 m 804 lsA [])) : W p l e room_1 s m #[Value.ref b] below meth c H locs cells slots (lw_Z below #[Value.ref b] s) (F0 m 676 lsA []) := by
  obtain ⟨hx, hb, hr, hml, hown, -, hX, hbl, hlocks, hgv⟩ := id C0
  have hbA : ¬ (fun q : Nat => s.heap.size ≤ q) b := Nat.not_le.mpr hbl
  obtain ⟨r, C1, C2, h1, h2, hI2⟩ := hops.2.2.2.2.2.2.2.2.2.2.2.2.2.2.2.2.1 (xs (nI i + nI 1).toNatClampNeg) (xs (nI i + nI 2).toNatClampNeg) C hI
  refine lv_aload_n hx hb (tbl tkL_9 42 rfl) rfl (lv_at hl 1 rfl) ?_
  refine lv_aload_n hx hb (tbl tkL_9 43 rfl) rfl (lv_at hl 0 rfl) ?_
  refine lv_iload_n hx hb (tbl tkL_9 44 rfl) rfl (lv_at hl 3 rfl) ?_
  refine lv_iconst (v := nI 1) hx hb (tbl tkL_9 45 rfl) (by decide) ?_
  refine lv_iadd hx hb (tbl tkL_9 46 rfl) ?_
  refine va_sld hx hb hX hbl hbA hS (law_in hL (by omega)) (tbl tkL_9 47 rfl) ?_
  refine lv_aload_n hx hb (tbl tkL_10 0 rfl) rfl (lv_at hl 0 rfl) ?_
  refine lv_iload_n hx hb (tbl tkL_10 1 rfl) rfl (lv_at hl 3 rfl) ?_
  refine lv_iconst (v := nI 2) hx hb (tbl tkL_10 2 rfl) (by decide) ?_
  refine lv_iadd hx hb (tbl tkL_10 3 rfl) ?_
  refine va_sld hx hb hX hbl hbA hS (law_in hL (by omega)) (tbl tkL_10 4 rfl) ?_
  refine law_call (bs := [.int (xs (nI i + nI 1).toNatClampNeg), .int (xs (nI i + nI 2).toNatClampNeg)]) (rest := []) (k := 0) (ci := 9) hx hb hml hown hts hK hinj hAd hT hStr (met_F_places l) h1 (by intro v hv; simp only [List.mem_cons, List.not_mem_nil, or_false] at hv; rcases hv with rfl | rfl <;> rfl) ⟨gt4 236 rfl rfl, wq_F_places⟩ rfl rfl (by decide) (by decide) wn_F_places rfl (Nat.le_of_ble_eq_true rfl) hP hS hl.1 (tbl tkL_10 5 rfl) hcells hslots (fun H locs hP hS => ?_)
  refine lv_aload_n hx hb (tbl tkL_10 6 rfl) rfl (lv_at hl 2 rfl) ?_
  refine lv_aload_n hx hb (tbl tkL_10 7 rfl) rfl (lv_at hl 0 rfl) ?_
  refine lv_iload_n hx hb (tbl tkL_10 8 rfl) rfl (lv_at hl 3 rfl) ?_
  refine lv_iconst (v := nI 1) hx hb (tbl tkL_10 9 rfl) (by decide) ?_
  refine lv_iadd hx hb (tbl tkL_10 10 rfl) ?_
  refine va_sld hx hb hX hbl hbA hS (law_in hL (by omega)) (tbl tkL_10 11 rfl) ?_
  refine lv_aload_n hx hb (tbl tkL_10 12 rfl) rfl (lv_at hl 0 rfl) ?_
  refine lv_iload_n hx hb (tbl tkL_10 13 rfl) rfl (lv_at hl 3 rfl) ?_
  refine lv_iconst (v := nI 2) hx hb (tbl tkL_10 14 rfl) (by decide) ?_
  refine lv_iadd hx hb (tbl tkL_10 15 rfl) ?_
  refine va_sld hx hb hX hbl hbA hS (law_in hL (by omega)) (tbl tkL_10 16 rfl) ?_
  refine law_call (bs := [.int (xs (nI i + nI 1).toNatClampNeg), .int (xs (nI i + nI 2).toNatClampNeg)]) (rest := [.int r]) (k := 139) (ci := 10) hx hb hml hown hts hK hinj hAd hT hStr (met_M_places l) h2 (by intro v hv; simp only [List.mem_cons, List.not_mem_nil, or_false] at hv; rcases hv with rfl | rfl <;> rfl) ⟨gt7 67 rfl rfl, wq_M_places⟩ rfl rfl (by decide) (by decide) wn_M_places rfl (Nat.le_of_ble_eq_true rfl) hP hS hl.1 (tbl tkL_10 17 rfl) hcells hslots (fun H locs hP hS => ?_)
  refine lv_icmp_eq (tgt := 804) hx hb (tbl tkL_10 18 rfl) (by decide) (fun _ => ?_) (fun q => absurd rfl q)
  exact go C2 H locs hI2 hP hS
set_option maxHeartbeats 4000000 in
theorem law_case_17 {L : Nat} {xs : Nat → Int32} {Inv : mMem → Prop} {cells slots : Nat} (hL : L ≤ 3072) (C0 : lw_At p s m meth c b L xs) (hops : opsOK Inv) (hts : ∀ w ∈ gX ++ lw_tbl, w.before #[Value.ref b] s = true) (hK : va_K D clsL tys s) (hinj : ∀ i j, i < SH.length → j < SH.length → ad i = ad j → i = j) (hAd : ∀ k, k < SH.length → s.heap.size ≤ ad k) (hT : mT SH cA tys) (hStr : mStr ad adV (fun q => s.heap.size ≤ q) s s.heap) (hcells : cells ≤ 600000) (hslots : slots ≤ 7302250) {i : Nat} (hi : i + 6 ≤ L) {C : mMem} {H : Heap} {locs : List Loc} {lsA : Array Slot} (hI : Inv C) (hP : va_P D clsL (mW SH ad cA C) H) (hS : va_S (fun q => s.heap.size ≤ q) s.heap H locs) (hl : lv_has lsA 4 [(0, .ref b), (1, .ref (ad 0)), (2, .ref (ad 139)), (3, .int (nI i))]) (go : ∀ (C : mMem) (H : Heap) (locs : List Loc), Inv C → va_P D clsL (mW SH ad cA C) H → va_S (fun q => s.heap.size ≤ q) s.heap H locs → W p l e room_1 s m #[Value.ref b] below meth c H locs cells slots (lw_Z below #[Value.ref b] s) (F0 m 804 lsA [])) : W p l e room_1 s m #[Value.ref b] below meth c H locs cells slots (lw_Z below #[Value.ref b] s) (F0 m 709 lsA []) := by
  obtain ⟨hx, hb, hr, hml, hown, -, hX, hbl, hlocks, hgv⟩ := id C0
  have hbA : ¬ (fun q : Nat => s.heap.size ≤ q) b := Nat.not_le.mpr hbl
  obtain ⟨r, C1, C2, h1, h2, hI2⟩ := hops.2.2.2.2.2.2.2.2.2.2.2.2.2.2.2.2.2.1 (xs (nI i + nI 1).toNatClampNeg) (xs (nI i + nI 2).toNatClampNeg) C hI
  refine lv_aload_n hx hb (tbl tkL_10 21 rfl) rfl (lv_at hl 1 rfl) ?_
  refine lv_aload_n hx hb (tbl tkL_10 22 rfl) rfl (lv_at hl 0 rfl) ?_
  refine lv_iload_n hx hb (tbl tkL_10 23 rfl) rfl (lv_at hl 3 rfl) ?_
  refine lv_iconst (v := nI 1) hx hb (tbl tkL_10 24 rfl) (by decide) ?_
  refine lv_iadd hx hb (tbl tkL_10 25 rfl) ?_
  refine va_sld hx hb hX hbl hbA hS (law_in hL (by omega)) (tbl tkL_10 26 rfl) ?_
  refine lv_aload_n hx hb (tbl tkL_10 27 rfl) rfl (lv_at hl 0 rfl) ?_
  refine lv_iload_n hx hb (tbl tkL_10 28 rfl) rfl (lv_at hl 3 rfl) ?_
  refine lv_iconst (v := nI 2) hx hb (tbl tkL_10 29 rfl) (by decide) ?_
  refine lv_iadd hx hb (tbl tkL_10 30 rfl) ?_
  refine va_sld hx hb hX hbl hbA hS (law_in hL (by omega)) (tbl tkL_10 31 rfl) ?_
  refine law_call (bs := [.int (xs (nI i + nI 1).toNatClampNeg), .int (xs (nI i + nI 2).toNatClampNeg)]) (rest := []) (k := 0) (ci := 9) hx hb hml hown hts hK hinj hAd hT hStr (met_F_zones l) h1 (by intro v hv; simp only [List.mem_cons, List.not_mem_nil, or_false] at hv; rcases hv with rfl | rfl <;> rfl) ⟨gt5 45 rfl rfl, wq_F_zones⟩ rfl rfl (by decide) (by decide) wn_F_zones rfl (Nat.le_of_ble_eq_true rfl) hP hS hl.1 (tbl tkL_10 32 rfl) hcells hslots (fun H locs hP hS => ?_)
  refine lv_aload_n hx hb (tbl tkL_10 33 rfl) rfl (lv_at hl 2 rfl) ?_
  refine lv_aload_n hx hb (tbl tkL_10 34 rfl) rfl (lv_at hl 0 rfl) ?_
  refine lv_iload_n hx hb (tbl tkL_10 35 rfl) rfl (lv_at hl 3 rfl) ?_
  refine lv_iconst (v := nI 1) hx hb (tbl tkL_10 36 rfl) (by decide) ?_
  refine lv_iadd hx hb (tbl tkL_10 37 rfl) ?_
  refine va_sld hx hb hX hbl hbA hS (law_in hL (by omega)) (tbl tkL_10 38 rfl) ?_
  refine lv_aload_n hx hb (tbl tkL_10 39 rfl) rfl (lv_at hl 0 rfl) ?_
  refine lv_iload_n hx hb (tbl tkL_10 40 rfl) rfl (lv_at hl 3 rfl) ?_
  refine lv_iconst (v := nI 2) hx hb (tbl tkL_10 41 rfl) (by decide) ?_
  refine lv_iadd hx hb (tbl tkL_10 42 rfl) ?_
  refine va_sld hx hb hX hbl hbA hS (law_in hL (by omega)) (tbl tkL_10 43 rfl) ?_
  refine law_call (bs := [.int (xs (nI i + nI 1).toNatClampNeg), .int (xs (nI i + nI 2).toNatClampNeg)]) (rest := [.int r]) (k := 139) (ci := 10) hx hb hml hown hts hK hinj hAd hT hStr (met_M_zones l) h2 (by intro v hv; simp only [List.mem_cons, List.not_mem_nil, or_false] at hv; rcases hv with rfl | rfl <;> rfl) ⟨gt7 87 rfl rfl, wq_M_zones⟩ rfl rfl (by decide) (by decide) wn_M_zones rfl (Nat.le_of_ble_eq_true rfl) hP hS hl.1 (tbl tkL_10 44 rfl) hcells hslots (fun H locs hP hS => ?_)
  refine lv_icmp_eq (tgt := 804) hx hb (tbl tkL_10 45 rfl) (by decide) (fun _ => ?_) (fun q => absurd rfl q)
  exact go C2 H locs hI2 hP hS
set_option maxHeartbeats 4000000 in
theorem law_case_18 {L : Nat} {xs : Nat → Int32} {Inv : mMem → Prop} {cells slots : Nat} (hL : L ≤ 3072) (C0 : lw_At p s m meth c b L xs) (hops : opsOK Inv) (hts : ∀ w ∈ gX ++ lw_tbl, w.before #[Value.ref b] s = true) (hK : va_K D clsL tys s) (hinj : ∀ i j, i < SH.length → j < SH.length → ad i = ad j → i = j) (hAd : ∀ k, k < SH.length → s.heap.size ≤ ad k) (hT : mT SH cA tys) (hStr : mStr ad adV (fun q => s.heap.size ≤ q) s s.heap) (hcells : cells ≤ 600000) (hslots : slots ≤ 7302250) {i : Nat} (hi : i + 6 ≤ L) {C : mMem} {H : Heap} {locs : List Loc} {lsA : Array Slot} (hI : Inv C) (hP : va_P D clsL (mW SH ad cA C) H) (hS : va_S (fun q => s.heap.size ≤ q) s.heap H locs) (hl : lv_has lsA 4 [(0, .ref b), (1, .ref (ad 0)), (2, .ref (ad 139)), (3, .int (nI i))]) (go : ∀ (C : mMem) (H : Heap) (locs : List Loc), Inv C → va_P D clsL (mW SH ad cA C) H → va_S (fun q => s.heap.size ≤ q) s.heap H locs → W p l e room_1 s m #[Value.ref b] below meth c H locs cells slots (lw_Z below #[Value.ref b] s) (F0 m 804 lsA [])) : W p l e room_1 s m #[Value.ref b] below meth c H locs cells slots (lw_Z below #[Value.ref b] s) (F0 m 742 lsA []) := by
  obtain ⟨hx, hb, hr, hml, hown, -, hX, hbl, hlocks, hgv⟩ := id C0
  have hbA : ¬ (fun q : Nat => s.heap.size ≤ q) b := Nat.not_le.mpr hbl
  obtain ⟨v, hv, hv1, hv0⟩ : ∃ v : Int32, (v = 0 ∨ v = 1) ∧ (¬ (xs (nI i + nI 1).toNatClampNeg) = 0 → v = 1) ∧ ((xs (nI i + nI 1).toNatClampNeg) = 0 → v = 0) := by
    by_cases q : (xs (nI i + nI 1).toNatClampNeg) = 0
    · exact ⟨0, Or.inl rfl, fun z => absurd q z, fun _ => rfl⟩
    · exact ⟨1, Or.inr rfl, fun _ => rfl, fun z => absurd z q⟩
  obtain ⟨r, C1, C2, h1, h2, hI2⟩ := hops.2.2.2.2.2.2.2.2.2.2.2.2.2.2.2.2.2.2.1 v hv C hI
  refine lv_aload_n hx hb (tbl tkL_11 0 rfl) rfl (lv_at hl 1 rfl) ?_
  refine lv_aload_n hx hb (tbl tkL_11 1 rfl) rfl (lv_at hl 0 rfl) ?_
  refine lv_iload_n hx hb (tbl tkL_11 2 rfl) rfl (lv_at hl 3 rfl) ?_
  refine lv_iconst (v := nI 1) hx hb (tbl tkL_11 3 rfl) (by decide) ?_
  refine lv_iadd hx hb (tbl tkL_11 4 rfl) ?_
  refine va_sld hx hb hX hbl hbA hS (law_in hL (by omega)) (tbl tkL_11 5 rfl) ?_
  have j1 : ∀ (hz : True), W p l e room_1 s m #[Value.ref b] below meth c H locs cells slots (lw_Z below #[Value.ref b] s) (F0 m 756 lsA (.int v :: .ref (ad 0) :: [])) := by
    intro _
    refine law_call (bs := [.int v]) (rest := []) (k := 0) (ci := 9) hx hb hml hown hts hK hinj hAd hT hStr (met_F_image l) h1 (by intro v hv; simp only [List.mem_cons, List.not_mem_nil, or_false] at hv; rcases hv with rfl <;> rfl) ⟨gt5 55 rfl rfl, wq_F_image⟩ rfl rfl (by decide) (by decide) wn_F_image rfl (Nat.le_of_ble_eq_true rfl) hP hS hl.1 (tbl tkL_11 10 rfl) hcells hslots (fun H locs hP hS => ?_)
    refine lv_aload_n hx hb (tbl tkL_11 11 rfl) rfl (lv_at hl 2 rfl) ?_
    refine lv_aload_n hx hb (tbl tkL_11 12 rfl) rfl (lv_at hl 0 rfl) ?_
    refine lv_iload_n hx hb (tbl tkL_11 13 rfl) rfl (lv_at hl 3 rfl) ?_
    refine lv_iconst (v := nI 1) hx hb (tbl tkL_11 14 rfl) (by decide) ?_
    refine lv_iadd hx hb (tbl tkL_11 15 rfl) ?_
    refine va_sld hx hb hX hbl hbA hS (law_in hL (by omega)) (tbl tkL_11 16 rfl) ?_
    have j2 : ∀ (hz : True), W p l e room_1 s m #[Value.ref b] below meth c H locs cells slots (lw_Z below #[Value.ref b] s) (F0 m 773 lsA (.int v :: .ref (ad 139) :: [.int r])) := by
      intro _
      refine law_call (bs := [.int v]) (rest := [.int r]) (k := 139) (ci := 10) hx hb hml hown hts hK hinj hAd hT hStr (met_M_image l) h2 (by intro v hv; simp only [List.mem_cons, List.not_mem_nil, or_false] at hv; rcases hv with rfl <;> rfl) ⟨gt7 99 rfl rfl, wq_M_image⟩ rfl rfl (by decide) (by decide) wn_M_image rfl (Nat.le_of_ble_eq_true rfl) hP hS hl.1 (tbl tkL_11 21 rfl) hcells hslots (fun H locs hP hS => ?_)
      refine lv_icmp_eq (tgt := 804) hx hb (tbl tkL_11 22 rfl) (by decide) (fun _ => ?_) (fun q => absurd rfl q)
      exact go C2 H locs hI2 hP hS
    refine lv_if_eq (tgt := 772) hx hb (tbl tkL_11 17 rfl) (by decide) (fun q => ?_) (fun q => ?_)
    · refine lv_iconst (v := 0) hx hb (tbl tkL_11 20 rfl) (by decide) ?_
      rw [← hv0 q]
      exact j2 trivial
    · refine lv_iconst (v := 1) hx hb (tbl tkL_11 18 rfl) (by decide) ?_
      refine lv_goto (tgt := 773) hx hb (tbl tkL_11 19 rfl) (by decide) ?_
      rw [← hv1 q]
      exact j2 trivial
  refine lv_if_eq (tgt := 755) hx hb (tbl tkL_11 6 rfl) (by decide) (fun q => ?_) (fun q => ?_)
  · refine lv_iconst (v := 0) hx hb (tbl tkL_11 9 rfl) (by decide) ?_
    rw [← hv0 q]
    exact j1 trivial
  · refine lv_iconst (v := 1) hx hb (tbl tkL_11 7 rfl) (by decide) ?_
    refine lv_goto (tgt := 756) hx hb (tbl tkL_11 8 rfl) (by decide) ?_
    rw [← hv1 q]
    exact j1 trivial
set_option maxHeartbeats 4000000 in
theorem law_case_19 {L : Nat} {xs : Nat → Int32} {Inv : mMem → Prop} {cells slots : Nat} (hL : L ≤ 3072) (C0 : lw_At p s m meth c b L xs) (hops : opsOK Inv) (hts : ∀ w ∈ gX ++ lw_tbl, w.before #[Value.ref b] s = true) (hK : va_K D clsL tys s) (hinj : ∀ i j, i < SH.length → j < SH.length → ad i = ad j → i = j) (hAd : ∀ k, k < SH.length → s.heap.size ≤ ad k) (hT : mT SH cA tys) (hStr : mStr ad adV (fun q => s.heap.size ≤ q) s s.heap) (hcells : cells ≤ 600000) (hslots : slots ≤ 7302250) {i : Nat} (hi : i + 6 ≤ L) {C : mMem} {H : Heap} {locs : List Loc} {lsA : Array Slot} (hI : Inv C) (hP : va_P D clsL (mW SH ad cA C) H) (hS : va_S (fun q => s.heap.size ≤ q) s.heap H locs) (hl : lv_has lsA 4 [(0, .ref b), (1, .ref (ad 0)), (2, .ref (ad 139)), (3, .int (nI i))]) (go : ∀ (C : mMem) (H : Heap) (locs : List Loc), Inv C → va_P D clsL (mW SH ad cA C) H → va_S (fun q => s.heap.size ≤ q) s.heap H locs → W p l e room_1 s m #[Value.ref b] below meth c H locs cells slots (lw_Z below #[Value.ref b] s) (F0 m 804 lsA [])) : W p l e room_1 s m #[Value.ref b] below meth c H locs cells slots (lw_Z below #[Value.ref b] s) (F0 m 781 lsA []) := by
  obtain ⟨hx, hb, hr, hml, hown, -, hX, hbl, hlocks, hgv⟩ := id C0
  have hbA : ¬ (fun q : Nat => s.heap.size ≤ q) b := Nat.not_le.mpr hbl
  obtain ⟨r, C1, C2, h1, h2, hI2⟩ := hops.2.2.2.2.2.2.2.2.2.2.2.2.2.2.2.2.2.2.2 (xs (nI i + nI 1).toNatClampNeg) C hI
  refine lv_aload_n hx hb (tbl tkL_11 25 rfl) rfl (lv_at hl 1 rfl) ?_
  refine lv_aload_n hx hb (tbl tkL_11 26 rfl) rfl (lv_at hl 0 rfl) ?_
  refine lv_iload_n hx hb (tbl tkL_11 27 rfl) rfl (lv_at hl 3 rfl) ?_
  refine lv_iconst (v := nI 1) hx hb (tbl tkL_11 28 rfl) (by decide) ?_
  refine lv_iadd hx hb (tbl tkL_11 29 rfl) ?_
  refine va_sld hx hb hX hbl hbA hS (law_in hL (by omega)) (tbl tkL_11 30 rfl) ?_
  refine law_call (bs := [.int (xs (nI i + nI 1).toNatClampNeg)]) (rest := []) (k := 0) (ci := 9) hx hb hml hown hts hK hinj hAd hT hStr (met_F_look l) h1 (by intro v hv; simp only [List.mem_cons, List.not_mem_nil, or_false] at hv; rcases hv with rfl <;> rfl) ⟨gt5 67 rfl rfl, wq_F_look⟩ rfl rfl (by decide) (by decide) wn_F_look rfl (Nat.le_of_ble_eq_true rfl) hP hS hl.1 (tbl tkL_11 31 rfl) hcells hslots (fun H locs hP hS => ?_)
  refine lv_aload_n hx hb (tbl tkL_11 32 rfl) rfl (lv_at hl 2 rfl) ?_
  refine lv_aload_n hx hb (tbl tkL_11 33 rfl) rfl (lv_at hl 0 rfl) ?_
  refine lv_iload_n hx hb (tbl tkL_11 34 rfl) rfl (lv_at hl 3 rfl) ?_
  refine lv_iconst (v := nI 1) hx hb (tbl tkL_11 35 rfl) (by decide) ?_
  refine lv_iadd hx hb (tbl tkL_11 36 rfl) ?_
  refine va_sld hx hb hX hbl hbA hS (law_in hL (by omega)) (tbl tkL_11 37 rfl) ?_
  refine law_call (bs := [.int (xs (nI i + nI 1).toNatClampNeg)]) (rest := [.int r]) (k := 139) (ci := 10) hx hb hml hown hts hK hinj hAd hT hStr (met_M_look l) h2 (by intro v hv; simp only [List.mem_cons, List.not_mem_nil, or_false] at hv; rcases hv with rfl <;> rfl) ⟨gt7 103 rfl rfl, wq_M_look⟩ rfl rfl (by decide) (by decide) wn_M_look rfl (Nat.le_of_ble_eq_true rfl) hP hS hl.1 (tbl tkL_11 38 rfl) hcells hslots (fun H locs hP hS => ?_)
  refine lv_icmp_eq (tgt := 804) hx hb (tbl tkL_11 39 rfl) (by decide) (fun _ => ?_) (fun q => absurd rfl q)
  exact go C2 H locs hI2 hP hS
set_option maxHeartbeats 4000000 in
theorem law_turn {L : Nat} {xs : Nat → Int32} {Inv : mMem → Prop} {cells slots : Nat} (hL : L ≤ 3072) (C0 : lw_At p s m meth c b L xs) (hops : opsOK Inv) (hts : ∀ w ∈ gX ++ lw_tbl, w.before #[Value.ref b] s = true) (hK : va_K D clsL tys s) (hinj : ∀ i j, i < SH.length → j < SH.length → ad i = ad j → i = j) (hAd : ∀ k, k < SH.length → s.heap.size ≤ ad k) (hT : mT SH cA tys) (hStr : mStr ad adV (fun q => s.heap.size ≤ q) s s.heap) (hcells : cells ≤ 600000) (hslots : slots ≤ 7302250) {i : Nat} (hi : i ≤ 4000) {C : mMem} {H : Heap} {locs : List Loc} {lsA : Array Slot} (hI : Inv C) (hP : va_P D clsL (mW SH ad cA C) H) (hS : va_S (fun q => s.heap.size ≤ q) s.heap H locs) (hl : lv_has lsA 4 [(0, .ref b), (1, .ref (ad 0)), (2, .ref (ad 139)), (3, .int (nI i))])
    (go : i + 6 ≤ L → ∀ (C : mMem) (H : Heap) (locs : List Loc) (lsA : Array Slot), Inv C → va_P D clsL (mW SH ad cA C) H → va_S (fun q => s.heap.size ≤ q) s.heap H locs → lv_has lsA 4 [(0, .ref b), (1, .ref (ad 0)), (2, .ref (ad 139)), (3, .int (nI (i + 6)))] → W p l e room_1 s m #[Value.ref b] below meth c H locs cells slots (lw_Z below #[Value.ref b] s) (F0 m 18 lsA [])) :
    W p l e room_1 s m #[Value.ref b] below meth c H locs cells slots (lw_Z below #[Value.ref b] s) (F0 m 18 lsA []) := by
  obtain ⟨hx, hb, hr, hml, hown, -, hX, hbl, hlocks, hgv⟩ := id C0
  have hbA : ¬ (fun q : Nat => s.heap.size ≤ q) b := Nat.not_le.mpr hbl
  refine lv_iload_n hx hb (tbl tkL_0 10 rfl) rfl (lv_at hl 3 rfl) ?_
  refine lv_aload_n hx hb (tbl tkL_0 11 rfl) rfl (lv_at hl 0 rfl) ?_
  refine va_slen hx hb hX hbl hbA hS (tbl tkL_0 12 rfl) ?_
  refine lv_bipush (v := 6) hx hb (tbl tkL_0 13 rfl) (by decide) ?_
  refine lv_isub hx hb (tbl tkL_0 14 rfl) ?_
  refine lv_icmp_gt (tgt := 810) hx hb (tbl tkL_0 15 rfl) (by decide) (fun q => ?_) (fun q => ?_)
  · refine lv_iconst (v := 1) hx hb (tbl tkL_11 44 rfl) (by decide) ?_
    refine va_forget (fun q hq => hS.2.2 q hq) ?_
    refine W.widen (k := 600000) (n := 7302250) hcells hslots ?_
    exact lw_ret hx hb hr hlocks (tbl tkL_11 45 rfl)
  · have hlt : i + 6 ≤ L := Classical.byContradiction fun z => q ((law_exit (x := 0) hL hi).mpr z)
    have next : ∀ (C : mMem) (H : Heap) (locs : List Loc), Inv C → va_P D clsL (mW SH ad cA C) H → va_S (fun q => s.heap.size ≤ q) s.heap H locs → W p l e room_1 s m #[Value.ref b] below meth c H locs cells slots (lw_Z below #[Value.ref b] s) (F0 m 804 lsA []) := by
      intro C H locs hI hP hS
      refine lv_iinc (v := nI (i + 6)) (lv' := [(3, .int (nI (i + 6))), (0, .ref b), (1, .ref (ad 0)), (2, .ref (ad 139))]) hx hb (tbl tkL_11 42 rfl) hl (k := 3) rfl (by rw [← nI_add]; rfl) (by decide) rfl (fun lsA hl => ?_)
      refine lv_goto (tgt := 18) hx hb (tbl tkL_11 43 rfl) (by decide) ?_
      exact go hlt C H locs lsA hI hP hS (lv_sub hl [1, 2, 3, 0] rfl)
    refine lv_aload_n hx hb (tbl tkL_0 16 rfl) rfl (lv_at hl 0 rfl) ?_
    refine lv_iload_n hx hb (tbl tkL_0 17 rfl) rfl (lv_at hl 3 rfl) ?_
    refine va_sld hx hb hX hbl hbA hS (vp_in_nI (show i < L by omega) (by omega)) (tbl tkL_0 18 rfl) ?_
    refine lv_bipush (v := 31) hx hb (tbl tkL_0 19 rfl) (by decide) ?_
    refine lv_iand hx hb (tbl tkL_0 20 rfl) ?_
    obtain ⟨j, hj, hje⟩ := pk_andE (xs (nI i).toNatClampNeg) (m := 31) 5 (by decide)
    rw [hje]
    by_cases hj20 : j < 20
    · match j, hj20 with
      | 0, _ => exact lv_tableIn (off := 95) (tgt := 128) hx hb (tbl tkL_0 21 rfl) (by decide) (by decide) (by decide) (by decide) (law_case_0 hL C0 hops hts hK hinj hAd hT hStr hcells hslots hlt hI hP hS hl next)
      | 1, _ => exact lv_tableIn (off := 158) (tgt := 191) hx hb (tbl tkL_0 21 rfl) (by decide) (by decide) (by decide) (by decide) (law_case_1 hL C0 hops hts hK hinj hAd hT hStr hcells hslots hlt hI hP hS hl next)
      | 2, _ => exact lv_tableIn (off := 181) (tgt := 214) hx hb (tbl tkL_0 21 rfl) (by decide) (by decide) (by decide) (by decide) (law_case_2 hL C0 hops hts hK hinj hAd hT hStr hcells hslots hlt hI hP hS hl next)
      | 3, _ => exact lv_tableIn (off := 204) (tgt := 237) hx hb (tbl tkL_0 21 rfl) (by decide) (by decide) (by decide) (by decide) (law_case_3 hL C0 hops hts hK hinj hAd hT hStr hcells hslots hlt hI hP hS hl next)
      | 4, _ => exact lv_tableIn (off := 227) (tgt := 260) hx hb (tbl tkL_0 21 rfl) (by decide) (by decide) (by decide) (by decide) (law_case_4 hL C0 hops hts hK hinj hAd hT hStr hcells hslots hlt hI hP hS hl next)
      | 5, _ => exact lv_tableIn (off := 270) (tgt := 303) hx hb (tbl tkL_0 21 rfl) (by decide) (by decide) (by decide) (by decide) (law_case_5 hL C0 hops hts hK hinj hAd hT hStr hcells hslots hlt hI hP hS hl next)
      | 6, _ => exact lv_tableIn (off := 313) (tgt := 346) hx hb (tbl tkL_0 21 rfl) (by decide) (by decide) (by decide) (by decide) (law_case_6 hL C0 hops hts hK hinj hAd hT hStr hcells hslots hlt hI hP hS hl next)
      | 7, _ => exact lv_tableIn (off := 336) (tgt := 369) hx hb (tbl tkL_0 21 rfl) (by decide) (by decide) (by decide) (by decide) (law_case_7 hL C0 hops hts hK hinj hAd hT hStr hcells hslots hlt hI hP hS hl next)
      | 8, _ => exact lv_tableIn (off := 369) (tgt := 402) hx hb (tbl tkL_0 21 rfl) (by decide) (by decide) (by decide) (by decide) (law_case_8 hL C0 hops hts hK hinj hAd hT hStr hcells hslots hlt hI hP hS hl next)
      | 9, _ => exact lv_tableIn (off := 402) (tgt := 435) hx hb (tbl tkL_0 21 rfl) (by decide) (by decide) (by decide) (by decide) (law_case_9 hL C0 hops hts hK hinj hAd hT hStr hcells hslots hlt hI hP hS hl next)
      | 10, _ => exact lv_tableIn (off := 445) (tgt := 478) hx hb (tbl tkL_0 21 rfl) (by decide) (by decide) (by decide) (by decide) (law_case_10 hL C0 hops hts hK hinj hAd hT hStr hcells hslots hlt hI hP hS hl next)
      | 11, _ => exact lv_tableIn (off := 468) (tgt := 501) hx hb (tbl tkL_0 21 rfl) (by decide) (by decide) (by decide) (by decide) (law_case_11 hL C0 hops hts hK hinj hAd hT hStr hcells hslots hlt hI hP hS hl next)
      | 12, _ => exact lv_tableIn (off := 501) (tgt := 534) hx hb (tbl tkL_0 21 rfl) (by decide) (by decide) (by decide) (by decide) (law_case_12 hL C0 hops hts hK hinj hAd hT hStr hcells hslots hlt hI hP hS hl next)
      | 13, _ => exact lv_tableIn (off := 534) (tgt := 567) hx hb (tbl tkL_0 21 rfl) (by decide) (by decide) (by decide) (by decide) (law_case_13 hL C0 hops hts hK hinj hAd hT hStr hcells hslots hlt hI hP hS hl next)
      | 14, _ => exact lv_tableIn (off := 557) (tgt := 590) hx hb (tbl tkL_0 21 rfl) (by decide) (by decide) (by decide) (by decide) (law_case_14 hL C0 hops hts hK hinj hAd hT hStr hcells hslots hlt hI hP hS hl next)
      | 15, _ => exact lv_tableIn (off := 610) (tgt := 643) hx hb (tbl tkL_0 21 rfl) (by decide) (by decide) (by decide) (by decide) (law_case_15 hL C0 hops hts hK hinj hAd hT hStr hcells hslots hlt hI hP hS hl next)
      | 16, _ => exact lv_tableIn (off := 643) (tgt := 676) hx hb (tbl tkL_0 21 rfl) (by decide) (by decide) (by decide) (by decide) (law_case_16 hL C0 hops hts hK hinj hAd hT hStr hcells hslots hlt hI hP hS hl next)
      | 17, _ => exact lv_tableIn (off := 676) (tgt := 709) hx hb (tbl tkL_0 21 rfl) (by decide) (by decide) (by decide) (by decide) (law_case_17 hL C0 hops hts hK hinj hAd hT hStr hcells hslots hlt hI hP hS hl next)
      | 18, _ => exact lv_tableIn (off := 709) (tgt := 742) hx hb (tbl tkL_0 21 rfl) (by decide) (by decide) (by decide) (by decide) (law_case_18 hL C0 hops hts hK hinj hAd hT hStr hcells hslots hlt hI hP hS hl next)
      | 19, _ => exact lv_tableIn (off := 748) (tgt := 781) hx hb (tbl tkL_0 21 rfl) (by decide) (by decide) (by decide) (by decide) (law_case_19 hL C0 hops hts hK hinj hAd hT hStr hcells hslots hlt hI hP hS hl next)
      | (z + 20), hz => exact absurd hz (by omega)
    · exact lv_tableOut (tgt := 804) hx hb (tbl tkL_0 21 rfl) (Or.inr (by rw [nI_toInt (by omega)]; omega)) (by decide) (next C H locs hI hP hS)
theorem law_loop {L : Nat} {xs : Nat → Int32} {Inv : mMem → Prop} {cells slots : Nat} (hL : L ≤ 3072) (C0 : lw_At p s m meth c b L xs) (hops : opsOK Inv) (hts : ∀ w ∈ gX ++ lw_tbl, w.before #[Value.ref b] s = true) (hK : va_K D clsL tys s) (hinj : ∀ i j, i < SH.length → j < SH.length → ad i = ad j → i = j) (hAd : ∀ k, k < SH.length → s.heap.size ≤ ad k) (hT : mT SH cA tys) (hStr : mStr ad adV (fun q => s.heap.size ≤ q) s s.heap) (hcells : cells ≤ 600000) (hslots : slots ≤ 7302250) : ∀ (n i : Nat), i ≤ 4000 → L + 1 ≤ i + n → ∀ (C : mMem) (H : Heap) (locs : List Loc) (lsA : Array Slot), Inv C → va_P D clsL (mW SH ad cA C) H → va_S (fun q => s.heap.size ≤ q) s.heap H locs → lv_has lsA 4 [(0, .ref b), (1, .ref (ad 0)), (2, .ref (ad 139)), (3, .int (nI i))] → W p l e room_1 s m #[Value.ref b] below meth c H locs cells slots (lw_Z below #[Value.ref b] s) (F0 m 18 lsA []) := by
  intro n
  induction n with
  | zero =>
    intro i hi hn C H locs lsA hI hP hS hl
    exact law_turn hL C0 hops hts hK hinj hAd hT hStr hcells hslots hi hI hP hS hl (fun h => absurd h (by omega))
  | succ n ih =>
    intro i hi hn C H locs lsA hI hP hS hl
    exact law_turn hL C0 hops hts hK hinj hAd hT hStr hcells hslots hi hI hP hS hl (fun h C H locs lsA hI hP hS hl => ih (i + 6) (by omega) (by omega) C H locs lsA hI hP hS hl)
end LAW
