/-! ===== the law's loop ===== -/
def tb_LA_136 : List En := [(136, .aload_n 1, 1), (137, .aload_n 0, 1), (138, .iload_n 3, 1), (139, .iconst 1, 1), (140, .iadd, 1), (141, .iaload, 1), (142, .invokevirtual 13, 3), (145, .aload_n 2, 1), (146, .aload_n 0, 1), (147, .iload_n 3, 1), (148, .iconst 1, 1), (149, .iadd, 1), (150, .iaload, 1), (151, .invokevirtual 17, 3), (154, .if_icmp .eq 593, 3), (157, .iconst 0, 1), (158, .ireturn, 1)]
theorem tk_LA_136 : ∀ q ∈ tb_LA_136, decode code q.1 = .ok (q.2.1, q.2.2) := by decide +kernel
def tb_LA_159 : List En := [(159, .aload_n 1, 1), (160, .invokevirtual 18, 3), (163, .aload_n 2, 1), (164, .invokevirtual 22, 3), (167, .if_icmp .eq 580, 3), (170, .iconst 0, 1), (171, .ireturn, 1)]
theorem tk_LA_159 : ∀ q ∈ tb_LA_159, decode code q.1 = .ok (q.2.1, q.2.2) := by decide +kernel
def tb_LA_172 : List En := [(172, .aload_n 1, 1), (173, .invokevirtual 23, 3), (176, .aload_n 2, 1), (177, .invokevirtual 26, 3), (180, .if_icmp .eq 567, 3), (183, .iconst 0, 1), (184, .ireturn, 1)]
theorem tk_LA_172 : ∀ q ∈ tb_LA_172, decode code q.1 = .ok (q.2.1, q.2.2) := by decide +kernel
def tb_LA_185 : List En := [(185, .aload_n 1, 1), (186, .invokevirtual 27, 3), (189, .aload_n 2, 1), (190, .invokevirtual 30, 3), (193, .if_icmp .eq 554, 3), (196, .iconst 0, 1), (197, .ireturn, 1)]
theorem tk_LA_185 : ∀ q ∈ tb_LA_185, decode code q.1 = .ok (q.2.1, q.2.2) := by decide +kernel
def tb_LA_198 : List En := [(198, .aload_n 1, 1), (199, .aload_n 0, 1), (200, .iload_n 3, 1), (201, .iconst 1, 1), (202, .iadd, 1), (203, .iaload, 1), (204, .aload_n 0, 1), (205, .iload_n 3, 1), (206, .iconst 2, 1), (207, .iadd, 1), (208, .iaload, 1), (209, .invokevirtual 31, 3), (212, .aload_n 2, 1), (213, .aload_n 0, 1), (214, .iload_n 3, 1), (215, .iconst 1, 1), (216, .iadd, 1), (217, .iaload, 1), (218, .aload_n 0, 1), (219, .iload_n 3, 1), (220, .iconst 2, 1), (221, .iadd, 1), (222, .iaload, 1), (223, .invokevirtual 35, 3), (226, .if_icmp .eq 521, 3), (229, .iconst 0, 1), (230, .ireturn, 1)]
theorem tk_LA_198 : ∀ q ∈ tb_LA_198, decode code q.1 = .ok (q.2.1, q.2.2) := by decide +kernel
def tb_LA_231 : List En := [(231, .aload_n 1, 1), (232, .aload_n 0, 1), (233, .iload_n 3, 1), (234, .iconst 1, 1), (235, .iadd, 1), (236, .iaload, 1), (237, .aload_n 0, 1), (238, .iload_n 3, 1), (239, .iconst 2, 1), (240, .iadd, 1), (241, .iaload, 1), (242, .invokevirtual 36, 3), (245, .aload_n 2, 1), (246, .aload_n 0, 1), (247, .iload_n 3, 1), (248, .iconst 1, 1), (249, .iadd, 1), (250, .iaload, 1), (251, .aload_n 0, 1), (252, .iload_n 3, 1), (253, .iconst 2, 1), (254, .iadd, 1), (255, .iaload, 1), (256, .invokevirtual 39, 3), (259, .if_icmp .eq 488, 3), (262, .iconst 0, 1), (263, .ireturn, 1)]
theorem tk_LA_231 : ∀ q ∈ tb_LA_231, decode code q.1 = .ok (q.2.1, q.2.2) := by decide +kernel
def tb_LA_264 : List En := [(264, .aload_n 1, 1), (265, .aload_n 0, 1), (266, .iload_n 3, 1), (267, .iconst 1, 1), (268, .iadd, 1), (269, .iaload, 1), (270, .aload_n 0, 1), (271, .iload_n 3, 1), (272, .iconst 2, 1), (273, .iadd, 1), (274, .iaload, 1), (275, .ifCond .eq 7, 3), (278, .iconst 1, 1), (279, .goto 4, 3), (282, .iconst 0, 1), (283, .invokevirtual 40, 3), (286, .aload_n 2, 1), (287, .aload_n 0, 1), (288, .iload_n 3, 1), (289, .iconst 1, 1), (290, .iadd, 1), (291, .iaload, 1), (292, .aload_n 0, 1), (293, .iload_n 3, 1), (294, .iconst 2, 1), (295, .iadd, 1), (296, .iaload, 1), (297, .ifCond .eq 7, 3), (300, .iconst 1, 1), (301, .goto 4, 3), (304, .iconst 0, 1), (305, .invokevirtual 44, 3), (308, .if_icmp .eq 439, 3), (311, .iconst 0, 1), (312, .ireturn, 1)]
theorem tk_LA_264 : ∀ q ∈ tb_LA_264, decode code q.1 = .ok (q.2.1, q.2.2) := by decide +kernel
def tb_LA_313 : List En := [(313, .aload_n 1, 1), (314, .aload_n 0, 1), (315, .iload_n 3, 1), (316, .iconst 1, 1), (317, .iadd, 1), (318, .iaload, 1), (319, .aload_n 0, 1), (320, .iload_n 3, 1), (321, .iconst 2, 1), (322, .iadd, 1), (323, .iaload, 1), (324, .invokevirtual 45, 3), (327, .aload_n 2, 1), (328, .aload_n 0, 1), (329, .iload_n 3, 1), (330, .iconst 1, 1), (331, .iadd, 1), (332, .iaload, 1), (333, .aload_n 0, 1), (334, .iload_n 3, 1), (335, .iconst 2, 1), (336, .iadd, 1), (337, .iaload, 1), (338, .invokevirtual 48, 3), (341, .if_icmp .eq 406, 3), (344, .iconst 0, 1), (345, .ireturn, 1)]
theorem tk_LA_313 : ∀ q ∈ tb_LA_313, decode code q.1 = .ok (q.2.1, q.2.2) := by decide +kernel
def tb_LA_346 : List En := [(346, .aload_n 1, 1), (347, .aload_n 0, 1), (348, .iload_n 3, 1), (349, .iconst 1, 1), (350, .iadd, 1), (351, .iaload, 1), (352, .aload_n 0, 1), (353, .iload_n 3, 1), (354, .iconst 2, 1), (355, .iadd, 1), (356, .iaload, 1), (357, .invokevirtual 49, 3), (360, .aload_n 2, 1), (361, .aload_n 0, 1), (362, .iload_n 3, 1), (363, .iconst 1, 1), (364, .iadd, 1), (365, .iaload, 1), (366, .aload_n 0, 1), (367, .iload_n 3, 1), (368, .iconst 2, 1), (369, .iadd, 1), (370, .iaload, 1), (371, .invokevirtual 52, 3), (374, .if_icmp .eq 373, 3), (377, .iconst 0, 1), (378, .ireturn, 1)]
theorem tk_LA_346 : ∀ q ∈ tb_LA_346, decode code q.1 = .ok (q.2.1, q.2.2) := by decide +kernel
def tb_LA_379 : List En := [(379, .aload_n 1, 1), (380, .aload_n 0, 1), (381, .iload_n 3, 1), (382, .iconst 1, 1), (383, .iadd, 1), (384, .iaload, 1), (385, .aload_n 0, 1), (386, .iload_n 3, 1), (387, .iconst 2, 1), (388, .iadd, 1), (389, .iaload, 1), (390, .aload_n 0, 1), (391, .iload_n 3, 1), (392, .iconst 3, 1), (393, .iadd, 1), (394, .iaload, 1), (395, .ifCond .eq 7, 3), (398, .iconst 1, 1), (399, .goto 4, 3), (402, .iconst 0, 1), (403, .invokevirtual 53, 3), (406, .aload_n 2, 1), (407, .aload_n 0, 1), (408, .iload_n 3, 1), (409, .iconst 1, 1), (410, .iadd, 1), (411, .iaload, 1), (412, .aload_n 0, 1), (413, .iload_n 3, 1), (414, .iconst 2, 1), (415, .iadd, 1), (416, .iaload, 1), (417, .aload_n 0, 1), (418, .iload_n 3, 1), (419, .iconst 3, 1), (420, .iadd, 1), (421, .iaload, 1), (422, .ifCond .eq 7, 3), (425, .iconst 1, 1), (426, .goto 4, 3), (429, .iconst 0, 1), (430, .invokevirtual 57, 3), (433, .if_icmp .eq 314, 3), (436, .iconst 0, 1), (437, .ireturn, 1)]
theorem tk_LA_379 : ∀ q ∈ tb_LA_379, decode code q.1 = .ok (q.2.1, q.2.2) := by decide +kernel
def tb_LA_438 : List En := [(438, .aload_n 1, 1), (439, .invokevirtual 58, 3), (442, .aload_n 2, 1), (443, .invokevirtual 61, 3), (446, .if_icmp .eq 301, 3), (449, .iconst 0, 1), (450, .ireturn, 1)]
theorem tk_LA_438 : ∀ q ∈ tb_LA_438, decode code q.1 = .ok (q.2.1, q.2.2) := by decide +kernel
def tb_LA_451 : List En := [(451, .aload_n 1, 1), (452, .aload_n 0, 1), (453, .iload_n 3, 1), (454, .iconst 1, 1), (455, .iadd, 1), (456, .iaload, 1), (457, .invokevirtual 62, 3), (460, .aload_n 2, 1), (461, .aload_n 0, 1), (462, .iload_n 3, 1), (463, .iconst 1, 1), (464, .iadd, 1), (465, .iaload, 1), (466, .invokevirtual 65, 3), (469, .if_icmp .eq 278, 3), (472, .iconst 0, 1), (473, .ireturn, 1)]
theorem tk_LA_451 : ∀ q ∈ tb_LA_451, decode code q.1 = .ok (q.2.1, q.2.2) := by decide +kernel
def tb_LA_474 : List En := [(474, .aload_n 1, 1), (475, .aload_n 0, 1), (476, .iload_n 3, 1), (477, .iconst 1, 1), (478, .iadd, 1), (479, .iaload, 1), (480, .aload_n 0, 1), (481, .iload_n 3, 1), (482, .iconst 2, 1), (483, .iadd, 1), (484, .iaload, 1), (485, .aload_n 0, 1), (486, .iload_n 3, 1), (487, .iconst 3, 1), (488, .iadd, 1), (489, .iaload, 1), (490, .ifCond .eq 7, 3), (493, .iconst 1, 1), (494, .goto 4, 3), (497, .iconst 0, 1), (498, .aload_n 0, 1), (499, .iload_n 3, 1), (500, .iconst 4, 1), (501, .iadd, 1), (502, .iaload, 1), (503, .aload_n 0, 1), (504, .iload_n 3, 1), (505, .iconst 5, 1), (506, .iadd, 1), (507, .iaload, 1), (508, .ifCond .eq 7, 3), (511, .iconst 1, 1), (512, .goto 4, 3), (515, .iconst 0, 1), (516, .invokevirtual 66, 3), (519, .aload_n 2, 1), (520, .aload_n 0, 1), (521, .iload_n 3, 1), (522, .iconst 1, 1), (523, .iadd, 1), (524, .iaload, 1), (525, .aload_n 0, 1), (526, .iload_n 3, 1), (527, .iconst 2, 1), (528, .iadd, 1), (529, .iaload, 1), (530, .aload_n 0, 1), (531, .iload_n 3, 1), (532, .iconst 3, 1), (533, .iadd, 1), (534, .iaload, 1), (535, .ifCond .eq 7, 3), (538, .iconst 1, 1), (539, .goto 4, 3), (542, .iconst 0, 1), (543, .aload_n 0, 1), (544, .iload_n 3, 1), (545, .iconst 4, 1), (546, .iadd, 1), (547, .iaload, 1), (548, .aload_n 0, 1), (549, .iload_n 3, 1), (550, .iconst 5, 1), (551, .iadd, 1), (552, .iaload, 1), (553, .ifCond .eq 7, 3), (556, .iconst 1, 1), (557, .goto 4, 3), (560, .iconst 0, 1), (561, .invokevirtual 70, 3), (564, .if_icmp .eq 183, 3), (567, .iconst 0, 1), (568, .ireturn, 1)]
theorem tk_LA_474 : ∀ q ∈ tb_LA_474, decode code q.1 = .ok (q.2.1, q.2.2) := by decide +kernel
def tb_LA_569 : List En := [(569, .aload_n 1, 1), (570, .invokevirtual 71, 3), (573, .aload_n 2, 1), (574, .invokevirtual 74, 3), (577, .if_icmp .eq 170, 3), (580, .iconst 0, 1), (581, .ireturn, 1)]
theorem tk_LA_569 : ∀ q ∈ tb_LA_569, decode code q.1 = .ok (q.2.1, q.2.2) := by decide +kernel
def tb_LA_582 : List En := [(582, .aload_n 1, 1), (583, .aload_n 0, 1), (584, .iload_n 3, 1), (585, .iconst 1, 1), (586, .iadd, 1), (587, .iaload, 1), (588, .invokevirtual 75, 3), (591, .aload_n 2, 1), (592, .aload_n 0, 1), (593, .iload_n 3, 1), (594, .iconst 1, 1), (595, .iadd, 1), (596, .iaload, 1), (597, .invokevirtual 78, 3), (600, .if_icmp .eq 147, 3), (603, .iconst 0, 1), (604, .ireturn, 1)]
theorem tk_LA_582 : ∀ q ∈ tb_LA_582, decode code q.1 = .ok (q.2.1, q.2.2) := by decide +kernel
def tb_LA_605 : List En := [(605, .aload_n 1, 1), (606, .invokevirtual 79, 3), (609, .aload_n 2, 1), (610, .invokevirtual 82, 3), (613, .if_icmp .eq 134, 3), (616, .iconst 0, 1), (617, .ireturn, 1)]
theorem tk_LA_605 : ∀ q ∈ tb_LA_605, decode code q.1 = .ok (q.2.1, q.2.2) := by decide +kernel
def tb_LA_618 : List En := [(618, .aload_n 1, 1), (619, .aload_n 0, 1), (620, .iload_n 3, 1), (621, .iconst 1, 1), (622, .iadd, 1), (623, .iaload, 1), (624, .invokevirtual 83, 3), (627, .aload_n 2, 1), (628, .aload_n 0, 1), (629, .iload_n 3, 1), (630, .iconst 1, 1), (631, .iadd, 1), (632, .iaload, 1), (633, .invokevirtual 86, 3), (636, .if_icmp .eq 111, 3), (639, .iconst 0, 1), (640, .ireturn, 1)]
theorem tk_LA_618 : ∀ q ∈ tb_LA_618, decode code q.1 = .ok (q.2.1, q.2.2) := by decide +kernel
def tb_LA_641 : List En := [(641, .aload_n 1, 1), (642, .aload_n 0, 1), (643, .iload_n 3, 1), (644, .iconst 1, 1), (645, .iadd, 1), (646, .iaload, 1), (647, .aload_n 0, 1), (648, .iload_n 3, 1), (649, .iconst 2, 1), (650, .iadd, 1), (651, .iaload, 1), (652, .aload_n 0, 1), (653, .iload_n 3, 1), (654, .iconst 3, 1), (655, .iadd, 1), (656, .iaload, 1), (657, .invokevirtual 87, 3), (660, .aload_n 2, 1), (661, .aload_n 0, 1), (662, .iload_n 3, 1), (663, .iconst 1, 1), (664, .iadd, 1), (665, .iaload, 1), (666, .aload_n 0, 1), (667, .iload_n 3, 1), (668, .iconst 2, 1), (669, .iadd, 1), (670, .iaload, 1), (671, .aload_n 0, 1), (672, .iload_n 3, 1), (673, .iconst 3, 1), (674, .iadd, 1), (675, .iaload, 1), (676, .invokevirtual 91, 3), (679, .if_icmp .eq 68, 3), (682, .iconst 0, 1), (683, .ireturn, 1)]
theorem tk_LA_641 : ∀ q ∈ tb_LA_641, decode code q.1 = .ok (q.2.1, q.2.2) := by decide +kernel
def tb_LA_684 : List En := [(684, .aload_n 1, 1), (685, .invokevirtual 92, 3), (688, .aload_n 2, 1), (689, .invokevirtual 95, 3), (692, .if_icmp .eq 55, 3), (695, .iconst 0, 1), (696, .ireturn, 1)]
theorem tk_LA_684 : ∀ q ∈ tb_LA_684, decode code q.1 = .ok (q.2.1, q.2.2) := by decide +kernel
def tb_LA_697 : List En := [(697, .aload_n 1, 1), (698, .invokevirtual 96, 3), (701, .aload_n 2, 1), (702, .invokevirtual 99, 3), (705, .if_icmp .eq 42, 3), (708, .iconst 0, 1), (709, .ireturn, 1)]
theorem tk_LA_697 : ∀ q ∈ tb_LA_697, decode code q.1 = .ok (q.2.1, q.2.2) := by decide +kernel
def tb_LA_710 : List En := [(710, .aload_n 1, 1), (711, .aload_n 0, 1), (712, .iload_n 3, 1), (713, .iconst 1, 1), (714, .iadd, 1), (715, .iaload, 1), (716, .invokevirtual 100, 3), (719, .aload_n 2, 1), (720, .aload_n 0, 1), (721, .iload_n 3, 1), (722, .iconst 1, 1), (723, .iadd, 1), (724, .iaload, 1), (725, .invokevirtual 103, 3), (728, .if_icmp .eq 19, 3), (731, .iconst 0, 1), (732, .ireturn, 1)]
theorem tk_LA_710 : ∀ q ∈ tb_LA_710, decode code q.1 = .ok (q.2.1, q.2.2) := by decide +kernel
def tb_LA_733 : List En := [(733, .aload_n 1, 1), (734, .invokevirtual 104, 3), (737, .aload_n 2, 1), (738, .invokevirtual 108, 3), (741, .lcmp, 1), (742, .ifCond .eq 5, 3), (745, .iconst 0, 1), (746, .ireturn, 1)]
theorem tk_LA_733 : ∀ q ∈ tb_LA_733, decode code q.1 = .ok (q.2.1, q.2.2) := by decide +kernel
def tb_LA_0 : List En := [(18, .iload_n 3, 1), (19, .aload_n 0, 1), (20, .arraylength, 1), (21, .bipush 6, 2), (23, .isub, 1), (24, .if_icmp .gt 729, 3), (27, .aload_n 0, 1), (28, .iload_n 3, 1), (29, .iaload, 1), (30, .bipush 31, 2), (32, .iand, 1), (33, .tableswitch 714 0 21 #[103, 126, 139, 152, 165, 198, 231, 280, 313, 346, 405, 418, 441, 536, 549, 572, 585, 608, 651, 664, 677, 700], 103), (747, .iinc 3 6, 3), (750, .goto (-732), 3), (753, .iconst 1, 1), (754, .ireturn, 1)]
theorem tk_LA_0 : ∀ q ∈ tb_LA_0, decode code q.1 = .ok (q.2.1, q.2.2) := by decide +kernel
/-- the script stands outside the 88 cells: it is number 90 -/
def SX (X : MC) (L : Nat) (xs : Nat → Int32) : Prop := match X with
  | (_, _, _, _, s, _, _, _, _, _, _, ad, _, _, _, _, _) => va_X (ad 90) L xs s s.heap ∧ ad 90 < s.heap.size ∧ ¬ AA ad (ad 90)
theorem V_sld {E : RT} {own d nL : Nat} {cc : ByteArray} {X : MC} {L : Nat} {xs : Nat → Int32} {pc : Nat} {lv : List (Option Value)} {st : List Value} {h : Hp} {i : Int32} (C : CX E own d cc nL X) (S : SX X L xs) (hin : vp_in i L) (hd : decode cc pc = .ok (.iaload, 1)) (k : V X (pc + 1) lv (.int (xs i.toNatClampNeg) :: st) h) : V X pc lv (.int i :: .ref 90 :: st) h := by
  obtain ⟨p, l, e, R, s, m, args, below, meth, c, D, ad, cI, nL', cells, slots, Q⟩ := X
  obtain ⟨-, hx, hb, -⟩ := C
  obtain ⟨s1, s2, s3⟩ := S
  intro H locs ls hP hS hl
  exact va_sld hx hb s1 s2 s3 hS hin hd (k H locs ls hP hS hl)
theorem V_slen {E : RT} {own d nL : Nat} {cc : ByteArray} {X : MC} {L : Nat} {xs : Nat → Int32} {pc : Nat} {lv : List (Option Value)} {st : List Value} {h : Hp} (C : CX E own d cc nL X) (S : SX X L xs) (hd : decode cc pc = .ok (.arraylength, 1)) (k : V X (pc + 1) lv (.int (nI L) :: st) h) : V X pc lv (.ref 90 :: st) h := by
  obtain ⟨p, l, e, R, s, m, args, below, meth, c, D, ad, cI, nL', cells, slots, Q⟩ := X
  obtain ⟨-, hx, hb, -⟩ := C
  obtain ⟨s1, s2, s3⟩ := S
  intro H locs ls hP hS hl
  exact va_slen hx hb s1 s2 s3 hS hd (k H locs ls hP hS hl)
theorem sIn {i k L : Nat} (h : i + 6 ≤ L) (hk : k < 6) (hL : L ≤ 384) : vp_in (nI i + nI k) L := by
  rw [nI_add]
  exact inn (by omega) (by omega)
theorem Inv.mono {N M : Nat} {h : Hp} (I : Inv N h) (hm : N ≤ M) : Inv M h := by
  obtain ⟨K, A, q3, q4, F, H, p, pg, c, a, b, ⟨x1, x2, x3⟩, kp⟩ := I
  exact ⟨K, A, q3, q4, F, H, p, pg, c, a, b, ⟨x1, x2, Nat.le_trans x3 hm⟩, kp⟩
abbrev LV (i : Nat) : List (Option Value) := [some (.ref 90), some (.ref 0), some (.ref 73), some (.int (nI i))]
theorem dl_20 : decode code 20 = .ok (.arraylength, 1) := by decide +kernel
theorem dl_29 : decode code 29 = .ok (.iaload, 1) := by decide +kernel
theorem dl_141 : decode code 141 = .ok (.iaload, 1) := by decide +kernel
theorem dl_150 : decode code 150 = .ok (.iaload, 1) := by decide +kernel
theorem dl_203 : decode code 203 = .ok (.iaload, 1) := by decide +kernel
theorem dl_208 : decode code 208 = .ok (.iaload, 1) := by decide +kernel
theorem dl_217 : decode code 217 = .ok (.iaload, 1) := by decide +kernel
theorem dl_222 : decode code 222 = .ok (.iaload, 1) := by decide +kernel
theorem dl_236 : decode code 236 = .ok (.iaload, 1) := by decide +kernel
theorem dl_241 : decode code 241 = .ok (.iaload, 1) := by decide +kernel
theorem dl_250 : decode code 250 = .ok (.iaload, 1) := by decide +kernel
theorem dl_255 : decode code 255 = .ok (.iaload, 1) := by decide +kernel
theorem dl_269 : decode code 269 = .ok (.iaload, 1) := by decide +kernel
theorem dl_274 : decode code 274 = .ok (.iaload, 1) := by decide +kernel
theorem dl_291 : decode code 291 = .ok (.iaload, 1) := by decide +kernel
theorem dl_296 : decode code 296 = .ok (.iaload, 1) := by decide +kernel
theorem dl_318 : decode code 318 = .ok (.iaload, 1) := by decide +kernel
theorem dl_323 : decode code 323 = .ok (.iaload, 1) := by decide +kernel
theorem dl_332 : decode code 332 = .ok (.iaload, 1) := by decide +kernel
theorem dl_337 : decode code 337 = .ok (.iaload, 1) := by decide +kernel
theorem dl_351 : decode code 351 = .ok (.iaload, 1) := by decide +kernel
theorem dl_356 : decode code 356 = .ok (.iaload, 1) := by decide +kernel
theorem dl_365 : decode code 365 = .ok (.iaload, 1) := by decide +kernel
theorem dl_370 : decode code 370 = .ok (.iaload, 1) := by decide +kernel
theorem dl_384 : decode code 384 = .ok (.iaload, 1) := by decide +kernel
theorem dl_389 : decode code 389 = .ok (.iaload, 1) := by decide +kernel
theorem dl_394 : decode code 394 = .ok (.iaload, 1) := by decide +kernel
theorem dl_411 : decode code 411 = .ok (.iaload, 1) := by decide +kernel
theorem dl_416 : decode code 416 = .ok (.iaload, 1) := by decide +kernel
theorem dl_421 : decode code 421 = .ok (.iaload, 1) := by decide +kernel
theorem dl_456 : decode code 456 = .ok (.iaload, 1) := by decide +kernel
theorem dl_465 : decode code 465 = .ok (.iaload, 1) := by decide +kernel
theorem dl_479 : decode code 479 = .ok (.iaload, 1) := by decide +kernel
theorem dl_484 : decode code 484 = .ok (.iaload, 1) := by decide +kernel
theorem dl_489 : decode code 489 = .ok (.iaload, 1) := by decide +kernel
theorem dl_502 : decode code 502 = .ok (.iaload, 1) := by decide +kernel
theorem dl_507 : decode code 507 = .ok (.iaload, 1) := by decide +kernel
theorem dl_524 : decode code 524 = .ok (.iaload, 1) := by decide +kernel
theorem dl_529 : decode code 529 = .ok (.iaload, 1) := by decide +kernel
theorem dl_534 : decode code 534 = .ok (.iaload, 1) := by decide +kernel
theorem dl_547 : decode code 547 = .ok (.iaload, 1) := by decide +kernel
theorem dl_552 : decode code 552 = .ok (.iaload, 1) := by decide +kernel
theorem dl_587 : decode code 587 = .ok (.iaload, 1) := by decide +kernel
theorem dl_596 : decode code 596 = .ok (.iaload, 1) := by decide +kernel
theorem dl_623 : decode code 623 = .ok (.iaload, 1) := by decide +kernel
theorem dl_632 : decode code 632 = .ok (.iaload, 1) := by decide +kernel
theorem dl_646 : decode code 646 = .ok (.iaload, 1) := by decide +kernel
theorem dl_651 : decode code 651 = .ok (.iaload, 1) := by decide +kernel
theorem dl_656 : decode code 656 = .ok (.iaload, 1) := by decide +kernel
theorem dl_665 : decode code 665 = .ok (.iaload, 1) := by decide +kernel
theorem dl_670 : decode code 670 = .ok (.iaload, 1) := by decide +kernel
theorem dl_675 : decode code 675 = .ok (.iaload, 1) := by decide +kernel
theorem dl_715 : decode code 715 = .ok (.iaload, 1) := by decide +kernel
theorem dl_724 : decode code 724 = .ok (.iaload, 1) := by decide +kernel
theorem lcm0 (z : Int64) : lg_cmp z z = 0 := by
  simp [lg_cmp]
theorem arm_letter {X : MC} {L i : Nat} {xs : Nat → Int32} {h : Hp} (C : CX none 8 12 code 4 X) (S : SX X L xs) (hL : L ≤ 384) (hi : i + 6 ≤ L) (I : Inv i h) (nx : ∀ h', Inv (i + 1) h' → V X 747 (LV i) [] h') : V X 136 (LV i) [] h := by
  obtain ⟨x, P, q1, k1⟩ := pr_letter I (xs (nI i + 1).toNatClampNeg)
  refine V_go C tk_LA_136 [141, 747] 37 ?_
  refine V_sld C S (sIn (k := 1) hi (by decide) hL) dl_141 ?_
  refine V_go C tk_LA_136 [150, 747] 37 ?_
  refine ⟨_, q1, fun r142 h142 p142 => ?_⟩
  obtain ⟨rfl, P2, q2, k2⟩ := k1 _ _ p142
  refine V_sld C S (sIn (k := 1) hi (by decide) hL) dl_150 ?_
  refine V_go C tk_LA_136 [747] 37 ?_
  refine ⟨_, q2, fun r151 h151 p151 => ?_⟩
  obtain ⟨rfl, I2⟩ := k2 _ _ p151
  refine And.intro (fun c154 => ?_) (fun c154 => ?_)
  · exact nx _ I2
  · exact absurd rfl c154
theorem arm_blank {X : MC} {L i : Nat} {xs : Nat → Int32} {h : Hp} (C : CX none 8 12 code 4 X) (S : SX X L xs) (hL : L ≤ 384) (hi : i + 6 ≤ L) (I : Inv i h) (nx : ∀ h', Inv (i + 1) h' → V X 747 (LV i) [] h') : V X 159 (LV i) [] h := by
  obtain ⟨x, P, q1, k1⟩ := pr_blank I 
  refine V_go C tk_LA_159 [747] 27 ?_
  refine ⟨_, q1, fun r160 h160 p160 => ?_⟩
  obtain ⟨rfl, P2, q2, k2⟩ := k1 _ _ p160
  refine ⟨_, q2, fun r164 h164 p164 => ?_⟩
  obtain ⟨rfl, I2⟩ := k2 _ _ p164
  refine And.intro (fun c167 => ?_) (fun c167 => ?_)
  · exact nx _ I2
  · exact absurd rfl c167
theorem arm_fault {X : MC} {L i : Nat} {xs : Nat → Int32} {h : Hp} (C : CX none 8 12 code 4 X) (S : SX X L xs) (hL : L ≤ 384) (hi : i + 6 ≤ L) (I : Inv i h) (nx : ∀ h', Inv (i + 1) h' → V X 747 (LV i) [] h') : V X 172 (LV i) [] h := by
  obtain ⟨x, P, q1, k1⟩ := pr_fault I 
  refine V_go C tk_LA_172 [747] 27 ?_
  refine ⟨_, q1, fun r173 h173 p173 => ?_⟩
  obtain ⟨rfl, P2, q2, k2⟩ := k1 _ _ p173
  refine ⟨_, q2, fun r177 h177 p177 => ?_⟩
  obtain ⟨rfl, I2⟩ := k2 _ _ p177
  refine And.intro (fun c180 => ?_) (fun c180 => ?_)
  · exact nx _ I2
  · exact absurd rfl c180
theorem arm_strait {X : MC} {L i : Nat} {xs : Nat → Int32} {h : Hp} (C : CX none 8 12 code 4 X) (S : SX X L xs) (hL : L ≤ 384) (hi : i + 6 ≤ L) (I : Inv i h) (nx : ∀ h', Inv (i + 1) h' → V X 747 (LV i) [] h') : V X 185 (LV i) [] h := by
  obtain ⟨x, P, q1, k1⟩ := pr_strait I  (by omega)
  refine V_go C tk_LA_185 [747] 27 ?_
  refine ⟨_, q1, fun r186 h186 p186 => ?_⟩
  obtain ⟨rfl, P2, q2, k2⟩ := k1 _ _ p186
  refine ⟨_, q2, fun r190 h190 p190 => ?_⟩
  obtain ⟨rfl, I2⟩ := k2 _ _ p190
  refine And.intro (fun c193 => ?_) (fun c193 => ?_)
  · exact nx _ I2
  · exact absurd rfl c193
theorem arm_about {X : MC} {L i : Nat} {xs : Nat → Int32} {h : Hp} (C : CX none 8 12 code 4 X) (S : SX X L xs) (hL : L ≤ 384) (hi : i + 6 ≤ L) (I : Inv i h) (nx : ∀ h', Inv (i + 1) h' → V X 747 (LV i) [] h') : V X 198 (LV i) [] h := by
  obtain ⟨x, P, q1, k1⟩ := pr_about I (xs (nI i + 1).toNatClampNeg) (xs (nI i + 2).toNatClampNeg)
  refine V_go C tk_LA_198 [203, 747] 47 ?_
  refine V_sld C S (sIn (k := 1) hi (by decide) hL) dl_203 ?_
  refine V_go C tk_LA_198 [208, 747] 47 ?_
  refine V_sld C S (sIn (k := 2) hi (by decide) hL) dl_208 ?_
  refine V_go C tk_LA_198 [217, 747] 47 ?_
  refine ⟨_, q1, fun r209 h209 p209 => ?_⟩
  obtain ⟨rfl, P2, q2, k2⟩ := k1 _ _ p209
  refine V_sld C S (sIn (k := 1) hi (by decide) hL) dl_217 ?_
  refine V_go C tk_LA_198 [222, 747] 47 ?_
  refine V_sld C S (sIn (k := 2) hi (by decide) hL) dl_222 ?_
  refine V_go C tk_LA_198 [747] 47 ?_
  refine ⟨_, q2, fun r223 h223 p223 => ?_⟩
  obtain ⟨rfl, I2⟩ := k2 _ _ p223
  refine And.intro (fun c226 => ?_) (fun c226 => ?_)
  · exact nx _ I2
  · exact absurd rfl c226
theorem arm_as {X : MC} {L i : Nat} {xs : Nat → Int32} {h : Hp} (C : CX none 8 12 code 4 X) (S : SX X L xs) (hL : L ≤ 384) (hi : i + 6 ≤ L) (I : Inv i h) (nx : ∀ h', Inv (i + 1) h' → V X 747 (LV i) [] h') : V X 231 (LV i) [] h := by
  obtain ⟨x, P, q1, k1⟩ := pr_as I (xs (nI i + 1).toNatClampNeg) (xs (nI i + 2).toNatClampNeg)
  refine V_go C tk_LA_231 [236, 747] 47 ?_
  refine V_sld C S (sIn (k := 1) hi (by decide) hL) dl_236 ?_
  refine V_go C tk_LA_231 [241, 747] 47 ?_
  refine V_sld C S (sIn (k := 2) hi (by decide) hL) dl_241 ?_
  refine V_go C tk_LA_231 [250, 747] 47 ?_
  refine ⟨_, q1, fun r242 h242 p242 => ?_⟩
  obtain ⟨rfl, P2, q2, k2⟩ := k1 _ _ p242
  refine V_sld C S (sIn (k := 1) hi (by decide) hL) dl_250 ?_
  refine V_go C tk_LA_231 [255, 747] 47 ?_
  refine V_sld C S (sIn (k := 2) hi (by decide) hL) dl_255 ?_
  refine V_go C tk_LA_231 [747] 47 ?_
  refine ⟨_, q2, fun r256 h256 p256 => ?_⟩
  obtain ⟨rfl, I2⟩ := k2 _ _ p256
  refine And.intro (fun c259 => ?_) (fun c259 => ?_)
  · exact nx _ I2
  · exact absurd rfl c259
theorem arm_fact {X : MC} {L i : Nat} {xs : Nat → Int32} {h : Hp} (C : CX none 8 12 code 4 X) (S : SX X L xs) (hL : L ≤ 384) (hi : i + 6 ≤ L) (I : Inv i h) (nx : ∀ h', Inv (i + 1) h' → V X 747 (LV i) [] h') : V X 264 (LV i) [] h := by
  by_cases z2 : xs (nI i + 2).toNatClampNeg = 0
  · skip
    obtain ⟨x, P, q1, k1⟩ := pr_fact I (xs (nI i + 1).toNatClampNeg) false
    refine V_go C tk_LA_264 [269, 747] 55 ?_
    refine V_sld C S (sIn (k := 1) hi (by decide) hL) dl_269 ?_
    refine V_go C tk_LA_264 [274, 747] 55 ?_
    refine V_sld C S (sIn (k := 2) hi (by decide) hL) dl_274 ?_
    suffices B275 : V X 283 (LV i) [.int (tI false), .int (xs (nI i + 1).toNatClampNeg), .ref 0] h from by
      refine V_go C tk_LA_264 [283] 55 ?_
      refine And.intro (fun c275 => ?_) (fun c275 => ?_)
      · exact B275
      · exact absurd z2 c275
    refine V_go C tk_LA_264 [291, 747] 55 ?_
    refine ⟨_, q1, fun r283 h283 p283 => ?_⟩
    obtain ⟨rfl, P2, q2, k2⟩ := k1 _ _ p283
    refine V_sld C S (sIn (k := 1) hi (by decide) hL) dl_291 ?_
    refine V_go C tk_LA_264 [296, 747] 55 ?_
    refine V_sld C S (sIn (k := 2) hi (by decide) hL) dl_296 ?_
    suffices B297 : V X 305 (LV i) [.int (tI false), .int (xs (nI i + 1).toNatClampNeg), .ref 73, .int x] h283 from by
      refine V_go C tk_LA_264 [305] 55 ?_
      refine And.intro (fun c297 => ?_) (fun c297 => ?_)
      · exact B297
      · exact absurd z2 c297
    refine V_go C tk_LA_264 [747] 55 ?_
    refine ⟨_, q2, fun r305 h305 p305 => ?_⟩
    obtain ⟨rfl, I2⟩ := k2 _ _ p305
    refine And.intro (fun c308 => ?_) (fun c308 => ?_)
    · exact nx _ I2
    · exact absurd rfl c308
  · skip
    obtain ⟨x, P, q1, k1⟩ := pr_fact I (xs (nI i + 1).toNatClampNeg) true
    refine V_go C tk_LA_264 [269, 747] 55 ?_
    refine V_sld C S (sIn (k := 1) hi (by decide) hL) dl_269 ?_
    refine V_go C tk_LA_264 [274, 747] 55 ?_
    refine V_sld C S (sIn (k := 2) hi (by decide) hL) dl_274 ?_
    suffices B275 : V X 283 (LV i) [.int (tI true), .int (xs (nI i + 1).toNatClampNeg), .ref 0] h from by
      refine V_go C tk_LA_264 [283] 55 ?_
      refine And.intro (fun c275 => ?_) (fun c275 => ?_)
      · exact absurd c275 z2
      · exact B275
    refine V_go C tk_LA_264 [291, 747] 55 ?_
    refine ⟨_, q1, fun r283 h283 p283 => ?_⟩
    obtain ⟨rfl, P2, q2, k2⟩ := k1 _ _ p283
    refine V_sld C S (sIn (k := 1) hi (by decide) hL) dl_291 ?_
    refine V_go C tk_LA_264 [296, 747] 55 ?_
    refine V_sld C S (sIn (k := 2) hi (by decide) hL) dl_296 ?_
    suffices B297 : V X 305 (LV i) [.int (tI true), .int (xs (nI i + 1).toNatClampNeg), .ref 73, .int x] h283 from by
      refine V_go C tk_LA_264 [305] 55 ?_
      refine And.intro (fun c297 => ?_) (fun c297 => ?_)
      · exact absurd c297 z2
      · exact B297
    refine V_go C tk_LA_264 [747] 55 ?_
    refine ⟨_, q2, fun r305 h305 p305 => ?_⟩
    obtain ⟨rfl, I2⟩ := k2 _ _ p305
    refine And.intro (fun c308 => ?_) (fun c308 => ?_)
    · exact nx _ I2
    · exact absurd rfl c308
theorem arm_ship {X : MC} {L i : Nat} {xs : Nat → Int32} {h : Hp} (C : CX none 8 12 code 4 X) (S : SX X L xs) (hL : L ≤ 384) (hi : i + 6 ≤ L) (I : Inv i h) (nx : ∀ h', Inv (i + 1) h' → V X 747 (LV i) [] h') : V X 313 (LV i) [] h := by
  obtain ⟨x, P, q1, k1⟩ := pr_ship I (xs (nI i + 1).toNatClampNeg) (xs (nI i + 2).toNatClampNeg)
  refine V_go C tk_LA_313 [318, 747] 47 ?_
  refine V_sld C S (sIn (k := 1) hi (by decide) hL) dl_318 ?_
  refine V_go C tk_LA_313 [323, 747] 47 ?_
  refine V_sld C S (sIn (k := 2) hi (by decide) hL) dl_323 ?_
  refine V_go C tk_LA_313 [332, 747] 47 ?_
  refine ⟨_, q1, fun r324 h324 p324 => ?_⟩
  obtain ⟨rfl, P2, q2, k2⟩ := k1 _ _ p324
  refine V_sld C S (sIn (k := 1) hi (by decide) hL) dl_332 ?_
  refine V_go C tk_LA_313 [337, 747] 47 ?_
  refine V_sld C S (sIn (k := 2) hi (by decide) hL) dl_337 ?_
  refine V_go C tk_LA_313 [747] 47 ?_
  refine ⟨_, q2, fun r338 h338 p338 => ?_⟩
  obtain ⟨rfl, I2⟩ := k2 _ _ p338
  refine And.intro (fun c341 => ?_) (fun c341 => ?_)
  · exact nx _ I2
  · exact absurd rfl c341
theorem arm_shipOf {X : MC} {L i : Nat} {xs : Nat → Int32} {h : Hp} (C : CX none 8 12 code 4 X) (S : SX X L xs) (hL : L ≤ 384) (hi : i + 6 ≤ L) (I : Inv i h) (nx : ∀ h', Inv (i + 1) h' → V X 747 (LV i) [] h') : V X 346 (LV i) [] h := by
  obtain ⟨x, P, q1, k1⟩ := pr_shipOf I (xs (nI i + 1).toNatClampNeg) (xs (nI i + 2).toNatClampNeg)
  refine V_go C tk_LA_346 [351, 747] 47 ?_
  refine V_sld C S (sIn (k := 1) hi (by decide) hL) dl_351 ?_
  refine V_go C tk_LA_346 [356, 747] 47 ?_
  refine V_sld C S (sIn (k := 2) hi (by decide) hL) dl_356 ?_
  refine V_go C tk_LA_346 [365, 747] 47 ?_
  refine ⟨_, q1, fun r357 h357 p357 => ?_⟩
  obtain ⟨rfl, P2, q2, k2⟩ := k1 _ _ p357
  refine V_sld C S (sIn (k := 1) hi (by decide) hL) dl_365 ?_
  refine V_go C tk_LA_346 [370, 747] 47 ?_
  refine V_sld C S (sIn (k := 2) hi (by decide) hL) dl_370 ?_
  refine V_go C tk_LA_346 [747] 47 ?_
  refine ⟨_, q2, fun r371 h371 p371 => ?_⟩
  obtain ⟨rfl, I2⟩ := k2 _ _ p371
  refine And.intro (fun c374 => ?_) (fun c374 => ?_)
  · exact nx _ I2
  · exact absurd rfl c374
theorem arm_ask {X : MC} {L i : Nat} {xs : Nat → Int32} {h : Hp} (C : CX none 8 12 code 4 X) (S : SX X L xs) (hL : L ≤ 384) (hi : i + 6 ≤ L) (I : Inv i h) (nx : ∀ h', Inv (i + 1) h' → V X 747 (LV i) [] h') : V X 379 (LV i) [] h := by
  by_cases z3 : xs (nI i + 3).toNatClampNeg = 0
  · skip
    obtain ⟨x, P, q1, k1⟩ := pr_ask I (xs (nI i + 1).toNatClampNeg) (xs (nI i + 2).toNatClampNeg) false
    refine V_go C tk_LA_379 [384, 747] 65 ?_
    refine V_sld C S (sIn (k := 1) hi (by decide) hL) dl_384 ?_
    refine V_go C tk_LA_379 [389, 747] 65 ?_
    refine V_sld C S (sIn (k := 2) hi (by decide) hL) dl_389 ?_
    refine V_go C tk_LA_379 [394, 747] 65 ?_
    refine V_sld C S (sIn (k := 3) hi (by decide) hL) dl_394 ?_
    suffices B395 : V X 403 (LV i) [.int (tI false), .int (xs (nI i + 2).toNatClampNeg), .int (xs (nI i + 1).toNatClampNeg), .ref 0] h from by
      refine V_go C tk_LA_379 [403] 65 ?_
      refine And.intro (fun c395 => ?_) (fun c395 => ?_)
      · exact B395
      · exact absurd z3 c395
    refine V_go C tk_LA_379 [411, 747] 65 ?_
    refine ⟨_, q1, fun r403 h403 p403 => ?_⟩
    obtain ⟨rfl, P2, q2, k2⟩ := k1 _ _ p403
    refine V_sld C S (sIn (k := 1) hi (by decide) hL) dl_411 ?_
    refine V_go C tk_LA_379 [416, 747] 65 ?_
    refine V_sld C S (sIn (k := 2) hi (by decide) hL) dl_416 ?_
    refine V_go C tk_LA_379 [421, 747] 65 ?_
    refine V_sld C S (sIn (k := 3) hi (by decide) hL) dl_421 ?_
    suffices B422 : V X 430 (LV i) [.int (tI false), .int (xs (nI i + 2).toNatClampNeg), .int (xs (nI i + 1).toNatClampNeg), .ref 73, .int x] h403 from by
      refine V_go C tk_LA_379 [430] 65 ?_
      refine And.intro (fun c422 => ?_) (fun c422 => ?_)
      · exact B422
      · exact absurd z3 c422
    refine V_go C tk_LA_379 [747] 65 ?_
    refine ⟨_, q2, fun r430 h430 p430 => ?_⟩
    obtain ⟨rfl, I2⟩ := k2 _ _ p430
    refine And.intro (fun c433 => ?_) (fun c433 => ?_)
    · exact nx _ I2
    · exact absurd rfl c433
  · skip
    obtain ⟨x, P, q1, k1⟩ := pr_ask I (xs (nI i + 1).toNatClampNeg) (xs (nI i + 2).toNatClampNeg) true
    refine V_go C tk_LA_379 [384, 747] 65 ?_
    refine V_sld C S (sIn (k := 1) hi (by decide) hL) dl_384 ?_
    refine V_go C tk_LA_379 [389, 747] 65 ?_
    refine V_sld C S (sIn (k := 2) hi (by decide) hL) dl_389 ?_
    refine V_go C tk_LA_379 [394, 747] 65 ?_
    refine V_sld C S (sIn (k := 3) hi (by decide) hL) dl_394 ?_
    suffices B395 : V X 403 (LV i) [.int (tI true), .int (xs (nI i + 2).toNatClampNeg), .int (xs (nI i + 1).toNatClampNeg), .ref 0] h from by
      refine V_go C tk_LA_379 [403] 65 ?_
      refine And.intro (fun c395 => ?_) (fun c395 => ?_)
      · exact absurd c395 z3
      · exact B395
    refine V_go C tk_LA_379 [411, 747] 65 ?_
    refine ⟨_, q1, fun r403 h403 p403 => ?_⟩
    obtain ⟨rfl, P2, q2, k2⟩ := k1 _ _ p403
    refine V_sld C S (sIn (k := 1) hi (by decide) hL) dl_411 ?_
    refine V_go C tk_LA_379 [416, 747] 65 ?_
    refine V_sld C S (sIn (k := 2) hi (by decide) hL) dl_416 ?_
    refine V_go C tk_LA_379 [421, 747] 65 ?_
    refine V_sld C S (sIn (k := 3) hi (by decide) hL) dl_421 ?_
    suffices B422 : V X 430 (LV i) [.int (tI true), .int (xs (nI i + 2).toNatClampNeg), .int (xs (nI i + 1).toNatClampNeg), .ref 73, .int x] h403 from by
      refine V_go C tk_LA_379 [430] 65 ?_
      refine And.intro (fun c422 => ?_) (fun c422 => ?_)
      · exact absurd c422 z3
      · exact B422
    refine V_go C tk_LA_379 [747] 65 ?_
    refine ⟨_, q2, fun r430 h430 p430 => ?_⟩
    obtain ⟨rfl, I2⟩ := k2 _ _ p430
    refine And.intro (fun c433 => ?_) (fun c433 => ?_)
    · exact nx _ I2
    · exact absurd rfl c433
theorem arm_breath {X : MC} {L i : Nat} {xs : Nat → Int32} {h : Hp} (C : CX none 8 12 code 4 X) (S : SX X L xs) (hL : L ≤ 384) (hi : i + 6 ≤ L) (I : Inv i h) (nx : ∀ h', Inv (i + 1) h' → V X 747 (LV i) [] h') : V X 438 (LV i) [] h := by
  obtain ⟨x, P, q1, k1⟩ := pr_breath I 
  refine V_go C tk_LA_438 [747] 27 ?_
  refine ⟨_, q1, fun r439 h439 p439 => ?_⟩
  obtain ⟨rfl, P2, q2, k2⟩ := k1 _ _ p439
  refine ⟨_, q2, fun r443 h443 p443 => ?_⟩
  obtain ⟨rfl, I2⟩ := k2 _ _ p443
  refine And.intro (fun c446 => ?_) (fun c446 => ?_)
  · exact nx _ I2
  · exact absurd rfl c446
theorem arm_atOnce {X : MC} {L i : Nat} {xs : Nat → Int32} {h : Hp} (C : CX none 8 12 code 4 X) (S : SX X L xs) (hL : L ≤ 384) (hi : i + 6 ≤ L) (I : Inv i h) (nx : ∀ h', Inv (i + 1) h' → V X 747 (LV i) [] h') : V X 451 (LV i) [] h := by
  obtain ⟨x, P, q1, k1⟩ := pr_atOnce I (xs (nI i + 1).toNatClampNeg)
  refine V_go C tk_LA_451 [456, 747] 37 ?_
  refine V_sld C S (sIn (k := 1) hi (by decide) hL) dl_456 ?_
  refine V_go C tk_LA_451 [465, 747] 37 ?_
  refine ⟨_, q1, fun r457 h457 p457 => ?_⟩
  obtain ⟨rfl, P2, q2, k2⟩ := k1 _ _ p457
  refine V_sld C S (sIn (k := 1) hi (by decide) hL) dl_465 ?_
  refine V_go C tk_LA_451 [747] 37 ?_
  refine ⟨_, q2, fun r466 h466 p466 => ?_⟩
  obtain ⟨rfl, I2⟩ := k2 _ _ p466
  refine And.intro (fun c469 => ?_) (fun c469 => ?_)
  · exact nx _ I2
  · exact absurd rfl c469
theorem arm_hear {X : MC} {L i : Nat} {xs : Nat → Int32} {h : Hp} (C : CX none 8 12 code 4 X) (S : SX X L xs) (hL : L ≤ 384) (hi : i + 6 ≤ L) (I : Inv i h) (nx : ∀ h', Inv (i + 1) h' → V X 747 (LV i) [] h') : V X 474 (LV i) [] h := by
  by_cases z3 : xs (nI i + 3).toNatClampNeg = 0
  · skip
    by_cases z5 : xs (nI i + 5).toNatClampNeg = 0
    · skip
      obtain ⟨x, P, q1, k1⟩ := pr_hear I (xs (nI i + 1).toNatClampNeg) (xs (nI i + 2).toNatClampNeg) false (xs (nI i + 4).toNatClampNeg) false
      refine V_go C tk_LA_474 [479, 747] 93 ?_
      refine V_sld C S (sIn (k := 1) hi (by decide) hL) dl_479 ?_
      refine V_go C tk_LA_474 [484, 747] 93 ?_
      refine V_sld C S (sIn (k := 2) hi (by decide) hL) dl_484 ?_
      refine V_go C tk_LA_474 [489, 747] 93 ?_
      refine V_sld C S (sIn (k := 3) hi (by decide) hL) dl_489 ?_
      suffices B490 : V X 498 (LV i) [.int (tI false), .int (xs (nI i + 2).toNatClampNeg), .int (xs (nI i + 1).toNatClampNeg), .ref 0] h from by
        refine V_go C tk_LA_474 [498] 93 ?_
        refine And.intro (fun c490 => ?_) (fun c490 => ?_)
        · exact B490
        · exact absurd z3 c490
      refine V_go C tk_LA_474 [502, 747] 93 ?_
      refine V_sld C S (sIn (k := 4) hi (by decide) hL) dl_502 ?_
      refine V_go C tk_LA_474 [507, 747] 93 ?_
      refine V_sld C S (sIn (k := 5) hi (by decide) hL) dl_507 ?_
      suffices B508 : V X 516 (LV i) [.int (tI false), .int (xs (nI i + 4).toNatClampNeg), .int (tI false), .int (xs (nI i + 2).toNatClampNeg), .int (xs (nI i + 1).toNatClampNeg), .ref 0] h from by
        refine V_go C tk_LA_474 [516] 93 ?_
        refine And.intro (fun c508 => ?_) (fun c508 => ?_)
        · exact B508
        · exact absurd z5 c508
      refine V_go C tk_LA_474 [524, 747] 93 ?_
      refine ⟨_, q1, fun r516 h516 p516 => ?_⟩
      obtain ⟨rfl, P2, q2, k2⟩ := k1 _ _ p516
      refine V_sld C S (sIn (k := 1) hi (by decide) hL) dl_524 ?_
      refine V_go C tk_LA_474 [529, 747] 93 ?_
      refine V_sld C S (sIn (k := 2) hi (by decide) hL) dl_529 ?_
      refine V_go C tk_LA_474 [534, 747] 93 ?_
      refine V_sld C S (sIn (k := 3) hi (by decide) hL) dl_534 ?_
      suffices B535 : V X 543 (LV i) [.int (tI false), .int (xs (nI i + 2).toNatClampNeg), .int (xs (nI i + 1).toNatClampNeg), .ref 73, .int x] h516 from by
        refine V_go C tk_LA_474 [543] 93 ?_
        refine And.intro (fun c535 => ?_) (fun c535 => ?_)
        · exact B535
        · exact absurd z3 c535
      refine V_go C tk_LA_474 [547, 747] 93 ?_
      refine V_sld C S (sIn (k := 4) hi (by decide) hL) dl_547 ?_
      refine V_go C tk_LA_474 [552, 747] 93 ?_
      refine V_sld C S (sIn (k := 5) hi (by decide) hL) dl_552 ?_
      suffices B553 : V X 561 (LV i) [.int (tI false), .int (xs (nI i + 4).toNatClampNeg), .int (tI false), .int (xs (nI i + 2).toNatClampNeg), .int (xs (nI i + 1).toNatClampNeg), .ref 73, .int x] h516 from by
        refine V_go C tk_LA_474 [561] 93 ?_
        refine And.intro (fun c553 => ?_) (fun c553 => ?_)
        · exact B553
        · exact absurd z5 c553
      refine V_go C tk_LA_474 [747] 93 ?_
      refine ⟨_, q2, fun r561 h561 p561 => ?_⟩
      obtain ⟨rfl, I2⟩ := k2 _ _ p561
      refine And.intro (fun c564 => ?_) (fun c564 => ?_)
      · exact nx _ I2
      · exact absurd rfl c564
    · skip
      obtain ⟨x, P, q1, k1⟩ := pr_hear I (xs (nI i + 1).toNatClampNeg) (xs (nI i + 2).toNatClampNeg) false (xs (nI i + 4).toNatClampNeg) true
      refine V_go C tk_LA_474 [479, 747] 93 ?_
      refine V_sld C S (sIn (k := 1) hi (by decide) hL) dl_479 ?_
      refine V_go C tk_LA_474 [484, 747] 93 ?_
      refine V_sld C S (sIn (k := 2) hi (by decide) hL) dl_484 ?_
      refine V_go C tk_LA_474 [489, 747] 93 ?_
      refine V_sld C S (sIn (k := 3) hi (by decide) hL) dl_489 ?_
      suffices B490 : V X 498 (LV i) [.int (tI false), .int (xs (nI i + 2).toNatClampNeg), .int (xs (nI i + 1).toNatClampNeg), .ref 0] h from by
        refine V_go C tk_LA_474 [498] 93 ?_
        refine And.intro (fun c490 => ?_) (fun c490 => ?_)
        · exact B490
        · exact absurd z3 c490
      refine V_go C tk_LA_474 [502, 747] 93 ?_
      refine V_sld C S (sIn (k := 4) hi (by decide) hL) dl_502 ?_
      refine V_go C tk_LA_474 [507, 747] 93 ?_
      refine V_sld C S (sIn (k := 5) hi (by decide) hL) dl_507 ?_
      suffices B508 : V X 516 (LV i) [.int (tI true), .int (xs (nI i + 4).toNatClampNeg), .int (tI false), .int (xs (nI i + 2).toNatClampNeg), .int (xs (nI i + 1).toNatClampNeg), .ref 0] h from by
        refine V_go C tk_LA_474 [516] 93 ?_
        refine And.intro (fun c508 => ?_) (fun c508 => ?_)
        · exact absurd c508 z5
        · exact B508
      refine V_go C tk_LA_474 [524, 747] 93 ?_
      refine ⟨_, q1, fun r516 h516 p516 => ?_⟩
      obtain ⟨rfl, P2, q2, k2⟩ := k1 _ _ p516
      refine V_sld C S (sIn (k := 1) hi (by decide) hL) dl_524 ?_
      refine V_go C tk_LA_474 [529, 747] 93 ?_
      refine V_sld C S (sIn (k := 2) hi (by decide) hL) dl_529 ?_
      refine V_go C tk_LA_474 [534, 747] 93 ?_
      refine V_sld C S (sIn (k := 3) hi (by decide) hL) dl_534 ?_
      suffices B535 : V X 543 (LV i) [.int (tI false), .int (xs (nI i + 2).toNatClampNeg), .int (xs (nI i + 1).toNatClampNeg), .ref 73, .int x] h516 from by
        refine V_go C tk_LA_474 [543] 93 ?_
        refine And.intro (fun c535 => ?_) (fun c535 => ?_)
        · exact B535
        · exact absurd z3 c535
      refine V_go C tk_LA_474 [547, 747] 93 ?_
      refine V_sld C S (sIn (k := 4) hi (by decide) hL) dl_547 ?_
      refine V_go C tk_LA_474 [552, 747] 93 ?_
      refine V_sld C S (sIn (k := 5) hi (by decide) hL) dl_552 ?_
      suffices B553 : V X 561 (LV i) [.int (tI true), .int (xs (nI i + 4).toNatClampNeg), .int (tI false), .int (xs (nI i + 2).toNatClampNeg), .int (xs (nI i + 1).toNatClampNeg), .ref 73, .int x] h516 from by
        refine V_go C tk_LA_474 [561] 93 ?_
        refine And.intro (fun c553 => ?_) (fun c553 => ?_)
        · exact absurd c553 z5
        · exact B553
      refine V_go C tk_LA_474 [747] 93 ?_
      refine ⟨_, q2, fun r561 h561 p561 => ?_⟩
      obtain ⟨rfl, I2⟩ := k2 _ _ p561
      refine And.intro (fun c564 => ?_) (fun c564 => ?_)
      · exact nx _ I2
      · exact absurd rfl c564
  · skip
    by_cases z5 : xs (nI i + 5).toNatClampNeg = 0
    · skip
      obtain ⟨x, P, q1, k1⟩ := pr_hear I (xs (nI i + 1).toNatClampNeg) (xs (nI i + 2).toNatClampNeg) true (xs (nI i + 4).toNatClampNeg) false
      refine V_go C tk_LA_474 [479, 747] 93 ?_
      refine V_sld C S (sIn (k := 1) hi (by decide) hL) dl_479 ?_
      refine V_go C tk_LA_474 [484, 747] 93 ?_
      refine V_sld C S (sIn (k := 2) hi (by decide) hL) dl_484 ?_
      refine V_go C tk_LA_474 [489, 747] 93 ?_
      refine V_sld C S (sIn (k := 3) hi (by decide) hL) dl_489 ?_
      suffices B490 : V X 498 (LV i) [.int (tI true), .int (xs (nI i + 2).toNatClampNeg), .int (xs (nI i + 1).toNatClampNeg), .ref 0] h from by
        refine V_go C tk_LA_474 [498] 93 ?_
        refine And.intro (fun c490 => ?_) (fun c490 => ?_)
        · exact absurd c490 z3
        · exact B490
      refine V_go C tk_LA_474 [502, 747] 93 ?_
      refine V_sld C S (sIn (k := 4) hi (by decide) hL) dl_502 ?_
      refine V_go C tk_LA_474 [507, 747] 93 ?_
      refine V_sld C S (sIn (k := 5) hi (by decide) hL) dl_507 ?_
      suffices B508 : V X 516 (LV i) [.int (tI false), .int (xs (nI i + 4).toNatClampNeg), .int (tI true), .int (xs (nI i + 2).toNatClampNeg), .int (xs (nI i + 1).toNatClampNeg), .ref 0] h from by
        refine V_go C tk_LA_474 [516] 93 ?_
        refine And.intro (fun c508 => ?_) (fun c508 => ?_)
        · exact B508
        · exact absurd z5 c508
      refine V_go C tk_LA_474 [524, 747] 93 ?_
      refine ⟨_, q1, fun r516 h516 p516 => ?_⟩
      obtain ⟨rfl, P2, q2, k2⟩ := k1 _ _ p516
      refine V_sld C S (sIn (k := 1) hi (by decide) hL) dl_524 ?_
      refine V_go C tk_LA_474 [529, 747] 93 ?_
      refine V_sld C S (sIn (k := 2) hi (by decide) hL) dl_529 ?_
      refine V_go C tk_LA_474 [534, 747] 93 ?_
      refine V_sld C S (sIn (k := 3) hi (by decide) hL) dl_534 ?_
      suffices B535 : V X 543 (LV i) [.int (tI true), .int (xs (nI i + 2).toNatClampNeg), .int (xs (nI i + 1).toNatClampNeg), .ref 73, .int x] h516 from by
        refine V_go C tk_LA_474 [543] 93 ?_
        refine And.intro (fun c535 => ?_) (fun c535 => ?_)
        · exact absurd c535 z3
        · exact B535
      refine V_go C tk_LA_474 [547, 747] 93 ?_
      refine V_sld C S (sIn (k := 4) hi (by decide) hL) dl_547 ?_
      refine V_go C tk_LA_474 [552, 747] 93 ?_
      refine V_sld C S (sIn (k := 5) hi (by decide) hL) dl_552 ?_
      suffices B553 : V X 561 (LV i) [.int (tI false), .int (xs (nI i + 4).toNatClampNeg), .int (tI true), .int (xs (nI i + 2).toNatClampNeg), .int (xs (nI i + 1).toNatClampNeg), .ref 73, .int x] h516 from by
        refine V_go C tk_LA_474 [561] 93 ?_
        refine And.intro (fun c553 => ?_) (fun c553 => ?_)
        · exact B553
        · exact absurd z5 c553
      refine V_go C tk_LA_474 [747] 93 ?_
      refine ⟨_, q2, fun r561 h561 p561 => ?_⟩
      obtain ⟨rfl, I2⟩ := k2 _ _ p561
      refine And.intro (fun c564 => ?_) (fun c564 => ?_)
      · exact nx _ I2
      · exact absurd rfl c564
    · skip
      obtain ⟨x, P, q1, k1⟩ := pr_hear I (xs (nI i + 1).toNatClampNeg) (xs (nI i + 2).toNatClampNeg) true (xs (nI i + 4).toNatClampNeg) true
      refine V_go C tk_LA_474 [479, 747] 93 ?_
      refine V_sld C S (sIn (k := 1) hi (by decide) hL) dl_479 ?_
      refine V_go C tk_LA_474 [484, 747] 93 ?_
      refine V_sld C S (sIn (k := 2) hi (by decide) hL) dl_484 ?_
      refine V_go C tk_LA_474 [489, 747] 93 ?_
      refine V_sld C S (sIn (k := 3) hi (by decide) hL) dl_489 ?_
      suffices B490 : V X 498 (LV i) [.int (tI true), .int (xs (nI i + 2).toNatClampNeg), .int (xs (nI i + 1).toNatClampNeg), .ref 0] h from by
        refine V_go C tk_LA_474 [498] 93 ?_
        refine And.intro (fun c490 => ?_) (fun c490 => ?_)
        · exact absurd c490 z3
        · exact B490
      refine V_go C tk_LA_474 [502, 747] 93 ?_
      refine V_sld C S (sIn (k := 4) hi (by decide) hL) dl_502 ?_
      refine V_go C tk_LA_474 [507, 747] 93 ?_
      refine V_sld C S (sIn (k := 5) hi (by decide) hL) dl_507 ?_
      suffices B508 : V X 516 (LV i) [.int (tI true), .int (xs (nI i + 4).toNatClampNeg), .int (tI true), .int (xs (nI i + 2).toNatClampNeg), .int (xs (nI i + 1).toNatClampNeg), .ref 0] h from by
        refine V_go C tk_LA_474 [516] 93 ?_
        refine And.intro (fun c508 => ?_) (fun c508 => ?_)
        · exact absurd c508 z5
        · exact B508
      refine V_go C tk_LA_474 [524, 747] 93 ?_
      refine ⟨_, q1, fun r516 h516 p516 => ?_⟩
      obtain ⟨rfl, P2, q2, k2⟩ := k1 _ _ p516
      refine V_sld C S (sIn (k := 1) hi (by decide) hL) dl_524 ?_
      refine V_go C tk_LA_474 [529, 747] 93 ?_
      refine V_sld C S (sIn (k := 2) hi (by decide) hL) dl_529 ?_
      refine V_go C tk_LA_474 [534, 747] 93 ?_
      refine V_sld C S (sIn (k := 3) hi (by decide) hL) dl_534 ?_
      suffices B535 : V X 543 (LV i) [.int (tI true), .int (xs (nI i + 2).toNatClampNeg), .int (xs (nI i + 1).toNatClampNeg), .ref 73, .int x] h516 from by
        refine V_go C tk_LA_474 [543] 93 ?_
        refine And.intro (fun c535 => ?_) (fun c535 => ?_)
        · exact absurd c535 z3
        · exact B535
      refine V_go C tk_LA_474 [547, 747] 93 ?_
      refine V_sld C S (sIn (k := 4) hi (by decide) hL) dl_547 ?_
      refine V_go C tk_LA_474 [552, 747] 93 ?_
      refine V_sld C S (sIn (k := 5) hi (by decide) hL) dl_552 ?_
      suffices B553 : V X 561 (LV i) [.int (tI true), .int (xs (nI i + 4).toNatClampNeg), .int (tI true), .int (xs (nI i + 2).toNatClampNeg), .int (xs (nI i + 1).toNatClampNeg), .ref 73, .int x] h516 from by
        refine V_go C tk_LA_474 [561] 93 ?_
        refine And.intro (fun c553 => ?_) (fun c553 => ?_)
        · exact absurd c553 z5
        · exact B553
      refine V_go C tk_LA_474 [747] 93 ?_
      refine ⟨_, q2, fun r561 h561 p561 => ?_⟩
      obtain ⟨rfl, I2⟩ := k2 _ _ p561
      refine And.intro (fun c564 => ?_) (fun c564 => ?_)
      · exact nx _ I2
      · exact absurd rfl c564
theorem arm_forget {X : MC} {L i : Nat} {xs : Nat → Int32} {h : Hp} (C : CX none 8 12 code 4 X) (S : SX X L xs) (hL : L ≤ 384) (hi : i + 6 ≤ L) (I : Inv i h) (nx : ∀ h', Inv (i + 1) h' → V X 747 (LV i) [] h') : V X 569 (LV i) [] h := by
  obtain ⟨x, P, q1, k1⟩ := pr_forget I 
  refine V_go C tk_LA_569 [747] 27 ?_
  refine ⟨_, q1, fun r570 h570 p570 => ?_⟩
  obtain ⟨rfl, P2, q2, k2⟩ := k1 _ _ p570
  refine ⟨_, q2, fun r574 h574 p574 => ?_⟩
  obtain ⟨rfl, I2⟩ := k2 _ _ p574
  refine And.intro (fun c577 => ?_) (fun c577 => ?_)
  · exact nx _ I2
  · exact absurd rfl c577
theorem arm_worlds {X : MC} {L i : Nat} {xs : Nat → Int32} {h : Hp} (C : CX none 8 12 code 4 X) (S : SX X L xs) (hL : L ≤ 384) (hi : i + 6 ≤ L) (I : Inv i h) (nx : ∀ h', Inv (i + 1) h' → V X 747 (LV i) [] h') : V X 582 (LV i) [] h := by
  obtain ⟨x, P, q1, k1⟩ := pr_worlds I (xs (nI i + 1).toNatClampNeg)
  refine V_go C tk_LA_582 [587, 747] 37 ?_
  refine V_sld C S (sIn (k := 1) hi (by decide) hL) dl_587 ?_
  refine V_go C tk_LA_582 [596, 747] 37 ?_
  refine ⟨_, q1, fun r588 h588 p588 => ?_⟩
  obtain ⟨rfl, P2, q2, k2⟩ := k1 _ _ p588
  refine V_sld C S (sIn (k := 1) hi (by decide) hL) dl_596 ?_
  refine V_go C tk_LA_582 [747] 37 ?_
  refine ⟨_, q2, fun r597 h597 p597 => ?_⟩
  obtain ⟨rfl, I2⟩ := k2 _ _ p597
  refine And.intro (fun c600 => ?_) (fun c600 => ?_)
  · exact nx _ I2
  · exact absurd rfl c600
theorem arm_next {X : MC} {L i : Nat} {xs : Nat → Int32} {h : Hp} (C : CX none 8 12 code 4 X) (S : SX X L xs) (hL : L ≤ 384) (hi : i + 6 ≤ L) (I : Inv i h) (nx : ∀ h', Inv (i + 1) h' → V X 747 (LV i) [] h') : V X 605 (LV i) [] h := by
  obtain ⟨x, P, q1, k1⟩ := pr_next I 
  refine V_go C tk_LA_605 [747] 27 ?_
  refine ⟨_, q1, fun r606 h606 p606 => ?_⟩
  obtain ⟨rfl, P2, q2, k2⟩ := k1 _ _ p606
  refine ⟨_, q2, fun r610 h610 p610 => ?_⟩
  obtain ⟨rfl, I2⟩ := k2 _ _ p610
  refine And.intro (fun c613 => ?_) (fun c613 => ?_)
  · exact nx _ I2
  · exact absurd rfl c613
theorem arm_kinds {X : MC} {L i : Nat} {xs : Nat → Int32} {h : Hp} (C : CX none 8 12 code 4 X) (S : SX X L xs) (hL : L ≤ 384) (hi : i + 6 ≤ L) (I : Inv i h) (nx : ∀ h', Inv (i + 1) h' → V X 747 (LV i) [] h') : V X 618 (LV i) [] h := by
  obtain ⟨x, P, q1, k1⟩ := pr_kinds I (xs (nI i + 1).toNatClampNeg)
  refine V_go C tk_LA_618 [623, 747] 37 ?_
  refine V_sld C S (sIn (k := 1) hi (by decide) hL) dl_623 ?_
  refine V_go C tk_LA_618 [632, 747] 37 ?_
  refine ⟨_, q1, fun r624 h624 p624 => ?_⟩
  obtain ⟨rfl, P2, q2, k2⟩ := k1 _ _ p624
  refine V_sld C S (sIn (k := 1) hi (by decide) hL) dl_632 ?_
  refine V_go C tk_LA_618 [747] 37 ?_
  refine ⟨_, q2, fun r633 h633 p633 => ?_⟩
  obtain ⟨rfl, I2⟩ := k2 _ _ p633
  refine And.intro (fun c636 => ?_) (fun c636 => ?_)
  · exact nx _ I2
  · exact absurd rfl c636
theorem arm_nights {X : MC} {L i : Nat} {xs : Nat → Int32} {h : Hp} (C : CX none 8 12 code 4 X) (S : SX X L xs) (hL : L ≤ 384) (hi : i + 6 ≤ L) (I : Inv i h) (nx : ∀ h', Inv (i + 1) h' → V X 747 (LV i) [] h') : V X 641 (LV i) [] h := by
  obtain ⟨x, P, q1, k1⟩ := pr_nights I (xs (nI i + 1).toNatClampNeg) (xs (nI i + 2).toNatClampNeg) (xs (nI i + 3).toNatClampNeg)
  refine V_go C tk_LA_641 [646, 747] 57 ?_
  refine V_sld C S (sIn (k := 1) hi (by decide) hL) dl_646 ?_
  refine V_go C tk_LA_641 [651, 747] 57 ?_
  refine V_sld C S (sIn (k := 2) hi (by decide) hL) dl_651 ?_
  refine V_go C tk_LA_641 [656, 747] 57 ?_
  refine V_sld C S (sIn (k := 3) hi (by decide) hL) dl_656 ?_
  refine V_go C tk_LA_641 [665, 747] 57 ?_
  refine ⟨_, q1, fun r657 h657 p657 => ?_⟩
  obtain ⟨rfl, P2, q2, k2⟩ := k1 _ _ p657
  refine V_sld C S (sIn (k := 1) hi (by decide) hL) dl_665 ?_
  refine V_go C tk_LA_641 [670, 747] 57 ?_
  refine V_sld C S (sIn (k := 2) hi (by decide) hL) dl_670 ?_
  refine V_go C tk_LA_641 [675, 747] 57 ?_
  refine V_sld C S (sIn (k := 3) hi (by decide) hL) dl_675 ?_
  refine V_go C tk_LA_641 [747] 57 ?_
  refine ⟨_, q2, fun r676 h676 p676 => ?_⟩
  obtain ⟨rfl, I2⟩ := k2 _ _ p676
  refine And.intro (fun c679 => ?_) (fun c679 => ?_)
  · exact nx _ I2
  · exact absurd rfl c679
theorem arm_image {X : MC} {L i : Nat} {xs : Nat → Int32} {h : Hp} (C : CX none 8 12 code 4 X) (S : SX X L xs) (hL : L ≤ 384) (hi : i + 6 ≤ L) (I : Inv i h) (nx : ∀ h', Inv (i + 1) h' → V X 747 (LV i) [] h') : V X 684 (LV i) [] h := by
  obtain ⟨x, P, q1, k1⟩ := pr_image I 
  refine V_go C tk_LA_684 [747] 27 ?_
  refine ⟨_, q1, fun r685 h685 p685 => ?_⟩
  obtain ⟨rfl, P2, q2, k2⟩ := k1 _ _ p685
  refine ⟨_, q2, fun r689 h689 p689 => ?_⟩
  obtain ⟨rfl, I2⟩ := k2 _ _ p689
  refine And.intro (fun c692 => ?_) (fun c692 => ?_)
  · exact nx _ I2
  · exact absurd rfl c692
theorem arm_restore {X : MC} {L i : Nat} {xs : Nat → Int32} {h : Hp} (C : CX none 8 12 code 4 X) (S : SX X L xs) (hL : L ≤ 384) (hi : i + 6 ≤ L) (I : Inv i h) (nx : ∀ h', Inv (i + 1) h' → V X 747 (LV i) [] h') : V X 697 (LV i) [] h := by
  obtain ⟨x, P, q1, k1⟩ := pr_restore I 
  refine V_go C tk_LA_697 [747] 27 ?_
  refine ⟨_, q1, fun r698 h698 p698 => ?_⟩
  obtain ⟨rfl, P2, q2, k2⟩ := k1 _ _ p698
  refine ⟨_, q2, fun r702 h702 p702 => ?_⟩
  obtain ⟨rfl, I2⟩ := k2 _ _ p702
  refine And.intro (fun c705 => ?_) (fun c705 => ?_)
  · exact nx _ I2
  · exact absurd rfl c705
theorem arm_count {X : MC} {L i : Nat} {xs : Nat → Int32} {h : Hp} (C : CX none 8 12 code 4 X) (S : SX X L xs) (hL : L ≤ 384) (hi : i + 6 ≤ L) (I : Inv i h) (nx : ∀ h', Inv (i + 1) h' → V X 747 (LV i) [] h') : V X 710 (LV i) [] h := by
  obtain ⟨x, P, q1, k1⟩ := pr_count I (xs (nI i + 1).toNatClampNeg)
  refine V_go C tk_LA_710 [715, 747] 37 ?_
  refine V_sld C S (sIn (k := 1) hi (by decide) hL) dl_715 ?_
  refine V_go C tk_LA_710 [724, 747] 37 ?_
  refine ⟨_, q1, fun r716 h716 p716 => ?_⟩
  obtain ⟨rfl, P2, q2, k2⟩ := k1 _ _ p716
  refine V_sld C S (sIn (k := 1) hi (by decide) hL) dl_724 ?_
  refine V_go C tk_LA_710 [747] 37 ?_
  refine ⟨_, q2, fun r725 h725 p725 => ?_⟩
  obtain ⟨rfl, I2⟩ := k2 _ _ p725
  refine And.intro (fun c728 => ?_) (fun c728 => ?_)
  · exact nx _ I2
  · exact absurd rfl c728
theorem arm_digest {X : MC} {L i : Nat} {xs : Nat → Int32} {h : Hp} (C : CX none 8 12 code 4 X) (S : SX X L xs) (hL : L ≤ 384) (hi : i + 6 ≤ L) (I : Inv i h) (nx : ∀ h', Inv (i + 1) h' → V X 747 (LV i) [] h') : V X 733 (LV i) [] h := by
  obtain ⟨x, P, q1, k1⟩ := pr_digest I 
  refine V_go C tk_LA_733 [747] 28 ?_
  refine ⟨_, q1, fun r734 h734 p734 => ?_⟩
  obtain ⟨rfl, P2, q2, k2⟩ := k1 _ _ p734
  refine ⟨_, q2, fun r738 h738 p738 => ?_⟩
  obtain ⟨rfl, I2⟩ := k2 _ _ p738
  refine And.intro (fun c742 => ?_) (fun c742 => ?_)
  · exact nx _ I2
  · exact absurd (lcm0 _) c742
theorem nx747 {X : MC} {i : Nat} {h : Hp} (C : CX none 8 12 code 4 X) (k : V X 18 [some (.ref 90), some (.ref 0), some (.ref 73), some (.int (nI i + 6))] [] h) : V X 747 (LV i) [] h := by
  refine V_go C tk_LA_0 [18] 36 ?_
  exact k
theorem law_arms {X : MC} {L i : Nat} {xs : Nat → Int32} {h : Hp} (C : CX none 8 12 code 4 X) (S : SX X L xs) (hL : L ≤ 384) (hi : i + 6 ≤ L) (I : Inv i h) (nx : ∀ h', Inv (i + 1) h' → V X 747 (LV i) [] h') (v : Int32) : V X 30 (LV i) [.int v] h := by
  refine V_go C tk_LA_0 [18, 136, 159, 172, 185, 198, 231, 264, 313, 346, 379, 438, 451, 474, 569, 582, 605, 618, 641, 684, 697, 710, 733, 747] 36 ?_
  refine And.intro (fun c33 => ?_) (And.intro (fun c33 => ?_) (And.intro (fun c33 => ?_) (And.intro (fun c33 => ?_) (And.intro (fun c33 => ?_) (And.intro (fun c33 => ?_) (And.intro (fun c33 => ?_) (And.intro (fun c33 => ?_) (And.intro (fun c33 => ?_) (And.intro (fun c33 => ?_) (And.intro (fun c33 => ?_) (And.intro (fun c33 => ?_) (And.intro (fun c33 => ?_) (And.intro (fun c33 => ?_) (And.intro (fun c33 => ?_) (And.intro (fun c33 => ?_) (And.intro (fun c33 => ?_) (And.intro (fun c33 => ?_) (And.intro (fun c33 => ?_) (And.intro (fun c33 => ?_) (And.intro (fun c33 => ?_) (And.intro (fun c33 => ?_) (And.intro (fun c33 => ?_) trivial))))))))))))))))))))))
  · exact nx _ (I.mono (by omega))
  · exact arm_letter C S hL hi I nx
  · exact arm_blank C S hL hi I nx
  · exact arm_fault C S hL hi I nx
  · exact arm_strait C S hL hi I nx
  · exact arm_about C S hL hi I nx
  · exact arm_as C S hL hi I nx
  · exact arm_fact C S hL hi I nx
  · exact arm_ship C S hL hi I nx
  · exact arm_shipOf C S hL hi I nx
  · exact arm_ask C S hL hi I nx
  · exact arm_breath C S hL hi I nx
  · exact arm_atOnce C S hL hi I nx
  · exact arm_hear C S hL hi I nx
  · exact arm_forget C S hL hi I nx
  · exact arm_worlds C S hL hi I nx
  · exact arm_next C S hL hi I nx
  · exact arm_kinds C S hL hi I nx
  · exact arm_nights C S hL hi I nx
  · exact arm_image C S hL hi I nx
  · exact arm_restore C S hL hi I nx
  · exact arm_count C S hL hi I nx
  · exact arm_digest C S hL hi I nx
theorem law_loop {X : MC} {L : Nat} {xs : Nat → Int32} (C : CX none 8 12 code 4 X) (S : SX X L xs) (hL : L ≤ 384) (fin : ∀ lv h, V X 754 lv [.int 1] h) : ∀ (n i : Nat) (b : Int32) (h : Hp), L ≤ i + n → i ≤ 384 → b = nI i → Inv i h → V X 18 [some (.ref 90), some (.ref 0), some (.ref 73), some (.int b)] [] h := by
  intro n
  induction n with
  | zero =>
    intro i b h hn hi hb I
    subst hb
    refine V_go C tk_LA_0 [18, 20] 36 ?_
    refine V_slen C S dl_20 ?_
    refine V_go C tk_LA_0 [18, 29, 754] 36 ?_
    refine And.intro (fun c24 => ?_) (fun c24 => ?_)
    · exact fin _ _
    · exfalso; rw [Int32.lt_iff_toInt_lt, show (6 : Int32) = nI 6 from rfl, pk_sub_toInt (by omega) (by omega), nI_toI (by omega)] at c24; omega
  | succ n ih =>
    intro i b h hn hi hb I
    subst hb
    refine V_go C tk_LA_0 [18, 20] 36 ?_
    refine V_slen C S dl_20 ?_
    refine V_go C tk_LA_0 [18, 29, 754] 36 ?_
    refine And.intro (fun c24 => ?_) (fun c24 => ?_)
    · exact fin _ _
    · rw [Int32.lt_iff_toInt_lt, show (6 : Int32) = nI 6 from rfl, pk_sub_toInt (by omega) (by omega), nI_toI (by omega)] at c24
      have hi6 : i + 6 ≤ L := by omega
      have nx : ∀ h', Inv (i + 1) h' → V X 747 (LV i) [] h' := fun h' I' => nx747 C (ih (i + 6) _ h' (by omega) (by omega) (nI_add i 6) (I'.mono (by omega)))
      refine V_sld C S (inn (by omega) (by omega)) dl_29 ?_
      exact law_arms C S hL hi6 I nx _
