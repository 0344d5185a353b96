set_option maxRecDepth 100000 in
theorem dt_doAct : dck cX12_doAct [(0, .aload_n 0, 1), (1, .getfield 154, 3), (4, .iload_n 1, 1), (5, .iaload, 1), (6, .istore_n 3, 1), (7, .aload_n 0, 1), (8, .iload_n 1, 1), (9, .invokevirtual 602, 3), (12, .istore 4, 2), (14, .aload_n 0, 1), (15, .iload_n 1, 1), (16, .invokevirtual 632, 3), (19, .aload_n 0, 1), (20, .iconst 0, 1), (21, .putfield 635, 3), (24, .aload_n 0, 1), (25, .iconst 0, 1), (26, .putfield 638, 3), (29, .aload_n 0, 1), (30, .getfield 620, 3), (33, .ifCond .le 18, 3), (36, .aload_n 0, 1), (37, .iload_n 1, 1), (38, .aload_n 0, 1), (39, .getfield 620, 3), (42, .invokevirtual 590, 3), (45, .aload_n 0, 1), (46, .iload_n 1, 1), (47, .invokevirtual 596, 3), (50, .return_, 1), (51, .aload_n 0, 1), (52, .getfield 623, 3), (55, .istore 5, 2), (57, .iconst 0, 1), (58, .istore 6, 2), (60, .iload 4, 2), (62, .tableswitch 605 0 15 #[78, 96, 186, 186, 186, 315, 375, 411, 448, 543, 605, 605, 605, 568, 587, 337], 78), (140, .aload_n 0, 1), (141, .iload_n 1, 1), (142, .iload 5, 2), (144, .invokevirtual 641, 3), (147, .istore 6, 2), (149, .aload_n 0, 1), (150, .iload 6, 2), (152, .putfield 635, 3), (155, .goto 512, 3), (158, .aload_n 0, 1), (159, .aload_n 0, 1), (160, .getfield 626, 3), (163, .putfield 638, 3), (166, .aload_n 0, 1), (167, .getfield 608, 3), (170, .ifCond .eq 13, 3), (173, .aload_n 0, 1), (174, .getfield 73, 3), (177, .iload 5, 2), (179, .baload, 1), (180, .ifCond .eq 17, 3), (183, .aload_n 0, 1), (184, .getfield 142, 3), (187, .iload 5, 2), (189, .aload_n 0, 1), (190, .getfield 626, 3), (193, .iastore, 1), (194, .goto 473, 3), (197, .aload_n 0, 1), (198, .getfield 175, 3), (201, .bipush 10, 2), (203, .iload_n 1, 1), (204, .imul, 1), (205, .aload_n 0, 1), (206, .getfield 172, 3), (209, .iload_n 1, 1), (210, .iaload, 1), (211, .iadd, 1), (212, .iload 5, 2), (214, .iastore, 1), (215, .aload_n 0, 1), (216, .getfield 178, 3), (219, .bipush 10, 2), (221, .iload_n 1, 1), (222, .imul, 1), (223, .aload_n 0, 1), (224, .getfield 172, 3), (227, .iload_n 1, 1), (228, .iaload, 1), (229, .iadd, 1), (230, .aload_n 0, 1), (231, .getfield 626, 3), (234, .iastore, 1), (235, .aload_n 0, 1), (236, .getfield 172, 3), (239, .iload_n 1, 1), (240, .dup2, 1), (241, .iaload, 1), (242, .iconst 1, 1), (243, .iadd, 1), (244, .iastore, 1), (245, .goto 422, 3), (248, .aload_n 0, 1), (249, .aload_n 0, 1), (250, .getfield 142, 3), (253, .iload 5, 2), (255, .iaload, 1), (256, .putfield 635, 3), (259, .aload_n 0, 1), (260, .getfield 142, 3), (263, .iload 5, 2), (265, .iaload, 1), (266, .aload_n 0, 1), (267, .getfield 626, 3), (270, .if_icmp .ne 7, 3), (273, .iconst 1, 1), (274, .goto 4, 3), (277, .iconst 0, 1), (278, .istore 7, 2), (280, .iload 4, 2), (282, .iconst 4, 1), (283, .if_icmp .ne 11, 3), (286, .iload 7, 2), (288, .invokestatic 587, 3), (291, .goto 10, 3), (294, .aload_n 0, 1), (295, .getfield 142, 3), (298, .iload 5, 2), (300, .iaload, 1), (301, .istore 6, 2), (303, .aload_n 0, 1), (304, .getfield 142, 3), (307, .iload 5, 2), (309, .iload 4, 2), (311, .iconst 2, 1), (312, .if_icmp .ne 10, 3), (315, .aload_n 0, 1), (316, .getfield 626, 3), (319, .goto 43, 3), (322, .iload 4, 2), (324, .iconst 3, 1), (325, .if_icmp .ne 18, 3), (328, .aload_n 0, 1), (329, .getfield 142, 3), (332, .iload 5, 2), (334, .iaload, 1), (335, .aload_n 0, 1), (336, .getfield 626, 3), (339, .iadd, 1), (340, .goto 22, 3), (343, .iload 7, 2), (345, .ifCond .eq 10, 3), (348, .aload_n 0, 1), (349, .getfield 629, 3), (352, .goto 10, 3), (355, .aload_n 0, 1), (356, .getfield 142, 3), (359, .iload 5, 2), (361, .iaload, 1), (362, .iastore, 1), (363, .aload_n 0, 1), (364, .aload_n 0, 1), (365, .getfield 142, 3), (368, .iload 5, 2), (370, .iaload, 1), (371, .putfield 638, 3), (374, .goto 293, 3), (377, .aload_n 0, 1), (378, .getfield 145, 3), (381, .iload 5, 2), (383, .iload_n 1, 1), (384, .iastore, 1), (385, .aload_n 0, 1), (386, .getfield 148, 3), (389, .iload 5, 2), (391, .dup2, 1), (392, .iaload, 1), (393, .iconst 1, 1), (394, .iadd, 1), (395, .iastore, 1), (396, .goto 271, 3), (399, .aload_n 0, 1), (400, .getfield 145, 3), (403, .iload 5, 2), (405, .iload_n 1, 1), (406, .iastore, 1), (407, .aload_n 0, 1), (408, .getfield 148, 3), (411, .iload 5, 2), (413, .aload_n 0, 1), (414, .getfield 166, 3), (417, .iload_n 1, 1), (418, .iaload, 1), (419, .iastore, 1), (420, .aload_n 0, 1), (421, .getfield 163, 3), (424, .iload_n 1, 1), (425, .iconst 0, 1), (426, .iastore, 1), (427, .aload_n 0, 1), (428, .getfield 166, 3), (431, .iload_n 1, 1), (432, .iconst 0, 1), (433, .iastore, 1), (434, .goto 233, 3), (437, .aload_n 0, 1), (438, .getfield 148, 3), (441, .iload 5, 2), (443, .dup2, 1), (444, .iaload, 1), (445, .iconst 1, 1), (446, .isub, 1), (447, .iastore, 1), (448, .aload_n 0, 1), (449, .getfield 145, 3), (452, .iload 5, 2), (454, .aload_n 0, 1), (455, .getfield 148, 3), (458, .iload 5, 2), (460, .iaload, 1), (461, .ifCond .ne 7, 3), (464, .iconst (-1), 1), (465, .goto 4, 3), (468, .iload_n 1, 1), (469, .iastore, 1), (470, .goto 197, 3), (473, .aload_n 0, 1), (474, .getfield 166, 3), (477, .iload_n 1, 1), (478, .aload_n 0, 1), (479, .getfield 148, 3), (482, .iload 5, 2), (484, .iaload, 1), (485, .iastore, 1), (486, .aload_n 0, 1), (487, .getfield 148, 3), (490, .iload 5, 2), (492, .iconst 0, 1), (493, .iastore, 1), (494, .aload_n 0, 1), (495, .getfield 145, 3), (498, .iload 5, 2), (500, .iconst (-1), 1), (501, .iastore, 1), (502, .aload_n 0, 1), (503, .getfield 163, 3), (506, .iload_n 1, 1), (507, .iconst 1, 1), (508, .iastore, 1), (509, .return_, 1), (510, .iconst 0, 1), (511, .istore 8, 2), (513, .iload 8, 2), (515, .aload_n 0, 1), (516, .getfield 461, 3), (519, .if_icmp .ge 83, 3), (522, .aload_n 0, 1), (523, .getfield 163, 3), (526, .iload 8, 2), (528, .iaload, 1), (529, .iconst 1, 1), (530, .if_icmp .ne 40, 3), (533, .aload_n 0, 1), (534, .getfield 109, 3), (537, .aload_n 0, 1), (538, .getfield 154, 3), (541, .iload 8, 2), (543, .iaload, 1), (544, .iaload, 1), (545, .iload 5, 2), (547, .if_icmp .ne 23, 3), (550, .aload_n 0, 1), (551, .getfield 112, 3), (554, .iload_n 3, 1), (555, .iaload, 1), (556, .iconst 1, 1), (557, .if_icmp .eq 9, 3), (560, .iload_n 2, 1), (561, .iload 8, 2), (563, .if_icmp .ne 7, 3), (566, .iconst 1, 1), (567, .goto 4, 3), (570, .iconst 0, 1), (571, .istore 9, 2), (573, .aload_n 0, 1), (574, .getfield 163, 3), (577, .iload 8, 2), (579, .iload 9, 2), (581, .ifCond .eq 7, 3), (584, .iconst 2, 1), (585, .goto 10, 3), (588, .aload_n 0, 1), (589, .getfield 163, 3), (592, .iload 8, 2), (594, .iaload, 1), (595, .iastore, 1), (596, .iinc 8 1, 3), (599, .goto (-86), 3), (602, .goto 65, 3), (605, .aload_n 0, 1), (606, .getfield 151, 3), (609, .iload 5, 2), (611, .iconst 1, 1), (612, .iastore, 1), (613, .aload_n 0, 1), (614, .getfield 154, 3), (617, .iload 5, 2), (619, .aload_n 0, 1), (620, .getfield 133, 3), (623, .iload 5, 2), (625, .iaload, 1), (626, .iastore, 1), (627, .goto 40, 3), (630, .aload_n 0, 1), (631, .getfield 169, 3), (634, .iload_n 1, 1), (635, .iload 5, 2), (637, .iastore, 1), (638, .aload_n 0, 1), (639, .aload_n 0, 1), (640, .getfield 626, 3), (643, .putfield 638, 3), (646, .goto 21, 3), (649, .aload_n 0, 1), (650, .getfield 169, 3), (653, .iload_n 1, 1), (654, .iconst (-1), 1), (655, .iastore, 1), (656, .aload_n 0, 1), (657, .aload_n 0, 1), (658, .getfield 626, 3), (661, .putfield 638, 3), (664, .goto 3, 3), (667, .aload_n 0, 1), (668, .getfield 124, 3), (671, .iload_n 3, 1), (672, .iaload, 1), (673, .iconst (-1), 1), (674, .if_icmp .eq 21, 3), (677, .aload_n 0, 1), (678, .getfield 160, 3), (681, .bipush 8, 2), (683, .iload_n 1, 1), (684, .imul, 1), (685, .aload_n 0, 1), (686, .getfield 124, 3), (689, .iload_n 3, 1), (690, .iaload, 1), (691, .iadd, 1), (692, .iload 6, 2), (694, .iastore, 1), (695, .aload_n 0, 1), (696, .getfield 154, 3), (699, .iload_n 1, 1), (700, .dup2, 1), (701, .iaload, 1), (702, .iconst 1, 1), (703, .iadd, 1), (704, .iastore, 1), (705, .aload_n 0, 1), (706, .iload_n 1, 1), (707, .invokevirtual 599, 3), (710, .iload 4, 2), (712, .bipush 9, 2), (714, .if_icmp .ne 9, 3), (717, .aload_n 0, 1), (718, .iload 5, 2), (720, .invokevirtual 599, 3), (723, .return_, 1)] = true := by decide +kernel
set_option maxRecDepth 100000 in
set_option maxHeartbeats 4000000 in
theorem sg_doAct_0 {G : mG} {d : Nat} {x : gd} {P : Option gv → gd → Prop} (l1 : Int32) (l2 : Int32)
    (h : vp_in l1 6 ∧ MT G d z_sortOf 0 [(0, vr 0), (1, vi l1)] [] x (ri (fun r3 x2 => MT G d z_lookAt 0 [(0, vr 0), (1, vi l1)] [] x2 (rv (fun x4 => (∀ x5 : gd, x5 = si x4 0 92 0 → (∀ x6 : gd, x6 = si x5 0 93 0 → (((x6.1 0 89) ≤ (0 : Int32) → (((r3 = 0) → MT G d z_see 0 [(0, vr 0), (1, vi l1), (2, vi (x6.1 0 88))] [] x6 (ri (fun r10 x9 => (∀ x11 : gd, x11 = si x9 0 92 r10 → MT G (d + 1) z_doAct 667 [(0, vr 0), (1, vi l1), (3, vi (x.1 74 (l1 : Int32).toNatClampNeg)), (4, vi r3), (5, vi (x6.1 0 88)), (6, vi r10)] [] x11 P)))) ∧ ((r3 = 1) → (∀ x13 : gd, x13 = si x6 0 93 (x6.1 0 90) → (((x13.1 0 68) = (0 : Int32) → vp_in (x6.1 0 88) 24 ∧ (∀ x16 : gd, x16 = si x13 70 (x6.1 0 88 : Int32).toNatClampNeg (x13.1 0 90) → MT G (d + 1) z_doAct 667 [(0, vr 0), (1, vi l1), (3, vi (x.1 74 (l1 : Int32).toNatClampNeg)), (4, vi r3), (5, vi (x6.1 0 88)), (6, vi 0)] [] x16 P)) ∧ (¬ ((x13.1 0 68) = (0 : Int32)) → vp_in (x6.1 0 88) 24 ∧ (((x13.1 37 (x6.1 0 88 : Int32).toNatClampNeg) = (0 : Int32) → vp_in l1 6 ∧ vp_in ((10 * l1) + (x13.1 80 (l1 : Int32).toNatClampNeg)) 60 ∧ (∀ x21 : gd, x21 = si x13 81 ((10 * l1) + (x13.1 80 (l1 : Int32).toNatClampNeg) : Int32).toNatClampNeg (x6.1 0 88) → vp_in l1 6 ∧ vp_in ((10 * l1) + (x21.1 80 (l1 : Int32).toNatClampNeg)) 60 ∧ (∀ x24 : gd, x24 = si x21 82 ((10 * l1) + (x21.1 80 (l1 : Int32).toNatClampNeg) : Int32).toNatClampNeg (x21.1 0 90) → vp_in l1 6 ∧ vp_in l1 6 ∧ (∀ x27 : gd, x27 = si x24 80 (l1 : Int32).toNatClampNeg ((x24.1 80 (l1 : Int32).toNatClampNeg) + 1) → MT G (d + 1) z_doAct 667 [(0, vr 0), (1, vi l1), (3, vi (x.1 74 (l1 : Int32).toNatClampNeg)), (4, vi r3), (5, vi (x6.1 0 88)), (6, vi 0)] [] x27 P)))) ∧ (¬ ((x13.1 37 (x6.1 0 88 : Int32).toNatClampNeg) = (0 : Int32)) → vp_in (x6.1 0 88) 24 ∧ (∀ x29 : gd, x29 = si x13 70 (x6.1 0 88 : Int32).toNatClampNeg (x13.1 0 90) → MT G (d + 1) z_doAct 667 [(0, vr 0), (1, vi l1), (3, vi (x.1 74 (l1 : Int32).toNatClampNeg)), (4, vi r3), (5, vi (x6.1 0 88)), (6, vi 0)] [] x29 P))))))) ∧ ((r3 = 2 ∨ r3 = 3 ∨ r3 = 4) → vp_in (x6.1 0 88) 24 ∧ (∀ x32 : gd, x32 = si x6 0 92 (x6.1 70 (x6.1 0 88 : Int32).toNatClampNeg) → vp_in (x6.1 0 88) 24 ∧ ((¬ ((x32.1 70 (x6.1 0 88 : Int32).toNatClampNeg) = (x32.1 0 90)) → MT G (d + 1) z_doAct 278 [(0, vr 0), (1, vi l1), (3, vi (x.1 74 (l1 : Int32).toNatClampNeg)), (4, vi r3), (5, vi (x6.1 0 88))] [vi 0] x32 P) ∧ ((x32.1 70 (x6.1 0 88 : Int32).toNatClampNeg) = (x32.1 0 90) → MT G (d + 1) z_doAct 278 [(0, vr 0), (1, vi l1), (3, vi (x.1 74 (l1 : Int32).toNatClampNeg)), (4, vi r3), (5, vi (x6.1 0 88))] [vi 1] x32 P)))) ∧ ((r3 = 5) → vp_in (x6.1 0 88) 6 ∧ (∀ x37 : gd, x37 = si x6 71 (x6.1 0 88 : Int32).toNatClampNeg l1 → vp_in (x6.1 0 88) 6 ∧ vp_in (x6.1 0 88) 6 ∧ (∀ x40 : gd, x40 = si x37 72 (x6.1 0 88 : Int32).toNatClampNeg ((x37.1 72 (x6.1 0 88 : Int32).toNatClampNeg) + 1) → MT G (d + 1) z_doAct 667 [(0, vr 0), (1, vi l1), (3, vi (x.1 74 (l1 : Int32).toNatClampNeg)), (4, vi r3), (5, vi (x6.1 0 88)), (6, vi 0)] [] x40 P))) ∧ ((r3 = 15) → vp_in (x6.1 0 88) 6 ∧ (∀ x43 : gd, x43 = si x6 71 (x6.1 0 88 : Int32).toNatClampNeg l1 → vp_in l1 6 ∧ vp_in (x6.1 0 88) 6 ∧ (∀ x46 : gd, x46 = si x43 72 (x6.1 0 88 : Int32).toNatClampNeg (x43.1 78 (l1 : Int32).toNatClampNeg) → vp_in l1 6 ∧ (∀ x48 : gd, x48 = si x46 77 (l1 : Int32).toNatClampNeg 0 → vp_in l1 6 ∧ (∀ x50 : gd, x50 = si x48 78 (l1 : Int32).toNatClampNeg 0 → MT G (d + 1) z_doAct 667 [(0, vr 0), (1, vi l1), (3, vi (x.1 74 (l1 : Int32).toNatClampNeg)), (4, vi r3), (5, vi (x6.1 0 88)), (6, vi 0)] [] x50 P))))) ∧ ((r3 = 6) → vp_in (x6.1 0 88) 6 ∧ vp_in (x6.1 0 88) 6 ∧ (∀ x54 : gd, x54 = si x6 72 (x6.1 0 88 : Int32).toNatClampNeg ((x6.1 72 (x6.1 0 88 : Int32).toNatClampNeg) - 1) → vp_in (x6.1 0 88) 6 ∧ ((¬ ((x54.1 72 (x6.1 0 88 : Int32).toNatClampNeg) = (0 : Int32)) → vp_in (x6.1 0 88) 6 ∧ (∀ x58 : gd, x58 = si x54 71 (x6.1 0 88 : Int32).toNatClampNeg l1 → MT G (d + 1) z_doAct 667 [(0, vr 0), (1, vi l1), (3, vi (x.1 74 (l1 : Int32).toNatClampNeg)), (4, vi r3), (5, vi (x6.1 0 88)), (6, vi 0)] [] x58 P)) ∧ ((x54.1 72 (x6.1 0 88 : Int32).toNatClampNeg) = (0 : Int32) → vp_in (x6.1 0 88) 6 ∧ (∀ x60 : gd, x60 = si x54 71 (x6.1 0 88 : Int32).toNatClampNeg (-1) → MT G (d + 1) z_doAct 667 [(0, vr 0), (1, vi l1), (3, vi (x.1 74 (l1 : Int32).toNatClampNeg)), (4, vi r3), (5, vi (x6.1 0 88)), (6, vi 0)] [] x60 P))))) ∧ ((r3 = 7) → vp_in (x6.1 0 88) 6 ∧ vp_in l1 6 ∧ (∀ x64 : gd, x64 = si x6 78 (l1 : Int32).toNatClampNeg (x6.1 72 (x6.1 0 88 : Int32).toNatClampNeg) → vp_in (x6.1 0 88) 6 ∧ (∀ x66 : gd, x66 = si x64 72 (x6.1 0 88 : Int32).toNatClampNeg 0 → vp_in (x6.1 0 88) 6 ∧ (∀ x68 : gd, x68 = si x66 71 (x6.1 0 88 : Int32).toNatClampNeg (-1) → vp_in l1 6 ∧ (∀ x70 : gd, x70 = si x68 77 (l1 : Int32).toNatClampNeg 1 → P none x70))))) ∧ ((r3 = 8) → MT G (d + 1) z_doAct 513 [(0, vr 0), (1, vi l1), (2, vi l2), (3, vi (x.1 74 (l1 : Int32).toNatClampNeg)), (4, vi r3), (5, vi (x6.1 0 88)), (6, vi 0), (8, vi 0)] [] x6 P) ∧ ((r3 = 9) → vp_in (x6.1 0 88) 6 ∧ (∀ x74 : gd, x74 = si x6 73 (x6.1 0 88 : Int32).toNatClampNeg 1 → vp_in (x6.1 0 88) 6 ∧ vp_in (x6.1 0 88) 6 ∧ (∀ x77 : gd, x77 = si x74 74 (x6.1 0 88 : Int32).toNatClampNeg (x74.1 64 (x6.1 0 88 : Int32).toNatClampNeg) → MT G (d + 1) z_doAct 667 [(0, vr 0), (1, vi l1), (3, vi (x.1 74 (l1 : Int32).toNatClampNeg)), (4, vi r3), (5, vi (x6.1 0 88)), (6, vi 0)] [] x77 P))) ∧ ((r3 = 13) → vp_in l1 6 ∧ (∀ x80 : gd, x80 = si x6 79 (l1 : Int32).toNatClampNeg (x6.1 0 88) → (∀ x81 : gd, x81 = si x80 0 93 (x80.1 0 90) → MT G (d + 1) z_doAct 667 [(0, vr 0), (1, vi l1), (3, vi (x.1 74 (l1 : Int32).toNatClampNeg)), (4, vi r3), (5, vi (x6.1 0 88)), (6, vi 0)] [] x81 P))) ∧ ((r3 = 14) → vp_in l1 6 ∧ (∀ x84 : gd, x84 = si x6 79 (l1 : Int32).toNatClampNeg (-1) → (∀ x85 : gd, x85 = si x84 0 93 (x84.1 0 90) → MT G (d + 1) z_doAct 667 [(0, vr 0), (1, vi l1), (3, vi (x.1 74 (l1 : Int32).toNatClampNeg)), (4, vi r3), (5, vi (x6.1 0 88)), (6, vi 0)] [] x85 P))) ∧ ((∀ k ∈ [(0 : Int32), (1 : Int32), (2 : Int32), (3 : Int32), (4 : Int32), (5 : Int32), (15 : Int32), (6 : Int32), (7 : Int32), (8 : Int32), (9 : Int32), (13 : Int32), (14 : Int32)], ¬ r3 = k) → MT G (d + 1) z_doAct 667 [(0, vr 0), (1, vi l1), (3, vi (x.1 74 (l1 : Int32).toNatClampNeg)), (4, vi r3), (5, vi (x6.1 0 88)), (6, vi 0)] [] x6 P))) ∧ (¬ ((x6.1 0 89) ≤ (0 : Int32)) → MT G d z_failThread 0 [(0, vr 0), (1, vi l1), (2, vi (x6.1 0 89))] [] x6 (rv (fun x87 => MT G d z_clean 0 [(0, vr 0), (1, vi l1)] [] x87 (rv (fun x88 => P none x88))))))))))))) :
    MT G (d + 1) z_doAct 0 [(0, vr 0), (1, vi l1), (2, vi l2)] [] x P := by
  refine T_aload_n 0 (dk dt_doAct 0 rfl) rfl rfl ?_
  refine T_getR 0 73 74 (dk dt_doAct 1 rfl) fl_154 mk_0 ml_0 (by decide) rfl rfl ?_
  refine T_iload_n 1 (dk dt_doAct 2 rfl) rfl rfl ?_
  obtain ⟨h1, h⟩ := h
  refine T_iald 74 6 (dk dt_doAct 3 rfl) mk_74 ml_74 h1 ?_
  refine T_istore_n (lv2 := [(3, vi (x.1 74 (l1 : Int32).toNatClampNeg)), (0, vr 0), (1, vi l1), (2, vi l2)]) (dk dt_doAct 4 rfl) rfl (by decide) rfl ?_
  refine T_aload_n 1 (dk dt_doAct 5 rfl) rfl rfl ?_
  refine T_iload_n 2 (dk dt_doAct 6 rfl) rfl rfl ?_
  refine MT_callVi [vi l1] [] rfl (dk dt_doAct 7 rfl) cv_602 rfl rfl (Nat.le_of_ble_eq_true rfl) (Nat.le_of_ble_eq_true rfl) rfl rfl h (fun r3 x2 h => ?_)
  refine T_istore (lv2 := [(4, vi r3), (3, vi (x.1 74 (l1 : Int32).toNatClampNeg)), (0, vr 0), (1, vi l1), (2, vi l2)]) (dk dt_doAct 8 rfl) (by decide) rfl ?_
  refine T_aload_n 2 (dk dt_doAct 9 rfl) rfl rfl ?_
  refine T_iload_n 3 (dk dt_doAct 10 rfl) rfl rfl ?_
  refine MT_callVv [vi l1] [] rfl (dk dt_doAct 11 rfl) cv_632 rfl rfl (Nat.le_of_ble_eq_true rfl) (Nat.le_of_ble_eq_true rfl) rfl rfl h (fun x4 h => ?_)
  refine T_aload_n 2 (dk dt_doAct 12 rfl) rfl rfl ?_
  refine T_iconst (v := 0) (dk dt_doAct 13 rfl) (by decide +kernel) ?_
  obtain ⟨x5, ex5⟩ : ∃ z, z = si x4 0 92 0 := ⟨_, rfl⟩
  have h := h x5 ex5
  refine T_putI 0 92 (dk dt_doAct 14 rfl) fl_635 mk_0 ml_0 (by decide) rfl ⟨rfl, rfl⟩ ?_
  rw [← ex5]
  refine T_aload_n 2 (dk dt_doAct 15 rfl) rfl rfl ?_
  refine T_iconst (v := 0) (dk dt_doAct 16 rfl) (by decide +kernel) ?_
  obtain ⟨x6, ex6⟩ : ∃ z, z = si x5 0 93 0 := ⟨_, rfl⟩
  have h := h x6 ex6
  refine T_putI 0 93 (dk dt_doAct 17 rfl) fl_638 mk_0 ml_0 (by decide) rfl ⟨rfl, rfl⟩ ?_
  rw [← ex6]
  refine T_aload_n 2 (dk dt_doAct 18 rfl) rfl rfl ?_
  refine T_getI 0 89 (dk dt_doAct 19 rfl) fl_620 mk_0 ml_0 (by decide) rfl ?_
  refine T_if_le 51 (dk dt_doAct 20 rfl) (by decide) (fun c7 => ?_) (fun c7 => ?_)
  · have h := h.1 c7
    refine T_aload_n 2 (dk dt_doAct 30 rfl) rfl rfl ?_
    refine T_getI 0 88 (dk dt_doAct 31 rfl) fl_623 mk_0 ml_0 (by decide) rfl ?_
    refine T_istore (lv2 := [(5, vi (x6.1 0 88)), (4, vi r3), (3, vi (x.1 74 (l1 : Int32).toNatClampNeg)), (0, vr 0), (1, vi l1), (2, vi l2)]) (dk dt_doAct 32 rfl) (by decide) rfl ?_
    refine T_iconst (v := 0) (dk dt_doAct 33 rfl) (by decide +kernel) ?_
    refine T_istore (lv2 := [(6, vi 0), (5, vi (x6.1 0 88)), (4, vi r3), (3, vi (x.1 74 (l1 : Int32).toNatClampNeg)), (0, vr 0), (1, vi l1), (2, vi l2)]) (dk dt_doAct 34 rfl) (by decide) rfl ?_
    refine T_iload 2 (dk dt_doAct 35 rfl) rfl ?_
    by_cases c8 : r3 = 0
    · have h := h.1 c8
      refine T_table 78 140 (dk dt_doAct 36 rfl) (by decide) (by rw [c8]; decide +kernel) (by decide) ?_
      refine T_aload_n 4 (dk dt_doAct 37 rfl) rfl rfl ?_
      refine T_iload_n 5 (dk dt_doAct 38 rfl) rfl rfl ?_
      refine T_iload 1 (dk dt_doAct 39 rfl) rfl ?_
      refine MT_callVi [vi l1, vi (x6.1 0 88)] [] rfl (dk dt_doAct 40 rfl) cv_641 rfl rfl (Nat.le_of_ble_eq_true rfl) (Nat.le_of_ble_eq_true rfl) rfl rfl h (fun r10 x9 h => ?_)
      refine T_istore (lv2 := [(6, vi r10), (5, vi (x6.1 0 88)), (4, vi r3), (3, vi (x.1 74 (l1 : Int32).toNatClampNeg)), (0, vr 0), (1, vi l1), (2, vi l2)]) (dk dt_doAct 41 rfl) (by decide) rfl ?_
      refine T_aload_n 4 (dk dt_doAct 42 rfl) rfl rfl ?_
      refine T_iload 0 (dk dt_doAct 43 rfl) rfl ?_
      obtain ⟨x11, ex11⟩ : ∃ z, z = si x9 0 92 r10 := ⟨_, rfl⟩
      have h := h x11 ex11
      refine T_putI 0 92 (dk dt_doAct 44 rfl) fl_635 mk_0 ml_0 (by decide) rfl ⟨rfl, rfl⟩ ?_
      rw [← ex11]
      refine T_goto 667 (dk dt_doAct 45 rfl) (by decide) ?_
      exact T_sub [4, 5, 3, 2, 1, 0] rfl h
    · have h := h.2
      by_cases c12 : r3 = 1
      · have h := h.1 c12
        refine T_table 96 158 (dk dt_doAct 36 rfl) (by decide) (by rw [c12]; decide +kernel) (by decide) ?_
        refine T_aload_n 4 (dk dt_doAct 46 rfl) rfl rfl ?_
        refine T_aload_n 4 (dk dt_doAct 47 rfl) rfl rfl ?_
        refine T_getI 0 90 (dk dt_doAct 48 rfl) fl_626 mk_0 ml_0 (by decide) rfl ?_
        obtain ⟨x13, ex13⟩ : ∃ z, z = si x6 0 93 (x6.1 0 90) := ⟨_, rfl⟩
        have h := h x13 ex13
        refine T_putI 0 93 (dk dt_doAct 49 rfl) fl_638 mk_0 ml_0 (by decide) rfl ⟨rfl, rfl⟩ ?_
        rw [← ex13]
        refine T_aload_n 4 (dk dt_doAct 50 rfl) rfl rfl ?_
        refine T_getI 0 68 (dk dt_doAct 51 rfl) fl_608 mk_0 ml_0 (by decide) rfl ?_
        refine T_if_eq 183 (dk dt_doAct 52 rfl) (by decide) (fun c14 => ?_) (fun c14 => ?_)
        · have h := h.1 c14
          refine T_aload_n 4 (dk dt_doAct 58 rfl) rfl rfl ?_
          refine T_getR 0 69 70 (dk dt_doAct 59 rfl) fl_142 mk_0 ml_0 (by decide) rfl rfl ?_
          refine T_iload 1 (dk dt_doAct 60 rfl) rfl ?_
          refine T_aload_n 4 (dk dt_doAct 61 rfl) rfl rfl ?_
          refine T_getI 0 90 (dk dt_doAct 62 rfl) fl_626 mk_0 ml_0 (by decide) rfl ?_
          obtain ⟨h15, h⟩ := h
          obtain ⟨x16, ex16⟩ : ∃ z, z = si x13 70 (x6.1 0 88 : Int32).toNatClampNeg (x13.1 0 90) := ⟨_, rfl⟩
          have h := h x16 ex16
          refine T_iast 70 24 (dk dt_doAct 63 rfl) mk_70 ml_70 h15 ?_
          rw [← ex16]
          refine T_goto 667 (dk dt_doAct 64 rfl) (by decide) ?_
          exact T_sub [4, 5, 3, 2, 1, 0] rfl h
        · have h := h.2 c14
          refine T_aload_n 4 (dk dt_doAct 53 rfl) rfl rfl ?_
          refine T_getR 0 36 37 (dk dt_doAct 54 rfl) fl_73 mk_0 ml_0 (by decide) rfl rfl ?_
          refine T_iload 1 (dk dt_doAct 55 rfl) rfl ?_
          obtain ⟨h17, h⟩ := h
          refine T_zald 37 24 (dk dt_doAct 56 rfl) mk_37 ml_37 h17 ?_
          refine T_if_eq 197 (dk dt_doAct 57 rfl) (by decide) (fun c18 => ?_) (fun c18 => ?_)
          · have h := h.1 c18
            refine T_aload_n 4 (dk dt_doAct 65 rfl) rfl rfl ?_
            refine T_getR 0 80 81 (dk dt_doAct 66 rfl) fl_175 mk_0 ml_0 (by decide) rfl rfl ?_
            refine T_bipush (v := 10) (dk dt_doAct 67 rfl) (by decide +kernel) ?_
            refine T_iload_n 5 (dk dt_doAct 68 rfl) rfl rfl ?_
            refine T_imul (dk dt_doAct 69 rfl) ?_
            refine T_aload_n 4 (dk dt_doAct 70 rfl) rfl rfl ?_
            refine T_getR 0 79 80 (dk dt_doAct 71 rfl) fl_172 mk_0 ml_0 (by decide) rfl rfl ?_
            refine T_iload_n 5 (dk dt_doAct 72 rfl) rfl rfl ?_
            obtain ⟨h19, h⟩ := h
            refine T_iald 80 6 (dk dt_doAct 73 rfl) mk_80 ml_80 h19 ?_
            refine T_iadd (dk dt_doAct 74 rfl) ?_
            refine T_iload 1 (dk dt_doAct 75 rfl) rfl ?_
            obtain ⟨h20, h⟩ := h
            obtain ⟨x21, ex21⟩ : ∃ z, z = si x13 81 ((10 * l1) + (x13.1 80 (l1 : Int32).toNatClampNeg) : Int32).toNatClampNeg (x6.1 0 88) := ⟨_, rfl⟩
            have h := h x21 ex21
            refine T_iast 81 60 (dk dt_doAct 76 rfl) mk_81 ml_81 h20 ?_
            rw [← ex21]
            refine T_aload_n 4 (dk dt_doAct 77 rfl) rfl rfl ?_
            refine T_getR 0 81 82 (dk dt_doAct 78 rfl) fl_178 mk_0 ml_0 (by decide) rfl rfl ?_
            refine T_bipush (v := 10) (dk dt_doAct 79 rfl) (by decide +kernel) ?_
            refine T_iload_n 5 (dk dt_doAct 80 rfl) rfl rfl ?_
            refine T_imul (dk dt_doAct 81 rfl) ?_
            refine T_aload_n 4 (dk dt_doAct 82 rfl) rfl rfl ?_
            refine T_getR 0 79 80 (dk dt_doAct 83 rfl) fl_172 mk_0 ml_0 (by decide) rfl rfl ?_
            refine T_iload_n 5 (dk dt_doAct 84 rfl) rfl rfl ?_
            obtain ⟨h22, h⟩ := h
            refine T_iald 80 6 (dk dt_doAct 85 rfl) mk_80 ml_80 h22 ?_
            refine T_iadd (dk dt_doAct 86 rfl) ?_
            refine T_aload_n 4 (dk dt_doAct 87 rfl) rfl rfl ?_
            refine T_getI 0 90 (dk dt_doAct 88 rfl) fl_626 mk_0 ml_0 (by decide) rfl ?_
            obtain ⟨h23, h⟩ := h
            obtain ⟨x24, ex24⟩ : ∃ z, z = si x21 82 ((10 * l1) + (x21.1 80 (l1 : Int32).toNatClampNeg) : Int32).toNatClampNeg (x21.1 0 90) := ⟨_, rfl⟩
            have h := h x24 ex24
            refine T_iast 82 60 (dk dt_doAct 89 rfl) mk_82 ml_82 h23 ?_
            rw [← ex24]
            refine T_aload_n 4 (dk dt_doAct 90 rfl) rfl rfl ?_
            refine T_getR 0 79 80 (dk dt_doAct 91 rfl) fl_172 mk_0 ml_0 (by decide) rfl rfl ?_
            refine T_iload_n 5 (dk dt_doAct 92 rfl) rfl rfl ?_
            refine T_dup2 (dk dt_doAct 93 rfl) rfl rfl ?_
            obtain ⟨h25, h⟩ := h
            refine T_iald 80 6 (dk dt_doAct 94 rfl) mk_80 ml_80 h25 ?_
            refine T_iconst (v := 1) (dk dt_doAct 95 rfl) (by decide +kernel) ?_
            refine T_iadd (dk dt_doAct 96 rfl) ?_
            obtain ⟨h26, h⟩ := h
            obtain ⟨x27, ex27⟩ : ∃ z, z = si x24 80 (l1 : Int32).toNatClampNeg ((x24.1 80 (l1 : Int32).toNatClampNeg) + 1) := ⟨_, rfl⟩
            have h := h x27 ex27
            refine T_iast 80 6 (dk dt_doAct 97 rfl) mk_80 ml_80 h26 ?_
            rw [← ex27]
            refine T_goto 667 (dk dt_doAct 98 rfl) (by decide) ?_
            exact T_sub [4, 5, 3, 2, 1, 0] rfl h
          · have h := h.2 c18
            refine T_aload_n 4 (dk dt_doAct 58 rfl) rfl rfl ?_
            refine T_getR 0 69 70 (dk dt_doAct 59 rfl) fl_142 mk_0 ml_0 (by decide) rfl rfl ?_
            refine T_iload 1 (dk dt_doAct 60 rfl) rfl ?_
            refine T_aload_n 4 (dk dt_doAct 61 rfl) rfl rfl ?_
            refine T_getI 0 90 (dk dt_doAct 62 rfl) fl_626 mk_0 ml_0 (by decide) rfl ?_
            obtain ⟨h28, h⟩ := h
            obtain ⟨x29, ex29⟩ : ∃ z, z = si x13 70 (x6.1 0 88 : Int32).toNatClampNeg (x13.1 0 90) := ⟨_, rfl⟩
            have h := h x29 ex29
            refine T_iast 70 24 (dk dt_doAct 63 rfl) mk_70 ml_70 h28 ?_
            rw [← ex29]
            refine T_goto 667 (dk dt_doAct 64 rfl) (by decide) ?_
            exact T_sub [4, 5, 3, 2, 1, 0] rfl h
      · have h := h.2
        by_cases c30 : r3 = 2 ∨ r3 = 3 ∨ r3 = 4
        · have h := h.1 c30
          refine T_table 186 248 (dk dt_doAct 36 rfl) (by decide) (by rcases c30 with q9 | q9 | q9 <;> rw [q9] <;> decide +kernel) (by decide) ?_
          refine T_aload_n 4 (dk dt_doAct 99 rfl) rfl rfl ?_
          refine T_aload_n 4 (dk dt_doAct 100 rfl) rfl rfl ?_
          refine T_getR 0 69 70 (dk dt_doAct 101 rfl) fl_142 mk_0 ml_0 (by decide) rfl rfl ?_
          refine T_iload 1 (dk dt_doAct 102 rfl) rfl ?_
          obtain ⟨h31, h⟩ := h
          refine T_iald 70 24 (dk dt_doAct 103 rfl) mk_70 ml_70 h31 ?_
          obtain ⟨x32, ex32⟩ : ∃ z, z = si x6 0 92 (x6.1 70 (x6.1 0 88 : Int32).toNatClampNeg) := ⟨_, rfl⟩
          have h := h x32 ex32
          refine T_putI 0 92 (dk dt_doAct 104 rfl) fl_635 mk_0 ml_0 (by decide) rfl ⟨rfl, rfl⟩ ?_
          rw [← ex32]
          refine T_aload_n 4 (dk dt_doAct 105 rfl) rfl rfl ?_
          refine T_getR 0 69 70 (dk dt_doAct 106 rfl) fl_142 mk_0 ml_0 (by decide) rfl rfl ?_
          refine T_iload 1 (dk dt_doAct 107 rfl) rfl ?_
          obtain ⟨h33, h⟩ := h
          refine T_iald 70 24 (dk dt_doAct 108 rfl) mk_70 ml_70 h33 ?_
          refine T_aload_n 4 (dk dt_doAct 109 rfl) rfl rfl ?_
          refine T_getI 0 90 (dk dt_doAct 110 rfl) fl_626 mk_0 ml_0 (by decide) rfl ?_
          refine T_icmp_ne 277 (dk dt_doAct 111 rfl) (by decide) (fun c34 => ?_) (fun c34 => ?_)
          · have h := h.1 c34
            refine T_iconst (v := 0) (dk dt_doAct 114 rfl) (by decide +kernel) ?_
            exact T_sub [4, 5, 3, 2, 1] rfl h
          · have h := h.2 c34
            refine T_iconst (v := 1) (dk dt_doAct 112 rfl) (by decide +kernel) ?_
            refine T_goto 278 (dk dt_doAct 113 rfl) (by decide) ?_
            exact T_sub [4, 5, 3, 2, 1] rfl h
        · have h := h.2
          by_cases c35 : r3 = 5
          · have h := h.1 c35
            refine T_table 315 377 (dk dt_doAct 36 rfl) (by decide) (by rw [c35]; decide +kernel) (by decide) ?_
            refine T_aload_n 4 (dk dt_doAct 164 rfl) rfl rfl ?_
            refine T_getR 0 70 71 (dk dt_doAct 165 rfl) fl_145 mk_0 ml_0 (by decide) rfl rfl ?_
            refine T_iload 1 (dk dt_doAct 166 rfl) rfl ?_
            refine T_iload_n 5 (dk dt_doAct 167 rfl) rfl rfl ?_
            obtain ⟨h36, h⟩ := h
            obtain ⟨x37, ex37⟩ : ∃ z, z = si x6 71 (x6.1 0 88 : Int32).toNatClampNeg l1 := ⟨_, rfl⟩
            have h := h x37 ex37
            refine T_iast 71 6 (dk dt_doAct 168 rfl) mk_71 ml_71 h36 ?_
            rw [← ex37]
            refine T_aload_n 4 (dk dt_doAct 169 rfl) rfl rfl ?_
            refine T_getR 0 71 72 (dk dt_doAct 170 rfl) fl_148 mk_0 ml_0 (by decide) rfl rfl ?_
            refine T_iload 1 (dk dt_doAct 171 rfl) rfl ?_
            refine T_dup2 (dk dt_doAct 172 rfl) rfl rfl ?_
            obtain ⟨h38, h⟩ := h
            refine T_iald 72 6 (dk dt_doAct 173 rfl) mk_72 ml_72 h38 ?_
            refine T_iconst (v := 1) (dk dt_doAct 174 rfl) (by decide +kernel) ?_
            refine T_iadd (dk dt_doAct 175 rfl) ?_
            obtain ⟨h39, h⟩ := h
            obtain ⟨x40, ex40⟩ : ∃ z, z = si x37 72 (x6.1 0 88 : Int32).toNatClampNeg ((x37.1 72 (x6.1 0 88 : Int32).toNatClampNeg) + 1) := ⟨_, rfl⟩
            have h := h x40 ex40
            refine T_iast 72 6 (dk dt_doAct 176 rfl) mk_72 ml_72 h39 ?_
            rw [← ex40]
            refine T_goto 667 (dk dt_doAct 177 rfl) (by decide) ?_
            exact T_sub [4, 5, 3, 2, 1, 0] rfl h
          · have h := h.2
            by_cases c41 : r3 = 15
            · have h := h.1 c41
              refine T_table 337 399 (dk dt_doAct 36 rfl) (by decide) (by rw [c41]; decide +kernel) (by decide) ?_
              refine T_aload_n 4 (dk dt_doAct 178 rfl) rfl rfl ?_
              refine T_getR 0 70 71 (dk dt_doAct 179 rfl) fl_145 mk_0 ml_0 (by decide) rfl rfl ?_
              refine T_iload 1 (dk dt_doAct 180 rfl) rfl ?_
              refine T_iload_n 5 (dk dt_doAct 181 rfl) rfl rfl ?_
              obtain ⟨h42, h⟩ := h
              obtain ⟨x43, ex43⟩ : ∃ z, z = si x6 71 (x6.1 0 88 : Int32).toNatClampNeg l1 := ⟨_, rfl⟩
              have h := h x43 ex43
              refine T_iast 71 6 (dk dt_doAct 182 rfl) mk_71 ml_71 h42 ?_
              rw [← ex43]
              refine T_aload_n 4 (dk dt_doAct 183 rfl) rfl rfl ?_
              refine T_getR 0 71 72 (dk dt_doAct 184 rfl) fl_148 mk_0 ml_0 (by decide) rfl rfl ?_
              refine T_iload 1 (dk dt_doAct 185 rfl) rfl ?_
              refine T_aload_n 4 (dk dt_doAct 186 rfl) rfl rfl ?_
              refine T_getR 0 77 78 (dk dt_doAct 187 rfl) fl_166 mk_0 ml_0 (by decide) rfl rfl ?_
              refine T_iload_n 5 (dk dt_doAct 188 rfl) rfl rfl ?_
              obtain ⟨h44, h⟩ := h
              refine T_iald 78 6 (dk dt_doAct 189 rfl) mk_78 ml_78 h44 ?_
              obtain ⟨h45, h⟩ := h
              obtain ⟨x46, ex46⟩ : ∃ z, z = si x43 72 (x6.1 0 88 : Int32).toNatClampNeg (x43.1 78 (l1 : Int32).toNatClampNeg) := ⟨_, rfl⟩
              have h := h x46 ex46
              refine T_iast 72 6 (dk dt_doAct 190 rfl) mk_72 ml_72 h45 ?_
              rw [← ex46]
              refine T_aload_n 4 (dk dt_doAct 191 rfl) rfl rfl ?_
              refine T_getR 0 76 77 (dk dt_doAct 192 rfl) fl_163 mk_0 ml_0 (by decide) rfl rfl ?_
              refine T_iload_n 5 (dk dt_doAct 193 rfl) rfl rfl ?_
              refine T_iconst (v := 0) (dk dt_doAct 194 rfl) (by decide +kernel) ?_
              obtain ⟨h47, h⟩ := h
              obtain ⟨x48, ex48⟩ : ∃ z, z = si x46 77 (l1 : Int32).toNatClampNeg 0 := ⟨_, rfl⟩
              have h := h x48 ex48
              refine T_iast 77 6 (dk dt_doAct 195 rfl) mk_77 ml_77 h47 ?_
              rw [← ex48]
              refine T_aload_n 4 (dk dt_doAct 196 rfl) rfl rfl ?_
              refine T_getR 0 77 78 (dk dt_doAct 197 rfl) fl_166 mk_0 ml_0 (by decide) rfl rfl ?_
              refine T_iload_n 5 (dk dt_doAct 198 rfl) rfl rfl ?_
              refine T_iconst (v := 0) (dk dt_doAct 199 rfl) (by decide +kernel) ?_
              obtain ⟨h49, h⟩ := h
              obtain ⟨x50, ex50⟩ : ∃ z, z = si x48 78 (l1 : Int32).toNatClampNeg 0 := ⟨_, rfl⟩
              have h := h x50 ex50
              refine T_iast 78 6 (dk dt_doAct 200 rfl) mk_78 ml_78 h49 ?_
              rw [← ex50]
              refine T_goto 667 (dk dt_doAct 201 rfl) (by decide) ?_
              exact T_sub [4, 5, 3, 2, 1, 0] rfl h
            · have h := h.2
              by_cases c51 : r3 = 6
              · have h := h.1 c51
                refine T_table 375 437 (dk dt_doAct 36 rfl) (by decide) (by rw [c51]; decide +kernel) (by decide) ?_
                refine T_aload_n 4 (dk dt_doAct 202 rfl) rfl rfl ?_
                refine T_getR 0 71 72 (dk dt_doAct 203 rfl) fl_148 mk_0 ml_0 (by decide) rfl rfl ?_
                refine T_iload 1 (dk dt_doAct 204 rfl) rfl ?_
                refine T_dup2 (dk dt_doAct 205 rfl) rfl rfl ?_
                obtain ⟨h52, h⟩ := h
                refine T_iald 72 6 (dk dt_doAct 206 rfl) mk_72 ml_72 h52 ?_
                refine T_iconst (v := 1) (dk dt_doAct 207 rfl) (by decide +kernel) ?_
                refine T_isub (dk dt_doAct 208 rfl) ?_
                obtain ⟨h53, h⟩ := h
                obtain ⟨x54, ex54⟩ : ∃ z, z = si x6 72 (x6.1 0 88 : Int32).toNatClampNeg ((x6.1 72 (x6.1 0 88 : Int32).toNatClampNeg) - 1) := ⟨_, rfl⟩
                have h := h x54 ex54
                refine T_iast 72 6 (dk dt_doAct 209 rfl) mk_72 ml_72 h53 ?_
                rw [← ex54]
                refine T_aload_n 4 (dk dt_doAct 210 rfl) rfl rfl ?_
                refine T_getR 0 70 71 (dk dt_doAct 211 rfl) fl_145 mk_0 ml_0 (by decide) rfl rfl ?_
                refine T_iload 1 (dk dt_doAct 212 rfl) rfl ?_
                refine T_aload_n 4 (dk dt_doAct 213 rfl) rfl rfl ?_
                refine T_getR 0 71 72 (dk dt_doAct 214 rfl) fl_148 mk_0 ml_0 (by decide) rfl rfl ?_
                refine T_iload 1 (dk dt_doAct 215 rfl) rfl ?_
                obtain ⟨h55, h⟩ := h
                refine T_iald 72 6 (dk dt_doAct 216 rfl) mk_72 ml_72 h55 ?_
                refine T_if_ne 468 (dk dt_doAct 217 rfl) (by decide) (fun c56 => ?_) (fun c56 => ?_)
                · have h := h.1 c56
                  refine T_iload_n 5 (dk dt_doAct 220 rfl) rfl rfl ?_
                  obtain ⟨h57, h⟩ := h
                  obtain ⟨x58, ex58⟩ : ∃ z, z = si x54 71 (x6.1 0 88 : Int32).toNatClampNeg l1 := ⟨_, rfl⟩
                  have h := h x58 ex58
                  refine T_iast 71 6 (dk dt_doAct 221 rfl) mk_71 ml_71 h57 ?_
                  rw [← ex58]
                  refine T_goto 667 (dk dt_doAct 222 rfl) (by decide) ?_
                  exact T_sub [4, 5, 3, 2, 1, 0] rfl h
                · have h := h.2 c56
                  refine T_iconst (v := (-1)) (dk dt_doAct 218 rfl) (by decide +kernel) ?_
                  refine T_goto 469 (dk dt_doAct 219 rfl) (by decide) ?_
                  obtain ⟨h59, h⟩ := h
                  obtain ⟨x60, ex60⟩ : ∃ z, z = si x54 71 (x6.1 0 88 : Int32).toNatClampNeg (-1) := ⟨_, rfl⟩
                  have h := h x60 ex60
                  refine T_iast 71 6 (dk dt_doAct 221 rfl) mk_71 ml_71 h59 ?_
                  rw [← ex60]
                  refine T_goto 667 (dk dt_doAct 222 rfl) (by decide) ?_
                  exact T_sub [4, 5, 3, 2, 1, 0] rfl h
              · have h := h.2
                by_cases c61 : r3 = 7
                · have h := h.1 c61
                  refine T_table 411 473 (dk dt_doAct 36 rfl) (by decide) (by rw [c61]; decide +kernel) (by decide) ?_
                  refine T_aload_n 4 (dk dt_doAct 223 rfl) rfl rfl ?_
                  refine T_getR 0 77 78 (dk dt_doAct 224 rfl) fl_166 mk_0 ml_0 (by decide) rfl rfl ?_
                  refine T_iload_n 5 (dk dt_doAct 225 rfl) rfl rfl ?_
                  refine T_aload_n 4 (dk dt_doAct 226 rfl) rfl rfl ?_
                  refine T_getR 0 71 72 (dk dt_doAct 227 rfl) fl_148 mk_0 ml_0 (by decide) rfl rfl ?_
                  refine T_iload 1 (dk dt_doAct 228 rfl) rfl ?_
                  obtain ⟨h62, h⟩ := h
                  refine T_iald 72 6 (dk dt_doAct 229 rfl) mk_72 ml_72 h62 ?_
                  obtain ⟨h63, h⟩ := h
                  obtain ⟨x64, ex64⟩ : ∃ z, z = si x6 78 (l1 : Int32).toNatClampNeg (x6.1 72 (x6.1 0 88 : Int32).toNatClampNeg) := ⟨_, rfl⟩
                  have h := h x64 ex64
                  refine T_iast 78 6 (dk dt_doAct 230 rfl) mk_78 ml_78 h63 ?_
                  rw [← ex64]
                  refine T_aload_n 4 (dk dt_doAct 231 rfl) rfl rfl ?_
                  refine T_getR 0 71 72 (dk dt_doAct 232 rfl) fl_148 mk_0 ml_0 (by decide) rfl rfl ?_
                  refine T_iload 1 (dk dt_doAct 233 rfl) rfl ?_
                  refine T_iconst (v := 0) (dk dt_doAct 234 rfl) (by decide +kernel) ?_
                  obtain ⟨h65, h⟩ := h
                  obtain ⟨x66, ex66⟩ : ∃ z, z = si x64 72 (x6.1 0 88 : Int32).toNatClampNeg 0 := ⟨_, rfl⟩
                  have h := h x66 ex66
                  refine T_iast 72 6 (dk dt_doAct 235 rfl) mk_72 ml_72 h65 ?_
                  rw [← ex66]
                  refine T_aload_n 4 (dk dt_doAct 236 rfl) rfl rfl ?_
                  refine T_getR 0 70 71 (dk dt_doAct 237 rfl) fl_145 mk_0 ml_0 (by decide) rfl rfl ?_
                  refine T_iload 1 (dk dt_doAct 238 rfl) rfl ?_
                  refine T_iconst (v := (-1)) (dk dt_doAct 239 rfl) (by decide +kernel) ?_
                  obtain ⟨h67, h⟩ := h
                  obtain ⟨x68, ex68⟩ : ∃ z, z = si x66 71 (x6.1 0 88 : Int32).toNatClampNeg (-1) := ⟨_, rfl⟩
                  have h := h x68 ex68
                  refine T_iast 71 6 (dk dt_doAct 240 rfl) mk_71 ml_71 h67 ?_
                  rw [← ex68]
                  refine T_aload_n 4 (dk dt_doAct 241 rfl) rfl rfl ?_
                  refine T_getR 0 76 77 (dk dt_doAct 242 rfl) fl_163 mk_0 ml_0 (by decide) rfl rfl ?_
                  refine T_iload_n 5 (dk dt_doAct 243 rfl) rfl rfl ?_
                  refine T_iconst (v := 1) (dk dt_doAct 244 rfl) (by decide +kernel) ?_
                  obtain ⟨h69, h⟩ := h
                  obtain ⟨x70, ex70⟩ : ∃ z, z = si x68 77 (l1 : Int32).toNatClampNeg 1 := ⟨_, rfl⟩
                  have h := h x70 ex70
                  refine T_iast 77 6 (dk dt_doAct 245 rfl) mk_77 ml_77 h69 ?_
                  rw [← ex70]
                  exact MT_vret (dk dt_doAct 246 rfl) rfl h
                · have h := h.2
                  by_cases c71 : r3 = 8
                  · have h := h.1 c71
                    refine T_table 448 510 (dk dt_doAct 36 rfl) (by decide) (by rw [c71]; decide +kernel) (by decide) ?_
                    refine T_iconst (v := 0) (dk dt_doAct 247 rfl) (by decide +kernel) ?_
                    refine T_istore (lv2 := [(8, vi 0), (6, vi 0), (5, vi (x6.1 0 88)), (4, vi r3), (3, vi (x.1 74 (l1 : Int32).toNatClampNeg)), (0, vr 0), (1, vi l1), (2, vi l2)]) (dk dt_doAct 248 rfl) (by decide) rfl ?_
                    exact T_sub [5, 6, 7, 4, 3, 2, 1, 0] rfl h
                  · have h := h.2
                    by_cases c72 : r3 = 9
                    · have h := h.1 c72
                      refine T_table 543 605 (dk dt_doAct 36 rfl) (by decide) (by rw [c72]; decide +kernel) (by decide) ?_
                      refine T_aload_n 4 (dk dt_doAct 296 rfl) rfl rfl ?_
                      refine T_getR 0 72 73 (dk dt_doAct 297 rfl) fl_151 mk_0 ml_0 (by decide) rfl rfl ?_
                      refine T_iload 1 (dk dt_doAct 298 rfl) rfl ?_
                      refine T_iconst (v := 1) (dk dt_doAct 299 rfl) (by decide +kernel) ?_
                      obtain ⟨h73, h⟩ := h
                      obtain ⟨x74, ex74⟩ : ∃ z, z = si x6 73 (x6.1 0 88 : Int32).toNatClampNeg 1 := ⟨_, rfl⟩
                      have h := h x74 ex74
                      refine T_iast 73 6 (dk dt_doAct 300 rfl) mk_73 ml_73 h73 ?_
                      rw [← ex74]
                      refine T_aload_n 4 (dk dt_doAct 301 rfl) rfl rfl ?_
                      refine T_getR 0 73 74 (dk dt_doAct 302 rfl) fl_154 mk_0 ml_0 (by decide) rfl rfl ?_
                      refine T_iload 1 (dk dt_doAct 303 rfl) rfl ?_
                      refine T_aload_n 4 (dk dt_doAct 304 rfl) rfl rfl ?_
                      refine T_getR 0 63 64 (dk dt_doAct 305 rfl) fl_133 mk_0 ml_0 (by decide) rfl rfl ?_
                      refine T_iload 1 (dk dt_doAct 306 rfl) rfl ?_
                      obtain ⟨h75, h⟩ := h
                      refine T_iald 64 6 (dk dt_doAct 307 rfl) mk_64 ml_64 h75 ?_
                      obtain ⟨h76, h⟩ := h
                      obtain ⟨x77, ex77⟩ : ∃ z, z = si x74 74 (x6.1 0 88 : Int32).toNatClampNeg (x74.1 64 (x6.1 0 88 : Int32).toNatClampNeg) := ⟨_, rfl⟩
                      have h := h x77 ex77
                      refine T_iast 74 6 (dk dt_doAct 308 rfl) mk_74 ml_74 h76 ?_
                      rw [← ex77]
                      refine T_goto 667 (dk dt_doAct 309 rfl) (by decide) ?_
                      exact T_sub [4, 5, 3, 2, 1, 0] rfl h
                    · have h := h.2
                      by_cases c78 : r3 = 13
                      · have h := h.1 c78
                        refine T_table 568 630 (dk dt_doAct 36 rfl) (by decide) (by rw [c78]; decide +kernel) (by decide) ?_
                        refine T_aload_n 4 (dk dt_doAct 310 rfl) rfl rfl ?_
                        refine T_getR 0 78 79 (dk dt_doAct 311 rfl) fl_169 mk_0 ml_0 (by decide) rfl rfl ?_
                        refine T_iload_n 5 (dk dt_doAct 312 rfl) rfl rfl ?_
                        refine T_iload 1 (dk dt_doAct 313 rfl) rfl ?_
                        obtain ⟨h79, h⟩ := h
                        obtain ⟨x80, ex80⟩ : ∃ z, z = si x6 79 (l1 : Int32).toNatClampNeg (x6.1 0 88) := ⟨_, rfl⟩
                        have h := h x80 ex80
                        refine T_iast 79 6 (dk dt_doAct 314 rfl) mk_79 ml_79 h79 ?_
                        rw [← ex80]
                        refine T_aload_n 4 (dk dt_doAct 315 rfl) rfl rfl ?_
                        refine T_aload_n 4 (dk dt_doAct 316 rfl) rfl rfl ?_
                        refine T_getI 0 90 (dk dt_doAct 317 rfl) fl_626 mk_0 ml_0 (by decide) rfl ?_
                        obtain ⟨x81, ex81⟩ : ∃ z, z = si x80 0 93 (x80.1 0 90) := ⟨_, rfl⟩
                        have h := h x81 ex81
                        refine T_putI 0 93 (dk dt_doAct 318 rfl) fl_638 mk_0 ml_0 (by decide) rfl ⟨rfl, rfl⟩ ?_
                        rw [← ex81]
                        refine T_goto 667 (dk dt_doAct 319 rfl) (by decide) ?_
                        exact T_sub [4, 5, 3, 2, 1, 0] rfl h
                      · have h := h.2
                        by_cases c82 : r3 = 14
                        · have h := h.1 c82
                          refine T_table 587 649 (dk dt_doAct 36 rfl) (by decide) (by rw [c82]; decide +kernel) (by decide) ?_
                          refine T_aload_n 4 (dk dt_doAct 320 rfl) rfl rfl ?_
                          refine T_getR 0 78 79 (dk dt_doAct 321 rfl) fl_169 mk_0 ml_0 (by decide) rfl rfl ?_
                          refine T_iload_n 5 (dk dt_doAct 322 rfl) rfl rfl ?_
                          refine T_iconst (v := (-1)) (dk dt_doAct 323 rfl) (by decide +kernel) ?_
                          obtain ⟨h83, h⟩ := h
                          obtain ⟨x84, ex84⟩ : ∃ z, z = si x6 79 (l1 : Int32).toNatClampNeg (-1) := ⟨_, rfl⟩
                          have h := h x84 ex84
                          refine T_iast 79 6 (dk dt_doAct 324 rfl) mk_79 ml_79 h83 ?_
                          rw [← ex84]
                          refine T_aload_n 4 (dk dt_doAct 325 rfl) rfl rfl ?_
                          refine T_aload_n 4 (dk dt_doAct 326 rfl) rfl rfl ?_
                          refine T_getI 0 90 (dk dt_doAct 327 rfl) fl_626 mk_0 ml_0 (by decide) rfl ?_
                          obtain ⟨x85, ex85⟩ : ∃ z, z = si x84 0 93 (x84.1 0 90) := ⟨_, rfl⟩
                          have h := h x85 ex85
                          refine T_putI 0 93 (dk dt_doAct 328 rfl) fl_638 mk_0 ml_0 (by decide) rfl ⟨rfl, rfl⟩ ?_
                          rw [← ex85]
                          refine T_goto 667 (dk dt_doAct 329 rfl) (by decide) ?_
                          exact T_sub [4, 5, 3, 2, 1, 0] rfl h
                        · have h := h.2
                          have n86 : ∀ k ∈ [(0 : Int32), (1 : Int32), (2 : Int32), (3 : Int32), (4 : Int32), (5 : Int32), (15 : Int32), (6 : Int32), (7 : Int32), (8 : Int32), (9 : Int32), (13 : Int32), (14 : Int32)], ¬ r3 = k := (gno c8 (gno c12 (gno (fun q9 => c30 (Or.inl q9)) (gno (fun q9 => c30 (Or.inr (Or.inl q9))) (gno (fun q9 => c30 (Or.inr (Or.inr (q9)))) (gno c35 (gno c41 (gno c51 (gno c61 (gno c71 (gno c72 (gno c78 (gno c82 gno0)))))))))))))
                          have h := h n86
                          refine T_table 605 667 (dk dt_doAct 36 rfl) (by decide) (gtab_d [(0 : Int32), (1 : Int32), (2 : Int32), (3 : Int32), (4 : Int32), (5 : Int32), (15 : Int32), (6 : Int32), (7 : Int32), (8 : Int32), (9 : Int32), (13 : Int32), (14 : Int32)] (by decide +kernel) n86) (by decide) ?_
                          exact T_sub [4, 5, 3, 2, 1, 0] rfl h
  · have h := h.2 c7
    refine T_aload_n 2 (dk dt_doAct 21 rfl) rfl rfl ?_
    refine T_iload_n 3 (dk dt_doAct 22 rfl) rfl rfl ?_
    refine T_aload_n 2 (dk dt_doAct 23 rfl) rfl rfl ?_
    refine T_getI 0 89 (dk dt_doAct 24 rfl) fl_620 mk_0 ml_0 (by decide) rfl ?_
    refine MT_callVv [vi l1, vi (x6.1 0 89)] [] rfl (dk dt_doAct 25 rfl) cv_590 rfl rfl (Nat.le_of_ble_eq_true rfl) (Nat.le_of_ble_eq_true rfl) rfl rfl h (fun x87 h => ?_)
    refine T_aload_n 2 (dk dt_doAct 26 rfl) rfl rfl ?_
    refine T_iload_n 3 (dk dt_doAct 27 rfl) rfl rfl ?_
    refine MT_callVv [vi l1] [] rfl (dk dt_doAct 28 rfl) cv_596 rfl rfl (Nat.le_of_ble_eq_true rfl) (Nat.le_of_ble_eq_true rfl) rfl rfl h (fun x88 h => ?_)
    exact MT_vret (dk dt_doAct 29 rfl) rfl h
set_option maxRecDepth 100000 in
set_option maxHeartbeats 4000000 in
theorem sg_doAct_278 {G : mG} {d : Nat} {x : gd} {P : Option gv → gd → Prop} (l1 : Int32) (l3 : Int32) (l4 : Int32) (l5 : Int32) (s0 : Int32)
    (h : ((¬ (l4 = (4 : Int32)) → vp_in l5 24 ∧ MT G (d + 1) z_doAct 301 [(0, vr 0), (1, vi l1), (3, vi l3), (4, vi l4), (5, vi l5), (7, vi s0)] [vi (x.1 70 (l5 : Int32).toNatClampNeg)] x P) ∧ (l4 = (4 : Int32) → MT G d z_one 0 [(0, vi s0)] [] x (ri (fun r4 x3 => MT G (d + 1) z_doAct 301 [(0, vr 0), (1, vi l1), (3, vi l3), (4, vi l4), (5, vi l5), (7, vi s0)] [vi r4] x3 P))))) :
    MT G (d + 1) z_doAct 278 [(0, vr 0), (1, vi l1), (3, vi l3), (4, vi l4), (5, vi l5)] [vi s0] x P := by
  refine T_istore (lv2 := [(7, vi s0), (0, vr 0), (1, vi l1), (3, vi l3), (4, vi l4), (5, vi l5)]) (dk dt_doAct 115 rfl) (by decide) rfl ?_
  refine T_iload 4 (dk dt_doAct 116 rfl) rfl ?_
  refine T_iconst (v := 4) (dk dt_doAct 117 rfl) (by decide +kernel) ?_
  refine T_icmp_ne 294 (dk dt_doAct 118 rfl) (by decide) (fun c1 => ?_) (fun c1 => ?_)
  · have h := h.1 c1
    refine T_aload_n 1 (dk dt_doAct 122 rfl) rfl rfl ?_
    refine T_getR 0 69 70 (dk dt_doAct 123 rfl) fl_142 mk_0 ml_0 (by decide) rfl rfl ?_
    refine T_iload 5 (dk dt_doAct 124 rfl) rfl ?_
    obtain ⟨h2, h⟩ := h
    refine T_iald 70 24 (dk dt_doAct 125 rfl) mk_70 ml_70 h2 ?_
    exact T_sub [1, 2, 3, 4, 5, 0] rfl h
  · have h := h.2 c1
    refine T_iload 0 (dk dt_doAct 119 rfl) rfl ?_
    refine MT_callSi [vi s0] [] rfl (dk dt_doAct 120 rfl) cs_587 rfl (Nat.le_of_ble_eq_true rfl) (Nat.le_of_ble_eq_true rfl) rfl rfl h (fun r4 x3 h => ?_)
    refine T_goto 301 (dk dt_doAct 121 rfl) (by decide) ?_
    exact T_sub [1, 2, 3, 4, 5, 0] rfl h
set_option maxRecDepth 100000 in
set_option maxHeartbeats 4000000 in
theorem sg_doAct_301 {G : mG} {d : Nat} {x : gd} {P : Option gv → gd → Prop} (l1 : Int32) (l3 : Int32) (l4 : Int32) (l5 : Int32) (l7 : Int32) (s0 : Int32)
    (h : ((¬ (l4 = (2 : Int32)) → ((¬ (l4 = (3 : Int32)) → ((l7 = (0 : Int32) → vp_in l5 24 ∧ vp_in l5 24 ∧ (∀ x6 : gd, x6 = si x 70 (l5 : Int32).toNatClampNeg (x.1 70 (l5 : Int32).toNatClampNeg) → vp_in l5 24 ∧ (∀ x8 : gd, x8 = si x6 0 93 (x6.1 70 (l5 : Int32).toNatClampNeg) → MT G (d + 1) z_doAct 667 [(0, vr 0), (1, vi l1), (3, vi l3), (4, vi l4), (5, vi l5), (6, vi s0)] [] x8 P))) ∧ (¬ (l7 = (0 : Int32)) → vp_in l5 24 ∧ (∀ x10 : gd, x10 = si x 70 (l5 : Int32).toNatClampNeg (x.1 0 91) → vp_in l5 24 ∧ (∀ x12 : gd, x12 = si x10 0 93 (x10.1 70 (l5 : Int32).toNatClampNeg) → MT G (d + 1) z_doAct 667 [(0, vr 0), (1, vi l1), (3, vi l3), (4, vi l4), (5, vi l5), (6, vi s0)] [] x12 P))))) ∧ (l4 = (3 : Int32) → vp_in l5 24 ∧ vp_in l5 24 ∧ (∀ x15 : gd, x15 = si x 70 (l5 : Int32).toNatClampNeg ((x.1 70 (l5 : Int32).toNatClampNeg) + (x.1 0 90)) → vp_in l5 24 ∧ (∀ x17 : gd, x17 = si x15 0 93 (x15.1 70 (l5 : Int32).toNatClampNeg) → MT G (d + 1) z_doAct 667 [(0, vr 0), (1, vi l1), (3, vi l3), (4, vi l4), (5, vi l5), (6, vi s0)] [] x17 P))))) ∧ (l4 = (2 : Int32) → vp_in l5 24 ∧ (∀ x19 : gd, x19 = si x 70 (l5 : Int32).toNatClampNeg (x.1 0 90) → vp_in l5 24 ∧ (∀ x21 : gd, x21 = si x19 0 93 (x19.1 70 (l5 : Int32).toNatClampNeg) → MT G (d + 1) z_doAct 667 [(0, vr 0), (1, vi l1), (3, vi l3), (4, vi l4), (5, vi l5), (6, vi s0)] [] x21 P))))) :
    MT G (d + 1) z_doAct 301 [(0, vr 0), (1, vi l1), (3, vi l3), (4, vi l4), (5, vi l5), (7, vi l7)] [vi s0] x P := by
  refine T_istore (lv2 := [(6, vi s0), (0, vr 0), (1, vi l1), (3, vi l3), (4, vi l4), (5, vi l5), (7, vi l7)]) (dk dt_doAct 126 rfl) (by decide) rfl ?_
  refine T_aload_n 1 (dk dt_doAct 127 rfl) rfl rfl ?_
  refine T_getR 0 69 70 (dk dt_doAct 128 rfl) fl_142 mk_0 ml_0 (by decide) rfl rfl ?_
  refine T_iload 5 (dk dt_doAct 129 rfl) rfl ?_
  refine T_iload 4 (dk dt_doAct 130 rfl) rfl ?_
  refine T_iconst (v := 2) (dk dt_doAct 131 rfl) (by decide +kernel) ?_
  refine T_icmp_ne 322 (dk dt_doAct 132 rfl) (by decide) (fun c1 => ?_) (fun c1 => ?_)
  · have h := h.1 c1
    refine T_iload 4 (dk dt_doAct 136 rfl) rfl ?_
    refine T_iconst (v := 3) (dk dt_doAct 137 rfl) (by decide +kernel) ?_
    refine T_icmp_ne 343 (dk dt_doAct 138 rfl) (by decide) (fun c2 => ?_) (fun c2 => ?_)
    · have h := h.1 c2
      refine T_iload 6 (dk dt_doAct 147 rfl) rfl ?_
      refine T_if_eq 355 (dk dt_doAct 148 rfl) (by decide) (fun c3 => ?_) (fun c3 => ?_)
      · have h := h.1 c3
        refine T_aload_n 1 (dk dt_doAct 152 rfl) rfl rfl ?_
        refine T_getR 0 69 70 (dk dt_doAct 153 rfl) fl_142 mk_0 ml_0 (by decide) rfl rfl ?_
        refine T_iload 5 (dk dt_doAct 154 rfl) rfl ?_
        obtain ⟨h4, h⟩ := h
        refine T_iald 70 24 (dk dt_doAct 155 rfl) mk_70 ml_70 h4 ?_
        obtain ⟨h5, h⟩ := h
        obtain ⟨x6, ex6⟩ : ∃ z, z = si x 70 (l5 : Int32).toNatClampNeg (x.1 70 (l5 : Int32).toNatClampNeg) := ⟨_, rfl⟩
        have h := h x6 ex6
        refine T_iast 70 24 (dk dt_doAct 156 rfl) mk_70 ml_70 h5 ?_
        rw [← ex6]
        refine T_aload_n 1 (dk dt_doAct 157 rfl) rfl rfl ?_
        refine T_aload_n 1 (dk dt_doAct 158 rfl) rfl rfl ?_
        refine T_getR 0 69 70 (dk dt_doAct 159 rfl) fl_142 mk_0 ml_0 (by decide) rfl rfl ?_
        refine T_iload 5 (dk dt_doAct 160 rfl) rfl ?_
        obtain ⟨h7, h⟩ := h
        refine T_iald 70 24 (dk dt_doAct 161 rfl) mk_70 ml_70 h7 ?_
        obtain ⟨x8, ex8⟩ : ∃ z, z = si x6 0 93 (x6.1 70 (l5 : Int32).toNatClampNeg) := ⟨_, rfl⟩
        have h := h x8 ex8
        refine T_putI 0 93 (dk dt_doAct 162 rfl) fl_638 mk_0 ml_0 (by decide) rfl ⟨rfl, rfl⟩ ?_
        rw [← ex8]
        refine T_goto 667 (dk dt_doAct 163 rfl) (by decide) ?_
        exact T_sub [1, 2, 3, 4, 5, 0] rfl h
      · have h := h.2 c3
        refine T_aload_n 1 (dk dt_doAct 149 rfl) rfl rfl ?_
        refine T_getI 0 91 (dk dt_doAct 150 rfl) fl_629 mk_0 ml_0 (by decide) rfl ?_
        refine T_goto 362 (dk dt_doAct 151 rfl) (by decide) ?_
        obtain ⟨h9, h⟩ := h
        obtain ⟨x10, ex10⟩ : ∃ z, z = si x 70 (l5 : Int32).toNatClampNeg (x.1 0 91) := ⟨_, rfl⟩
        have h := h x10 ex10
        refine T_iast 70 24 (dk dt_doAct 156 rfl) mk_70 ml_70 h9 ?_
        rw [← ex10]
        refine T_aload_n 1 (dk dt_doAct 157 rfl) rfl rfl ?_
        refine T_aload_n 1 (dk dt_doAct 158 rfl) rfl rfl ?_
        refine T_getR 0 69 70 (dk dt_doAct 159 rfl) fl_142 mk_0 ml_0 (by decide) rfl rfl ?_
        refine T_iload 5 (dk dt_doAct 160 rfl) rfl ?_
        obtain ⟨h11, h⟩ := h
        refine T_iald 70 24 (dk dt_doAct 161 rfl) mk_70 ml_70 h11 ?_
        obtain ⟨x12, ex12⟩ : ∃ z, z = si x10 0 93 (x10.1 70 (l5 : Int32).toNatClampNeg) := ⟨_, rfl⟩
        have h := h x12 ex12
        refine T_putI 0 93 (dk dt_doAct 162 rfl) fl_638 mk_0 ml_0 (by decide) rfl ⟨rfl, rfl⟩ ?_
        rw [← ex12]
        refine T_goto 667 (dk dt_doAct 163 rfl) (by decide) ?_
        exact T_sub [1, 2, 3, 4, 5, 0] rfl h
    · have h := h.2 c2
      refine T_aload_n 1 (dk dt_doAct 139 rfl) rfl rfl ?_
      refine T_getR 0 69 70 (dk dt_doAct 140 rfl) fl_142 mk_0 ml_0 (by decide) rfl rfl ?_
      refine T_iload 5 (dk dt_doAct 141 rfl) rfl ?_
      obtain ⟨h13, h⟩ := h
      refine T_iald 70 24 (dk dt_doAct 142 rfl) mk_70 ml_70 h13 ?_
      refine T_aload_n 1 (dk dt_doAct 143 rfl) rfl rfl ?_
      refine T_getI 0 90 (dk dt_doAct 144 rfl) fl_626 mk_0 ml_0 (by decide) rfl ?_
      refine T_iadd (dk dt_doAct 145 rfl) ?_
      refine T_goto 362 (dk dt_doAct 146 rfl) (by decide) ?_
      obtain ⟨h14, h⟩ := h
      obtain ⟨x15, ex15⟩ : ∃ z, z = si x 70 (l5 : Int32).toNatClampNeg ((x.1 70 (l5 : Int32).toNatClampNeg) + (x.1 0 90)) := ⟨_, rfl⟩
      have h := h x15 ex15
      refine T_iast 70 24 (dk dt_doAct 156 rfl) mk_70 ml_70 h14 ?_
      rw [← ex15]
      refine T_aload_n 1 (dk dt_doAct 157 rfl) rfl rfl ?_
      refine T_aload_n 1 (dk dt_doAct 158 rfl) rfl rfl ?_
      refine T_getR 0 69 70 (dk dt_doAct 159 rfl) fl_142 mk_0 ml_0 (by decide) rfl rfl ?_
      refine T_iload 5 (dk dt_doAct 160 rfl) rfl ?_
      obtain ⟨h16, h⟩ := h
      refine T_iald 70 24 (dk dt_doAct 161 rfl) mk_70 ml_70 h16 ?_
      obtain ⟨x17, ex17⟩ : ∃ z, z = si x15 0 93 (x15.1 70 (l5 : Int32).toNatClampNeg) := ⟨_, rfl⟩
      have h := h x17 ex17
      refine T_putI 0 93 (dk dt_doAct 162 rfl) fl_638 mk_0 ml_0 (by decide) rfl ⟨rfl, rfl⟩ ?_
      rw [← ex17]
      refine T_goto 667 (dk dt_doAct 163 rfl) (by decide) ?_
      exact T_sub [1, 2, 3, 4, 5, 0] rfl h
  · have h := h.2 c1
    refine T_aload_n 1 (dk dt_doAct 133 rfl) rfl rfl ?_
    refine T_getI 0 90 (dk dt_doAct 134 rfl) fl_626 mk_0 ml_0 (by decide) rfl ?_
    refine T_goto 362 (dk dt_doAct 135 rfl) (by decide) ?_
    obtain ⟨h18, h⟩ := h
    obtain ⟨x19, ex19⟩ : ∃ z, z = si x 70 (l5 : Int32).toNatClampNeg (x.1 0 90) := ⟨_, rfl⟩
    have h := h x19 ex19
    refine T_iast 70 24 (dk dt_doAct 156 rfl) mk_70 ml_70 h18 ?_
    rw [← ex19]
    refine T_aload_n 1 (dk dt_doAct 157 rfl) rfl rfl ?_
    refine T_aload_n 1 (dk dt_doAct 158 rfl) rfl rfl ?_
    refine T_getR 0 69 70 (dk dt_doAct 159 rfl) fl_142 mk_0 ml_0 (by decide) rfl rfl ?_
    refine T_iload 5 (dk dt_doAct 160 rfl) rfl ?_
    obtain ⟨h20, h⟩ := h
    refine T_iald 70 24 (dk dt_doAct 161 rfl) mk_70 ml_70 h20 ?_
    obtain ⟨x21, ex21⟩ : ∃ z, z = si x19 0 93 (x19.1 70 (l5 : Int32).toNatClampNeg) := ⟨_, rfl⟩
    have h := h x21 ex21
    refine T_putI 0 93 (dk dt_doAct 162 rfl) fl_638 mk_0 ml_0 (by decide) rfl ⟨rfl, rfl⟩ ?_
    rw [← ex21]
    refine T_goto 667 (dk dt_doAct 163 rfl) (by decide) ?_
    exact T_sub [1, 2, 3, 4, 5, 0] rfl h
set_option maxRecDepth 100000 in
set_option maxHeartbeats 4000000 in
theorem sg_doAct_513 {G : mG} {d : Nat} {x : gd} {P : Option gv → gd → Prop} (l1 : Int32) (l2 : Int32) (l3 : Int32) (l4 : Int32) (l5 : Int32) (l6 : Int32) (l8 : Int32)
    (h : (((x.1 0 25) ≤ l8 → MT G (d + 1) z_doAct 667 [(0, vr 0), (1, vi l1), (3, vi l3), (4, vi l4), (5, vi l5), (6, vi l6)] [] x P) ∧ (¬ ((x.1 0 25) ≤ l8) → vp_in l8 6 ∧ ((¬ ((x.1 77 (l8 : Int32).toNatClampNeg) = (1 : Int32)) → MT G (d + 1) z_doAct 571 [(0, vr 0), (1, vi l1), (2, vi l2), (3, vi l3), (4, vi l4), (5, vi l5), (6, vi l6), (8, vi l8)] [vi 0] x P) ∧ ((x.1 77 (l8 : Int32).toNatClampNeg) = (1 : Int32) → vp_in l8 6 ∧ vp_in (x.1 74 (l8 : Int32).toNatClampNeg) 1500 ∧ ((¬ ((x.1 56 (x.1 74 (l8 : Int32).toNatClampNeg : Int32).toNatClampNeg) = l5) → MT G (d + 1) z_doAct 571 [(0, vr 0), (1, vi l1), (2, vi l2), (3, vi l3), (4, vi l4), (5, vi l5), (6, vi l6), (8, vi l8)] [vi 0] x P) ∧ ((x.1 56 (x.1 74 (l8 : Int32).toNatClampNeg : Int32).toNatClampNeg) = l5 → vp_in l3 1500 ∧ (((x.1 57 (l3 : Int32).toNatClampNeg) = (1 : Int32) → MT G (d + 1) z_doAct 571 [(0, vr 0), (1, vi l1), (2, vi l2), (3, vi l3), (4, vi l4), (5, vi l5), (6, vi l6), (8, vi l8)] [vi 1] x P) ∧ (¬ ((x.1 57 (l3 : Int32).toNatClampNeg) = (1 : Int32)) → ((¬ (l2 = l8) → MT G (d + 1) z_doAct 571 [(0, vr 0), (1, vi l1), (2, vi l2), (3, vi l3), (4, vi l4), (5, vi l5), (6, vi l6), (8, vi l8)] [vi 0] x P) ∧ (l2 = l8 → MT G (d + 1) z_doAct 571 [(0, vr 0), (1, vi l1), (2, vi l2), (3, vi l3), (4, vi l4), (5, vi l5), (6, vi l6), (8, vi l8)] [vi 1] x P))))))))))) :
    MT G (d + 1) z_doAct 513 [(0, vr 0), (1, vi l1), (2, vi l2), (3, vi l3), (4, vi l4), (5, vi l5), (6, vi l6), (8, vi l8)] [] x P := by
  refine T_iload 7 (dk dt_doAct 249 rfl) rfl ?_
  refine T_aload_n 0 (dk dt_doAct 250 rfl) rfl rfl ?_
  refine T_getI 0 25 (dk dt_doAct 251 rfl) fl_461 mk_0 ml_0 (by decide) rfl ?_
  refine T_icmp_ge 602 (dk dt_doAct 252 rfl) (by decide) (fun c1 => ?_) (fun c1 => ?_)
  · have h := h.1 c1
    refine T_goto 667 (dk dt_doAct 295 rfl) (by decide) ?_
    exact T_sub [0, 1, 3, 4, 5, 6] rfl h
  · have h := h.2 c1
    refine T_aload_n 0 (dk dt_doAct 253 rfl) rfl rfl ?_
    refine T_getR 0 76 77 (dk dt_doAct 254 rfl) fl_163 mk_0 ml_0 (by decide) rfl rfl ?_
    refine T_iload 7 (dk dt_doAct 255 rfl) rfl ?_
    obtain ⟨h2, h⟩ := h
    refine T_iald 77 6 (dk dt_doAct 256 rfl) mk_77 ml_77 h2 ?_
    refine T_iconst (v := 1) (dk dt_doAct 257 rfl) (by decide +kernel) ?_
    refine T_icmp_ne 570 (dk dt_doAct 258 rfl) (by decide) (fun c3 => ?_) (fun c3 => ?_)
    · have h := h.1 c3
      refine T_iconst (v := 0) (dk dt_doAct 279 rfl) (by decide +kernel) ?_
      exact h
    · have h := h.2 c3
      refine T_aload_n 0 (dk dt_doAct 259 rfl) rfl rfl ?_
      refine T_getR 0 55 56 (dk dt_doAct 260 rfl) fl_109 mk_0 ml_0 (by decide) rfl rfl ?_
      refine T_aload_n 0 (dk dt_doAct 261 rfl) rfl rfl ?_
      refine T_getR 0 73 74 (dk dt_doAct 262 rfl) fl_154 mk_0 ml_0 (by decide) rfl rfl ?_
      refine T_iload 7 (dk dt_doAct 263 rfl) rfl ?_
      obtain ⟨h4, h⟩ := h
      refine T_iald 74 6 (dk dt_doAct 264 rfl) mk_74 ml_74 h4 ?_
      obtain ⟨h5, h⟩ := h
      refine T_iald 56 1500 (dk dt_doAct 265 rfl) mk_56 ml_56 h5 ?_
      refine T_iload 5 (dk dt_doAct 266 rfl) rfl ?_
      refine T_icmp_ne 570 (dk dt_doAct 267 rfl) (by decide) (fun c6 => ?_) (fun c6 => ?_)
      · have h := h.1 c6
        refine T_iconst (v := 0) (dk dt_doAct 279 rfl) (by decide +kernel) ?_
        exact h
      · have h := h.2 c6
        refine T_aload_n 0 (dk dt_doAct 268 rfl) rfl rfl ?_
        refine T_getR 0 56 57 (dk dt_doAct 269 rfl) fl_112 mk_0 ml_0 (by decide) rfl rfl ?_
        refine T_iload_n 3 (dk dt_doAct 270 rfl) rfl rfl ?_
        obtain ⟨h7, h⟩ := h
        refine T_iald 57 1500 (dk dt_doAct 271 rfl) mk_57 ml_57 h7 ?_
        refine T_iconst (v := 1) (dk dt_doAct 272 rfl) (by decide +kernel) ?_
        refine T_icmp_eq 566 (dk dt_doAct 273 rfl) (by decide) (fun c8 => ?_) (fun c8 => ?_)
        · have h := h.1 c8
          refine T_iconst (v := 1) (dk dt_doAct 277 rfl) (by decide +kernel) ?_
          refine T_goto 571 (dk dt_doAct 278 rfl) (by decide) ?_
          exact h
        · have h := h.2 c8
          refine T_iload_n 2 (dk dt_doAct 274 rfl) rfl rfl ?_
          refine T_iload 7 (dk dt_doAct 275 rfl) rfl ?_
          refine T_icmp_ne 570 (dk dt_doAct 276 rfl) (by decide) (fun c9 => ?_) (fun c9 => ?_)
          · have h := h.1 c9
            refine T_iconst (v := 0) (dk dt_doAct 279 rfl) (by decide +kernel) ?_
            exact h
          · have h := h.2 c9
            refine T_iconst (v := 1) (dk dt_doAct 277 rfl) (by decide +kernel) ?_
            refine T_goto 571 (dk dt_doAct 278 rfl) (by decide) ?_
            exact h
set_option maxRecDepth 100000 in
set_option maxHeartbeats 4000000 in
theorem sg_doAct_571 {G : mG} {d : Nat} {x : gd} {P : Option gv → gd → Prop} (l1 : Int32) (l2 : Int32) (l3 : Int32) (l4 : Int32) (l5 : Int32) (l6 : Int32) (l8 : Int32) (s0 : Int32)
    (h : ((s0 = (0 : Int32) → vp_in l8 6 ∧ vp_in l8 6 ∧ (∀ x4 : gd, x4 = si x 77 (l8 : Int32).toNatClampNeg (x.1 77 (l8 : Int32).toNatClampNeg) → MT G (d + 1) z_doAct 513 [(0, vr 0), (1, vi l1), (2, vi l2), (3, vi l3), (4, vi l4), (5, vi l5), (6, vi l6), (8, vi (l8 + 1))] [] x4 P)) ∧ (¬ (s0 = (0 : Int32)) → vp_in l8 6 ∧ (∀ x6 : gd, x6 = si x 77 (l8 : Int32).toNatClampNeg 2 → MT G (d + 1) z_doAct 513 [(0, vr 0), (1, vi l1), (2, vi l2), (3, vi l3), (4, vi l4), (5, vi l5), (6, vi l6), (8, vi (l8 + 1))] [] x6 P)))) :
    MT G (d + 1) z_doAct 571 [(0, vr 0), (1, vi l1), (2, vi l2), (3, vi l3), (4, vi l4), (5, vi l5), (6, vi l6), (8, vi l8)] [vi s0] x P := by
  refine T_istore (lv2 := [(9, vi s0), (0, vr 0), (1, vi l1), (2, vi l2), (3, vi l3), (4, vi l4), (5, vi l5), (6, vi l6), (8, vi l8)]) (dk dt_doAct 280 rfl) (by decide) rfl ?_
  refine T_aload_n 1 (dk dt_doAct 281 rfl) rfl rfl ?_
  refine T_getR 0 76 77 (dk dt_doAct 282 rfl) fl_163 mk_0 ml_0 (by decide) rfl rfl ?_
  refine T_iload 8 (dk dt_doAct 283 rfl) rfl ?_
  refine T_iload 0 (dk dt_doAct 284 rfl) rfl ?_
  refine T_if_eq 588 (dk dt_doAct 285 rfl) (by decide) (fun c1 => ?_) (fun c1 => ?_)
  · have h := h.1 c1
    refine T_aload_n 1 (dk dt_doAct 288 rfl) rfl rfl ?_
    refine T_getR 0 76 77 (dk dt_doAct 289 rfl) fl_163 mk_0 ml_0 (by decide) rfl rfl ?_
    refine T_iload 8 (dk dt_doAct 290 rfl) rfl ?_
    obtain ⟨h2, h⟩ := h
    refine T_iald 77 6 (dk dt_doAct 291 rfl) mk_77 ml_77 h2 ?_
    obtain ⟨h3, h⟩ := h
    obtain ⟨x4, ex4⟩ : ∃ z, z = si x 77 (l8 : Int32).toNatClampNeg (x.1 77 (l8 : Int32).toNatClampNeg) := ⟨_, rfl⟩
    have h := h x4 ex4
    refine T_iast 77 6 (dk dt_doAct 292 rfl) mk_77 ml_77 h3 ?_
    rw [← ex4]
    refine T_iinc (v := l8 + 1) (lv2 := [(8, vi (l8 + 1)), (9, vi s0), (0, vr 0), (1, vi l1), (2, vi l2), (3, vi l3), (4, vi l4), (5, vi l5), (6, vi l6)]) 8 (dk dt_doAct 293 rfl) rfl rfl (by decide) rfl ?_
    refine T_goto 513 (dk dt_doAct 294 rfl) (by decide) ?_
    exact T_sub [2, 3, 4, 5, 6, 7, 8, 0] rfl h
  · have h := h.2 c1
    refine T_iconst (v := 2) (dk dt_doAct 286 rfl) (by decide +kernel) ?_
    refine T_goto 595 (dk dt_doAct 287 rfl) (by decide) ?_
    obtain ⟨h5, h⟩ := h
    obtain ⟨x6, ex6⟩ : ∃ z, z = si x 77 (l8 : Int32).toNatClampNeg 2 := ⟨_, rfl⟩
    have h := h x6 ex6
    refine T_iast 77 6 (dk dt_doAct 292 rfl) mk_77 ml_77 h5 ?_
    rw [← ex6]
    refine T_iinc (v := l8 + 1) (lv2 := [(8, vi (l8 + 1)), (9, vi s0), (0, vr 0), (1, vi l1), (2, vi l2), (3, vi l3), (4, vi l4), (5, vi l5), (6, vi l6)]) 8 (dk dt_doAct 293 rfl) rfl rfl (by decide) rfl ?_
    refine T_goto 513 (dk dt_doAct 294 rfl) (by decide) ?_
    exact T_sub [2, 3, 4, 5, 6, 7, 8, 0] rfl h
set_option maxRecDepth 100000 in
set_option maxHeartbeats 4000000 in
theorem sg_doAct_667 {G : mG} {d : Nat} {x : gd} {P : Option gv → gd → Prop} (l1 : Int32) (l3 : Int32) (l4 : Int32) (l5 : Int32) (l6 : Int32)
    (h : vp_in l3 1500 ∧ (((x.1 61 (l3 : Int32).toNatClampNeg) = (-1 : Int32) → MT G (d + 1) z_doAct 695 [(0, vr 0), (1, vi l1), (4, vi l4), (5, vi l5)] [] x P) ∧ (¬ ((x.1 61 (l3 : Int32).toNatClampNeg) = (-1 : Int32)) → vp_in l3 1500 ∧ vp_in ((8 * l1) + (x.1 61 (l3 : Int32).toNatClampNeg)) 48 ∧ (∀ x5 : gd, x5 = si x 76 ((8 * l1) + (x.1 61 (l3 : Int32).toNatClampNeg) : Int32).toNatClampNeg l6 → MT G (d + 1) z_doAct 695 [(0, vr 0), (1, vi l1), (4, vi l4), (5, vi l5)] [] x5 P)))) :
    MT G (d + 1) z_doAct 667 [(0, vr 0), (1, vi l1), (3, vi l3), (4, vi l4), (5, vi l5), (6, vi l6)] [] x P := by
  refine T_aload_n 0 (dk dt_doAct 330 rfl) rfl rfl ?_
  refine T_getR 0 60 61 (dk dt_doAct 331 rfl) fl_124 mk_0 ml_0 (by decide) rfl rfl ?_
  refine T_iload_n 2 (dk dt_doAct 332 rfl) rfl rfl ?_
  obtain ⟨h1, h⟩ := h
  refine T_iald 61 1500 (dk dt_doAct 333 rfl) mk_61 ml_61 h1 ?_
  refine T_iconst (v := (-1)) (dk dt_doAct 334 rfl) (by decide +kernel) ?_
  refine T_icmp_eq 695 (dk dt_doAct 335 rfl) (by decide) (fun c2 => ?_) (fun c2 => ?_)
  · have h := h.1 c2
    exact T_sub [0, 1, 3, 4] rfl h
  · have h := h.2 c2
    refine T_aload_n 0 (dk dt_doAct 336 rfl) rfl rfl ?_
    refine T_getR 0 75 76 (dk dt_doAct 337 rfl) fl_160 mk_0 ml_0 (by decide) rfl rfl ?_
    refine T_bipush (v := 8) (dk dt_doAct 338 rfl) (by decide +kernel) ?_
    refine T_iload_n 1 (dk dt_doAct 339 rfl) rfl rfl ?_
    refine T_imul (dk dt_doAct 340 rfl) ?_
    refine T_aload_n 0 (dk dt_doAct 341 rfl) rfl rfl ?_
    refine T_getR 0 60 61 (dk dt_doAct 342 rfl) fl_124 mk_0 ml_0 (by decide) rfl rfl ?_
    refine T_iload_n 2 (dk dt_doAct 343 rfl) rfl rfl ?_
    obtain ⟨h3, h⟩ := h
    refine T_iald 61 1500 (dk dt_doAct 344 rfl) mk_61 ml_61 h3 ?_
    refine T_iadd (dk dt_doAct 345 rfl) ?_
    refine T_iload 5 (dk dt_doAct 346 rfl) rfl ?_
    obtain ⟨h4, h⟩ := h
    obtain ⟨x5, ex5⟩ : ∃ z, z = si x 76 ((8 * l1) + (x.1 61 (l3 : Int32).toNatClampNeg) : Int32).toNatClampNeg l6 := ⟨_, rfl⟩
    have h := h x5 ex5
    refine T_iast 76 48 (dk dt_doAct 347 rfl) mk_76 ml_76 h4 ?_
    rw [← ex5]
    exact T_sub [0, 1, 3, 4] rfl h
set_option maxRecDepth 100000 in
set_option maxHeartbeats 4000000 in
theorem sg_doAct_695 {G : mG} {d : Nat} {x : gd} {P : Option gv → gd → Prop} (l1 : Int32) (l4 : Int32) (l5 : Int32)
    (h : vp_in l1 6 ∧ vp_in l1 6 ∧ (∀ x3 : gd, x3 = si x 74 (l1 : Int32).toNatClampNeg ((x.1 74 (l1 : Int32).toNatClampNeg) + 1) → MT G d z_own 0 [(0, vr 0), (1, vi l1)] [] x3 (rv (fun x4 => ((¬ (l4 = (9 : Int32)) → P none x4) ∧ (l4 = (9 : Int32) → MT G d z_own 0 [(0, vr 0), (1, vi l5)] [] x4 (rv (fun x6 => P none x6)))))))) :
    MT G (d + 1) z_doAct 695 [(0, vr 0), (1, vi l1), (4, vi l4), (5, vi l5)] [] x P := by
  refine T_aload_n 0 (dk dt_doAct 348 rfl) rfl rfl ?_
  refine T_getR 0 73 74 (dk dt_doAct 349 rfl) fl_154 mk_0 ml_0 (by decide) rfl rfl ?_
  refine T_iload_n 1 (dk dt_doAct 350 rfl) rfl rfl ?_
  refine T_dup2 (dk dt_doAct 351 rfl) rfl rfl ?_
  obtain ⟨h1, h⟩ := h
  refine T_iald 74 6 (dk dt_doAct 352 rfl) mk_74 ml_74 h1 ?_
  refine T_iconst (v := 1) (dk dt_doAct 353 rfl) (by decide +kernel) ?_
  refine T_iadd (dk dt_doAct 354 rfl) ?_
  obtain ⟨h2, h⟩ := h
  obtain ⟨x3, ex3⟩ : ∃ z, z = si x 74 (l1 : Int32).toNatClampNeg ((x.1 74 (l1 : Int32).toNatClampNeg) + 1) := ⟨_, rfl⟩
  have h := h x3 ex3
  refine T_iast 74 6 (dk dt_doAct 355 rfl) mk_74 ml_74 h2 ?_
  rw [← ex3]
  refine T_aload_n 0 (dk dt_doAct 356 rfl) rfl rfl ?_
  refine T_iload_n 1 (dk dt_doAct 357 rfl) rfl rfl ?_
  refine MT_callVv [vi l1] [] rfl (dk dt_doAct 358 rfl) cv_599 rfl rfl (Nat.le_of_ble_eq_true rfl) (Nat.le_of_ble_eq_true rfl) rfl rfl h (fun x4 h => ?_)
  refine T_iload 2 (dk dt_doAct 359 rfl) rfl ?_
  refine T_bipush (v := 9) (dk dt_doAct 360 rfl) (by decide +kernel) ?_
  refine T_icmp_ne 723 (dk dt_doAct 361 rfl) (by decide) (fun c5 => ?_) (fun c5 => ?_)
  · have h := h.1 c5
    exact MT_vret (dk dt_doAct 365 rfl) rfl h
  · have h := h.2 c5
    refine T_aload_n 0 (dk dt_doAct 362 rfl) rfl rfl ?_
    refine T_iload 3 (dk dt_doAct 363 rfl) rfl ?_
    refine MT_callVv [vi l5] [] rfl (dk dt_doAct 364 rfl) cv_599 rfl rfl (Nat.le_of_ble_eq_true rfl) (Nat.le_of_ble_eq_true rfl) rfl rfl h (fun x6 h => ?_)
    exact MT_vret (dk dt_doAct 365 rfl) rfl h
set_option maxRecDepth 100000 in
theorem dt_doLate : dck cX12_doLate [(0, .aload_n 0, 1), (1, .getfield 142, 3), (4, .aload_n 0, 1), (5, .getfield 175, 3), (8, .bipush 10, 2), (10, .iload_n 1, 1), (11, .imul, 1), (12, .iload_n 2, 1), (13, .iadd, 1), (14, .iaload, 1), (15, .aload_n 0, 1), (16, .getfield 178, 3), (19, .bipush 10, 2), (21, .iload_n 1, 1), (22, .imul, 1), (23, .iload_n 2, 1), (24, .iadd, 1), (25, .iaload, 1), (26, .iastore, 1), (27, .aload_n 0, 1), (28, .getfield 172, 3), (31, .iload_n 1, 1), (32, .dup2, 1), (33, .iaload, 1), (34, .iconst 1, 1), (35, .isub, 1), (36, .iastore, 1), (37, .iload_n 2, 1), (38, .istore_n 3, 1), (39, .iload_n 3, 1), (40, .aload_n 0, 1), (41, .getfield 172, 3), (44, .iload_n 1, 1), (45, .iaload, 1), (46, .if_icmp .ge 57, 3), (49, .aload_n 0, 1), (50, .getfield 175, 3), (53, .bipush 10, 2), (55, .iload_n 1, 1), (56, .imul, 1), (57, .iload_n 3, 1), (58, .iadd, 1), (59, .aload_n 0, 1), (60, .getfield 175, 3), (63, .bipush 10, 2), (65, .iload_n 1, 1), (66, .imul, 1), (67, .iload_n 3, 1), (68, .iadd, 1), (69, .iconst 1, 1), (70, .iadd, 1), (71, .iaload, 1), (72, .iastore, 1), (73, .aload_n 0, 1), (74, .getfield 178, 3), (77, .bipush 10, 2), (79, .iload_n 1, 1), (80, .imul, 1), (81, .iload_n 3, 1), (82, .iadd, 1), (83, .aload_n 0, 1), (84, .getfield 178, 3), (87, .bipush 10, 2), (89, .iload_n 1, 1), (90, .imul, 1), (91, .iload_n 3, 1), (92, .iadd, 1), (93, .iconst 1, 1), (94, .iadd, 1), (95, .iaload, 1), (96, .iastore, 1), (97, .iinc 3 1, 3), (100, .goto (-61), 3), (103, .return_, 1)] = true := by decide +kernel
set_option maxRecDepth 100000 in
set_option maxHeartbeats 4000000 in
theorem sg_doLate_0 {G : mG} {d : Nat} {x : gd} {P : Option gv → gd → Prop} (l1 : Int32) (l2 : Int32)
    (h : vp_in ((10 * l1) + l2) 60 ∧ vp_in ((10 * l1) + l2) 60 ∧ vp_in (x.1 81 ((10 * l1) + l2 : Int32).toNatClampNeg) 24 ∧ (∀ x4 : gd, x4 = si x 70 (x.1 81 ((10 * l1) + l2 : Int32).toNatClampNeg : Int32).toNatClampNeg (x.1 82 ((10 * l1) + l2 : Int32).toNatClampNeg) → vp_in l1 6 ∧ vp_in l1 6 ∧ (∀ x7 : gd, x7 = si x4 80 (l1 : Int32).toNatClampNeg ((x4.1 80 (l1 : Int32).toNatClampNeg) - 1) → MT G d z_doLate 39 [(0, vr 0), (1, vi l1), (3, vi l2)] [] x7 P))) :
    MT G d z_doLate 0 [(0, vr 0), (1, vi l1), (2, vi l2)] [] x P := by
  refine T_aload_n 0 (dk dt_doLate 0 rfl) rfl rfl ?_
  refine T_getR 0 69 70 (dk dt_doLate 1 rfl) fl_142 mk_0 ml_0 (by decide) rfl rfl ?_
  refine T_aload_n 0 (dk dt_doLate 2 rfl) rfl rfl ?_
  refine T_getR 0 80 81 (dk dt_doLate 3 rfl) fl_175 mk_0 ml_0 (by decide) rfl rfl ?_
  refine T_bipush (v := 10) (dk dt_doLate 4 rfl) (by decide +kernel) ?_
  refine T_iload_n 1 (dk dt_doLate 5 rfl) rfl rfl ?_
  refine T_imul (dk dt_doLate 6 rfl) ?_
  refine T_iload_n 2 (dk dt_doLate 7 rfl) rfl rfl ?_
  refine T_iadd (dk dt_doLate 8 rfl) ?_
  obtain ⟨h1, h⟩ := h
  refine T_iald 81 60 (dk dt_doLate 9 rfl) mk_81 ml_81 h1 ?_
  refine T_aload_n 0 (dk dt_doLate 10 rfl) rfl rfl ?_
  refine T_getR 0 81 82 (dk dt_doLate 11 rfl) fl_178 mk_0 ml_0 (by decide) rfl rfl ?_
  refine T_bipush (v := 10) (dk dt_doLate 12 rfl) (by decide +kernel) ?_
  refine T_iload_n 1 (dk dt_doLate 13 rfl) rfl rfl ?_
  refine T_imul (dk dt_doLate 14 rfl) ?_
  refine T_iload_n 2 (dk dt_doLate 15 rfl) rfl rfl ?_
  refine T_iadd (dk dt_doLate 16 rfl) ?_
  obtain ⟨h2, h⟩ := h
  refine T_iald 82 60 (dk dt_doLate 17 rfl) mk_82 ml_82 h2 ?_
  obtain ⟨h3, h⟩ := h
  obtain ⟨x4, ex4⟩ : ∃ z, z = si x 70 (x.1 81 ((10 * l1) + l2 : Int32).toNatClampNeg : Int32).toNatClampNeg (x.1 82 ((10 * l1) + l2 : Int32).toNatClampNeg) := ⟨_, rfl⟩
  have h := h x4 ex4
  refine T_iast 70 24 (dk dt_doLate 18 rfl) mk_70 ml_70 h3 ?_
  rw [← ex4]
  refine T_aload_n 0 (dk dt_doLate 19 rfl) rfl rfl ?_
  refine T_getR 0 79 80 (dk dt_doLate 20 rfl) fl_172 mk_0 ml_0 (by decide) rfl rfl ?_
  refine T_iload_n 1 (dk dt_doLate 21 rfl) rfl rfl ?_
  refine T_dup2 (dk dt_doLate 22 rfl) rfl rfl ?_
  obtain ⟨h5, h⟩ := h
  refine T_iald 80 6 (dk dt_doLate 23 rfl) mk_80 ml_80 h5 ?_
  refine T_iconst (v := 1) (dk dt_doLate 24 rfl) (by decide +kernel) ?_
  refine T_isub (dk dt_doLate 25 rfl) ?_
  obtain ⟨h6, h⟩ := h
  obtain ⟨x7, ex7⟩ : ∃ z, z = si x4 80 (l1 : Int32).toNatClampNeg ((x4.1 80 (l1 : Int32).toNatClampNeg) - 1) := ⟨_, rfl⟩
  have h := h x7 ex7
  refine T_iast 80 6 (dk dt_doLate 26 rfl) mk_80 ml_80 h6 ?_
  rw [← ex7]
  refine T_iload_n 2 (dk dt_doLate 27 rfl) rfl rfl ?_
  refine T_istore_n (lv2 := [(3, vi l2), (0, vr 0), (1, vi l1), (2, vi l2)]) (dk dt_doLate 28 rfl) rfl (by decide) rfl ?_
  exact T_sub [1, 2, 0] rfl h
set_option maxRecDepth 100000 in
set_option maxHeartbeats 4000000 in
theorem sg_doLate_39 {G : mG} {d : Nat} {x : gd} {P : Option gv → gd → Prop} (l1 : Int32) (l3 : Int32)
    (h : vp_in l1 6 ∧ (((x.1 80 (l1 : Int32).toNatClampNeg) ≤ l3 → P none x) ∧ (¬ ((x.1 80 (l1 : Int32).toNatClampNeg) ≤ l3) → vp_in (((10 * l1) + l3) + 1) 60 ∧ vp_in ((10 * l1) + l3) 60 ∧ (∀ x5 : gd, x5 = si x 81 ((10 * l1) + l3 : Int32).toNatClampNeg (x.1 81 (((10 * l1) + l3) + 1 : Int32).toNatClampNeg) → vp_in (((10 * l1) + l3) + 1) 60 ∧ vp_in ((10 * l1) + l3) 60 ∧ (∀ x8 : gd, x8 = si x5 82 ((10 * l1) + l3 : Int32).toNatClampNeg (x5.1 82 (((10 * l1) + l3) + 1 : Int32).toNatClampNeg) → MT G d z_doLate 39 [(0, vr 0), (1, vi l1), (3, vi (l3 + 1))] [] x8 P))))) :
    MT G d z_doLate 39 [(0, vr 0), (1, vi l1), (3, vi l3)] [] x P := by
  refine T_iload_n 2 (dk dt_doLate 29 rfl) rfl rfl ?_
  refine T_aload_n 0 (dk dt_doLate 30 rfl) rfl rfl ?_
  refine T_getR 0 79 80 (dk dt_doLate 31 rfl) fl_172 mk_0 ml_0 (by decide) rfl rfl ?_
  refine T_iload_n 1 (dk dt_doLate 32 rfl) rfl rfl ?_
  obtain ⟨h1, h⟩ := h
  refine T_iald 80 6 (dk dt_doLate 33 rfl) mk_80 ml_80 h1 ?_
  refine T_icmp_ge 103 (dk dt_doLate 34 rfl) (by decide) (fun c2 => ?_) (fun c2 => ?_)
  · have h := h.1 c2
    exact MT_vret (dk dt_doLate 73 rfl) rfl h
  · have h := h.2 c2
    refine T_aload_n 0 (dk dt_doLate 35 rfl) rfl rfl ?_
    refine T_getR 0 80 81 (dk dt_doLate 36 rfl) fl_175 mk_0 ml_0 (by decide) rfl rfl ?_
    refine T_bipush (v := 10) (dk dt_doLate 37 rfl) (by decide +kernel) ?_
    refine T_iload_n 1 (dk dt_doLate 38 rfl) rfl rfl ?_
    refine T_imul (dk dt_doLate 39 rfl) ?_
    refine T_iload_n 2 (dk dt_doLate 40 rfl) rfl rfl ?_
    refine T_iadd (dk dt_doLate 41 rfl) ?_
    refine T_aload_n 0 (dk dt_doLate 42 rfl) rfl rfl ?_
    refine T_getR 0 80 81 (dk dt_doLate 43 rfl) fl_175 mk_0 ml_0 (by decide) rfl rfl ?_
    refine T_bipush (v := 10) (dk dt_doLate 44 rfl) (by decide +kernel) ?_
    refine T_iload_n 1 (dk dt_doLate 45 rfl) rfl rfl ?_
    refine T_imul (dk dt_doLate 46 rfl) ?_
    refine T_iload_n 2 (dk dt_doLate 47 rfl) rfl rfl ?_
    refine T_iadd (dk dt_doLate 48 rfl) ?_
    refine T_iconst (v := 1) (dk dt_doLate 49 rfl) (by decide +kernel) ?_
    refine T_iadd (dk dt_doLate 50 rfl) ?_
    obtain ⟨h3, h⟩ := h
    refine T_iald 81 60 (dk dt_doLate 51 rfl) mk_81 ml_81 h3 ?_
    obtain ⟨h4, h⟩ := h
    obtain ⟨x5, ex5⟩ : ∃ z, z = si x 81 ((10 * l1) + l3 : Int32).toNatClampNeg (x.1 81 (((10 * l1) + l3) + 1 : Int32).toNatClampNeg) := ⟨_, rfl⟩
    have h := h x5 ex5
    refine T_iast 81 60 (dk dt_doLate 52 rfl) mk_81 ml_81 h4 ?_
    rw [← ex5]
    refine T_aload_n 0 (dk dt_doLate 53 rfl) rfl rfl ?_
    refine T_getR 0 81 82 (dk dt_doLate 54 rfl) fl_178 mk_0 ml_0 (by decide) rfl rfl ?_
    refine T_bipush (v := 10) (dk dt_doLate 55 rfl) (by decide +kernel) ?_
    refine T_iload_n 1 (dk dt_doLate 56 rfl) rfl rfl ?_
    refine T_imul (dk dt_doLate 57 rfl) ?_
    refine T_iload_n 2 (dk dt_doLate 58 rfl) rfl rfl ?_
    refine T_iadd (dk dt_doLate 59 rfl) ?_
    refine T_aload_n 0 (dk dt_doLate 60 rfl) rfl rfl ?_
    refine T_getR 0 81 82 (dk dt_doLate 61 rfl) fl_178 mk_0 ml_0 (by decide) rfl rfl ?_
    refine T_bipush (v := 10) (dk dt_doLate 62 rfl) (by decide +kernel) ?_
    refine T_iload_n 1 (dk dt_doLate 63 rfl) rfl rfl ?_
    refine T_imul (dk dt_doLate 64 rfl) ?_
    refine T_iload_n 2 (dk dt_doLate 65 rfl) rfl rfl ?_
    refine T_iadd (dk dt_doLate 66 rfl) ?_
    refine T_iconst (v := 1) (dk dt_doLate 67 rfl) (by decide +kernel) ?_
    refine T_iadd (dk dt_doLate 68 rfl) ?_
    obtain ⟨h6, h⟩ := h
    refine T_iald 82 60 (dk dt_doLate 69 rfl) mk_82 ml_82 h6 ?_
    obtain ⟨h7, h⟩ := h
    obtain ⟨x8, ex8⟩ : ∃ z, z = si x5 82 ((10 * l1) + l3 : Int32).toNatClampNeg (x5.1 82 (((10 * l1) + l3) + 1 : Int32).toNatClampNeg) := ⟨_, rfl⟩
    have h := h x8 ex8
    refine T_iast 82 60 (dk dt_doLate 70 rfl) mk_82 ml_82 h7 ?_
    rw [← ex8]
    refine T_iinc (v := l3 + 1) (lv2 := [(3, vi (l3 + 1)), (0, vr 0), (1, vi l1)]) 2 (dk dt_doLate 71 rfl) rfl rfl (by decide) rfl ?_
    refine T_goto 39 (dk dt_doLate 72 rfl) (by decide) ?_
    exact T_sub [1, 2, 0] rfl h
set_option maxRecDepth 100000 in
theorem dt_isStuck : dck cX12_isStuck [(0, .iconst 0, 1), (1, .istore_n 1, 1), (2, .iconst 0, 1), (3, .istore_n 2, 1), (4, .iload_n 2, 1), (5, .aload_n 0, 1), (6, .getfield 461, 3), (9, .if_icmp .ge 29, 3), (12, .iload_n 1, 1), (13, .ifCond .ne 13, 3), (16, .aload_n 0, 1), (17, .getfield 151, 3), (20, .iload_n 2, 1), (21, .iaload, 1), (22, .iconst 1, 1), (23, .if_icmp .ne 7, 3), (26, .iconst 1, 1), (27, .goto 4, 3), (30, .iconst 0, 1), (31, .istore_n 1, 1), (32, .iinc 2 1, 3), (35, .goto (-31), 3), (38, .aload_n 0, 1), (39, .getfield 611, 3), (42, .ifCond .ne 11, 3), (45, .iload_n 1, 1), (46, .ifCond .eq 7, 3), (49, .iconst 1, 1), (50, .goto 4, 3), (53, .iconst 0, 1), (54, .ireturn, 1)] = true := by decide +kernel
set_option maxRecDepth 100000 in
set_option maxHeartbeats 4000000 in
theorem sg_isStuck_0 {G : mG} {d : Nat} {x : gd} {P : Option gv → gd → Prop} 
    (h : MT G d z_isStuck 4 [(0, vr 0), (1, vi 0), (2, vi 0)] [] x P) :
    MT G d z_isStuck 0 [(0, vr 0)] [] x P := by
  refine T_iconst (v := 0) (dk dt_isStuck 0 rfl) (by decide +kernel) ?_
  refine T_istore_n (lv2 := [(1, vi 0), (0, vr 0)]) (dk dt_isStuck 1 rfl) rfl (by decide) rfl ?_
  refine T_iconst (v := 0) (dk dt_isStuck 2 rfl) (by decide +kernel) ?_
  refine T_istore_n (lv2 := [(2, vi 0), (1, vi 0), (0, vr 0)]) (dk dt_isStuck 3 rfl) rfl (by decide) rfl ?_
  exact T_sub [2, 1, 0] rfl h
set_option maxRecDepth 100000 in
set_option maxHeartbeats 4000000 in
theorem sg_isStuck_4 {G : mG} {d : Nat} {x : gd} {P : Option gv → gd → Prop} (l1 : Int32) (l2 : Int32)
    (h : (((x.1 0 25) ≤ l2 → ((¬ ((x.1 0 84) = (0 : Int32)) → P (some (vi 0)) x) ∧ ((x.1 0 84) = (0 : Int32) → ((l1 = (0 : Int32) → P (some (vi 0)) x) ∧ (¬ (l1 = (0 : Int32)) → P (some (vi 1)) x))))) ∧ (¬ ((x.1 0 25) ≤ l2) → ((¬ (l1 = (0 : Int32)) → MT G d z_isStuck 4 [(0, vr 0), (1, vi 1), (2, vi (l2 + 1))] [] x P) ∧ (l1 = (0 : Int32) → vp_in l2 6 ∧ ((¬ ((x.1 73 (l2 : Int32).toNatClampNeg) = (1 : Int32)) → MT G d z_isStuck 4 [(0, vr 0), (1, vi 0), (2, vi (l2 + 1))] [] x P) ∧ ((x.1 73 (l2 : Int32).toNatClampNeg) = (1 : Int32) → MT G d z_isStuck 4 [(0, vr 0), (1, vi 1), (2, vi (l2 + 1))] [] x P))))))) :
    MT G d z_isStuck 4 [(0, vr 0), (1, vi l1), (2, vi l2)] [] x P := by
  refine T_iload_n 2 (dk dt_isStuck 4 rfl) rfl rfl ?_
  refine T_aload_n 0 (dk dt_isStuck 5 rfl) rfl rfl ?_
  refine T_getI 0 25 (dk dt_isStuck 6 rfl) fl_461 mk_0 ml_0 (by decide) rfl ?_
  refine T_icmp_ge 38 (dk dt_isStuck 7 rfl) (by decide) (fun c1 => ?_) (fun c1 => ?_)
  · have h := h.1 c1
    refine T_aload_n 0 (dk dt_isStuck 22 rfl) rfl rfl ?_
    refine T_getI 0 84 (dk dt_isStuck 23 rfl) fl_611 mk_0 ml_0 (by decide) rfl ?_
    refine T_if_ne 53 (dk dt_isStuck 24 rfl) (by decide) (fun c2 => ?_) (fun c2 => ?_)
    · have h := h.1 c2
      refine T_iconst (v := 0) (dk dt_isStuck 29 rfl) (by decide +kernel) ?_
      exact MT_iret (dk dt_isStuck 30 rfl) rfl rfl h
    · have h := h.2 c2
      refine T_iload_n 1 (dk dt_isStuck 25 rfl) rfl rfl ?_
      refine T_if_eq 53 (dk dt_isStuck 26 rfl) (by decide) (fun c3 => ?_) (fun c3 => ?_)
      · have h := h.1 c3
        refine T_iconst (v := 0) (dk dt_isStuck 29 rfl) (by decide +kernel) ?_
        exact MT_iret (dk dt_isStuck 30 rfl) rfl rfl h
      · have h := h.2 c3
        refine T_iconst (v := 1) (dk dt_isStuck 27 rfl) (by decide +kernel) ?_
        refine T_goto 54 (dk dt_isStuck 28 rfl) (by decide) ?_
        exact MT_iret (dk dt_isStuck 30 rfl) rfl rfl h
  · have h := h.2 c1
    refine T_iload_n 1 (dk dt_isStuck 8 rfl) rfl rfl ?_
    refine T_if_ne 26 (dk dt_isStuck 9 rfl) (by decide) (fun c4 => ?_) (fun c4 => ?_)
    · have h := h.1 c4
      refine T_iconst (v := 1) (dk dt_isStuck 16 rfl) (by decide +kernel) ?_
      refine T_goto 31 (dk dt_isStuck 17 rfl) (by decide) ?_
      refine T_istore_n (lv2 := [(1, vi 1), (0, vr 0), (2, vi l2)]) (dk dt_isStuck 19 rfl) rfl (by decide) rfl ?_
      refine T_iinc (v := l2 + 1) (lv2 := [(2, vi (l2 + 1)), (1, vi 1), (0, vr 0)]) 2 (dk dt_isStuck 20 rfl) rfl rfl (by decide) rfl ?_
      refine T_goto 4 (dk dt_isStuck 21 rfl) (by decide) ?_
      exact T_sub [2, 1, 0] rfl h
    · have h := h.2 c4
      refine T_aload_n 0 (dk dt_isStuck 10 rfl) rfl rfl ?_
      refine T_getR 0 72 73 (dk dt_isStuck 11 rfl) fl_151 mk_0 ml_0 (by decide) rfl rfl ?_
      refine T_iload_n 2 (dk dt_isStuck 12 rfl) rfl rfl ?_
      obtain ⟨h5, h⟩ := h
      refine T_iald 73 6 (dk dt_isStuck 13 rfl) mk_73 ml_73 h5 ?_
      refine T_iconst (v := 1) (dk dt_isStuck 14 rfl) (by decide +kernel) ?_
      refine T_icmp_ne 30 (dk dt_isStuck 15 rfl) (by decide) (fun c6 => ?_) (fun c6 => ?_)
      · have h := h.1 c6
        refine T_iconst (v := 0) (dk dt_isStuck 18 rfl) (by decide +kernel) ?_
        refine T_istore_n (lv2 := [(1, vi 0), (0, vr 0), (2, vi l2)]) (dk dt_isStuck 19 rfl) rfl (by decide) rfl ?_
        refine T_iinc (v := l2 + 1) (lv2 := [(2, vi (l2 + 1)), (1, vi 0), (0, vr 0)]) 2 (dk dt_isStuck 20 rfl) rfl rfl (by decide) rfl ?_
        refine T_goto 4 (dk dt_isStuck 21 rfl) (by decide) ?_
        exact T_sub [2, 1, 0] rfl h
      · have h := h.2 c6
        refine T_iconst (v := 1) (dk dt_isStuck 16 rfl) (by decide +kernel) ?_
        refine T_goto 31 (dk dt_isStuck 17 rfl) (by decide) ?_
        refine T_istore_n (lv2 := [(1, vi 1), (0, vr 0), (2, vi l2)]) (dk dt_isStuck 19 rfl) rfl (by decide) rfl ?_
        refine T_iinc (v := l2 + 1) (lv2 := [(2, vi (l2 + 1)), (1, vi 1), (0, vr 0)]) 2 (dk dt_isStuck 20 rfl) rfl rfl (by decide) rfl ?_
        refine T_goto 4 (dk dt_isStuck 21 rfl) (by decide) ?_
        exact T_sub [2, 1, 0] rfl h
set_option maxRecDepth 100000 in
theorem dt_startRun : dck cX12_startRun [(0, .aload_n 0, 1), (1, .iload_n 1, 1), (2, .putfield 608, 3), (5, .aload_n 0, 1), (6, .iconst 1, 1), (7, .putfield 569, 3), (10, .aload_n 0, 1), (11, .iconst 0, 1), (12, .putfield 644, 3), (15, .aload_n 0, 1), (16, .iconst 0, 1), (17, .putfield 647, 3), (20, .iconst 0, 1), (21, .istore_n 2, 1), (22, .iload_n 2, 1), (23, .bipush 6, 2), (25, .if_icmp .ge 23, 3), (28, .aload_n 0, 1), (29, .getfield 221, 3), (32, .iload_n 2, 1), (33, .iconst (-1), 1), (34, .iastore, 1), (35, .aload_n 0, 1), (36, .getfield 224, 3), (39, .iload_n 2, 1), (40, .iconst (-1), 1), (41, .iastore, 1), (42, .iinc 2 1, 3), (45, .goto (-23), 3), (48, .aload_n 0, 1), (49, .invokevirtual 650, 3), (52, .aload_n 0, 1), (53, .invokevirtual 653, 3), (56, .return_, 1)] = true := by decide +kernel
set_option maxRecDepth 100000 in
set_option maxHeartbeats 4000000 in
theorem sg_startRun_0 {G : mG} {d : Nat} {x : gd} {P : Option gv → gd → Prop} (l1 : Int32)
    (h : (∀ x1 : gd, x1 = si x 0 68 l1 → (∀ x2 : gd, x2 = si x1 0 67 1 → (∀ x3 : gd, x3 = si x2 0 94 0 → (∀ x4 : gd, x4 = si x3 0 96 0 → MT G (d + 1) z_startRun 22 [(0, vr 0), (2, vi 0)] [] x4 P))))) :
    MT G (d + 1) z_startRun 0 [(0, vr 0), (1, vi l1)] [] x P := by
  refine T_aload_n 0 (dk dt_startRun 0 rfl) rfl rfl ?_
  refine T_iload_n 1 (dk dt_startRun 1 rfl) rfl rfl ?_
  obtain ⟨x1, ex1⟩ : ∃ z, z = si x 0 68 l1 := ⟨_, rfl⟩
  have h := h x1 ex1
  refine T_putI 0 68 (dk dt_startRun 2 rfl) fl_608 mk_0 ml_0 (by decide) rfl ⟨rfl, rfl⟩ ?_
  rw [← ex1]
  refine T_aload_n 0 (dk dt_startRun 3 rfl) rfl rfl ?_
  refine T_iconst (v := 1) (dk dt_startRun 4 rfl) (by decide +kernel) ?_
  obtain ⟨x2, ex2⟩ : ∃ z, z = si x1 0 67 1 := ⟨_, rfl⟩
  have h := h x2 ex2
  refine T_putI 0 67 (dk dt_startRun 5 rfl) fl_569 mk_0 ml_0 (by decide) rfl ⟨rfl, rfl⟩ ?_
  rw [← ex2]
  refine T_aload_n 0 (dk dt_startRun 6 rfl) rfl rfl ?_
  refine T_iconst (v := 0) (dk dt_startRun 7 rfl) (by decide +kernel) ?_
  obtain ⟨x3, ex3⟩ : ∃ z, z = si x2 0 94 0 := ⟨_, rfl⟩
  have h := h x3 ex3
  refine T_putI 0 94 (dk dt_startRun 8 rfl) fl_644 mk_0 ml_0 (by decide) rfl ⟨rfl, rfl⟩ ?_
  rw [← ex3]
  refine T_aload_n 0 (dk dt_startRun 9 rfl) rfl rfl ?_
  refine T_iconst (v := 0) (dk dt_startRun 10 rfl) (by decide +kernel) ?_
  obtain ⟨x4, ex4⟩ : ∃ z, z = si x3 0 96 0 := ⟨_, rfl⟩
  have h := h x4 ex4
  refine T_putI 0 96 (dk dt_startRun 11 rfl) fl_647 mk_0 ml_0 (by decide) rfl ⟨rfl, rfl⟩ ?_
  rw [← ex4]
  refine T_iconst (v := 0) (dk dt_startRun 12 rfl) (by decide +kernel) ?_
  refine T_istore_n (lv2 := [(2, vi 0), (0, vr 0), (1, vi l1)]) (dk dt_startRun 13 rfl) rfl (by decide) rfl ?_
  exact T_sub [1, 0] rfl h
set_option maxRecDepth 100000 in
set_option maxHeartbeats 4000000 in
theorem sg_startRun_22 {G : mG} {d : Nat} {x : gd} {P : Option gv → gd → Prop} (l2 : Int32)
    (h : (((6 : Int32) ≤ l2 → MT G d z_setFirst 0 [(0, vr 0)] [] x (rv (fun x2 => MT G d z_findChoices 0 [(0, vr 0)] [] x2 (rv (fun x3 => P none x3))))) ∧ (¬ ((6 : Int32) ≤ l2) → vp_in l2 6 ∧ (∀ x5 : gd, x5 = si x 106 (l2 : Int32).toNatClampNeg (-1) → vp_in l2 6 ∧ (∀ x7 : gd, x7 = si x5 107 (l2 : Int32).toNatClampNeg (-1) → MT G (d + 1) z_startRun 22 [(0, vr 0), (2, vi (l2 + 1))] [] x7 P))))) :
    MT G (d + 1) z_startRun 22 [(0, vr 0), (2, vi l2)] [] x P := by
  refine T_iload_n 1 (dk dt_startRun 14 rfl) rfl rfl ?_
  refine T_bipush (v := 6) (dk dt_startRun 15 rfl) (by decide +kernel) ?_
  refine T_icmp_ge 48 (dk dt_startRun 16 rfl) (by decide) (fun c1 => ?_) (fun c1 => ?_)
  · have h := h.1 c1
    refine T_aload_n 0 (dk dt_startRun 29 rfl) rfl rfl ?_
    refine MT_callVv [] [] rfl (dk dt_startRun 30 rfl) cv_650 rfl rfl (Nat.le_of_ble_eq_true rfl) (Nat.le_of_ble_eq_true rfl) rfl rfl h (fun x2 h => ?_)
    refine T_aload_n 0 (dk dt_startRun 31 rfl) rfl rfl ?_
    refine MT_callVv [] [] rfl (dk dt_startRun 32 rfl) cv_653 rfl rfl (Nat.le_of_ble_eq_true rfl) (Nat.le_of_ble_eq_true rfl) rfl rfl h (fun x3 h => ?_)
    exact MT_vret (dk dt_startRun 33 rfl) rfl h
  · have h := h.2 c1
    refine T_aload_n 0 (dk dt_startRun 17 rfl) rfl rfl ?_
    refine T_getR 0 105 106 (dk dt_startRun 18 rfl) fl_221 mk_0 ml_0 (by decide) rfl rfl ?_
    refine T_iload_n 1 (dk dt_startRun 19 rfl) rfl rfl ?_
    refine T_iconst (v := (-1)) (dk dt_startRun 20 rfl) (by decide +kernel) ?_
    obtain ⟨h4, h⟩ := h
    obtain ⟨x5, ex5⟩ : ∃ z, z = si x 106 (l2 : Int32).toNatClampNeg (-1) := ⟨_, rfl⟩
    have h := h x5 ex5
    refine T_iast 106 6 (dk dt_startRun 21 rfl) mk_106 ml_106 h4 ?_
    rw [← ex5]
    refine T_aload_n 0 (dk dt_startRun 22 rfl) rfl rfl ?_
    refine T_getR 0 106 107 (dk dt_startRun 23 rfl) fl_224 mk_0 ml_0 (by decide) rfl rfl ?_
    refine T_iload_n 1 (dk dt_startRun 24 rfl) rfl rfl ?_
    refine T_iconst (v := (-1)) (dk dt_startRun 25 rfl) (by decide +kernel) ?_
    obtain ⟨h6, h⟩ := h
    obtain ⟨x7, ex7⟩ : ∃ z, z = si x5 107 (l2 : Int32).toNatClampNeg (-1) := ⟨_, rfl⟩
    have h := h x7 ex7
    refine T_iast 107 6 (dk dt_startRun 26 rfl) mk_107 ml_107 h6 ?_
    rw [← ex7]
    refine T_iinc (v := l2 + 1) (lv2 := [(2, vi (l2 + 1)), (0, vr 0)]) 1 (dk dt_startRun 27 rfl) rfl rfl (by decide) rfl ?_
    refine T_goto 22 (dk dt_startRun 28 rfl) (by decide) ?_
    exact T_sub [1, 0] rfl h
set_option maxRecDepth 100000 in
theorem dt_isSooner : dck cX12_isSooner [(0, .aload_n 0, 1), (1, .getfield 217, 3), (4, .bipush 7, 2), (6, .iload_n 2, 1), (7, .imul, 1), (8, .iload_n 1, 1), (9, .bipush 64, 2), (11, .idiv, 1), (12, .iadd, 1), (13, .laload, 1), (14, .iload_n 1, 1), (15, .bipush 64, 2), (17, .irem, 1), (18, .lshr, 1), (19, .lconst 1, 1), (20, .land, 1), (21, .lconst 1, 1), (22, .lcmp, 1), (23, .ifCond .ne 7, 3), (26, .iconst 1, 1), (27, .goto 4, 3), (30, .iconst 0, 1), (31, .ireturn, 1)] = true := by decide +kernel
set_option maxRecDepth 100000 in
set_option maxHeartbeats 4000000 in
theorem sg_isSooner_0 {G : mG} {d : Nat} {x : gd} {P : Option gv → gd → Prop} (l1 : Int32) (l2 : Int32)
    (h : ¬ (64 : Int32) = 0 ∧ vp_in ((7 * l2) + (l1 / 64)) 2800 ∧ ¬ (64 : Int32) = 0 ∧ ((¬ ((lg_cmp (((x.2 105 ((7 * l2) + (l1 / 64) : Int32).toNatClampNeg) >>> ((l1 - l1 / 64 * 64 : Int32).toInt64 &&& 63 : Int64)) &&& 1) 1) = (0 : Int32)) → P (some (vi 0)) x) ∧ ((lg_cmp (((x.2 105 ((7 * l2) + (l1 / 64) : Int32).toNatClampNeg) >>> ((l1 - l1 / 64 * 64 : Int32).toInt64 &&& 63 : Int64)) &&& 1) 1) = (0 : Int32) → P (some (vi 1)) x))) :
    MT G d z_isSooner 0 [(0, vr 0), (1, vi l1), (2, vi l2)] [] x P := by
  refine T_aload_n 0 (dk dt_isSooner 0 rfl) rfl rfl ?_
  refine T_getR 0 104 105 (dk dt_isSooner 1 rfl) fl_217 mk_0 ml_0 (by decide) rfl rfl ?_
  refine T_bipush (v := 7) (dk dt_isSooner 2 rfl) (by decide +kernel) ?_
  refine T_iload_n 2 (dk dt_isSooner 3 rfl) rfl rfl ?_
  refine T_imul (dk dt_isSooner 4 rfl) ?_
  refine T_iload_n 1 (dk dt_isSooner 5 rfl) rfl rfl ?_
  refine T_bipush (v := 64) (dk dt_isSooner 6 rfl) (by decide +kernel) ?_
  obtain ⟨h1, h⟩ := h
  refine T_idiv (dk dt_isSooner 7 rfl) h1 ?_
  refine T_iadd (dk dt_isSooner 8 rfl) ?_
  obtain ⟨h2, h⟩ := h
  refine T_lald 105 2800 (dk dt_isSooner 9 rfl) mk_105 ml_105 h2 ?_
  refine T_iload_n 1 (dk dt_isSooner 10 rfl) rfl rfl ?_
  refine T_bipush (v := 64) (dk dt_isSooner 11 rfl) (by decide +kernel) ?_
  obtain ⟨h3, h⟩ := h
  refine T_irem (dk dt_isSooner 12 rfl) h3 ?_
  refine T_lshr (dk dt_isSooner 13 rfl) ?_
  refine T_lconst (v := 1) (dk dt_isSooner 14 rfl) (by decide +kernel) ?_
  refine T_land (dk dt_isSooner 15 rfl) ?_
  refine T_lconst (v := 1) (dk dt_isSooner 16 rfl) (by decide +kernel) ?_
  refine T_lcmp (dk dt_isSooner 17 rfl) ?_
  refine T_if_ne 30 (dk dt_isSooner 18 rfl) (by decide) (fun c4 => ?_) (fun c4 => ?_)
  · have h := h.1 c4
    refine T_iconst (v := 0) (dk dt_isSooner 21 rfl) (by decide +kernel) ?_
    exact MT_iret (dk dt_isSooner 22 rfl) rfl rfl h
  · have h := h.2 c4
    refine T_iconst (v := 1) (dk dt_isSooner 19 rfl) (by decide +kernel) ?_
    refine T_goto 31 (dk dt_isSooner 20 rfl) (by decide) ?_
    exact MT_iret (dk dt_isSooner 22 rfl) rfl rfl h
