set_option maxRecDepth 100000 in
theorem dt_layS : dck cX12_layS [(0, .aload_n 0, 1), (1, .getfield 33, 3), (4, .iload_n 1, 1), (5, .iaload, 1), (6, .tableswitch 714 20 30 #[58, 194, 200, 303, 438, 511, 554, 560, 586, 615, 683], 58), (64, .iconst 0, 1), (65, .istore 4, 2), (67, .iload 4, 2), (69, .aload_n 0, 1), (70, .getfield 480, 3), (73, .if_icmp .ge 51, 3), (76, .aload_n 0, 1), (77, .getfield 94, 3), (80, .iload 4, 2), (82, .iaload, 1), (83, .iload_n 2, 1), (84, .if_icmp .ne 34, 3), (87, .aload_n 0, 1), (88, .aload_n 0, 1), (89, .getfield 88, 3), (92, .iload 4, 2), (94, .iaload, 1), (95, .aload_n 0, 1), (96, .getfield 36, 3), (99, .iload_n 1, 1), (100, .iaload, 1), (101, .invokevirtual 476, 3), (104, .ifCond .eq 14, 3), (107, .aload_n 0, 1), (108, .iconst 4, 1), (109, .aload_n 0, 1), (110, .getfield 36, 3), (113, .iload_n 1, 1), (114, .iaload, 1), (115, .invokevirtual 495, 3), (118, .iinc 4 1, 3), (121, .goto (-54), 3), (124, .aload_n 0, 1), (125, .getfield 533, 3), (128, .istore 4, 2), (130, .aload_n 0, 1), (131, .dup, 1), (132, .getfield 533, 3), (135, .iconst 1, 1), (136, .iadd, 1), (137, .putfield 533, 3), (140, .aload_n 0, 1), (141, .aload_n 0, 1), (142, .getfield 39, 3), (145, .iload_n 1, 1), (146, .iaload, 1), (147, .iload 4, 2), (149, .iload_n 1, 1), (150, .invokevirtual 536, 3), (153, .aload_n 0, 1), (154, .getfield 88, 3), (157, .aload_n 0, 1), (158, .getfield 480, 3), (161, .aload_n 0, 1), (162, .getfield 36, 3), (165, .iload_n 1, 1), (166, .iaload, 1), (167, .iastore, 1), (168, .aload_n 0, 1), (169, .getfield 91, 3), (172, .aload_n 0, 1), (173, .getfield 480, 3), (176, .iload 4, 2), (178, .iastore, 1), (179, .aload_n 0, 1), (180, .getfield 94, 3), (183, .aload_n 0, 1), (184, .getfield 480, 3), (187, .iload_n 2, 1), (188, .iastore, 1), (189, .aload_n 0, 1), (190, .dup, 1), (191, .getfield 480, 3), (194, .iconst 1, 1), (195, .iadd, 1), (196, .putfield 480, 3), (199, .return_, 1), (200, .aload_n 0, 1), (201, .iload_n 1, 1), (202, .invokevirtual 540, 3), (205, .return_, 1), (206, .aload_n 0, 1), (207, .aload_n 0, 1), (208, .getfield 36, 3), (211, .iload_n 1, 1), (212, .iaload, 1), (213, .iconst 1, 1), (214, .invokevirtual 520, 3), (217, .istore 5, 2), (219, .aload_n 0, 1), (220, .aload_n 0, 1), (221, .getfield 39, 3), (224, .iload_n 1, 1), (225, .iaload, 1), (226, .iconst 0, 1), (227, .invokevirtual 517, 3), (230, .istore 6, 2), (232, .aload_n 0, 1), (233, .aload_n 0, 1), (234, .getfield 42, 3), (237, .iload_n 1, 1), (238, .iaload, 1), (239, .iconst 0, 1), (240, .invokevirtual 517, 3), (243, .istore 7, 2), (245, .aload_n 0, 1), (246, .iconst 1, 1), (247, .iload 5, 2), (249, .iconst (-1), 1), (250, .if_icmp .ne 7, 3), (253, .iconst 0, 1), (254, .goto 10, 3), (257, .aload_n 0, 1), (258, .getfield 57, 3), (261, .iload 5, 2), (263, .iaload, 1), (264, .iload_n 1, 1), (265, .invokevirtual 523, 3), (268, .istore_n 3, 1), (269, .aload_n 0, 1), (270, .getfield 112, 3), (273, .iload_n 3, 1), (274, .iload 5, 2), (276, .iconst (-1), 1), (277, .if_icmp .ne 7, 3), (280, .iconst 0, 1), (281, .goto 10, 3), (284, .aload_n 0, 1), (285, .getfield 60, 3), (288, .iload 5, 2), (290, .iaload, 1), (291, .iastore, 1), (292, .aload_n 0, 1), (293, .getfield 115, 3), (296, .iload_n 3, 1), (297, .iload 6, 2), (299, .iastore, 1), (300, .aload_n 0, 1), (301, .getfield 118, 3), (304, .iload_n 3, 1), (305, .iload 7, 2), (307, .iastore, 1), (308, .return_, 1), (309, .aload_n 0, 1), (310, .aload_n 0, 1), (311, .getfield 36, 3), (314, .iload_n 1, 1), (315, .iaload, 1), (316, .iconst 0, 1), (317, .invokevirtual 517, 3), (320, .istore 8, 2), (322, .aload_n 0, 1), (323, .iconst 2, 1), (324, .iload_n 1, 1), (325, .invokevirtual 511, 3), (328, .istore 9, 2), (330, .aload_n 0, 1), (331, .getfield 118, 3), (334, .iload 9, 2), (336, .iload 8, 2), (338, .iastore, 1), (339, .aload_n 0, 1), (340, .aload_n 0, 1), (341, .getfield 39, 3), (344, .iload_n 1, 1), (345, .iaload, 1), (346, .invokevirtual 543, 3), (349, .aload_n 0, 1), (350, .getfield 42, 3), (353, .iload_n 1, 1), (354, .iaload, 1), (355, .iconst (-1), 1), (356, .if_icmp .eq 76, 3), (359, .aload_n 0, 1), (360, .iconst 3, 1), (361, .iconst (-1), 1), (362, .invokevirtual 511, 3), (365, .istore 10, 2), (367, .aload_n 0, 1), (368, .getfield 124, 3), (371, .iload 9, 2), (373, .aload_n 0, 1), (374, .getfield 502, 3), (377, .iastore, 1), (378, .aload_n 0, 1), (379, .getfield 33, 3), (382, .aload_n 0, 1), (383, .getfield 42, 3), (386, .iload_n 1, 1), (387, .iaload, 1), (388, .iaload, 1), (389, .bipush 32, 2), (391, .if_icmp .ne 16, 3), (394, .aload_n 0, 1), (395, .aload_n 0, 1), (396, .getfield 42, 3), (399, .iload_n 1, 1), (400, .iaload, 1), (401, .invokevirtual 543, 3), (404, .goto 14, 3), (407, .aload_n 0, 1), (408, .aload_n 0, 1), (409, .getfield 42, 3), (412, .iload_n 1, 1), (413, .iaload, 1), (414, .iconst (-1), 1), (415, .invokevirtual 530, 3), (418, .aload_n 0, 1), (419, .getfield 124, 3), (422, .iload 10, 2), (424, .aload_n 0, 1), (425, .getfield 502, 3), (428, .iastore, 1), (429, .goto 14, 3), (432, .aload_n 0, 1), (433, .getfield 124, 3), (436, .iload 9, 2), (438, .aload_n 0, 1), (439, .getfield 502, 3), (442, .iastore, 1), (443, .return_, 1), (444, .aload_n 0, 1), (445, .getfield 502, 3), (448, .istore 10, 2), (450, .aload_n 0, 1), (451, .aload_n 0, 1), (452, .getfield 36, 3), (455, .iload_n 1, 1), (456, .iaload, 1), (457, .iconst 0, 1), (458, .invokevirtual 517, 3), (461, .istore 11, 2), (463, .aload_n 0, 1), (464, .iconst 2, 1), (465, .iload_n 1, 1), (466, .invokevirtual 511, 3), (469, .istore 12, 2), (471, .aload_n 0, 1), (472, .getfield 118, 3), (475, .iload 12, 2), (477, .iload 11, 2), (479, .iastore, 1), (480, .aload_n 0, 1), (481, .aload_n 0, 1), (482, .getfield 39, 3), (485, .iload_n 1, 1), (486, .iaload, 1), (487, .invokevirtual 543, 3), (490, .aload_n 0, 1), (491, .iconst 3, 1), (492, .iconst (-1), 1), (493, .invokevirtual 511, 3), (496, .istore_n 3, 1), (497, .aload_n 0, 1), (498, .getfield 124, 3), (501, .iload_n 3, 1), (502, .iload 10, 2), (504, .iastore, 1), (505, .aload_n 0, 1), (506, .getfield 124, 3), (509, .iload 12, 2), (511, .aload_n 0, 1), (512, .getfield 502, 3), (515, .iastore, 1), (516, .return_, 1), (517, .aload_n 0, 1), (518, .aload_n 0, 1), (519, .getfield 36, 3), (522, .iload_n 1, 1), (523, .iaload, 1), (524, .iconst 1, 1), (525, .invokevirtual 546, 3), (528, .istore 13, 2), (530, .aload_n 0, 1), (531, .iconst 5, 1), (532, .iload 13, 2), (534, .iload_n 1, 1), (535, .invokevirtual 523, 3), (538, .istore_n 3, 1), (539, .aload_n 0, 1), (540, .aload_n 0, 1), (541, .getfield 39, 3), (544, .iload_n 1, 1), (545, .iaload, 1), (546, .invokevirtual 543, 3), (549, .aload_n 0, 1), (550, .bipush 6, 2), (552, .iload 13, 2), (554, .iload_n 1, 1), (555, .invokevirtual 523, 3), (558, .istore_n 3, 1), (559, .return_, 1), (560, .aload_n 0, 1), (561, .iload_n 1, 1), (562, .invokevirtual 549, 3), (565, .return_, 1), (566, .aload_n 0, 1), (567, .aload_n 0, 1), (568, .getfield 36, 3), (571, .iload_n 1, 1), (572, .iaload, 1), (573, .bipush 20, 2), (575, .if_icmp .ne 8, 3), (578, .bipush 11, 2), (580, .goto 5, 3), (583, .bipush 12, 2), (585, .iconst (-1), 1), (586, .iload_n 1, 1), (587, .invokevirtual 523, 3), (590, .istore_n 3, 1), (591, .return_, 1), (592, .aload_n 0, 1), (593, .aload_n 0, 1), (594, .getfield 36, 3), (597, .iload_n 1, 1), (598, .iaload, 1), (599, .iconst 0, 1), (600, .invokevirtual 517, 3), (603, .istore 14, 2), (605, .aload_n 0, 1), (606, .iconst 1, 1), (607, .iload_n 1, 1), (608, .invokevirtual 511, 3), (611, .istore_n 3, 1), (612, .aload_n 0, 1), (613, .getfield 118, 3), (616, .iload_n 3, 1), (617, .iload 14, 2), (619, .iastore, 1), (620, .return_, 1), (621, .aload_n 0, 1), (622, .getfield 20, 3), (625, .aload_n 0, 1), (626, .getfield 36, 3), (629, .iload_n 1, 1), (630, .iaload, 1), (631, .iaload, 1), (632, .iconst 3, 1), (633, .if_icmp .le 15, 3), (636, .aload_n 0, 1), (637, .bipush 6, 2), (639, .aload_n 0, 1), (640, .getfield 36, 3), (643, .iload_n 1, 1), (644, .iaload, 1), (645, .invokevirtual 495, 3), (648, .aload_n 0, 1), (649, .aload_n 0, 1), (650, .getfield 39, 3), (653, .iload_n 1, 1), (654, .iaload, 1), (655, .iconst 0, 1), (656, .invokevirtual 517, 3), (659, .istore 15, 2), (661, .aload_n 0, 1), (662, .bipush 13, 2), (664, .aload_n 0, 1), (665, .getfield 20, 3), (668, .aload_n 0, 1), (669, .getfield 36, 3), (672, .iload_n 1, 1), (673, .iaload, 1), (674, .iaload, 1), (675, .iload_n 1, 1), (676, .invokevirtual 523, 3), (679, .istore_n 3, 1), (680, .aload_n 0, 1), (681, .getfield 118, 3), (684, .iload_n 3, 1), (685, .iload 15, 2), (687, .iastore, 1), (688, .return_, 1), (689, .aload_n 0, 1), (690, .aload_n 0, 1), (691, .getfield 36, 3), (694, .iload_n 1, 1), (695, .iaload, 1), (696, .iconst 0, 1), (697, .invokevirtual 517, 3), (700, .istore 16, 2), (702, .aload_n 0, 1), (703, .bipush 14, 2), (705, .iconst (-1), 1), (706, .iload_n 1, 1), (707, .invokevirtual 523, 3), (710, .istore_n 3, 1), (711, .aload_n 0, 1), (712, .getfield 118, 3), (715, .iload_n 3, 1), (716, .iload 16, 2), (718, .iastore, 1), (719, .return_, 1), (720, .aload_n 0, 1), (721, .iconst 4, 1), (722, .iload_n 1, 1), (723, .invokevirtual 511, 3), (726, .istore_n 3, 1), (727, .return_, 1)] = true := by decide +kernel
set_option maxRecDepth 100000 in
set_option maxHeartbeats 4000000 in
theorem sg_layS_0 {G : mG} {d : Nat} {x : gd} {P : Option gv → gd → Prop} (l1 : Int32) (l2 : Int32)
    (h : vp_in l1 3000 ∧ ((((x.1 15 (l1 : Int32).toNatClampNeg) = 20) → MT G (d + 1) z_layS 67 [(0, vr 0), (1, vi l1), (2, vi l2), (4, vi 0)] [] x P) ∧ (((x.1 15 (l1 : Int32).toNatClampNeg) = 21) → MT G d z_laySet 0 [(0, vr 0), (1, vi l1)] [] x (rv (fun x4 => P none x4))) ∧ (((x.1 15 (l1 : Int32).toNatClampNeg) = 22) → vp_in l1 3000 ∧ MT G d z_cellOf 0 [(0, vr 0), (1, vi (x.1 16 (l1 : Int32).toNatClampNeg)), (2, vi 1)] [] x (ri (fun r8 x7 => vp_in l1 3000 ∧ MT G d z_workOf 0 [(0, vr 0), (1, vi (x7.1 17 (l1 : Int32).toNatClampNeg)), (2, vi 0)] [] x7 (ri (fun r11 x10 => vp_in l1 3000 ∧ MT G d z_workOf 0 [(0, vr 0), (1, vi (x10.1 18 (l1 : Int32).toNatClampNeg)), (2, vi 0)] [] x10 (ri (fun r14 x13 => ((¬ (r8 = (-1 : Int32)) → vp_in r8 40 ∧ MT G (d + 1) z_layS 264 [(0, vr 0), (1, vi l1), (5, vi r8), (6, vi r11), (7, vi r14)] [vi (x13.1 32 (r8 : Int32).toNatClampNeg), vi 1, vr 0] x13 P) ∧ (r8 = (-1 : Int32) → MT G (d + 1) z_layS 264 [(0, vr 0), (1, vi l1), (5, vi r8), (6, vi r11), (7, vi r14)] [vi 0, vi 1, vr 0] x13 P))))))))) ∧ (((x.1 15 (l1 : Int32).toNatClampNeg) = 23) → vp_in l1 3000 ∧ MT G d z_workOf 0 [(0, vr 0), (1, vi (x.1 16 (l1 : Int32).toNatClampNeg)), (2, vi 0)] [] x (ri (fun r20 x19 => MT G d z_layStep 0 [(0, vr 0), (1, vi 2), (2, vi l1)] [] x19 (ri (fun r22 x21 => vp_in r22 1500 ∧ (∀ x24 : gd, x24 = si x21 59 (r22 : Int32).toNatClampNeg r20 → vp_in l1 3000 ∧ MT G d z_layBlock 0 [(0, vr 0), (1, vi (x24.1 17 (l1 : Int32).toNatClampNeg))] [] x24 (rv (fun x26 => vp_in l1 3000 ∧ (((x26.1 18 (l1 : Int32).toNatClampNeg) = (-1 : Int32) → vp_in r22 1500 ∧ (∀ x30 : gd, x30 = si x26 61 (r22 : Int32).toNatClampNeg (x26.1 0 52) → P none x30)) ∧ (¬ ((x26.1 18 (l1 : Int32).toNatClampNeg) = (-1 : Int32)) → MT G d z_layStep 0 [(0, vr 0), (1, vi 3), (2, vi (-1))] [] x26 (ri (fun r32 x31 => vp_in r22 1500 ∧ (∀ x34 : gd, x34 = si x31 61 (r22 : Int32).toNatClampNeg (x31.1 0 52) → vp_in l1 3000 ∧ vp_in (x34.1 18 (l1 : Int32).toNatClampNeg) 3000 ∧ ((¬ ((x34.1 15 (x34.1 18 (l1 : Int32).toNatClampNeg : Int32).toNatClampNeg) = (32 : Int32)) → vp_in l1 3000 ∧ MT G d z_layS 0 [(0, vr 0), (1, vi (x34.1 18 (l1 : Int32).toNatClampNeg)), (2, vi (-1))] [] x34 (rv (fun x39 => vp_in r32 1500 ∧ (∀ x41 : gd, x41 = si x39 61 (r32 : Int32).toNatClampNeg (x39.1 0 52) → P none x41)))) ∧ ((x34.1 15 (x34.1 18 (l1 : Int32).toNatClampNeg : Int32).toNatClampNeg) = (32 : Int32) → vp_in l1 3000 ∧ MT G d z_layBlock 0 [(0, vr 0), (1, vi (x34.1 18 (l1 : Int32).toNatClampNeg))] [] x34 (rv (fun x43 => vp_in r32 1500 ∧ (∀ x45 : gd, x45 = si x43 61 (r32 : Int32).toNatClampNeg (x43.1 0 52) → P none x45)))))))))))))))))) ∧ (((x.1 15 (l1 : Int32).toNatClampNeg) = 24) → vp_in l1 3000 ∧ MT G d z_workOf 0 [(0, vr 0), (1, vi (x.1 16 (l1 : Int32).toNatClampNeg)), (2, vi 0)] [] x (ri (fun r49 x48 => MT G d z_layStep 0 [(0, vr 0), (1, vi 2), (2, vi l1)] [] x48 (ri (fun r51 x50 => vp_in r51 1500 ∧ (∀ x53 : gd, x53 = si x50 59 (r51 : Int32).toNatClampNeg r49 → vp_in l1 3000 ∧ MT G d z_layBlock 0 [(0, vr 0), (1, vi (x53.1 17 (l1 : Int32).toNatClampNeg))] [] x53 (rv (fun x55 => MT G d z_layStep 0 [(0, vr 0), (1, vi 3), (2, vi (-1))] [] x55 (ri (fun r57 x56 => vp_in r57 1500 ∧ (∀ x59 : gd, x59 = si x56 61 (r57 : Int32).toNatClampNeg (x.1 0 52) → vp_in r51 1500 ∧ (∀ x61 : gd, x61 = si x59 61 (r51 : Int32).toNatClampNeg (x59.1 0 52) → P none x61)))))))))))) ∧ (((x.1 15 (l1 : Int32).toNatClampNeg) = 25) → vp_in l1 3000 ∧ MT G d z_numberOf 0 [(0, vr 0), (1, vi (x.1 16 (l1 : Int32).toNatClampNeg)), (2, vi 1)] [] x (ri (fun r65 x64 => MT G d z_layAct 0 [(0, vr 0), (1, vi 5), (2, vi r65), (3, vi l1)] [] x64 (ri (fun r67 x66 => vp_in l1 3000 ∧ MT G d z_layBlock 0 [(0, vr 0), (1, vi (x66.1 17 (l1 : Int32).toNatClampNeg))] [] x66 (rv (fun x69 => MT G d z_layAct 0 [(0, vr 0), (1, vi 6), (2, vi r65), (3, vi l1)] [] x69 (ri (fun r71 x70 => P none x70))))))))) ∧ (((x.1 15 (l1 : Int32).toNatClampNeg) = 26) → MT G d z_layWord 0 [(0, vr 0), (1, vi l1)] [] x (rv (fun x73 => P none x73))) ∧ (((x.1 15 (l1 : Int32).toNatClampNeg) = 27) → vp_in l1 3000 ∧ ((¬ ((x.1 16 (l1 : Int32).toNatClampNeg) = (20 : Int32)) → MT G (d + 1) z_layS 585 [(0, vr 0), (1, vi l1)] [vi 12, vr 0] x P) ∧ ((x.1 16 (l1 : Int32).toNatClampNeg) = (20 : Int32) → MT G (d + 1) z_layS 585 [(0, vr 0), (1, vi l1)] [vi 11, vr 0] x P))) ∧ (((x.1 15 (l1 : Int32).toNatClampNeg) = 28) → vp_in l1 3000 ∧ MT G d z_workOf 0 [(0, vr 0), (1, vi (x.1 16 (l1 : Int32).toNatClampNeg)), (2, vi 0)] [] x (ri (fun r80 x79 => MT G d z_layStep 0 [(0, vr 0), (1, vi 1), (2, vi l1)] [] x79 (ri (fun r82 x81 => vp_in r82 1500 ∧ (∀ x84 : gd, x84 = si x81 59 (r82 : Int32).toNatClampNeg r80 → P none x84)))))) ∧ (((x.1 15 (l1 : Int32).toNatClampNeg) = 29) → vp_in l1 3000 ∧ vp_in (x.1 16 (l1 : Int32).toNatClampNeg) 710 ∧ (((x.1 7 (x.1 16 (l1 : Int32).toNatClampNeg : Int32).toNatClampNeg) ≤ (3 : Int32) → MT G (d + 1) z_layS 648 [(0, vr 0), (1, vi l1)] [] x P) ∧ (¬ ((x.1 7 (x.1 16 (l1 : Int32).toNatClampNeg : Int32).toNatClampNeg) ≤ (3 : Int32)) → vp_in l1 3000 ∧ MT G d z_wrongAt 0 [(0, vr 0), (1, vi 6), (2, vi (x.1 16 (l1 : Int32).toNatClampNeg))] [] x (rv (fun x90 => MT G (d + 1) z_layS 648 [(0, vr 0), (1, vi l1)] [] x90 P))))) ∧ (((x.1 15 (l1 : Int32).toNatClampNeg) = 30) → vp_in l1 3000 ∧ MT G d z_workOf 0 [(0, vr 0), (1, vi (x.1 16 (l1 : Int32).toNatClampNeg)), (2, vi 0)] [] x (ri (fun r94 x93 => MT G d z_layAct 0 [(0, vr 0), (1, vi 14), (2, vi (-1)), (3, vi l1)] [] x93 (ri (fun r96 x95 => vp_in r96 1500 ∧ (∀ x98 : gd, x98 = si x95 59 (r96 : Int32).toNatClampNeg r94 → P none x98)))))) ∧ ((∀ k ∈ [(20 : Int32), (21 : Int32), (22 : Int32), (23 : Int32), (24 : Int32), (25 : Int32), (26 : Int32), (27 : Int32), (28 : Int32), (29 : Int32), (30 : Int32)], ¬ (x.1 15 (l1 : Int32).toNatClampNeg) = k) → MT G d z_layStep 0 [(0, vr 0), (1, vi 4), (2, vi l1)] [] x (ri (fun r101 x100 => P none x100))))) :
    MT G (d + 1) z_layS 0 [(0, vr 0), (1, vi l1), (2, vi l2)] [] x P := by
  refine T_aload_n 0 (dk dt_layS 0 rfl) rfl rfl ?_
  refine T_getR 0 14 15 (dk dt_layS 1 rfl) fl_33 mk_0 ml_0 (by decide) rfl rfl ?_
  refine T_iload_n 1 (dk dt_layS 2 rfl) rfl rfl ?_
  obtain ⟨h1, h⟩ := h
  refine T_iald 15 3000 (dk dt_layS 3 rfl) mk_15 ml_15 h1 ?_
  by_cases c2 : (x.1 15 (l1 : Int32).toNatClampNeg) = 20
  · have h := h.1 c2
    refine T_table 58 64 (dk dt_layS 4 rfl) (by decide) (by rw [c2]; decide +kernel) (by decide) ?_
    refine T_iconst (v := 0) (dk dt_layS 5 rfl) (by decide +kernel) ?_
    refine T_istore (lv2 := [(4, vi 0), (0, vr 0), (1, vi l1), (2, vi l2)]) (dk dt_layS 6 rfl) (by decide) rfl ?_
    exact T_sub [1, 2, 3, 0] rfl h
  · have h := h.2
    by_cases c3 : (x.1 15 (l1 : Int32).toNatClampNeg) = 21
    · have h := h.1 c3
      refine T_table 194 200 (dk dt_layS 4 rfl) (by decide) (by rw [c3]; decide +kernel) (by decide) ?_
      refine T_aload_n 0 (dk dt_layS 82 rfl) rfl rfl ?_
      refine T_iload_n 1 (dk dt_layS 83 rfl) rfl rfl ?_
      refine MT_callVv [vi l1] [] rfl (dk dt_layS 84 rfl) cv_540 rfl rfl (Nat.le_of_ble_eq_true rfl) (Nat.le_of_ble_eq_true rfl) rfl rfl h (fun x4 h => ?_)
      exact MT_vret (dk dt_layS 85 rfl) rfl h
    · have h := h.2
      by_cases c5 : (x.1 15 (l1 : Int32).toNatClampNeg) = 22
      · have h := h.1 c5
        refine T_table 200 206 (dk dt_layS 4 rfl) (by decide) (by rw [c5]; decide +kernel) (by decide) ?_
        refine T_aload_n 0 (dk dt_layS 86 rfl) rfl rfl ?_
        refine T_aload_n 0 (dk dt_layS 87 rfl) rfl rfl ?_
        refine T_getR 0 15 16 (dk dt_layS 88 rfl) fl_36 mk_0 ml_0 (by decide) rfl rfl ?_
        refine T_iload_n 1 (dk dt_layS 89 rfl) rfl rfl ?_
        obtain ⟨h6, h⟩ := h
        refine T_iald 16 3000 (dk dt_layS 90 rfl) mk_16 ml_16 h6 ?_
        refine T_iconst (v := 1) (dk dt_layS 91 rfl) (by decide +kernel) ?_
        refine MT_callVi [vi (x.1 16 (l1 : Int32).toNatClampNeg), vi 1] [] rfl (dk dt_layS 92 rfl) cv_520 rfl rfl (Nat.le_of_ble_eq_true rfl) (Nat.le_of_ble_eq_true rfl) rfl rfl h (fun r8 x7 h => ?_)
        refine T_istore (lv2 := [(5, vi r8), (0, vr 0), (1, vi l1), (2, vi l2)]) (dk dt_layS 93 rfl) (by decide) rfl ?_
        refine T_aload_n 1 (dk dt_layS 94 rfl) rfl rfl ?_
        refine T_aload_n 1 (dk dt_layS 95 rfl) rfl rfl ?_
        refine T_getR 0 16 17 (dk dt_layS 96 rfl) fl_39 mk_0 ml_0 (by decide) rfl rfl ?_
        refine T_iload_n 2 (dk dt_layS 97 rfl) rfl rfl ?_
        obtain ⟨h9, h⟩ := h
        refine T_iald 17 3000 (dk dt_layS 98 rfl) mk_17 ml_17 h9 ?_
        refine T_iconst (v := 0) (dk dt_layS 99 rfl) (by decide +kernel) ?_
        refine MT_callVi [vi (x7.1 17 (l1 : Int32).toNatClampNeg), vi 0] [] rfl (dk dt_layS 100 rfl) cv_517 rfl rfl (Nat.le_of_ble_eq_true rfl) (Nat.le_of_ble_eq_true rfl) rfl rfl h (fun r11 x10 h => ?_)
        refine T_istore (lv2 := [(6, vi r11), (5, vi r8), (0, vr 0), (1, vi l1), (2, vi l2)]) (dk dt_layS 101 rfl) (by decide) rfl ?_
        refine T_aload_n 2 (dk dt_layS 102 rfl) rfl rfl ?_
        refine T_aload_n 2 (dk dt_layS 103 rfl) rfl rfl ?_
        refine T_getR 0 17 18 (dk dt_layS 104 rfl) fl_42 mk_0 ml_0 (by decide) rfl rfl ?_
        refine T_iload_n 3 (dk dt_layS 105 rfl) rfl rfl ?_
        obtain ⟨h12, h⟩ := h
        refine T_iald 18 3000 (dk dt_layS 106 rfl) mk_18 ml_18 h12 ?_
        refine T_iconst (v := 0) (dk dt_layS 107 rfl) (by decide +kernel) ?_
        refine MT_callVi [vi (x10.1 18 (l1 : Int32).toNatClampNeg), vi 0] [] rfl (dk dt_layS 108 rfl) cv_517 rfl rfl (Nat.le_of_ble_eq_true rfl) (Nat.le_of_ble_eq_true rfl) rfl rfl h (fun r14 x13 h => ?_)
        refine T_istore (lv2 := [(7, vi r14), (6, vi r11), (5, vi r8), (0, vr 0), (1, vi l1), (2, vi l2)]) (dk dt_layS 109 rfl) (by decide) rfl ?_
        refine T_aload_n 3 (dk dt_layS 110 rfl) rfl rfl ?_
        refine T_iconst (v := 1) (dk dt_layS 111 rfl) (by decide +kernel) ?_
        refine T_iload 2 (dk dt_layS 112 rfl) rfl ?_
        refine T_iconst (v := (-1)) (dk dt_layS 113 rfl) (by decide +kernel) ?_
        refine T_icmp_ne 257 (dk dt_layS 114 rfl) (by decide) (fun c15 => ?_) (fun c15 => ?_)
        · have h := h.1 c15
          refine T_aload_n 3 (dk dt_layS 117 rfl) rfl rfl ?_
          refine T_getR 0 31 32 (dk dt_layS 118 rfl) fl_57 mk_0 ml_0 (by decide) rfl rfl ?_
          refine T_iload 2 (dk dt_layS 119 rfl) rfl ?_
          obtain ⟨h16, h⟩ := h
          refine T_iald 32 40 (dk dt_layS 120 rfl) mk_32 ml_32 h16 ?_
          exact T_sub [3, 4, 2, 1, 0] rfl h
        · have h := h.2 c15
          refine T_iconst (v := 0) (dk dt_layS 115 rfl) (by decide +kernel) ?_
          refine T_goto 264 (dk dt_layS 116 rfl) (by decide) ?_
          exact T_sub [3, 4, 2, 1, 0] rfl h
      · have h := h.2
        by_cases c17 : (x.1 15 (l1 : Int32).toNatClampNeg) = 23
        · have h := h.1 c17
          refine T_table 303 309 (dk dt_layS 4 rfl) (by decide) (by rw [c17]; decide +kernel) (by decide) ?_
          refine T_aload_n 0 (dk dt_layS 148 rfl) rfl rfl ?_
          refine T_aload_n 0 (dk dt_layS 149 rfl) rfl rfl ?_
          refine T_getR 0 15 16 (dk dt_layS 150 rfl) fl_36 mk_0 ml_0 (by decide) rfl rfl ?_
          refine T_iload_n 1 (dk dt_layS 151 rfl) rfl rfl ?_
          obtain ⟨h18, h⟩ := h
          refine T_iald 16 3000 (dk dt_layS 152 rfl) mk_16 ml_16 h18 ?_
          refine T_iconst (v := 0) (dk dt_layS 153 rfl) (by decide +kernel) ?_
          refine MT_callVi [vi (x.1 16 (l1 : Int32).toNatClampNeg), vi 0] [] rfl (dk dt_layS 154 rfl) cv_517 rfl rfl (Nat.le_of_ble_eq_true rfl) (Nat.le_of_ble_eq_true rfl) rfl rfl h (fun r20 x19 h => ?_)
          refine T_istore (lv2 := [(8, vi r20), (0, vr 0), (1, vi l1), (2, vi l2)]) (dk dt_layS 155 rfl) (by decide) rfl ?_
          refine T_aload_n 1 (dk dt_layS 156 rfl) rfl rfl ?_
          refine T_iconst (v := 2) (dk dt_layS 157 rfl) (by decide +kernel) ?_
          refine T_iload_n 2 (dk dt_layS 158 rfl) rfl rfl ?_
          refine MT_callVi [vi 2, vi l1] [] rfl (dk dt_layS 159 rfl) cv_511 rfl rfl (Nat.le_of_ble_eq_true rfl) (Nat.le_of_ble_eq_true rfl) rfl rfl h (fun r22 x21 h => ?_)
          refine T_istore (lv2 := [(9, vi r22), (8, vi r20), (0, vr 0), (1, vi l1), (2, vi l2)]) (dk dt_layS 160 rfl) (by decide) rfl ?_
          refine T_aload_n 2 (dk dt_layS 161 rfl) rfl rfl ?_
          refine T_getR 0 58 59 (dk dt_layS 162 rfl) fl_118 mk_0 ml_0 (by decide) rfl rfl ?_
          refine T_iload 0 (dk dt_layS 163 rfl) rfl ?_
          refine T_iload 1 (dk dt_layS 164 rfl) rfl ?_
          obtain ⟨h23, h⟩ := h
          obtain ⟨x24, ex24⟩ : ∃ z, z = si x21 59 (r22 : Int32).toNatClampNeg r20 := ⟨_, rfl⟩
          have h := h x24 ex24
          refine T_iast 59 1500 (dk dt_layS 165 rfl) mk_59 ml_59 h23 ?_
          rw [← ex24]
          refine T_aload_n 2 (dk dt_layS 166 rfl) rfl rfl ?_
          refine T_aload_n 2 (dk dt_layS 167 rfl) rfl rfl ?_
          refine T_getR 0 16 17 (dk dt_layS 168 rfl) fl_39 mk_0 ml_0 (by decide) rfl rfl ?_
          refine T_iload_n 3 (dk dt_layS 169 rfl) rfl rfl ?_
          obtain ⟨h25, h⟩ := h
          refine T_iald 17 3000 (dk dt_layS 170 rfl) mk_17 ml_17 h25 ?_
          refine MT_callVv [vi (x24.1 17 (l1 : Int32).toNatClampNeg)] [] rfl (dk dt_layS 171 rfl) cv_543 rfl rfl (Nat.le_of_ble_eq_true rfl) (Nat.le_of_ble_eq_true rfl) rfl rfl h (fun x26 h => ?_)
          refine T_aload_n 2 (dk dt_layS 172 rfl) rfl rfl ?_
          refine T_getR 0 17 18 (dk dt_layS 173 rfl) fl_42 mk_0 ml_0 (by decide) rfl rfl ?_
          refine T_iload_n 3 (dk dt_layS 174 rfl) rfl rfl ?_
          obtain ⟨h27, h⟩ := h
          refine T_iald 18 3000 (dk dt_layS 175 rfl) mk_18 ml_18 h27 ?_
          refine T_iconst (v := (-1)) (dk dt_layS 176 rfl) (by decide +kernel) ?_
          refine T_icmp_eq 432 (dk dt_layS 177 rfl) (by decide) (fun c28 => ?_) (fun c28 => ?_)
          · have h := h.1 c28
            refine T_aload_n 2 (dk dt_layS 219 rfl) rfl rfl ?_
            refine T_getR 0 60 61 (dk dt_layS 220 rfl) fl_124 mk_0 ml_0 (by decide) rfl rfl ?_
            refine T_iload 0 (dk dt_layS 221 rfl) rfl ?_
            refine T_aload_n 2 (dk dt_layS 222 rfl) rfl rfl ?_
            refine T_getI 0 52 (dk dt_layS 223 rfl) fl_502 mk_0 ml_0 (by decide) rfl ?_
            obtain ⟨h29, h⟩ := h
            obtain ⟨x30, ex30⟩ : ∃ z, z = si x26 61 (r22 : Int32).toNatClampNeg (x26.1 0 52) := ⟨_, rfl⟩
            have h := h x30 ex30
            refine T_iast 61 1500 (dk dt_layS 224 rfl) mk_61 ml_61 h29 ?_
            rw [← ex30]
            exact MT_vret (dk dt_layS 225 rfl) rfl h
          · have h := h.2 c28
            refine T_aload_n 2 (dk dt_layS 178 rfl) rfl rfl ?_
            refine T_iconst (v := 3) (dk dt_layS 179 rfl) (by decide +kernel) ?_
            refine T_iconst (v := (-1)) (dk dt_layS 180 rfl) (by decide +kernel) ?_
            refine MT_callVi [vi 3, vi (-1)] [] rfl (dk dt_layS 181 rfl) cv_511 rfl rfl (Nat.le_of_ble_eq_true rfl) (Nat.le_of_ble_eq_true rfl) rfl rfl h (fun r32 x31 h => ?_)
            refine T_istore (lv2 := [(10, vi r32), (9, vi r22), (8, vi r20), (0, vr 0), (1, vi l1), (2, vi l2)]) (dk dt_layS 182 rfl) (by decide) rfl ?_
            refine T_aload_n 3 (dk dt_layS 183 rfl) rfl rfl ?_
            refine T_getR 0 60 61 (dk dt_layS 184 rfl) fl_124 mk_0 ml_0 (by decide) rfl rfl ?_
            refine T_iload 1 (dk dt_layS 185 rfl) rfl ?_
            refine T_aload_n 3 (dk dt_layS 186 rfl) rfl rfl ?_
            refine T_getI 0 52 (dk dt_layS 187 rfl) fl_502 mk_0 ml_0 (by decide) rfl ?_
            obtain ⟨h33, h⟩ := h
            obtain ⟨x34, ex34⟩ : ∃ z, z = si x31 61 (r22 : Int32).toNatClampNeg (x31.1 0 52) := ⟨_, rfl⟩
            have h := h x34 ex34
            refine T_iast 61 1500 (dk dt_layS 188 rfl) mk_61 ml_61 h33 ?_
            rw [← ex34]
            refine T_aload_n 3 (dk dt_layS 189 rfl) rfl rfl ?_
            refine T_getR 0 14 15 (dk dt_layS 190 rfl) fl_33 mk_0 ml_0 (by decide) rfl rfl ?_
            refine T_aload_n 3 (dk dt_layS 191 rfl) rfl rfl ?_
            refine T_getR 0 17 18 (dk dt_layS 192 rfl) fl_42 mk_0 ml_0 (by decide) rfl rfl ?_
            refine T_iload_n 4 (dk dt_layS 193 rfl) rfl rfl ?_
            obtain ⟨h35, h⟩ := h
            refine T_iald 18 3000 (dk dt_layS 194 rfl) mk_18 ml_18 h35 ?_
            obtain ⟨h36, h⟩ := h
            refine T_iald 15 3000 (dk dt_layS 195 rfl) mk_15 ml_15 h36 ?_
            refine T_bipush (v := 32) (dk dt_layS 196 rfl) (by decide +kernel) ?_
            refine T_icmp_ne 407 (dk dt_layS 197 rfl) (by decide) (fun c37 => ?_) (fun c37 => ?_)
            · have h := h.1 c37
              refine T_aload_n 3 (dk dt_layS 205 rfl) rfl rfl ?_
              refine T_aload_n 3 (dk dt_layS 206 rfl) rfl rfl ?_
              refine T_getR 0 17 18 (dk dt_layS 207 rfl) fl_42 mk_0 ml_0 (by decide) rfl rfl ?_
              refine T_iload_n 4 (dk dt_layS 208 rfl) rfl rfl ?_
              obtain ⟨h38, h⟩ := h
              refine T_iald 18 3000 (dk dt_layS 209 rfl) mk_18 ml_18 h38 ?_
              refine T_iconst (v := (-1)) (dk dt_layS 210 rfl) (by decide +kernel) ?_
              refine MT_callVv [vi (x34.1 18 (l1 : Int32).toNatClampNeg), vi (-1)] [] rfl (dk dt_layS 211 rfl) cv_530 rfl rfl (Nat.le_of_ble_eq_true rfl) (Nat.le_of_ble_eq_true rfl) rfl rfl h (fun x39 h => ?_)
              refine T_aload_n 3 (dk dt_layS 212 rfl) rfl rfl ?_
              refine T_getR 0 60 61 (dk dt_layS 213 rfl) fl_124 mk_0 ml_0 (by decide) rfl rfl ?_
              refine T_iload 0 (dk dt_layS 214 rfl) rfl ?_
              refine T_aload_n 3 (dk dt_layS 215 rfl) rfl rfl ?_
              refine T_getI 0 52 (dk dt_layS 216 rfl) fl_502 mk_0 ml_0 (by decide) rfl ?_
              obtain ⟨h40, h⟩ := h
              obtain ⟨x41, ex41⟩ : ∃ z, z = si x39 61 (r32 : Int32).toNatClampNeg (x39.1 0 52) := ⟨_, rfl⟩
              have h := h x41 ex41
              refine T_iast 61 1500 (dk dt_layS 217 rfl) mk_61 ml_61 h40 ?_
              rw [← ex41]
              refine T_goto 443 (dk dt_layS 218 rfl) (by decide) ?_
              exact MT_vret (dk dt_layS 225 rfl) rfl h
            · have h := h.2 c37
              refine T_aload_n 3 (dk dt_layS 198 rfl) rfl rfl ?_
              refine T_aload_n 3 (dk dt_layS 199 rfl) rfl rfl ?_
              refine T_getR 0 17 18 (dk dt_layS 200 rfl) fl_42 mk_0 ml_0 (by decide) rfl rfl ?_
              refine T_iload_n 4 (dk dt_layS 201 rfl) rfl rfl ?_
              obtain ⟨h42, h⟩ := h
              refine T_iald 18 3000 (dk dt_layS 202 rfl) mk_18 ml_18 h42 ?_
              refine MT_callVv [vi (x34.1 18 (l1 : Int32).toNatClampNeg)] [] rfl (dk dt_layS 203 rfl) cv_543 rfl rfl (Nat.le_of_ble_eq_true rfl) (Nat.le_of_ble_eq_true rfl) rfl rfl h (fun x43 h => ?_)
              refine T_goto 418 (dk dt_layS 204 rfl) (by decide) ?_
              refine T_aload_n 3 (dk dt_layS 212 rfl) rfl rfl ?_
              refine T_getR 0 60 61 (dk dt_layS 213 rfl) fl_124 mk_0 ml_0 (by decide) rfl rfl ?_
              refine T_iload 0 (dk dt_layS 214 rfl) rfl ?_
              refine T_aload_n 3 (dk dt_layS 215 rfl) rfl rfl ?_
              refine T_getI 0 52 (dk dt_layS 216 rfl) fl_502 mk_0 ml_0 (by decide) rfl ?_
              obtain ⟨h44, h⟩ := h
              obtain ⟨x45, ex45⟩ : ∃ z, z = si x43 61 (r32 : Int32).toNatClampNeg (x43.1 0 52) := ⟨_, rfl⟩
              have h := h x45 ex45
              refine T_iast 61 1500 (dk dt_layS 217 rfl) mk_61 ml_61 h44 ?_
              rw [← ex45]
              refine T_goto 443 (dk dt_layS 218 rfl) (by decide) ?_
              exact MT_vret (dk dt_layS 225 rfl) rfl h
        · have h := h.2
          by_cases c46 : (x.1 15 (l1 : Int32).toNatClampNeg) = 24
          · have h := h.1 c46
            refine T_table 438 444 (dk dt_layS 4 rfl) (by decide) (by rw [c46]; decide +kernel) (by decide) ?_
            refine T_aload_n 0 (dk dt_layS 226 rfl) rfl rfl ?_
            refine T_getI 0 52 (dk dt_layS 227 rfl) fl_502 mk_0 ml_0 (by decide) rfl ?_
            refine T_istore (lv2 := [(10, vi (x.1 0 52)), (0, vr 0), (1, vi l1), (2, vi l2)]) (dk dt_layS 228 rfl) (by decide) rfl ?_
            refine T_aload_n 1 (dk dt_layS 229 rfl) rfl rfl ?_
            refine T_aload_n 1 (dk dt_layS 230 rfl) rfl rfl ?_
            refine T_getR 0 15 16 (dk dt_layS 231 rfl) fl_36 mk_0 ml_0 (by decide) rfl rfl ?_
            refine T_iload_n 2 (dk dt_layS 232 rfl) rfl rfl ?_
            obtain ⟨h47, h⟩ := h
            refine T_iald 16 3000 (dk dt_layS 233 rfl) mk_16 ml_16 h47 ?_
            refine T_iconst (v := 0) (dk dt_layS 234 rfl) (by decide +kernel) ?_
            refine MT_callVi [vi (x.1 16 (l1 : Int32).toNatClampNeg), vi 0] [] rfl (dk dt_layS 235 rfl) cv_517 rfl rfl (Nat.le_of_ble_eq_true rfl) (Nat.le_of_ble_eq_true rfl) rfl rfl h (fun r49 x48 h => ?_)
            refine T_istore (lv2 := [(11, vi r49), (10, vi (x.1 0 52)), (0, vr 0), (1, vi l1), (2, vi l2)]) (dk dt_layS 236 rfl) (by decide) rfl ?_
            refine T_aload_n 2 (dk dt_layS 237 rfl) rfl rfl ?_
            refine T_iconst (v := 2) (dk dt_layS 238 rfl) (by decide +kernel) ?_
            refine T_iload_n 3 (dk dt_layS 239 rfl) rfl rfl ?_
            refine MT_callVi [vi 2, vi l1] [] rfl (dk dt_layS 240 rfl) cv_511 rfl rfl (Nat.le_of_ble_eq_true rfl) (Nat.le_of_ble_eq_true rfl) rfl rfl h (fun r51 x50 h => ?_)
            refine T_istore (lv2 := [(12, vi r51), (11, vi r49), (10, vi (x.1 0 52)), (0, vr 0), (1, vi l1), (2, vi l2)]) (dk dt_layS 241 rfl) (by decide) rfl ?_
            refine T_aload_n 3 (dk dt_layS 242 rfl) rfl rfl ?_
            refine T_getR 0 58 59 (dk dt_layS 243 rfl) fl_118 mk_0 ml_0 (by decide) rfl rfl ?_
            refine T_iload 0 (dk dt_layS 244 rfl) rfl ?_
            refine T_iload 1 (dk dt_layS 245 rfl) rfl ?_
            obtain ⟨h52, h⟩ := h
            obtain ⟨x53, ex53⟩ : ∃ z, z = si x50 59 (r51 : Int32).toNatClampNeg r49 := ⟨_, rfl⟩
            have h := h x53 ex53
            refine T_iast 59 1500 (dk dt_layS 246 rfl) mk_59 ml_59 h52 ?_
            rw [← ex53]
            refine T_aload_n 3 (dk dt_layS 247 rfl) rfl rfl ?_
            refine T_aload_n 3 (dk dt_layS 248 rfl) rfl rfl ?_
            refine T_getR 0 16 17 (dk dt_layS 249 rfl) fl_39 mk_0 ml_0 (by decide) rfl rfl ?_
            refine T_iload_n 4 (dk dt_layS 250 rfl) rfl rfl ?_
            obtain ⟨h54, h⟩ := h
            refine T_iald 17 3000 (dk dt_layS 251 rfl) mk_17 ml_17 h54 ?_
            refine MT_callVv [vi (x53.1 17 (l1 : Int32).toNatClampNeg)] [] rfl (dk dt_layS 252 rfl) cv_543 rfl rfl (Nat.le_of_ble_eq_true rfl) (Nat.le_of_ble_eq_true rfl) rfl rfl h (fun x55 h => ?_)
            refine T_aload_n 3 (dk dt_layS 253 rfl) rfl rfl ?_
            refine T_iconst (v := 3) (dk dt_layS 254 rfl) (by decide +kernel) ?_
            refine T_iconst (v := (-1)) (dk dt_layS 255 rfl) (by decide +kernel) ?_
            refine MT_callVi [vi 3, vi (-1)] [] rfl (dk dt_layS 256 rfl) cv_511 rfl rfl (Nat.le_of_ble_eq_true rfl) (Nat.le_of_ble_eq_true rfl) rfl rfl h (fun r57 x56 h => ?_)
            refine T_istore_n (lv2 := [(3, vi r57), (12, vi r51), (11, vi r49), (10, vi (x.1 0 52)), (0, vr 0), (1, vi l1), (2, vi l2)]) (dk dt_layS 257 rfl) rfl (by decide) rfl ?_
            refine T_aload_n 4 (dk dt_layS 258 rfl) rfl rfl ?_
            refine T_getR 0 60 61 (dk dt_layS 259 rfl) fl_124 mk_0 ml_0 (by decide) rfl rfl ?_
            refine T_iload_n 0 (dk dt_layS 260 rfl) rfl rfl ?_
            refine T_iload 3 (dk dt_layS 261 rfl) rfl ?_
            obtain ⟨h58, h⟩ := h
            obtain ⟨x59, ex59⟩ : ∃ z, z = si x56 61 (r57 : Int32).toNatClampNeg (x.1 0 52) := ⟨_, rfl⟩
            have h := h x59 ex59
            refine T_iast 61 1500 (dk dt_layS 262 rfl) mk_61 ml_61 h58 ?_
            rw [← ex59]
            refine T_aload_n 4 (dk dt_layS 263 rfl) rfl rfl ?_
            refine T_getR 0 60 61 (dk dt_layS 264 rfl) fl_124 mk_0 ml_0 (by decide) rfl rfl ?_
            refine T_iload 1 (dk dt_layS 265 rfl) rfl ?_
            refine T_aload_n 4 (dk dt_layS 266 rfl) rfl rfl ?_
            refine T_getI 0 52 (dk dt_layS 267 rfl) fl_502 mk_0 ml_0 (by decide) rfl ?_
            obtain ⟨h60, h⟩ := h
            obtain ⟨x61, ex61⟩ : ∃ z, z = si x59 61 (r51 : Int32).toNatClampNeg (x59.1 0 52) := ⟨_, rfl⟩
            have h := h x61 ex61
            refine T_iast 61 1500 (dk dt_layS 268 rfl) mk_61 ml_61 h60 ?_
            rw [← ex61]
            exact MT_vret (dk dt_layS 269 rfl) rfl h
          · have h := h.2
            by_cases c62 : (x.1 15 (l1 : Int32).toNatClampNeg) = 25
            · have h := h.1 c62
              refine T_table 511 517 (dk dt_layS 4 rfl) (by decide) (by rw [c62]; decide +kernel) (by decide) ?_
              refine T_aload_n 0 (dk dt_layS 270 rfl) rfl rfl ?_
              refine T_aload_n 0 (dk dt_layS 271 rfl) rfl rfl ?_
              refine T_getR 0 15 16 (dk dt_layS 272 rfl) fl_36 mk_0 ml_0 (by decide) rfl rfl ?_
              refine T_iload_n 1 (dk dt_layS 273 rfl) rfl rfl ?_
              obtain ⟨h63, h⟩ := h
              refine T_iald 16 3000 (dk dt_layS 274 rfl) mk_16 ml_16 h63 ?_
              refine T_iconst (v := 1) (dk dt_layS 275 rfl) (by decide +kernel) ?_
              refine MT_callVi [vi (x.1 16 (l1 : Int32).toNatClampNeg), vi 1] [] rfl (dk dt_layS 276 rfl) cv_546 rfl rfl (Nat.le_of_ble_eq_true rfl) (Nat.le_of_ble_eq_true rfl) rfl rfl h (fun r65 x64 h => ?_)
              refine T_istore (lv2 := [(13, vi r65), (0, vr 0), (1, vi l1), (2, vi l2)]) (dk dt_layS 277 rfl) (by decide) rfl ?_
              refine T_aload_n 1 (dk dt_layS 278 rfl) rfl rfl ?_
              refine T_iconst (v := 5) (dk dt_layS 279 rfl) (by decide +kernel) ?_
              refine T_iload 0 (dk dt_layS 280 rfl) rfl ?_
              refine T_iload_n 2 (dk dt_layS 281 rfl) rfl rfl ?_
              refine MT_callVi [vi 5, vi r65, vi l1] [] rfl (dk dt_layS 282 rfl) cv_523 rfl rfl (Nat.le_of_ble_eq_true rfl) (Nat.le_of_ble_eq_true rfl) rfl rfl h (fun r67 x66 h => ?_)
              refine T_istore_n (lv2 := [(3, vi r67), (13, vi r65), (0, vr 0), (1, vi l1), (2, vi l2)]) (dk dt_layS 283 rfl) rfl (by decide) rfl ?_
              refine T_aload_n 2 (dk dt_layS 284 rfl) rfl rfl ?_
              refine T_aload_n 2 (dk dt_layS 285 rfl) rfl rfl ?_
              refine T_getR 0 16 17 (dk dt_layS 286 rfl) fl_39 mk_0 ml_0 (by decide) rfl rfl ?_
              refine T_iload_n 3 (dk dt_layS 287 rfl) rfl rfl ?_
              obtain ⟨h68, h⟩ := h
              refine T_iald 17 3000 (dk dt_layS 288 rfl) mk_17 ml_17 h68 ?_
              refine MT_callVv [vi (x66.1 17 (l1 : Int32).toNatClampNeg)] [] rfl (dk dt_layS 289 rfl) cv_543 rfl rfl (Nat.le_of_ble_eq_true rfl) (Nat.le_of_ble_eq_true rfl) rfl rfl h (fun x69 h => ?_)
              refine T_aload_n 2 (dk dt_layS 290 rfl) rfl rfl ?_
              refine T_bipush (v := 6) (dk dt_layS 291 rfl) (by decide +kernel) ?_
              refine T_iload 1 (dk dt_layS 292 rfl) rfl ?_
              refine T_iload_n 3 (dk dt_layS 293 rfl) rfl rfl ?_
              refine MT_callVi [vi 6, vi r65, vi l1] [] rfl (dk dt_layS 294 rfl) cv_523 rfl rfl (Nat.le_of_ble_eq_true rfl) (Nat.le_of_ble_eq_true rfl) rfl rfl h (fun r71 x70 h => ?_)
              refine T_istore_n (lv2 := [(3, vi r71), (13, vi r65), (0, vr 0), (1, vi l1), (2, vi l2)]) (dk dt_layS 295 rfl) rfl (by decide) rfl ?_
              exact MT_vret (dk dt_layS 296 rfl) rfl h
            · have h := h.2
              by_cases c72 : (x.1 15 (l1 : Int32).toNatClampNeg) = 26
              · have h := h.1 c72
                refine T_table 554 560 (dk dt_layS 4 rfl) (by decide) (by rw [c72]; decide +kernel) (by decide) ?_
                refine T_aload_n 0 (dk dt_layS 297 rfl) rfl rfl ?_
                refine T_iload_n 1 (dk dt_layS 298 rfl) rfl rfl ?_
                refine MT_callVv [vi l1] [] rfl (dk dt_layS 299 rfl) cv_549 rfl rfl (Nat.le_of_ble_eq_true rfl) (Nat.le_of_ble_eq_true rfl) rfl rfl h (fun x73 h => ?_)
                exact MT_vret (dk dt_layS 300 rfl) rfl h
              · have h := h.2
                by_cases c74 : (x.1 15 (l1 : Int32).toNatClampNeg) = 27
                · have h := h.1 c74
                  refine T_table 560 566 (dk dt_layS 4 rfl) (by decide) (by rw [c74]; decide +kernel) (by decide) ?_
                  refine T_aload_n 0 (dk dt_layS 301 rfl) rfl rfl ?_
                  refine T_aload_n 0 (dk dt_layS 302 rfl) rfl rfl ?_
                  refine T_getR 0 15 16 (dk dt_layS 303 rfl) fl_36 mk_0 ml_0 (by decide) rfl rfl ?_
                  refine T_iload_n 1 (dk dt_layS 304 rfl) rfl rfl ?_
                  obtain ⟨h75, h⟩ := h
                  refine T_iald 16 3000 (dk dt_layS 305 rfl) mk_16 ml_16 h75 ?_
                  refine T_bipush (v := 20) (dk dt_layS 306 rfl) (by decide +kernel) ?_
                  refine T_icmp_ne 583 (dk dt_layS 307 rfl) (by decide) (fun c76 => ?_) (fun c76 => ?_)
                  · have h := h.1 c76
                    refine T_bipush (v := 12) (dk dt_layS 310 rfl) (by decide +kernel) ?_
                    exact T_sub [0, 1] rfl h
                  · have h := h.2 c76
                    refine T_bipush (v := 11) (dk dt_layS 308 rfl) (by decide +kernel) ?_
                    refine T_goto 585 (dk dt_layS 309 rfl) (by decide) ?_
                    exact T_sub [0, 1] rfl h
                · have h := h.2
                  by_cases c77 : (x.1 15 (l1 : Int32).toNatClampNeg) = 28
                  · have h := h.1 c77
                    refine T_table 586 592 (dk dt_layS 4 rfl) (by decide) (by rw [c77]; decide +kernel) (by decide) ?_
                    refine T_aload_n 0 (dk dt_layS 316 rfl) rfl rfl ?_
                    refine T_aload_n 0 (dk dt_layS 317 rfl) rfl rfl ?_
                    refine T_getR 0 15 16 (dk dt_layS 318 rfl) fl_36 mk_0 ml_0 (by decide) rfl rfl ?_
                    refine T_iload_n 1 (dk dt_layS 319 rfl) rfl rfl ?_
                    obtain ⟨h78, h⟩ := h
                    refine T_iald 16 3000 (dk dt_layS 320 rfl) mk_16 ml_16 h78 ?_
                    refine T_iconst (v := 0) (dk dt_layS 321 rfl) (by decide +kernel) ?_
                    refine MT_callVi [vi (x.1 16 (l1 : Int32).toNatClampNeg), vi 0] [] rfl (dk dt_layS 322 rfl) cv_517 rfl rfl (Nat.le_of_ble_eq_true rfl) (Nat.le_of_ble_eq_true rfl) rfl rfl h (fun r80 x79 h => ?_)
                    refine T_istore (lv2 := [(14, vi r80), (0, vr 0), (1, vi l1), (2, vi l2)]) (dk dt_layS 323 rfl) (by decide) rfl ?_
                    refine T_aload_n 1 (dk dt_layS 324 rfl) rfl rfl ?_
                    refine T_iconst (v := 1) (dk dt_layS 325 rfl) (by decide +kernel) ?_
                    refine T_iload_n 2 (dk dt_layS 326 rfl) rfl rfl ?_
                    refine MT_callVi [vi 1, vi l1] [] rfl (dk dt_layS 327 rfl) cv_511 rfl rfl (Nat.le_of_ble_eq_true rfl) (Nat.le_of_ble_eq_true rfl) rfl rfl h (fun r82 x81 h => ?_)
                    refine T_istore_n (lv2 := [(3, vi r82), (14, vi r80), (0, vr 0), (1, vi l1), (2, vi l2)]) (dk dt_layS 328 rfl) rfl (by decide) rfl ?_
                    refine T_aload_n 2 (dk dt_layS 329 rfl) rfl rfl ?_
                    refine T_getR 0 58 59 (dk dt_layS 330 rfl) fl_118 mk_0 ml_0 (by decide) rfl rfl ?_
                    refine T_iload_n 0 (dk dt_layS 331 rfl) rfl rfl ?_
                    refine T_iload 1 (dk dt_layS 332 rfl) rfl ?_
                    obtain ⟨h83, h⟩ := h
                    obtain ⟨x84, ex84⟩ : ∃ z, z = si x81 59 (r82 : Int32).toNatClampNeg r80 := ⟨_, rfl⟩
                    have h := h x84 ex84
                    refine T_iast 59 1500 (dk dt_layS 333 rfl) mk_59 ml_59 h83 ?_
                    rw [← ex84]
                    exact MT_vret (dk dt_layS 334 rfl) rfl h
                  · have h := h.2
                    by_cases c85 : (x.1 15 (l1 : Int32).toNatClampNeg) = 29
                    · have h := h.1 c85
                      refine T_table 615 621 (dk dt_layS 4 rfl) (by decide) (by rw [c85]; decide +kernel) (by decide) ?_
                      refine T_aload_n 0 (dk dt_layS 335 rfl) rfl rfl ?_
                      refine T_getR 0 6 7 (dk dt_layS 336 rfl) fl_20 mk_0 ml_0 (by decide) rfl rfl ?_
                      refine T_aload_n 0 (dk dt_layS 337 rfl) rfl rfl ?_
                      refine T_getR 0 15 16 (dk dt_layS 338 rfl) fl_36 mk_0 ml_0 (by decide) rfl rfl ?_
                      refine T_iload_n 1 (dk dt_layS 339 rfl) rfl rfl ?_
                      obtain ⟨h86, h⟩ := h
                      refine T_iald 16 3000 (dk dt_layS 340 rfl) mk_16 ml_16 h86 ?_
                      obtain ⟨h87, h⟩ := h
                      refine T_iald 7 710 (dk dt_layS 341 rfl) mk_7 ml_7 h87 ?_
                      refine T_iconst (v := 3) (dk dt_layS 342 rfl) (by decide +kernel) ?_
                      refine T_icmp_le 648 (dk dt_layS 343 rfl) (by decide) (fun c88 => ?_) (fun c88 => ?_)
                      · have h := h.1 c88
                        exact T_sub [0, 1] rfl h
                      · have h := h.2 c88
                        refine T_aload_n 0 (dk dt_layS 344 rfl) rfl rfl ?_
                        refine T_bipush (v := 6) (dk dt_layS 345 rfl) (by decide +kernel) ?_
                        refine T_aload_n 0 (dk dt_layS 346 rfl) rfl rfl ?_
                        refine T_getR 0 15 16 (dk dt_layS 347 rfl) fl_36 mk_0 ml_0 (by decide) rfl rfl ?_
                        refine T_iload_n 1 (dk dt_layS 348 rfl) rfl rfl ?_
                        obtain ⟨h89, h⟩ := h
                        refine T_iald 16 3000 (dk dt_layS 349 rfl) mk_16 ml_16 h89 ?_
                        refine MT_callVv [vi 6, vi (x.1 16 (l1 : Int32).toNatClampNeg)] [] rfl (dk dt_layS 350 rfl) cv_495 rfl rfl (Nat.le_of_ble_eq_true rfl) (Nat.le_of_ble_eq_true rfl) rfl rfl h (fun x90 h => ?_)
                        exact T_sub [0, 1] rfl h
                    · have h := h.2
                      by_cases c91 : (x.1 15 (l1 : Int32).toNatClampNeg) = 30
                      · have h := h.1 c91
                        refine T_table 683 689 (dk dt_layS 4 rfl) (by decide) (by rw [c91]; decide +kernel) (by decide) ?_
                        refine T_aload_n 0 (dk dt_layS 377 rfl) rfl rfl ?_
                        refine T_aload_n 0 (dk dt_layS 378 rfl) rfl rfl ?_
                        refine T_getR 0 15 16 (dk dt_layS 379 rfl) fl_36 mk_0 ml_0 (by decide) rfl rfl ?_
                        refine T_iload_n 1 (dk dt_layS 380 rfl) rfl rfl ?_
                        obtain ⟨h92, h⟩ := h
                        refine T_iald 16 3000 (dk dt_layS 381 rfl) mk_16 ml_16 h92 ?_
                        refine T_iconst (v := 0) (dk dt_layS 382 rfl) (by decide +kernel) ?_
                        refine MT_callVi [vi (x.1 16 (l1 : Int32).toNatClampNeg), vi 0] [] rfl (dk dt_layS 383 rfl) cv_517 rfl rfl (Nat.le_of_ble_eq_true rfl) (Nat.le_of_ble_eq_true rfl) rfl rfl h (fun r94 x93 h => ?_)
                        refine T_istore (lv2 := [(16, vi r94), (0, vr 0), (1, vi l1), (2, vi l2)]) (dk dt_layS 384 rfl) (by decide) rfl ?_
                        refine T_aload_n 1 (dk dt_layS 385 rfl) rfl rfl ?_
                        refine T_bipush (v := 14) (dk dt_layS 386 rfl) (by decide +kernel) ?_
                        refine T_iconst (v := (-1)) (dk dt_layS 387 rfl) (by decide +kernel) ?_
                        refine T_iload_n 2 (dk dt_layS 388 rfl) rfl rfl ?_
                        refine MT_callVi [vi 14, vi (-1), vi l1] [] rfl (dk dt_layS 389 rfl) cv_523 rfl rfl (Nat.le_of_ble_eq_true rfl) (Nat.le_of_ble_eq_true rfl) rfl rfl h (fun r96 x95 h => ?_)
                        refine T_istore_n (lv2 := [(3, vi r96), (16, vi r94), (0, vr 0), (1, vi l1), (2, vi l2)]) (dk dt_layS 390 rfl) rfl (by decide) rfl ?_
                        refine T_aload_n 2 (dk dt_layS 391 rfl) rfl rfl ?_
                        refine T_getR 0 58 59 (dk dt_layS 392 rfl) fl_118 mk_0 ml_0 (by decide) rfl rfl ?_
                        refine T_iload_n 0 (dk dt_layS 393 rfl) rfl rfl ?_
                        refine T_iload 1 (dk dt_layS 394 rfl) rfl ?_
                        obtain ⟨h97, h⟩ := h
                        obtain ⟨x98, ex98⟩ : ∃ z, z = si x95 59 (r96 : Int32).toNatClampNeg r94 := ⟨_, rfl⟩
                        have h := h x98 ex98
                        refine T_iast 59 1500 (dk dt_layS 395 rfl) mk_59 ml_59 h97 ?_
                        rw [← ex98]
                        exact MT_vret (dk dt_layS 396 rfl) rfl h
                      · have h := h.2
                        have n99 : ∀ k ∈ [(20 : Int32), (21 : Int32), (22 : Int32), (23 : Int32), (24 : Int32), (25 : Int32), (26 : Int32), (27 : Int32), (28 : Int32), (29 : Int32), (30 : Int32)], ¬ (x.1 15 (l1 : Int32).toNatClampNeg) = k := (gno c2 (gno c3 (gno c5 (gno c17 (gno c46 (gno c62 (gno c72 (gno c74 (gno c77 (gno c85 (gno c91 gno0)))))))))))
                        have h := h n99
                        refine T_table 714 720 (dk dt_layS 4 rfl) (by decide) (gtab_d [(20 : Int32), (21 : Int32), (22 : Int32), (23 : Int32), (24 : Int32), (25 : Int32), (26 : Int32), (27 : Int32), (28 : Int32), (29 : Int32), (30 : Int32)] (by decide +kernel) n99) (by decide) ?_
                        refine T_aload_n 0 (dk dt_layS 397 rfl) rfl rfl ?_
                        refine T_iconst (v := 4) (dk dt_layS 398 rfl) (by decide +kernel) ?_
                        refine T_iload_n 1 (dk dt_layS 399 rfl) rfl rfl ?_
                        refine MT_callVi [vi 4, vi l1] [] rfl (dk dt_layS 400 rfl) cv_511 rfl rfl (Nat.le_of_ble_eq_true rfl) (Nat.le_of_ble_eq_true rfl) rfl rfl h (fun r101 x100 h => ?_)
                        refine T_istore_n (lv2 := [(3, vi r101), (0, vr 0), (1, vi l1), (2, vi l2)]) (dk dt_layS 401 rfl) rfl (by decide) rfl ?_
                        exact MT_vret (dk dt_layS 402 rfl) rfl h
set_option maxRecDepth 100000 in
set_option maxHeartbeats 4000000 in
theorem sg_layS_67 {G : mG} {d : Nat} {x : gd} {P : Option gv → gd → Prop} (l1 : Int32) (l2 : Int32) (l4 : Int32)
    (h : (((x.1 0 43) ≤ l4 → (∀ x2 : gd, x2 = si x 0 48 ((x.1 0 48) + 1) → vp_in l1 3000 ∧ MT G d z_layR 0 [(0, vr 0), (1, vi (x2.1 17 (l1 : Int32).toNatClampNeg)), (2, vi (x.1 0 48)), (3, vi l1)] [] x2 (rv (fun x4 => vp_in l1 3000 ∧ vp_in (x4.1 0 43) 40 ∧ (∀ x7 : gd, x7 = si x4 45 (x4.1 0 43 : Int32).toNatClampNeg (x4.1 16 (l1 : Int32).toNatClampNeg) → vp_in (x7.1 0 43) 40 ∧ (∀ x9 : gd, x9 = si x7 46 (x7.1 0 43 : Int32).toNatClampNeg (x.1 0 48) → vp_in (x9.1 0 43) 40 ∧ (∀ x11 : gd, x11 = si x9 47 (x9.1 0 43 : Int32).toNatClampNeg l2 → (∀ x12 : gd, x12 = si x11 0 43 ((x11.1 0 43) + 1) → P none x12)))))))) ∧ (¬ ((x.1 0 43) ≤ l4) → vp_in l4 40 ∧ ((¬ ((x.1 47 (l4 : Int32).toNatClampNeg) = l2) → MT G (d + 1) z_layS 67 [(0, vr 0), (1, vi l1), (2, vi l2), (4, vi (l4 + 1))] [] x P) ∧ ((x.1 47 (l4 : Int32).toNatClampNeg) = l2 → vp_in l4 40 ∧ vp_in l1 3000 ∧ MT G d z_isSameName 0 [(0, vr 0), (1, vi (x.1 45 (l4 : Int32).toNatClampNeg)), (2, vi (x.1 16 (l1 : Int32).toNatClampNeg))] [] x (ri (fun r18 x17 => ((r18 = (0 : Int32) → MT G (d + 1) z_layS 67 [(0, vr 0), (1, vi l1), (2, vi l2), (4, vi (l4 + 1))] [] x17 P) ∧ (¬ (r18 = (0 : Int32)) → vp_in l1 3000 ∧ MT G d z_wrongAt 0 [(0, vr 0), (1, vi 4), (2, vi (x17.1 16 (l1 : Int32).toNatClampNeg))] [] x17 (rv (fun x21 => MT G (d + 1) z_layS 67 [(0, vr 0), (1, vi l1), (2, vi l2), (4, vi (l4 + 1))] [] x21 P))))))))))) :
    MT G (d + 1) z_layS 67 [(0, vr 0), (1, vi l1), (2, vi l2), (4, vi l4)] [] x P := by
  refine T_iload 3 (dk dt_layS 7 rfl) rfl ?_
  refine T_aload_n 0 (dk dt_layS 8 rfl) rfl rfl ?_
  refine T_getI 0 43 (dk dt_layS 9 rfl) fl_480 mk_0 ml_0 (by decide) rfl ?_
  refine T_icmp_ge 124 (dk dt_layS 10 rfl) (by decide) (fun c1 => ?_) (fun c1 => ?_)
  · have h := h.1 c1
    refine T_aload_n 0 (dk dt_layS 37 rfl) rfl rfl ?_
    refine T_getI 0 48 (dk dt_layS 38 rfl) fl_533 mk_0 ml_0 (by decide) rfl ?_
    refine T_istore (lv2 := [(4, vi (x.1 0 48)), (0, vr 0), (1, vi l1), (2, vi l2)]) (dk dt_layS 39 rfl) (by decide) rfl ?_
    refine T_aload_n 1 (dk dt_layS 40 rfl) rfl rfl ?_
    refine T_dup (dk dt_layS 41 rfl) rfl ?_
    refine T_getI 0 48 (dk dt_layS 42 rfl) fl_533 mk_0 ml_0 (by decide) rfl ?_
    refine T_iconst (v := 1) (dk dt_layS 43 rfl) (by decide +kernel) ?_
    refine T_iadd (dk dt_layS 44 rfl) ?_
    obtain ⟨x2, ex2⟩ : ∃ z, z = si x 0 48 ((x.1 0 48) + 1) := ⟨_, rfl⟩
    have h := h x2 ex2
    refine T_putI 0 48 (dk dt_layS 45 rfl) fl_533 mk_0 ml_0 (by decide) rfl ⟨rfl, rfl⟩ ?_
    rw [← ex2]
    refine T_aload_n 1 (dk dt_layS 46 rfl) rfl rfl ?_
    refine T_aload_n 1 (dk dt_layS 47 rfl) rfl rfl ?_
    refine T_getR 0 16 17 (dk dt_layS 48 rfl) fl_39 mk_0 ml_0 (by decide) rfl rfl ?_
    refine T_iload_n 2 (dk dt_layS 49 rfl) rfl rfl ?_
    obtain ⟨h3, h⟩ := h
    refine T_iald 17 3000 (dk dt_layS 50 rfl) mk_17 ml_17 h3 ?_
    refine T_iload 0 (dk dt_layS 51 rfl) rfl ?_
    refine T_iload_n 2 (dk dt_layS 52 rfl) rfl rfl ?_
    refine MT_callVv [vi (x2.1 17 (l1 : Int32).toNatClampNeg), vi (x.1 0 48), vi l1] [] rfl (dk dt_layS 53 rfl) cv_536 rfl rfl (Nat.le_of_ble_eq_true rfl) (Nat.le_of_ble_eq_true rfl) rfl rfl h (fun x4 h => ?_)
    refine T_aload_n 1 (dk dt_layS 54 rfl) rfl rfl ?_
    refine T_getR 0 44 45 (dk dt_layS 55 rfl) fl_88 mk_0 ml_0 (by decide) rfl rfl ?_
    refine T_aload_n 1 (dk dt_layS 56 rfl) rfl rfl ?_
    refine T_getI 0 43 (dk dt_layS 57 rfl) fl_480 mk_0 ml_0 (by decide) rfl ?_
    refine T_aload_n 1 (dk dt_layS 58 rfl) rfl rfl ?_
    refine T_getR 0 15 16 (dk dt_layS 59 rfl) fl_36 mk_0 ml_0 (by decide) rfl rfl ?_
    refine T_iload_n 2 (dk dt_layS 60 rfl) rfl rfl ?_
    obtain ⟨h5, h⟩ := h
    refine T_iald 16 3000 (dk dt_layS 61 rfl) mk_16 ml_16 h5 ?_
    obtain ⟨h6, h⟩ := h
    obtain ⟨x7, ex7⟩ : ∃ z, z = si x4 45 (x4.1 0 43 : Int32).toNatClampNeg (x4.1 16 (l1 : Int32).toNatClampNeg) := ⟨_, rfl⟩
    have h := h x7 ex7
    refine T_iast 45 40 (dk dt_layS 62 rfl) mk_45 ml_45 h6 ?_
    rw [← ex7]
    refine T_aload_n 1 (dk dt_layS 63 rfl) rfl rfl ?_
    refine T_getR 0 45 46 (dk dt_layS 64 rfl) fl_91 mk_0 ml_0 (by decide) rfl rfl ?_
    refine T_aload_n 1 (dk dt_layS 65 rfl) rfl rfl ?_
    refine T_getI 0 43 (dk dt_layS 66 rfl) fl_480 mk_0 ml_0 (by decide) rfl ?_
    refine T_iload 0 (dk dt_layS 67 rfl) rfl ?_
    obtain ⟨h8, h⟩ := h
    obtain ⟨x9, ex9⟩ : ∃ z, z = si x7 46 (x7.1 0 43 : Int32).toNatClampNeg (x.1 0 48) := ⟨_, rfl⟩
    have h := h x9 ex9
    refine T_iast 46 40 (dk dt_layS 68 rfl) mk_46 ml_46 h8 ?_
    rw [← ex9]
    refine T_aload_n 1 (dk dt_layS 69 rfl) rfl rfl ?_
    refine T_getR 0 46 47 (dk dt_layS 70 rfl) fl_94 mk_0 ml_0 (by decide) rfl rfl ?_
    refine T_aload_n 1 (dk dt_layS 71 rfl) rfl rfl ?_
    refine T_getI 0 43 (dk dt_layS 72 rfl) fl_480 mk_0 ml_0 (by decide) rfl ?_
    refine T_iload_n 3 (dk dt_layS 73 rfl) rfl rfl ?_
    obtain ⟨h10, h⟩ := h
    obtain ⟨x11, ex11⟩ : ∃ z, z = si x9 47 (x9.1 0 43 : Int32).toNatClampNeg l2 := ⟨_, rfl⟩
    have h := h x11 ex11
    refine T_iast 47 40 (dk dt_layS 74 rfl) mk_47 ml_47 h10 ?_
    rw [← ex11]
    refine T_aload_n 1 (dk dt_layS 75 rfl) rfl rfl ?_
    refine T_dup (dk dt_layS 76 rfl) rfl ?_
    refine T_getI 0 43 (dk dt_layS 77 rfl) fl_480 mk_0 ml_0 (by decide) rfl ?_
    refine T_iconst (v := 1) (dk dt_layS 78 rfl) (by decide +kernel) ?_
    refine T_iadd (dk dt_layS 79 rfl) ?_
    obtain ⟨x12, ex12⟩ : ∃ z, z = si x11 0 43 ((x11.1 0 43) + 1) := ⟨_, rfl⟩
    have h := h x12 ex12
    refine T_putI 0 43 (dk dt_layS 80 rfl) fl_480 mk_0 ml_0 (by decide) rfl ⟨rfl, rfl⟩ ?_
    rw [← ex12]
    exact MT_vret (dk dt_layS 81 rfl) rfl h
  · have h := h.2 c1
    refine T_aload_n 0 (dk dt_layS 11 rfl) rfl rfl ?_
    refine T_getR 0 46 47 (dk dt_layS 12 rfl) fl_94 mk_0 ml_0 (by decide) rfl rfl ?_
    refine T_iload 3 (dk dt_layS 13 rfl) rfl ?_
    obtain ⟨h13, h⟩ := h
    refine T_iald 47 40 (dk dt_layS 14 rfl) mk_47 ml_47 h13 ?_
    refine T_iload_n 2 (dk dt_layS 15 rfl) rfl rfl ?_
    refine T_icmp_ne 118 (dk dt_layS 16 rfl) (by decide) (fun c14 => ?_) (fun c14 => ?_)
    · have h := h.1 c14
      refine T_iinc (v := l4 + 1) (lv2 := [(4, vi (l4 + 1)), (0, vr 0), (1, vi l1), (2, vi l2)]) 3 (dk dt_layS 35 rfl) rfl rfl (by decide) rfl ?_
      refine T_goto 67 (dk dt_layS 36 rfl) (by decide) ?_
      exact T_sub [1, 2, 3, 0] rfl h
    · have h := h.2 c14
      refine T_aload_n 0 (dk dt_layS 17 rfl) rfl rfl ?_
      refine T_aload_n 0 (dk dt_layS 18 rfl) rfl rfl ?_
      refine T_getR 0 44 45 (dk dt_layS 19 rfl) fl_88 mk_0 ml_0 (by decide) rfl rfl ?_
      refine T_iload 3 (dk dt_layS 20 rfl) rfl ?_
      obtain ⟨h15, h⟩ := h
      refine T_iald 45 40 (dk dt_layS 21 rfl) mk_45 ml_45 h15 ?_
      refine T_aload_n 0 (dk dt_layS 22 rfl) rfl rfl ?_
      refine T_getR 0 15 16 (dk dt_layS 23 rfl) fl_36 mk_0 ml_0 (by decide) rfl rfl ?_
      refine T_iload_n 1 (dk dt_layS 24 rfl) rfl rfl ?_
      obtain ⟨h16, h⟩ := h
      refine T_iald 16 3000 (dk dt_layS 25 rfl) mk_16 ml_16 h16 ?_
      refine MT_callVi [vi (x.1 45 (l4 : Int32).toNatClampNeg), vi (x.1 16 (l1 : Int32).toNatClampNeg)] [] rfl (dk dt_layS 26 rfl) cv_476 rfl rfl (Nat.le_of_ble_eq_true rfl) (Nat.le_of_ble_eq_true rfl) rfl rfl h (fun r18 x17 h => ?_)
      refine T_if_eq 118 (dk dt_layS 27 rfl) (by decide) (fun c19 => ?_) (fun c19 => ?_)
      · have h := h.1 c19
        refine T_iinc (v := l4 + 1) (lv2 := [(4, vi (l4 + 1)), (0, vr 0), (1, vi l1), (2, vi l2)]) 3 (dk dt_layS 35 rfl) rfl rfl (by decide) rfl ?_
        refine T_goto 67 (dk dt_layS 36 rfl) (by decide) ?_
        exact T_sub [1, 2, 3, 0] rfl h
      · have h := h.2 c19
        refine T_aload_n 0 (dk dt_layS 28 rfl) rfl rfl ?_
        refine T_iconst (v := 4) (dk dt_layS 29 rfl) (by decide +kernel) ?_
        refine T_aload_n 0 (dk dt_layS 30 rfl) rfl rfl ?_
        refine T_getR 0 15 16 (dk dt_layS 31 rfl) fl_36 mk_0 ml_0 (by decide) rfl rfl ?_
        refine T_iload_n 1 (dk dt_layS 32 rfl) rfl rfl ?_
        obtain ⟨h20, h⟩ := h
        refine T_iald 16 3000 (dk dt_layS 33 rfl) mk_16 ml_16 h20 ?_
        refine MT_callVv [vi 4, vi (x17.1 16 (l1 : Int32).toNatClampNeg)] [] rfl (dk dt_layS 34 rfl) cv_495 rfl rfl (Nat.le_of_ble_eq_true rfl) (Nat.le_of_ble_eq_true rfl) rfl rfl h (fun x21 h => ?_)
        refine T_iinc (v := l4 + 1) (lv2 := [(4, vi (l4 + 1)), (0, vr 0), (1, vi l1), (2, vi l2)]) 3 (dk dt_layS 35 rfl) rfl rfl (by decide) rfl ?_
        refine T_goto 67 (dk dt_layS 36 rfl) (by decide) ?_
        exact T_sub [1, 2, 3, 0] rfl h
set_option maxRecDepth 100000 in
set_option maxHeartbeats 4000000 in
theorem sg_layS_264 {G : mG} {d : Nat} {x : gd} {P : Option gv → gd → Prop} (l1 : Int32) (l5 : Int32) (l6 : Int32) (l7 : Int32) (s0 : Int32) (s1 : Int32)
    (h : MT G d z_layAct 0 [(0, vr 0), (1, vi s1), (2, vi s0), (3, vi l1)] [] x (ri (fun r2 x1 => ((¬ (l5 = (-1 : Int32)) → vp_in l5 40 ∧ MT G (d + 1) z_layS 291 [(0, vr 0), (3, vi r2), (6, vi l6), (7, vi l7)] [vi (x1.1 33 (l5 : Int32).toNatClampNeg), vi r2, vr 57] x1 P) ∧ (l5 = (-1 : Int32) → MT G (d + 1) z_layS 291 [(0, vr 0), (3, vi r2), (6, vi l6), (7, vi l7)] [vi 0, vi r2, vr 57] x1 P))))) :
    MT G (d + 1) z_layS 264 [(0, vr 0), (1, vi l1), (5, vi l5), (6, vi l6), (7, vi l7)] [vi s0, vi s1, vr 0] x P := by
  refine T_iload_n 1 (dk dt_layS 121 rfl) rfl rfl ?_
  refine MT_callVi [vi s1, vi s0, vi l1] [] rfl (dk dt_layS 122 rfl) cv_523 rfl rfl (Nat.le_of_ble_eq_true rfl) (Nat.le_of_ble_eq_true rfl) rfl rfl h (fun r2 x1 h => ?_)
  refine T_istore_n (lv2 := [(3, vi r2), (0, vr 0), (1, vi l1), (5, vi l5), (6, vi l6), (7, vi l7)]) (dk dt_layS 123 rfl) rfl (by decide) rfl ?_
  refine T_aload_n 1 (dk dt_layS 124 rfl) rfl rfl ?_
  refine T_getR 0 56 57 (dk dt_layS 125 rfl) fl_112 mk_0 ml_0 (by decide) rfl rfl ?_
  refine T_iload_n 0 (dk dt_layS 126 rfl) rfl rfl ?_
  refine T_iload 3 (dk dt_layS 127 rfl) rfl ?_
  refine T_iconst (v := (-1)) (dk dt_layS 128 rfl) (by decide +kernel) ?_
  refine T_icmp_ne 284 (dk dt_layS 129 rfl) (by decide) (fun c3 => ?_) (fun c3 => ?_)
  · have h := h.1 c3
    refine T_aload_n 1 (dk dt_layS 132 rfl) rfl rfl ?_
    refine T_getR 0 32 33 (dk dt_layS 133 rfl) fl_60 mk_0 ml_0 (by decide) rfl rfl ?_
    refine T_iload 3 (dk dt_layS 134 rfl) rfl ?_
    obtain ⟨h4, h⟩ := h
    refine T_iald 33 40 (dk dt_layS 135 rfl) mk_33 ml_33 h4 ?_
    exact T_sub [1, 0, 4, 5] rfl h
  · have h := h.2 c3
    refine T_iconst (v := 0) (dk dt_layS 130 rfl) (by decide +kernel) ?_
    refine T_goto 291 (dk dt_layS 131 rfl) (by decide) ?_
    exact T_sub [1, 0, 4, 5] rfl h
set_option maxRecDepth 100000 in
set_option maxHeartbeats 4000000 in
theorem sg_layS_291 {G : mG} {d : Nat} {x : gd} {P : Option gv → gd → Prop} (l3 : Int32) (l6 : Int32) (l7 : Int32) (s0 : Int32) (s1 : Int32)
    (h : vp_in s1 1500 ∧ (∀ x2 : gd, x2 = si x 57 (s1 : Int32).toNatClampNeg s0 → vp_in l3 1500 ∧ (∀ x4 : gd, x4 = si x2 58 (l3 : Int32).toNatClampNeg l6 → vp_in l3 1500 ∧ (∀ x6 : gd, x6 = si x4 59 (l3 : Int32).toNatClampNeg l7 → P none x6)))) :
    MT G (d + 1) z_layS 291 [(0, vr 0), (3, vi l3), (6, vi l6), (7, vi l7)] [vi s0, vi s1, vr 57] x P := by
  obtain ⟨h1, h⟩ := h
  obtain ⟨x2, ex2⟩ : ∃ z, z = si x 57 (s1 : Int32).toNatClampNeg s0 := ⟨_, rfl⟩
  have h := h x2 ex2
  refine T_iast 57 1500 (dk dt_layS 136 rfl) mk_57 ml_57 h1 ?_
  rw [← ex2]
  refine T_aload_n 0 (dk dt_layS 137 rfl) rfl rfl ?_
  refine T_getR 0 57 58 (dk dt_layS 138 rfl) fl_115 mk_0 ml_0 (by decide) rfl rfl ?_
  refine T_iload_n 1 (dk dt_layS 139 rfl) rfl rfl ?_
  refine T_iload 2 (dk dt_layS 140 rfl) rfl ?_
  obtain ⟨h3, h⟩ := h
  obtain ⟨x4, ex4⟩ : ∃ z, z = si x2 58 (l3 : Int32).toNatClampNeg l6 := ⟨_, rfl⟩
  have h := h x4 ex4
  refine T_iast 58 1500 (dk dt_layS 141 rfl) mk_58 ml_58 h3 ?_
  rw [← ex4]
  refine T_aload_n 0 (dk dt_layS 142 rfl) rfl rfl ?_
  refine T_getR 0 58 59 (dk dt_layS 143 rfl) fl_118 mk_0 ml_0 (by decide) rfl rfl ?_
  refine T_iload_n 1 (dk dt_layS 144 rfl) rfl rfl ?_
  refine T_iload 3 (dk dt_layS 145 rfl) rfl ?_
  obtain ⟨h5, h⟩ := h
  obtain ⟨x6, ex6⟩ : ∃ z, z = si x4 59 (l3 : Int32).toNatClampNeg l7 := ⟨_, rfl⟩
  have h := h x6 ex6
  refine T_iast 59 1500 (dk dt_layS 146 rfl) mk_59 ml_59 h5 ?_
  rw [← ex6]
  exact MT_vret (dk dt_layS 147 rfl) rfl h
set_option maxRecDepth 100000 in
set_option maxHeartbeats 4000000 in
theorem sg_layS_585 {G : mG} {d : Nat} {x : gd} {P : Option gv → gd → Prop} (l1 : Int32) (s0 : Int32)
    (h : MT G d z_layAct 0 [(0, vr 0), (1, vi s0), (2, vi (-1)), (3, vi l1)] [] x (ri (fun r2 x1 => P none x1))) :
    MT G (d + 1) z_layS 585 [(0, vr 0), (1, vi l1)] [vi s0, vr 0] x P := by
  refine T_iconst (v := (-1)) (dk dt_layS 311 rfl) (by decide +kernel) ?_
  refine T_iload_n 1 (dk dt_layS 312 rfl) rfl rfl ?_
  refine MT_callVi [vi s0, vi (-1), vi l1] [] rfl (dk dt_layS 313 rfl) cv_523 rfl rfl (Nat.le_of_ble_eq_true rfl) (Nat.le_of_ble_eq_true rfl) rfl rfl h (fun r2 x1 h => ?_)
  refine T_istore_n (lv2 := [(3, vi r2), (0, vr 0), (1, vi l1)]) (dk dt_layS 314 rfl) rfl (by decide) rfl ?_
  exact MT_vret (dk dt_layS 315 rfl) rfl h
set_option maxRecDepth 100000 in
set_option maxHeartbeats 4000000 in
theorem sg_layS_648 {G : mG} {d : Nat} {x : gd} {P : Option gv → gd → Prop} (l1 : Int32)
    (h : vp_in l1 3000 ∧ MT G d z_workOf 0 [(0, vr 0), (1, vi (x.1 17 (l1 : Int32).toNatClampNeg)), (2, vi 0)] [] x (ri (fun r3 x2 => vp_in l1 3000 ∧ vp_in (x2.1 16 (l1 : Int32).toNatClampNeg) 710 ∧ MT G d z_layAct 0 [(0, vr 0), (1, vi 13), (2, vi (x2.1 7 (x2.1 16 (l1 : Int32).toNatClampNeg : Int32).toNatClampNeg)), (3, vi l1)] [] x2 (ri (fun r7 x6 => vp_in r7 1500 ∧ (∀ x9 : gd, x9 = si x6 59 (r7 : Int32).toNatClampNeg r3 → P none x9)))))) :
    MT G (d + 1) z_layS 648 [(0, vr 0), (1, vi l1)] [] x P := by
  refine T_aload_n 0 (dk dt_layS 351 rfl) rfl rfl ?_
  refine T_aload_n 0 (dk dt_layS 352 rfl) rfl rfl ?_
  refine T_getR 0 16 17 (dk dt_layS 353 rfl) fl_39 mk_0 ml_0 (by decide) rfl rfl ?_
  refine T_iload_n 1 (dk dt_layS 354 rfl) rfl rfl ?_
  obtain ⟨h1, h⟩ := h
  refine T_iald 17 3000 (dk dt_layS 355 rfl) mk_17 ml_17 h1 ?_
  refine T_iconst (v := 0) (dk dt_layS 356 rfl) (by decide +kernel) ?_
  refine MT_callVi [vi (x.1 17 (l1 : Int32).toNatClampNeg), vi 0] [] rfl (dk dt_layS 357 rfl) cv_517 rfl rfl (Nat.le_of_ble_eq_true rfl) (Nat.le_of_ble_eq_true rfl) rfl rfl h (fun r3 x2 h => ?_)
  refine T_istore (lv2 := [(15, vi r3), (0, vr 0), (1, vi l1)]) (dk dt_layS 358 rfl) (by decide) rfl ?_
  refine T_aload_n 1 (dk dt_layS 359 rfl) rfl rfl ?_
  refine T_bipush (v := 13) (dk dt_layS 360 rfl) (by decide +kernel) ?_
  refine T_aload_n 1 (dk dt_layS 361 rfl) rfl rfl ?_
  refine T_getR 0 6 7 (dk dt_layS 362 rfl) fl_20 mk_0 ml_0 (by decide) rfl rfl ?_
  refine T_aload_n 1 (dk dt_layS 363 rfl) rfl rfl ?_
  refine T_getR 0 15 16 (dk dt_layS 364 rfl) fl_36 mk_0 ml_0 (by decide) rfl rfl ?_
  refine T_iload_n 2 (dk dt_layS 365 rfl) rfl rfl ?_
  obtain ⟨h4, h⟩ := h
  refine T_iald 16 3000 (dk dt_layS 366 rfl) mk_16 ml_16 h4 ?_
  obtain ⟨h5, h⟩ := h
  refine T_iald 7 710 (dk dt_layS 367 rfl) mk_7 ml_7 h5 ?_
  refine T_iload_n 2 (dk dt_layS 368 rfl) rfl rfl ?_
  refine MT_callVi [vi 13, vi (x2.1 7 (x2.1 16 (l1 : Int32).toNatClampNeg : Int32).toNatClampNeg), vi l1] [] rfl (dk dt_layS 369 rfl) cv_523 rfl rfl (Nat.le_of_ble_eq_true rfl) (Nat.le_of_ble_eq_true rfl) rfl rfl h (fun r7 x6 h => ?_)
  refine T_istore_n (lv2 := [(3, vi r7), (15, vi r3), (0, vr 0), (1, vi l1)]) (dk dt_layS 370 rfl) rfl (by decide) rfl ?_
  refine T_aload_n 2 (dk dt_layS 371 rfl) rfl rfl ?_
  refine T_getR 0 58 59 (dk dt_layS 372 rfl) fl_118 mk_0 ml_0 (by decide) rfl rfl ?_
  refine T_iload_n 0 (dk dt_layS 373 rfl) rfl rfl ?_
  refine T_iload 1 (dk dt_layS 374 rfl) rfl ?_
  obtain ⟨h8, h⟩ := h
  obtain ⟨x9, ex9⟩ : ∃ z, z = si x6 59 (r7 : Int32).toNatClampNeg r3 := ⟨_, rfl⟩
  have h := h x9 ex9
  refine T_iast 59 1500 (dk dt_layS 375 rfl) mk_59 ml_59 h8 ?_
  rw [← ex9]
  exact MT_vret (dk dt_layS 376 rfl) rfl h
set_option maxRecDepth 100000 in
theorem dt_layWord : dck cX12_layWord [(0, .aload_n 0, 1), (1, .getfield 36, 3), (4, .iload_n 1, 1), (5, .iaload, 1), (6, .istore_n 2, 1), (7, .iload_n 2, 1), (8, .bipush 33, 2), (10, .if_icmp .eq 9, 3), (13, .iload_n 2, 1), (14, .bipush 25, 2), (16, .if_icmp .ne 7, 3), (19, .iconst 1, 1), (20, .goto 4, 3), (23, .iconst 0, 1), (24, .istore_n 3, 1), (25, .aload_n 0, 1), (26, .aload_n 0, 1), (27, .getfield 39, 3), (30, .iload_n 1, 1), (31, .iaload, 1), (32, .iload_n 3, 1), (33, .ifCond .eq 7, 3), (36, .iconst 2, 1), (37, .goto 4, 3), (40, .iconst 1, 1), (41, .invokevirtual 546, 3), (44, .istore 4, 2), (46, .iload_n 2, 1), (47, .bipush 36, 2), (49, .if_icmp .ne 7, 3), (52, .iconst 5, 1), (53, .goto 49, 3), (56, .iload_n 2, 1), (57, .bipush 22, 2), (59, .if_icmp .ne 8, 3), (62, .bipush 6, 2), (64, .goto 38, 3), (67, .iload_n 2, 1), (68, .bipush 38, 2), (70, .if_icmp .ne 8, 3), (73, .bipush 7, 2), (75, .goto 27, 3), (78, .iload_n 2, 1), (79, .bipush 33, 2), (81, .if_icmp .ne 8, 3), (84, .bipush 9, 2), (86, .goto 16, 3), (89, .iload_n 2, 1), (90, .bipush 25, 2), (92, .if_icmp .ne 8, 3), (95, .bipush 10, 2), (97, .goto 5, 3), (100, .bipush 8, 2), (102, .istore 5, 2), (104, .aload_n 0, 1), (105, .iload 5, 2), (107, .iload 4, 2), (109, .iload_n 1, 1), (110, .invokevirtual 523, 3), (113, .istore 6, 2), (115, .aload_n 0, 1), (116, .getfield 112, 3), (119, .iload 6, 2), (121, .iload_n 2, 1), (122, .bipush 40, 2), (124, .if_icmp .ne 7, 3), (127, .iconst 1, 1), (128, .goto 4, 3), (131, .iconst 0, 1), (132, .iastore, 1), (133, .return_, 1)] = true := by decide +kernel
set_option maxRecDepth 100000 in
set_option maxHeartbeats 4000000 in
theorem sg_layWord_0 {G : mG} {d : Nat} {x : gd} {P : Option gv → gd → Prop} (l1 : Int32)
    (h : vp_in l1 3000 ∧ (((x.1 16 (l1 : Int32).toNatClampNeg) = (33 : Int32) → MT G (d + 1) z_layWord 24 [(0, vr 0), (1, vi l1), (2, vi (x.1 16 (l1 : Int32).toNatClampNeg))] [vi 1] x P) ∧ (¬ ((x.1 16 (l1 : Int32).toNatClampNeg) = (33 : Int32)) → ((¬ ((x.1 16 (l1 : Int32).toNatClampNeg) = (25 : Int32)) → MT G (d + 1) z_layWord 24 [(0, vr 0), (1, vi l1), (2, vi (x.1 16 (l1 : Int32).toNatClampNeg))] [vi 0] x P) ∧ ((x.1 16 (l1 : Int32).toNatClampNeg) = (25 : Int32) → MT G (d + 1) z_layWord 24 [(0, vr 0), (1, vi l1), (2, vi (x.1 16 (l1 : Int32).toNatClampNeg))] [vi 1] x P))))) :
    MT G (d + 1) z_layWord 0 [(0, vr 0), (1, vi l1)] [] x P := by
  refine T_aload_n 0 (dk dt_layWord 0 rfl) rfl rfl ?_
  refine T_getR 0 15 16 (dk dt_layWord 1 rfl) fl_36 mk_0 ml_0 (by decide) rfl rfl ?_
  refine T_iload_n 1 (dk dt_layWord 2 rfl) rfl rfl ?_
  obtain ⟨h1, h⟩ := h
  refine T_iald 16 3000 (dk dt_layWord 3 rfl) mk_16 ml_16 h1 ?_
  refine T_istore_n (lv2 := [(2, vi (x.1 16 (l1 : Int32).toNatClampNeg)), (0, vr 0), (1, vi l1)]) (dk dt_layWord 4 rfl) rfl (by decide) rfl ?_
  refine T_iload_n 0 (dk dt_layWord 5 rfl) rfl rfl ?_
  refine T_bipush (v := 33) (dk dt_layWord 6 rfl) (by decide +kernel) ?_
  refine T_icmp_eq 19 (dk dt_layWord 7 rfl) (by decide) (fun c2 => ?_) (fun c2 => ?_)
  · have h := h.1 c2
    refine T_iconst (v := 1) (dk dt_layWord 11 rfl) (by decide +kernel) ?_
    refine T_goto 24 (dk dt_layWord 12 rfl) (by decide) ?_
    exact T_sub [1, 2, 0] rfl h
  · have h := h.2 c2
    refine T_iload_n 0 (dk dt_layWord 8 rfl) rfl rfl ?_
    refine T_bipush (v := 25) (dk dt_layWord 9 rfl) (by decide +kernel) ?_
    refine T_icmp_ne 23 (dk dt_layWord 10 rfl) (by decide) (fun c3 => ?_) (fun c3 => ?_)
    · have h := h.1 c3
      refine T_iconst (v := 0) (dk dt_layWord 13 rfl) (by decide +kernel) ?_
      exact T_sub [1, 2, 0] rfl h
    · have h := h.2 c3
      refine T_iconst (v := 1) (dk dt_layWord 11 rfl) (by decide +kernel) ?_
      refine T_goto 24 (dk dt_layWord 12 rfl) (by decide) ?_
      exact T_sub [1, 2, 0] rfl h
set_option maxRecDepth 100000 in
set_option maxHeartbeats 4000000 in
theorem sg_layWord_24 {G : mG} {d : Nat} {x : gd} {P : Option gv → gd → Prop} (l1 : Int32) (l2 : Int32) (s0 : Int32)
    (h : vp_in l1 3000 ∧ ((s0 = (0 : Int32) → MT G (d + 1) z_layWord 41 [(0, vr 0), (1, vi l1), (2, vi l2)] [vi 1, vi (x.1 17 (l1 : Int32).toNatClampNeg), vr 0] x P) ∧ (¬ (s0 = (0 : Int32)) → MT G (d + 1) z_layWord 41 [(0, vr 0), (1, vi l1), (2, vi l2)] [vi 2, vi (x.1 17 (l1 : Int32).toNatClampNeg), vr 0] x P))) :
    MT G (d + 1) z_layWord 24 [(0, vr 0), (1, vi l1), (2, vi l2)] [vi s0] x P := by
  refine T_istore_n (lv2 := [(3, vi s0), (0, vr 0), (1, vi l1), (2, vi l2)]) (dk dt_layWord 14 rfl) rfl (by decide) rfl ?_
  refine T_aload_n 1 (dk dt_layWord 15 rfl) rfl rfl ?_
  refine T_aload_n 1 (dk dt_layWord 16 rfl) rfl rfl ?_
  refine T_getR 0 16 17 (dk dt_layWord 17 rfl) fl_39 mk_0 ml_0 (by decide) rfl rfl ?_
  refine T_iload_n 2 (dk dt_layWord 18 rfl) rfl rfl ?_
  obtain ⟨h1, h⟩ := h
  refine T_iald 17 3000 (dk dt_layWord 19 rfl) mk_17 ml_17 h1 ?_
  refine T_iload_n 0 (dk dt_layWord 20 rfl) rfl rfl ?_
  refine T_if_eq 40 (dk dt_layWord 21 rfl) (by decide) (fun c2 => ?_) (fun c2 => ?_)
  · have h := h.1 c2
    refine T_iconst (v := 1) (dk dt_layWord 24 rfl) (by decide +kernel) ?_
    exact T_sub [1, 2, 3] rfl h
  · have h := h.2 c2
    refine T_iconst (v := 2) (dk dt_layWord 22 rfl) (by decide +kernel) ?_
    refine T_goto 41 (dk dt_layWord 23 rfl) (by decide) ?_
    exact T_sub [1, 2, 3] rfl h
set_option maxRecDepth 100000 in
set_option maxHeartbeats 4000000 in
theorem sg_layWord_41 {G : mG} {d : Nat} {x : gd} {P : Option gv → gd → Prop} (l1 : Int32) (l2 : Int32) (s0 : Int32) (s1 : Int32)
    (h : MT G d z_numberOf 0 [(0, vr 0), (1, vi s1), (2, vi s0)] [] x (ri (fun r2 x1 => ((¬ (l2 = (36 : Int32)) → ((¬ (l2 = (22 : Int32)) → ((¬ (l2 = (38 : Int32)) → ((¬ (l2 = (33 : Int32)) → ((¬ (l2 = (25 : Int32)) → MT G (d + 1) z_layWord 102 [(0, vr 0), (1, vi l1), (2, vi l2), (4, vi r2)] [vi 8] x1 P) ∧ (l2 = (25 : Int32) → MT G (d + 1) z_layWord 102 [(0, vr 0), (1, vi l1), (2, vi l2), (4, vi r2)] [vi 10] x1 P))) ∧ (l2 = (33 : Int32) → MT G (d + 1) z_layWord 102 [(0, vr 0), (1, vi l1), (2, vi l2), (4, vi r2)] [vi 9] x1 P))) ∧ (l2 = (38 : Int32) → MT G (d + 1) z_layWord 102 [(0, vr 0), (1, vi l1), (2, vi l2), (4, vi r2)] [vi 7] x1 P))) ∧ (l2 = (22 : Int32) → MT G (d + 1) z_layWord 102 [(0, vr 0), (1, vi l1), (2, vi l2), (4, vi r2)] [vi 6] x1 P))) ∧ (l2 = (36 : Int32) → MT G (d + 1) z_layWord 102 [(0, vr 0), (1, vi l1), (2, vi l2), (4, vi r2)] [vi 5] x1 P))))) :
    MT G (d + 1) z_layWord 41 [(0, vr 0), (1, vi l1), (2, vi l2)] [vi s0, vi s1, vr 0] x P := by
  refine MT_callVi [vi s1, vi s0] [] rfl (dk dt_layWord 25 rfl) cv_546 rfl rfl (Nat.le_of_ble_eq_true rfl) (Nat.le_of_ble_eq_true rfl) rfl rfl h (fun r2 x1 h => ?_)
  refine T_istore (lv2 := [(4, vi r2), (0, vr 0), (1, vi l1), (2, vi l2)]) (dk dt_layWord 26 rfl) (by decide) rfl ?_
  refine T_iload_n 3 (dk dt_layWord 27 rfl) rfl rfl ?_
  refine T_bipush (v := 36) (dk dt_layWord 28 rfl) (by decide +kernel) ?_
  refine T_icmp_ne 56 (dk dt_layWord 29 rfl) (by decide) (fun c3 => ?_) (fun c3 => ?_)
  · have h := h.1 c3
    refine T_iload_n 3 (dk dt_layWord 32 rfl) rfl rfl ?_
    refine T_bipush (v := 22) (dk dt_layWord 33 rfl) (by decide +kernel) ?_
    refine T_icmp_ne 67 (dk dt_layWord 34 rfl) (by decide) (fun c4 => ?_) (fun c4 => ?_)
    · have h := h.1 c4
      refine T_iload_n 3 (dk dt_layWord 37 rfl) rfl rfl ?_
      refine T_bipush (v := 38) (dk dt_layWord 38 rfl) (by decide +kernel) ?_
      refine T_icmp_ne 78 (dk dt_layWord 39 rfl) (by decide) (fun c5 => ?_) (fun c5 => ?_)
      · have h := h.1 c5
        refine T_iload_n 3 (dk dt_layWord 42 rfl) rfl rfl ?_
        refine T_bipush (v := 33) (dk dt_layWord 43 rfl) (by decide +kernel) ?_
        refine T_icmp_ne 89 (dk dt_layWord 44 rfl) (by decide) (fun c6 => ?_) (fun c6 => ?_)
        · have h := h.1 c6
          refine T_iload_n 3 (dk dt_layWord 47 rfl) rfl rfl ?_
          refine T_bipush (v := 25) (dk dt_layWord 48 rfl) (by decide +kernel) ?_
          refine T_icmp_ne 100 (dk dt_layWord 49 rfl) (by decide) (fun c7 => ?_) (fun c7 => ?_)
          · have h := h.1 c7
            refine T_bipush (v := 8) (dk dt_layWord 52 rfl) (by decide +kernel) ?_
            exact T_sub [1, 2, 3, 0] rfl h
          · have h := h.2 c7
            refine T_bipush (v := 10) (dk dt_layWord 50 rfl) (by decide +kernel) ?_
            refine T_goto 102 (dk dt_layWord 51 rfl) (by decide) ?_
            exact T_sub [1, 2, 3, 0] rfl h
        · have h := h.2 c6
          refine T_bipush (v := 9) (dk dt_layWord 45 rfl) (by decide +kernel) ?_
          refine T_goto 102 (dk dt_layWord 46 rfl) (by decide) ?_
          exact T_sub [1, 2, 3, 0] rfl h
      · have h := h.2 c5
        refine T_bipush (v := 7) (dk dt_layWord 40 rfl) (by decide +kernel) ?_
        refine T_goto 102 (dk dt_layWord 41 rfl) (by decide) ?_
        exact T_sub [1, 2, 3, 0] rfl h
    · have h := h.2 c4
      refine T_bipush (v := 6) (dk dt_layWord 35 rfl) (by decide +kernel) ?_
      refine T_goto 102 (dk dt_layWord 36 rfl) (by decide) ?_
      exact T_sub [1, 2, 3, 0] rfl h
  · have h := h.2 c3
    refine T_iconst (v := 5) (dk dt_layWord 30 rfl) (by decide +kernel) ?_
    refine T_goto 102 (dk dt_layWord 31 rfl) (by decide) ?_
    exact T_sub [1, 2, 3, 0] rfl h
set_option maxRecDepth 100000 in
set_option maxHeartbeats 4000000 in
theorem sg_layWord_102 {G : mG} {d : Nat} {x : gd} {P : Option gv → gd → Prop} (l1 : Int32) (l2 : Int32) (l4 : Int32) (s0 : Int32)
    (h : MT G d z_layAct 0 [(0, vr 0), (1, vi s0), (2, vi l4), (3, vi l1)] [] x (ri (fun r2 x1 => ((¬ (l2 = (40 : Int32)) → vp_in r2 1500 ∧ (∀ x5 : gd, x5 = si x1 57 (r2 : Int32).toNatClampNeg 0 → P none x5)) ∧ (l2 = (40 : Int32) → vp_in r2 1500 ∧ (∀ x7 : gd, x7 = si x1 57 (r2 : Int32).toNatClampNeg 1 → P none x7)))))) :
    MT G (d + 1) z_layWord 102 [(0, vr 0), (1, vi l1), (2, vi l2), (4, vi l4)] [vi s0] x P := by
  refine T_istore (lv2 := [(5, vi s0), (0, vr 0), (1, vi l1), (2, vi l2), (4, vi l4)]) (dk dt_layWord 53 rfl) (by decide) rfl ?_
  refine T_aload_n 1 (dk dt_layWord 54 rfl) rfl rfl ?_
  refine T_iload 0 (dk dt_layWord 55 rfl) rfl ?_
  refine T_iload 4 (dk dt_layWord 56 rfl) rfl ?_
  refine T_iload_n 2 (dk dt_layWord 57 rfl) rfl rfl ?_
  refine MT_callVi [vi s0, vi l4, vi l1] [] rfl (dk dt_layWord 58 rfl) cv_523 rfl rfl (Nat.le_of_ble_eq_true rfl) (Nat.le_of_ble_eq_true rfl) rfl rfl h (fun r2 x1 h => ?_)
  refine T_istore (lv2 := [(6, vi r2), (5, vi s0), (0, vr 0), (1, vi l1), (2, vi l2), (4, vi l4)]) (dk dt_layWord 59 rfl) (by decide) rfl ?_
  refine T_aload_n 2 (dk dt_layWord 60 rfl) rfl rfl ?_
  refine T_getR 0 56 57 (dk dt_layWord 61 rfl) fl_112 mk_0 ml_0 (by decide) rfl rfl ?_
  refine T_iload 0 (dk dt_layWord 62 rfl) rfl ?_
  refine T_iload_n 4 (dk dt_layWord 63 rfl) rfl rfl ?_
  refine T_bipush (v := 40) (dk dt_layWord 64 rfl) (by decide +kernel) ?_
  refine T_icmp_ne 131 (dk dt_layWord 65 rfl) (by decide) (fun c3 => ?_) (fun c3 => ?_)
  · have h := h.1 c3
    refine T_iconst (v := 0) (dk dt_layWord 68 rfl) (by decide +kernel) ?_
    obtain ⟨h4, h⟩ := h
    obtain ⟨x5, ex5⟩ : ∃ z, z = si x1 57 (r2 : Int32).toNatClampNeg 0 := ⟨_, rfl⟩
    have h := h x5 ex5
    refine T_iast 57 1500 (dk dt_layWord 69 rfl) mk_57 ml_57 h4 ?_
    rw [← ex5]
    exact MT_vret (dk dt_layWord 70 rfl) rfl h
  · have h := h.2 c3
    refine T_iconst (v := 1) (dk dt_layWord 66 rfl) (by decide +kernel) ?_
    refine T_goto 132 (dk dt_layWord 67 rfl) (by decide) ?_
    obtain ⟨h6, h⟩ := h
    obtain ⟨x7, ex7⟩ : ∃ z, z = si x1 57 (r2 : Int32).toNatClampNeg 1 := ⟨_, rfl⟩
    have h := h x7 ex7
    refine T_iast 57 1500 (dk dt_layWord 69 rfl) mk_57 ml_57 h6 ?_
    rw [← ex7]
    exact MT_vret (dk dt_layWord 70 rfl) rfl h
