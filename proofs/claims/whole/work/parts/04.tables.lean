/-! THE TABLES of the small machine, by program out of the printed names (gen1.py): code, links, fields. -/
def zk_X0_has : zCd := [(6, [(0, .iload_n 1, 1), (1, .ifCond .lt 15, 3), (4, .iload_n 1, 1), (5, .aload_n 0, 1)]), (14, [(6, .getfield 9, 3), (9, .if_icmp .ge 7, 3), (12, .iconst 1, 1), (13, .goto 4, 3)]), (18, [(16, .iconst 0, 1), (17, .ireturn, 1)])]
set_option maxRecDepth 20000 in
theorem zkd_X0_has : ∀ q ∈ zk_X0_has, ∀ e ∈ q.2, decode cX0_has e.1 = .ok e.2 ∧ zlo e = true := by decide +kernel
def zm_X0_has : zMe := ((0, 2, 2, zk_X0_has), (yX0_has, cX0_has, (some .boolean)))
set_option maxRecDepth 20000 in
theorem zp_X0_has : zP zm_X0_has := ⟨zkd_X0_has, List.mem_of_getElem? (i := 146) rfl, by decide +kernel, rfl, rfl, by decide +kernel, by decide +kernel⟩
def zk_X0_hasKind : zCd := [(6, [(0, .iload_n 1, 1), (1, .ifCond .lt 8, 3), (4, .iload_n 1, 1), (5, .iconst 3, 1)]), (12, [(6, .if_icmp .le 14, 3), (9, .aload_n 0, 1), (10, .iload_n 1, 1), (11, .bipush 10, 2)]), (21, [(13, .isub, 1), (14, .invokevirtual 62, 3), (17, .ifCond .eq 7, 3), (20, .iconst 1, 1)]), (26, [(21, .goto 4, 3), (24, .iconst 0, 1), (25, .ireturn, 1)])]
set_option maxRecDepth 20000 in
theorem zkd_X0_hasKind : ∀ q ∈ zk_X0_hasKind, ∀ e ∈ q.2, decode cX0_hasKind e.1 = .ok e.2 ∧ zlo e = true := by decide +kernel
def zm_X0_hasKind : zMe := ((0, 2, 2, zk_X0_hasKind), (yX0_hasKind, cX0_hasKind, (some .boolean)))
set_option maxRecDepth 20000 in
theorem zp_X0_hasKind : zP zm_X0_hasKind := ⟨zkd_X0_hasKind, List.mem_of_getElem? (i := 150) rfl, by decide +kernel, rfl, rfl, by decide +kernel, by decide +kernel⟩
def zk_X0_add : zCd := [(10, [(0, .aload_n 0, 1), (1, .getfield 9, 3), (4, .bipush 12, 2), (6, .if_icmp .lt 6, 3), (9, .bipush (-3), 2)]), (18, [(11, .ireturn, 1), (12, .aload_n 0, 1), (13, .getfield 15, 3), (16, .aload_n 0, 1), (17, .getfield 9, 3)]), (27, [(20, .iload_n 1, 1), (21, .iastore, 1), (22, .aload_n 0, 1), (23, .getfield 19, 3), (26, .aload_n 0, 1)]), (34, [(27, .getfield 9, 3), (30, .iload_n 2, 1), (31, .iastore, 1), (32, .aload_n 0, 1), (33, .getfield 22, 3)]), (43, [(36, .aload_n 0, 1), (37, .getfield 9, 3), (40, .iload_n 3, 1), (41, .bastore, 1), (42, .aload_n 0, 1)]), (50, [(43, .dup, 1), (44, .getfield 9, 3), (47, .iconst 1, 1), (48, .iadd, 1), (49, .putfield 9, 3)]), (59, [(52, .aload_n 0, 1), (53, .getfield 9, 3), (56, .iconst 1, 1), (57, .isub, 1), (58, .ireturn, 1)])]
set_option maxRecDepth 20000 in
theorem zkd_X0_add : ∀ q ∈ zk_X0_add, ∀ e ∈ q.2, decode cX0_add e.1 = .ok e.2 ∧ zlo e = true := by decide +kernel
def zm_X0_add : zMe := ((0, 1, 4, zk_X0_add), (yX0_add, cX0_add, (some .int)))
set_option maxRecDepth 20000 in
theorem zp_X0_add : zP zm_X0_add := ⟨zkd_X0_add, List.mem_of_getElem? (i := 133) rfl, by decide +kernel, rfl, rfl, by decide +kernel, by decide +kernel⟩
def zk_X0_addElement : zCd := [(11, [(0, .aload_n 0, 1), (1, .getfield 26, 3), (4, .iload_n 1, 1), (5, .iaload, 1), (6, .iconst 5, 1), (7, .if_icmp .lt 6, 3), (10, .bipush (-3), 2)]), (21, [(12, .ireturn, 1), (13, .iload_n 1, 1), (14, .iconst 5, 1), (15, .imul, 1), (16, .aload_n 0, 1), (17, .getfield 26, 3), (20, .iload_n 1, 1)]), (32, [(21, .iaload, 1), (22, .iadd, 1), (23, .istore 5, 2), (25, .aload_n 0, 1), (26, .getfield 44, 3), (29, .iload 5, 2), (31, .iload_n 2, 1)]), (42, [(32, .iastore, 1), (33, .aload_n 0, 1), (34, .getfield 47, 3), (37, .iload 5, 2), (39, .iload_n 3, 1), (40, .iastore, 1), (41, .aload_n 0, 1)]), (55, [(42, .getfield 50, 3), (45, .iload 5, 2), (47, .iload 4, 2), (49, .bastore, 1), (50, .aload_n 0, 1), (51, .getfield 29, 3), (54, .iload_n 1, 1)]), (64, [(55, .dup2, 1), (56, .iaload, 1), (57, .iload_n 3, 1), (58, .invokestatic 66, 3), (61, .ior, 1), (62, .iastore, 1), (63, .aload_n 0, 1)]), (73, [(64, .getfield 26, 3), (67, .iload_n 1, 1), (68, .dup2, 1), (69, .iaload, 1), (70, .iconst 1, 1), (71, .iadd, 1), (72, .iastore, 1)]), (80, [(73, .aload_n 0, 1), (74, .getfield 26, 3), (77, .iload_n 1, 1), (78, .iaload, 1), (79, .ireturn, 1)])]
set_option maxRecDepth 20000 in
theorem zkd_X0_addElement : ∀ q ∈ zk_X0_addElement, ∀ e ∈ q.2, decode cX0_addElement e.1 = .ok e.2 ∧ zlo e = true := by decide +kernel
def zm_X0_addElement : zMe := ((0, 1, 6, zk_X0_addElement), (yX0_addElement, cX0_addElement, (some .int)))
set_option maxRecDepth 20000 in
theorem zp_X0_addElement : zP zm_X0_addElement := ⟨zkd_X0_addElement, List.mem_of_getElem? (i := 178) rfl, by decide +kernel, rfl, rfl, by decide +kernel, by decide +kernel⟩
def zk_X0_positionOf : zCd := [(9, [(0, .aload_n 0, 1), (1, .iload_n 1, 1), (2, .invokevirtual 62, 3), (5, .ifCond .ne 5, 3), (8, .iconst (-1), 1)]), (14, [(9, .ireturn, 1), (10, .iconst 0, 1), (11, .istore_n 3, 1), (12, .iload_n 3, 1), (13, .aload_n 0, 1)]), (23, [(14, .getfield 26, 3), (17, .iload_n 1, 1), (18, .iaload, 1), (19, .if_icmp .ge 25, 3), (22, .aload_n 0, 1)]), (30, [(23, .getfield 44, 3), (26, .iload_n 1, 1), (27, .iconst 5, 1), (28, .imul, 1), (29, .iload_n 3, 1)]), (37, [(30, .iadd, 1), (31, .iaload, 1), (32, .iload_n 2, 1), (33, .if_icmp .ne 5, 3), (36, .iload_n 3, 1)]), (46, [(37, .ireturn, 1), (38, .iinc 3 1, 3), (41, .goto (-29), 3), (44, .iconst (-1), 1), (45, .ireturn, 1)])]
set_option maxRecDepth 20000 in
theorem zkd_X0_positionOf : ∀ q ∈ zk_X0_positionOf, ∀ e ∈ q.2, decode cX0_positionOf e.1 = .ok e.2 ∧ zlo e = true := by decide +kernel
def zm_X0_positionOf : zMe := ((0, 1, 4, zk_X0_positionOf), (yX0_positionOf, cX0_positionOf, (some .int)))
set_option maxRecDepth 20000 in
theorem zp_X0_positionOf : zP zm_X0_positionOf := ⟨zkd_X0_positionOf, List.mem_of_getElem? (i := 159) rfl, by decide +kernel, rfl, rfl, by decide +kernel, by decide +kernel⟩
def zk_X0_slotOf : zCd := [(4, [(0, .aload_n 0, 1), (1, .iload_n 1, 1), (2, .iload_n 2, 1), (3, .invokevirtual 70, 3)]), (10, [(6, .istore_n 3, 1), (7, .iload_n 3, 1), (8, .iconst (-1), 1), (9, .if_icmp .ne 7, 3)]), (18, [(12, .iconst (-1), 1), (13, .goto 8, 3), (16, .iload_n 1, 1), (17, .iconst 5, 1)]), (22, [(18, .imul, 1), (19, .iload_n 3, 1), (20, .iadd, 1), (21, .ireturn, 1)])]
set_option maxRecDepth 20000 in
theorem zkd_X0_slotOf : ∀ q ∈ zk_X0_slotOf, ∀ e ∈ q.2, decode cX0_slotOf e.1 = .ok e.2 ∧ zlo e = true := by decide +kernel
def zm_X0_slotOf : zMe := ((0, 1, 4, zk_X0_slotOf), (yX0_slotOf, cX0_slotOf, (some .int)))
set_option maxRecDepth 20000 in
theorem zp_X0_slotOf : zP zm_X0_slotOf := ⟨zkd_X0_slotOf, List.mem_of_getElem? (i := 155) rfl, by decide +kernel, rfl, rfl, by decide +kernel, by decide +kernel⟩
def zk_X0_isFixed : zCd := [(6, [(0, .aload_n 0, 1), (1, .getfield 38, 3), (4, .iload_n 1, 1), (5, .baload, 1)]), (14, [(6, .ifCond .ne 23, 3), (9, .aload_n 0, 1), (10, .getfield 32, 3), (13, .iload_n 1, 1)]), (20, [(14, .iaload, 1), (15, .iconst (-1), 1), (16, .if_icmp .ne 13, 3), (19, .aload_n 0, 1)]), (26, [(20, .getfield 35, 3), (23, .iload_n 1, 1), (24, .iaload, 1), (25, .iconst (-1), 1)]), (34, [(26, .if_icmp .eq 7, 3), (29, .iconst 1, 1), (30, .goto 4, 3), (33, .iconst 0, 1)]), (35, [(34, .ireturn, 1)])]
set_option maxRecDepth 20000 in
theorem zkd_X0_isFixed : ∀ q ∈ zk_X0_isFixed, ∀ e ∈ q.2, decode cX0_isFixed e.1 = .ok e.2 ∧ zlo e = true := by decide +kernel
def zm_X0_isFixed : zMe := ((0, 2, 2, zk_X0_isFixed), (yX0_isFixed, cX0_isFixed, (some .boolean)))
set_option maxRecDepth 20000 in
theorem zp_X0_isFixed : zP zm_X0_isFixed := ⟨zkd_X0_isFixed, List.mem_of_getElem? (i := 163) rfl, by decide +kernel, rfl, rfl, by decide +kernel, by decide +kernel⟩
def zk_X0_leadOf : zCd := [(7, [(0, .iload_n 0, 1), (1, .bipush 10, 2), (3, .if_icmp .lt 12, 3), (6, .iconst 1, 1)]), (12, [(7, .iload_n 0, 1), (8, .bipush 10, 2), (10, .isub, 1), (11, .ishl, 1)]), (17, [(12, .goto 4, 3), (15, .iconst 0, 1), (16, .ireturn, 1)])]
set_option maxRecDepth 20000 in
theorem zkd_X0_leadOf : ∀ q ∈ zk_X0_leadOf, ∀ e ∈ q.2, decode cX0_leadOf e.1 = .ok e.2 ∧ zlo e = true := by decide +kernel
def zm_X0_leadOf : zMe := ((0, 1, 1, zk_X0_leadOf), (yX0_leadOf, cX0_leadOf, (some .int)))
set_option maxRecDepth 20000 in
theorem zp_X0_leadOf : zP zm_X0_leadOf := ⟨zkd_X0_leadOf, List.mem_of_getElem? (i := 170) rfl, by decide +kernel, rfl, rfl, by decide +kernel, by decide +kernel⟩
def zk_X0_wouldLeadTooFar : zCd := [(8, [(0, .aload_n 0, 1), (1, .getfield 29, 3), (4, .iload_n 1, 1), (5, .iaload, 1), (6, .istore_n 3, 1), (7, .aload_n 0, 1)]), (16, [(8, .getfield 29, 3), (11, .iload_n 1, 1), (12, .dup2, 1), (13, .iaload, 1), (14, .iload_n 2, 1), (15, .invokestatic 66, 3)]), (26, [(18, .ior, 1), (19, .iastore, 1), (20, .iconst 1, 1), (21, .aload_n 0, 1), (22, .getfield 9, 3), (25, .ishl, 1)]), (34, [(26, .iconst 1, 1), (27, .isub, 1), (28, .istore 4, 2), (30, .iconst 0, 1), (31, .istore 5, 2), (33, .iload 5, 2)]), (46, [(35, .iconst 2, 1), (36, .if_icmp .gt 17, 3), (39, .aload_n 0, 1), (40, .iload 4, 2), (42, .invokevirtual 74, 3), (45, .istore 4, 2)]), (59, [(47, .iinc 5 1, 3), (50, .goto (-17), 3), (53, .aload_n 0, 1), (54, .getfield 29, 3), (57, .iload_n 1, 1), (58, .iload_n 3, 1)]), (70, [(59, .iastore, 1), (60, .iload 4, 2), (62, .ifCond .eq 7, 3), (65, .iconst 1, 1), (66, .goto 4, 3), (69, .iconst 0, 1)]), (71, [(70, .ireturn, 1)])]
set_option maxRecDepth 20000 in
theorem zkd_X0_wouldLeadTooFar : ∀ q ∈ zk_X0_wouldLeadTooFar, ∀ e ∈ q.2, decode cX0_wouldLeadTooFar e.1 = .ok e.2 ∧ zlo e = true := by decide +kernel
def zm_X0_wouldLeadTooFar : zMe := ((0, 2, 6, zk_X0_wouldLeadTooFar), (yX0_wouldLeadTooFar, cX0_wouldLeadTooFar, (some .boolean)))
set_option maxRecDepth 20000 in
theorem zp_X0_wouldLeadTooFar : zP zm_X0_wouldLeadTooFar := ⟨zkd_X0_wouldLeadTooFar, List.mem_of_getElem? (i := 167) rfl, by decide +kernel, rfl, rfl, by decide +kernel, by decide +kernel⟩
def zk_X0_leadingInto : zCd := [(5, [(0, .iconst 0, 1), (1, .istore_n 2, 1), (2, .iconst 0, 1), (3, .istore_n 3, 1), (4, .iload_n 3, 1)]), (14, [(5, .aload_n 0, 1), (6, .getfield 9, 3), (9, .if_icmp .ge 26, 3), (12, .aload_n 0, 1), (13, .getfield 29, 3)]), (21, [(16, .iload_n 3, 1), (17, .iaload, 1), (18, .iload_n 1, 1), (19, .iand, 1), (20, .ifCond .eq 9, 3)]), (28, [(23, .iload_n 2, 1), (24, .iconst 1, 1), (25, .iload_n 3, 1), (26, .ishl, 1), (27, .ior, 1)]), (37, [(28, .istore_n 2, 1), (29, .iinc 3 1, 3), (32, .goto (-28), 3), (35, .iload_n 2, 1), (36, .ireturn, 1)])]
set_option maxRecDepth 20000 in
theorem zkd_X0_leadingInto : ∀ q ∈ zk_X0_leadingInto, ∀ e ∈ q.2, decode cX0_leadingInto e.1 = .ok e.2 ∧ zlo e = true := by decide +kernel
def zm_X0_leadingInto : zMe := ((0, 1, 4, zk_X0_leadingInto), (yX0_leadingInto, cX0_leadingInto, (some .int)))
set_option maxRecDepth 20000 in
theorem zp_X0_leadingInto : zP zm_X0_leadingInto := ⟨zkd_X0_leadingInto, List.mem_of_getElem? (i := 174) rfl, by decide +kernel, rfl, rfl, by decide +kernel, by decide +kernel⟩
def zk_X0_canContain : zCd := [(9, [(0, .aload_n 0, 1), (1, .iload_n 1, 1), (2, .iconst 0, 1), (3, .invokevirtual 77, 3), (6, .istore_n 3, 1), (7, .iload_n 3, 1), (8, .iconst (-1), 1)]), (22, [(9, .if_icmp .eq 25, 3), (12, .aload_n 0, 1), (13, .getfield 50, 3), (16, .iload_n 3, 1), (17, .baload, 1), (18, .ifCond .eq 16, 3), (21, .aload_n 0, 1)]), (32, [(22, .getfield 47, 3), (25, .iload_n 3, 1), (26, .iaload, 1), (27, .bipush 10, 2), (29, .iload_n 2, 1), (30, .iadd, 1), (31, .if_icmp .eq 5, 3)]), (43, [(34, .iconst 0, 1), (35, .ireturn, 1), (36, .aload_n 0, 1), (37, .getfield 19, 3), (40, .iload_n 1, 1), (41, .iaload, 1), (42, .aload_n 0, 1)]), (56, [(43, .getfield 19, 3), (46, .iload_n 2, 1), (47, .iaload, 1), (48, .if_icmp .lt 51, 3), (51, .aload_n 0, 1), (52, .getfield 15, 3), (55, .iload_n 1, 1)]), (65, [(56, .iaload, 1), (57, .aload_n 0, 1), (58, .getfield 15, 3), (61, .iload_n 2, 1), (62, .iaload, 1), (63, .iconst (-1), 1), (64, .ixor, 1)]), (76, [(65, .iand, 1), (66, .ifCond .ne 33, 3), (69, .aload_n 0, 1), (70, .getfield 22, 3), (73, .iload_n 1, 1), (74, .baload, 1), (75, .ifCond .ne 12, 3)]), (89, [(78, .aload_n 0, 1), (79, .getfield 22, 3), (82, .iload_n 2, 1), (83, .baload, 1), (84, .ifCond .ne 15, 3), (87, .aload_n 0, 1), (88, .iload_n 1, 1)]), (101, [(89, .invokevirtual 80, 3), (92, .ifCond .eq 7, 3), (95, .iconst 1, 1), (96, .goto 4, 3), (99, .iconst 0, 1), (100, .ireturn, 1)])]
set_option maxRecDepth 20000 in
theorem zkd_X0_canContain : ∀ q ∈ zk_X0_canContain, ∀ e ∈ q.2, decode cX0_canContain e.1 = .ok e.2 ∧ zlo e = true := by decide +kernel
def zm_X0_canContain : zMe := ((0, 2, 4, zk_X0_canContain), (yX0_canContain, cX0_canContain, (some .boolean)))
set_option maxRecDepth 20000 in
theorem zp_X0_canContain : zP zm_X0_canContain := ⟨zkd_X0_canContain, List.mem_of_getElem? (i := 349) rfl, by decide +kernel, rfl, rfl, by decide +kernel, by decide +kernel⟩
def zk_X0_othersHaveDefaults : zCd := [(5, [(0, .iconst 0, 1), (1, .istore_n 2, 1), (2, .iload_n 2, 1), (3, .aload_n 0, 1), (4, .getfield 26, 3)]), (14, [(7, .iload_n 1, 1), (8, .iaload, 1), (9, .if_icmp .ge 36, 3), (12, .iload_n 1, 1), (13, .iconst 5, 1)]), (19, [(14, .imul, 1), (15, .iload_n 2, 1), (16, .iadd, 1), (17, .istore_n 3, 1), (18, .aload_n 0, 1)]), (28, [(19, .getfield 44, 3), (22, .iload_n 3, 1), (23, .iaload, 1), (24, .ifCond .eq 15, 3), (27, .aload_n 0, 1)]), (35, [(28, .getfield 53, 3), (31, .iload_n 3, 1), (32, .iaload, 1), (33, .iconst (-1), 1), (34, .if_icmp .ne 5, 3)]), (46, [(37, .iconst 0, 1), (38, .ireturn, 1), (39, .iinc 2 1, 3), (42, .goto (-40), 3), (45, .iconst 1, 1)]), (47, [(46, .ireturn, 1)])]
set_option maxRecDepth 20000 in
theorem zkd_X0_othersHaveDefaults : ∀ q ∈ zk_X0_othersHaveDefaults, ∀ e ∈ q.2, decode cX0_othersHaveDefaults e.1 = .ok e.2 ∧ zlo e = true := by decide +kernel
def zm_X0_othersHaveDefaults : zMe := ((0, 2, 4, zk_X0_othersHaveDefaults), (yX0_othersHaveDefaults, cX0_othersHaveDefaults, (some .boolean)))
set_option maxRecDepth 20000 in
theorem zp_X0_othersHaveDefaults : zP zm_X0_othersHaveDefaults := ⟨zkd_X0_othersHaveDefaults, List.mem_of_getElem? (i := 354) rfl, by decide +kernel, rfl, rfl, by decide +kernel, by decide +kernel⟩
def zk_X1_has : zCd := [(6, [(0, .iload_n 1, 1), (1, .ifCond .lt 15, 3), (4, .iload_n 1, 1), (5, .aload_n 0, 1)]), (14, [(6, .getfield 9, 3), (9, .if_icmp .ge 7, 3), (12, .iconst 1, 1), (13, .goto 4, 3)]), (18, [(16, .iconst 0, 1), (17, .ireturn, 1)])]
set_option maxRecDepth 20000 in
theorem zkd_X1_has : ∀ q ∈ zk_X1_has, ∀ e ∈ q.2, decode cX1_has e.1 = .ok e.2 ∧ zlo e = true := by decide +kernel
def zm_X1_has : zMe := ((1, 2, 2, zk_X1_has), (yX1_has, cX1_has, (some .boolean)))
set_option maxRecDepth 20000 in
theorem zp_X1_has : zP zm_X1_has := ⟨zkd_X1_has, List.mem_of_getElem? (i := 379) rfl, by decide +kernel, rfl, rfl, by decide +kernel, by decide +kernel⟩
def zk_X1_isType : zCd := [(6, [(0, .aload_n 0, 1), (1, .iload_n 1, 1), (2, .invokevirtual 22, 3), (5, .ifCond .eq 26, 3)]), (14, [(8, .aload_n 0, 1), (9, .getfield 15, 3), (12, .iload_n 1, 1), (13, .iaload, 1)]), (22, [(14, .ifCond .eq 13, 3), (17, .aload_n 0, 1), (18, .getfield 15, 3), (21, .iload_n 1, 1)]), (28, [(22, .iaload, 1), (23, .iconst 1, 1), (24, .if_icmp .ne 7, 3), (27, .iconst 1, 1)]), (33, [(28, .goto 4, 3), (31, .iconst 0, 1), (32, .ireturn, 1)])]
set_option maxRecDepth 20000 in
theorem zkd_X1_isType : ∀ q ∈ zk_X1_isType, ∀ e ∈ q.2, decode cX1_isType e.1 = .ok e.2 ∧ zlo e = true := by decide +kernel
def zm_X1_isType : zMe := ((1, 2, 2, zk_X1_isType), (yX1_isType, cX1_isType, (some .boolean)))
set_option maxRecDepth 20000 in
theorem zp_X1_isType : zP zm_X1_isType := ⟨zkd_X1_isType, List.mem_of_getElem? (i := 383) rfl, by decide +kernel, rfl, rfl, by decide +kernel, by decide +kernel⟩
def zk_X1_isClass : zCd := [(6, [(0, .aload_n 0, 1), (1, .iload_n 1, 1), (2, .invokevirtual 22, 3), (5, .ifCond .eq 16, 3)]), (14, [(8, .aload_n 0, 1), (9, .getfield 15, 3), (12, .iload_n 1, 1), (13, .iaload, 1)]), (22, [(14, .ifCond .ne 7, 3), (17, .iconst 1, 1), (18, .goto 4, 3), (21, .iconst 0, 1)]), (23, [(22, .ireturn, 1)])]
set_option maxRecDepth 20000 in
theorem zkd_X1_isClass : ∀ q ∈ zk_X1_isClass, ∀ e ∈ q.2, decode cX1_isClass e.1 = .ok e.2 ∧ zlo e = true := by decide +kernel
def zm_X1_isClass : zMe := ((1, 2, 2, zk_X1_isClass), (yX1_isClass, cX1_isClass, (some .boolean)))
set_option maxRecDepth 20000 in
theorem zp_X1_isClass : zP zm_X1_isClass := ⟨zkd_X1_isClass, List.mem_of_getElem? (i := 375) rfl, by decide +kernel, rfl, rfl, by decide +kernel, by decide +kernel⟩
def zk_X1_isMethod : zCd := [(6, [(0, .aload_n 0, 1), (1, .iload_n 1, 1), (2, .invokevirtual 22, 3), (5, .ifCond .eq 27, 3)]), (14, [(8, .aload_n 0, 1), (9, .getfield 15, 3), (12, .iload_n 1, 1), (13, .iaload, 1)]), (20, [(14, .iconst 3, 1), (15, .if_icmp .eq 13, 3), (18, .aload_n 0, 1), (19, .getfield 15, 3)]), (26, [(22, .iload_n 1, 1), (23, .iaload, 1), (24, .iconst 4, 1), (25, .if_icmp .ne 7, 3)]), (34, [(28, .iconst 1, 1), (29, .goto 4, 3), (32, .iconst 0, 1), (33, .ireturn, 1)])]
set_option maxRecDepth 20000 in
theorem zkd_X1_isMethod : ∀ q ∈ zk_X1_isMethod, ∀ e ∈ q.2, decode cX1_isMethod e.1 = .ok e.2 ∧ zlo e = true := by decide +kernel
def zm_X1_isMethod : zMe := ((1, 2, 2, zk_X1_isMethod), (yX1_isMethod, cX1_isMethod, (some .boolean)))
set_option maxRecDepth 20000 in
theorem zp_X1_isMethod : zP zm_X1_isMethod := ⟨zkd_X1_isMethod, List.mem_of_getElem? (i := 387) rfl, by decide +kernel, rfl, rfl, by decide +kernel, by decide +kernel⟩
def zk_X1_fits : zCd := [(43, [(0, .iload_n 1, 1), (1, .tableswitch 81 0 5 #[39, 58, 69, 69, 69, 75], 39), (40, .iload_n 2, 1), (41, .iconst (-1), 1), (42, .if_icmp .eq 11, 3)]), (54, [(45, .aload_n 0, 1), (46, .iload_n 2, 1), (47, .invokevirtual 26, 3), (50, .ifCond .eq 7, 3), (53, .iconst 1, 1)]), (61, [(54, .goto 4, 3), (57, .iconst 0, 1), (58, .ireturn, 1), (59, .iload_n 2, 1), (60, .iconst (-1), 1)]), (70, [(61, .if_icmp .ne 7, 3), (64, .iconst 1, 1), (65, .goto 4, 3), (68, .iconst 0, 1), (69, .ireturn, 1)]), (77, [(70, .aload_n 0, 1), (71, .iload_n 2, 1), (72, .invokevirtual 29, 3), (75, .ireturn, 1), (76, .aload_n 0, 1)]), (84, [(77, .iload_n 2, 1), (78, .invokevirtual 32, 3), (81, .ireturn, 1), (82, .iconst 0, 1), (83, .ireturn, 1)])]
set_option maxRecDepth 20000 in
theorem zkd_X1_fits : ∀ q ∈ zk_X1_fits, ∀ e ∈ q.2, decode cX1_fits e.1 = .ok e.2 ∧ zlo e = true := by decide +kernel
def zm_X1_fits : zMe := ((1, 2, 3, zk_X1_fits), (yX1_fits, cX1_fits, (some .boolean)))
set_option maxRecDepth 20000 in
theorem zp_X1_fits : zP zm_X1_fits := ⟨zkd_X1_fits, List.mem_of_getElem? (i := 371) rfl, by decide +kernel, rfl, rfl, by decide +kernel, by decide +kernel⟩
def zk_X1_add : zCd := [(10, [(0, .aload_n 0, 1), (1, .getfield 9, 3), (4, .bipush 40, 2), (6, .if_icmp .lt 6, 3), (9, .bipush (-3), 2)]), (18, [(11, .ireturn, 1), (12, .aload_n 0, 1), (13, .getfield 15, 3), (16, .aload_n 0, 1), (17, .getfield 9, 3)]), (27, [(20, .iload_n 1, 1), (21, .iastore, 1), (22, .aload_n 0, 1), (23, .getfield 19, 3), (26, .aload_n 0, 1)]), (34, [(27, .getfield 9, 3), (30, .iload_n 2, 1), (31, .iastore, 1), (32, .aload_n 0, 1), (33, .dup, 1)]), (43, [(34, .getfield 9, 3), (37, .iconst 1, 1), (38, .iadd, 1), (39, .putfield 9, 3), (42, .aload_n 0, 1)]), (49, [(43, .getfield 9, 3), (46, .iconst 1, 1), (47, .isub, 1), (48, .ireturn, 1)])]
set_option maxRecDepth 20000 in
theorem zkd_X1_add : ∀ q ∈ zk_X1_add, ∀ e ∈ q.2, decode cX1_add e.1 = .ok e.2 ∧ zlo e = true := by decide +kernel
def zm_X1_add : zMe := ((1, 1, 3, zk_X1_add), (yX1_add, cX1_add, (some .int)))
set_option maxRecDepth 20000 in
theorem zp_X1_add : zP zm_X1_add := ⟨zkd_X1_add, List.mem_of_getElem? (i := 391) rfl, by decide +kernel, rfl, rfl, by decide +kernel, by decide +kernel⟩
def zk_X1_parentOf : zCd := [(6, [(0, .aload_n 0, 1), (1, .iload_n 1, 1), (2, .invokevirtual 26, 3), (5, .ifCond .eq 12, 3)]), (14, [(8, .aload_n 0, 1), (9, .getfield 19, 3), (12, .iload_n 1, 1), (13, .iaload, 1)]), (19, [(14, .goto 4, 3), (17, .iconst (-1), 1), (18, .ireturn, 1)])]
set_option maxRecDepth 20000 in
theorem zkd_X1_parentOf : ∀ q ∈ zk_X1_parentOf, ∀ e ∈ q.2, decode cX1_parentOf e.1 = .ok e.2 ∧ zlo e = true := by decide +kernel
def zm_X1_parentOf : zMe := ((1, 1, 2, zk_X1_parentOf), (yX1_parentOf, cX1_parentOf, (some .int)))
set_option maxRecDepth 20000 in
theorem zp_X1_parentOf : zP zm_X1_parentOf := ⟨zkd_X1_parentOf, List.mem_of_getElem? (i := 687) rfl, by decide +kernel, rfl, rfl, by decide +kernel, by decide +kernel⟩
def zk_X1_fittingTargets : zCd := [(8, [(0, .getstatic 35, 3), (3, .aload_n 0, 1), (4, .getfield 15, 3), (7, .iload_n 1, 1)]), (11, [(8, .iaload, 1), (9, .iaload, 1), (10, .ireturn, 1)])]
set_option maxRecDepth 20000 in
theorem zkd_X1_fittingTargets : ∀ q ∈ zk_X1_fittingTargets, ∀ e ∈ q.2, decode cX1_fittingTargets e.1 = .ok e.2 ∧ zlo e = true := by decide +kernel
def zm_X1_fittingTargets : zMe := ((1, 1, 2, zk_X1_fittingTargets), (yX1_fittingTargets, cX1_fittingTargets, (some .int)))
set_option maxRecDepth 20000 in
theorem zp_X1_fittingTargets : zP zm_X1_fittingTargets := ⟨zkd_X1_fittingTargets, List.mem_of_getElem? (i := 488) rfl, by decide +kernel, rfl, rfl, by decide +kernel, by decide +kernel⟩
def zk_X2_add : zCd := [(10, [(0, .aload_n 0, 1), (1, .getfield 9, 3), (4, .bipush 100, 2), (6, .if_icmp .lt 4, 3), (9, .return_, 1)]), (19, [(10, .aload_n 0, 1), (11, .getfield 15, 3), (14, .aload_n 0, 1), (15, .getfield 9, 3), (18, .iload_n 1, 1)]), (26, [(19, .iastore, 1), (20, .aload_n 0, 1), (21, .getfield 19, 3), (24, .aload_n 0, 1), (25, .getfield 9, 3)]), (35, [(28, .iload_n 2, 1), (29, .iastore, 1), (30, .aload_n 0, 1), (31, .getfield 22, 3), (34, .aload_n 0, 1)]), (42, [(35, .getfield 9, 3), (38, .iload_n 3, 1), (39, .iastore, 1), (40, .aload_n 0, 1), (41, .dup, 1)]), (51, [(42, .getfield 9, 3), (45, .iconst 1, 1), (46, .iadd, 1), (47, .putfield 9, 3), (50, .return_, 1)])]
set_option maxRecDepth 20000 in
theorem zkd_X2_add : ∀ q ∈ zk_X2_add, ∀ e ∈ q.2, decode cX2_add e.1 = .ok e.2 ∧ zlo e = true := by decide +kernel
def zm_X2_add : zMe := ((2, 0, 4, zk_X2_add), (yX2_add, cX2_add, none))
set_option maxRecDepth 20000 in
theorem zp_X2_add : zP zm_X2_add := ⟨zkd_X2_add, List.mem_of_getElem? (i := 496) rfl, by decide +kernel, rfl, rfl, by decide +kernel, by decide +kernel⟩
def zk_X2_howManyAt : zCd := [(4, [(0, .iconst 0, 1), (1, .istore_n 2, 1), (2, .iconst 0, 1), (3, .istore_n 3, 1)]), (10, [(4, .iload_n 3, 1), (5, .aload_n 0, 1), (6, .getfield 9, 3), (9, .if_icmp .ge 22, 3)]), (18, [(12, .aload_n 0, 1), (13, .getfield 15, 3), (16, .iload_n 3, 1), (17, .iaload, 1)]), (26, [(18, .iload_n 1, 1), (19, .if_icmp .ne 6, 3), (22, .iinc 2 1, 3), (25, .iinc 3 1, 3)]), (33, [(28, .goto (-24), 3), (31, .iload_n 2, 1), (32, .ireturn, 1)])]
set_option maxRecDepth 20000 in
theorem zkd_X2_howManyAt : ∀ q ∈ zk_X2_howManyAt, ∀ e ∈ q.2, decode cX2_howManyAt e.1 = .ok e.2 ∧ zlo e = true := by decide +kernel
def zm_X2_howManyAt : zMe := ((2, 1, 4, zk_X2_howManyAt), (yX2_howManyAt, cX2_howManyAt, (some .int)))
set_option maxRecDepth 20000 in
theorem zp_X2_howManyAt : zP zm_X2_howManyAt := ⟨zkd_X2_howManyAt, List.mem_of_getElem? (i := 751) rfl, by decide +kernel, rfl, rfl, by decide +kernel, by decide +kernel⟩
def zk_X2_howMany : zCd := [(6, [(0, .iconst 0, 1), (1, .istore_n 3, 1), (2, .iconst 0, 1), (3, .istore 4, 2), (5, .iload 4, 2)]), (16, [(7, .aload_n 0, 1), (8, .getfield 9, 3), (11, .if_icmp .ge 34, 3), (14, .aload_n 0, 1), (15, .getfield 15, 3)]), (26, [(18, .iload 4, 2), (20, .iaload, 1), (21, .iload_n 1, 1), (22, .if_icmp .ne 17, 3), (25, .aload_n 0, 1)]), (34, [(26, .getfield 19, 3), (29, .iload 4, 2), (31, .iaload, 1), (32, .iload_n 2, 1), (33, .if_icmp .ne 6, 3)]), (47, [(36, .iinc 3 1, 3), (39, .iinc 4 1, 3), (42, .goto (-37), 3), (45, .iload_n 3, 1), (46, .ireturn, 1)])]
set_option maxRecDepth 20000 in
theorem zkd_X2_howMany : ∀ q ∈ zk_X2_howMany, ∀ e ∈ q.2, decode cX2_howMany e.1 = .ok e.2 ∧ zlo e = true := by decide +kernel
def zm_X2_howMany : zMe := ((2, 1, 5, zk_X2_howMany), (yX2_howMany, cX2_howMany, (some .int)))
set_option maxRecDepth 20000 in
theorem zp_X2_howMany : zP zm_X2_howMany := ⟨zkd_X2_howMany, List.mem_of_getElem? (i := 492) rfl, by decide +kernel, rfl, rfl, by decide +kernel, by decide +kernel⟩
def zk_X2_nth : zCd := [(7, [(0, .iconst 0, 1), (1, .istore 4, 2), (3, .iconst 0, 1), (4, .istore 5, 2), (6, .iload 5, 2)]), (17, [(8, .aload_n 0, 1), (9, .getfield 9, 3), (12, .if_icmp .ge 48, 3), (15, .aload_n 0, 1), (16, .getfield 15, 3)]), (27, [(19, .iload 5, 2), (21, .iaload, 1), (22, .iload_n 1, 1), (23, .if_icmp .ne 31, 3), (26, .aload_n 0, 1)]), (35, [(27, .getfield 19, 3), (30, .iload 5, 2), (32, .iaload, 1), (33, .iload_n 2, 1), (34, .if_icmp .ne 20, 3)]), (45, [(37, .iload 4, 2), (39, .iload_n 3, 1), (40, .if_icmp .ne 11, 3), (43, .aload_n 0, 1), (44, .getfield 22, 3)]), (55, [(47, .iload 5, 2), (49, .iaload, 1), (50, .ireturn, 1), (51, .iinc 4 1, 3), (54, .iinc 5 1, 3)]), (62, [(57, .goto (-51), 3), (60, .iconst (-1), 1), (61, .ireturn, 1)])]
set_option maxRecDepth 20000 in
theorem zkd_X2_nth : ∀ q ∈ zk_X2_nth, ∀ e ∈ q.2, decode cX2_nth e.1 = .ok e.2 ∧ zlo e = true := by decide +kernel
def zm_X2_nth : zMe := ((2, 1, 6, zk_X2_nth), (yX2_nth, cX2_nth, (some .int)))
set_option maxRecDepth 20000 in
theorem zp_X2_nth : zP zm_X2_nth := ⟨zkd_X2_nth, List.mem_of_getElem? (i := 678) rfl, by decide +kernel, rfl, rfl, by decide +kernel, by decide +kernel⟩
def zk_X3_has : zCd := [(6, [(0, .iload_n 1, 1), (1, .ifCond .lt 15, 3), (4, .iload_n 1, 1), (5, .aload_n 0, 1)]), (14, [(6, .getfield 9, 3), (9, .if_icmp .ge 7, 3), (12, .iconst 1, 1), (13, .goto 4, 3)]), (18, [(16, .iconst 0, 1), (17, .ireturn, 1)])]
set_option maxRecDepth 20000 in
theorem zkd_X3_has : ∀ q ∈ zk_X3_has, ∀ e ∈ q.2, decode cX3_has e.1 = .ok e.2 ∧ zlo e = true := by decide +kernel
def zm_X3_has : zMe := ((3, 2, 2, zk_X3_has), (yX3_has, cX3_has, (some .boolean)))
set_option maxRecDepth 20000 in
theorem zp_X3_has : zP zm_X3_has := ⟨zkd_X3_has, List.mem_of_getElem? (i := 217) rfl, by decide +kernel, rfl, rfl, by decide +kernel, by decide +kernel⟩
def zk_X3_isSort : zCd := [(6, [(0, .aload_n 0, 1), (1, .iload_n 1, 1), (2, .invokevirtual 42, 3), (5, .ifCond .eq 17, 3)]), (14, [(8, .aload_n 0, 1), (9, .getfield 15, 3), (12, .iload_n 1, 1), (13, .iaload, 1)]), (20, [(14, .iload_n 2, 1), (15, .if_icmp .ne 7, 3), (18, .iconst 1, 1), (19, .goto 4, 3)]), (24, [(22, .iconst 0, 1), (23, .ireturn, 1)])]
set_option maxRecDepth 20000 in
theorem zkd_X3_isSort : ∀ q ∈ zk_X3_isSort, ∀ e ∈ q.2, decode cX3_isSort e.1 = .ok e.2 ∧ zlo e = true := by decide +kernel
def zm_X3_isSort : zMe := ((3, 2, 3, zk_X3_isSort), (yX3_isSort, cX3_isSort, (some .boolean)))
set_option maxRecDepth 20000 in
theorem zp_X3_isSort : zP zm_X3_isSort := ⟨zkd_X3_isSort, List.mem_of_getElem? (i := 271) rfl, by decide +kernel, rfl, rfl, by decide +kernel, by decide +kernel⟩
def zk_X3_isOfKind : zCd := [(6, [(0, .aload_n 0, 1), (1, .iload_n 1, 1), (2, .invokevirtual 42, 3), (5, .ifCond .eq 27, 3)]), (14, [(8, .aload_n 0, 1), (9, .getfield 15, 3), (12, .iload_n 1, 1), (13, .iaload, 1)]), (20, [(14, .iconst 1, 1), (15, .if_icmp .eq 17, 3), (18, .aload_n 0, 1), (19, .getfield 19, 3)]), (26, [(22, .iload_n 1, 1), (23, .iaload, 1), (24, .iload_n 2, 1), (25, .if_icmp .ne 7, 3)]), (34, [(28, .iconst 1, 1), (29, .goto 4, 3), (32, .iconst 0, 1), (33, .ireturn, 1)])]
set_option maxRecDepth 20000 in
theorem zkd_X3_isOfKind : ∀ q ∈ zk_X3_isOfKind, ∀ e ∈ q.2, decode cX3_isOfKind e.1 = .ok e.2 ∧ zlo e = true := by decide +kernel
def zm_X3_isOfKind : zMe := ((3, 2, 3, zk_X3_isOfKind), (yX3_isOfKind, cX3_isOfKind, (some .boolean)))
set_option maxRecDepth 20000 in
theorem zp_X3_isOfKind : zP zm_X3_isOfKind := ⟨zkd_X3_isOfKind, List.mem_of_getElem? (i := 263) rfl, by decide +kernel, rfl, rfl, by decide +kernel, by decide +kernel⟩
def zk_X3_isRowOf : zCd := [(4, [(0, .aload_n 0, 1), (1, .iload_n 1, 1), (2, .iconst 1, 1), (3, .invokevirtual 46, 3)]), (14, [(6, .ifCond .eq 17, 3), (9, .aload_n 0, 1), (10, .getfield 19, 3), (13, .iload_n 1, 1)]), (20, [(14, .iaload, 1), (15, .iload_n 2, 1), (16, .if_icmp .ne 7, 3), (19, .iconst 1, 1)]), (25, [(20, .goto 4, 3), (23, .iconst 0, 1), (24, .ireturn, 1)])]
set_option maxRecDepth 20000 in
theorem zkd_X3_isRowOf : ∀ q ∈ zk_X3_isRowOf, ∀ e ∈ q.2, decode cX3_isRowOf e.1 = .ok e.2 ∧ zlo e = true := by decide +kernel
def zm_X3_isRowOf : zMe := ((3, 2, 3, zk_X3_isRowOf), (yX3_isRowOf, cX3_isRowOf, (some .boolean)))
set_option maxRecDepth 20000 in
theorem zp_X3_isRowOf : zP zm_X3_isRowOf := ⟨zkd_X3_isRowOf, List.mem_of_getElem? (i := 267) rfl, by decide +kernel, rfl, rfl, by decide +kernel, by decide +kernel⟩
def zk_X3_markOf : zCd := [(6, [(0, .aload_n 0, 1), (1, .getfield 19, 3), (4, .iload_n 1, 1), (5, .iaload, 1)]), (10, [(6, .bipush 10, 2), (8, .isub, 1), (9, .ireturn, 1)])]
set_option maxRecDepth 20000 in
theorem zkd_X3_markOf : ∀ q ∈ zk_X3_markOf, ∀ e ∈ q.2, decode cX3_markOf e.1 = .ok e.2 ∧ zlo e = true := by decide +kernel
def zm_X3_markOf : zMe := ((3, 1, 2, zk_X3_markOf), (yX3_markOf, cX3_markOf, (some .int)))
set_option maxRecDepth 20000 in
theorem zp_X3_markOf : zP zm_X3_markOf := ⟨zkd_X3_markOf, List.mem_of_getElem? (i := 244) rfl, by decide +kernel, rfl, rfl, by decide +kernel, by decide +kernel⟩
def zk_X3_add : zCd := [(10, [(0, .aload_n 0, 1), (1, .getfield 9, 3), (4, .bipush 100, 2), (6, .if_icmp .lt 6, 3), (9, .bipush (-3), 2)]), (18, [(11, .ireturn, 1), (12, .aload_n 0, 1), (13, .getfield 15, 3), (16, .aload_n 0, 1), (17, .getfield 9, 3)]), (27, [(20, .iload_n 1, 1), (21, .iastore, 1), (22, .aload_n 0, 1), (23, .getfield 19, 3), (26, .aload_n 0, 1)]), (34, [(27, .getfield 9, 3), (30, .iload_n 2, 1), (31, .iastore, 1), (32, .aload_n 0, 1), (33, .getfield 22, 3)]), (43, [(36, .aload_n 0, 1), (37, .getfield 9, 3), (40, .iload_n 3, 1), (41, .iastore, 1), (42, .aload_n 0, 1)]), (50, [(43, .dup, 1), (44, .getfield 9, 3), (47, .iconst 1, 1), (48, .iadd, 1), (49, .putfield 9, 3)]), (59, [(52, .aload_n 0, 1), (53, .getfield 9, 3), (56, .iconst 1, 1), (57, .isub, 1), (58, .ireturn, 1)])]
set_option maxRecDepth 20000 in
theorem zkd_X3_add : ∀ q ∈ zk_X3_add, ∀ e ∈ q.2, decode cX3_add e.1 = .ok e.2 ∧ zlo e = true := by decide +kernel
def zm_X3_add : zMe := ((3, 1, 4, zk_X3_add), (yX3_add, cX3_add, (some .int)))
set_option maxRecDepth 20000 in
theorem zp_X3_add : zP zm_X3_add := ⟨zkd_X3_add, List.mem_of_getElem? (i := 279) rfl, by decide +kernel, rfl, rfl, by decide +kernel, by decide +kernel⟩
def zk_X3_addRowOfOne : zCd := [(4, [(0, .aload_n 0, 1), (1, .iconst 1, 1), (2, .iload_n 1, 1), (3, .iconst 0, 1)]), (10, [(4, .invokevirtual 50, 3), (7, .istore_n 3, 1), (8, .iload_n 3, 1), (9, .bipush (-3), 2)]), (17, [(11, .if_icmp .eq 10, 3), (14, .aload_n 0, 1), (15, .iload_n 3, 1), (16, .iload_n 2, 1)]), (23, [(17, .invokevirtual 54, 3), (20, .pop, 1), (21, .iload_n 3, 1), (22, .ireturn, 1)])]
set_option maxRecDepth 20000 in
theorem zkd_X3_addRowOfOne : ∀ q ∈ zk_X3_addRowOfOne, ∀ e ∈ q.2, decode cX3_addRowOfOne e.1 = .ok e.2 ∧ zlo e = true := by decide +kernel
def zm_X3_addRowOfOne : zMe := ((3, 1, 4, zk_X3_addRowOfOne), (yX3_addRowOfOne, cX3_addRowOfOne, (some .int)))
set_option maxRecDepth 20000 in
theorem zp_X3_addRowOfOne : zP zm_X3_addRowOfOne := ⟨zkd_X3_addRowOfOne, List.mem_of_getElem? (i := 275) rfl, by decide +kernel, rfl, rfl, by decide +kernel, by decide +kernel⟩
def zk_X3_append : zCd := [(7, [(0, .aload_n 0, 1), (1, .getfield 29, 3), (4, .iload_n 1, 1), (5, .iconst 5, 1), (6, .imul, 1)]), (14, [(7, .aload_n 0, 1), (8, .getfield 22, 3), (11, .iload_n 1, 1), (12, .iaload, 1), (13, .iadd, 1)]), (21, [(14, .iload_n 2, 1), (15, .iastore, 1), (16, .aload_n 0, 1), (17, .getfield 22, 3), (20, .iload_n 1, 1)]), (26, [(21, .dup2, 1), (22, .iaload, 1), (23, .iconst 1, 1), (24, .iadd, 1), (25, .iastore, 1)]), (33, [(26, .aload_n 0, 1), (27, .iload_n 2, 1), (28, .invokevirtual 58, 3), (31, .aload_n 0, 1), (32, .getfield 22, 3)]), (38, [(35, .iload_n 1, 1), (36, .iaload, 1), (37, .ireturn, 1)])]
set_option maxRecDepth 20000 in
theorem zkd_X3_append : ∀ q ∈ zk_X3_append, ∀ e ∈ q.2, decode cX3_append e.1 = .ok e.2 ∧ zlo e = true := by decide +kernel
def zm_X3_append : zMe := ((3, 1, 3, zk_X3_append), (yX3_append, cX3_append, (some .int)))
set_option maxRecDepth 20000 in
theorem zp_X3_append : zP zm_X3_append := ⟨zkd_X3_append, List.mem_of_getElem? (i := 283) rfl, by decide +kernel, rfl, rfl, by decide +kernel, by decide +kernel⟩
def zk_X3_setElement : zCd := [(6, [(0, .aload_n 0, 1), (1, .getfield 29, 3), (4, .iload_n 1, 1), (5, .iconst 5, 1)]), (10, [(6, .imul, 1), (7, .iload_n 2, 1), (8, .iadd, 1), (9, .iload_n 3, 1)]), (16, [(10, .iastore, 1), (11, .aload_n 0, 1), (12, .getfield 22, 3), (15, .iload_n 1, 1)]), (20, [(16, .dup2, 1), (17, .iaload, 1), (18, .iconst 1, 1), (19, .iadd, 1)]), (22, [(20, .iastore, 1), (21, .return_, 1)])]
set_option maxRecDepth 20000 in
theorem zkd_X3_setElement : ∀ q ∈ zk_X3_setElement, ∀ e ∈ q.2, decode cX3_setElement e.1 = .ok e.2 ∧ zlo e = true := by decide +kernel
def zm_X3_setElement : zMe := ((3, 0, 4, zk_X3_setElement), (yX3_setElement, cX3_setElement, none))
set_option maxRecDepth 20000 in
theorem zp_X3_setElement : zP zm_X3_setElement := ⟨zkd_X3_setElement, List.mem_of_getElem? (i := 470) rfl, by decide +kernel, rfl, rfl, by decide +kernel, by decide +kernel⟩
def zk_X3_finish : zCd := [(6, [(0, .aload_n 0, 1), (1, .getfield 25, 3), (4, .iload_n 1, 1), (5, .aload_n 0, 1)]), (12, [(6, .getfield 15, 3), (9, .iload_n 1, 1), (10, .iaload, 1), (11, .ifCond .eq 7, 3)]), (20, [(14, .iconst 1, 1), (15, .goto 4, 3), (18, .iconst 0, 1), (19, .bastore, 1)]), (21, [(20, .return_, 1)])]
set_option maxRecDepth 20000 in
theorem zkd_X3_finish : ∀ q ∈ zk_X3_finish, ∀ e ∈ q.2, decode cX3_finish e.1 = .ok e.2 ∧ zlo e = true := by decide +kernel
def zm_X3_finish : zMe := ((3, 0, 2, zk_X3_finish), (yX3_finish, cX3_finish, none))
set_option maxRecDepth 20000 in
theorem zp_X3_finish : zP zm_X3_finish := ⟨zkd_X3_finish, List.mem_of_getElem? (i := 287) rfl, by decide +kernel, rfl, rfl, by decide +kernel, by decide +kernel⟩
def zk_X3_partAt : zCd := [(6, [(0, .aload_n 0, 1), (1, .getfield 29, 3), (4, .iload_n 1, 1), (5, .iconst 5, 1)]), (10, [(6, .imul, 1), (7, .iload_n 2, 1), (8, .iadd, 1), (9, .iaload, 1)]), (11, [(10, .ireturn, 1)])]
set_option maxRecDepth 20000 in
theorem zkd_X3_partAt : ∀ q ∈ zk_X3_partAt, ∀ e ∈ q.2, decode cX3_partAt e.1 = .ok e.2 ∧ zlo e = true := by decide +kernel
def zm_X3_partAt : zMe := ((3, 1, 3, zk_X3_partAt), (yX3_partAt, cX3_partAt, (some .int)))
set_option maxRecDepth 20000 in
theorem zp_X3_partAt : zP zm_X3_partAt := ⟨zkd_X3_partAt, List.mem_of_getElem? (i := 233) rfl, by decide +kernel, rfl, rfl, by decide +kernel, by decide +kernel⟩
def zk_X3_inRow : zCd := [(4, [(0, .aload_n 0, 1), (1, .iload_n 1, 1), (2, .iconst 1, 1), (3, .invokevirtual 46, 3)]), (14, [(6, .ifCond .eq 26, 3), (9, .iload_n 2, 1), (10, .ifCond .lt 22, 3), (13, .iload_n 2, 1)]), (20, [(14, .aload_n 0, 1), (15, .getfield 22, 3), (18, .iload_n 1, 1), (19, .iaload, 1)]), (26, [(20, .if_icmp .ge 12, 3), (23, .aload_n 0, 1), (24, .iload_n 1, 1), (25, .iload_n 2, 1)]), (34, [(26, .invokevirtual 62, 3), (29, .goto 4, 3), (32, .iconst (-1), 1), (33, .ireturn, 1)])]
set_option maxRecDepth 20000 in
theorem zkd_X3_inRow : ∀ q ∈ zk_X3_inRow, ∀ e ∈ q.2, decode cX3_inRow e.1 = .ok e.2 ∧ zlo e = true := by decide +kernel
def zm_X3_inRow : zMe := ((3, 1, 3, zk_X3_inRow), (yX3_inRow, cX3_inRow, (some .int)))
set_option maxRecDepth 20000 in
theorem zp_X3_inRow : zP zm_X3_inRow := ⟨zkd_X3_inRow, List.mem_of_getElem? (i := 536) rfl, by decide +kernel, rfl, rfl, by decide +kernel, by decide +kernel⟩
def zk_X3_elementAt : zCd := [(4, [(0, .aload_n 0, 1), (1, .iload_n 1, 1), (2, .iload_n 2, 1), (3, .invokevirtual 62, 3)]), (10, [(6, .istore_n 3, 1), (7, .iload_n 3, 1), (8, .iconst (-1), 1), (9, .if_icmp .eq 7, 3)]), (18, [(12, .iload_n 3, 1), (13, .goto 20, 3), (16, .aload_n 0, 1), (17, .getfield 32, 3)]), (26, [(20, .getfield 65, 3), (23, .aload_n 0, 1), (24, .iload_n 1, 1), (25, .invokevirtual 70, 3)]), (32, [(28, .iconst 5, 1), (29, .imul, 1), (30, .iload_n 2, 1), (31, .iadd, 1)]), (34, [(32, .iaload, 1), (33, .ireturn, 1)])]
set_option maxRecDepth 20000 in
theorem zkd_X3_elementAt : ∀ q ∈ zk_X3_elementAt, ∀ e ∈ q.2, decode cX3_elementAt e.1 = .ok e.2 ∧ zlo e = true := by decide +kernel
def zm_X3_elementAt : zMe := ((3, 1, 4, zk_X3_elementAt), (yX3_elementAt, cX3_elementAt, (some .int)))
set_option maxRecDepth 20000 in
theorem zp_X3_elementAt : zP zm_X3_elementAt := ⟨zkd_X3_elementAt, List.mem_of_getElem? (i := 248) rfl, by decide +kernel, rfl, rfl, by decide +kernel, by decide +kernel⟩
def zk_X3_elementByName : zCd := [(6, [(0, .aload_n 0, 1), (1, .getfield 32, 3), (4, .aload_n 0, 1), (5, .iload_n 1, 1)]), (14, [(6, .invokevirtual 70, 3), (9, .iload_n 2, 1), (10, .invokevirtual 74, 3), (13, .istore_n 3, 1)]), (20, [(14, .iload_n 3, 1), (15, .iconst (-1), 1), (16, .if_icmp .ne 7, 3), (19, .iconst (-1), 1)]), (26, [(20, .goto 9, 3), (23, .aload_n 0, 1), (24, .iload_n 1, 1), (25, .iload_n 3, 1)]), (30, [(26, .invokevirtual 77, 3), (29, .ireturn, 1)])]
set_option maxRecDepth 20000 in
theorem zkd_X3_elementByName : ∀ q ∈ zk_X3_elementByName, ∀ e ∈ q.2, decode cX3_elementByName e.1 = .ok e.2 ∧ zlo e = true := by decide +kernel
def zm_X3_elementByName : zMe := ((3, 1, 4, zk_X3_elementByName), (yX3_elementByName, cX3_elementByName, (some .int)))
set_option maxRecDepth 20000 in
theorem zp_X3_elementByName : zP zm_X3_elementByName := ⟨zkd_X3_elementByName, List.mem_of_getElem? (i := 540) rfl, by decide +kernel, rfl, rfl, by decide +kernel, by decide +kernel⟩
def zk_X3_howManyElements : zCd := [(8, [(0, .aload_n 0, 1), (1, .getfield 32, 3), (4, .getfield 80, 3), (7, .aload_n 0, 1)]), (14, [(8, .iload_n 1, 1), (9, .invokevirtual 70, 3), (12, .iaload, 1), (13, .ireturn, 1)])]
set_option maxRecDepth 20000 in
theorem zkd_X3_howManyElements : ∀ q ∈ zk_X3_howManyElements, ∀ e ∈ q.2, decode cX3_howManyElements e.1 = .ok e.2 ∧ zlo e = true := by decide +kernel
def zm_X3_howManyElements : zMe := ((3, 1, 2, zk_X3_howManyElements), (yX3_howManyElements, cX3_howManyElements, (some .int)))
set_option maxRecDepth 20000 in
theorem zp_X3_howManyElements : zP zm_X3_howManyElements := ⟨zkd_X3_howManyElements, List.mem_of_getElem? (i := 239) rfl, by decide +kernel, rfl, rfl, by decide +kernel, by decide +kernel⟩
def zk_X3_isWhole : zCd := [(9, [(0, .aload_n 0, 1), (1, .iload_n 1, 1), (2, .invokevirtual 42, 3), (5, .ifCond .eq 9, 3), (8, .iload_n 2, 1)]), (17, [(9, .bipush 16, 2), (11, .if_icmp .le 5, 3), (14, .iconst 0, 1), (15, .ireturn, 1), (16, .aload_n 0, 1)]), (49, [(17, .getfield 15, 3), (20, .iload_n 1, 1), (21, .iaload, 1), (22, .lookupswitch 40 #[(1, 26), (2, 33)], 26), (48, .aload_n 0, 1)]), (56, [(49, .iload_n 1, 1), (50, .iload_n 2, 1), (51, .invokevirtual 83, 3), (54, .ireturn, 1), (55, .aload_n 0, 1)]), (63, [(56, .iload_n 1, 1), (57, .iload_n 2, 1), (58, .invokevirtual 86, 3), (61, .ireturn, 1), (62, .iconst 1, 1)]), (64, [(63, .ireturn, 1)])]
set_option maxRecDepth 20000 in
theorem zkd_X3_isWhole : ∀ q ∈ zk_X3_isWhole, ∀ e ∈ q.2, decode cX3_isWhole e.1 = .ok e.2 ∧ zlo e = true := by decide +kernel
def zm_X3_isWhole : zMe := ((3, 2, 3, zk_X3_isWhole), (yX3_isWhole, cX3_isWhole, (some .boolean)))
set_option maxRecDepth 20000 in
theorem zp_X3_isWhole : zP zm_X3_isWhole := ⟨zkd_X3_isWhole, List.mem_of_getElem? (i := 221) rfl, by decide +kernel, rfl, rfl, by decide +kernel, by decide +kernel⟩
def zk_X3_areAllWhole : zCd := [(4, [(0, .iconst 0, 1), (1, .istore_n 3, 1), (2, .iload_n 3, 1), (3, .aload_n 0, 1)]), (10, [(4, .getfield 22, 3), (7, .iload_n 1, 1), (8, .iaload, 1), (9, .if_icmp .ge 27, 3)]), (16, [(12, .aload_n 0, 1), (13, .aload_n 0, 1), (14, .iload_n 1, 1), (15, .iload_n 3, 1)]), (22, [(16, .invokevirtual 62, 3), (19, .iload_n 2, 1), (20, .iconst 1, 1), (21, .iadd, 1)]), (30, [(22, .invokevirtual 89, 3), (25, .ifCond .ne 5, 3), (28, .iconst 0, 1), (29, .ireturn, 1)]), (38, [(30, .iinc 3 1, 3), (33, .goto (-31), 3), (36, .iconst 1, 1), (37, .ireturn, 1)])]
set_option maxRecDepth 20000 in
theorem zkd_X3_areAllWhole : ∀ q ∈ zk_X3_areAllWhole, ∀ e ∈ q.2, decode cX3_areAllWhole e.1 = .ok e.2 ∧ zlo e = true := by decide +kernel
def zm_X3_areAllWhole : zMe := ((3, 2, 4, zk_X3_areAllWhole), (yX3_areAllWhole, cX3_areAllWhole, (some .boolean)))
set_option maxRecDepth 20000 in
theorem zp_X3_areAllWhole : zP zm_X3_areAllWhole := ⟨zkd_X3_areAllWhole, List.mem_of_getElem? (i := 229) rfl, by decide +kernel, rfl, rfl, by decide +kernel, by decide +kernel⟩
def zk_X3_hasAllElementsWhole : zCd := [(5, [(0, .iconst 0, 1), (1, .istore_n 3, 1), (2, .iload_n 3, 1), (3, .aload_n 0, 1), (4, .iload_n 1, 1)]), (14, [(5, .invokevirtual 92, 3), (8, .if_icmp .ge 50, 3), (11, .aload_n 0, 1), (12, .iload_n 1, 1), (13, .iload_n 3, 1)]), (23, [(14, .invokevirtual 62, 3), (17, .istore 4, 2), (19, .iload 4, 2), (21, .iconst (-1), 1), (22, .if_icmp .ne 16, 3)]), (32, [(25, .aload_n 0, 1), (26, .iload_n 1, 1), (27, .iload_n 3, 1), (28, .invokevirtual 77, 3), (31, .iconst (-1), 1)]), (42, [(32, .if_icmp .ne 20, 3), (35, .goto 15, 3), (38, .aload_n 0, 1), (39, .iload 4, 2), (41, .iload_n 2, 1)]), (51, [(42, .iconst 1, 1), (43, .iadd, 1), (44, .invokevirtual 89, 3), (47, .ifCond .ne 5, 3), (50, .iconst 0, 1)]), (60, [(51, .ireturn, 1), (52, .iinc 3 1, 3), (55, .goto (-53), 3), (58, .iconst 1, 1), (59, .ireturn, 1)])]
set_option maxRecDepth 20000 in
theorem zkd_X3_hasAllElementsWhole : ∀ q ∈ zk_X3_hasAllElementsWhole, ∀ e ∈ q.2, decode cX3_hasAllElementsWhole e.1 = .ok e.2 ∧ zlo e = true := by decide +kernel
def zm_X3_hasAllElementsWhole : zMe := ((3, 2, 5, zk_X3_hasAllElementsWhole), (yX3_hasAllElementsWhole, cX3_hasAllElementsWhole, (some .boolean)))
set_option maxRecDepth 20000 in
theorem zp_X3_hasAllElementsWhole : zP zm_X3_hasAllElementsWhole := ⟨zkd_X3_hasAllElementsWhole, List.mem_of_getElem? (i := 235) rfl, by decide +kernel, rfl, rfl, by decide +kernel, by decide +kernel⟩
def zk_X3_areEqual : zCd := [(10, [(0, .iload_n 1, 1), (1, .iload_n 2, 1), (2, .if_icmp .ne 5, 3), (5, .iconst 1, 1), (6, .ireturn, 1), (7, .aload_n 0, 1), (8, .iload_n 1, 1), (9, .invokevirtual 42, 3)]), (27, [(12, .ifCond .eq 17, 3), (15, .aload_n 0, 1), (16, .iload_n 2, 1), (17, .invokevirtual 42, 3), (20, .ifCond .eq 9, 3), (23, .iload_n 3, 1), (24, .bipush 16, 2), (26, .if_icmp .le 5, 3)]), (39, [(29, .iconst 0, 1), (30, .ireturn, 1), (31, .aload_n 0, 1), (32, .getfield 15, 3), (35, .iload_n 1, 1), (36, .iaload, 1), (37, .aload_n 0, 1), (38, .getfield 15, 3)]), (53, [(41, .iload_n 2, 1), (42, .iaload, 1), (43, .if_icmp .ne 18, 3), (46, .aload_n 0, 1), (47, .getfield 19, 3), (50, .iload_n 1, 1), (51, .iaload, 1), (52, .aload_n 0, 1)]), (65, [(53, .getfield 19, 3), (56, .iload_n 2, 1), (57, .iaload, 1), (58, .if_icmp .eq 5, 3), (61, .iconst 0, 1), (62, .ireturn, 1), (63, .aload_n 0, 1), (64, .getfield 15, 3)]), (77, [(67, .iload_n 1, 1), (68, .iaload, 1), (69, .iconst 2, 1), (70, .if_icmp .ne 11, 3), (73, .aload_n 0, 1), (74, .iload_n 1, 1), (75, .iload_n 2, 1), (76, .iload_n 3, 1)]), (89, [(77, .invokevirtual 95, 3), (80, .ireturn, 1), (81, .aload_n 0, 1), (82, .getfield 22, 3), (85, .iload_n 1, 1), (86, .iaload, 1), (87, .aload_n 0, 1), (88, .getfield 22, 3)]), (103, [(91, .iload_n 2, 1), (92, .iaload, 1), (93, .if_icmp .ne 26, 3), (96, .aload_n 0, 1), (97, .getfield 15, 3), (100, .iload_n 1, 1), (101, .iaload, 1), (102, .ifCond .eq 13, 3)]), (117, [(105, .aload_n 0, 1), (106, .iload_n 1, 1), (107, .iload_n 2, 1), (108, .iload_n 3, 1), (109, .invokevirtual 99, 3), (112, .ifCond .eq 7, 3), (115, .iconst 1, 1), (116, .goto 4, 3)]), (121, [(119, .iconst 0, 1), (120, .ireturn, 1)])]
set_option maxRecDepth 20000 in
theorem zkd_X3_areEqual : ∀ q ∈ zk_X3_areEqual, ∀ e ∈ q.2, decode cX3_areEqual e.1 = .ok e.2 ∧ zlo e = true := by decide +kernel
def zm_X3_areEqual : zMe := ((3, 2, 4, zk_X3_areEqual), (yX3_areEqual, cX3_areEqual, (some .boolean)))
set_option maxRecDepth 20000 in
theorem zp_X3_areEqual : zP zm_X3_areEqual := ⟨zkd_X3_areEqual, List.mem_of_getElem? (i := 553) rfl, by decide +kernel, rfl, rfl, by decide +kernel, by decide +kernel⟩
def zk_X3_haveEqualElements : zCd := [(7, [(0, .iconst 0, 1), (1, .istore 4, 2), (3, .iload 4, 2), (5, .aload_n 0, 1), (6, .iload_n 1, 1)]), (16, [(7, .invokevirtual 92, 3), (10, .if_icmp .ge 35, 3), (13, .aload_n 0, 1), (14, .aload_n 0, 1), (15, .iload_n 1, 1)]), (24, [(16, .iload 4, 2), (18, .invokevirtual 77, 3), (21, .aload_n 0, 1), (22, .iload_n 2, 1), (23, .iload 4, 2)]), (32, [(25, .invokevirtual 77, 3), (28, .iload_n 3, 1), (29, .iconst 1, 1), (30, .iadd, 1), (31, .invokevirtual 102, 3)]), (43, [(34, .ifCond .ne 5, 3), (37, .iconst 0, 1), (38, .ireturn, 1), (39, .iinc 4 1, 3), (42, .goto (-39), 3)]), (47, [(45, .iconst 1, 1), (46, .ireturn, 1)])]
set_option maxRecDepth 20000 in
theorem zkd_X3_haveEqualElements : ∀ q ∈ zk_X3_haveEqualElements, ∀ e ∈ q.2, decode cX3_haveEqualElements e.1 = .ok e.2 ∧ zlo e = true := by decide +kernel
def zm_X3_haveEqualElements : zMe := ((3, 2, 5, zk_X3_haveEqualElements), (yX3_haveEqualElements, cX3_haveEqualElements, (some .boolean)))
set_option maxRecDepth 20000 in
theorem zp_X3_haveEqualElements : zP zm_X3_haveEqualElements := ⟨zkd_X3_haveEqualElements, List.mem_of_getElem? (i := 560) rfl, by decide +kernel, rfl, rfl, by decide +kernel, by decide +kernel⟩
def zk_X3_haveEqualParts : zCd := [(7, [(0, .iconst 0, 1), (1, .istore 4, 2), (3, .iload 4, 2), (5, .aload_n 0, 1), (6, .getfield 22, 3)]), (16, [(9, .iload_n 1, 1), (10, .iaload, 1), (11, .if_icmp .ge 35, 3), (14, .aload_n 0, 1), (15, .aload_n 0, 1)]), (24, [(16, .iload_n 1, 1), (17, .iload 4, 2), (19, .invokevirtual 62, 3), (22, .aload_n 0, 1), (23, .iload_n 2, 1)]), (32, [(24, .iload 4, 2), (26, .invokevirtual 62, 3), (29, .iload_n 3, 1), (30, .iconst 1, 1), (31, .iadd, 1)]), (41, [(32, .invokevirtual 102, 3), (35, .ifCond .ne 5, 3), (38, .iconst 0, 1), (39, .ireturn, 1), (40, .iinc 4 1, 3)]), (48, [(43, .goto (-40), 3), (46, .iconst 1, 1), (47, .ireturn, 1)])]
set_option maxRecDepth 20000 in
theorem zkd_X3_haveEqualParts : ∀ q ∈ zk_X3_haveEqualParts, ∀ e ∈ q.2, decode cX3_haveEqualParts e.1 = .ok e.2 ∧ zlo e = true := by decide +kernel
def zm_X3_haveEqualParts : zMe := ((3, 2, 5, zk_X3_haveEqualParts), (yX3_haveEqualParts, cX3_haveEqualParts, (some .boolean)))
set_option maxRecDepth 20000 in
theorem zp_X3_haveEqualParts : zP zm_X3_haveEqualParts := ⟨zkd_X3_haveEqualParts, List.mem_of_getElem? (i := 562) rfl, by decide +kernel, rfl, rfl, by decide +kernel, by decide +kernel⟩
def zk_X4_write : zCd := [(7, [(0, .aload_n 0, 1), (1, .iconst 0, 1), (2, .invokevirtual 38, 3), (5, .aload_n 0, 1), (6, .iload_n 1, 1)]), (16, [(7, .iconst 0, 1), (8, .invokevirtual 42, 3), (11, .aload_n 0, 1), (12, .getfield 23, 3), (15, .sipush 2000, 3)]), (26, [(18, .if_icmp .le 6, 3), (21, .bipush (-3), 2), (23, .ireturn, 1), (24, .aload_n 0, 1), (25, .iconst 1, 1)]), (33, [(26, .invokevirtual 38, 3), (29, .aload_n 0, 1), (30, .iload_n 1, 1), (31, .iconst 0, 1), (32, .invokevirtual 42, 3)]), (44, [(35, .aload_n 0, 1), (36, .aload_n 0, 1), (37, .getfield 23, 3), (40, .putfield 15, 3), (43, .aload_n 0, 1)]), (48, [(44, .getfield 15, 3), (47, .ireturn, 1)])]
set_option maxRecDepth 20000 in
theorem zkd_X4_write : ∀ q ∈ zk_X4_write, ∀ e ∈ q.2, decode cX4_write e.1 = .ok e.2 ∧ zlo e = true := by decide +kernel
def zm_X4_write : zMe := ((4, 1, 2, zk_X4_write), (yX4_write, cX4_write, (some .int)))
set_option maxRecDepth 20000 in
theorem zp_X4_write : zP zm_X4_write := ⟨zkd_X4_write, List.mem_of_getElem? (i := 582) rfl, by decide +kernel, rfl, rfl, by decide +kernel, by decide +kernel⟩
def zk_X4_begin : zCd := [(6, [(0, .aload_n 0, 1), (1, .iconst 0, 1), (2, .putfield 23, 3), (5, .aload_n 0, 1)]), (11, [(6, .iload_n 1, 1), (7, .putfield 26, 3), (10, .return_, 1)])]
set_option maxRecDepth 20000 in
theorem zkd_X4_begin : ∀ q ∈ zk_X4_begin, ∀ e ∈ q.2, decode cX4_begin e.1 = .ok e.2 ∧ zlo e = true := by decide +kernel
def zm_X4_begin : zMe := ((4, 0, 2, zk_X4_begin), (yX4_begin, cX4_begin, none))
set_option maxRecDepth 20000 in
theorem zp_X4_begin : zP zm_X4_begin := ⟨zkd_X4_begin, List.mem_of_getElem? (i := 586) rfl, by decide +kernel, rfl, rfl, by decide +kernel, by decide +kernel⟩
def zk_X4_writeByte : zCd := [(8, [(0, .aload_n 0, 1), (1, .getfield 26, 3), (4, .ifCond .eq 24, 3), (7, .aload_n 0, 1)]), (18, [(8, .getfield 23, 3), (11, .sipush 2000, 3), (14, .if_icmp .ge 14, 3), (17, .aload_n 0, 1)]), (26, [(18, .getfield 9, 3), (21, .aload_n 0, 1), (22, .getfield 23, 3), (25, .iload_n 1, 1)]), (30, [(26, .i2b, 1), (27, .bastore, 1), (28, .aload_n 0, 1), (29, .dup, 1)]), (36, [(30, .getfield 23, 3), (33, .iconst 1, 1), (34, .iadd, 1), (35, .putfield 23, 3)]), (39, [(38, .return_, 1)])]
set_option maxRecDepth 20000 in
theorem zkd_X4_writeByte : ∀ q ∈ zk_X4_writeByte, ∀ e ∈ q.2, decode cX4_writeByte e.1 = .ok e.2 ∧ zlo e = true := by decide +kernel
def zm_X4_writeByte : zMe := ((4, 0, 2, zk_X4_writeByte), (yX4_writeByte, cX4_writeByte, none))
set_option maxRecDepth 20000 in
theorem zp_X4_writeByte : zP zm_X4_writeByte := ⟨zkd_X4_writeByte, List.mem_of_getElem? (i := 608) rfl, by decide +kernel, rfl, rfl, by decide +kernel, by decide +kernel⟩
def zk_X4_writeValue : zCd := [(12, [(0, .aload_n 0, 1), (1, .getfield 34, 3), (4, .iload_n 1, 1), (5, .invokevirtual 46, 3), (8, .ifCond .eq 19, 3), (11, .iload_n 2, 1)]), (25, [(12, .bipush 16, 2), (14, .if_icmp .gt 13, 3), (17, .aload_n 0, 1), (18, .getfield 23, 3), (21, .sipush 2000, 3), (24, .if_icmp .le 4, 3)]), (37, [(27, .return_, 1), (28, .aload_n 0, 1), (29, .getfield 34, 3), (32, .getfield 52, 3), (35, .iload_n 1, 1), (36, .iaload, 1)]), (71, [(37, .lookupswitch 45 #[(1, 27), (2, 36)], 27), (64, .aload_n 0, 1), (65, .iload_n 1, 1), (66, .iload_n 2, 1), (67, .invokevirtual 55, 3), (70, .goto 34, 3)]), (83, [(73, .aload_n 0, 1), (74, .iload_n 1, 1), (75, .iload_n 2, 1), (76, .invokevirtual 58, 3), (79, .goto 25, 3), (82, .aload_n 0, 1)]), (93, [(83, .aload_n 0, 1), (84, .getfield 34, 3), (87, .getfield 61, 3), (90, .iload_n 1, 1), (91, .iaload, 1), (92, .aload_n 0, 1)]), (105, [(93, .getfield 34, 3), (96, .getfield 64, 3), (99, .iload_n 1, 1), (100, .iaload, 1), (101, .invokevirtual 67, 3), (104, .return_, 1)])]
set_option maxRecDepth 20000 in
theorem zkd_X4_writeValue : ∀ q ∈ zk_X4_writeValue, ∀ e ∈ q.2, decode cX4_writeValue e.1 = .ok e.2 ∧ zlo e = true := by decide +kernel
def zm_X4_writeValue : zMe := ((4, 0, 3, zk_X4_writeValue), (yX4_writeValue, cX4_writeValue, none))
set_option maxRecDepth 20000 in
theorem zp_X4_writeValue : zP zm_X4_writeValue := ⟨zkd_X4_writeValue, List.mem_of_getElem? (i := 590) rfl, by decide +kernel, rfl, rfl, by decide +kernel, by decide +kernel⟩
def zk_X4_writeRow : zCd := [(8, [(0, .aload_n 0, 1), (1, .bipush 123, 2), (3, .invokevirtual 70, 3), (6, .iconst 0, 1), (7, .istore_n 3, 1)]), (17, [(8, .iload_n 3, 1), (9, .aload_n 0, 1), (10, .getfield 34, 3), (13, .getfield 64, 3), (16, .iload_n 1, 1)]), (26, [(17, .iaload, 1), (18, .if_icmp .ge 35, 3), (21, .iload_n 3, 1), (22, .ifCond .le 9, 3), (25, .aload_n 0, 1)]), (34, [(26, .bipush 44, 2), (28, .invokevirtual 70, 3), (31, .aload_n 0, 1), (32, .aload_n 0, 1), (33, .getfield 34, 3)]), (43, [(36, .iload_n 1, 1), (37, .iload_n 3, 1), (38, .invokevirtual 74, 3), (41, .iload_n 2, 1), (42, .iconst 1, 1)]), (54, [(43, .iadd, 1), (44, .invokevirtual 42, 3), (47, .iinc 3 1, 3), (50, .goto (-42), 3), (53, .aload_n 0, 1)]), (60, [(54, .bipush 125, 2), (56, .invokevirtual 70, 3), (59, .return_, 1)])]
set_option maxRecDepth 20000 in
theorem zkd_X4_writeRow : ∀ q ∈ zk_X4_writeRow, ∀ e ∈ q.2, decode cX4_writeRow e.1 = .ok e.2 ∧ zlo e = true := by decide +kernel
def zm_X4_writeRow : zMe := ((4, 0, 4, zk_X4_writeRow), (yX4_writeRow, cX4_writeRow, none))
set_option maxRecDepth 20000 in
theorem zp_X4_writeRow : zP zm_X4_writeRow := ⟨zkd_X4_writeRow, List.mem_of_getElem? (i := 623) rfl, by decide +kernel, rfl, rfl, by decide +kernel, by decide +kernel⟩
def zk_X4_writeInstance : zCd := [(13, [(0, .aload_n 0, 1), (1, .getfield 34, 3), (4, .iload_n 1, 1), (5, .invokevirtual 78, 3), (8, .istore_n 3, 1), (9, .iconst 1, 1), (10, .istore 4, 2), (12, .aload_n 0, 1)]), (27, [(13, .bipush 64, 2), (15, .invokevirtual 70, 3), (18, .aload_n 0, 1), (19, .iload_n 3, 1), (20, .invokevirtual 82, 3), (23, .aload_n 0, 1), (24, .bipush 40, 2), (26, .invokevirtual 70, 3)]), (43, [(29, .iconst 0, 1), (30, .istore 5, 2), (32, .iload 5, 2), (34, .aload_n 0, 1), (35, .getfield 30, 3), (38, .getfield 85, 3), (41, .iload_n 3, 1), (42, .iaload, 1)]), (59, [(43, .if_icmp .ge 77, 3), (46, .aload_n 0, 1), (47, .getfield 34, 3), (50, .iload_n 1, 1), (51, .iload 5, 2), (53, .invokevirtual 90, 3), (56, .istore 6, 2), (58, .iload 6, 2)]), (76, [(60, .iconst (-1), 1), (61, .if_icmp .ne 6, 3), (64, .goto 50, 3), (67, .iload 4, 2), (69, .ifCond .ne 9, 3), (72, .aload_n 0, 1), (73, .bipush 44, 2), (75, .invokevirtual 70, 3)]), (91, [(78, .iconst 0, 1), (79, .istore 4, 2), (81, .aload_n 0, 1), (82, .aload_n 0, 1), (83, .getfield 30, 3), (86, .getfield 93, 3), (89, .iload_n 3, 1), (90, .iconst 5, 1)]), (103, [(91, .imul, 1), (92, .iload 5, 2), (94, .iadd, 1), (95, .iaload, 1), (96, .invokevirtual 82, 3), (99, .aload_n 0, 1), (100, .bipush 61, 2), (102, .invokevirtual 70, 3)]), (118, [(105, .aload_n 0, 1), (106, .iload 6, 2), (108, .iload_n 2, 1), (109, .iconst 1, 1), (110, .iadd, 1), (111, .invokevirtual 42, 3), (114, .iinc 5 1, 3), (117, .goto (-85), 3)]), (127, [(120, .aload_n 0, 1), (121, .bipush 41, 2), (123, .invokevirtual 70, 3), (126, .return_, 1)])]
set_option maxRecDepth 20000 in
theorem zkd_X4_writeInstance : ∀ q ∈ zk_X4_writeInstance, ∀ e ∈ q.2, decode cX4_writeInstance e.1 = .ok e.2 ∧ zlo e = true := by decide +kernel
def zm_X4_writeInstance : zMe := ((4, 0, 7, zk_X4_writeInstance), (yX4_writeInstance, cX4_writeInstance, none))
set_option maxRecDepth 20000 in
theorem zp_X4_writeInstance : zP zm_X4_writeInstance := ⟨zkd_X4_writeInstance, List.mem_of_getElem? (i := 618) rfl, by decide +kernel, rfl, rfl, by decide +kernel, by decide +kernel⟩
def zk_X4_writeSimple : zCd := [(30, [(0, .iload_n 1, 1), (1, .tableswitch 54 1 3 #[27, 36, 45], 27), (28, .aload_n 0, 1), (29, .bipush 119, 2)]), (39, [(31, .invokevirtual 70, 3), (34, .goto 21, 3), (37, .aload_n 0, 1), (38, .bipush 99, 2)]), (48, [(40, .invokevirtual 70, 3), (43, .goto 12, 3), (46, .aload_n 0, 1), (47, .bipush 116, 2)]), (57, [(49, .invokevirtual 70, 3), (52, .goto 3, 3), (55, .aload_n 0, 1), (56, .iload_n 2, 1)]), (61, [(57, .invokevirtual 82, 3), (60, .return_, 1)])]
set_option maxRecDepth 20000 in
theorem zkd_X4_writeSimple : ∀ q ∈ zk_X4_writeSimple, ∀ e ∈ q.2, decode cX4_writeSimple e.1 = .ok e.2 ∧ zlo e = true := by decide +kernel
def zm_X4_writeSimple : zMe := ((4, 0, 3, zk_X4_writeSimple), (yX4_writeSimple, cX4_writeSimple, none))
set_option maxRecDepth 20000 in
theorem zp_X4_writeSimple : zP zm_X4_writeSimple := ⟨zkd_X4_writeSimple, List.mem_of_getElem? (i := 604) rfl, by decide +kernel, rfl, rfl, by decide +kernel, by decide +kernel⟩
def zk_X4_writeDigits : zCd := [(11, [(0, .iload_n 1, 1), (1, .i2l, 1), (2, .invokestatic 96, 3), (5, .lstore_n 2, 1), (6, .iload_n 1, 1), (7, .ifCond .ge 9, 3), (10, .aload_n 0, 1)]), (23, [(11, .bipush 45, 2), (13, .invokevirtual 70, 3), (16, .iconst 0, 1), (17, .istore 4, 2), (19, .iconst 0, 1), (20, .istore 5, 2), (22, .iload 5, 2)]), (37, [(24, .bipush 10, 2), (26, .if_icmp .ge 42, 3), (29, .iload 5, 2), (31, .ifCond .eq 9, 3), (34, .lload_n 2, 1), (35, .lconst 0, 1), (36, .lcmp, 1)]), (51, [(37, .ifCond .le 31, 3), (40, .aload_n 0, 1), (41, .getfield 19, 3), (44, .iload 5, 2), (46, .lload_n 2, 1), (47, .ldc2_w 102, 3), (50, .lrem, 1)]), (60, [(51, .l2i, 1), (52, .iastore, 1), (53, .lload_n 2, 1), (54, .ldc2_w 102, 3), (57, .ldiv, 1), (58, .lstore_n 2, 1), (59, .iinc 4 1, 3)]), (75, [(62, .iinc 5 1, 3), (65, .goto (-43), 3), (68, .iload 4, 2), (70, .iconst 1, 1), (71, .isub, 1), (72, .istore 5, 2), (74, .iload 5, 2)]), (89, [(76, .ifCond .lt 23, 3), (79, .aload_n 0, 1), (80, .bipush 48, 2), (82, .aload_n 0, 1), (83, .getfield 19, 3), (86, .iload 5, 2), (88, .iaload, 1)]), (100, [(89, .iadd, 1), (90, .invokevirtual 70, 3), (93, .iinc 5 (-1), 3), (96, .goto (-22), 3), (99, .return_, 1)])]
set_option maxRecDepth 20000 in
theorem zkd_X4_writeDigits : ∀ q ∈ zk_X4_writeDigits, ∀ e ∈ q.2, decode cX4_writeDigits e.1 = .ok e.2 ∧ zlo e = true := by decide +kernel
def zm_X4_writeDigits : zMe := ((4, 0, 6, zk_X4_writeDigits), (yX4_writeDigits, cX4_writeDigits, none))
set_option maxRecDepth 20000 in
theorem zp_X4_writeDigits : zP zm_X4_writeDigits := ⟨zkd_X4_writeDigits, List.mem_of_getElem? (i := 612) rfl, by decide +kernel, rfl, rfl, by decide +kernel, by decide +kernel⟩
def zk_X5_mark : zCd := [(6, [(0, .iload_n 1, 1), (1, .ifCond .lt 18, 3), (4, .iload_n 1, 1), (5, .bipush 31, 2)]), (15, [(7, .if_icmp .gt 12, 3), (10, .iload_n 2, 1), (11, .ifCond .lt 8, 3), (14, .iload_n 2, 1)]), (22, [(15, .iconst 2, 1), (16, .if_icmp .le 6, 3), (19, .bipush (-2), 2), (21, .ireturn, 1)]), (28, [(22, .aload_n 0, 1), (23, .getfield 15, 3), (26, .iload_n 1, 1), (27, .iload_n 2, 1)]), (33, [(28, .iload_n 3, 1), (29, .invokevirtual 56, 3), (32, .ireturn, 1)])]
set_option maxRecDepth 20000 in
theorem zkd_X5_mark : ∀ q ∈ zk_X5_mark, ∀ e ∈ q.2, decode cX5_mark e.1 = .ok e.2 ∧ zlo e = true := by decide +kernel
def zm_X5_mark : zMe := ((5, 1, 4, zk_X5_mark), (yX5_mark, cX5_mark, (some .int)))
set_option maxRecDepth 20000 in
theorem zp_X5_mark : zP zm_X5_mark := ⟨zkd_X5_mark, List.mem_of_getElem? (i := 129) rfl, by decide +kernel, rfl, rfl, by decide +kernel, by decide +kernel⟩
def zk_X5_element : zCd := [(13, [(0, .aload_n 0, 1), (1, .getfield 15, 3), (4, .iload_n 1, 1), (5, .invokevirtual 60, 3), (8, .ifCond .eq 24, 3), (11, .iload_n 2, 1), (12, .ifCond .lt 20, 3)]), (27, [(15, .iload_n 2, 1), (16, .bipush 9, 2), (18, .if_icmp .gt 14, 3), (21, .aload_n 0, 1), (22, .getfield 15, 3), (25, .iload_n 3, 1), (26, .invokevirtual 64, 3)]), (41, [(29, .ifCond .ne 6, 3), (32, .bipush (-2), 2), (34, .ireturn, 1), (35, .aload_n 0, 1), (36, .getfield 15, 3), (39, .iload_n 1, 1), (40, .iload_n 2, 1)]), (53, [(41, .invokevirtual 67, 3), (44, .iconst (-1), 1), (45, .if_icmp .eq 6, 3), (48, .bipush (-2), 2), (50, .ireturn, 1), (51, .aload_n 0, 1), (52, .getfield 15, 3)]), (67, [(55, .iload_n 1, 1), (56, .invokevirtual 71, 3), (59, .ifCond .eq 6, 3), (62, .bipush (-4), 2), (64, .ireturn, 1), (65, .aload_n 0, 1), (66, .getfield 15, 3)]), (81, [(69, .iload_n 1, 1), (70, .iload_n 3, 1), (71, .invokevirtual 74, 3), (74, .ifCond .eq 6, 3), (77, .bipush (-6), 2), (79, .ireturn, 1), (80, .aload_n 0, 1)]), (93, [(81, .getfield 15, 3), (84, .iload_n 1, 1), (85, .iload_n 2, 1), (86, .iload_n 3, 1), (87, .iload 4, 2), (89, .invokevirtual 78, 3), (92, .ireturn, 1)])]
set_option maxRecDepth 20000 in
theorem zkd_X5_element : ∀ q ∈ zk_X5_element, ∀ e ∈ q.2, decode cX5_element e.1 = .ok e.2 ∧ zlo e = true := by decide +kernel
def zm_X5_element : zMe := ((5, 1, 5, zk_X5_element), (yX5_element, cX5_element, (some .int)))
set_option maxRecDepth 20000 in
theorem zp_X5_element : zP zm_X5_element := ⟨zkd_X5_element, List.mem_of_getElem? (i := 142) rfl, by decide +kernel, rfl, rfl, by decide +kernel, by decide +kernel⟩
def zk_X5_fallback : zCd := [(12, [(0, .aload_n 0, 1), (1, .getfield 15, 3), (4, .iload_n 1, 1), (5, .iload_n 2, 1), (6, .invokevirtual 67, 3), (9, .istore 4, 2), (11, .iload 4, 2)]), (26, [(13, .iconst (-1), 1), (14, .if_icmp .eq 11, 3), (17, .aload_n 0, 1), (18, .iload_n 3, 1), (19, .invokevirtual 82, 3), (22, .ifCond .ne 6, 3), (25, .bipush (-2), 2)]), (40, [(27, .ireturn, 1), (28, .aload_n 0, 1), (29, .getfield 15, 3), (32, .iload_n 1, 1), (33, .invokevirtual 71, 3), (36, .ifCond .eq 6, 3), (39, .bipush (-4), 2)]), (52, [(41, .ireturn, 1), (42, .iload_n 3, 1), (43, .iconst (-1), 1), (44, .if_icmp .eq 30, 3), (47, .aload_n 0, 1), (48, .getfield 21, 3), (51, .getfield 85, 3)]), (65, [(54, .iload_n 3, 1), (55, .baload, 1), (56, .ifCond .ne 15, 3), (59, .aload_n 0, 1), (60, .getfield 21, 3), (63, .iload_n 3, 1), (64, .iconst 0, 1)]), (78, [(65, .invokevirtual 89, 3), (68, .ifCond .ne 6, 3), (71, .bipush (-4), 2), (73, .ireturn, 1), (74, .aload_n 0, 1), (75, .iload 4, 2), (77, .iload_n 3, 1)]), (92, [(78, .invokevirtual 92, 3), (81, .istore 5, 2), (83, .iload 5, 2), (85, .ifCond .ge 6, 3), (88, .iload 5, 2), (90, .ireturn, 1), (91, .aload_n 0, 1)]), (105, [(92, .getfield 15, 3), (95, .getfield 95, 3), (98, .iload 4, 2), (100, .iload 5, 2), (102, .iastore, 1), (103, .iconst 1, 1), (104, .ireturn, 1)])]
set_option maxRecDepth 20000 in
theorem zkd_X5_fallback : ∀ q ∈ zk_X5_fallback, ∀ e ∈ q.2, decode cX5_fallback e.1 = .ok e.2 ∧ zlo e = true := by decide +kernel
def zm_X5_fallback : zMe := ((5, 1, 6, zk_X5_fallback), (yX5_fallback, cX5_fallback, (some .int)))
set_option maxRecDepth 20000 in
theorem zp_X5_fallback : zP zm_X5_fallback := ⟨zkd_X5_fallback, List.mem_of_getElem? (i := 207) rfl, by decide +kernel, rfl, rfl, by decide +kernel, by decide +kernel⟩
def zk_X5_container : zCd := [(13, [(0, .aload_n 0, 1), (1, .getfield 15, 3), (4, .iload_n 1, 1), (5, .invokevirtual 60, 3), (8, .ifCond .eq 14, 3), (11, .aload_n 0, 1), (12, .getfield 15, 3)]), (27, [(15, .iload_n 2, 1), (16, .invokevirtual 60, 3), (19, .ifCond .ne 6, 3), (22, .bipush (-2), 2), (24, .ireturn, 1), (25, .aload_n 0, 1), (26, .getfield 15, 3)]), (40, [(29, .getfield 98, 3), (32, .iload_n 1, 1), (33, .iaload, 1), (34, .iconst (-1), 1), (35, .if_icmp .ne 15, 3), (38, .aload_n 0, 1), (39, .getfield 15, 3)]), (54, [(42, .getfield 101, 3), (45, .iload_n 1, 1), (46, .baload, 1), (47, .ifCond .eq 6, 3), (50, .bipush (-4), 2), (52, .ireturn, 1), (53, .aload_n 0, 1)]), (67, [(54, .getfield 15, 3), (57, .iload_n 2, 1), (58, .iload_n 1, 1), (59, .invokevirtual 104, 3), (62, .ifCond .ne 5, 3), (65, .iconst 0, 1), (66, .ireturn, 1)]), (78, [(67, .aload_n 0, 1), (68, .getfield 15, 3), (71, .getfield 98, 3), (74, .iload_n 1, 1), (75, .iload_n 2, 1), (76, .iastore, 1), (77, .aload_n 0, 1)]), (89, [(78, .getfield 15, 3), (81, .getfield 107, 3), (84, .iload_n 2, 1), (85, .iload_n 1, 1), (86, .iastore, 1), (87, .iconst 1, 1), (88, .ireturn, 1)])]
set_option maxRecDepth 20000 in
theorem zkd_X5_container : ∀ q ∈ zk_X5_container, ∀ e ∈ q.2, decode cX5_container e.1 = .ok e.2 ∧ zlo e = true := by decide +kernel
def zm_X5_container : zMe := ((5, 1, 3, zk_X5_container), (yX5_container, cX5_container, (some .int)))
set_option maxRecDepth 20000 in
theorem zp_X5_container : zP zm_X5_container := ⟨zkd_X5_container, List.mem_of_getElem? (i := 342) rfl, by decide +kernel, rfl, rfl, by decide +kernel, by decide +kernel⟩
def zk_X5_place : zCd := [(6, [(0, .aload_n 0, 1), (1, .getfield 28, 3), (4, .iload_n 1, 1), (5, .iload_n 2, 1)]), (14, [(6, .invokevirtual 110, 3), (9, .ifCond .eq 15, 3), (12, .aload_n 0, 1), (13, .getfield 28, 3)]), (22, [(16, .iload_n 1, 1), (17, .iload_n 2, 1), (18, .invokevirtual 113, 3), (21, .goto 5, 3)]), (27, [(24, .bipush (-2), 2), (26, .ireturn, 1)])]
set_option maxRecDepth 20000 in
theorem zkd_X5_place : ∀ q ∈ zk_X5_place, ∀ e ∈ q.2, decode cX5_place e.1 = .ok e.2 ∧ zlo e = true := by decide +kernel
def zm_X5_place : zMe := ((5, 1, 3, zk_X5_place), (yX5_place, cX5_place, (some .int)))
set_option maxRecDepth 20000 in
theorem zp_X5_place : zP zm_X5_place := ⟨zkd_X5_place, List.mem_of_getElem? (i := 367) rfl, by decide +kernel, rfl, rfl, by decide +kernel, by decide +kernel⟩
def zk_X5_value : zCd := [(4, [(0, .aload_n 0, 1), (1, .iload_n 1, 1), (2, .iload_n 2, 1), (3, .invokevirtual 115, 3)]), (14, [(6, .ifCond .eq 16, 3), (9, .aload_n 0, 1), (10, .getfield 21, 3), (13, .iconst 0, 1)]), (20, [(14, .iload_n 1, 1), (15, .iload_n 2, 1), (16, .invokevirtual 118, 3), (19, .goto 5, 3)]), (25, [(22, .bipush (-2), 2), (24, .ireturn, 1)])]
set_option maxRecDepth 20000 in
theorem zkd_X5_value : ∀ q ∈ zk_X5_value, ∀ e ∈ q.2, decode cX5_value e.1 = .ok e.2 ∧ zlo e = true := by decide +kernel
def zm_X5_value : zMe := ((5, 1, 3, zk_X5_value), (yX5_value, cX5_value, (some .int)))
set_option maxRecDepth 20000 in
theorem zp_X5_value : zP zm_X5_value := ⟨zkd_X5_value, List.mem_of_getElem? (i := 412) rfl, by decide +kernel, rfl, rfl, by decide +kernel, by decide +kernel⟩
def zk_X5_row : zCd := [(6, [(0, .aload_n 0, 1), (1, .getfield 15, 3), (4, .iload_n 1, 1), (5, .invokevirtual 64, 3)]), (16, [(8, .ifCond .eq 16, 3), (11, .aload_n 0, 1), (12, .getfield 21, 3), (15, .iconst 1, 1)]), (22, [(16, .iload_n 1, 1), (17, .iconst 0, 1), (18, .invokevirtual 118, 3), (21, .goto 5, 3)]), (27, [(24, .bipush (-2), 2), (26, .ireturn, 1)])]
set_option maxRecDepth 20000 in
theorem zkd_X5_row : ∀ q ∈ zk_X5_row, ∀ e ∈ q.2, decode cX5_row e.1 = .ok e.2 ∧ zlo e = true := by decide +kernel
def zm_X5_row : zMe := ((5, 1, 2, zk_X5_row), (yX5_row, cX5_row, (some .int)))
set_option maxRecDepth 20000 in
theorem zp_X5_row : zP zm_X5_row := ⟨zkd_X5_row, List.mem_of_getElem? (i := 426) rfl, by decide +kernel, rfl, rfl, by decide +kernel, by decide +kernel⟩
def zk_X5_push : zCd := [(14, [(0, .aload_n 0, 1), (1, .getfield 21, 3), (4, .iload_n 1, 1), (5, .iconst 1, 1), (6, .invokevirtual 121, 3), (9, .ifCond .eq 11, 3), (12, .aload_n 0, 1), (13, .iload_n 2, 1)]), (31, [(14, .invokevirtual 82, 3), (17, .ifCond .ne 6, 3), (20, .bipush (-2), 2), (22, .ireturn, 1), (23, .aload_n 0, 1), (24, .getfield 21, 3), (27, .getfield 85, 3), (30, .iload_n 1, 1)]), (45, [(31, .baload, 1), (32, .ifCond .ne 12, 3), (35, .aload_n 0, 1), (36, .iload_n 2, 1), (37, .iload_n 1, 1), (38, .invokevirtual 124, 3), (41, .ifCond .eq 6, 3), (44, .bipush (-4), 2)]), (58, [(46, .ireturn, 1), (47, .aload_n 0, 1), (48, .getfield 21, 3), (51, .getfield 127, 3), (54, .iload_n 1, 1), (55, .iaload, 1), (56, .iconst 4, 1), (57, .if_icmp .lt 6, 3)]), (71, [(60, .bipush (-3), 2), (62, .ireturn, 1), (63, .iload_n 2, 1), (64, .iconst (-1), 1), (65, .if_icmp .ne 9, 3), (68, .aload_n 0, 1), (69, .iconst 1, 1), (70, .invokevirtual 130, 3)]), (87, [(73, .ireturn, 1), (74, .aload_n 0, 1), (75, .getfield 21, 3), (78, .iload_n 2, 1), (79, .aload_n 0, 1), (80, .getfield 21, 3), (83, .getfield 134, 3), (86, .iload_n 1, 1)]), (101, [(87, .iaload, 1), (88, .invokevirtual 137, 3), (91, .ifCond .ne 9, 3), (94, .aload_n 0, 1), (95, .iconst 3, 1), (96, .invokevirtual 130, 3), (99, .ireturn, 1), (100, .aload_n 0, 1)]), (115, [(101, .iconst 0, 1), (102, .putfield 52, 3), (105, .aload_n 0, 1), (106, .getfield 21, 3), (109, .iload_n 1, 1), (110, .iload_n 2, 1), (111, .invokevirtual 140, 3), (114, .ireturn, 1)])]
set_option maxRecDepth 20000 in
theorem zkd_X5_push : ∀ q ∈ zk_X5_push, ∀ e ∈ q.2, decode cX5_push e.1 = .ok e.2 ∧ zlo e = true := by decide +kernel
def zm_X5_push : zMe := ((5, 1, 3, zk_X5_push), (yX5_push, cX5_push, (some .int)))
set_option maxRecDepth 20000 in
theorem zp_X5_push : zP zm_X5_push := ⟨zkd_X5_push, List.mem_of_getElem? (i := 434) rfl, by decide +kernel, rfl, rfl, by decide +kernel, by decide +kernel⟩
def zk_X5_instance : zCd := [(9, [(0, .aload_n 0, 1), (1, .getfield 15, 3), (4, .iload_n 1, 1), (5, .invokevirtual 60, 3), (8, .ifCond .ne 6, 3)]), (19, [(11, .bipush (-2), 2), (13, .ireturn, 1), (14, .aload_n 0, 1), (15, .getfield 21, 3), (18, .iconst 2, 1)]), (25, [(19, .bipush 10, 2), (21, .iload_n 1, 1), (22, .iadd, 1), (23, .iconst 0, 1), (24, .invokevirtual 118, 3)]), (35, [(27, .istore_n 2, 1), (28, .iload_n 2, 1), (29, .bipush (-3), 2), (31, .if_icmp .eq 13, 3), (34, .aload_n 0, 1)]), (44, [(35, .getfield 15, 3), (38, .getfield 143, 3), (41, .iload_n 1, 1), (42, .iconst 1, 1), (43, .bastore, 1)]), (46, [(44, .iload_n 2, 1), (45, .ireturn, 1)])]
set_option maxRecDepth 20000 in
theorem zkd_X5_instance : ∀ q ∈ zk_X5_instance, ∀ e ∈ q.2, decode cX5_instance e.1 = .ok e.2 ∧ zlo e = true := by decide +kernel
def zm_X5_instance : zMe := ((5, 1, 3, zk_X5_instance), (yX5_instance, cX5_instance, (some .int)))
set_option maxRecDepth 20000 in
theorem zp_X5_instance : zP zm_X5_instance := ⟨zkd_X5_instance, List.mem_of_getElem? (i := 454) rfl, by decide +kernel, rfl, rfl, by decide +kernel, by decide +kernel⟩
def zk_X5_give : zCd := [(14, [(0, .aload_n 0, 1), (1, .getfield 21, 3), (4, .iload_n 1, 1), (5, .iconst 2, 1), (6, .invokevirtual 121, 3), (9, .ifCond .eq 11, 3), (12, .aload_n 0, 1), (13, .iload_n 3, 1)]), (29, [(14, .invokevirtual 82, 3), (17, .ifCond .ne 6, 3), (20, .bipush (-2), 2), (22, .ireturn, 1), (23, .aload_n 0, 1), (24, .getfield 21, 3), (27, .iload_n 1, 1), (28, .invokevirtual 146, 3)]), (46, [(31, .istore 4, 2), (33, .aload_n 0, 1), (34, .getfield 15, 3), (37, .iload 4, 2), (39, .iload_n 2, 1), (40, .invokevirtual 149, 3), (43, .istore 5, 2), (45, .iload 5, 2)]), (62, [(47, .iconst (-1), 1), (48, .if_icmp .ne 6, 3), (51, .bipush (-2), 2), (53, .ireturn, 1), (54, .aload_n 0, 1), (55, .getfield 21, 3), (58, .getfield 85, 3), (61, .iload_n 1, 1)]), (76, [(62, .baload, 1), (63, .ifCond .ne 12, 3), (66, .aload_n 0, 1), (67, .iload_n 3, 1), (68, .iload_n 1, 1), (69, .invokevirtual 124, 3), (72, .ifCond .eq 6, 3), (75, .bipush (-4), 2)]), (90, [(77, .ireturn, 1), (78, .aload_n 0, 1), (79, .getfield 21, 3), (82, .iload_n 1, 1), (83, .iload 5, 2), (85, .invokevirtual 152, 3), (88, .iconst (-1), 1), (89, .if_icmp .eq 6, 3)]), (104, [(92, .bipush (-4), 2), (94, .ireturn, 1), (95, .aload_n 0, 1), (96, .aload_n 0, 1), (97, .getfield 15, 3), (100, .iload 4, 2), (102, .iload_n 2, 1), (103, .invokevirtual 67, 3)]), (121, [(106, .iload_n 3, 1), (107, .invokevirtual 92, 3), (110, .istore 6, 2), (112, .iload 6, 2), (114, .ifCond .ge 6, 3), (117, .iload 6, 2), (119, .ireturn, 1), (120, .aload_n 0, 1)]), (134, [(121, .getfield 21, 3), (124, .iload_n 1, 1), (125, .iload 5, 2), (127, .iload 6, 2), (129, .invokevirtual 155, 3), (132, .iconst 1, 1), (133, .ireturn, 1)])]
set_option maxRecDepth 20000 in
theorem zkd_X5_give : ∀ q ∈ zk_X5_give, ∀ e ∈ q.2, decode cX5_give e.1 = .ok e.2 ∧ zlo e = true := by decide +kernel
def zm_X5_give : zMe := ((5, 1, 7, zk_X5_give), (yX5_give, cX5_give, (some .int)))
set_option maxRecDepth 20000 in
theorem zp_X5_give : zP zm_X5_give := ⟨zkd_X5_give, List.mem_of_getElem? (i := 463) rfl, by decide +kernel, rfl, rfl, by decide +kernel, by decide +kernel⟩
def zk_X5_put : zCd := [(16, [(0, .aload_n 0, 1), (1, .getfield 28, 3), (4, .iload_n 1, 1), (5, .invokevirtual 159, 3), (8, .ifCond .eq 15, 3), (11, .aload_n 0, 1), (12, .getfield 21, 3), (15, .iload_n 2, 1)]), (31, [(16, .iconst 2, 1), (17, .invokevirtual 121, 3), (20, .ifCond .ne 6, 3), (23, .bipush (-2), 2), (25, .ireturn, 1), (26, .aload_n 0, 1), (27, .getfield 21, 3), (30, .getfield 85, 3)]), (44, [(33, .iload_n 2, 1), (34, .baload, 1), (35, .ifCond .eq 6, 3), (38, .bipush (-4), 2), (40, .ireturn, 1), (41, .aload_n 0, 1), (42, .iload_n 1, 1), (43, .iload_n 2, 1)]), (57, [(44, .invokevirtual 160, 3), (47, .istore_n 3, 1), (48, .iload_n 3, 1), (49, .ifCond .eq 8, 3), (52, .bipush (-10), 2), (54, .iload_n 3, 1), (55, .isub, 1), (56, .ireturn, 1)]), (72, [(57, .aload_n 0, 1), (58, .getfield 21, 3), (61, .iload_n 2, 1), (62, .invokevirtual 146, 3), (65, .istore 4, 2), (67, .aload_n 0, 1), (68, .getfield 35, 3), (71, .iload_n 1, 1)]), (86, [(72, .iload 4, 2), (74, .invokevirtual 163, 3), (77, .iconst 4, 1), (78, .if_icmp .lt 6, 3), (81, .bipush (-3), 2), (83, .ireturn, 1), (84, .aload_n 0, 1), (85, .getfield 21, 3)]), (102, [(88, .getfield 85, 3), (91, .iload_n 2, 1), (92, .iconst 1, 1), (93, .bastore, 1), (94, .aload_n 0, 1), (95, .getfield 15, 3), (98, .getfield 101, 3), (101, .iload 4, 2)]), (114, [(103, .iconst 1, 1), (104, .bastore, 1), (105, .aload_n 0, 1), (106, .getfield 35, 3), (109, .iload_n 1, 1), (110, .iload 4, 2), (112, .iload_n 2, 1), (113, .invokevirtual 166, 3)]), (127, [(116, .aload_n 0, 1), (117, .getfield 35, 3), (120, .iload_n 1, 1), (121, .iload 4, 2), (123, .invokevirtual 163, 3), (126, .ireturn, 1)])]
set_option maxRecDepth 20000 in
theorem zkd_X5_put : ∀ q ∈ zk_X5_put, ∀ e ∈ q.2, decode cX5_put e.1 = .ok e.2 ∧ zlo e = true := by decide +kernel
def zm_X5_put : zMe := ((5, 1, 5, zk_X5_put), (yX5_put, cX5_put, (some .int)))
set_option maxRecDepth 20000 in
theorem zp_X5_put : zP zm_X5_put := ⟨zkd_X5_put, List.mem_of_getElem? (i := 478) rfl, by decide +kernel, rfl, rfl, by decide +kernel, by decide +kernel⟩
def zk_X5_cause : zCd := [(5, [(0, .aload_n 0, 1), (1, .getfield 52, 3), (4, .ireturn, 1)])]
set_option maxRecDepth 20000 in
theorem zkd_X5_cause : ∀ q ∈ zk_X5_cause, ∀ e ∈ q.2, decode cX5_cause e.1 = .ok e.2 ∧ zlo e = true := by decide +kernel
def zm_X5_cause : zMe := ((5, 1, 1, zk_X5_cause), (yX5_cause, cX5_cause, (some .int)))
set_option maxRecDepth 20000 in
theorem zp_X5_cause : zP zm_X5_cause := ⟨zkd_X5_cause, List.mem_of_getElem? (i := 512) rfl, by decide +kernel, rfl, rfl, by decide +kernel, by decide +kernel⟩
def zk_X5_told : zCd := [(12, [(0, .aload_n 0, 1), (1, .getfield 21, 3), (4, .iload_n 1, 1), (5, .invokevirtual 168, 3), (8, .ifCond .ne 6, 3), (11, .bipush (-2), 2)]), (53, [(13, .ireturn, 1), (14, .iload_n 2, 1), (15, .tableswitch 89 0 4 #[33, 43, 53, 63, 76], 33), (48, .aload_n 0, 1), (49, .getfield 21, 3), (52, .getfield 169, 3)]), (63, [(55, .iload_n 1, 1), (56, .iaload, 1), (57, .ireturn, 1), (58, .aload_n 0, 1), (59, .getfield 21, 3), (62, .getfield 134, 3)]), (73, [(65, .iload_n 1, 1), (66, .iaload, 1), (67, .ireturn, 1), (68, .aload_n 0, 1), (69, .getfield 21, 3), (72, .getfield 127, 3)]), (83, [(75, .iload_n 1, 1), (76, .iaload, 1), (77, .ireturn, 1), (78, .aload_n 0, 1), (79, .getfield 21, 3), (82, .getfield 85, 3)]), (93, [(85, .iload_n 1, 1), (86, .baload, 1), (87, .invokestatic 172, 3), (90, .ireturn, 1), (91, .aload_n 0, 1), (92, .getfield 21, 3)]), (105, [(95, .iload_n 1, 1), (96, .iconst 0, 1), (97, .invokevirtual 89, 3), (100, .invokestatic 172, 3), (103, .ireturn, 1), (104, .bipush (-2), 2)]), (107, [(106, .ireturn, 1)])]
set_option maxRecDepth 20000 in
theorem zkd_X5_told : ∀ q ∈ zk_X5_told, ∀ e ∈ q.2, decode cX5_told e.1 = .ok e.2 ∧ zlo e = true := by decide +kernel
def zm_X5_told : zMe := ((5, 1, 3, zk_X5_told), (yX5_told, cX5_told, (some .int)))
set_option maxRecDepth 20000 in
theorem zp_X5_told : zP zm_X5_told := ⟨zkd_X5_told, List.mem_of_getElem? (i := 520) rfl, by decide +kernel, rfl, rfl, by decide +kernel, by decide +kernel⟩
def zk_X5_part : zCd := [(7, [(0, .aload_n 0, 1), (1, .getfield 21, 3), (4, .iload_n 1, 1), (5, .iconst 1, 1), (6, .invokevirtual 121, 3)]), (18, [(9, .ifCond .eq 13, 3), (12, .aload_n 0, 1), (13, .getfield 21, 3), (16, .iload_n 1, 1), (17, .iload_n 2, 1)]), (27, [(18, .invokevirtual 176, 3), (21, .ireturn, 1), (22, .aload_n 0, 1), (23, .getfield 21, 3), (26, .iload_n 1, 1)]), (36, [(27, .iconst 2, 1), (28, .invokevirtual 121, 3), (31, .ifCond .eq 13, 3), (34, .aload_n 0, 1), (35, .getfield 21, 3)]), (45, [(38, .iload_n 1, 1), (39, .iload_n 2, 1), (40, .invokevirtual 179, 3), (43, .ireturn, 1), (44, .bipush (-2), 2)]), (47, [(46, .ireturn, 1)])]
set_option maxRecDepth 20000 in
theorem zkd_X5_part : ∀ q ∈ zk_X5_part, ∀ e ∈ q.2, decode cX5_part e.1 = .ok e.2 ∧ zlo e = true := by decide +kernel
def zm_X5_part : zMe := ((5, 1, 3, zk_X5_part), (yX5_part, cX5_part, (some .int)))
set_option maxRecDepth 20000 in
theorem zp_X5_part : zP zm_X5_part := ⟨zkd_X5_part, List.mem_of_getElem? (i := 532) rfl, by decide +kernel, rfl, rfl, by decide +kernel, by decide +kernel⟩
def zk_X5_equal : zCd := [(6, [(0, .aload_n 0, 1), (1, .getfield 21, 3), (4, .iload_n 1, 1), (5, .invokevirtual 168, 3)]), (16, [(8, .ifCond .eq 14, 3), (11, .aload_n 0, 1), (12, .getfield 21, 3), (15, .iload_n 2, 1)]), (25, [(16, .invokevirtual 168, 3), (19, .ifCond .ne 6, 3), (22, .bipush (-2), 2), (24, .ireturn, 1)]), (31, [(25, .aload_n 0, 1), (26, .getfield 21, 3), (29, .iload_n 1, 1), (30, .iload_n 2, 1)]), (39, [(31, .iconst 0, 1), (32, .invokevirtual 182, 3), (35, .invokestatic 172, 3), (38, .ireturn, 1)])]
set_option maxRecDepth 20000 in
theorem zkd_X5_equal : ∀ q ∈ zk_X5_equal, ∀ e ∈ q.2, decode cX5_equal e.1 = .ok e.2 ∧ zlo e = true := by decide +kernel
def zm_X5_equal : zMe := ((5, 1, 3, zk_X5_equal), (yX5_equal, cX5_equal, (some .int)))
set_option maxRecDepth 20000 in
theorem zp_X5_equal : zP zm_X5_equal := ⟨zkd_X5_equal, List.mem_of_getElem? (i := 549) rfl, by decide +kernel, rfl, rfl, by decide +kernel, by decide +kernel⟩
def zk_X5_written : zCd := [(6, [(0, .aload_n 0, 1), (1, .getfield 21, 3), (4, .iload_n 1, 1), (5, .invokevirtual 168, 3)]), (16, [(8, .ifCond .eq 14, 3), (11, .aload_n 0, 1), (12, .getfield 44, 3), (15, .iload_n 1, 1)]), (25, [(16, .invokevirtual 186, 3), (19, .goto 5, 3), (22, .bipush (-2), 2), (24, .ireturn, 1)])]
set_option maxRecDepth 20000 in
theorem zkd_X5_written : ∀ q ∈ zk_X5_written, ∀ e ∈ q.2, decode cX5_written e.1 = .ok e.2 ∧ zlo e = true := by decide +kernel
def zm_X5_written : zMe := ((5, 1, 2, zk_X5_written), (yX5_written, cX5_written, (some .int)))
set_option maxRecDepth 20000 in
theorem zp_X5_written : zP zm_X5_written := ⟨zkd_X5_written, List.mem_of_getElem? (i := 578) rfl, by decide +kernel, rfl, rfl, by decide +kernel, by decide +kernel⟩
def zk_X5_letter : zCd := [(6, [(0, .iload_n 1, 1), (1, .ifCond .lt 26, 3), (4, .iload_n 1, 1), (5, .aload_n 0, 1)]), (16, [(6, .getfield 44, 3), (9, .getfield 189, 3), (12, .if_icmp .ge 15, 3), (15, .aload_n 0, 1)]), (24, [(16, .getfield 44, 3), (19, .getfield 192, 3), (22, .iload_n 1, 1), (23, .baload, 1)]), (29, [(24, .goto 4, 3), (27, .iconst (-1), 1), (28, .ireturn, 1)])]
set_option maxRecDepth 20000 in
theorem zkd_X5_letter : ∀ q ∈ zk_X5_letter, ∀ e ∈ q.2, decode cX5_letter e.1 = .ok e.2 ∧ zlo e = true := by decide +kernel
def zm_X5_letter : zMe := ((5, 1, 2, zk_X5_letter), (yX5_letter, cX5_letter, (some .int)))
set_option maxRecDepth 20000 in
theorem zp_X5_letter : zP zm_X5_letter := ⟨zkd_X5_letter, List.mem_of_getElem? (i := 651) rfl, by decide +kernel, rfl, rfl, by decide +kernel, by decide +kernel⟩
def zk_X5_ask : zCd := [(6, [(0, .aload_n 0, 1), (1, .getfield 28, 3), (4, .iload_n 1, 1), (5, .invokevirtual 159, 3)]), (16, [(8, .ifCond .eq 14, 3), (11, .aload_n 0, 1), (12, .getfield 15, 3), (15, .iload_n 2, 1)]), (25, [(16, .invokevirtual 60, 3), (19, .ifCond .ne 6, 3), (22, .bipush (-2), 2), (24, .ireturn, 1)]), (31, [(25, .iload_n 3, 1), (26, .ifCond .eq 12, 3), (29, .aload_n 0, 1), (30, .iload_n 1, 1)]), (39, [(31, .iload_n 2, 1), (32, .invokevirtual 196, 3), (35, .goto 9, 3), (38, .aload_n 0, 1)]), (45, [(39, .iload_n 1, 1), (40, .iload_n 2, 1), (41, .invokevirtual 199, 3), (44, .ireturn, 1)])]
set_option maxRecDepth 20000 in
theorem zkd_X5_ask : ∀ q ∈ zk_X5_ask, ∀ e ∈ q.2, decode cX5_ask e.1 = .ok e.2 ∧ zlo e = true := by decide +kernel
def zm_X5_ask : zMe := ((5, 1, 4, zk_X5_ask), (yX5_ask, cX5_ask, (some .int)))
set_option maxRecDepth 20000 in
theorem zp_X5_ask : zP zm_X5_ask := ⟨zkd_X5_ask, List.mem_of_getElem? (i := 661) rfl, by decide +kernel, rfl, rfl, by decide +kernel, by decide +kernel⟩
def zk_X5_all : zCd := [(9, [(0, .aload_n 0, 1), (1, .getfield 28, 3), (4, .iload_n 1, 1), (5, .invokevirtual 159, 3), (8, .ifCond .eq 14, 3)]), (20, [(11, .aload_n 0, 1), (12, .getfield 15, 3), (15, .iload_n 2, 1), (16, .invokevirtual 60, 3), (19, .ifCond .ne 6, 3)]), (28, [(22, .bipush (-2), 2), (24, .ireturn, 1), (25, .aload_n 0, 1), (26, .iload_n 1, 1), (27, .iload_n 2, 1)]), (35, [(28, .invokevirtual 202, 3), (31, .istore_n 3, 1), (32, .iload_n 3, 1), (33, .iconst (-1), 1), (34, .if_icmp .ne 7, 3)]), (44, [(37, .iconst 0, 1), (38, .goto 9, 3), (41, .aload_n 0, 1), (42, .iload_n 3, 1), (43, .iload_n 2, 1)]), (48, [(44, .invokevirtual 205, 3), (47, .ireturn, 1)])]
set_option maxRecDepth 20000 in
theorem zkd_X5_all : ∀ q ∈ zk_X5_all, ∀ e ∈ q.2, decode cX5_all e.1 = .ok e.2 ∧ zlo e = true := by decide +kernel
def zm_X5_all : zMe := ((5, 1, 4, zk_X5_all), (yX5_all, cX5_all, (some .int)))
set_option maxRecDepth 20000 in
theorem zp_X5_all : zP zm_X5_all := ⟨zkd_X5_all, List.mem_of_getElem? (i := 707) rfl, by decide +kernel, rfl, rfl, by decide +kernel, by decide +kernel⟩
def zk_X5_of : zCd := [(12, [(0, .aload_n 0, 1), (1, .getfield 28, 3), (4, .iload_n 1, 1), (5, .invokevirtual 159, 3), (8, .ifCond .eq 14, 3), (11, .aload_n 0, 1)]), (25, [(12, .getfield 15, 3), (15, .iload_n 2, 1), (16, .invokevirtual 60, 3), (19, .ifCond .ne 6, 3), (22, .bipush (-2), 2), (24, .ireturn, 1)]), (34, [(25, .aload_n 0, 1), (26, .iload_n 1, 1), (27, .iload_n 2, 1), (28, .invokevirtual 202, 3), (31, .istore 4, 2), (33, .iload 4, 2)]), (43, [(35, .iconst (-1), 1), (36, .if_icmp .ne 5, 3), (39, .iconst (-1), 1), (40, .ireturn, 1), (41, .aload_n 0, 1), (42, .getfield 35, 3)]), (56, [(45, .iload 4, 2), (47, .iload_n 2, 1), (48, .invokevirtual 163, 3), (51, .ifCond .le 15, 3), (54, .aload_n 0, 1), (55, .getfield 35, 3)]), (67, [(58, .iload 4, 2), (60, .iload_n 2, 1), (61, .iload_n 3, 1), (62, .invokevirtual 208, 3), (65, .ireturn, 1), (66, .aload_n 0, 1)]), (78, [(67, .getfield 21, 3), (70, .aload_n 0, 1), (71, .iload 4, 2), (73, .iload_n 2, 1), (74, .invokevirtual 211, 3), (77, .iload_n 3, 1)]), (82, [(78, .invokevirtual 176, 3), (81, .ireturn, 1)])]
set_option maxRecDepth 20000 in
theorem zkd_X5_of : ∀ q ∈ zk_X5_of, ∀ e ∈ q.2, decode cX5_of e.1 = .ok e.2 ∧ zlo e = true := by decide +kernel
def zm_X5_of : zMe := ((5, 1, 5, zk_X5_of), (yX5_of, cX5_of, (some .int)))
set_option maxRecDepth 20000 in
theorem zp_X5_of : zP zm_X5_of := ⟨zkd_X5_of, List.mem_of_getElem? (i := 739) rfl, by decide +kernel, rfl, rfl, by decide +kernel, by decide +kernel⟩
def zk_X5_stands : zCd := [(6, [(0, .aload_n 0, 1), (1, .getfield 28, 3), (4, .iload_n 1, 1), (5, .invokevirtual 159, 3)]), (16, [(8, .ifCond .eq 14, 3), (11, .aload_n 0, 1), (12, .getfield 35, 3), (15, .iload_n 1, 1)]), (25, [(16, .invokevirtual 214, 3), (19, .goto 5, 3), (22, .bipush (-2), 2), (24, .ireturn, 1)])]
set_option maxRecDepth 20000 in
theorem zkd_X5_stands : ∀ q ∈ zk_X5_stands, ∀ e ∈ q.2, decode cX5_stands e.1 = .ok e.2 ∧ zlo e = true := by decide +kernel
def zm_X5_stands : zMe := ((5, 1, 2, zk_X5_stands), (yX5_stands, cX5_stands, (some .int)))
set_option maxRecDepth 20000 in
theorem zp_X5_stands : zP zm_X5_stands := ⟨zkd_X5_stands, List.mem_of_getElem? (i := 747) rfl, by decide +kernel, rfl, rfl, by decide +kernel, by decide +kernel⟩
def zk_X5_count : zCd := [(77, [(0, .iload_n 1, 1), (1, .tableswitch 113 0 13 #[71, 79, 87, 95, 113, 113, 113, 113, 113, 113, 113, 103, 103, 103], 71), (72, .aload_n 0, 1), (73, .getfield 15, 3), (76, .getfield 217, 3)]), (88, [(79, .ireturn, 1), (80, .aload_n 0, 1), (81, .getfield 28, 3), (84, .getfield 220, 3), (87, .ireturn, 1)]), (97, [(88, .aload_n 0, 1), (89, .getfield 21, 3), (92, .getfield 221, 3), (95, .ireturn, 1), (96, .aload_n 0, 1)]), (106, [(97, .getfield 35, 3), (100, .getfield 222, 3), (103, .ireturn, 1), (104, .aload_n 0, 1), (105, .getfield 48, 3)]), (114, [(108, .iload_n 1, 1), (109, .bipush 10, 2), (111, .isub, 1), (112, .iaload, 1), (113, .ireturn, 1)]), (120, [(114, .aload_n 0, 1), (115, .iload_n 1, 1), (116, .invokevirtual 223, 3), (119, .ireturn, 1)])]
set_option maxRecDepth 20000 in
theorem zkd_X5_count : ∀ q ∈ zk_X5_count, ∀ e ∈ q.2, decode cX5_count e.1 = .ok e.2 ∧ zlo e = true := by decide +kernel
def zm_X5_count : zMe := ((5, 1, 2, zk_X5_count), (yX5_count, cX5_count, (some .int)))
set_option maxRecDepth 20000 in
theorem zp_X5_count : zP zm_X5_count := ⟨zkd_X5_count, List.mem_of_getElem? (i := 759) rfl, by decide +kernel, rfl, rfl, by decide +kernel, by decide +kernel⟩
def zk_X5_countOfMark : zCd := [(8, [(0, .aload_n 0, 1), (1, .getfield 15, 3), (4, .iload_n 1, 1), (5, .bipush 20, 2), (7, .isub, 1)]), (19, [(8, .invokevirtual 60, 3), (11, .ifCond .eq 16, 3), (14, .aload_n 0, 1), (15, .getfield 15, 3), (18, .getfield 226, 3)]), (27, [(21, .iload_n 1, 1), (22, .bipush 20, 2), (24, .isub, 1), (25, .iaload, 1), (26, .ireturn, 1)]), (35, [(27, .aload_n 0, 1), (28, .getfield 15, 3), (31, .iload_n 1, 1), (32, .bipush 40, 2), (34, .isub, 1)]), (46, [(35, .invokevirtual 60, 3), (38, .ifCond .eq 16, 3), (41, .aload_n 0, 1), (42, .getfield 15, 3), (45, .getfield 98, 3)]), (54, [(48, .iload_n 1, 1), (49, .bipush 40, 2), (51, .isub, 1), (52, .iaload, 1), (53, .ireturn, 1)]), (57, [(54, .bipush (-2), 2), (56, .ireturn, 1)])]
set_option maxRecDepth 20000 in
theorem zkd_X5_countOfMark : ∀ q ∈ zk_X5_countOfMark, ∀ e ∈ q.2, decode cX5_countOfMark e.1 = .ok e.2 ∧ zlo e = true := by decide +kernel
def zm_X5_countOfMark : zMe := ((5, 1, 2, zk_X5_countOfMark), (yX5_countOfMark, cX5_countOfMark, (some .int)))
set_option maxRecDepth 20000 in
theorem zp_X5_countOfMark : zP zm_X5_countOfMark := ⟨zkd_X5_countOfMark, List.mem_of_getElem? (i := 767) rfl, by decide +kernel, rfl, rfl, by decide +kernel, by decide +kernel⟩
def zk_X5_asNumber : zCd := [(6, [(0, .iload_n 0, 1), (1, .ifCond .eq 7, 3), (4, .iconst 1, 1), (5, .goto 4, 3)]), (10, [(8, .iconst 0, 1), (9, .ireturn, 1)])]
set_option maxRecDepth 20000 in
theorem zkd_X5_asNumber : ∀ q ∈ zk_X5_asNumber, ∀ e ∈ q.2, decode cX5_asNumber e.1 = .ok e.2 ∧ zlo e = true := by decide +kernel
def zm_X5_asNumber : zMe := ((5, 1, 1, zk_X5_asNumber), (yX5_asNumber, cX5_asNumber, (some .int)))
set_option maxRecDepth 20000 in
theorem zp_X5_asNumber : zP zm_X5_asNumber := ⟨zkd_X5_asNumber, List.mem_of_getElem? (i := 524) rfl, by decide +kernel, rfl, rfl, by decide +kernel, by decide +kernel⟩
def zk_X5_isValueOrNone : zCd := [(6, [(0, .iload_n 1, 1), (1, .iconst (-1), 1), (2, .if_icmp .eq 14, 3), (5, .aload_n 0, 1)]), (14, [(6, .getfield 21, 3), (9, .iload_n 1, 1), (10, .invokevirtual 168, 3), (13, .ifCond .eq 7, 3)]), (22, [(16, .iconst 1, 1), (17, .goto 4, 3), (20, .iconst 0, 1), (21, .ireturn, 1)])]
set_option maxRecDepth 20000 in
theorem zkd_X5_isValueOrNone : ∀ q ∈ zk_X5_isValueOrNone, ∀ e ∈ q.2, decode cX5_isValueOrNone e.1 = .ok e.2 ∧ zlo e = true := by decide +kernel
def zm_X5_isValueOrNone : zMe := ((5, 2, 2, zk_X5_isValueOrNone), (yX5_isValueOrNone, cX5_isValueOrNone, (some .boolean)))
set_option maxRecDepth 20000 in
theorem zp_X5_isValueOrNone : zP zm_X5_isValueOrNone := ⟨zkd_X5_isValueOrNone, List.mem_of_getElem? (i := 213) rfl, by decide +kernel, rfl, rfl, by decide +kernel, by decide +kernel⟩
def zk_X5_isDoneOrSame : zCd := [(6, [(0, .iload_n 1, 1), (1, .iconst (-1), 1), (2, .if_icmp .eq 24, 3), (5, .iload_n 1, 1)]), (12, [(6, .iload_n 2, 1), (7, .if_icmp .eq 15, 3), (10, .aload_n 0, 1), (11, .getfield 21, 3)]), (20, [(14, .getfield 85, 3), (17, .iload_n 1, 1), (18, .baload, 1), (19, .ifCond .eq 7, 3)]), (28, [(22, .iconst 1, 1), (23, .goto 4, 3), (26, .iconst 0, 1), (27, .ireturn, 1)])]
set_option maxRecDepth 20000 in
theorem zkd_X5_isDoneOrSame : ∀ q ∈ zk_X5_isDoneOrSame, ∀ e ∈ q.2, decode cX5_isDoneOrSame e.1 = .ok e.2 ∧ zlo e = true := by decide +kernel
def zm_X5_isDoneOrSame : zMe := ((5, 2, 3, zk_X5_isDoneOrSame), (yX5_isDoneOrSame, cX5_isDoneOrSame, (some .boolean)))
set_option maxRecDepth 20000 in
theorem zp_X5_isDoneOrSame : zP zm_X5_isDoneOrSame := ⟨zkd_X5_isDoneOrSame, List.mem_of_getElem? (i := 441) rfl, by decide +kernel, rfl, rfl, by decide +kernel, by decide +kernel⟩
def zk_X5_isSimple : zCd := [(35, [(0, .iload_n 1, 1), (1, .tableswitch 73 0 3 #[31, 33, 49, 64], 31), (32, .iconst 1, 1), (33, .ireturn, 1), (34, .iload_n 2, 1)]), (45, [(35, .ifCond .lt 13, 3), (38, .iload_n 2, 1), (39, .bipush 99, 2), (41, .if_icmp .gt 7, 3), (44, .iconst 1, 1)]), (52, [(45, .goto 4, 3), (48, .iconst 0, 1), (49, .ireturn, 1), (50, .iload_n 2, 1), (51, .ifCond .lt 12, 3)]), (61, [(54, .iload_n 2, 1), (55, .iconst 4, 1), (56, .if_icmp .gt 7, 3), (59, .iconst 1, 1), (60, .goto 4, 3)]), (70, [(63, .iconst 0, 1), (64, .ireturn, 1), (65, .aload_n 0, 1), (66, .getfield 28, 3), (69, .iload_n 2, 1)]), (76, [(70, .invokevirtual 229, 3), (73, .ireturn, 1), (74, .iconst 0, 1), (75, .ireturn, 1)])]
set_option maxRecDepth 20000 in
theorem zkd_X5_isSimple : ∀ q ∈ zk_X5_isSimple, ∀ e ∈ q.2, decode cX5_isSimple e.1 = .ok e.2 ∧ zlo e = true := by decide +kernel
def zm_X5_isSimple : zMe := ((5, 2, 3, zk_X5_isSimple), (yX5_isSimple, cX5_isSimple, (some .boolean)))
set_option maxRecDepth 20000 in
theorem zp_X5_isSimple : zP zm_X5_isSimple := ⟨zkd_X5_isSimple, List.mem_of_getElem? (i := 416) rfl, by decide +kernel, rfl, rfl, by decide +kernel, by decide +kernel⟩
def zk_X5_fail : zCd := [(6, [(0, .aload_n 0, 1), (1, .iload_n 1, 1), (2, .putfield 52, 3), (5, .aload_n 0, 1)]), (12, [(6, .getfield 48, 3), (9, .iload_n 1, 1), (10, .dup2, 1), (11, .iaload, 1)]), (16, [(12, .iconst 1, 1), (13, .iadd, 1), (14, .iastore, 1), (15, .bipush (-5), 2)]), (18, [(17, .ireturn, 1)])]
set_option maxRecDepth 20000 in
theorem zkd_X5_fail : ∀ q ∈ zk_X5_fail, ∀ e ∈ q.2, decode cX5_fail e.1 = .ok e.2 ∧ zlo e = true := by decide +kernel
def zm_X5_fail : zMe := ((5, 1, 2, zk_X5_fail), (yX5_fail, cX5_fail, (some .int)))
set_option maxRecDepth 20000 in
theorem zp_X5_fail : zP zm_X5_fail := ⟨zkd_X5_fail, List.mem_of_getElem? (i := 259) rfl, by decide +kernel, rfl, rfl, by decide +kernel, by decide +kernel⟩
def zk_X5_takeFor : zCd := [(12, [(0, .iload_n 2, 1), (1, .iconst (-1), 1), (2, .if_icmp .ne 9, 3), (5, .aload_n 0, 1), (6, .iconst 1, 1), (7, .invokevirtual 130, 3), (10, .ireturn, 1), (11, .aload_n 0, 1)]), (26, [(12, .getfield 15, 3), (15, .getfield 232, 3), (18, .iload_n 1, 1), (19, .iaload, 1), (20, .istore_n 3, 1), (21, .aload_n 0, 1), (22, .getfield 15, 3), (25, .getfield 233, 3)]), (40, [(28, .iload_n 1, 1), (29, .baload, 1), (30, .ifCond .eq 19, 3), (33, .aload_n 0, 1), (34, .getfield 21, 3), (37, .iload_n 2, 1), (38, .iload_n 3, 1), (39, .invokevirtual 137, 3)]), (57, [(42, .ifCond .eq 7, 3), (45, .iconst 1, 1), (46, .goto 4, 3), (49, .iconst 0, 1), (50, .istore 4, 2), (52, .aload_n 0, 1), (53, .getfield 15, 3), (56, .getfield 233, 3)]), (71, [(59, .iload_n 1, 1), (60, .baload, 1), (61, .ifCond .eq 15, 3), (64, .aload_n 0, 1), (65, .getfield 21, 3), (68, .iload_n 2, 1), (69, .iload_n 3, 1), (70, .invokevirtual 236, 3)]), (88, [(73, .goto 12, 3), (76, .aload_n 0, 1), (77, .getfield 21, 3), (80, .iload_n 2, 1), (81, .iload_n 3, 1), (82, .invokevirtual 137, 3), (85, .istore 5, 2), (87, .iload 4, 2)]), (104, [(89, .ifCond .ne 14, 3), (92, .iload 5, 2), (94, .ifCond .ne 9, 3), (97, .aload_n 0, 1), (98, .iconst 2, 1), (99, .invokevirtual 130, 3), (102, .ireturn, 1), (103, .iload 4, 2)]), (121, [(105, .ifCond .eq 15, 3), (108, .aload_n 0, 1), (109, .getfield 21, 3), (112, .iload_n 3, 1), (113, .iload_n 2, 1), (114, .invokevirtual 239, 3), (117, .goto 4, 3), (120, .iload_n 2, 1)]), (135, [(121, .istore 6, 2), (123, .iload 6, 2), (125, .bipush (-3), 2), (127, .if_icmp .ne 6, 3), (130, .bipush (-3), 2), (132, .ireturn, 1), (133, .aload_n 0, 1), (134, .iconst 0, 1)]), (150, [(135, .putfield 52, 3), (138, .aload_n 0, 1), (139, .getfield 21, 3), (142, .iload 6, 2), (144, .invokevirtual 242, 3), (147, .iload 6, 2), (149, .ireturn, 1)])]
set_option maxRecDepth 20000 in
theorem zkd_X5_takeFor : ∀ q ∈ zk_X5_takeFor, ∀ e ∈ q.2, decode cX5_takeFor e.1 = .ok e.2 ∧ zlo e = true := by decide +kernel
def zm_X5_takeFor : zMe := ((5, 1, 7, zk_X5_takeFor), (yX5_takeFor, cX5_takeFor, (some .int)))
set_option maxRecDepth 20000 in
theorem zp_X5_takeFor : zP zm_X5_takeFor := ⟨zkd_X5_takeFor, List.mem_of_getElem? (i := 253) rfl, by decide +kernel, rfl, rfl, by decide +kernel, by decide +kernel⟩
def zk_X5_brokenRule : zCd := [(14, [(0, .aload_n 0, 1), (1, .getfield 21, 3), (4, .iload_n 2, 1), (5, .invokevirtual 146, 3), (8, .istore_n 3, 1), (9, .aload_n 0, 1), (10, .getfield 15, 3), (13, .getfield 98, 3)]), (29, [(16, .iload_n 3, 1), (17, .iaload, 1), (18, .istore 4, 2), (20, .aload_n 0, 1), (21, .getfield 15, 3), (24, .getfield 107, 3), (27, .iload_n 3, 1), (28, .iaload, 1)]), (42, [(29, .istore 5, 2), (31, .aload_n 0, 1), (32, .getfield 15, 3), (35, .getfield 246, 3), (38, .iload_n 3, 1), (39, .iaload, 1), (40, .aload_n 0, 1), (41, .getfield 28, 3)]), (56, [(44, .iload_n 1, 1), (45, .invokevirtual 249, 3), (48, .iand, 1), (49, .ifCond .ne 5, 3), (52, .iconst 1, 1), (53, .ireturn, 1), (54, .aload_n 0, 1), (55, .getfield 21, 3)]), (71, [(58, .iload_n 2, 1), (59, .iconst 0, 1), (60, .invokevirtual 89, 3), (63, .ifCond .ne 5, 3), (66, .iconst 2, 1), (67, .ireturn, 1), (68, .iload 4, 2), (70, .iconst (-1), 1)]), (87, [(71, .if_icmp .ne 17, 3), (74, .aload_n 0, 1), (75, .getfield 35, 3), (78, .iload_n 1, 1), (79, .iload_n 3, 1), (80, .invokevirtual 163, 3), (83, .ifCond .le 5, 3), (86, .iconst 3, 1)]), (100, [(87, .ireturn, 1), (88, .iload 4, 2), (90, .iconst (-1), 1), (91, .if_icmp .eq 18, 3), (94, .aload_n 0, 1), (95, .getfield 35, 3), (98, .iload_n 1, 1), (99, .iload 4, 2)]), (116, [(101, .invokevirtual 163, 3), (104, .ifCond .le 5, 3), (107, .iconst 4, 1), (108, .ireturn, 1), (109, .iload 5, 2), (111, .iconst (-1), 1), (112, .if_icmp .eq 18, 3), (115, .aload_n 0, 1)]), (131, [(116, .getfield 35, 3), (119, .iload_n 1, 1), (120, .iload 5, 2), (122, .invokevirtual 163, 3), (125, .ifCond .le 5, 3), (128, .iconst 5, 1), (129, .ireturn, 1), (130, .iconst 0, 1)]), (132, [(131, .ireturn, 1)])]
set_option maxRecDepth 20000 in
theorem zkd_X5_brokenRule : ∀ q ∈ zk_X5_brokenRule, ∀ e ∈ q.2, decode cX5_brokenRule e.1 = .ok e.2 ∧ zlo e = true := by decide +kernel
def zm_X5_brokenRule : zMe := ((5, 1, 6, zk_X5_brokenRule), (yX5_brokenRule, cX5_brokenRule, (some .int)))
set_option maxRecDepth 20000 in
theorem zp_X5_brokenRule : zP zm_X5_brokenRule := ⟨zkd_X5_brokenRule, List.mem_of_getElem? (i := 483) rfl, by decide +kernel, rfl, rfl, by decide +kernel, by decide +kernel⟩
def zk_X5_ownAt : zCd := [(10, [(0, .aload_n 0, 1), (1, .getfield 15, 3), (4, .getfield 252, 3), (7, .iload_n 2, 1), (8, .iaload, 1), (9, .iconst 2, 1)]), (20, [(10, .if_icmp .eq 5, 3), (13, .iconst (-1), 1), (14, .ireturn, 1), (15, .aload_n 0, 1), (16, .getfield 35, 3), (19, .iload_n 1, 1)]), (30, [(20, .iload_n 2, 1), (21, .invokevirtual 163, 3), (24, .istore_n 3, 1), (25, .iload_n 3, 1), (26, .ifCond .ne 18, 3), (29, .aload_n 0, 1)]), (40, [(30, .iload_n 1, 1), (31, .aload_n 0, 1), (32, .getfield 15, 3), (35, .getfield 107, 3), (38, .iload_n 2, 1), (39, .iaload, 1)]), (50, [(40, .invokevirtual 255, 3), (43, .ireturn, 1), (44, .iload_n 3, 1), (45, .iconst 1, 1), (46, .if_icmp .ne 16, 3), (49, .aload_n 0, 1)]), (60, [(50, .getfield 35, 3), (53, .iload_n 1, 1), (54, .iload_n 2, 1), (55, .iconst 0, 1), (56, .invokevirtual 208, 3), (59, .goto 4, 3)]), (64, [(62, .iconst (-1), 1), (63, .ireturn, 1)])]
set_option maxRecDepth 20000 in
theorem zkd_X5_ownAt : ∀ q ∈ zk_X5_ownAt, ∀ e ∈ q.2, decode cX5_ownAt e.1 = .ok e.2 ∧ zlo e = true := by decide +kernel
def zm_X5_ownAt : zMe := ((5, 1, 4, zk_X5_ownAt), (yX5_ownAt, cX5_ownAt, (some .int)))
set_option maxRecDepth 20000 in
theorem zp_X5_ownAt : zP zm_X5_ownAt := ⟨zkd_X5_ownAt, List.mem_of_getElem? (i := 669) rfl, by decide +kernel, rfl, rfl, by decide +kernel, by decide +kernel⟩
def zk_X5_gatheredAt : zCd := [(7, [(0, .iload_n 2, 1), (1, .iconst (-1), 1), (2, .if_icmp .eq 16, 3), (5, .aload_n 0, 1), (6, .getfield 15, 3)]), (16, [(9, .getfield 252, 3), (12, .iload_n 2, 1), (13, .iaload, 1), (14, .iconst 2, 1), (15, .if_icmp .eq 5, 3)]), (25, [(18, .iconst (-1), 1), (19, .ireturn, 1), (20, .aload_n 0, 1), (21, .getfield 35, 3), (24, .iload_n 1, 1)]), (32, [(25, .iload_n 2, 1), (26, .invokevirtual 163, 3), (29, .istore_n 3, 1), (30, .iload_n 3, 1), (31, .iconst 1, 1)]), (40, [(32, .if_icmp .le 10, 3), (35, .bipush (-100), 2), (37, .iload_n 3, 1), (38, .isub, 1), (39, .goto 4, 3)]), (44, [(42, .iconst (-1), 1), (43, .ireturn, 1)])]
set_option maxRecDepth 20000 in
theorem zkd_X5_gatheredAt : ∀ q ∈ zk_X5_gatheredAt, ∀ e ∈ q.2, decode cX5_gatheredAt e.1 = .ok e.2 ∧ zlo e = true := by decide +kernel
def zm_X5_gatheredAt : zMe := ((5, 1, 4, zk_X5_gatheredAt), (yX5_gatheredAt, cX5_gatheredAt, (some .int)))
set_option maxRecDepth 20000 in
theorem zp_X5_gatheredAt : zP zm_X5_gatheredAt := ⟨zkd_X5_gatheredAt, List.mem_of_getElem? (i := 674) rfl, by decide +kernel, rfl, rfl, by decide +kernel, by decide +kernel⟩
def zk_X5_foundAt : zCd := [(6, [(0, .iload_n 1, 1), (1, .istore_n 3, 1), (2, .iconst 0, 1), (3, .istore 4, 2), (5, .iload 4, 2)]), (15, [(7, .bipush 40, 2), (9, .if_icmp .ge 38, 3), (12, .iload_n 3, 1), (13, .iconst (-1), 1), (14, .if_icmp .eq 33, 3)]), (24, [(17, .aload_n 0, 1), (18, .iload_n 3, 1), (19, .iload_n 2, 1), (20, .invokevirtual 199, 3), (23, .istore 5, 2)]), (34, [(25, .iload 5, 2), (27, .iconst (-1), 1), (28, .if_icmp .eq 6, 3), (31, .iload 5, 2), (33, .ireturn, 1)]), (41, [(34, .aload_n 0, 1), (35, .iload_n 3, 1), (36, .iload_n 2, 1), (37, .invokevirtual 258, 3), (40, .istore_n 3, 1)]), (49, [(41, .iinc 4 1, 3), (44, .goto (-39), 3), (47, .iconst (-1), 1), (48, .ireturn, 1)])]
set_option maxRecDepth 20000 in
theorem zkd_X5_foundAt : ∀ q ∈ zk_X5_foundAt, ∀ e ∈ q.2, decode cX5_foundAt e.1 = .ok e.2 ∧ zlo e = true := by decide +kernel
def zm_X5_foundAt : zMe := ((5, 1, 6, zk_X5_foundAt), (yX5_foundAt, cX5_foundAt, (some .int)))
set_option maxRecDepth 20000 in
theorem zp_X5_foundAt : zP zm_X5_foundAt := ⟨zkd_X5_foundAt, List.mem_of_getElem? (i := 665) rfl, by decide +kernel, rfl, rfl, by decide +kernel, by decide +kernel⟩
def zk_X5_inheritsFrom : zCd := [(8, [(0, .aload_n 0, 1), (1, .getfield 15, 3), (4, .getfield 261, 3), (7, .iload_n 2, 1)]), (14, [(8, .baload, 1), (9, .ifCond .eq 14, 3), (12, .aload_n 0, 1), (13, .getfield 28, 3)]), (24, [(16, .iload_n 1, 1), (17, .invokevirtual 264, 3), (20, .goto 4, 3), (23, .iconst (-1), 1)]), (25, [(24, .ireturn, 1)])]
set_option maxRecDepth 20000 in
theorem zkd_X5_inheritsFrom : ∀ q ∈ zk_X5_inheritsFrom, ∀ e ∈ q.2, decode cX5_inheritsFrom e.1 = .ok e.2 ∧ zlo e = true := by decide +kernel
def zm_X5_inheritsFrom : zMe := ((5, 1, 3, zk_X5_inheritsFrom), (yX5_inheritsFrom, cX5_inheritsFrom, (some .int)))
set_option maxRecDepth 20000 in
theorem zp_X5_inheritsFrom : zP zm_X5_inheritsFrom := ⟨zkd_X5_inheritsFrom, List.mem_of_getElem? (i := 682) rfl, by decide +kernel, rfl, rfl, by decide +kernel, by decide +kernel⟩
def zk_X5_sourceOfAll : zCd := [(9, [(0, .aload_n 0, 1), (1, .getfield 15, 3), (4, .getfield 252, 3), (7, .iload_n 2, 1), (8, .iaload, 1)]), (16, [(9, .iconst 2, 1), (10, .if_icmp .eq 5, 3), (13, .iconst (-1), 1), (14, .ireturn, 1), (15, .iload_n 1, 1)]), (23, [(16, .istore_n 3, 1), (17, .iconst 0, 1), (18, .istore 4, 2), (20, .iload 4, 2), (22, .bipush 40, 2)]), (33, [(24, .if_icmp .ge 32, 3), (27, .iload_n 3, 1), (28, .iconst (-1), 1), (29, .if_icmp .eq 27, 3), (32, .aload_n 0, 1)]), (42, [(33, .iload_n 3, 1), (34, .iload_n 2, 1), (35, .invokevirtual 205, 3), (38, .ifCond .le 5, 3), (41, .iload_n 3, 1)]), (47, [(42, .ireturn, 1), (43, .aload_n 0, 1), (44, .iload_n 3, 1), (45, .iload_n 2, 1), (46, .invokevirtual 258, 3)]), (58, [(49, .istore_n 3, 1), (50, .iinc 4 1, 3), (53, .goto (-33), 3), (56, .iconst (-1), 1), (57, .ireturn, 1)])]
set_option maxRecDepth 20000 in
theorem zkd_X5_sourceOfAll : ∀ q ∈ zk_X5_sourceOfAll, ∀ e ∈ q.2, decode cX5_sourceOfAll e.1 = .ok e.2 ∧ zlo e = true := by decide +kernel
def zm_X5_sourceOfAll : zMe := ((5, 1, 5, zk_X5_sourceOfAll), (yX5_sourceOfAll, cX5_sourceOfAll, (some .int)))
set_option maxRecDepth 20000 in
theorem zp_X5_sourceOfAll : zP zm_X5_sourceOfAll := ⟨zkd_X5_sourceOfAll, List.mem_of_getElem? (i := 711) rfl, by decide +kernel, rfl, rfl, by decide +kernel, by decide +kernel⟩
def zk_X5_howManyHere : zCd := [(7, [(0, .aload_n 0, 1), (1, .getfield 35, 3), (4, .iload_n 1, 1), (5, .iload_n 2, 1), (6, .invokevirtual 163, 3)]), (16, [(9, .istore_n 3, 1), (10, .iload_n 3, 1), (11, .ifCond .le 5, 3), (14, .iload_n 3, 1), (15, .ireturn, 1)]), (23, [(16, .aload_n 0, 1), (17, .iload_n 1, 1), (18, .iload_n 2, 1), (19, .invokevirtual 211, 3), (22, .istore 4, 2)]), (32, [(24, .iload 4, 2), (26, .iconst (-1), 1), (27, .if_icmp .ne 7, 3), (30, .iconst 0, 1), (31, .goto 13, 3)]), (44, [(34, .aload_n 0, 1), (35, .getfield 21, 3), (38, .getfield 127, 3), (41, .iload 4, 2), (43, .iaload, 1)]), (45, [(44, .ireturn, 1)])]
set_option maxRecDepth 20000 in
theorem zkd_X5_howManyHere : ∀ q ∈ zk_X5_howManyHere, ∀ e ∈ q.2, decode cX5_howManyHere e.1 = .ok e.2 ∧ zlo e = true := by decide +kernel
def zm_X5_howManyHere : zMe := ((5, 1, 5, zk_X5_howManyHere), (yX5_howManyHere, cX5_howManyHere, (some .int)))
set_option maxRecDepth 20000 in
theorem zp_X5_howManyHere : zP zm_X5_howManyHere := ⟨zkd_X5_howManyHere, List.mem_of_getElem? (i := 715) rfl, by decide +kernel, rfl, rfl, by decide +kernel, by decide +kernel⟩
def zk_X5_containerRowAt : zCd := [(9, [(0, .aload_n 0, 1), (1, .getfield 15, 3), (4, .getfield 98, 3), (7, .iload_n 2, 1), (8, .iaload, 1)]), (16, [(9, .istore_n 3, 1), (10, .iload_n 3, 1), (11, .iconst (-1), 1), (12, .if_icmp .ne 5, 3), (15, .iconst (-1), 1)]), (21, [(16, .ireturn, 1), (17, .aload_n 0, 1), (18, .iload_n 1, 1), (19, .iload_n 3, 1), (20, .invokevirtual 199, 3)]), (32, [(23, .istore 4, 2), (25, .aload_n 0, 1), (26, .getfield 21, 3), (29, .iload 4, 2), (31, .iconst 2, 1)]), (43, [(32, .invokevirtual 121, 3), (35, .ifCond .eq 16, 3), (38, .aload_n 0, 1), (39, .getfield 21, 3), (42, .iload 4, 2)]), (53, [(44, .iconst 0, 1), (45, .invokevirtual 179, 3), (48, .goto 4, 3), (51, .iconst (-1), 1), (52, .ireturn, 1)])]
set_option maxRecDepth 20000 in
theorem zkd_X5_containerRowAt : ∀ q ∈ zk_X5_containerRowAt, ∀ e ∈ q.2, decode cX5_containerRowAt e.1 = .ok e.2 ∧ zlo e = true := by decide +kernel
def zm_X5_containerRowAt : zMe := ((5, 1, 5, zk_X5_containerRowAt), (yX5_containerRowAt, cX5_containerRowAt, (some .int)))
set_option maxRecDepth 20000 in
theorem zp_X5_containerRowAt : zP zm_X5_containerRowAt := ⟨zkd_X5_containerRowAt, List.mem_of_getElem? (i := 719) rfl, by decide +kernel, rfl, rfl, by decide +kernel, by decide +kernel⟩
def zk_X6_isMark : zCd := [(6, [(0, .iload_n 1, 1), (1, .ifCond .lt 15, 3), (4, .iload_n 1, 1), (5, .aload_n 0, 1)]), (14, [(6, .getfield 92, 3), (9, .if_icmp .ge 7, 3), (12, .iconst 1, 1), (13, .goto 4, 3)]), (18, [(16, .iconst 0, 1), (17, .ireturn, 1)])]
set_option maxRecDepth 20000 in
theorem zkd_X6_isMark : ∀ q ∈ zk_X6_isMark, ∀ e ∈ q.2, decode cX6_isMark e.1 = .ok e.2 ∧ zlo e = true := by decide +kernel
def zm_X6_isMark : zMe := ((6, 2, 2, zk_X6_isMark), (yX6_isMark, cX6_isMark, (some .boolean)))
set_option maxRecDepth 20000 in
theorem zp_X6_isMark : zP zm_X6_isMark := ⟨zkd_X6_isMark, List.mem_of_getElem? (i := 186) rfl, by decide +kernel, rfl, rfl, by decide +kernel, by decide +kernel⟩
def zk_X6_mark : zCd := [(11, [(0, .iload_n 1, 1), (1, .ifCond .lt 18, 3), (4, .iload_n 1, 1), (5, .bipush 31, 2), (7, .if_icmp .gt 12, 3), (10, .iload_n 2, 1)]), (22, [(11, .ifCond .lt 8, 3), (14, .iload_n 2, 1), (15, .iconst 2, 1), (16, .if_icmp .le 6, 3), (19, .bipush (-2), 2), (21, .ireturn, 1)]), (34, [(22, .aload_n 0, 1), (23, .getfield 92, 3), (26, .bipush 12, 2), (28, .if_icmp .ne 6, 3), (31, .bipush (-3), 2), (33, .ireturn, 1)]), (44, [(34, .aload_n 0, 1), (35, .getfield 7, 3), (38, .aload_n 0, 1), (39, .getfield 92, 3), (42, .iload_n 1, 1), (43, .iastore, 1)]), (54, [(44, .aload_n 0, 1), (45, .getfield 13, 3), (48, .aload_n 0, 1), (49, .getfield 92, 3), (52, .iload_n 2, 1), (53, .iastore, 1)]), (64, [(54, .aload_n 0, 1), (55, .getfield 16, 3), (58, .aload_n 0, 1), (59, .getfield 92, 3), (62, .iload_n 3, 1), (63, .bastore, 1)]), (72, [(64, .aload_n 0, 1), (65, .dup, 1), (66, .getfield 92, 3), (69, .iconst 1, 1), (70, .iadd, 1), (71, .putfield 92, 3)]), (81, [(74, .aload_n 0, 1), (75, .getfield 92, 3), (78, .iconst 1, 1), (79, .isub, 1), (80, .ireturn, 1)])]
set_option maxRecDepth 20000 in
theorem zkd_X6_mark : ∀ q ∈ zk_X6_mark, ∀ e ∈ q.2, decode cX6_mark e.1 = .ok e.2 ∧ zlo e = true := by decide +kernel
def zm_X6_mark : zMe := ((6, 1, 4, zk_X6_mark), (yX6_mark, cX6_mark, (some .int)))
set_option maxRecDepth 20000 in
theorem zp_X6_mark : zP zm_X6_mark := ⟨zkd_X6_mark, List.mem_of_getElem? (i := 137) rfl, by decide +kernel, rfl, rfl, by decide +kernel, by decide +kernel⟩
def zk_X6_isKind : zCd := [(6, [(0, .iload_n 1, 1), (1, .ifCond .lt 8, 3), (4, .iload_n 1, 1), (5, .iconst 3, 1)]), (12, [(6, .if_icmp .le 14, 3), (9, .aload_n 0, 1), (10, .iload_n 1, 1), (11, .bipush 10, 2)]), (21, [(13, .isub, 1), (14, .invokevirtual 96, 3), (17, .ifCond .eq 7, 3), (20, .iconst 1, 1)]), (26, [(21, .goto 4, 3), (24, .iconst 0, 1), (25, .ireturn, 1)])]
set_option maxRecDepth 20000 in
theorem zkd_X6_isKind : ∀ q ∈ zk_X6_isKind, ∀ e ∈ q.2, decode cX6_isKind e.1 = .ok e.2 ∧ zlo e = true := by decide +kernel
def zm_X6_isKind : zMe := ((6, 2, 2, zk_X6_isKind), (yX6_isKind, cX6_isKind, (some .boolean)))
set_option maxRecDepth 20000 in
theorem zp_X6_isKind : zP zm_X6_isKind := ⟨zkd_X6_isKind, List.mem_of_getElem? (i := 190) rfl, by decide +kernel, rfl, rfl, by decide +kernel, by decide +kernel⟩
def zk_X6_elementOf : zCd := [(6, [(0, .iconst (-1), 1), (1, .istore_n 3, 1), (2, .iconst 0, 1), (3, .istore 4, 2), (5, .iload 4, 2)]), (14, [(7, .aload_n 0, 1), (8, .getfield 26, 3), (11, .iload_n 1, 1), (12, .iaload, 1), (13, .if_icmp .ge 35, 3)]), (23, [(16, .aload_n 0, 1), (17, .getfield 29, 3), (20, .iconst 5, 1), (21, .iload_n 1, 1), (22, .imul, 1)]), (29, [(23, .iload 4, 2), (25, .iadd, 1), (26, .iaload, 1), (27, .iload_n 2, 1), (28, .if_icmp .ne 12, 3)]), (37, [(31, .iconst 5, 1), (32, .iload_n 1, 1), (33, .imul, 1), (34, .iload 4, 2), (36, .iadd, 1)]), (46, [(37, .goto 4, 3), (40, .iload_n 3, 1), (41, .istore_n 3, 1), (42, .iinc 4 1, 3), (45, .goto (-40), 3)]), (50, [(48, .iload_n 3, 1), (49, .ireturn, 1)])]
set_option maxRecDepth 20000 in
theorem zkd_X6_elementOf : ∀ q ∈ zk_X6_elementOf, ∀ e ∈ q.2, decode cX6_elementOf e.1 = .ok e.2 ∧ zlo e = true := by decide +kernel
def zm_X6_elementOf : zMe := ((6, 1, 5, zk_X6_elementOf), (yX6_elementOf, cX6_elementOf, (some .int)))
set_option maxRecDepth 20000 in
theorem zp_X6_elementOf : zP zm_X6_elementOf := ⟨zkd_X6_elementOf, List.mem_of_getElem? (i := 194) rfl, by decide +kernel, rfl, rfl, by decide +kernel, by decide +kernel⟩
def zk_X6_isFixed : zCd := [(8, [(0, .aload_n 0, 1), (1, .getfield 20, 3), (4, .iload_n 1, 1), (5, .iaload, 1), (6, .iconst (-1), 1), (7, .if_icmp .ne 13, 3)]), (18, [(10, .aload_n 0, 1), (11, .getfield 23, 3), (14, .iload_n 1, 1), (15, .iaload, 1), (16, .iconst (-1), 1), (17, .if_icmp .eq 7, 3)]), (28, [(20, .iconst 1, 1), (21, .goto 4, 3), (24, .iconst 0, 1), (25, .istore_n 2, 1), (26, .iconst 0, 1), (27, .istore_n 3, 1)]), (38, [(28, .iload_n 3, 1), (29, .aload_n 0, 1), (30, .getfield 100, 3), (33, .if_icmp .ge 39, 3), (36, .iload_n 2, 1), (37, .ifCond .ne 23, 3)]), (48, [(40, .aload_n 0, 1), (41, .getfield 50, 3), (44, .iload_n 3, 1), (45, .iaload, 1), (46, .iconst 2, 1), (47, .if_icmp .ne 17, 3)]), (58, [(50, .aload_n 0, 1), (51, .getfield 53, 3), (54, .iload_n 3, 1), (55, .iaload, 1), (56, .iload_n 1, 1), (57, .if_icmp .ne 7, 3)]), (70, [(60, .iconst 1, 1), (61, .goto 4, 3), (64, .iconst 0, 1), (65, .istore_n 2, 1), (66, .iinc 3 1, 3), (69, .goto (-41), 3)]), (74, [(72, .iload_n 2, 1), (73, .ireturn, 1)])]
set_option maxRecDepth 20000 in
theorem zkd_X6_isFixed : ∀ q ∈ zk_X6_isFixed, ∀ e ∈ q.2, decode cX6_isFixed e.1 = .ok e.2 ∧ zlo e = true := by decide +kernel
def zm_X6_isFixed : zMe := ((6, 2, 4, zk_X6_isFixed), (yX6_isFixed, cX6_isFixed, (some .boolean)))
set_option maxRecDepth 20000 in
theorem zp_X6_isFixed : zP zm_X6_isFixed := ⟨zkd_X6_isFixed, List.mem_of_getElem? (i := 198) rfl, by decide +kernel, rfl, rfl, by decide +kernel, by decide +kernel⟩
def zk_X6_mayLead : zCd := [(15, [(0, .iconst 0, 1), (1, .istore_n 3, 1), (2, .iload_n 3, 1), (3, .bipush 12, 2), (5, .if_icmp .ge 16, 3), (8, .aload_n 0, 1), (9, .getfield 41, 3), (12, .iload_n 3, 1), (13, .iconst 0, 1), (14, .iastore, 1)]), (33, [(15, .iinc 3 1, 3), (18, .goto (-16), 3), (21, .iconst 1, 1), (22, .istore_n 3, 1), (23, .iconst 0, 1), (24, .istore 4, 2), (26, .iload 4, 2), (28, .iconst 4, 1), (29, .if_icmp .ge 144, 3), (32, .iconst 0, 1)]), (51, [(33, .istore 5, 2), (35, .iload 5, 2), (37, .aload_n 0, 1), (38, .getfield 92, 3), (41, .if_icmp .ge 126, 3), (44, .iconst 0, 1), (45, .istore 6, 2), (47, .iload 6, 2), (49, .aload_n 0, 1), (50, .getfield 26, 3)]), (70, [(53, .iload 5, 2), (55, .iaload, 1), (56, .if_icmp .ge 66, 3), (59, .aload_n 0, 1), (60, .getfield 32, 3), (63, .iconst 5, 1), (64, .iload 5, 2), (66, .imul, 1), (67, .iload 6, 2), (69, .iadd, 1)]), (88, [(70, .iaload, 1), (71, .bipush 10, 2), (73, .isub, 1), (74, .istore 7, 2), (76, .iload 7, 2), (78, .ifCond .lt 38, 3), (81, .aload_n 0, 1), (82, .getfield 41, 3), (85, .iload 7, 2), (87, .iaload, 1)]), (105, [(88, .iconst 1, 1), (89, .iadd, 1), (90, .aload_n 0, 1), (91, .getfield 41, 3), (94, .iload 5, 2), (96, .iaload, 1), (97, .if_icmp .le 19, 3), (100, .aload_n 0, 1), (101, .getfield 41, 3), (104, .iload 5, 2)]), (123, [(106, .aload_n 0, 1), (107, .getfield 41, 3), (110, .iload 7, 2), (112, .iaload, 1), (113, .iconst 1, 1), (114, .iadd, 1), (115, .iastore, 1), (116, .iinc 6 1, 3), (119, .goto (-72), 3), (122, .iload 5, 2)]), (138, [(124, .iload_n 1, 1), (125, .if_icmp .ne 36, 3), (128, .aload_n 0, 1), (129, .getfield 41, 3), (132, .iload_n 2, 1), (133, .iaload, 1), (134, .iconst 1, 1), (135, .iadd, 1), (136, .aload_n 0, 1), (137, .getfield 41, 3)]), (158, [(140, .iload 5, 2), (142, .iaload, 1), (143, .if_icmp .le 18, 3), (146, .aload_n 0, 1), (147, .getfield 41, 3), (150, .iload 5, 2), (152, .aload_n 0, 1), (153, .getfield 41, 3), (156, .iload_n 2, 1), (157, .iaload, 1)]), (177, [(158, .iconst 1, 1), (159, .iadd, 1), (160, .iastore, 1), (161, .iinc 5 1, 3), (164, .goto (-129), 3), (167, .iinc 4 1, 3), (170, .goto (-144), 3), (173, .iconst 0, 1), (174, .istore 4, 2), (176, .iload 4, 2)]), (197, [(178, .aload_n 0, 1), (179, .getfield 92, 3), (182, .if_icmp .ge 30, 3), (185, .iload_n 3, 1), (186, .ifCond .eq 18, 3), (189, .aload_n 0, 1), (190, .getfield 41, 3), (193, .iload 4, 2), (195, .iaload, 1), (196, .iconst 2, 1)]), (214, [(197, .if_icmp .gt 7, 3), (200, .iconst 1, 1), (201, .goto 4, 3), (204, .iconst 0, 1), (205, .istore_n 3, 1), (206, .iinc 4 1, 3), (209, .goto (-33), 3), (212, .iload_n 3, 1), (213, .ireturn, 1)])]
set_option maxRecDepth 20000 in
theorem zkd_X6_mayLead : ∀ q ∈ zk_X6_mayLead, ∀ e ∈ q.2, decode cX6_mayLead e.1 = .ok e.2 ∧ zlo e = true := by decide +kernel
def zm_X6_mayLead : zMe := ((6, 2, 8, zk_X6_mayLead), (yX6_mayLead, cX6_mayLead, (some .boolean)))
set_option maxRecDepth 20000 in
theorem zp_X6_mayLead : zP zm_X6_mayLead := ⟨zkd_X6_mayLead, List.mem_of_getElem? (i := 203) rfl, by decide +kernel, rfl, rfl, by decide +kernel, by decide +kernel⟩
def zk_X6_element : zCd := [(16, [(0, .aload_n 0, 1), (1, .iload_n 1, 1), (2, .invokevirtual 96, 3), (5, .ifCond .eq 31, 3), (8, .iload_n 2, 1), (9, .ifCond .lt 27, 3), (12, .iload_n 2, 1), (13, .bipush 9, 2), (15, .if_icmp .gt 21, 3)]), (33, [(18, .aload_n 0, 1), (19, .iload_n 3, 1), (20, .invokevirtual 103, 3), (23, .ifCond .eq 13, 3), (26, .aload_n 0, 1), (27, .iload_n 1, 1), (28, .iload_n 2, 1), (29, .invokevirtual 106, 3), (32, .iconst (-1), 1)]), (50, [(33, .if_icmp .eq 6, 3), (36, .bipush (-2), 2), (38, .ireturn, 1), (39, .aload_n 0, 1), (40, .iload_n 1, 1), (41, .invokevirtual 110, 3), (44, .ifCond .eq 6, 3), (47, .bipush (-4), 2), (49, .ireturn, 1)]), (63, [(50, .iload_n 3, 1), (51, .bipush 10, 2), (53, .if_icmp .lt 18, 3), (56, .aload_n 0, 1), (57, .iload_n 1, 1), (58, .iload_n 3, 1), (59, .bipush 10, 2), (61, .isub, 1), (62, .invokevirtual 113, 3)]), (79, [(65, .ifCond .ne 6, 3), (68, .bipush (-6), 2), (70, .ireturn, 1), (71, .aload_n 0, 1), (72, .getfield 26, 3), (75, .iload_n 1, 1), (76, .iaload, 1), (77, .iconst 5, 1), (78, .if_icmp .ne 6, 3)]), (93, [(81, .bipush (-3), 2), (83, .ireturn, 1), (84, .iconst 5, 1), (85, .iload_n 1, 1), (86, .imul, 1), (87, .aload_n 0, 1), (88, .getfield 26, 3), (91, .iload_n 1, 1), (92, .iaload, 1)]), (106, [(93, .iadd, 1), (94, .istore 5, 2), (96, .aload_n 0, 1), (97, .getfield 29, 3), (100, .iload 5, 2), (102, .iload_n 2, 1), (103, .iastore, 1), (104, .aload_n 0, 1), (105, .getfield 32, 3)]), (122, [(108, .iload 5, 2), (110, .iload_n 3, 1), (111, .iastore, 1), (112, .aload_n 0, 1), (113, .getfield 35, 3), (116, .iload 5, 2), (118, .iload 4, 2), (120, .bastore, 1), (121, .aload_n 0, 1)]), (136, [(122, .getfield 38, 3), (125, .iload 5, 2), (127, .iconst (-1), 1), (128, .iastore, 1), (129, .aload_n 0, 1), (130, .getfield 26, 3), (133, .iload_n 1, 1), (134, .dup2, 1), (135, .iaload, 1)]), (146, [(136, .iconst 1, 1), (137, .iadd, 1), (138, .iastore, 1), (139, .aload_n 0, 1), (140, .getfield 26, 3), (143, .iload_n 1, 1), (144, .iaload, 1), (145, .ireturn, 1)])]
set_option maxRecDepth 20000 in
theorem zkd_X6_element : ∀ q ∈ zk_X6_element, ∀ e ∈ q.2, decode cX6_element e.1 = .ok e.2 ∧ zlo e = true := by decide +kernel
def zm_X6_element : zMe := ((6, 1, 6, zk_X6_element), (yX6_element, cX6_element, (some .int)))
set_option maxRecDepth 20000 in
theorem zp_X6_element : zP zm_X6_element := ⟨zkd_X6_element, List.mem_of_getElem? (i := 182) rfl, by decide +kernel, rfl, rfl, by decide +kernel, by decide +kernel⟩
def zk_X6_isContainer : zCd := [(13, [(0, .aload_n 0, 1), (1, .iload_n 2, 1), (2, .iconst 0, 1), (3, .invokevirtual 106, 3), (6, .istore_n 3, 1), (7, .iload_n 3, 1), (8, .iconst (-1), 1), (9, .if_icmp .eq 29, 3), (12, .aload_n 0, 1)]), (28, [(13, .getfield 35, 3), (16, .iload_n 3, 1), (17, .baload, 1), (18, .ifCond .eq 20, 3), (21, .aload_n 0, 1), (22, .getfield 32, 3), (25, .iload_n 3, 1), (26, .iaload, 1), (27, .bipush 10, 2)]), (43, [(29, .iload_n 1, 1), (30, .iadd, 1), (31, .if_icmp .ne 7, 3), (34, .iconst 1, 1), (35, .goto 4, 3), (38, .iconst 0, 1), (39, .istore 4, 2), (41, .iconst 5, 1), (42, .iload_n 2, 1)]), (56, [(43, .imul, 1), (44, .istore 5, 2), (46, .iload 5, 2), (48, .iconst 5, 1), (49, .iload_n 2, 1), (50, .imul, 1), (51, .aload_n 0, 1), (52, .getfield 26, 3), (55, .iload_n 2, 1)]), (73, [(56, .iaload, 1), (57, .iadd, 1), (58, .if_icmp .ge 38, 3), (61, .iload 4, 2), (63, .ifCond .eq 24, 3), (66, .iload 5, 2), (68, .iload_n 3, 1), (69, .if_icmp .eq 14, 3), (72, .aload_n 0, 1)]), (89, [(73, .getfield 38, 3), (76, .iload 5, 2), (78, .iaload, 1), (79, .iconst (-1), 1), (80, .if_icmp .eq 7, 3), (83, .iconst 1, 1), (84, .goto 4, 3), (87, .iconst 0, 1), (88, .istore 4, 2)]), (108, [(90, .iinc 5 1, 3), (93, .goto (-47), 3), (96, .iload 4, 2), (98, .ifCond .eq 58, 3), (101, .aload_n 0, 1), (102, .getfield 13, 3), (105, .iload_n 2, 1), (106, .iaload, 1), (107, .aload_n 0, 1)]), (123, [(108, .getfield 13, 3), (111, .iload_n 1, 1), (112, .iaload, 1), (113, .if_icmp .lt 43, 3), (116, .aload_n 0, 1), (117, .getfield 7, 3), (120, .iload_n 2, 1), (121, .iaload, 1), (122, .aload_n 0, 1)]), (136, [(123, .getfield 7, 3), (126, .iload_n 1, 1), (127, .iaload, 1), (128, .iconst (-1), 1), (129, .ixor, 1), (130, .iand, 1), (131, .ifCond .ne 25, 3), (134, .aload_n 0, 1), (135, .getfield 16, 3)]), (153, [(138, .iload_n 2, 1), (139, .baload, 1), (140, .ifCond .ne 12, 3), (143, .aload_n 0, 1), (144, .getfield 16, 3), (147, .iload_n 1, 1), (148, .baload, 1), (149, .ifCond .ne 7, 3), (152, .iconst 1, 1)]), (158, [(153, .goto 4, 3), (156, .iconst 0, 1), (157, .ireturn, 1)])]
set_option maxRecDepth 20000 in
theorem zkd_X6_isContainer : ∀ q ∈ zk_X6_isContainer, ∀ e ∈ q.2, decode cX6_isContainer e.1 = .ok e.2 ∧ zlo e = true := by decide +kernel
def zm_X6_isContainer : zMe := ((6, 2, 6, zk_X6_isContainer), (yX6_isContainer, cX6_isContainer, (some .boolean)))
set_option maxRecDepth 20000 in
theorem zp_X6_isContainer : zP zm_X6_isContainer := ⟨zkd_X6_isContainer, List.mem_of_getElem? (i := 363) rfl, by decide +kernel, rfl, rfl, by decide +kernel, by decide +kernel⟩
def zk_X6_container : zCd := [(14, [(0, .aload_n 0, 1), (1, .iload_n 1, 1), (2, .invokevirtual 96, 3), (5, .ifCond .eq 11, 3), (8, .aload_n 0, 1), (9, .iload_n 2, 1), (10, .invokevirtual 96, 3), (13, .ifCond .ne 6, 3)]), (27, [(16, .bipush (-2), 2), (18, .ireturn, 1), (19, .iconst 0, 1), (20, .istore_n 3, 1), (21, .iconst 0, 1), (22, .istore 4, 2), (24, .iload 4, 2), (26, .aload_n 0, 1)]), (43, [(27, .getfield 117, 3), (30, .if_icmp .ge 35, 3), (33, .iload_n 3, 1), (34, .ifCond .ne 19, 3), (37, .aload_n 0, 1), (38, .getfield 53, 3), (41, .aload_n 0, 1), (42, .getfield 89, 3)]), (58, [(45, .iload 4, 2), (47, .iaload, 1), (48, .iaload, 1), (49, .iload_n 1, 1), (50, .if_icmp .ne 7, 3), (53, .iconst 1, 1), (54, .goto 4, 3), (57, .iconst 0, 1)]), (72, [(58, .istore_n 3, 1), (59, .iinc 4 1, 3), (62, .goto (-38), 3), (65, .aload_n 0, 1), (66, .getfield 20, 3), (69, .iload_n 1, 1), (70, .iaload, 1), (71, .iconst (-1), 1)]), (85, [(72, .if_icmp .ne 7, 3), (75, .iload_n 3, 1), (76, .ifCond .eq 6, 3), (79, .bipush (-4), 2), (81, .ireturn, 1), (82, .aload_n 0, 1), (83, .iload_n 1, 1), (84, .iload_n 2, 1)]), (99, [(85, .invokevirtual 120, 3), (88, .ifCond .ne 5, 3), (91, .iconst 0, 1), (92, .ireturn, 1), (93, .aload_n 0, 1), (94, .getfield 20, 3), (97, .iload_n 1, 1), (98, .iload_n 2, 1)]), (109, [(99, .iastore, 1), (100, .aload_n 0, 1), (101, .getfield 23, 3), (104, .iload_n 2, 1), (105, .iload_n 1, 1), (106, .iastore, 1), (107, .iconst 1, 1), (108, .ireturn, 1)])]
set_option maxRecDepth 20000 in
theorem zkd_X6_container : ∀ q ∈ zk_X6_container, ∀ e ∈ q.2, decode cX6_container e.1 = .ok e.2 ∧ zlo e = true := by decide +kernel
def zm_X6_container : zMe := ((6, 1, 5, zk_X6_container), (yX6_container, cX6_container, (some .int)))
set_option maxRecDepth 20000 in
theorem zp_X6_container : zP zm_X6_container := ⟨zkd_X6_container, List.mem_of_getElem? (i := 358) rfl, by decide +kernel, rfl, rfl, by decide +kernel, by decide +kernel⟩
def zk_X6_isPlace : zCd := [(6, [(0, .iload_n 1, 1), (1, .ifCond .lt 15, 3), (4, .iload_n 1, 1), (5, .aload_n 0, 1)]), (14, [(6, .getfield 123, 3), (9, .if_icmp .ge 7, 3), (12, .iconst 1, 1), (13, .goto 4, 3)]), (18, [(16, .iconst 0, 1), (17, .ireturn, 1)])]
set_option maxRecDepth 20000 in
theorem zkd_X6_isPlace : ∀ q ∈ zk_X6_isPlace, ∀ e ∈ q.2, decode cX6_isPlace e.1 = .ok e.2 ∧ zlo e = true := by decide +kernel
def zm_X6_isPlace : zMe := ((6, 2, 2, zk_X6_isPlace), (yX6_isPlace, cX6_isPlace, (some .boolean)))
set_option maxRecDepth 20000 in
theorem zp_X6_isPlace : zP zm_X6_isPlace := ⟨zkd_X6_isPlace, List.mem_of_getElem? (i := 404) rfl, by decide +kernel, rfl, rfl, by decide +kernel, by decide +kernel⟩
def zk_X6_isAmong : zCd := [(6, [(0, .aload_n 0, 1), (1, .iload_n 1, 1), (2, .invokevirtual 126, 3), (5, .ifCond .eq 27, 3)]), (14, [(8, .aload_n 0, 1), (9, .getfield 44, 3), (12, .iload_n 1, 1), (13, .iaload, 1)]), (20, [(14, .iload_n 2, 1), (15, .if_icmp .lt 17, 3), (18, .aload_n 0, 1), (19, .getfield 44, 3)]), (26, [(22, .iload_n 1, 1), (23, .iaload, 1), (24, .iload_n 3, 1), (25, .if_icmp .gt 7, 3)]), (34, [(28, .iconst 1, 1), (29, .goto 4, 3), (32, .iconst 0, 1), (33, .ireturn, 1)])]
set_option maxRecDepth 20000 in
theorem zkd_X6_isAmong : ∀ q ∈ zk_X6_isAmong, ∀ e ∈ q.2, decode cX6_isAmong e.1 = .ok e.2 ∧ zlo e = true := by decide +kernel
def zm_X6_isAmong : zMe := ((6, 2, 4, zk_X6_isAmong), (yX6_isAmong, cX6_isAmong, (some .boolean)))
set_option maxRecDepth 20000 in
theorem zp_X6_isAmong : zP zm_X6_isAmong := ⟨zkd_X6_isAmong, List.mem_of_getElem? (i := 400) rfl, by decide +kernel, rfl, rfl, by decide +kernel, by decide +kernel⟩
def zk_X6_isType : zCd := [(4, [(0, .aload_n 0, 1), (1, .iload_n 1, 1), (2, .iconst 0, 1), (3, .iconst 1, 1)]), (8, [(4, .invokevirtual 129, 3), (7, .ireturn, 1)])]
set_option maxRecDepth 20000 in
theorem zkd_X6_isType : ∀ q ∈ zk_X6_isType, ∀ e ∈ q.2, decode cX6_isType e.1 = .ok e.2 ∧ zlo e = true := by decide +kernel
def zm_X6_isType : zMe := ((6, 2, 2, zk_X6_isType), (yX6_isType, cX6_isType, (some .boolean)))
set_option maxRecDepth 20000 in
theorem zp_X6_isType : zP zm_X6_isType := ⟨zkd_X6_isType, List.mem_of_getElem? (i := 408) rfl, by decide +kernel, rfl, rfl, by decide +kernel, by decide +kernel⟩
def zk_X6_place : zCd := [(13, [(0, .iload_n 1, 1), (1, .ifCond .ne 26, 3), (4, .iload_n 2, 1), (5, .iconst (-1), 1), (6, .if_icmp .eq 13, 3), (9, .aload_n 0, 1), (10, .iload_n 2, 1), (11, .iconst 0, 1), (12, .iconst 0, 1)]), (30, [(13, .invokevirtual 129, 3), (16, .ifCond .eq 7, 3), (19, .iconst 1, 1), (20, .goto 63, 3), (23, .iconst 0, 1), (24, .goto 59, 3), (27, .iload_n 1, 1), (28, .iconst 1, 1), (29, .if_icmp .ne 16, 3)]), (47, [(32, .iload_n 2, 1), (33, .iconst (-1), 1), (34, .if_icmp .ne 7, 3), (37, .iconst 1, 1), (38, .goto 45, 3), (41, .iconst 0, 1), (42, .goto 41, 3), (45, .iload_n 1, 1), (46, .iconst 2, 1)]), (64, [(47, .if_icmp .lt 16, 3), (50, .iload_n 1, 1), (51, .iconst 4, 1), (52, .if_icmp .gt 11, 3), (55, .aload_n 0, 1), (56, .iload_n 2, 1), (57, .invokevirtual 133, 3), (60, .goto 23, 3), (63, .iload_n 1, 1)]), (79, [(64, .iconst 5, 1), (65, .if_icmp .ne 17, 3), (68, .aload_n 0, 1), (69, .iload_n 2, 1), (70, .iconst 3, 1), (71, .iconst 4, 1), (72, .invokevirtual 129, 3), (75, .ifCond .eq 7, 3), (78, .iconst 1, 1)]), (93, [(79, .goto 4, 3), (82, .iconst 0, 1), (83, .istore_n 3, 1), (84, .iload_n 3, 1), (85, .ifCond .ne 6, 3), (88, .bipush (-2), 2), (90, .ireturn, 1), (91, .aload_n 0, 1), (92, .getfield 123, 3)]), (112, [(95, .bipush 40, 2), (97, .if_icmp .ne 6, 3), (100, .bipush (-3), 2), (102, .ireturn, 1), (103, .aload_n 0, 1), (104, .getfield 44, 3), (107, .aload_n 0, 1), (108, .getfield 123, 3), (111, .iload_n 1, 1)]), (125, [(112, .iastore, 1), (113, .aload_n 0, 1), (114, .getfield 47, 3), (117, .aload_n 0, 1), (118, .getfield 123, 3), (121, .iload_n 2, 1), (122, .iastore, 1), (123, .aload_n 0, 1), (124, .dup, 1)]), (140, [(125, .getfield 123, 3), (128, .iconst 1, 1), (129, .iadd, 1), (130, .putfield 123, 3), (133, .aload_n 0, 1), (134, .getfield 123, 3), (137, .iconst 1, 1), (138, .isub, 1), (139, .ireturn, 1)])]
set_option maxRecDepth 20000 in
theorem zkd_X6_place : ∀ q ∈ zk_X6_place, ∀ e ∈ q.2, decode cX6_place e.1 = .ok e.2 ∧ zlo e = true := by decide +kernel
def zm_X6_place : zMe := ((6, 1, 4, zk_X6_place), (yX6_place, cX6_place, (some .int)))
set_option maxRecDepth 20000 in
theorem zp_X6_place : zP zm_X6_place := ⟨zkd_X6_place, List.mem_of_getElem? (i := 395) rfl, by decide +kernel, rfl, rfl, by decide +kernel, by decide +kernel⟩
def zk_X6_isValue : zCd := [(6, [(0, .iload_n 1, 1), (1, .ifCond .lt 15, 3), (4, .iload_n 1, 1), (5, .aload_n 0, 1)]), (14, [(6, .getfield 100, 3), (9, .if_icmp .ge 7, 3), (12, .iconst 1, 1), (13, .goto 4, 3)]), (18, [(16, .iconst 0, 1), (17, .ireturn, 1)])]
set_option maxRecDepth 20000 in
theorem zkd_X6_isValue : ∀ q ∈ zk_X6_isValue, ∀ e ∈ q.2, decode cX6_isValue e.1 = .ok e.2 ∧ zlo e = true := by decide +kernel
def zm_X6_isValue : zMe := ((6, 2, 2, zk_X6_isValue), (yX6_isValue, cX6_isValue, (some .boolean)))
set_option maxRecDepth 20000 in
theorem zp_X6_isValue : zP zm_X6_isValue := ⟨zkd_X6_isValue, List.mem_of_getElem? (i := 296) rfl, by decide +kernel, rfl, rfl, by decide +kernel, by decide +kernel⟩
def zk_X6_isSort : zCd := [(6, [(0, .aload_n 0, 1), (1, .iload_n 1, 1), (2, .invokevirtual 136, 3), (5, .ifCond .eq 17, 3)]), (14, [(8, .aload_n 0, 1), (9, .getfield 50, 3), (12, .iload_n 1, 1), (13, .iaload, 1)]), (20, [(14, .iload_n 2, 1), (15, .if_icmp .ne 7, 3), (18, .iconst 1, 1), (19, .goto 4, 3)]), (24, [(22, .iconst 0, 1), (23, .ireturn, 1)])]
set_option maxRecDepth 20000 in
theorem zkd_X6_isSort : ∀ q ∈ zk_X6_isSort, ∀ e ∈ q.2, decode cX6_isSort e.1 = .ok e.2 ∧ zlo e = true := by decide +kernel
def zm_X6_isSort : zMe := ((6, 2, 3, zk_X6_isSort), (yX6_isSort, cX6_isSort, (some .boolean)))
set_option maxRecDepth 20000 in
theorem zp_X6_isSort : zP zm_X6_isSort := ⟨zkd_X6_isSort, List.mem_of_getElem? (i := 450) rfl, by decide +kernel, rfl, rfl, by decide +kernel, by decide +kernel⟩
def zk_X6_added : zCd := [(11, [(0, .aload_n 0, 1), (1, .getfield 50, 3), (4, .aload_n 0, 1), (5, .getfield 100, 3), (8, .iload_n 1, 1), (9, .iastore, 1), (10, .aload_n 0, 1)]), (22, [(11, .getfield 53, 3), (14, .aload_n 0, 1), (15, .getfield 100, 3), (18, .iload_n 2, 1), (19, .iastore, 1), (20, .aload_n 0, 1), (21, .getfield 56, 3)]), (35, [(24, .aload_n 0, 1), (25, .getfield 100, 3), (28, .iload_n 3, 1), (29, .iastore, 1), (30, .aload_n 0, 1), (31, .getfield 59, 3), (34, .aload_n 0, 1)]), (46, [(35, .getfield 100, 3), (38, .iconst 0, 1), (39, .bastore, 1), (40, .iconst 0, 1), (41, .istore 4, 2), (43, .iload 4, 2), (45, .iconst 5, 1)]), (59, [(46, .if_icmp .ge 24, 3), (49, .aload_n 0, 1), (50, .getfield 62, 3), (53, .iconst 5, 1), (54, .aload_n 0, 1), (55, .getfield 100, 3), (58, .imul, 1)]), (71, [(59, .iload 4, 2), (61, .iadd, 1), (62, .iconst (-1), 1), (63, .iastore, 1), (64, .iinc 4 1, 3), (67, .goto (-24), 3), (70, .aload_n 0, 1)]), (82, [(71, .dup, 1), (72, .getfield 100, 3), (75, .iconst 1, 1), (76, .iadd, 1), (77, .putfield 100, 3), (80, .aload_n 0, 1), (81, .getfield 100, 3)]), (87, [(84, .iconst 1, 1), (85, .isub, 1), (86, .ireturn, 1)])]
set_option maxRecDepth 20000 in
theorem zkd_X6_added : ∀ q ∈ zk_X6_added, ∀ e ∈ q.2, decode cX6_added e.1 = .ok e.2 ∧ zlo e = true := by decide +kernel
def zm_X6_added : zMe := ((6, 1, 5, zk_X6_added), (yX6_added, cX6_added, (some .int)))
set_option maxRecDepth 20000 in
theorem zp_X6_added : zP zm_X6_added := ⟨zkd_X6_added, List.mem_of_getElem? (i := 330) rfl, by decide +kernel, rfl, rfl, by decide +kernel, by decide +kernel⟩
def zk_X6_value : zCd := [(10, [(0, .iload_n 1, 1), (1, .ifCond .eq 45, 3), (4, .iload_n 1, 1), (5, .iconst 1, 1), (6, .if_icmp .ne 13, 3), (9, .iload_n 2, 1)]), (21, [(10, .ifCond .lt 9, 3), (13, .iload_n 2, 1), (14, .bipush 99, 2), (16, .if_icmp .le 30, 3), (19, .iload_n 1, 1), (20, .iconst 2, 1)]), (31, [(21, .if_icmp .ne 12, 3), (24, .iload_n 2, 1), (25, .ifCond .lt 8, 3), (28, .iload_n 2, 1), (29, .iconst 4, 1), (30, .if_icmp .le 16, 3)]), (41, [(33, .iload_n 1, 1), (34, .iconst 3, 1), (35, .if_icmp .ne 15, 3), (38, .aload_n 0, 1), (39, .iload_n 2, 1), (40, .invokevirtual 133, 3)]), (53, [(43, .ifCond .eq 7, 3), (46, .iconst 1, 1), (47, .goto 4, 3), (50, .iconst 0, 1), (51, .istore_n 3, 1), (52, .iload_n 3, 1)]), (64, [(53, .ifCond .ne 6, 3), (56, .bipush (-2), 2), (58, .ireturn, 1), (59, .aload_n 0, 1), (60, .getfield 100, 3), (63, .bipush 100, 2)]), (76, [(65, .if_icmp .ne 8, 3), (68, .bipush (-3), 2), (70, .goto 10, 3), (73, .aload_n 0, 1), (74, .iconst 0, 1), (75, .iload_n 1, 1)]), (81, [(76, .iload_n 2, 1), (77, .invokevirtual 139, 3), (80, .ireturn, 1)])]
set_option maxRecDepth 20000 in
theorem zkd_X6_value : ∀ q ∈ zk_X6_value, ∀ e ∈ q.2, decode cX6_value e.1 = .ok e.2 ∧ zlo e = true := by decide +kernel
def zm_X6_value : zMe := ((6, 1, 4, zk_X6_value), (yX6_value, cX6_value, (some .int)))
set_option maxRecDepth 20000 in
theorem zp_X6_value : zP zm_X6_value := ⟨zkd_X6_value, List.mem_of_getElem? (i := 422) rfl, by decide +kernel, rfl, rfl, by decide +kernel, by decide +kernel⟩
def zk_X6_row : zCd := [(6, [(0, .aload_n 0, 1), (1, .iload_n 1, 1), (2, .invokevirtual 103, 3), (5, .ifCond .ne 6, 3)]), (13, [(8, .bipush (-2), 2), (10, .ireturn, 1), (11, .aload_n 0, 1), (12, .getfield 100, 3)]), (23, [(15, .bipush 100, 2), (17, .if_icmp .ne 8, 3), (20, .bipush (-3), 2), (22, .goto 10, 3)]), (29, [(25, .aload_n 0, 1), (26, .iconst 1, 1), (27, .iload_n 1, 1), (28, .iconst 0, 1)]), (33, [(29, .invokevirtual 139, 3), (32, .ireturn, 1)])]
set_option maxRecDepth 20000 in
theorem zkd_X6_row : ∀ q ∈ zk_X6_row, ∀ e ∈ q.2, decode cX6_row e.1 = .ok e.2 ∧ zlo e = true := by decide +kernel
def zm_X6_row : zMe := ((6, 1, 2, zk_X6_row), (yX6_row, cX6_row, (some .int)))
set_option maxRecDepth 20000 in
theorem zp_X6_row : zP zm_X6_row := ⟨zkd_X6_row, List.mem_of_getElem? (i := 430) rfl, by decide +kernel, rfl, rfl, by decide +kernel, by decide +kernel⟩
def zk_X6_instance : zCd := [(6, [(0, .aload_n 0, 1), (1, .iload_n 1, 1), (2, .invokevirtual 96, 3), (5, .ifCond .ne 6, 3)]), (13, [(8, .bipush (-2), 2), (10, .ireturn, 1), (11, .aload_n 0, 1), (12, .getfield 100, 3)]), (23, [(15, .bipush 100, 2), (17, .if_icmp .ne 8, 3), (20, .bipush (-3), 2), (22, .goto 10, 3)]), (29, [(25, .aload_n 0, 1), (26, .iconst 2, 1), (27, .iload_n 1, 1), (28, .iconst 0, 1)]), (33, [(29, .invokevirtual 139, 3), (32, .ireturn, 1)])]
set_option maxRecDepth 20000 in
theorem zkd_X6_instance : ∀ q ∈ zk_X6_instance, ∀ e ∈ q.2, decode cX6_instance e.1 = .ok e.2 ∧ zlo e = true := by decide +kernel
def zm_X6_instance : zMe := ((6, 1, 2, zk_X6_instance), (yX6_instance, cX6_instance, (some .int)))
set_option maxRecDepth 20000 in
theorem zp_X6_instance : zP zm_X6_instance := ⟨zkd_X6_instance, List.mem_of_getElem? (i := 459) rfl, by decide +kernel, rfl, rfl, by decide +kernel, by decide +kernel⟩
def zk_X6_failed : zCd := [(6, [(0, .aload_n 0, 1), (1, .iload_n 1, 1), (2, .putfield 143, 3), (5, .aload_n 0, 1)]), (12, [(6, .getfield 65, 3), (9, .iload_n 1, 1), (10, .dup2, 1), (11, .iaload, 1)]), (16, [(12, .iconst 1, 1), (13, .iadd, 1), (14, .iastore, 1), (15, .bipush (-5), 2)]), (18, [(17, .ireturn, 1)])]
set_option maxRecDepth 20000 in
theorem zkd_X6_failed : ∀ q ∈ zk_X6_failed, ∀ e ∈ q.2, decode cX6_failed e.1 = .ok e.2 ∧ zlo e = true := by decide +kernel
def zm_X6_failed : zMe := ((6, 1, 2, zk_X6_failed), (yX6_failed, cX6_failed, (some .int)))
set_option maxRecDepth 20000 in
theorem zp_X6_failed : zP zm_X6_failed := ⟨zkd_X6_failed, List.mem_of_getElem? (i := 325) rfl, by decide +kernel, rfl, rfl, by decide +kernel, by decide +kernel⟩
def zk_X6_good : zCd := [(6, [(0, .aload_n 0, 1), (1, .iconst 0, 1), (2, .putfield 143, 3), (5, .iload_n 1, 1)]), (7, [(6, .ireturn, 1)])]
set_option maxRecDepth 20000 in
theorem zkd_X6_good : ∀ q ∈ zk_X6_good, ∀ e ∈ q.2, decode cX6_good e.1 = .ok e.2 ∧ zlo e = true := by decide +kernel
def zm_X6_good : zMe := ((6, 1, 2, zk_X6_good), (yX6_good, cX6_good, (some .int)))
set_option maxRecDepth 20000 in
theorem zp_X6_good : zP zm_X6_good := ⟨zkd_X6_good, List.mem_of_getElem? (i := 338) rfl, by decide +kernel, rfl, rfl, by decide +kernel, by decide +kernel⟩
def zk_X6_isOfKind : zCd := [(7, [(0, .aload_n 0, 1), (1, .getfield 50, 3), (4, .iload_n 1, 1), (5, .iaload, 1), (6, .ifCond .ne 21, 3)]), (16, [(9, .aload_n 0, 1), (10, .getfield 53, 3), (13, .iload_n 1, 1), (14, .iaload, 1), (15, .iload_n 2, 1)]), (25, [(16, .if_icmp .ne 7, 3), (19, .iconst 1, 1), (20, .goto 35, 3), (23, .iconst 0, 1), (24, .goto 31, 3)]), (34, [(27, .aload_n 0, 1), (28, .getfield 50, 3), (31, .iload_n 1, 1), (32, .iaload, 1), (33, .iconst 2, 1)]), (42, [(34, .if_icmp .ne 20, 3), (37, .iload_n 2, 1), (38, .bipush 10, 2), (40, .aload_n 0, 1), (41, .getfield 53, 3)]), (51, [(44, .iload_n 1, 1), (45, .iaload, 1), (46, .iadd, 1), (47, .if_icmp .ne 7, 3), (50, .iconst 1, 1)]), (56, [(51, .goto 4, 3), (54, .iconst 0, 1), (55, .ireturn, 1)])]
set_option maxRecDepth 20000 in
theorem zkd_X6_isOfKind : ∀ q ∈ zk_X6_isOfKind, ∀ e ∈ q.2, decode cX6_isOfKind e.1 = .ok e.2 ∧ zlo e = true := by decide +kernel
def zm_X6_isOfKind : zMe := ((6, 2, 3, zk_X6_isOfKind), (yX6_isOfKind, cX6_isOfKind, (some .boolean)))
set_option maxRecDepth 20000 in
theorem zp_X6_isOfKind : zP zm_X6_isOfKind := ⟨zkd_X6_isOfKind, List.mem_of_getElem? (i := 321) rfl, by decide +kernel, rfl, rfl, by decide +kernel, by decide +kernel⟩
def zk_X6_done : zCd := [(6, [(0, .aload_n 0, 1), (1, .getfield 59, 3), (4, .iload_n 1, 1), (5, .aload_n 0, 1)]), (12, [(6, .getfield 50, 3), (9, .iload_n 1, 1), (10, .iaload, 1), (11, .ifCond .eq 7, 3)]), (20, [(14, .iconst 1, 1), (15, .goto 4, 3), (18, .iconst 0, 1), (19, .bastore, 1)]), (21, [(20, .return_, 1)])]
set_option maxRecDepth 20000 in
theorem zkd_X6_done : ∀ q ∈ zk_X6_done, ∀ e ∈ q.2, decode cX6_done e.1 = .ok e.2 ∧ zlo e = true := by decide +kernel
def zm_X6_done : zMe := ((6, 0, 2, zk_X6_done), (yX6_done, cX6_done, none))
set_option maxRecDepth 20000 in
theorem zp_X6_done : zP zm_X6_done := ⟨zkd_X6_done, List.mem_of_getElem? (i := 334) rfl, by decide +kernel, rfl, rfl, by decide +kernel, by decide +kernel⟩
def zk_X6_push : zCd := [(15, [(0, .aload_n 0, 1), (1, .iload_n 1, 1), (2, .iconst 1, 1), (3, .invokevirtual 146, 3), (6, .ifCond .eq 16, 3), (9, .iload_n 2, 1), (10, .iconst (-1), 1), (11, .if_icmp .eq 14, 3), (14, .aload_n 0, 1)]), (31, [(15, .iload_n 2, 1), (16, .invokevirtual 136, 3), (19, .ifCond .ne 6, 3), (22, .bipush (-2), 2), (24, .ireturn, 1), (25, .aload_n 0, 1), (26, .getfield 59, 3), (29, .iload_n 1, 1), (30, .baload, 1)]), (46, [(31, .ifCond .ne 22, 3), (34, .iload_n 2, 1), (35, .iload_n 1, 1), (36, .if_icmp .eq 17, 3), (39, .iload_n 2, 1), (40, .iconst (-1), 1), (41, .if_icmp .eq 15, 3), (44, .aload_n 0, 1), (45, .getfield 59, 3)]), (62, [(48, .iload_n 2, 1), (49, .baload, 1), (50, .ifCond .eq 6, 3), (53, .bipush (-4), 2), (55, .ireturn, 1), (56, .aload_n 0, 1), (57, .getfield 56, 3), (60, .iload_n 1, 1), (61, .iaload, 1)]), (76, [(62, .iconst 4, 1), (63, .if_icmp .ne 6, 3), (66, .bipush (-3), 2), (68, .ireturn, 1), (69, .iload_n 2, 1), (70, .iconst (-1), 1), (71, .if_icmp .ne 9, 3), (74, .aload_n 0, 1), (75, .iconst 1, 1)]), (89, [(76, .invokevirtual 149, 3), (79, .ireturn, 1), (80, .aload_n 0, 1), (81, .iload_n 2, 1), (82, .aload_n 0, 1), (83, .getfield 53, 3), (86, .iload_n 1, 1), (87, .iaload, 1), (88, .invokevirtual 153, 3)]), (106, [(91, .ifCond .ne 9, 3), (94, .aload_n 0, 1), (95, .iconst 3, 1), (96, .invokevirtual 149, 3), (99, .ireturn, 1), (100, .aload_n 0, 1), (101, .getfield 62, 3), (104, .iconst 5, 1), (105, .iload_n 1, 1)]), (117, [(106, .imul, 1), (107, .aload_n 0, 1), (108, .getfield 56, 3), (111, .iload_n 1, 1), (112, .iaload, 1), (113, .iadd, 1), (114, .iload_n 2, 1), (115, .iastore, 1), (116, .aload_n 0, 1)]), (128, [(117, .getfield 56, 3), (120, .iload_n 1, 1), (121, .dup2, 1), (122, .iaload, 1), (123, .iconst 1, 1), (124, .iadd, 1), (125, .iastore, 1), (126, .aload_n 0, 1), (127, .iload_n 2, 1)]), (142, [(128, .invokevirtual 156, 3), (131, .aload_n 0, 1), (132, .aload_n 0, 1), (133, .getfield 56, 3), (136, .iload_n 1, 1), (137, .iaload, 1), (138, .invokevirtual 160, 3), (141, .ireturn, 1)])]
set_option maxRecDepth 20000 in
theorem zkd_X6_push : ∀ q ∈ zk_X6_push, ∀ e ∈ q.2, decode cX6_push e.1 = .ok e.2 ∧ zlo e = true := by decide +kernel
def zm_X6_push : zMe := ((6, 1, 3, zk_X6_push), (yX6_push, cX6_push, (some .int)))
set_option maxRecDepth 20000 in
theorem zp_X6_push : zP zm_X6_push := ⟨zkd_X6_push, List.mem_of_getElem? (i := 446) rfl, by decide +kernel, rfl, rfl, by decide +kernel, by decide +kernel⟩
def zk_X6_given : zCd := [(14, [(0, .iload_n 2, 1), (1, .iconst (-1), 1), (2, .if_icmp .eq 21, 3), (5, .aload_n 0, 1), (6, .iload_n 2, 1), (7, .aload_n 0, 1), (8, .getfield 32, 3), (11, .iload_n 1, 1), (12, .iaload, 1), (13, .invokevirtual 153, 3)]), (34, [(16, .ifCond .eq 7, 3), (19, .iconst 1, 1), (20, .goto 4, 3), (23, .iconst 0, 1), (24, .istore_n 3, 1), (25, .iload_n 3, 1), (26, .ifCond .eq 24, 3), (29, .aload_n 0, 1), (30, .getfield 35, 3), (33, .iload_n 1, 1)]), (52, [(34, .baload, 1), (35, .ifCond .eq 15, 3), (38, .aload_n 0, 1), (39, .getfield 100, 3), (42, .bipush 100, 2), (44, .if_icmp .ne 6, 3), (47, .bipush (-3), 2), (49, .ireturn, 1), (50, .iload_n 2, 1), (51, .iconst (-1), 1)]), (70, [(52, .if_icmp .ne 9, 3), (55, .aload_n 0, 1), (56, .iconst 1, 1), (57, .invokevirtual 149, 3), (60, .ireturn, 1), (61, .iload_n 3, 1), (62, .ifCond .eq 54, 3), (65, .aload_n 0, 1), (66, .getfield 35, 3), (69, .iload_n 1, 1)]), (84, [(70, .baload, 1), (71, .ifCond .eq 45, 3), (74, .aload_n 0, 1), (75, .iconst 1, 1), (76, .aload_n 0, 1), (77, .getfield 32, 3), (80, .iload_n 1, 1), (81, .iaload, 1), (82, .iconst 1, 1), (83, .invokevirtual 139, 3)]), (100, [(86, .istore 4, 2), (88, .aload_n 0, 1), (89, .getfield 62, 3), (92, .iconst 5, 1), (93, .iload 4, 2), (95, .imul, 1), (96, .iload_n 2, 1), (97, .iastore, 1), (98, .aload_n 0, 1), (99, .iload_n 2, 1)]), (118, [(100, .invokevirtual 156, 3), (103, .aload_n 0, 1), (104, .iload 4, 2), (106, .invokevirtual 156, 3), (109, .aload_n 0, 1), (110, .iload 4, 2), (112, .invokevirtual 160, 3), (115, .ireturn, 1), (116, .aload_n 0, 1), (117, .getfield 35, 3)]), (136, [(120, .iload_n 1, 1), (121, .baload, 1), (122, .ifCond .eq 32, 3), (125, .aload_n 0, 1), (126, .getfield 50, 3), (129, .iload_n 2, 1), (130, .iaload, 1), (131, .iconst 1, 1), (132, .if_icmp .ne 22, 3), (135, .aload_n 0, 1)]), (152, [(136, .getfield 53, 3), (139, .iload_n 2, 1), (140, .iaload, 1), (141, .aload_n 0, 1), (142, .getfield 32, 3), (145, .iload_n 1, 1), (146, .iaload, 1), (147, .if_icmp .ne 7, 3), (150, .iconst 1, 1), (151, .goto 4, 3)]), (172, [(154, .iconst 0, 1), (155, .istore 4, 2), (157, .iload 4, 2), (159, .ifCond .ne 22, 3), (162, .iload_n 3, 1), (163, .ifCond .eq 12, 3), (166, .aload_n 0, 1), (167, .getfield 35, 3), (170, .iload_n 1, 1), (171, .baload, 1)]), (188, [(172, .ifCond .eq 9, 3), (175, .aload_n 0, 1), (176, .iconst 2, 1), (177, .invokevirtual 149, 3), (180, .ireturn, 1), (181, .aload_n 0, 1), (182, .iload_n 2, 1), (183, .invokevirtual 156, 3), (186, .aload_n 0, 1), (187, .iload_n 2, 1)]), (192, [(188, .invokevirtual 160, 3), (191, .ireturn, 1)])]
set_option maxRecDepth 20000 in
theorem zkd_X6_given : ∀ q ∈ zk_X6_given, ∀ e ∈ q.2, decode cX6_given e.1 = .ok e.2 ∧ zlo e = true := by decide +kernel
def zm_X6_given : zMe := ((6, 1, 5, zk_X6_given), (yX6_given, cX6_given, (some .int)))
set_option maxRecDepth 20000 in
theorem zp_X6_given : zP zm_X6_given := ⟨zkd_X6_given, List.mem_of_getElem? (i := 317) rfl, by decide +kernel, rfl, rfl, by decide +kernel, by decide +kernel⟩
def zk_X6_fallback : zCd := [(11, [(0, .aload_n 0, 1), (1, .iload_n 1, 1), (2, .invokevirtual 96, 3), (5, .ifCond .eq 26, 3), (8, .aload_n 0, 1), (9, .iload_n 1, 1), (10, .iload_n 2, 1)]), (24, [(11, .invokevirtual 106, 3), (14, .iconst (-1), 1), (15, .if_icmp .eq 16, 3), (18, .iload_n 3, 1), (19, .iconst (-1), 1), (20, .if_icmp .eq 14, 3), (23, .aload_n 0, 1)]), (36, [(24, .iload_n 3, 1), (25, .invokevirtual 136, 3), (28, .ifCond .ne 6, 3), (31, .bipush (-2), 2), (33, .ireturn, 1), (34, .aload_n 0, 1), (35, .iload_n 1, 1)]), (49, [(36, .invokevirtual 110, 3), (39, .ifCond .ne 25, 3), (42, .iload_n 3, 1), (43, .iconst (-1), 1), (44, .if_icmp .eq 23, 3), (47, .aload_n 0, 1), (48, .getfield 59, 3)]), (62, [(51, .iload_n 3, 1), (52, .baload, 1), (53, .ifCond .ne 11, 3), (56, .aload_n 0, 1), (57, .iload_n 3, 1), (58, .invokevirtual 163, 3), (61, .ifCond .ne 6, 3)]), (72, [(64, .bipush (-4), 2), (66, .ireturn, 1), (67, .aload_n 0, 1), (68, .aload_n 0, 1), (69, .iload_n 1, 1), (70, .iload_n 2, 1), (71, .invokevirtual 106, 3)]), (88, [(74, .iload_n 3, 1), (75, .invokevirtual 166, 3), (78, .istore 4, 2), (80, .iload 4, 2), (82, .ifCond .ge 6, 3), (85, .iload 4, 2), (87, .ireturn, 1)]), (99, [(88, .aload_n 0, 1), (89, .getfield 38, 3), (92, .aload_n 0, 1), (93, .iload_n 1, 1), (94, .iload_n 2, 1), (95, .invokevirtual 106, 3), (98, .iload 4, 2)]), (103, [(100, .iastore, 1), (101, .iconst 1, 1), (102, .ireturn, 1)])]
set_option maxRecDepth 20000 in
theorem zkd_X6_fallback : ∀ q ∈ zk_X6_fallback, ∀ e ∈ q.2, decode cX6_fallback e.1 = .ok e.2 ∧ zlo e = true := by decide +kernel
def zm_X6_fallback : zMe := ((6, 1, 5, zk_X6_fallback), (yX6_fallback, cX6_fallback, (some .int)))
set_option maxRecDepth 20000 in
theorem zp_X6_fallback : zP zm_X6_fallback := ⟨zkd_X6_fallback, List.mem_of_getElem? (i := 292) rfl, by decide +kernel, rfl, rfl, by decide +kernel, by decide +kernel⟩
def zk_X6_give : zCd := [(15, [(0, .aload_n 0, 1), (1, .iload_n 1, 1), (2, .iconst 2, 1), (3, .invokevirtual 146, 3), (6, .ifCond .eq 31, 3), (9, .aload_n 0, 1), (10, .aload_n 0, 1), (11, .getfield 53, 3), (14, .iload_n 1, 1)]), (30, [(15, .iaload, 1), (16, .iload_n 2, 1), (17, .invokevirtual 106, 3), (20, .iconst (-1), 1), (21, .if_icmp .eq 16, 3), (24, .iload_n 3, 1), (25, .iconst (-1), 1), (26, .if_icmp .eq 14, 3), (29, .aload_n 0, 1)]), (46, [(30, .iload_n 3, 1), (31, .invokevirtual 136, 3), (34, .ifCond .ne 6, 3), (37, .bipush (-2), 2), (39, .ireturn, 1), (40, .aload_n 0, 1), (41, .aload_n 0, 1), (42, .getfield 53, 3), (45, .iload_n 1, 1)]), (59, [(46, .iaload, 1), (47, .iload_n 2, 1), (48, .invokevirtual 106, 3), (51, .istore 4, 2), (53, .iconst 5, 1), (54, .iload_n 1, 1), (55, .imul, 1), (56, .iload 4, 2), (58, .iadd, 1)]), (71, [(59, .iconst 5, 1), (60, .aload_n 0, 1), (61, .getfield 53, 3), (64, .iload_n 1, 1), (65, .iaload, 1), (66, .imul, 1), (67, .isub, 1), (68, .istore 5, 2), (70, .aload_n 0, 1)]), (87, [(71, .getfield 59, 3), (74, .iload_n 1, 1), (75, .baload, 1), (76, .ifCond .ne 33, 3), (79, .aload_n 0, 1), (80, .getfield 62, 3), (83, .iload 5, 2), (85, .iaload, 1), (86, .iconst (-1), 1)]), (102, [(87, .if_icmp .ne 22, 3), (90, .iload_n 3, 1), (91, .iload_n 1, 1), (92, .if_icmp .eq 17, 3), (95, .iload_n 3, 1), (96, .iconst (-1), 1), (97, .if_icmp .eq 15, 3), (100, .aload_n 0, 1), (101, .getfield 59, 3)]), (117, [(104, .iload_n 3, 1), (105, .baload, 1), (106, .ifCond .eq 6, 3), (109, .bipush (-4), 2), (111, .ireturn, 1), (112, .aload_n 0, 1), (113, .iload 4, 2), (115, .iload_n 3, 1), (116, .invokevirtual 166, 3)]), (136, [(119, .istore 6, 2), (121, .iload 6, 2), (123, .ifCond .ge 6, 3), (126, .iload 6, 2), (128, .ireturn, 1), (129, .aload_n 0, 1), (130, .getfield 62, 3), (133, .iload 5, 2), (135, .iload 6, 2)]), (148, [(137, .iastore, 1), (138, .aload_n 0, 1), (139, .getfield 56, 3), (142, .iload_n 1, 1), (143, .dup2, 1), (144, .iaload, 1), (145, .iconst 1, 1), (146, .iadd, 1), (147, .iastore, 1)]), (150, [(148, .iconst 1, 1), (149, .ireturn, 1)])]
set_option maxRecDepth 20000 in
theorem zkd_X6_give : ∀ q ∈ zk_X6_give, ∀ e ∈ q.2, decode cX6_give e.1 = .ok e.2 ∧ zlo e = true := by decide +kernel
def zm_X6_give : zMe := ((6, 1, 7, zk_X6_give), (yX6_give, cX6_give, (some .int)))
set_option maxRecDepth 20000 in
theorem zp_X6_give : zP zm_X6_give := ⟨zkd_X6_give, List.mem_of_getElem? (i := 474) rfl, by decide +kernel, rfl, rfl, by decide +kernel, by decide +kernel⟩
def zk_X6_within : zCd := [(7, [(0, .aload_n 0, 1), (1, .getfield 50, 3), (4, .iload_n 1, 1), (5, .iaload, 1), (6, .iconst 1, 1)]), (16, [(7, .if_icmp .ne 12, 3), (10, .aload_n 0, 1), (11, .getfield 56, 3), (14, .iload_n 1, 1), (15, .iaload, 1)]), (25, [(16, .goto 28, 3), (19, .aload_n 0, 1), (20, .getfield 50, 3), (23, .iload_n 1, 1), (24, .iaload, 1)]), (34, [(25, .iconst 2, 1), (26, .if_icmp .ne 17, 3), (29, .aload_n 0, 1), (30, .getfield 26, 3), (33, .aload_n 0, 1)]), (41, [(34, .getfield 53, 3), (37, .iload_n 1, 1), (38, .iaload, 1), (39, .iaload, 1), (40, .goto 4, 3)]), (45, [(43, .iconst 0, 1), (44, .ireturn, 1)])]
set_option maxRecDepth 20000 in
theorem zkd_X6_within : ∀ q ∈ zk_X6_within, ∀ e ∈ q.2, decode cX6_within e.1 = .ok e.2 ∧ zlo e = true := by decide +kernel
def zm_X6_within : zMe := ((6, 1, 2, zk_X6_within), (yX6_within, cX6_within, (some .int)))
set_option maxRecDepth 20000 in
theorem zp_X6_within : zP zm_X6_within := ⟨zkd_X6_within, List.mem_of_getElem? (i := 309) rfl, by decide +kernel, rfl, rfl, by decide +kernel, by decide +kernel⟩
def zk_X6_inner : zCd := [(7, [(0, .aload_n 0, 1), (1, .getfield 62, 3), (4, .iconst 5, 1), (5, .iload_n 1, 1), (6, .imul, 1)]), (12, [(7, .iload_n 2, 1), (8, .iadd, 1), (9, .iaload, 1), (10, .istore_n 3, 1), (11, .aload_n 0, 1)]), (19, [(12, .getfield 50, 3), (15, .iload_n 1, 1), (16, .iaload, 1), (17, .iconst 2, 1), (18, .if_icmp .ne 26, 3)]), (28, [(21, .iload_n 3, 1), (22, .iconst (-1), 1), (23, .if_icmp .ne 21, 3), (26, .aload_n 0, 1), (27, .getfield 38, 3)]), (37, [(30, .iconst 5, 1), (31, .aload_n 0, 1), (32, .getfield 53, 3), (35, .iload_n 1, 1), (36, .iaload, 1)]), (42, [(37, .imul, 1), (38, .iload_n 2, 1), (39, .iadd, 1), (40, .iaload, 1), (41, .goto 4, 3)]), (46, [(44, .iload_n 3, 1), (45, .ireturn, 1)])]
set_option maxRecDepth 20000 in
theorem zkd_X6_inner : ∀ q ∈ zk_X6_inner, ∀ e ∈ q.2, decode cX6_inner e.1 = .ok e.2 ∧ zlo e = true := by decide +kernel
def zm_X6_inner : zMe := ((6, 1, 4, zk_X6_inner), (yX6_inner, cX6_inner, (some .int)))
set_option maxRecDepth 20000 in
theorem zp_X6_inner : zP zm_X6_inner := ⟨zkd_X6_inner, List.mem_of_getElem? (i := 313) rfl, by decide +kernel, rfl, rfl, by decide +kernel, by decide +kernel⟩
def zk_X6_pile : zCd := [(9, [(0, .aload_n 0, 1), (1, .getfield 68, 3), (4, .aload_n 0, 1), (5, .getfield 169, 3), (8, .iload_n 1, 1)]), (16, [(9, .iastore, 1), (10, .aload_n 0, 1), (11, .getfield 71, 3), (14, .aload_n 0, 1), (15, .getfield 169, 3)]), (25, [(18, .iload_n 2, 1), (19, .iastore, 1), (20, .aload_n 0, 1), (21, .getfield 74, 3), (24, .aload_n 0, 1)]), (32, [(25, .getfield 169, 3), (28, .iconst 0, 1), (29, .iastore, 1), (30, .aload_n 0, 1), (31, .dup, 1)]), (41, [(32, .getfield 169, 3), (35, .iconst 1, 1), (36, .iadd, 1), (37, .putfield 169, 3), (40, .return_, 1)])]
set_option maxRecDepth 20000 in
theorem zkd_X6_pile : ∀ q ∈ zk_X6_pile, ∀ e ∈ q.2, decode cX6_pile e.1 = .ok e.2 ∧ zlo e = true := by decide +kernel
def zm_X6_pile : zMe := ((6, 0, 3, zk_X6_pile), (yX6_pile, cX6_pile, none))
set_option maxRecDepth 20000 in
theorem zp_X6_pile : zP zm_X6_pile := ⟨zkd_X6_pile, List.mem_of_getElem? (i := 305) rfl, by decide +kernel, rfl, rfl, by decide +kernel, by decide +kernel⟩
def zk_X6_isWhole : zCd := [(10, [(0, .iconst 1, 1), (1, .istore_n 2, 1), (2, .aload_n 0, 1), (3, .iconst 0, 1), (4, .putfield 169, 3), (7, .aload_n 0, 1), (8, .iload_n 1, 1), (9, .iconst (-1), 1)]), (26, [(10, .invokevirtual 172, 3), (13, .iload_n 2, 1), (14, .ifCond .eq 113, 3), (17, .aload_n 0, 1), (18, .getfield 169, 3), (21, .ifCond .le 106, 3), (24, .aload_n 0, 1), (25, .getfield 169, 3)]), (38, [(28, .iconst 1, 1), (29, .isub, 1), (30, .istore_n 3, 1), (31, .aload_n 0, 1), (32, .getfield 74, 3), (35, .iload_n 3, 1), (36, .iaload, 1), (37, .aload_n 0, 1)]), (52, [(38, .aload_n 0, 1), (39, .getfield 68, 3), (42, .iload_n 3, 1), (43, .iaload, 1), (44, .invokevirtual 175, 3), (47, .if_icmp .ne 16, 3), (50, .aload_n 0, 1), (51, .dup, 1)]), (66, [(52, .getfield 169, 3), (55, .iconst 1, 1), (56, .isub, 1), (57, .putfield 169, 3), (60, .goto 64, 3), (63, .aload_n 0, 1), (64, .aload_n 0, 1), (65, .getfield 68, 3)]), (80, [(68, .iload_n 3, 1), (69, .iaload, 1), (70, .aload_n 0, 1), (71, .getfield 74, 3), (74, .iload_n 3, 1), (75, .iaload, 1), (76, .invokevirtual 178, 3), (79, .istore 4, 2)]), (91, [(81, .aload_n 0, 1), (82, .getfield 74, 3), (85, .iload_n 3, 1), (86, .dup2, 1), (87, .iaload, 1), (88, .iconst 1, 1), (89, .iadd, 1), (90, .iastore, 1)]), (104, [(91, .iload 4, 2), (93, .iconst (-1), 1), (94, .if_icmp .eq 7, 3), (97, .iconst 1, 1), (98, .goto 4, 3), (101, .iconst 0, 1), (102, .istore_n 2, 1), (103, .iload_n 2, 1)]), (119, [(104, .ifCond .eq 20, 3), (107, .aload_n 0, 1), (108, .getfield 50, 3), (111, .iload 4, 2), (113, .iaload, 1), (114, .ifCond .eq 10, 3), (117, .aload_n 0, 1), (118, .iload 4, 2)]), (129, [(120, .iconst (-1), 1), (121, .invokevirtual 172, 3), (124, .goto (-111), 3), (127, .iload_n 2, 1), (128, .ireturn, 1)])]
set_option maxRecDepth 20000 in
theorem zkd_X6_isWhole : ∀ q ∈ zk_X6_isWhole, ∀ e ∈ q.2, decode cX6_isWhole e.1 = .ok e.2 ∧ zlo e = true := by decide +kernel
def zm_X6_isWhole : zMe := ((6, 2, 5, zk_X6_isWhole), (yX6_isWhole, cX6_isWhole, (some .boolean)))
set_option maxRecDepth 20000 in
theorem zp_X6_isWhole : zP zm_X6_isWhole := ⟨zkd_X6_isWhole, List.mem_of_getElem? (i := 300) rfl, by decide +kernel, rfl, rfl, by decide +kernel, by decide +kernel⟩
def zk_X6_isLike : zCd := [(8, [(0, .aload_n 0, 1), (1, .getfield 50, 3), (4, .iload_n 1, 1), (5, .iaload, 1), (6, .aload_n 0, 1), (7, .getfield 50, 3)]), (20, [(10, .iload_n 2, 1), (11, .iaload, 1), (12, .if_icmp .ne 47, 3), (15, .aload_n 0, 1), (16, .getfield 53, 3), (19, .iload_n 1, 1)]), (28, [(20, .iaload, 1), (21, .aload_n 0, 1), (22, .getfield 53, 3), (25, .iload_n 2, 1), (26, .iaload, 1), (27, .if_icmp .ne 32, 3)]), (38, [(30, .aload_n 0, 1), (31, .getfield 50, 3), (34, .iload_n 1, 1), (35, .iaload, 1), (36, .iconst 2, 1), (37, .if_icmp .eq 18, 3)]), (48, [(40, .aload_n 0, 1), (41, .getfield 56, 3), (44, .iload_n 1, 1), (45, .iaload, 1), (46, .aload_n 0, 1), (47, .getfield 56, 3)]), (60, [(50, .iload_n 2, 1), (51, .iaload, 1), (52, .if_icmp .ne 7, 3), (55, .iconst 1, 1), (56, .goto 4, 3), (59, .iconst 0, 1)]), (61, [(60, .ireturn, 1)])]
set_option maxRecDepth 20000 in
theorem zkd_X6_isLike : ∀ q ∈ zk_X6_isLike, ∀ e ∈ q.2, decode cX6_isLike e.1 = .ok e.2 ∧ zlo e = true := by decide +kernel
def zm_X6_isLike : zMe := ((6, 2, 3, zk_X6_isLike), (yX6_isLike, cX6_isLike, (some .boolean)))
set_option maxRecDepth 20000 in
theorem zp_X6_isLike : zP zm_X6_isLike := ⟨zkd_X6_isLike, List.mem_of_getElem? (i := 574) rfl, by decide +kernel, rfl, rfl, by decide +kernel, by decide +kernel⟩
def zk_X6_areEqual : zCd := [(14, [(0, .aload_n 0, 1), (1, .iload_n 1, 1), (2, .iload_n 2, 1), (3, .invokevirtual 181, 3), (6, .istore_n 3, 1), (7, .aload_n 0, 1), (8, .iconst 0, 1), (9, .putfield 169, 3), (12, .aload_n 0, 1), (13, .iload_n 1, 1)]), (34, [(14, .iload_n 2, 1), (15, .invokevirtual 172, 3), (18, .iload_n 3, 1), (19, .ifCond .eq 161, 3), (22, .aload_n 0, 1), (23, .getfield 169, 3), (26, .ifCond .le 154, 3), (29, .aload_n 0, 1), (30, .getfield 169, 3), (33, .iconst 1, 1)]), (50, [(34, .isub, 1), (35, .istore 4, 2), (37, .aload_n 0, 1), (38, .getfield 74, 3), (41, .iload 4, 2), (43, .iaload, 1), (44, .aload_n 0, 1), (45, .aload_n 0, 1), (46, .getfield 68, 3), (49, .iload 4, 2)]), (69, [(51, .iaload, 1), (52, .invokevirtual 175, 3), (55, .if_icmp .ne 16, 3), (58, .aload_n 0, 1), (59, .dup, 1), (60, .getfield 169, 3), (63, .iconst 1, 1), (64, .isub, 1), (65, .putfield 169, 3), (68, .goto 109, 3)]), (87, [(71, .aload_n 0, 1), (72, .aload_n 0, 1), (73, .getfield 68, 3), (76, .iload 4, 2), (78, .iaload, 1), (79, .aload_n 0, 1), (80, .getfield 74, 3), (83, .iload 4, 2), (85, .iaload, 1), (86, .invokevirtual 178, 3)]), (106, [(89, .istore 5, 2), (91, .aload_n 0, 1), (92, .aload_n 0, 1), (93, .getfield 71, 3), (96, .iload 4, 2), (98, .iaload, 1), (99, .aload_n 0, 1), (100, .getfield 74, 3), (103, .iload 4, 2), (105, .iaload, 1)]), (122, [(106, .invokevirtual 178, 3), (109, .istore 6, 2), (111, .aload_n 0, 1), (112, .getfield 74, 3), (115, .iload 4, 2), (117, .dup2, 1), (118, .iaload, 1), (119, .iconst 1, 1), (120, .iadd, 1), (121, .iastore, 1)]), (142, [(122, .iload 5, 2), (124, .iload 6, 2), (126, .if_icmp .eq 26, 3), (129, .iload 5, 2), (131, .iconst (-1), 1), (132, .if_icmp .eq 24, 3), (135, .iload 6, 2), (137, .iconst (-1), 1), (138, .if_icmp .eq 18, 3), (141, .aload_n 0, 1)]), (160, [(142, .iload 5, 2), (144, .iload 6, 2), (146, .invokevirtual 181, 3), (149, .ifCond .eq 7, 3), (152, .iconst 1, 1), (153, .goto 4, 3), (156, .iconst 0, 1), (157, .istore_n 3, 1), (158, .iload_n 3, 1), (159, .ifCond .eq 18, 3)]), (182, [(162, .iload 5, 2), (164, .iload 6, 2), (166, .if_icmp .eq 11, 3), (169, .aload_n 0, 1), (170, .iload 5, 2), (172, .iload 6, 2), (174, .invokevirtual 172, 3), (177, .goto (-159), 3), (180, .iload_n 3, 1), (181, .ireturn, 1)])]
set_option maxRecDepth 20000 in
theorem zkd_X6_areEqual : ∀ q ∈ zk_X6_areEqual, ∀ e ∈ q.2, decode cX6_areEqual e.1 = .ok e.2 ∧ zlo e = true := by decide +kernel
def zm_X6_areEqual : zMe := ((6, 2, 7, zk_X6_areEqual), (yX6_areEqual, cX6_areEqual, (some .boolean)))
set_option maxRecDepth 20000 in
theorem zp_X6_areEqual : zP zm_X6_areEqual := ⟨zkd_X6_areEqual, List.mem_of_getElem? (i := 570) rfl, by decide +kernel, rfl, rfl, by decide +kernel, by decide +kernel⟩
def zk_X6_equal : zCd := [(6, [(0, .aload_n 0, 1), (1, .iload_n 1, 1), (2, .invokevirtual 136, 3), (5, .ifCond .eq 11, 3)]), (14, [(8, .aload_n 0, 1), (9, .iload_n 2, 1), (10, .invokevirtual 136, 3), (13, .ifCond .ne 8, 3)]), (23, [(16, .bipush (-2), 2), (18, .goto 17, 3), (21, .aload_n 0, 1), (22, .iload_n 1, 1)]), (31, [(23, .iload_n 2, 1), (24, .invokevirtual 184, 3), (27, .ifCond .eq 7, 3), (30, .iconst 1, 1)]), (36, [(31, .goto 4, 3), (34, .iconst 0, 1), (35, .ireturn, 1)])]
set_option maxRecDepth 20000 in
theorem zkd_X6_equal : ∀ q ∈ zk_X6_equal, ∀ e ∈ q.2, decode cX6_equal e.1 = .ok e.2 ∧ zlo e = true := by decide +kernel
def zm_X6_equal : zMe := ((6, 1, 3, zk_X6_equal), (yX6_equal, cX6_equal, (some .int)))
set_option maxRecDepth 20000 in
theorem zp_X6_equal : zP zm_X6_equal := ⟨zkd_X6_equal, List.mem_of_getElem? (i := 566) rfl, by decide +kernel, rfl, rfl, by decide +kernel, by decide +kernel⟩
def zk_X6_told : zCd := [(12, [(0, .aload_n 0, 1), (1, .iload_n 1, 1), (2, .invokevirtual 136, 3), (5, .ifCond .ne 6, 3), (8, .bipush (-2), 2), (10, .ireturn, 1), (11, .iload_n 2, 1)]), (56, [(12, .tableswitch 108 0 4 #[36, 43, 72, 79, 94], 36), (48, .aload_n 0, 1), (49, .getfield 50, 3), (52, .iload_n 1, 1), (53, .iaload, 1), (54, .ireturn, 1), (55, .aload_n 0, 1)]), (68, [(56, .getfield 50, 3), (59, .iload_n 1, 1), (60, .iaload, 1), (61, .iconst 2, 1), (62, .if_icmp .ne 15, 3), (65, .bipush 10, 2), (67, .aload_n 0, 1)]), (79, [(68, .getfield 53, 3), (71, .iload_n 1, 1), (72, .iaload, 1), (73, .iadd, 1), (74, .goto 9, 3), (77, .aload_n 0, 1), (78, .getfield 53, 3)]), (90, [(81, .iload_n 1, 1), (82, .iaload, 1), (83, .ireturn, 1), (84, .aload_n 0, 1), (85, .getfield 56, 3), (88, .iload_n 1, 1), (89, .iaload, 1)]), (101, [(90, .ireturn, 1), (91, .aload_n 0, 1), (92, .getfield 59, 3), (95, .iload_n 1, 1), (96, .baload, 1), (97, .ifCond .eq 7, 3), (100, .iconst 1, 1)]), (112, [(101, .goto 4, 3), (104, .iconst 0, 1), (105, .ireturn, 1), (106, .aload_n 0, 1), (107, .iload_n 1, 1), (108, .invokevirtual 163, 3), (111, .ifCond .eq 7, 3)]), (123, [(114, .iconst 1, 1), (115, .goto 4, 3), (118, .iconst 0, 1), (119, .ireturn, 1), (120, .bipush (-2), 2), (122, .ireturn, 1)])]
set_option maxRecDepth 20000 in
theorem zkd_X6_told : ∀ q ∈ zk_X6_told, ∀ e ∈ q.2, decode cX6_told e.1 = .ok e.2 ∧ zlo e = true := by decide +kernel
def zm_X6_told : zMe := ((6, 1, 3, zk_X6_told), (yX6_told, cX6_told, (some .int)))
set_option maxRecDepth 20000 in
theorem zp_X6_told : zP zm_X6_told := ⟨zkd_X6_told, List.mem_of_getElem? (i := 528) rfl, by decide +kernel, rfl, rfl, by decide +kernel, by decide +kernel⟩
def zk_X6_part : zCd := [(13, [(0, .aload_n 0, 1), (1, .iload_n 1, 1), (2, .invokevirtual 136, 3), (5, .ifCond .eq 12, 3), (8, .aload_n 0, 1), (9, .getfield 50, 3), (12, .iload_n 1, 1)]), (25, [(13, .iaload, 1), (14, .ifCond .ne 6, 3), (17, .bipush (-2), 2), (19, .ireturn, 1), (20, .aload_n 0, 1), (21, .getfield 50, 3), (24, .iload_n 1, 1)]), (36, [(25, .iaload, 1), (26, .iconst 1, 1), (27, .if_icmp .ne 32, 3), (30, .iload_n 2, 1), (31, .ifCond .lt 26, 3), (34, .iload_n 2, 1), (35, .aload_n 0, 1)]), (49, [(36, .getfield 56, 3), (39, .iload_n 1, 1), (40, .iaload, 1), (41, .if_icmp .ge 16, 3), (44, .aload_n 0, 1), (45, .getfield 62, 3), (48, .iconst 5, 1)]), (58, [(49, .iload_n 1, 1), (50, .imul, 1), (51, .iload_n 2, 1), (52, .iadd, 1), (53, .iaload, 1), (54, .goto 4, 3), (57, .iconst (-1), 1)]), (67, [(58, .ireturn, 1), (59, .aload_n 0, 1), (60, .aload_n 0, 1), (61, .getfield 53, 3), (64, .iload_n 1, 1), (65, .iaload, 1), (66, .iload_n 2, 1)]), (78, [(67, .invokevirtual 106, 3), (70, .istore_n 3, 1), (71, .iload_n 3, 1), (72, .iconst (-1), 1), (73, .if_icmp .ne 7, 3), (76, .iconst (-1), 1), (77, .goto 18, 3)]), (89, [(80, .aload_n 0, 1), (81, .iload_n 1, 1), (82, .iload_n 3, 1), (83, .iconst 5, 1), (84, .aload_n 0, 1), (85, .getfield 53, 3), (88, .iload_n 1, 1)]), (96, [(89, .iaload, 1), (90, .imul, 1), (91, .isub, 1), (92, .invokevirtual 178, 3), (95, .ireturn, 1)])]
set_option maxRecDepth 20000 in
theorem zkd_X6_part : ∀ q ∈ zk_X6_part, ∀ e ∈ q.2, decode cX6_part e.1 = .ok e.2 ∧ zlo e = true := by decide +kernel
def zm_X6_part : zMe := ((6, 1, 4, zk_X6_part), (yX6_part, cX6_part, (some .int)))
set_option maxRecDepth 20000 in
theorem zp_X6_part : zP zm_X6_part := ⟨zkd_X6_part, List.mem_of_getElem? (i := 545) rfl, by decide +kernel, rfl, rfl, by decide +kernel, by decide +kernel⟩
def zk_X6_write : zCd := [(8, [(0, .aload_n 0, 1), (1, .getfield 187, 3), (4, .sipush 2000, 3), (7, .if_icmp .ge 13, 3)]), (16, [(10, .aload_n 0, 1), (11, .getfield 80, 3), (14, .aload_n 0, 1), (15, .getfield 187, 3)]), (22, [(18, .iload_n 1, 1), (19, .iastore, 1), (20, .aload_n 0, 1), (21, .dup, 1)]), (28, [(22, .getfield 187, 3), (25, .iconst 1, 1), (26, .iadd, 1), (27, .putfield 187, 3)]), (31, [(30, .return_, 1)])]
set_option maxRecDepth 20000 in
theorem zkd_X6_write : ∀ q ∈ zk_X6_write, ∀ e ∈ q.2, decode cX6_write e.1 = .ok e.2 ∧ zlo e = true := by decide +kernel
def zm_X6_write : zMe := ((6, 0, 2, zk_X6_write), (yX6_write, cX6_write, none))
set_option maxRecDepth 20000 in
theorem zp_X6_write : zP zm_X6_write := ⟨zkd_X6_write, List.mem_of_getElem? (i := 638) rfl, by decide +kernel, rfl, rfl, by decide +kernel, by decide +kernel⟩
def zk_X6_writeNumber : zCd := [(12, [(0, .iload_n 1, 1), (1, .ifCond .ge 9, 3), (4, .aload_n 0, 1), (5, .bipush 45, 2), (7, .invokevirtual 190, 3), (10, .iload_n 1, 1), (11, .ifCond .ge 9, 3)]), (23, [(14, .iload_n 1, 1), (15, .i2l, 1), (16, .lneg, 1), (17, .goto 5, 3), (20, .iload_n 1, 1), (21, .i2l, 1), (22, .lstore_n 2, 1)]), (34, [(23, .iconst 0, 1), (24, .istore 4, 2), (26, .aload_n 0, 1), (27, .getfield 83, 3), (30, .iload 4, 2), (32, .lload_n 2, 1), (33, .ldc2_w 193, 3)]), (45, [(36, .lrem, 1), (37, .l2i, 1), (38, .iastore, 1), (39, .lload_n 2, 1), (40, .ldc2_w 193, 3), (43, .ldiv, 1), (44, .lstore_n 2, 1)]), (57, [(45, .iinc 4 1, 3), (48, .lload_n 2, 1), (49, .lconst 0, 1), (50, .lcmp, 1), (51, .ifCond .gt (-25), 3), (54, .iload 4, 2), (56, .iconst 1, 1)]), (69, [(57, .isub, 1), (58, .istore 5, 2), (60, .iload 5, 2), (62, .ifCond .lt 23, 3), (65, .aload_n 0, 1), (66, .bipush 48, 2), (68, .aload_n 0, 1)]), (83, [(69, .getfield 83, 3), (72, .iload 5, 2), (74, .iaload, 1), (75, .iadd, 1), (76, .invokevirtual 190, 3), (79, .iinc 5 (-1), 3), (82, .goto (-22), 3)]), (86, [(85, .return_, 1)])]
set_option maxRecDepth 20000 in
theorem zkd_X6_writeNumber : ∀ q ∈ zk_X6_writeNumber, ∀ e ∈ q.2, decode cX6_writeNumber e.1 = .ok e.2 ∧ zlo e = true := by decide +kernel
def zm_X6_writeNumber : zMe := ((6, 0, 6, zk_X6_writeNumber), (yX6_writeNumber, cX6_writeNumber, none))
set_option maxRecDepth 20000 in
theorem zp_X6_writeNumber : zP zm_X6_writeNumber := ⟨zkd_X6_writeNumber, List.mem_of_getElem? (i := 642) rfl, by decide +kernel, rfl, rfl, by decide +kernel, by decide +kernel⟩
def zk_X6_begin : zCd := [(11, [(0, .aload_n 0, 1), (1, .getfield 50, 3), (4, .iload_n 1, 1), (5, .iaload, 1), (6, .iconst 1, 1), (7, .if_icmp .ne 12, 3), (10, .aload_n 0, 1)]), (25, [(11, .bipush 123, 2), (13, .invokevirtual 190, 3), (16, .goto 93, 3), (19, .aload_n 0, 1), (20, .getfield 50, 3), (23, .iload_n 1, 1), (24, .iaload, 1)]), (37, [(25, .iconst 2, 1), (26, .if_icmp .ne 28, 3), (29, .aload_n 0, 1), (30, .bipush 64, 2), (32, .invokevirtual 190, 3), (35, .aload_n 0, 1), (36, .aload_n 0, 1)]), (49, [(37, .getfield 53, 3), (40, .iload_n 1, 1), (41, .iaload, 1), (42, .invokevirtual 195, 3), (45, .aload_n 0, 1), (46, .bipush 40, 2), (48, .invokevirtual 190, 3)]), (64, [(51, .goto 58, 3), (54, .aload_n 0, 1), (55, .getfield 53, 3), (58, .iload_n 1, 1), (59, .iaload, 1), (60, .ifCond .le 39, 3), (63, .aload_n 0, 1)]), (75, [(64, .aload_n 0, 1), (65, .getfield 53, 3), (68, .iload_n 1, 1), (69, .iaload, 1), (70, .iconst 1, 1), (71, .if_icmp .ne 8, 3), (74, .bipush 119, 2)]), (87, [(76, .goto 20, 3), (79, .aload_n 0, 1), (80, .getfield 53, 3), (83, .iload_n 1, 1), (84, .iaload, 1), (85, .iconst 2, 1), (86, .if_icmp .ne 8, 3)]), (102, [(89, .bipush 99, 2), (91, .goto 5, 3), (94, .bipush 116, 2), (96, .invokevirtual 190, 3), (99, .aload_n 0, 1), (100, .aload_n 0, 1), (101, .getfield 56, 3)]), (110, [(104, .iload_n 1, 1), (105, .iaload, 1), (106, .invokevirtual 195, 3), (109, .return_, 1)])]
set_option maxRecDepth 20000 in
theorem zkd_X6_begin : ∀ q ∈ zk_X6_begin, ∀ e ∈ q.2, decode cX6_begin e.1 = .ok e.2 ∧ zlo e = true := by decide +kernel
def zm_X6_begin : zMe := ((6, 0, 2, zk_X6_begin), (yX6_begin, cX6_begin, none))
set_option maxRecDepth 20000 in
theorem zp_X6_begin : zP zm_X6_begin := ⟨zkd_X6_begin, List.mem_of_getElem? (i := 634) rfl, by decide +kernel, rfl, rfl, by decide +kernel, by decide +kernel⟩
def zk_X6_isBehind : zCd := [(4, [(0, .iconst 0, 1), (1, .istore_n 3, 1), (2, .iconst 0, 1), (3, .istore 4, 2)]), (12, [(5, .iload 4, 2), (7, .iload_n 2, 1), (8, .if_icmp .ge 30, 3), (11, .iload_n 3, 1)]), (18, [(12, .ifCond .ne 14, 3), (15, .aload_n 0, 1), (16, .iload_n 1, 1), (17, .iload 4, 2)]), (27, [(19, .invokevirtual 178, 3), (22, .iconst (-1), 1), (23, .if_icmp .eq 7, 3), (26, .iconst 1, 1)]), (33, [(27, .goto 4, 3), (30, .iconst 0, 1), (31, .istore_n 3, 1), (32, .iinc 4 1, 3)]), (40, [(35, .goto (-30), 3), (38, .iload_n 3, 1), (39, .ireturn, 1)])]
set_option maxRecDepth 20000 in
theorem zkd_X6_isBehind : ∀ q ∈ zk_X6_isBehind, ∀ e ∈ q.2, decode cX6_isBehind e.1 = .ok e.2 ∧ zlo e = true := by decide +kernel
def zm_X6_isBehind : zMe := ((6, 2, 5, zk_X6_isBehind), (yX6_isBehind, cX6_isBehind, (some .boolean)))
set_option maxRecDepth 20000 in
theorem zp_X6_isBehind : zP zm_X6_isBehind := ⟨zkd_X6_isBehind, List.mem_of_getElem? (i := 647) rfl, by decide +kernel, rfl, rfl, by decide +kernel, by decide +kernel⟩
def zk_X6_written : zCd := [(19, [(0, .aload_n 0, 1), (1, .iload_n 1, 1), (2, .invokevirtual 136, 3), (5, .ifCond .ne 6, 3), (8, .bipush (-2), 2), (10, .ireturn, 1), (11, .aload_n 0, 1), (12, .iconst 0, 1), (13, .putfield 187, 3), (16, .aload_n 0, 1), (17, .iconst 0, 1), (18, .putfield 169, 3)]), (39, [(21, .aload_n 0, 1), (22, .iload_n 1, 1), (23, .invokevirtual 198, 3), (26, .aload_n 0, 1), (27, .getfield 50, 3), (30, .iload_n 1, 1), (31, .iaload, 1), (32, .ifCond .eq 9, 3), (35, .aload_n 0, 1), (36, .iload_n 1, 1), (37, .iconst (-1), 1), (38, .invokevirtual 172, 3)]), (65, [(41, .aload_n 0, 1), (42, .getfield 169, 3), (45, .ifCond .le 185, 3), (48, .aload_n 0, 1), (49, .getfield 187, 3), (52, .sipush 2000, 3), (55, .if_icmp .gt 175, 3), (58, .aload_n 0, 1), (59, .getfield 169, 3), (62, .iconst 1, 1), (63, .isub, 1), (64, .istore_n 2, 1)]), (83, [(65, .aload_n 0, 1), (66, .getfield 68, 3), (69, .iload_n 2, 1), (70, .iaload, 1), (71, .istore_n 3, 1), (72, .aload_n 0, 1), (73, .getfield 74, 3), (76, .iload_n 2, 1), (77, .iaload, 1), (78, .istore 4, 2), (80, .iload 4, 2), (82, .aload_n 0, 1)]), (104, [(83, .iload_n 3, 1), (84, .invokevirtual 175, 3), (87, .if_icmp .ne 37, 3), (90, .aload_n 0, 1), (91, .aload_n 0, 1), (92, .getfield 50, 3), (95, .iload_n 3, 1), (96, .iaload, 1), (97, .iconst 1, 1), (98, .if_icmp .ne 8, 3), (101, .bipush 125, 2), (103, .goto 5, 3)]), (127, [(106, .bipush 41, 2), (108, .invokevirtual 190, 3), (111, .aload_n 0, 1), (112, .dup, 1), (113, .getfield 169, 3), (116, .iconst 1, 1), (117, .isub, 1), (118, .putfield 169, 3), (121, .goto 106, 3), (124, .aload_n 0, 1), (125, .iload_n 3, 1), (126, .iload 4, 2)]), (146, [(128, .invokevirtual 178, 3), (131, .istore 5, 2), (133, .aload_n 0, 1), (134, .getfield 74, 3), (137, .iload_n 2, 1), (138, .dup2, 1), (139, .iaload, 1), (140, .iconst 1, 1), (141, .iadd, 1), (142, .iastore, 1), (143, .iload 5, 2), (145, .iconst (-1), 1)]), (170, [(146, .if_icmp .eq 81, 3), (149, .aload_n 0, 1), (150, .iload_n 3, 1), (151, .iload 4, 2), (153, .invokevirtual 201, 3), (156, .ifCond .eq 9, 3), (159, .aload_n 0, 1), (160, .bipush 44, 2), (162, .invokevirtual 190, 3), (165, .aload_n 0, 1), (166, .getfield 50, 3), (169, .iload_n 3, 1)]), (189, [(170, .iaload, 1), (171, .iconst 2, 1), (172, .if_icmp .ne 32, 3), (175, .aload_n 0, 1), (176, .bipush 48, 2), (178, .aload_n 0, 1), (179, .getfield 29, 3), (182, .iconst 5, 1), (183, .aload_n 0, 1), (184, .getfield 53, 3), (187, .iload_n 3, 1), (188, .iaload, 1)]), (208, [(189, .imul, 1), (190, .iload 4, 2), (192, .iadd, 1), (193, .iaload, 1), (194, .iadd, 1), (195, .invokevirtual 190, 3), (198, .aload_n 0, 1), (199, .bipush 61, 2), (201, .invokevirtual 190, 3), (204, .aload_n 0, 1), (205, .iload 5, 2), (207, .invokevirtual 198, 3)]), (232, [(210, .aload_n 0, 1), (211, .getfield 50, 3), (214, .iload 5, 2), (216, .iaload, 1), (217, .ifCond .eq 10, 3), (220, .aload_n 0, 1), (221, .iload 5, 2), (223, .iconst (-1), 1), (224, .invokevirtual 172, 3), (227, .goto (-186), 3), (230, .aload_n 0, 1), (231, .getfield 187, 3)]), (255, [(234, .sipush 2000, 3), (237, .if_icmp .le 6, 3), (240, .bipush (-3), 2), (242, .ireturn, 1), (243, .aload_n 0, 1), (244, .aload_n 0, 1), (245, .getfield 187, 3), (248, .putfield 204, 3), (251, .iconst 0, 1), (252, .istore_n 2, 1), (253, .iload_n 2, 1), (254, .aload_n 0, 1)]), (277, [(255, .getfield 204, 3), (258, .if_icmp .ge 21, 3), (261, .aload_n 0, 1), (262, .getfield 77, 3), (265, .iload_n 2, 1), (266, .aload_n 0, 1), (267, .getfield 80, 3), (270, .iload_n 2, 1), (271, .iaload, 1), (272, .iastore, 1), (273, .iinc 2 1, 3), (276, .goto (-23), 3)]), (284, [(279, .aload_n 0, 1), (280, .getfield 204, 3), (283, .ireturn, 1)])]
set_option maxRecDepth 20000 in
theorem zkd_X6_written : ∀ q ∈ zk_X6_written, ∀ e ∈ q.2, decode cX6_written e.1 = .ok e.2 ∧ zlo e = true := by decide +kernel
def zm_X6_written : zMe := ((6, 1, 6, zk_X6_written), (yX6_written, cX6_written, (some .int)))
set_option maxRecDepth 20000 in
theorem zp_X6_written : zP zm_X6_written := ⟨zkd_X6_written, List.mem_of_getElem? (i := 628) rfl, by decide +kernel, rfl, rfl, by decide +kernel, by decide +kernel⟩
def zk_X6_letter : zCd := [(6, [(0, .iload_n 1, 1), (1, .ifCond .lt 20, 3), (4, .iload_n 1, 1), (5, .aload_n 0, 1)]), (14, [(6, .getfield 204, 3), (9, .if_icmp .ge 12, 3), (12, .aload_n 0, 1), (13, .getfield 77, 3)]), (22, [(16, .iload_n 1, 1), (17, .iaload, 1), (18, .goto 4, 3), (21, .iconst (-1), 1)]), (23, [(22, .ireturn, 1)])]
set_option maxRecDepth 20000 in
theorem zkd_X6_letter : ∀ q ∈ zk_X6_letter, ∀ e ∈ q.2, decode cX6_letter e.1 = .ok e.2 ∧ zlo e = true := by decide +kernel
def zm_X6_letter : zMe := ((6, 1, 2, zk_X6_letter), (yX6_letter, cX6_letter, (some .int)))
set_option maxRecDepth 20000 in
theorem zp_X6_letter : zP zm_X6_letter := ⟨zkd_X6_letter, List.mem_of_getElem? (i := 657) rfl, by decide +kernel, rfl, rfl, by decide +kernel, by decide +kernel⟩
def zk_X6_standing : zCd := [(6, [(0, .iconst 0, 1), (1, .istore_n 3, 1), (2, .iconst 0, 1), (3, .istore 4, 2), (5, .iload 4, 2)]), (16, [(7, .aload_n 0, 1), (8, .getfield 117, 3), (11, .if_icmp .ge 44, 3), (14, .iload_n 3, 1), (15, .aload_n 0, 1)]), (24, [(16, .getfield 86, 3), (19, .iload 4, 2), (21, .iaload, 1), (22, .iload_n 1, 1), (23, .if_icmp .ne 23, 3)]), (35, [(26, .aload_n 0, 1), (27, .getfield 53, 3), (30, .aload_n 0, 1), (31, .getfield 89, 3), (34, .iload 4, 2)]), (43, [(36, .iaload, 1), (37, .iaload, 1), (38, .iload_n 2, 1), (39, .if_icmp .ne 7, 3), (42, .iconst 1, 1)]), (50, [(43, .goto 4, 3), (46, .iconst 0, 1), (47, .iadd, 1), (48, .istore_n 3, 1), (49, .iinc 4 1, 3)]), (57, [(52, .goto (-47), 3), (55, .iload_n 3, 1), (56, .ireturn, 1)])]
set_option maxRecDepth 20000 in
theorem zkd_X6_standing : ∀ q ∈ zk_X6_standing, ∀ e ∈ q.2, decode cX6_standing e.1 = .ok e.2 ∧ zlo e = true := by decide +kernel
def zm_X6_standing : zMe := ((6, 1, 5, zk_X6_standing), (yX6_standing, cX6_standing, (some .int)))
set_option maxRecDepth 20000 in
theorem zp_X6_standing : zP zm_X6_standing := ⟨zkd_X6_standing, List.mem_of_getElem? (i := 504) rfl, by decide +kernel, rfl, rfl, by decide +kernel, by decide +kernel⟩
def zk_X6_stander : zCd := [(9, [(0, .iconst 0, 1), (1, .istore 4, 2), (3, .iconst 0, 1), (4, .istore 5, 2), (6, .iload 5, 2), (8, .aload_n 0, 1)]), (22, [(9, .getfield 117, 3), (12, .if_icmp .ge 53, 3), (15, .aload_n 0, 1), (16, .getfield 86, 3), (19, .iload 5, 2), (21, .iaload, 1)]), (32, [(22, .iload_n 1, 1), (23, .if_icmp .ne 36, 3), (26, .aload_n 0, 1), (27, .getfield 53, 3), (30, .aload_n 0, 1), (31, .getfield 89, 3)]), (43, [(34, .iload 5, 2), (36, .iaload, 1), (37, .iaload, 1), (38, .iload_n 2, 1), (39, .if_icmp .ne 20, 3), (42, .iload 4, 2)]), (55, [(44, .iload_n 3, 1), (45, .if_icmp .ne 11, 3), (48, .aload_n 0, 1), (49, .getfield 89, 3), (52, .iload 5, 2), (54, .iaload, 1)]), (67, [(55, .ireturn, 1), (56, .iinc 4 1, 3), (59, .iinc 5 1, 3), (62, .goto (-56), 3), (65, .iconst (-1), 1), (66, .ireturn, 1)])]
set_option maxRecDepth 20000 in
theorem zkd_X6_stander : ∀ q ∈ zk_X6_stander, ∀ e ∈ q.2, decode cX6_stander e.1 = .ok e.2 ∧ zlo e = true := by decide +kernel
def zm_X6_stander : zMe := ((6, 1, 6, zk_X6_stander), (yX6_stander, cX6_stander, (some .int)))
set_option maxRecDepth 20000 in
theorem zp_X6_stander : zP zm_X6_stander := ⟨zkd_X6_stander, List.mem_of_getElem? (i := 699) rfl, by decide +kernel, rfl, rfl, by decide +kernel, by decide +kernel⟩
def zk_X6_mayStand : zCd := [(8, [(0, .aload_n 0, 1), (1, .getfield 44, 3), (4, .iload_n 1, 1), (5, .iaload, 1), (6, .istore_n 3, 1), (7, .iload_n 3, 1)]), (18, [(8, .iconst 2, 1), (9, .if_icmp .ge 7, 3), (12, .iconst 1, 1), (13, .goto 34, 3), (16, .iload_n 3, 1), (17, .iconst 2, 1)]), (29, [(18, .if_icmp .ne 8, 3), (21, .bipush 18, 2), (23, .goto 24, 3), (26, .iload_n 3, 1), (27, .iconst 3, 1), (28, .if_icmp .ne 8, 3)]), (42, [(31, .bipush 20, 2), (33, .goto 14, 3), (36, .iload_n 3, 1), (37, .iconst 4, 1), (38, .if_icmp .ne 7, 3), (41, .iconst 4, 1)]), (54, [(42, .goto 5, 3), (45, .bipush 24, 2), (47, .istore 4, 2), (49, .aload_n 0, 1), (50, .getfield 7, 3), (53, .iload_n 2, 1)]), (63, [(54, .iaload, 1), (55, .iload 4, 2), (57, .iand, 1), (58, .ifCond .eq 7, 3), (61, .iconst 1, 1), (62, .goto 4, 3)]), (67, [(65, .iconst 0, 1), (66, .ireturn, 1)])]
set_option maxRecDepth 20000 in
theorem zkd_X6_mayStand : ∀ q ∈ zk_X6_mayStand, ∀ e ∈ q.2, decode cX6_mayStand e.1 = .ok e.2 ∧ zlo e = true := by decide +kernel
def zm_X6_mayStand : zMe := ((6, 2, 5, zk_X6_mayStand), (yX6_mayStand, cX6_mayStand, (some .boolean)))
set_option maxRecDepth 20000 in
theorem zp_X6_mayStand : zP zm_X6_mayStand := ⟨zkd_X6_mayStand, List.mem_of_getElem? (i := 508) rfl, by decide +kernel, rfl, rfl, by decide +kernel, by decide +kernel⟩
def zk_X6_put : zCd := [(18, [(0, .aload_n 0, 1), (1, .iload_n 1, 1), (2, .invokevirtual 126, 3), (5, .ifCond .eq 12, 3), (8, .aload_n 0, 1), (9, .iload_n 2, 1), (10, .iconst 2, 1), (11, .invokevirtual 146, 3), (14, .ifCond .ne 6, 3), (17, .bipush (-2), 2)]), (34, [(19, .ireturn, 1), (20, .aload_n 0, 1), (21, .getfield 59, 3), (24, .iload_n 2, 1), (25, .baload, 1), (26, .ifCond .eq 6, 3), (29, .bipush (-4), 2), (31, .ireturn, 1), (32, .aload_n 0, 1), (33, .getfield 53, 3)]), (49, [(36, .iload_n 2, 1), (37, .iaload, 1), (38, .istore_n 3, 1), (39, .aload_n 0, 1), (40, .iload_n 1, 1), (41, .iload_n 3, 1), (42, .invokevirtual 207, 3), (45, .istore 4, 2), (47, .aload_n 0, 1), (48, .iload_n 1, 1)]), (68, [(49, .iload_n 3, 1), (50, .invokevirtual 210, 3), (53, .ifCond .ne 6, 3), (56, .bipush (-11), 2), (58, .ireturn, 1), (59, .aload_n 0, 1), (60, .iload_n 2, 1), (61, .invokevirtual 163, 3), (64, .ifCond .ne 6, 3), (67, .bipush (-12), 2)]), (86, [(69, .ireturn, 1), (70, .iload 4, 2), (72, .ifCond .le 16, 3), (75, .aload_n 0, 1), (76, .getfield 20, 3), (79, .iload_n 3, 1), (80, .iaload, 1), (81, .iconst (-1), 1), (82, .if_icmp .ne 6, 3), (85, .bipush (-13), 2)]), (101, [(87, .ireturn, 1), (88, .aload_n 0, 1), (89, .getfield 20, 3), (92, .iload_n 3, 1), (93, .iaload, 1), (94, .iconst (-1), 1), (95, .if_icmp .eq 20, 3), (98, .aload_n 0, 1), (99, .iload_n 1, 1), (100, .aload_n 0, 1)]), (120, [(101, .getfield 20, 3), (104, .iload_n 3, 1), (105, .iaload, 1), (106, .invokevirtual 207, 3), (109, .ifCond .le 6, 3), (112, .bipush (-14), 2), (114, .ireturn, 1), (115, .aload_n 0, 1), (116, .getfield 23, 3), (119, .iload_n 3, 1)]), (134, [(120, .iaload, 1), (121, .iconst (-1), 1), (122, .if_icmp .eq 20, 3), (125, .aload_n 0, 1), (126, .iload_n 1, 1), (127, .aload_n 0, 1), (128, .getfield 23, 3), (131, .iload_n 3, 1), (132, .iaload, 1), (133, .invokevirtual 207, 3)]), (153, [(136, .ifCond .le 6, 3), (139, .bipush (-15), 2), (141, .ireturn, 1), (142, .iload 4, 2), (144, .iconst 4, 1), (145, .if_icmp .ne 6, 3), (148, .bipush (-3), 2), (150, .ireturn, 1), (151, .aload_n 0, 1), (152, .getfield 86, 3)]), (171, [(155, .aload_n 0, 1), (156, .getfield 117, 3), (159, .iload_n 1, 1), (160, .iastore, 1), (161, .aload_n 0, 1), (162, .getfield 89, 3), (165, .aload_n 0, 1), (166, .getfield 117, 3), (169, .iload_n 2, 1), (170, .iastore, 1)]), (187, [(171, .aload_n 0, 1), (172, .dup, 1), (173, .getfield 117, 3), (176, .iconst 1, 1), (177, .iadd, 1), (178, .putfield 117, 3), (181, .aload_n 0, 1), (182, .iload_n 2, 1), (183, .invokevirtual 156, 3), (186, .iload 4, 2)]), (191, [(188, .iconst 1, 1), (189, .iadd, 1), (190, .ireturn, 1)])]
set_option maxRecDepth 20000 in
theorem zkd_X6_put : ∀ q ∈ zk_X6_put, ∀ e ∈ q.2, decode cX6_put e.1 = .ok e.2 ∧ zlo e = true := by decide +kernel
def zm_X6_put : zMe := ((6, 1, 5, zk_X6_put), (yX6_put, cX6_put, (some .int)))
set_option maxRecDepth 20000 in
theorem zp_X6_put : zP zm_X6_put := ⟨zkd_X6_put, List.mem_of_getElem? (i := 500) rfl, by decide +kernel, rfl, rfl, by decide +kernel, by decide +kernel⟩
def zk_X6_own : zCd := [(8, [(0, .aload_n 0, 1), (1, .iload_n 1, 1), (2, .iload_n 2, 1), (3, .invokevirtual 207, 3), (6, .istore_n 3, 1), (7, .iload_n 3, 1)]), (16, [(8, .iconst 1, 1), (9, .if_icmp .ne 11, 3), (12, .aload_n 0, 1), (13, .iload_n 1, 1), (14, .iload_n 2, 1), (15, .iconst 0, 1)]), (26, [(16, .invokevirtual 213, 3), (19, .ireturn, 1), (20, .aload_n 0, 1), (21, .getfield 23, 3), (24, .iload_n 2, 1), (25, .iaload, 1)]), (36, [(26, .istore 4, 2), (28, .iload_n 3, 1), (29, .ifCond .gt 20, 3), (32, .iload 4, 2), (34, .iconst (-1), 1), (35, .if_icmp .eq 14, 3)]), (47, [(38, .aload_n 0, 1), (39, .getfield 13, 3), (42, .iload 4, 2), (44, .iaload, 1), (45, .iconst 2, 1), (46, .if_icmp .eq 7, 3)]), (58, [(49, .iconst 0, 1), (50, .goto 10, 3), (53, .aload_n 0, 1), (54, .iload_n 1, 1), (55, .iload 4, 2), (57, .invokevirtual 207, 3)]), (71, [(60, .istore 5, 2), (62, .iload 5, 2), (64, .iconst 1, 1), (65, .if_icmp .le 11, 3), (68, .bipush (-100), 2), (70, .iload 5, 2)]), (78, [(72, .isub, 1), (73, .goto 4, 3), (76, .iconst (-1), 1), (77, .ireturn, 1)])]
set_option maxRecDepth 20000 in
theorem zkd_X6_own : ∀ q ∈ zk_X6_own, ∀ e ∈ q.2, decode cX6_own e.1 = .ok e.2 ∧ zlo e = true := by decide +kernel
def zm_X6_own : zMe := ((6, 1, 6, zk_X6_own), (yX6_own, cX6_own, (some .int)))
set_option maxRecDepth 20000 in
theorem zp_X6_own : zP zm_X6_own := ⟨zkd_X6_own, List.mem_of_getElem? (i := 695) rfl, by decide +kernel, rfl, rfl, by decide +kernel, by decide +kernel⟩
def zk_X6_goesUp : zCd := [(6, [(0, .aload_n 0, 1), (1, .getfield 16, 3), (4, .iload_n 2, 1), (5, .baload, 1)]), (14, [(6, .ifCond .eq 26, 3), (9, .aload_n 0, 1), (10, .getfield 44, 3), (13, .iload_n 1, 1)]), (20, [(14, .iaload, 1), (15, .ifCond .ne 17, 3), (18, .aload_n 0, 1), (19, .getfield 47, 3)]), (26, [(22, .iload_n 1, 1), (23, .iaload, 1), (24, .iconst (-1), 1), (25, .if_icmp .eq 7, 3)]), (34, [(28, .iconst 1, 1), (29, .goto 4, 3), (32, .iconst 0, 1), (33, .ireturn, 1)])]
set_option maxRecDepth 20000 in
theorem zkd_X6_goesUp : ∀ q ∈ zk_X6_goesUp, ∀ e ∈ q.2, decode cX6_goesUp e.1 = .ok e.2 ∧ zlo e = true := by decide +kernel
def zm_X6_goesUp : zMe := ((6, 2, 3, zk_X6_goesUp), (yX6_goesUp, cX6_goesUp, (some .boolean)))
set_option maxRecDepth 20000 in
theorem zp_X6_goesUp : zP zm_X6_goesUp := ⟨zkd_X6_goesUp, List.mem_of_getElem? (i := 703) rfl, by decide +kernel, rfl, rfl, by decide +kernel, by decide +kernel⟩
def zk_X6_ask : zCd := [(10, [(0, .aload_n 0, 1), (1, .iload_n 1, 1), (2, .invokevirtual 126, 3), (5, .ifCond .eq 11, 3), (8, .aload_n 0, 1), (9, .iload_n 2, 1)]), (21, [(10, .invokevirtual 96, 3), (13, .ifCond .ne 6, 3), (16, .bipush (-2), 2), (18, .ireturn, 1), (19, .aload_n 0, 1), (20, .getfield 13, 3)]), (31, [(23, .iload_n 2, 1), (24, .iaload, 1), (25, .iconst 2, 1), (26, .if_icmp .eq 5, 3), (29, .iconst (-1), 1), (30, .ireturn, 1)]), (39, [(31, .iload_n 1, 1), (32, .istore 4, 2), (34, .aload_n 0, 1), (35, .iload 4, 2), (37, .iload_n 2, 1), (38, .invokevirtual 216, 3)]), (51, [(41, .istore 5, 2), (43, .iload_n 3, 1), (44, .ifCond .eq 40, 3), (47, .iload 5, 2), (49, .iconst (-1), 1), (50, .if_icmp .ne 34, 3)]), (64, [(53, .aload_n 0, 1), (54, .iload 4, 2), (56, .iload_n 2, 1), (57, .invokevirtual 219, 3), (60, .ifCond .eq 24, 3), (63, .aload_n 0, 1)]), (74, [(64, .getfield 47, 3), (67, .iload 4, 2), (69, .iaload, 1), (70, .istore 4, 2), (72, .aload_n 0, 1), (73, .iload 4, 2)]), (87, [(75, .iload_n 2, 1), (76, .invokevirtual 216, 3), (79, .istore 5, 2), (81, .goto (-38), 3), (84, .iload 5, 2), (86, .ireturn, 1)])]
set_option maxRecDepth 20000 in
theorem zkd_X6_ask : ∀ q ∈ zk_X6_ask, ∀ e ∈ q.2, decode cX6_ask e.1 = .ok e.2 ∧ zlo e = true := by decide +kernel
def zm_X6_ask : zMe := ((6, 1, 6, zk_X6_ask), (yX6_ask, cX6_ask, (some .int)))
set_option maxRecDepth 20000 in
theorem zp_X6_ask : zP zm_X6_ask := ⟨zkd_X6_ask, List.mem_of_getElem? (i := 691) rfl, by decide +kernel, rfl, rfl, by decide +kernel, by decide +kernel⟩
def zk_X6_rowAt : zCd := [(7, [(0, .aload_n 0, 1), (1, .getfield 20, 3), (4, .iload_n 2, 1), (5, .iaload, 1), (6, .istore_n 3, 1)]), (14, [(7, .iload_n 3, 1), (8, .iconst (-1), 1), (9, .if_icmp .eq 13, 3), (12, .aload_n 0, 1), (13, .iload_n 1, 1)]), (23, [(14, .iload_n 3, 1), (15, .invokevirtual 207, 3), (18, .iconst 1, 1), (19, .if_icmp .eq 5, 3), (22, .iconst (-1), 1)]), (28, [(23, .ireturn, 1), (24, .aload_n 0, 1), (25, .iload_n 1, 1), (26, .iload_n 3, 1), (27, .iconst 0, 1)]), (37, [(28, .invokevirtual 213, 3), (31, .istore 4, 2), (33, .aload_n 0, 1), (34, .iload 4, 2), (36, .aload_n 0, 1)]), (44, [(37, .iload_n 3, 1), (38, .iconst 0, 1), (39, .invokevirtual 106, 3), (42, .iconst 5, 1), (43, .iload_n 3, 1)]), (50, [(44, .imul, 1), (45, .isub, 1), (46, .invokevirtual 178, 3), (49, .ireturn, 1)])]
set_option maxRecDepth 20000 in
theorem zkd_X6_rowAt : ∀ q ∈ zk_X6_rowAt, ∀ e ∈ q.2, decode cX6_rowAt e.1 = .ok e.2 ∧ zlo e = true := by decide +kernel
def zm_X6_rowAt : zMe := ((6, 1, 5, zk_X6_rowAt), (yX6_rowAt, cX6_rowAt, (some .int)))
set_option maxRecDepth 20000 in
theorem zp_X6_rowAt : zP zm_X6_rowAt := ⟨zkd_X6_rowAt, List.mem_of_getElem? (i := 735) rfl, by decide +kernel, rfl, rfl, by decide +kernel, by decide +kernel⟩
def zk_X6_allAt : zCd := [(4, [(0, .aload_n 0, 1), (1, .iload_n 1, 1), (2, .iload_n 2, 1), (3, .invokevirtual 207, 3)]), (12, [(6, .istore_n 3, 1), (7, .iload_n 3, 1), (8, .ifCond .le 7, 3), (11, .iconst (-1), 1)]), (18, [(12, .goto 9, 3), (15, .aload_n 0, 1), (16, .iload_n 1, 1), (17, .iload_n 2, 1)]), (26, [(18, .invokevirtual 222, 3), (21, .istore 4, 2), (23, .iload 4, 2), (25, .iconst (-1), 1)]), (34, [(26, .if_icmp .ne 7, 3), (29, .iload_n 3, 1), (30, .goto 10, 3), (33, .aload_n 0, 1)]), (41, [(34, .getfield 56, 3), (37, .iload 4, 2), (39, .iaload, 1), (40, .ireturn, 1)])]
set_option maxRecDepth 20000 in
theorem zkd_X6_allAt : ∀ q ∈ zk_X6_allAt, ∀ e ∈ q.2, decode cX6_allAt e.1 = .ok e.2 ∧ zlo e = true := by decide +kernel
def zm_X6_allAt : zMe := ((6, 1, 5, zk_X6_allAt), (yX6_allAt, cX6_allAt, (some .int)))
set_option maxRecDepth 20000 in
theorem zp_X6_allAt : zP zm_X6_allAt := ⟨zkd_X6_allAt, List.mem_of_getElem? (i := 731) rfl, by decide +kernel, rfl, rfl, by decide +kernel, by decide +kernel⟩
def zk_X6_whereAll : zCd := [(4, [(0, .iload_n 1, 1), (1, .istore_n 3, 1), (2, .aload_n 0, 1), (3, .iload_n 3, 1)]), (12, [(4, .iload_n 2, 1), (5, .invokevirtual 225, 3), (8, .ifCond .ne 22, 3), (11, .aload_n 0, 1)]), (18, [(12, .iload_n 3, 1), (13, .iload_n 2, 1), (14, .invokevirtual 219, 3), (17, .ifCond .eq 13, 3)]), (26, [(20, .aload_n 0, 1), (21, .getfield 47, 3), (24, .iload_n 3, 1), (25, .iaload, 1)]), (32, [(26, .istore_n 3, 1), (27, .goto (-25), 3), (30, .iload_n 3, 1), (31, .ireturn, 1)])]
set_option maxRecDepth 20000 in
theorem zkd_X6_whereAll : ∀ q ∈ zk_X6_whereAll, ∀ e ∈ q.2, decode cX6_whereAll e.1 = .ok e.2 ∧ zlo e = true := by decide +kernel
def zm_X6_whereAll : zMe := ((6, 1, 4, zk_X6_whereAll), (yX6_whereAll, cX6_whereAll, (some .int)))
set_option maxRecDepth 20000 in
theorem zp_X6_whereAll : zP zm_X6_whereAll := ⟨zkd_X6_whereAll, List.mem_of_getElem? (i := 727) rfl, by decide +kernel, rfl, rfl, by decide +kernel, by decide +kernel⟩
def zk_X6_all : zCd := [(9, [(0, .aload_n 0, 1), (1, .iload_n 1, 1), (2, .invokevirtual 126, 3), (5, .ifCond .eq 11, 3), (8, .aload_n 0, 1)]), (19, [(9, .iload_n 2, 1), (10, .invokevirtual 96, 3), (13, .ifCond .ne 6, 3), (16, .bipush (-2), 2), (18, .ireturn, 1)]), (26, [(19, .aload_n 0, 1), (20, .getfield 13, 3), (23, .iload_n 2, 1), (24, .iaload, 1), (25, .iconst 2, 1)]), (35, [(26, .if_icmp .eq 7, 3), (29, .iconst 0, 1), (30, .goto 14, 3), (33, .aload_n 0, 1), (34, .aload_n 0, 1)]), (42, [(35, .iload_n 1, 1), (36, .iload_n 2, 1), (37, .invokevirtual 228, 3), (40, .iload_n 2, 1), (41, .invokevirtual 225, 3)]), (45, [(44, .ireturn, 1)])]
set_option maxRecDepth 20000 in
theorem zkd_X6_all : ∀ q ∈ zk_X6_all, ∀ e ∈ q.2, decode cX6_all e.1 = .ok e.2 ∧ zlo e = true := by decide +kernel
def zm_X6_all : zMe := ((6, 1, 3, zk_X6_all), (yX6_all, cX6_all, (some .int)))
set_option maxRecDepth 20000 in
theorem zp_X6_all : zP zm_X6_all := ⟨zkd_X6_all, List.mem_of_getElem? (i := 723) rfl, by decide +kernel, rfl, rfl, by decide +kernel, by decide +kernel⟩
def zk_X6_of : zCd := [(11, [(0, .aload_n 0, 1), (1, .iload_n 1, 1), (2, .invokevirtual 126, 3), (5, .ifCond .eq 11, 3), (8, .aload_n 0, 1), (9, .iload_n 2, 1), (10, .invokevirtual 96, 3)]), (25, [(13, .ifCond .ne 6, 3), (16, .bipush (-2), 2), (18, .ireturn, 1), (19, .aload_n 0, 1), (20, .getfield 13, 3), (23, .iload_n 2, 1), (24, .iaload, 1)]), (34, [(25, .iconst 2, 1), (26, .if_icmp .eq 5, 3), (29, .iconst (-1), 1), (30, .ireturn, 1), (31, .aload_n 0, 1), (32, .iload_n 1, 1), (33, .iload_n 2, 1)]), (46, [(34, .invokevirtual 228, 3), (37, .istore 4, 2), (39, .iload_n 3, 1), (40, .ifCond .lt 14, 3), (43, .iload_n 3, 1), (44, .aload_n 0, 1), (45, .iload 4, 2)]), (58, [(47, .iload_n 2, 1), (48, .invokevirtual 225, 3), (51, .if_icmp .lt 5, 3), (54, .iconst (-1), 1), (55, .ireturn, 1), (56, .aload_n 0, 1), (57, .iload 4, 2)]), (71, [(59, .iload_n 2, 1), (60, .invokevirtual 207, 3), (63, .ifCond .le 14, 3), (66, .aload_n 0, 1), (67, .iload 4, 2), (69, .iload_n 2, 1), (70, .iload_n 3, 1)]), (84, [(71, .invokevirtual 213, 3), (74, .goto 19, 3), (77, .aload_n 0, 1), (78, .getfield 62, 3), (81, .iconst 5, 1), (82, .aload_n 0, 1), (83, .iload 4, 2)]), (94, [(85, .iload_n 2, 1), (86, .invokevirtual 222, 3), (89, .imul, 1), (90, .iload_n 3, 1), (91, .iadd, 1), (92, .iaload, 1), (93, .ireturn, 1)])]
set_option maxRecDepth 20000 in
theorem zkd_X6_of : ∀ q ∈ zk_X6_of, ∀ e ∈ q.2, decode cX6_of e.1 = .ok e.2 ∧ zlo e = true := by decide +kernel
def zm_X6_of : zMe := ((6, 1, 5, zk_X6_of), (yX6_of, cX6_of, (some .int)))
set_option maxRecDepth 20000 in
theorem zp_X6_of : zP zm_X6_of := ⟨zkd_X6_of, List.mem_of_getElem? (i := 743) rfl, by decide +kernel, rfl, rfl, by decide +kernel, by decide +kernel⟩
def zk_X6_stands : zCd := [(9, [(0, .aload_n 0, 1), (1, .iload_n 1, 1), (2, .invokevirtual 126, 3), (5, .ifCond .ne 6, 3), (8, .bipush (-2), 2)]), (15, [(10, .ireturn, 1), (11, .iconst 0, 1), (12, .istore_n 2, 1), (13, .iconst 0, 1), (14, .istore_n 3, 1)]), (24, [(15, .iload_n 3, 1), (16, .aload_n 0, 1), (17, .getfield 117, 3), (20, .if_icmp .ge 27, 3), (23, .iload_n 2, 1)]), (31, [(24, .aload_n 0, 1), (25, .getfield 86, 3), (28, .iload_n 3, 1), (29, .iaload, 1), (30, .iload_n 1, 1)]), (40, [(31, .if_icmp .ne 7, 3), (34, .iconst 1, 1), (35, .goto 4, 3), (38, .iconst 0, 1), (39, .iadd, 1)]), (49, [(40, .istore_n 2, 1), (41, .iinc 3 1, 3), (44, .goto (-29), 3), (47, .iload_n 2, 1), (48, .ireturn, 1)])]
set_option maxRecDepth 20000 in
theorem zkd_X6_stands : ∀ q ∈ zk_X6_stands, ∀ e ∈ q.2, decode cX6_stands e.1 = .ok e.2 ∧ zlo e = true := by decide +kernel
def zm_X6_stands : zMe := ((6, 1, 4, zk_X6_stands), (yX6_stands, cX6_stands, (some .int)))
set_option maxRecDepth 20000 in
theorem zp_X6_stands : zP zm_X6_stands := ⟨zkd_X6_stands, List.mem_of_getElem? (i := 755) rfl, by decide +kernel, rfl, rfl, by decide +kernel, by decide +kernel⟩
def zk_X6_cause : zCd := [(5, [(0, .aload_n 0, 1), (1, .getfield 143, 3), (4, .ireturn, 1)])]
set_option maxRecDepth 20000 in
theorem zkd_X6_cause : ∀ q ∈ zk_X6_cause, ∀ e ∈ q.2, decode cX6_cause e.1 = .ok e.2 ∧ zlo e = true := by decide +kernel
def zm_X6_cause : zMe := ((6, 1, 1, zk_X6_cause), (yX6_cause, cX6_cause, (some .int)))
set_option maxRecDepth 20000 in
theorem zp_X6_cause : zP zm_X6_cause := ⟨zkd_X6_cause, List.mem_of_getElem? (i := 516) rfl, by decide +kernel, rfl, rfl, by decide +kernel, by decide +kernel⟩
def zk_X6_count : zCd := [(79, [(0, .iload_n 1, 1), (1, .tableswitch 101 0 13 #[71, 76, 81, 86, 101, 101, 101, 101, 101, 101, 101, 91, 91, 91], 71), (72, .aload_n 0, 1), (73, .getfield 92, 3), (76, .ireturn, 1), (77, .aload_n 0, 1), (78, .getfield 123, 3)]), (92, [(81, .ireturn, 1), (82, .aload_n 0, 1), (83, .getfield 100, 3), (86, .ireturn, 1), (87, .aload_n 0, 1), (88, .getfield 117, 3), (91, .ireturn, 1)]), (102, [(92, .aload_n 0, 1), (93, .getfield 65, 3), (96, .iload_n 1, 1), (97, .bipush 10, 2), (99, .isub, 1), (100, .iaload, 1), (101, .ireturn, 1)]), (114, [(102, .aload_n 0, 1), (103, .iload_n 1, 1), (104, .bipush 20, 2), (106, .isub, 1), (107, .invokevirtual 96, 3), (110, .ifCond .eq 15, 3), (113, .aload_n 0, 1)]), (126, [(114, .getfield 26, 3), (117, .iload_n 1, 1), (118, .bipush 20, 2), (120, .isub, 1), (121, .iaload, 1), (122, .goto 28, 3), (125, .aload_n 0, 1)]), (138, [(126, .iload_n 1, 1), (127, .bipush 40, 2), (129, .isub, 1), (130, .invokevirtual 96, 3), (133, .ifCond .eq 15, 3), (136, .aload_n 0, 1), (137, .getfield 20, 3)]), (151, [(140, .iload_n 1, 1), (141, .bipush 40, 2), (143, .isub, 1), (144, .iaload, 1), (145, .goto 5, 3), (148, .bipush (-2), 2), (150, .ireturn, 1)])]
set_option maxRecDepth 20000 in
theorem zkd_X6_count : ∀ q ∈ zk_X6_count, ∀ e ∈ q.2, decode cX6_count e.1 = .ok e.2 ∧ zlo e = true := by decide +kernel
def zm_X6_count : zMe := ((6, 1, 2, zk_X6_count), (yX6_count, cX6_count, (some .int)))
set_option maxRecDepth 20000 in
theorem zp_X6_count : zP zm_X6_count := ⟨zkd_X6_count, List.mem_of_getElem? (i := 772) rfl, by decide +kernel, rfl, rfl, by decide +kernel, by decide +kernel⟩
def zk_J7_fill_53178 : zCd := [(4, [(0, .iconst 0, 1), (1, .istore_n 2, 1), (2, .aload_n 0, 1), (3, .arraylength, 1)]), (8, [(4, .istore_n 3, 1), (5, .iload_n 2, 1), (6, .iload_n 3, 1), (7, .if_icmp .ge 13, 3)]), (14, [(10, .aload_n 0, 1), (11, .iload_n 2, 1), (12, .iload_n 1, 1), (13, .iastore, 1)]), (21, [(14, .iinc 2 1, 3), (17, .goto (-12), 3), (20, .return_, 1)])]
set_option maxRecDepth 20000 in
theorem zkd_J7_fill_53178 : ∀ q ∈ zk_J7_fill_53178, ∀ e ∈ q.2, decode cJ7_fill_53178 e.1 = .ok e.2 ∧ zlo e = true := by decide +kernel
def zm_J7_fill_53178 : zMe := ((8, 0, 4, zk_J7_fill_53178), (yJ7_fill_53178, cJ7_fill_53178, none))
set_option maxRecDepth 20000 in
theorem zp_J7_fill_53178 : zP zm_J7_fill_53178 := ⟨zkd_J7_fill_53178, List.mem_of_getElem? (i := 57) rfl, by decide +kernel, rfl, rfl, by decide +kernel, by decide +kernel⟩
def zMs_0 : List zMe := [zm_X0_has, zm_X0_hasKind, zm_X0_add, zm_X0_addElement, zm_X0_positionOf, zm_X0_slotOf, zm_X0_isFixed, zm_X0_leadOf, zm_X0_wouldLeadTooFar, zm_X0_leadingInto, zm_X0_canContain, zm_X0_othersHaveDefaults, zm_X1_has, zm_X1_isType, zm_X1_isClass, zm_X1_isMethod, zm_X1_fits, zm_X1_add, zm_X1_parentOf, zm_X1_fittingTargets]
theorem zMs_ok0 : ∀ e ∈ zMs_0, zP e := List.forall_mem_cons.mpr ⟨zp_X0_has, List.forall_mem_cons.mpr ⟨zp_X0_hasKind, List.forall_mem_cons.mpr ⟨zp_X0_add, List.forall_mem_cons.mpr ⟨zp_X0_addElement, List.forall_mem_cons.mpr ⟨zp_X0_positionOf, List.forall_mem_cons.mpr ⟨zp_X0_slotOf, List.forall_mem_cons.mpr ⟨zp_X0_isFixed, List.forall_mem_cons.mpr ⟨zp_X0_leadOf, List.forall_mem_cons.mpr ⟨zp_X0_wouldLeadTooFar, List.forall_mem_cons.mpr ⟨zp_X0_leadingInto, List.forall_mem_cons.mpr ⟨zp_X0_canContain, List.forall_mem_cons.mpr ⟨zp_X0_othersHaveDefaults, List.forall_mem_cons.mpr ⟨zp_X1_has, List.forall_mem_cons.mpr ⟨zp_X1_isType, List.forall_mem_cons.mpr ⟨zp_X1_isClass, List.forall_mem_cons.mpr ⟨zp_X1_isMethod, List.forall_mem_cons.mpr ⟨zp_X1_fits, List.forall_mem_cons.mpr ⟨zp_X1_add, List.forall_mem_cons.mpr ⟨zp_X1_parentOf, List.forall_mem_cons.mpr ⟨zp_X1_fittingTargets, fun _ h => absurd h List.not_mem_nil⟩⟩⟩⟩⟩⟩⟩⟩⟩⟩⟩⟩⟩⟩⟩⟩⟩⟩⟩⟩
def zMs_1 : List zMe := [zm_X2_add, zm_X2_howManyAt, zm_X2_howMany, zm_X2_nth, zm_X3_has, zm_X3_isSort, zm_X3_isOfKind, zm_X3_isRowOf, zm_X3_markOf, zm_X3_add, zm_X3_addRowOfOne, zm_X3_append, zm_X3_setElement, zm_X3_finish, zm_X3_partAt, zm_X3_inRow, zm_X3_elementAt, zm_X3_elementByName, zm_X3_howManyElements, zm_X3_isWhole]
theorem zMs_ok1 : ∀ e ∈ zMs_1, zP e := List.forall_mem_cons.mpr ⟨zp_X2_add, List.forall_mem_cons.mpr ⟨zp_X2_howManyAt, List.forall_mem_cons.mpr ⟨zp_X2_howMany, List.forall_mem_cons.mpr ⟨zp_X2_nth, List.forall_mem_cons.mpr ⟨zp_X3_has, List.forall_mem_cons.mpr ⟨zp_X3_isSort, List.forall_mem_cons.mpr ⟨zp_X3_isOfKind, List.forall_mem_cons.mpr ⟨zp_X3_isRowOf, List.forall_mem_cons.mpr ⟨zp_X3_markOf, List.forall_mem_cons.mpr ⟨zp_X3_add, List.forall_mem_cons.mpr ⟨zp_X3_addRowOfOne, List.forall_mem_cons.mpr ⟨zp_X3_append, List.forall_mem_cons.mpr ⟨zp_X3_setElement, List.forall_mem_cons.mpr ⟨zp_X3_finish, List.forall_mem_cons.mpr ⟨zp_X3_partAt, List.forall_mem_cons.mpr ⟨zp_X3_inRow, List.forall_mem_cons.mpr ⟨zp_X3_elementAt, List.forall_mem_cons.mpr ⟨zp_X3_elementByName, List.forall_mem_cons.mpr ⟨zp_X3_howManyElements, List.forall_mem_cons.mpr ⟨zp_X3_isWhole, fun _ h => absurd h List.not_mem_nil⟩⟩⟩⟩⟩⟩⟩⟩⟩⟩⟩⟩⟩⟩⟩⟩⟩⟩⟩⟩
def zMs_2 : List zMe := [zm_X3_areAllWhole, zm_X3_hasAllElementsWhole, zm_X3_areEqual, zm_X3_haveEqualElements, zm_X3_haveEqualParts, zm_X4_write, zm_X4_begin, zm_X4_writeByte, zm_X4_writeValue, zm_X4_writeRow, zm_X4_writeInstance, zm_X4_writeSimple, zm_X4_writeDigits, zm_X5_mark, zm_X5_element, zm_X5_fallback, zm_X5_container, zm_X5_place, zm_X5_value, zm_X5_row]
theorem zMs_ok2 : ∀ e ∈ zMs_2, zP e := List.forall_mem_cons.mpr ⟨zp_X3_areAllWhole, List.forall_mem_cons.mpr ⟨zp_X3_hasAllElementsWhole, List.forall_mem_cons.mpr ⟨zp_X3_areEqual, List.forall_mem_cons.mpr ⟨zp_X3_haveEqualElements, List.forall_mem_cons.mpr ⟨zp_X3_haveEqualParts, List.forall_mem_cons.mpr ⟨zp_X4_write, List.forall_mem_cons.mpr ⟨zp_X4_begin, List.forall_mem_cons.mpr ⟨zp_X4_writeByte, List.forall_mem_cons.mpr ⟨zp_X4_writeValue, List.forall_mem_cons.mpr ⟨zp_X4_writeRow, List.forall_mem_cons.mpr ⟨zp_X4_writeInstance, List.forall_mem_cons.mpr ⟨zp_X4_writeSimple, List.forall_mem_cons.mpr ⟨zp_X4_writeDigits, List.forall_mem_cons.mpr ⟨zp_X5_mark, List.forall_mem_cons.mpr ⟨zp_X5_element, List.forall_mem_cons.mpr ⟨zp_X5_fallback, List.forall_mem_cons.mpr ⟨zp_X5_container, List.forall_mem_cons.mpr ⟨zp_X5_place, List.forall_mem_cons.mpr ⟨zp_X5_value, List.forall_mem_cons.mpr ⟨zp_X5_row, fun _ h => absurd h List.not_mem_nil⟩⟩⟩⟩⟩⟩⟩⟩⟩⟩⟩⟩⟩⟩⟩⟩⟩⟩⟩⟩
def zMs_3 : List zMe := [zm_X5_push, zm_X5_instance, zm_X5_give, zm_X5_put, zm_X5_cause, zm_X5_told, zm_X5_part, zm_X5_equal, zm_X5_written, zm_X5_letter, zm_X5_ask, zm_X5_all, zm_X5_of, zm_X5_stands, zm_X5_count, zm_X5_countOfMark, zm_X5_asNumber, zm_X5_isValueOrNone, zm_X5_isDoneOrSame, zm_X5_isSimple]
theorem zMs_ok3 : ∀ e ∈ zMs_3, zP e := List.forall_mem_cons.mpr ⟨zp_X5_push, List.forall_mem_cons.mpr ⟨zp_X5_instance, List.forall_mem_cons.mpr ⟨zp_X5_give, List.forall_mem_cons.mpr ⟨zp_X5_put, List.forall_mem_cons.mpr ⟨zp_X5_cause, List.forall_mem_cons.mpr ⟨zp_X5_told, List.forall_mem_cons.mpr ⟨zp_X5_part, List.forall_mem_cons.mpr ⟨zp_X5_equal, List.forall_mem_cons.mpr ⟨zp_X5_written, List.forall_mem_cons.mpr ⟨zp_X5_letter, List.forall_mem_cons.mpr ⟨zp_X5_ask, List.forall_mem_cons.mpr ⟨zp_X5_all, List.forall_mem_cons.mpr ⟨zp_X5_of, List.forall_mem_cons.mpr ⟨zp_X5_stands, List.forall_mem_cons.mpr ⟨zp_X5_count, List.forall_mem_cons.mpr ⟨zp_X5_countOfMark, List.forall_mem_cons.mpr ⟨zp_X5_asNumber, List.forall_mem_cons.mpr ⟨zp_X5_isValueOrNone, List.forall_mem_cons.mpr ⟨zp_X5_isDoneOrSame, List.forall_mem_cons.mpr ⟨zp_X5_isSimple, fun _ h => absurd h List.not_mem_nil⟩⟩⟩⟩⟩⟩⟩⟩⟩⟩⟩⟩⟩⟩⟩⟩⟩⟩⟩⟩
def zMs_4 : List zMe := [zm_X5_fail, zm_X5_takeFor, zm_X5_brokenRule, zm_X5_ownAt, zm_X5_gatheredAt, zm_X5_foundAt, zm_X5_inheritsFrom, zm_X5_sourceOfAll, zm_X5_howManyHere, zm_X5_containerRowAt, zm_X6_isMark, zm_X6_mark, zm_X6_isKind, zm_X6_elementOf, zm_X6_isFixed, zm_X6_mayLead, zm_X6_element, zm_X6_isContainer, zm_X6_container, zm_X6_isPlace]
theorem zMs_ok4 : ∀ e ∈ zMs_4, zP e := List.forall_mem_cons.mpr ⟨zp_X5_fail, List.forall_mem_cons.mpr ⟨zp_X5_takeFor, List.forall_mem_cons.mpr ⟨zp_X5_brokenRule, List.forall_mem_cons.mpr ⟨zp_X5_ownAt, List.forall_mem_cons.mpr ⟨zp_X5_gatheredAt, List.forall_mem_cons.mpr ⟨zp_X5_foundAt, List.forall_mem_cons.mpr ⟨zp_X5_inheritsFrom, List.forall_mem_cons.mpr ⟨zp_X5_sourceOfAll, List.forall_mem_cons.mpr ⟨zp_X5_howManyHere, List.forall_mem_cons.mpr ⟨zp_X5_containerRowAt, List.forall_mem_cons.mpr ⟨zp_X6_isMark, List.forall_mem_cons.mpr ⟨zp_X6_mark, List.forall_mem_cons.mpr ⟨zp_X6_isKind, List.forall_mem_cons.mpr ⟨zp_X6_elementOf, List.forall_mem_cons.mpr ⟨zp_X6_isFixed, List.forall_mem_cons.mpr ⟨zp_X6_mayLead, List.forall_mem_cons.mpr ⟨zp_X6_element, List.forall_mem_cons.mpr ⟨zp_X6_isContainer, List.forall_mem_cons.mpr ⟨zp_X6_container, List.forall_mem_cons.mpr ⟨zp_X6_isPlace, fun _ h => absurd h List.not_mem_nil⟩⟩⟩⟩⟩⟩⟩⟩⟩⟩⟩⟩⟩⟩⟩⟩⟩⟩⟩⟩
def zMs_5 : List zMe := [zm_X6_isAmong, zm_X6_isType, zm_X6_place, zm_X6_isValue, zm_X6_isSort, zm_X6_added, zm_X6_value, zm_X6_row, zm_X6_instance, zm_X6_failed, zm_X6_good, zm_X6_isOfKind, zm_X6_done, zm_X6_push, zm_X6_given, zm_X6_fallback, zm_X6_give, zm_X6_within, zm_X6_inner, zm_X6_pile]
theorem zMs_ok5 : ∀ e ∈ zMs_5, zP e := List.forall_mem_cons.mpr ⟨zp_X6_isAmong, List.forall_mem_cons.mpr ⟨zp_X6_isType, List.forall_mem_cons.mpr ⟨zp_X6_place, List.forall_mem_cons.mpr ⟨zp_X6_isValue, List.forall_mem_cons.mpr ⟨zp_X6_isSort, List.forall_mem_cons.mpr ⟨zp_X6_added, List.forall_mem_cons.mpr ⟨zp_X6_value, List.forall_mem_cons.mpr ⟨zp_X6_row, List.forall_mem_cons.mpr ⟨zp_X6_instance, List.forall_mem_cons.mpr ⟨zp_X6_failed, List.forall_mem_cons.mpr ⟨zp_X6_good, List.forall_mem_cons.mpr ⟨zp_X6_isOfKind, List.forall_mem_cons.mpr ⟨zp_X6_done, List.forall_mem_cons.mpr ⟨zp_X6_push, List.forall_mem_cons.mpr ⟨zp_X6_given, List.forall_mem_cons.mpr ⟨zp_X6_fallback, List.forall_mem_cons.mpr ⟨zp_X6_give, List.forall_mem_cons.mpr ⟨zp_X6_within, List.forall_mem_cons.mpr ⟨zp_X6_inner, List.forall_mem_cons.mpr ⟨zp_X6_pile, fun _ h => absurd h List.not_mem_nil⟩⟩⟩⟩⟩⟩⟩⟩⟩⟩⟩⟩⟩⟩⟩⟩⟩⟩⟩⟩
def zMs_6 : List zMe := [zm_X6_isWhole, zm_X6_isLike, zm_X6_areEqual, zm_X6_equal, zm_X6_told, zm_X6_part, zm_X6_write, zm_X6_writeNumber, zm_X6_begin, zm_X6_isBehind, zm_X6_written, zm_X6_letter, zm_X6_standing, zm_X6_stander, zm_X6_mayStand, zm_X6_put, zm_X6_own, zm_X6_goesUp, zm_X6_ask, zm_X6_rowAt]
theorem zMs_ok6 : ∀ e ∈ zMs_6, zP e := List.forall_mem_cons.mpr ⟨zp_X6_isWhole, List.forall_mem_cons.mpr ⟨zp_X6_isLike, List.forall_mem_cons.mpr ⟨zp_X6_areEqual, List.forall_mem_cons.mpr ⟨zp_X6_equal, List.forall_mem_cons.mpr ⟨zp_X6_told, List.forall_mem_cons.mpr ⟨zp_X6_part, List.forall_mem_cons.mpr ⟨zp_X6_write, List.forall_mem_cons.mpr ⟨zp_X6_writeNumber, List.forall_mem_cons.mpr ⟨zp_X6_begin, List.forall_mem_cons.mpr ⟨zp_X6_isBehind, List.forall_mem_cons.mpr ⟨zp_X6_written, List.forall_mem_cons.mpr ⟨zp_X6_letter, List.forall_mem_cons.mpr ⟨zp_X6_standing, List.forall_mem_cons.mpr ⟨zp_X6_stander, List.forall_mem_cons.mpr ⟨zp_X6_mayStand, List.forall_mem_cons.mpr ⟨zp_X6_put, List.forall_mem_cons.mpr ⟨zp_X6_own, List.forall_mem_cons.mpr ⟨zp_X6_goesUp, List.forall_mem_cons.mpr ⟨zp_X6_ask, List.forall_mem_cons.mpr ⟨zp_X6_rowAt, fun _ h => absurd h List.not_mem_nil⟩⟩⟩⟩⟩⟩⟩⟩⟩⟩⟩⟩⟩⟩⟩⟩⟩⟩⟩⟩
def zMs_7 : List zMe := [zm_X6_allAt, zm_X6_whereAll, zm_X6_all, zm_X6_of, zm_X6_stands, zm_X6_cause, zm_X6_count, zm_J7_fill_53178]
theorem zMs_ok7 : ∀ e ∈ zMs_7, zP e := List.forall_mem_cons.mpr ⟨zp_X6_allAt, List.forall_mem_cons.mpr ⟨zp_X6_whereAll, List.forall_mem_cons.mpr ⟨zp_X6_all, List.forall_mem_cons.mpr ⟨zp_X6_of, List.forall_mem_cons.mpr ⟨zp_X6_stands, List.forall_mem_cons.mpr ⟨zp_X6_cause, List.forall_mem_cons.mpr ⟨zp_X6_count, List.forall_mem_cons.mpr ⟨zp_J7_fill_53178, fun _ h => absurd h List.not_mem_nil⟩⟩⟩⟩⟩⟩⟩⟩
def zMs : List zMe := zMs_0 ++ (zMs_1 ++ (zMs_2 ++ (zMs_3 ++ (zMs_4 ++ (zMs_5 ++ (zMs_6 ++ (zMs_7)))))))
theorem zMs_ok : ∀ e ∈ zMs, zP e := fun e => fun h => (List.mem_append.mp h).elim (zMs_ok0 e) (fun h => (List.mem_append.mp h).elim (zMs_ok1 e) (fun h => (List.mem_append.mp h).elim (zMs_ok2 e) (fun h => (List.mem_append.mp h).elim (zMs_ok3 e) (fun h => (List.mem_append.mp h).elim (zMs_ok4 e) (fun h => (List.mem_append.mp h).elim (zMs_ok5 e) (fun h => (List.mem_append.mp h).elim (zMs_ok6 e) (fun h => zMs_ok7 e h)))))))
abbrev n_X0_has : Nat := 0
abbrev n_X0_hasKind : Nat := 1
abbrev n_X0_add : Nat := 2
abbrev n_X0_addElement : Nat := 3
abbrev n_X0_positionOf : Nat := 4
abbrev n_X0_slotOf : Nat := 5
abbrev n_X0_isFixed : Nat := 6
abbrev n_X0_leadOf : Nat := 7
abbrev n_X0_wouldLeadTooFar : Nat := 8
abbrev n_X0_leadingInto : Nat := 9
abbrev n_X0_canContain : Nat := 10
abbrev n_X0_othersHaveDefaults : Nat := 11
abbrev n_X1_has : Nat := 12
abbrev n_X1_isType : Nat := 13
abbrev n_X1_isClass : Nat := 14
abbrev n_X1_isMethod : Nat := 15
abbrev n_X1_fits : Nat := 16
abbrev n_X1_add : Nat := 17
abbrev n_X1_parentOf : Nat := 18
abbrev n_X1_fittingTargets : Nat := 19
abbrev n_X2_add : Nat := 20
abbrev n_X2_howManyAt : Nat := 21
abbrev n_X2_howMany : Nat := 22
abbrev n_X2_nth : Nat := 23
abbrev n_X3_has : Nat := 24
abbrev n_X3_isSort : Nat := 25
abbrev n_X3_isOfKind : Nat := 26
abbrev n_X3_isRowOf : Nat := 27
abbrev n_X3_markOf : Nat := 28
abbrev n_X3_add : Nat := 29
abbrev n_X3_addRowOfOne : Nat := 30
abbrev n_X3_append : Nat := 31
abbrev n_X3_setElement : Nat := 32
abbrev n_X3_finish : Nat := 33
abbrev n_X3_partAt : Nat := 34
abbrev n_X3_inRow : Nat := 35
abbrev n_X3_elementAt : Nat := 36
abbrev n_X3_elementByName : Nat := 37
abbrev n_X3_howManyElements : Nat := 38
abbrev n_X3_isWhole : Nat := 39
abbrev n_X3_areAllWhole : Nat := 40
abbrev n_X3_hasAllElementsWhole : Nat := 41
abbrev n_X3_areEqual : Nat := 42
abbrev n_X3_haveEqualElements : Nat := 43
abbrev n_X3_haveEqualParts : Nat := 44
abbrev n_X4_write : Nat := 45
abbrev n_X4_begin : Nat := 46
abbrev n_X4_writeByte : Nat := 47
abbrev n_X4_writeValue : Nat := 48
abbrev n_X4_writeRow : Nat := 49
abbrev n_X4_writeInstance : Nat := 50
abbrev n_X4_writeSimple : Nat := 51
abbrev n_X4_writeDigits : Nat := 52
abbrev n_X5_mark : Nat := 53
abbrev n_X5_element : Nat := 54
abbrev n_X5_fallback : Nat := 55
abbrev n_X5_container : Nat := 56
abbrev n_X5_place : Nat := 57
abbrev n_X5_value : Nat := 58
abbrev n_X5_row : Nat := 59
abbrev n_X5_push : Nat := 60
abbrev n_X5_instance : Nat := 61
abbrev n_X5_give : Nat := 62
abbrev n_X5_put : Nat := 63
abbrev n_X5_cause : Nat := 64
abbrev n_X5_told : Nat := 65
abbrev n_X5_part : Nat := 66
abbrev n_X5_equal : Nat := 67
abbrev n_X5_written : Nat := 68
abbrev n_X5_letter : Nat := 69
abbrev n_X5_ask : Nat := 70
abbrev n_X5_all : Nat := 71
abbrev n_X5_of : Nat := 72
abbrev n_X5_stands : Nat := 73
abbrev n_X5_count : Nat := 74
abbrev n_X5_countOfMark : Nat := 75
abbrev n_X5_asNumber : Nat := 76
abbrev n_X5_isValueOrNone : Nat := 77
abbrev n_X5_isDoneOrSame : Nat := 78
abbrev n_X5_isSimple : Nat := 79
abbrev n_X5_fail : Nat := 80
abbrev n_X5_takeFor : Nat := 81
abbrev n_X5_brokenRule : Nat := 82
abbrev n_X5_ownAt : Nat := 83
abbrev n_X5_gatheredAt : Nat := 84
abbrev n_X5_foundAt : Nat := 85
abbrev n_X5_inheritsFrom : Nat := 86
abbrev n_X5_sourceOfAll : Nat := 87
abbrev n_X5_howManyHere : Nat := 88
abbrev n_X5_containerRowAt : Nat := 89
abbrev n_X6_isMark : Nat := 90
abbrev n_X6_mark : Nat := 91
abbrev n_X6_isKind : Nat := 92
abbrev n_X6_elementOf : Nat := 93
abbrev n_X6_isFixed : Nat := 94
abbrev n_X6_mayLead : Nat := 95
abbrev n_X6_element : Nat := 96
abbrev n_X6_isContainer : Nat := 97
abbrev n_X6_container : Nat := 98
abbrev n_X6_isPlace : Nat := 99
abbrev n_X6_isAmong : Nat := 100
abbrev n_X6_isType : Nat := 101
abbrev n_X6_place : Nat := 102
abbrev n_X6_isValue : Nat := 103
abbrev n_X6_isSort : Nat := 104
abbrev n_X6_added : Nat := 105
abbrev n_X6_value : Nat := 106
abbrev n_X6_row : Nat := 107
abbrev n_X6_instance : Nat := 108
abbrev n_X6_failed : Nat := 109
abbrev n_X6_good : Nat := 110
abbrev n_X6_isOfKind : Nat := 111
abbrev n_X6_done : Nat := 112
abbrev n_X6_push : Nat := 113
abbrev n_X6_given : Nat := 114
abbrev n_X6_fallback : Nat := 115
abbrev n_X6_give : Nat := 116
abbrev n_X6_within : Nat := 117
abbrev n_X6_inner : Nat := 118
abbrev n_X6_pile : Nat := 119
abbrev n_X6_isWhole : Nat := 120
abbrev n_X6_isLike : Nat := 121
abbrev n_X6_areEqual : Nat := 122
abbrev n_X6_equal : Nat := 123
abbrev n_X6_told : Nat := 124
abbrev n_X6_part : Nat := 125
abbrev n_X6_write : Nat := 126
abbrev n_X6_writeNumber : Nat := 127
abbrev n_X6_begin : Nat := 128
abbrev n_X6_isBehind : Nat := 129
abbrev n_X6_written : Nat := 130
abbrev n_X6_letter : Nat := 131
abbrev n_X6_standing : Nat := 132
abbrev n_X6_stander : Nat := 133
abbrev n_X6_mayStand : Nat := 134
abbrev n_X6_put : Nat := 135
abbrev n_X6_own : Nat := 136
abbrev n_X6_goesUp : Nat := 137
abbrev n_X6_ask : Nat := 138
abbrev n_X6_rowAt : Nat := 139
abbrev n_X6_allAt : Nat := 140
abbrev n_X6_whereAll : Nat := 141
abbrev n_X6_all : Nat := 142
abbrev n_X6_of : Nat := 143
abbrev n_X6_stands : Nat := 144
abbrev n_X6_cause : Nat := 145
abbrev n_X6_count : Nat := 146
abbrev n_J7_fill_53178 : Nat := 147
def zfT : Nat → List (Nat × Nat × Nat × Nat × Nat)
  | 0 => [(9, 0, 0, 0, 39), (15, 0, 1, 2, 40), (19, 0, 2, 2, 41), (22, 0, 3, 2, 43), (26, 0, 4, 2, 44), (29, 0, 5, 2, 45), (32, 0, 6, 2, 46), (35, 0, 7, 2, 47), (38, 0, 8, 2, 48), (44, 0, 10, 2, 50), (47, 0, 11, 2, 51), (50, 0, 12, 2, 52), (53, 0, 13, 2, 53)]
  | 1 => [(9, 1, 0, 0, 73), (15, 1, 1, 2, 74), (19, 1, 2, 2, 75)]
  | 2 => [(9, 2, 0, 0, 79), (15, 2, 1, 2, 80), (19, 2, 2, 2, 81), (22, 2, 3, 2, 82)]
  | 3 => [(9, 3, 1, 0, 62), (15, 3, 2, 2, 63), (19, 3, 3, 2, 64), (22, 3, 4, 2, 65), (25, 3, 5, 2, 66), (29, 3, 6, 2, 67), (32, 3, 0, 2, 68), (80, 0, 4, 2, 240), (65, 0, 13, 2, 249)]
  | 4 => [(9, 4, 2, 2, 88), (15, 4, 3, 0, 89), (19, 4, 4, 2, 90), (23, 4, 5, 0, 91), (26, 4, 6, 1, 92), (30, 4, 0, 2, 93), (34, 4, 1, 2, 94), (52, 3, 2, 2, 591), (61, 3, 3, 2, 592), (64, 3, 4, 2, 593), (85, 0, 4, 2, 619), (93, 0, 10, 2, 620)]
  | 5 => [(15, 5, 0, 2, 18), (21, 5, 2, 2, 19), (28, 5, 1, 2, 23), (35, 5, 3, 2, 27), (44, 5, 4, 2, 31), (48, 5, 5, 2, 33), (52, 5, 6, 0, 34), (85, 3, 5, 2, 208), (95, 0, 13, 2, 209), (232, 0, 11, 2, 254), (233, 0, 12, 2, 255), (98, 0, 6, 2, 343), (101, 0, 9, 2, 344), (107, 0, 7, 2, 345), (127, 3, 4, 2, 435), (134, 3, 3, 2, 436), (143, 0, 8, 2, 455), (246, 0, 1, 2, 484), (169, 3, 2, 2, 521), (189, 4, 3, 0, 652), (192, 4, 2, 2, 653), (252, 0, 2, 2, 670), (261, 0, 3, 2, 683), (217, 0, 0, 0, 760), (220, 1, 0, 0, 761), (221, 3, 1, 0, 762), (222, 2, 0, 0, 763), (226, 0, 4, 2, 768)]
  | 6 => [(7, 6, 1, 2, 99), (13, 6, 2, 2, 100), (16, 6, 3, 2, 101), (20, 6, 4, 2, 102), (23, 6, 5, 2, 103), (26, 6, 6, 2, 104), (29, 6, 7, 2, 105), (32, 6, 8, 2, 106), (35, 6, 9, 2, 107), (38, 6, 10, 2, 108), (41, 6, 11, 2, 109), (44, 6, 13, 2, 110), (47, 6, 14, 2, 111), (50, 6, 16, 2, 112), (53, 6, 17, 2, 113), (56, 6, 18, 2, 114), (59, 6, 19, 2, 115), (62, 6, 20, 2, 116), (65, 6, 22, 2, 117), (68, 6, 24, 2, 118), (71, 6, 25, 2, 119), (74, 6, 26, 2, 120), (77, 6, 28, 2, 121), (80, 6, 30, 2, 122), (83, 6, 31, 2, 123), (86, 6, 33, 2, 124), (89, 6, 34, 2, 125), (92, 6, 0, 0, 138), (100, 6, 15, 0, 199), (169, 6, 23, 0, 301), (143, 6, 21, 0, 326), (117, 6, 32, 0, 359), (123, 6, 12, 0, 396), (187, 6, 29, 0, 629), (204, 6, 27, 0, 630)]
  | _ => []
def zvT : Nat → List (Nat × Nat × Nat × Nat × Nat × Nat × Nat × Nat)
  | 0 => [(62, 0, 1, 0, 151, 144, 145, 14), (70, 4, 2, 0, 156, 157, 158, 14), (74, 9, 1, 0, 171, 172, 173, 14), (77, 5, 2, 0, 350, 153, 154, 14), (80, 11, 1, 0, 351, 352, 353, 14)]
  | 1 => [(26, 14, 1, 1, 372, 373, 374, 22), (22, 12, 1, 1, 376, 377, 378, 22), (29, 13, 1, 1, 380, 381, 382, 22), (32, 15, 1, 1, 384, 385, 386, 22)]
  | 3 => [(42, 24, 1, 3, 222, 215, 216, 17), (83, 40, 2, 3, 223, 224, 225, 17), (86, 41, 2, 3, 226, 227, 228, 17), (62, 34, 2, 3, 230, 231, 232, 17), (89, 39, 2, 3, 234, 219, 220, 17), (92, 38, 1, 3, 236, 237, 238, 17), (70, 28, 1, 3, 241, 242, 243, 17), (77, 36, 2, 3, 245, 246, 247, 17), (46, 25, 2, 3, 268, 269, 270, 17), (50, 29, 3, 3, 276, 277, 278, 17), (54, 31, 2, 3, 280, 281, 282, 17), (58, 33, 1, 3, 284, 285, 286, 17), (74, 4, 2, 0, 541, 157, 158, 14), (95, 43, 3, 3, 554, 555, 556, 17), (99, 44, 3, 3, 557, 558, 559, 17), (102, 42, 3, 3, 561, 551, 552, 17)]
  | 4 => [(38, 46, 1, 4, 583, 584, 585, 30), (42, 48, 2, 4, 587, 588, 589, 30), (46, 24, 1, 3, 594, 215, 216, 17), (55, 49, 2, 4, 595, 596, 597, 30), (58, 50, 2, 4, 598, 599, 600, 30), (67, 51, 2, 4, 601, 602, 603, 30), (70, 47, 1, 4, 605, 606, 607, 30), (82, 52, 1, 4, 609, 610, 611, 30), (78, 28, 1, 3, 621, 242, 243, 17), (90, 36, 2, 3, 622, 246, 247, 17), (74, 34, 2, 3, 624, 231, 232, 17)]
  | 5 => [(56, 2, 3, 0, 130, 131, 132, 14), (60, 0, 1, 0, 143, 144, 145, 14), (64, 1, 1, 0, 147, 148, 149, 14), (67, 5, 2, 0, 152, 153, 154, 14), (71, 6, 1, 0, 160, 161, 162, 14), (74, 8, 2, 0, 164, 165, 166, 14), (78, 3, 4, 0, 175, 176, 177, 14), (82, 77, 1, 5, 210, 211, 212, 2), (168, 24, 1, 3, 214, 215, 216, 17), (89, 39, 2, 3, 218, 219, 220, 17), (92, 81, 2, 5, 250, 251, 252, 2), (130, 80, 1, 5, 256, 257, 258, 2), (137, 26, 2, 3, 260, 261, 262, 17), (236, 27, 2, 3, 264, 265, 266, 17), (239, 30, 2, 3, 272, 273, 274, 17), (242, 33, 1, 3, 288, 285, 286, 17), (104, 10, 2, 0, 346, 347, 348, 14), (110, 16, 2, 1, 368, 369, 370, 22), (113, 17, 2, 1, 388, 389, 390, 22), (115, 79, 2, 5, 413, 414, 415, 2), (229, 13, 1, 1, 417, 381, 382, 22), (118, 29, 3, 3, 418, 277, 278, 17), (121, 25, 2, 3, 437, 269, 270, 17), (124, 78, 2, 5, 438, 439, 440, 2), (140, 31, 2, 3, 442, 281, 282, 17), (146, 28, 1, 3, 464, 242, 243, 17), (149, 4, 2, 0, 465, 157, 158, 14), (152, 34, 2, 3, 466, 231, 232, 17), (155, 32, 3, 3, 467, 468, 469, 17), (159, 12, 1, 1, 479, 377, 378, 22), (160, 82, 2, 5, 480, 481, 482, 2), (249, 19, 1, 1, 485, 486, 487, 22), (163, 22, 2, 2, 489, 490, 491, 26), (166, 20, 3, 2, 493, 494, 495, 26), (176, 35, 2, 3, 533, 534, 535, 17), (179, 37, 2, 3, 537, 538, 539, 17), (182, 42, 3, 3, 550, 551, 552, 17), (186, 45, 1, 4, 579, 580, 581, 30), (196, 85, 2, 5, 662, 663, 664, 2), (199, 83, 2, 5, 666, 667, 668, 2), (255, 84, 2, 5, 671, 672, 673, 2), (208, 23, 3, 2, 675, 676, 677, 26), (258, 86, 2, 5, 679, 680, 681, 2), (264, 18, 1, 1, 684, 685, 686, 22), (202, 87, 2, 5, 708, 709, 710, 2), (205, 88, 2, 5, 712, 713, 714, 2), (211, 89, 2, 5, 716, 717, 718, 2), (214, 21, 1, 2, 748, 749, 750, 26), (223, 75, 1, 5, 764, 765, 766, 2)]
  | 6 => [(96, 90, 1, 6, 183, 184, 185, 5), (103, 92, 1, 6, 187, 188, 189, 5), (106, 93, 2, 6, 191, 192, 193, 5), (110, 94, 1, 6, 195, 196, 197, 5), (113, 95, 2, 6, 200, 201, 202, 5), (136, 103, 1, 6, 293, 294, 295, 5), (163, 120, 1, 6, 297, 298, 299, 5), (172, 119, 2, 6, 302, 303, 304, 5), (175, 117, 1, 6, 306, 307, 308, 5), (178, 118, 2, 6, 310, 311, 312, 5), (166, 114, 2, 6, 314, 315, 316, 5), (153, 111, 2, 6, 318, 319, 320, 5), (149, 109, 1, 6, 322, 323, 324, 5), (139, 105, 3, 6, 327, 328, 329, 5), (156, 112, 1, 6, 331, 332, 333, 5), (160, 110, 1, 6, 335, 336, 337, 5), (120, 97, 2, 6, 360, 361, 362, 5), (129, 100, 3, 6, 397, 398, 399, 5), (126, 99, 1, 6, 401, 402, 403, 5), (133, 101, 1, 6, 405, 406, 407, 5), (146, 104, 2, 6, 447, 448, 449, 5), (207, 132, 2, 6, 501, 502, 503, 5), (210, 134, 2, 6, 505, 506, 507, 5), (184, 122, 2, 6, 567, 568, 569, 5), (181, 121, 2, 6, 571, 572, 573, 5), (198, 128, 1, 6, 631, 632, 633, 5), (190, 126, 1, 6, 635, 636, 637, 5), (195, 127, 1, 6, 639, 640, 641, 5), (201, 129, 2, 6, 644, 645, 646, 5), (216, 136, 2, 6, 692, 693, 694, 5), (213, 133, 3, 6, 696, 697, 698, 5), (219, 137, 2, 6, 700, 701, 702, 5), (228, 141, 2, 6, 724, 725, 726, 5), (225, 140, 2, 6, 728, 729, 730, 5), (222, 139, 2, 6, 732, 733, 734, 5)]
  | 7 => [(13, 53, 3, 5, 126, 127, 128, 2), (17, 91, 3, 6, 134, 135, 136, 5), (18, 54, 4, 5, 139, 140, 141, 2), (22, 96, 4, 6, 179, 180, 181, 5), (23, 55, 3, 5, 204, 205, 206, 2), (27, 115, 3, 6, 289, 290, 291, 5), (28, 56, 2, 5, 339, 340, 341, 2), (32, 98, 2, 6, 355, 356, 357, 5), (33, 57, 2, 5, 364, 365, 366, 2), (36, 102, 2, 6, 392, 393, 394, 5), (37, 58, 2, 5, 409, 410, 411, 2), (40, 106, 2, 6, 419, 420, 421, 5), (41, 59, 1, 5, 423, 424, 425, 2), (45, 107, 1, 6, 427, 428, 429, 5), (46, 60, 2, 5, 431, 432, 433, 2), (49, 113, 2, 6, 443, 444, 445, 5), (50, 61, 1, 5, 451, 452, 453, 2), (53, 108, 1, 6, 456, 457, 458, 5), (54, 62, 3, 5, 460, 461, 462, 2), (57, 116, 3, 6, 471, 472, 473, 5), (58, 63, 2, 5, 475, 476, 477, 2), (61, 135, 2, 6, 497, 498, 499, 5), (62, 64, 0, 5, 509, 510, 511, 2), (66, 145, 0, 6, 513, 514, 515, 5), (67, 65, 2, 5, 517, 518, 519, 2), (70, 124, 2, 6, 525, 526, 527, 5), (71, 66, 2, 5, 529, 530, 531, 2), (74, 125, 2, 6, 542, 543, 544, 5), (75, 67, 2, 5, 546, 547, 548, 2), (78, 123, 2, 6, 563, 564, 565, 5), (79, 68, 1, 5, 575, 576, 577, 2), (82, 130, 1, 6, 625, 626, 627, 5), (83, 69, 1, 5, 648, 649, 650, 2), (86, 131, 1, 6, 654, 655, 656, 5), (87, 70, 3, 5, 658, 659, 660, 2), (90, 138, 3, 6, 688, 689, 690, 5), (91, 71, 2, 5, 704, 705, 706, 2), (94, 142, 2, 6, 720, 721, 722, 5), (95, 72, 3, 5, 736, 737, 738, 2), (98, 143, 3, 6, 740, 741, 742, 5), (99, 73, 1, 5, 744, 745, 746, 2), (102, 144, 1, 6, 752, 753, 754, 5), (103, 74, 1, 5, 756, 757, 758, 2), (106, 146, 1, 6, 769, 770, 771, 5)]
  | _ => []
def zsT : Nat → List (Nat × Nat × Nat × Nat × Nat × Nat)
  | 0 => [(66, 7, 1, 168, 169, 14)]
  | 5 => [(172, 76, 1, 522, 523, 2)]
  | _ => []
def zaT : Nat → List (Nat × Nat)
  | 4 => [(96, 613)]
  | _ => []
def zlT : Nat → List (Nat × Int64 × Nat)
  | 4 => [(102, 10, 617)]
  | 6 => [(193, 10, 643)]
  | _ => []
def zfok (own : Nat) (e : Nat × Nat × Nat × Nat × Nat) : Bool := match vwCl[e.2.1]? with
  | some (C, T, N) => decide (e.2.2.1 < N) && decide (wsL_law[e.2.2.2.2]? = some (.fieldLink (zR own) e.1 C (T e.2.2.1).2.1 (T e.2.2.1).2.2.1)) && decide ((T e.2.2.1).1 = C) && (decide (e.2.2.2.1 = 2) || (decide ((T e.2.2.1).2.2.2 = false) && ((decide (e.2.2.2.1 = 0) && decide ((T e.2.2.1).2.2.1 = "I")) || (decide (e.2.2.2.1 = 1) && decide ((T e.2.2.1).2.2.1 = "Z")))))
  | none => false
def zvok (own : Nat) (e : Nat × Nat × Nat × Nat × Nat × Nat × Nat × Nat) : Bool := match zMs[e.2.1]? with
  | some m => decide (wsL_law[e.2.2.2.2.1]? = some (.methodLink (zR own) e.1 m.2.1)) && decide (wsL_law[e.2.2.2.2.2.1]? = some (.instanceMethod m.2.1)) && decide (wsL_law[e.2.2.2.2.2.2.1]? = some (.selects (zR e.2.2.2.1) m.2.1 m.2.1)) && decide (wsL_law[e.2.2.2.2.2.2.2]? = some (.initialized (zR e.2.2.2.1))) && decide (m.1.1 = e.2.2.2.1) && decide ((parseMethodDescriptor m.2.1.desc).map (fun d => d.parameters.length) = some e.2.2.1) && decide (e.2.2.2.1 < 7)
  | none => false
def zsok (own : Nat) (e : Nat × Nat × Nat × Nat × Nat × Nat) : Bool := match zMs[e.2.1]? with
  | some m => decide (wsL_law[e.2.2.2.1]? = some (.methodLink (zR own) e.1 m.2.1)) && decide (wsL_law[e.2.2.2.2.1]? = some (.static m.2.1)) && decide (wsL_law[e.2.2.2.2.2]? = some (.initialized m.2.1.cls)) && decide ((parseMethodDescriptor m.2.1.desc).map (fun d => d.parameters.length) = some e.2.2.1)
  | none => false
def zaok (own : Nat) (e : Nat × Nat) : Bool := decide (wsL_law[e.2]? = some (.methodLink (zR own) e.1 Lib.MathLoose.abs_long.x))
def zlok (own : Nat) (e : Nat × Int64 × Nat) : Bool := decide (wsL_law[e.2.2]? = some (.constantLong (zR own) e.1 e.2.1))
set_option maxRecDepth 20000 in
theorem zfT_0 : ∀ e ∈ zfT 0, zfok 0 e = true := by decide +kernel
set_option maxRecDepth 20000 in
theorem zfT_1 : ∀ e ∈ zfT 1, zfok 1 e = true := by decide +kernel
set_option maxRecDepth 20000 in
theorem zfT_2 : ∀ e ∈ zfT 2, zfok 2 e = true := by decide +kernel
set_option maxRecDepth 20000 in
theorem zfT_3 : ∀ e ∈ zfT 3, zfok 3 e = true := by decide +kernel
set_option maxRecDepth 20000 in
theorem zfT_4 : ∀ e ∈ zfT 4, zfok 4 e = true := by decide +kernel
set_option maxRecDepth 20000 in
theorem zfT_5 : ∀ e ∈ zfT 5, zfok 5 e = true := by decide +kernel
set_option maxRecDepth 20000 in
theorem zfT_6 : ∀ e ∈ zfT 6, zfok 6 e = true := by decide +kernel
theorem zfT_ok : ∀ (own : Nat) e, e ∈ zfT own → zfok own e = true
  | 0, e, h => zfT_0 e h
  | 1, e, h => zfT_1 e h
  | 2, e, h => zfT_2 e h
  | 3, e, h => zfT_3 e h
  | 4, e, h => zfT_4 e h
  | 5, e, h => zfT_5 e h
  | 6, e, h => zfT_6 e h
  | 7, e, h => absurd h List.not_mem_nil
  | 8, e, h => absurd h List.not_mem_nil
  | _ + 9, e, h => absurd h List.not_mem_nil
set_option maxRecDepth 20000 in
theorem zvT_0 : ∀ e ∈ zvT 0, zvok 0 e = true := by decide +kernel
set_option maxRecDepth 20000 in
theorem zvT_1 : ∀ e ∈ zvT 1, zvok 1 e = true := by decide +kernel
set_option maxRecDepth 20000 in
theorem zvT_3 : ∀ e ∈ zvT 3, zvok 3 e = true := by decide +kernel
set_option maxRecDepth 20000 in
theorem zvT_4 : ∀ e ∈ zvT 4, zvok 4 e = true := by decide +kernel
set_option maxRecDepth 20000 in
theorem zvT_5 : ∀ e ∈ zvT 5, zvok 5 e = true := by decide +kernel
set_option maxRecDepth 20000 in
theorem zvT_6 : ∀ e ∈ zvT 6, zvok 6 e = true := by decide +kernel
set_option maxRecDepth 20000 in
theorem zvT_7 : ∀ e ∈ zvT 7, zvok 7 e = true := by decide +kernel
theorem zvT_ok : ∀ (own : Nat) e, e ∈ zvT own → zvok own e = true
  | 0, e, h => zvT_0 e h
  | 1, e, h => zvT_1 e h
  | 2, e, h => absurd h List.not_mem_nil
  | 3, e, h => zvT_3 e h
  | 4, e, h => zvT_4 e h
  | 5, e, h => zvT_5 e h
  | 6, e, h => zvT_6 e h
  | 7, e, h => zvT_7 e h
  | 8, e, h => absurd h List.not_mem_nil
  | _ + 9, e, h => absurd h List.not_mem_nil
set_option maxRecDepth 20000 in
theorem zsT_0 : ∀ e ∈ zsT 0, zsok 0 e = true := by decide +kernel
set_option maxRecDepth 20000 in
theorem zsT_5 : ∀ e ∈ zsT 5, zsok 5 e = true := by decide +kernel
theorem zsT_ok : ∀ (own : Nat) e, e ∈ zsT own → zsok own e = true
  | 0, e, h => zsT_0 e h
  | 1, e, h => absurd h List.not_mem_nil
  | 2, e, h => absurd h List.not_mem_nil
  | 3, e, h => absurd h List.not_mem_nil
  | 4, e, h => absurd h List.not_mem_nil
  | 5, e, h => zsT_5 e h
  | 6, e, h => absurd h List.not_mem_nil
  | 7, e, h => absurd h List.not_mem_nil
  | 8, e, h => absurd h List.not_mem_nil
  | _ + 9, e, h => absurd h List.not_mem_nil
set_option maxRecDepth 20000 in
theorem zaT_4 : ∀ e ∈ zaT 4, zaok 4 e = true := by decide +kernel
theorem zaT_ok : ∀ (own : Nat) e, e ∈ zaT own → zaok own e = true
  | 0, e, h => absurd h List.not_mem_nil
  | 1, e, h => absurd h List.not_mem_nil
  | 2, e, h => absurd h List.not_mem_nil
  | 3, e, h => absurd h List.not_mem_nil
  | 4, e, h => zaT_4 e h
  | 5, e, h => absurd h List.not_mem_nil
  | 6, e, h => absurd h List.not_mem_nil
  | 7, e, h => absurd h List.not_mem_nil
  | 8, e, h => absurd h List.not_mem_nil
  | _ + 9, e, h => absurd h List.not_mem_nil
set_option maxRecDepth 20000 in
theorem zlT_4 : ∀ e ∈ zlT 4, zlok 4 e = true := by decide +kernel
set_option maxRecDepth 20000 in
theorem zlT_6 : ∀ e ∈ zlT 6, zlok 6 e = true := by decide +kernel
theorem zlT_ok : ∀ (own : Nat) e, e ∈ zlT own → zlok own e = true
  | 0, e, h => absurd h List.not_mem_nil
  | 1, e, h => absurd h List.not_mem_nil
  | 2, e, h => absurd h List.not_mem_nil
  | 3, e, h => absurd h List.not_mem_nil
  | 4, e, h => zlT_4 e h
  | 5, e, h => absurd h List.not_mem_nil
  | 6, e, h => zlT_6 e h
  | 7, e, h => absurd h List.not_mem_nil
  | 8, e, h => absurd h List.not_mem_nil
  | _ + 9, e, h => absurd h List.not_mem_nil
set_option maxRecDepth 20000 in
theorem zabs_s : Cond.static Lib.MathLoose.abs_long.x ∈ wsL_law := List.mem_of_getElem? (i := 614) rfl
set_option maxRecDepth 20000 in
theorem zabs_i : Cond.initialized "java/lang/Math" ∈ wsL_law := List.mem_of_getElem? (i := 615) rfl
set_option maxRecDepth 20000 in
theorem zabs_c : Cond.code Lib.MathLoose.abs_long.x Lib.MathLoose.abs_long.code 2 (some .long) ∈ wsL_law := List.mem_of_getElem? (i := 616) rfl
