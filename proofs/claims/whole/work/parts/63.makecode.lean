/-! THE CONSTRUCTORS' CODE, by program (gen4.py). -/
def zk_X0_init_0 : List (Nat × zI × Nat) := [(0, .aload_n 0, 1), (4, .aload_n 0, 1), (5, .iconst 0, 1), (6, .putfield 9, 3), (9, .aload_n 0, 1), (10, .bipush 12, 2), (17, .aload_n 0, 1), (18, .bipush 12, 2), (25, .aload_n 0, 1), (26, .bipush 12, 2), (33, .aload_n 0, 1), (34, .bipush 12, 2), (41, .aload_n 0, 1), (42, .bipush 12, 2)]
set_option maxRecDepth 20000 in
theorem zkd_X0_init_0 : ∀ e ∈ zk_X0_init_0, decode cX0_init e.1 = .ok e.2 ∧ zlo e = true := by decide +kernel
def zk_X0_init_1 : List (Nat × zI × Nat) := [(49, .aload_n 0, 1), (50, .bipush 12, 2), (57, .aload_n 0, 1), (58, .bipush 12, 2), (65, .aload_n 0, 1), (66, .bipush 12, 2), (73, .aload_n 0, 1), (74, .bipush 12, 2), (81, .aload_n 0, 1), (82, .bipush 60, 2), (89, .aload_n 0, 1), (90, .bipush 60, 2), (97, .aload_n 0, 1), (98, .bipush 60, 2)]
set_option maxRecDepth 20000 in
theorem zkd_X0_init_1 : ∀ e ∈ zk_X0_init_1, decode cX0_init e.1 = .ok e.2 ∧ zlo e = true := by decide +kernel
def zk_X0_init_2 : List (Nat × zI × Nat) := [(105, .aload_n 0, 1), (106, .bipush 60, 2), (113, .aload_n 0, 1), (114, .getfield 32, 3), (117, .iconst (-1), 1), (121, .aload_n 0, 1), (122, .getfield 35, 3), (125, .iconst (-1), 1), (129, .aload_n 0, 1), (130, .getfield 53, 3), (133, .iconst (-1), 1)]
set_option maxRecDepth 20000 in
theorem zkd_X0_init_2 : ∀ e ∈ zk_X0_init_2, decode cX0_init e.1 = .ok e.2 ∧ zlo e = true := by decide +kernel
def zk_X0_init : zCd := [(43, zk_X0_init_0), (99, zk_X0_init_1), (134, zk_X0_init_2)]
theorem zkd_X0_init : ∀ q ∈ zk_X0_init, ∀ e ∈ q.2, decode cX0_init e.1 = .ok e.2 ∧ zlo e = true := List.forall_mem_cons.mpr ⟨zkd_X0_init_0, List.forall_mem_cons.mpr ⟨zkd_X0_init_1, List.forall_mem_cons.mpr ⟨zkd_X0_init_2, fun _ h => absurd h List.not_mem_nil⟩⟩⟩
theorem zd_X0_1 : decode cX0_init 1 = .ok (.invokespecial 3, 3) := by decide +kernel
theorem zd_X0_12 : decode cX0_init 12 = .ok (.newarray .int, 2) := by decide +kernel
theorem zd_X0_14 : decode cX0_init 14 = .ok (.putfield 15, 3) := by decide +kernel
theorem zd_X0_20 : decode cX0_init 20 = .ok (.newarray .int, 2) := by decide +kernel
theorem zd_X0_22 : decode cX0_init 22 = .ok (.putfield 19, 3) := by decide +kernel
theorem zd_X0_28 : decode cX0_init 28 = .ok (.newarray .boolean, 2) := by decide +kernel
theorem zd_X0_30 : decode cX0_init 30 = .ok (.putfield 22, 3) := by decide +kernel
theorem zd_X0_36 : decode cX0_init 36 = .ok (.newarray .int, 2) := by decide +kernel
theorem zd_X0_38 : decode cX0_init 38 = .ok (.putfield 26, 3) := by decide +kernel
theorem zd_X0_44 : decode cX0_init 44 = .ok (.newarray .int, 2) := by decide +kernel
theorem zd_X0_46 : decode cX0_init 46 = .ok (.putfield 29, 3) := by decide +kernel
theorem zd_X0_52 : decode cX0_init 52 = .ok (.newarray .int, 2) := by decide +kernel
theorem zd_X0_54 : decode cX0_init 54 = .ok (.putfield 32, 3) := by decide +kernel
theorem zd_X0_60 : decode cX0_init 60 = .ok (.newarray .int, 2) := by decide +kernel
theorem zd_X0_62 : decode cX0_init 62 = .ok (.putfield 35, 3) := by decide +kernel
theorem zd_X0_68 : decode cX0_init 68 = .ok (.newarray .boolean, 2) := by decide +kernel
theorem zd_X0_70 : decode cX0_init 70 = .ok (.putfield 38, 3) := by decide +kernel
theorem zd_X0_76 : decode cX0_init 76 = .ok (.newarray .boolean, 2) := by decide +kernel
theorem zd_X0_78 : decode cX0_init 78 = .ok (.putfield 41, 3) := by decide +kernel
theorem zd_X0_84 : decode cX0_init 84 = .ok (.newarray .int, 2) := by decide +kernel
theorem zd_X0_86 : decode cX0_init 86 = .ok (.putfield 44, 3) := by decide +kernel
theorem zd_X0_92 : decode cX0_init 92 = .ok (.newarray .int, 2) := by decide +kernel
theorem zd_X0_94 : decode cX0_init 94 = .ok (.putfield 47, 3) := by decide +kernel
theorem zd_X0_100 : decode cX0_init 100 = .ok (.newarray .boolean, 2) := by decide +kernel
theorem zd_X0_102 : decode cX0_init 102 = .ok (.putfield 50, 3) := by decide +kernel
theorem zd_X0_108 : decode cX0_init 108 = .ok (.newarray .int, 2) := by decide +kernel
theorem zd_X0_110 : decode cX0_init 110 = .ok (.putfield 53, 3) := by decide +kernel
theorem zd_X0_118 : decode cX0_init 118 = .ok (.invokestatic 56, 3) := by decide +kernel
theorem zd_X0_126 : decode cX0_init 126 = .ok (.invokestatic 56, 3) := by decide +kernel
theorem zd_X0_134 : decode cX0_init 134 = .ok (.invokestatic 56, 3) := by decide +kernel
theorem zd_X0_137 : decode cX0_init 137 = .ok (.return_, 1) := by decide +kernel
def zk_X1_init_0 : List (Nat × zI × Nat) := [(0, .aload_n 0, 1), (4, .aload_n 0, 1), (5, .iconst 0, 1), (6, .putfield 9, 3), (9, .aload_n 0, 1), (10, .bipush 40, 2), (17, .aload_n 0, 1), (18, .bipush 40, 2)]
set_option maxRecDepth 20000 in
theorem zkd_X1_init_0 : ∀ e ∈ zk_X1_init_0, decode cX1_init e.1 = .ok e.2 ∧ zlo e = true := by decide +kernel
def zk_X1_init : zCd := [(19, zk_X1_init_0)]
theorem zkd_X1_init : ∀ q ∈ zk_X1_init, ∀ e ∈ q.2, decode cX1_init e.1 = .ok e.2 ∧ zlo e = true := List.forall_mem_cons.mpr ⟨zkd_X1_init_0, fun _ h => absurd h List.not_mem_nil⟩
theorem zd_X1_1 : decode cX1_init 1 = .ok (.invokespecial 3, 3) := by decide +kernel
theorem zd_X1_12 : decode cX1_init 12 = .ok (.newarray .int, 2) := by decide +kernel
theorem zd_X1_14 : decode cX1_init 14 = .ok (.putfield 15, 3) := by decide +kernel
theorem zd_X1_20 : decode cX1_init 20 = .ok (.newarray .int, 2) := by decide +kernel
theorem zd_X1_22 : decode cX1_init 22 = .ok (.putfield 19, 3) := by decide +kernel
theorem zd_X1_25 : decode cX1_init 25 = .ok (.return_, 1) := by decide +kernel
def zk_X2_init_0 : List (Nat × zI × Nat) := [(0, .aload_n 0, 1), (4, .aload_n 0, 1), (5, .iconst 0, 1), (6, .putfield 9, 3), (9, .aload_n 0, 1), (10, .bipush 100, 2), (17, .aload_n 0, 1), (18, .bipush 100, 2), (25, .aload_n 0, 1), (26, .bipush 100, 2)]
set_option maxRecDepth 20000 in
theorem zkd_X2_init_0 : ∀ e ∈ zk_X2_init_0, decode cX2_init e.1 = .ok e.2 ∧ zlo e = true := by decide +kernel
def zk_X2_init : zCd := [(27, zk_X2_init_0)]
theorem zkd_X2_init : ∀ q ∈ zk_X2_init, ∀ e ∈ q.2, decode cX2_init e.1 = .ok e.2 ∧ zlo e = true := List.forall_mem_cons.mpr ⟨zkd_X2_init_0, fun _ h => absurd h List.not_mem_nil⟩
theorem zd_X2_1 : decode cX2_init 1 = .ok (.invokespecial 3, 3) := by decide +kernel
theorem zd_X2_12 : decode cX2_init 12 = .ok (.newarray .int, 2) := by decide +kernel
theorem zd_X2_14 : decode cX2_init 14 = .ok (.putfield 15, 3) := by decide +kernel
theorem zd_X2_20 : decode cX2_init 20 = .ok (.newarray .int, 2) := by decide +kernel
theorem zd_X2_22 : decode cX2_init 22 = .ok (.putfield 19, 3) := by decide +kernel
theorem zd_X2_28 : decode cX2_init 28 = .ok (.newarray .int, 2) := by decide +kernel
theorem zd_X2_30 : decode cX2_init 30 = .ok (.putfield 22, 3) := by decide +kernel
theorem zd_X2_33 : decode cX2_init 33 = .ok (.return_, 1) := by decide +kernel
def zk_X3_init_0 : List (Nat × zI × Nat) := [(0, .aload_n 0, 1), (4, .aload_n 0, 1), (5, .iconst 0, 1), (6, .putfield 9, 3), (9, .aload_n 0, 1), (10, .bipush 100, 2), (17, .aload_n 0, 1), (18, .bipush 100, 2), (25, .aload_n 0, 1), (26, .bipush 100, 2), (33, .aload_n 0, 1), (34, .bipush 100, 2), (41, .aload_n 0, 1), (42, .sipush 500, 3)]
set_option maxRecDepth 20000 in
theorem zkd_X3_init_0 : ∀ e ∈ zk_X3_init_0, decode cX3_init e.1 = .ok e.2 ∧ zlo e = true := by decide +kernel
def zk_X3_init_1 : List (Nat × zI × Nat) := [(50, .aload_n 0, 1), (51, .aload_n 1, 1), (55, .aload_n 0, 1), (56, .getfield 29, 3), (59, .iconst (-1), 1)]
set_option maxRecDepth 20000 in
theorem zkd_X3_init_1 : ∀ e ∈ zk_X3_init_1, decode cX3_init e.1 = .ok e.2 ∧ zlo e = true := by decide +kernel
def zk_X3_init : zCd := [(43, zk_X3_init_0), (60, zk_X3_init_1)]
theorem zkd_X3_init : ∀ q ∈ zk_X3_init, ∀ e ∈ q.2, decode cX3_init e.1 = .ok e.2 ∧ zlo e = true := List.forall_mem_cons.mpr ⟨zkd_X3_init_0, List.forall_mem_cons.mpr ⟨zkd_X3_init_1, fun _ h => absurd h List.not_mem_nil⟩⟩
theorem zd_X3_1 : decode cX3_init 1 = .ok (.invokespecial 3, 3) := by decide +kernel
theorem zd_X3_12 : decode cX3_init 12 = .ok (.newarray .int, 2) := by decide +kernel
theorem zd_X3_14 : decode cX3_init 14 = .ok (.putfield 15, 3) := by decide +kernel
theorem zd_X3_20 : decode cX3_init 20 = .ok (.newarray .int, 2) := by decide +kernel
theorem zd_X3_22 : decode cX3_init 22 = .ok (.putfield 19, 3) := by decide +kernel
theorem zd_X3_28 : decode cX3_init 28 = .ok (.newarray .int, 2) := by decide +kernel
theorem zd_X3_30 : decode cX3_init 30 = .ok (.putfield 22, 3) := by decide +kernel
theorem zd_X3_36 : decode cX3_init 36 = .ok (.newarray .boolean, 2) := by decide +kernel
theorem zd_X3_38 : decode cX3_init 38 = .ok (.putfield 25, 3) := by decide +kernel
theorem zd_X3_45 : decode cX3_init 45 = .ok (.newarray .int, 2) := by decide +kernel
theorem zd_X3_47 : decode cX3_init 47 = .ok (.putfield 29, 3) := by decide +kernel
theorem zd_X3_52 : decode cX3_init 52 = .ok (.putfield 32, 3) := by decide +kernel
theorem zd_X3_60 : decode cX3_init 60 = .ok (.invokestatic 36, 3) := by decide +kernel
theorem zd_X3_63 : decode cX3_init 63 = .ok (.return_, 1) := by decide +kernel
def zk_X4_init_0 : List (Nat × zI × Nat) := [(0, .aload_n 0, 1), (4, .aload_n 0, 1), (5, .sipush 2000, 3), (13, .aload_n 0, 1), (14, .iconst 0, 1), (15, .putfield 15, 3), (18, .aload_n 0, 1), (19, .bipush 10, 2), (26, .aload_n 0, 1), (27, .iconst 0, 1), (28, .putfield 23, 3), (31, .aload_n 0, 1), (32, .iconst 0, 1), (33, .putfield 26, 3)]
set_option maxRecDepth 20000 in
theorem zkd_X4_init_0 : ∀ e ∈ zk_X4_init_0, decode cX4_init e.1 = .ok e.2 ∧ zlo e = true := by decide +kernel
def zk_X4_init_1 : List (Nat × zI × Nat) := [(36, .aload_n 0, 1), (37, .aload_n 1, 1), (41, .aload_n 0, 1), (42, .aload_n 2, 1)]
set_option maxRecDepth 20000 in
theorem zkd_X4_init_1 : ∀ e ∈ zk_X4_init_1, decode cX4_init e.1 = .ok e.2 ∧ zlo e = true := by decide +kernel
def zk_X4_init : zCd := [(34, zk_X4_init_0), (43, zk_X4_init_1)]
theorem zkd_X4_init : ∀ q ∈ zk_X4_init, ∀ e ∈ q.2, decode cX4_init e.1 = .ok e.2 ∧ zlo e = true := List.forall_mem_cons.mpr ⟨zkd_X4_init_0, List.forall_mem_cons.mpr ⟨zkd_X4_init_1, fun _ h => absurd h List.not_mem_nil⟩⟩
theorem zd_X4_1 : decode cX4_init 1 = .ok (.invokespecial 3, 3) := by decide +kernel
theorem zd_X4_8 : decode cX4_init 8 = .ok (.newarray .byte, 2) := by decide +kernel
theorem zd_X4_10 : decode cX4_init 10 = .ok (.putfield 9, 3) := by decide +kernel
theorem zd_X4_21 : decode cX4_init 21 = .ok (.newarray .int, 2) := by decide +kernel
theorem zd_X4_23 : decode cX4_init 23 = .ok (.putfield 19, 3) := by decide +kernel
theorem zd_X4_38 : decode cX4_init 38 = .ok (.putfield 30, 3) := by decide +kernel
theorem zd_X4_43 : decode cX4_init 43 = .ok (.putfield 34, 3) := by decide +kernel
theorem zd_X4_46 : decode cX4_init 46 = .ok (.return_, 1) := by decide +kernel
def zk_X5_init_0 : List (Nat × zI × Nat) := [(0, .aload_n 0, 1), (7, .dup, 1), (15, .dup, 1), (16, .aload_n 1, 1), (21, .aload_n 0, 1), (22, .aload_n 1, 1), (26, .aload_n 0, 1), (27, .aload_n 2, 1), (31, .aload_n 0, 1), (35, .dup, 1), (42, .aload_n 0, 1), (46, .dup, 1), (53, .aload_n 0, 1), (57, .dup, 1)]
set_option maxRecDepth 20000 in
theorem zkd_X5_init_0 : ∀ e ∈ zk_X5_init_0, decode cX5_init e.1 = .ok e.2 ∧ zlo e = true := by decide +kernel
def zk_X5_init_1 : List (Nat × zI × Nat) := [(58, .aload_n 1, 1), (59, .aload_n 2, 1), (66, .aload_n 0, 1), (67, .iconst 4, 1), (73, .aload_n 0, 1), (74, .iconst 0, 1), (75, .putfield 52, 3)]
set_option maxRecDepth 20000 in
theorem zkd_X5_init_1 : ∀ e ∈ zk_X5_init_1, decode cX5_init e.1 = .ok e.2 ∧ zlo e = true := by decide +kernel
def zk_X5_init : zCd := [(58, zk_X5_init_0), (76, zk_X5_init_1)]
theorem zkd_X5_init : ∀ q ∈ zk_X5_init, ∀ e ∈ q.2, decode cX5_init e.1 = .ok e.2 ∧ zlo e = true := List.forall_mem_cons.mpr ⟨zkd_X5_init_0, List.forall_mem_cons.mpr ⟨zkd_X5_init_1, fun _ h => absurd h List.not_mem_nil⟩⟩
theorem zd_X5_1 : decode cX5_init 1 = .ok (.invokespecial 1, 3) := by decide +kernel
theorem zd_X5_4 : decode cX5_init 4 = .ok (.new 7, 3) := by decide +kernel
theorem zd_X5_8 : decode cX5_init 8 = .ok (.invokespecial 9, 3) := by decide +kernel
theorem zd_X5_11 : decode cX5_init 11 = .ok (.astore_n 1, 1) := by decide +kernel
theorem zd_X5_12 : decode cX5_init 12 = .ok (.new 10, 3) := by decide +kernel
theorem zd_X5_17 : decode cX5_init 17 = .ok (.invokespecial 12, 3) := by decide +kernel
theorem zd_X5_20 : decode cX5_init 20 = .ok (.astore_n 2, 1) := by decide +kernel
theorem zd_X5_23 : decode cX5_init 23 = .ok (.putfield 15, 3) := by decide +kernel
theorem zd_X5_28 : decode cX5_init 28 = .ok (.putfield 21, 3) := by decide +kernel
theorem zd_X5_32 : decode cX5_init 32 = .ok (.new 25, 3) := by decide +kernel
theorem zd_X5_36 : decode cX5_init 36 = .ok (.invokespecial 27, 3) := by decide +kernel
theorem zd_X5_39 : decode cX5_init 39 = .ok (.putfield 28, 3) := by decide +kernel
theorem zd_X5_43 : decode cX5_init 43 = .ok (.new 32, 3) := by decide +kernel
theorem zd_X5_47 : decode cX5_init 47 = .ok (.invokespecial 34, 3) := by decide +kernel
theorem zd_X5_50 : decode cX5_init 50 = .ok (.putfield 35, 3) := by decide +kernel
theorem zd_X5_54 : decode cX5_init 54 = .ok (.new 39, 3) := by decide +kernel
theorem zd_X5_60 : decode cX5_init 60 = .ok (.invokespecial 41, 3) := by decide +kernel
theorem zd_X5_63 : decode cX5_init 63 = .ok (.putfield 44, 3) := by decide +kernel
theorem zd_X5_68 : decode cX5_init 68 = .ok (.newarray .int, 2) := by decide +kernel
theorem zd_X5_70 : decode cX5_init 70 = .ok (.putfield 48, 3) := by decide +kernel
theorem zd_X5_78 : decode cX5_init 78 = .ok (.return_, 1) := by decide +kernel
def zk_X6_init_0 : List (Nat × zI × Nat) := [(0, .aload_n 0, 1), (4, .aload_n 0, 1), (5, .bipush 12, 2), (12, .aload_n 0, 1), (13, .bipush 12, 2), (20, .aload_n 0, 1), (21, .bipush 12, 2), (28, .aload_n 0, 1), (29, .bipush 12, 2), (33, .dup, 1), (34, .iconst 0, 1), (35, .iconst (-1), 1), (36, .iastore, 1), (37, .dup, 1)]
set_option maxRecDepth 20000 in
theorem zkd_X6_init_0 : ∀ e ∈ zk_X6_init_0, decode cX6_init e.1 = .ok e.2 ∧ zlo e = true := by decide +kernel
def zk_X6_init_1 : List (Nat × zI × Nat) := [(38, .iconst 1, 1), (39, .iconst (-1), 1), (40, .iastore, 1), (41, .dup, 1), (42, .iconst 2, 1), (43, .iconst (-1), 1), (44, .iastore, 1), (45, .dup, 1), (46, .iconst 3, 1), (47, .iconst (-1), 1), (48, .iastore, 1), (49, .dup, 1), (50, .iconst 4, 1), (51, .iconst (-1), 1)]
set_option maxRecDepth 20000 in
theorem zkd_X6_init_1 : ∀ e ∈ zk_X6_init_1, decode cX6_init e.1 = .ok e.2 ∧ zlo e = true := by decide +kernel
def zk_X6_init_2 : List (Nat × zI × Nat) := [(52, .iastore, 1), (53, .dup, 1), (54, .iconst 5, 1), (55, .iconst (-1), 1), (56, .iastore, 1), (57, .dup, 1), (58, .bipush 6, 2), (60, .iconst (-1), 1), (61, .iastore, 1), (62, .dup, 1), (63, .bipush 7, 2), (65, .iconst (-1), 1), (66, .iastore, 1), (67, .dup, 1)]
set_option maxRecDepth 20000 in
theorem zkd_X6_init_2 : ∀ e ∈ zk_X6_init_2, decode cX6_init e.1 = .ok e.2 ∧ zlo e = true := by decide +kernel
def zk_X6_init_3 : List (Nat × zI × Nat) := [(68, .bipush 8, 2), (70, .iconst (-1), 1), (71, .iastore, 1), (72, .dup, 1), (73, .bipush 9, 2), (75, .iconst (-1), 1), (76, .iastore, 1), (77, .dup, 1), (78, .bipush 10, 2), (80, .iconst (-1), 1), (81, .iastore, 1), (82, .dup, 1), (83, .bipush 11, 2), (85, .iconst (-1), 1)]
set_option maxRecDepth 20000 in
theorem zkd_X6_init_3 : ∀ e ∈ zk_X6_init_3, decode cX6_init e.1 = .ok e.2 ∧ zlo e = true := by decide +kernel
def zk_X6_init_4 : List (Nat × zI × Nat) := [(86, .iastore, 1), (90, .aload_n 0, 1), (91, .bipush 12, 2), (95, .dup, 1), (96, .iconst 0, 1), (97, .iconst (-1), 1), (98, .iastore, 1), (99, .dup, 1), (100, .iconst 1, 1), (101, .iconst (-1), 1), (102, .iastore, 1), (103, .dup, 1), (104, .iconst 2, 1), (105, .iconst (-1), 1)]
set_option maxRecDepth 20000 in
theorem zkd_X6_init_4 : ∀ e ∈ zk_X6_init_4, decode cX6_init e.1 = .ok e.2 ∧ zlo e = true := by decide +kernel
def zk_X6_init_5 : List (Nat × zI × Nat) := [(106, .iastore, 1), (107, .dup, 1), (108, .iconst 3, 1), (109, .iconst (-1), 1), (110, .iastore, 1), (111, .dup, 1), (112, .iconst 4, 1), (113, .iconst (-1), 1), (114, .iastore, 1), (115, .dup, 1), (116, .iconst 5, 1), (117, .iconst (-1), 1), (118, .iastore, 1), (119, .dup, 1)]
set_option maxRecDepth 20000 in
theorem zkd_X6_init_5 : ∀ e ∈ zk_X6_init_5, decode cX6_init e.1 = .ok e.2 ∧ zlo e = true := by decide +kernel
def zk_X6_init_6 : List (Nat × zI × Nat) := [(120, .bipush 6, 2), (122, .iconst (-1), 1), (123, .iastore, 1), (124, .dup, 1), (125, .bipush 7, 2), (127, .iconst (-1), 1), (128, .iastore, 1), (129, .dup, 1), (130, .bipush 8, 2), (132, .iconst (-1), 1), (133, .iastore, 1), (134, .dup, 1), (135, .bipush 9, 2), (137, .iconst (-1), 1)]
set_option maxRecDepth 20000 in
theorem zkd_X6_init_6 : ∀ e ∈ zk_X6_init_6, decode cX6_init e.1 = .ok e.2 ∧ zlo e = true := by decide +kernel
def zk_X6_init_7 : List (Nat × zI × Nat) := [(138, .iastore, 1), (139, .dup, 1), (140, .bipush 10, 2), (142, .iconst (-1), 1), (143, .iastore, 1), (144, .dup, 1), (145, .bipush 11, 2), (147, .iconst (-1), 1), (148, .iastore, 1), (152, .aload_n 0, 1), (153, .bipush 12, 2), (160, .aload_n 0, 1), (161, .bipush 60, 2), (168, .aload_n 0, 1)]
set_option maxRecDepth 20000 in
theorem zkd_X6_init_7 : ∀ e ∈ zk_X6_init_7, decode cX6_init e.1 = .ok e.2 ∧ zlo e = true := by decide +kernel
def zk_X6_init_8 : List (Nat × zI × Nat) := [(169, .bipush 60, 2), (176, .aload_n 0, 1), (177, .bipush 60, 2), (184, .aload_n 0, 1), (185, .bipush 60, 2), (192, .aload_n 0, 1), (193, .bipush 12, 2), (200, .aload_n 0, 1), (201, .bipush 40, 2), (208, .aload_n 0, 1), (209, .bipush 40, 2), (216, .aload_n 0, 1), (217, .bipush 100, 2), (224, .aload_n 0, 1)]
set_option maxRecDepth 20000 in
theorem zkd_X6_init_8 : ∀ e ∈ zk_X6_init_8, decode cX6_init e.1 = .ok e.2 ∧ zlo e = true := by decide +kernel
def zk_X6_init_9 : List (Nat × zI × Nat) := [(225, .bipush 100, 2), (232, .aload_n 0, 1), (233, .bipush 100, 2), (240, .aload_n 0, 1), (241, .bipush 100, 2), (248, .aload_n 0, 1), (249, .sipush 500, 3), (257, .aload_n 0, 1), (258, .iconst 4, 1), (264, .aload_n 0, 1), (265, .bipush 64, 2), (272, .aload_n 0, 1), (273, .bipush 64, 2), (280, .aload_n 0, 1)]
set_option maxRecDepth 20000 in
theorem zkd_X6_init_9 : ∀ e ∈ zk_X6_init_9, decode cX6_init e.1 = .ok e.2 ∧ zlo e = true := by decide +kernel
def zk_X6_init_10 : List (Nat × zI × Nat) := [(281, .bipush 64, 2), (288, .aload_n 0, 1), (289, .sipush 2000, 3), (297, .aload_n 0, 1), (298, .sipush 2000, 3), (306, .aload_n 0, 1), (307, .bipush 10, 2), (314, .aload_n 0, 1), (315, .bipush 100, 2), (322, .aload_n 0, 1), (323, .bipush 100, 2)]
set_option maxRecDepth 20000 in
theorem zkd_X6_init_10 : ∀ e ∈ zk_X6_init_10, decode cX6_init e.1 = .ok e.2 ∧ zlo e = true := by decide +kernel
def zk_X6_init : zCd := [(38, zk_X6_init_0), (52, zk_X6_init_1), (68, zk_X6_init_2), (86, zk_X6_init_3), (106, zk_X6_init_4), (120, zk_X6_init_5), (138, zk_X6_init_6), (169, zk_X6_init_7), (225, zk_X6_init_8), (281, zk_X6_init_9), (324, zk_X6_init_10)]
theorem zkd_X6_init : ∀ q ∈ zk_X6_init, ∀ e ∈ q.2, decode cX6_init e.1 = .ok e.2 ∧ zlo e = true := List.forall_mem_cons.mpr ⟨zkd_X6_init_0, List.forall_mem_cons.mpr ⟨zkd_X6_init_1, List.forall_mem_cons.mpr ⟨zkd_X6_init_2, List.forall_mem_cons.mpr ⟨zkd_X6_init_3, List.forall_mem_cons.mpr ⟨zkd_X6_init_4, List.forall_mem_cons.mpr ⟨zkd_X6_init_5, List.forall_mem_cons.mpr ⟨zkd_X6_init_6, List.forall_mem_cons.mpr ⟨zkd_X6_init_7, List.forall_mem_cons.mpr ⟨zkd_X6_init_8, List.forall_mem_cons.mpr ⟨zkd_X6_init_9, List.forall_mem_cons.mpr ⟨zkd_X6_init_10, fun _ h => absurd h List.not_mem_nil⟩⟩⟩⟩⟩⟩⟩⟩⟩⟩⟩
theorem zd_X6_1 : decode cX6_init 1 = .ok (.invokespecial 1, 3) := by decide +kernel
theorem zd_X6_7 : decode cX6_init 7 = .ok (.newarray .int, 2) := by decide +kernel
theorem zd_X6_9 : decode cX6_init 9 = .ok (.putfield 7, 3) := by decide +kernel
theorem zd_X6_15 : decode cX6_init 15 = .ok (.newarray .int, 2) := by decide +kernel
theorem zd_X6_17 : decode cX6_init 17 = .ok (.putfield 13, 3) := by decide +kernel
theorem zd_X6_23 : decode cX6_init 23 = .ok (.newarray .boolean, 2) := by decide +kernel
theorem zd_X6_25 : decode cX6_init 25 = .ok (.putfield 16, 3) := by decide +kernel
theorem zd_X6_31 : decode cX6_init 31 = .ok (.newarray .int, 2) := by decide +kernel
theorem zd_X6_87 : decode cX6_init 87 = .ok (.putfield 20, 3) := by decide +kernel
theorem zd_X6_93 : decode cX6_init 93 = .ok (.newarray .int, 2) := by decide +kernel
theorem zd_X6_149 : decode cX6_init 149 = .ok (.putfield 23, 3) := by decide +kernel
theorem zd_X6_155 : decode cX6_init 155 = .ok (.newarray .int, 2) := by decide +kernel
theorem zd_X6_157 : decode cX6_init 157 = .ok (.putfield 26, 3) := by decide +kernel
theorem zd_X6_163 : decode cX6_init 163 = .ok (.newarray .int, 2) := by decide +kernel
theorem zd_X6_165 : decode cX6_init 165 = .ok (.putfield 29, 3) := by decide +kernel
theorem zd_X6_171 : decode cX6_init 171 = .ok (.newarray .int, 2) := by decide +kernel
theorem zd_X6_173 : decode cX6_init 173 = .ok (.putfield 32, 3) := by decide +kernel
theorem zd_X6_179 : decode cX6_init 179 = .ok (.newarray .boolean, 2) := by decide +kernel
theorem zd_X6_181 : decode cX6_init 181 = .ok (.putfield 35, 3) := by decide +kernel
theorem zd_X6_187 : decode cX6_init 187 = .ok (.newarray .int, 2) := by decide +kernel
theorem zd_X6_189 : decode cX6_init 189 = .ok (.putfield 38, 3) := by decide +kernel
theorem zd_X6_195 : decode cX6_init 195 = .ok (.newarray .int, 2) := by decide +kernel
theorem zd_X6_197 : decode cX6_init 197 = .ok (.putfield 41, 3) := by decide +kernel
theorem zd_X6_203 : decode cX6_init 203 = .ok (.newarray .int, 2) := by decide +kernel
theorem zd_X6_205 : decode cX6_init 205 = .ok (.putfield 44, 3) := by decide +kernel
theorem zd_X6_211 : decode cX6_init 211 = .ok (.newarray .int, 2) := by decide +kernel
theorem zd_X6_213 : decode cX6_init 213 = .ok (.putfield 47, 3) := by decide +kernel
theorem zd_X6_219 : decode cX6_init 219 = .ok (.newarray .int, 2) := by decide +kernel
theorem zd_X6_221 : decode cX6_init 221 = .ok (.putfield 50, 3) := by decide +kernel
theorem zd_X6_227 : decode cX6_init 227 = .ok (.newarray .int, 2) := by decide +kernel
theorem zd_X6_229 : decode cX6_init 229 = .ok (.putfield 53, 3) := by decide +kernel
theorem zd_X6_235 : decode cX6_init 235 = .ok (.newarray .int, 2) := by decide +kernel
theorem zd_X6_237 : decode cX6_init 237 = .ok (.putfield 56, 3) := by decide +kernel
theorem zd_X6_243 : decode cX6_init 243 = .ok (.newarray .boolean, 2) := by decide +kernel
theorem zd_X6_245 : decode cX6_init 245 = .ok (.putfield 59, 3) := by decide +kernel
theorem zd_X6_252 : decode cX6_init 252 = .ok (.newarray .int, 2) := by decide +kernel
theorem zd_X6_254 : decode cX6_init 254 = .ok (.putfield 62, 3) := by decide +kernel
theorem zd_X6_259 : decode cX6_init 259 = .ok (.newarray .int, 2) := by decide +kernel
theorem zd_X6_261 : decode cX6_init 261 = .ok (.putfield 65, 3) := by decide +kernel
theorem zd_X6_267 : decode cX6_init 267 = .ok (.newarray .int, 2) := by decide +kernel
theorem zd_X6_269 : decode cX6_init 269 = .ok (.putfield 68, 3) := by decide +kernel
theorem zd_X6_275 : decode cX6_init 275 = .ok (.newarray .int, 2) := by decide +kernel
theorem zd_X6_277 : decode cX6_init 277 = .ok (.putfield 71, 3) := by decide +kernel
theorem zd_X6_283 : decode cX6_init 283 = .ok (.newarray .int, 2) := by decide +kernel
theorem zd_X6_285 : decode cX6_init 285 = .ok (.putfield 74, 3) := by decide +kernel
theorem zd_X6_292 : decode cX6_init 292 = .ok (.newarray .int, 2) := by decide +kernel
theorem zd_X6_294 : decode cX6_init 294 = .ok (.putfield 77, 3) := by decide +kernel
theorem zd_X6_301 : decode cX6_init 301 = .ok (.newarray .int, 2) := by decide +kernel
theorem zd_X6_303 : decode cX6_init 303 = .ok (.putfield 80, 3) := by decide +kernel
theorem zd_X6_309 : decode cX6_init 309 = .ok (.newarray .int, 2) := by decide +kernel
theorem zd_X6_311 : decode cX6_init 311 = .ok (.putfield 83, 3) := by decide +kernel
theorem zd_X6_317 : decode cX6_init 317 = .ok (.newarray .int, 2) := by decide +kernel
theorem zd_X6_319 : decode cX6_init 319 = .ok (.putfield 86, 3) := by decide +kernel
theorem zd_X6_325 : decode cX6_init 325 = .ok (.newarray .int, 2) := by decide +kernel
theorem zd_X6_327 : decode cX6_init 327 = .ok (.putfield 89, 3) := by decide +kernel
theorem zd_X6_330 : decode cX6_init 330 = .ok (.return_, 1) := by decide +kernel
theorem zra_int (U : State) (c1 c2 : ClassId) (h1 : va_RA U c1 .int) (h2 : va_RA U c2 .int) : c1 = c2 := Option.some.inj ((va_nm_int h1).symm.trans (va_nm_int h2))
theorem zra_boolean (U : State) (c1 c2 : ClassId) (h1 : va_RA U c1 .boolean) (h2 : va_RA U c2 .boolean) : c1 = c2 := Option.some.inj ((va_nm_boolean h1).symm.trans (va_nm_boolean h2))
theorem zra_byte (U : State) (c1 c2 : ClassId) (h1 : va_RA U c1 .byte) (h2 : va_RA U c2 .byte) : c1 = c2 := Option.some.inj ((va_nm_byte h1).symm.trans (va_nm_byte h2))
