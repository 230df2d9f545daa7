/-! rows of the methods, printed by wip/gen/rows.py -/
/-- 2 BlackSun$Stars.<init>()V -/
def r_2 : List ax_E :=
  (0, .aload_n 0, 1, 0, 0, 0) ::
  (1, .invokespecial 3, 3, 0, 100, 0) ::
  (4, .aload_n 0, 1, 0, 0, 0) ::
  (5, .bipush 30, 2, 0, 0, 30) ::
  (7, .newarray .int, 2, 16, 0, 0) ::
  (9, .putfield 9, 3, 2, 1, 0) ::
  (12, .aload_n 0, 1, 0, 0, 0) ::
  (13, .bipush 30, 2, 0, 0, 30) ::
  (15, .newarray .int, 2, 16, 0, 0) ::
  (17, .putfield 15, 3, 2, 2, 0) ::
  (20, .aload_n 0, 1, 0, 0, 0) ::
  (21, .bipush 30, 2, 0, 0, 30) ::
  (23, .newarray .int, 2, 16, 0, 0) ::
  (25, .putfield 18, 3, 2, 3, 0) ::
  (28, .return_, 1, 0, 0, 0) ::
  []
/-- 3 BlackSun$Plates.<init>()V -/
def r_3 : List ax_E :=
  (0, .aload_n 0, 1, 0, 0, 0) ::
  (1, .invokespecial 3, 3, 0, 100, 0) ::
  (4, .aload_n 0, 1, 0, 0, 0) ::
  (5, .bipush 16, 2, 0, 0, 16) ::
  (7, .newarray .int, 2, 16, 0, 0) ::
  (9, .putfield 9, 3, 3, 1, 0) ::
  (12, .aload_n 0, 1, 0, 0, 0) ::
  (13, .bipush 16, 2, 0, 0, 16) ::
  (15, .newarray .int, 2, 16, 0, 0) ::
  (17, .putfield 15, 3, 3, 2, 0) ::
  (20, .aload_n 0, 1, 0, 0, 0) ::
  (21, .bipush 16, 2, 0, 0, 16) ::
  (23, .newarray .int, 2, 16, 0, 0) ::
  (25, .putfield 18, 3, 3, 3, 0) ::
  (28, .return_, 1, 0, 0, 0) ::
  []
/-- 4 BlackSun$Images.<init>()V -/
def r_4 : List ax_E :=
  (0, .aload_n 0, 1, 0, 0, 0) ::
  (1, .invokespecial 3, 3, 0, 100, 0) ::
  (4, .aload_n 0, 1, 0, 0, 0) ::
  (5, .bipush 100, 2, 0, 0, 100) ::
  (7, .newarray .int, 2, 16, 0, 0) ::
  (9, .putfield 9, 3, 4, 1, 0) ::
  (12, .aload_n 0, 1, 0, 0, 0) ::
  (13, .bipush 100, 2, 0, 0, 100) ::
  (15, .newarray .int, 2, 16, 0, 0) ::
  (17, .putfield 15, 3, 4, 2, 0) ::
  (20, .aload_n 0, 1, 0, 0, 0) ::
  (21, .bipush 100, 2, 0, 0, 100) ::
  (23, .newarray .int, 2, 16, 0, 0) ::
  (25, .putfield 18, 3, 4, 3, 0) ::
  (28, .aload_n 0, 1, 0, 0, 0) ::
  (29, .bipush 100, 2, 0, 0, 100) ::
  (31, .newarray .int, 2, 16, 0, 0) ::
  (33, .putfield 21, 3, 4, 4, 0) ::
  (36, .aload_n 0, 1, 0, 0, 0) ::
  (37, .bipush 100, 2, 0, 0, 100) ::
  (39, .newarray .int, 2, 16, 0, 0) ::
  (41, .putfield 24, 3, 4, 5, 0) ::
  (44, .aload_n 0, 1, 0, 0, 0) ::
  (45, .bipush 100, 2, 0, 0, 100) ::
  (47, .newarray .int, 2, 16, 0, 0) ::
  (49, .putfield 27, 3, 4, 6, 0) ::
  (52, .aload_n 0, 1, 0, 0, 0) ::
  (53, .bipush 100, 2, 0, 0, 100) ::
  (55, .newarray .int, 2, 16, 0, 0) ::
  (57, .putfield 30, 3, 4, 7, 0) ::
  (60, .return_, 1, 0, 0, 0) ::
  []
/-- 5 BlackSun$Book.<init>()V -/
def r_5_120 : List ax_E :=
  (120, .iload_n 1, 1, 1, 0, 0) ::
  (121, .bipush 8, 2, 0, 0, 8) ::
  (123, .if_icmp .ge 18, 3, 141, 0, 0) ::
  (126, .aload_n 0, 1, 0, 0, 0) ::
  (127, .getfield 60, 3, 1, 15, 0) ::
  (130, .iload_n 1, 1, 1, 0, 0) ::
  (131, .sipush 10000, 3, 0, 0, 10000) ::
  (134, .iastore, 1, 0, 0, 0) ::
  (135, .iinc 1 1, 3, 1, 0, 1) ::
  (138, .goto (-18), 3, 120, 0, 0) ::
  (141, .return_, 1, 0, 0, 0) ::
  []
def r_5 : List ax_E :=
  (0, .aload_n 0, 1, 0, 0, 0) ::
  (1, .invokespecial 3, 3, 0, 100, 0) ::
  (4, .aload_n 0, 1, 0, 0, 0) ::
  (5, .new 9, 3, 2, 0, 0) ::
  (8, .dup, 1, 0, 0, 0) ::
  (9, .invokespecial 11, 3, 2, 4, 0) ::
  (12, .putfield 12, 3, 1, 1, 0) ::
  (15, .aload_n 0, 1, 0, 0, 0) ::
  (16, .new 18, 3, 3, 0, 0) ::
  (19, .dup, 1, 0, 0, 0) ::
  (20, .invokespecial 20, 3, 3, 6, 0) ::
  (23, .putfield 21, 3, 1, 2, 0) ::
  (26, .aload_n 0, 1, 0, 0, 0) ::
  (27, .new 25, 3, 4, 0, 0) ::
  (30, .dup, 1, 0, 0, 0) ::
  (31, .invokespecial 27, 3, 4, 8, 0) ::
  (34, .putfield 28, 3, 1, 3, 0) ::
  (37, .aload_n 0, 1, 0, 0, 0) ::
  (38, .bipush 10, 2, 0, 0, 10) ::
  (40, .anewarray 32, 3, 20, 0, 0) ::
  (43, .putfield 34, 3, 1, 5, 0) ::
  (46, .aload_n 0, 1, 0, 0, 0) ::
  (47, .bipush 40, 2, 0, 0, 40) ::
  (49, .newarray .int, 2, 16, 0, 0) ::
  (51, .putfield 38, 3, 1, 7, 0) ::
  (54, .aload_n 0, 1, 0, 0, 0) ::
  (55, .bipush 40, 2, 0, 0, 40) ::
  (57, .newarray .int, 2, 16, 0, 0) ::
  (59, .putfield 42, 3, 1, 8, 0) ::
  (62, .aload_n 0, 1, 0, 0, 0) ::
  (63, .bipush 40, 2, 0, 0, 40) ::
  (65, .newarray .int, 2, 16, 0, 0) ::
  (67, .putfield 45, 3, 1, 9, 0) ::
  (70, .aload_n 0, 1, 0, 0, 0) ::
  (71, .bipush 9, 2, 0, 0, 9) ::
  (73, .newarray .int, 2, 16, 0, 0) ::
  (75, .putfield 48, 3, 1, 11, 0) ::
  (78, .aload_n 0, 1, 0, 0, 0) ::
  (79, .bipush 9, 2, 0, 0, 9) ::
  (81, .newarray .int, 2, 16, 0, 0) ::
  (83, .putfield 51, 3, 1, 12, 0) ::
  (86, .aload_n 0, 1, 0, 0, 0) ::
  (87, .bipush 24, 2, 0, 0, 24) ::
  (89, .newarray .int, 2, 16, 0, 0) ::
  (91, .putfield 54, 3, 1, 13, 0) ::
  (94, .aload_n 0, 1, 0, 0, 0) ::
  (95, .bipush 24, 2, 0, 0, 24) ::
  (97, .newarray .int, 2, 16, 0, 0) ::
  (99, .putfield 57, 3, 1, 14, 0) ::
  (102, .aload_n 0, 1, 0, 0, 0) ::
  (103, .bipush 8, 2, 0, 0, 8) ::
  (105, .newarray .int, 2, 16, 0, 0) ::
  (107, .putfield 60, 3, 1, 15, 0) ::
  (110, .aload_n 0, 1, 0, 0, 0) ::
  (111, .bipush 6, 2, 0, 0, 6) ::
  (113, .newarray .int, 2, 16, 0, 0) ::
  (115, .putfield 63, 3, 1, 16, 0) ::
  (118, .iconst 0, 1, 0, 0, 0) ::
  (119, .istore_n 1, 1, 1, 0, 0) ::
  (120, .jsr 0, 0, 3, 0, 0) ::
  r_5_120
/-- 6 BlackSun$Reader.<init>()V -/
def r_6 : List ax_E :=
  (0, .aload_n 0, 1, 0, 0, 0) ::
  (1, .invokespecial 3, 3, 0, 100, 0) ::
  (4, .aload_n 0, 1, 0, 0, 0) ::
  (5, .sipush 400, 3, 0, 0, 400) ::
  (8, .newarray .int, 2, 16, 0, 0) ::
  (10, .putfield 9, 3, 6, 2, 0) ::
  (13, .aload_n 0, 1, 0, 0, 0) ::
  (14, .bipush 64, 2, 0, 0, 64) ::
  (16, .newarray .int, 2, 16, 0, 0) ::
  (18, .putfield 15, 3, 6, 10, 0) ::
  (21, .aload_n 0, 1, 0, 0, 0) ::
  (22, .sipush 400, 3, 0, 0, 400) ::
  (25, .newarray .int, 2, 16, 0, 0) ::
  (27, .putfield 18, 3, 6, 12, 0) ::
  (30, .aload_n 0, 1, 0, 0, 0) ::
  (31, .bipush 6, 2, 0, 0, 6) ::
  (33, .newarray .int, 2, 16, 0, 0) ::
  (35, .putfield 21, 3, 6, 13, 0) ::
  (38, .aload_n 0, 1, 0, 0, 0) ::
  (39, .bipush 6, 2, 0, 0, 6) ::
  (41, .newarray .int, 2, 16, 0, 0) ::
  (43, .putfield 24, 3, 6, 14, 0) ::
  (46, .return_, 1, 0, 0, 0) ::
  []
/-- 7 BlackSun$Fit.<init>()V -/
def r_7 : List ax_E :=
  (0, .aload_n 0, 1, 0, 0, 0) ::
  (1, .invokespecial 5, 3, 0, 100, 0) ::
  (4, .aload_n 0, 1, 0, 0, 0) ::
  (5, .bipush 100, 2, 0, 0, 100) ::
  (7, .newarray .int, 2, 16, 0, 0) ::
  (9, .putfield 11, 3, 7, 1, 0) ::
  (12, .aload_n 0, 1, 0, 0, 0) ::
  (13, .bipush 6, 2, 0, 0, 6) ::
  (15, .newarray .int, 2, 16, 0, 0) ::
  (17, .putfield 15, 3, 7, 2, 0) ::
  (20, .aload_n 0, 1, 0, 0, 0) ::
  (21, .iconst 3, 1, 0, 0, 3) ::
  (22, .newarray .int, 2, 16, 0, 0) ::
  (24, .putfield 18, 3, 7, 5, 0) ::
  (27, .aload_n 0, 1, 0, 0, 0) ::
  (28, .sipush 600, 3, 0, 0, 600) ::
  (31, .newarray .int, 2, 16, 0, 0) ::
  (33, .putfield 21, 3, 7, 6, 0) ::
  (36, .aload_n 0, 1, 0, 0, 0) ::
  (37, .sipush 200, 3, 0, 0, 200) ::
  (40, .newarray .int, 2, 16, 0, 0) ::
  (42, .putfield 24, 3, 7, 7, 0) ::
  (45, .aload_n 0, 1, 0, 0, 0) ::
  (46, .sipush 200, 3, 0, 0, 200) ::
  (49, .newarray .int, 2, 16, 0, 0) ::
  (51, .putfield 27, 3, 7, 8, 0) ::
  (54, .aload_n 0, 1, 0, 0, 0) ::
  (55, .sipush 200, 3, 0, 0, 200) ::
  (58, .newarray .int, 2, 16, 0, 0) ::
  (60, .putfield 30, 3, 7, 9, 0) ::
  (63, .aload_n 0, 1, 0, 0, 0) ::
  (64, .bipush 47, 2, 0, 0, 47) ::
  (66, .bipush 13, 2, 0, 0, 13) ::
  (68, .multianewarray 33 2, 4, 0, 0, 0) ::
  (72, .putfield 35, 3, 7, 10, 0) ::
  (75, .aload_n 0, 1, 0, 0, 0) ::
  (76, .bipush 13, 2, 0, 0, 13) ::
  (78, .newarray .long, 2, 17, 0, 0) ::
  (80, .putfield 38, 3, 7, 11, 0) ::
  (83, .aload_n 0, 1, 0, 0, 0) ::
  (84, .bipush 8, 2, 0, 0, 8) ::
  (86, .newarray .int, 2, 16, 0, 0) ::
  (88, .putfield 42, 3, 7, 12, 0) ::
  (91, .aload_n 0, 1, 0, 0, 0) ::
  (92, .bipush 64, 2, 0, 0, 64) ::
  (94, .newarray .int, 2, 16, 0, 0) ::
  (96, .putfield 45, 3, 7, 13, 0) ::
  (99, .return_, 1, 0, 0, 0) ::
  []
/-- 8 BlackSun$Mix.<init>()V -/
def r_8 : List ax_E :=
  (0, .aload_n 0, 1, 0, 0, 0) ::
  (1, .invokespecial 3, 3, 0, 100, 0) ::
  (4, .return_, 1, 0, 0, 0) ::
  []
/-- 9 BlackSun.<init>()V -/
def r_9 : List ax_E :=
  (0, .aload_n 0, 1, 0, 0, 0) ::
  (1, .invokespecial 1, 3, 0, 100, 0) ::
  (4, .aload_n 0, 1, 0, 0, 0) ::
  (5, .new 7, 3, 1, 0, 0) ::
  (8, .dup, 1, 0, 0, 0) ::
  (9, .invokespecial 9, 3, 5, 2, 0) ::
  (12, .putfield 10, 3, 0, 0, 0) ::
  (15, .aload_n 0, 1, 0, 0, 0) ::
  (16, .iconst 4, 1, 0, 0, 4) ::
  (17, .anewarray 7, 3, 21, 0, 0) ::
  (20, .putfield 16, 3, 0, 1, 0) ::
  (23, .aload_n 0, 1, 0, 0, 0) ::
  (24, .new 20, 3, 6, 0, 0) ::
  (27, .dup, 1, 0, 0, 0) ::
  (28, .invokespecial 22, 3, 6, 12, 0) ::
  (31, .putfield 23, 3, 0, 2, 0) ::
  (34, .aload_n 0, 1, 0, 0, 0) ::
  (35, .new 27, 3, 7, 0, 0) ::
  (38, .dup, 1, 0, 0, 0) ::
  (39, .invokespecial 29, 3, 7, 14, 0) ::
  (42, .putfield 30, 3, 0, 3, 0) ::
  (45, .aload_n 0, 1, 0, 0, 0) ::
  (46, .new 34, 3, 8, 0, 0) ::
  (49, .dup, 1, 0, 0, 0) ::
  (50, .invokespecial 36, 3, 8, 16, 0) ::
  (53, .putfield 37, 3, 0, 4, 0) ::
  (56, .return_, 1, 0, 0, 0) ::
  []
/-- 10 BlackSun.clock(I)Z -/
def r_10 : List ax_E :=
  (0, .iload_n 1, 1, 1, 0, 0) ::
  (1, .aload_n 0, 1, 0, 0, 0) ::
  (2, .getfield 10, 3, 0, 0, 0) ::
  (5, .getfield 41, 3, 1, 0, 0) ::
  (8, .if_icmp .lt 10, 3, 18, 0, 0) ::
  (11, .iload_n 1, 1, 1, 0, 0) ::
  (12, .sipush 9999, 3, 0, 0, 9999) ::
  (15, .if_icmp .le 5, 3, 20, 0, 0) ::
  (18, .iconst 0, 1, 0, 0, 0) ::
  (19, .ireturn, 1, 1, 0, 0) ::
  (20, .aload_n 0, 1, 0, 0, 0) ::
  (21, .getfield 10, 3, 0, 0, 0) ::
  (24, .iload_n 1, 1, 1, 0, 0) ::
  (25, .putfield 41, 3, 1, 0, 0) ::
  (28, .iconst 1, 1, 0, 0, 1) ::
  (29, .ireturn, 1, 1, 0, 0) ::
  []
/-- 11 BlackSun.isWithin(III)Z -/
def r_11 : List ax_E :=
  (0, .iload_n 0, 1, 0, 0, 0) ::
  (1, .iload_n 1, 1, 1, 0, 0) ::
  (2, .if_icmp .lt 12, 3, 14, 0, 0) ::
  (5, .iload_n 0, 1, 0, 0, 0) ::
  (6, .iload_n 2, 1, 2, 0, 0) ::
  (7, .if_icmp .gt 7, 3, 14, 0, 0) ::
  (10, .iconst 1, 1, 0, 0, 1) ::
  (11, .goto 4, 3, 15, 0, 0) ::
  (14, .iconst 0, 1, 0, 0, 0) ::
  (15, .ireturn, 1, 1, 0, 0) ::
  []
/-- 12 BlackSun$Stars.put(III)I -/
def r_12 : List ax_E :=
  (0, .aload_n 0, 1, 0, 0, 0) ::
  (1, .getfield 21, 3, 2, 0, 0) ::
  (4, .bipush 30, 2, 0, 0, 30) ::
  (6, .if_icmp .lt 5, 3, 11, 0, 0) ::
  (9, .iconst (-1), 1, 0, 0, (-1)) ::
  (10, .ireturn, 1, 0, 0, 0) ::
  (11, .aload_n 0, 1, 0, 0, 0) ::
  (12, .getfield 9, 3, 2, 1, 0) ::
  (15, .aload_n 0, 1, 0, 0, 0) ::
  (16, .getfield 21, 3, 2, 0, 0) ::
  (19, .iload_n 1, 1, 1, 0, 0) ::
  (20, .iastore, 1, 0, 0, 0) ::
  (21, .aload_n 0, 1, 0, 0, 0) ::
  (22, .getfield 15, 3, 2, 2, 0) ::
  (25, .aload_n 0, 1, 0, 0, 0) ::
  (26, .getfield 21, 3, 2, 0, 0) ::
  (29, .iload_n 2, 1, 2, 0, 0) ::
  (30, .iastore, 1, 0, 0, 0) ::
  (31, .aload_n 0, 1, 0, 0, 0) ::
  (32, .getfield 18, 3, 2, 3, 0) ::
  (35, .aload_n 0, 1, 0, 0, 0) ::
  (36, .getfield 21, 3, 2, 0, 0) ::
  (39, .iload_n 3, 1, 3, 0, 0) ::
  (40, .iastore, 1, 0, 0, 0) ::
  (41, .aload_n 0, 1, 0, 0, 0) ::
  (42, .dup, 1, 0, 0, 0) ::
  (43, .getfield 21, 3, 2, 0, 0) ::
  (46, .iconst 1, 1, 0, 0, 1) ::
  (47, .iadd, 1, 0, 0, 0) ::
  (48, .putfield 21, 3, 2, 0, 0) ::
  (51, .aload_n 0, 1, 0, 0, 0) ::
  (52, .getfield 21, 3, 2, 0, 0) ::
  (55, .iconst 1, 1, 0, 0, 1) ::
  (56, .isub, 1, 0, 0, 0) ::
  (57, .ireturn, 1, 0, 0, 0) ::
  []
/-- 13 BlackSun.star(III)I -/
def r_13_13 : List ax_E :=
  (13, .istore 4, 2, 4, 0, 0) ::
  (15, .iload 4, 2, 4, 0, 0) ::
  (17, .ifCond .ne 35, 3, 52, 0, 0) ::
  (20, .iload_n 1, 1, 1, 0, 0) ::
  (21, .bipush (-9), 2, 0, 0, (-9)) ::
  (23, .bipush 9, 2, 0, 0, 9) ::
  (25, .invokestatic 45, 3, 11, 0, 1) ::
  (28, .ifCond .eq 24, 3, 52, 0, 0) ::
  (31, .iload_n 2, 1, 2, 0, 0) ::
  (32, .bipush (-9), 2, 0, 0, (-9)) ::
  (34, .bipush 9, 2, 0, 0, 9) ::
  (36, .invokestatic 45, 3, 11, 0, 1) ::
  (39, .ifCond .eq 13, 3, 52, 0, 0) ::
  (42, .iload_n 3, 1, 3, 0, 0) ::
  (43, .iconst 0, 1, 0, 0, 0) ::
  (44, .bipush 99, 2, 0, 0, 99) ::
  (46, .invokestatic 45, 3, 11, 0, 1) ::
  (49, .ifCond .ne 5, 3, 54, 0, 0) ::
  (52, .iconst (-1), 1, 0, 0, (-1)) ::
  (53, .ireturn, 1, 0, 0, 0) ::
  (54, .aload_n 0, 1, 0, 0, 0) ::
  (55, .getfield 10, 3, 0, 0, 0) ::
  (58, .getfield 49, 3, 1, 1, 0) ::
  (61, .iload_n 1, 1, 1, 0, 0) ::
  (62, .iload_n 2, 1, 2, 0, 0) ::
  (63, .iload_n 3, 1, 3, 0, 0) ::
  (64, .invokevirtual 53, 3, 12, 4, 1) ::
  (67, .ireturn, 1, 0, 0, 0) ::
  []
def r_13 : List ax_E :=
  (0, .iload_n 1, 1, 1, 0, 0) ::
  (1, .ifCond .ne 11, 3, 12, 0, 0) ::
  (4, .iload_n 2, 1, 2, 0, 0) ::
  (5, .ifCond .ne 7, 3, 12, 0, 0) ::
  (8, .iconst 1, 1, 0, 0, 1) ::
  (9, .goto 4, 3, 13, 0, 0) ::
  (12, .iconst 0, 1, 0, 0, 0) ::
  (13, .jsr 0, 0, 15, 0, 0) ::
  r_13_13
/-- 14 BlackSun$Stars.has(I)Z -/
def r_14 : List ax_E :=
  (0, .iload_n 1, 1, 1, 0, 0) ::
  (1, .iconst 0, 1, 0, 0, 0) ::
  (2, .aload_n 0, 1, 0, 0, 0) ::
  (3, .getfield 21, 3, 2, 0, 0) ::
  (6, .iconst 1, 1, 0, 0, 1) ::
  (7, .isub, 1, 0, 0, 0) ::
  (8, .invokestatic 25, 3, 11, 0, 1) ::
  (11, .ireturn, 1, 1, 0, 0) ::
  []
/-- 15 BlackSun$Stars.far(I)I -/
def r_15 : List ax_E :=
  (0, .aload_n 0, 1, 0, 0, 0) ::
  (1, .getfield 9, 3, 2, 1, 0) ::
  (4, .iload_n 1, 1, 1, 0, 0) ::
  (5, .iaload, 1, 0, 0, 0) ::
  (6, .aload_n 0, 1, 0, 0, 0) ::
  (7, .getfield 9, 3, 2, 1, 0) ::
  (10, .iload_n 1, 1, 1, 0, 0) ::
  (11, .iaload, 1, 0, 0, 0) ::
  (12, .imul, 1, 0, 0, 0) ::
  (13, .aload_n 0, 1, 0, 0, 0) ::
  (14, .getfield 15, 3, 2, 2, 0) ::
  (17, .iload_n 1, 1, 1, 0, 0) ::
  (18, .iaload, 1, 0, 0, 0) ::
  (19, .aload_n 0, 1, 0, 0, 0) ::
  (20, .getfield 15, 3, 2, 2, 0) ::
  (23, .iload_n 1, 1, 1, 0, 0) ::
  (24, .iaload, 1, 0, 0, 0) ::
  (25, .imul, 1, 0, 0, 0) ::
  (26, .iadd, 1, 0, 0, 0) ::
  (27, .ireturn, 1, 0, 0, 0) ::
  []
/-- 16 BlackSun.stars(II)I -/
def r_16 : List ax_E :=
  (0, .aload_n 0, 1, 0, 0, 0) ::
  (1, .getfield 10, 3, 0, 0, 0) ::
  (4, .getfield 49, 3, 1, 1, 0) ::
  (7, .iload_n 1, 1, 1, 0, 0) ::
  (8, .invokevirtual 59, 3, 14, 4, 1) ::
  (11, .ifCond .ne 7, 3, 18, 0, 0) ::
  (14, .sipush (-1000), 3, 0, 0, (-1000)) ::
  (17, .ireturn, 1, 0, 0, 0) ::
  (18, .iload_n 2, 1, 2, 0, 0) ::
  (19, .tableswitch 80 0 3 #[29, 42, 55, 68], 29, 0, 0, 0) ::
  (48, .aload_n 0, 1, 0, 0, 0) ::
  (49, .getfield 10, 3, 0, 0, 0) ::
  (52, .getfield 49, 3, 1, 1, 0) ::
  (55, .getfield 63, 3, 2, 1, 0) ::
  (58, .iload_n 1, 1, 1, 0, 0) ::
  (59, .iaload, 1, 0, 0, 0) ::
  (60, .ireturn, 1, 0, 0, 0) ::
  (61, .aload_n 0, 1, 0, 0, 0) ::
  (62, .getfield 10, 3, 0, 0, 0) ::
  (65, .getfield 49, 3, 1, 1, 0) ::
  (68, .getfield 67, 3, 2, 2, 0) ::
  (71, .iload_n 1, 1, 1, 0, 0) ::
  (72, .iaload, 1, 0, 0, 0) ::
  (73, .ireturn, 1, 0, 0, 0) ::
  (74, .aload_n 0, 1, 0, 0, 0) ::
  (75, .getfield 10, 3, 0, 0, 0) ::
  (78, .getfield 49, 3, 1, 1, 0) ::
  (81, .getfield 70, 3, 2, 3, 0) ::
  (84, .iload_n 1, 1, 1, 0, 0) ::
  (85, .iaload, 1, 0, 0, 0) ::
  (86, .ireturn, 1, 0, 0, 0) ::
  (87, .aload_n 0, 1, 0, 0, 0) ::
  (88, .getfield 10, 3, 0, 0, 0) ::
  (91, .getfield 49, 3, 1, 1, 0) ::
  (94, .iload_n 1, 1, 1, 0, 0) ::
  (95, .invokevirtual 73, 3, 15, 4, 1) ::
  (98, .ireturn, 1, 0, 0, 0) ::
  (99, .sipush (-1000), 3, 0, 0, (-1000)) ::
  (102, .ireturn, 1, 0, 0, 0) ::
  []
/-- 17 BlackSun.isIsland(I)Z -/
def r_17 : List ax_E :=
  (0, .iload_n 0, 1, 0, 0, 0) ::
  (1, .iconst 0, 1, 0, 0, 0) ::
  (2, .iconst 3, 1, 0, 0, 3) ::
  (3, .invokestatic 45, 3, 11, 0, 1) ::
  (6, .ireturn, 1, 1, 0, 0) ::
  []
/-- 18 BlackSun$Plates.put(III)I -/
def r_18 : List ax_E :=
  (0, .aload_n 0, 1, 0, 0, 0) ::
  (1, .getfield 21, 3, 3, 0, 0) ::
  (4, .bipush 16, 2, 0, 0, 16) ::
  (6, .if_icmp .lt 5, 3, 11, 0, 0) ::
  (9, .iconst (-1), 1, 0, 0, (-1)) ::
  (10, .ireturn, 1, 0, 0, 0) ::
  (11, .aload_n 0, 1, 0, 0, 0) ::
  (12, .getfield 9, 3, 3, 1, 0) ::
  (15, .aload_n 0, 1, 0, 0, 0) ::
  (16, .getfield 21, 3, 3, 0, 0) ::
  (19, .iload_n 1, 1, 1, 0, 0) ::
  (20, .iastore, 1, 0, 0, 0) ::
  (21, .aload_n 0, 1, 0, 0, 0) ::
  (22, .getfield 15, 3, 3, 2, 0) ::
  (25, .aload_n 0, 1, 0, 0, 0) ::
  (26, .getfield 21, 3, 3, 0, 0) ::
  (29, .iload_n 2, 1, 2, 0, 0) ::
  (30, .iastore, 1, 0, 0, 0) ::
  (31, .aload_n 0, 1, 0, 0, 0) ::
  (32, .getfield 18, 3, 3, 3, 0) ::
  (35, .aload_n 0, 1, 0, 0, 0) ::
  (36, .getfield 21, 3, 3, 0, 0) ::
  (39, .iload_n 3, 1, 3, 0, 0) ::
  (40, .iastore, 1, 0, 0, 0) ::
  (41, .aload_n 0, 1, 0, 0, 0) ::
  (42, .dup, 1, 0, 0, 0) ::
  (43, .getfield 21, 3, 3, 0, 0) ::
  (46, .iconst 1, 1, 0, 0, 1) ::
  (47, .iadd, 1, 0, 0, 0) ::
  (48, .putfield 21, 3, 3, 0, 0) ::
  (51, .aload_n 0, 1, 0, 0, 0) ::
  (52, .getfield 21, 3, 3, 0, 0) ::
  (55, .iconst 1, 1, 0, 0, 1) ::
  (56, .isub, 1, 0, 0, 0) ::
  (57, .ireturn, 1, 0, 0, 0) ::
  []
/-- 19 BlackSun.plate(III)I -/
def r_19 : List ax_E :=
  (0, .iload_n 1, 1, 1, 0, 0) ::
  (1, .invokestatic 77, 3, 17, 0, 1) ::
  (4, .ifCond .eq 22, 3, 26, 0, 0) ::
  (7, .iload_n 2, 1, 2, 0, 0) ::
  (8, .iconst 0, 1, 0, 0, 0) ::
  (9, .iconst 2, 1, 0, 0, 2) ::
  (10, .invokestatic 45, 3, 11, 0, 1) ::
  (13, .ifCond .eq 13, 3, 26, 0, 0) ::
  (16, .iload_n 3, 1, 3, 0, 0) ::
  (17, .iconst 0, 1, 0, 0, 0) ::
  (18, .bipush 99, 2, 0, 0, 99) ::
  (20, .invokestatic 45, 3, 11, 0, 1) ::
  (23, .ifCond .ne 5, 3, 28, 0, 0) ::
  (26, .iconst (-1), 1, 0, 0, (-1)) ::
  (27, .ireturn, 1, 0, 0, 0) ::
  (28, .aload_n 0, 1, 0, 0, 0) ::
  (29, .getfield 10, 3, 0, 0, 0) ::
  (32, .getfield 80, 3, 1, 2, 0) ::
  (35, .iload_n 1, 1, 1, 0, 0) ::
  (36, .iload_n 2, 1, 2, 0, 0) ::
  (37, .iload_n 3, 1, 3, 0, 0) ::
  (38, .invokevirtual 84, 3, 18, 6, 1) ::
  (41, .ireturn, 1, 0, 0, 0) ::
  []
/-- 20 BlackSun$Plates.has(I)Z -/
def r_20 : List ax_E :=
  (0, .iload_n 1, 1, 1, 0, 0) ::
  (1, .iconst 0, 1, 0, 0, 0) ::
  (2, .aload_n 0, 1, 0, 0, 0) ::
  (3, .getfield 21, 3, 3, 0, 0) ::
  (6, .iconst 1, 1, 0, 0, 1) ::
  (7, .isub, 1, 0, 0, 0) ::
  (8, .invokestatic 25, 3, 11, 0, 1) ::
  (11, .ireturn, 1, 1, 0, 0) ::
  []
/-- 21 BlackSun.isHand(I)Z -/
def r_21 : List ax_E :=
  (0, .iload_n 0, 1, 0, 0, 0) ::
  (1, .iconst 0, 1, 0, 0, 0) ::
  (2, .bipush 7, 2, 0, 0, 7) ::
  (4, .invokestatic 45, 3, 11, 0, 1) ::
  (7, .ireturn, 1, 1, 0, 0) ::
  []
/-- 22 BlackSun$Images.isKnown(II)Z -/
def r_22 : List ax_E :=
  (0, .aload_n 0, 1, 0, 0, 0) ::
  (1, .getfield 27, 3, 4, 6, 0) ::
  (4, .iload_n 1, 1, 1, 0, 0) ::
  (5, .iaload, 1, 0, 0, 0) ::
  (6, .iload_n 2, 1, 2, 0, 0) ::
  (7, .if_icmp .gt 17, 3, 24, 0, 0) ::
  (10, .iload_n 2, 1, 2, 0, 0) ::
  (11, .aload_n 0, 1, 0, 0, 0) ::
  (12, .getfield 30, 3, 4, 7, 0) ::
  (15, .iload_n 1, 1, 1, 0, 0) ::
  (16, .iaload, 1, 0, 0, 0) ::
  (17, .if_icmp .ge 7, 3, 24, 0, 0) ::
  (20, .iconst 1, 1, 0, 0, 1) ::
  (21, .goto 4, 3, 25, 0, 0) ::
  (24, .iconst 0, 1, 0, 0, 0) ::
  (25, .ireturn, 1, 1, 0, 0) ::
  []
/-- 23 BlackSun$Images.find(IIII)I -/
def r_23_3 : List ax_E :=
  (3, .iload 5, 2, 5, 0, 0) ::
  (5, .aload_n 0, 1, 0, 0, 0) ::
  (6, .getfield 33, 3, 4, 0, 0) ::
  (9, .if_icmp .ge 56, 3, 65, 0, 0) ::
  (12, .aload_n 0, 1, 0, 0, 0) ::
  (13, .getfield 9, 3, 4, 1, 0) ::
  (16, .iload 5, 2, 5, 0, 0) ::
  (18, .iaload, 1, 0, 0, 0) ::
  (19, .iload_n 1, 1, 1, 0, 0) ::
  (20, .if_icmp .ne 39, 3, 59, 0, 0) ::
  (23, .aload_n 0, 1, 0, 0, 0) ::
  (24, .getfield 15, 3, 4, 2, 0) ::
  (27, .iload 5, 2, 5, 0, 0) ::
  (29, .iaload, 1, 0, 0, 0) ::
  (30, .iload_n 2, 1, 2, 0, 0) ::
  (31, .if_icmp .ne 28, 3, 59, 0, 0) ::
  (34, .aload_n 0, 1, 0, 0, 0) ::
  (35, .getfield 18, 3, 4, 3, 0) ::
  (38, .iload 5, 2, 5, 0, 0) ::
  (40, .iaload, 1, 0, 0, 0) ::
  (41, .iload_n 3, 1, 3, 0, 0) ::
  (42, .if_icmp .ne 17, 3, 59, 0, 0) ::
  (45, .aload_n 0, 1, 0, 0, 0) ::
  (46, .iload 5, 2, 5, 0, 0) ::
  (48, .iload 4, 2, 4, 0, 0) ::
  (50, .invokevirtual 41, 3, 22, 8, 1) ::
  (53, .ifCond .eq 6, 3, 59, 0, 0) ::
  (56, .iload 5, 2, 5, 0, 0) ::
  (58, .ireturn, 1, 0, 0, 0) ::
  (59, .iinc 5 1, 3, 5, 0, 1) ::
  (62, .goto (-59), 3, 3, 0, 0) ::
  (65, .iconst (-1), 1, 0, 0, (-1)) ::
  (66, .ireturn, 1, 0, 0, 0) ::
  []
def r_23 : List ax_E :=
  (0, .iconst 0, 1, 0, 0, 0) ::
  (1, .istore 5, 2, 5, 0, 0) ::
  (3, .jsr 0, 0, 63, 0, 0) ::
  r_23_3
/-- 24 BlackSun$Images.put(IIIIII)I -/
def r_24_37 : List ax_E :=
  (37, .aload_n 0, 1, 0, 0, 0) ::
  (38, .getfield 9, 3, 4, 1, 0) ::
  (41, .aload_n 0, 1, 0, 0, 0) ::
  (42, .getfield 33, 3, 4, 0, 0) ::
  (45, .iload_n 1, 1, 1, 0, 0) ::
  (46, .iastore, 1, 0, 0, 0) ::
  (47, .aload_n 0, 1, 0, 0, 0) ::
  (48, .getfield 15, 3, 4, 2, 0) ::
  (51, .aload_n 0, 1, 0, 0, 0) ::
  (52, .getfield 33, 3, 4, 0, 0) ::
  (55, .iload_n 2, 1, 2, 0, 0) ::
  (56, .iastore, 1, 0, 0, 0) ::
  (57, .aload_n 0, 1, 0, 0, 0) ::
  (58, .getfield 18, 3, 4, 3, 0) ::
  (61, .aload_n 0, 1, 0, 0, 0) ::
  (62, .getfield 33, 3, 4, 0, 0) ::
  (65, .iload_n 3, 1, 3, 0, 0) ::
  (66, .iastore, 1, 0, 0, 0) ::
  (67, .aload_n 0, 1, 0, 0, 0) ::
  (68, .getfield 21, 3, 4, 4, 0) ::
  (71, .aload_n 0, 1, 0, 0, 0) ::
  (72, .getfield 33, 3, 4, 0, 0) ::
  (75, .iload 4, 2, 4, 0, 0) ::
  (77, .iastore, 1, 0, 0, 0) ::
  (78, .aload_n 0, 1, 0, 0, 0) ::
  (79, .getfield 24, 3, 4, 5, 0) ::
  (82, .aload_n 0, 1, 0, 0, 0) ::
  (83, .getfield 33, 3, 4, 0, 0) ::
  (86, .iload 5, 2, 5, 0, 0) ::
  (88, .iastore, 1, 0, 0, 0) ::
  (89, .aload_n 0, 1, 0, 0, 0) ::
  (90, .getfield 27, 3, 4, 6, 0) ::
  (93, .aload_n 0, 1, 0, 0, 0) ::
  (94, .getfield 33, 3, 4, 0, 0) ::
  (97, .iload 6, 2, 6, 0, 0) ::
  (99, .iastore, 1, 0, 0, 0) ::
  (100, .aload_n 0, 1, 0, 0, 0) ::
  (101, .getfield 30, 3, 4, 7, 0) ::
  (104, .aload_n 0, 1, 0, 0, 0) ::
  (105, .getfield 33, 3, 4, 0, 0) ::
  (108, .sipush 10000, 3, 0, 0, 10000) ::
  (111, .iastore, 1, 0, 0, 0) ::
  (112, .aload_n 0, 1, 0, 0, 0) ::
  (113, .dup, 1, 0, 0, 0) ::
  (114, .getfield 33, 3, 4, 0, 0) ::
  (117, .iconst 1, 1, 0, 0, 1) ::
  (118, .iadd, 1, 0, 0, 0) ::
  (119, .putfield 33, 3, 4, 0, 0) ::
  (122, .aload_n 0, 1, 0, 0, 0) ::
  (123, .getfield 33, 3, 4, 0, 0) ::
  (126, .iconst 1, 1, 0, 0, 1) ::
  (127, .isub, 1, 0, 0, 0) ::
  (128, .ireturn, 1, 0, 0, 0) ::
  []
def r_24 : List ax_E :=
  (0, .aload_n 0, 1, 0, 0, 0) ::
  (1, .getfield 33, 3, 4, 0, 0) ::
  (4, .bipush 100, 2, 0, 0, 100) ::
  (6, .if_icmp .lt 5, 3, 11, 0, 0) ::
  (9, .iconst (-1), 1, 0, 0, (-1)) ::
  (10, .ireturn, 1, 0, 0, 0) ::
  (11, .aload_n 0, 1, 0, 0, 0) ::
  (12, .iload_n 1, 1, 1, 0, 0) ::
  (13, .iload_n 2, 1, 2, 0, 0) ::
  (14, .iload_n 3, 1, 3, 0, 0) ::
  (15, .iload 6, 2, 6, 0, 0) ::
  (17, .invokevirtual 37, 3, 23, 8, 1) ::
  (20, .istore 7, 2, 7, 0, 0) ::
  (22, .iload 7, 2, 7, 0, 0) ::
  (24, .iconst (-1), 1, 0, 0, (-1)) ::
  (25, .if_icmp .eq 12, 3, 37, 0, 0) ::
  (28, .aload_n 0, 1, 0, 0, 0) ::
  (29, .getfield 30, 3, 4, 7, 0) ::
  (32, .iload 7, 2, 7, 0, 0) ::
  (34, .iload 6, 2, 6, 0, 0) ::
  (36, .iastore, 1, 0, 0, 0) ::
  (37, .jsr 0, 0, 127, 0, 0) ::
  r_24_37
/-- 25 BlackSun.image(IIIII)I -/
def r_25 : List ax_E :=
  (0, .aload_n 0, 1, 0, 0, 0) ::
  (1, .getfield 10, 3, 0, 0, 0) ::
  (4, .getfield 80, 3, 1, 2, 0) ::
  (7, .iload_n 1, 1, 1, 0, 0) ::
  (8, .invokevirtual 87, 3, 20, 6, 1) ::
  (11, .ifCond .eq 24, 3, 35, 0, 0) ::
  (14, .aload_n 0, 1, 0, 0, 0) ::
  (15, .getfield 10, 3, 0, 0, 0) ::
  (18, .getfield 49, 3, 1, 1, 0) ::
  (21, .iload_n 2, 1, 2, 0, 0) ::
  (22, .invokevirtual 59, 3, 14, 4, 1) ::
  (25, .ifCond .eq 10, 3, 35, 0, 0) ::
  (28, .iload_n 3, 1, 3, 0, 0) ::
  (29, .invokestatic 88, 3, 21, 0, 1) ::
  (32, .ifCond .ne 5, 3, 37, 0, 0) ::
  (35, .iconst (-1), 1, 0, 0, (-1)) ::
  (36, .ireturn, 1, 0, 0, 0) ::
  (37, .iload 4, 2, 4, 0, 0) ::
  (39, .sipush (-299), 3, 0, 0, (-299)) ::
  (42, .sipush 299, 3, 0, 0, 299) ::
  (45, .invokestatic 45, 3, 11, 0, 1) ::
  (48, .ifCond .eq 17, 3, 65, 0, 0) ::
  (51, .iload 5, 2, 5, 0, 0) ::
  (53, .sipush (-299), 3, 0, 0, (-299)) ::
  (56, .sipush 299, 3, 0, 0, 299) ::
  (59, .invokestatic 45, 3, 11, 0, 1) ::
  (62, .ifCond .ne 5, 3, 67, 0, 0) ::
  (65, .iconst (-1), 1, 0, 0, (-1)) ::
  (66, .ireturn, 1, 0, 0, 0) ::
  (67, .aload_n 0, 1, 0, 0, 0) ::
  (68, .getfield 10, 3, 0, 0, 0) ::
  (71, .getfield 91, 3, 1, 3, 0) ::
  (74, .iload_n 1, 1, 1, 0, 0) ::
  (75, .iload_n 2, 1, 2, 0, 0) ::
  (76, .iload_n 3, 1, 3, 0, 0) ::
  (77, .iload 4, 2, 4, 0, 0) ::
  (79, .iload 5, 2, 5, 0, 0) ::
  (81, .aload_n 0, 1, 0, 0, 0) ::
  (82, .getfield 10, 3, 0, 0, 0) ::
  (85, .getfield 41, 3, 1, 0, 0) ::
  (88, .invokevirtual 95, 3, 24, 8, 1) ::
  (91, .ireturn, 1, 0, 0, 0) ::
  []
/-- 26 BlackSun.isWeek(I)Z -/
def r_26 : List ax_E :=
  (0, .iload_n 0, 1, 0, 0, 0) ::
  (1, .iconst 0, 1, 0, 0, 0) ::
  (2, .sipush 9999, 3, 0, 0, 9999) ::
  (5, .invokestatic 45, 3, 11, 0, 1) ::
  (8, .ireturn, 1, 1, 0, 0) ::
  []
/-- 27 BlackSun.isChoice(I)Z -/
def r_27 : List ax_E :=
  (0, .iload_n 0, 1, 0, 0, 0) ::
  (1, .ifCond .eq 8, 3, 9, 0, 0) ::
  (4, .iload_n 0, 1, 0, 0, 0) ::
  (5, .iconst 1, 1, 0, 0, 1) ::
  (6, .if_icmp .ne 7, 3, 13, 0, 0) ::
  (9, .iconst 1, 1, 0, 0, 1) ::
  (10, .goto 4, 3, 14, 0, 0) ::
  (13, .iconst 0, 1, 0, 0, 0) ::
  (14, .ireturn, 1, 1, 0, 0) ::
  []
/-- 28 BlackSun$Images.measured(II)I -/
def r_28 : List ax_E :=
  (0, .iload_n 2, 1, 2, 0, 0) ::
  (1, .ifCond .ne 12, 3, 13, 0, 0) ::
  (4, .aload_n 0, 1, 0, 0, 0) ::
  (5, .getfield 21, 3, 4, 4, 0) ::
  (8, .iload_n 1, 1, 1, 0, 0) ::
  (9, .iaload, 1, 0, 0, 0) ::
  (10, .goto 9, 3, 19, 0, 0) ::
  (13, .aload_n 0, 1, 0, 0, 0) ::
  (14, .getfield 24, 3, 4, 5, 0) ::
  (17, .iload_n 1, 1, 1, 0, 0) ::
  (18, .iaload, 1, 0, 0, 0) ::
  (19, .ireturn, 1, 0, 0, 0) ::
  []
/-- 29 BlackSun.images(IIIII)I -/
def r_29 : List ax_E :=
  (0, .iload 4, 2, 4, 0, 0) ::
  (2, .invokestatic 100, 3, 26, 0, 1) ::
  (5, .ifCond .eq 11, 3, 16, 0, 0) ::
  (8, .iload 5, 2, 5, 0, 0) ::
  (10, .invokestatic 103, 3, 27, 0, 1) ::
  (13, .ifCond .ne 7, 3, 20, 0, 0) ::
  (16, .sipush (-1000), 3, 0, 0, (-1000)) ::
  (19, .ireturn, 1, 0, 0, 0) ::
  (20, .aload_n 0, 1, 0, 0, 0) ::
  (21, .getfield 10, 3, 0, 0, 0) ::
  (24, .getfield 91, 3, 1, 3, 0) ::
  (27, .iload_n 1, 1, 1, 0, 0) ::
  (28, .iload_n 2, 1, 2, 0, 0) ::
  (29, .iload_n 3, 1, 3, 0, 0) ::
  (30, .iload 4, 2, 4, 0, 0) ::
  (32, .invokevirtual 106, 3, 23, 8, 1) ::
  (35, .istore 6, 2, 6, 0, 0) ::
  (37, .iload 6, 2, 6, 0, 0) ::
  (39, .iconst (-1), 1, 0, 0, (-1)) ::
  (40, .if_icmp .ne 7, 3, 47, 0, 0) ::
  (43, .sipush (-1000), 3, 0, 0, (-1000)) ::
  (46, .ireturn, 1, 0, 0, 0) ::
  (47, .aload_n 0, 1, 0, 0, 0) ::
  (48, .getfield 10, 3, 0, 0, 0) ::
  (51, .getfield 91, 3, 1, 3, 0) ::
  (54, .iload 6, 2, 6, 0, 0) ::
  (56, .iload 5, 2, 5, 0, 0) ::
  (58, .invokevirtual 110, 3, 28, 8, 1) ::
  (61, .ireturn, 1, 0, 0, 0) ::
  []
/-- 30 BlackSun.isTerm(I)Z -/
def r_30 : List ax_E :=
  (0, .iload_n 0, 1, 0, 0, 0) ::
  (1, .iconst 0, 1, 0, 0, 0) ::
  (2, .iconst 5, 1, 0, 0, 5) ::
  (3, .invokestatic 45, 3, 11, 0, 1) ::
  (6, .ireturn, 1, 1, 0, 0) ::
  []
/-- 31 BlackSun$Stars.give(III)I -/
def r_31_19 : List ax_E :=
  (19, .istore 4, 2, 4, 0, 0) ::
  (21, .iload_n 1, 1, 1, 0, 0) ::
  (22, .tableswitch 151 0 5 #[38, 48, 58, 61, 82, 129], 38, 0, 0, 0) ::
  (60, .iload_n 3, 1, 3, 0, 0) ::
  (61, .ifCond .ne 7, 3, 68, 0, 0) ::
  (64, .iconst 1, 1, 0, 0, 1) ::
  (65, .goto 4, 3, 69, 0, 0) ::
  (68, .iconst 0, 1, 0, 0, 0) ::
  (69, .ireturn, 1, 0, 0, 0) ::
  (70, .iload_n 3, 1, 3, 0, 0) ::
  (71, .ifCond .ne 7, 3, 78, 0, 0) ::
  (74, .iconst 0, 1, 0, 0, 0) ::
  (75, .goto 4, 3, 79, 0, 0) ::
  (78, .iconst 1, 1, 0, 0, 1) ::
  (79, .ireturn, 1, 0, 0, 0) ::
  (80, .iload 4, 2, 4, 0, 0) ::
  (82, .ireturn, 1, 0, 0, 0) ::
  (83, .iload_n 3, 1, 3, 0, 0) ::
  (84, .ifCond .ne 13, 3, 97, 0, 0) ::
  (87, .aload_n 0, 1, 0, 0, 0) ::
  (88, .getfield 15, 3, 2, 2, 0) ::
  (91, .iload_n 2, 1, 2, 0, 0) ::
  (92, .iaload, 1, 0, 0, 0) ::
  (93, .ineg, 1, 0, 0, 0) ::
  (94, .goto 9, 3, 103, 0, 0) ::
  (97, .aload_n 0, 1, 0, 0, 0) ::
  (98, .getfield 9, 3, 2, 1, 0) ::
  (101, .iload_n 2, 1, 2, 0, 0) ::
  (102, .iaload, 1, 0, 0, 0) ::
  (103, .ireturn, 1, 0, 0, 0) ::
  (104, .aload_n 0, 1, 0, 0, 0) ::
  (105, .getfield 9, 3, 2, 1, 0) ::
  (108, .iload_n 2, 1, 2, 0, 0) ::
  (109, .iaload, 1, 0, 0, 0) ::
  (110, .aload_n 0, 1, 0, 0, 0) ::
  (111, .getfield 9, 3, 2, 1, 0) ::
  (114, .iload_n 2, 1, 2, 0, 0) ::
  (115, .iaload, 1, 0, 0, 0) ::
  (116, .imul, 1, 0, 0, 0) ::
  (117, .aload_n 0, 1, 0, 0, 0) ::
  (118, .getfield 15, 3, 2, 2, 0) ::
  (121, .iload_n 2, 1, 2, 0, 0) ::
  (122, .iaload, 1, 0, 0, 0) ::
  (123, .aload_n 0, 1, 0, 0, 0) ::
  (124, .getfield 15, 3, 2, 2, 0) ::
  (127, .iload_n 2, 1, 2, 0, 0) ::
  (128, .iaload, 1, 0, 0, 0) ::
  (129, .imul, 1, 0, 0, 0) ::
  (130, .iadd, 1, 0, 0, 0) ::
  (131, .istore 5, 2, 5, 0, 0) ::
  (133, .iload 5, 2, 5, 0, 0) ::
  (135, .ifCond .ne 7, 3, 142, 0, 0) ::
  (138, .iconst 0, 1, 0, 0, 0) ::
  (139, .goto 11, 3, 150, 0, 0) ::
  (142, .bipush 40, 2, 0, 0, 40) ::
  (144, .iload 4, 2, 4, 0, 0) ::
  (146, .imul, 1, 0, 0, 0) ::
  (147, .iload 5, 2, 5, 0, 0) ::
  (149, .idiv, 1, 0, 0, 0) ::
  (150, .ireturn, 1, 0, 0, 0) ::
  (151, .iload_n 3, 1, 3, 0, 0) ::
  (152, .ifCond .ne 19, 3, 171, 0, 0) ::
  (155, .aload_n 0, 1, 0, 0, 0) ::
  (156, .getfield 9, 3, 2, 1, 0) ::
  (159, .iload_n 2, 1, 2, 0, 0) ::
  (160, .iaload, 1, 0, 0, 0) ::
  (161, .aload_n 0, 1, 0, 0, 0) ::
  (162, .getfield 15, 3, 2, 2, 0) ::
  (165, .iload_n 2, 1, 2, 0, 0) ::
  (166, .iaload, 1, 0, 0, 0) ::
  (167, .imul, 1, 0, 0, 0) ::
  (168, .goto 4, 3, 172, 0, 0) ::
  (171, .iconst 0, 1, 0, 0, 0) ::
  (172, .ireturn, 1, 0, 0, 0) ::
  (173, .iconst 0, 1, 0, 0, 0) ::
  (174, .ireturn, 1, 0, 0, 0) ::
  []
def r_31 : List ax_E :=
  (0, .iload_n 3, 1, 3, 0, 0) ::
  (1, .ifCond .ne 12, 3, 13, 0, 0) ::
  (4, .aload_n 0, 1, 0, 0, 0) ::
  (5, .getfield 9, 3, 2, 1, 0) ::
  (8, .iload_n 2, 1, 2, 0, 0) ::
  (9, .iaload, 1, 0, 0, 0) ::
  (10, .goto 9, 3, 19, 0, 0) ::
  (13, .aload_n 0, 1, 0, 0, 0) ::
  (14, .getfield 15, 3, 2, 2, 0) ::
  (17, .iload_n 2, 1, 2, 0, 0) ::
  (18, .iaload, 1, 0, 0, 0) ::
  (19, .jsr 0, 0, 15, 0, 0) ::
  r_31_19
/-- 32 BlackSun.gives(III)I -/
def r_32 : List ax_E :=
  (0, .iload_n 1, 1, 1, 0, 0) ::
  (1, .invokestatic 114, 3, 30, 0, 1) ::
  (4, .ifCond .eq 24, 3, 28, 0, 0) ::
  (7, .aload_n 0, 1, 0, 0, 0) ::
  (8, .getfield 10, 3, 0, 0, 0) ::
  (11, .getfield 49, 3, 1, 1, 0) ::
  (14, .iload_n 2, 1, 2, 0, 0) ::
  (15, .invokevirtual 59, 3, 14, 4, 1) ::
  (18, .ifCond .eq 10, 3, 28, 0, 0) ::
  (21, .iload_n 3, 1, 3, 0, 0) ::
  (22, .invokestatic 103, 3, 27, 0, 1) ::
  (25, .ifCond .ne 7, 3, 32, 0, 0) ::
  (28, .sipush (-1000), 3, 0, 0, (-1000)) ::
  (31, .ireturn, 1, 0, 0, 0) ::
  (32, .aload_n 0, 1, 0, 0, 0) ::
  (33, .getfield 10, 3, 0, 0, 0) ::
  (36, .getfield 49, 3, 1, 1, 0) ::
  (39, .iload_n 1, 1, 1, 0, 0) ::
  (40, .iload_n 2, 1, 2, 0, 0) ::
  (41, .iload_n 3, 1, 3, 0, 0) ::
  (42, .invokevirtual 117, 3, 31, 4, 1) ::
  (45, .ireturn, 1, 0, 0, 0) ::
  []
/-- 33 BlackSun$Reader.append(I)V -/
def r_33_3 : List ax_E :=
  (3, .iload_n 2, 1, 2, 0, 0) ::
  (4, .ifCond .lt 45, 3, 49, 0, 0) ::
  (7, .aload_n 0, 1, 0, 0, 0) ::
  (8, .getfield 27, 3, 6, 0, 0) ::
  (11, .sipush 400, 3, 0, 0, 400) ::
  (14, .if_icmp .ge 35, 3, 49, 0, 0) ::
  (17, .aload_n 0, 1, 0, 0, 0) ::
  (18, .getfield 9, 3, 6, 2, 0) ::
  (21, .aload_n 0, 1, 0, 0, 0) ::
  (22, .getfield 27, 3, 6, 0, 0) ::
  (25, .iload_n 1, 1, 1, 0, 0) ::
  (26, .iload_n 2, 1, 2, 0, 0) ::
  (27, .ishr, 1, 0, 0, 0) ::
  (28, .sipush 255, 3, 0, 0, 255) ::
  (31, .iand, 1, 0, 0, 0) ::
  (32, .iastore, 1, 0, 0, 0) ::
  (33, .aload_n 0, 1, 0, 0, 0) ::
  (34, .dup, 1, 0, 0, 0) ::
  (35, .getfield 27, 3, 6, 0, 0) ::
  (38, .iconst 1, 1, 0, 0, 1) ::
  (39, .iadd, 1, 0, 0, 0) ::
  (40, .putfield 27, 3, 6, 0, 0) ::
  (43, .iinc 2 (-8), 3, 2, 0, (-8)) ::
  (46, .goto (-43), 3, 3, 0, 0) ::
  (49, .return_, 1, 0, 0, 0) ::
  []
def r_33 : List ax_E :=
  (0, .bipush 24, 2, 0, 0, 24) ::
  (2, .istore_n 2, 1, 2, 0, 0) ::
  (3, .jsr 0, 0, 7, 0, 0) ::
  r_33_3
/-- 34 BlackSun.feed(IIIII)I -/
def r_34 : List ax_E :=
  (0, .aload_n 0, 1, 0, 0, 0) ::
  (1, .getfield 23, 3, 0, 2, 0) ::
  (4, .getfield 120, 3, 6, 0, 0) ::
  (7, .bipush 20, 2, 0, 0, 20) ::
  (9, .iadd, 1, 0, 0, 0) ::
  (10, .sipush 400, 3, 0, 0, 400) ::
  (13, .if_icmp .le 5, 3, 18, 0, 0) ::
  (16, .iconst (-1), 1, 0, 0, (-1)) ::
  (17, .ireturn, 1, 0, 0, 0) ::
  (18, .aload_n 0, 1, 0, 0, 0) ::
  (19, .getfield 23, 3, 0, 2, 0) ::
  (22, .iload_n 1, 1, 1, 0, 0) ::
  (23, .invokevirtual 123, 3, 33, 12, 0) ::
  (26, .aload_n 0, 1, 0, 0, 0) ::
  (27, .getfield 23, 3, 0, 2, 0) ::
  (30, .iload_n 2, 1, 2, 0, 0) ::
  (31, .invokevirtual 123, 3, 33, 12, 0) ::
  (34, .aload_n 0, 1, 0, 0, 0) ::
  (35, .getfield 23, 3, 0, 2, 0) ::
  (38, .iload_n 3, 1, 3, 0, 0) ::
  (39, .invokevirtual 123, 3, 33, 12, 0) ::
  (42, .aload_n 0, 1, 0, 0, 0) ::
  (43, .getfield 23, 3, 0, 2, 0) ::
  (46, .iload 4, 2, 4, 0, 0) ::
  (48, .invokevirtual 123, 3, 33, 12, 0) ::
  (51, .aload_n 0, 1, 0, 0, 0) ::
  (52, .getfield 23, 3, 0, 2, 0) ::
  (55, .iload 5, 2, 5, 0, 0) ::
  (57, .invokevirtual 123, 3, 33, 12, 0) ::
  (60, .aload_n 0, 1, 0, 0, 0) ::
  (61, .getfield 23, 3, 0, 2, 0) ::
  (64, .getfield 120, 3, 6, 0, 0) ::
  (67, .ireturn, 1, 0, 0, 0) ::
  []
/-- 35 BlackSun.end(I)I -/
def r_35 : List ax_E :=
  (0, .iload_n 1, 1, 1, 0, 0) ::
  (1, .iconst 0, 1, 0, 0, 0) ::
  (2, .aload_n 0, 1, 0, 0, 0) ::
  (3, .getfield 23, 3, 0, 2, 0) ::
  (6, .getfield 120, 3, 6, 0, 0) ::
  (9, .invokestatic 45, 3, 11, 0, 1) ::
  (12, .ifCond .ne 5, 3, 17, 0, 0) ::
  (15, .iconst (-1), 1, 0, 0, (-1)) ::
  (16, .ireturn, 1, 0, 0, 0) ::
  (17, .aload_n 0, 1, 0, 0, 0) ::
  (18, .getfield 23, 3, 0, 2, 0) ::
  (21, .iload_n 1, 1, 1, 0, 0) ::
  (22, .putfield 120, 3, 6, 0, 0) ::
  (25, .iload_n 1, 1, 1, 0, 0) ::
  (26, .ireturn, 1, 0, 0, 0) ::
  []
/-- 36 BlackSun$Reader.forget()V -/
def r_36_32 : List ax_E :=
  (32, .iload_n 1, 1, 1, 0, 0) ::
  (33, .bipush 6, 2, 0, 0, 6) ::
  (35, .if_icmp .ge 23, 3, 58, 0, 0) ::
  (38, .aload_n 0, 1, 0, 0, 0) ::
  (39, .getfield 21, 3, 6, 13, 0) ::
  (42, .iload_n 1, 1, 1, 0, 0) ::
  (43, .iconst 0, 1, 0, 0, 0) ::
  (44, .iastore, 1, 0, 0, 0) ::
  (45, .aload_n 0, 1, 0, 0, 0) ::
  (46, .getfield 24, 3, 6, 14, 0) ::
  (49, .iload_n 1, 1, 1, 0, 0) ::
  (50, .iconst 0, 1, 0, 0, 0) ::
  (51, .iastore, 1, 0, 0, 0) ::
  (52, .iinc 1 1, 3, 1, 0, 1) ::
  (55, .goto (-23), 3, 32, 0, 0) ::
  (58, .return_, 1, 0, 0, 0) ::
  []
def r_36 : List ax_E :=
  (0, .aload_n 0, 1, 0, 0, 0) ::
  (1, .iconst 0, 1, 0, 0, 0) ::
  (2, .putfield 66, 3, 6, 1, 0) ::
  (5, .aload_n 0, 1, 0, 0, 0) ::
  (6, .iconst 0, 1, 0, 0, 0) ::
  (7, .putfield 59, 3, 6, 3, 0) ::
  (10, .aload_n 0, 1, 0, 0, 0) ::
  (11, .iconst 0, 1, 0, 0, 0) ::
  (12, .putfield 69, 3, 6, 4, 0) ::
  (15, .aload_n 0, 1, 0, 0, 0) ::
  (16, .iconst 0, 1, 0, 0, 0) ::
  (17, .putfield 72, 3, 6, 5, 0) ::
  (20, .aload_n 0, 1, 0, 0, 0) ::
  (21, .iconst (-1), 1, 0, 0, (-1)) ::
  (22, .putfield 49, 3, 6, 6, 0) ::
  (25, .aload_n 0, 1, 0, 0, 0) ::
  (26, .iconst 0, 1, 0, 0, 0) ::
  (27, .putfield 75, 3, 6, 11, 0) ::
  (30, .iconst 0, 1, 0, 0, 0) ::
  (31, .istore_n 1, 1, 1, 0, 0) ::
  (32, .jsr 0, 0, 3, 0, 0) ::
  r_36_32
/-- 37 BlackSun$Reader.next()I -/
def r_37_0 : List ax_E :=
  (0, .aload_n 0, 1, 0, 0, 0) ::
  (1, .getfield 59, 3, 6, 3, 0) ::
  (4, .aload_n 0, 1, 0, 0, 0) ::
  (5, .getfield 27, 3, 6, 0, 0) ::
  (8, .if_icmp .ge 30, 3, 38, 0, 0) ::
  (11, .aload_n 0, 1, 0, 0, 0) ::
  (12, .getfield 9, 3, 6, 2, 0) ::
  (15, .aload_n 0, 1, 0, 0, 0) ::
  (16, .getfield 59, 3, 6, 3, 0) ::
  (19, .iaload, 1, 0, 0, 0) ::
  (20, .bipush 32, 2, 0, 0, 32) ::
  (22, .if_icmp .ne 16, 3, 38, 0, 0) ::
  (25, .aload_n 0, 1, 0, 0, 0) ::
  (26, .dup, 1, 0, 0, 0) ::
  (27, .getfield 59, 3, 6, 3, 0) ::
  (30, .iconst 1, 1, 0, 0, 1) ::
  (31, .iadd, 1, 0, 0, 0) ::
  (32, .putfield 59, 3, 6, 3, 0) ::
  (35, .goto (-35), 3, 0, 0, 0) ::
  (38, .aload_n 0, 1, 0, 0, 0) ::
  (39, .getfield 59, 3, 6, 3, 0) ::
  (42, .aload_n 0, 1, 0, 0, 0) ::
  (43, .getfield 27, 3, 6, 0, 0) ::
  (46, .if_icmp .ge 15, 3, 61, 0, 0) ::
  (49, .aload_n 0, 1, 0, 0, 0) ::
  (50, .getfield 9, 3, 6, 2, 0) ::
  (53, .aload_n 0, 1, 0, 0, 0) ::
  (54, .getfield 59, 3, 6, 3, 0) ::
  (57, .iaload, 1, 0, 0, 0) ::
  (58, .goto 4, 3, 62, 0, 0) ::
  (61, .iconst (-1), 1, 0, 0, (-1)) ::
  (62, .ireturn, 1, 0, 0, 0) ::
  []
def r_37 : List ax_E :=
  (0, .jsr 0, 0, 1, 0, 0) ::
  r_37_0
/-- 38 BlackSun$Reader.takeWord(Ljava/lang/String;)I -/
def r_38_109 : List ax_E :=
  (109, .istore 7, 2, 7, 0, 0) ::
  (111, .iload 4, 2, 4, 0, 0) ::
  (113, .ifCond .eq 15, 3, 128, 0, 0) ::
  (116, .iload 7, 2, 7, 0, 0) ::
  (118, .ifCond .ne 10, 3, 128, 0, 0) ::
  (121, .aload_n 0, 1, 0, 0, 0) ::
  (122, .iload_n 3, 1, 3, 0, 0) ::
  (123, .putfield 59, 3, 6, 3, 0) ::
  (126, .iload_n 2, 1, 2, 0, 0) ::
  (127, .ireturn, 1, 0, 0, 0) ::
  (128, .iinc 2 1, 3, 2, 0, 1) ::
  (131, .aload_n 0, 1, 0, 0, 0) ::
  (132, .getfield 59, 3, 6, 3, 0) ::
  (135, .istore_n 3, 1, 3, 0, 0) ::
  (136, .iconst 1, 1, 0, 0, 1) ::
  (137, .istore 4, 2, 4, 0, 0) ::
  (139, .iinc 5 1, 3, 5, 0, 1) ::
  (142, .goto (-129), 3, 13, 0, 0) ::
  (145, .iconst (-1), 1, 0, 0, (-1)) ::
  (146, .ireturn, 1, 0, 0, 0) ::
  []
def r_38_13 : List ax_E :=
  (13, .iload 5, 2, 5, 0, 0) ::
  (15, .aload_n 1, 1, 1, 0, 0) ::
  (16, .invokevirtual 164, 3, 0, 90, 1) ::
  (19, .if_icmp .ge 126, 3, 145, 0, 0) ::
  (22, .aload_n 1, 1, 1, 0, 0) ::
  (23, .iload 5, 2, 5, 0, 0) ::
  (25, .invokevirtual 168, 3, 1, 90, 1) ::
  (28, .istore 6, 2, 6, 0, 0) ::
  (30, .iload 6, 2, 6, 0, 0) ::
  (32, .bipush 32, 2, 0, 0, 32) ::
  (34, .if_icmp .eq 40, 3, 74, 0, 0) ::
  (37, .iload 4, 2, 4, 0, 0) ::
  (39, .ifCond .eq 26, 3, 65, 0, 0) ::
  (42, .iload_n 3, 1, 3, 0, 0) ::
  (43, .aload_n 0, 1, 0, 0, 0) ::
  (44, .getfield 27, 3, 6, 0, 0) ::
  (47, .if_icmp .ge 18, 3, 65, 0, 0) ::
  (50, .aload_n 0, 1, 0, 0, 0) ::
  (51, .getfield 9, 3, 6, 2, 0) ::
  (54, .iload_n 3, 1, 3, 0, 0) ::
  (55, .iaload, 1, 0, 0, 0) ::
  (56, .iload 6, 2, 6, 0, 0) ::
  (58, .if_icmp .ne 7, 3, 65, 0, 0) ::
  (61, .iconst 1, 1, 0, 0, 1) ::
  (62, .goto 4, 3, 66, 0, 0) ::
  (65, .iconst 0, 1, 0, 0, 0) ::
  (66, .istore 4, 2, 4, 0, 0) ::
  (68, .iinc 3 1, 3, 3, 0, 1) ::
  (71, .goto 68, 3, 139, 0, 0) ::
  (74, .iload_n 3, 1, 3, 0, 0) ::
  (75, .aload_n 0, 1, 0, 0, 0) ::
  (76, .getfield 27, 3, 6, 0, 0) ::
  (79, .if_icmp .ge 29, 3, 108, 0, 0) ::
  (82, .aload_n 0, 1, 0, 0, 0) ::
  (83, .getfield 9, 3, 6, 2, 0) ::
  (86, .iload_n 3, 1, 3, 0, 0) ::
  (87, .iaload, 1, 0, 0, 0) ::
  (88, .bipush 97, 2, 0, 0, 97) ::
  (90, .if_icmp .lt 18, 3, 108, 0, 0) ::
  (93, .aload_n 0, 1, 0, 0, 0) ::
  (94, .getfield 9, 3, 6, 2, 0) ::
  (97, .iload_n 3, 1, 3, 0, 0) ::
  (98, .iaload, 1, 0, 0, 0) ::
  (99, .bipush 122, 2, 0, 0, 122) ::
  (101, .if_icmp .gt 7, 3, 108, 0, 0) ::
  (104, .iconst 1, 1, 0, 0, 1) ::
  (105, .goto 4, 3, 109, 0, 0) ::
  (108, .iconst 0, 1, 0, 0, 0) ::
  (109, .jsr 0, 0, 63, 0, 0) ::
  r_38_109
def r_38 : List ax_E :=
  (0, .iconst 0, 1, 0, 0, 0) ::
  (1, .istore_n 2, 1, 2, 0, 0) ::
  (2, .aload_n 0, 1, 0, 0, 0) ::
  (3, .getfield 59, 3, 6, 3, 0) ::
  (6, .istore_n 3, 1, 3, 0, 0) ::
  (7, .iconst 1, 1, 0, 0, 1) ::
  (8, .istore 4, 2, 4, 0, 0) ::
  (10, .iconst 0, 1, 0, 0, 0) ::
  (11, .istore 5, 2, 5, 0, 0) ::
  (13, .jsr 0, 0, 63, 0, 0) ::
  r_38_13
/-- 39 BlackSun$Reader.fail(II)Z -/
def r_39 : List ax_E :=
  (0, .aload_n 0, 1, 0, 0, 0) ::
  (1, .iconst 1, 1, 0, 0, 1) ::
  (2, .bipush 8, 2, 0, 0, 8) ::
  (4, .iload_n 1, 1, 1, 0, 0) ::
  (5, .imul, 1, 0, 0, 0) ::
  (6, .iadd, 1, 0, 0, 0) ::
  (7, .iload_n 2, 1, 2, 0, 0) ::
  (8, .iadd, 1, 0, 0, 0) ::
  (9, .putfield 66, 3, 6, 1, 0) ::
  (12, .iconst 0, 1, 0, 0, 0) ::
  (13, .ireturn, 1, 1, 0, 0) ::
  []
/-- 40 BlackSun$Reader.isDigit(I)Z -/
def r_40 : List ax_E :=
  (0, .iload_n 0, 1, 0, 0, 0) ::
  (1, .bipush 48, 2, 0, 0, 48) ::
  (3, .if_icmp .lt 13, 3, 16, 0, 0) ::
  (6, .iload_n 0, 1, 0, 0, 0) ::
  (7, .bipush 57, 2, 0, 0, 57) ::
  (9, .if_icmp .gt 7, 3, 16, 0, 0) ::
  (12, .iconst 1, 1, 0, 0, 1) ::
  (13, .goto 4, 3, 17, 0, 0) ::
  (16, .iconst 0, 1, 0, 0, 0) ::
  (17, .ireturn, 1, 1, 0, 0) ::
  []
/-- 41 BlackSun$Reader.readNumber(I)I -/
def r_41_77 : List ax_E :=
  (77, .iload_n 3, 1, 3, 0, 0) ::
  (78, .ifCond .ne 12, 3, 90, 0, 0) ::
  (81, .aload_n 0, 1, 0, 0, 0) ::
  (82, .iload_n 2, 1, 2, 0, 0) ::
  (83, .iconst 0, 1, 0, 0, 0) ::
  (84, .invokevirtual 62, 3, 39, 12, 1) ::
  (87, .pop, 1, 0, 0, 0) ::
  (88, .iconst (-1), 1, 0, 0, (-1)) ::
  (89, .ireturn, 1, 0, 0, 0) ::
  (90, .iload_n 3, 1, 3, 0, 0) ::
  (91, .iconst 5, 1, 0, 0, 5) ::
  (92, .if_icmp .gt 9, 3, 101, 0, 0) ::
  (95, .iload 4, 2, 4, 0, 0) ::
  (97, .iload_n 1, 1, 1, 0, 0) ::
  (98, .if_icmp .le 12, 3, 110, 0, 0) ::
  (101, .aload_n 0, 1, 0, 0, 0) ::
  (102, .iload_n 2, 1, 2, 0, 0) ::
  (103, .iconst 1, 1, 0, 0, 1) ::
  (104, .invokevirtual 62, 3, 39, 12, 1) ::
  (107, .pop, 1, 0, 0, 0) ::
  (108, .iconst (-1), 1, 0, 0, (-1)) ::
  (109, .ireturn, 1, 0, 0, 0) ::
  (110, .iload 4, 2, 4, 0, 0) ::
  (112, .ireturn, 1, 0, 0, 0) ::
  []
def r_41_10 : List ax_E :=
  (10, .aload_n 0, 1, 0, 0, 0) ::
  (11, .getfield 59, 3, 6, 3, 0) ::
  (14, .aload_n 0, 1, 0, 0, 0) ::
  (15, .getfield 27, 3, 6, 0, 0) ::
  (18, .if_icmp .ge 59, 3, 77, 0, 0) ::
  (21, .aload_n 0, 1, 0, 0, 0) ::
  (22, .getfield 9, 3, 6, 2, 0) ::
  (25, .aload_n 0, 1, 0, 0, 0) ::
  (26, .getfield 59, 3, 6, 3, 0) ::
  (29, .iaload, 1, 0, 0, 0) ::
  (30, .invokestatic 159, 3, 40, 0, 1) ::
  (33, .ifCond .eq 44, 3, 77, 0, 0) ::
  (36, .iload_n 3, 1, 3, 0, 0) ::
  (37, .iconst 5, 1, 0, 0, 5) ::
  (38, .if_icmp .ge 23, 3, 61, 0, 0) ::
  (41, .iload 4, 2, 4, 0, 0) ::
  (43, .bipush 10, 2, 0, 0, 10) ::
  (45, .imul, 1, 0, 0, 0) ::
  (46, .aload_n 0, 1, 0, 0, 0) ::
  (47, .getfield 9, 3, 6, 2, 0) ::
  (50, .aload_n 0, 1, 0, 0, 0) ::
  (51, .getfield 59, 3, 6, 3, 0) ::
  (54, .iaload, 1, 0, 0, 0) ::
  (55, .iadd, 1, 0, 0, 0) ::
  (56, .bipush 48, 2, 0, 0, 48) ::
  (58, .isub, 1, 0, 0, 0) ::
  (59, .istore 4, 2, 4, 0, 0) ::
  (61, .iinc 3 1, 3, 3, 0, 1) ::
  (64, .aload_n 0, 1, 0, 0, 0) ::
  (65, .dup, 1, 0, 0, 0) ::
  (66, .getfield 59, 3, 6, 3, 0) ::
  (69, .iconst 1, 1, 0, 0, 1) ::
  (70, .iadd, 1, 0, 0, 0) ::
  (71, .putfield 59, 3, 6, 3, 0) ::
  (74, .goto (-64), 3, 10, 0, 0) ::
  (77, .jsr 0, 0, 31, 0, 0) ::
  r_41_77
def r_41 : List ax_E :=
  (0, .aload_n 0, 1, 0, 0, 0) ::
  (1, .getfield 59, 3, 6, 3, 0) ::
  (4, .istore_n 2, 1, 2, 0, 0) ::
  (5, .iconst 0, 1, 0, 0, 0) ::
  (6, .istore_n 3, 1, 3, 0, 0) ::
  (7, .iconst 0, 1, 0, 0, 0) ::
  (8, .istore 4, 2, 4, 0, 0) ::
  (10, .jsr 0, 0, 31, 0, 0) ::
  r_41_10
/-- 42 BlackSun$Reader.readHeld(I)Z -/
def r_42_29 : List ax_E :=
  (29, .aload_n 0, 1, 0, 0, 0) ::
  (30, .ldc 105, 2, 0, 0, 99999) ::
  (32, .invokevirtual 106, 3, 41, 12, 1) ::
  (35, .istore_n 3, 1, 3, 0, 0) ::
  (36, .iload_n 3, 1, 3, 0, 0) ::
  (37, .iconst (-1), 1, 0, 0, (-1)) ::
  (38, .if_icmp .ne 5, 3, 43, 0, 0) ::
  (41, .iconst 0, 1, 0, 0, 0) ::
  (42, .ireturn, 1, 1, 0, 0) ::
  (43, .aload_n 0, 1, 0, 0, 0) ::
  (44, .getfield 24, 3, 6, 14, 0) ::
  (47, .iload_n 1, 1, 1, 0, 0) ::
  (48, .iload_n 2, 1, 2, 0, 0) ::
  (49, .ifCond .eq 8, 3, 57, 0, 0) ::
  (52, .iload_n 3, 1, 3, 0, 0) ::
  (53, .ineg, 1, 0, 0, 0) ::
  (54, .goto 4, 3, 58, 0, 0) ::
  (57, .iload_n 3, 1, 3, 0, 0) ::
  (58, .iastore, 1, 0, 0, 0) ::
  (59, .iconst 1, 1, 0, 0, 1) ::
  (60, .ireturn, 1, 1, 0, 0) ::
  []
def r_42 : List ax_E :=
  (0, .aload_n 0, 1, 0, 0, 0) ::
  (1, .invokevirtual 38, 3, 37, 12, 1) ::
  (4, .bipush 45, 2, 0, 0, 45) ::
  (6, .if_icmp .ne 7, 3, 13, 0, 0) ::
  (9, .iconst 1, 1, 0, 0, 1) ::
  (10, .goto 4, 3, 14, 0, 0) ::
  (13, .iconst 0, 1, 0, 0, 0) ::
  (14, .istore_n 2, 1, 2, 0, 0) ::
  (15, .iload_n 2, 1, 2, 0, 0) ::
  (16, .ifCond .eq 13, 3, 29, 0, 0) ::
  (19, .aload_n 0, 1, 0, 0, 0) ::
  (20, .dup, 1, 0, 0, 0) ::
  (21, .getfield 59, 3, 6, 3, 0) ::
  (24, .iconst 1, 1, 0, 0, 1) ::
  (25, .iadd, 1, 0, 0, 0) ::
  (26, .putfield 59, 3, 6, 3, 0) ::
  (29, .jsr 0, 0, 7, 0, 0) ::
  r_42_29
/-- 43 BlackSun$Reader.readTerm(I)Z -/
def r_43_80 : List ax_E :=
  (80, .iload_n 1, 1, 1, 0, 0) ::
  (81, .iconst 2, 1, 0, 0, 2) ::
  (82, .if_icmp .ne 11, 3, 93, 0, 0) ::
  (85, .aload_n 0, 1, 0, 0, 0) ::
  (86, .iload_n 3, 1, 3, 0, 0) ::
  (87, .invokevirtual 102, 3, 42, 12, 1) ::
  (90, .ifCond .eq 7, 3, 97, 0, 0) ::
  (93, .iconst 1, 1, 0, 0, 1) ::
  (94, .goto 4, 3, 98, 0, 0) ::
  (97, .iconst 0, 1, 0, 0, 0) ::
  (98, .ireturn, 1, 1, 0, 0) ::
  []
def r_43_58 : List ax_E :=
  (58, .aload_n 0, 1, 0, 0, 0) ::
  (59, .getfield 21, 3, 6, 13, 0) ::
  (62, .iload_n 3, 1, 3, 0, 0) ::
  (63, .iload_n 1, 1, 1, 0, 0) ::
  (64, .iastore, 1, 0, 0, 0) ::
  (65, .iload_n 1, 1, 1, 0, 0) ::
  (66, .iconst 1, 1, 0, 0, 1) ::
  (67, .if_icmp .ne 13, 3, 80, 0, 0) ::
  (70, .aload_n 0, 1, 0, 0, 0) ::
  (71, .dup, 1, 0, 0, 0) ::
  (72, .getfield 72, 3, 6, 5, 0) ::
  (75, .iconst 1, 1, 0, 0, 1) ::
  (76, .iadd, 1, 0, 0, 0) ::
  (77, .putfield 72, 3, 6, 5, 0) ::
  (80, .jsr 0, 0, 11, 0, 0) ::
  r_43_80
def r_43 : List ax_E :=
  (0, .aload_n 0, 1, 0, 0, 0) ::
  (1, .invokevirtual 38, 3, 37, 12, 1) ::
  (4, .pop, 1, 0, 0, 0) ::
  (5, .aload_n 0, 1, 0, 0, 0) ::
  (6, .getfield 59, 3, 6, 3, 0) ::
  (9, .istore_n 2, 1, 2, 0, 0) ::
  (10, .aload_n 0, 1, 0, 0, 0) ::
  (11, .ldc 100, 2, 2, 1, 0) ::
  (13, .invokevirtual 86, 3, 38, 12, 1) ::
  (16, .istore_n 3, 1, 3, 0, 0) ::
  (17, .iload_n 3, 1, 3, 0, 0) ::
  (18, .iconst (-1), 1, 0, 0, (-1)) ::
  (19, .if_icmp .ne 10, 3, 29, 0, 0) ::
  (22, .aload_n 0, 1, 0, 0, 0) ::
  (23, .iload_n 2, 1, 2, 0, 0) ::
  (24, .iconst 0, 1, 0, 0, 0) ::
  (25, .invokevirtual 62, 3, 39, 12, 1) ::
  (28, .ireturn, 1, 1, 0, 0) ::
  (29, .aload_n 0, 1, 0, 0, 0) ::
  (30, .getfield 21, 3, 6, 13, 0) ::
  (33, .iload_n 3, 1, 3, 0, 0) ::
  (34, .iaload, 1, 0, 0, 0) ::
  (35, .ifCond .ne 16, 3, 51, 0, 0) ::
  (38, .iload_n 1, 1, 1, 0, 0) ::
  (39, .iconst 1, 1, 0, 0, 1) ::
  (40, .if_icmp .ne 18, 3, 58, 0, 0) ::
  (43, .aload_n 0, 1, 0, 0, 0) ::
  (44, .getfield 72, 3, 6, 5, 0) ::
  (47, .iconst 3, 1, 0, 0, 3) ::
  (48, .if_icmp .ne 10, 3, 58, 0, 0) ::
  (51, .aload_n 0, 1, 0, 0, 0) ::
  (52, .iload_n 2, 1, 2, 0, 0) ::
  (53, .iconst 5, 1, 0, 0, 5) ::
  (54, .invokevirtual 62, 3, 39, 12, 1) ::
  (57, .ireturn, 1, 1, 0, 0) ::
  (58, .jsr 0, 0, 11, 0, 0) ::
  r_43_58
/-- 44 BlackSun$Reader.await(I)V -/
def r_44 : List ax_E :=
  (0, .aload_n 0, 1, 0, 0, 0) ::
  (1, .getfield 112, 3, 6, 9, 0) ::
  (4, .bipush 64, 2, 0, 0, 64) ::
  (6, .if_icmp .ge 23, 3, 29, 0, 0) ::
  (9, .aload_n 0, 1, 0, 0, 0) ::
  (10, .getfield 15, 3, 6, 10, 0) ::
  (13, .aload_n 0, 1, 0, 0, 0) ::
  (14, .getfield 112, 3, 6, 9, 0) ::
  (17, .iload_n 1, 1, 1, 0, 0) ::
  (18, .iastore, 1, 0, 0, 0) ::
  (19, .aload_n 0, 1, 0, 0, 0) ::
  (20, .dup, 1, 0, 0, 0) ::
  (21, .getfield 112, 3, 6, 9, 0) ::
  (24, .iconst 1, 1, 0, 0, 1) ::
  (25, .iadd, 1, 0, 0, 0) ::
  (26, .putfield 112, 3, 6, 9, 0) ::
  (29, .return_, 1, 0, 0, 0) ::
  []
/-- 45 BlackSun$Reader.openDeeper(II)Z -/
def r_45 : List ax_E :=
  (0, .aload_n 0, 1, 0, 0, 0) ::
  (1, .getfield 115, 3, 6, 8, 0) ::
  (4, .bipush 10, 2, 0, 0, 10) ::
  (6, .if_icmp .lt 10, 3, 16, 0, 0) ::
  (9, .aload_n 0, 1, 0, 0, 0) ::
  (10, .iload_n 1, 1, 1, 0, 0) ::
  (11, .iconst 2, 1, 0, 0, 2) ::
  (12, .invokevirtual 62, 3, 39, 12, 1) ::
  (15, .ireturn, 1, 1, 0, 0) ::
  (16, .aload_n 0, 1, 0, 0, 0) ::
  (17, .dup, 1, 0, 0, 0) ::
  (18, .getfield 115, 3, 6, 8, 0) ::
  (21, .iconst 1, 1, 0, 0, 1) ::
  (22, .iadd, 1, 0, 0, 0) ::
  (23, .putfield 115, 3, 6, 8, 0) ::
  (26, .aload_n 0, 1, 0, 0, 0) ::
  (27, .iload_n 2, 1, 2, 0, 0) ::
  (28, .invokevirtual 139, 3, 44, 12, 0) ::
  (31, .iconst 1, 1, 0, 0, 1) ::
  (32, .ireturn, 1, 1, 0, 0) ::
  []
/-- 46 BlackSun$Reader.step(II)V -/
def r_46 : List ax_E :=
  (0, .aload_n 0, 1, 0, 0, 0) ::
  (1, .getfield 75, 3, 6, 11, 0) ::
  (4, .sipush 400, 3, 0, 0, 400) ::
  (7, .if_icmp .ge 27, 3, 34, 0, 0) ::
  (10, .aload_n 0, 1, 0, 0, 0) ::
  (11, .getfield 18, 3, 6, 12, 0) ::
  (14, .aload_n 0, 1, 0, 0, 0) ::
  (15, .getfield 75, 3, 6, 11, 0) ::
  (18, .iload_n 1, 1, 1, 0, 0) ::
  (19, .iload_n 2, 1, 2, 0, 0) ::
  (20, .iconst 4, 1, 0, 0, 4) ::
  (21, .ishl, 1, 0, 0, 0) ::
  (22, .ior, 1, 0, 0, 0) ::
  (23, .iastore, 1, 0, 0, 0) ::
  (24, .aload_n 0, 1, 0, 0, 0) ::
  (25, .dup, 1, 0, 0, 0) ::
  (26, .getfield 75, 3, 6, 11, 0) ::
  (29, .iconst 1, 1, 0, 0, 1) ::
  (30, .iadd, 1, 0, 0, 0) ::
  (31, .putfield 75, 3, 6, 11, 0) ::
  (34, .return_, 1, 0, 0, 0) ::
  []
/-- 47 BlackSun$Reader.countOneMore(I)Z -/
def r_47 : List ax_E :=
  (0, .aload_n 0, 1, 0, 0, 0) ::
  (1, .dup, 1, 0, 0, 0) ::
  (2, .getfield 69, 3, 6, 4, 0) ::
  (5, .iconst 1, 1, 0, 0, 1) ::
  (6, .iadd, 1, 0, 0, 0) ::
  (7, .putfield 69, 3, 6, 4, 0) ::
  (10, .aload_n 0, 1, 0, 0, 0) ::
  (11, .getfield 69, 3, 6, 4, 0) ::
  (14, .bipush 60, 2, 0, 0, 60) ::
  (16, .if_icmp .le 12, 3, 28, 0, 0) ::
  (19, .aload_n 0, 1, 0, 0, 0) ::
  (20, .iload_n 1, 1, 1, 0, 0) ::
  (21, .iconst 3, 1, 0, 0, 3) ::
  (22, .invokevirtual 62, 3, 39, 12, 1) ::
  (25, .ifCond .eq 7, 3, 32, 0, 0) ::
  (28, .iconst 1, 1, 0, 0, 1) ::
  (29, .goto 4, 3, 33, 0, 0) ::
  (32, .iconst 0, 1, 0, 0, 0) ::
  (33, .ireturn, 1, 1, 0, 0) ::
  []
/-- 48 BlackSun$Reader.readValue()Z -/
def r_48_32 : List ax_E :=
  (32, .istore_n 3, 1, 3, 0, 0) ::
  (33, .iload_n 3, 1, 3, 0, 0) ::
  (34, .iconst (-1), 1, 0, 0, (-1)) ::
  (35, .if_icmp .ne 18, 3, 53, 0, 0) ::
  (38, .iload_n 1, 1, 1, 0, 0) ::
  (39, .ifCond .eq 7, 3, 46, 0, 0) ::
  (42, .iconst 0, 1, 0, 0, 0) ::
  (43, .goto 9, 3, 52, 0, 0) ::
  (46, .aload_n 0, 1, 0, 0, 0) ::
  (47, .iload_n 2, 1, 2, 0, 0) ::
  (48, .iconst 0, 1, 0, 0, 0) ::
  (49, .invokevirtual 62, 3, 39, 12, 1) ::
  (52, .ireturn, 1, 1, 0, 0) ::
  (53, .aload_n 0, 1, 0, 0, 0) ::
  (54, .iload_n 1, 1, 1, 0, 0) ::
  (55, .ifCond .eq 7, 3, 62, 0, 0) ::
  (58, .iconst 0, 1, 0, 0, 0) ::
  (59, .goto 4, 3, 63, 0, 0) ::
  (62, .iconst 1, 1, 0, 0, 1) ::
  (63, .iload_n 3, 1, 3, 0, 0) ::
  (64, .invokevirtual 127, 3, 46, 12, 0) ::
  (67, .aload_n 0, 1, 0, 0, 0) ::
  (68, .iload_n 2, 1, 2, 0, 0) ::
  (69, .invokevirtual 156, 3, 47, 12, 1) ::
  (72, .ireturn, 1, 1, 0, 0) ::
  []
def r_48 : List ax_E :=
  (0, .aload_n 0, 1, 0, 0, 0) ::
  (1, .invokevirtual 38, 3, 37, 12, 1) ::
  (4, .invokestatic 159, 3, 40, 0, 1) ::
  (7, .istore_n 1, 1, 1, 0, 0) ::
  (8, .aload_n 0, 1, 0, 0, 0) ::
  (9, .getfield 59, 3, 6, 3, 0) ::
  (12, .istore_n 2, 1, 2, 0, 0) ::
  (13, .iload_n 1, 1, 1, 0, 0) ::
  (14, .ifCond .eq 12, 3, 26, 0, 0) ::
  (17, .aload_n 0, 1, 0, 0, 0) ::
  (18, .ldc 105, 2, 0, 0, 99999) ::
  (20, .invokevirtual 106, 3, 41, 12, 1) ::
  (23, .goto 9, 3, 32, 0, 0) ::
  (26, .aload_n 0, 1, 0, 0, 0) ::
  (27, .ldc 162, 2, 5, 1, 0) ::
  (29, .invokevirtual 86, 3, 38, 12, 1) ::
  (32, .jsr 0, 0, 7, 0, 0) ::
  r_48_32
/-- 49 BlackSun$Reader.readOperand()Z -/
def r_49_74 : List ax_E :=
  (74, .aload_n 0, 1, 0, 0, 0) ::
  (75, .aload_n 0, 1, 0, 0, 0) ::
  (76, .getfield 118, 3, 6, 7, 0) ::
  (79, .iconst 3, 1, 0, 0, 3) ::
  (80, .if_icmp .ne 7, 3, 87, 0, 0) ::
  (83, .iconst 4, 1, 0, 0, 4) ::
  (84, .goto 4, 3, 88, 0, 0) ::
  (87, .iconst 2, 1, 0, 0, 2) ::
  (88, .putfield 118, 3, 6, 7, 0) ::
  (91, .aload_n 0, 1, 0, 0, 0) ::
  (92, .invokevirtual 136, 3, 48, 12, 1) ::
  (95, .ireturn, 1, 1, 0, 0) ::
  []
def r_49_49 : List ax_E :=
  (49, .aload_n 0, 1, 0, 0, 0) ::
  (50, .getfield 118, 3, 6, 7, 0) ::
  (53, .ifCond .ne 21, 3, 74, 0, 0) ::
  (56, .aload_n 0, 1, 0, 0, 0) ::
  (57, .ldc 134, 2, 4, 1, 0) ::
  (59, .invokevirtual 86, 3, 38, 12, 1) ::
  (62, .iconst (-1), 1, 0, 0, (-1)) ::
  (63, .if_icmp .eq 11, 3, 74, 0, 0) ::
  (66, .aload_n 0, 1, 0, 0, 0) ::
  (67, .iload_n 2, 1, 2, 0, 0) ::
  (68, .bipush 9, 2, 0, 0, 9) ::
  (70, .invokevirtual 131, 3, 45, 12, 1) ::
  (73, .ireturn, 1, 1, 0, 0) ::
  (74, .jsr 0, 0, 1, 0, 0) ::
  r_49_74
def r_49_14 : List ax_E :=
  (14, .istore_n 1, 1, 1, 0, 0) ::
  (15, .aload_n 0, 1, 0, 0, 0) ::
  (16, .getfield 59, 3, 6, 3, 0) ::
  (19, .istore_n 2, 1, 2, 0, 0) ::
  (20, .aload_n 0, 1, 0, 0, 0) ::
  (21, .getfield 118, 3, 6, 7, 0) ::
  (24, .ifCond .ne 25, 3, 49, 0, 0) ::
  (27, .iload_n 1, 1, 1, 0, 0) ::
  (28, .ifCond .eq 21, 3, 49, 0, 0) ::
  (31, .aload_n 0, 1, 0, 0, 0) ::
  (32, .dup, 1, 0, 0, 0) ::
  (33, .getfield 59, 3, 6, 3, 0) ::
  (36, .iconst 1, 1, 0, 0, 1) ::
  (37, .iadd, 1, 0, 0, 0) ::
  (38, .putfield 59, 3, 6, 3, 0) ::
  (41, .aload_n 0, 1, 0, 0, 0) ::
  (42, .iload_n 2, 1, 2, 0, 0) ::
  (43, .bipush 12, 2, 0, 0, 12) ::
  (45, .invokevirtual 131, 3, 45, 12, 1) ::
  (48, .ireturn, 1, 1, 0, 0) ::
  (49, .jsr 0, 0, 5, 0, 0) ::
  r_49_49
def r_49 : List ax_E :=
  (0, .aload_n 0, 1, 0, 0, 0) ::
  (1, .invokevirtual 38, 3, 37, 12, 1) ::
  (4, .bipush 91, 2, 0, 0, 91) ::
  (6, .if_icmp .ne 7, 3, 13, 0, 0) ::
  (9, .iconst 1, 1, 0, 0, 1) ::
  (10, .goto 4, 3, 14, 0, 0) ::
  (13, .iconst 0, 1, 0, 0, 0) ::
  (14, .jsr 0, 0, 1, 0, 0) ::
  r_49_14
/-- 50 BlackSun$Reader.bind(I)V -/
def r_50_7 : List ax_E :=
  (7, .iload_n 2, 1, 2, 0, 0) ::
  (8, .ifCond .lt 56, 3, 64, 0, 0) ::
  (11, .aload_n 0, 1, 0, 0, 0) ::
  (12, .getfield 15, 3, 6, 10, 0) ::
  (15, .iload_n 2, 1, 2, 0, 0) ::
  (16, .iaload, 1, 0, 0, 0) ::
  (17, .iload_n 1, 1, 1, 0, 0) ::
  (18, .if_icmp .gt 46, 3, 64, 0, 0) ::
  (21, .aload_n 0, 1, 0, 0, 0) ::
  (22, .aload_n 0, 1, 0, 0, 0) ::
  (23, .getfield 15, 3, 6, 10, 0) ::
  (26, .iload_n 2, 1, 2, 0, 0) ::
  (27, .iaload, 1, 0, 0, 0) ::
  (28, .iconst 0, 1, 0, 0, 0) ::
  (29, .invokevirtual 127, 3, 46, 12, 0) ::
  (32, .aload_n 0, 1, 0, 0, 0) ::
  (33, .getfield 15, 3, 6, 10, 0) ::
  (36, .iload_n 2, 1, 2, 0, 0) ::
  (37, .iaload, 1, 0, 0, 0) ::
  (38, .bipush 9, 2, 0, 0, 9) ::
  (40, .if_icmp .ne 13, 3, 53, 0, 0) ::
  (43, .aload_n 0, 1, 0, 0, 0) ::
  (44, .dup, 1, 0, 0, 0) ::
  (45, .getfield 115, 3, 6, 8, 0) ::
  (48, .iconst 1, 1, 0, 0, 1) ::
  (49, .isub, 1, 0, 0, 0) ::
  (50, .putfield 115, 3, 6, 8, 0) ::
  (53, .aload_n 0, 1, 0, 0, 0) ::
  (54, .iload_n 2, 1, 2, 0, 0) ::
  (55, .putfield 112, 3, 6, 9, 0) ::
  (58, .iinc 2 (-1), 3, 2, 0, (-1)) ::
  (61, .goto (-54), 3, 7, 0, 0) ::
  (64, .return_, 1, 0, 0, 0) ::
  []
def r_50 : List ax_E :=
  (0, .aload_n 0, 1, 0, 0, 0) ::
  (1, .getfield 112, 3, 6, 9, 0) ::
  (4, .iconst 1, 1, 0, 0, 1) ::
  (5, .isub, 1, 0, 0, 0) ::
  (6, .istore_n 2, 1, 2, 0, 0) ::
  (7, .jsr 0, 0, 7, 0, 0) ::
  r_50_7
/-- 51 BlackSun$Reader.readSign(I)Z -/
def r_51_102 : List ax_E :=
  (102, .aload_n 0, 1, 0, 0, 0) ::
  (103, .iconst 3, 1, 0, 0, 3) ::
  (104, .invokevirtual 143, 3, 50, 12, 0) ::
  (107, .iload_n 1, 1, 1, 0, 0) ::
  (108, .bipush 61, 2, 0, 0, 61) ::
  (110, .if_icmp .ne 12, 3, 122, 0, 0) ::
  (113, .aload_n 0, 1, 0, 0, 0) ::
  (114, .bipush 6, 2, 0, 0, 6) ::
  (116, .invokevirtual 139, 3, 44, 12, 0) ::
  (119, .goto 40, 3, 159, 0, 0) ::
  (122, .iload_n 1, 1, 1, 0, 0) ::
  (123, .bipush 60, 2, 0, 0, 60) ::
  (125, .if_icmp .ne 19, 3, 144, 0, 0) ::
  (128, .aload_n 0, 1, 0, 0, 0) ::
  (129, .iload_n 2, 1, 2, 0, 0) ::
  (130, .ifCond .eq 7, 3, 137, 0, 0) ::
  (133, .iconst 5, 1, 0, 0, 5) ::
  (134, .goto 4, 3, 138, 0, 0) ::
  (137, .iconst 4, 1, 0, 0, 4) ::
  (138, .invokevirtual 139, 3, 44, 12, 0) ::
  (141, .goto 18, 3, 159, 0, 0) ::
  (144, .aload_n 0, 1, 0, 0, 0) ::
  (145, .iload_n 2, 1, 2, 0, 0) ::
  (146, .ifCond .eq 8, 3, 154, 0, 0) ::
  (149, .bipush 7, 2, 0, 0, 7) ::
  (151, .goto 5, 3, 156, 0, 0) ::
  (154, .bipush 8, 2, 0, 0, 8) ::
  (156, .invokevirtual 139, 3, 44, 12, 0) ::
  (159, .aload_n 0, 1, 0, 0, 0) ::
  (160, .iconst 3, 1, 0, 0, 3) ::
  (161, .putfield 118, 3, 6, 7, 0) ::
  (164, .iconst 1, 1, 0, 0, 1) ::
  (165, .ireturn, 1, 1, 0, 0) ::
  []
def r_51_28 : List ax_E :=
  (28, .aload_n 0, 1, 0, 0, 0) ::
  (29, .aload_n 0, 1, 0, 0, 0) ::
  (30, .getfield 59, 3, 6, 3, 0) ::
  (33, .invokevirtual 156, 3, 47, 12, 1) ::
  (36, .ifCond .ne 5, 3, 41, 0, 0) ::
  (39, .iconst 0, 1, 0, 0, 0) ::
  (40, .ireturn, 1, 1, 0, 0) ::
  (41, .aload_n 0, 1, 0, 0, 0) ::
  (42, .dup, 1, 0, 0, 0) ::
  (43, .getfield 59, 3, 6, 3, 0) ::
  (46, .iconst 1, 1, 0, 0, 1) ::
  (47, .iadd, 1, 0, 0, 0) ::
  (48, .putfield 59, 3, 6, 3, 0) ::
  (51, .iload_n 1, 1, 1, 0, 0) ::
  (52, .bipush 61, 2, 0, 0, 61) ::
  (54, .if_icmp .eq 32, 3, 86, 0, 0) ::
  (57, .aload_n 0, 1, 0, 0, 0) ::
  (58, .getfield 59, 3, 6, 3, 0) ::
  (61, .aload_n 0, 1, 0, 0, 0) ::
  (62, .getfield 27, 3, 6, 0, 0) ::
  (65, .if_icmp .ge 21, 3, 86, 0, 0) ::
  (68, .aload_n 0, 1, 0, 0, 0) ::
  (69, .getfield 9, 3, 6, 2, 0) ::
  (72, .aload_n 0, 1, 0, 0, 0) ::
  (73, .getfield 59, 3, 6, 3, 0) ::
  (76, .iaload, 1, 0, 0, 0) ::
  (77, .bipush 61, 2, 0, 0, 61) ::
  (79, .if_icmp .ne 7, 3, 86, 0, 0) ::
  (82, .iconst 1, 1, 0, 0, 1) ::
  (83, .goto 4, 3, 87, 0, 0) ::
  (86, .iconst 0, 1, 0, 0, 0) ::
  (87, .istore_n 2, 1, 2, 0, 0) ::
  (88, .iload_n 2, 1, 2, 0, 0) ::
  (89, .ifCond .eq 13, 3, 102, 0, 0) ::
  (92, .aload_n 0, 1, 0, 0, 0) ::
  (93, .dup, 1, 0, 0, 0) ::
  (94, .getfield 59, 3, 6, 3, 0) ::
  (97, .iconst 1, 1, 0, 0, 1) ::
  (98, .iadd, 1, 0, 0, 0) ::
  (99, .putfield 59, 3, 6, 3, 0) ::
  (102, .jsr 0, 0, 7, 0, 0) ::
  r_51_102
def r_51 : List ax_E :=
  (0, .iload_n 1, 1, 1, 0, 0) ::
  (1, .bipush 60, 2, 0, 0, 60) ::
  (3, .if_icmp .eq 25, 3, 28, 0, 0) ::
  (6, .iload_n 1, 1, 1, 0, 0) ::
  (7, .bipush 61, 2, 0, 0, 61) ::
  (9, .if_icmp .eq 19, 3, 28, 0, 0) ::
  (12, .iload_n 1, 1, 1, 0, 0) ::
  (13, .bipush 62, 2, 0, 0, 62) ::
  (15, .if_icmp .eq 13, 3, 28, 0, 0) ::
  (18, .aload_n 0, 1, 0, 0, 0) ::
  (19, .aload_n 0, 1, 0, 0, 0) ::
  (20, .getfield 59, 3, 6, 3, 0) ::
  (23, .iconst 0, 1, 0, 0, 0) ::
  (24, .invokevirtual 62, 3, 39, 12, 1) ::
  (27, .ireturn, 1, 1, 0, 0) ::
  (28, .jsr 0, 0, 3, 0, 0) ::
  r_51_28
/-- 52 BlackSun$Reader.readClosing(I)Z -/
def r_52 : List ax_E :=
  (0, .aload_n 0, 1, 0, 0, 0) ::
  (1, .bipush 11, 2, 0, 0, 11) ::
  (3, .invokevirtual 143, 3, 50, 12, 0) ::
  (6, .aload_n 0, 1, 0, 0, 0) ::
  (7, .getfield 112, 3, 6, 9, 0) ::
  (10, .ifCond .ne 11, 3, 21, 0, 0) ::
  (13, .aload_n 0, 1, 0, 0, 0) ::
  (14, .bipush 6, 2, 0, 0, 6) ::
  (16, .putfield 118, 3, 6, 7, 0) ::
  (19, .iconst 1, 1, 0, 0, 1) ::
  (20, .ireturn, 1, 1, 0, 0) ::
  (21, .iload_n 1, 1, 1, 0, 0) ::
  (22, .bipush 93, 2, 0, 0, 93) ::
  (24, .if_icmp .eq 13, 3, 37, 0, 0) ::
  (27, .aload_n 0, 1, 0, 0, 0) ::
  (28, .aload_n 0, 1, 0, 0, 0) ::
  (29, .getfield 59, 3, 6, 3, 0) ::
  (32, .iconst 0, 1, 0, 0, 0) ::
  (33, .invokevirtual 62, 3, 39, 12, 1) ::
  (36, .ireturn, 1, 1, 0, 0) ::
  (37, .aload_n 0, 1, 0, 0, 0) ::
  (38, .dup, 1, 0, 0, 0) ::
  (39, .getfield 59, 3, 6, 3, 0) ::
  (42, .iconst 1, 1, 0, 0, 1) ::
  (43, .iadd, 1, 0, 0, 0) ::
  (44, .putfield 59, 3, 6, 3, 0) ::
  (47, .aload_n 0, 1, 0, 0, 0) ::
  (48, .dup, 1, 0, 0, 0) ::
  (49, .getfield 112, 3, 6, 9, 0) ::
  (52, .iconst 1, 1, 0, 0, 1) ::
  (53, .isub, 1, 0, 0, 0) ::
  (54, .putfield 112, 3, 6, 9, 0) ::
  (57, .aload_n 0, 1, 0, 0, 0) ::
  (58, .dup, 1, 0, 0, 0) ::
  (59, .getfield 115, 3, 6, 8, 0) ::
  (62, .iconst 1, 1, 0, 0, 1) ::
  (63, .isub, 1, 0, 0, 0) ::
  (64, .putfield 115, 3, 6, 8, 0) ::
  (67, .aload_n 0, 1, 0, 0, 0) ::
  (68, .iconst 5, 1, 0, 0, 5) ::
  (69, .putfield 118, 3, 6, 7, 0) ::
  (72, .iconst 1, 1, 0, 0, 1) ::
  (73, .ireturn, 1, 1, 0, 0) ::
  []
/-- 53 BlackSun$Reader.readOperator()Z -/
def r_53_118 : List ax_E :=
  (118, .iload_n 2, 1, 2, 0, 0) ::
  (119, .ifCond .eq 8, 3, 127, 0, 0) ::
  (122, .bipush 10, 2, 0, 0, 10) ::
  (124, .goto 5, 3, 129, 0, 0) ::
  (127, .bipush 11, 2, 0, 0, 11) ::
  (129, .istore_n 3, 1, 3, 0, 0) ::
  (130, .aload_n 0, 1, 0, 0, 0) ::
  (131, .iload_n 3, 1, 3, 0, 0) ::
  (132, .invokevirtual 143, 3, 50, 12, 0) ::
  (135, .aload_n 0, 1, 0, 0, 0) ::
  (136, .iload_n 3, 1, 3, 0, 0) ::
  (137, .invokevirtual 139, 3, 44, 12, 0) ::
  (140, .aload_n 0, 1, 0, 0, 0) ::
  (141, .iconst 0, 1, 0, 0, 0) ::
  (142, .putfield 118, 3, 6, 7, 0) ::
  (145, .iconst 1, 1, 0, 0, 1) ::
  (146, .ireturn, 1, 1, 0, 0) ::
  (147, .aload_n 0, 1, 0, 0, 0) ::
  (148, .iload_n 1, 1, 1, 0, 0) ::
  (149, .invokevirtual 153, 3, 52, 12, 1) ::
  (152, .ireturn, 1, 1, 0, 0) ::
  []
def r_53_74 : List ax_E :=
  (74, .aload_n 0, 1, 0, 0, 0) ::
  (75, .getfield 118, 3, 6, 7, 0) ::
  (78, .iconst 2, 1, 0, 0, 2) ::
  (79, .if_icmp .ne 9, 3, 88, 0, 0) ::
  (82, .aload_n 0, 1, 0, 0, 0) ::
  (83, .iload_n 1, 1, 1, 0, 0) ::
  (84, .invokevirtual 146, 3, 51, 12, 1) ::
  (87, .ireturn, 1, 1, 0, 0) ::
  (88, .aload_n 0, 1, 0, 0, 0) ::
  (89, .ldc 149, 2, 6, 1, 0) ::
  (91, .invokevirtual 86, 3, 38, 12, 1) ::
  (94, .iconst (-1), 1, 0, 0, (-1)) ::
  (95, .if_icmp .eq 7, 3, 102, 0, 0) ::
  (98, .iconst 1, 1, 0, 0, 1) ::
  (99, .goto 4, 3, 103, 0, 0) ::
  (102, .iconst 0, 1, 0, 0, 0) ::
  (103, .istore_n 2, 1, 2, 0, 0) ::
  (104, .iload_n 2, 1, 2, 0, 0) ::
  (105, .ifCond .ne 13, 3, 118, 0, 0) ::
  (108, .aload_n 0, 1, 0, 0, 0) ::
  (109, .ldc 151, 2, 7, 1, 0) ::
  (111, .invokevirtual 86, 3, 38, 12, 1) ::
  (114, .iconst (-1), 1, 0, 0, (-1)) ::
  (115, .if_icmp .eq 32, 3, 147, 0, 0) ::
  (118, .jsr 0, 0, 5, 0, 0) ::
  r_53_118
def r_53_52 : List ax_E :=
  (52, .invokevirtual 139, 3, 44, 12, 0) ::
  (55, .aload_n 0, 1, 0, 0, 0) ::
  (56, .aload_n 0, 1, 0, 0, 0) ::
  (57, .getfield 118, 3, 6, 7, 0) ::
  (60, .iconst 2, 1, 0, 0, 2) ::
  (61, .if_icmp .ne 7, 3, 68, 0, 0) ::
  (64, .iconst 1, 1, 0, 0, 1) ::
  (65, .goto 4, 3, 69, 0, 0) ::
  (68, .iconst 3, 1, 0, 0, 3) ::
  (69, .putfield 118, 3, 6, 7, 0) ::
  (72, .iconst 1, 1, 0, 0, 1) ::
  (73, .ireturn, 1, 1, 0, 0) ::
  (74, .jsr 0, 0, 3, 0, 0) ::
  r_53_74
def r_53_25 : List ax_E :=
  (25, .aload_n 0, 1, 0, 0, 0) ::
  (26, .dup, 1, 0, 0, 0) ::
  (27, .getfield 59, 3, 6, 3, 0) ::
  (30, .iconst 1, 1, 0, 0, 1) ::
  (31, .iadd, 1, 0, 0, 0) ::
  (32, .putfield 59, 3, 6, 3, 0) ::
  (35, .aload_n 0, 1, 0, 0, 0) ::
  (36, .iconst 3, 1, 0, 0, 3) ::
  (37, .invokevirtual 143, 3, 50, 12, 0) ::
  (40, .aload_n 0, 1, 0, 0, 0) ::
  (41, .iload_n 1, 1, 1, 0, 0) ::
  (42, .bipush 43, 2, 0, 0, 43) ::
  (44, .if_icmp .ne 7, 3, 51, 0, 0) ::
  (47, .iconst 2, 1, 0, 0, 2) ::
  (48, .goto 4, 3, 52, 0, 0) ::
  (51, .iconst 3, 1, 0, 0, 3) ::
  (52, .jsr 0, 0, 1, 0, 0) ::
  r_53_52
def r_53 : List ax_E :=
  (0, .aload_n 0, 1, 0, 0, 0) ::
  (1, .invokevirtual 38, 3, 37, 12, 1) ::
  (4, .istore_n 1, 1, 1, 0, 0) ::
  (5, .aload_n 0, 1, 0, 0, 0) ::
  (6, .getfield 118, 3, 6, 7, 0) ::
  (9, .iconst 5, 1, 0, 0, 5) ::
  (10, .if_icmp .eq 64, 3, 74, 0, 0) ::
  (13, .iload_n 1, 1, 1, 0, 0) ::
  (14, .bipush 43, 2, 0, 0, 43) ::
  (16, .if_icmp .eq 9, 3, 25, 0, 0) ::
  (19, .iload_n 1, 1, 1, 0, 0) ::
  (20, .bipush 45, 2, 0, 0, 45) ::
  (22, .if_icmp .ne 52, 3, 74, 0, 0) ::
  (25, .jsr 0, 0, 3, 0, 0) ::
  r_53_25
/-- 54 BlackSun$Reader.readLeave()Z -/
def r_54_99 : List ax_E :=
  (99, .istore_n 3, 1, 3, 0, 0) ::
  (100, .iload_n 3, 1, 3, 0, 0) ::
  (101, .ifCond .eq 13, 3, 114, 0, 0) ::
  (104, .aload_n 0, 1, 0, 0, 0) ::
  (105, .invokevirtual 121, 3, 49, 12, 1) ::
  (108, .ifCond .eq 13, 3, 121, 0, 0) ::
  (111, .goto 12, 3, 123, 0, 0) ::
  (114, .aload_n 0, 1, 0, 0, 0) ::
  (115, .invokevirtual 124, 3, 53, 12, 1) ::
  (118, .ifCond .ne 5, 3, 123, 0, 0) ::
  (121, .iconst 0, 1, 0, 0, 0) ::
  (122, .ireturn, 1, 1, 0, 0) ::
  (123, .iinc 2 1, 3, 2, 0, 1) ::
  (126, .goto (-71), 3, 55, 0, 0) ::
  (129, .iload_n 1, 1, 1, 0, 0) ::
  (130, .ifCond .ne 10, 3, 140, 0, 0) ::
  (133, .aload_n 0, 1, 0, 0, 0) ::
  (134, .bipush 11, 2, 0, 0, 11) ::
  (136, .iconst 0, 1, 0, 0, 0) ::
  (137, .invokevirtual 127, 3, 46, 12, 0) ::
  (140, .iconst 1, 1, 0, 0, 1) ::
  (141, .ireturn, 1, 1, 0, 0) ::
  []
def r_54_55 : List ax_E :=
  (55, .iload_n 2, 1, 2, 0, 0) ::
  (56, .sipush 400, 3, 0, 0, 400) ::
  (59, .if_icmp .gt 70, 3, 129, 0, 0) ::
  (62, .aload_n 0, 1, 0, 0, 0) ::
  (63, .getfield 118, 3, 6, 7, 0) ::
  (66, .bipush 6, 2, 0, 0, 6) ::
  (68, .if_icmp .eq 61, 3, 129, 0, 0) ::
  (71, .aload_n 0, 1, 0, 0, 0) ::
  (72, .getfield 118, 3, 6, 7, 0) ::
  (75, .ifCond .eq 19, 3, 94, 0, 0) ::
  (78, .aload_n 0, 1, 0, 0, 0) ::
  (79, .getfield 118, 3, 6, 7, 0) ::
  (82, .iconst 1, 1, 0, 0, 1) ::
  (83, .if_icmp .eq 11, 3, 94, 0, 0) ::
  (86, .aload_n 0, 1, 0, 0, 0) ::
  (87, .getfield 118, 3, 6, 7, 0) ::
  (90, .iconst 3, 1, 0, 0, 3) ::
  (91, .if_icmp .ne 7, 3, 98, 0, 0) ::
  (94, .iconst 1, 1, 0, 0, 1) ::
  (95, .goto 4, 3, 99, 0, 0) ::
  (98, .iconst 0, 1, 0, 0, 0) ::
  (99, .jsr 0, 0, 7, 0, 0) ::
  r_54_99
def r_54 : List ax_E :=
  (0, .aload_n 0, 1, 0, 0, 0) ::
  (1, .invokevirtual 38, 3, 37, 12, 1) ::
  (4, .pop, 1, 0, 0, 0) ::
  (5, .aload_n 0, 1, 0, 0, 0) ::
  (6, .ldc 110, 2, 3, 1, 0) ::
  (8, .invokevirtual 86, 3, 38, 12, 1) ::
  (11, .iconst (-1), 1, 0, 0, (-1)) ::
  (12, .if_icmp .ne 13, 3, 25, 0, 0) ::
  (15, .aload_n 0, 1, 0, 0, 0) ::
  (16, .aload_n 0, 1, 0, 0, 0) ::
  (17, .getfield 59, 3, 6, 3, 0) ::
  (20, .iconst 0, 1, 0, 0, 0) ::
  (21, .invokevirtual 62, 3, 39, 12, 1) ::
  (24, .ireturn, 1, 1, 0, 0) ::
  (25, .aload_n 0, 1, 0, 0, 0) ::
  (26, .getfield 75, 3, 6, 11, 0) ::
  (29, .ifCond .ne 7, 3, 36, 0, 0) ::
  (32, .iconst 1, 1, 0, 0, 1) ::
  (33, .goto 4, 3, 37, 0, 0) ::
  (36, .iconst 0, 1, 0, 0, 0) ::
  (37, .istore_n 1, 1, 1, 0, 0) ::
  (38, .aload_n 0, 1, 0, 0, 0) ::
  (39, .iconst 0, 1, 0, 0, 0) ::
  (40, .putfield 112, 3, 6, 9, 0) ::
  (43, .aload_n 0, 1, 0, 0, 0) ::
  (44, .iconst 0, 1, 0, 0, 0) ::
  (45, .putfield 115, 3, 6, 8, 0) ::
  (48, .aload_n 0, 1, 0, 0, 0) ::
  (49, .iconst 0, 1, 0, 0, 0) ::
  (50, .putfield 118, 3, 6, 7, 0) ::
  (53, .iconst 0, 1, 0, 0, 0) ::
  (54, .istore_n 2, 1, 2, 0, 0) ::
  (55, .jsr 0, 0, 7, 0, 0) ::
  r_54_55
/-- 55 BlackSun$Reader.readHand(I)Z -/
def r_55 : List ax_E :=
  (0, .aload_n 0, 1, 0, 0, 0) ::
  (1, .getfield 49, 3, 6, 6, 0) ::
  (4, .iconst (-1), 1, 0, 0, (-1)) ::
  (5, .if_icmp .eq 10, 3, 15, 0, 0) ::
  (8, .aload_n 0, 1, 0, 0, 0) ::
  (9, .iload_n 1, 1, 1, 0, 0) ::
  (10, .iconst 5, 1, 0, 0, 5) ::
  (11, .invokevirtual 62, 3, 39, 12, 1) ::
  (14, .ireturn, 1, 1, 0, 0) ::
  (15, .aload_n 0, 1, 0, 0, 0) ::
  (16, .invokevirtual 38, 3, 37, 12, 1) ::
  (19, .pop, 1, 0, 0, 0) ::
  (20, .aload_n 0, 1, 0, 0, 0) ::
  (21, .aload_n 0, 1, 0, 0, 0) ::
  (22, .bipush 7, 2, 0, 0, 7) ::
  (24, .invokevirtual 106, 3, 41, 12, 1) ::
  (27, .putfield 49, 3, 6, 6, 0) ::
  (30, .aload_n 0, 1, 0, 0, 0) ::
  (31, .getfield 49, 3, 6, 6, 0) ::
  (34, .iconst (-1), 1, 0, 0, (-1)) ::
  (35, .if_icmp .eq 7, 3, 42, 0, 0) ::
  (38, .iconst 1, 1, 0, 0, 1) ::
  (39, .goto 4, 3, 43, 0, 0) ::
  (42, .iconst 0, 1, 0, 0, 0) ::
  (43, .ireturn, 1, 1, 0, 0) ::
  []
/-- 56 BlackSun$Reader.readClause(I)Z -/
def r_56 : List ax_E :=
  (0, .aload_n 0, 1, 0, 0, 0) ::
  (1, .invokevirtual 38, 3, 37, 12, 1) ::
  (4, .pop, 1, 0, 0, 0) ::
  (5, .aload_n 0, 1, 0, 0, 0) ::
  (6, .getfield 59, 3, 6, 3, 0) ::
  (9, .istore_n 2, 1, 2, 0, 0) ::
  (10, .aload_n 0, 1, 0, 0, 0) ::
  (11, .ldc 84, 2, 1, 1, 0) ::
  (13, .invokevirtual 86, 3, 38, 12, 1) ::
  (16, .istore_n 3, 1, 3, 0, 0) ::
  (17, .iload_n 3, 1, 3, 0, 0) ::
  (18, .iconst (-1), 1, 0, 0, (-1)) ::
  (19, .if_icmp .ne 10, 3, 29, 0, 0) ::
  (22, .aload_n 0, 1, 0, 0, 0) ::
  (23, .iload_n 2, 1, 2, 0, 0) ::
  (24, .iconst 0, 1, 0, 0, 0) ::
  (25, .invokevirtual 62, 3, 39, 12, 1) ::
  (28, .ireturn, 1, 1, 0, 0) ::
  (29, .iload_n 1, 1, 1, 0, 0) ::
  (30, .bipush 12, 2, 0, 0, 12) ::
  (32, .if_icmp .lt 10, 3, 42, 0, 0) ::
  (35, .aload_n 0, 1, 0, 0, 0) ::
  (36, .iload_n 2, 1, 2, 0, 0) ::
  (37, .iconst 4, 1, 0, 0, 4) ::
  (38, .invokevirtual 62, 3, 39, 12, 1) ::
  (41, .ireturn, 1, 1, 0, 0) ::
  (42, .iload_n 3, 1, 3, 0, 0) ::
  (43, .tableswitch 52 0 3 #[29, 35, 41, 47], 29, 0, 0, 0) ::
  (72, .aload_n 0, 1, 0, 0, 0) ::
  (73, .iconst 1, 1, 0, 0, 1) ::
  (74, .invokevirtual 90, 3, 43, 12, 1) ::
  (77, .ireturn, 1, 1, 0, 0) ::
  (78, .aload_n 0, 1, 0, 0, 0) ::
  (79, .iconst 2, 1, 0, 0, 2) ::
  (80, .invokevirtual 90, 3, 43, 12, 1) ::
  (83, .ireturn, 1, 1, 0, 0) ::
  (84, .aload_n 0, 1, 0, 0, 0) ::
  (85, .iconst 3, 1, 0, 0, 3) ::
  (86, .invokevirtual 90, 3, 43, 12, 1) ::
  (89, .ireturn, 1, 1, 0, 0) ::
  (90, .aload_n 0, 1, 0, 0, 0) ::
  (91, .invokevirtual 93, 3, 54, 12, 1) ::
  (94, .ireturn, 1, 1, 0, 0) ::
  (95, .aload_n 0, 1, 0, 0, 0) ::
  (96, .iload_n 2, 1, 2, 0, 0) ::
  (97, .invokevirtual 97, 3, 55, 12, 1) ::
  (100, .ireturn, 1, 1, 0, 0) ::
  []
/-- 57 BlackSun$Reader.copyOfSteps()[I -/
def r_57 : List ax_E :=
  (0, .aload_n 0, 1, 0, 0, 0) ::
  (1, .getfield 75, 3, 6, 11, 0) ::
  (4, .newarray .int, 2, 16, 0, 0) ::
  (6, .astore_n 1, 1, 1, 0, 0) ::
  (7, .aload_n 0, 1, 0, 0, 0) ::
  (8, .getfield 18, 3, 6, 12, 0) ::
  (11, .iconst 0, 1, 0, 0, 0) ::
  (12, .aload_n 1, 1, 1, 0, 0) ::
  (13, .iconst 0, 1, 0, 0, 0) ::
  (14, .aload_n 0, 1, 0, 0, 0) ::
  (15, .getfield 75, 3, 6, 11, 0) ::
  (18, .invokestatic 78, 3, 16, 100, 0) ::
  (21, .aload_n 1, 1, 1, 0, 0) ::
  (22, .areturn, 1, 0, 0, 0) ::
  []
/-- 58 BlackSun$Way.<init>([I[II[I)V -/
def r_58 : List ax_E :=
  (0, .aload_n 0, 1, 0, 0, 0) ::
  (1, .invokespecial 3, 3, 0, 100, 0) ::
  (4, .aload_n 0, 1, 0, 0, 0) ::
  (5, .aload_n 1, 1, 1, 0, 0) ::
  (6, .putfield 9, 3, 5, 0, 0) ::
  (9, .aload_n 0, 1, 0, 0, 0) ::
  (10, .aload_n 2, 1, 2, 0, 0) ::
  (11, .putfield 15, 3, 5, 1, 0) ::
  (14, .aload_n 0, 1, 0, 0, 0) ::
  (15, .iload_n 3, 1, 3, 0, 0) ::
  (16, .putfield 18, 3, 5, 2, 0) ::
  (19, .aload_n 0, 1, 0, 0, 0) ::
  (20, .aload 4, 2, 4, 0, 0) ::
  (22, .putfield 22, 3, 5, 3, 0) ::
  (25, .return_, 1, 0, 0, 0) ::
  []
/-- 59 BlackSun$Reader.readWay()LBlackSun$Way; -/
def r_59_6 : List ax_E :=
  (6, .iload_n 1, 1, 1, 0, 0) ::
  (7, .bipush 12, 2, 0, 0, 12) ::
  (9, .if_icmp .gt 93, 3, 102, 0, 0) ::
  (12, .aload_n 0, 1, 0, 0, 0) ::
  (13, .iload_n 1, 1, 1, 0, 0) ::
  (14, .invokevirtual 34, 3, 56, 12, 1) ::
  (17, .ifCond .ne 5, 3, 22, 0, 0) ::
  (20, .aconst_null, 1, 0, 0, 0) ::
  (21, .areturn, 1, 0, 0, 0) ::
  (22, .aload_n 0, 1, 0, 0, 0) ::
  (23, .invokevirtual 38, 3, 37, 12, 1) ::
  (26, .istore_n 2, 1, 2, 0, 0) ::
  (27, .iload_n 2, 1, 2, 0, 0) ::
  (28, .iconst (-1), 1, 0, 0, (-1)) ::
  (29, .if_icmp .ne 39, 3, 68, 0, 0) ::
  (32, .new 42, 3, 5, 0, 0) ::
  (35, .dup, 1, 0, 0, 0) ::
  (36, .aload_n 0, 1, 0, 0, 0) ::
  (37, .getfield 21, 3, 6, 13, 0) ::
  (40, .invokevirtual 44, 3, 0, 100, 0) ::
  (43, .checkcast 45, 3, 0, 0, 0) ::
  (46, .aload_n 0, 1, 0, 0, 0) ::
  (47, .getfield 24, 3, 6, 14, 0) ::
  (50, .invokevirtual 44, 3, 0, 100, 0) ::
  (53, .checkcast 45, 3, 0, 0, 0) ::
  (56, .aload_n 0, 1, 0, 0, 0) ::
  (57, .getfield 49, 3, 6, 6, 0) ::
  (60, .aload_n 0, 1, 0, 0, 0) ::
  (61, .invokevirtual 52, 3, 57, 12, 3) ::
  (64, .invokespecial 56, 3, 58, 10, 0) ::
  (67, .areturn, 1, 0, 0, 0) ::
  (68, .iload_n 2, 1, 2, 0, 0) ::
  (69, .bipush 59, 2, 0, 0, 59) ::
  (71, .if_icmp .eq 15, 3, 86, 0, 0) ::
  (74, .aload_n 0, 1, 0, 0, 0) ::
  (75, .aload_n 0, 1, 0, 0, 0) ::
  (76, .getfield 59, 3, 6, 3, 0) ::
  (79, .iconst 0, 1, 0, 0, 0) ::
  (80, .invokevirtual 62, 3, 39, 12, 1) ::
  (83, .pop, 1, 0, 0, 0) ::
  (84, .aconst_null, 1, 0, 0, 0) ::
  (85, .areturn, 1, 0, 0, 0) ::
  (86, .aload_n 0, 1, 0, 0, 0) ::
  (87, .dup, 1, 0, 0, 0) ::
  (88, .getfield 59, 3, 6, 3, 0) ::
  (91, .iconst 1, 1, 0, 0, 1) ::
  (92, .iadd, 1, 0, 0, 0) ::
  (93, .putfield 59, 3, 6, 3, 0) ::
  (96, .iinc 1 1, 3, 1, 0, 1) ::
  (99, .goto (-93), 3, 6, 0, 0) ::
  (102, .aconst_null, 1, 0, 0, 0) ::
  (103, .areturn, 1, 0, 0, 0) ::
  []
def r_59 : List ax_E :=
  (0, .aload_n 0, 1, 0, 0, 0) ::
  (1, .invokevirtual 31, 3, 36, 12, 0) ::
  (4, .iconst 0, 1, 0, 0, 0) ::
  (5, .istore_n 1, 1, 1, 0, 0) ::
  (6, .jsr 0, 0, 3, 0, 0) ::
  r_59_6
/-- 60 BlackSun.way()I -/
def r_60 : List ax_E :=
  (0, .aload_n 0, 1, 0, 0, 0) ::
  (1, .getfield 10, 3, 0, 0, 0) ::
  (4, .getfield 127, 3, 1, 4, 0) ::
  (7, .bipush 10, 2, 0, 0, 10) ::
  (9, .if_icmp .lt 5, 3, 14, 0, 0) ::
  (12, .iconst (-1), 1, 0, 0, (-1)) ::
  (13, .ireturn, 1, 0, 0, 0) ::
  (14, .aload_n 0, 1, 0, 0, 0) ::
  (15, .getfield 23, 3, 0, 2, 0) ::
  (18, .invokevirtual 130, 3, 59, 12, 3) ::
  (21, .astore_n 1, 1, 1, 0, 0) ::
  (22, .aload_n 0, 1, 0, 0, 0) ::
  (23, .getfield 23, 3, 0, 2, 0) ::
  (26, .iconst 0, 1, 0, 0, 0) ::
  (27, .putfield 120, 3, 6, 0, 0) ::
  (30, .aload_n 1, 1, 1, 0, 0) ::
  (31, .ifnonnull 14, 3, 45, 0, 0) ::
  (34, .bipush (-2), 2, 0, 0, (-2)) ::
  (36, .aload_n 0, 1, 0, 0, 0) ::
  (37, .getfield 23, 3, 0, 2, 0) ::
  (40, .getfield 134, 3, 6, 1, 0) ::
  (43, .isub, 1, 0, 0, 0) ::
  (44, .ireturn, 1, 0, 0, 0) ::
  (45, .aload_n 0, 1, 0, 0, 0) ::
  (46, .getfield 10, 3, 0, 0, 0) ::
  (49, .getfield 137, 3, 1, 5, 0) ::
  (52, .aload_n 0, 1, 0, 0, 0) ::
  (53, .getfield 10, 3, 0, 0, 0) ::
  (56, .getfield 127, 3, 1, 4, 0) ::
  (59, .aload_n 1, 1, 1, 0, 0) ::
  (60, .aastore, 1, 20, 0, 0) ::
  (61, .aload_n 0, 1, 0, 0, 0) ::
  (62, .getfield 10, 3, 0, 0, 0) ::
  (65, .dup, 1, 0, 0, 0) ::
  (66, .getfield 127, 3, 1, 4, 0) ::
  (69, .iconst 1, 1, 0, 0, 1) ::
  (70, .iadd, 1, 0, 0, 0) ::
  (71, .putfield 127, 3, 1, 4, 0) ::
  (74, .aload_n 0, 1, 0, 0, 0) ::
  (75, .getfield 10, 3, 0, 0, 0) ::
  (78, .getfield 127, 3, 1, 4, 0) ::
  (81, .iconst 1, 1, 0, 0, 1) ::
  (82, .isub, 1, 0, 0, 0) ::
  (83, .ireturn, 1, 0, 0, 0) ::
  []
/-- 61 BlackSun$Book.wayAt(I)LBlackSun$Way; -/
def r_61 : List ax_E :=
  (0, .iload_n 1, 1, 1, 0, 0) ::
  (1, .iconst 0, 1, 0, 0, 0) ::
  (2, .aload_n 0, 1, 0, 0, 0) ::
  (3, .getfield 66, 3, 1, 4, 0) ::
  (6, .iconst 1, 1, 0, 0, 1) ::
  (7, .isub, 1, 0, 0, 0) ::
  (8, .invokestatic 70, 3, 11, 0, 1) ::
  (11, .ifCond .eq 12, 3, 23, 0, 0) ::
  (14, .aload_n 0, 1, 0, 0, 0) ::
  (15, .getfield 34, 3, 1, 5, 0) ::
  (18, .iload_n 1, 1, 1, 0, 0) ::
  (19, .aaload, 1, 20, 0, 0) ::
  (20, .goto 4, 3, 24, 0, 0) ::
  (23, .aconst_null, 1, 0, 0, 0) ::
  (24, .areturn, 1, 0, 0, 0) ::
  []
/-- 62 BlackSun.ways(II)I -/
def r_62 : List ax_E :=
  (0, .aload_n 0, 1, 0, 0, 0) ::
  (1, .getfield 10, 3, 0, 0, 0) ::
  (4, .iload_n 1, 1, 1, 0, 0) ::
  (5, .invokevirtual 141, 3, 61, 2, 3) ::
  (8, .astore_n 3, 1, 3, 0, 0) ::
  (9, .aload_n 3, 1, 3, 0, 0) ::
  (10, .ifnull 10, 3, 20, 0, 0) ::
  (13, .iload_n 2, 1, 2, 0, 0) ::
  (14, .invokestatic 114, 3, 30, 0, 1) ::
  (17, .ifCond .ne 5, 3, 22, 0, 0) ::
  (20, .iconst (-1), 1, 0, 0, (-1)) ::
  (21, .ireturn, 1, 0, 0, 0) ::
  (22, .aload_n 3, 1, 3, 0, 0) ::
  (23, .getfield 145, 3, 5, 0, 0) ::
  (26, .iload_n 2, 1, 2, 0, 0) ::
  (27, .iaload, 1, 0, 0, 0) ::
  (28, .ireturn, 1, 0, 0, 0) ::
  []
/-- 63 BlackSun$Book.kindOf(I)I -/
def r_63 : List ax_E :=
  (0, .aload_n 0, 1, 0, 0, 0) ::
  (1, .getfield 21, 3, 1, 2, 0) ::
  (4, .getfield 74, 3, 3, 2, 0) ::
  (7, .aload_n 0, 1, 0, 0, 0) ::
  (8, .getfield 28, 3, 1, 3, 0) ::
  (11, .getfield 77, 3, 4, 1, 0) ::
  (14, .iload_n 1, 1, 1, 0, 0) ::
  (15, .iaload, 1, 0, 0, 0) ::
  (16, .iaload, 1, 0, 0, 0) ::
  (17, .ireturn, 1, 0, 0, 0) ::
  []
/-- 64 BlackSun$Way.isReading(I)Z -/
def r_64 : List ax_E :=
  (0, .aload_n 0, 1, 0, 0, 0) ::
  (1, .getfield 18, 3, 5, 2, 0) ::
  (4, .iconst (-1), 1, 0, 0, (-1)) ::
  (5, .if_icmp .eq 11, 3, 16, 0, 0) ::
  (8, .aload_n 0, 1, 0, 0, 0) ::
  (9, .getfield 18, 3, 5, 2, 0) ::
  (12, .iload_n 1, 1, 1, 0, 0) ::
  (13, .if_icmp .ne 7, 3, 20, 0, 0) ::
  (16, .iconst 1, 1, 0, 0, 1) ::
  (17, .goto 4, 3, 21, 0, 0) ::
  (20, .iconst 0, 1, 0, 0, 0) ::
  (21, .ireturn, 1, 1, 0, 0) ::
  []
/-- 65 BlackSun$Book.factOf(II)I -/
def r_65 : List ax_E :=
  (0, .aload_n 0, 1, 0, 0, 0) ::
  (1, .getfield 28, 3, 1, 3, 0) ::
  (4, .getfield 77, 3, 4, 1, 0) ::
  (7, .iload_n 2, 1, 2, 0, 0) ::
  (8, .iaload, 1, 0, 0, 0) ::
  (9, .istore_n 3, 1, 3, 0, 0) ::
  (10, .aload_n 0, 1, 0, 0, 0) ::
  (11, .getfield 28, 3, 1, 3, 0) ::
  (14, .getfield 93, 3, 4, 2, 0) ::
  (17, .iload_n 2, 1, 2, 0, 0) ::
  (18, .iaload, 1, 0, 0, 0) ::
  (19, .istore 4, 2, 4, 0, 0) ::
  (21, .iload_n 1, 1, 1, 0, 0) ::
  (22, .tableswitch 170 0 11 #[62, 64, 74, 84, 94, 97, 108, 118, 129, 140, 150, 160], 62, 0, 0, 0) ::
  (84, .iload_n 3, 1, 3, 0, 0) ::
  (85, .ireturn, 1, 0, 0, 0) ::
  (86, .aload_n 0, 1, 0, 0, 0) ::
  (87, .getfield 21, 3, 1, 2, 0) ::
  (90, .getfield 100, 3, 3, 1, 0) ::
  (93, .iload_n 3, 1, 3, 0, 0) ::
  (94, .iaload, 1, 0, 0, 0) ::
  (95, .ireturn, 1, 0, 0, 0) ::
  (96, .aload_n 0, 1, 0, 0, 0) ::
  (97, .getfield 21, 3, 1, 2, 0) ::
  (100, .getfield 74, 3, 3, 2, 0) ::
  (103, .iload_n 3, 1, 3, 0, 0) ::
  (104, .iaload, 1, 0, 0, 0) ::
  (105, .ireturn, 1, 0, 0, 0) ::
  (106, .aload_n 0, 1, 0, 0, 0) ::
  (107, .getfield 21, 3, 1, 2, 0) ::
  (110, .getfield 103, 3, 3, 3, 0) ::
  (113, .iload_n 3, 1, 3, 0, 0) ::
  (114, .iaload, 1, 0, 0, 0) ::
  (115, .ireturn, 1, 0, 0, 0) ::
  (116, .iload 4, 2, 4, 0, 0) ::
  (118, .ireturn, 1, 0, 0, 0) ::
  (119, .aload_n 0, 1, 0, 0, 0) ::
  (120, .getfield 12, 3, 1, 1, 0) ::
  (123, .getfield 106, 3, 2, 3, 0) ::
  (126, .iload 4, 2, 4, 0, 0) ::
  (128, .iaload, 1, 0, 0, 0) ::
  (129, .ireturn, 1, 0, 0, 0) ::
  (130, .aload_n 0, 1, 0, 0, 0) ::
  (131, .getfield 12, 3, 1, 1, 0) ::
  (134, .iload 4, 2, 4, 0, 0) ::
  (136, .invokevirtual 109, 3, 15, 4, 1) ::
  (139, .ireturn, 1, 0, 0, 0) ::
  (140, .aload_n 0, 1, 0, 0, 0) ::
  (141, .getfield 12, 3, 1, 1, 0) ::
  (144, .getfield 112, 3, 2, 1, 0) ::
  (147, .iload 4, 2, 4, 0, 0) ::
  (149, .iaload, 1, 0, 0, 0) ::
  (150, .ireturn, 1, 0, 0, 0) ::
  (151, .aload_n 0, 1, 0, 0, 0) ::
  (152, .getfield 12, 3, 1, 1, 0) ::
  (155, .getfield 115, 3, 2, 2, 0) ::
  (158, .iload 4, 2, 4, 0, 0) ::
  (160, .iaload, 1, 0, 0, 0) ::
  (161, .ireturn, 1, 0, 0, 0) ::
  (162, .aload_n 0, 1, 0, 0, 0) ::
  (163, .getfield 28, 3, 1, 3, 0) ::
  (166, .getfield 118, 3, 4, 4, 0) ::
  (169, .iload_n 2, 1, 2, 0, 0) ::
  (170, .iaload, 1, 0, 0, 0) ::
  (171, .ireturn, 1, 0, 0, 0) ::
  (172, .aload_n 0, 1, 0, 0, 0) ::
  (173, .getfield 28, 3, 1, 3, 0) ::
  (176, .getfield 121, 3, 4, 5, 0) ::
  (179, .iload_n 2, 1, 2, 0, 0) ::
  (180, .iaload, 1, 0, 0, 0) ::
  (181, .ireturn, 1, 0, 0, 0) ::
  (182, .aload_n 0, 1, 0, 0, 0) ::
  (183, .getfield 28, 3, 1, 3, 0) ::
  (186, .getfield 124, 3, 4, 6, 0) ::
  (189, .iload_n 2, 1, 2, 0, 0) ::
  (190, .iaload, 1, 0, 0, 0) ::
  (191, .ireturn, 1, 0, 0, 0) ::
  (192, .aload_n 0, 1, 0, 0, 0) ::
  (193, .getfield 28, 3, 1, 3, 0) ::
  (196, .getfield 127, 3, 4, 3, 0) ::
  (199, .iload_n 2, 1, 2, 0, 0) ::
  (200, .iaload, 1, 0, 0, 0) ::
  (201, .ireturn, 1, 0, 0, 0) ::
  []
/-- 66 BlackSun$Way.combine(III)I -/
def r_66 : List ax_E :=
  (0, .iload_n 0, 1, 0, 0, 0) ::
  (1, .tableswitch 118 2 10 #[51, 55, 59, 70, 81, 92, 103, 118, 114], 51, 0, 0, 0) ::
  (52, .iload_n 1, 1, 1, 0, 0) ::
  (53, .iload_n 2, 1, 2, 0, 0) ::
  (54, .iadd, 1, 0, 0, 0) ::
  (55, .ireturn, 1, 0, 0, 0) ::
  (56, .iload_n 1, 1, 1, 0, 0) ::
  (57, .iload_n 2, 1, 2, 0, 0) ::
  (58, .isub, 1, 0, 0, 0) ::
  (59, .ireturn, 1, 0, 0, 0) ::
  (60, .iload_n 1, 1, 1, 0, 0) ::
  (61, .iload_n 2, 1, 2, 0, 0) ::
  (62, .if_icmp .ge 7, 3, 69, 0, 0) ::
  (65, .iconst 1, 1, 0, 0, 1) ::
  (66, .goto 4, 3, 70, 0, 0) ::
  (69, .iconst 0, 1, 0, 0, 0) ::
  (70, .ireturn, 1, 0, 0, 0) ::
  (71, .iload_n 1, 1, 1, 0, 0) ::
  (72, .iload_n 2, 1, 2, 0, 0) ::
  (73, .if_icmp .gt 7, 3, 80, 0, 0) ::
  (76, .iconst 1, 1, 0, 0, 1) ::
  (77, .goto 4, 3, 81, 0, 0) ::
  (80, .iconst 0, 1, 0, 0, 0) ::
  (81, .ireturn, 1, 0, 0, 0) ::
  (82, .iload_n 1, 1, 1, 0, 0) ::
  (83, .iload_n 2, 1, 2, 0, 0) ::
  (84, .if_icmp .ne 7, 3, 91, 0, 0) ::
  (87, .iconst 1, 1, 0, 0, 1) ::
  (88, .goto 4, 3, 92, 0, 0) ::
  (91, .iconst 0, 1, 0, 0, 0) ::
  (92, .ireturn, 1, 0, 0, 0) ::
  (93, .iload_n 1, 1, 1, 0, 0) ::
  (94, .iload_n 2, 1, 2, 0, 0) ::
  (95, .if_icmp .lt 7, 3, 102, 0, 0) ::
  (98, .iconst 1, 1, 0, 0, 1) ::
  (99, .goto 4, 3, 103, 0, 0) ::
  (102, .iconst 0, 1, 0, 0, 0) ::
  (103, .ireturn, 1, 0, 0, 0) ::
  (104, .iload_n 1, 1, 1, 0, 0) ::
  (105, .iload_n 2, 1, 2, 0, 0) ::
  (106, .if_icmp .le 7, 3, 113, 0, 0) ::
  (109, .iconst 1, 1, 0, 0, 1) ::
  (110, .goto 4, 3, 114, 0, 0) ::
  (113, .iconst 0, 1, 0, 0, 0) ::
  (114, .ireturn, 1, 0, 0, 0) ::
  (115, .iload_n 1, 1, 1, 0, 0) ::
  (116, .iload_n 2, 1, 2, 0, 0) ::
  (117, .iand, 1, 0, 0, 0) ::
  (118, .ireturn, 1, 0, 0, 0) ::
  (119, .iload_n 1, 1, 1, 0, 0) ::
  (120, .iload_n 2, 1, 2, 0, 0) ::
  (121, .ior, 1, 0, 0, 0) ::
  (122, .ireturn, 1, 0, 0, 0) ::
  []
/-- 67 BlackSun$Way.isLeaving(LBlackSun$Book;I[I)Z -/
def r_67_39 : List ax_E :=
  (39, .iload 4, 2, 4, 0, 0) ::
  (41, .aload_n 3, 1, 3, 0, 0) ::
  (42, .arraylength, 1, 0, 0, 0) ::
  (43, .if_icmp .lt 5, 3, 48, 0, 0) ::
  (46, .iconst 0, 1, 0, 0, 0) ::
  (47, .ireturn, 1, 1, 0, 0) ::
  (48, .aload_n 0, 1, 0, 0, 0) ::
  (49, .getfield 22, 3, 5, 3, 0) ::
  (52, .iload 5, 2, 5, 0, 0) ::
  (54, .iaload, 1, 0, 0, 0) ::
  (55, .iconst 4, 1, 0, 0, 4) ::
  (56, .ishr, 1, 0, 0, 0) ::
  (57, .istore 7, 2, 7, 0, 0) ::
  (59, .aload_n 3, 1, 3, 0, 0) ::
  (60, .iload 4, 2, 4, 0, 0) ::
  (62, .iload 6, 2, 6, 0, 0) ::
  (64, .ifCond .ne 8, 3, 72, 0, 0) ::
  (67, .iload 7, 2, 7, 0, 0) ::
  (69, .goto 10, 3, 79, 0, 0) ::
  (72, .aload_n 1, 1, 1, 0, 0) ::
  (73, .iload 7, 2, 7, 0, 0) ::
  (75, .iload_n 2, 1, 2, 0, 0) ::
  (76, .invokevirtual 25, 3, 65, 2, 1) ::
  (79, .iastore, 1, 0, 0, 0) ::
  (80, .iinc 4 1, 3, 4, 0, 1) ::
  (83, .goto 67, 3, 150, 0, 0) ::
  (86, .iload 6, 2, 6, 0, 0) ::
  (88, .bipush 9, 2, 0, 0, 9) ::
  (90, .if_icmp .ne 28, 3, 118, 0, 0) ::
  (93, .iload 4, 2, 4, 0, 0) ::
  (95, .iconst 1, 1, 0, 0, 1) ::
  (96, .if_icmp .ge 5, 3, 101, 0, 0) ::
  (99, .iconst 0, 1, 0, 0, 0) ::
  (100, .ireturn, 1, 1, 0, 0) ::
  (101, .aload_n 3, 1, 3, 0, 0) ::
  (102, .iload 4, 2, 4, 0, 0) ::
  (104, .iconst 1, 1, 0, 0, 1) ::
  (105, .isub, 1, 0, 0, 0) ::
  (106, .iconst 1, 1, 0, 0, 1) ::
  (107, .aload_n 3, 1, 3, 0, 0) ::
  (108, .iload 4, 2, 4, 0, 0) ::
  (110, .iconst 1, 1, 0, 0, 1) ::
  (111, .isub, 1, 0, 0, 0) ::
  (112, .iaload, 1, 0, 0, 0) ::
  (113, .isub, 1, 0, 0, 0) ::
  (114, .iastore, 1, 0, 0, 0) ::
  (115, .goto 35, 3, 150, 0, 0) ::
  (118, .iload 4, 2, 4, 0, 0) ::
  (120, .iconst 2, 1, 0, 0, 2) ::
  (121, .if_icmp .ge 5, 3, 126, 0, 0) ::
  (124, .iconst 0, 1, 0, 0, 0) ::
  (125, .ireturn, 1, 1, 0, 0) ::
  (126, .iinc 4 (-1), 3, 4, 0, (-1)) ::
  (129, .aload_n 3, 1, 3, 0, 0) ::
  (130, .iload 4, 2, 4, 0, 0) ::
  (132, .iconst 1, 1, 0, 0, 1) ::
  (133, .isub, 1, 0, 0, 0) ::
  (134, .iload 6, 2, 6, 0, 0) ::
  (136, .aload_n 3, 1, 3, 0, 0) ::
  (137, .iload 4, 2, 4, 0, 0) ::
  (139, .iconst 1, 1, 0, 0, 1) ::
  (140, .isub, 1, 0, 0, 0) ::
  (141, .iaload, 1, 0, 0, 0) ::
  (142, .aload_n 3, 1, 3, 0, 0) ::
  (143, .iload 4, 2, 4, 0, 0) ::
  (145, .iaload, 1, 0, 0, 0) ::
  (146, .invokestatic 31, 3, 66, 0, 1) ::
  (149, .iastore, 1, 0, 0, 0) ::
  (150, .iinc 5 1, 3, 5, 0, 1) ::
  (153, .goto (-147), 3, 6, 0, 0) ::
  (156, .iload 4, 2, 4, 0, 0) ::
  (158, .iconst 1, 1, 0, 0, 1) ::
  (159, .if_icmp .ne 14, 3, 173, 0, 0) ::
  (162, .aload_n 3, 1, 3, 0, 0) ::
  (163, .iconst 0, 1, 0, 0, 0) ::
  (164, .iaload, 1, 0, 0, 0) ::
  (165, .iconst 1, 1, 0, 0, 1) ::
  (166, .if_icmp .ne 7, 3, 173, 0, 0) ::
  (169, .iconst 1, 1, 0, 0, 1) ::
  (170, .goto 4, 3, 174, 0, 0) ::
  (173, .iconst 0, 1, 0, 0, 0) ::
  (174, .ireturn, 1, 1, 0, 0) ::
  []
def r_67_6 : List ax_E :=
  (6, .iload 5, 2, 5, 0, 0) ::
  (8, .aload_n 0, 1, 0, 0, 0) ::
  (9, .getfield 22, 3, 5, 3, 0) ::
  (12, .arraylength, 1, 0, 0, 0) ::
  (13, .if_icmp .ge 143, 3, 156, 0, 0) ::
  (16, .aload_n 0, 1, 0, 0, 0) ::
  (17, .getfield 22, 3, 5, 3, 0) ::
  (20, .iload 5, 2, 5, 0, 0) ::
  (22, .iaload, 1, 0, 0, 0) ::
  (23, .bipush 15, 2, 0, 0, 15) ::
  (25, .iand, 1, 0, 0, 0) ::
  (26, .istore 6, 2, 6, 0, 0) ::
  (28, .iload 6, 2, 6, 0, 0) ::
  (30, .ifCond .eq 9, 3, 39, 0, 0) ::
  (33, .iload 6, 2, 6, 0, 0) ::
  (35, .iconst 1, 1, 0, 0, 1) ::
  (36, .if_icmp .ne 50, 3, 86, 0, 0) ::
  (39, .jsr 0, 0, 127, 0, 0) ::
  r_67_39
def r_67 : List ax_E :=
  (0, .iconst 0, 1, 0, 0, 0) ::
  (1, .istore 4, 2, 4, 0, 0) ::
  (3, .iconst 0, 1, 0, 0, 0) ::
  (4, .istore 5, 2, 5, 0, 0) ::
  (6, .jsr 0, 0, 63, 0, 0) ::
  r_67_6
/-- 68 BlackSun$Fit.take(LBlackSun$Book;LBlackSun$Way;I)V -/
def r_68_65 : List ax_E :=
  (65, .istore 6, 2, 6, 0, 0) ::
  (67, .iload 6, 2, 6, 0, 0) ::
  (69, .ifCond .eq 38, 3, 107, 0, 0) ::
  (72, .aload_n 2, 1, 2, 0, 0) ::
  (73, .aload_n 1, 1, 1, 0, 0) ::
  (74, .iload 5, 2, 5, 0, 0) ::
  (76, .aload_n 0, 1, 0, 0, 0) ::
  (77, .getfield 45, 3, 7, 13, 0) ::
  (80, .invokevirtual 80, 3, 67, 10, 1) ::
  (83, .ifCond .ne 24, 3, 107, 0, 0) ::
  (86, .aload_n 0, 1, 0, 0, 0) ::
  (87, .getfield 11, 3, 7, 1, 0) ::
  (90, .aload_n 0, 1, 0, 0, 0) ::
  (91, .getfield 54, 3, 7, 0, 0) ::
  (94, .iload 5, 2, 5, 0, 0) ::
  (96, .iastore, 1, 0, 0, 0) ::
  (97, .aload_n 0, 1, 0, 0, 0) ::
  (98, .dup, 1, 0, 0, 0) ::
  (99, .getfield 54, 3, 7, 0, 0) ::
  (102, .iconst 1, 1, 0, 0, 1) ::
  (103, .iadd, 1, 0, 0, 0) ::
  (104, .putfield 54, 3, 7, 0, 0) ::
  (107, .iinc 5 1, 3, 5, 0, 1) ::
  (110, .goto (-96), 3, 14, 0, 0) ::
  (113, .return_, 1, 0, 0, 0) ::
  []
def r_68_14 : List ax_E :=
  (14, .iload 5, 2, 5, 0, 0) ::
  (16, .aload 4, 2, 4, 0, 0) ::
  (18, .getfield 58, 3, 4, 0, 0) ::
  (21, .if_icmp .ge 92, 3, 113, 0, 0) ::
  (24, .aload 4, 2, 4, 0, 0) ::
  (26, .iload 5, 2, 5, 0, 0) ::
  (28, .iload_n 3, 1, 3, 0, 0) ::
  (29, .invokevirtual 63, 3, 22, 8, 1) ::
  (32, .ifCond .eq 32, 3, 64, 0, 0) ::
  (35, .aload_n 1, 1, 1, 0, 0) ::
  (36, .iload 5, 2, 5, 0, 0) ::
  (38, .invokevirtual 67, 3, 63, 2, 1) ::
  (41, .iconst 2, 1, 0, 0, 2) ::
  (42, .if_icmp .eq 22, 3, 64, 0, 0) ::
  (45, .aload_n 2, 1, 2, 0, 0) ::
  (46, .aload 4, 2, 4, 0, 0) ::
  (48, .getfield 71, 3, 4, 3, 0) ::
  (51, .iload 5, 2, 5, 0, 0) ::
  (53, .iaload, 1, 0, 0, 0) ::
  (54, .invokevirtual 74, 3, 64, 10, 1) ::
  (57, .ifCond .eq 7, 3, 64, 0, 0) ::
  (60, .iconst 1, 1, 0, 0, 1) ::
  (61, .goto 4, 3, 65, 0, 0) ::
  (64, .iconst 0, 1, 0, 0, 0) ::
  (65, .jsr 0, 0, 63, 0, 0) ::
  r_68_65
def r_68 : List ax_E :=
  (0, .aload_n 1, 1, 1, 0, 0) ::
  (1, .getfield 48, 3, 1, 3, 0) ::
  (4, .astore 4, 2, 4, 0, 0) ::
  (6, .aload_n 0, 1, 0, 0, 0) ::
  (7, .iconst 0, 1, 0, 0, 0) ::
  (8, .putfield 54, 3, 7, 0, 0) ::
  (11, .iconst 0, 1, 0, 0, 0) ::
  (12, .istore 5, 2, 5, 0, 0) ::
  (14, .jsr 0, 0, 63, 0, 0) ::
  r_68_14
/-- 69 BlackSun.takes(III)I -/
def r_69 : List ax_E :=
  (0, .aload_n 0, 1, 0, 0, 0) ::
  (1, .getfield 10, 3, 0, 0, 0) ::
  (4, .iload_n 1, 1, 1, 0, 0) ::
  (5, .invokevirtual 141, 3, 61, 2, 3) ::
  (8, .astore 4, 2, 4, 0, 0) ::
  (10, .aload 4, 2, 4, 0, 0) ::
  (12, .ifnull 10, 3, 22, 0, 0) ::
  (15, .iload_n 2, 1, 2, 0, 0) ::
  (16, .invokestatic 100, 3, 26, 0, 1) ::
  (19, .ifCond .ne 5, 3, 24, 0, 0) ::
  (22, .iconst (-1), 1, 0, 0, (-1)) ::
  (23, .ireturn, 1, 0, 0, 0) ::
  (24, .aload_n 0, 1, 0, 0, 0) ::
  (25, .getfield 30, 3, 0, 3, 0) ::
  (28, .aload_n 0, 1, 0, 0, 0) ::
  (29, .getfield 10, 3, 0, 0, 0) ::
  (32, .aload 4, 2, 4, 0, 0) ::
  (34, .iload_n 2, 1, 2, 0, 0) ::
  (35, .invokevirtual 150, 3, 68, 14, 0) ::
  (38, .iload_n 3, 1, 3, 0, 0) ::
  (39, .iconst (-1), 1, 0, 0, (-1)) ::
  (40, .if_icmp .ne 11, 3, 51, 0, 0) ::
  (43, .aload_n 0, 1, 0, 0, 0) ::
  (44, .getfield 30, 3, 0, 3, 0) ::
  (47, .getfield 154, 3, 7, 0, 0) ::
  (50, .ireturn, 1, 0, 0, 0) ::
  (51, .iload_n 3, 1, 3, 0, 0) ::
  (52, .iconst 0, 1, 0, 0, 0) ::
  (53, .aload_n 0, 1, 0, 0, 0) ::
  (54, .getfield 30, 3, 0, 3, 0) ::
  (57, .getfield 154, 3, 7, 0, 0) ::
  (60, .iconst 1, 1, 0, 0, 1) ::
  (61, .isub, 1, 0, 0, 0) ::
  (62, .invokestatic 45, 3, 11, 0, 1) ::
  (65, .ifCond .eq 15, 3, 80, 0, 0) ::
  (68, .aload_n 0, 1, 0, 0, 0) ::
  (69, .getfield 30, 3, 0, 3, 0) ::
  (72, .getfield 157, 3, 7, 1, 0) ::
  (75, .iload_n 3, 1, 3, 0, 0) ::
  (76, .iaload, 1, 0, 0, 0) ::
  (77, .goto 4, 3, 81, 0, 0) ::
  (80, .iconst (-1), 1, 0, 0, (-1)) ::
  (81, .ireturn, 1, 0, 0, 0) ::
  []
/-- 70 BlackSun$Book.termOf(III)I -/
def r_70 : List ax_E :=
  (0, .iload_n 1, 1, 1, 0, 0) ::
  (1, .iconst 4, 1, 0, 0, 4) ::
  (2, .if_icmp .ne 14, 3, 16, 0, 0) ::
  (5, .aload_n 0, 1, 0, 0, 0) ::
  (6, .iload_n 2, 1, 2, 0, 0) ::
  (7, .invokevirtual 89, 3, 63, 2, 1) ::
  (10, .iconst 1, 1, 0, 0, 1) ::
  (11, .if_icmp .ne 5, 3, 16, 0, 0) ::
  (14, .iconst 0, 1, 0, 0, 0) ::
  (15, .ireturn, 1, 0, 0, 0) ::
  (16, .aload_n 0, 1, 0, 0, 0) ::
  (17, .getfield 12, 3, 1, 1, 0) ::
  (20, .iload_n 1, 1, 1, 0, 0) ::
  (21, .aload_n 0, 1, 0, 0, 0) ::
  (22, .getfield 28, 3, 1, 3, 0) ::
  (25, .getfield 93, 3, 4, 2, 0) ::
  (28, .iload_n 2, 1, 2, 0, 0) ::
  (29, .iaload, 1, 0, 0, 0) ::
  (30, .iload_n 3, 1, 3, 0, 0) ::
  (31, .invokevirtual 96, 3, 31, 4, 1) ::
  (34, .ireturn, 1, 0, 0, 0) ::
  []
/-- 71 java/lang/Math.floorDiv(JJ)J -/
def r_71 : List ax_E :=
  (0, .lload_n 0, 1, 0, 0, 0) ::
  (1, .lload_n 2, 1, 2, 0, 0) ::
  (2, .ldiv, 1, 0, 0, 0) ::
  (3, .lstore 4, 2, 4, 0, 0) ::
  (5, .lload_n 0, 1, 0, 0, 0) ::
  (6, .lload_n 2, 1, 2, 0, 0) ::
  (7, .lxor, 1, 0, 0, 0) ::
  (8, .lconst 0, 1, 0, 0, 0) ::
  (9, .lcmp, 1, 0, 0, 0) ::
  (10, .ifCond .ge 17, 3, 27, 0, 0) ::
  (13, .lload 4, 2, 4, 0, 0) ::
  (15, .lload_n 2, 1, 2, 0, 0) ::
  (16, .lmul, 1, 0, 0, 0) ::
  (17, .lload_n 0, 1, 0, 0, 0) ::
  (18, .lcmp, 1, 0, 0, 0) ::
  (19, .ifCond .eq 8, 3, 27, 0, 0) ::
  (22, .lload 4, 2, 4, 0, 0) ::
  (24, .lconst 1, 1, 0, 0, 1) ::
  (25, .lsub, 1, 0, 0, 0) ::
  (26, .lreturn, 1, 0, 0, 0) ::
  (27, .lload 4, 2, 4, 0, 0) ::
  (29, .lreturn, 1, 0, 0, 0) ::
  []
/-- 72 BlackSun$Fit.put(IJJ)Z -/
def r_72 : List ax_E :=
  (0, .lload 4, 2, 4, 0, 0) ::
  (2, .lconst 0, 1, 0, 0, 0) ::
  (3, .lcmp, 1, 0, 0, 0) ::
  (4, .ifCond .gt 5, 3, 9, 0, 0) ::
  (7, .iconst 0, 1, 0, 0, 0) ::
  (8, .ireturn, 1, 1, 0, 0) ::
  (9, .lload_n 2, 1, 2, 0, 0) ::
  (10, .lload 4, 2, 4, 0, 0) ::
  (12, .invokestatic 175, 3, 71, 0, 2) ::
  (15, .lstore 6, 2, 6, 0, 0) ::
  (17, .lload 6, 2, 6, 0, 0) ::
  (19, .ldc2_w 181, 3, 0, 0, 99999999) ::
  (22, .lcmp, 1, 0, 0, 0) ::
  (23, .ifCond .gt 12, 3, 35, 0, 0) ::
  (26, .lload 6, 2, 6, 0, 0) ::
  (28, .ldc2_w 183, 3, 0, 0, (-99999999)) ::
  (31, .lcmp, 1, 0, 0, 0) ::
  (32, .ifCond .ge 5, 3, 37, 0, 0) ::
  (35, .iconst 0, 1, 0, 0, 0) ::
  (36, .ireturn, 1, 1, 0, 0) ::
  (37, .lload 6, 2, 6, 0, 0) ::
  (39, .ldc2_w 185, 3, 0, 0, 1000) ::
  (42, .lmul, 1, 0, 0, 0) ::
  (43, .lload_n 2, 1, 2, 0, 0) ::
  (44, .lload 6, 2, 6, 0, 0) ::
  (46, .lload 4, 2, 4, 0, 0) ::
  (48, .lmul, 1, 0, 0, 0) ::
  (49, .lsub, 1, 0, 0, 0) ::
  (50, .ldc2_w 185, 3, 0, 0, 1000) ::
  (53, .lmul, 1, 0, 0, 0) ::
  (54, .lload 4, 2, 4, 0, 0) ::
  (56, .ldiv, 1, 0, 0, 0) ::
  (57, .ladd, 1, 0, 0, 0) ::
  (58, .lstore 8, 2, 8, 0, 0) ::
  (60, .lload 8, 2, 8, 0, 0) ::
  (62, .ldc2_w 181, 3, 0, 0, 99999999) ::
  (65, .lcmp, 1, 0, 0, 0) ::
  (66, .ifCond .gt 12, 3, 78, 0, 0) ::
  (69, .lload 8, 2, 8, 0, 0) ::
  (71, .ldc2_w 183, 3, 0, 0, (-99999999)) ::
  (74, .lcmp, 1, 0, 0, 0) ::
  (75, .ifCond .ge 5, 3, 80, 0, 0) ::
  (78, .iconst 0, 1, 0, 0, 0) ::
  (79, .ireturn, 1, 1, 0, 0) ::
  (80, .aload_n 0, 1, 0, 0, 0) ::
  (81, .getfield 15, 3, 7, 2, 0) ::
  (84, .iload_n 1, 1, 1, 0, 0) ::
  (85, .lload 8, 2, 8, 0, 0) ::
  (87, .l2i, 1, 0, 0, 0) ::
  (88, .iastore, 1, 0, 0, 0) ::
  (89, .iconst 1, 1, 0, 0, 1) ::
  (90, .ireturn, 1, 1, 0, 0) ::
  []
/-- 73 BlackSun$Fit.settleCheck(LBlackSun$Book;LBlackSun$Way;II)Z -/
def r_73_15 : List ax_E :=
  (15, .iload 10, 2, 10, 0, 0) ::
  (17, .aload 5, 2, 5, 0, 0) ::
  (19, .getfield 58, 3, 4, 0, 0) ::
  (22, .if_icmp .ge 113, 3, 135, 0, 0) ::
  (25, .aload 5, 2, 5, 0, 0) ::
  (27, .iload 10, 2, 10, 0, 0) ::
  (29, .iload_n 3, 1, 3, 0, 0) ::
  (30, .invokevirtual 63, 3, 22, 8, 1) ::
  (33, .ifCond .eq 96, 3, 129, 0, 0) ::
  (36, .aload_n 1, 1, 1, 0, 0) ::
  (37, .iload 10, 2, 10, 0, 0) ::
  (39, .invokevirtual 67, 3, 63, 2, 1) ::
  (42, .iconst 2, 1, 0, 0, 2) ::
  (43, .if_icmp .ne 86, 3, 129, 0, 0) ::
  (46, .aload_n 2, 1, 2, 0, 0) ::
  (47, .aload 5, 2, 5, 0, 0) ::
  (49, .getfield 71, 3, 4, 3, 0) ::
  (52, .iload 10, 2, 10, 0, 0) ::
  (54, .iaload, 1, 0, 0, 0) ::
  (55, .invokevirtual 74, 3, 64, 10, 1) ::
  (58, .ifCond .eq 71, 3, 129, 0, 0) ::
  (61, .aload_n 1, 1, 1, 0, 0) ::
  (62, .iload 4, 2, 4, 0, 0) ::
  (64, .iload 10, 2, 10, 0, 0) ::
  (66, .iconst 0, 1, 0, 0, 0) ::
  (67, .invokevirtual 112, 3, 70, 2, 1) ::
  (70, .istore 11, 2, 11, 0, 0) ::
  (72, .aload_n 1, 1, 1, 0, 0) ::
  (73, .iload 4, 2, 4, 0, 0) ::
  (75, .iload 10, 2, 10, 0, 0) ::
  (77, .iconst 1, 1, 0, 0, 1) ::
  (78, .invokevirtual 112, 3, 70, 2, 1) ::
  (81, .istore 12, 2, 12, 0, 0) ::
  (83, .lload 6, 2, 6, 0, 0) ::
  (85, .iload 11, 2, 11, 0, 0) ::
  (87, .aload 5, 2, 5, 0, 0) ::
  (89, .getfield 116, 3, 4, 4, 0) ::
  (92, .iload 10, 2, 10, 0, 0) ::
  (94, .iaload, 1, 0, 0, 0) ::
  (95, .imul, 1, 0, 0, 0) ::
  (96, .iload 12, 2, 12, 0, 0) ::
  (98, .aload 5, 2, 5, 0, 0) ::
  (100, .getfield 119, 3, 4, 5, 0) ::
  (103, .iload 10, 2, 10, 0, 0) ::
  (105, .iaload, 1, 0, 0, 0) ::
  (106, .imul, 1, 0, 0, 0) ::
  (107, .iadd, 1, 0, 0, 0) ::
  (108, .i2l, 1, 0, 0, 0) ::
  (109, .ladd, 1, 0, 0, 0) ::
  (110, .lstore 6, 2, 6, 0, 0) ::
  (112, .lload 8, 2, 8, 0, 0) ::
  (114, .iload 11, 2, 11, 0, 0) ::
  (116, .iload 11, 2, 11, 0, 0) ::
  (118, .imul, 1, 0, 0, 0) ::
  (119, .iload 12, 2, 12, 0, 0) ::
  (121, .iload 12, 2, 12, 0, 0) ::
  (123, .imul, 1, 0, 0, 0) ::
  (124, .iadd, 1, 0, 0, 0) ::
  (125, .i2l, 1, 0, 0, 0) ::
  (126, .ladd, 1, 0, 0, 0) ::
  (127, .lstore 8, 2, 8, 0, 0) ::
  (129, .iinc 10 1, 3, 10, 0, 1) ::
  (132, .goto (-117), 3, 15, 0, 0) ::
  (135, .aload_n 0, 1, 0, 0, 0) ::
  (136, .iload 4, 2, 4, 0, 0) ::
  (138, .lload 6, 2, 6, 0, 0) ::
  (140, .lload 8, 2, 8, 0, 0) ::
  (142, .invokevirtual 122, 3, 72, 14, 1) ::
  (145, .ireturn, 1, 1, 0, 0) ::
  []
def r_73 : List ax_E :=
  (0, .aload_n 1, 1, 1, 0, 0) ::
  (1, .getfield 48, 3, 1, 3, 0) ::
  (4, .astore 5, 2, 5, 0, 0) ::
  (6, .lconst 0, 1, 0, 0, 0) ::
  (7, .lstore 6, 2, 6, 0, 0) ::
  (9, .lconst 0, 1, 0, 0, 0) ::
  (10, .lstore 8, 2, 8, 0, 0) ::
  (12, .iconst 0, 1, 0, 0, 0) ::
  (13, .istore 10, 2, 10, 0, 0) ::
  (15, .jsr 0, 0, 1407, 0, 0) ::
  r_73_15
/-- 74 BlackSun$Fit.settle(LBlackSun$Book;LBlackSun$Way;II)Z -/
def r_74_111 : List ax_E :=
  (111, .iload 7, 2, 7, 0, 0) ::
  (113, .iconst 3, 1, 0, 0, 3) ::
  (114, .if_icmp .ne 17, 3, 131, 0, 0) ::
  (117, .aload_n 0, 1, 0, 0, 0) ::
  (118, .aload_n 1, 1, 1, 0, 0) ::
  (119, .aload_n 2, 1, 2, 0, 0) ::
  (120, .iload_n 3, 1, 3, 0, 0) ::
  (121, .iload 5, 2, 5, 0, 0) ::
  (123, .invokevirtual 109, 3, 73, 14, 1) ::
  (126, .ifCond .ne 5, 3, 131, 0, 0) ::
  (129, .iconst 0, 1, 0, 0, 0) ::
  (130, .ireturn, 1, 1, 0, 0) ::
  (131, .iinc 5 1, 3, 5, 0, 1) ::
  (134, .goto (-126), 3, 8, 0, 0) ::
  (137, .iconst 1, 1, 0, 0, 1) ::
  (138, .ireturn, 1, 1, 0, 0) ::
  []
def r_74_75 : List ax_E :=
  (75, .iastore, 1, 0, 0, 0) ::
  (76, .iload 7, 2, 7, 0, 0) ::
  (78, .iconst 1, 1, 0, 0, 1) ::
  (79, .if_icmp .ne 32, 3, 111, 0, 0) ::
  (82, .aload_n 0, 1, 0, 0, 0) ::
  (83, .getfield 100, 3, 7, 4, 0) ::
  (86, .iconst 3, 1, 0, 0, 3) ::
  (87, .if_icmp .ge 24, 3, 111, 0, 0) ::
  (90, .aload_n 0, 1, 0, 0, 0) ::
  (91, .getfield 18, 3, 7, 5, 0) ::
  (94, .aload_n 0, 1, 0, 0, 0) ::
  (95, .getfield 100, 3, 7, 4, 0) ::
  (98, .iload 5, 2, 5, 0, 0) ::
  (100, .iastore, 1, 0, 0, 0) ::
  (101, .aload_n 0, 1, 0, 0, 0) ::
  (102, .dup, 1, 0, 0, 0) ::
  (103, .getfield 100, 3, 7, 4, 0) ::
  (106, .iconst 1, 1, 0, 0, 1) ::
  (107, .iadd, 1, 0, 0, 0) ::
  (108, .putfield 100, 3, 7, 4, 0) ::
  (111, .jsr 0, 0, 191, 0, 0) ::
  r_74_111
def r_74_32 : List ax_E :=
  (32, .istore 6, 2, 6, 0, 0) ::
  (34, .iload 6, 2, 6, 0, 0) ::
  (36, .ifCond .eq 7, 3, 43, 0, 0) ::
  (39, .iconst 2, 1, 0, 0, 2) ::
  (40, .goto 10, 3, 50, 0, 0) ::
  (43, .aload_n 2, 1, 2, 0, 0) ::
  (44, .getfield 103, 3, 5, 0, 0) ::
  (47, .iload 5, 2, 5, 0, 0) ::
  (49, .iaload, 1, 0, 0, 0) ::
  (50, .istore 7, 2, 7, 0, 0) ::
  (52, .aload_n 0, 1, 0, 0, 0) ::
  (53, .getfield 15, 3, 7, 2, 0) ::
  (56, .iload 5, 2, 5, 0, 0) ::
  (58, .iload 6, 2, 6, 0, 0) ::
  (60, .ifCond .eq 8, 3, 68, 0, 0) ::
  (63, .iload 4, 2, 4, 0, 0) ::
  (65, .goto 10, 3, 75, 0, 0) ::
  (68, .aload_n 2, 1, 2, 0, 0) ::
  (69, .getfield 106, 3, 5, 1, 0) ::
  (72, .iload 5, 2, 5, 0, 0) ::
  (74, .iaload, 1, 0, 0, 0) ::
  (75, .jsr 0, 0, 191, 0, 0) ::
  r_74_75
def r_74_8 : List ax_E :=
  (8, .iload 5, 2, 5, 0, 0) ::
  (10, .bipush 6, 2, 0, 0, 6) ::
  (12, .if_icmp .ge 125, 3, 137, 0, 0) ::
  (15, .iload 5, 2, 5, 0, 0) ::
  (17, .iconst 4, 1, 0, 0, 4) ::
  (18, .if_icmp .ne 13, 3, 31, 0, 0) ::
  (21, .iload 4, 2, 4, 0, 0) ::
  (23, .iconst (-1), 1, 0, 0, (-1)) ::
  (24, .if_icmp .eq 7, 3, 31, 0, 0) ::
  (27, .iconst 1, 1, 0, 0, 1) ::
  (28, .goto 4, 3, 32, 0, 0) ::
  (31, .iconst 0, 1, 0, 0, 0) ::
  (32, .jsr 0, 0, 63, 0, 0) ::
  r_74_32
def r_74 : List ax_E :=
  (0, .aload_n 0, 1, 0, 0, 0) ::
  (1, .iconst 0, 1, 0, 0, 0) ::
  (2, .putfield 100, 3, 7, 4, 0) ::
  (5, .iconst 0, 1, 0, 0, 0) ::
  (6, .istore 5, 2, 5, 0, 0) ::
  (8, .jsr 0, 0, 63, 0, 0) ::
  r_74_8
