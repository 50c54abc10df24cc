/-! THE BUILDER: what constructors make, by program; cells by their number -/
/-- a cell: its tag (0 an object, 1 ints, 2 bytes, 3 booleans, 4, 5 rows of objects), its class or its length, fields (or what a row of objects holds), what was written into a row of numbers, the latest first -/
abbrev zbC : Type := Nat × Nat × List (Option zV) × List (Nat × Int)
abbrev zbX : Type := List zbC
/-- PointMaker$Division.<init> -/
def zbt_0 : List zE := [
  (0, .aload_n 0, 1, 0, 0, 0, []),
  (1, .invokespecial 3, 3, 99, 1, 0, [(271, 0)]),
  (4, .aload_n 0, 1, 0, 0, 0, []),
  (5, .bipush 8, 2, 0, 0, 8, []),
  (7, .newarray .int, 2, 0, 1, 0, [(200, 0)]),
  (9, .putfield 9, 3, 0, 0, 2, [(272, 9)]),
  (12, .return_, 1, 0, 0, 0, []),
  (13, .nop, 0, 0, 0, 0, [])]
/-- PointMaker$Letters.<init> -/
def zbt_1 : List zE := [
  (0, .aload_n 0, 1, 0, 0, 0, []),
  (1, .invokespecial 3, 3, 99, 1, 0, [(320, 0)]),
  (4, .aload_n 0, 1, 0, 0, 0, []),
  (5, .sipush 512, 3, 0, 0, 512, []),
  (8, .newarray .byte, 2, 0, 2, 0, [(137, 0)]),
  (10, .putfield 9, 3, 1, 0, 2, [(321, 9)]),
  (13, .return_, 1, 0, 0, 0, []),
  (14, .nop, 0, 0, 0, 0, [])]
/-- PointMaker$Points.<init> -/
def zbt_2 : List zE := [
  (0, .aload_n 0, 1, 0, 0, 0, []),
  (1, .invokespecial 3, 3, 99, 1, 0, [(265, 0)]),
  (4, .aload_n 0, 1, 0, 0, 0, []),
  (5, .new 9, 3, 0, 0, 0, [(266, 0), (267, 0), (97, 0)]),
  (8, .dup, 1, 0, 0, 0, []),
  (9, .invokespecial 11, 3, 0, 1, 0, [(268, 1)]),
  (12, .putfield 12, 3, 2, 0, 2, [(284, 12)]),
  (15, .aload_n 0, 1, 0, 0, 0, []),
  (16, .new 18, 3, 8, 0, 0, [(282, 0), (139, 0), (94, 0)]),
  (19, .dup, 1, 0, 0, 0, []),
  (20, .bipush 40, 2, 0, 0, 40, []),
  (22, .sipush 960, 3, 0, 0, 960, []),
  (25, .invokespecial 20, 3, 8, 3, 0, [(283, 0)]),
  (28, .putfield 23, 3, 2, 1, 2, [(286, 23)]),
  (31, .aload_n 0, 1, 0, 0, 0, []),
  (32, .bipush 40, 2, 0, 0, 40, []),
  (34, .newarray .int, 2, 0, 1, 0, [(200, 0)]),
  (36, .putfield 27, 3, 2, 2, 2, [(288, 27)]),
  (39, .aload_n 0, 1, 0, 0, 0, []),
  (40, .bipush 40, 2, 0, 0, 40, []),
  (42, .newarray .int, 2, 0, 1, 0, [(200, 0)]),
  (44, .putfield 31, 3, 2, 3, 2, [(290, 31)]),
  (47, .aload_n 0, 1, 0, 0, 0, []),
  (48, .sipush 240, 3, 0, 0, 240, []),
  (51, .newarray .int, 2, 0, 1, 0, [(200, 0)]),
  (53, .putfield 34, 3, 2, 4, 2, [(292, 34)]),
  (56, .aload_n 0, 1, 0, 0, 0, []),
  (57, .bipush 6, 2, 0, 0, 6, []),
  (59, .newarray .int, 2, 0, 1, 0, [(200, 0)]),
  (61, .putfield 37, 3, 2, 6, 2, [(296, 37)]),
  (64, .aload_n 0, 1, 0, 0, 0, []),
  (65, .bipush 6, 2, 0, 0, 6, []),
  (67, .newarray .int, 2, 0, 1, 0, [(200, 0)]),
  (69, .putfield 40, 3, 2, 7, 2, [(297, 40)]),
  (72, .return_, 1, 0, 0, 0, []),
  (73, .nop, 0, 0, 0, 0, [])]
/-- PointMaker$Program.<init> -/
def zbt_3 : List zE := [
  (0, .aload_n 0, 1, 0, 0, 0, []),
  (1, .invokespecial 3, 3, 99, 1, 0, [(235, 0)]),
  (4, .aload_n 0, 1, 0, 0, 0, []),
  (5, .new 9, 3, 8, 0, 0, [(236, 0), (139, 0), (94, 0)]),
  (8, .dup, 1, 0, 0, 0, []),
  (9, .bipush 8, 2, 0, 0, 8, []),
  (11, .bipush 24, 2, 0, 0, 24, []),
  (13, .invokespecial 11, 3, 8, 3, 0, [(237, 0)]),
  (16, .putfield 14, 3, 3, 0, 2, [(242, 14)]),
  (19, .aload_n 0, 1, 0, 0, 0, []),
  (20, .bipush 6, 2, 0, 0, 6, []),
  (22, .newarray .int, 2, 0, 1, 0, [(200, 0)]),
  (24, .putfield 20, 3, 3, 1, 2, [(246, 20)]),
  (27, .aload_n 0, 1, 0, 0, 0, []),
  (28, .invokevirtual 24, 3, 11, 1, 0, [(238, 0)]),
  (31, .return_, 1, 0, 0, 0, []),
  (32, .nop, 0, 0, 0, 0, [])]
/-- PointMaker$Reader.<init> -/
def zbt_4 : List zE := [
  (0, .aload_n 0, 1, 0, 0, 0, []),
  (1, .invokespecial 3, 3, 99, 1, 0, [(121, 0)]),
  (4, .aload_n 0, 1, 0, 0, 0, []),
  (5, .new 9, 3, 7, 0, 0, [(122, 0), (123, 0), (93, 0)]),
  (8, .dup, 1, 0, 0, 0, []),
  (9, .invokespecial 11, 3, 7, 1, 0, [(124, 1)]),
  (12, .putfield 12, 3, 4, 0, 2, [(201, 12)]),
  (15, .aload_n 0, 1, 0, 0, 0, []),
  (16, .new 18, 3, 8, 0, 0, [(138, 0), (139, 0), (94, 0)]),
  (19, .dup, 1, 0, 0, 0, []),
  (20, .bipush 8, 2, 0, 0, 8, []),
  (22, .bipush 24, 2, 0, 0, 24, []),
  (24, .invokespecial 20, 3, 8, 3, 0, [(140, 0)]),
  (27, .putfield 23, 3, 4, 1, 2, [(203, 23)]),
  (30, .return_, 1, 0, 0, 0, []),
  (31, .nop, 0, 0, 0, 0, [])]
/-- PointMaker$Run.<init> -/
def zbt_5 : List zE := [
  (0, .aload_n 0, 1, 0, 0, 0, []),
  (1, .invokespecial 3, 3, 99, 1, 0, [(334, 0)]),
  (4, .aload_n 0, 1, 0, 0, 0, []),
  (5, .bipush 6, 2, 0, 0, 6, []),
  (7, .newarray .int, 2, 0, 1, 0, [(200, 0)]),
  (9, .putfield 9, 3, 5, 0, 2, [(335, 9)]),
  (12, .return_, 1, 0, 0, 0, []),
  (13, .nop, 0, 0, 0, 0, [])]
/-- PointMaker$Sheet.<init> -/
def zbt_6 : List zE := [
  (0, .aload_n 0, 1, 0, 0, 0, []),
  (1, .invokespecial 3, 3, 99, 1, 0, [(366, 0)]),
  (4, .aload_n 0, 1, 0, 0, 0, []),
  (5, .bipush 40, 2, 0, 0, 40, []),
  (7, .newarray .int, 2, 0, 1, 0, [(200, 0)]),
  (9, .putfield 9, 3, 6, 0, 2, [(367, 9)]),
  (12, .aload_n 0, 1, 0, 0, 0, []),
  (13, .bipush (-4), 2, 0, 0, (-4), []),
  (15, .putfield 15, 3, 6, 1, 0, [(368, 15)]),
  (18, .return_, 1, 0, 0, 0, []),
  (19, .nop, 0, 0, 0, 0, [])]
/-- PointMaker$Tape.<init> -/
def zbt_7 : List zE := [
  (0, .aload_n 0, 1, 0, 0, 0, []),
  (1, .invokespecial 3, 3, 99, 1, 0, [(127, 0)]),
  (4, .aload_n 0, 1, 0, 0, 0, []),
  (5, .sipush 320, 3, 0, 0, 320, []),
  (8, .newarray .byte, 2, 0, 2, 0, [(137, 0)]),
  (10, .putfield 9, 3, 7, 0, 2, [(128, 9)]),
  (13, .return_, 1, 0, 0, 0, []),
  (14, .nop, 0, 0, 0, 0, [])]
/-- PointMaker$Web.<init> -/
def zbt_8 : List zE := [
  (0, .aload_n 0, 1, 0, 0, 0, []),
  (1, .invokespecial 3, 3, 99, 1, 0, [(143, 0)]),
  (4, .aload_n 0, 1, 0, 0, 0, []),
  (5, .iload_n 1, 1, 1, 0, 0, []),
  (6, .newarray .int, 2, 0, 1, 0, [(200, 0)]),
  (8, .putfield 9, 3, 8, 0, 2, [(144, 9)]),
  (11, .aload_n 0, 1, 0, 0, 0, []),
  (12, .iload_n 1, 1, 1, 0, 0, []),
  (13, .newarray .int, 2, 0, 1, 0, [(200, 0)]),
  (15, .putfield 15, 3, 8, 1, 2, [(150, 15)]),
  (18, .aload_n 0, 1, 0, 0, 0, []),
  (19, .iload_n 1, 1, 1, 0, 0, []),
  (20, .newarray .int, 2, 0, 1, 0, [(200, 0)]),
  (22, .putfield 18, 3, 8, 2, 2, [(156, 18)]),
  (25, .aload_n 0, 1, 0, 0, 0, []),
  (26, .iload_n 1, 1, 1, 0, 0, []),
  (27, .newarray .int, 2, 0, 1, 0, [(200, 0)]),
  (29, .putfield 21, 3, 8, 3, 2, [(159, 21)]),
  (32, .aload_n 0, 1, 0, 0, 0, []),
  (33, .iload_n 1, 1, 1, 0, 0, []),
  (34, .newarray .int, 2, 0, 1, 0, [(200, 0)]),
  (36, .putfield 24, 3, 8, 4, 2, [(163, 24)]),
  (39, .aload_n 0, 1, 0, 0, 0, []),
  (40, .iload_n 1, 1, 1, 0, 0, []),
  (41, .newarray .int, 2, 0, 1, 0, [(200, 0)]),
  (43, .putfield 27, 3, 8, 5, 2, [(167, 27)]),
  (46, .aload_n 0, 1, 0, 0, 0, []),
  (47, .iload_n 2, 1, 2, 0, 0, []),
  (48, .iconst 5, 1, 0, 0, 5, []),
  (49, .imul, 1, 0, 0, 0, []),
  (50, .newarray .int, 2, 0, 1, 0, [(200, 0)]),
  (52, .putfield 30, 3, 8, 6, 2, [(170, 30)]),
  (55, .return_, 1, 0, 0, 0, []),
  (56, .nop, 0, 0, 0, 0, [])]
/-- PointMaker.<init> -/
def zbt_9 : List zE := [
  (0, .aload_n 0, 1, 0, 0, 0, []),
  (1, .invokespecial 1, 3, 99, 1, 0, [(113, 0)]),
  (4, .aload_n 0, 1, 0, 0, 0, []),
  (5, .new 7, 3, 4, 0, 0, [(116, 0), (117, 0), (92, 0)]),
  (8, .dup, 1, 0, 0, 0, []),
  (9, .invokespecial 9, 3, 4, 1, 0, [(118, 1)]),
  (12, .putfield 10, 3, 9, 0, 2, [(379, 10)]),
  (15, .aload_n 0, 1, 0, 0, 0, []),
  (16, .new 16, 3, 3, 0, 0, [(230, 0), (231, 0), (95, 0)]),
  (19, .dup, 1, 0, 0, 0, []),
  (20, .invokespecial 18, 3, 3, 1, 0, [(232, 0)]),
  (23, .putfield 19, 3, 9, 1, 2, [(380, 19)]),
  (26, .aload_n 0, 1, 0, 0, 0, []),
  (27, .iconst 2, 1, 0, 0, 2, []),
  (28, .anewarray 16, 3, 0, 4, 0, [(230, 0)]),
  (31, .putfield 23, 3, 9, 2, 2, [(381, 23)]),
  (34, .iconst 0, 1, 0, 0, 0, []),
  (35, .istore_n 1, 1, 1, 0, 0, []),
  (36, .iload_n 1, 1, 1, 0, 0, []),
  (37, .iconst 2, 1, 0, 0, 2, []),
  (38, .if_icmp .ge 22, 3, 30, 0, 0, []),
  (41, .aload_n 0, 1, 0, 0, 0, []),
  (42, .getfield 23, 3, 9, 2, 0, [(381, 23)]),
  (45, .iload_n 1, 1, 1, 0, 0, []),
  (46, .new 16, 3, 3, 0, 0, [(230, 0), (231, 0), (95, 0)]),
  (49, .dup, 1, 0, 0, 0, []),
  (50, .invokespecial 18, 3, 3, 1, 0, [(232, 0)]),
  (53, .aastore, 1, 0, 0, 0, []),
  (54, .iinc 1 1, 3, 1, 0, 1, []),
  (57, .goto (-21), 3, 18, 0, 0, []),
  (60, .aload_n 0, 1, 0, 0, 0, []),
  (61, .iconst 2, 1, 0, 0, 2, []),
  (62, .newarray .boolean, 2, 0, 3, 0, [(281, 0)]),
  (64, .putfield 27, 3, 9, 3, 2, [(382, 27)]),
  (67, .aload_n 0, 1, 0, 0, 0, []),
  (68, .new 31, 3, 2, 0, 0, [(260, 0), (261, 0), (96, 0)]),
  (71, .dup, 1, 0, 0, 0, []),
  (72, .invokespecial 33, 3, 2, 1, 0, [(262, 1)]),
  (75, .putfield 34, 3, 9, 4, 2, [(383, 34)]),
  (78, .aload_n 0, 1, 0, 0, 0, []),
  (79, .new 38, 3, 1, 0, 0, [(315, 0), (316, 0), (98, 0)]),
  (82, .dup, 1, 0, 0, 0, []),
  (83, .invokespecial 40, 3, 1, 1, 0, [(317, 1)]),
  (86, .putfield 41, 3, 9, 5, 2, [(384, 41)]),
  (89, .aload_n 0, 1, 0, 0, 0, []),
  (90, .new 38, 3, 1, 0, 0, [(315, 0), (316, 0), (98, 0)]),
  (93, .dup, 1, 0, 0, 0, []),
  (94, .invokespecial 40, 3, 1, 1, 0, [(317, 1)]),
  (97, .putfield 45, 3, 9, 6, 2, [(385, 45)]),
  (100, .aload_n 0, 1, 0, 0, 0, []),
  (101, .new 48, 3, 5, 0, 0, [(329, 0), (330, 0), (99, 0)]),
  (104, .dup, 1, 0, 0, 0, []),
  (105, .invokespecial 50, 3, 5, 1, 0, [(331, 1)]),
  (108, .putfield 51, 3, 9, 7, 2, [(386, 51)]),
  (111, .aload_n 0, 1, 0, 0, 0, []),
  (112, .new 48, 3, 5, 0, 0, [(329, 0), (330, 0), (99, 0)]),
  (115, .dup, 1, 0, 0, 0, []),
  (116, .invokespecial 50, 3, 5, 1, 0, [(331, 1)]),
  (119, .putfield 55, 3, 9, 8, 2, [(387, 55)]),
  (122, .aload_n 0, 1, 0, 0, 0, []),
  (123, .new 48, 3, 5, 0, 0, [(329, 0), (330, 0), (99, 0)]),
  (126, .dup, 1, 0, 0, 0, []),
  (127, .invokespecial 50, 3, 5, 1, 0, [(331, 1)]),
  (130, .putfield 58, 3, 9, 9, 2, [(388, 58)]),
  (133, .aload_n 0, 1, 0, 0, 0, []),
  (134, .bipush 6, 2, 0, 0, 6, []),
  (136, .newarray .int, 2, 0, 1, 0, [(200, 0)]),
  (138, .putfield 61, 3, 9, 10, 2, [(389, 61)]),
  (141, .aload_n 0, 1, 0, 0, 0, []),
  (142, .bipush 6, 2, 0, 0, 6, []),
  (144, .newarray .int, 2, 0, 1, 0, [(200, 0)]),
  (146, .putfield 65, 3, 9, 11, 2, [(390, 65)]),
  (149, .aload_n 0, 1, 0, 0, 0, []),
  (150, .iconst 4, 1, 0, 0, 4, []),
  (151, .anewarray 68, 3, 0, 5, 0, [(360, 0)]),
  (154, .putfield 70, 3, 9, 12, 2, [(391, 70)]),
  (157, .iconst 0, 1, 0, 0, 0, []),
  (158, .istore_n 1, 1, 1, 0, 0, []),
  (159, .iload_n 1, 1, 1, 0, 0, []),
  (160, .iconst 4, 1, 0, 0, 4, []),
  (161, .if_icmp .ge 22, 3, 90, 0, 0, []),
  (164, .aload_n 0, 1, 0, 0, 0, []),
  (165, .getfield 70, 3, 9, 12, 0, [(391, 70)]),
  (168, .iload_n 1, 1, 1, 0, 0, []),
  (169, .new 68, 3, 6, 0, 0, [(360, 0), (362, 0), (100, 0)]),
  (172, .dup, 1, 0, 0, 0, []),
  (173, .invokespecial 74, 3, 6, 1, 0, [(363, 1)]),
  (176, .aastore, 1, 0, 0, 0, []),
  (177, .iinc 1 1, 3, 1, 0, 1, []),
  (180, .goto (-21), 3, 78, 0, 0, []),
  (183, .aload_n 0, 1, 0, 0, 0, []),
  (184, .bipush (-4), 2, 0, 0, (-4), []),
  (186, .putfield 75, 3, 9, 14, 0, [(393, 75)]),
  (189, .aload_n 0, 1, 0, 0, 0, []),
  (190, .iconst 1, 1, 0, 0, 1, []),
  (191, .putfield 79, 3, 9, 16, 1, [(395, 79)]),
  (194, .return_, 1, 0, 0, 0, []),
  (195, .nop, 0, 0, 0, 0, [])]
/-- PointMakerModel.<init> -/
def zbt_10 : List zE := [
  (0, .aload_n 0, 1, 0, 0, 0, []),
  (1, .invokespecial 1, 3, 99, 1, 0, [(1005, 0)]),
  (4, .aload_n 0, 1, 0, 0, 0, []),
  (5, .sipush 708, 3, 0, 0, 708, []),
  (8, .newarray .int, 2, 0, 1, 0, [(200, 0)]),
  (10, .putfield 7, 3, 10, 0, 2, [(1006, 7)]),
  (13, .aload_n 0, 1, 0, 0, 0, []),
  (14, .sipush 320, 3, 0, 0, 320, []),
  (17, .newarray .int, 2, 0, 1, 0, [(200, 0)]),
  (19, .putfield 13, 3, 10, 1, 2, [(1007, 13)]),
  (22, .aload_n 0, 1, 0, 0, 0, []),
  (23, .bipush 11, 2, 0, 0, 11, []),
  (25, .newarray .int, 2, 0, 1, 0, [(200, 0)]),
  (27, .dup, 1, 0, 0, 0, []),
  (28, .iconst 0, 1, 0, 0, 0, []),
  (29, .iconst 0, 1, 0, 0, 0, []),
  (30, .iastore, 1, 0, 0, 0, []),
  (31, .dup, 1, 0, 0, 0, []),
  (32, .iconst 1, 1, 0, 0, 1, []),
  (33, .iconst 3, 1, 0, 0, 3, []),
  (34, .iastore, 1, 0, 0, 0, []),
  (35, .dup, 1, 0, 0, 0, []),
  (36, .iconst 2, 1, 0, 0, 2, []),
  (37, .bipush 6, 2, 0, 0, 6, []),
  (39, .iastore, 1, 0, 0, 0, []),
  (40, .dup, 1, 0, 0, 0, []),
  (41, .iconst 3, 1, 0, 0, 3, []),
  (42, .bipush 10, 2, 0, 0, 10, []),
  (44, .iastore, 1, 0, 0, 0, []),
  (45, .dup, 1, 0, 0, 0, []),
  (46, .iconst 4, 1, 0, 0, 4, []),
  (47, .bipush 12, 2, 0, 0, 12, []),
  (49, .iastore, 1, 0, 0, 0, []),
  (50, .dup, 1, 0, 0, 0, []),
  (51, .iconst 5, 1, 0, 0, 5, []),
  (52, .bipush 16, 2, 0, 0, 16, []),
  (54, .iastore, 1, 0, 0, 0, []),
  (55, .dup, 1, 0, 0, 0, []),
  (56, .bipush 6, 2, 0, 0, 6, []),
  (58, .bipush 21, 2, 0, 0, 21, []),
  (60, .iastore, 1, 0, 0, 0, []),
  (61, .dup, 1, 0, 0, 0, []),
  (62, .bipush 7, 2, 0, 0, 7, []),
  (64, .bipush 25, 2, 0, 0, 25, []),
  (66, .iastore, 1, 0, 0, 0, []),
  (67, .dup, 1, 0, 0, 0, []),
  (68, .bipush 8, 2, 0, 0, 8, []),
  (70, .bipush 29, 2, 0, 0, 29, []),
  (72, .iastore, 1, 0, 0, 0, []),
  (73, .dup, 1, 0, 0, 0, []),
  (74, .bipush 9, 2, 0, 0, 9, []),
  (76, .bipush 33, 2, 0, 0, 33, []),
  (78, .iastore, 1, 0, 0, 0, []),
  (79, .dup, 1, 0, 0, 0, []),
  (80, .bipush 10, 2, 0, 0, 10, []),
  (82, .bipush 37, 2, 0, 0, 37, []),
  (84, .iastore, 1, 0, 0, 0, []),
  (85, .putfield 16, 3, 10, 10, 2, [(1016, 16)]),
  (88, .aload_n 0, 1, 0, 0, 0, []),
  (89, .bipush 37, 2, 0, 0, 37, []),
  (91, .newarray .int, 2, 0, 1, 0, [(200, 0)]),
  (93, .dup, 1, 0, 0, 0, []),
  (94, .iconst 0, 1, 0, 0, 0, []),
  (95, .bipush 115, 2, 0, 0, 115, []),
  (97, .iastore, 1, 0, 0, 0, []),
  (98, .dup, 1, 0, 0, 0, []),
  (99, .iconst 1, 1, 0, 0, 1, []),
  (100, .bipush 101, 2, 0, 0, 101, []),
  (102, .iastore, 1, 0, 0, 0, []),
  (103, .dup, 1, 0, 0, 0, []),
  (104, .iconst 2, 1, 0, 0, 2, []),
  (105, .bipush 116, 2, 0, 0, 116, []),
  (107, .iastore, 1, 0, 0, 0, []),
  (108, .dup, 1, 0, 0, 0, []),
  (109, .iconst 3, 1, 0, 0, 3, []),
  (110, .bipush 115, 2, 0, 0, 115, []),
  (112, .iastore, 1, 0, 0, 0, []),
  (113, .dup, 1, 0, 0, 0, []),
  (114, .iconst 4, 1, 0, 0, 4, []),
  (115, .bipush 97, 2, 0, 0, 97, []),
  (117, .iastore, 1, 0, 0, 0, []),
  (118, .dup, 1, 0, 0, 0, []),
  (119, .iconst 5, 1, 0, 0, 5, []),
  (120, .bipush 121, 2, 0, 0, 121, []),
  (122, .iastore, 1, 0, 0, 0, []),
  (123, .dup, 1, 0, 0, 0, []),
  (124, .bipush 6, 2, 0, 0, 6, []),
  (126, .bipush 103, 2, 0, 0, 103, []),
  (128, .iastore, 1, 0, 0, 0, []),
  (129, .dup, 1, 0, 0, 0, []),
  (130, .bipush 7, 2, 0, 0, 7, []),
  (132, .bipush 111, 2, 0, 0, 111, []),
  (134, .iastore, 1, 0, 0, 0, []),
  (135, .dup, 1, 0, 0, 0, []),
  (136, .bipush 8, 2, 0, 0, 8, []),
  (138, .bipush 116, 2, 0, 0, 116, []),
  (140, .iastore, 1, 0, 0, 0, []),
  (141, .dup, 1, 0, 0, 0, []),
  (142, .bipush 9, 2, 0, 0, 9, []),
  (144, .bipush 111, 2, 0, 0, 111, []),
  (146, .iastore, 1, 0, 0, 0, []),
  (147, .dup, 1, 0, 0, 0, []),
  (148, .bipush 10, 2, 0, 0, 10, []),
  (150, .bipush 105, 2, 0, 0, 105, []),
  (152, .iastore, 1, 0, 0, 0, []),
  (153, .dup, 1, 0, 0, 0, []),
  (154, .bipush 11, 2, 0, 0, 11, []),
  (156, .bipush 102, 2, 0, 0, 102, []),
  (158, .iastore, 1, 0, 0, 0, []),
  (159, .dup, 1, 0, 0, 0, []),
  (160, .bipush 12, 2, 0, 0, 12, []),
  (162, .bipush 115, 2, 0, 0, 115, []),
  (164, .iastore, 1, 0, 0, 0, []),
  (165, .dup, 1, 0, 0, 0, []),
  (166, .bipush 13, 2, 0, 0, 13, []),
  (168, .bipush 116, 2, 0, 0, 116, []),
  (170, .iastore, 1, 0, 0, 0, []),
  (171, .dup, 1, 0, 0, 0, []),
  (172, .bipush 14, 2, 0, 0, 14, []),
  (174, .bipush 111, 2, 0, 0, 111, []),
  (176, .iastore, 1, 0, 0, 0, []),
  (177, .dup, 1, 0, 0, 0, []),
  (178, .bipush 15, 2, 0, 0, 15, []),
  (180, .bipush 112, 2, 0, 0, 112, []),
  (182, .iastore, 1, 0, 0, 0, []),
  (183, .dup, 1, 0, 0, 0, []),
  (184, .bipush 16, 2, 0, 0, 16, []),
  (186, .bipush 98, 2, 0, 0, 98, []),
  (188, .iastore, 1, 0, 0, 0, []),
  (189, .dup, 1, 0, 0, 0, []),
  (190, .bipush 17, 2, 0, 0, 17, []),
  (192, .bipush 108, 2, 0, 0, 108, []),
  (194, .iastore, 1, 0, 0, 0, []),
  (195, .dup, 1, 0, 0, 0, []),
  (196, .bipush 18, 2, 0, 0, 18, []),
  (198, .bipush 111, 2, 0, 0, 111, []),
  (200, .iastore, 1, 0, 0, 0, []),
  (201, .dup, 1, 0, 0, 0, []),
  (202, .bipush 19, 2, 0, 0, 19, []),
  (204, .bipush 99, 2, 0, 0, 99, []),
  (206, .iastore, 1, 0, 0, 0, []),
  (207, .dup, 1, 0, 0, 0, []),
  (208, .bipush 20, 2, 0, 0, 20, []),
  (210, .bipush 107, 2, 0, 0, 107, []),
  (212, .iastore, 1, 0, 0, 0, []),
  (213, .dup, 1, 0, 0, 0, []),
  (214, .bipush 21, 2, 0, 0, 21, []),
  (216, .bipush 112, 2, 0, 0, 112, []),
  (218, .iastore, 1, 0, 0, 0, []),
  (219, .dup, 1, 0, 0, 0, []),
  (220, .bipush 22, 2, 0, 0, 22, []),
  (222, .bipush 108, 2, 0, 0, 108, []),
  (224, .iastore, 1, 0, 0, 0, []),
  (225, .dup, 1, 0, 0, 0, []),
  (226, .bipush 23, 2, 0, 0, 23, []),
  (228, .bipush 117, 2, 0, 0, 117, []),
  (230, .iastore, 1, 0, 0, 0, []),
  (231, .dup, 1, 0, 0, 0, []),
  (232, .bipush 24, 2, 0, 0, 24, []),
  (234, .bipush 115, 2, 0, 0, 115, []),
  (236, .iastore, 1, 0, 0, 0, []),
  (237, .dup, 1, 0, 0, 0, []),
  (238, .bipush 25, 2, 0, 0, 25, []),
  (240, .bipush 108, 2, 0, 0, 108, []),
  (242, .iastore, 1, 0, 0, 0, []),
  (243, .dup, 1, 0, 0, 0, []),
  (244, .bipush 26, 2, 0, 0, 26, []),
  (246, .bipush 101, 2, 0, 0, 101, []),
  (248, .iastore, 1, 0, 0, 0, []),
  (249, .dup, 1, 0, 0, 0, []),
  (250, .bipush 27, 2, 0, 0, 27, []),
  (252, .bipush 115, 2, 0, 0, 115, []),
  (254, .iastore, 1, 0, 0, 0, []),
  (255, .dup, 1, 0, 0, 0, []),
  (256, .bipush 28, 2, 0, 0, 28, []),
  (258, .bipush 115, 2, 0, 0, 115, []),
  (260, .iastore, 1, 0, 0, 0, []),
  (261, .dup, 1, 0, 0, 0, []),
  (262, .bipush 29, 2, 0, 0, 29, []),
  (264, .bipush 115, 2, 0, 0, 115, []),
  (266, .iastore, 1, 0, 0, 0, []),
  (267, .dup, 1, 0, 0, 0, []),
  (268, .bipush 30, 2, 0, 0, 30, []),
  (270, .bipush 97, 2, 0, 0, 97, []),
  (272, .iastore, 1, 0, 0, 0, []),
  (273, .dup, 1, 0, 0, 0, []),
  (274, .bipush 31, 2, 0, 0, 31, []),
  (276, .bipush 109, 2, 0, 0, 109, []),
  (278, .iastore, 1, 0, 0, 0, []),
  (279, .dup, 1, 0, 0, 0, []),
  (280, .bipush 32, 2, 0, 0, 32, []),
  (282, .bipush 101, 2, 0, 0, 101, []),
  (284, .iastore, 1, 0, 0, 0, []),
  (285, .dup, 1, 0, 0, 0, []),
  (286, .bipush 33, 2, 0, 0, 33, []),
  (288, .bipush 109, 2, 0, 0, 109, []),
  (290, .iastore, 1, 0, 0, 0, []),
  (291, .dup, 1, 0, 0, 0, []),
  (292, .bipush 34, 2, 0, 0, 34, []),
  (294, .bipush 111, 2, 0, 0, 111, []),
  (296, .iastore, 1, 0, 0, 0, []),
  (297, .dup, 1, 0, 0, 0, []),
  (298, .bipush 35, 2, 0, 0, 35, []),
  (300, .bipush 114, 2, 0, 0, 114, []),
  (302, .iastore, 1, 0, 0, 0, []),
  (303, .dup, 1, 0, 0, 0, []),
  (304, .bipush 36, 2, 0, 0, 36, []),
  (306, .bipush 101, 2, 0, 0, 101, []),
  (308, .iastore, 1, 0, 0, 0, []),
  (309, .putfield 19, 3, 10, 11, 2, [(1017, 19)]),
  (312, .aload_n 0, 1, 0, 0, 0, []),
  (313, .bipush 8, 2, 0, 0, 8, []),
  (315, .newarray .int, 2, 0, 1, 0, [(200, 0)]),
  (317, .putfield 22, 3, 10, 13, 2, [(1019, 22)]),
  (320, .aload_n 0, 1, 0, 0, 0, []),
  (321, .bipush 40, 2, 0, 0, 40, []),
  (323, .newarray .int, 2, 0, 1, 0, [(200, 0)]),
  (325, .putfield 25, 3, 10, 17, 2, [(1023, 25)]),
  (328, .aload_n 0, 1, 0, 0, 0, []),
  (329, .sipush 240, 3, 0, 0, 240, []),
  (332, .newarray .int, 2, 0, 1, 0, [(200, 0)]),
  (334, .putfield 28, 3, 10, 18, 2, [(1024, 28)]),
  (337, .aload_n 0, 1, 0, 0, 0, []),
  (338, .bipush 40, 2, 0, 0, 40, []),
  (340, .newarray .int, 2, 0, 1, 0, [(200, 0)]),
  (342, .putfield 31, 3, 10, 19, 2, [(1025, 31)]),
  (345, .aload_n 0, 1, 0, 0, 0, []),
  (346, .bipush 40, 2, 0, 0, 40, []),
  (348, .newarray .int, 2, 0, 1, 0, [(200, 0)]),
  (350, .putfield 34, 3, 10, 20, 2, [(1026, 34)]),
  (353, .aload_n 0, 1, 0, 0, 0, []),
  (354, .bipush 40, 2, 0, 0, 40, []),
  (356, .newarray .int, 2, 0, 1, 0, [(200, 0)]),
  (358, .putfield 37, 3, 10, 21, 2, [(1027, 37)]),
  (361, .aload_n 0, 1, 0, 0, 0, []),
  (362, .bipush 40, 2, 0, 0, 40, []),
  (364, .newarray .int, 2, 0, 1, 0, [(200, 0)]),
  (366, .putfield 40, 3, 10, 22, 2, [(1028, 40)]),
  (369, .aload_n 0, 1, 0, 0, 0, []),
  (370, .bipush 40, 2, 0, 0, 40, []),
  (372, .newarray .int, 2, 0, 1, 0, [(200, 0)]),
  (374, .putfield 43, 3, 10, 23, 2, [(1029, 43)]),
  (377, .aload_n 0, 1, 0, 0, 0, []),
  (378, .sipush 4800, 3, 0, 0, 4800, []),
  (381, .newarray .int, 2, 0, 1, 0, [(200, 0)]),
  (383, .putfield 46, 3, 10, 24, 2, [(1030, 46)]),
  (386, .aload_n 0, 1, 0, 0, 0, []),
  (387, .bipush 6, 2, 0, 0, 6, []),
  (389, .newarray .int, 2, 0, 1, 0, [(200, 0)]),
  (391, .putfield 49, 3, 10, 25, 2, [(1031, 49)]),
  (394, .aload_n 0, 1, 0, 0, 0, []),
  (395, .sipush 800, 3, 0, 0, 800, []),
  (398, .newarray .int, 2, 0, 1, 0, [(200, 0)]),
  (400, .putfield 52, 3, 10, 26, 2, [(1032, 52)]),
  (403, .aload_n 0, 1, 0, 0, 0, []),
  (404, .bipush 40, 2, 0, 0, 40, []),
  (406, .newarray .int, 2, 0, 1, 0, [(200, 0)]),
  (408, .putfield 55, 3, 10, 28, 2, [(1034, 55)]),
  (411, .aload_n 0, 1, 0, 0, 0, []),
  (412, .bipush 6, 2, 0, 0, 6, []),
  (414, .newarray .int, 2, 0, 1, 0, [(200, 0)]),
  (416, .putfield 58, 3, 10, 29, 2, [(1035, 58)]),
  (419, .aload_n 0, 1, 0, 0, 0, []),
  (420, .bipush 6, 2, 0, 0, 6, []),
  (422, .newarray .int, 2, 0, 1, 0, [(200, 0)]),
  (424, .putfield 61, 3, 10, 30, 2, [(1036, 61)]),
  (427, .aload_n 0, 1, 0, 0, 0, []),
  (428, .bipush 10, 2, 0, 0, 10, []),
  (430, .newarray .int, 2, 0, 1, 0, [(200, 0)]),
  (432, .putfield 64, 3, 10, 37, 2, [(1043, 64)]),
  (435, .aload_n 0, 1, 0, 0, 0, []),
  (436, .bipush 6, 2, 0, 0, 6, []),
  (438, .newarray .int, 2, 0, 1, 0, [(200, 0)]),
  (440, .putfield 67, 3, 10, 38, 2, [(1044, 67)]),
  (443, .aload_n 0, 1, 0, 0, 0, []),
  (444, .bipush 8, 2, 0, 0, 8, []),
  (446, .newarray .int, 2, 0, 1, 0, [(200, 0)]),
  (448, .putfield 70, 3, 10, 39, 2, [(1045, 70)]),
  (451, .aload_n 0, 1, 0, 0, 0, []),
  (452, .iconst 2, 1, 0, 0, 2, []),
  (453, .newarray .boolean, 2, 0, 3, 0, [(281, 0)]),
  (455, .dup, 1, 0, 0, 0, []),
  (456, .iconst 0, 1, 0, 0, 0, []),
  (457, .iconst 0, 1, 0, 0, 0, []),
  (458, .sastore, 1, 0, 0, 0, []),
  (459, .dup, 1, 0, 0, 0, []),
  (460, .iconst 1, 1, 0, 0, 1, []),
  (461, .iconst 0, 1, 0, 0, 0, []),
  (462, .sastore, 1, 0, 0, 0, []),
  (463, .putfield 73, 3, 10, 40, 2, [(1046, 73)]),
  (466, .aload_n 0, 1, 0, 0, 0, []),
  (467, .iconst 4, 1, 0, 0, 4, []),
  (468, .newarray .int, 2, 0, 1, 0, [(200, 0)]),
  (470, .dup, 1, 0, 0, 0, []),
  (471, .iconst 0, 1, 0, 0, 0, []),
  (472, .bipush (-4), 2, 0, 0, (-4), []),
  (474, .iastore, 1, 0, 0, 0, []),
  (475, .dup, 1, 0, 0, 0, []),
  (476, .iconst 1, 1, 0, 0, 1, []),
  (477, .bipush (-4), 2, 0, 0, (-4), []),
  (479, .iastore, 1, 0, 0, 0, []),
  (480, .dup, 1, 0, 0, 0, []),
  (481, .iconst 2, 1, 0, 0, 2, []),
  (482, .bipush (-4), 2, 0, 0, (-4), []),
  (484, .iastore, 1, 0, 0, 0, []),
  (485, .dup, 1, 0, 0, 0, []),
  (486, .iconst 3, 1, 0, 0, 3, []),
  (487, .bipush (-4), 2, 0, 0, (-4), []),
  (489, .iastore, 1, 0, 0, 0, []),
  (490, .putfield 77, 3, 10, 41, 2, [(1047, 77)]),
  (493, .aload_n 0, 1, 0, 0, 0, []),
  (494, .iconst 4, 1, 0, 0, 4, []),
  (495, .newarray .int, 2, 0, 1, 0, [(200, 0)]),
  (497, .dup, 1, 0, 0, 0, []),
  (498, .iconst 0, 1, 0, 0, 0, []),
  (499, .iconst 0, 1, 0, 0, 0, []),
  (500, .iastore, 1, 0, 0, 0, []),
  (501, .dup, 1, 0, 0, 0, []),
  (502, .iconst 1, 1, 0, 0, 1, []),
  (503, .iconst 0, 1, 0, 0, 0, []),
  (504, .iastore, 1, 0, 0, 0, []),
  (505, .dup, 1, 0, 0, 0, []),
  (506, .iconst 2, 1, 0, 0, 2, []),
  (507, .iconst 0, 1, 0, 0, 0, []),
  (508, .iastore, 1, 0, 0, 0, []),
  (509, .dup, 1, 0, 0, 0, []),
  (510, .iconst 3, 1, 0, 0, 3, []),
  (511, .iconst 0, 1, 0, 0, 0, []),
  (512, .iastore, 1, 0, 0, 0, []),
  (513, .putfield 80, 3, 10, 42, 2, [(1048, 80)]),
  (516, .aload_n 0, 1, 0, 0, 0, []),
  (517, .sipush 160, 3, 0, 0, 160, []),
  (520, .newarray .int, 2, 0, 1, 0, [(200, 0)]),
  (522, .putfield 83, 3, 10, 43, 2, [(1049, 83)]),
  (525, .aload_n 0, 1, 0, 0, 0, []),
  (526, .bipush 6, 2, 0, 0, 6, []),
  (528, .newarray .int, 2, 0, 1, 0, [(200, 0)]),
  (530, .putfield 86, 3, 10, 44, 2, [(1050, 86)]),
  (533, .return_, 1, 0, 0, 0, []),
  (534, .nop, 0, 0, 0, 0, [])]
/-- PointMaker$Program.forgetGiven -/
def zbt_11 : List zE := [
  (0, .iconst 0, 1, 0, 0, 0, []),
  (1, .istore_n 1, 1, 1, 0, 0, []),
  (2, .iload_n 1, 1, 1, 0, 0, []),
  (3, .bipush 6, 2, 0, 0, 6, []),
  (5, .if_icmp .ge 17, 3, 12, 0, 0, []),
  (8, .aload_n 0, 1, 0, 0, 0, []),
  (9, .getfield 20, 3, 3, 1, 0, [(246, 20)]),
  (12, .iload_n 1, 1, 1, 0, 0, []),
  (13, .bipush (-4), 2, 0, 0, (-4), []),
  (15, .iastore, 1, 0, 0, 0, []),
  (16, .iinc 1 1, 3, 1, 0, 1, []),
  (19, .goto (-17), 3, 2, 0, 0, []),
  (22, .aload_n 0, 1, 0, 0, 0, []),
  (23, .iconst 1, 1, 0, 0, 1, []),
  (24, .putfield 31, 3, 3, 2, 0, [(250, 31)]),
  (27, .return_, 1, 0, 0, 0, []),
  (28, .nop, 0, 0, 0, 0, [])]
def zb_cds : List (List zE) := [zbt_0, zbt_1, zbt_2, zbt_3, zbt_4, zbt_5, zbt_6, zbt_7, zbt_8, zbt_9, zbt_10, zbt_11]
def zb_mts : List zT := [(⟨"PointMaker$Division", "<init>", "()V"⟩, prog_2_method_1_code, 1, none, 1, 20, 0, 270, 269, 0, 97),
  (⟨"PointMaker$Letters", "<init>", "()V"⟩, prog_3_method_1_code, 1, none, 1, 20, 1, 319, 318, 0, 98),
  (⟨"PointMaker$Points", "<init>", "()V"⟩, prog_4_method_1_code, 1, none, 2, 42, 2, 264, 263, 0, 96),
  (⟨"PointMaker$Program", "<init>", "()V"⟩, prog_5_method_1_code, 1, none, 2, 42, 3, 234, 233, 0, 95),
  (⟨"PointMaker$Reader", "<init>", "()V"⟩, prog_6_method_1_code, 1, none, 2, 42, 4, 120, 119, 0, 92),
  (⟨"PointMaker$Run", "<init>", "()V"⟩, prog_7_method_1_code, 1, none, 1, 20, 5, 333, 332, 0, 99),
  (⟨"PointMaker$Sheet", "<init>", "()V"⟩, prog_8_method_1_code, 1, none, 1, 20, 6, 365, 364, 0, 100),
  (⟨"PointMaker$Tape", "<init>", "()V"⟩, prog_9_method_1_code, 1, none, 1, 20, 7, 126, 125, 0, 93),
  (⟨"PointMaker$Web", "<init>", "(II)V"⟩, prog_10_method_1_code, 3, none, 1, 20, 8, 142, 141, 0, 94),
  (⟨"PointMaker", "<init>", "()V"⟩, prog_1_method_1_code, 2, none, 3, 62, 9, 112, 111, 0, 91),
  (⟨"PointMakerModel", "<init>", "()V"⟩, prog_12_method_1_code, 1, none, 1, 20, 10, 1004, 1003, 0, 101),
  (⟨"PointMaker$Program", "forgetGiven", "()V"⟩, prog_5_method_3_code, 2, none, 0, 0, 3, 241, 240, 0, 95)]
def zb_mcs : List (Nat × Nat) := [(1, 8), (1, 512), (15, 5391), (9, 5055), (10, 5371), (1, 6), (1, 40), (1, 320), (7, 5040), (80, 27208), (26, 7422), (0, 0)]
def zb_dfs : List (List (Option zV)) := [[none, some (.inl 0)],
  [none, some (.inl 0)],
  [none, none, none, none, none, some (.inl 0), none, none],
  [none, none, some (.inl 0)],
  [none, none, some (.inl 0), some (.inl 0), some (.inl 0), some (.inl 0), some (.inl 0), some (.inl 0)],
  [none, some (.inl 0), some (.inl 0), some (.inl 0), some (.inl 0), some (.inl 0)],
  [none, some (.inl 0), some (.inl 0)],
  [none, some (.inl 0)],
  [none, none, none, none, none, none, none, some (.inl 0), some (.inl 0)],
  [none, none, none, none, none, none, none, none, none, none, none, none, none, some (.inl 0), some (.inl 0), some (.inl 0), some (.inl 0)],
  [none, none, some (.inl 0), some (.inl 0), some (.inl 0), some (.inl 0), some (.inl 0), some (.inl 0), some (.inl 0), some (.inl 0), none, none, some (.inl 0), none, some (.inl 0), some (.inl 0), some (.inl 0), none, none, none, none, none, none, none, none, none, none, some (.inl 0), none, none, none, some (.inl 0), some (.inl 0), some (.inl 0), some (.inl 0), some (.inl 0), some (.inl 0), none, none, none, none, none, none, none, none, some (.inl 0)]]
def zb_cd (j : Nat) : List zE := zb_cds.getD j []
def zb_mt (j : Nat) : zT := zb_mts.getD j (⟨"", "", ""⟩, .empty, 0, none, 0, 0, 0, 0, 0, 0, 0)
def zb_y (j : Nat) : MethodName := (zb_mt j).1
def zb_by (j : Nat) : ByteArray := (zb_mt j).2.1
def zb_ml (j : Nat) : Nat := (zb_mt j).2.2.1
def zb_own (j : Nat) : String := (zb_y j).cls
def zb_mc (j : Nat) : Nat := (zb_mcs.getD j (0, 0)).1
def zb_ms (j : Nat) : Nat := (zb_mcs.getD j (0, 0)).2
def zb_rm (j : Nat) : Room := { frames := (zb_mt j).2.2.2.2.1, cells := zb_mc j, slots := zb_ms j, locals := (zb_mt j).2.2.2.2.2.1 }
def zb_df (a : Nat) : List (Option zV) := zb_dfs.getD a []
def zb_pc (j i : Nat) : Nat := match (zb_cd j)[i]? with
  | some e => e.1
  | none => 0
def zb_fn : List (Nat × Int) → Nat → Int
  | [], _ => 0
  | (i, v) :: r, k => if k = i then v else zb_fn r k
/-- may a value stand in a field: 0 an int, 1 a boolean, 2 a reference -/
def zb_tok (d : Int) (v : zV) : Bool := match v with
  | .inl x => decide (d = 0) || (decide (d = 1) && (decide (x = 0) || decide (x = 1)))
  | .inr (.inr _) => decide (d = 2)
  | .inr (.inl _) => false
def zb_cN (a : Nat) : Nat := (zb_mt a).2.2.2.2.2.2.1
/-- a call: its receiver is an object of its class -/
def zb_inv (call : Nat → List zV → zbX → Option zbX) (j a b i : Nat) (L : zL) (S : List zV) (X : zbX) (cu su : Nat) (K : Nat → zL → List zV → zbX → Nat → Nat → Option zbX) : Option zbX :=
  match (S.take b).reverse with
  | .inr (.inr r) :: As => match X[r]? with
    | some (0, c, _, _) => if c = zb_cN a ∧ b ≤ S.length ∧ S.length ≤ b + 3 ∧ cu + zb_mc a ≤ zb_mc j ∧ su + zb_ms a ≤ zb_ms j then (match call a (.inr (.inr r) :: As) X with
      | some X2 => K (i + 1) L (S.drop b) X2 (cu + zb_mc a) (su + zb_ms a)
      | none => none) else none
    | _ => none
  | _ => none
def zb_act (call : Nat → List zV → zbX → Option zbX) (j : Nat) (e : zE) (i : Nat) (L : zL) (S : List zV) (X : zbX) (cu su : Nat) (K : Nat → zL → List zV → zbX → Nat → Nat → Option zbX) : Option zbX :=
  match e with
  | (_, ins, _, a, b, d, _) =>
  match ins with
  | .aload_n _ => match zx_lk L a with
    | some (.inr (.inr r)) => K (i + 1) L (.inr (.inr r) :: S) X cu su
    | _ => none
  | .iload_n _ => match zx_lk L a with
    | some (.inl x) => K (i + 1) L (.inl x :: S) X cu su
    | _ => none
  | .iconst _ => K (i + 1) L (.inl d :: S) X cu su
  | .bipush _ => K (i + 1) L (.inl d :: S) X cu su
  | .sipush _ => K (i + 1) L (.inl d :: S) X cu su
  | .dup => match S with
    | .inr (.inr r) :: S => K (i + 1) L (.inr (.inr r) :: .inr (.inr r) :: S) X cu su
    | _ => none
  | .imul => match S with
    | .inl y :: .inl x :: S => if -2147483648 ≤ x * y ∧ x * y < 2147483648 then K (i + 1) L (.inl (x * y) :: S) X cu su else none
    | _ => none
  | .istore_n _ => match S with
    | .inl x :: S => K (i + 1) (zx_se L a (.inl x)) S X cu su
    | _ => none
  | .iinc _ _ => match zx_lk L a with
    | some (.inl x) => if -2147483648 ≤ x + d ∧ x + d < 2147483648 then K (i + 1) (zx_se L a (.inl (x + d))) S X cu su else none
    | _ => none
  | .if_icmp _ _ => match S with
    | .inl y :: .inl x :: S => if x < y then K (i + 1) L S X cu su else K a L S X cu su
    | _ => none
  | .goto _ => K a L S X cu su
  | .new _ => if cu + 1 ≤ zb_mc j ∧ su + (zb_df a).length ≤ zb_ms j then K (i + 1) L (.inr (.inr X.length) :: S) (X ++ [(0, a, zb_df a, [])]) (cu + 1) (su + (zb_df a).length) else none
  | .newarray _ => match S with
    | .inl n :: S => if (0 ≤ n ∧ n ≤ 100000) ∧ cu + 1 ≤ zb_mc j ∧ su + n.toNat ≤ zb_ms j then K (i + 1) L (.inr (.inr X.length) :: S) (X ++ [(b, n.toNat, [], [])]) (cu + 1) (su + n.toNat) else none
    | _ => none
  | .anewarray _ => match S with
    | .inl n :: S => if (0 ≤ n ∧ n ≤ 100000) ∧ cu + 1 ≤ zb_mc j ∧ su + n.toNat ≤ zb_ms j then K (i + 1) L (.inr (.inr X.length) :: S) (X ++ [(b, n.toNat, List.replicate n.toNat none, [])]) (cu + 1) (su + n.toNat) else none
    | _ => none
  | .getfield _ => match S with
    | .inr (.inr r) :: S => match X[r]? with
      | some (0, c, fs, _) => if c = a then (match fs[b]? with
        | some (some v) => K (i + 1) L (v :: S) X cu su
        | _ => none) else none
      | _ => none
    | _ => none
  | .putfield _ => match S with
    | v :: .inr (.inr r) :: S => match X[r]? with
      | some (0, c, fs, w) => if c = a ∧ b < fs.length ∧ zb_tok d v = true then K (i + 1) L S (X.set r (0, c, fs.set b (some v), w)) cu su else none
      | _ => none
    | _ => none
  | .iastore => match S with
    | .inl v :: .inl k :: .inr (.inr r) :: S => match X[r]? with
      | some (1, n, fs, w) => if 0 ≤ k ∧ k < (n : Int) then K (i + 1) L S (X.set r (1, n, fs, (k.toNat, v) :: w)) cu su else none
      | _ => none
    | _ => none
  | .sastore => match S with
    | .inl v :: .inl k :: .inr (.inr r) :: S => match X[r]? with
      | some (3, n, fs, w) => if (0 ≤ k ∧ k < (n : Int)) ∧ (v = 0 ∨ v = 1) then K (i + 1) L S (X.set r (3, n, fs, (k.toNat, v) :: w)) cu su else none
      | _ => none
    | _ => none
  | .aastore => match S with
    | .inr (.inr q) :: .inl k :: .inr (.inr r) :: S => match X[r]?, X[q]? with
      | some (t, n, fs, w), some (0, c, _, _) => if (t = 4 ∧ c = 3 ∨ t = 5 ∧ c = 6) ∧ (0 ≤ k ∧ k < (n : Int)) ∧ n = fs.length then K (i + 1) L S (X.set r (t, n, fs.set k.toNat (some (.inr (.inr q))), w)) cu su else none
      | _, _ => none
    | _ => none
  | .invokespecial _ => if a = 99 then (match S with
      | [.inr (.inr _)] => K (i + 1) L [] X cu su
      | _ => none) else zb_inv call j a b i L S X cu su K
  | .invokevirtual _ => zb_inv call j a b i L S X cu su K
  | .return_ => match S with
    | [] => some X
    | _ => none
  | _ => none
def zb_exec (call : Nat → List zV → zbX → Option zbX) (j : Nat) : Nat → Nat → zL → List zV → zbX → Nat → Nat → Option zbX
  | 0, _, _, _, _, _, _ => none
  | n + 1, i, L, S, X, cu, su => match (zb_cd j)[i]? with
    | some e => zb_act call j e i L S X cu su (zb_exec call j n)
    | none => none
def zb_call : Nat → Nat → List zV → zbX → Option zbX
  | 0, _, _, _ => none
  | n + 1, j, As, X => if j < 12 ∧ zx_sz As ≤ zb_ml j then zb_exec (zb_call n) j 1000 0 (zx_en As (zb_ml j)) [] X 0 0 else none
/-- what both constructors make -/
def zb_end : Option zbX := match zb_call 5 9 [.inr (.inr 0)] [(0, 9, zb_df 9, [])] with
  | some X => zb_call 5 10 [.inr (.inr X.length)] (X ++ [(0, 10, zb_df 10, [])])
  | none => none
theorem zb_end_len : (zb_end.map List.length) = some 108 := by decide +kernel
