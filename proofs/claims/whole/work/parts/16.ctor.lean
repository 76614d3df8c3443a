def zc0 : Cd := [(0, none, .aload_n 0, 1, [], 0), (1, none, .invokespecial 3, 3, [], 0), (4, none, .aload_n 0, 1, [], 0), (5, none, .bipush 8, 2, [], 0), (7, none, .newarray .int, 2, [], 0), (9, none, .putfield 9, 3, [0, 0, 2], 0), (12, none, .aload_n 0, 1, [], 0), (13, none, .iconst 4, 1, [], 0), (14, none, .newarray .int, 2, [], 0), (16, none, .putfield 15, 3, [0, 1, 2], 0), (19, none, .bipush 6, 2, [], 0), (21, none, .istore_n 1, 1, [], 0), (22, none, .iload_n 1, 1, [], 0), (23, none, .bipush 8, 2, [], 0), (25, none, .if_icmp .ge 16, 3, [41], 0), (28, none, .aload_n 0, 1, [], 0), (29, none, .getfield 9, 3, [0, 0, 2], 0), (32, none, .iload_n 1, 1, [], 0), (33, none, .iconst (-1), 1, [], 0), (34, none, .iastore, 1, [], 0), (35, none, .iinc 1 1, 3, [], 0), (38, none, .goto (-16), 3, [22], 0), (41, none, .aload_n 0, 1, [], 0), (42, none, .iconst 1, 1, [], 0), (43, none, .putfield 18, 3, [0, 4, 0], 0), (46, none, .return_, 1, [], 0)]
def zc10 : Cd := [(0, none, .aload_n 0, 1, [], 0), (1, none, .invokespecial 3, 3, [], 0), (4, none, .aload_n 0, 1, [], 0), (5, none, .bipush 40, 2, [], 0), (7, none, .newarray .int, 2, [], 0), (9, none, .putfield 9, 3, [1, 0, 2], 0), (12, none, .aload_n 0, 1, [], 0), (13, none, .bipush 40, 2, [], 0), (15, none, .newarray .int, 2, [], 0), (17, none, .putfield 15, 3, [1, 1, 2], 0), (20, none, .return_, 1, [], 0)]
def zc27 : Cd := [(0, none, .aload_n 0, 1, [], 0), (1, none, .invokespecial 3, 3, [], 0), (4, none, .aload_n 0, 1, [], 0), (5, none, .bipush 8, 2, [], 0), (7, none, .anewarray 9, 3, [], 0), (10, none, .putfield 11, 3, [2, 0, 2], 0), (13, none, .aload_n 0, 1, [], 0), (14, none, .bipush 8, 2, [], 0), (16, none, .newarray .int, 2, [], 0), (18, none, .putfield 17, 3, [2, 1, 2], 0), (21, none, .aload_n 0, 1, [], 0), (22, none, .iconst 2, 1, [], 0), (23, none, .anewarray 9, 3, [], 0), (26, none, .putfield 21, 3, [2, 4, 2], 0), (29, none, .aload_n 0, 1, [], 0), (30, none, .iconst 2, 1, [], 0), (31, none, .newarray .boolean, 2, [], 0), (33, none, .putfield 24, 3, [2, 5, 2], 0), (36, none, .iconst 0, 1, [], 0), (37, none, .istore_n 1, 1, [], 0), (38, none, .iload_n 1, 1, [], 0), (39, none, .bipush 8, 2, [], 0), (41, none, .if_icmp .ge 22, 3, [63], 0), (44, none, .aload_n 0, 1, [], 0), (45, none, .getfield 11, 3, [2, 0, 2], 0), (48, none, .iload_n 1, 1, [], 0), (49, none, .new 9, 3, [9], 0), (52, none, .dup, 1, [], 0), (53, none, .invokespecial 28, 3, [110], 0), (56, none, .aastore, 1, [], 0), (57, none, .iinc 1 1, 3, [], 0), (60, none, .goto (-22), 3, [38], 0), (63, none, .iconst 0, 1, [], 0), (64, none, .istore_n 1, 1, [], 0), (65, none, .iload_n 1, 1, [], 0), (66, none, .iconst 2, 1, [], 0), (67, none, .if_icmp .ge 22, 3, [89], 0), (70, none, .aload_n 0, 1, [], 0), (71, none, .getfield 21, 3, [2, 4, 2], 0), (74, none, .iload_n 1, 1, [], 0), (75, none, .new 9, 3, [9], 0), (78, none, .dup, 1, [], 0), (79, none, .invokespecial 28, 3, [110], 0), (82, none, .aastore, 1, [], 0), (83, none, .iinc 1 1, 3, [], 0), (86, none, .goto (-21), 3, [65], 0), (89, none, .return_, 1, [], 0)]
def zc32 : Cd := [(0, none, .aload_n 0, 1, [], 0), (1, none, .invokespecial 3, 3, [], 0), (4, none, .aload_n 0, 1, [], 0), (5, none, .bipush 8, 2, [], 0), (7, none, .newarray .int, 2, [], 0), (9, none, .putfield 9, 3, [3, 0, 2], 0), (12, none, .aload_n 0, 1, [], 0), (13, none, .bipush 24, 2, [], 0), (15, none, .newarray .boolean, 2, [], 0), (17, none, .putfield 15, 3, [3, 1, 2], 0), (20, none, .aload_n 0, 1, [], 0), (21, none, .bipush 24, 2, [], 0), (23, none, .newarray .int, 2, [], 0), (25, none, .putfield 19, 3, [3, 2, 2], 0), (28, none, .aload_n 0, 1, [], 0), (29, none, .bipush 24, 2, [], 0), (31, none, .newarray .boolean, 2, [], 0), (33, none, .putfield 22, 3, [3, 3, 2], 0), (36, none, .aload_n 0, 1, [], 0), (37, none, .bipush 24, 2, [], 0), (39, none, .newarray .int, 2, [], 0), (41, none, .putfield 25, 3, [3, 4, 2], 0), (44, none, .aload_n 0, 1, [], 0), (45, none, .bipush 24, 2, [], 0), (47, none, .newarray .int, 2, [], 0), (49, none, .putfield 28, 3, [3, 5, 2], 0), (52, none, .aload_n 0, 1, [], 0), (53, none, .bipush 24, 2, [], 0), (55, none, .newarray .int, 2, [], 0), (57, none, .putfield 31, 3, [3, 6, 2], 0), (60, none, .aload_n 0, 1, [], 0), (61, none, .bipush 24, 2, [], 0), (63, none, .newarray .int, 2, [], 0), (65, none, .putfield 34, 3, [3, 7, 2], 0), (68, none, .return_, 1, [], 0)]
def zc45 : Cd := [(0, none, .aload_n 0, 1, [], 0), (1, none, .invokespecial 3, 3, [], 0), (4, none, .aload_n 0, 1, [], 0), (5, none, .bipush 10, 2, [], 0), (7, none, .newarray .int, 2, [], 0), (9, none, .putfield 9, 3, [4, 0, 2], 0), (12, none, .aload_n 0, 1, [], 0), (13, none, .bipush 10, 2, [], 0), (15, none, .newarray .int, 2, [], 0), (17, none, .putfield 15, 3, [4, 1, 2], 0), (20, none, .aload_n 0, 1, [], 0), (21, none, .bipush 10, 2, [], 0), (23, none, .newarray .int, 2, [], 0), (25, none, .putfield 18, 3, [4, 2, 2], 0), (28, none, .aload_n 0, 1, [], 0), (29, none, .iconst 3, 1, [], 0), (30, none, .newarray .int, 2, [], 0), (32, none, .putfield 21, 3, [4, 4, 2], 0), (35, none, .aload_n 0, 1, [], 0), (36, none, .bipush 12, 2, [], 0), (38, none, .newarray .int, 2, [], 0), (40, none, .putfield 24, 3, [4, 5, 2], 0), (43, none, .aload_n 0, 1, [], 0), (44, none, .bipush 12, 2, [], 0), (46, none, .newarray .int, 2, [], 0), (48, none, .putfield 27, 3, [4, 6, 2], 0), (51, none, .aload_n 0, 1, [], 0), (52, none, .bipush 12, 2, [], 0), (54, none, .newarray .int, 2, [], 0), (56, none, .putfield 30, 3, [4, 7, 2], 0), (59, none, .aload_n 0, 1, [], 0), (60, none, .bipush 12, 2, [], 0), (62, none, .newarray .int, 2, [], 0), (64, none, .putfield 33, 3, [4, 8, 2], 0), (67, none, .iconst 0, 1, [], 0), (68, none, .istore_n 1, 1, [], 0), (69, none, .iload_n 1, 1, [], 0), (70, none, .iconst 3, 1, [], 0), (71, none, .if_icmp .ge 16, 3, [87], 0), (74, none, .aload_n 0, 1, [], 0), (75, none, .getfield 21, 3, [4, 4, 2], 0), (78, none, .iload_n 1, 1, [], 0), (79, none, .iconst (-1), 1, [], 0), (80, none, .iastore, 1, [], 0), (81, none, .iinc 1 1, 3, [], 0), (84, none, .goto (-15), 3, [69], 0), (87, none, .return_, 1, [], 0)]
def zc79 : Cd := [(0, none, .aload_n 0, 1, [], 0), (1, none, .invokespecial 3, 3, [], 0), (4, none, .aload_n 0, 1, [], 0), (5, none, .bipush 24, 2, [], 0), (7, none, .newarray .int, 2, [], 0), (9, none, .putfield 9, 3, [5, 0, 2], 0), (12, none, .aload_n 0, 1, [], 0), (13, none, .bipush 24, 2, [], 0), (15, none, .newarray .int, 2, [], 0), (17, none, .putfield 15, 3, [5, 1, 2], 0), (20, none, .aload_n 0, 1, [], 0), (21, none, .bipush 24, 2, [], 0), (23, none, .newarray .int, 2, [], 0), (25, none, .putfield 18, 3, [5, 2, 2], 0), (28, none, .aload_n 0, 1, [], 0), (29, none, .bipush 24, 2, [], 0), (31, none, .newarray .int, 2, [], 0), (33, none, .putfield 21, 3, [5, 3, 2], 0), (36, none, .aload_n 0, 1, [], 0), (37, none, .bipush 24, 2, [], 0), (39, none, .newarray .int, 2, [], 0), (41, none, .putfield 24, 3, [5, 4, 2], 0), (44, none, .aload_n 0, 1, [], 0), (45, none, .bipush 8, 2, [], 0), (47, none, .newarray .int, 2, [], 0), (49, none, .putfield 27, 3, [5, 6, 2], 0), (52, none, .aload_n 0, 1, [], 0), (53, none, .bipush 8, 2, [], 0), (55, none, .newarray .int, 2, [], 0), (57, none, .putfield 30, 3, [5, 7, 2], 0), (60, none, .return_, 1, [], 0)]
def zc90 : Cd := [(0, none, .aload_n 0, 1, [], 0), (1, none, .invokespecial 3, 3, [], 0), (4, none, .aload_n 0, 1, [], 0), (5, none, .bipush 6, 2, [], 0), (7, none, .newarray .int, 2, [], 0), (9, none, .putfield 9, 3, [6, 0, 2], 0), (12, none, .return_, 1, [], 0)]
def zc96 : Cd := [(0, none, .aload_n 0, 1, [], 0), (1, none, .invokespecial 3, 3, [], 0), (4, none, .aload_n 0, 1, [], 0), (5, none, .bipush 10, 2, [], 0), (7, none, .newarray .int, 2, [], 0), (9, none, .putfield 9, 3, [7, 0, 2], 0), (12, none, .aload_n 0, 1, [], 0), (13, none, .bipush 10, 2, [], 0), (15, none, .newarray .int, 2, [], 0), (17, none, .putfield 15, 3, [7, 1, 2], 0), (20, none, .aload_n 0, 1, [], 0), (21, none, .bipush 10, 2, [], 0), (23, none, .newarray .int, 2, [], 0), (25, none, .putfield 18, 3, [7, 2, 2], 0), (28, none, .return_, 1, [], 0)]
def zc101 : Cd := [(0, none, .aload_n 0, 1, [], 0), (1, none, .invokespecial 3, 3, [], 0), (4, none, .aload_n 0, 1, [], 0), (5, none, .iconst 4, 1, [], 0), (6, none, .newarray .int, 2, [], 0), (8, none, .putfield 9, 3, [8, 0, 2], 0), (11, none, .aload_n 0, 1, [], 0), (12, none, .iconst 4, 1, [], 0), (13, none, .newarray .int, 2, [], 0), (15, none, .putfield 15, 3, [8, 1, 2], 0), (18, none, .aload_n 0, 1, [], 0), (19, none, .iconst 4, 1, [], 0), (20, none, .newarray .int, 2, [], 0), (22, none, .putfield 18, 3, [8, 2, 2], 0), (25, none, .iconst 0, 1, [], 0), (26, none, .istore_n 1, 1, [], 0), (27, none, .iload_n 1, 1, [], 0), (28, none, .iconst 4, 1, [], 0), (29, none, .if_icmp .ge 16, 3, [45], 0), (32, none, .aload_n 0, 1, [], 0), (33, none, .getfield 9, 3, [8, 0, 2], 0), (36, none, .iload_n 1, 1, [], 0), (37, none, .iconst (-1), 1, [], 0), (38, none, .iastore, 1, [], 0), (39, none, .iinc 1 1, 3, [], 0), (42, none, .goto (-15), 3, [27], 0), (45, none, .return_, 1, [], 0)]
def zc110 : Cd := [(0, none, .aload_n 0, 1, [], 0), (1, none, .invokespecial 3, 3, [], 0), (4, none, .aload_n 0, 1, [], 0), (5, none, .new 9, 3, [0], 0), (8, none, .dup, 1, [], 0), (9, none, .invokespecial 11, 3, [0], 0), (12, none, .putfield 12, 3, [9, 0, 2], 0), (15, none, .aload_n 0, 1, [], 0), (16, none, .new 18, 3, [1], 0), (19, none, .dup, 1, [], 0), (20, none, .invokespecial 20, 3, [10], 0), (23, none, .putfield 21, 3, [9, 1, 2], 0), (26, none, .aload_n 0, 1, [], 0), (27, none, .new 18, 3, [1], 0), (30, none, .dup, 1, [], 0), (31, none, .invokespecial 20, 3, [10], 0), (34, none, .putfield 25, 3, [9, 2, 2], 0), (37, none, .aload_n 0, 1, [], 0), (38, none, .new 28, 3, [4], 0), (41, none, .dup, 1, [], 0), (42, none, .invokespecial 30, 3, [45], 0), (45, none, .putfield 31, 3, [9, 3, 2], 0), (48, none, .aload_n 0, 1, [], 0), (49, none, .new 35, 3, [5], 0), (52, none, .dup, 1, [], 0), (53, none, .invokespecial 37, 3, [79], 0), (56, none, .putfield 38, 3, [9, 4, 2], 0), (59, none, .aload_n 0, 1, [], 0), (60, none, .new 42, 3, [7], 0), (63, none, .dup, 1, [], 0), (64, none, .invokespecial 44, 3, [96], 0), (67, none, .putfield 45, 3, [9, 5, 2], 0), (70, none, .aload_n 0, 1, [], 0), (71, none, .new 49, 3, [8], 0), (74, none, .dup, 1, [], 0), (75, none, .invokespecial 51, 3, [101], 0), (78, none, .putfield 52, 3, [9, 6, 2], 0), (81, none, .return_, 1, [], 0)]
def zc115 : Cd := [(0, none, .aload_n 0, 1, [], 0), (1, none, .invokespecial 1, 3, [], 0), (4, none, .aload_n 0, 1, [], 0), (5, none, .new 7, 3, [9], 0), (8, none, .dup, 1, [], 0), (9, none, .invokespecial 9, 3, [110], 0), (12, none, .putfield 10, 3, [10, 0, 2], 0), (15, none, .aload_n 0, 1, [], 0), (16, none, .new 7, 3, [9], 0), (19, none, .dup, 1, [], 0), (20, none, .invokespecial 9, 3, [110], 0), (23, none, .putfield 16, 3, [10, 1, 2], 0), (26, none, .aload_n 0, 1, [], 0), (27, none, .new 19, 3, [3], 0), (30, none, .dup, 1, [], 0), (31, none, .invokespecial 21, 3, [32], 0), (34, none, .putfield 22, 3, [10, 2, 2], 0), (37, none, .aload_n 0, 1, [], 0), (38, none, .new 26, 3, [6], 0), (41, none, .dup, 1, [], 0), (42, none, .invokespecial 28, 3, [90], 0), (45, none, .putfield 29, 3, [10, 3, 2], 0), (48, none, .aload_n 0, 1, [], 0), (49, none, .new 33, 3, [2], 0), (52, none, .dup, 1, [], 0), (53, none, .invokespecial 35, 3, [27], 0), (56, none, .putfield 36, 3, [10, 4, 2], 0), (59, none, .aload_n 0, 1, [], 0), (60, none, .bipush 7, 2, [], 0), (62, none, .newarray .int, 2, [], 0), (64, none, .putfield 40, 3, [10, 5, 2], 0), (67, none, .aload_n 0, 1, [], 0), (68, none, .iconst 0, 1, [], 0), (69, none, .putfield 44, 3, [10, 6, 0], 0), (72, none, .return_, 1, [], 0)]
def zc183 : Cd := [(0, none, .aload_n 0, 1, [], 0), (1, none, .invokespecial 1, 3, [], 0), (4, none, .aload_n 0, 1, [], 0), (5, none, .bipush 8, 2, [], 0), (7, none, .newarray .int, 2, [], 0), (9, none, .putfield 7, 3, [11, 2, 2], 0), (12, none, .aload_n 0, 1, [], 0), (13, none, .sipush 406, 3, [], 0), (16, none, .newarray .int, 2, [], 0), (18, none, .putfield 13, 3, [11, 3, 2], 0), (21, none, .aload_n 0, 1, [], 0), (22, none, .sipush 3248, 3, [], 0), (25, none, .newarray .int, 2, [], 0), (27, none, .putfield 16, 3, [11, 5, 2], 0), (30, none, .aload_n 0, 1, [], 0), (31, none, .bipush 8, 2, [], 0), (33, none, .newarray .float, 2, [], 0), (35, none, .putfield 19, 3, [11, 6, 2], 0), (38, none, .aload_n 0, 1, [], 0), (39, none, .bipush 8, 2, [], 0), (41, none, .newarray .int, 2, [], 0), (43, none, .putfield 23, 3, [11, 7, 2], 0), (46, none, .aload_n 0, 1, [], 0), (47, none, .sipush 812, 3, [], 0), (50, none, .newarray .int, 2, [], 0), (52, none, .putfield 26, 3, [11, 9, 2], 0), (55, none, .aload_n 0, 1, [], 0), (56, none, .sipush 406, 3, [], 0), (59, none, .newarray .int, 2, [], 0), (61, none, .putfield 29, 3, [11, 10, 2], 0), (64, none, .aload_n 0, 1, [], 0), (65, none, .iconst 2, 1, [], 0), (66, none, .newarray .float, 2, [], 0), (68, none, .putfield 32, 3, [11, 11, 2], 0), (71, none, .aload_n 0, 1, [], 0), (72, none, .iconst 2, 1, [], 0), (73, none, .newarray .boolean, 2, [], 0), (75, none, .putfield 35, 3, [11, 12, 2], 0), (78, none, .aload_n 0, 1, [], 0), (79, none, .bipush 24, 2, [], 0), (81, none, .newarray .boolean, 2, [], 0), (83, none, .putfield 39, 3, [11, 13, 2], 0), (86, none, .aload_n 0, 1, [], 0), (87, none, .bipush 24, 2, [], 0), (89, none, .newarray .boolean, 2, [], 0), (91, none, .putfield 42, 3, [11, 14, 2], 0), (94, none, .aload_n 0, 1, [], 0), (95, none, .bipush 24, 2, [], 0), (97, none, .newarray .int, 2, [], 0), (99, none, .putfield 45, 3, [11, 15, 2], 0), (102, none, .aload_n 0, 1, [], 0), (103, none, .bipush 24, 2, [], 0), (105, none, .newarray .int, 2, [], 0), (107, none, .putfield 48, 3, [11, 16, 2], 0), (110, none, .aload_n 0, 1, [], 0), (111, none, .bipush 24, 2, [], 0), (113, none, .newarray .int, 2, [], 0), (115, none, .putfield 51, 3, [11, 17, 2], 0), (118, none, .aload_n 0, 1, [], 0), (119, none, .bipush 24, 2, [], 0), (121, none, .newarray .int, 2, [], 0), (123, none, .putfield 54, 3, [11, 18, 2], 0), (126, none, .aload_n 0, 1, [], 0), (127, none, .bipush 24, 2, [], 0), (129, none, .newarray .int, 2, [], 0), (131, none, .putfield 57, 3, [11, 19, 2], 0), (134, none, .aload_n 0, 1, [], 0), (135, none, .bipush 24, 2, [], 0), (137, none, .newarray .int, 2, [], 0), (139, none, .putfield 60, 3, [11, 20, 2], 0), (142, none, .aload_n 0, 1, [], 0), (143, none, .bipush 24, 2, [], 0), (145, none, .newarray .int, 2, [], 0), (147, none, .putfield 63, 3, [11, 21, 2], 0), (150, none, .aload_n 0, 1, [], 0), (151, none, .bipush 8, 2, [], 0), (153, none, .newarray .int, 2, [], 0), (155, none, .putfield 66, 3, [11, 23, 2], 0), (158, none, .aload_n 0, 1, [], 0), (159, none, .bipush 10, 2, [], 0), (161, none, .newarray .int, 2, [], 0), (163, none, .putfield 69, 3, [11, 24, 2], 0), (166, none, .aload_n 0, 1, [], 0), (167, none, .sipush 8192, 3, [], 0), (170, none, .newarray .int, 2, [], 0), (172, none, .putfield 72, 3, [11, 27, 2], 0), (175, none, .aload_n 0, 1, [], 0), (176, none, .sipush 8192, 3, [], 0), (179, none, .newarray .int, 2, [], 0), (181, none, .putfield 75, 3, [11, 28, 2], 0), (184, none, .aload_n 0, 1, [], 0), (185, none, .sipush 8192, 3, [], 0), (188, none, .newarray .int, 2, [], 0), (190, none, .putfield 78, 3, [11, 29, 2], 0), (193, none, .aload_n 0, 1, [], 0), (194, none, .sipush 8192, 3, [], 0), (197, none, .newarray .boolean, 2, [], 0), (199, none, .putfield 81, 3, [11, 30, 2], 0), (202, none, .aload_n 0, 1, [], 0), (203, none, .bipush 6, 2, [], 0), (205, none, .newarray .int, 2, [], 0), (207, none, .putfield 84, 3, [11, 32, 2], 0), (210, none, .aload_n 0, 1, [], 0), (211, none, .getfield 13, 3, [11, 3, 2], 0), (214, none, .bipush 10, 2, [], 0), (216, none, .iconst 1, 1, [], 0), (217, none, .iastore, 1, [], 0), (218, none, .aload_n 0, 1, [], 0), (219, none, .getfield 13, 3, [11, 3, 2], 0), (222, none, .bipush 6, 2, [], 0), (224, none, .iconst (-1), 1, [], 0), (225, none, .iastore, 1, [], 0), (226, none, .aload_n 0, 1, [], 0), (227, none, .getfield 13, 3, [11, 3, 2], 0), (230, none, .bipush 7, 2, [], 0), (232, none, .iconst (-1), 1, [], 0), (233, none, .iastore, 1, [], 0), (234, none, .return_, 1, [], 0)]
def zMA (y : Nat) : MR := (cond (Nat.blt y 90) (cond (Nat.blt y 32) (cond (Nat.blt y 10) (yX0_init, cX0_init, 2, none, 0, 1, 20) (cond (Nat.blt y 27) (yX1_init, cX1_init, 1, none, 0, 1, 20) (yX2_init, cX2_init, 2, none, 0, 3, 69))) (cond (Nat.blt y 45) (yX3_init, cX3_init, 1, none, 0, 1, 20) (cond (Nat.blt y 79) (yX4_init, cX4_init, 2, none, 0, 1, 20) (yX6_init, cX6_init, 1, none, 0, 1, 20)))) (cond (Nat.blt y 110) (cond (Nat.blt y 96) (yX7_init, cX7_init, 1, none, 0, 1, 20) (cond (Nat.blt y 101) (yX8_init, cX8_init, 1, none, 0, 1, 20) (yX9_init, cX9_init, 2, none, 0, 1, 20))) (cond (Nat.blt y 115) (yX10_init, cX10_init, 1, none, 0, 2, 45) (cond (Nat.blt y 183) (yX11_init, cX11_init, 1, none, 0, 4, 94) (yX12_init, cX12_init, 1, none, 0, 1, 20)))))
def zCA (y : Nat) : Cd := (cond (Nat.blt y 90) (cond (Nat.blt y 32) (cond (Nat.blt y 10) zc0 (cond (Nat.blt y 27) zc10 zc27)) (cond (Nat.blt y 45) zc32 (cond (Nat.blt y 79) zc45 zc79))) (cond (Nat.blt y 110) (cond (Nat.blt y 96) zc90 (cond (Nat.blt y 101) zc96 zc101)) (cond (Nat.blt y 115) zc110 (cond (Nat.blt y 183) zc115 zc183))))
def okAI (mr : MR) (pc : Nat) (ins : Instr) (aux : List Nat) (h : List Nat) : Bool := match ins with
  | .istore_n j => decide (j.val < mr.2.2.1)
  | .iinc j n => decide (Int32.ofInt n = ci n) && decide (j < mr.2.2.1)
  | .iconst n => decide (Int32.ofInt n = ci n)
  | .bipush n => decide ((Int8.ofInt n).toInt32 = ci n)
  | .sipush n => decide ((Int16.ofInt n).toInt32 = ci n)
  | .goto off => match aux with
    | [t] => decide ((pc : Int) + off = (t : Int))
    | _ => false
  | .if_icmp _ off => match aux with
    | [t] => decide ((pc : Int) + off = (t : Int))
    | _ => false
  | .getfield idx => match aux, h with
    | [c, f, _ + 2], [q] => match vwCl[c]? with
      | some (_, T, N) => decide (f < N) && (hasW q (.fieldLink mr.1.cls idx (T f).1 (T f).2.1 (T f).2.2.1) && decide ((nth zFT c [])[f]? = some 2))
      | none => false
    | _, _ => false
  | .putfield idx => match aux, h with
    | [c, f, t], [q] => match vwCl[c]? with
      | some (_, T, N) => decide (f < N) && (hasW q (.fieldLink mr.1.cls idx (T f).1 (T f).2.1 (T f).2.2.1) && (match t with
        | 0 => decide ((nth zFT c [])[f]? = some 0) && (decide ((T f).2.2.2 = false) && decide (parseFieldDescriptor (T f).2.2.1 = some .int))
        | _ => decide ((nth zFT c [])[f]? = some 2) && (decide ((T f).2.2.2 = true) && (decide ((T f).1 = mr.1.cls) && (match parseFieldDescriptor (T f).2.2.1 with
          | some (.object _) => true
          | some (.array _) => true
          | _ => false)))))
      | none => false
    | _, _ => false
  | .newarray ty => match h with
    | [q] => hasW q (.arrayClass (newarray.typeOf ty))
    | _ => false
  | .anewarray idx => match h with
    | [q] => hasW q (.classLink mr.1.cls idx "StartLedger$State")
    | _ => false
  | .new idx => match aux, h with
    | [c], [q1, q2, q3] => match vwCl[c]? with
      | some (C, T, N) => hasW q1 (.classLink mr.1.cls idx C) && (hasW q2 (.instantiable C N) && (hasW q3 (.initialized C) && (decide ((nth zFT c []).length = N) && (List.range N).all (fun j => match parseFieldDescriptor (T j).2.2.1 with
        | some ty => decide (defaultValue ty = vp_V ((nth zFT c []).map (fun t => match t with | 0 => Value.int 0 | 1 => Value.float 0 | _ => Value.null)) j)
        | none => false))))
      | none => false
    | _, _ => false
  | .invokespecial idx => match aux, h with
    | [], [q1, q2, q3] => hasW q1 (.methodLink mr.1.cls idx objectInit) && (hasW q2 (.instanceMethod objectInit) && (hasW q3 (.code objectInit ⟨#[0xb1]⟩ 1 none) && (decide (1 ≤ mr.2.2.2.2.2.1) && decide (20 ≤ mr.2.2.2.2.2.2))))
    | [y], [q1, _, q3, q4, 0] => hasW q1 (.methodLink mr.1.cls idx (zMA y).1) && (hasW q3 (.initialized (zMA y).1.cls) && (hasW q4 (.instanceMethod (zMA y).1) && okCall mr (zMA y) 0 0))
    | [y], [_, _, q3, q4, 1] => decide ((mr.1.cls, idx, (zMA y).1, "StartLedger") ∈ zNst) && (hasW q3 (.initialized (zMA y).1.cls) && (hasW q4 (.instanceMethod (zMA y).1) && okCall mr (zMA y) 0 0))
    | _, _ => false
  | _ => true
def lenA (ins : Instr) : Nat := match ins with
  | .newarray _ => 2
  | .anewarray _ => 3
  | .new _ => 3
  | .invokespecial _ => 3
  | i => lenI i
def okAE (mr : MR) (e : Ent) (h : List Nat) : Bool := decide (decode mr.2.1 e.1 = .ok (e.2.2.1, e.2.2.2.1)) && (Nat.beq e.2.2.2.1 (lenA e.2.2.1) && okAI mr e.1 e.2.2.1 e.2.2.2.2.1 h)
def okAM (mr : MR) (cd : Cd) (hs : List (List Nat)) : Bool := chain cd && ((cd.zip hs).all (fun q => okAE mr q.1 q.2) && (Nat.beq cd.length hs.length && ((match cd with
  | e :: _ => Nat.beq e.1 0
  | [] => false) && (plainName mr.1.cls && (decide (mr.2.2.2.1 = none) && (decide (mr.1.name = "<init>") && decide (1 ≤ mr.2.2.1)))))))
def okTA (mr : MR) (cd : Cd) : Prop := ∃ hs : List (List Nat), okAM mr cd hs = true
theorem okTA_cond {b : Bool} {m1 m2 : MR} {c1 c2 : Cd} (h1 : okTA m1 c1) (h2 : okTA m2 c2) : okTA (cond b m1 m2) (cond b c1 c2) := by
  cases b
  · exact h2
  · exact h1
theorem okta0 : okTA (yX0_init, cX0_init, 2, none, 0, 1, 20) zc0 := ⟨[[], [113, 100, 101], [], [], [142], [114], [], [], [142], [117], [], [], [], [], [], [], [114], [], [], [], [], [], [], [], [125], []], by decide +kernel⟩
theorem okta10 : okTA (yX1_init, cX1_init, 1, none, 0, 1, 20) zc10 := ⟨[[], [148, 100, 101], [], [], [142], [149], [], [], [142], [151], []], by decide +kernel⟩
theorem okta27 : okTA (yX2_init, cX2_init, 2, none, 0, 3, 69) zc27 := ⟨[[], [392, 100, 101], [], [], [393], [396], [], [], [142], [397], [], [], [393], [401], [], [], [371], [402], [], [], [], [], [], [], [396], [], [393, 103, 77], [], [395, 106, 77, 105, 1], [], [], [], [], [], [], [], [], [], [401], [], [393, 103, 77], [], [395, 106, 77, 105, 1], [], [], [], []], by decide +kernel⟩
theorem okta32 : okTA (yX3_init, cX3_init, 1, none, 0, 1, 20) zc32 := ⟨[[], [337, 100, 101], [], [], [142], [338], [], [], [371], [339], [], [], [142], [340], [], [], [371], [341], [], [], [142], [343], [], [], [142], [345], [], [], [142], [347], [], [], [142], [349], []], by decide +kernel⟩
theorem okta45 : okTA (yX4_init, cX4_init, 2, none, 0, 1, 20) zc45 := ⟨[[], [169, 100, 101], [], [], [142], [170], [], [], [142], [172], [], [], [142], [173], [], [], [142], [177], [], [], [142], [178], [], [], [142], [179], [], [], [142], [181], [], [], [142], [183], [], [], [], [], [], [], [177], [], [], [], [], [], []], by decide +kernel⟩
theorem okta79 : okTA (yX6_init, cX6_init, 1, none, 0, 1, 20) zc79 := ⟨[[], [212, 100, 101], [], [], [142], [213], [], [], [142], [216], [], [], [142], [219], [], [], [142], [221], [], [], [142], [223], [], [], [142], [228], [], [], [142], [230], []], by decide +kernel⟩
theorem okta90 : okTA (yX7_init, cX7_init, 1, none, 0, 1, 20) zc90 := ⟨[[], [377, 100, 101], [], [], [142], [378], []], by decide +kernel⟩
theorem okta96 : okTA (yX8_init, cX8_init, 1, none, 0, 1, 20) zc96 := ⟨[[], [259, 100, 101], [], [], [142], [260], [], [], [142], [262], [], [], [142], [264], []], by decide +kernel⟩
theorem okta101 : okTA (yX9_init, cX9_init, 2, none, 0, 1, 20) zc101 := ⟨[[], [282, 100, 101], [], [], [142], [283], [], [], [142], [285], [], [], [142], [287], [], [], [], [], [], [], [283], [], [], [], [], [], []], by decide +kernel⟩
theorem okta110 : okTA (yX10_init, cX10_init, 1, none, 0, 2, 45) zc110 := ⟨[[], [107, 100, 101], [], [108, 109, 78], [], [110, 112, 78, 111, 0], [300], [], [143, 144, 79], [], [145, 147, 79, 146, 1], [303], [], [143, 144, 79], [], [145, 147, 79, 146, 1], [306], [], [164, 165, 80], [], [166, 168, 80, 167, 0], [308], [], [207, 208, 81], [], [209, 211, 81, 210, 1], [310], [], [254, 255, 82], [], [256, 258, 82, 257, 1], [313], [], [277, 278, 83], [], [279, 281, 83, 280, 0], [315], []], by decide +kernel⟩
theorem okta115 : okTA (yX11_init, cX11_init, 1, none, 0, 4, 94) zc115 := ⟨[[], [99, 100, 101], [], [102, 103, 77], [], [104, 106, 77, 105, 1], [417], [], [102, 103, 77], [], [104, 106, 77, 105, 1], [418], [], [332, 333, 84], [], [334, 336, 84, 335, 1], [419], [], [372, 373, 85], [], [374, 376, 85, 375, 1], [420], [], [387, 388, 86], [], [389, 391, 86, 390, 0], [421], [], [], [142], [422], [], [], [423], []], by decide +kernel⟩
theorem okta183 : okTA (yX12_init, cX12_init, 1, none, 0, 1, 20) zc183 := ⟨[[], [1189, 100, 101], [], [], [142], [1192], [], [], [142], [1193], [], [], [142], [1195], [], [], [1293], [1196], [], [], [142], [1197], [], [], [142], [1199], [], [], [142], [1200], [], [], [1293], [1201], [], [], [371], [1202], [], [], [371], [1203], [], [], [371], [1204], [], [], [142], [1205], [], [], [142], [1206], [], [], [142], [1207], [], [], [142], [1208], [], [], [142], [1209], [], [], [142], [1210], [], [], [142], [1211], [], [], [142], [1213], [], [], [142], [1214], [], [], [142], [1217], [], [], [142], [1218], [], [], [142], [1219], [], [], [371], [1220], [], [], [142], [1222], [], [1193], [], [], [], [], [1193], [], [], [], [], [1193], [], [], [], []], by decide +kernel⟩
set_option maxRecDepth 100000 in
theorem cw0 : CW (yX0_init, cX0_init, 2, none, 0, 1, 20) := List.mem_filter.mpr ⟨List.mem_of_getElem? (i := 112) rfl, rfl⟩
set_option maxRecDepth 100000 in
theorem cw10 : CW (yX1_init, cX1_init, 1, none, 0, 1, 20) := List.mem_filter.mpr ⟨List.mem_of_getElem? (i := 147) rfl, rfl⟩
set_option maxRecDepth 100000 in
theorem cw27 : CW (yX2_init, cX2_init, 2, none, 0, 3, 69) := List.mem_filter.mpr ⟨List.mem_of_getElem? (i := 391) rfl, rfl⟩
set_option maxRecDepth 100000 in
theorem cw32 : CW (yX3_init, cX3_init, 1, none, 0, 1, 20) := List.mem_filter.mpr ⟨List.mem_of_getElem? (i := 336) rfl, rfl⟩
set_option maxRecDepth 100000 in
theorem cw45 : CW (yX4_init, cX4_init, 2, none, 0, 1, 20) := List.mem_filter.mpr ⟨List.mem_of_getElem? (i := 168) rfl, rfl⟩
set_option maxRecDepth 100000 in
theorem cw79 : CW (yX6_init, cX6_init, 1, none, 0, 1, 20) := List.mem_filter.mpr ⟨List.mem_of_getElem? (i := 211) rfl, rfl⟩
set_option maxRecDepth 100000 in
theorem cw90 : CW (yX7_init, cX7_init, 1, none, 0, 1, 20) := List.mem_filter.mpr ⟨List.mem_of_getElem? (i := 376) rfl, rfl⟩
set_option maxRecDepth 100000 in
theorem cw96 : CW (yX8_init, cX8_init, 1, none, 0, 1, 20) := List.mem_filter.mpr ⟨List.mem_of_getElem? (i := 258) rfl, rfl⟩
set_option maxRecDepth 100000 in
theorem cw101 : CW (yX9_init, cX9_init, 2, none, 0, 1, 20) := List.mem_filter.mpr ⟨List.mem_of_getElem? (i := 281) rfl, rfl⟩
set_option maxRecDepth 100000 in
theorem cw110 : CW (yX10_init, cX10_init, 1, none, 0, 2, 45) := List.mem_filter.mpr ⟨List.mem_of_getElem? (i := 106) rfl, rfl⟩
set_option maxRecDepth 100000 in
theorem cw115 : CW (yX11_init, cX11_init, 1, none, 0, 4, 94) := List.mem_filter.mpr ⟨List.mem_of_getElem? (i := 98) rfl, rfl⟩
set_option maxRecDepth 100000 in
theorem cw183 : CW (yX12_init, cX12_init, 1, none, 0, 1, 20) := List.mem_filter.mpr ⟨List.mem_of_getElem? (i := 1188) rfl, rfl⟩
theorem CWA_all (y : Nat) : CW (zMA y) := (CW_cond (CW_cond (CW_cond cw0 (CW_cond cw10 cw27)) (CW_cond cw32 (CW_cond cw45 cw79))) (CW_cond (CW_cond cw90 (CW_cond cw96 cw101)) (CW_cond cw110 (CW_cond cw115 cw183))))
theorem okTA_all (y : Nat) : okTA (zMA y) (zCA y) := (okTA_cond (okTA_cond (okTA_cond okta0 (okTA_cond okta10 okta27)) (okTA_cond okta32 (okTA_cond okta45 okta79))) (okTA_cond (okTA_cond okta90 (okTA_cond okta96 okta101)) (okTA_cond okta110 (okTA_cond okta115 okta183))))
theorem okTA_spec {mr : MR} {cd : Cd} (h : okTA mr cd) : chain cd = true ∧ (∀ e ∈ cd, ∃ q, okAE mr e q = true) ∧ (∀ e tl, cd = e :: tl → e.1 = 0) ∧ plainName mr.1.cls = true ∧ mr.2.2.2.1 = none ∧ mr.1.name = "<init>" ∧ 1 ≤ mr.2.2.1 := by
  obtain ⟨hs, h⟩ := h
  unfold okAM at h
  simp only [Bool.and_eq_true, decide_eq_true_eq] at h
  obtain ⟨h1, h2, h3, h4, h5, h6, h7, h8⟩ := h
  refine ⟨h1, fun e he => ?_, fun e tl z => ?_, h5, h6, h7, h8⟩
  · obtain ⟨i, hi⟩ := List.getElem?_of_mem he
    have hl : i < cd.length := (List.getElem?_eq_some_iff.mp hi).1
    have hl2 : i < hs.length := by rw [← Nat.eq_of_beq_eq_true h3]; exact hl
    have hz : (cd.zip hs)[i]? = some (e, hs[i]) := by rw [List.getElem?_zip_eq_some]; exact ⟨hi, List.getElem?_eq_getElem hl2⟩
    have h9 : (fun q : Ent × List Nat => okAE mr q.1 q.2) (e, hs[i]) = true := List.all_eq_true.mp h2 (e, hs[i]) (List.mem_of_getElem? hz)
    exact ⟨hs[i], h9⟩
  · subst z
    exact Nat.eq_of_beq_eq_true h4
/-- the making machine -/
def mk (n : Nat) (kd : Nat × Nat) (k : Nat × Nat → Option (Nat × WIl × WRl)) : Option (Nat × WIl × WRl) := match PL[n]? with
  | some q => cond (Nat.beq (K0 q.1 q.2).1 kd.1 && Nat.beq (K0 q.1 q.2).2 kd.2) (k q) none
  | none => none
def rA : Nat → Nat → Cd → Lv → List Vl → Nat → WIl → WRl → Option (Nat × WIl × WRl)
  | 0, _, _, _, _, _, _, _ => none
  | _ + 1, _, [], _, _, _, _, _ => none
  | k + 1, y, (_, _, ins, _, aux, _) :: tl, lv, st, n, WI, WR => match ins with
    | .aload_n j => match lk lv j.val with
      | some (.inr (.inr (.inr (.inr (some q))))) => rA k y tl lv (vR (some q) :: st) n WI WR
      | _ => none
    | .iload_n j => match lk lv j.val with
      | some (.inl x) => rA k y tl lv (vI x :: st) n WI WR
      | _ => none
    | .istore_n j => match st with
      | .inl x :: st => rA k y tl ((j.val, vI x) :: d1 j.val lv) st n WI WR
      | _ => none
    | .iinc j c => match lk lv j with
      | some (.inl x) => rA k y tl ((j, vI (x + ci c)) :: d1 j lv) st n WI WR
      | _ => none
    | .iconst c => rA k y tl lv (vI (ci c) :: st) n WI WR
    | .bipush c => rA k y tl lv (vI (ci c) :: st) n WI WR
    | .sipush c => rA k y tl lv (vI (ci c) :: st) n WI WR
    | .dup => match st with
      | .inr (.inr (.inr (.inr (some q)))) :: st => rA k y tl lv (vR (some q) :: vR (some q) :: st) n WI WR
      | _ => none
    | .goto _ => match aux with
      | [t] => rA k y (jmp t (zCA y)) lv st n WI WR
      | _ => none
    | .if_icmp c _ => match c, aux, st with
      | .ge, [t], .inl b :: .inl a :: st => if b ≤ a then rA k y (jmp t (zCA y)) lv st n WI WR else rA k y tl lv st n WI WR
      | _, _, _ => none
    | .getfield _ => match aux, st with
      | [c, f, _], .inr (.inr (.inr (.inr (some (b, o))))) :: st => cond (isO (K0 b o) c) (match dR WR b o f with
        | some q => rA k y tl lv (vR (some q) :: st) n WI WR
        | none => none) none
      | _, _ => none
    | .putfield _ => match aux, st with
      | [c, f, 0], .inl x :: .inr (.inr (.inr (.inr (some (b, o))))) :: st => cond (isO (K0 b o) c) (rA k y tl lv st n ((b, o, f, x) :: WI) WR) none
      | [c, f, _ + 1], .inr (.inr (.inr (.inr (some q)))) :: .inr (.inr (.inr (.inr (some (b, o))))) :: st => cond (isO (K0 b o) c) (rA k y tl lv st n WI ((b, o, f, q) :: WR)) none
      | _, _ => none
    | .newarray ty => match ty, st with
      | .int, .inl x :: st => if inb x 100000 then mk n (1, x.toNatClampNeg) (fun q => rA k y tl lv (vR (some q) :: st) (n + 1) WI WR) else none
      | .boolean, .inl x :: st => if inb x 100000 then mk n (2, x.toNatClampNeg) (fun q => rA k y tl lv (vR (some q) :: st) (n + 1) WI WR) else none
      | .float, .inl x :: st => if inb x 100000 then mk n (3, x.toNatClampNeg) (fun q => rA k y tl lv (vR (some q) :: st) (n + 1) WI WR) else none
      | _, _ => none
    | .anewarray _ => match st with
      | .inl x :: st => if inb x 100000 then mk n (4, x.toNatClampNeg) (fun q => rA k y tl lv (vR (some q) :: st) (n + 1) WI WR) else none
      | _ => none
    | .new _ => match aux with
      | [c] => mk n (0, c) (fun q => rA k y tl lv (vR (some q) :: st) (n + 1) WI WR)
      | _ => none
    | .iastore => match st with
      | .inl x :: .inl i :: .inr (.inr (.inr (.inr (some (b, o))))) :: st => cond (Nat.beq (K0 b o).1 1) (if inb i (K0 b o).2 then rA k y tl lv st n ((b, o, i.toNatClampNeg, x) :: WI) WR else none) none
      | _ => none
    | .aastore => match st with
      | .inr (.inr (.inr (.inr (some (b1, o1))))) :: .inl i :: .inr (.inr (.inr (.inr (some (b, o))))) :: st => cond (Nat.beq (K0 b o).1 4 && isO (K0 b1 o1) 9) (if inb i (K0 b o).2 then rA k y tl lv st n WI ((b, o, i.toNatClampNeg, (b1, o1)) :: WR) else none) none
      | _ => none
    | .invokespecial _ => match aux, st with
      | [], .inr (.inr (.inr (.inr (some _)))) :: st => cond (Nat.ble st.length 4) (rA k y tl lv st n WI WR) none
      | [y2], .inr (.inr (.inr (.inr (some q)))) :: st => cond (Nat.ble st.length 4) (match rA k y2 (zCA y2) [(0, vR (some q))] [] n WI WR with
        | some (n2, WI2, WR2) => rA k y tl lv st n2 WI2 WR2
        | none => none) none
      | _, _ => none
    | .return_ => match st with
      | [] => some (n, WI, WR)
      | _ => none
    | _ => none
/-! the contract of a constructor -/
def zPa (g : GG) (n : Nat) (WI : WIl) (WR : WRl) (sz : Nat) : State → Prop := fun U => U.heap.size = sz ∧ va_P g.1 vwCl (AW g n WI WR) U.heap ∧ va_K g.1 vwCl (tyG g) U ∧ va_D (fun _ => True) (AW g n WI WR) ∧ NstOK U ∧ va_AO "StartLedger$State" U
def zQa (g : GG) (n : Nat) (WI : WIl) (WR : WRl) (n1 : Nat) (WI1 : WIl) (WR1 : WRl) (sz : Nat) : Array Value → State → Outcome → State → Prop := fun _ st oc t => oc = .returned none ∧ (∃ g1 : GG, agr n g g1 ∧ InvA n1 WI1 WR1 ∧ va_P g1.1 vwCl (AW g1 n1 WI1 WR1) t.heap ∧ va_D (va_A (AW g n WI WR) sz) (AW g1 n1 WI1 WR1)) ∧ va_F (va_A (AW g n WI WR) sz) st t
def rmA (mr : MR) (mc ms : Nat) : Room := { frames := mr.2.2.2.2.2.1, cells := mc, slots := ms, locals := mr.2.2.2.2.2.2 }
def MetA (mr : MR) (q : Nat × Nat) (n : Nat) (WI : WIl) (WR : WRl) (n1 : Nat) (WI1 : WIl) (WR1 : WRl) : Prop := (n ≤ n1 ∧ SZ n ≤ SZ n1) ∧ (okA (PL.take n) q → InvA n WI WR → ∀ (g : GG) (l : Launch) (sz : Nat), Met l mr.1 (wsM mr) (rmA mr (n1 - n) (SZ n1 - SZ n)) (va_Pc [.ref (zad g q)] (zPa g n WI WR sz)) (zQa g n WI WR n1 WI1 WR1 sz) (n1 - n) (SZ n1 - SZ n) (va_A (AW g n WI WR) sz))
theorem zPa_blind {av : List Value} {g : GG} {n : Nat} {WI : WIl} {WR : WRl} {sz : Nat} : FrameBlind (va_Pc av (zPa g n WI WR sz)) := fun a U gf mk q => by
  obtain ⟨q0, q1, qP, qK, qD, qN, qO⟩ := q
  exact ⟨q0, q1, qP, va_K.moved (u := U) (U := U.calling gf mk a) (Vm.Alike.refl U.vm) qK, qD, qN.same rfl, va_AO.moved (u := U) (U := U.calling gf mk a) (Vm.Alike.refl U.vm) qO⟩
section ZD
variable {p : Program} {l : Launch} {e : Env} {R : Room} {s : State} {m : MethodId} {args : Array Value} {below : List Frame} {meth : Method} {c : Code} {H : Heap} {locs : List Loc} {cells slots : Nat} {Q : State → Prop}
variable {pc : Nat} {ls : Array Slot} {rest st0 : List Value} {a : Array Value} {A0 : Nat → Prop} {H0 : Heap}
theorem z_callA {g : GG} {n n1 mc ms : Nat} {WI WI1 : WIl} {WR WR1 : WRl} (hr : va_Run p l e R s m args below meth c H locs cells slots mc ms (F0 m pc ls st0) rest (zQa g n WI WR n1 WI1 WR1 H.size a) (va_A (AW g n WI WR) H.size)) (hS : va_S A0 H0 H locs) (hA : ∀ q, va_A (AW g n WI WR) H.size q → A0 q)
    (kk : ∀ (g1 : GG) (H1 : Heap) (locs1 : List Loc), agr n g g1 → InvA n1 WI1 WR1 → va_P g1.1 vwCl (AW g1 n1 WI1 WR1) H1 → va_D A0 (AW g1 n1 WI1 WR1) → va_S A0 H0 H1 locs1 → W p l e R s m args below meth c H1 locs1 (cells + mc) (slots + ms) Q (F0 m (pc + 3) ls rest)) : W p l e R s m args below meth c H locs cells slots Q (F0 m pc ls st0) := by
  intro T hT X
  obtain ⟨v, st₀, t, T', L, h0, X', hL, e1, e2, ⟨hv, ⟨g1, h1, h2, h3, h4⟩, hz, hk⟩, st⟩ := hr T hT X
  cases hv
  rw [h0] at hz hk
  obtain ⟨t2, a1, b1⟩ := kk g1 T'.heap (locs ++ L) h1 h2 (by rw [e1]; exact h3) (h4.weaken (fun _ q _ h => hA q.1 h)) ⟨Nat.le_trans hS.1 (by rw [e1]; exact hz), fun q h1 h2 => by rw [e1, hk q (Nat.lt_of_lt_of_le h1 hS.1) (fun z => h2 (hA q z))]; exact hS.2.1 q h1 h2, fun q hq => by
      rcases List.mem_append.mp hq with h | h
      · exact hS.2.2 q h
      · exact hA _ (hL q h)⟩ T' rfl X'
  exact ⟨t2, st t2 a1, b1⟩
end ZD
theorem z_vaA {g : GG} {n : Nat} {WI : WIl} {WR : WRl} {A : Nat → Prop} {H0 H : Heap} {locs : List Loc} (hD : va_D A (AW g n WI WR)) (hS : va_S A H0 H locs) (hA : ∀ q, H0.size ≤ q → A q) : ∀ q, va_A (AW g n WI WR) H.size q → A q := by
  intro q h
  rcases h with ⟨k, e, h⟩ | h
  · exact hD.2 k (q, e) h
  · exact hA q (Nat.le_trans hS.1 h)
section ZE
variable {mr m1 : MR} {pc idx : Nat} {lv : Lv} {st : List Vl} {n n1 n2 : Nat} {WI WI1 WI2 : WIl} {WR WR1 WR2 : WRl} {q : Nat × Nat}
theorem A_callI (hd : decode mr.2.1 pc = .ok (.invokespecial idx, 3)) (w1 : Cond.methodLink mr.1.cls idx m1.1 ∈ lw_gd) (w2 : Cond.code m1.1 m1.2.1 m1.2.2.1 m1.2.2.2.1 ∈ lw_gd) (w3 : Cond.initialized m1.1.cls ∈ lw_gd) (w4 : Cond.instanceMethod m1.1 ∈ lw_gd) (hin : m1.1.name = "<init>") (hret : m1.2.2.2.1 = none) (hds : zdesc m1 0) (hf0 : m1.2.2.2.2.2.1 + 1 ≤ mr.2.2.2.2.2.1) (hl0 : 8 + (m1.2.2.1 + 11) + m1.2.2.2.2.2.2 ≤ mr.2.2.2.2.2.2) (hst : st.length ≤ 4) (hM : MetA m1 q n WI WR n2 WI2 WR2) (k : FromA mr (pc + 3) lv st n2 WI2 WR2 n1 WI1 WR1) : FromA mr pc lv (vR (some q) :: st) n WI WR n1 WI1 WR1 := by
  have e1 := hM.1
  have e2 := k.1
  refine ⟨⟨by omega, by omega⟩, ?_⟩
  intro g p l e R s m args below meth c H locs cells slots A Q ls S hN hO hnm hK hJ hP hD hS hA hl hV hs hfr hlo hce hsl hend
  have hts := S.2.2.2.2
  have hMm := hM.2 (vhd hs) hJ g l H.size
  have hss : ∀ v ∈ st, okV (PL.take n) v := vtl hs
  have cw : CallB R s args mr.1.cls idx m1.1 m1.2.1 m1.2.2.1 none (wsM m1) (rmA m1 (n2 - n) (SZ n2 - SZ n)) (n2 - n) (SZ n2 - SZ n) 0 ∧ m1.1.name = "<init>" ∧ (Cond.instanceMethod m1.1).before args s = true := ⟨callB_of 0 hts (gd_good w2) (by unfold wsM; rw [hret]) rfl rfl (hts _ w3) (hts _ w1) hds ⟨Nat.le_trans hf0 hfr, Nat.le_trans hl0 hlo⟩, hin, hts _ w4⟩
  have hrun := va_runI (H := H) (locs := locs) (cells := cells) (slots := slots) (below := below) (meth := meth) (e := e) (b := zad g q) (As := []) (rest := st.map (mv g)) (g := F0 m pc ls ((vR (some q) :: st).map (mv g))) ⟨S.1, S.2.1, S.2.2.1, S.2.2.2.1, hts⟩ hMm cw ⟨zPa_blind, fun U hU hW => ⟨rfl, by rw [hU], by rw [hU]; exact hP, va_K.moved hW.alike hK, hD.weaken (fun _ _ _ _ => trivial), hN.warm hW, hO.moved hW.alike⟩⟩ rfl rfl hl.1 rfl (lv_room (z_rest (n := 4) hst)) hd ⟨by omega, by omega⟩
  refine z_callA hrun hS (z_vaA hD hS hA) (fun g1 H1 locs1 ha hJ1 hP1 hD1 hS1 => ?_)
  rw [← mvs_agr ha hss]
  refine k.2 g1 p l e R s m args below meth c H1 locs1 _ _ A Q ls S hN hO hnm (by rw [ha.1, show tyG g1 = tyG g by unfold tyG; rw [ha.2.1]]; exact hK) hJ1 hP1 hD1 hS1 hA (by rw [mvl_agr ha hV]; exact hl) (fun q hq => okV_mono e1.1 (hV q hq)) (fun v hv => okV_mono e1.1 (hss v hv)) hfr hlo (by omega) (by omega) (fun g2 H' locs' ls' pc' ha1 hJ2 hP' hD' hS' hd' => ?_)
  have hh := hend g2 H' locs' ls' pc' (ha.tr e1.1 ha1) hJ2 hP' hD' hS' hd'
  rw [show cells + (n1 - n) = cells + (n2 - n) + (n1 - n2) by omega, show slots + (SZ n1 - SZ n) = slots + (SZ n2 - SZ n) + (SZ n1 - SZ n2) by omega] at hh
  exact hh
theorem A_callIN {host : String} (hd : decode mr.2.1 pc = .ok (.invokespecial idx, 3)) (w1 : (mr.1.cls, idx, m1.1, host) ∈ zNst) (w2 : Cond.code m1.1 m1.2.1 m1.2.2.1 m1.2.2.2.1 ∈ lw_gd) (w3 : Cond.initialized m1.1.cls ∈ lw_gd) (w4 : Cond.instanceMethod m1.1 ∈ lw_gd) (hin : m1.1.name = "<init>") (hret : m1.2.2.2.1 = none) (hds : zdesc m1 0) (hf0 : m1.2.2.2.2.2.1 + 1 ≤ mr.2.2.2.2.2.1) (hl0 : 8 + (m1.2.2.1 + 11) + m1.2.2.2.2.2.2 ≤ mr.2.2.2.2.2.2) (hst : st.length ≤ 4) (hM : MetA m1 q n WI WR n2 WI2 WR2) (k : FromA mr (pc + 3) lv st n2 WI2 WR2 n1 WI1 WR1) : FromA mr pc lv (vR (some q) :: st) n WI WR n1 WI1 WR1 := by
  have e1 := hM.1
  have e2 := k.1
  refine ⟨⟨by omega, by omega⟩, ?_⟩
  intro g p l e R s m args below meth c H locs cells slots A Q ls S hN hO hnm hK hJ hP hD hS hA hl hV hs hfr hlo hce hsl hend
  have hts := S.2.2.2.2
  have hMm := hM.2 (vhd hs) hJ g l H.size
  have hss : ∀ v ∈ st, okV (PL.take n) v := vtl hs
  have cw : va_CN R s args mr.1.cls idx m1.1 host m1.2.1 m1.2.2.1 none (wsM m1) (rmA m1 (n2 - n) (SZ n2 - SZ n)) (n2 - n) (SZ n2 - SZ n) 0 ∧ m1.1.name = "<init>" ∧ (Cond.instanceMethod m1.1).before args s = true := ⟨va_cnB 0 hts (gd_good w2) (by unfold wsM; rw [hret]) rfl rfl (hN _ w1) (hts _ w3) hds ⟨Nat.le_trans hf0 hfr, Nat.le_trans hl0 hlo⟩, hin, hts _ w4⟩
  have hrun := va_runIN (H := H) (locs := locs) (cells := cells) (slots := slots) (below := below) (meth := meth) (e := e) (b := zad g q) (As := []) (rest := st.map (mv g)) (g := F0 m pc ls ((vR (some q) :: st).map (mv g))) ⟨S.1, S.2.1, S.2.2.1, S.2.2.2.1, hts⟩ hMm cw ⟨zPa_blind, fun U hU hW => ⟨rfl, by rw [hU], by rw [hU]; exact hP, va_K.moved hW.alike hK, hD.weaken (fun _ _ _ _ => trivial), hN.warm hW, hO.moved hW.alike⟩⟩ rfl rfl hl.1 rfl (lv_room (z_rest (n := 4) hst)) hd ⟨by omega, by omega⟩
  refine z_callA hrun hS (z_vaA hD hS hA) (fun g1 H1 locs1 ha hJ1 hP1 hD1 hS1 => ?_)
  rw [← mvs_agr ha hss]
  refine k.2 g1 p l e R s m args below meth c H1 locs1 _ _ A Q ls S hN hO hnm (by rw [ha.1, show tyG g1 = tyG g by unfold tyG; rw [ha.2.1]]; exact hK) hJ1 hP1 hD1 hS1 hA (by rw [mvl_agr ha hV]; exact hl) (fun q hq => okV_mono e1.1 (hV q hq)) (fun v hv => okV_mono e1.1 (hss v hv)) hfr hlo (by omega) (by omega) (fun g2 H' locs' ls' pc' ha1 hJ2 hP' hD' hS' hd' => ?_)
  have hh := hend g2 H' locs' ls' pc' (ha.tr e1.1 ha1) hJ2 hP' hD' hS' hd'
  rw [show cells + (n1 - n) = cells + (n2 - n) + (n1 - n2) by omega, show slots + (SZ n1 - SZ n) = slots + (SZ n2 - SZ n) + (SZ n1 - SZ n2) by omega] at hh
  exact hh
theorem met_ofA (hn : plainName mr.1.cls = true) (hret : mr.2.2.2.1 = none) (hin : mr.1.name = "<init>") (hml1 : 1 ≤ mr.2.2.1) (h : FromA mr 0 [(0, vR (some q))] [] n WI WR n1 WI1 WR1) : MetA mr q n WI WR n1 WI1 WR1 := by
  refine ⟨h.1, fun hq hJ g l sz => ?_⟩
  refine Met.ofW (cc := mr.2.1) (maxL := mr.2.2.1) (ret := none) hn (by unfold wsM; rw [hret]) ?_
  intro p e s m args below meth c s₁ B hml hv
  obtain ⟨rfl, hsz, hP, hK, hD, hN, hO⟩ := hv
  have hx := B.exec
  have hb := B.bytes
  have hr := B.returns
  have hts := atoms_spec (ws := wsM mr) B.pre
  have hown : s.vm.findClass mr.1.cls = some m.cls := findClass_of_methodNamed B.named
  have hlocks := B.notSynchronized
  have hnm : meth.name = "<init>" := by rw [← hin]; exact (name_of_methodNamed B.named B.method).1
  subst hsz
  have hl := lv_entry ([.ref (zad g q)]) (n := mr.2.2.1) hml1
  rw [lg_entry_eq]
  generalize (lg_sl ([.ref (zad g q)]) ++ List.replicate (mr.2.2.1 - (lg_sl ([.ref (zad g q)])).length) Slot.unset).toArray = ls at hl ⊢
  have hA : ∀ z, s.heap.size ≤ z → va_A (AW g n WI WR) s.heap.size z := fun z hz => Or.inr hz
  refine h.2 g p l e (headSpec (wsM mr) (rmA mr (n1 - n) (SZ n1 - SZ n))).room s m [Value.ref (zad g q)].toArray below meth c s.heap [] 0 0 (va_A (AW g n WI WR) s.heap.size) _ ls ⟨hx, hb, hml, hown, fun w hw => hts w (List.mem_cons_of_mem _ hw)⟩ hN hO hnm hK hJ hP hD.self va_S.rf hA hl (List.forall_mem_cons.mpr ⟨hq, fun _ h => by cases h⟩) (fun _ h => by cases h) (Nat.le_refl _) (Nat.le_refl _) (by rw [Nat.zero_add]; exact Nat.le_refl _) (by rw [Nat.zero_add]; exact Nat.le_refl _) ?_
  intro g1 H' locs' ls' pc' ha hJ1 hP' hD' hS' hd
  have hq2 : ∀ t : State, t.heap = H' → s.WarmedH t.vm → zQa g n WI WR n1 WI1 WR1 s.heap.size [Value.ref (zad g q)].toArray s (.returned none) t := fun t ht _ => ⟨rfl, ⟨g1, ha, hJ1, by rw [ht]; exact hP', hD'⟩, hS'.F ht⟩
  have hf := hS'.2.2
  rw [Nat.zero_add, Nat.zero_add]
  exact W.vret hx hb hr hq2 hf hd
end ZE
theorem mk_some {n : Nat} {kd : Nat × Nat} {k : Nat × Nat → Option (Nat × WIl × WRl)} {r : Nat × WIl × WRl} (h : mk n kd k = some r) : ∃ b o, PL[n]? = some (b, o) ∧ K0 b o = kd ∧ k (b, o) = some r := by
  unfold mk at h
  split at h
  · rename_i q hq
    obtain ⟨h1, h2⟩ := cond_some h
    rw [Bool.and_eq_true] at h1
    obtain ⟨b, o⟩ := q
    refine ⟨b, o, hq, ?_, h2⟩
    have e1 := Nat.eq_of_beq_eq_true h1.1
    have e2 := Nat.eq_of_beq_eq_true h1.2
    exact Prod.ext e1 e2
  · cases h
set_option maxHeartbeats 4000000 in
set_option maxRecDepth 100000 in
theorem rA_sound : ∀ (k y : Nat) (cur : Cd) (pc : Nat) (lv : Lv) (st : List Vl) (n : Nat) (WI : WIl) (WR : WRl) (n1 : Nat) (WI1 : WIl) (WR1 : WRl), AtPc (zCA y) cur pc → rA k y cur lv st n WI WR = some (n1, WI1, WR1) → FromA (zMA y) pc lv st n WI WR n1 WI1 WR1 := by
  intro k
  induction k with
  | zero => intro y cur pc lv st n WI WR n1 WI1 WR1 _ h; cases h
  | succ k ih =>
    intro y cur pc lv st n WI WR n1 WI1 WR1 hat h
    obtain ⟨hch, hok, h00, -⟩ := okTA_spec (okTA_all y)
    match cur, hat, h with
    | [], _, h => cases h
    | (pc', hdd, ins, len, aux, z) :: tl, hat, h =>
      have hpc : pc' = pc := hat.2 _ _ rfl
      subst hpc
      have hmem : (pc', hdd, ins, len, aux, z) ∈ zCA y := by
        obtain ⟨⟨pre, hp⟩, -⟩ := hat
        rw [hp]
        exact List.mem_append_right _ List.mem_cons_self
      have htl := at_tl hch hat
      obtain ⟨hh, hq⟩ := hok _ hmem
      unfold okAE at hq
      rw [Bool.and_eq_true, Bool.and_eq_true] at hq
      obtain ⟨hd, hlen, hok2⟩ := hq
      have hd := of_decide_eq_true hd
      simp only at hd hlen hok2 htl
      clear hmem hat hok h00
      cases ins
      case aload_n j =>
        obtain rfl : len = 1 := Nat.eq_of_beq_eq_true hlen
        simp only [rA] at h
        split at h
        · rename_i q hx
          exact A_aload hd hx (ih _ _ _ _ _ _ _ _ _ _ _ htl h)
        · cases h
      case iload_n j =>
        obtain rfl : len = 1 := Nat.eq_of_beq_eq_true hlen
        simp only [rA] at h
        split at h
        · rename_i q hx
          exact A_iload hd hx (ih _ _ _ _ _ _ _ _ _ _ _ htl h)
        · cases h
      case istore_n j =>
        obtain rfl : len = 1 := Nat.eq_of_beq_eq_true hlen
        simp only [rA] at h
        split at h
        · exact A_istore hd (of_decide_eq_true hok2) (ih _ _ _ _ _ _ _ _ _ _ _ htl h)
        · cases h
      case iinc j c =>
        obtain rfl : len = 3 := Nat.eq_of_beq_eq_true hlen
        simp only [rA] at h
        split at h
        · rename_i x hx
          simp only [okAI, Bool.and_eq_true, decide_eq_true_eq] at hok2
          exact A_iinc hd hx hok2.1 hok2.2 (ih _ _ _ _ _ _ _ _ _ _ _ htl h)
        · cases h
      case iconst c =>
        obtain rfl : len = 1 := Nat.eq_of_beq_eq_true hlen
        simp only [rA] at h
        exact A_iconst hd (of_decide_eq_true hok2) (ih _ _ _ _ _ _ _ _ _ _ _ htl h)
      case bipush c =>
        obtain rfl : len = 2 := Nat.eq_of_beq_eq_true hlen
        simp only [rA] at h
        exact A_bipush hd (of_decide_eq_true hok2) (ih _ _ _ _ _ _ _ _ _ _ _ htl h)
      case sipush c =>
        obtain rfl : len = 3 := Nat.eq_of_beq_eq_true hlen
        simp only [rA] at h
        exact A_sipush hd (of_decide_eq_true hok2) (ih _ _ _ _ _ _ _ _ _ _ _ htl h)
      case dup =>
        obtain rfl : len = 1 := Nat.eq_of_beq_eq_true hlen
        simp only [rA] at h
        split at h
        · exact A_dup hd (ih _ _ _ _ _ _ _ _ _ _ _ htl h)
        · cases h
      case goto off =>
        obtain rfl : len = 3 := Nat.eq_of_beq_eq_true hlen
        simp only [rA] at h
        split at h
        · exact A_goto hd (of_decide_eq_true hok2) (ih _ _ _ _ _ _ _ _ _ _ _ (jmp_at0 _ _) h)
        · cases h
      case if_icmp c off =>
        obtain rfl : len = 3 := Nat.eq_of_beq_eq_true hlen
        simp only [rA] at h
        split at h
        · split at h
          · rename_i hc
            exact A_ge hd (of_decide_eq_true hok2) hc (ih _ _ _ _ _ _ _ _ _ _ _ (jmp_at0 _ _) h)
          · rename_i hc
            rename_i t _ _ _ _
            exact A_nge (t := t) hd (of_decide_eq_true hok2) hc (ih _ _ _ _ _ _ _ _ _ _ _ htl h)
        · cases h
      case getfield idx =>
        obtain rfl : len = 3 := Nat.eq_of_beq_eq_true hlen
        simp only [rA] at h
        split at h
        · rename_i c f t b o _ _
          obtain ⟨hO, h⟩ := cond_some h
          have hK := isO_spec hO
          split at h
          · rename_i q hq
            simp only [okAI] at hok2
            split at hok2
            · cases ‹[c, f, _] = [_, _, _]›
              split at hok2
              · rename_i hc
                simp only [Bool.and_eq_true, decide_eq_true_eq] at hok2
                obtain ⟨e1, e2, e3⟩ := hok2
                exact A_getR (t := 0) hc e1 (hasW_mem e2) hK e3 hq hd (ih _ _ _ _ _ _ _ _ _ _ _ htl h)
              · cases hok2
            · cases hok2
          · cases h
        · cases h
      case putfield idx =>
        obtain rfl : len = 3 := Nat.eq_of_beq_eq_true hlen
        simp only [rA] at h
        split at h
        · rename_i c f x b o _ _
          obtain ⟨hO, h⟩ := cond_some h
          have hK := isO_spec hO
          simp only [okAI] at hok2
          split at hok2
          · cases ‹[c, f, _] = [_, _, _]›
            split at hok2
            · rename_i hc
              simp only [Bool.and_eq_true, decide_eq_true_eq] at hok2
              obtain ⟨e1, e2, e3, e4, e5⟩ := hok2
              exact A_putI hc e1 (hasW_mem e2) hK e3 e4 e5 hd (ih _ _ _ _ _ _ _ _ _ _ _ htl h)
            · cases hok2
          · cases hok2
        · rename_i c f t q b o _ _
          obtain ⟨hO, h⟩ := cond_some h
          have hK := isO_spec hO
          simp only [okAI] at hok2
          split at hok2
          · cases ‹[c, f, _] = [_, _, _]›
            split at hok2
            · rename_i hc
              simp only [Bool.and_eq_true, decide_eq_true_eq] at hok2
              obtain ⟨e1, e2, e3, e4, e5, e6⟩ := hok2
              split at e6
              · rename_i ht
                exact A_putR (t := 0) hc e1 (hasW_mem e2) hK e3 e4 ht (fun _ => rfl) (fun _ => rfl) e5 hd (ih _ _ _ _ _ _ _ _ _ _ _ htl h)
              · rename_i ht
                exact A_putR (t := 0) hc e1 (hasW_mem e2) hK e3 e4 ht (fun _ => rfl) (fun _ => rfl) e5 hd (ih _ _ _ _ _ _ _ _ _ _ _ htl h)
              · cases e6
            · cases hok2
          · cases hok2
        · cases h
      case newarray ty =>
        obtain rfl : len = 2 := Nat.eq_of_beq_eq_true hlen
        simp only [rA] at h
        simp only [okAI] at hok2
        split at hok2
        · split at h
          · obtain ⟨hi, h⟩ := ite_some h
            obtain ⟨b, o, hp, hK, h⟩ := mk_some h
            have hlt := Nat.not_le.mp (fun z => hi (Or.inr z))
            exact A_newI hp hK (fun z => hi (Or.inl z)) rfl (by omega) (hasW_mem hok2) hd (ih _ _ _ _ _ _ _ _ _ _ _ htl h)
          · obtain ⟨hi, h⟩ := ite_some h
            obtain ⟨b, o, hp, hK, h⟩ := mk_some h
            have hlt := Nat.not_le.mp (fun z => hi (Or.inr z))
            exact A_newZ hp hK (fun z => hi (Or.inl z)) rfl (by omega) (hasW_mem hok2) hd (ih _ _ _ _ _ _ _ _ _ _ _ htl h)
          · obtain ⟨hi, h⟩ := ite_some h
            obtain ⟨b, o, hp, hK, h⟩ := mk_some h
            have hlt := Nat.not_le.mp (fun z => hi (Or.inr z))
            exact A_newF hp hK (fun z => hi (Or.inl z)) rfl (by omega) (hasW_mem hok2) hd (ih _ _ _ _ _ _ _ _ _ _ _ htl h)
          · cases h
        · cases hok2
      case anewarray idx =>
        obtain rfl : len = 3 := Nat.eq_of_beq_eq_true hlen
        simp only [rA] at h
        simp only [okAI] at hok2
        split at hok2
        · split at h
          · obtain ⟨hi, h⟩ := ite_some h
            obtain ⟨b, o, hp, hK, h⟩ := mk_some h
            have hlt := Nat.not_le.mp (fun z => hi (Or.inr z))
            exact A_newR hp hK (fun z => hi (Or.inl z)) rfl (by omega) (hasW_mem hok2) hd (ih _ _ _ _ _ _ _ _ _ _ _ htl h)
          · cases h
        · cases hok2
      case new idx =>
        obtain rfl : len = 3 := Nat.eq_of_beq_eq_true hlen
        simp only [rA] at h
        split at h
        · rename_i c
          obtain ⟨b, o, hp, hK, h⟩ := mk_some h
          simp only [okAI] at hok2
          split at hok2
          · cases ‹[c] = [_]›
            split at hok2
            · rename_i C T N hc
              simp only [Bool.and_eq_true, decide_eq_true_eq] at hok2
              obtain ⟨e1, e2, e3, e4, e5⟩ := hok2
              refine A_new hp hc hK e4 (fun j hj => ?_) (hasW_mem e1) (hasW_mem e2) (hasW_mem e3) hd (ih _ _ _ _ _ _ _ _ _ _ _ htl h)
              have e6 := List.all_eq_true.mp e5 j (List.mem_range.mpr hj)
              split at e6
              · rename_i ty hty
                exact ⟨ty, hty, of_decide_eq_true e6⟩
              · cases e6
            · cases hok2
          · cases hok2
        · cases h
      case iastore =>
        obtain rfl : len = 1 := Nat.eq_of_beq_eq_true hlen
        simp only [rA] at h
        split at h
        · obtain ⟨hO, h⟩ := cond_some h
          obtain ⟨hi, h⟩ := ite_some h
          exact A_iast (K0_of hO) hi hd (ih _ _ _ _ _ _ _ _ _ _ _ htl h)
        · cases h
      case aastore =>
        obtain rfl : len = 1 := Nat.eq_of_beq_eq_true hlen
        simp only [rA] at h
        split at h
        · obtain ⟨hO, h⟩ := cond_some h
          rw [Bool.and_eq_true] at hO
          obtain ⟨hi, h⟩ := ite_some h
          exact A_aast (K0_of hO.1) (isO_spec hO.2) hi hd (ih _ _ _ _ _ _ _ _ _ _ _ htl h)
        · cases h
      case return_ =>
        obtain rfl : len = 1 := Nat.eq_of_beq_eq_true hlen
        simp only [rA] at h
        split at h
        · cases h
          exact A_ret hd
        · cases h
      case invokespecial idx =>
        obtain rfl : len = 3 := Nat.eq_of_beq_eq_true hlen
        simp only [rA] at h
        split at h
        · obtain ⟨hst, h⟩ := cond_some h
          have hst := Nat.le_of_ble_eq_true hst
          simp only [okAI] at hok2
          split at hok2
          · simp only [Bool.and_eq_true, decide_eq_true_eq] at hok2
            obtain ⟨e1, e2, e3, e4, e5⟩ := hok2
            exact A_obj (hasW_mem e1) (hasW_mem e2) (hasW_mem e3) e4 e5 hst hd (ih _ _ _ _ _ _ _ _ _ _ _ htl h)
          · cases ‹([] : List Nat) = [_]›
          · cases ‹([] : List Nat) = [_]›
          · cases hok2
        · rename_i y2 q st' _
          obtain ⟨hst, h⟩ := cond_some h
          have hst := Nat.le_of_ble_eq_true hst
          split at h
          · rename_i n2 WI2 WR2 hr
            obtain ⟨-, -, h02, hpn, hrt, hin, hml⟩ := okTA_spec (okTA_all y2)
            have hM : MetA (zMA y2) q n WI WR n2 WI2 WR2 := met_ofA hpn hrt hin hml (ih y2 (zCA y2) 0 _ _ _ _ _ _ _ _ ⟨⟨[], rfl⟩, h02⟩ hr)
            simp only [okAI] at hok2
            split at hok2
            · cases ‹[y2] = []›
            · cases ‹[y2] = [_]›
              simp only [Bool.and_eq_true] at hok2
              obtain ⟨e1, e3, e4, e6⟩ := hok2
              obtain ⟨hds, hf0, hl0, -⟩ := okCall_spec e6
              exact A_callI hd (hasW_mem e1) (CWA_all y2) (hasW_mem e3) (hasW_mem e4) hin hrt hds hf0 (by omega) hst hM (ih _ _ _ _ _ _ _ _ _ _ _ htl h)
            · cases ‹[y2] = [_]›
              simp only [Bool.and_eq_true] at hok2
              obtain ⟨e1, e3, e4, e6⟩ := hok2
              obtain ⟨hds, hf0, hl0, -⟩ := okCall_spec e6
              exact A_callIN hd (of_decide_eq_true e1) (CWA_all y2) (hasW_mem e3) (hasW_mem e4) hin hrt hds hf0 (by omega) hst hM (ih _ _ _ _ _ _ _ _ _ _ _ htl h)
            · cases hok2
          · cases h
        · cases h
      all_goals (exact absurd h (by simp [rA]))
theorem rA_met {k y : Nat} {q : Nat × Nat} {n : Nat} {WI : WIl} {WR : WRl} {n1 : Nat} {WI1 : WIl} {WR1 : WRl} (h : rA k y (zCA y) [(0, vR (some q))] [] n WI WR = some (n1, WI1, WR1)) : MetA (zMA y) q n WI WR n1 WI1 WR1 := by
  obtain ⟨-, -, h0, hpn, hrt, hin, hml⟩ := okTA_spec (okTA_all y)
  exact met_ofA hpn hrt hin hml (rA_sound k y (zCA y) 0 _ _ _ _ _ _ _ _ ⟨⟨[], rfl⟩, h0⟩ h)
