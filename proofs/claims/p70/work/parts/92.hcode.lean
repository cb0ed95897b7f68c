/-! code that is walked by hand, and the names of its contracts -/
def cd_J6_numberOfTrailingZeros_0f7a4 : kCd := [(0, .iload_n 0, 1), (1, .iconst (-1), 1), (2, .ixor, 1), (3, .iload_n 0, 1), (4, .iconst 1, 1), (5, .isub, 1), (6, .iand, 1), (7, .istore_n 0, 1), (8, .iload_n 0, 1), (9, .ifCond .gt 8, 3), (12, .iload_n 0, 1), (13, .bipush 32, 2), (15, .iand, 1), (16, .ireturn, 1), (17, .iconst 1, 1), (18, .istore_n 1, 1), (19, .iload_n 0, 1), (20, .ldc_w 264, 3), (23, .if_icmp .le 11, 3), (26, .iinc 1 16, 3), (29, .iload_n 0, 1), (30, .bipush 16, 2), (32, .iushr, 1), (33, .istore_n 0, 1), (34, .iload_n 0, 1), (35, .sipush 256, 3), (38, .if_icmp .le 11, 3), (41, .iinc 1 8, 3), (44, .iload_n 0, 1), (45, .bipush 8, 2), (47, .iushr, 1), (48, .istore_n 0, 1), (49, .iload_n 0, 1), (50, .bipush 16, 2), (52, .if_icmp .le 10, 3), (55, .iinc 1 4, 3), (58, .iload_n 0, 1), (59, .iconst 4, 1), (60, .iushr, 1), (61, .istore_n 0, 1), (62, .iload_n 0, 1), (63, .iconst 4, 1), (64, .if_icmp .le 10, 3), (67, .iinc 1 2, 3), (70, .iload_n 0, 1), (71, .iconst 2, 1), (72, .iushr, 1), (73, .istore_n 0, 1), (74, .iload_n 1, 1), (75, .iload_n 0, 1), (76, .iconst 1, 1), (77, .iushr, 1), (78, .iadd, 1), (79, .ireturn, 1)]
def cd_X6_isWord : kCd := [(0, .aload_n 0, 1), (1, .getfield 18, 3), (4, .iconst 1, 1), (5, .if_icmp .ne 19, 3), (8, .aload_n 0, 1), (9, .getfield 24, 3), (12, .aload_n 0, 1), (13, .getfield 21, 3), (16, .isub, 1), (17, .aload_n 1, 1), (18, .invokevirtual 177, 3), (21, .if_icmp .eq 5, 3), (24, .iconst 0, 1), (25, .ireturn, 1), (26, .iconst 0, 1), (27, .istore_n 2, 1), (28, .iload_n 2, 1), (29, .aload_n 1, 1), (30, .invokevirtual 177, 3), (33, .if_icmp .ge 32, 3), (36, .aload_n 0, 1), (37, .getfield 27, 3), (40, .aload_n 0, 1), (41, .getfield 21, 3), (44, .iload_n 2, 1), (45, .iadd, 1), (46, .invokevirtual 182, 3), (49, .aload_n 1, 1), (50, .iload_n 2, 1), (51, .invokevirtual 188, 3), (54, .if_icmp .eq 5, 3), (57, .iconst 0, 1), (58, .ireturn, 1), (59, .iinc 2 1, 3), (62, .goto (-34), 3), (65, .iconst 1, 1), (66, .ireturn, 1)]
def cd_X0_add : kCd := [(0, .aload_n 0, 1), (1, .getfield 22, 3), (4, .bipush 40, 2), (6, .if_icmp .ge 43, 3), (9, .aload_n 0, 1), (10, .getfield 9, 3), (13, .aload_n 0, 1), (14, .getfield 22, 3), (17, .iload_n 1, 1), (18, .bastore, 1), (19, .aload_n 0, 1), (20, .getfield 15, 3), (23, .aload_n 0, 1), (24, .getfield 22, 3), (27, .iload_n 2, 1), (28, .iastore, 1), (29, .aload_n 0, 1), (30, .getfield 19, 3), (33, .aload_n 0, 1), (34, .getfield 22, 3), (37, .iload_n 3, 1), (38, .iastore, 1), (39, .aload_n 0, 1), (40, .dup, 1), (41, .getfield 22, 3), (44, .iconst 1, 1), (45, .iadd, 1), (46, .putfield 22, 3), (49, .return_, 1)]
def cd_X0_copyFrom : kCd := [(0, .aload_n 0, 1), (1, .aload_n 1, 1), (2, .getfield 22, 3), (5, .putfield 22, 3), (8, .aload_n 1, 1), (9, .getfield 9, 3), (12, .iconst 0, 1), (13, .aload_n 0, 1), (14, .getfield 9, 3), (17, .iconst 0, 1), (18, .bipush 40, 2), (20, .invokestatic 34, 3), (23, .aload_n 1, 1), (24, .getfield 15, 3), (27, .iconst 0, 1), (28, .aload_n 0, 1), (29, .getfield 15, 3), (32, .iconst 0, 1), (33, .bipush 40, 2), (35, .invokestatic 34, 3), (38, .aload_n 1, 1), (39, .getfield 19, 3), (42, .iconst 0, 1), (43, .aload_n 0, 1), (44, .getfield 19, 3), (47, .iconst 0, 1), (48, .bipush 40, 2), (50, .invokestatic 34, 3), (53, .return_, 1)]
def cd_X10_coverOf : kCd := [(0, .iload_n 2, 1), (1, .iload_n 1, 1), (2, .if_icmp .ge 5, 3), (5, .iconst (-1), 1), (6, .ireturn, 1), (7, .aload_n 0, 1), (8, .iload_n 2, 1), (9, .iload_n 1, 1), (10, .isub, 1), (11, .invokevirtual 376, 3), (14, .istore_n 3, 1), (15, .iconst 1, 1), (16, .istore 4, 2), (18, .aload_n 0, 1), (19, .iload 4, 2), (21, .iload_n 3, 1), (22, .invokevirtual 379, 3), (25, .ifCond .ne 9, 3), (28, .iinc 4 1, 3), (31, .goto (-13), 3), (34, .iload 4, 2), (36, .ireturn, 1)]
def cd_X10_divisor : kCd := [(0, .lload_n 0, 1), (1, .lstore 4, 2), (3, .lload_n 2, 1), (4, .lstore 6, 2), (6, .lload 6, 2), (8, .lconst 0, 1), (9, .lcmp, 1), (10, .ifCond .eq 21, 3), (13, .lload 4, 2), (15, .lload 6, 2), (17, .lrem, 1), (18, .lstore 8, 2), (20, .lload 6, 2), (22, .lstore 4, 2), (24, .lload 8, 2), (26, .lstore 6, 2), (28, .goto (-22), 3), (31, .lload 4, 2), (33, .lreturn, 1)]
def cd_X10_is : kCd := [(0, .aload_n 0, 1), (1, .invokevirtual 127, 3), (4, .ifCond .eq 31, 3), (7, .aload_n 0, 1), (8, .getfield 103, 3), (11, .iconst 1, 1), (12, .if_icmp .ne 23, 3), (15, .aload_n 0, 1), (16, .getfield 93, 3), (19, .aload_n 0, 1), (20, .getfield 100, 3), (23, .isub, 1), (24, .aload_n 1, 1), (25, .invokevirtual 131, 3), (28, .if_icmp .ne 7, 3), (31, .iconst 1, 1), (32, .goto 4, 3), (35, .iconst 0, 1), (36, .istore_n 2, 1), (37, .iconst 0, 1), (38, .istore_n 3, 1), (39, .iload_n 3, 1), (40, .aload_n 1, 1), (41, .invokevirtual 131, 3), (44, .if_icmp .ge 38, 3), (47, .iload_n 2, 1), (48, .ifCond .eq 34, 3), (51, .aload_n 0, 1), (52, .getfield 20, 3), (55, .aload_n 0, 1), (56, .getfield 100, 3), (59, .iload_n 3, 1), (60, .iadd, 1), (61, .baload, 1), (62, .aload_n 1, 1), (63, .iload_n 3, 1), (64, .invokevirtual 136, 3), (67, .if_icmp .ne 7, 3), (70, .iconst 1, 1), (71, .goto 4, 3), (74, .iconst 0, 1), (75, .istore_n 2, 1), (76, .iinc 3 1, 3), (79, .goto (-40), 3), (82, .iload_n 2, 1), (83, .ireturn, 1)]
abbrev hc_ntz : kCt := ct_21
abbrev hc_isWord : kCt := ct_22
abbrev hc_addL : kCt := ct_23
abbrev hc_addC : kCt := ct_24
abbrev hc_takeBack : kCt := ct_25
abbrev hb_takeBack : kBd := bd_25
theorem hk_takeBack : kbodyH (kEof k_tt k_aty k_ct ow_SilenceMatch_Acts 2 none ct_25) bd_25 0 100000 = true := ok_25
abbrev hc_copyActs : kCt := ct_26
abbrev hc_coverOf : kCt := ct_343
abbrev hc_power : kCt := ct_385
abbrev hc_divp : kCt := ct_387
abbrev hc_divn : kCt := ct_388
abbrev hc_isw : kCt := ct_427
abbrev hc_is1 : kCt := ct_428
abbrev hc_is2 : kCt := ct_429
abbrev hc_is3 : kCt := ct_430
abbrev hc_is4 : kCt := ct_431
abbrev hc_green : kCt := ct_491
abbrev hb_green : kBd := bd_491
theorem hk_green : kbodyH (kEof k_tt k_aty k_ct ow_SilenceMatchModel 2 (some .int) ct_491) bd_491 11 100000 = true := ok_491
abbrev hc_image : kCt := ct_492
abbrev hb_image : kBd := bd_492
theorem hk_image : kbodyH (kEof k_tt k_aty k_ct ow_SilenceMatchModel 3 (some .int) ct_492) bd_492 0 100000 = true := ok_492
abbrev hc_back : kCt := ct_493
abbrev hb_back : kBd := bd_493
theorem hk_back : kbodyH (kEof k_tt k_aty k_ct ow_SilenceMatchModel 3 (some .int) ct_493) bd_493 0 100000 = true := ok_493
