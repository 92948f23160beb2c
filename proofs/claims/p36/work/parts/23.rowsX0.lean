/-! TABLES (by program): the rows of X0 -/
theorem dX0_insert_0 : decode cX0_insert 0 = .ok (.aload_n 0, 1) := by decide +kernel
theorem dX0_insert_1 : decode cX0_insert 1 = .ok (.getfield 18, 3) := by decide +kernel
theorem dX0_insert_4 : decode cX0_insert 4 = .ok (.sipush 240, 3) := by decide +kernel
theorem dX0_insert_7 : decode cX0_insert 7 = .ok (.if_icmp .lt 4, 3) := by decide +kernel
theorem dX0_insert_10 : decode cX0_insert 10 = .ok (.return_, 1) := by decide +kernel
theorem dX0_insert_11 : decode cX0_insert 11 = .ok (.aload_n 0, 1) := by decide +kernel
theorem dX0_insert_12 : decode cX0_insert 12 = .ok (.getfield 18, 3) := by decide +kernel
theorem dX0_insert_15 : decode cX0_insert 15 = .ok (.istore_n 2, 1) := by decide +kernel
theorem dX0_insert_16 : decode cX0_insert 16 = .ok (.iload_n 2, 1) := by decide +kernel
theorem dX0_insert_17 : decode cX0_insert 17 = .ok (.ifCond .le 35, 3) := by decide +kernel
theorem dX0_insert_20 : decode cX0_insert 20 = .ok (.aload_n 0, 1) := by decide +kernel
theorem dX0_insert_21 : decode cX0_insert 21 = .ok (.getfield 11, 3) := by decide +kernel
theorem dX0_insert_24 : decode cX0_insert 24 = .ok (.iload_n 2, 1) := by decide +kernel
theorem dX0_insert_25 : decode cX0_insert 25 = .ok (.iconst 1, 1) := by decide +kernel
theorem dX0_insert_26 : decode cX0_insert 26 = .ok (.isub, 1) := by decide +kernel
theorem dX0_insert_27 : decode cX0_insert 27 = .ok (.iaload, 1) := by decide +kernel
theorem dX0_insert_28 : decode cX0_insert 28 = .ok (.iload_n 1, 1) := by decide +kernel
theorem dX0_insert_29 : decode cX0_insert 29 = .ok (.if_icmp .le 23, 3) := by decide +kernel
theorem dX0_insert_32 : decode cX0_insert 32 = .ok (.aload_n 0, 1) := by decide +kernel
theorem dX0_insert_33 : decode cX0_insert 33 = .ok (.getfield 11, 3) := by decide +kernel
theorem dX0_insert_36 : decode cX0_insert 36 = .ok (.iload_n 2, 1) := by decide +kernel
theorem dX0_insert_37 : decode cX0_insert 37 = .ok (.aload_n 0, 1) := by decide +kernel
theorem dX0_insert_38 : decode cX0_insert 38 = .ok (.getfield 11, 3) := by decide +kernel
theorem dX0_insert_41 : decode cX0_insert 41 = .ok (.iload_n 2, 1) := by decide +kernel
theorem dX0_insert_42 : decode cX0_insert 42 = .ok (.iconst 1, 1) := by decide +kernel
theorem dX0_insert_43 : decode cX0_insert 43 = .ok (.isub, 1) := by decide +kernel
theorem dX0_insert_44 : decode cX0_insert 44 = .ok (.iaload, 1) := by decide +kernel
theorem dX0_insert_45 : decode cX0_insert 45 = .ok (.iastore, 1) := by decide +kernel
theorem dX0_insert_46 : decode cX0_insert 46 = .ok (.iinc 2 (-1), 3) := by decide +kernel
theorem dX0_insert_49 : decode cX0_insert 49 = .ok (.goto (-33), 3) := by decide +kernel
theorem dX0_insert_52 : decode cX0_insert 52 = .ok (.aload_n 0, 1) := by decide +kernel
theorem dX0_insert_53 : decode cX0_insert 53 = .ok (.getfield 11, 3) := by decide +kernel
theorem dX0_insert_56 : decode cX0_insert 56 = .ok (.iload_n 2, 1) := by decide +kernel
theorem dX0_insert_57 : decode cX0_insert 57 = .ok (.iload_n 1, 1) := by decide +kernel
theorem dX0_insert_58 : decode cX0_insert 58 = .ok (.iastore, 1) := by decide +kernel
theorem dX0_insert_59 : decode cX0_insert 59 = .ok (.aload_n 0, 1) := by decide +kernel
theorem dX0_insert_60 : decode cX0_insert 60 = .ok (.dup, 1) := by decide +kernel
theorem dX0_insert_61 : decode cX0_insert 61 = .ok (.getfield 18, 3) := by decide +kernel
theorem dX0_insert_64 : decode cX0_insert 64 = .ok (.iconst 1, 1) := by decide +kernel
theorem dX0_insert_65 : decode cX0_insert 65 = .ok (.iadd, 1) := by decide +kernel
theorem dX0_insert_66 : decode cX0_insert 66 = .ok (.putfield 18, 3) := by decide +kernel
theorem dX0_insert_69 : decode cX0_insert 69 = .ok (.return_, 1) := by decide +kernel
def pg_X0_insert (l : Launch) (g : EG) : List (Nat × ES) := [(0, s_ldP 0), (1, s_getI 0 0), (4, s_c (.inl 240)), (7, s_icmp_lt 11), (10, s_vret), (11, s_ldP 0), (12, s_getI 0 0), (15, s_stI 2), (16, s_ldI 2), (17, s_if_le 52), (20, s_ldP 0), (21, s_getP 0 1), (24, s_ldI 2), (25, s_c (.inl 1)), (26, s_ii (fun x y => x - y)), (27, s_iald), (28, s_ldI 1), (29, s_icmp_le 52), (32, s_ldP 0), (33, s_getP 0 1), (36, s_ldI 2), (37, s_ldP 0), (38, s_getP 0 1), (41, s_ldI 2), (42, s_c (.inl 1)), (43, s_ii (fun x y => x - y)), (44, s_iald), (45, s_iast), (46, s_iinc 2 (-1)), (49, s_goto 16), (52, s_ldP 0), (53, s_getP 0 1), (56, s_ldI 2), (57, s_ldI 1), (58, s_iast), (59, s_ldP 0), (60, s_dup), (61, s_getI 0 0), (64, s_c (.inl 1)), (65, s_ii (fun x y => x + y)), (66, s_putI 0 0), (69, s_vret)]
set_option maxRecDepth 100000 in
theorem ok_X0_insert {l : Launch} {g : EG} : e_okp l g sg_X0_insert "CalendarSync$Agenda" (pg_X0_insert l g) := fun p e R s m args below meth c ex M0 Q X =>
    e_each_cons (r_aload_n X (k := 0) (i := 0) rfl dX0_insert_0 rfl)
    (e_each_cons (r_getI X (index := 18) (ci := 0) (k := 0) dX0_insert_1 (by decide) (by decide) rfl w2_87 rfl)
    (e_each_cons (r_sipush X (n := 240) (v := 240) dX0_insert_4 (by decide) rfl)
    (e_each_cons (r_icmp_lt X (off := 4) (t := 11) dX0_insert_7 (by decide) rfl)
    (e_each_cons (r_vret X dX0_insert_10 rfl)
    (e_each_cons (r_aload_n X (k := 0) (i := 0) rfl dX0_insert_11 rfl)
    (e_each_cons (r_getI X (index := 18) (ci := 0) (k := 0) dX0_insert_12 (by decide) (by decide) rfl w2_87 rfl)
    (e_each_cons (r_istore_n X (k := 2) (i := 2) rfl dX0_insert_15 (by decide) rfl)
    (e_each_cons (r_iload_n X (k := 2) (i := 2) rfl dX0_insert_16 rfl)
    (e_each_cons (r_if_le X (off := 35) (t := 52) dX0_insert_17 (by decide) rfl)
    (e_each_cons (r_aload_n X (k := 0) (i := 0) rfl dX0_insert_20 rfl)
    (e_each_cons (r_getP X (index := 11) (ci := 0) (k := 1) dX0_insert_21 (by decide) (by decide) rfl w2_89 rfl)
    (e_each_cons (r_iload_n X (k := 2) (i := 2) rfl dX0_insert_24 rfl)
    (e_each_cons (r_iconst X (n := 1) (v := 1) dX0_insert_25 (by decide) rfl)
    (e_each_cons (r_isub X dX0_insert_26 rfl)
    (e_each_cons (r_iald X dX0_insert_27 rfl)
    (e_each_cons (r_iload_n X (k := 1) (i := 1) rfl dX0_insert_28 rfl)
    (e_each_cons (r_icmp_le X (off := 23) (t := 52) dX0_insert_29 (by decide) rfl)
    (e_each_cons (r_aload_n X (k := 0) (i := 0) rfl dX0_insert_32 rfl)
    (e_each_cons (r_getP X (index := 11) (ci := 0) (k := 1) dX0_insert_33 (by decide) (by decide) rfl w2_89 rfl)
    (e_each_cons (r_iload_n X (k := 2) (i := 2) rfl dX0_insert_36 rfl)
    (e_each_cons (r_aload_n X (k := 0) (i := 0) rfl dX0_insert_37 rfl)
    (e_each_cons (r_getP X (index := 11) (ci := 0) (k := 1) dX0_insert_38 (by decide) (by decide) rfl w2_89 rfl)
    (e_each_cons (r_iload_n X (k := 2) (i := 2) rfl dX0_insert_41 rfl)
    (e_each_cons (r_iconst X (n := 1) (v := 1) dX0_insert_42 (by decide) rfl)
    (e_each_cons (r_isub X dX0_insert_43 rfl)
    (e_each_cons (r_iald X dX0_insert_44 rfl)
    (e_each_cons (r_iast X dX0_insert_45 rfl)
    (e_each_cons (r_iinc X (i := 2) (n := (-1)) (d := (-1)) dX0_insert_46 (by decide) (by decide) rfl)
    (e_each_cons (r_goto X (off := (-33)) (t := 16) dX0_insert_49 (by decide))
    (e_each_cons (r_aload_n X (k := 0) (i := 0) rfl dX0_insert_52 rfl)
    (e_each_cons (r_getP X (index := 11) (ci := 0) (k := 1) dX0_insert_53 (by decide) (by decide) rfl w2_89 rfl)
    (e_each_cons (r_iload_n X (k := 2) (i := 2) rfl dX0_insert_56 rfl)
    (e_each_cons (r_iload_n X (k := 1) (i := 1) rfl dX0_insert_57 rfl)
    (e_each_cons (r_iast X dX0_insert_58 rfl)
    (e_each_cons (r_aload_n X (k := 0) (i := 0) rfl dX0_insert_59 rfl)
    (e_each_cons (r_dup X dX0_insert_60 rfl)
    (e_each_cons (r_getI X (index := 18) (ci := 0) (k := 0) dX0_insert_61 (by decide) (by decide) rfl w2_87 rfl)
    (e_each_cons (r_iconst X (n := 1) (v := 1) dX0_insert_64 (by decide) rfl)
    (e_each_cons (r_iadd X dX0_insert_65 rfl)
    (e_each_cons (r_putI X (index := 18) (ci := 0) (k := 0) dX0_insert_66 (by decide) (by decide) rfl rfl w2_87 rfl)
    (e_each_cons (r_vret X dX0_insert_69 rfl)
    (e_each_nil))))))))))))))))))))))))))))))))))))))))))
theorem dX0_listAll_0 : decode cX0_listAll 0 = .ok (.aload_n 0, 1) := by decide +kernel
theorem dX0_listAll_1 : decode cX0_listAll 1 = .ok (.iconst 0, 1) := by decide +kernel
theorem dX0_listAll_2 : decode cX0_listAll 2 = .ok (.putfield 18, 3) := by decide +kernel
theorem dX0_listAll_5 : decode cX0_listAll 5 = .ok (.iconst 0, 1) := by decide +kernel
theorem dX0_listAll_6 : decode cX0_listAll 6 = .ok (.istore_n 2, 1) := by decide +kernel
theorem dX0_listAll_7 : decode cX0_listAll 7 = .ok (.iload_n 2, 1) := by decide +kernel
theorem dX0_listAll_8 : decode cX0_listAll 8 = .ok (.bipush 8, 2) := by decide +kernel
theorem dX0_listAll_10 : decode cX0_listAll 10 = .ok (.if_icmp .ge 90, 3) := by decide +kernel
theorem dX0_listAll_13 : decode cX0_listAll 13 = .ok (.aload_n 1, 1) := by decide +kernel
theorem dX0_listAll_14 : decode cX0_listAll 14 = .ok (.getfield 22, 3) := by decide +kernel
theorem dX0_listAll_17 : decode cX0_listAll 17 = .ok (.iload_n 2, 1) := by decide +kernel
theorem dX0_listAll_18 : decode cX0_listAll 18 = .ok (.aaload, 1) := by decide +kernel
theorem dX0_listAll_19 : decode cX0_listAll 19 = .ok (.invokevirtual 28, 3) := by decide +kernel
theorem dX0_listAll_22 : decode cX0_listAll 22 = .ok (.istore_n 3, 1) := by decide +kernel
theorem dX0_listAll_23 : decode cX0_listAll 23 = .ok (.aload_n 0, 1) := by decide +kernel
theorem dX0_listAll_24 : decode cX0_listAll 24 = .ok (.getfield 15, 3) := by decide +kernel
theorem dX0_listAll_27 : decode cX0_listAll 27 = .ok (.iload_n 2, 1) := by decide +kernel
theorem dX0_listAll_28 : decode cX0_listAll 28 = .ok (.aload_n 1, 1) := by decide +kernel
theorem dX0_listAll_29 : decode cX0_listAll 29 = .ok (.getfield 22, 3) := by decide +kernel
theorem dX0_listAll_32 : decode cX0_listAll 32 = .ok (.iload_n 2, 1) := by decide +kernel
theorem dX0_listAll_33 : decode cX0_listAll 33 = .ok (.aaload, 1) := by decide +kernel
theorem dX0_listAll_34 : decode cX0_listAll 34 = .ok (.getfield 34, 3) := by decide +kernel
theorem dX0_listAll_37 : decode cX0_listAll 37 = .ok (.iastore, 1) := by decide +kernel
theorem dX0_listAll_38 : decode cX0_listAll 38 = .ok (.iconst 0, 1) := by decide +kernel
theorem dX0_listAll_39 : decode cX0_listAll 39 = .ok (.istore 4, 2) := by decide +kernel
theorem dX0_listAll_41 : decode cX0_listAll 41 = .ok (.iload 4, 2) := by decide +kernel
theorem dX0_listAll_43 : decode cX0_listAll 43 = .ok (.bipush 30, 2) := by decide +kernel
theorem dX0_listAll_45 : decode cX0_listAll 45 = .ok (.if_icmp .ge 49, 3) := by decide +kernel
theorem dX0_listAll_48 : decode cX0_listAll 48 = .ok (.iload_n 3, 1) := by decide +kernel
theorem dX0_listAll_49 : decode cX0_listAll 49 = .ok (.iload 4, 2) := by decide +kernel
theorem dX0_listAll_51 : decode cX0_listAll 51 = .ok (.invokestatic 37, 3) := by decide +kernel
theorem dX0_listAll_54 : decode cX0_listAll 54 = .ok (.ifCond .eq 34, 3) := by decide +kernel
theorem dX0_listAll_57 : decode cX0_listAll 57 = .ok (.aload_n 1, 1) := by decide +kernel
theorem dX0_listAll_58 : decode cX0_listAll 58 = .ok (.iload_n 2, 1) := by decide +kernel
theorem dX0_listAll_59 : decode cX0_listAll 59 = .ok (.iload 4, 2) := by decide +kernel
theorem dX0_listAll_61 : decode cX0_listAll 61 = .ok (.invokevirtual 41, 3) := by decide +kernel
theorem dX0_listAll_64 : decode cX0_listAll 64 = .ok (.istore 5, 2) := by decide +kernel
theorem dX0_listAll_66 : decode cX0_listAll 66 = .ok (.aload_n 0, 1) := by decide +kernel
theorem dX0_listAll_67 : decode cX0_listAll 67 = .ok (.iload 5, 2) := by decide +kernel
theorem dX0_listAll_69 : decode cX0_listAll 69 = .ok (.sipush 1000, 3) := by decide +kernel
theorem dX0_listAll_72 : decode cX0_listAll 72 = .ok (.iadd, 1) := by decide +kernel
theorem dX0_listAll_73 : decode cX0_listAll 73 = .ok (.sipush 256, 3) := by decide +kernel
theorem dX0_listAll_76 : decode cX0_listAll 76 = .ok (.imul, 1) := by decide +kernel
theorem dX0_listAll_77 : decode cX0_listAll 77 = .ok (.iload_n 2, 1) := by decide +kernel
theorem dX0_listAll_78 : decode cX0_listAll 78 = .ok (.bipush 32, 2) := by decide +kernel
theorem dX0_listAll_80 : decode cX0_listAll 80 = .ok (.imul, 1) := by decide +kernel
theorem dX0_listAll_81 : decode cX0_listAll 81 = .ok (.iadd, 1) := by decide +kernel
theorem dX0_listAll_82 : decode cX0_listAll 82 = .ok (.iload 4, 2) := by decide +kernel
theorem dX0_listAll_84 : decode cX0_listAll 84 = .ok (.iadd, 1) := by decide +kernel
theorem dX0_listAll_85 : decode cX0_listAll 85 = .ok (.invokevirtual 45, 3) := by decide +kernel
theorem dX0_listAll_88 : decode cX0_listAll 88 = .ok (.iinc 4 1, 3) := by decide +kernel
theorem dX0_listAll_91 : decode cX0_listAll 91 = .ok (.goto (-50), 3) := by decide +kernel
theorem dX0_listAll_94 : decode cX0_listAll 94 = .ok (.iinc 2 1, 3) := by decide +kernel
theorem dX0_listAll_97 : decode cX0_listAll 97 = .ok (.goto (-90), 3) := by decide +kernel
theorem dX0_listAll_100 : decode cX0_listAll 100 = .ok (.return_, 1) := by decide +kernel
def pg_X0_listAll (l : Launch) (g : EG) : List (Nat × ES) := [(0, s_ldP 0), (1, s_c (.inl 0)), (2, s_putI 0 0), (5, s_c (.inl 0)), (6, s_stI 2), (7, s_ldI 2), (8, s_c (.inl 8)), (10, s_icmp_ge 100), (13, s_ldP 1), (14, s_getP 4 2), (17, s_ldI 2), (18, s_aald), (19, s_callV l g sg_X0_listAll sg_X2_shownBits 1), (22, s_stI 3), (23, s_ldP 0), (24, s_getP 0 2), (27, s_ldI 2), (28, s_ldP 1), (29, s_getP 4 2), (32, s_ldI 2), (33, s_aald), (34, s_getI 1 3), (37, s_iast), (38, s_c (.inl 0)), (39, s_stI 4), (41, s_ldI 4), (43, s_c (.inl 30)), (45, s_icmp_ge 94), (48, s_ldI 3), (49, s_ldI 4), (51, s_callS l g sg_X0_listAll sg_X10_hasBit), (54, s_if_eq 88), (57, s_ldP 1), (58, s_ldI 2), (59, s_ldI 4), (61, s_callV l g sg_X0_listAll sg_X5_momentOf 4), (64, s_stI 5), (66, s_ldP 0), (67, s_ldI 5), (69, s_c (.inl 1000)), (72, s_ii (fun x y => x + y)), (73, s_c (.inl 256)), (76, s_ii (fun x y => x * y)), (77, s_ldI 2), (78, s_c (.inl 32)), (80, s_ii (fun x y => x * y)), (81, s_ii (fun x y => x + y)), (82, s_ldI 4), (84, s_ii (fun x y => x + y)), (85, s_callV l g sg_X0_listAll sg_X0_insert 0), (88, s_iinc 4 1), (91, s_goto 41), (94, s_iinc 2 1), (97, s_goto 7), (100, s_vret)]
set_option maxRecDepth 100000 in
theorem ok_X0_listAll {l : Launch} {g : EG} : e_okp l g sg_X0_listAll "CalendarSync$Agenda" (pg_X0_listAll l g) := fun p e R s m args below meth c ex M0 Q X =>
    e_each_cons (r_aload_n X (k := 0) (i := 0) rfl dX0_listAll_0 rfl)
    (e_each_cons (r_iconst X (n := 0) (v := 0) dX0_listAll_1 (by decide) rfl)
    (e_each_cons (r_putI X (index := 18) (ci := 0) (k := 0) dX0_listAll_2 (by decide) (by decide) rfl rfl w2_87 rfl)
    (e_each_cons (r_iconst X (n := 0) (v := 0) dX0_listAll_5 (by decide) rfl)
    (e_each_cons (r_istore_n X (k := 2) (i := 2) rfl dX0_listAll_6 (by decide) rfl)
    (e_each_cons (r_iload_n X (k := 2) (i := 2) rfl dX0_listAll_7 rfl)
    (e_each_cons (r_bipush X (n := 8) (v := 8) dX0_listAll_8 (by decide) rfl)
    (e_each_cons (r_icmp_ge X (off := 90) (t := 100) dX0_listAll_10 (by decide) rfl)
    (e_each_cons (r_aload_n X (k := 1) (i := 1) rfl dX0_listAll_13 rfl)
    (e_each_cons (r_getP X (index := 22) (ci := 4) (k := 2) dX0_listAll_14 (by decide) (by decide) rfl w1_168 rfl)
    (e_each_cons (r_iload_n X (k := 2) (i := 2) rfl dX0_listAll_17 rfl)
    (e_each_cons (r_aald X dX0_listAll_18 rfl)
    (e_each_cons (r_callV X rfl (τ := sg_X2_shownBits) (index := 28) (ci := 1) dX0_listAll_19 (by decide) rfl w6_27 w2_220 w2_221 cs_X2_shownBits rfl ⟨by decide, by decide⟩ rfl)
    (e_each_cons (r_istore_n X (k := 3) (i := 3) rfl dX0_listAll_22 (by decide) rfl)
    (e_each_cons (r_aload_n X (k := 0) (i := 0) rfl dX0_listAll_23 rfl)
    (e_each_cons (r_getP X (index := 15) (ci := 0) (k := 2) dX0_listAll_24 (by decide) (by decide) rfl w2_90 rfl)
    (e_each_cons (r_iload_n X (k := 2) (i := 2) rfl dX0_listAll_27 rfl)
    (e_each_cons (r_aload_n X (k := 1) (i := 1) rfl dX0_listAll_28 rfl)
    (e_each_cons (r_getP X (index := 22) (ci := 4) (k := 2) dX0_listAll_29 (by decide) (by decide) rfl w1_168 rfl)
    (e_each_cons (r_iload_n X (k := 2) (i := 2) rfl dX0_listAll_32 rfl)
    (e_each_cons (r_aald X dX0_listAll_33 rfl)
    (e_each_cons (r_getI X (index := 34) (ci := 1) (k := 3) dX0_listAll_34 (by decide) (by decide) rfl w1_92 rfl)
    (e_each_cons (r_iast X dX0_listAll_37 rfl)
    (e_each_cons (r_iconst X (n := 0) (v := 0) dX0_listAll_38 (by decide) rfl)
    (e_each_cons (r_istore X (i := 4) dX0_listAll_39 (by decide) rfl)
    (e_each_cons (r_iload X (i := 4) dX0_listAll_41 rfl)
    (e_each_cons (r_bipush X (n := 30) (v := 30) dX0_listAll_43 (by decide) rfl)
    (e_each_cons (r_icmp_ge X (off := 49) (t := 94) dX0_listAll_45 (by decide) rfl)
    (e_each_cons (r_iload_n X (k := 3) (i := 3) rfl dX0_listAll_48 rfl)
    (e_each_cons (r_iload X (i := 4) dX0_listAll_49 rfl)
    (e_each_cons (r_callSN X rfl (τ := sg_X10_hasBit) (index := 37) (host := "CalendarSync") dX0_listAll_51 wn6_28 w2_224 cs_X10_hasBit rfl ⟨by decide, by decide⟩ rfl)
    (e_each_cons (r_if_eq X (off := 34) (t := 88) dX0_listAll_54 (by decide) rfl)
    (e_each_cons (r_aload_n X (k := 1) (i := 1) rfl dX0_listAll_57 rfl)
    (e_each_cons (r_iload_n X (k := 2) (i := 2) rfl dX0_listAll_58 rfl)
    (e_each_cons (r_iload X (i := 4) dX0_listAll_59 rfl)
    (e_each_cons (r_callV X rfl (τ := sg_X5_momentOf) (index := 41) (ci := 4) dX0_listAll_61 (by decide) rfl w6_29 w2_231 w2_232 cs_X5_momentOf rfl ⟨by decide, by decide⟩ rfl)
    (e_each_cons (r_istore X (i := 5) dX0_listAll_64 (by decide) rfl)
    (e_each_cons (r_aload_n X (k := 0) (i := 0) rfl dX0_listAll_66 rfl)
    (e_each_cons (r_iload X (i := 5) dX0_listAll_67 rfl)
    (e_each_cons (r_sipush X (n := 1000) (v := 1000) dX0_listAll_69 (by decide) rfl)
    (e_each_cons (r_iadd X dX0_listAll_72 rfl)
    (e_each_cons (r_sipush X (n := 256) (v := 256) dX0_listAll_73 (by decide) rfl)
    (e_each_cons (r_imul X dX0_listAll_76 rfl)
    (e_each_cons (r_iload_n X (k := 2) (i := 2) rfl dX0_listAll_77 rfl)
    (e_each_cons (r_bipush X (n := 32) (v := 32) dX0_listAll_78 (by decide) rfl)
    (e_each_cons (r_imul X dX0_listAll_80 rfl)
    (e_each_cons (r_iadd X dX0_listAll_81 rfl)
    (e_each_cons (r_iload X (i := 4) dX0_listAll_82 rfl)
    (e_each_cons (r_iadd X dX0_listAll_84 rfl)
    (e_each_cons (r_callV X rfl (τ := sg_X0_insert) (index := 45) (ci := 0) dX0_listAll_85 (by decide) rfl w6_30 w6_32 ws_24 cs_X0_insert rfl ⟨by decide, by decide⟩ rfl)
    (e_each_cons (r_iinc X (i := 4) (n := 1) (d := 1) dX0_listAll_88 (by decide) (by decide) rfl)
    (e_each_cons (r_goto X (off := (-50)) (t := 41) dX0_listAll_91 (by decide))
    (e_each_cons (r_iinc X (i := 2) (n := 1) (d := 1) dX0_listAll_94 (by decide) (by decide) rfl)
    (e_each_cons (r_goto X (off := (-90)) (t := 7) dX0_listAll_97 (by decide))
    (e_each_cons (r_vret X dX0_listAll_100 rfl)
    (e_each_nil)))))))))))))))))))))))))))))))))))))))))))))))))))))))
theorem dX0_momentOf_0 : decode cX0_momentOf 0 = .ok (.aload_n 0, 1) := by decide +kernel
theorem dX0_momentOf_1 : decode cX0_momentOf 1 = .ok (.getfield 11, 3) := by decide +kernel
theorem dX0_momentOf_4 : decode cX0_momentOf 4 = .ok (.iload_n 1, 1) := by decide +kernel
theorem dX0_momentOf_5 : decode cX0_momentOf 5 = .ok (.iaload, 1) := by decide +kernel
theorem dX0_momentOf_6 : decode cX0_momentOf 6 = .ok (.sipush 256, 3) := by decide +kernel
theorem dX0_momentOf_9 : decode cX0_momentOf 9 = .ok (.idiv, 1) := by decide +kernel
theorem dX0_momentOf_10 : decode cX0_momentOf 10 = .ok (.sipush 1000, 3) := by decide +kernel
theorem dX0_momentOf_13 : decode cX0_momentOf 13 = .ok (.isub, 1) := by decide +kernel
theorem dX0_momentOf_14 : decode cX0_momentOf 14 = .ok (.ireturn, 1) := by decide +kernel
def pg_X0_momentOf (l : Launch) (g : EG) : List (Nat × ES) := [(0, s_ldP 0), (1, s_getP 0 1), (4, s_ldI 1), (5, s_iald), (6, s_c (.inl 256)), (9, s_iid (fun x y => x / y) (fun _ y => ¬ y = 0)), (10, s_c (.inl 1000)), (13, s_ii (fun x y => x - y)), (14, s_ireti)]
set_option maxRecDepth 100000 in
theorem ok_X0_momentOf {l : Launch} {g : EG} : e_okp l g sg_X0_momentOf "CalendarSync$Agenda" (pg_X0_momentOf l g) := fun p e R s m args below meth c ex M0 Q X =>
    e_each_cons (r_aload_n X (k := 0) (i := 0) rfl dX0_momentOf_0 rfl)
    (e_each_cons (r_getP X (index := 11) (ci := 0) (k := 1) dX0_momentOf_1 (by decide) (by decide) rfl w2_89 rfl)
    (e_each_cons (r_iload_n X (k := 1) (i := 1) rfl dX0_momentOf_4 rfl)
    (e_each_cons (r_iald X dX0_momentOf_5 rfl)
    (e_each_cons (r_sipush X (n := 256) (v := 256) dX0_momentOf_6 (by decide) rfl)
    (e_each_cons (r_idiv X dX0_momentOf_9 rfl)
    (e_each_cons (r_sipush X (n := 1000) (v := 1000) dX0_momentOf_10 (by decide) rfl)
    (e_each_cons (r_isub X dX0_momentOf_13 rfl)
    (e_each_cons (r_ireti X dX0_momentOf_14 rfl)
    (e_each_nil)))))))))
theorem dX0_eventOf_0 : decode cX0_eventOf 0 = .ok (.aload_n 0, 1) := by decide +kernel
theorem dX0_eventOf_1 : decode cX0_eventOf 1 = .ok (.getfield 11, 3) := by decide +kernel
theorem dX0_eventOf_4 : decode cX0_eventOf 4 = .ok (.iload_n 1, 1) := by decide +kernel
theorem dX0_eventOf_5 : decode cX0_eventOf 5 = .ok (.iaload, 1) := by decide +kernel
theorem dX0_eventOf_6 : decode cX0_eventOf 6 = .ok (.bipush 32, 2) := by decide +kernel
theorem dX0_eventOf_8 : decode cX0_eventOf 8 = .ok (.idiv, 1) := by decide +kernel
theorem dX0_eventOf_9 : decode cX0_eventOf 9 = .ok (.bipush 8, 2) := by decide +kernel
theorem dX0_eventOf_11 : decode cX0_eventOf 11 = .ok (.irem, 1) := by decide +kernel
theorem dX0_eventOf_12 : decode cX0_eventOf 12 = .ok (.ireturn, 1) := by decide +kernel
def pg_X0_eventOf (l : Launch) (g : EG) : List (Nat × ES) := [(0, s_ldP 0), (1, s_getP 0 1), (4, s_ldI 1), (5, s_iald), (6, s_c (.inl 32)), (8, s_iid (fun x y => x / y) (fun _ y => ¬ y = 0)), (9, s_c (.inl 8)), (11, s_iid (fun x y => x - x / y * y) (fun _ y => ¬ y = 0)), (12, s_ireti)]
set_option maxRecDepth 100000 in
theorem ok_X0_eventOf {l : Launch} {g : EG} : e_okp l g sg_X0_eventOf "CalendarSync$Agenda" (pg_X0_eventOf l g) := fun p e R s m args below meth c ex M0 Q X =>
    e_each_cons (r_aload_n X (k := 0) (i := 0) rfl dX0_eventOf_0 rfl)
    (e_each_cons (r_getP X (index := 11) (ci := 0) (k := 1) dX0_eventOf_1 (by decide) (by decide) rfl w2_89 rfl)
    (e_each_cons (r_iload_n X (k := 1) (i := 1) rfl dX0_eventOf_4 rfl)
    (e_each_cons (r_iald X dX0_eventOf_5 rfl)
    (e_each_cons (r_bipush X (n := 32) (v := 32) dX0_eventOf_6 (by decide) rfl)
    (e_each_cons (r_idiv X dX0_eventOf_8 rfl)
    (e_each_cons (r_bipush X (n := 8) (v := 8) dX0_eventOf_9 (by decide) rfl)
    (e_each_cons (r_irem X dX0_eventOf_11 rfl)
    (e_each_cons (r_ireti X dX0_eventOf_12 rfl)
    (e_each_nil)))))))))
theorem dX0_dateOf_0 : decode cX0_dateOf 0 = .ok (.aload_n 0, 1) := by decide +kernel
theorem dX0_dateOf_1 : decode cX0_dateOf 1 = .ok (.getfield 11, 3) := by decide +kernel
theorem dX0_dateOf_4 : decode cX0_dateOf 4 = .ok (.iload_n 1, 1) := by decide +kernel
theorem dX0_dateOf_5 : decode cX0_dateOf 5 = .ok (.iaload, 1) := by decide +kernel
theorem dX0_dateOf_6 : decode cX0_dateOf 6 = .ok (.bipush 32, 2) := by decide +kernel
theorem dX0_dateOf_8 : decode cX0_dateOf 8 = .ok (.irem, 1) := by decide +kernel
theorem dX0_dateOf_9 : decode cX0_dateOf 9 = .ok (.ireturn, 1) := by decide +kernel
def pg_X0_dateOf (l : Launch) (g : EG) : List (Nat × ES) := [(0, s_ldP 0), (1, s_getP 0 1), (4, s_ldI 1), (5, s_iald), (6, s_c (.inl 32)), (8, s_iid (fun x y => x - x / y * y) (fun _ y => ¬ y = 0)), (9, s_ireti)]
set_option maxRecDepth 100000 in
theorem ok_X0_dateOf {l : Launch} {g : EG} : e_okp l g sg_X0_dateOf "CalendarSync$Agenda" (pg_X0_dateOf l g) := fun p e R s m args below meth c ex M0 Q X =>
    e_each_cons (r_aload_n X (k := 0) (i := 0) rfl dX0_dateOf_0 rfl)
    (e_each_cons (r_getP X (index := 11) (ci := 0) (k := 1) dX0_dateOf_1 (by decide) (by decide) rfl w2_89 rfl)
    (e_each_cons (r_iload_n X (k := 1) (i := 1) rfl dX0_dateOf_4 rfl)
    (e_each_cons (r_iald X dX0_dateOf_5 rfl)
    (e_each_cons (r_bipush X (n := 32) (v := 32) dX0_dateOf_6 (by decide) rfl)
    (e_each_cons (r_irem X dX0_dateOf_8 rfl)
    (e_each_cons (r_ireti X dX0_dateOf_9 rfl)
    (e_each_nil)))))))
theorem dX0_endOf_0 : decode cX0_endOf 0 = .ok (.aload_n 0, 1) := by decide +kernel
theorem dX0_endOf_1 : decode cX0_endOf 1 = .ok (.iload_n 1, 1) := by decide +kernel
theorem dX0_endOf_2 : decode cX0_endOf 2 = .ok (.invokevirtual 49, 3) := by decide +kernel
theorem dX0_endOf_5 : decode cX0_endOf 5 = .ok (.aload_n 0, 1) := by decide +kernel
theorem dX0_endOf_6 : decode cX0_endOf 6 = .ok (.getfield 15, 3) := by decide +kernel
theorem dX0_endOf_9 : decode cX0_endOf 9 = .ok (.aload_n 0, 1) := by decide +kernel
theorem dX0_endOf_10 : decode cX0_endOf 10 = .ok (.iload_n 1, 1) := by decide +kernel
theorem dX0_endOf_11 : decode cX0_endOf 11 = .ok (.invokevirtual 52, 3) := by decide +kernel
theorem dX0_endOf_14 : decode cX0_endOf 14 = .ok (.iaload, 1) := by decide +kernel
theorem dX0_endOf_15 : decode cX0_endOf 15 = .ok (.iadd, 1) := by decide +kernel
theorem dX0_endOf_16 : decode cX0_endOf 16 = .ok (.ireturn, 1) := by decide +kernel
def pg_X0_endOf (l : Launch) (g : EG) : List (Nat × ES) := [(0, s_ldP 0), (1, s_ldI 1), (2, s_callV l g sg_X0_endOf sg_X0_momentOf 0), (5, s_ldP 0), (6, s_getP 0 2), (9, s_ldP 0), (10, s_ldI 1), (11, s_callV l g sg_X0_endOf sg_X0_eventOf 0), (14, s_iald), (15, s_ii (fun x y => x + y)), (16, s_ireti)]
set_option maxRecDepth 100000 in
theorem ok_X0_endOf {l : Launch} {g : EG} : e_okp l g sg_X0_endOf "CalendarSync$Agenda" (pg_X0_endOf l g) := fun p e R s m args below meth c ex M0 Q X =>
    e_each_cons (r_aload_n X (k := 0) (i := 0) rfl dX0_endOf_0 rfl)
    (e_each_cons (r_iload_n X (k := 1) (i := 1) rfl dX0_endOf_1 rfl)
    (e_each_cons (r_callV X rfl (τ := sg_X0_momentOf) (index := 49) (ci := 0) dX0_endOf_2 (by decide) rfl w6_38 w6_39 w6_40 cs_X0_momentOf rfl ⟨by decide, by decide⟩ rfl)
    (e_each_cons (r_aload_n X (k := 0) (i := 0) rfl dX0_endOf_5 rfl)
    (e_each_cons (r_getP X (index := 15) (ci := 0) (k := 2) dX0_endOf_6 (by decide) (by decide) rfl w2_90 rfl)
    (e_each_cons (r_aload_n X (k := 0) (i := 0) rfl dX0_endOf_9 rfl)
    (e_each_cons (r_iload_n X (k := 1) (i := 1) rfl dX0_endOf_10 rfl)
    (e_each_cons (r_callV X rfl (τ := sg_X0_eventOf) (index := 52) (ci := 0) dX0_endOf_11 (by decide) rfl w6_75 w6_49 w6_50 cs_X0_eventOf rfl ⟨by decide, by decide⟩ rfl)
    (e_each_cons (r_iald X dX0_endOf_14 rfl)
    (e_each_cons (r_iadd X dX0_endOf_15 rfl)
    (e_each_cons (r_ireti X dX0_endOf_16 rfl)
    (e_each_nil)))))))))))
theorem dX0_countBefore_0 : decode cX0_countBefore 0 = .ok (.iconst 0, 1) := by decide +kernel
theorem dX0_countBefore_1 : decode cX0_countBefore 1 = .ok (.istore_n 2, 1) := by decide +kernel
theorem dX0_countBefore_2 : decode cX0_countBefore 2 = .ok (.iload_n 2, 1) := by decide +kernel
theorem dX0_countBefore_3 : decode cX0_countBefore 3 = .ok (.aload_n 0, 1) := by decide +kernel
theorem dX0_countBefore_4 : decode cX0_countBefore 4 = .ok (.getfield 18, 3) := by decide +kernel
theorem dX0_countBefore_7 : decode cX0_countBefore 7 = .ok (.if_icmp .ge 18, 3) := by decide +kernel
theorem dX0_countBefore_10 : decode cX0_countBefore 10 = .ok (.aload_n 0, 1) := by decide +kernel
theorem dX0_countBefore_11 : decode cX0_countBefore 11 = .ok (.iload_n 2, 1) := by decide +kernel
theorem dX0_countBefore_12 : decode cX0_countBefore 12 = .ok (.invokevirtual 49, 3) := by decide +kernel
theorem dX0_countBefore_15 : decode cX0_countBefore 15 = .ok (.iload_n 1, 1) := by decide +kernel
theorem dX0_countBefore_16 : decode cX0_countBefore 16 = .ok (.if_icmp .ge 9, 3) := by decide +kernel
theorem dX0_countBefore_19 : decode cX0_countBefore 19 = .ok (.iinc 2 1, 3) := by decide +kernel
theorem dX0_countBefore_22 : decode cX0_countBefore 22 = .ok (.goto (-20), 3) := by decide +kernel
theorem dX0_countBefore_25 : decode cX0_countBefore 25 = .ok (.iload_n 2, 1) := by decide +kernel
theorem dX0_countBefore_26 : decode cX0_countBefore 26 = .ok (.ireturn, 1) := by decide +kernel
def pg_X0_countBefore (l : Launch) (g : EG) : List (Nat × ES) := [(0, s_c (.inl 0)), (1, s_stI 2), (2, s_ldI 2), (3, s_ldP 0), (4, s_getI 0 0), (7, s_icmp_ge 25), (10, s_ldP 0), (11, s_ldI 2), (12, s_callV l g sg_X0_countBefore sg_X0_momentOf 0), (15, s_ldI 1), (16, s_icmp_ge 25), (19, s_iinc 2 1), (22, s_goto 2), (25, s_ldI 2), (26, s_ireti)]
set_option maxRecDepth 100000 in
theorem ok_X0_countBefore {l : Launch} {g : EG} : e_okp l g sg_X0_countBefore "CalendarSync$Agenda" (pg_X0_countBefore l g) := fun p e R s m args below meth c ex M0 Q X =>
    e_each_cons (r_iconst X (n := 0) (v := 0) dX0_countBefore_0 (by decide) rfl)
    (e_each_cons (r_istore_n X (k := 2) (i := 2) rfl dX0_countBefore_1 (by decide) rfl)
    (e_each_cons (r_iload_n X (k := 2) (i := 2) rfl dX0_countBefore_2 rfl)
    (e_each_cons (r_aload_n X (k := 0) (i := 0) rfl dX0_countBefore_3 rfl)
    (e_each_cons (r_getI X (index := 18) (ci := 0) (k := 0) dX0_countBefore_4 (by decide) (by decide) rfl w2_87 rfl)
    (e_each_cons (r_icmp_ge X (off := 18) (t := 25) dX0_countBefore_7 (by decide) rfl)
    (e_each_cons (r_aload_n X (k := 0) (i := 0) rfl dX0_countBefore_10 rfl)
    (e_each_cons (r_iload_n X (k := 2) (i := 2) rfl dX0_countBefore_11 rfl)
    (e_each_cons (r_callV X rfl (τ := sg_X0_momentOf) (index := 49) (ci := 0) dX0_countBefore_12 (by decide) rfl w6_38 w6_39 w6_40 cs_X0_momentOf rfl ⟨by decide, by decide⟩ rfl)
    (e_each_cons (r_iload_n X (k := 1) (i := 1) rfl dX0_countBefore_15 rfl)
    (e_each_cons (r_icmp_ge X (off := 9) (t := 25) dX0_countBefore_16 (by decide) rfl)
    (e_each_cons (r_iinc X (i := 2) (n := 1) (d := 1) dX0_countBefore_19 (by decide) (by decide) rfl)
    (e_each_cons (r_goto X (off := (-20)) (t := 2) dX0_countBefore_22 (by decide))
    (e_each_cons (r_iload_n X (k := 2) (i := 2) rfl dX0_countBefore_25 rfl)
    (e_each_cons (r_ireti X dX0_countBefore_26 rfl)
    (e_each_nil)))))))))))))))
theorem dX0_countOverlaps_0 : decode cX0_countOverlaps 0 = .ok (.iconst 0, 1) := by decide +kernel
theorem dX0_countOverlaps_1 : decode cX0_countOverlaps 1 = .ok (.istore_n 1, 1) := by decide +kernel
theorem dX0_countOverlaps_2 : decode cX0_countOverlaps 2 = .ok (.iconst 0, 1) := by decide +kernel
theorem dX0_countOverlaps_3 : decode cX0_countOverlaps 3 = .ok (.istore_n 2, 1) := by decide +kernel
theorem dX0_countOverlaps_4 : decode cX0_countOverlaps 4 = .ok (.iload_n 2, 1) := by decide +kernel
theorem dX0_countOverlaps_5 : decode cX0_countOverlaps 5 = .ok (.aload_n 0, 1) := by decide +kernel
theorem dX0_countOverlaps_6 : decode cX0_countOverlaps 6 = .ok (.getfield 18, 3) := by decide +kernel
theorem dX0_countOverlaps_9 : decode cX0_countOverlaps 9 = .ok (.if_icmp .ge 48, 3) := by decide +kernel
theorem dX0_countOverlaps_12 : decode cX0_countOverlaps 12 = .ok (.aload_n 0, 1) := by decide +kernel
theorem dX0_countOverlaps_13 : decode cX0_countOverlaps 13 = .ok (.iload_n 2, 1) := by decide +kernel
theorem dX0_countOverlaps_14 : decode cX0_countOverlaps 14 = .ok (.invokevirtual 55, 3) := by decide +kernel
theorem dX0_countOverlaps_17 : decode cX0_countOverlaps 17 = .ok (.istore_n 3, 1) := by decide +kernel
theorem dX0_countOverlaps_18 : decode cX0_countOverlaps 18 = .ok (.iload_n 2, 1) := by decide +kernel
theorem dX0_countOverlaps_19 : decode cX0_countOverlaps 19 = .ok (.iconst 1, 1) := by decide +kernel
theorem dX0_countOverlaps_20 : decode cX0_countOverlaps 20 = .ok (.iadd, 1) := by decide +kernel
theorem dX0_countOverlaps_21 : decode cX0_countOverlaps 21 = .ok (.istore 4, 2) := by decide +kernel
theorem dX0_countOverlaps_23 : decode cX0_countOverlaps 23 = .ok (.iload 4, 2) := by decide +kernel
theorem dX0_countOverlaps_25 : decode cX0_countOverlaps 25 = .ok (.aload_n 0, 1) := by decide +kernel
theorem dX0_countOverlaps_26 : decode cX0_countOverlaps 26 = .ok (.getfield 18, 3) := by decide +kernel
theorem dX0_countOverlaps_29 : decode cX0_countOverlaps 29 = .ok (.if_icmp .ge 22, 3) := by decide +kernel
theorem dX0_countOverlaps_32 : decode cX0_countOverlaps 32 = .ok (.aload_n 0, 1) := by decide +kernel
theorem dX0_countOverlaps_33 : decode cX0_countOverlaps 33 = .ok (.iload 4, 2) := by decide +kernel
theorem dX0_countOverlaps_35 : decode cX0_countOverlaps 35 = .ok (.invokevirtual 49, 3) := by decide +kernel
theorem dX0_countOverlaps_38 : decode cX0_countOverlaps 38 = .ok (.iload_n 3, 1) := by decide +kernel
theorem dX0_countOverlaps_39 : decode cX0_countOverlaps 39 = .ok (.if_icmp .ge 12, 3) := by decide +kernel
theorem dX0_countOverlaps_42 : decode cX0_countOverlaps 42 = .ok (.iinc 1 1, 3) := by decide +kernel
theorem dX0_countOverlaps_45 : decode cX0_countOverlaps 45 = .ok (.iinc 4 1, 3) := by decide +kernel
theorem dX0_countOverlaps_48 : decode cX0_countOverlaps 48 = .ok (.goto (-25), 3) := by decide +kernel
theorem dX0_countOverlaps_51 : decode cX0_countOverlaps 51 = .ok (.iinc 2 1, 3) := by decide +kernel
theorem dX0_countOverlaps_54 : decode cX0_countOverlaps 54 = .ok (.goto (-50), 3) := by decide +kernel
theorem dX0_countOverlaps_57 : decode cX0_countOverlaps 57 = .ok (.iload_n 1, 1) := by decide +kernel
theorem dX0_countOverlaps_58 : decode cX0_countOverlaps 58 = .ok (.ireturn, 1) := by decide +kernel
def pg_X0_countOverlaps (l : Launch) (g : EG) : List (Nat × ES) := [(0, s_c (.inl 0)), (1, s_stI 1), (2, s_c (.inl 0)), (3, s_stI 2), (4, s_ldI 2), (5, s_ldP 0), (6, s_getI 0 0), (9, s_icmp_ge 57), (12, s_ldP 0), (13, s_ldI 2), (14, s_callV l g sg_X0_countOverlaps sg_X0_endOf 0), (17, s_stI 3), (18, s_ldI 2), (19, s_c (.inl 1)), (20, s_ii (fun x y => x + y)), (21, s_stI 4), (23, s_ldI 4), (25, s_ldP 0), (26, s_getI 0 0), (29, s_icmp_ge 51), (32, s_ldP 0), (33, s_ldI 4), (35, s_callV l g sg_X0_countOverlaps sg_X0_momentOf 0), (38, s_ldI 3), (39, s_icmp_ge 51), (42, s_iinc 1 1), (45, s_iinc 4 1), (48, s_goto 23), (51, s_iinc 2 1), (54, s_goto 4), (57, s_ldI 1), (58, s_ireti)]
set_option maxRecDepth 100000 in
theorem ok_X0_countOverlaps {l : Launch} {g : EG} : e_okp l g sg_X0_countOverlaps "CalendarSync$Agenda" (pg_X0_countOverlaps l g) := fun p e R s m args below meth c ex M0 Q X =>
    e_each_cons (r_iconst X (n := 0) (v := 0) dX0_countOverlaps_0 (by decide) rfl)
    (e_each_cons (r_istore_n X (k := 1) (i := 1) rfl dX0_countOverlaps_1 (by decide) rfl)
    (e_each_cons (r_iconst X (n := 0) (v := 0) dX0_countOverlaps_2 (by decide) rfl)
    (e_each_cons (r_istore_n X (k := 2) (i := 2) rfl dX0_countOverlaps_3 (by decide) rfl)
    (e_each_cons (r_iload_n X (k := 2) (i := 2) rfl dX0_countOverlaps_4 rfl)
    (e_each_cons (r_aload_n X (k := 0) (i := 0) rfl dX0_countOverlaps_5 rfl)
    (e_each_cons (r_getI X (index := 18) (ci := 0) (k := 0) dX0_countOverlaps_6 (by decide) (by decide) rfl w2_87 rfl)
    (e_each_cons (r_icmp_ge X (off := 48) (t := 57) dX0_countOverlaps_9 (by decide) rfl)
    (e_each_cons (r_aload_n X (k := 0) (i := 0) rfl dX0_countOverlaps_12 rfl)
    (e_each_cons (r_iload_n X (k := 2) (i := 2) rfl dX0_countOverlaps_13 rfl)
    (e_each_cons (r_callV X rfl (τ := sg_X0_endOf) (index := 55) (ci := 0) dX0_countOverlaps_14 (by decide) rfl w6_71 w6_73 ws_26 cs_X0_endOf rfl ⟨by decide, by decide⟩ rfl)
    (e_each_cons (r_istore_n X (k := 3) (i := 3) rfl dX0_countOverlaps_17 (by decide) rfl)
    (e_each_cons (r_iload_n X (k := 2) (i := 2) rfl dX0_countOverlaps_18 rfl)
    (e_each_cons (r_iconst X (n := 1) (v := 1) dX0_countOverlaps_19 (by decide) rfl)
    (e_each_cons (r_iadd X dX0_countOverlaps_20 rfl)
    (e_each_cons (r_istore X (i := 4) dX0_countOverlaps_21 (by decide) rfl)
    (e_each_cons (r_iload X (i := 4) dX0_countOverlaps_23 rfl)
    (e_each_cons (r_aload_n X (k := 0) (i := 0) rfl dX0_countOverlaps_25 rfl)
    (e_each_cons (r_getI X (index := 18) (ci := 0) (k := 0) dX0_countOverlaps_26 (by decide) (by decide) rfl w2_87 rfl)
    (e_each_cons (r_icmp_ge X (off := 22) (t := 51) dX0_countOverlaps_29 (by decide) rfl)
    (e_each_cons (r_aload_n X (k := 0) (i := 0) rfl dX0_countOverlaps_32 rfl)
    (e_each_cons (r_iload X (i := 4) dX0_countOverlaps_33 rfl)
    (e_each_cons (r_callV X rfl (τ := sg_X0_momentOf) (index := 49) (ci := 0) dX0_countOverlaps_35 (by decide) rfl w6_38 w6_39 w6_40 cs_X0_momentOf rfl ⟨by decide, by decide⟩ rfl)
    (e_each_cons (r_iload_n X (k := 3) (i := 3) rfl dX0_countOverlaps_38 rfl)
    (e_each_cons (r_icmp_ge X (off := 12) (t := 51) dX0_countOverlaps_39 (by decide) rfl)
    (e_each_cons (r_iinc X (i := 1) (n := 1) (d := 1) dX0_countOverlaps_42 (by decide) (by decide) rfl)
    (e_each_cons (r_iinc X (i := 4) (n := 1) (d := 1) dX0_countOverlaps_45 (by decide) (by decide) rfl)
    (e_each_cons (r_goto X (off := (-25)) (t := 23) dX0_countOverlaps_48 (by decide))
    (e_each_cons (r_iinc X (i := 2) (n := 1) (d := 1) dX0_countOverlaps_51 (by decide) (by decide) rfl)
    (e_each_cons (r_goto X (off := (-50)) (t := 4) dX0_countOverlaps_54 (by decide))
    (e_each_cons (r_iload_n X (k := 1) (i := 1) rfl dX0_countOverlaps_57 rfl)
    (e_each_cons (r_ireti X dX0_countOverlaps_58 rfl)
    (e_each_nil))))))))))))))))))))))))))))))))
theorem dX0_countMinutes_0 : decode cX0_countMinutes 0 = .ok (.iconst 0, 1) := by decide +kernel
theorem dX0_countMinutes_1 : decode cX0_countMinutes 1 = .ok (.istore_n 3, 1) := by decide +kernel
theorem dX0_countMinutes_2 : decode cX0_countMinutes 2 = .ok (.iload_n 1, 1) := by decide +kernel
theorem dX0_countMinutes_3 : decode cX0_countMinutes 3 = .ok (.istore 4, 2) := by decide +kernel
theorem dX0_countMinutes_5 : decode cX0_countMinutes 5 = .ok (.iconst 0, 1) := by decide +kernel
theorem dX0_countMinutes_6 : decode cX0_countMinutes 6 = .ok (.istore 5, 2) := by decide +kernel
theorem dX0_countMinutes_8 : decode cX0_countMinutes 8 = .ok (.iload 5, 2) := by decide +kernel
theorem dX0_countMinutes_10 : decode cX0_countMinutes 10 = .ok (.aload_n 0, 1) := by decide +kernel
theorem dX0_countMinutes_11 : decode cX0_countMinutes 11 = .ok (.getfield 18, 3) := by decide +kernel
theorem dX0_countMinutes_14 : decode cX0_countMinutes 14 = .ok (.if_icmp .ge 53, 3) := by decide +kernel
theorem dX0_countMinutes_17 : decode cX0_countMinutes 17 = .ok (.iload 4, 2) := by decide +kernel
theorem dX0_countMinutes_19 : decode cX0_countMinutes 19 = .ok (.aload_n 0, 1) := by decide +kernel
theorem dX0_countMinutes_20 : decode cX0_countMinutes 20 = .ok (.iload 5, 2) := by decide +kernel
theorem dX0_countMinutes_22 : decode cX0_countMinutes 22 = .ok (.invokevirtual 49, 3) := by decide +kernel
theorem dX0_countMinutes_25 : decode cX0_countMinutes 25 = .ok (.invokestatic 58, 3) := by decide +kernel
theorem dX0_countMinutes_28 : decode cX0_countMinutes 28 = .ok (.istore 6, 2) := by decide +kernel
theorem dX0_countMinutes_30 : decode cX0_countMinutes 30 = .ok (.iload_n 2, 1) := by decide +kernel
theorem dX0_countMinutes_31 : decode cX0_countMinutes 31 = .ok (.aload_n 0, 1) := by decide +kernel
theorem dX0_countMinutes_32 : decode cX0_countMinutes 32 = .ok (.iload 5, 2) := by decide +kernel
theorem dX0_countMinutes_34 : decode cX0_countMinutes 34 = .ok (.invokevirtual 55, 3) := by decide +kernel
theorem dX0_countMinutes_37 : decode cX0_countMinutes 37 = .ok (.invokestatic 63, 3) := by decide +kernel
theorem dX0_countMinutes_40 : decode cX0_countMinutes 40 = .ok (.istore 7, 2) := by decide +kernel
theorem dX0_countMinutes_42 : decode cX0_countMinutes 42 = .ok (.iload 6, 2) := by decide +kernel
theorem dX0_countMinutes_44 : decode cX0_countMinutes 44 = .ok (.iload 7, 2) := by decide +kernel
theorem dX0_countMinutes_46 : decode cX0_countMinutes 46 = .ok (.if_icmp .ge 15, 3) := by decide +kernel
theorem dX0_countMinutes_49 : decode cX0_countMinutes 49 = .ok (.iload_n 3, 1) := by decide +kernel
theorem dX0_countMinutes_50 : decode cX0_countMinutes 50 = .ok (.iload 7, 2) := by decide +kernel
theorem dX0_countMinutes_52 : decode cX0_countMinutes 52 = .ok (.iload 6, 2) := by decide +kernel
theorem dX0_countMinutes_54 : decode cX0_countMinutes 54 = .ok (.isub, 1) := by decide +kernel
theorem dX0_countMinutes_55 : decode cX0_countMinutes 55 = .ok (.iadd, 1) := by decide +kernel
theorem dX0_countMinutes_56 : decode cX0_countMinutes 56 = .ok (.istore_n 3, 1) := by decide +kernel
theorem dX0_countMinutes_57 : decode cX0_countMinutes 57 = .ok (.iload 7, 2) := by decide +kernel
theorem dX0_countMinutes_59 : decode cX0_countMinutes 59 = .ok (.istore 4, 2) := by decide +kernel
theorem dX0_countMinutes_61 : decode cX0_countMinutes 61 = .ok (.iinc 5 1, 3) := by decide +kernel
theorem dX0_countMinutes_64 : decode cX0_countMinutes 64 = .ok (.goto (-56), 3) := by decide +kernel
theorem dX0_countMinutes_67 : decode cX0_countMinutes 67 = .ok (.iload_n 3, 1) := by decide +kernel
theorem dX0_countMinutes_68 : decode cX0_countMinutes 68 = .ok (.ireturn, 1) := by decide +kernel
def pg_X0_countMinutes (l : Launch) (g : EG) : List (Nat × ES) := [(0, s_c (.inl 0)), (1, s_stI 3), (2, s_ldI 1), (3, s_stI 4), (5, s_c (.inl 0)), (6, s_stI 5), (8, s_ldI 5), (10, s_ldP 0), (11, s_getI 0 0), (14, s_icmp_ge 67), (17, s_ldI 4), (19, s_ldP 0), (20, s_ldI 5), (22, s_callV l g sg_X0_countMinutes sg_X0_momentOf 0), (25, s_mmax sg_X0_countMinutes), (28, s_stI 6), (30, s_ldI 2), (31, s_ldP 0), (32, s_ldI 5), (34, s_callV l g sg_X0_countMinutes sg_X0_endOf 0), (37, s_mmin sg_X0_countMinutes), (40, s_stI 7), (42, s_ldI 6), (44, s_ldI 7), (46, s_icmp_ge 61), (49, s_ldI 3), (50, s_ldI 7), (52, s_ldI 6), (54, s_ii (fun x y => x - y)), (55, s_ii (fun x y => x + y)), (56, s_stI 3), (57, s_ldI 7), (59, s_stI 4), (61, s_iinc 5 1), (64, s_goto 8), (67, s_ldI 3), (68, s_ireti)]
set_option maxRecDepth 100000 in
theorem ok_X0_countMinutes {l : Launch} {g : EG} : e_okp l g sg_X0_countMinutes "CalendarSync$Agenda" (pg_X0_countMinutes l g) := fun p e R s m args below meth c ex M0 Q X =>
    e_each_cons (r_iconst X (n := 0) (v := 0) dX0_countMinutes_0 (by decide) rfl)
    (e_each_cons (r_istore_n X (k := 3) (i := 3) rfl dX0_countMinutes_1 (by decide) rfl)
    (e_each_cons (r_iload_n X (k := 1) (i := 1) rfl dX0_countMinutes_2 rfl)
    (e_each_cons (r_istore X (i := 4) dX0_countMinutes_3 (by decide) rfl)
    (e_each_cons (r_iconst X (n := 0) (v := 0) dX0_countMinutes_5 (by decide) rfl)
    (e_each_cons (r_istore X (i := 5) dX0_countMinutes_6 (by decide) rfl)
    (e_each_cons (r_iload X (i := 5) dX0_countMinutes_8 rfl)
    (e_each_cons (r_aload_n X (k := 0) (i := 0) rfl dX0_countMinutes_10 rfl)
    (e_each_cons (r_getI X (index := 18) (ci := 0) (k := 0) dX0_countMinutes_11 (by decide) (by decide) rfl w2_87 rfl)
    (e_each_cons (r_icmp_ge X (off := 53) (t := 67) dX0_countMinutes_14 (by decide) rfl)
    (e_each_cons (r_iload X (i := 4) dX0_countMinutes_17 rfl)
    (e_each_cons (r_aload_n X (k := 0) (i := 0) rfl dX0_countMinutes_19 rfl)
    (e_each_cons (r_iload X (i := 5) dX0_countMinutes_20 rfl)
    (e_each_cons (r_callV X rfl (τ := sg_X0_momentOf) (index := 49) (ci := 0) dX0_countMinutes_22 (by decide) rfl w6_38 w6_39 w6_40 cs_X0_momentOf rfl ⟨by decide, by decide⟩ rfl)
    (e_each_cons (r_mmax X (index := 58) dX0_countMinutes_25 w6_70 w4_118 w1_16 w4_119 ⟨by decide, by decide⟩ rfl)
    (e_each_cons (r_istore X (i := 6) dX0_countMinutes_28 (by decide) rfl)
    (e_each_cons (r_iload_n X (k := 2) (i := 2) rfl dX0_countMinutes_30 rfl)
    (e_each_cons (r_aload_n X (k := 0) (i := 0) rfl dX0_countMinutes_31 rfl)
    (e_each_cons (r_iload X (i := 5) dX0_countMinutes_32 rfl)
    (e_each_cons (r_callV X rfl (τ := sg_X0_endOf) (index := 55) (ci := 0) dX0_countMinutes_34 (by decide) rfl w6_71 w6_73 ws_26 cs_X0_endOf rfl ⟨by decide, by decide⟩ rfl)
    (e_each_cons (r_mmin X (index := 63) dX0_countMinutes_37 w6_76 w3_211 w1_16 w3_212 ⟨by decide, by decide⟩ rfl)
    (e_each_cons (r_istore X (i := 7) dX0_countMinutes_40 (by decide) rfl)
    (e_each_cons (r_iload X (i := 6) dX0_countMinutes_42 rfl)
    (e_each_cons (r_iload X (i := 7) dX0_countMinutes_44 rfl)
    (e_each_cons (r_icmp_ge X (off := 15) (t := 61) dX0_countMinutes_46 (by decide) rfl)
    (e_each_cons (r_iload_n X (k := 3) (i := 3) rfl dX0_countMinutes_49 rfl)
    (e_each_cons (r_iload X (i := 7) dX0_countMinutes_50 rfl)
    (e_each_cons (r_iload X (i := 6) dX0_countMinutes_52 rfl)
    (e_each_cons (r_isub X dX0_countMinutes_54 rfl)
    (e_each_cons (r_iadd X dX0_countMinutes_55 rfl)
    (e_each_cons (r_istore_n X (k := 3) (i := 3) rfl dX0_countMinutes_56 (by decide) rfl)
    (e_each_cons (r_iload X (i := 7) dX0_countMinutes_57 rfl)
    (e_each_cons (r_istore X (i := 4) dX0_countMinutes_59 (by decide) rfl)
    (e_each_cons (r_iinc X (i := 5) (n := 1) (d := 1) dX0_countMinutes_61 (by decide) (by decide) rfl)
    (e_each_cons (r_goto X (off := (-56)) (t := 8) dX0_countMinutes_64 (by decide))
    (e_each_cons (r_iload_n X (k := 3) (i := 3) rfl dX0_countMinutes_67 rfl)
    (e_each_cons (r_ireti X dX0_countMinutes_68 rfl)
    (e_each_nil)))))))))))))))))))))))))))))))))))))
