/-! TABLES (by program): the rows of J6 -/
theorem dJ6_bitCount_0f7a4_0 : decode cJ6_bitCount_0f7a4 0 = .ok (.iload_n 0, 1) := by decide +kernel
theorem dJ6_bitCount_0f7a4_1 : decode cJ6_bitCount_0f7a4 1 = .ok (.iload_n 0, 1) := by decide +kernel
theorem dJ6_bitCount_0f7a4_2 : decode cJ6_bitCount_0f7a4 2 = .ok (.iconst 1, 1) := by decide +kernel
theorem dJ6_bitCount_0f7a4_3 : decode cJ6_bitCount_0f7a4 3 = .ok (.iushr, 1) := by decide +kernel
theorem dJ6_bitCount_0f7a4_4 : decode cJ6_bitCount_0f7a4 4 = .ok (.ldc_w 265, 3) := by decide +kernel
theorem dJ6_bitCount_0f7a4_7 : decode cJ6_bitCount_0f7a4 7 = .ok (.iand, 1) := by decide +kernel
theorem dJ6_bitCount_0f7a4_8 : decode cJ6_bitCount_0f7a4 8 = .ok (.isub, 1) := by decide +kernel
theorem dJ6_bitCount_0f7a4_9 : decode cJ6_bitCount_0f7a4 9 = .ok (.istore_n 0, 1) := by decide +kernel
theorem dJ6_bitCount_0f7a4_10 : decode cJ6_bitCount_0f7a4 10 = .ok (.iload_n 0, 1) := by decide +kernel
theorem dJ6_bitCount_0f7a4_11 : decode cJ6_bitCount_0f7a4 11 = .ok (.ldc_w 266, 3) := by decide +kernel
theorem dJ6_bitCount_0f7a4_14 : decode cJ6_bitCount_0f7a4 14 = .ok (.iand, 1) := by decide +kernel
theorem dJ6_bitCount_0f7a4_15 : decode cJ6_bitCount_0f7a4 15 = .ok (.iload_n 0, 1) := by decide +kernel
theorem dJ6_bitCount_0f7a4_16 : decode cJ6_bitCount_0f7a4 16 = .ok (.iconst 2, 1) := by decide +kernel
theorem dJ6_bitCount_0f7a4_17 : decode cJ6_bitCount_0f7a4 17 = .ok (.iushr, 1) := by decide +kernel
theorem dJ6_bitCount_0f7a4_18 : decode cJ6_bitCount_0f7a4 18 = .ok (.ldc_w 266, 3) := by decide +kernel
theorem dJ6_bitCount_0f7a4_21 : decode cJ6_bitCount_0f7a4 21 = .ok (.iand, 1) := by decide +kernel
theorem dJ6_bitCount_0f7a4_22 : decode cJ6_bitCount_0f7a4 22 = .ok (.iadd, 1) := by decide +kernel
theorem dJ6_bitCount_0f7a4_23 : decode cJ6_bitCount_0f7a4 23 = .ok (.istore_n 0, 1) := by decide +kernel
theorem dJ6_bitCount_0f7a4_24 : decode cJ6_bitCount_0f7a4 24 = .ok (.iload_n 0, 1) := by decide +kernel
theorem dJ6_bitCount_0f7a4_25 : decode cJ6_bitCount_0f7a4 25 = .ok (.iload_n 0, 1) := by decide +kernel
theorem dJ6_bitCount_0f7a4_26 : decode cJ6_bitCount_0f7a4 26 = .ok (.iconst 4, 1) := by decide +kernel
theorem dJ6_bitCount_0f7a4_27 : decode cJ6_bitCount_0f7a4 27 = .ok (.iushr, 1) := by decide +kernel
theorem dJ6_bitCount_0f7a4_28 : decode cJ6_bitCount_0f7a4 28 = .ok (.iadd, 1) := by decide +kernel
theorem dJ6_bitCount_0f7a4_29 : decode cJ6_bitCount_0f7a4 29 = .ok (.ldc_w 267, 3) := by decide +kernel
theorem dJ6_bitCount_0f7a4_32 : decode cJ6_bitCount_0f7a4 32 = .ok (.iand, 1) := by decide +kernel
theorem dJ6_bitCount_0f7a4_33 : decode cJ6_bitCount_0f7a4 33 = .ok (.istore_n 0, 1) := by decide +kernel
theorem dJ6_bitCount_0f7a4_34 : decode cJ6_bitCount_0f7a4 34 = .ok (.iload_n 0, 1) := by decide +kernel
theorem dJ6_bitCount_0f7a4_35 : decode cJ6_bitCount_0f7a4 35 = .ok (.iload_n 0, 1) := by decide +kernel
theorem dJ6_bitCount_0f7a4_36 : decode cJ6_bitCount_0f7a4 36 = .ok (.bipush 8, 2) := by decide +kernel
theorem dJ6_bitCount_0f7a4_38 : decode cJ6_bitCount_0f7a4 38 = .ok (.iushr, 1) := by decide +kernel
theorem dJ6_bitCount_0f7a4_39 : decode cJ6_bitCount_0f7a4 39 = .ok (.iadd, 1) := by decide +kernel
theorem dJ6_bitCount_0f7a4_40 : decode cJ6_bitCount_0f7a4 40 = .ok (.istore_n 0, 1) := by decide +kernel
theorem dJ6_bitCount_0f7a4_41 : decode cJ6_bitCount_0f7a4 41 = .ok (.iload_n 0, 1) := by decide +kernel
theorem dJ6_bitCount_0f7a4_42 : decode cJ6_bitCount_0f7a4 42 = .ok (.iload_n 0, 1) := by decide +kernel
theorem dJ6_bitCount_0f7a4_43 : decode cJ6_bitCount_0f7a4 43 = .ok (.bipush 16, 2) := by decide +kernel
theorem dJ6_bitCount_0f7a4_45 : decode cJ6_bitCount_0f7a4 45 = .ok (.iushr, 1) := by decide +kernel
theorem dJ6_bitCount_0f7a4_46 : decode cJ6_bitCount_0f7a4 46 = .ok (.iadd, 1) := by decide +kernel
theorem dJ6_bitCount_0f7a4_47 : decode cJ6_bitCount_0f7a4 47 = .ok (.istore_n 0, 1) := by decide +kernel
theorem dJ6_bitCount_0f7a4_48 : decode cJ6_bitCount_0f7a4 48 = .ok (.iload_n 0, 1) := by decide +kernel
theorem dJ6_bitCount_0f7a4_49 : decode cJ6_bitCount_0f7a4 49 = .ok (.bipush 63, 2) := by decide +kernel
theorem dJ6_bitCount_0f7a4_51 : decode cJ6_bitCount_0f7a4 51 = .ok (.iand, 1) := by decide +kernel
theorem dJ6_bitCount_0f7a4_52 : decode cJ6_bitCount_0f7a4 52 = .ok (.ireturn, 1) := by decide +kernel
def pg_J6_bitCount_0f7a4 (l : Launch) (g : EG) : List (Nat × ES) := [(0, s_ldI 0), (1, s_ldI 0), (2, s_c (.inl 1)), (3, s_ii (fun x y => (x.toUInt32 >>> (y.toUInt32 &&& Int32.toUInt32 31)).toInt32)), (4, s_c (.inl 1431655765)), (7, s_ii (fun x y => x &&& y)), (8, s_ii (fun x y => x - y)), (9, s_stI 0), (10, s_ldI 0), (11, s_c (.inl 858993459)), (14, s_ii (fun x y => x &&& y)), (15, s_ldI 0), (16, s_c (.inl 2)), (17, s_ii (fun x y => (x.toUInt32 >>> (y.toUInt32 &&& Int32.toUInt32 31)).toInt32)), (18, s_c (.inl 858993459)), (21, s_ii (fun x y => x &&& y)), (22, s_ii (fun x y => x + y)), (23, s_stI 0), (24, s_ldI 0), (25, s_ldI 0), (26, s_c (.inl 4)), (27, s_ii (fun x y => (x.toUInt32 >>> (y.toUInt32 &&& Int32.toUInt32 31)).toInt32)), (28, s_ii (fun x y => x + y)), (29, s_c (.inl 252645135)), (32, s_ii (fun x y => x &&& y)), (33, s_stI 0), (34, s_ldI 0), (35, s_ldI 0), (36, s_c (.inl 8)), (38, s_ii (fun x y => (x.toUInt32 >>> (y.toUInt32 &&& Int32.toUInt32 31)).toInt32)), (39, s_ii (fun x y => x + y)), (40, s_stI 0), (41, s_ldI 0), (42, s_ldI 0), (43, s_c (.inl 16)), (45, s_ii (fun x y => (x.toUInt32 >>> (y.toUInt32 &&& Int32.toUInt32 31)).toInt32)), (46, s_ii (fun x y => x + y)), (47, s_stI 0), (48, s_ldI 0), (49, s_c (.inl 63)), (51, s_ii (fun x y => x &&& y)), (52, s_ireti)]
set_option maxRecDepth 100000 in
theorem ok_J6_bitCount_0f7a4 {l : Launch} {g : EG} : e_okp l g sg_J6_bitCount_0f7a4 "java/lang/Integer" (pg_J6_bitCount_0f7a4 l g) := fun p e R s m args below meth c ex M0 Q X =>
    e_each_cons (r_iload_n X (k := 0) (i := 0) rfl dJ6_bitCount_0f7a4_0 rfl)
    (e_each_cons (r_iload_n X (k := 0) (i := 0) rfl dJ6_bitCount_0f7a4_1 rfl)
    (e_each_cons (r_iconst X (n := 1) (v := 1) dJ6_bitCount_0f7a4_2 (by decide) rfl)
    (e_each_cons (r_iushr X dJ6_bitCount_0f7a4_3 rfl)
    (e_each_cons (r_ldcw X (n := 265) (v := 1431655765) dJ6_bitCount_0f7a4_4 w6_91 rfl)
    (e_each_cons (r_iand X dJ6_bitCount_0f7a4_7 rfl)
    (e_each_cons (r_isub X dJ6_bitCount_0f7a4_8 rfl)
    (e_each_cons (r_istore_n X (k := 0) (i := 0) rfl dJ6_bitCount_0f7a4_9 (by decide) rfl)
    (e_each_cons (r_iload_n X (k := 0) (i := 0) rfl dJ6_bitCount_0f7a4_10 rfl)
    (e_each_cons (r_ldcw X (n := 266) (v := 858993459) dJ6_bitCount_0f7a4_11 w6_92 rfl)
    (e_each_cons (r_iand X dJ6_bitCount_0f7a4_14 rfl)
    (e_each_cons (r_iload_n X (k := 0) (i := 0) rfl dJ6_bitCount_0f7a4_15 rfl)
    (e_each_cons (r_iconst X (n := 2) (v := 2) dJ6_bitCount_0f7a4_16 (by decide) rfl)
    (e_each_cons (r_iushr X dJ6_bitCount_0f7a4_17 rfl)
    (e_each_cons (r_ldcw X (n := 266) (v := 858993459) dJ6_bitCount_0f7a4_18 w6_92 rfl)
    (e_each_cons (r_iand X dJ6_bitCount_0f7a4_21 rfl)
    (e_each_cons (r_iadd X dJ6_bitCount_0f7a4_22 rfl)
    (e_each_cons (r_istore_n X (k := 0) (i := 0) rfl dJ6_bitCount_0f7a4_23 (by decide) rfl)
    (e_each_cons (r_iload_n X (k := 0) (i := 0) rfl dJ6_bitCount_0f7a4_24 rfl)
    (e_each_cons (r_iload_n X (k := 0) (i := 0) rfl dJ6_bitCount_0f7a4_25 rfl)
    (e_each_cons (r_iconst X (n := 4) (v := 4) dJ6_bitCount_0f7a4_26 (by decide) rfl)
    (e_each_cons (r_iushr X dJ6_bitCount_0f7a4_27 rfl)
    (e_each_cons (r_iadd X dJ6_bitCount_0f7a4_28 rfl)
    (e_each_cons (r_ldcw X (n := 267) (v := 252645135) dJ6_bitCount_0f7a4_29 w6_93 rfl)
    (e_each_cons (r_iand X dJ6_bitCount_0f7a4_32 rfl)
    (e_each_cons (r_istore_n X (k := 0) (i := 0) rfl dJ6_bitCount_0f7a4_33 (by decide) rfl)
    (e_each_cons (r_iload_n X (k := 0) (i := 0) rfl dJ6_bitCount_0f7a4_34 rfl)
    (e_each_cons (r_iload_n X (k := 0) (i := 0) rfl dJ6_bitCount_0f7a4_35 rfl)
    (e_each_cons (r_bipush X (n := 8) (v := 8) dJ6_bitCount_0f7a4_36 (by decide) rfl)
    (e_each_cons (r_iushr X dJ6_bitCount_0f7a4_38 rfl)
    (e_each_cons (r_iadd X dJ6_bitCount_0f7a4_39 rfl)
    (e_each_cons (r_istore_n X (k := 0) (i := 0) rfl dJ6_bitCount_0f7a4_40 (by decide) rfl)
    (e_each_cons (r_iload_n X (k := 0) (i := 0) rfl dJ6_bitCount_0f7a4_41 rfl)
    (e_each_cons (r_iload_n X (k := 0) (i := 0) rfl dJ6_bitCount_0f7a4_42 rfl)
    (e_each_cons (r_bipush X (n := 16) (v := 16) dJ6_bitCount_0f7a4_43 (by decide) rfl)
    (e_each_cons (r_iushr X dJ6_bitCount_0f7a4_45 rfl)
    (e_each_cons (r_iadd X dJ6_bitCount_0f7a4_46 rfl)
    (e_each_cons (r_istore_n X (k := 0) (i := 0) rfl dJ6_bitCount_0f7a4_47 (by decide) rfl)
    (e_each_cons (r_iload_n X (k := 0) (i := 0) rfl dJ6_bitCount_0f7a4_48 rfl)
    (e_each_cons (r_bipush X (n := 63) (v := 63) dJ6_bitCount_0f7a4_49 (by decide) rfl)
    (e_each_cons (r_iand X dJ6_bitCount_0f7a4_51 rfl)
    (e_each_cons (r_ireti X dJ6_bitCount_0f7a4_52 rfl)
    (e_each_nil))))))))))))))))))))))))))))))))))))))))))
