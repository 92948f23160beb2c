/-! TABLES (by program): the rows of X10 -/
theorem dX10_hasBit_0 : decode cX10_hasBit 0 = .ok (.iload_n 0, 1) := by decide +kernel
theorem dX10_hasBit_1 : decode cX10_hasBit 1 = .ok (.iload_n 1, 1) := by decide +kernel
theorem dX10_hasBit_2 : decode cX10_hasBit 2 = .ok (.ishr, 1) := by decide +kernel
theorem dX10_hasBit_3 : decode cX10_hasBit 3 = .ok (.iconst 1, 1) := by decide +kernel
theorem dX10_hasBit_4 : decode cX10_hasBit 4 = .ok (.iand, 1) := by decide +kernel
theorem dX10_hasBit_5 : decode cX10_hasBit 5 = .ok (.ifCond .eq 7, 3) := by decide +kernel
theorem dX10_hasBit_8 : decode cX10_hasBit 8 = .ok (.iconst 1, 1) := by decide +kernel
theorem dX10_hasBit_9 : decode cX10_hasBit 9 = .ok (.goto 4, 3) := by decide +kernel
theorem dX10_hasBit_12 : decode cX10_hasBit 12 = .ok (.iconst 0, 1) := by decide +kernel
theorem dX10_hasBit_13 : decode cX10_hasBit 13 = .ok (.ireturn, 1) := by decide +kernel
def pg_X10_hasBit (l : Launch) (g : EG) : List (Nat × ES) := [(0, s_ldI 0), (1, s_ldI 1), (2, s_ii (fun x y => x >>> (y &&& 31))), (3, s_c (.inl 1)), (4, s_ii (fun x y => x &&& y)), (5, s_if_eq 12), (8, s_c (.inl 1)), (9, s_goto 13), (12, s_c (.inl 0)), (13, s_iretz)]
set_option maxRecDepth 100000 in
theorem ok_X10_hasBit {l : Launch} {g : EG} : e_okp l g sg_X10_hasBit "CalendarSync" (pg_X10_hasBit l g) := fun p e R s m args below meth c ex M0 Q X =>
    e_each_cons (r_iload_n X (k := 0) (i := 0) rfl dX10_hasBit_0 rfl)
    (e_each_cons (r_iload_n X (k := 1) (i := 1) rfl dX10_hasBit_1 rfl)
    (e_each_cons (r_ishr X dX10_hasBit_2 rfl)
    (e_each_cons (r_iconst X (n := 1) (v := 1) dX10_hasBit_3 (by decide) rfl)
    (e_each_cons (r_iand X dX10_hasBit_4 rfl)
    (e_each_cons (r_if_eq X (off := 7) (t := 12) dX10_hasBit_5 (by decide) rfl)
    (e_each_cons (r_iconst X (n := 1) (v := 1) dX10_hasBit_8 (by decide) rfl)
    (e_each_cons (r_goto X (off := 4) (t := 13) dX10_hasBit_9 (by decide))
    (e_each_cons (r_iconst X (n := 0) (v := 0) dX10_hasBit_12 (by decide) rfl)
    (e_each_cons (r_iretz X dX10_hasBit_13 rfl)
    (e_each_nil))))))))))
theorem dX10_isWithin_0 : decode cX10_isWithin 0 = .ok (.iload_n 1, 1) := by decide +kernel
theorem dX10_isWithin_1 : decode cX10_isWithin 1 = .ok (.iload_n 0, 1) := by decide +kernel
theorem dX10_isWithin_2 : decode cX10_isWithin 2 = .ok (.if_icmp .gt 12, 3) := by decide +kernel
theorem dX10_isWithin_5 : decode cX10_isWithin 5 = .ok (.iload_n 0, 1) := by decide +kernel
theorem dX10_isWithin_6 : decode cX10_isWithin 6 = .ok (.iload_n 2, 1) := by decide +kernel
theorem dX10_isWithin_7 : decode cX10_isWithin 7 = .ok (.if_icmp .gt 7, 3) := by decide +kernel
theorem dX10_isWithin_10 : decode cX10_isWithin 10 = .ok (.iconst 1, 1) := by decide +kernel
theorem dX10_isWithin_11 : decode cX10_isWithin 11 = .ok (.goto 4, 3) := by decide +kernel
theorem dX10_isWithin_14 : decode cX10_isWithin 14 = .ok (.iconst 0, 1) := by decide +kernel
theorem dX10_isWithin_15 : decode cX10_isWithin 15 = .ok (.ireturn, 1) := by decide +kernel
def pg_X10_isWithin (l : Launch) (g : EG) : List (Nat × ES) := [(0, s_ldI 1), (1, s_ldI 0), (2, s_icmp_gt 14), (5, s_ldI 0), (6, s_ldI 2), (7, s_icmp_gt 14), (10, s_c (.inl 1)), (11, s_goto 15), (14, s_c (.inl 0)), (15, s_iretz)]
set_option maxRecDepth 100000 in
theorem ok_X10_isWithin {l : Launch} {g : EG} : e_okp l g sg_X10_isWithin "CalendarSync" (pg_X10_isWithin l g) := fun p e R s m args below meth c ex M0 Q X =>
    e_each_cons (r_iload_n X (k := 1) (i := 1) rfl dX10_isWithin_0 rfl)
    (e_each_cons (r_iload_n X (k := 0) (i := 0) rfl dX10_isWithin_1 rfl)
    (e_each_cons (r_icmp_gt X (off := 12) (t := 14) dX10_isWithin_2 (by decide) rfl)
    (e_each_cons (r_iload_n X (k := 0) (i := 0) rfl dX10_isWithin_5 rfl)
    (e_each_cons (r_iload_n X (k := 2) (i := 2) rfl dX10_isWithin_6 rfl)
    (e_each_cons (r_icmp_gt X (off := 7) (t := 14) dX10_isWithin_7 (by decide) rfl)
    (e_each_cons (r_iconst X (n := 1) (v := 1) dX10_isWithin_10 (by decide) rfl)
    (e_each_cons (r_goto X (off := 4) (t := 15) dX10_isWithin_11 (by decide))
    (e_each_cons (r_iconst X (n := 0) (v := 0) dX10_isWithin_14 (by decide) rfl)
    (e_each_cons (r_iretz X dX10_isWithin_15 rfl)
    (e_each_nil))))))))))
theorem dX10_requireState_0 : decode cX10_requireState 0 = .ok (.iload_n 0, 1) := by decide +kernel
theorem dX10_requireState_1 : decode cX10_requireState 1 = .ok (.ifCond .ne 14, 3) := by decide +kernel
theorem dX10_requireState_4 : decode cX10_requireState 4 = .ok (.new 393, 3) := by decide +kernel
theorem dX10_requireState_7 : decode cX10_requireState 7 = .ok (.dup, 1) := by decide +kernel
theorem dX10_requireState_8 : decode cX10_requireState 8 = .ok (.ldc_w 395, 3) := by decide +kernel
theorem dX10_requireState_11 : decode cX10_requireState 11 = .ok (.invokespecial 397, 3) := by decide +kernel
theorem dX10_requireState_14 : decode cX10_requireState 14 = .ok (.athrow, 1) := by decide +kernel
theorem dX10_requireState_15 : decode cX10_requireState 15 = .ok (.return_, 1) := by decide +kernel
def pg_X10_requireState (l : Launch) (g : EG) : List (Nat × ES) := [(0, s_ldI 0), (1, s_if_ne 15), (4, s_throw sg_X10_requireState "java/lang/IllegalStateException"), (15, s_vret)]
set_option maxRecDepth 100000 in
theorem ok_X10_requireState {l : Launch} {g : EG} (hl0 : l.stackTraces = false) : e_okp l g sg_X10_requireState "CalendarSync" (pg_X10_requireState l g) := fun p e R s m args below meth c ex M0 Q X =>
    e_each_cons (r_iload_n X (k := 0) (i := 0) rfl dX10_requireState_0 rfl)
    (e_each_cons (r_if_ne X (off := 14) (t := 15) dX10_requireState_1 (by decide) rfl)
    (e_each_cons (e_throwS X hl0 rfl (cls := "java/lang/IllegalStateException") (text := "not possible now") (names := ["java/lang/RuntimeException", "java/lang/Exception"]) (ik := 393) (is := 395) (ic := 397) (k := 11) (by decide) (by decide) w3_166 w1_26 rfl rfl th_397a th_397b th_397c rfl ⟨by decide, by decide⟩ ⟨⟨dX10_requireState_4, dX10_requireState_7⟩, Or.inr ⟨dX10_requireState_8, dX10_requireState_11, dX10_requireState_14⟩⟩)
    (e_each_cons (r_vret X dX10_requireState_15 rfl)
    (e_each_nil))))
theorem dX10_feed_0 : decode cX10_feed 0 = .ok (.aload_n 0, 1) := by decide +kernel
theorem dX10_feed_1 : decode cX10_feed 1 = .ok (.getfield 10, 3) := by decide +kernel
theorem dX10_feed_4 : decode cX10_feed 4 = .ok (.getfield 45, 3) := by decide +kernel
theorem dX10_feed_7 : decode cX10_feed 7 = .ok (.astore 6, 2) := by decide +kernel
theorem dX10_feed_9 : decode cX10_feed 9 = .ok (.aload 6, 2) := by decide +kernel
theorem dX10_feed_11 : decode cX10_feed 11 = .ok (.getfield 49, 3) := by decide +kernel
theorem dX10_feed_14 : decode cX10_feed 14 = .ok (.bipush 20, 2) := by decide +kernel
theorem dX10_feed_16 : decode cX10_feed 16 = .ok (.iadd, 1) := by decide +kernel
theorem dX10_feed_17 : decode cX10_feed 17 = .ok (.sipush 800, 3) := by decide +kernel
theorem dX10_feed_20 : decode cX10_feed 20 = .ok (.if_icmp .gt 7, 3) := by decide +kernel
theorem dX10_feed_23 : decode cX10_feed 23 = .ok (.iconst 1, 1) := by decide +kernel
theorem dX10_feed_24 : decode cX10_feed 24 = .ok (.goto 4, 3) := by decide +kernel
theorem dX10_feed_27 : decode cX10_feed 27 = .ok (.iconst 0, 1) := by decide +kernel
theorem dX10_feed_28 : decode cX10_feed 28 = .ok (.invokestatic 55, 3) := by decide +kernel
theorem dX10_feed_31 : decode cX10_feed 31 = .ok (.aload 6, 2) := by decide +kernel
theorem dX10_feed_33 : decode cX10_feed 33 = .ok (.iload_n 1, 1) := by decide +kernel
theorem dX10_feed_34 : decode cX10_feed 34 = .ok (.invokevirtual 59, 3) := by decide +kernel
theorem dX10_feed_37 : decode cX10_feed 37 = .ok (.aload 6, 2) := by decide +kernel
theorem dX10_feed_39 : decode cX10_feed 39 = .ok (.iload_n 2, 1) := by decide +kernel
theorem dX10_feed_40 : decode cX10_feed 40 = .ok (.invokevirtual 59, 3) := by decide +kernel
theorem dX10_feed_43 : decode cX10_feed 43 = .ok (.aload 6, 2) := by decide +kernel
theorem dX10_feed_45 : decode cX10_feed 45 = .ok (.iload_n 3, 1) := by decide +kernel
theorem dX10_feed_46 : decode cX10_feed 46 = .ok (.invokevirtual 59, 3) := by decide +kernel
theorem dX10_feed_49 : decode cX10_feed 49 = .ok (.aload 6, 2) := by decide +kernel
theorem dX10_feed_51 : decode cX10_feed 51 = .ok (.iload 4, 2) := by decide +kernel
theorem dX10_feed_53 : decode cX10_feed 53 = .ok (.invokevirtual 59, 3) := by decide +kernel
theorem dX10_feed_56 : decode cX10_feed 56 = .ok (.aload 6, 2) := by decide +kernel
theorem dX10_feed_58 : decode cX10_feed 58 = .ok (.iload 5, 2) := by decide +kernel
theorem dX10_feed_60 : decode cX10_feed 60 = .ok (.invokevirtual 59, 3) := by decide +kernel
theorem dX10_feed_63 : decode cX10_feed 63 = .ok (.aload 6, 2) := by decide +kernel
theorem dX10_feed_65 : decode cX10_feed 65 = .ok (.getfield 49, 3) := by decide +kernel
theorem dX10_feed_68 : decode cX10_feed 68 = .ok (.ireturn, 1) := by decide +kernel
def pg_X10_feed (l : Launch) (g : EG) : List (Nat × ES) := [(0, s_ldP 0), (1, s_getP 9 0), (4, s_getP 5 4), (7, s_stP 6), (9, s_ldP 6), (11, s_getI 7 0), (14, s_c (.inl 20)), (16, s_ii (fun x y => x + y)), (17, s_c (.inl 800)), (20, s_icmp_gt 27), (23, s_c (.inl 1)), (24, s_goto 28), (27, s_c (.inl 0)), (28, s_callS l g sg_X10_feed sg_X10_requireState), (31, s_ldP 6), (33, s_ldI 1), (34, s_callV l g sg_X10_feed sg_X8_appendBytes 7), (37, s_ldP 6), (39, s_ldI 2), (40, s_callV l g sg_X10_feed sg_X8_appendBytes 7), (43, s_ldP 6), (45, s_ldI 3), (46, s_callV l g sg_X10_feed sg_X8_appendBytes 7), (49, s_ldP 6), (51, s_ldI 4), (53, s_callV l g sg_X10_feed sg_X8_appendBytes 7), (56, s_ldP 6), (58, s_ldI 5), (60, s_callV l g sg_X10_feed sg_X8_appendBytes 7), (63, s_ldP 6), (65, s_getI 7 0), (68, s_ireti)]
set_option maxRecDepth 100000 in
theorem ok_X10_feed {l : Launch} {g : EG} : e_okp l g sg_X10_feed "CalendarSync" (pg_X10_feed l g) := fun p e R s m args below meth c ex M0 Q X =>
    e_each_cons (r_aload_n X (k := 0) (i := 0) rfl dX10_feed_0 rfl)
    (e_each_cons (r_getP X (index := 10) (ci := 9) (k := 0) dX10_feed_1 (by decide) (by decide) rfl w2_99 rfl)
    (e_each_cons (r_getP X (index := 45) (ci := 5) (k := 4) dX10_feed_4 (by decide) (by decide) rfl w1_218 rfl)
    (e_each_cons (r_astore X (i := 6) dX10_feed_7 (by decide) rfl)
    (e_each_cons (r_aload X (i := 6) dX10_feed_9 rfl)
    (e_each_cons (r_getI X (index := 49) (ci := 7) (k := 0) dX10_feed_11 (by decide) (by decide) rfl w1_185 rfl)
    (e_each_cons (r_bipush X (n := 20) (v := 20) dX10_feed_14 (by decide) rfl)
    (e_each_cons (r_iadd X dX10_feed_16 rfl)
    (e_each_cons (r_sipush X (n := 800) (v := 800) dX10_feed_17 (by decide) rfl)
    (e_each_cons (r_icmp_gt X (off := 7) (t := 27) dX10_feed_20 (by decide) rfl)
    (e_each_cons (r_iconst X (n := 1) (v := 1) dX10_feed_23 (by decide) rfl)
    (e_each_cons (r_goto X (off := 4) (t := 28) dX10_feed_24 (by decide))
    (e_each_cons (r_iconst X (n := 0) (v := 0) dX10_feed_27 (by decide) rfl)
    (e_each_cons (r_callS X rfl (τ := sg_X10_requireState) (index := 55) dX10_feed_28 w3_163 w3_164 cs_X10_requireState rfl ⟨by decide, by decide⟩ rfl)
    (e_each_cons (r_aload X (i := 6) dX10_feed_31 rfl)
    (e_each_cons (r_iload_n X (k := 1) (i := 1) rfl dX10_feed_33 rfl)
    (e_each_cons (r_callV X rfl (τ := sg_X8_appendBytes) (index := 59) (ci := 7) dX10_feed_34 (by decide) rfl w3_182 w3_183 w3_184 cs_X8_appendBytes rfl ⟨by decide, by decide⟩ rfl)
    (e_each_cons (r_aload X (i := 6) dX10_feed_37 rfl)
    (e_each_cons (r_iload_n X (k := 2) (i := 2) rfl dX10_feed_39 rfl)
    (e_each_cons (r_callV X rfl (τ := sg_X8_appendBytes) (index := 59) (ci := 7) dX10_feed_40 (by decide) rfl w3_182 w3_183 w3_184 cs_X8_appendBytes rfl ⟨by decide, by decide⟩ rfl)
    (e_each_cons (r_aload X (i := 6) dX10_feed_43 rfl)
    (e_each_cons (r_iload_n X (k := 3) (i := 3) rfl dX10_feed_45 rfl)
    (e_each_cons (r_callV X rfl (τ := sg_X8_appendBytes) (index := 59) (ci := 7) dX10_feed_46 (by decide) rfl w3_182 w3_183 w3_184 cs_X8_appendBytes rfl ⟨by decide, by decide⟩ rfl)
    (e_each_cons (r_aload X (i := 6) dX10_feed_49 rfl)
    (e_each_cons (r_iload X (i := 4) dX10_feed_51 rfl)
    (e_each_cons (r_callV X rfl (τ := sg_X8_appendBytes) (index := 59) (ci := 7) dX10_feed_53 (by decide) rfl w3_182 w3_183 w3_184 cs_X8_appendBytes rfl ⟨by decide, by decide⟩ rfl)
    (e_each_cons (r_aload X (i := 6) dX10_feed_56 rfl)
    (e_each_cons (r_iload X (i := 5) dX10_feed_58 rfl)
    (e_each_cons (r_callV X rfl (τ := sg_X8_appendBytes) (index := 59) (ci := 7) dX10_feed_60 (by decide) rfl w3_182 w3_183 w3_184 cs_X8_appendBytes rfl ⟨by decide, by decide⟩ rfl)
    (e_each_cons (r_aload X (i := 6) dX10_feed_63 rfl)
    (e_each_cons (r_getI X (index := 49) (ci := 7) (k := 0) dX10_feed_65 (by decide) (by decide) rfl w1_185 rfl)
    (e_each_cons (r_ireti X dX10_feed_68 rfl)
    (e_each_nil))))))))))))))))))))))))))))))))
theorem dX10_requireArgument_0 : decode cX10_requireArgument 0 = .ok (.iload_n 0, 1) := by decide +kernel
theorem dX10_requireArgument_1 : decode cX10_requireArgument 1 = .ok (.ifCond .ne 14, 3) := by decide +kernel
theorem dX10_requireArgument_4 : decode cX10_requireArgument 4 = .ok (.new 112, 3) := by decide +kernel
theorem dX10_requireArgument_7 : decode cX10_requireArgument 7 = .ok (.dup, 1) := by decide +kernel
theorem dX10_requireArgument_8 : decode cX10_requireArgument 8 = .ok (.ldc_w 384, 3) := by decide +kernel
theorem dX10_requireArgument_11 : decode cX10_requireArgument 11 = .ok (.invokespecial 116, 3) := by decide +kernel
theorem dX10_requireArgument_14 : decode cX10_requireArgument 14 = .ok (.athrow, 1) := by decide +kernel
theorem dX10_requireArgument_15 : decode cX10_requireArgument 15 = .ok (.return_, 1) := by decide +kernel
def pg_X10_requireArgument (l : Launch) (g : EG) : List (Nat × ES) := [(0, s_ldI 0), (1, s_if_ne 15), (4, s_throw sg_X10_requireArgument "java/lang/IllegalArgumentException"), (15, s_vret)]
set_option maxRecDepth 100000 in
theorem ok_X10_requireArgument {l : Launch} {g : EG} (hl0 : l.stackTraces = false) : e_okp l g sg_X10_requireArgument "CalendarSync" (pg_X10_requireArgument l g) := fun p e R s m args below meth c ex M0 Q X =>
    e_each_cons (r_iload_n X (k := 0) (i := 0) rfl dX10_requireArgument_0 rfl)
    (e_each_cons (r_if_ne X (off := 14) (t := 15) dX10_requireArgument_1 (by decide) rfl)
    (e_each_cons (e_throwS X hl0 rfl (cls := "java/lang/IllegalArgumentException") (text := "out of range") (names := ["java/lang/RuntimeException", "java/lang/Exception"]) (ik := 112) (is := 384) (ic := 116) (k := 12) (by decide) (by decide) w2_132 w1_27 rfl rfl th_116a th_116b th_116c rfl ⟨by decide, by decide⟩ ⟨⟨dX10_requireArgument_4, dX10_requireArgument_7⟩, Or.inr ⟨dX10_requireArgument_8, dX10_requireArgument_11, dX10_requireArgument_14⟩⟩)
    (e_each_cons (r_vret X dX10_requireArgument_15 rfl)
    (e_each_nil))))
theorem dX10_load_0 : decode cX10_load 0 = .ok (.iload_n 1, 1) := by decide +kernel
theorem dX10_load_1 : decode cX10_load 1 = .ok (.iconst 0, 1) := by decide +kernel
theorem dX10_load_2 : decode cX10_load 2 = .ok (.aload_n 0, 1) := by decide +kernel
theorem dX10_load_3 : decode cX10_load 3 = .ok (.getfield 10, 3) := by decide +kernel
theorem dX10_load_6 : decode cX10_load 6 = .ok (.getfield 45, 3) := by decide +kernel
theorem dX10_load_9 : decode cX10_load 9 = .ok (.getfield 49, 3) := by decide +kernel
theorem dX10_load_12 : decode cX10_load 12 = .ok (.invokestatic 63, 3) := by decide +kernel
theorem dX10_load_15 : decode cX10_load 15 = .ok (.invokestatic 67, 3) := by decide +kernel
theorem dX10_load_18 : decode cX10_load 18 = .ok (.aload_n 0, 1) := by decide +kernel
theorem dX10_load_19 : decode cX10_load 19 = .ok (.getfield 10, 3) := by decide +kernel
theorem dX10_load_22 : decode cX10_load 22 = .ok (.iload_n 1, 1) := by decide +kernel
theorem dX10_load_23 : decode cX10_load 23 = .ok (.invokevirtual 70, 3) := by decide +kernel
theorem dX10_load_26 : decode cX10_load 26 = .ok (.istore_n 2, 1) := by decide +kernel
theorem dX10_load_27 : decode cX10_load 27 = .ok (.aload_n 0, 1) := by decide +kernel
theorem dX10_load_28 : decode cX10_load 28 = .ok (.getfield 10, 3) := by decide +kernel
theorem dX10_load_31 : decode cX10_load 31 = .ok (.getfield 45, 3) := by decide +kernel
theorem dX10_load_34 : decode cX10_load 34 = .ok (.iconst 0, 1) := by decide +kernel
theorem dX10_load_35 : decode cX10_load 35 = .ok (.putfield 49, 3) := by decide +kernel
theorem dX10_load_38 : decode cX10_load 38 = .ok (.iload_n 2, 1) := by decide +kernel
theorem dX10_load_39 : decode cX10_load 39 = .ok (.invokestatic 55, 3) := by decide +kernel
theorem dX10_load_42 : decode cX10_load 42 = .ok (.aload_n 0, 1) := by decide +kernel
theorem dX10_load_43 : decode cX10_load 43 = .ok (.getfield 19, 3) := by decide +kernel
theorem dX10_load_46 : decode cX10_load 46 = .ok (.aload_n 0, 1) := by decide +kernel
theorem dX10_load_47 : decode cX10_load 47 = .ok (.getfield 10, 3) := by decide +kernel
theorem dX10_load_50 : decode cX10_load 50 = .ok (.getfield 74, 3) := by decide +kernel
theorem dX10_load_53 : decode cX10_load 53 = .ok (.invokevirtual 78, 3) := by decide +kernel
theorem dX10_load_56 : decode cX10_load 56 = .ok (.aload_n 0, 1) := by decide +kernel
theorem dX10_load_57 : decode cX10_load 57 = .ok (.getfield 26, 3) := by decide +kernel
theorem dX10_load_60 : decode cX10_load 60 = .ok (.invokevirtual 82, 3) := by decide +kernel
theorem dX10_load_63 : decode cX10_load 63 = .ok (.iconst 0, 1) := by decide +kernel
theorem dX10_load_64 : decode cX10_load 64 = .ok (.istore_n 3, 1) := by decide +kernel
theorem dX10_load_65 : decode cX10_load 65 = .ok (.iload_n 3, 1) := by decide +kernel
theorem dX10_load_66 : decode cX10_load 66 = .ok (.iconst 2, 1) := by decide +kernel
theorem dX10_load_67 : decode cX10_load 67 = .ok (.if_icmp .ge 16, 3) := by decide +kernel
theorem dX10_load_70 : decode cX10_load 70 = .ok (.aload_n 0, 1) := by decide +kernel
theorem dX10_load_71 : decode cX10_load 71 = .ok (.getfield 34, 3) := by decide +kernel
theorem dX10_load_74 : decode cX10_load 74 = .ok (.iload_n 3, 1) := by decide +kernel
theorem dX10_load_75 : decode cX10_load 75 = .ok (.iconst 0, 1) := by decide +kernel
theorem dX10_load_76 : decode cX10_load 76 = .ok (.bastore, 1) := by decide +kernel
theorem dX10_load_77 : decode cX10_load 77 = .ok (.iinc 3 1, 3) := by decide +kernel
theorem dX10_load_80 : decode cX10_load 80 = .ok (.goto (-15), 3) := by decide +kernel
theorem dX10_load_83 : decode cX10_load 83 = .ok (.aload_n 0, 1) := by decide +kernel
theorem dX10_load_84 : decode cX10_load 84 = .ok (.getfield 10, 3) := by decide +kernel
theorem dX10_load_87 : decode cX10_load 87 = .ok (.getfield 85, 3) := by decide +kernel
theorem dX10_load_90 : decode cX10_load 90 = .ok (.ireturn, 1) := by decide +kernel
def pg_X10_load (l : Launch) (g : EG) : List (Nat × ES) := [(0, s_ldI 1), (1, s_c (.inl 0)), (2, s_ldP 0), (3, s_getP 9 0), (6, s_getP 5 4), (9, s_getI 7 0), (12, s_callS l g sg_X10_load sg_X10_isWithin), (15, s_callS l g sg_X10_load sg_X10_requireArgument), (18, s_ldP 0), (19, s_getP 9 0), (22, s_ldI 1), (23, s_callV l g sg_X10_load sg_X6_readCalendar 5), (26, s_stI 2), (27, s_ldP 0), (28, s_getP 9 0), (31, s_getP 5 4), (34, s_c (.inl 0)), (35, s_putI 7 0), (38, s_ldI 2), (39, s_callS l g sg_X10_load sg_X10_requireState), (42, s_ldP 0), (43, s_getP 9 1), (46, s_ldP 0), (47, s_getP 9 0), (50, s_getP 5 0), (53, s_callV l g sg_X10_load sg_X3_beginWith 2), (56, s_ldP 0), (57, s_getP 9 2), (60, s_callV l g sg_X10_load sg_X4_forget 3), (63, s_c (.inl 0)), (64, s_stI 3), (65, s_ldI 3), (66, s_c (.inl 2)), (67, s_icmp_ge 83), (70, s_ldP 0), (71, s_getP 9 4), (74, s_ldI 3), (75, s_c (.inl 0)), (76, s_zast), (77, s_iinc 3 1), (80, s_goto 65), (83, s_ldP 0), (84, s_getP 9 0), (87, s_getI 5 1), (90, s_ireti)]
set_option maxRecDepth 100000 in
theorem ok_X10_load {l : Launch} {g : EG} : e_okp l g sg_X10_load "CalendarSync" (pg_X10_load l g) := fun p e R s m args below meth c ex M0 Q X =>
    e_each_cons (r_iload_n X (k := 1) (i := 1) rfl dX10_load_0 rfl)
    (e_each_cons (r_iconst X (n := 0) (v := 0) dX10_load_1 (by decide) rfl)
    (e_each_cons (r_aload_n X (k := 0) (i := 0) rfl dX10_load_2 rfl)
    (e_each_cons (r_getP X (index := 10) (ci := 9) (k := 0) dX10_load_3 (by decide) (by decide) rfl w2_99 rfl)
    (e_each_cons (r_getP X (index := 45) (ci := 5) (k := 4) dX10_load_6 (by decide) (by decide) rfl w1_218 rfl)
    (e_each_cons (r_getI X (index := 49) (ci := 7) (k := 0) dX10_load_9 (by decide) (by decide) rfl w1_185 rfl)
    (e_each_cons (r_callS X rfl (τ := sg_X10_isWithin) (index := 63) dX10_load_12 w2_126 w2_127 cs_X10_isWithin rfl ⟨by decide, by decide⟩ rfl)
    (e_each_cons (r_callS X rfl (τ := sg_X10_requireArgument) (index := 67) dX10_load_15 w2_129 w2_130 cs_X10_requireArgument rfl ⟨by decide, by decide⟩ rfl)
    (e_each_cons (r_aload_n X (k := 0) (i := 0) rfl dX10_load_18 rfl)
    (e_each_cons (r_getP X (index := 10) (ci := 9) (k := 0) dX10_load_19 (by decide) (by decide) rfl w2_99 rfl)
    (e_each_cons (r_iload_n X (k := 1) (i := 1) rfl dX10_load_22 rfl)
    (e_each_cons (r_callV X rfl (τ := sg_X6_readCalendar) (index := 70) (ci := 5) dX10_load_23 (by decide) rfl w3_190 w3_191 w3_192 cs_X6_readCalendar rfl ⟨by decide, by decide⟩ rfl)
    (e_each_cons (r_istore_n X (k := 2) (i := 2) rfl dX10_load_26 (by decide) rfl)
    (e_each_cons (r_aload_n X (k := 0) (i := 0) rfl dX10_load_27 rfl)
    (e_each_cons (r_getP X (index := 10) (ci := 9) (k := 0) dX10_load_28 (by decide) (by decide) rfl w2_99 rfl)
    (e_each_cons (r_getP X (index := 45) (ci := 5) (k := 4) dX10_load_31 (by decide) (by decide) rfl w1_218 rfl)
    (e_each_cons (r_iconst X (n := 0) (v := 0) dX10_load_34 (by decide) rfl)
    (e_each_cons (r_putI X (index := 49) (ci := 7) (k := 0) dX10_load_35 (by decide) (by decide) rfl rfl w1_185 rfl)
    (e_each_cons (r_iload_n X (k := 2) (i := 2) rfl dX10_load_38 rfl)
    (e_each_cons (r_callS X rfl (τ := sg_X10_requireState) (index := 55) dX10_load_39 w3_163 w3_164 cs_X10_requireState rfl ⟨by decide, by decide⟩ rfl)
    (e_each_cons (r_aload_n X (k := 0) (i := 0) rfl dX10_load_42 rfl)
    (e_each_cons (r_getP X (index := 19) (ci := 9) (k := 1) dX10_load_43 (by decide) (by decide) rfl w2_100 rfl)
    (e_each_cons (r_aload_n X (k := 0) (i := 0) rfl dX10_load_46 rfl)
    (e_each_cons (r_getP X (index := 10) (ci := 9) (k := 0) dX10_load_47 (by decide) (by decide) rfl w2_99 rfl)
    (e_each_cons (r_getP X (index := 74) (ci := 5) (k := 0) dX10_load_50 (by decide) (by decide) rfl w1_212 rfl)
    (e_each_cons (r_callV X rfl (τ := sg_X3_beginWith) (index := 78) (ci := 2) dX10_load_53 (by decide) rfl w4_120 w4_121 w4_122 cs_X3_beginWith rfl ⟨by decide, by decide⟩ rfl)
    (e_each_cons (r_aload_n X (k := 0) (i := 0) rfl dX10_load_56 rfl)
    (e_each_cons (r_getP X (index := 26) (ci := 9) (k := 2) dX10_load_57 (by decide) (by decide) rfl w2_101 rfl)
    (e_each_cons (r_callV X rfl (τ := sg_X4_forget) (index := 82) (ci := 3) dX10_load_60 (by decide) rfl w3_96 w3_97 w3_98 cs_X4_forget rfl ⟨by decide, by decide⟩ rfl)
    (e_each_cons (r_iconst X (n := 0) (v := 0) dX10_load_63 (by decide) rfl)
    (e_each_cons (r_istore_n X (k := 3) (i := 3) rfl dX10_load_64 (by decide) rfl)
    (e_each_cons (r_iload_n X (k := 3) (i := 3) rfl dX10_load_65 rfl)
    (e_each_cons (r_iconst X (n := 2) (v := 2) dX10_load_66 (by decide) rfl)
    (e_each_cons (r_icmp_ge X (off := 16) (t := 83) dX10_load_67 (by decide) rfl)
    (e_each_cons (r_aload_n X (k := 0) (i := 0) rfl dX10_load_70 rfl)
    (e_each_cons (r_getP X (index := 34) (ci := 9) (k := 4) dX10_load_71 (by decide) (by decide) rfl w2_103 rfl)
    (e_each_cons (r_iload_n X (k := 3) (i := 3) rfl dX10_load_74 rfl)
    (e_each_cons (r_iconst X (n := 0) (v := 0) dX10_load_75 (by decide) rfl)
    (e_each_cons (r_zast X dX10_load_76 rfl)
    (e_each_cons (r_iinc X (i := 3) (n := 1) (d := 1) dX10_load_77 (by decide) (by decide) rfl)
    (e_each_cons (r_goto X (off := (-15)) (t := 65) dX10_load_80 (by decide))
    (e_each_cons (r_aload_n X (k := 0) (i := 0) rfl dX10_load_83 rfl)
    (e_each_cons (r_getP X (index := 10) (ci := 9) (k := 0) dX10_load_84 (by decide) (by decide) rfl w2_99 rfl)
    (e_each_cons (r_getI X (index := 85) (ci := 5) (k := 1) dX10_load_87 (by decide) (by decide) rfl w1_214 rfl)
    (e_each_cons (r_ireti X dX10_load_90 rfl)
    (e_each_nil)))))))))))))))))))))))))))))))))))))))))))))
theorem dX10_day_0 : decode cX10_day 0 = .ok (.iload_n 1, 1) := by decide +kernel
theorem dX10_day_1 : decode cX10_day 1 = .ok (.invokestatic 94, 3) := by decide +kernel
theorem dX10_day_4 : decode cX10_day 4 = .ok (.invokestatic 67, 3) := by decide +kernel
theorem dX10_day_7 : decode cX10_day 7 = .ok (.iload_n 2, 1) := by decide +kernel
theorem dX10_day_8 : decode cX10_day 8 = .ok (.tableswitch 54 0 3 #[32, 39, 44, 49], 32) := by decide +kernel
theorem dX10_day_40 : decode cX10_day 40 = .ok (.iload_n 1, 1) := by decide +kernel
theorem dX10_day_41 : decode cX10_day 41 = .ok (.invokestatic 99, 3) := by decide +kernel
theorem dX10_day_44 : decode cX10_day 44 = .ok (.iconst 1, 1) := by decide +kernel
theorem dX10_day_45 : decode cX10_day 45 = .ok (.iadd, 1) := by decide +kernel
theorem dX10_day_46 : decode cX10_day 46 = .ok (.ireturn, 1) := by decide +kernel
theorem dX10_day_47 : decode cX10_day 47 = .ok (.iload_n 1, 1) := by decide +kernel
theorem dX10_day_48 : decode cX10_day 48 = .ok (.invokestatic 103, 3) := by decide +kernel
theorem dX10_day_51 : decode cX10_day 51 = .ok (.ireturn, 1) := by decide +kernel
theorem dX10_day_52 : decode cX10_day 52 = .ok (.iload_n 1, 1) := by decide +kernel
theorem dX10_day_53 : decode cX10_day 53 = .ok (.invokestatic 106, 3) := by decide +kernel
theorem dX10_day_56 : decode cX10_day 56 = .ok (.ireturn, 1) := by decide +kernel
theorem dX10_day_57 : decode cX10_day 57 = .ok (.iload_n 1, 1) := by decide +kernel
theorem dX10_day_58 : decode cX10_day 58 = .ok (.invokestatic 109, 3) := by decide +kernel
theorem dX10_day_61 : decode cX10_day 61 = .ok (.ireturn, 1) := by decide +kernel
theorem dX10_day_62 : decode cX10_day 62 = .ok (.new 112, 3) := by decide +kernel
theorem dX10_day_65 : decode cX10_day 65 = .ok (.dup, 1) := by decide +kernel
theorem dX10_day_66 : decode cX10_day 66 = .ok (.ldc 114, 2) := by decide +kernel
theorem dX10_day_68 : decode cX10_day 68 = .ok (.invokespecial 116, 3) := by decide +kernel
theorem dX10_day_71 : decode cX10_day 71 = .ok (.athrow, 1) := by decide +kernel
def pg_X10_day (l : Launch) (g : EG) : List (Nat × ES) := [(0, s_ldI 1), (1, s_callS l g sg_X10_day sg_X1_isDay), (4, s_callS l g sg_X10_day sg_X10_requireArgument), (7, s_ldI 2), (8, s_tab 0 [40, 47, 52, 57] 62), (40, s_ldI 1), (41, s_callS l g sg_X10_day sg_X1_monthOf), (44, s_c (.inl 1)), (45, s_ii (fun x y => x + y)), (46, s_ireti), (47, s_ldI 1), (48, s_callS l g sg_X10_day sg_X1_dayOfMonth), (51, s_ireti), (52, s_ldI 1), (53, s_callS l g sg_X10_day sg_X1_weekdayOf), (56, s_ireti), (57, s_ldI 1), (58, s_callS l g sg_X10_day sg_X1_yearOf), (61, s_ireti), (62, s_throw sg_X10_day "java/lang/IllegalArgumentException")]
set_option maxRecDepth 100000 in
theorem ok_X10_day {l : Launch} {g : EG} (hl0 : l.stackTraces = false) : e_okp l g sg_X10_day "CalendarSync" (pg_X10_day l g) := fun p e R s m args below meth c ex M0 Q X =>
    e_each_cons (r_iload_n X (k := 1) (i := 1) rfl dX10_day_0 rfl)
    (e_each_cons (r_callS X rfl (τ := sg_X1_isDay) (index := 94) dX10_day_1 w6_1 w6_2 cs_X1_isDay rfl ⟨by decide, by decide⟩ rfl)
    (e_each_cons (r_callS X rfl (τ := sg_X10_requireArgument) (index := 67) dX10_day_4 w2_129 w2_130 cs_X10_requireArgument rfl ⟨by decide, by decide⟩ rfl)
    (e_each_cons (r_iload_n X (k := 2) (i := 2) rfl dX10_day_7 rfl)
    (e_each_cons (r_tab X (dflt := 54) (lo := 0) (hi := 3) (ts := [40, 47, 52, 57]) (dt := 62) dX10_day_8 (by decide) (by decide) (by decide))
    (e_each_cons (r_iload_n X (k := 1) (i := 1) rfl dX10_day_40 rfl)
    (e_each_cons (r_callS X rfl (τ := sg_X1_monthOf) (index := 99) dX10_day_41 w6_13 w4_88 cs_X1_monthOf rfl ⟨by decide, by decide⟩ rfl)
    (e_each_cons (r_iconst X (n := 1) (v := 1) dX10_day_44 (by decide) rfl)
    (e_each_cons (r_iadd X dX10_day_45 rfl)
    (e_each_cons (r_ireti X dX10_day_46 rfl)
    (e_each_cons (r_iload_n X (k := 1) (i := 1) rfl dX10_day_47 rfl)
    (e_each_cons (r_callS X rfl (τ := sg_X1_dayOfMonth) (index := 103) dX10_day_48 w6_14 w4_93 cs_X1_dayOfMonth rfl ⟨by decide, by decide⟩ rfl)
    (e_each_cons (r_ireti X dX10_day_51 rfl)
    (e_each_cons (r_iload_n X (k := 1) (i := 1) rfl dX10_day_52 rfl)
    (e_each_cons (r_callS X rfl (τ := sg_X1_weekdayOf) (index := 106) dX10_day_53 w6_15 w4_78 cs_X1_weekdayOf rfl ⟨by decide, by decide⟩ rfl)
    (e_each_cons (r_ireti X dX10_day_56 rfl)
    (e_each_cons (r_iload_n X (k := 1) (i := 1) rfl dX10_day_57 rfl)
    (e_each_cons (r_callS X rfl (τ := sg_X1_yearOf) (index := 109) dX10_day_58 w6_16 w4_85 cs_X1_yearOf rfl ⟨by decide, by decide⟩ rfl)
    (e_each_cons (r_ireti X dX10_day_61 rfl)
    (e_each_cons (e_throwS X hl0 rfl (cls := "java/lang/IllegalArgumentException") (text := "no such what") (names := ["java/lang/RuntimeException", "java/lang/Exception"]) (ik := 112) (is := 114) (ic := 116) (k := 13) (by decide) (by decide) w2_132 w1_27 rfl rfl th_116a th_116b th_116c rfl ⟨by decide, by decide⟩ ⟨⟨dX10_day_62, dX10_day_65⟩, Or.inl ⟨dX10_day_66, dX10_day_68, dX10_day_71⟩⟩)
    (e_each_nil))))))))))))))))))))
theorem dX10_placeAt_0 : decode cX10_placeAt 0 = .ok (.iload_n 1, 1) := by decide +kernel
theorem dX10_placeAt_1 : decode cX10_placeAt 1 = .ok (.iconst 0, 1) := by decide +kernel
theorem dX10_placeAt_2 : decode cX10_placeAt 2 = .ok (.iconst 2, 1) := by decide +kernel
theorem dX10_placeAt_3 : decode cX10_placeAt 3 = .ok (.invokestatic 63, 3) := by decide +kernel
theorem dX10_placeAt_6 : decode cX10_placeAt 6 = .ok (.invokestatic 67, 3) := by decide +kernel
theorem dX10_placeAt_9 : decode cX10_placeAt 9 = .ok (.iload_n 1, 1) := by decide +kernel
theorem dX10_placeAt_10 : decode cX10_placeAt 10 = .ok (.iconst 2, 1) := by decide +kernel
theorem dX10_placeAt_11 : decode cX10_placeAt 11 = .ok (.if_icmp .ne 13, 3) := by decide +kernel
theorem dX10_placeAt_14 : decode cX10_placeAt 14 = .ok (.aload_n 0, 1) := by decide +kernel
theorem dX10_placeAt_15 : decode cX10_placeAt 15 = .ok (.getfield 19, 3) := by decide +kernel
theorem dX10_placeAt_18 : decode cX10_placeAt 18 = .ok (.getfield 271, 3) := by decide +kernel
theorem dX10_placeAt_21 : decode cX10_placeAt 21 = .ok (.goto 15, 3) := by decide +kernel
theorem dX10_placeAt_24 : decode cX10_placeAt 24 = .ok (.aload_n 0, 1) := by decide +kernel
theorem dX10_placeAt_25 : decode cX10_placeAt 25 = .ok (.getfield 19, 3) := by decide +kernel
theorem dX10_placeAt_28 : decode cX10_placeAt 28 = .ok (.getfield 376, 3) := by decide +kernel
theorem dX10_placeAt_31 : decode cX10_placeAt 31 = .ok (.iload_n 1, 1) := by decide +kernel
theorem dX10_placeAt_32 : decode cX10_placeAt 32 = .ok (.aaload, 1) := by decide +kernel
theorem dX10_placeAt_33 : decode cX10_placeAt 33 = .ok (.getfield 266, 3) := by decide +kernel
theorem dX10_placeAt_36 : decode cX10_placeAt 36 = .ok (.areturn, 1) := by decide +kernel
def pg_X10_placeAt (l : Launch) (g : EG) : List (Nat × ES) := [(0, s_ldI 1), (1, s_c (.inl 0)), (2, s_c (.inl 2)), (3, s_callS l g sg_X10_placeAt sg_X10_isWithin), (6, s_callS l g sg_X10_placeAt sg_X10_requireArgument), (9, s_ldI 1), (10, s_c (.inl 2)), (11, s_icmp_ne 24), (14, s_ldP 0), (15, s_getP 9 1), (18, s_getP 2 1), (21, s_goto 36), (24, s_ldP 0), (25, s_getP 9 1), (28, s_getP 2 2), (31, s_ldI 1), (32, s_aald), (33, s_getP 6 0), (36, s_aret)]
set_option maxRecDepth 100000 in
theorem ok_X10_placeAt {l : Launch} {g : EG} : e_okp l g sg_X10_placeAt "CalendarSync" (pg_X10_placeAt l g) := fun p e R s m args below meth c ex M0 Q X =>
    e_each_cons (r_iload_n X (k := 1) (i := 1) rfl dX10_placeAt_0 rfl)
    (e_each_cons (r_iconst X (n := 0) (v := 0) dX10_placeAt_1 (by decide) rfl)
    (e_each_cons (r_iconst X (n := 2) (v := 2) dX10_placeAt_2 (by decide) rfl)
    (e_each_cons (r_callS X rfl (τ := sg_X10_isWithin) (index := 63) dX10_placeAt_3 w2_126 w2_127 cs_X10_isWithin rfl ⟨by decide, by decide⟩ rfl)
    (e_each_cons (r_callS X rfl (τ := sg_X10_requireArgument) (index := 67) dX10_placeAt_6 w2_129 w2_130 cs_X10_requireArgument rfl ⟨by decide, by decide⟩ rfl)
    (e_each_cons (r_iload_n X (k := 1) (i := 1) rfl dX10_placeAt_9 rfl)
    (e_each_cons (r_iconst X (n := 2) (v := 2) dX10_placeAt_10 (by decide) rfl)
    (e_each_cons (r_icmp_ne X (off := 13) (t := 24) dX10_placeAt_11 (by decide) rfl)
    (e_each_cons (r_aload_n X (k := 0) (i := 0) rfl dX10_placeAt_14 rfl)
    (e_each_cons (r_getP X (index := 19) (ci := 9) (k := 1) dX10_placeAt_15 (by decide) (by decide) rfl w2_100 rfl)
    (e_each_cons (r_getP X (index := 271) (ci := 2) (k := 1) dX10_placeAt_18 (by decide) (by decide) rfl w2_48 rfl)
    (e_each_cons (r_goto X (off := 15) (t := 36) dX10_placeAt_21 (by decide))
    (e_each_cons (r_aload_n X (k := 0) (i := 0) rfl dX10_placeAt_24 rfl)
    (e_each_cons (r_getP X (index := 19) (ci := 9) (k := 1) dX10_placeAt_25 (by decide) (by decide) rfl w2_100 rfl)
    (e_each_cons (r_getP X (index := 376) (ci := 2) (k := 2) dX10_placeAt_28 (by decide) (by decide) rfl w2_50 rfl)
    (e_each_cons (r_iload_n X (k := 1) (i := 1) rfl dX10_placeAt_31 rfl)
    (e_each_cons (r_aald X dX10_placeAt_32 rfl)
    (e_each_cons (r_getP X (index := 266) (ci := 6) (k := 0) dX10_placeAt_33 (by decide) (by decide) rfl w2_21 rfl)
    (e_each_cons (r_aret X dX10_placeAt_36 rfl)
    (e_each_nil)))))))))))))))))))
theorem dX10_requireElement_0 : decode cX10_requireElement 0 = .ok (.iload_n 0, 1) := by decide +kernel
theorem dX10_requireElement_1 : decode cX10_requireElement 1 = .ok (.ifCond .ne 14, 3) := by decide +kernel
theorem dX10_requireElement_4 : decode cX10_requireElement 4 = .ok (.new 386, 3) := by decide +kernel
theorem dX10_requireElement_7 : decode cX10_requireElement 7 = .ok (.dup, 1) := by decide +kernel
theorem dX10_requireElement_8 : decode cX10_requireElement 8 = .ok (.ldc_w 388, 3) := by decide +kernel
theorem dX10_requireElement_11 : decode cX10_requireElement 11 = .ok (.invokespecial 390, 3) := by decide +kernel
theorem dX10_requireElement_14 : decode cX10_requireElement 14 = .ok (.athrow, 1) := by decide +kernel
theorem dX10_requireElement_15 : decode cX10_requireElement 15 = .ok (.return_, 1) := by decide +kernel
def pg_X10_requireElement (l : Launch) (g : EG) : List (Nat × ES) := [(0, s_ldI 0), (1, s_if_ne 15), (4, s_throw sg_X10_requireElement "java/util/NoSuchElementException"), (15, s_vret)]
set_option maxRecDepth 100000 in
theorem ok_X10_requireElement {l : Launch} {g : EG} (hl0 : l.stackTraces = false) : e_okp l g sg_X10_requireElement "CalendarSync" (pg_X10_requireElement l g) := fun p e R s m args below meth c ex M0 Q X =>
    e_each_cons (r_iload_n X (k := 0) (i := 0) rfl dX10_requireElement_0 rfl)
    (e_each_cons (r_if_ne X (off := 14) (t := 15) dX10_requireElement_1 (by decide) rfl)
    (e_each_cons (e_throwN X hl0 rfl (text := "not there") (ik := 386) (is := 388) (ic := 390) (k := 14) w3_80 w1_29 w3_90 rfl rfl ⟨rfl, rfl, rfl⟩ ⟨by decide, by decide⟩ ⟨⟨dX10_requireElement_4, dX10_requireElement_7⟩, Or.inr ⟨dX10_requireElement_8, dX10_requireElement_11, dX10_requireElement_14⟩⟩)
    (e_each_cons (r_vret X dX10_requireElement_15 rfl)
    (e_each_nil))))
theorem dX10_zoneAt_0 : decode cX10_zoneAt 0 = .ok (.aload_n 0, 1) := by decide +kernel
theorem dX10_zoneAt_1 : decode cX10_zoneAt 1 = .ok (.iload_n 1, 1) := by decide +kernel
theorem dX10_zoneAt_2 : decode cX10_zoneAt 2 = .ok (.invokevirtual 299, 3) := by decide +kernel
theorem dX10_zoneAt_5 : decode cX10_zoneAt 5 = .ok (.invokestatic 240, 3) := by decide +kernel
theorem dX10_zoneAt_8 : decode cX10_zoneAt 8 = .ok (.aload_n 0, 1) := by decide +kernel
theorem dX10_zoneAt_9 : decode cX10_zoneAt 9 = .ok (.getfield 380, 3) := by decide +kernel
theorem dX10_zoneAt_12 : decode cX10_zoneAt 12 = .ok (.iload_n 1, 1) := by decide +kernel
theorem dX10_zoneAt_13 : decode cX10_zoneAt 13 = .ok (.aaload, 1) := by decide +kernel
theorem dX10_zoneAt_14 : decode cX10_zoneAt 14 = .ok (.areturn, 1) := by decide +kernel
def pg_X10_zoneAt (l : Launch) (g : EG) : List (Nat × ES) := [(0, s_ldP 0), (1, s_ldI 1), (2, s_callV l g sg_X10_zoneAt sg_X5_hasZone 4), (5, s_callS l g sg_X10_zoneAt sg_X10_requireElement), (8, s_ldP 0), (9, s_getP 4 1), (12, s_ldI 1), (13, s_aald), (14, s_aret)]
set_option maxRecDepth 100000 in
theorem ok_X10_zoneAt {l : Launch} {g : EG} : e_okp l g sg_X10_zoneAt "CalendarSync" (pg_X10_zoneAt l g) := fun p e R s m args below meth c ex M0 Q X =>
    e_each_cons (r_aload_n X (k := 0) (i := 0) rfl dX10_zoneAt_0 rfl)
    (e_each_cons (r_iload_n X (k := 1) (i := 1) rfl dX10_zoneAt_1 rfl)
    (e_each_cons (r_callV X rfl (τ := sg_X5_hasZone) (index := 299) (ci := 4) dX10_zoneAt_2 (by decide) rfl w5_171 w5_172 w5_173 cs_X5_hasZone rfl ⟨by decide, by decide⟩ rfl)
    (e_each_cons (r_callS X rfl (τ := sg_X10_requireElement) (index := 240) dX10_zoneAt_5 w3_77 w3_78 cs_X10_requireElement rfl ⟨by decide, by decide⟩ rfl)
    (e_each_cons (r_aload_n X (k := 0) (i := 0) rfl dX10_zoneAt_8 rfl)
    (e_each_cons (r_getP X (index := 380) (ci := 4) (k := 1) dX10_zoneAt_9 (by decide) (by decide) rfl w1_165 rfl)
    (e_each_cons (r_iload_n X (k := 1) (i := 1) rfl dX10_zoneAt_12 rfl)
    (e_each_cons (r_aald X dX10_zoneAt_13 rfl)
    (e_each_cons (r_aret X dX10_zoneAt_14 rfl)
    (e_each_nil)))))))))
theorem dX10_zone_0 : decode cX10_zone 0 = .ok (.aload_n 0, 1) := by decide +kernel
theorem dX10_zone_1 : decode cX10_zone 1 = .ok (.iload_n 1, 1) := by decide +kernel
theorem dX10_zone_2 : decode cX10_zone 2 = .ok (.invokevirtual 119, 3) := by decide +kernel
theorem dX10_zone_5 : decode cX10_zone 5 = .ok (.iload_n 2, 1) := by decide +kernel
theorem dX10_zone_6 : decode cX10_zone 6 = .ok (.invokestatic 123, 3) := by decide +kernel
theorem dX10_zone_9 : decode cX10_zone 9 = .ok (.astore 4, 2) := by decide +kernel
theorem dX10_zone_11 : decode cX10_zone 11 = .ok (.iload_n 3, 1) := by decide +kernel
theorem dX10_zone_12 : decode cX10_zone 12 = .ok (.tableswitch 56 0 3 #[32, 38, 44, 50], 32) := by decide +kernel
theorem dX10_zone_44 : decode cX10_zone 44 = .ok (.aload 4, 2) := by decide +kernel
theorem dX10_zone_46 : decode cX10_zone 46 = .ok (.getfield 127, 3) := by decide +kernel
theorem dX10_zone_49 : decode cX10_zone 49 = .ok (.ireturn, 1) := by decide +kernel
theorem dX10_zone_50 : decode cX10_zone 50 = .ok (.aload 4, 2) := by decide +kernel
theorem dX10_zone_52 : decode cX10_zone 52 = .ok (.getfield 132, 3) := by decide +kernel
theorem dX10_zone_55 : decode cX10_zone 55 = .ok (.ireturn, 1) := by decide +kernel
theorem dX10_zone_56 : decode cX10_zone 56 = .ok (.aload 4, 2) := by decide +kernel
theorem dX10_zone_58 : decode cX10_zone 58 = .ok (.getfield 135, 3) := by decide +kernel
theorem dX10_zone_61 : decode cX10_zone 61 = .ok (.ireturn, 1) := by decide +kernel
theorem dX10_zone_62 : decode cX10_zone 62 = .ok (.aload 4, 2) := by decide +kernel
theorem dX10_zone_64 : decode cX10_zone 64 = .ok (.getfield 138, 3) := by decide +kernel
theorem dX10_zone_67 : decode cX10_zone 67 = .ok (.ireturn, 1) := by decide +kernel
theorem dX10_zone_68 : decode cX10_zone 68 = .ok (.new 141, 3) := by decide +kernel
theorem dX10_zone_71 : decode cX10_zone 71 = .ok (.dup, 1) := by decide +kernel
theorem dX10_zone_72 : decode cX10_zone 72 = .ok (.ldc 114, 2) := by decide +kernel
theorem dX10_zone_74 : decode cX10_zone 74 = .ok (.invokespecial 143, 3) := by decide +kernel
theorem dX10_zone_77 : decode cX10_zone 77 = .ok (.athrow, 1) := by decide +kernel
def pg_X10_zone (l : Launch) (g : EG) : List (Nat × ES) := [(0, s_ldP 0), (1, s_ldI 1), (2, s_callV l g sg_X10_zone sg_X10_placeAt 9), (5, s_ldI 2), (6, s_callS l g sg_X10_zone sg_X10_zoneAt), (9, s_stP 4), (11, s_ldI 3), (12, s_tab 0 [44, 50, 56, 62] 68), (44, s_ldP 4), (46, s_getI 8 0), (49, s_ireti), (50, s_ldP 4), (52, s_getI 8 1), (55, s_ireti), (56, s_ldP 4), (58, s_getI 8 2), (61, s_ireti), (62, s_ldP 4), (64, s_getI 8 3), (67, s_ireti), (68, s_throw sg_X10_zone "java/lang/IndexOutOfBoundsException")]
set_option maxRecDepth 100000 in
theorem ok_X10_zone {l : Launch} {g : EG} (hl0 : l.stackTraces = false) : e_okp l g sg_X10_zone "CalendarSync" (pg_X10_zone l g) := fun p e R s m args below meth c ex M0 Q X =>
    e_each_cons (r_aload_n X (k := 0) (i := 0) rfl dX10_zone_0 rfl)
    (e_each_cons (r_iload_n X (k := 1) (i := 1) rfl dX10_zone_1 rfl)
    (e_each_cons (r_callV X rfl (τ := sg_X10_placeAt) (index := 119) (ci := 9) dX10_zone_2 (by decide) rfl w2_122 w2_124 ws_0 cs_X10_placeAt rfl ⟨by decide, by decide⟩ rfl)
    (e_each_cons (r_iload_n X (k := 2) (i := 2) rfl dX10_zone_5 rfl)
    (e_each_cons (r_callS X rfl (τ := sg_X10_zoneAt) (index := 123) dX10_zone_6 w5_168 w5_169 cs_X10_zoneAt rfl ⟨by decide, by decide⟩ rfl)
    (e_each_cons (r_astore X (i := 4) dX10_zone_9 (by decide) rfl)
    (e_each_cons (r_iload_n X (k := 3) (i := 3) rfl dX10_zone_11 rfl)
    (e_each_cons (r_tab X (dflt := 56) (lo := 0) (hi := 3) (ts := [44, 50, 56, 62]) (dt := 68) dX10_zone_12 (by decide) (by decide) (by decide))
    (e_each_cons (r_aload X (i := 4) dX10_zone_44 rfl)
    (e_each_cons (r_getI X (index := 127) (ci := 8) (k := 0) dX10_zone_46 (by decide) (by decide) rfl w1_59 rfl)
    (e_each_cons (r_ireti X dX10_zone_49 rfl)
    (e_each_cons (r_aload X (i := 4) dX10_zone_50 rfl)
    (e_each_cons (r_getI X (index := 132) (ci := 8) (k := 1) dX10_zone_52 (by decide) (by decide) rfl w1_62 rfl)
    (e_each_cons (r_ireti X dX10_zone_55 rfl)
    (e_each_cons (r_aload X (i := 4) dX10_zone_56 rfl)
    (e_each_cons (r_getI X (index := 135) (ci := 8) (k := 2) dX10_zone_58 (by decide) (by decide) rfl w1_64 rfl)
    (e_each_cons (r_ireti X dX10_zone_61 rfl)
    (e_each_cons (r_aload X (i := 4) dX10_zone_62 rfl)
    (e_each_cons (r_getI X (index := 138) (ci := 8) (k := 3) dX10_zone_64 (by decide) (by decide) rfl w1_66 rfl)
    (e_each_cons (r_ireti X dX10_zone_67 rfl)
    (e_each_cons (e_throwS X hl0 rfl (cls := "java/lang/IndexOutOfBoundsException") (text := "no such what") (names := ["java/lang/RuntimeException", "java/lang/Exception"]) (ik := 141) (is := 114) (ic := 143) (k := 13) (by decide) (by decide) w5_176 w1_30 rfl rfl th_143a th_143b th_143c rfl ⟨by decide, by decide⟩ ⟨⟨dX10_zone_68, dX10_zone_71⟩, Or.inl ⟨dX10_zone_72, dX10_zone_74, dX10_zone_77⟩⟩)
    (e_each_nil)))))))))))))))))))))
theorem dX10_moment_0 : decode cX10_moment 0 = .ok (.aload_n 0, 1) := by decide +kernel
theorem dX10_moment_1 : decode cX10_moment 1 = .ok (.iload_n 1, 1) := by decide +kernel
theorem dX10_moment_2 : decode cX10_moment 2 = .ok (.invokevirtual 119, 3) := by decide +kernel
theorem dX10_moment_5 : decode cX10_moment 5 = .ok (.astore 5, 2) := by decide +kernel
theorem dX10_moment_7 : decode cX10_moment 7 = .ok (.iload_n 3, 1) := by decide +kernel
theorem dX10_moment_8 : decode cX10_moment 8 = .ok (.invokestatic 94, 3) := by decide +kernel
theorem dX10_moment_11 : decode cX10_moment 11 = .ok (.ifCond .eq 15, 3) := by decide +kernel
theorem dX10_moment_14 : decode cX10_moment 14 = .ok (.iload 4, 2) := by decide +kernel
theorem dX10_moment_16 : decode cX10_moment 16 = .ok (.invokestatic 144, 3) := by decide +kernel
theorem dX10_moment_19 : decode cX10_moment 19 = .ok (.ifCond .eq 7, 3) := by decide +kernel
theorem dX10_moment_22 : decode cX10_moment 22 = .ok (.iconst 1, 1) := by decide +kernel
theorem dX10_moment_23 : decode cX10_moment 23 = .ok (.goto 4, 3) := by decide +kernel
theorem dX10_moment_26 : decode cX10_moment 26 = .ok (.iconst 0, 1) := by decide +kernel
theorem dX10_moment_27 : decode cX10_moment 27 = .ok (.invokestatic 67, 3) := by decide +kernel
theorem dX10_moment_30 : decode cX10_moment 30 = .ok (.aload 5, 2) := by decide +kernel
theorem dX10_moment_32 : decode cX10_moment 32 = .ok (.iload_n 2, 1) := by decide +kernel
theorem dX10_moment_33 : decode cX10_moment 33 = .ok (.invokestatic 123, 3) := by decide +kernel
theorem dX10_moment_36 : decode cX10_moment 36 = .ok (.iload_n 3, 1) := by decide +kernel
theorem dX10_moment_37 : decode cX10_moment 37 = .ok (.iload 4, 2) := by decide +kernel
theorem dX10_moment_39 : decode cX10_moment 39 = .ok (.invokevirtual 147, 3) := by decide +kernel
theorem dX10_moment_42 : decode cX10_moment 42 = .ok (.ireturn, 1) := by decide +kernel
def pg_X10_moment (l : Launch) (g : EG) : List (Nat × ES) := [(0, s_ldP 0), (1, s_ldI 1), (2, s_callV l g sg_X10_moment sg_X10_placeAt 9), (5, s_stP 5), (7, s_ldI 3), (8, s_callS l g sg_X10_moment sg_X1_isDay), (11, s_if_eq 26), (14, s_ldI 4), (16, s_callS l g sg_X10_moment sg_X1_isMinute), (19, s_if_eq 26), (22, s_c (.inl 1)), (23, s_goto 27), (26, s_c (.inl 0)), (27, s_callS l g sg_X10_moment sg_X10_requireArgument), (30, s_ldP 5), (32, s_ldI 2), (33, s_callS l g sg_X10_moment sg_X10_zoneAt), (36, s_ldI 3), (37, s_ldI 4), (39, s_callV l g sg_X10_moment sg_X9_momentAt 8), (42, s_ireti)]
set_option maxRecDepth 100000 in
theorem ok_X10_moment {l : Launch} {g : EG} : e_okp l g sg_X10_moment "CalendarSync" (pg_X10_moment l g) := fun p e R s m args below meth c ex M0 Q X =>
    e_each_cons (r_aload_n X (k := 0) (i := 0) rfl dX10_moment_0 rfl)
    (e_each_cons (r_iload_n X (k := 1) (i := 1) rfl dX10_moment_1 rfl)
    (e_each_cons (r_callV X rfl (τ := sg_X10_placeAt) (index := 119) (ci := 9) dX10_moment_2 (by decide) rfl w2_122 w2_124 ws_0 cs_X10_placeAt rfl ⟨by decide, by decide⟩ rfl)
    (e_each_cons (r_astore X (i := 5) dX10_moment_5 (by decide) rfl)
    (e_each_cons (r_iload_n X (k := 3) (i := 3) rfl dX10_moment_7 rfl)
    (e_each_cons (r_callS X rfl (τ := sg_X1_isDay) (index := 94) dX10_moment_8 w6_1 w6_2 cs_X1_isDay rfl ⟨by decide, by decide⟩ rfl)
    (e_each_cons (r_if_eq X (off := 15) (t := 26) dX10_moment_11 (by decide) rfl)
    (e_each_cons (r_iload X (i := 4) dX10_moment_14 rfl)
    (e_each_cons (r_callS X rfl (τ := sg_X1_isMinute) (index := 144) dX10_moment_16 w6_5 w6_6 cs_X1_isMinute rfl ⟨by decide, by decide⟩ rfl)
    (e_each_cons (r_if_eq X (off := 7) (t := 26) dX10_moment_19 (by decide) rfl)
    (e_each_cons (r_iconst X (n := 1) (v := 1) dX10_moment_22 (by decide) rfl)
    (e_each_cons (r_goto X (off := 4) (t := 27) dX10_moment_23 (by decide))
    (e_each_cons (r_iconst X (n := 0) (v := 0) dX10_moment_26 (by decide) rfl)
    (e_each_cons (r_callS X rfl (τ := sg_X10_requireArgument) (index := 67) dX10_moment_27 w2_129 w2_130 cs_X10_requireArgument rfl ⟨by decide, by decide⟩ rfl)
    (e_each_cons (r_aload X (i := 5) dX10_moment_30 rfl)
    (e_each_cons (r_iload_n X (k := 2) (i := 2) rfl dX10_moment_32 rfl)
    (e_each_cons (r_callS X rfl (τ := sg_X10_zoneAt) (index := 123) dX10_moment_33 w5_168 w5_169 cs_X10_zoneAt rfl ⟨by decide, by decide⟩ rfl)
    (e_each_cons (r_iload_n X (k := 3) (i := 3) rfl dX10_moment_36 rfl)
    (e_each_cons (r_iload X (i := 4) dX10_moment_37 rfl)
    (e_each_cons (r_callV X rfl (τ := sg_X9_momentAt) (index := 147) (ci := 8) dX10_moment_39 (by decide) rfl w6_8 w3_4 w3_5 cs_X9_momentAt rfl ⟨by decide, by decide⟩ rfl)
    (e_each_cons (r_ireti X dX10_moment_42 rfl)
    (e_each_nil)))))))))))))))))))))
theorem dX10_events_0 : decode cX10_events 0 = .ok (.aload_n 0, 1) := by decide +kernel
theorem dX10_events_1 : decode cX10_events 1 = .ok (.iload_n 1, 1) := by decide +kernel
theorem dX10_events_2 : decode cX10_events 2 = .ok (.invokevirtual 119, 3) := by decide +kernel
theorem dX10_events_5 : decode cX10_events 5 = .ok (.invokevirtual 151, 3) := by decide +kernel
theorem dX10_events_8 : decode cX10_events 8 = .ok (.ireturn, 1) := by decide +kernel
def pg_X10_events (l : Launch) (g : EG) : List (Nat × ES) := [(0, s_ldP 0), (1, s_ldI 1), (2, s_callV l g sg_X10_events sg_X10_placeAt 9), (5, s_callV l g sg_X10_events sg_X5_eventBits 4), (8, s_ireti)]
set_option maxRecDepth 100000 in
theorem ok_X10_events {l : Launch} {g : EG} : e_okp l g sg_X10_events "CalendarSync" (pg_X10_events l g) := fun p e R s m args below meth c ex M0 Q X =>
    e_each_cons (r_aload_n X (k := 0) (i := 0) rfl dX10_events_0 rfl)
    (e_each_cons (r_iload_n X (k := 1) (i := 1) rfl dX10_events_1 rfl)
    (e_each_cons (r_callV X rfl (τ := sg_X10_placeAt) (index := 119) (ci := 9) dX10_events_2 (by decide) rfl w2_122 w2_124 ws_0 cs_X10_placeAt rfl ⟨by decide, by decide⟩ rfl)
    (e_each_cons (r_callV X rfl (τ := sg_X5_eventBits) (index := 151) (ci := 4) dX10_events_5 (by decide) rfl w2_200 w2_201 w2_202 cs_X5_eventBits rfl ⟨by decide, by decide⟩ rfl)
    (e_each_cons (r_ireti X dX10_events_8 rfl)
    (e_each_nil)))))
theorem dX10_eventAt_0 : decode cX10_eventAt 0 = .ok (.aload_n 0, 1) := by decide +kernel
theorem dX10_eventAt_1 : decode cX10_eventAt 1 = .ok (.iload_n 1, 1) := by decide +kernel
theorem dX10_eventAt_2 : decode cX10_eventAt 2 = .ok (.invokevirtual 302, 3) := by decide +kernel
theorem dX10_eventAt_5 : decode cX10_eventAt 5 = .ok (.invokestatic 240, 3) := by decide +kernel
theorem dX10_eventAt_8 : decode cX10_eventAt 8 = .ok (.aload_n 0, 1) := by decide +kernel
theorem dX10_eventAt_9 : decode cX10_eventAt 9 = .ok (.getfield 309, 3) := by decide +kernel
theorem dX10_eventAt_12 : decode cX10_eventAt 12 = .ok (.iload_n 1, 1) := by decide +kernel
theorem dX10_eventAt_13 : decode cX10_eventAt 13 = .ok (.aaload, 1) := by decide +kernel
theorem dX10_eventAt_14 : decode cX10_eventAt 14 = .ok (.areturn, 1) := by decide +kernel
def pg_X10_eventAt (l : Launch) (g : EG) : List (Nat × ES) := [(0, s_ldP 0), (1, s_ldI 1), (2, s_callV l g sg_X10_eventAt sg_X5_hasEvent 4), (5, s_callS l g sg_X10_eventAt sg_X10_requireElement), (8, s_ldP 0), (9, s_getP 4 2), (12, s_ldI 1), (13, s_aald), (14, s_aret)]
set_option maxRecDepth 100000 in
theorem ok_X10_eventAt {l : Launch} {g : EG} : e_okp l g sg_X10_eventAt "CalendarSync" (pg_X10_eventAt l g) := fun p e R s m args below meth c ex M0 Q X =>
    e_each_cons (r_aload_n X (k := 0) (i := 0) rfl dX10_eventAt_0 rfl)
    (e_each_cons (r_iload_n X (k := 1) (i := 1) rfl dX10_eventAt_1 rfl)
    (e_each_cons (r_callV X rfl (τ := sg_X5_hasEvent) (index := 302) (ci := 4) dX10_eventAt_2 (by decide) rfl w5_198 w5_199 w5_200 cs_X5_hasEvent rfl ⟨by decide, by decide⟩ rfl)
    (e_each_cons (r_callS X rfl (τ := sg_X10_requireElement) (index := 240) dX10_eventAt_5 w3_77 w3_78 cs_X10_requireElement rfl ⟨by decide, by decide⟩ rfl)
    (e_each_cons (r_aload_n X (k := 0) (i := 0) rfl dX10_eventAt_8 rfl)
    (e_each_cons (r_getP X (index := 309) (ci := 4) (k := 2) dX10_eventAt_9 (by decide) (by decide) rfl w1_170 rfl)
    (e_each_cons (r_iload_n X (k := 1) (i := 1) rfl dX10_eventAt_12 rfl)
    (e_each_cons (r_aald X dX10_eventAt_13 rfl)
    (e_each_cons (r_aret X dX10_eventAt_14 rfl)
    (e_each_nil)))))))))
theorem dX10_event_0 : decode cX10_event 0 = .ok (.aload_n 0, 1) := by decide +kernel
theorem dX10_event_1 : decode cX10_event 1 = .ok (.iload_n 1, 1) := by decide +kernel
theorem dX10_event_2 : decode cX10_event 2 = .ok (.invokevirtual 119, 3) := by decide +kernel
theorem dX10_event_5 : decode cX10_event 5 = .ok (.iload_n 2, 1) := by decide +kernel
theorem dX10_event_6 : decode cX10_event 6 = .ok (.invokestatic 157, 3) := by decide +kernel
theorem dX10_event_9 : decode cX10_event 9 = .ok (.astore 4, 2) := by decide +kernel
theorem dX10_event_11 : decode cX10_event 11 = .ok (.iload_n 3, 1) := by decide +kernel
theorem dX10_event_12 : decode cX10_event 12 = .ok (.tableswitch 136 0 11 #[64, 70, 76, 82, 88, 94, 100, 106, 112, 118, 124, 130], 64) := by decide +kernel
theorem dX10_event_76 : decode cX10_event 76 = .ok (.aload 4, 2) := by decide +kernel
theorem dX10_event_78 : decode cX10_event 78 = .ok (.getfield 161, 3) := by decide +kernel
theorem dX10_event_81 : decode cX10_event 81 = .ok (.ireturn, 1) := by decide +kernel
theorem dX10_event_82 : decode cX10_event 82 = .ok (.aload 4, 2) := by decide +kernel
theorem dX10_event_84 : decode cX10_event 84 = .ok (.getfield 166, 3) := by decide +kernel
theorem dX10_event_87 : decode cX10_event 87 = .ok (.ireturn, 1) := by decide +kernel
theorem dX10_event_88 : decode cX10_event 88 = .ok (.aload 4, 2) := by decide +kernel
theorem dX10_event_90 : decode cX10_event 90 = .ok (.getfield 169, 3) := by decide +kernel
theorem dX10_event_93 : decode cX10_event 93 = .ok (.ireturn, 1) := by decide +kernel
theorem dX10_event_94 : decode cX10_event 94 = .ok (.aload 4, 2) := by decide +kernel
theorem dX10_event_96 : decode cX10_event 96 = .ok (.getfield 170, 3) := by decide +kernel
theorem dX10_event_99 : decode cX10_event 99 = .ok (.ireturn, 1) := by decide +kernel
theorem dX10_event_100 : decode cX10_event 100 = .ok (.aload 4, 2) := by decide +kernel
theorem dX10_event_102 : decode cX10_event 102 = .ok (.getfield 173, 3) := by decide +kernel
theorem dX10_event_105 : decode cX10_event 105 = .ok (.ireturn, 1) := by decide +kernel
theorem dX10_event_106 : decode cX10_event 106 = .ok (.aload 4, 2) := by decide +kernel
theorem dX10_event_108 : decode cX10_event 108 = .ok (.getfield 176, 3) := by decide +kernel
theorem dX10_event_111 : decode cX10_event 111 = .ok (.ireturn, 1) := by decide +kernel
theorem dX10_event_112 : decode cX10_event 112 = .ok (.aload 4, 2) := by decide +kernel
theorem dX10_event_114 : decode cX10_event 114 = .ok (.getfield 179, 3) := by decide +kernel
theorem dX10_event_117 : decode cX10_event 117 = .ok (.ireturn, 1) := by decide +kernel
theorem dX10_event_118 : decode cX10_event 118 = .ok (.aload 4, 2) := by decide +kernel
theorem dX10_event_120 : decode cX10_event 120 = .ok (.getfield 182, 3) := by decide +kernel
theorem dX10_event_123 : decode cX10_event 123 = .ok (.ireturn, 1) := by decide +kernel
theorem dX10_event_124 : decode cX10_event 124 = .ok (.aload 4, 2) := by decide +kernel
theorem dX10_event_126 : decode cX10_event 126 = .ok (.getfield 185, 3) := by decide +kernel
theorem dX10_event_129 : decode cX10_event 129 = .ok (.ireturn, 1) := by decide +kernel
theorem dX10_event_130 : decode cX10_event 130 = .ok (.aload 4, 2) := by decide +kernel
theorem dX10_event_132 : decode cX10_event 132 = .ok (.getfield 186, 3) := by decide +kernel
theorem dX10_event_135 : decode cX10_event 135 = .ok (.ireturn, 1) := by decide +kernel
theorem dX10_event_136 : decode cX10_event 136 = .ok (.aload 4, 2) := by decide +kernel
theorem dX10_event_138 : decode cX10_event 138 = .ok (.getfield 189, 3) := by decide +kernel
theorem dX10_event_141 : decode cX10_event 141 = .ok (.ireturn, 1) := by decide +kernel
theorem dX10_event_142 : decode cX10_event 142 = .ok (.aload 4, 2) := by decide +kernel
theorem dX10_event_144 : decode cX10_event 144 = .ok (.getfield 192, 3) := by decide +kernel
theorem dX10_event_147 : decode cX10_event 147 = .ok (.ireturn, 1) := by decide +kernel
theorem dX10_event_148 : decode cX10_event 148 = .ok (.new 141, 3) := by decide +kernel
theorem dX10_event_151 : decode cX10_event 151 = .ok (.dup, 1) := by decide +kernel
theorem dX10_event_152 : decode cX10_event 152 = .ok (.ldc 114, 2) := by decide +kernel
theorem dX10_event_154 : decode cX10_event 154 = .ok (.invokespecial 143, 3) := by decide +kernel
theorem dX10_event_157 : decode cX10_event 157 = .ok (.athrow, 1) := by decide +kernel
def pg_X10_event (l : Launch) (g : EG) : List (Nat × ES) := [(0, s_ldP 0), (1, s_ldI 1), (2, s_callV l g sg_X10_event sg_X10_placeAt 9), (5, s_ldI 2), (6, s_callS l g sg_X10_event sg_X10_eventAt), (9, s_stP 4), (11, s_ldI 3), (12, s_tab 0 [76, 82, 88, 94, 100, 106, 112, 118, 124, 130, 136, 142] 148), (76, s_ldP 4), (78, s_getI 1 1), (81, s_ireti), (82, s_ldP 4), (84, s_getI 1 2), (87, s_ireti), (88, s_ldP 4), (90, s_getI 1 3), (93, s_ireti), (94, s_ldP 4), (96, s_getI 1 4), (99, s_ireti), (100, s_ldP 4), (102, s_getI 1 5), (105, s_ireti), (106, s_ldP 4), (108, s_getI 1 6), (111, s_ireti), (112, s_ldP 4), (114, s_getI 1 7), (117, s_ireti), (118, s_ldP 4), (120, s_getI 1 8), (123, s_ireti), (124, s_ldP 4), (126, s_getI 1 9), (129, s_ireti), (130, s_ldP 4), (132, s_getI 1 10), (135, s_ireti), (136, s_ldP 4), (138, s_getI 1 11), (141, s_ireti), (142, s_ldP 4), (144, s_getI 1 12), (147, s_ireti), (148, s_throw sg_X10_event "java/lang/IndexOutOfBoundsException")]
set_option maxRecDepth 100000 in
theorem ok_X10_event {l : Launch} {g : EG} (hl0 : l.stackTraces = false) : e_okp l g sg_X10_event "CalendarSync" (pg_X10_event l g) := fun p e R s m args below meth c ex M0 Q X =>
    e_each_cons (r_aload_n X (k := 0) (i := 0) rfl dX10_event_0 rfl)
    (e_each_cons (r_iload_n X (k := 1) (i := 1) rfl dX10_event_1 rfl)
    (e_each_cons (r_callV X rfl (τ := sg_X10_placeAt) (index := 119) (ci := 9) dX10_event_2 (by decide) rfl w2_122 w2_124 ws_0 cs_X10_placeAt rfl ⟨by decide, by decide⟩ rfl)
    (e_each_cons (r_iload_n X (k := 2) (i := 2) rfl dX10_event_5 rfl)
    (e_each_cons (r_callS X rfl (τ := sg_X10_eventAt) (index := 157) dX10_event_6 w5_195 w5_196 cs_X10_eventAt rfl ⟨by decide, by decide⟩ rfl)
    (e_each_cons (r_astore X (i := 4) dX10_event_9 (by decide) rfl)
    (e_each_cons (r_iload_n X (k := 3) (i := 3) rfl dX10_event_11 rfl)
    (e_each_cons (r_tab X (dflt := 136) (lo := 0) (hi := 11) (ts := [76, 82, 88, 94, 100, 106, 112, 118, 124, 130, 136, 142]) (dt := 148) dX10_event_12 (by decide) (by decide) (by decide))
    (e_each_cons (r_aload X (i := 4) dX10_event_76 rfl)
    (e_each_cons (r_getI X (index := 161) (ci := 1) (k := 1) dX10_event_78 (by decide) (by decide) rfl w1_88 rfl)
    (e_each_cons (r_ireti X dX10_event_81 rfl)
    (e_each_cons (r_aload X (i := 4) dX10_event_82 rfl)
    (e_each_cons (r_getI X (index := 166) (ci := 1) (k := 2) dX10_event_84 (by decide) (by decide) rfl w1_90 rfl)
    (e_each_cons (r_ireti X dX10_event_87 rfl)
    (e_each_cons (r_aload X (i := 4) dX10_event_88 rfl)
    (e_each_cons (r_getI X (index := 169) (ci := 1) (k := 3) dX10_event_90 (by decide) (by decide) rfl w1_94 rfl)
    (e_each_cons (r_ireti X dX10_event_93 rfl)
    (e_each_cons (r_aload X (i := 4) dX10_event_94 rfl)
    (e_each_cons (r_getI X (index := 170) (ci := 1) (k := 4) dX10_event_96 (by decide) (by decide) rfl w1_97 rfl)
    (e_each_cons (r_ireti X dX10_event_99 rfl)
    (e_each_cons (r_aload X (i := 4) dX10_event_100 rfl)
    (e_each_cons (r_getI X (index := 173) (ci := 1) (k := 5) dX10_event_102 (by decide) (by decide) rfl w1_99 rfl)
    (e_each_cons (r_ireti X dX10_event_105 rfl)
    (e_each_cons (r_aload X (i := 4) dX10_event_106 rfl)
    (e_each_cons (r_getI X (index := 176) (ci := 1) (k := 6) dX10_event_108 (by decide) (by decide) rfl w1_101 rfl)
    (e_each_cons (r_ireti X dX10_event_111 rfl)
    (e_each_cons (r_aload X (i := 4) dX10_event_112 rfl)
    (e_each_cons (r_getI X (index := 179) (ci := 1) (k := 7) dX10_event_114 (by decide) (by decide) rfl w1_103 rfl)
    (e_each_cons (r_ireti X dX10_event_117 rfl)
    (e_each_cons (r_aload X (i := 4) dX10_event_118 rfl)
    (e_each_cons (r_getI X (index := 182) (ci := 1) (k := 8) dX10_event_120 (by decide) (by decide) rfl w1_105 rfl)
    (e_each_cons (r_ireti X dX10_event_123 rfl)
    (e_each_cons (r_aload X (i := 4) dX10_event_124 rfl)
    (e_each_cons (r_getI X (index := 185) (ci := 1) (k := 9) dX10_event_126 (by decide) (by decide) rfl w1_109 rfl)
    (e_each_cons (r_ireti X dX10_event_129 rfl)
    (e_each_cons (r_aload X (i := 4) dX10_event_130 rfl)
    (e_each_cons (r_getI X (index := 186) (ci := 1) (k := 10) dX10_event_132 (by decide) (by decide) rfl w1_111 rfl)
    (e_each_cons (r_ireti X dX10_event_135 rfl)
    (e_each_cons (r_aload X (i := 4) dX10_event_136 rfl)
    (e_each_cons (r_getI X (index := 189) (ci := 1) (k := 11) dX10_event_138 (by decide) (by decide) rfl w1_114 rfl)
    (e_each_cons (r_ireti X dX10_event_141 rfl)
    (e_each_cons (r_aload X (i := 4) dX10_event_142 rfl)
    (e_each_cons (r_getI X (index := 192) (ci := 1) (k := 12) dX10_event_144 (by decide) (by decide) rfl w1_117 rfl)
    (e_each_cons (r_ireti X dX10_event_147 rfl)
    (e_each_cons (e_throwS X hl0 rfl (cls := "java/lang/IndexOutOfBoundsException") (text := "no such what") (names := ["java/lang/RuntimeException", "java/lang/Exception"]) (ik := 141) (is := 114) (ic := 143) (k := 13) (by decide) (by decide) w5_176 w1_30 rfl rfl th_143a th_143b th_143c rfl ⟨by decide, by decide⟩ ⟨⟨dX10_event_148, dX10_event_151⟩, Or.inl ⟨dX10_event_152, dX10_event_154, dX10_event_157⟩⟩)
    (e_each_nil)))))))))))))))))))))))))))))))))))))))))))))
theorem dX10_requireIndex_0 : decode cX10_requireIndex 0 = .ok (.iload_n 0, 1) := by decide +kernel
theorem dX10_requireIndex_1 : decode cX10_requireIndex 1 = .ok (.ifCond .ne 14, 3) := by decide +kernel
theorem dX10_requireIndex_4 : decode cX10_requireIndex 4 = .ok (.new 141, 3) := by decide +kernel
theorem dX10_requireIndex_7 : decode cX10_requireIndex 7 = .ok (.dup, 1) := by decide +kernel
theorem dX10_requireIndex_8 : decode cX10_requireIndex 8 = .ok (.ldc_w 391, 3) := by decide +kernel
theorem dX10_requireIndex_11 : decode cX10_requireIndex 11 = .ok (.invokespecial 143, 3) := by decide +kernel
theorem dX10_requireIndex_14 : decode cX10_requireIndex 14 = .ok (.athrow, 1) := by decide +kernel
theorem dX10_requireIndex_15 : decode cX10_requireIndex 15 = .ok (.return_, 1) := by decide +kernel
def pg_X10_requireIndex (l : Launch) (g : EG) : List (Nat × ES) := [(0, s_ldI 0), (1, s_if_ne 15), (4, s_throw sg_X10_requireIndex "java/lang/IndexOutOfBoundsException"), (15, s_vret)]
set_option maxRecDepth 100000 in
theorem ok_X10_requireIndex {l : Launch} {g : EG} (hl0 : l.stackTraces = false) : e_okp l g sg_X10_requireIndex "CalendarSync" (pg_X10_requireIndex l g) := fun p e R s m args below meth c ex M0 Q X =>
    e_each_cons (r_iload_n X (k := 0) (i := 0) rfl dX10_requireIndex_0 rfl)
    (e_each_cons (r_if_ne X (off := 14) (t := 15) dX10_requireIndex_1 (by decide) rfl)
    (e_each_cons (e_throwS X hl0 rfl (cls := "java/lang/IndexOutOfBoundsException") (text := "no such date") (names := ["java/lang/RuntimeException", "java/lang/Exception"]) (ik := 141) (is := 391) (ic := 143) (k := 15) (by decide) (by decide) w5_176 w1_30 rfl rfl th_143a th_143b th_143c rfl ⟨by decide, by decide⟩ ⟨⟨dX10_requireIndex_4, dX10_requireIndex_7⟩, Or.inr ⟨dX10_requireIndex_8, dX10_requireIndex_11, dX10_requireIndex_14⟩⟩)
    (e_each_cons (r_vret X dX10_requireIndex_15 rfl)
    (e_each_nil))))
theorem dX10_date_0 : decode cX10_date 0 = .ok (.aload_n 0, 1) := by decide +kernel
theorem dX10_date_1 : decode cX10_date 1 = .ok (.iload_n 1, 1) := by decide +kernel
theorem dX10_date_2 : decode cX10_date 2 = .ok (.invokevirtual 119, 3) := by decide +kernel
theorem dX10_date_5 : decode cX10_date 5 = .ok (.astore 5, 2) := by decide +kernel
theorem dX10_date_7 : decode cX10_date 7 = .ok (.aload 5, 2) := by decide +kernel
theorem dX10_date_9 : decode cX10_date 9 = .ok (.iload_n 2, 1) := by decide +kernel
theorem dX10_date_10 : decode cX10_date 10 = .ok (.invokestatic 157, 3) := by decide +kernel
theorem dX10_date_13 : decode cX10_date 13 = .ok (.astore 6, 2) := by decide +kernel
theorem dX10_date_15 : decode cX10_date 15 = .ok (.aload 6, 2) := by decide +kernel
theorem dX10_date_17 : decode cX10_date 17 = .ok (.iload_n 3, 1) := by decide +kernel
theorem dX10_date_18 : decode cX10_date 18 = .ok (.invokevirtual 195, 3) := by decide +kernel
theorem dX10_date_21 : decode cX10_date 21 = .ok (.invokestatic 198, 3) := by decide +kernel
theorem dX10_date_24 : decode cX10_date 24 = .ok (.iload 4, 2) := by decide +kernel
theorem dX10_date_26 : decode cX10_date 26 = .ok (.tableswitch 103 0 6 #[42, 49, 56, 64, 79, 87, 95], 42) := by decide +kernel
theorem dX10_date_68 : decode cX10_date 68 = .ok (.aload 6, 2) := by decide +kernel
theorem dX10_date_70 : decode cX10_date 70 = .ok (.iload_n 3, 1) := by decide +kernel
theorem dX10_date_71 : decode cX10_date 71 = .ok (.invokevirtual 201, 3) := by decide +kernel
theorem dX10_date_74 : decode cX10_date 74 = .ok (.ireturn, 1) := by decide +kernel
theorem dX10_date_75 : decode cX10_date 75 = .ok (.aload 6, 2) := by decide +kernel
theorem dX10_date_77 : decode cX10_date 77 = .ok (.iload_n 3, 1) := by decide +kernel
theorem dX10_date_78 : decode cX10_date 78 = .ok (.invokevirtual 204, 3) := by decide +kernel
theorem dX10_date_81 : decode cX10_date 81 = .ok (.ireturn, 1) := by decide +kernel
theorem dX10_date_82 : decode cX10_date 82 = .ok (.aload 5, 2) := by decide +kernel
theorem dX10_date_84 : decode cX10_date 84 = .ok (.iload_n 2, 1) := by decide +kernel
theorem dX10_date_85 : decode cX10_date 85 = .ok (.iload_n 3, 1) := by decide +kernel
theorem dX10_date_86 : decode cX10_date 86 = .ok (.invokevirtual 207, 3) := by decide +kernel
theorem dX10_date_89 : decode cX10_date 89 = .ok (.ireturn, 1) := by decide +kernel
theorem dX10_date_90 : decode cX10_date 90 = .ok (.aload 6, 2) := by decide +kernel
theorem dX10_date_92 : decode cX10_date 92 = .ok (.iload_n 3, 1) := by decide +kernel
theorem dX10_date_93 : decode cX10_date 93 = .ok (.invokevirtual 210, 3) := by decide +kernel
theorem dX10_date_96 : decode cX10_date 96 = .ok (.ifCond .eq 7, 3) := by decide +kernel
theorem dX10_date_99 : decode cX10_date 99 = .ok (.iconst 1, 1) := by decide +kernel
theorem dX10_date_100 : decode cX10_date 100 = .ok (.goto 4, 3) := by decide +kernel
theorem dX10_date_103 : decode cX10_date 103 = .ok (.iconst 0, 1) := by decide +kernel
theorem dX10_date_104 : decode cX10_date 104 = .ok (.ireturn, 1) := by decide +kernel
theorem dX10_date_105 : decode cX10_date 105 = .ok (.aload 6, 2) := by decide +kernel
theorem dX10_date_107 : decode cX10_date 107 = .ok (.getfield 213, 3) := by decide +kernel
theorem dX10_date_110 : decode cX10_date 110 = .ok (.iload_n 3, 1) := by decide +kernel
theorem dX10_date_111 : decode cX10_date 111 = .ok (.iaload, 1) := by decide +kernel
theorem dX10_date_112 : decode cX10_date 112 = .ok (.ireturn, 1) := by decide +kernel
theorem dX10_date_113 : decode cX10_date 113 = .ok (.aload 6, 2) := by decide +kernel
theorem dX10_date_115 : decode cX10_date 115 = .ok (.iconst 0, 1) := by decide +kernel
theorem dX10_date_116 : decode cX10_date 116 = .ok (.iload_n 3, 1) := by decide +kernel
theorem dX10_date_117 : decode cX10_date 117 = .ok (.invokevirtual 217, 3) := by decide +kernel
theorem dX10_date_120 : decode cX10_date 120 = .ok (.ireturn, 1) := by decide +kernel
theorem dX10_date_121 : decode cX10_date 121 = .ok (.aload 6, 2) := by decide +kernel
theorem dX10_date_123 : decode cX10_date 123 = .ok (.iconst 1, 1) := by decide +kernel
theorem dX10_date_124 : decode cX10_date 124 = .ok (.iload_n 3, 1) := by decide +kernel
theorem dX10_date_125 : decode cX10_date 125 = .ok (.invokevirtual 217, 3) := by decide +kernel
theorem dX10_date_128 : decode cX10_date 128 = .ok (.ireturn, 1) := by decide +kernel
theorem dX10_date_129 : decode cX10_date 129 = .ok (.new 141, 3) := by decide +kernel
theorem dX10_date_132 : decode cX10_date 132 = .ok (.dup, 1) := by decide +kernel
theorem dX10_date_133 : decode cX10_date 133 = .ok (.ldc 114, 2) := by decide +kernel
theorem dX10_date_135 : decode cX10_date 135 = .ok (.invokespecial 143, 3) := by decide +kernel
theorem dX10_date_138 : decode cX10_date 138 = .ok (.athrow, 1) := by decide +kernel
def pg_X10_date (l : Launch) (g : EG) : List (Nat × ES) := [(0, s_ldP 0), (1, s_ldI 1), (2, s_callV l g sg_X10_date sg_X10_placeAt 9), (5, s_stP 5), (7, s_ldP 5), (9, s_ldI 2), (10, s_callS l g sg_X10_date sg_X10_eventAt), (13, s_stP 6), (15, s_ldP 6), (17, s_ldI 3), (18, s_callV l g sg_X10_date sg_X2_hasDate 1), (21, s_callS l g sg_X10_date sg_X10_requireIndex), (24, s_ldI 4), (26, s_tab 0 [68, 75, 82, 90, 105, 113, 121] 129), (68, s_ldP 6), (70, s_ldI 3), (71, s_callV l g sg_X10_date sg_X2_dayOf 1), (74, s_ireti), (75, s_ldP 6), (77, s_ldI 3), (78, s_callV l g sg_X10_date sg_X2_minuteOf 1), (81, s_ireti), (82, s_ldP 5), (84, s_ldI 2), (85, s_ldI 3), (86, s_callV l g sg_X10_date sg_X5_momentOf 4), (89, s_ireti), (90, s_ldP 6), (92, s_ldI 3), (93, s_callV l g sg_X10_date sg_X2_isShown 1), (96, s_if_eq 103), (99, s_c (.inl 1)), (100, s_goto 104), (103, s_c (.inl 0)), (104, s_ireti), (105, s_ldP 6), (107, s_getP 1 13), (110, s_ldI 3), (111, s_iald), (112, s_ireti), (113, s_ldP 6), (115, s_c (.inl 0)), (116, s_ldI 3), (117, s_callV l g sg_X10_date sg_X2_answerTo 1), (120, s_ireti), (121, s_ldP 6), (123, s_c (.inl 1)), (124, s_ldI 3), (125, s_callV l g sg_X10_date sg_X2_answerTo 1), (128, s_ireti), (129, s_throw sg_X10_date "java/lang/IndexOutOfBoundsException")]
set_option maxRecDepth 100000 in
theorem ok_X10_date {l : Launch} {g : EG} (hl0 : l.stackTraces = false) : e_okp l g sg_X10_date "CalendarSync" (pg_X10_date l g) := fun p e R s m args below meth c ex M0 Q X =>
    e_each_cons (r_aload_n X (k := 0) (i := 0) rfl dX10_date_0 rfl)
    (e_each_cons (r_iload_n X (k := 1) (i := 1) rfl dX10_date_1 rfl)
    (e_each_cons (r_callV X rfl (τ := sg_X10_placeAt) (index := 119) (ci := 9) dX10_date_2 (by decide) rfl w2_122 w2_124 ws_0 cs_X10_placeAt rfl ⟨by decide, by decide⟩ rfl)
    (e_each_cons (r_astore X (i := 5) dX10_date_5 (by decide) rfl)
    (e_each_cons (r_aload X (i := 5) dX10_date_7 rfl)
    (e_each_cons (r_iload_n X (k := 2) (i := 2) rfl dX10_date_9 rfl)
    (e_each_cons (r_callS X rfl (τ := sg_X10_eventAt) (index := 157) dX10_date_10 w5_195 w5_196 cs_X10_eventAt rfl ⟨by decide, by decide⟩ rfl)
    (e_each_cons (r_astore X (i := 6) dX10_date_13 (by decide) rfl)
    (e_each_cons (r_aload X (i := 6) dX10_date_15 rfl)
    (e_each_cons (r_iload_n X (k := 3) (i := 3) rfl dX10_date_17 rfl)
    (e_each_cons (r_callV X rfl (τ := sg_X2_hasDate) (index := 195) (ci := 1) dX10_date_18 (by decide) rfl w5_206 w5_207 w5_208 cs_X2_hasDate rfl ⟨by decide, by decide⟩ rfl)
    (e_each_cons (r_callS X rfl (τ := sg_X10_requireIndex) (index := 198) dX10_date_21 w5_211 w5_212 cs_X10_requireIndex rfl ⟨by decide, by decide⟩ rfl)
    (e_each_cons (r_iload X (i := 4) dX10_date_24 rfl)
    (e_each_cons (r_tab X (dflt := 103) (lo := 0) (hi := 6) (ts := [68, 75, 82, 90, 105, 113, 121]) (dt := 129) dX10_date_26 (by decide) (by decide) (by decide))
    (e_each_cons (r_aload X (i := 6) dX10_date_68 rfl)
    (e_each_cons (r_iload_n X (k := 3) (i := 3) rfl dX10_date_70 rfl)
    (e_each_cons (r_callV X rfl (τ := sg_X2_dayOf) (index := 201) (ci := 1) dX10_date_71 (by decide) rfl w5_215 w2_235 w2_236 cs_X2_dayOf rfl ⟨by decide, by decide⟩ rfl)
    (e_each_cons (r_ireti X dX10_date_74 rfl)
    (e_each_cons (r_aload X (i := 6) dX10_date_75 rfl)
    (e_each_cons (r_iload_n X (k := 3) (i := 3) rfl dX10_date_77 rfl)
    (e_each_cons (r_callV X rfl (τ := sg_X2_minuteOf) (index := 204) (ci := 1) dX10_date_78 (by decide) rfl w5_216 w3_0 w3_1 cs_X2_minuteOf rfl ⟨by decide, by decide⟩ rfl)
    (e_each_cons (r_ireti X dX10_date_81 rfl)
    (e_each_cons (r_aload X (i := 5) dX10_date_82 rfl)
    (e_each_cons (r_iload_n X (k := 2) (i := 2) rfl dX10_date_84 rfl)
    (e_each_cons (r_iload_n X (k := 3) (i := 3) rfl dX10_date_85 rfl)
    (e_each_cons (r_callV X rfl (τ := sg_X5_momentOf) (index := 207) (ci := 4) dX10_date_86 (by decide) rfl w5_217 w2_231 w2_232 cs_X5_momentOf rfl ⟨by decide, by decide⟩ rfl)
    (e_each_cons (r_ireti X dX10_date_89 rfl)
    (e_each_cons (r_aload X (i := 6) dX10_date_90 rfl)
    (e_each_cons (r_iload_n X (k := 3) (i := 3) rfl dX10_date_92 rfl)
    (e_each_cons (r_callV X rfl (τ := sg_X2_isShown) (index := 210) (ci := 1) dX10_date_93 (by decide) rfl w5_218 w5_219 w5_220 cs_X2_isShown rfl ⟨by decide, by decide⟩ rfl)
    (e_each_cons (r_if_eq X (off := 7) (t := 103) dX10_date_96 (by decide) rfl)
    (e_each_cons (r_iconst X (n := 1) (v := 1) dX10_date_99 (by decide) rfl)
    (e_each_cons (r_goto X (off := 4) (t := 104) dX10_date_100 (by decide))
    (e_each_cons (r_iconst X (n := 0) (v := 0) dX10_date_103 (by decide) rfl)
    (e_each_cons (r_ireti X dX10_date_104 rfl)
    (e_each_cons (r_aload X (i := 6) dX10_date_105 rfl)
    (e_each_cons (r_getP X (index := 213) (ci := 1) (k := 13) dX10_date_107 (by decide) (by decide) rfl w1_119 rfl)
    (e_each_cons (r_iload_n X (k := 3) (i := 3) rfl dX10_date_110 rfl)
    (e_each_cons (r_iald X dX10_date_111 rfl)
    (e_each_cons (r_ireti X dX10_date_112 rfl)
    (e_each_cons (r_aload X (i := 6) dX10_date_113 rfl)
    (e_each_cons (r_iconst X (n := 0) (v := 0) dX10_date_115 (by decide) rfl)
    (e_each_cons (r_iload_n X (k := 3) (i := 3) rfl dX10_date_116 rfl)
    (e_each_cons (r_callV X rfl (τ := sg_X2_answerTo) (index := 217) (ci := 1) dX10_date_117 (by decide) rfl w5_223 w3_13 w3_14 cs_X2_answerTo rfl ⟨by decide, by decide⟩ rfl)
    (e_each_cons (r_ireti X dX10_date_120 rfl)
    (e_each_cons (r_aload X (i := 6) dX10_date_121 rfl)
    (e_each_cons (r_iconst X (n := 1) (v := 1) dX10_date_123 (by decide) rfl)
    (e_each_cons (r_iload_n X (k := 3) (i := 3) rfl dX10_date_124 rfl)
    (e_each_cons (r_callV X rfl (τ := sg_X2_answerTo) (index := 217) (ci := 1) dX10_date_125 (by decide) rfl w5_223 w3_13 w3_14 cs_X2_answerTo rfl ⟨by decide, by decide⟩ rfl)
    (e_each_cons (r_ireti X dX10_date_128 rfl)
    (e_each_cons (e_throwS X hl0 rfl (cls := "java/lang/IndexOutOfBoundsException") (text := "no such what") (names := ["java/lang/RuntimeException", "java/lang/Exception"]) (ik := 141) (is := 114) (ic := 143) (k := 13) (by decide) (by decide) w5_176 w1_30 rfl rfl th_143a th_143b th_143c rfl ⟨by decide, by decide⟩ ⟨⟨dX10_date_129, dX10_date_132⟩, Or.inl ⟨dX10_date_133, dX10_date_135, dX10_date_138⟩⟩)
    (e_each_nil)))))))))))))))))))))))))))))))))))))))))))))))))))
theorem dX10_isSide_0 : decode cX10_isSide 0 = .ok (.iload_n 0, 1) := by decide +kernel
theorem dX10_isSide_1 : decode cX10_isSide 1 = .ok (.iconst 0, 1) := by decide +kernel
theorem dX10_isSide_2 : decode cX10_isSide 2 = .ok (.iconst 1, 1) := by decide +kernel
theorem dX10_isSide_3 : decode cX10_isSide 3 = .ok (.invokestatic 63, 3) := by decide +kernel
theorem dX10_isSide_6 : decode cX10_isSide 6 = .ok (.ireturn, 1) := by decide +kernel
def pg_X10_isSide (l : Launch) (g : EG) : List (Nat × ES) := [(0, s_ldI 0), (1, s_c (.inl 0)), (2, s_c (.inl 1)), (3, s_callS l g sg_X10_isSide sg_X10_isWithin), (6, s_iretz)]
set_option maxRecDepth 100000 in
theorem ok_X10_isSide {l : Launch} {g : EG} : e_okp l g sg_X10_isSide "CalendarSync" (pg_X10_isSide l g) := fun p e R s m args below meth c ex M0 Q X =>
    e_each_cons (r_iload_n X (k := 0) (i := 0) rfl dX10_isSide_0 rfl)
    (e_each_cons (r_iconst X (n := 0) (v := 0) dX10_isSide_1 (by decide) rfl)
    (e_each_cons (r_iconst X (n := 1) (v := 1) dX10_isSide_2 (by decide) rfl)
    (e_each_cons (r_callS X rfl (τ := sg_X10_isWithin) (index := 63) dX10_isSide_3 w2_126 w2_127 cs_X10_isWithin rfl ⟨by decide, by decide⟩ rfl)
    (e_each_cons (r_iretz X dX10_isSide_6 rfl)
    (e_each_nil)))))
theorem dX10_answer_0 : decode cX10_answer 0 = .ok (.aload_n 0, 1) := by decide +kernel
theorem dX10_answer_1 : decode cX10_answer 1 = .ok (.iload_n 1, 1) := by decide +kernel
theorem dX10_answer_2 : decode cX10_answer 2 = .ok (.invokevirtual 119, 3) := by decide +kernel
theorem dX10_answer_5 : decode cX10_answer 5 = .ok (.astore 4, 2) := by decide +kernel
theorem dX10_answer_7 : decode cX10_answer 7 = .ok (.iload_n 3, 1) := by decide +kernel
theorem dX10_answer_8 : decode cX10_answer 8 = .ok (.invokestatic 220, 3) := by decide +kernel
theorem dX10_answer_11 : decode cX10_answer 11 = .ok (.invokestatic 67, 3) := by decide +kernel
theorem dX10_answer_14 : decode cX10_answer 14 = .ok (.aload 4, 2) := by decide +kernel
theorem dX10_answer_16 : decode cX10_answer 16 = .ok (.iload_n 2, 1) := by decide +kernel
theorem dX10_answer_17 : decode cX10_answer 17 = .ok (.invokestatic 157, 3) := by decide +kernel
theorem dX10_answer_20 : decode cX10_answer 20 = .ok (.getfield 223, 3) := by decide +kernel
theorem dX10_answer_23 : decode cX10_answer 23 = .ok (.iload_n 3, 1) := by decide +kernel
theorem dX10_answer_24 : decode cX10_answer 24 = .ok (.iaload, 1) := by decide +kernel
theorem dX10_answer_25 : decode cX10_answer 25 = .ok (.ireturn, 1) := by decide +kernel
def pg_X10_answer (l : Launch) (g : EG) : List (Nat × ES) := [(0, s_ldP 0), (1, s_ldI 1), (2, s_callV l g sg_X10_answer sg_X10_placeAt 9), (5, s_stP 4), (7, s_ldI 3), (8, s_callS l g sg_X10_answer sg_X10_isSide), (11, s_callS l g sg_X10_answer sg_X10_requireArgument), (14, s_ldP 4), (16, s_ldI 2), (17, s_callS l g sg_X10_answer sg_X10_eventAt), (20, s_getP 1 15), (23, s_ldI 3), (24, s_iald), (25, s_ireti)]
set_option maxRecDepth 100000 in
theorem ok_X10_answer {l : Launch} {g : EG} : e_okp l g sg_X10_answer "CalendarSync" (pg_X10_answer l g) := fun p e R s m args below meth c ex M0 Q X =>
    e_each_cons (r_aload_n X (k := 0) (i := 0) rfl dX10_answer_0 rfl)
    (e_each_cons (r_iload_n X (k := 1) (i := 1) rfl dX10_answer_1 rfl)
    (e_each_cons (r_callV X rfl (τ := sg_X10_placeAt) (index := 119) (ci := 9) dX10_answer_2 (by decide) rfl w2_122 w2_124 ws_0 cs_X10_placeAt rfl ⟨by decide, by decide⟩ rfl)
    (e_each_cons (r_astore X (i := 4) dX10_answer_5 (by decide) rfl)
    (e_each_cons (r_iload_n X (k := 3) (i := 3) rfl dX10_answer_7 rfl)
    (e_each_cons (r_callS X rfl (τ := sg_X10_isSide) (index := 220) dX10_answer_8 w2_212 w2_213 cs_X10_isSide rfl ⟨by decide, by decide⟩ rfl)
    (e_each_cons (r_callS X rfl (τ := sg_X10_requireArgument) (index := 67) dX10_answer_11 w2_129 w2_130 cs_X10_requireArgument rfl ⟨by decide, by decide⟩ rfl)
    (e_each_cons (r_aload X (i := 4) dX10_answer_14 rfl)
    (e_each_cons (r_iload_n X (k := 2) (i := 2) rfl dX10_answer_16 rfl)
    (e_each_cons (r_callS X rfl (τ := sg_X10_eventAt) (index := 157) dX10_answer_17 w5_195 w5_196 cs_X10_eventAt rfl ⟨by decide, by decide⟩ rfl)
    (e_each_cons (r_getP X (index := 223) (ci := 1) (k := 15) dX10_answer_20 (by decide) (by decide) rfl w1_122 rfl)
    (e_each_cons (r_iload_n X (k := 3) (i := 3) rfl dX10_answer_23 rfl)
    (e_each_cons (r_iald X dX10_answer_24 rfl)
    (e_each_cons (r_ireti X dX10_answer_25 rfl)
    (e_each_nil))))))))))))))
theorem dX10_agenda_0 : decode cX10_agenda 0 = .ok (.aload_n 0, 1) := by decide +kernel
theorem dX10_agenda_1 : decode cX10_agenda 1 = .ok (.getfield 41, 3) := by decide +kernel
theorem dX10_agenda_4 : decode cX10_agenda 4 = .ok (.aload_n 0, 1) := by decide +kernel
theorem dX10_agenda_5 : decode cX10_agenda 5 = .ok (.iload_n 1, 1) := by decide +kernel
theorem dX10_agenda_6 : decode cX10_agenda 6 = .ok (.invokevirtual 119, 3) := by decide +kernel
theorem dX10_agenda_9 : decode cX10_agenda 9 = .ok (.invokevirtual 226, 3) := by decide +kernel
theorem dX10_agenda_12 : decode cX10_agenda 12 = .ok (.aload_n 0, 1) := by decide +kernel
theorem dX10_agenda_13 : decode cX10_agenda 13 = .ok (.getfield 41, 3) := by decide +kernel
theorem dX10_agenda_16 : decode cX10_agenda 16 = .ok (.iload_n 2, 1) := by decide +kernel
theorem dX10_agenda_17 : decode cX10_agenda 17 = .ok (.invokevirtual 229, 3) := by decide +kernel
theorem dX10_agenda_20 : decode cX10_agenda 20 = .ok (.istore 4, 2) := by decide +kernel
theorem dX10_agenda_22 : decode cX10_agenda 22 = .ok (.iconst 0, 1) := by decide +kernel
theorem dX10_agenda_23 : decode cX10_agenda 23 = .ok (.aload_n 0, 1) := by decide +kernel
theorem dX10_agenda_24 : decode cX10_agenda 24 = .ok (.getfield 41, 3) := by decide +kernel
theorem dX10_agenda_27 : decode cX10_agenda 27 = .ok (.iload_n 3, 1) := by decide +kernel
theorem dX10_agenda_28 : decode cX10_agenda 28 = .ok (.invokevirtual 229, 3) := by decide +kernel
theorem dX10_agenda_31 : decode cX10_agenda 31 = .ok (.iload 4, 2) := by decide +kernel
theorem dX10_agenda_33 : decode cX10_agenda 33 = .ok (.isub, 1) := by decide +kernel
theorem dX10_agenda_34 : decode cX10_agenda 34 = .ok (.invokestatic 232, 3) := by decide +kernel
theorem dX10_agenda_37 : decode cX10_agenda 37 = .ok (.ireturn, 1) := by decide +kernel
def pg_X10_agenda (l : Launch) (g : EG) : List (Nat × ES) := [(0, s_ldP 0), (1, s_getP 9 5), (4, s_ldP 0), (5, s_ldI 1), (6, s_callV l g sg_X10_agenda sg_X10_placeAt 9), (9, s_callV l g sg_X10_agenda sg_X0_listAll 0), (12, s_ldP 0), (13, s_getP 9 5), (16, s_ldI 2), (17, s_callV l g sg_X10_agenda sg_X0_countBefore 0), (20, s_stI 4), (22, s_c (.inl 0)), (23, s_ldP 0), (24, s_getP 9 5), (27, s_ldI 3), (28, s_callV l g sg_X10_agenda sg_X0_countBefore 0), (31, s_ldI 4), (33, s_ii (fun x y => x - y)), (34, s_mmax sg_X10_agenda), (37, s_ireti)]
set_option maxRecDepth 100000 in
theorem ok_X10_agenda {l : Launch} {g : EG} : e_okp l g sg_X10_agenda "CalendarSync" (pg_X10_agenda l g) := fun p e R s m args below meth c ex M0 Q X =>
    e_each_cons (r_aload_n X (k := 0) (i := 0) rfl dX10_agenda_0 rfl)
    (e_each_cons (r_getP X (index := 41) (ci := 9) (k := 5) dX10_agenda_1 (by decide) (by decide) rfl w2_104 rfl)
    (e_each_cons (r_aload_n X (k := 0) (i := 0) rfl dX10_agenda_4 rfl)
    (e_each_cons (r_iload_n X (k := 1) (i := 1) rfl dX10_agenda_5 rfl)
    (e_each_cons (r_callV X rfl (τ := sg_X10_placeAt) (index := 119) (ci := 9) dX10_agenda_6 (by decide) rfl w2_122 w2_124 ws_0 cs_X10_placeAt rfl ⟨by decide, by decide⟩ rfl)
    (e_each_cons (r_callV X rfl (τ := sg_X0_listAll) (index := 226) (ci := 0) dX10_agenda_9 (by decide) rfl w6_23 w6_24 w6_25 cs_X0_listAll rfl ⟨by decide, by decide⟩ rfl)
    (e_each_cons (r_aload_n X (k := 0) (i := 0) rfl dX10_agenda_12 rfl)
    (e_each_cons (r_getP X (index := 41) (ci := 9) (k := 5) dX10_agenda_13 (by decide) (by decide) rfl w2_104 rfl)
    (e_each_cons (r_iload_n X (k := 2) (i := 2) rfl dX10_agenda_16 rfl)
    (e_each_cons (r_callV X rfl (τ := sg_X0_countBefore) (index := 229) (ci := 0) dX10_agenda_17 (by decide) rfl w6_34 w6_35 w6_36 cs_X0_countBefore rfl ⟨by decide, by decide⟩ rfl)
    (e_each_cons (r_istore X (i := 4) dX10_agenda_20 (by decide) rfl)
    (e_each_cons (r_iconst X (n := 0) (v := 0) dX10_agenda_22 (by decide) rfl)
    (e_each_cons (r_aload_n X (k := 0) (i := 0) rfl dX10_agenda_23 rfl)
    (e_each_cons (r_getP X (index := 41) (ci := 9) (k := 5) dX10_agenda_24 (by decide) (by decide) rfl w2_104 rfl)
    (e_each_cons (r_iload_n X (k := 3) (i := 3) rfl dX10_agenda_27 rfl)
    (e_each_cons (r_callV X rfl (τ := sg_X0_countBefore) (index := 229) (ci := 0) dX10_agenda_28 (by decide) rfl w6_34 w6_35 w6_36 cs_X0_countBefore rfl ⟨by decide, by decide⟩ rfl)
    (e_each_cons (r_iload X (i := 4) dX10_agenda_31 rfl)
    (e_each_cons (r_isub X dX10_agenda_33 rfl)
    (e_each_cons (r_mmax X (index := 232) dX10_agenda_34 w6_42 w4_118 w1_16 w4_119 ⟨by decide, by decide⟩ rfl)
    (e_each_cons (r_ireti X dX10_agenda_37 rfl)
    (e_each_nil))))))))))))))))))))
theorem dX10_agendaAt_0 : decode cX10_agendaAt 0 = .ok (.aload_n 0, 1) := by decide +kernel
theorem dX10_agendaAt_1 : decode cX10_agendaAt 1 = .ok (.getfield 41, 3) := by decide +kernel
theorem dX10_agendaAt_4 : decode cX10_agendaAt 4 = .ok (.aload_n 0, 1) := by decide +kernel
theorem dX10_agendaAt_5 : decode cX10_agendaAt 5 = .ok (.iload_n 1, 1) := by decide +kernel
theorem dX10_agendaAt_6 : decode cX10_agendaAt 6 = .ok (.invokevirtual 119, 3) := by decide +kernel
theorem dX10_agendaAt_9 : decode cX10_agendaAt 9 = .ok (.invokevirtual 226, 3) := by decide +kernel
theorem dX10_agendaAt_12 : decode cX10_agendaAt 12 = .ok (.aload_n 0, 1) := by decide +kernel
theorem dX10_agendaAt_13 : decode cX10_agendaAt 13 = .ok (.getfield 41, 3) := by decide +kernel
theorem dX10_agendaAt_16 : decode cX10_agendaAt 16 = .ok (.iload_n 2, 1) := by decide +kernel
theorem dX10_agendaAt_17 : decode cX10_agendaAt 17 = .ok (.invokevirtual 229, 3) := by decide +kernel
theorem dX10_agendaAt_20 : decode cX10_agendaAt 20 = .ok (.istore 5, 2) := by decide +kernel
theorem dX10_agendaAt_22 : decode cX10_agendaAt 22 = .ok (.iload_n 3, 1) := by decide +kernel
theorem dX10_agendaAt_23 : decode cX10_agendaAt 23 = .ok (.iconst 0, 1) := by decide +kernel
theorem dX10_agendaAt_24 : decode cX10_agendaAt 24 = .ok (.aload_n 0, 1) := by decide +kernel
theorem dX10_agendaAt_25 : decode cX10_agendaAt 25 = .ok (.getfield 41, 3) := by decide +kernel
theorem dX10_agendaAt_28 : decode cX10_agendaAt 28 = .ok (.getfield 237, 3) := by decide +kernel
theorem dX10_agendaAt_31 : decode cX10_agendaAt 31 = .ok (.iload 5, 2) := by decide +kernel
theorem dX10_agendaAt_33 : decode cX10_agendaAt 33 = .ok (.isub, 1) := by decide +kernel
theorem dX10_agendaAt_34 : decode cX10_agendaAt 34 = .ok (.iconst 1, 1) := by decide +kernel
theorem dX10_agendaAt_35 : decode cX10_agendaAt 35 = .ok (.isub, 1) := by decide +kernel
theorem dX10_agendaAt_36 : decode cX10_agendaAt 36 = .ok (.invokestatic 63, 3) := by decide +kernel
theorem dX10_agendaAt_39 : decode cX10_agendaAt 39 = .ok (.invokestatic 240, 3) := by decide +kernel
theorem dX10_agendaAt_42 : decode cX10_agendaAt 42 = .ok (.iload 4, 2) := by decide +kernel
theorem dX10_agendaAt_44 : decode cX10_agendaAt 44 = .ok (.tableswitch 64 0 2 #[28, 40, 52], 28) := by decide +kernel
theorem dX10_agendaAt_72 : decode cX10_agendaAt 72 = .ok (.aload_n 0, 1) := by decide +kernel
theorem dX10_agendaAt_73 : decode cX10_agendaAt 73 = .ok (.getfield 41, 3) := by decide +kernel
theorem dX10_agendaAt_76 : decode cX10_agendaAt 76 = .ok (.iload 5, 2) := by decide +kernel
theorem dX10_agendaAt_78 : decode cX10_agendaAt 78 = .ok (.iload_n 3, 1) := by decide +kernel
theorem dX10_agendaAt_79 : decode cX10_agendaAt 79 = .ok (.iadd, 1) := by decide +kernel
theorem dX10_agendaAt_80 : decode cX10_agendaAt 80 = .ok (.invokevirtual 243, 3) := by decide +kernel
theorem dX10_agendaAt_83 : decode cX10_agendaAt 83 = .ok (.ireturn, 1) := by decide +kernel
theorem dX10_agendaAt_84 : decode cX10_agendaAt 84 = .ok (.aload_n 0, 1) := by decide +kernel
theorem dX10_agendaAt_85 : decode cX10_agendaAt 85 = .ok (.getfield 41, 3) := by decide +kernel
theorem dX10_agendaAt_88 : decode cX10_agendaAt 88 = .ok (.iload 5, 2) := by decide +kernel
theorem dX10_agendaAt_90 : decode cX10_agendaAt 90 = .ok (.iload_n 3, 1) := by decide +kernel
theorem dX10_agendaAt_91 : decode cX10_agendaAt 91 = .ok (.iadd, 1) := by decide +kernel
theorem dX10_agendaAt_92 : decode cX10_agendaAt 92 = .ok (.invokevirtual 246, 3) := by decide +kernel
theorem dX10_agendaAt_95 : decode cX10_agendaAt 95 = .ok (.ireturn, 1) := by decide +kernel
theorem dX10_agendaAt_96 : decode cX10_agendaAt 96 = .ok (.aload_n 0, 1) := by decide +kernel
theorem dX10_agendaAt_97 : decode cX10_agendaAt 97 = .ok (.getfield 41, 3) := by decide +kernel
theorem dX10_agendaAt_100 : decode cX10_agendaAt 100 = .ok (.iload 5, 2) := by decide +kernel
theorem dX10_agendaAt_102 : decode cX10_agendaAt 102 = .ok (.iload_n 3, 1) := by decide +kernel
theorem dX10_agendaAt_103 : decode cX10_agendaAt 103 = .ok (.iadd, 1) := by decide +kernel
theorem dX10_agendaAt_104 : decode cX10_agendaAt 104 = .ok (.invokevirtual 249, 3) := by decide +kernel
theorem dX10_agendaAt_107 : decode cX10_agendaAt 107 = .ok (.ireturn, 1) := by decide +kernel
theorem dX10_agendaAt_108 : decode cX10_agendaAt 108 = .ok (.new 141, 3) := by decide +kernel
theorem dX10_agendaAt_111 : decode cX10_agendaAt 111 = .ok (.dup, 1) := by decide +kernel
theorem dX10_agendaAt_112 : decode cX10_agendaAt 112 = .ok (.ldc 114, 2) := by decide +kernel
theorem dX10_agendaAt_114 : decode cX10_agendaAt 114 = .ok (.invokespecial 143, 3) := by decide +kernel
theorem dX10_agendaAt_117 : decode cX10_agendaAt 117 = .ok (.athrow, 1) := by decide +kernel
def pg_X10_agendaAt (l : Launch) (g : EG) : List (Nat × ES) := [(0, s_ldP 0), (1, s_getP 9 5), (4, s_ldP 0), (5, s_ldI 1), (6, s_callV l g sg_X10_agendaAt sg_X10_placeAt 9), (9, s_callV l g sg_X10_agendaAt sg_X0_listAll 0), (12, s_ldP 0), (13, s_getP 9 5), (16, s_ldI 2), (17, s_callV l g sg_X10_agendaAt sg_X0_countBefore 0), (20, s_stI 5), (22, s_ldI 3), (23, s_c (.inl 0)), (24, s_ldP 0), (25, s_getP 9 5), (28, s_getI 0 0), (31, s_ldI 5), (33, s_ii (fun x y => x - y)), (34, s_c (.inl 1)), (35, s_ii (fun x y => x - y)), (36, s_callS l g sg_X10_agendaAt sg_X10_isWithin), (39, s_callS l g sg_X10_agendaAt sg_X10_requireElement), (42, s_ldI 4), (44, s_tab 0 [72, 84, 96] 108), (72, s_ldP 0), (73, s_getP 9 5), (76, s_ldI 5), (78, s_ldI 3), (79, s_ii (fun x y => x + y)), (80, s_callV l g sg_X10_agendaAt sg_X0_eventOf 0), (83, s_ireti), (84, s_ldP 0), (85, s_getP 9 5), (88, s_ldI 5), (90, s_ldI 3), (91, s_ii (fun x y => x + y)), (92, s_callV l g sg_X10_agendaAt sg_X0_dateOf 0), (95, s_ireti), (96, s_ldP 0), (97, s_getP 9 5), (100, s_ldI 5), (102, s_ldI 3), (103, s_ii (fun x y => x + y)), (104, s_callV l g sg_X10_agendaAt sg_X0_momentOf 0), (107, s_ireti), (108, s_throw sg_X10_agendaAt "java/lang/IndexOutOfBoundsException")]
set_option maxRecDepth 100000 in
theorem ok_X10_agendaAt {l : Launch} {g : EG} (hl0 : l.stackTraces = false) : e_okp l g sg_X10_agendaAt "CalendarSync" (pg_X10_agendaAt l g) := fun p e R s m args below meth c ex M0 Q X =>
    e_each_cons (r_aload_n X (k := 0) (i := 0) rfl dX10_agendaAt_0 rfl)
    (e_each_cons (r_getP X (index := 41) (ci := 9) (k := 5) dX10_agendaAt_1 (by decide) (by decide) rfl w2_104 rfl)
    (e_each_cons (r_aload_n X (k := 0) (i := 0) rfl dX10_agendaAt_4 rfl)
    (e_each_cons (r_iload_n X (k := 1) (i := 1) rfl dX10_agendaAt_5 rfl)
    (e_each_cons (r_callV X rfl (τ := sg_X10_placeAt) (index := 119) (ci := 9) dX10_agendaAt_6 (by decide) rfl w2_122 w2_124 ws_0 cs_X10_placeAt rfl ⟨by decide, by decide⟩ rfl)
    (e_each_cons (r_callV X rfl (τ := sg_X0_listAll) (index := 226) (ci := 0) dX10_agendaAt_9 (by decide) rfl w6_23 w6_24 w6_25 cs_X0_listAll rfl ⟨by decide, by decide⟩ rfl)
    (e_each_cons (r_aload_n X (k := 0) (i := 0) rfl dX10_agendaAt_12 rfl)
    (e_each_cons (r_getP X (index := 41) (ci := 9) (k := 5) dX10_agendaAt_13 (by decide) (by decide) rfl w2_104 rfl)
    (e_each_cons (r_iload_n X (k := 2) (i := 2) rfl dX10_agendaAt_16 rfl)
    (e_each_cons (r_callV X rfl (τ := sg_X0_countBefore) (index := 229) (ci := 0) dX10_agendaAt_17 (by decide) rfl w6_34 w6_35 w6_36 cs_X0_countBefore rfl ⟨by decide, by decide⟩ rfl)
    (e_each_cons (r_istore X (i := 5) dX10_agendaAt_20 (by decide) rfl)
    (e_each_cons (r_iload_n X (k := 3) (i := 3) rfl dX10_agendaAt_22 rfl)
    (e_each_cons (r_iconst X (n := 0) (v := 0) dX10_agendaAt_23 (by decide) rfl)
    (e_each_cons (r_aload_n X (k := 0) (i := 0) rfl dX10_agendaAt_24 rfl)
    (e_each_cons (r_getP X (index := 41) (ci := 9) (k := 5) dX10_agendaAt_25 (by decide) (by decide) rfl w2_104 rfl)
    (e_each_cons (r_getI X (index := 237) (ci := 0) (k := 0) dX10_agendaAt_28 (by decide) (by decide) rfl w2_88 rfl)
    (e_each_cons (r_iload X (i := 5) dX10_agendaAt_31 rfl)
    (e_each_cons (r_isub X dX10_agendaAt_33 rfl)
    (e_each_cons (r_iconst X (n := 1) (v := 1) dX10_agendaAt_34 (by decide) rfl)
    (e_each_cons (r_isub X dX10_agendaAt_35 rfl)
    (e_each_cons (r_callS X rfl (τ := sg_X10_isWithin) (index := 63) dX10_agendaAt_36 w2_126 w2_127 cs_X10_isWithin rfl ⟨by decide, by decide⟩ rfl)
    (e_each_cons (r_callS X rfl (τ := sg_X10_requireElement) (index := 240) dX10_agendaAt_39 w3_77 w3_78 cs_X10_requireElement rfl ⟨by decide, by decide⟩ rfl)
    (e_each_cons (r_iload X (i := 4) dX10_agendaAt_42 rfl)
    (e_each_cons (r_tab X (dflt := 64) (lo := 0) (hi := 2) (ts := [72, 84, 96]) (dt := 108) dX10_agendaAt_44 (by decide) (by decide) (by decide))
    (e_each_cons (r_aload_n X (k := 0) (i := 0) rfl dX10_agendaAt_72 rfl)
    (e_each_cons (r_getP X (index := 41) (ci := 9) (k := 5) dX10_agendaAt_73 (by decide) (by decide) rfl w2_104 rfl)
    (e_each_cons (r_iload X (i := 5) dX10_agendaAt_76 rfl)
    (e_each_cons (r_iload_n X (k := 3) (i := 3) rfl dX10_agendaAt_78 rfl)
    (e_each_cons (r_iadd X dX10_agendaAt_79 rfl)
    (e_each_cons (r_callV X rfl (τ := sg_X0_eventOf) (index := 243) (ci := 0) dX10_agendaAt_80 (by decide) rfl w6_48 w6_49 w6_50 cs_X0_eventOf rfl ⟨by decide, by decide⟩ rfl)
    (e_each_cons (r_ireti X dX10_agendaAt_83 rfl)
    (e_each_cons (r_aload_n X (k := 0) (i := 0) rfl dX10_agendaAt_84 rfl)
    (e_each_cons (r_getP X (index := 41) (ci := 9) (k := 5) dX10_agendaAt_85 (by decide) (by decide) rfl w2_104 rfl)
    (e_each_cons (r_iload X (i := 5) dX10_agendaAt_88 rfl)
    (e_each_cons (r_iload_n X (k := 3) (i := 3) rfl dX10_agendaAt_90 rfl)
    (e_each_cons (r_iadd X dX10_agendaAt_91 rfl)
    (e_each_cons (r_callV X rfl (τ := sg_X0_dateOf) (index := 246) (ci := 0) dX10_agendaAt_92 (by decide) rfl w6_52 w6_53 w6_54 cs_X0_dateOf rfl ⟨by decide, by decide⟩ rfl)
    (e_each_cons (r_ireti X dX10_agendaAt_95 rfl)
    (e_each_cons (r_aload_n X (k := 0) (i := 0) rfl dX10_agendaAt_96 rfl)
    (e_each_cons (r_getP X (index := 41) (ci := 9) (k := 5) dX10_agendaAt_97 (by decide) (by decide) rfl w2_104 rfl)
    (e_each_cons (r_iload X (i := 5) dX10_agendaAt_100 rfl)
    (e_each_cons (r_iload_n X (k := 3) (i := 3) rfl dX10_agendaAt_102 rfl)
    (e_each_cons (r_iadd X dX10_agendaAt_103 rfl)
    (e_each_cons (r_callV X rfl (τ := sg_X0_momentOf) (index := 249) (ci := 0) dX10_agendaAt_104 (by decide) rfl w6_56 w6_39 w6_40 cs_X0_momentOf rfl ⟨by decide, by decide⟩ rfl)
    (e_each_cons (r_ireti X dX10_agendaAt_107 rfl)
    (e_each_cons (e_throwS X hl0 rfl (cls := "java/lang/IndexOutOfBoundsException") (text := "no such what") (names := ["java/lang/RuntimeException", "java/lang/Exception"]) (ik := 141) (is := 114) (ic := 143) (k := 13) (by decide) (by decide) w5_176 w1_30 rfl rfl th_143a th_143b th_143c rfl ⟨by decide, by decide⟩ ⟨⟨dX10_agendaAt_108, dX10_agendaAt_111⟩, Or.inl ⟨dX10_agendaAt_112, dX10_agendaAt_114, dX10_agendaAt_117⟩⟩)
    (e_each_nil))))))))))))))))))))))))))))))))))))))))))))))
theorem dX10_clashes_0 : decode cX10_clashes 0 = .ok (.aload_n 0, 1) := by decide +kernel
theorem dX10_clashes_1 : decode cX10_clashes 1 = .ok (.getfield 41, 3) := by decide +kernel
theorem dX10_clashes_4 : decode cX10_clashes 4 = .ok (.aload_n 0, 1) := by decide +kernel
theorem dX10_clashes_5 : decode cX10_clashes 5 = .ok (.iload_n 1, 1) := by decide +kernel
theorem dX10_clashes_6 : decode cX10_clashes 6 = .ok (.invokevirtual 119, 3) := by decide +kernel
theorem dX10_clashes_9 : decode cX10_clashes 9 = .ok (.invokevirtual 226, 3) := by decide +kernel
theorem dX10_clashes_12 : decode cX10_clashes 12 = .ok (.aload_n 0, 1) := by decide +kernel
theorem dX10_clashes_13 : decode cX10_clashes 13 = .ok (.getfield 41, 3) := by decide +kernel
theorem dX10_clashes_16 : decode cX10_clashes 16 = .ok (.invokevirtual 251, 3) := by decide +kernel
theorem dX10_clashes_19 : decode cX10_clashes 19 = .ok (.ireturn, 1) := by decide +kernel
def pg_X10_clashes (l : Launch) (g : EG) : List (Nat × ES) := [(0, s_ldP 0), (1, s_getP 9 5), (4, s_ldP 0), (5, s_ldI 1), (6, s_callV l g sg_X10_clashes sg_X10_placeAt 9), (9, s_callV l g sg_X10_clashes sg_X0_listAll 0), (12, s_ldP 0), (13, s_getP 9 5), (16, s_callV l g sg_X10_clashes sg_X0_countOverlaps 0), (19, s_ireti)]
set_option maxRecDepth 100000 in
theorem ok_X10_clashes {l : Launch} {g : EG} : e_okp l g sg_X10_clashes "CalendarSync" (pg_X10_clashes l g) := fun p e R s m args below meth c ex M0 Q X =>
    e_each_cons (r_aload_n X (k := 0) (i := 0) rfl dX10_clashes_0 rfl)
    (e_each_cons (r_getP X (index := 41) (ci := 9) (k := 5) dX10_clashes_1 (by decide) (by decide) rfl w2_104 rfl)
    (e_each_cons (r_aload_n X (k := 0) (i := 0) rfl dX10_clashes_4 rfl)
    (e_each_cons (r_iload_n X (k := 1) (i := 1) rfl dX10_clashes_5 rfl)
    (e_each_cons (r_callV X rfl (τ := sg_X10_placeAt) (index := 119) (ci := 9) dX10_clashes_6 (by decide) rfl w2_122 w2_124 ws_0 cs_X10_placeAt rfl ⟨by decide, by decide⟩ rfl)
    (e_each_cons (r_callV X rfl (τ := sg_X0_listAll) (index := 226) (ci := 0) dX10_clashes_9 (by decide) rfl w6_23 w6_24 w6_25 cs_X0_listAll rfl ⟨by decide, by decide⟩ rfl)
    (e_each_cons (r_aload_n X (k := 0) (i := 0) rfl dX10_clashes_12 rfl)
    (e_each_cons (r_getP X (index := 41) (ci := 9) (k := 5) dX10_clashes_13 (by decide) (by decide) rfl w2_104 rfl)
    (e_each_cons (r_callV X rfl (τ := sg_X0_countOverlaps) (index := 251) (ci := 0) dX10_clashes_16 (by decide) rfl w6_81 w6_82 w6_83 cs_X0_countOverlaps rfl ⟨by decide, by decide⟩ rfl)
    (e_each_cons (r_ireti X dX10_clashes_19 rfl)
    (e_each_nil))))))))))
theorem dX10_busyShare_0 : decode cX10_busyShare 0 = .ok (.aload_n 0, 1) := by decide +kernel
theorem dX10_busyShare_1 : decode cX10_busyShare 1 = .ok (.iload_n 1, 1) := by decide +kernel
theorem dX10_busyShare_2 : decode cX10_busyShare 2 = .ok (.invokevirtual 119, 3) := by decide +kernel
theorem dX10_busyShare_5 : decode cX10_busyShare 5 = .ok (.astore 4, 2) := by decide +kernel
theorem dX10_busyShare_7 : decode cX10_busyShare 7 = .ok (.iload_n 3, 1) := by decide +kernel
theorem dX10_busyShare_8 : decode cX10_busyShare 8 = .ok (.i2l, 1) := by decide +kernel
theorem dX10_busyShare_9 : decode cX10_busyShare 9 = .ok (.iload_n 2, 1) := by decide +kernel
theorem dX10_busyShare_10 : decode cX10_busyShare 10 = .ok (.i2l, 1) := by decide +kernel
theorem dX10_busyShare_11 : decode cX10_busyShare 11 = .ok (.lsub, 1) := by decide +kernel
theorem dX10_busyShare_12 : decode cX10_busyShare 12 = .ok (.lstore 5, 2) := by decide +kernel
theorem dX10_busyShare_14 : decode cX10_busyShare 14 = .ok (.lload 5, 2) := by decide +kernel
theorem dX10_busyShare_16 : decode cX10_busyShare 16 = .ok (.lconst 1, 1) := by decide +kernel
theorem dX10_busyShare_17 : decode cX10_busyShare 17 = .ok (.lcmp, 1) := by decide +kernel
theorem dX10_busyShare_18 : decode cX10_busyShare 18 = .ok (.ifCond .lt 16, 3) := by decide +kernel
theorem dX10_busyShare_21 : decode cX10_busyShare 21 = .ok (.lload 5, 2) := by decide +kernel
theorem dX10_busyShare_23 : decode cX10_busyShare 23 = .ok (.ldc2_w 370, 3) := by decide +kernel
theorem dX10_busyShare_26 : decode cX10_busyShare 26 = .ok (.lcmp, 1) := by decide +kernel
theorem dX10_busyShare_27 : decode cX10_busyShare 27 = .ok (.ifCond .gt 7, 3) := by decide +kernel
theorem dX10_busyShare_30 : decode cX10_busyShare 30 = .ok (.iconst 1, 1) := by decide +kernel
theorem dX10_busyShare_31 : decode cX10_busyShare 31 = .ok (.goto 4, 3) := by decide +kernel
theorem dX10_busyShare_34 : decode cX10_busyShare 34 = .ok (.iconst 0, 1) := by decide +kernel
theorem dX10_busyShare_35 : decode cX10_busyShare 35 = .ok (.invokestatic 67, 3) := by decide +kernel
theorem dX10_busyShare_38 : decode cX10_busyShare 38 = .ok (.aload_n 0, 1) := by decide +kernel
theorem dX10_busyShare_39 : decode cX10_busyShare 39 = .ok (.getfield 41, 3) := by decide +kernel
theorem dX10_busyShare_42 : decode cX10_busyShare 42 = .ok (.aload 4, 2) := by decide +kernel
theorem dX10_busyShare_44 : decode cX10_busyShare 44 = .ok (.invokevirtual 226, 3) := by decide +kernel
theorem dX10_busyShare_47 : decode cX10_busyShare 47 = .ok (.aload_n 0, 1) := by decide +kernel
theorem dX10_busyShare_48 : decode cX10_busyShare 48 = .ok (.getfield 41, 3) := by decide +kernel
theorem dX10_busyShare_51 : decode cX10_busyShare 51 = .ok (.iload_n 2, 1) := by decide +kernel
theorem dX10_busyShare_52 : decode cX10_busyShare 52 = .ok (.iload_n 3, 1) := by decide +kernel
theorem dX10_busyShare_53 : decode cX10_busyShare 53 = .ok (.invokevirtual 372, 3) := by decide +kernel
theorem dX10_busyShare_56 : decode cX10_busyShare 56 = .ok (.i2f, 1) := by decide +kernel
theorem dX10_busyShare_57 : decode cX10_busyShare 57 = .ok (.lload 5, 2) := by decide +kernel
theorem dX10_busyShare_59 : decode cX10_busyShare 59 = .ok (.l2f, 1) := by decide +kernel
theorem dX10_busyShare_60 : decode cX10_busyShare 60 = .ok (.fdiv, 1) := by decide +kernel
theorem dX10_busyShare_61 : decode cX10_busyShare 61 = .ok (.freturn, 1) := by decide +kernel
def pg_X10_busyShare (l : Launch) (g : EG) : List (Nat × ES) := [(0, s_ldP 0), (1, s_ldI 1), (2, s_callV l g sg_X10_busyShare sg_X10_placeAt 9), (5, s_stP 4), (7, s_ldI 3), (8, s_il (fun x => x.toInt64)), (9, s_ldI 2), (10, s_il (fun x => x.toInt64)), (11, s_ll (fun x y => x - y)), (12, s_stL 5), (14, s_ldL 5), (16, s_c (.inr (.inl 1))), (17, s_lc lg_cmp), (18, s_if_lt 34), (21, s_ldL 5), (23, s_c (.inr (.inl 100000))), (26, s_lc lg_cmp), (27, s_if_gt 34), (30, s_c (.inl 1)), (31, s_goto 35), (34, s_c (.inl 0)), (35, s_callS l g sg_X10_busyShare sg_X10_requireArgument), (38, s_ldP 0), (39, s_getP 9 5), (42, s_ldP 4), (44, s_callV l g sg_X10_busyShare sg_X0_listAll 0), (47, s_ldP 0), (48, s_getP 9 5), (51, s_ldI 2), (52, s_ldI 3), (53, s_callV l g sg_X10_busyShare sg_X0_countMinutes 0), (56, s_if FP.i2f), (57, s_ldL 5), (59, s_lf FP.l2f), (60, s_ff FP.fdiv (fun x y => vf_n32 (FP.fdiv x y))), (61, s_fret)]
set_option maxRecDepth 100000 in
theorem ok_X10_busyShare {l : Launch} {g : EG} : e_okp l g sg_X10_busyShare "CalendarSync" (pg_X10_busyShare l g) := fun p e R s m args below meth c ex M0 Q X =>
    e_each_cons (r_aload_n X (k := 0) (i := 0) rfl dX10_busyShare_0 rfl)
    (e_each_cons (r_iload_n X (k := 1) (i := 1) rfl dX10_busyShare_1 rfl)
    (e_each_cons (r_callV X rfl (τ := sg_X10_placeAt) (index := 119) (ci := 9) dX10_busyShare_2 (by decide) rfl w2_122 w2_124 ws_0 cs_X10_placeAt rfl ⟨by decide, by decide⟩ rfl)
    (e_each_cons (r_astore X (i := 4) dX10_busyShare_5 (by decide) rfl)
    (e_each_cons (r_iload_n X (k := 3) (i := 3) rfl dX10_busyShare_7 rfl)
    (e_each_cons (r_i2l X dX10_busyShare_8 rfl)
    (e_each_cons (r_iload_n X (k := 2) (i := 2) rfl dX10_busyShare_9 rfl)
    (e_each_cons (r_i2l X dX10_busyShare_10 rfl)
    (e_each_cons (r_lsub X dX10_busyShare_11 rfl)
    (e_each_cons (r_lstore X (i := 5) dX10_busyShare_12 (by decide) rfl)
    (e_each_cons (r_lload X (i := 5) dX10_busyShare_14 rfl)
    (e_each_cons (r_lconst X (n := 1) (v := 1) dX10_busyShare_16 (by decide) rfl)
    (e_each_cons (r_lcmp X dX10_busyShare_17 rfl)
    (e_each_cons (r_if_lt X (off := 16) (t := 34) dX10_busyShare_18 (by decide) rfl)
    (e_each_cons (r_lload X (i := 5) dX10_busyShare_21 rfl)
    (e_each_cons (r_ldc2 X (n := 370) (v := 100000) dX10_busyShare_23 w6_65 rfl)
    (e_each_cons (r_lcmp X dX10_busyShare_26 rfl)
    (e_each_cons (r_if_gt X (off := 7) (t := 34) dX10_busyShare_27 (by decide) rfl)
    (e_each_cons (r_iconst X (n := 1) (v := 1) dX10_busyShare_30 (by decide) rfl)
    (e_each_cons (r_goto X (off := 4) (t := 35) dX10_busyShare_31 (by decide))
    (e_each_cons (r_iconst X (n := 0) (v := 0) dX10_busyShare_34 (by decide) rfl)
    (e_each_cons (r_callS X rfl (τ := sg_X10_requireArgument) (index := 67) dX10_busyShare_35 w2_129 w2_130 cs_X10_requireArgument rfl ⟨by decide, by decide⟩ rfl)
    (e_each_cons (r_aload_n X (k := 0) (i := 0) rfl dX10_busyShare_38 rfl)
    (e_each_cons (r_getP X (index := 41) (ci := 9) (k := 5) dX10_busyShare_39 (by decide) (by decide) rfl w2_104 rfl)
    (e_each_cons (r_aload X (i := 4) dX10_busyShare_42 rfl)
    (e_each_cons (r_callV X rfl (τ := sg_X0_listAll) (index := 226) (ci := 0) dX10_busyShare_44 (by decide) rfl w6_23 w6_24 w6_25 cs_X0_listAll rfl ⟨by decide, by decide⟩ rfl)
    (e_each_cons (r_aload_n X (k := 0) (i := 0) rfl dX10_busyShare_47 rfl)
    (e_each_cons (r_getP X (index := 41) (ci := 9) (k := 5) dX10_busyShare_48 (by decide) (by decide) rfl w2_104 rfl)
    (e_each_cons (r_iload_n X (k := 2) (i := 2) rfl dX10_busyShare_51 rfl)
    (e_each_cons (r_iload_n X (k := 3) (i := 3) rfl dX10_busyShare_52 rfl)
    (e_each_cons (r_callV X rfl (τ := sg_X0_countMinutes) (index := 372) (ci := 0) dX10_busyShare_53 (by decide) rfl w6_66 w6_67 w6_68 cs_X0_countMinutes rfl ⟨by decide, by decide⟩ rfl)
    (e_each_cons (r_i2f X dX10_busyShare_56 rfl)
    (e_each_cons (r_lload X (i := 5) dX10_busyShare_57 rfl)
    (e_each_cons (r_l2f X dX10_busyShare_59 rfl)
    (e_each_cons (r_fdiv X dX10_busyShare_60 rfl)
    (e_each_cons (r_fret X dX10_busyShare_61 rfl)
    (e_each_nil))))))))))))))))))))))))))))))))))))
theorem dX10_busy_0 : decode cX10_busy 0 = .ok (.aload_n 0, 1) := by decide +kernel
theorem dX10_busy_1 : decode cX10_busy 1 = .ok (.iload_n 1, 1) := by decide +kernel
theorem dX10_busy_2 : decode cX10_busy 2 = .ok (.iload_n 2, 1) := by decide +kernel
theorem dX10_busy_3 : decode cX10_busy 3 = .ok (.iload_n 3, 1) := by decide +kernel
theorem dX10_busy_4 : decode cX10_busy 4 = .ok (.invokevirtual 254, 3) := by decide +kernel
theorem dX10_busy_7 : decode cX10_busy 7 = .ok (.freturn, 1) := by decide +kernel
def pg_X10_busy (l : Launch) (g : EG) : List (Nat × ES) := [(0, s_ldP 0), (1, s_ldI 1), (2, s_ldI 2), (3, s_ldI 3), (4, s_callV l g sg_X10_busy sg_X10_busyShare 9), (7, s_fret)]
set_option maxRecDepth 100000 in
theorem ok_X10_busy {l : Launch} {g : EG} : e_okp l g sg_X10_busy "CalendarSync" (pg_X10_busy l g) := fun p e R s m args below meth c ex M0 Q X =>
    e_each_cons (r_aload_n X (k := 0) (i := 0) rfl dX10_busy_0 rfl)
    (e_each_cons (r_iload_n X (k := 1) (i := 1) rfl dX10_busy_1 rfl)
    (e_each_cons (r_iload_n X (k := 2) (i := 2) rfl dX10_busy_2 rfl)
    (e_each_cons (r_iload_n X (k := 3) (i := 3) rfl dX10_busy_3 rfl)
    (e_each_cons (r_callV X rfl (τ := sg_X10_busyShare) (index := 254) (ci := 9) dX10_busy_4 (by decide) rfl w6_61 w6_63 ws_25 cs_X10_busyShare rfl ⟨by decide, by decide⟩ rfl)
    (e_each_cons (r_fret X dX10_busy_7 rfl)
    (e_each_nil))))))
theorem dX10_sideAt_0 : decode cX10_sideAt 0 = .ok (.iload_n 1, 1) := by decide +kernel
theorem dX10_sideAt_1 : decode cX10_sideAt 1 = .ok (.invokestatic 220, 3) := by decide +kernel
theorem dX10_sideAt_4 : decode cX10_sideAt 4 = .ok (.invokestatic 67, 3) := by decide +kernel
theorem dX10_sideAt_7 : decode cX10_sideAt 7 = .ok (.aload_n 0, 1) := by decide +kernel
theorem dX10_sideAt_8 : decode cX10_sideAt 8 = .ok (.getfield 19, 3) := by decide +kernel
theorem dX10_sideAt_11 : decode cX10_sideAt 11 = .ok (.getfield 376, 3) := by decide +kernel
theorem dX10_sideAt_14 : decode cX10_sideAt 14 = .ok (.iload_n 1, 1) := by decide +kernel
theorem dX10_sideAt_15 : decode cX10_sideAt 15 = .ok (.aaload, 1) := by decide +kernel
theorem dX10_sideAt_16 : decode cX10_sideAt 16 = .ok (.areturn, 1) := by decide +kernel
def pg_X10_sideAt (l : Launch) (g : EG) : List (Nat × ES) := [(0, s_ldI 1), (1, s_callS l g sg_X10_sideAt sg_X10_isSide), (4, s_callS l g sg_X10_sideAt sg_X10_requireArgument), (7, s_ldP 0), (8, s_getP 9 1), (11, s_getP 2 2), (14, s_ldI 1), (15, s_aald), (16, s_aret)]
set_option maxRecDepth 100000 in
theorem ok_X10_sideAt {l : Launch} {g : EG} : e_okp l g sg_X10_sideAt "CalendarSync" (pg_X10_sideAt l g) := fun p e R s m args below meth c ex M0 Q X =>
    e_each_cons (r_iload_n X (k := 1) (i := 1) rfl dX10_sideAt_0 rfl)
    (e_each_cons (r_callS X rfl (τ := sg_X10_isSide) (index := 220) dX10_sideAt_1 w2_212 w2_213 cs_X10_isSide rfl ⟨by decide, by decide⟩ rfl)
    (e_each_cons (r_callS X rfl (τ := sg_X10_requireArgument) (index := 67) dX10_sideAt_4 w2_129 w2_130 cs_X10_requireArgument rfl ⟨by decide, by decide⟩ rfl)
    (e_each_cons (r_aload_n X (k := 0) (i := 0) rfl dX10_sideAt_7 rfl)
    (e_each_cons (r_getP X (index := 19) (ci := 9) (k := 1) dX10_sideAt_8 (by decide) (by decide) rfl w2_100 rfl)
    (e_each_cons (r_getP X (index := 376) (ci := 2) (k := 2) dX10_sideAt_11 (by decide) (by decide) rfl w2_50 rfl)
    (e_each_cons (r_iload_n X (k := 1) (i := 1) rfl dX10_sideAt_14 rfl)
    (e_each_cons (r_aald X dX10_sideAt_15 rfl)
    (e_each_cons (r_aret X dX10_sideAt_16 rfl)
    (e_each_nil)))))))))
theorem dX10_isSame_0 : decode cX10_isSame 0 = .ok (.aload_n 0, 1) := by decide +kernel
theorem dX10_isSame_1 : decode cX10_isSame 1 = .ok (.iload_n 1, 1) := by decide +kernel
theorem dX10_isSame_2 : decode cX10_isSame 2 = .ok (.invokevirtual 262, 3) := by decide +kernel
theorem dX10_isSame_5 : decode cX10_isSame 5 = .ok (.getfield 266, 3) := by decide +kernel
theorem dX10_isSame_8 : decode cX10_isSame 8 = .ok (.astore_n 2, 1) := by decide +kernel
theorem dX10_isSame_9 : decode cX10_isSame 9 = .ok (.iconst 0, 1) := by decide +kernel
theorem dX10_isSame_10 : decode cX10_isSame 10 = .ok (.istore_n 3, 1) := by decide +kernel
theorem dX10_isSame_11 : decode cX10_isSame 11 = .ok (.iload_n 3, 1) := by decide +kernel
theorem dX10_isSame_12 : decode cX10_isSame 12 = .ok (.bipush 8, 2) := by decide +kernel
theorem dX10_isSame_14 : decode cX10_isSame 14 = .ok (.if_icmp .ge 26, 3) := by decide +kernel
theorem dX10_isSame_17 : decode cX10_isSame 17 = .ok (.aload_n 2, 1) := by decide +kernel
theorem dX10_isSame_18 : decode cX10_isSame 18 = .ok (.aload_n 0, 1) := by decide +kernel
theorem dX10_isSame_19 : decode cX10_isSame 19 = .ok (.getfield 19, 3) := by decide +kernel
theorem dX10_isSame_22 : decode cX10_isSame 22 = .ok (.getfield 271, 3) := by decide +kernel
theorem dX10_isSame_25 : decode cX10_isSame 25 = .ok (.iload_n 3, 1) := by decide +kernel
theorem dX10_isSame_26 : decode cX10_isSame 26 = .ok (.invokevirtual 274, 3) := by decide +kernel
theorem dX10_isSame_29 : decode cX10_isSame 29 = .ok (.ifCond .ne 5, 3) := by decide +kernel
theorem dX10_isSame_32 : decode cX10_isSame 32 = .ok (.iconst 0, 1) := by decide +kernel
theorem dX10_isSame_33 : decode cX10_isSame 33 = .ok (.ireturn, 1) := by decide +kernel
theorem dX10_isSame_34 : decode cX10_isSame 34 = .ok (.iinc 3 1, 3) := by decide +kernel
theorem dX10_isSame_37 : decode cX10_isSame 37 = .ok (.goto (-26), 3) := by decide +kernel
theorem dX10_isSame_40 : decode cX10_isSame 40 = .ok (.iconst 1, 1) := by decide +kernel
theorem dX10_isSame_41 : decode cX10_isSame 41 = .ok (.ireturn, 1) := by decide +kernel
def pg_X10_isSame (l : Launch) (g : EG) : List (Nat × ES) := [(0, s_ldP 0), (1, s_ldI 1), (2, s_callV l g sg_X10_isSame sg_X10_sideAt 9), (5, s_getP 6 0), (8, s_stP 2), (9, s_c (.inl 0)), (10, s_stI 3), (11, s_ldI 3), (12, s_c (.inl 8)), (14, s_icmp_ge 40), (17, s_ldP 2), (18, s_ldP 0), (19, s_getP 9 1), (22, s_getP 2 1), (25, s_ldI 3), (26, s_callV l g sg_X10_isSame sg_X5_showsSame 4), (29, s_if_ne 34), (32, s_c (.inl 0)), (33, s_iretz), (34, s_iinc 3 1), (37, s_goto 11), (40, s_c (.inl 1)), (41, s_iretz)]
set_option maxRecDepth 100000 in
theorem ok_X10_isSame {l : Launch} {g : EG} : e_okp l g sg_X10_isSame "CalendarSync" (pg_X10_isSame l g) := fun p e R s m args below meth c ex M0 Q X =>
    e_each_cons (r_aload_n X (k := 0) (i := 0) rfl dX10_isSame_0 rfl)
    (e_each_cons (r_iload_n X (k := 1) (i := 1) rfl dX10_isSame_1 rfl)
    (e_each_cons (r_callV X rfl (τ := sg_X10_sideAt) (index := 262) (ci := 9) dX10_isSame_2 (by decide) rfl w2_208 w2_210 ws_2 cs_X10_sideAt rfl ⟨by decide, by decide⟩ rfl)
    (e_each_cons (r_getP X (index := 266) (ci := 6) (k := 0) dX10_isSame_5 (by decide) (by decide) rfl w2_21 rfl)
    (e_each_cons (r_astore_n X (k := 2) (i := 2) rfl dX10_isSame_8 (by decide) rfl)
    (e_each_cons (r_iconst X (n := 0) (v := 0) dX10_isSame_9 (by decide) rfl)
    (e_each_cons (r_istore_n X (k := 3) (i := 3) rfl dX10_isSame_10 (by decide) rfl)
    (e_each_cons (r_iload_n X (k := 3) (i := 3) rfl dX10_isSame_11 rfl)
    (e_each_cons (r_bipush X (n := 8) (v := 8) dX10_isSame_12 (by decide) rfl)
    (e_each_cons (r_icmp_ge X (off := 26) (t := 40) dX10_isSame_14 (by decide) rfl)
    (e_each_cons (r_aload_n X (k := 2) (i := 2) rfl dX10_isSame_17 rfl)
    (e_each_cons (r_aload_n X (k := 0) (i := 0) rfl dX10_isSame_18 rfl)
    (e_each_cons (r_getP X (index := 19) (ci := 9) (k := 1) dX10_isSame_19 (by decide) (by decide) rfl w2_100 rfl)
    (e_each_cons (r_getP X (index := 271) (ci := 2) (k := 1) dX10_isSame_22 (by decide) (by decide) rfl w2_48 rfl)
    (e_each_cons (r_iload_n X (k := 3) (i := 3) rfl dX10_isSame_25 rfl)
    (e_each_cons (r_callV X rfl (τ := sg_X5_showsSame) (index := 274) (ci := 4) dX10_isSame_26 (by decide) rfl w2_215 w2_216 w2_217 cs_X5_showsSame rfl ⟨by decide, by decide⟩ rfl)
    (e_each_cons (r_if_ne X (off := 5) (t := 34) dX10_isSame_29 (by decide) rfl)
    (e_each_cons (r_iconst X (n := 0) (v := 0) dX10_isSame_32 (by decide) rfl)
    (e_each_cons (r_iretz X dX10_isSame_33 rfl)
    (e_each_cons (r_iinc X (i := 3) (n := 1) (d := 1) dX10_isSame_34 (by decide) (by decide) rfl)
    (e_each_cons (r_goto X (off := (-26)) (t := 11) dX10_isSame_37 (by decide))
    (e_each_cons (r_iconst X (n := 1) (v := 1) dX10_isSame_40 (by decide) rfl)
    (e_each_cons (r_iretz X dX10_isSame_41 rfl)
    (e_each_nil)))))))))))))))))))))))
theorem dX10_clock_0 : decode cX10_clock 0 = .ok (.aload_n 0, 1) := by decide +kernel
theorem dX10_clock_1 : decode cX10_clock 1 = .ok (.getfield 19, 3) := by decide +kernel
theorem dX10_clock_4 : decode cX10_clock 4 = .ok (.getfield 278, 3) := by decide +kernel
theorem dX10_clock_7 : decode cX10_clock 7 = .ok (.ireturn, 1) := by decide +kernel
def pg_X10_clock (l : Launch) (g : EG) : List (Nat × ES) := [(0, s_ldP 0), (1, s_getP 9 1), (4, s_getI 2 0), (7, s_ireti)]
set_option maxRecDepth 100000 in
theorem ok_X10_clock {l : Launch} {g : EG} : e_okp l g sg_X10_clock "CalendarSync" (pg_X10_clock l g) := fun p e R s m args below meth c ex M0 Q X =>
    e_each_cons (r_aload_n X (k := 0) (i := 0) rfl dX10_clock_0 rfl)
    (e_each_cons (r_getP X (index := 19) (ci := 9) (k := 1) dX10_clock_1 (by decide) (by decide) rfl w2_100 rfl)
    (e_each_cons (r_getI X (index := 278) (ci := 2) (k := 0) dX10_clock_4 (by decide) (by decide) rfl w2_46 rfl)
    (e_each_cons (r_ireti X dX10_clock_7 rfl)
    (e_each_nil))))
theorem dX10_side_0 : decode cX10_side 0 = .ok (.aload_n 0, 1) := by decide +kernel
theorem dX10_side_1 : decode cX10_side 1 = .ok (.iload_n 1, 1) := by decide +kernel
theorem dX10_side_2 : decode cX10_side 2 = .ok (.invokevirtual 262, 3) := by decide +kernel
theorem dX10_side_5 : decode cX10_side 5 = .ok (.astore_n 3, 1) := by decide +kernel
theorem dX10_side_6 : decode cX10_side 6 = .ok (.iload_n 2, 1) := by decide +kernel
theorem dX10_side_7 : decode cX10_side 7 = .ok (.tableswitch 80 0 4 #[33, 38, 43, 48, 68], 33) := by decide +kernel
theorem dX10_side_40 : decode cX10_side 40 = .ok (.aload_n 3, 1) := by decide +kernel
theorem dX10_side_41 : decode cX10_side 41 = .ok (.getfield 281, 3) := by decide +kernel
theorem dX10_side_44 : decode cX10_side 44 = .ok (.ireturn, 1) := by decide +kernel
theorem dX10_side_45 : decode cX10_side 45 = .ok (.aload_n 3, 1) := by decide +kernel
theorem dX10_side_46 : decode cX10_side 46 = .ok (.getfield 284, 3) := by decide +kernel
theorem dX10_side_49 : decode cX10_side 49 = .ok (.ireturn, 1) := by decide +kernel
theorem dX10_side_50 : decode cX10_side 50 = .ok (.aload_n 3, 1) := by decide +kernel
theorem dX10_side_51 : decode cX10_side 51 = .ok (.getfield 287, 3) := by decide +kernel
theorem dX10_side_54 : decode cX10_side 54 = .ok (.ireturn, 1) := by decide +kernel
theorem dX10_side_55 : decode cX10_side 55 = .ok (.aload_n 0, 1) := by decide +kernel
theorem dX10_side_56 : decode cX10_side 56 = .ok (.getfield 19, 3) := by decide +kernel
theorem dX10_side_59 : decode cX10_side 59 = .ok (.aload_n 3, 1) := by decide +kernel
theorem dX10_side_60 : decode cX10_side 60 = .ok (.getfield 281, 3) := by decide +kernel
theorem dX10_side_63 : decode cX10_side 63 = .ok (.invokevirtual 290, 3) := by decide +kernel
theorem dX10_side_66 : decode cX10_side 66 = .ok (.ifCond .eq 7, 3) := by decide +kernel
theorem dX10_side_69 : decode cX10_side 69 = .ok (.iconst 1, 1) := by decide +kernel
theorem dX10_side_70 : decode cX10_side 70 = .ok (.goto 4, 3) := by decide +kernel
theorem dX10_side_73 : decode cX10_side 73 = .ok (.iconst 0, 1) := by decide +kernel
theorem dX10_side_74 : decode cX10_side 74 = .ok (.ireturn, 1) := by decide +kernel
theorem dX10_side_75 : decode cX10_side 75 = .ok (.aload_n 0, 1) := by decide +kernel
theorem dX10_side_76 : decode cX10_side 76 = .ok (.getfield 19, 3) := by decide +kernel
theorem dX10_side_79 : decode cX10_side 79 = .ok (.aload_n 3, 1) := by decide +kernel
theorem dX10_side_80 : decode cX10_side 80 = .ok (.getfield 281, 3) := by decide +kernel
theorem dX10_side_83 : decode cX10_side 83 = .ok (.invokevirtual 293, 3) := by decide +kernel
theorem dX10_side_86 : decode cX10_side 86 = .ok (.ireturn, 1) := by decide +kernel
theorem dX10_side_87 : decode cX10_side 87 = .ok (.new 112, 3) := by decide +kernel
theorem dX10_side_90 : decode cX10_side 90 = .ok (.dup, 1) := by decide +kernel
theorem dX10_side_91 : decode cX10_side 91 = .ok (.ldc 114, 2) := by decide +kernel
theorem dX10_side_93 : decode cX10_side 93 = .ok (.invokespecial 116, 3) := by decide +kernel
theorem dX10_side_96 : decode cX10_side 96 = .ok (.athrow, 1) := by decide +kernel
def pg_X10_side (l : Launch) (g : EG) : List (Nat × ES) := [(0, s_ldP 0), (1, s_ldI 1), (2, s_callV l g sg_X10_side sg_X10_sideAt 9), (5, s_stP 3), (6, s_ldI 2), (7, s_tab 0 [40, 45, 50, 55, 75] 87), (40, s_ldP 3), (41, s_getI 6 1), (44, s_ireti), (45, s_ldP 3), (46, s_getI 6 2), (49, s_ireti), (50, s_ldP 3), (51, s_getI 6 3), (54, s_ireti), (55, s_ldP 0), (56, s_getP 9 1), (59, s_ldP 3), (60, s_getI 6 1), (63, s_callV l g sg_X10_side sg_X3_isTooOld 2), (66, s_if_eq 73), (69, s_c (.inl 1)), (70, s_goto 74), (73, s_c (.inl 0)), (74, s_ireti), (75, s_ldP 0), (76, s_getP 9 1), (79, s_ldP 3), (80, s_getI 6 1), (83, s_callV l g sg_X10_side sg_X3_toldBehind 2), (86, s_ireti), (87, s_throw sg_X10_side "java/lang/IllegalArgumentException")]
set_option maxRecDepth 100000 in
theorem ok_X10_side {l : Launch} {g : EG} (hl0 : l.stackTraces = false) : e_okp l g sg_X10_side "CalendarSync" (pg_X10_side l g) := fun p e R s m args below meth c ex M0 Q X =>
    e_each_cons (r_aload_n X (k := 0) (i := 0) rfl dX10_side_0 rfl)
    (e_each_cons (r_iload_n X (k := 1) (i := 1) rfl dX10_side_1 rfl)
    (e_each_cons (r_callV X rfl (τ := sg_X10_sideAt) (index := 262) (ci := 9) dX10_side_2 (by decide) rfl w2_208 w2_210 ws_2 cs_X10_sideAt rfl ⟨by decide, by decide⟩ rfl)
    (e_each_cons (r_astore_n X (k := 3) (i := 3) rfl dX10_side_5 (by decide) rfl)
    (e_each_cons (r_iload_n X (k := 2) (i := 2) rfl dX10_side_6 rfl)
    (e_each_cons (r_tab X (dflt := 80) (lo := 0) (hi := 4) (ts := [40, 45, 50, 55, 75]) (dt := 87) dX10_side_7 (by decide) (by decide) (by decide))
    (e_each_cons (r_aload_n X (k := 3) (i := 3) rfl dX10_side_40 rfl)
    (e_each_cons (r_getI X (index := 281) (ci := 6) (k := 1) dX10_side_41 (by decide) (by decide) rfl w2_24 rfl)
    (e_each_cons (r_ireti X dX10_side_44 rfl)
    (e_each_cons (r_aload_n X (k := 3) (i := 3) rfl dX10_side_45 rfl)
    (e_each_cons (r_getI X (index := 284) (ci := 6) (k := 2) dX10_side_46 (by decide) (by decide) rfl w2_27 rfl)
    (e_each_cons (r_ireti X dX10_side_49 rfl)
    (e_each_cons (r_aload_n X (k := 3) (i := 3) rfl dX10_side_50 rfl)
    (e_each_cons (r_getI X (index := 287) (ci := 6) (k := 3) dX10_side_51 (by decide) (by decide) rfl w2_30 rfl)
    (e_each_cons (r_ireti X dX10_side_54 rfl)
    (e_each_cons (r_aload_n X (k := 0) (i := 0) rfl dX10_side_55 rfl)
    (e_each_cons (r_getP X (index := 19) (ci := 9) (k := 1) dX10_side_56 (by decide) (by decide) rfl w2_100 rfl)
    (e_each_cons (r_aload_n X (k := 3) (i := 3) rfl dX10_side_59 rfl)
    (e_each_cons (r_getI X (index := 281) (ci := 6) (k := 1) dX10_side_60 (by decide) (by decide) rfl w2_24 rfl)
    (e_each_cons (r_callV X rfl (τ := sg_X3_isTooOld) (index := 290) (ci := 2) dX10_side_63 (by decide) rfl w3_28 w3_29 w3_30 cs_X3_isTooOld rfl ⟨by decide, by decide⟩ rfl)
    (e_each_cons (r_if_eq X (off := 7) (t := 73) dX10_side_66 (by decide) rfl)
    (e_each_cons (r_iconst X (n := 1) (v := 1) dX10_side_69 (by decide) rfl)
    (e_each_cons (r_goto X (off := 4) (t := 74) dX10_side_70 (by decide))
    (e_each_cons (r_iconst X (n := 0) (v := 0) dX10_side_73 (by decide) rfl)
    (e_each_cons (r_ireti X dX10_side_74 rfl)
    (e_each_cons (r_aload_n X (k := 0) (i := 0) rfl dX10_side_75 rfl)
    (e_each_cons (r_getP X (index := 19) (ci := 9) (k := 1) dX10_side_76 (by decide) (by decide) rfl w2_100 rfl)
    (e_each_cons (r_aload_n X (k := 3) (i := 3) rfl dX10_side_79 rfl)
    (e_each_cons (r_getI X (index := 281) (ci := 6) (k := 1) dX10_side_80 (by decide) (by decide) rfl w2_24 rfl)
    (e_each_cons (r_callV X rfl (τ := sg_X3_toldBehind) (index := 293) (ci := 2) dX10_side_83 (by decide) rfl w3_32 w3_33 w3_34 cs_X3_toldBehind rfl ⟨by decide, by decide⟩ rfl)
    (e_each_cons (r_ireti X dX10_side_86 rfl)
    (e_each_cons (e_throwS X hl0 rfl (cls := "java/lang/IllegalArgumentException") (text := "no such what") (names := ["java/lang/RuntimeException", "java/lang/Exception"]) (ik := 112) (is := 114) (ic := 116) (k := 13) (by decide) (by decide) w2_132 w1_27 rfl rfl th_116a th_116b th_116c rfl ⟨by decide, by decide⟩ ⟨⟨dX10_side_87, dX10_side_90⟩, Or.inl ⟨dX10_side_91, dX10_side_93, dX10_side_96⟩⟩)
    (e_each_nil))))))))))))))))))))))))))))))))
theorem dX10_account_0 : decode cX10_account 0 = .ok (.aload_n 0, 1) := by decide +kernel
theorem dX10_account_1 : decode cX10_account 1 = .ok (.iload_n 1, 1) := by decide +kernel
theorem dX10_account_2 : decode cX10_account 2 = .ok (.invokevirtual 262, 3) := by decide +kernel
theorem dX10_account_5 : decode cX10_account 5 = .ok (.astore_n 3, 1) := by decide +kernel
theorem dX10_account_6 : decode cX10_account 6 = .ok (.iload_n 2, 1) := by decide +kernel
theorem dX10_account_7 : decode cX10_account 7 = .ok (.iconst 0, 1) := by decide +kernel
theorem dX10_account_8 : decode cX10_account 8 = .ok (.iconst 5, 1) := by decide +kernel
theorem dX10_account_9 : decode cX10_account 9 = .ok (.invokestatic 63, 3) := by decide +kernel
theorem dX10_account_12 : decode cX10_account 12 = .ok (.invokestatic 67, 3) := by decide +kernel
theorem dX10_account_15 : decode cX10_account 15 = .ok (.aload_n 3, 1) := by decide +kernel
theorem dX10_account_16 : decode cX10_account 16 = .ok (.getfield 296, 3) := by decide +kernel
theorem dX10_account_19 : decode cX10_account 19 = .ok (.iload_n 2, 1) := by decide +kernel
theorem dX10_account_20 : decode cX10_account 20 = .ok (.iaload, 1) := by decide +kernel
theorem dX10_account_21 : decode cX10_account 21 = .ok (.ireturn, 1) := by decide +kernel
def pg_X10_account (l : Launch) (g : EG) : List (Nat × ES) := [(0, s_ldP 0), (1, s_ldI 1), (2, s_callV l g sg_X10_account sg_X10_sideAt 9), (5, s_stP 3), (6, s_ldI 2), (7, s_c (.inl 0)), (8, s_c (.inl 5)), (9, s_callS l g sg_X10_account sg_X10_isWithin), (12, s_callS l g sg_X10_account sg_X10_requireArgument), (15, s_ldP 3), (16, s_getP 6 4), (19, s_ldI 2), (20, s_iald), (21, s_ireti)]
set_option maxRecDepth 100000 in
theorem ok_X10_account {l : Launch} {g : EG} : e_okp l g sg_X10_account "CalendarSync" (pg_X10_account l g) := fun p e R s m args below meth c ex M0 Q X =>
    e_each_cons (r_aload_n X (k := 0) (i := 0) rfl dX10_account_0 rfl)
    (e_each_cons (r_iload_n X (k := 1) (i := 1) rfl dX10_account_1 rfl)
    (e_each_cons (r_callV X rfl (τ := sg_X10_sideAt) (index := 262) (ci := 9) dX10_account_2 (by decide) rfl w2_208 w2_210 ws_2 cs_X10_sideAt rfl ⟨by decide, by decide⟩ rfl)
    (e_each_cons (r_astore_n X (k := 3) (i := 3) rfl dX10_account_5 (by decide) rfl)
    (e_each_cons (r_iload_n X (k := 2) (i := 2) rfl dX10_account_6 rfl)
    (e_each_cons (r_iconst X (n := 0) (v := 0) dX10_account_7 (by decide) rfl)
    (e_each_cons (r_iconst X (n := 5) (v := 5) dX10_account_8 (by decide) rfl)
    (e_each_cons (r_callS X rfl (τ := sg_X10_isWithin) (index := 63) dX10_account_9 w2_126 w2_127 cs_X10_isWithin rfl ⟨by decide, by decide⟩ rfl)
    (e_each_cons (r_callS X rfl (τ := sg_X10_requireArgument) (index := 67) dX10_account_12 w2_129 w2_130 cs_X10_requireArgument rfl ⟨by decide, by decide⟩ rfl)
    (e_each_cons (r_aload_n X (k := 3) (i := 3) rfl dX10_account_15 rfl)
    (e_each_cons (r_getP X (index := 296) (ci := 6) (k := 4) dX10_account_16 (by decide) (by decide) rfl w2_33 rfl)
    (e_each_cons (r_iload_n X (k := 2) (i := 2) rfl dX10_account_19 rfl)
    (e_each_cons (r_iald X dX10_account_20 rfl)
    (e_each_cons (r_ireti X dX10_account_21 rfl)
    (e_each_nil))))))))))))))
theorem dX10_create_0 : decode cX10_create 0 = .ok (.aload_n 0, 1) := by decide +kernel
theorem dX10_create_1 : decode cX10_create 1 = .ok (.iload_n 1, 1) := by decide +kernel
theorem dX10_create_2 : decode cX10_create 2 = .ok (.invokevirtual 262, 3) := by decide +kernel
theorem dX10_create_5 : decode cX10_create 5 = .ok (.astore 7, 2) := by decide +kernel
theorem dX10_create_7 : decode cX10_create 7 = .ok (.iload_n 2, 1) := by decide +kernel
theorem dX10_create_8 : decode cX10_create 8 = .ok (.iconst 0, 1) := by decide +kernel
theorem dX10_create_9 : decode cX10_create 9 = .ok (.bipush 7, 2) := by decide +kernel
theorem dX10_create_11 : decode cX10_create 11 = .ok (.invokestatic 63, 3) := by decide +kernel
theorem dX10_create_14 : decode cX10_create 14 = .ok (.invokestatic 67, 3) := by decide +kernel
theorem dX10_create_17 : decode cX10_create 17 = .ok (.iload_n 3, 1) := by decide +kernel
theorem dX10_create_18 : decode cX10_create 18 = .ok (.invokestatic 94, 3) := by decide +kernel
theorem dX10_create_21 : decode cX10_create 21 = .ok (.ifCond .eq 15, 3) := by decide +kernel
theorem dX10_create_24 : decode cX10_create 24 = .ok (.iload 4, 2) := by decide +kernel
theorem dX10_create_26 : decode cX10_create 26 = .ok (.invokestatic 144, 3) := by decide +kernel
theorem dX10_create_29 : decode cX10_create 29 = .ok (.ifCond .eq 7, 3) := by decide +kernel
theorem dX10_create_32 : decode cX10_create 32 = .ok (.iconst 1, 1) := by decide +kernel
theorem dX10_create_33 : decode cX10_create 33 = .ok (.goto 4, 3) := by decide +kernel
theorem dX10_create_36 : decode cX10_create 36 = .ok (.iconst 0, 1) := by decide +kernel
theorem dX10_create_37 : decode cX10_create 37 = .ok (.invokestatic 67, 3) := by decide +kernel
theorem dX10_create_40 : decode cX10_create 40 = .ok (.iload 5, 2) := by decide +kernel
theorem dX10_create_42 : decode cX10_create 42 = .ok (.iconst 1, 1) := by decide +kernel
theorem dX10_create_43 : decode cX10_create 43 = .ok (.sipush 1440, 3) := by decide +kernel
theorem dX10_create_46 : decode cX10_create 46 = .ok (.invokestatic 63, 3) := by decide +kernel
theorem dX10_create_49 : decode cX10_create 49 = .ok (.invokestatic 67, 3) := by decide +kernel
theorem dX10_create_52 : decode cX10_create 52 = .ok (.aload 7, 2) := by decide +kernel
theorem dX10_create_54 : decode cX10_create 54 = .ok (.getfield 266, 3) := by decide +kernel
theorem dX10_create_57 : decode cX10_create 57 = .ok (.iload 6, 2) := by decide +kernel
theorem dX10_create_59 : decode cX10_create 59 = .ok (.invokevirtual 299, 3) := by decide +kernel
theorem dX10_create_62 : decode cX10_create 62 = .ok (.invokestatic 240, 3) := by decide +kernel
theorem dX10_create_65 : decode cX10_create 65 = .ok (.aload 7, 2) := by decide +kernel
theorem dX10_create_67 : decode cX10_create 67 = .ok (.getfield 266, 3) := by decide +kernel
theorem dX10_create_70 : decode cX10_create 70 = .ok (.iload_n 2, 1) := by decide +kernel
theorem dX10_create_71 : decode cX10_create 71 = .ok (.invokevirtual 302, 3) := by decide +kernel
theorem dX10_create_74 : decode cX10_create 74 = .ok (.ifCond .ne 7, 3) := by decide +kernel
theorem dX10_create_77 : decode cX10_create 77 = .ok (.iconst 1, 1) := by decide +kernel
theorem dX10_create_78 : decode cX10_create 78 = .ok (.goto 4, 3) := by decide +kernel
theorem dX10_create_81 : decode cX10_create 81 = .ok (.iconst 0, 1) := by decide +kernel
theorem dX10_create_82 : decode cX10_create 82 = .ok (.invokestatic 55, 3) := by decide +kernel
theorem dX10_create_85 : decode cX10_create 85 = .ok (.aload_n 0, 1) := by decide +kernel
theorem dX10_create_86 : decode cX10_create 86 = .ok (.getfield 26, 3) := by decide +kernel
theorem dX10_create_89 : decode cX10_create 89 = .ok (.aload_n 0, 1) := by decide +kernel
theorem dX10_create_90 : decode cX10_create 90 = .ok (.getfield 19, 3) := by decide +kernel
theorem dX10_create_93 : decode cX10_create 93 = .ok (.invokevirtual 305, 3) := by decide +kernel
theorem dX10_create_96 : decode cX10_create 96 = .ok (.aload 7, 2) := by decide +kernel
theorem dX10_create_98 : decode cX10_create 98 = .ok (.getfield 266, 3) := by decide +kernel
theorem dX10_create_101 : decode cX10_create 101 = .ok (.getfield 309, 3) := by decide +kernel
theorem dX10_create_104 : decode cX10_create 104 = .ok (.iload_n 2, 1) := by decide +kernel
theorem dX10_create_105 : decode cX10_create 105 = .ok (.aaload, 1) := by decide +kernel
theorem dX10_create_106 : decode cX10_create 106 = .ok (.iload_n 3, 1) := by decide +kernel
theorem dX10_create_107 : decode cX10_create 107 = .ok (.iload 4, 2) := by decide +kernel
theorem dX10_create_109 : decode cX10_create 109 = .ok (.iload 5, 2) := by decide +kernel
theorem dX10_create_111 : decode cX10_create 111 = .ok (.iload 6, 2) := by decide +kernel
theorem dX10_create_113 : decode cX10_create 113 = .ok (.invokevirtual 313, 3) := by decide +kernel
theorem dX10_create_116 : decode cX10_create 116 = .ok (.aload 7, 2) := by decide +kernel
theorem dX10_create_118 : decode cX10_create 118 = .ok (.iload_n 2, 1) := by decide +kernel
theorem dX10_create_119 : decode cX10_create 119 = .ok (.invokevirtual 317, 3) := by decide +kernel
theorem dX10_create_122 : decode cX10_create 122 = .ok (.aload 7, 2) := by decide +kernel
theorem dX10_create_124 : decode cX10_create 124 = .ok (.getfield 266, 3) := by decide +kernel
theorem dX10_create_127 : decode cX10_create 127 = .ok (.invokevirtual 151, 3) := by decide +kernel
theorem dX10_create_130 : decode cX10_create 130 = .ok (.invokestatic 320, 3) := by decide +kernel
theorem dX10_create_133 : decode cX10_create 133 = .ok (.ireturn, 1) := by decide +kernel
def pg_X10_create (l : Launch) (g : EG) : List (Nat × ES) := [(0, s_ldP 0), (1, s_ldI 1), (2, s_callV l g sg_X10_create sg_X10_sideAt 9), (5, s_stP 7), (7, s_ldI 2), (8, s_c (.inl 0)), (9, s_c (.inl 7)), (11, s_callS l g sg_X10_create sg_X10_isWithin), (14, s_callS l g sg_X10_create sg_X10_requireArgument), (17, s_ldI 3), (18, s_callS l g sg_X10_create sg_X1_isDay), (21, s_if_eq 36), (24, s_ldI 4), (26, s_callS l g sg_X10_create sg_X1_isMinute), (29, s_if_eq 36), (32, s_c (.inl 1)), (33, s_goto 37), (36, s_c (.inl 0)), (37, s_callS l g sg_X10_create sg_X10_requireArgument), (40, s_ldI 5), (42, s_c (.inl 1)), (43, s_c (.inl 1440)), (46, s_callS l g sg_X10_create sg_X10_isWithin), (49, s_callS l g sg_X10_create sg_X10_requireArgument), (52, s_ldP 7), (54, s_getP 6 0), (57, s_ldI 6), (59, s_callV l g sg_X10_create sg_X5_hasZone 4), (62, s_callS l g sg_X10_create sg_X10_requireElement), (65, s_ldP 7), (67, s_getP 6 0), (70, s_ldI 2), (71, s_callV l g sg_X10_create sg_X5_hasEvent 4), (74, s_if_ne 81), (77, s_c (.inl 1)), (78, s_goto 82), (81, s_c (.inl 0)), (82, s_callS l g sg_X10_create sg_X10_requireState), (85, s_ldP 0), (86, s_getP 9 2), (89, s_ldP 0), (90, s_getP 9 1), (93, s_callV l g sg_X10_create sg_X4_save 3), (96, s_ldP 7), (98, s_getP 6 0), (101, s_getP 4 2), (104, s_ldI 2), (105, s_aald), (106, s_ldI 3), (107, s_ldI 4), (109, s_ldI 5), (111, s_ldI 6), (113, s_callV l g sg_X10_create sg_X2_startAt 1), (116, s_ldP 7), (118, s_ldI 2), (119, s_callV l g sg_X10_create sg_X7_noteContent 6), (122, s_ldP 7), (124, s_getP 6 0), (127, s_callV l g sg_X10_create sg_X5_eventBits 4), (130, s_callS l g sg_X10_create sg_J6_bitCount_0f7a4), (133, s_ireti)]
set_option maxRecDepth 100000 in
theorem ok_X10_create {l : Launch} {g : EG} : e_okp l g sg_X10_create "CalendarSync" (pg_X10_create l g) := fun p e R s m args below meth c ex M0 Q X =>
    e_each_cons (r_aload_n X (k := 0) (i := 0) rfl dX10_create_0 rfl)
    (e_each_cons (r_iload_n X (k := 1) (i := 1) rfl dX10_create_1 rfl)
    (e_each_cons (r_callV X rfl (τ := sg_X10_sideAt) (index := 262) (ci := 9) dX10_create_2 (by decide) rfl w2_208 w2_210 ws_2 cs_X10_sideAt rfl ⟨by decide, by decide⟩ rfl)
    (e_each_cons (r_astore X (i := 7) dX10_create_5 (by decide) rfl)
    (e_each_cons (r_iload_n X (k := 2) (i := 2) rfl dX10_create_7 rfl)
    (e_each_cons (r_iconst X (n := 0) (v := 0) dX10_create_8 (by decide) rfl)
    (e_each_cons (r_bipush X (n := 7) (v := 7) dX10_create_9 (by decide) rfl)
    (e_each_cons (r_callS X rfl (τ := sg_X10_isWithin) (index := 63) dX10_create_11 w2_126 w2_127 cs_X10_isWithin rfl ⟨by decide, by decide⟩ rfl)
    (e_each_cons (r_callS X rfl (τ := sg_X10_requireArgument) (index := 67) dX10_create_14 w2_129 w2_130 cs_X10_requireArgument rfl ⟨by decide, by decide⟩ rfl)
    (e_each_cons (r_iload_n X (k := 3) (i := 3) rfl dX10_create_17 rfl)
    (e_each_cons (r_callS X rfl (τ := sg_X1_isDay) (index := 94) dX10_create_18 w6_1 w6_2 cs_X1_isDay rfl ⟨by decide, by decide⟩ rfl)
    (e_each_cons (r_if_eq X (off := 15) (t := 36) dX10_create_21 (by decide) rfl)
    (e_each_cons (r_iload X (i := 4) dX10_create_24 rfl)
    (e_each_cons (r_callS X rfl (τ := sg_X1_isMinute) (index := 144) dX10_create_26 w6_5 w6_6 cs_X1_isMinute rfl ⟨by decide, by decide⟩ rfl)
    (e_each_cons (r_if_eq X (off := 7) (t := 36) dX10_create_29 (by decide) rfl)
    (e_each_cons (r_iconst X (n := 1) (v := 1) dX10_create_32 (by decide) rfl)
    (e_each_cons (r_goto X (off := 4) (t := 37) dX10_create_33 (by decide))
    (e_each_cons (r_iconst X (n := 0) (v := 0) dX10_create_36 (by decide) rfl)
    (e_each_cons (r_callS X rfl (τ := sg_X10_requireArgument) (index := 67) dX10_create_37 w2_129 w2_130 cs_X10_requireArgument rfl ⟨by decide, by decide⟩ rfl)
    (e_each_cons (r_iload X (i := 5) dX10_create_40 rfl)
    (e_each_cons (r_iconst X (n := 1) (v := 1) dX10_create_42 (by decide) rfl)
    (e_each_cons (r_sipush X (n := 1440) (v := 1440) dX10_create_43 (by decide) rfl)
    (e_each_cons (r_callS X rfl (τ := sg_X10_isWithin) (index := 63) dX10_create_46 w2_126 w2_127 cs_X10_isWithin rfl ⟨by decide, by decide⟩ rfl)
    (e_each_cons (r_callS X rfl (τ := sg_X10_requireArgument) (index := 67) dX10_create_49 w2_129 w2_130 cs_X10_requireArgument rfl ⟨by decide, by decide⟩ rfl)
    (e_each_cons (r_aload X (i := 7) dX10_create_52 rfl)
    (e_each_cons (r_getP X (index := 266) (ci := 6) (k := 0) dX10_create_54 (by decide) (by decide) rfl w2_21 rfl)
    (e_each_cons (r_iload X (i := 6) dX10_create_57 rfl)
    (e_each_cons (r_callV X rfl (τ := sg_X5_hasZone) (index := 299) (ci := 4) dX10_create_59 (by decide) rfl w5_171 w5_172 w5_173 cs_X5_hasZone rfl ⟨by decide, by decide⟩ rfl)
    (e_each_cons (r_callS X rfl (τ := sg_X10_requireElement) (index := 240) dX10_create_62 w3_77 w3_78 cs_X10_requireElement rfl ⟨by decide, by decide⟩ rfl)
    (e_each_cons (r_aload X (i := 7) dX10_create_65 rfl)
    (e_each_cons (r_getP X (index := 266) (ci := 6) (k := 0) dX10_create_67 (by decide) (by decide) rfl w2_21 rfl)
    (e_each_cons (r_iload_n X (k := 2) (i := 2) rfl dX10_create_70 rfl)
    (e_each_cons (r_callV X rfl (τ := sg_X5_hasEvent) (index := 302) (ci := 4) dX10_create_71 (by decide) rfl w5_198 w5_199 w5_200 cs_X5_hasEvent rfl ⟨by decide, by decide⟩ rfl)
    (e_each_cons (r_if_ne X (off := 7) (t := 81) dX10_create_74 (by decide) rfl)
    (e_each_cons (r_iconst X (n := 1) (v := 1) dX10_create_77 (by decide) rfl)
    (e_each_cons (r_goto X (off := 4) (t := 82) dX10_create_78 (by decide))
    (e_each_cons (r_iconst X (n := 0) (v := 0) dX10_create_81 (by decide) rfl)
    (e_each_cons (r_callS X rfl (τ := sg_X10_requireState) (index := 55) dX10_create_82 w3_163 w3_164 cs_X10_requireState rfl ⟨by decide, by decide⟩ rfl)
    (e_each_cons (r_aload_n X (k := 0) (i := 0) rfl dX10_create_85 rfl)
    (e_each_cons (r_getP X (index := 26) (ci := 9) (k := 2) dX10_create_86 (by decide) (by decide) rfl w2_101 rfl)
    (e_each_cons (r_aload_n X (k := 0) (i := 0) rfl dX10_create_89 rfl)
    (e_each_cons (r_getP X (index := 19) (ci := 9) (k := 1) dX10_create_90 (by decide) (by decide) rfl w2_100 rfl)
    (e_each_cons (r_callV X rfl (τ := sg_X4_save) (index := 305) (ci := 3) dX10_create_93 (by decide) rfl w6_98 w6_99 w6_100 cs_X4_save rfl ⟨by decide, by decide⟩ rfl)
    (e_each_cons (r_aload X (i := 7) dX10_create_96 rfl)
    (e_each_cons (r_getP X (index := 266) (ci := 6) (k := 0) dX10_create_98 (by decide) (by decide) rfl w2_21 rfl)
    (e_each_cons (r_getP X (index := 309) (ci := 4) (k := 2) dX10_create_101 (by decide) (by decide) rfl w1_170 rfl)
    (e_each_cons (r_iload_n X (k := 2) (i := 2) rfl dX10_create_104 rfl)
    (e_each_cons (r_aald X dX10_create_105 rfl)
    (e_each_cons (r_iload_n X (k := 3) (i := 3) rfl dX10_create_106 rfl)
    (e_each_cons (r_iload X (i := 4) dX10_create_107 rfl)
    (e_each_cons (r_iload X (i := 5) dX10_create_109 rfl)
    (e_each_cons (r_iload X (i := 6) dX10_create_111 rfl)
    (e_each_cons (r_callV X rfl (τ := sg_X2_startAt) (index := 313) (ci := 1) dX10_create_113 (by decide) rfl w6_150 w4_27 w4_28 cs_X2_startAt rfl ⟨by decide, by decide⟩ rfl)
    (e_each_cons (r_aload X (i := 7) dX10_create_116 rfl)
    (e_each_cons (r_iload_n X (k := 2) (i := 2) rfl dX10_create_118 rfl)
    (e_each_cons (r_callV X rfl (τ := sg_X7_noteContent) (index := 317) (ci := 6) dX10_create_119 (by decide) rfl w6_151 w6_152 w6_153 cs_X7_noteContent rfl ⟨by decide, by decide⟩ rfl)
    (e_each_cons (r_aload X (i := 7) dX10_create_122 rfl)
    (e_each_cons (r_getP X (index := 266) (ci := 6) (k := 0) dX10_create_124 (by decide) (by decide) rfl w2_21 rfl)
    (e_each_cons (r_callV X rfl (τ := sg_X5_eventBits) (index := 151) (ci := 4) dX10_create_127 (by decide) rfl w2_200 w2_201 w2_202 cs_X5_eventBits rfl ⟨by decide, by decide⟩ rfl)
    (e_each_cons (r_callS X rfl (τ := sg_J6_bitCount_0f7a4) (index := 320) dX10_create_130 w6_155 w6_89 cs_J6_bitCount_0f7a4 rfl ⟨by decide, by decide⟩ rfl)
    (e_each_cons (r_ireti X dX10_create_133 rfl)
    (e_each_nil)))))))))))))))))))))))))))))))))))))))))))))))))))))))))))))
theorem dX10_repeat_0 : decode cX10_repeat 0 = .ok (.aload_n 0, 1) := by decide +kernel
theorem dX10_repeat_1 : decode cX10_repeat 1 = .ok (.iload_n 1, 1) := by decide +kernel
theorem dX10_repeat_2 : decode cX10_repeat 2 = .ok (.invokevirtual 262, 3) := by decide +kernel
theorem dX10_repeat_5 : decode cX10_repeat 5 = .ok (.astore 7, 2) := by decide +kernel
theorem dX10_repeat_7 : decode cX10_repeat 7 = .ok (.iload_n 3, 1) := by decide +kernel
theorem dX10_repeat_8 : decode cX10_repeat 8 = .ok (.iconst 0, 1) := by decide +kernel
theorem dX10_repeat_9 : decode cX10_repeat 9 = .ok (.iconst 3, 1) := by decide +kernel
theorem dX10_repeat_10 : decode cX10_repeat 10 = .ok (.invokestatic 63, 3) := by decide +kernel
theorem dX10_repeat_13 : decode cX10_repeat 13 = .ok (.invokestatic 67, 3) := by decide +kernel
theorem dX10_repeat_16 : decode cX10_repeat 16 = .ok (.iload_n 3, 1) := by decide +kernel
theorem dX10_repeat_17 : decode cX10_repeat 17 = .ok (.ifCond .eq 14, 3) := by decide +kernel
theorem dX10_repeat_20 : decode cX10_repeat 20 = .ok (.iload 4, 2) := by decide +kernel
theorem dX10_repeat_22 : decode cX10_repeat 22 = .ok (.iconst 1, 1) := by decide +kernel
theorem dX10_repeat_23 : decode cX10_repeat 23 = .ok (.bipush 9, 2) := by decide +kernel
theorem dX10_repeat_25 : decode cX10_repeat 25 = .ok (.invokestatic 63, 3) := by decide +kernel
theorem dX10_repeat_28 : decode cX10_repeat 28 = .ok (.ifCond .eq 7, 3) := by decide +kernel
theorem dX10_repeat_31 : decode cX10_repeat 31 = .ok (.iconst 1, 1) := by decide +kernel
theorem dX10_repeat_32 : decode cX10_repeat 32 = .ok (.goto 4, 3) := by decide +kernel
theorem dX10_repeat_35 : decode cX10_repeat 35 = .ok (.iconst 0, 1) := by decide +kernel
theorem dX10_repeat_36 : decode cX10_repeat 36 = .ok (.invokestatic 67, 3) := by decide +kernel
theorem dX10_repeat_39 : decode cX10_repeat 39 = .ok (.iload_n 3, 1) := by decide +kernel
theorem dX10_repeat_40 : decode cX10_repeat 40 = .ok (.ifCond .eq 14, 3) := by decide +kernel
theorem dX10_repeat_43 : decode cX10_repeat 43 = .ok (.iload 6, 2) := by decide +kernel
theorem dX10_repeat_45 : decode cX10_repeat 45 = .ok (.iconst 1, 1) := by decide +kernel
theorem dX10_repeat_46 : decode cX10_repeat 46 = .ok (.bipush 30, 2) := by decide +kernel
theorem dX10_repeat_48 : decode cX10_repeat 48 = .ok (.invokestatic 63, 3) := by decide +kernel
theorem dX10_repeat_51 : decode cX10_repeat 51 = .ok (.ifCond .eq 7, 3) := by decide +kernel
theorem dX10_repeat_54 : decode cX10_repeat 54 = .ok (.iconst 1, 1) := by decide +kernel
theorem dX10_repeat_55 : decode cX10_repeat 55 = .ok (.goto 4, 3) := by decide +kernel
theorem dX10_repeat_58 : decode cX10_repeat 58 = .ok (.iconst 0, 1) := by decide +kernel
theorem dX10_repeat_59 : decode cX10_repeat 59 = .ok (.invokestatic 67, 3) := by decide +kernel
theorem dX10_repeat_62 : decode cX10_repeat 62 = .ok (.iload_n 3, 1) := by decide +kernel
theorem dX10_repeat_63 : decode cX10_repeat 63 = .ok (.iconst 2, 1) := by decide +kernel
theorem dX10_repeat_64 : decode cX10_repeat 64 = .ok (.if_icmp .ne 14, 3) := by decide +kernel
theorem dX10_repeat_67 : decode cX10_repeat 67 = .ok (.iload 5, 2) := by decide +kernel
theorem dX10_repeat_69 : decode cX10_repeat 69 = .ok (.iconst 1, 1) := by decide +kernel
theorem dX10_repeat_70 : decode cX10_repeat 70 = .ok (.bipush 127, 2) := by decide +kernel
theorem dX10_repeat_72 : decode cX10_repeat 72 = .ok (.invokestatic 63, 3) := by decide +kernel
theorem dX10_repeat_75 : decode cX10_repeat 75 = .ok (.ifCond .eq 7, 3) := by decide +kernel
theorem dX10_repeat_78 : decode cX10_repeat 78 = .ok (.iconst 1, 1) := by decide +kernel
theorem dX10_repeat_79 : decode cX10_repeat 79 = .ok (.goto 4, 3) := by decide +kernel
theorem dX10_repeat_82 : decode cX10_repeat 82 = .ok (.iconst 0, 1) := by decide +kernel
theorem dX10_repeat_83 : decode cX10_repeat 83 = .ok (.invokestatic 67, 3) := by decide +kernel
theorem dX10_repeat_86 : decode cX10_repeat 86 = .ok (.aload 7, 2) := by decide +kernel
theorem dX10_repeat_88 : decode cX10_repeat 88 = .ok (.getfield 266, 3) := by decide +kernel
theorem dX10_repeat_91 : decode cX10_repeat 91 = .ok (.iload_n 2, 1) := by decide +kernel
theorem dX10_repeat_92 : decode cX10_repeat 92 = .ok (.invokestatic 157, 3) := by decide +kernel
theorem dX10_repeat_95 : decode cX10_repeat 95 = .ok (.astore 8, 2) := by decide +kernel
theorem dX10_repeat_97 : decode cX10_repeat 97 = .ok (.aload_n 0, 1) := by decide +kernel
theorem dX10_repeat_98 : decode cX10_repeat 98 = .ok (.getfield 26, 3) := by decide +kernel
theorem dX10_repeat_101 : decode cX10_repeat 101 = .ok (.aload_n 0, 1) := by decide +kernel
theorem dX10_repeat_102 : decode cX10_repeat 102 = .ok (.getfield 19, 3) := by decide +kernel
theorem dX10_repeat_105 : decode cX10_repeat 105 = .ok (.invokevirtual 305, 3) := by decide +kernel
theorem dX10_repeat_108 : decode cX10_repeat 108 = .ok (.aload 8, 2) := by decide +kernel
theorem dX10_repeat_110 : decode cX10_repeat 110 = .ok (.iload_n 3, 1) := by decide +kernel
theorem dX10_repeat_111 : decode cX10_repeat 111 = .ok (.iload 4, 2) := by decide +kernel
theorem dX10_repeat_113 : decode cX10_repeat 113 = .ok (.iload 5, 2) := by decide +kernel
theorem dX10_repeat_115 : decode cX10_repeat 115 = .ok (.iload 6, 2) := by decide +kernel
theorem dX10_repeat_117 : decode cX10_repeat 117 = .ok (.invokevirtual 325, 3) := by decide +kernel
theorem dX10_repeat_120 : decode cX10_repeat 120 = .ok (.aload 7, 2) := by decide +kernel
theorem dX10_repeat_122 : decode cX10_repeat 122 = .ok (.iload_n 2, 1) := by decide +kernel
theorem dX10_repeat_123 : decode cX10_repeat 123 = .ok (.invokevirtual 317, 3) := by decide +kernel
theorem dX10_repeat_126 : decode cX10_repeat 126 = .ok (.aload 8, 2) := by decide +kernel
theorem dX10_repeat_128 : decode cX10_repeat 128 = .ok (.getfield 186, 3) := by decide +kernel
theorem dX10_repeat_131 : decode cX10_repeat 131 = .ok (.ireturn, 1) := by decide +kernel
def pg_X10_repeat (l : Launch) (g : EG) : List (Nat × ES) := [(0, s_ldP 0), (1, s_ldI 1), (2, s_callV l g sg_X10_repeat sg_X10_sideAt 9), (5, s_stP 7), (7, s_ldI 3), (8, s_c (.inl 0)), (9, s_c (.inl 3)), (10, s_callS l g sg_X10_repeat sg_X10_isWithin), (13, s_callS l g sg_X10_repeat sg_X10_requireArgument), (16, s_ldI 3), (17, s_if_eq 31), (20, s_ldI 4), (22, s_c (.inl 1)), (23, s_c (.inl 9)), (25, s_callS l g sg_X10_repeat sg_X10_isWithin), (28, s_if_eq 35), (31, s_c (.inl 1)), (32, s_goto 36), (35, s_c (.inl 0)), (36, s_callS l g sg_X10_repeat sg_X10_requireArgument), (39, s_ldI 3), (40, s_if_eq 54), (43, s_ldI 6), (45, s_c (.inl 1)), (46, s_c (.inl 30)), (48, s_callS l g sg_X10_repeat sg_X10_isWithin), (51, s_if_eq 58), (54, s_c (.inl 1)), (55, s_goto 59), (58, s_c (.inl 0)), (59, s_callS l g sg_X10_repeat sg_X10_requireArgument), (62, s_ldI 3), (63, s_c (.inl 2)), (64, s_icmp_ne 78), (67, s_ldI 5), (69, s_c (.inl 1)), (70, s_c (.inl 127)), (72, s_callS l g sg_X10_repeat sg_X10_isWithin), (75, s_if_eq 82), (78, s_c (.inl 1)), (79, s_goto 83), (82, s_c (.inl 0)), (83, s_callS l g sg_X10_repeat sg_X10_requireArgument), (86, s_ldP 7), (88, s_getP 6 0), (91, s_ldI 2), (92, s_callS l g sg_X10_repeat sg_X10_eventAt), (95, s_stP 8), (97, s_ldP 0), (98, s_getP 9 2), (101, s_ldP 0), (102, s_getP 9 1), (105, s_callV l g sg_X10_repeat sg_X4_save 3), (108, s_ldP 8), (110, s_ldI 3), (111, s_ldI 4), (113, s_ldI 5), (115, s_ldI 6), (117, s_callV l g sg_X10_repeat sg_X2_setRule 1), (120, s_ldP 7), (122, s_ldI 2), (123, s_callV l g sg_X10_repeat sg_X7_noteContent 6), (126, s_ldP 8), (128, s_getI 1 10), (131, s_ireti)]
set_option maxRecDepth 100000 in
theorem ok_X10_repeat {l : Launch} {g : EG} : e_okp l g sg_X10_repeat "CalendarSync" (pg_X10_repeat l g) := fun p e R s m args below meth c ex M0 Q X =>
    e_each_cons (r_aload_n X (k := 0) (i := 0) rfl dX10_repeat_0 rfl)
    (e_each_cons (r_iload_n X (k := 1) (i := 1) rfl dX10_repeat_1 rfl)
    (e_each_cons (r_callV X rfl (τ := sg_X10_sideAt) (index := 262) (ci := 9) dX10_repeat_2 (by decide) rfl w2_208 w2_210 ws_2 cs_X10_sideAt rfl ⟨by decide, by decide⟩ rfl)
    (e_each_cons (r_astore X (i := 7) dX10_repeat_5 (by decide) rfl)
    (e_each_cons (r_iload_n X (k := 3) (i := 3) rfl dX10_repeat_7 rfl)
    (e_each_cons (r_iconst X (n := 0) (v := 0) dX10_repeat_8 (by decide) rfl)
    (e_each_cons (r_iconst X (n := 3) (v := 3) dX10_repeat_9 (by decide) rfl)
    (e_each_cons (r_callS X rfl (τ := sg_X10_isWithin) (index := 63) dX10_repeat_10 w2_126 w2_127 cs_X10_isWithin rfl ⟨by decide, by decide⟩ rfl)
    (e_each_cons (r_callS X rfl (τ := sg_X10_requireArgument) (index := 67) dX10_repeat_13 w2_129 w2_130 cs_X10_requireArgument rfl ⟨by decide, by decide⟩ rfl)
    (e_each_cons (r_iload_n X (k := 3) (i := 3) rfl dX10_repeat_16 rfl)
    (e_each_cons (r_if_eq X (off := 14) (t := 31) dX10_repeat_17 (by decide) rfl)
    (e_each_cons (r_iload X (i := 4) dX10_repeat_20 rfl)
    (e_each_cons (r_iconst X (n := 1) (v := 1) dX10_repeat_22 (by decide) rfl)
    (e_each_cons (r_bipush X (n := 9) (v := 9) dX10_repeat_23 (by decide) rfl)
    (e_each_cons (r_callS X rfl (τ := sg_X10_isWithin) (index := 63) dX10_repeat_25 w2_126 w2_127 cs_X10_isWithin rfl ⟨by decide, by decide⟩ rfl)
    (e_each_cons (r_if_eq X (off := 7) (t := 35) dX10_repeat_28 (by decide) rfl)
    (e_each_cons (r_iconst X (n := 1) (v := 1) dX10_repeat_31 (by decide) rfl)
    (e_each_cons (r_goto X (off := 4) (t := 36) dX10_repeat_32 (by decide))
    (e_each_cons (r_iconst X (n := 0) (v := 0) dX10_repeat_35 (by decide) rfl)
    (e_each_cons (r_callS X rfl (τ := sg_X10_requireArgument) (index := 67) dX10_repeat_36 w2_129 w2_130 cs_X10_requireArgument rfl ⟨by decide, by decide⟩ rfl)
    (e_each_cons (r_iload_n X (k := 3) (i := 3) rfl dX10_repeat_39 rfl)
    (e_each_cons (r_if_eq X (off := 14) (t := 54) dX10_repeat_40 (by decide) rfl)
    (e_each_cons (r_iload X (i := 6) dX10_repeat_43 rfl)
    (e_each_cons (r_iconst X (n := 1) (v := 1) dX10_repeat_45 (by decide) rfl)
    (e_each_cons (r_bipush X (n := 30) (v := 30) dX10_repeat_46 (by decide) rfl)
    (e_each_cons (r_callS X rfl (τ := sg_X10_isWithin) (index := 63) dX10_repeat_48 w2_126 w2_127 cs_X10_isWithin rfl ⟨by decide, by decide⟩ rfl)
    (e_each_cons (r_if_eq X (off := 7) (t := 58) dX10_repeat_51 (by decide) rfl)
    (e_each_cons (r_iconst X (n := 1) (v := 1) dX10_repeat_54 (by decide) rfl)
    (e_each_cons (r_goto X (off := 4) (t := 59) dX10_repeat_55 (by decide))
    (e_each_cons (r_iconst X (n := 0) (v := 0) dX10_repeat_58 (by decide) rfl)
    (e_each_cons (r_callS X rfl (τ := sg_X10_requireArgument) (index := 67) dX10_repeat_59 w2_129 w2_130 cs_X10_requireArgument rfl ⟨by decide, by decide⟩ rfl)
    (e_each_cons (r_iload_n X (k := 3) (i := 3) rfl dX10_repeat_62 rfl)
    (e_each_cons (r_iconst X (n := 2) (v := 2) dX10_repeat_63 (by decide) rfl)
    (e_each_cons (r_icmp_ne X (off := 14) (t := 78) dX10_repeat_64 (by decide) rfl)
    (e_each_cons (r_iload X (i := 5) dX10_repeat_67 rfl)
    (e_each_cons (r_iconst X (n := 1) (v := 1) dX10_repeat_69 (by decide) rfl)
    (e_each_cons (r_bipush X (n := 127) (v := 127) dX10_repeat_70 (by decide) rfl)
    (e_each_cons (r_callS X rfl (τ := sg_X10_isWithin) (index := 63) dX10_repeat_72 w2_126 w2_127 cs_X10_isWithin rfl ⟨by decide, by decide⟩ rfl)
    (e_each_cons (r_if_eq X (off := 7) (t := 82) dX10_repeat_75 (by decide) rfl)
    (e_each_cons (r_iconst X (n := 1) (v := 1) dX10_repeat_78 (by decide) rfl)
    (e_each_cons (r_goto X (off := 4) (t := 83) dX10_repeat_79 (by decide))
    (e_each_cons (r_iconst X (n := 0) (v := 0) dX10_repeat_82 (by decide) rfl)
    (e_each_cons (r_callS X rfl (τ := sg_X10_requireArgument) (index := 67) dX10_repeat_83 w2_129 w2_130 cs_X10_requireArgument rfl ⟨by decide, by decide⟩ rfl)
    (e_each_cons (r_aload X (i := 7) dX10_repeat_86 rfl)
    (e_each_cons (r_getP X (index := 266) (ci := 6) (k := 0) dX10_repeat_88 (by decide) (by decide) rfl w2_21 rfl)
    (e_each_cons (r_iload_n X (k := 2) (i := 2) rfl dX10_repeat_91 rfl)
    (e_each_cons (r_callS X rfl (τ := sg_X10_eventAt) (index := 157) dX10_repeat_92 w5_195 w5_196 cs_X10_eventAt rfl ⟨by decide, by decide⟩ rfl)
    (e_each_cons (r_astore X (i := 8) dX10_repeat_95 (by decide) rfl)
    (e_each_cons (r_aload_n X (k := 0) (i := 0) rfl dX10_repeat_97 rfl)
    (e_each_cons (r_getP X (index := 26) (ci := 9) (k := 2) dX10_repeat_98 (by decide) (by decide) rfl w2_101 rfl)
    (e_each_cons (r_aload_n X (k := 0) (i := 0) rfl dX10_repeat_101 rfl)
    (e_each_cons (r_getP X (index := 19) (ci := 9) (k := 1) dX10_repeat_102 (by decide) (by decide) rfl w2_100 rfl)
    (e_each_cons (r_callV X rfl (τ := sg_X4_save) (index := 305) (ci := 3) dX10_repeat_105 (by decide) rfl w6_98 w6_99 w6_100 cs_X4_save rfl ⟨by decide, by decide⟩ rfl)
    (e_each_cons (r_aload X (i := 8) dX10_repeat_108 rfl)
    (e_each_cons (r_iload_n X (k := 3) (i := 3) rfl dX10_repeat_110 rfl)
    (e_each_cons (r_iload X (i := 4) dX10_repeat_111 rfl)
    (e_each_cons (r_iload X (i := 5) dX10_repeat_113 rfl)
    (e_each_cons (r_iload X (i := 6) dX10_repeat_115 rfl)
    (e_each_cons (r_callV X rfl (τ := sg_X2_setRule) (index := 325) (ci := 1) dX10_repeat_117 (by decide) rfl w6_164 w4_66 w4_67 cs_X2_setRule rfl ⟨by decide, by decide⟩ rfl)
    (e_each_cons (r_aload X (i := 7) dX10_repeat_120 rfl)
    (e_each_cons (r_iload_n X (k := 2) (i := 2) rfl dX10_repeat_122 rfl)
    (e_each_cons (r_callV X rfl (τ := sg_X7_noteContent) (index := 317) (ci := 6) dX10_repeat_123 (by decide) rfl w6_151 w6_152 w6_153 cs_X7_noteContent rfl ⟨by decide, by decide⟩ rfl)
    (e_each_cons (r_aload X (i := 8) dX10_repeat_126 rfl)
    (e_each_cons (r_getI X (index := 186) (ci := 1) (k := 10) dX10_repeat_128 (by decide) (by decide) rfl w1_111 rfl)
    (e_each_cons (r_ireti X dX10_repeat_131 rfl)
    (e_each_nil)))))))))))))))))))))))))))))))))))))))))))))))))))))))))))))))))
theorem dX10_cancel_0 : decode cX10_cancel 0 = .ok (.aload_n 0, 1) := by decide +kernel
theorem dX10_cancel_1 : decode cX10_cancel 1 = .ok (.iload_n 1, 1) := by decide +kernel
theorem dX10_cancel_2 : decode cX10_cancel 2 = .ok (.invokevirtual 262, 3) := by decide +kernel
theorem dX10_cancel_5 : decode cX10_cancel 5 = .ok (.astore 4, 2) := by decide +kernel
theorem dX10_cancel_7 : decode cX10_cancel 7 = .ok (.aload 4, 2) := by decide +kernel
theorem dX10_cancel_9 : decode cX10_cancel 9 = .ok (.getfield 266, 3) := by decide +kernel
theorem dX10_cancel_12 : decode cX10_cancel 12 = .ok (.iload_n 2, 1) := by decide +kernel
theorem dX10_cancel_13 : decode cX10_cancel 13 = .ok (.invokestatic 157, 3) := by decide +kernel
theorem dX10_cancel_16 : decode cX10_cancel 16 = .ok (.astore 5, 2) := by decide +kernel
theorem dX10_cancel_18 : decode cX10_cancel 18 = .ok (.aload 5, 2) := by decide +kernel
theorem dX10_cancel_20 : decode cX10_cancel 20 = .ok (.iload_n 3, 1) := by decide +kernel
theorem dX10_cancel_21 : decode cX10_cancel 21 = .ok (.invokevirtual 195, 3) := by decide +kernel
theorem dX10_cancel_24 : decode cX10_cancel 24 = .ok (.invokestatic 198, 3) := by decide +kernel
theorem dX10_cancel_27 : decode cX10_cancel 27 = .ok (.aload_n 0, 1) := by decide +kernel
theorem dX10_cancel_28 : decode cX10_cancel 28 = .ok (.getfield 26, 3) := by decide +kernel
theorem dX10_cancel_31 : decode cX10_cancel 31 = .ok (.aload_n 0, 1) := by decide +kernel
theorem dX10_cancel_32 : decode cX10_cancel 32 = .ok (.getfield 19, 3) := by decide +kernel
theorem dX10_cancel_35 : decode cX10_cancel 35 = .ok (.invokevirtual 305, 3) := by decide +kernel
theorem dX10_cancel_38 : decode cX10_cancel 38 = .ok (.aload 5, 2) := by decide +kernel
theorem dX10_cancel_40 : decode cX10_cancel 40 = .ok (.dup, 1) := by decide +kernel
theorem dX10_cancel_41 : decode cX10_cancel 41 = .ok (.getfield 189, 3) := by decide +kernel
theorem dX10_cancel_44 : decode cX10_cancel 44 = .ok (.iconst 1, 1) := by decide +kernel
theorem dX10_cancel_45 : decode cX10_cancel 45 = .ok (.iload_n 3, 1) := by decide +kernel
theorem dX10_cancel_46 : decode cX10_cancel 46 = .ok (.ishl, 1) := by decide +kernel
theorem dX10_cancel_47 : decode cX10_cancel 47 = .ok (.ixor, 1) := by decide +kernel
theorem dX10_cancel_48 : decode cX10_cancel 48 = .ok (.putfield 189, 3) := by decide +kernel
theorem dX10_cancel_51 : decode cX10_cancel 51 = .ok (.aload 4, 2) := by decide +kernel
theorem dX10_cancel_53 : decode cX10_cancel 53 = .ok (.iload_n 2, 1) := by decide +kernel
theorem dX10_cancel_54 : decode cX10_cancel 54 = .ok (.invokevirtual 317, 3) := by decide +kernel
theorem dX10_cancel_57 : decode cX10_cancel 57 = .ok (.aload 5, 2) := by decide +kernel
theorem dX10_cancel_59 : decode cX10_cancel 59 = .ok (.invokevirtual 328, 3) := by decide +kernel
theorem dX10_cancel_62 : decode cX10_cancel 62 = .ok (.invokestatic 320, 3) := by decide +kernel
theorem dX10_cancel_65 : decode cX10_cancel 65 = .ok (.ireturn, 1) := by decide +kernel
def pg_X10_cancel (l : Launch) (g : EG) : List (Nat × ES) := [(0, s_ldP 0), (1, s_ldI 1), (2, s_callV l g sg_X10_cancel sg_X10_sideAt 9), (5, s_stP 4), (7, s_ldP 4), (9, s_getP 6 0), (12, s_ldI 2), (13, s_callS l g sg_X10_cancel sg_X10_eventAt), (16, s_stP 5), (18, s_ldP 5), (20, s_ldI 3), (21, s_callV l g sg_X10_cancel sg_X2_hasDate 1), (24, s_callS l g sg_X10_cancel sg_X10_requireIndex), (27, s_ldP 0), (28, s_getP 9 2), (31, s_ldP 0), (32, s_getP 9 1), (35, s_callV l g sg_X10_cancel sg_X4_save 3), (38, s_ldP 5), (40, s_dup), (41, s_getI 1 11), (44, s_c (.inl 1)), (45, s_ldI 3), (46, s_ii (fun x y => x <<< (y &&& 31))), (47, s_ii (fun x y => x ^^^ y)), (48, s_putI 1 11), (51, s_ldP 4), (53, s_ldI 2), (54, s_callV l g sg_X10_cancel sg_X7_noteContent 6), (57, s_ldP 5), (59, s_callV l g sg_X10_cancel sg_X2_shownBits 1), (62, s_callS l g sg_X10_cancel sg_J6_bitCount_0f7a4), (65, s_ireti)]
set_option maxRecDepth 100000 in
theorem ok_X10_cancel {l : Launch} {g : EG} : e_okp l g sg_X10_cancel "CalendarSync" (pg_X10_cancel l g) := fun p e R s m args below meth c ex M0 Q X =>
    e_each_cons (r_aload_n X (k := 0) (i := 0) rfl dX10_cancel_0 rfl)
    (e_each_cons (r_iload_n X (k := 1) (i := 1) rfl dX10_cancel_1 rfl)
    (e_each_cons (r_callV X rfl (τ := sg_X10_sideAt) (index := 262) (ci := 9) dX10_cancel_2 (by decide) rfl w2_208 w2_210 ws_2 cs_X10_sideAt rfl ⟨by decide, by decide⟩ rfl)
    (e_each_cons (r_astore X (i := 4) dX10_cancel_5 (by decide) rfl)
    (e_each_cons (r_aload X (i := 4) dX10_cancel_7 rfl)
    (e_each_cons (r_getP X (index := 266) (ci := 6) (k := 0) dX10_cancel_9 (by decide) (by decide) rfl w2_21 rfl)
    (e_each_cons (r_iload_n X (k := 2) (i := 2) rfl dX10_cancel_12 rfl)
    (e_each_cons (r_callS X rfl (τ := sg_X10_eventAt) (index := 157) dX10_cancel_13 w5_195 w5_196 cs_X10_eventAt rfl ⟨by decide, by decide⟩ rfl)
    (e_each_cons (r_astore X (i := 5) dX10_cancel_16 (by decide) rfl)
    (e_each_cons (r_aload X (i := 5) dX10_cancel_18 rfl)
    (e_each_cons (r_iload_n X (k := 3) (i := 3) rfl dX10_cancel_20 rfl)
    (e_each_cons (r_callV X rfl (τ := sg_X2_hasDate) (index := 195) (ci := 1) dX10_cancel_21 (by decide) rfl w5_206 w5_207 w5_208 cs_X2_hasDate rfl ⟨by decide, by decide⟩ rfl)
    (e_each_cons (r_callS X rfl (τ := sg_X10_requireIndex) (index := 198) dX10_cancel_24 w5_211 w5_212 cs_X10_requireIndex rfl ⟨by decide, by decide⟩ rfl)
    (e_each_cons (r_aload_n X (k := 0) (i := 0) rfl dX10_cancel_27 rfl)
    (e_each_cons (r_getP X (index := 26) (ci := 9) (k := 2) dX10_cancel_28 (by decide) (by decide) rfl w2_101 rfl)
    (e_each_cons (r_aload_n X (k := 0) (i := 0) rfl dX10_cancel_31 rfl)
    (e_each_cons (r_getP X (index := 19) (ci := 9) (k := 1) dX10_cancel_32 (by decide) (by decide) rfl w2_100 rfl)
    (e_each_cons (r_callV X rfl (τ := sg_X4_save) (index := 305) (ci := 3) dX10_cancel_35 (by decide) rfl w6_98 w6_99 w6_100 cs_X4_save rfl ⟨by decide, by decide⟩ rfl)
    (e_each_cons (r_aload X (i := 5) dX10_cancel_38 rfl)
    (e_each_cons (r_dup X dX10_cancel_40 rfl)
    (e_each_cons (r_getI X (index := 189) (ci := 1) (k := 11) dX10_cancel_41 (by decide) (by decide) rfl w1_114 rfl)
    (e_each_cons (r_iconst X (n := 1) (v := 1) dX10_cancel_44 (by decide) rfl)
    (e_each_cons (r_iload_n X (k := 3) (i := 3) rfl dX10_cancel_45 rfl)
    (e_each_cons (r_ishl X dX10_cancel_46 rfl)
    (e_each_cons (r_ixor X dX10_cancel_47 rfl)
    (e_each_cons (r_putI X (index := 189) (ci := 1) (k := 11) dX10_cancel_48 (by decide) (by decide) rfl rfl w1_114 rfl)
    (e_each_cons (r_aload X (i := 4) dX10_cancel_51 rfl)
    (e_each_cons (r_iload_n X (k := 2) (i := 2) rfl dX10_cancel_53 rfl)
    (e_each_cons (r_callV X rfl (τ := sg_X7_noteContent) (index := 317) (ci := 6) dX10_cancel_54 (by decide) rfl w6_151 w6_152 w6_153 cs_X7_noteContent rfl ⟨by decide, by decide⟩ rfl)
    (e_each_cons (r_aload X (i := 5) dX10_cancel_57 rfl)
    (e_each_cons (r_callV X rfl (τ := sg_X2_shownBits) (index := 328) (ci := 1) dX10_cancel_59 (by decide) rfl w6_173 w2_220 w2_221 cs_X2_shownBits rfl ⟨by decide, by decide⟩ rfl)
    (e_each_cons (r_callS X rfl (τ := sg_J6_bitCount_0f7a4) (index := 320) dX10_cancel_62 w6_155 w6_89 cs_J6_bitCount_0f7a4 rfl ⟨by decide, by decide⟩ rfl)
    (e_each_cons (r_ireti X dX10_cancel_65 rfl)
    (e_each_nil)))))))))))))))))))))))))))))))))
theorem dX10_move_0 : decode cX10_move 0 = .ok (.aload_n 0, 1) := by decide +kernel
theorem dX10_move_1 : decode cX10_move 1 = .ok (.iload_n 1, 1) := by decide +kernel
theorem dX10_move_2 : decode cX10_move 2 = .ok (.invokevirtual 262, 3) := by decide +kernel
theorem dX10_move_5 : decode cX10_move 5 = .ok (.astore 6, 2) := by decide +kernel
theorem dX10_move_7 : decode cX10_move 7 = .ok (.iload 4, 2) := by decide +kernel
theorem dX10_move_9 : decode cX10_move 9 = .ok (.iconst (-1), 1) := by decide +kernel
theorem dX10_move_10 : decode cX10_move 10 = .ok (.if_icmp .eq 19, 3) := by decide +kernel
theorem dX10_move_13 : decode cX10_move 13 = .ok (.iload 4, 2) := by decide +kernel
theorem dX10_move_15 : decode cX10_move 15 = .ok (.invokestatic 94, 3) := by decide +kernel
theorem dX10_move_18 : decode cX10_move 18 = .ok (.ifCond .eq 15, 3) := by decide +kernel
theorem dX10_move_21 : decode cX10_move 21 = .ok (.iload 5, 2) := by decide +kernel
theorem dX10_move_23 : decode cX10_move 23 = .ok (.invokestatic 144, 3) := by decide +kernel
theorem dX10_move_26 : decode cX10_move 26 = .ok (.ifCond .eq 7, 3) := by decide +kernel
theorem dX10_move_29 : decode cX10_move 29 = .ok (.iconst 1, 1) := by decide +kernel
theorem dX10_move_30 : decode cX10_move 30 = .ok (.goto 4, 3) := by decide +kernel
theorem dX10_move_33 : decode cX10_move 33 = .ok (.iconst 0, 1) := by decide +kernel
theorem dX10_move_34 : decode cX10_move 34 = .ok (.invokestatic 67, 3) := by decide +kernel
theorem dX10_move_37 : decode cX10_move 37 = .ok (.aload 6, 2) := by decide +kernel
theorem dX10_move_39 : decode cX10_move 39 = .ok (.getfield 266, 3) := by decide +kernel
theorem dX10_move_42 : decode cX10_move 42 = .ok (.iload_n 2, 1) := by decide +kernel
theorem dX10_move_43 : decode cX10_move 43 = .ok (.invokestatic 157, 3) := by decide +kernel
theorem dX10_move_46 : decode cX10_move 46 = .ok (.astore 7, 2) := by decide +kernel
theorem dX10_move_48 : decode cX10_move 48 = .ok (.aload 7, 2) := by decide +kernel
theorem dX10_move_50 : decode cX10_move 50 = .ok (.iload_n 3, 1) := by decide +kernel
theorem dX10_move_51 : decode cX10_move 51 = .ok (.invokevirtual 195, 3) := by decide +kernel
theorem dX10_move_54 : decode cX10_move 54 = .ok (.invokestatic 198, 3) := by decide +kernel
theorem dX10_move_57 : decode cX10_move 57 = .ok (.aload_n 0, 1) := by decide +kernel
theorem dX10_move_58 : decode cX10_move 58 = .ok (.getfield 26, 3) := by decide +kernel
theorem dX10_move_61 : decode cX10_move 61 = .ok (.aload_n 0, 1) := by decide +kernel
theorem dX10_move_62 : decode cX10_move 62 = .ok (.getfield 19, 3) := by decide +kernel
theorem dX10_move_65 : decode cX10_move 65 = .ok (.invokevirtual 305, 3) := by decide +kernel
theorem dX10_move_68 : decode cX10_move 68 = .ok (.iload 4, 2) := by decide +kernel
theorem dX10_move_70 : decode cX10_move 70 = .ok (.iconst (-1), 1) := by decide +kernel
theorem dX10_move_71 : decode cX10_move 71 = .ok (.if_icmp .ne 21, 3) := by decide +kernel
theorem dX10_move_74 : decode cX10_move 74 = .ok (.aload 7, 2) := by decide +kernel
theorem dX10_move_76 : decode cX10_move 76 = .ok (.dup, 1) := by decide +kernel
theorem dX10_move_77 : decode cX10_move 77 = .ok (.getfield 192, 3) := by decide +kernel
theorem dX10_move_80 : decode cX10_move 80 = .ok (.iconst 1, 1) := by decide +kernel
theorem dX10_move_81 : decode cX10_move 81 = .ok (.iload_n 3, 1) := by decide +kernel
theorem dX10_move_82 : decode cX10_move 82 = .ok (.ishl, 1) := by decide +kernel
theorem dX10_move_83 : decode cX10_move 83 = .ok (.iconst (-1), 1) := by decide +kernel
theorem dX10_move_84 : decode cX10_move 84 = .ok (.ixor, 1) := by decide +kernel
theorem dX10_move_85 : decode cX10_move 85 = .ok (.iand, 1) := by decide +kernel
theorem dX10_move_86 : decode cX10_move 86 = .ok (.putfield 192, 3) := by decide +kernel
theorem dX10_move_89 : decode cX10_move 89 = .ok (.goto 13, 3) := by decide +kernel
theorem dX10_move_92 : decode cX10_move 92 = .ok (.aload 7, 2) := by decide +kernel
theorem dX10_move_94 : decode cX10_move 94 = .ok (.iload_n 3, 1) := by decide +kernel
theorem dX10_move_95 : decode cX10_move 95 = .ok (.iload 4, 2) := by decide +kernel
theorem dX10_move_97 : decode cX10_move 97 = .ok (.iload 5, 2) := by decide +kernel
theorem dX10_move_99 : decode cX10_move 99 = .ok (.invokevirtual 331, 3) := by decide +kernel
theorem dX10_move_102 : decode cX10_move 102 = .ok (.aload 6, 2) := by decide +kernel
theorem dX10_move_104 : decode cX10_move 104 = .ok (.iload_n 2, 1) := by decide +kernel
theorem dX10_move_105 : decode cX10_move 105 = .ok (.invokevirtual 317, 3) := by decide +kernel
theorem dX10_move_108 : decode cX10_move 108 = .ok (.aload 6, 2) := by decide +kernel
theorem dX10_move_110 : decode cX10_move 110 = .ok (.getfield 266, 3) := by decide +kernel
theorem dX10_move_113 : decode cX10_move 113 = .ok (.iload_n 2, 1) := by decide +kernel
theorem dX10_move_114 : decode cX10_move 114 = .ok (.iload_n 3, 1) := by decide +kernel
theorem dX10_move_115 : decode cX10_move 115 = .ok (.invokevirtual 207, 3) := by decide +kernel
theorem dX10_move_118 : decode cX10_move 118 = .ok (.ireturn, 1) := by decide +kernel
def pg_X10_move (l : Launch) (g : EG) : List (Nat × ES) := [(0, s_ldP 0), (1, s_ldI 1), (2, s_callV l g sg_X10_move sg_X10_sideAt 9), (5, s_stP 6), (7, s_ldI 4), (9, s_c (.inl (-1))), (10, s_icmp_eq 29), (13, s_ldI 4), (15, s_callS l g sg_X10_move sg_X1_isDay), (18, s_if_eq 33), (21, s_ldI 5), (23, s_callS l g sg_X10_move sg_X1_isMinute), (26, s_if_eq 33), (29, s_c (.inl 1)), (30, s_goto 34), (33, s_c (.inl 0)), (34, s_callS l g sg_X10_move sg_X10_requireArgument), (37, s_ldP 6), (39, s_getP 6 0), (42, s_ldI 2), (43, s_callS l g sg_X10_move sg_X10_eventAt), (46, s_stP 7), (48, s_ldP 7), (50, s_ldI 3), (51, s_callV l g sg_X10_move sg_X2_hasDate 1), (54, s_callS l g sg_X10_move sg_X10_requireIndex), (57, s_ldP 0), (58, s_getP 9 2), (61, s_ldP 0), (62, s_getP 9 1), (65, s_callV l g sg_X10_move sg_X4_save 3), (68, s_ldI 4), (70, s_c (.inl (-1))), (71, s_icmp_ne 92), (74, s_ldP 7), (76, s_dup), (77, s_getI 1 12), (80, s_c (.inl 1)), (81, s_ldI 3), (82, s_ii (fun x y => x <<< (y &&& 31))), (83, s_c (.inl (-1))), (84, s_ii (fun x y => x ^^^ y)), (85, s_ii (fun x y => x &&& y)), (86, s_putI 1 12), (89, s_goto 102), (92, s_ldP 7), (94, s_ldI 3), (95, s_ldI 4), (97, s_ldI 5), (99, s_callV l g sg_X10_move sg_X2_moveTo 1), (102, s_ldP 6), (104, s_ldI 2), (105, s_callV l g sg_X10_move sg_X7_noteContent 6), (108, s_ldP 6), (110, s_getP 6 0), (113, s_ldI 2), (114, s_ldI 3), (115, s_callV l g sg_X10_move sg_X5_momentOf 4), (118, s_ireti)]
set_option maxRecDepth 100000 in
theorem ok_X10_move {l : Launch} {g : EG} : e_okp l g sg_X10_move "CalendarSync" (pg_X10_move l g) := fun p e R s m args below meth c ex M0 Q X =>
    e_each_cons (r_aload_n X (k := 0) (i := 0) rfl dX10_move_0 rfl)
    (e_each_cons (r_iload_n X (k := 1) (i := 1) rfl dX10_move_1 rfl)
    (e_each_cons (r_callV X rfl (τ := sg_X10_sideAt) (index := 262) (ci := 9) dX10_move_2 (by decide) rfl w2_208 w2_210 ws_2 cs_X10_sideAt rfl ⟨by decide, by decide⟩ rfl)
    (e_each_cons (r_astore X (i := 6) dX10_move_5 (by decide) rfl)
    (e_each_cons (r_iload X (i := 4) dX10_move_7 rfl)
    (e_each_cons (r_iconst X (n := (-1)) (v := (-1)) dX10_move_9 (by decide) rfl)
    (e_each_cons (r_icmp_eq X (off := 19) (t := 29) dX10_move_10 (by decide) rfl)
    (e_each_cons (r_iload X (i := 4) dX10_move_13 rfl)
    (e_each_cons (r_callS X rfl (τ := sg_X1_isDay) (index := 94) dX10_move_15 w6_1 w6_2 cs_X1_isDay rfl ⟨by decide, by decide⟩ rfl)
    (e_each_cons (r_if_eq X (off := 15) (t := 33) dX10_move_18 (by decide) rfl)
    (e_each_cons (r_iload X (i := 5) dX10_move_21 rfl)
    (e_each_cons (r_callS X rfl (τ := sg_X1_isMinute) (index := 144) dX10_move_23 w6_5 w6_6 cs_X1_isMinute rfl ⟨by decide, by decide⟩ rfl)
    (e_each_cons (r_if_eq X (off := 7) (t := 33) dX10_move_26 (by decide) rfl)
    (e_each_cons (r_iconst X (n := 1) (v := 1) dX10_move_29 (by decide) rfl)
    (e_each_cons (r_goto X (off := 4) (t := 34) dX10_move_30 (by decide))
    (e_each_cons (r_iconst X (n := 0) (v := 0) dX10_move_33 (by decide) rfl)
    (e_each_cons (r_callS X rfl (τ := sg_X10_requireArgument) (index := 67) dX10_move_34 w2_129 w2_130 cs_X10_requireArgument rfl ⟨by decide, by decide⟩ rfl)
    (e_each_cons (r_aload X (i := 6) dX10_move_37 rfl)
    (e_each_cons (r_getP X (index := 266) (ci := 6) (k := 0) dX10_move_39 (by decide) (by decide) rfl w2_21 rfl)
    (e_each_cons (r_iload_n X (k := 2) (i := 2) rfl dX10_move_42 rfl)
    (e_each_cons (r_callS X rfl (τ := sg_X10_eventAt) (index := 157) dX10_move_43 w5_195 w5_196 cs_X10_eventAt rfl ⟨by decide, by decide⟩ rfl)
    (e_each_cons (r_astore X (i := 7) dX10_move_46 (by decide) rfl)
    (e_each_cons (r_aload X (i := 7) dX10_move_48 rfl)
    (e_each_cons (r_iload_n X (k := 3) (i := 3) rfl dX10_move_50 rfl)
    (e_each_cons (r_callV X rfl (τ := sg_X2_hasDate) (index := 195) (ci := 1) dX10_move_51 (by decide) rfl w5_206 w5_207 w5_208 cs_X2_hasDate rfl ⟨by decide, by decide⟩ rfl)
    (e_each_cons (r_callS X rfl (τ := sg_X10_requireIndex) (index := 198) dX10_move_54 w5_211 w5_212 cs_X10_requireIndex rfl ⟨by decide, by decide⟩ rfl)
    (e_each_cons (r_aload_n X (k := 0) (i := 0) rfl dX10_move_57 rfl)
    (e_each_cons (r_getP X (index := 26) (ci := 9) (k := 2) dX10_move_58 (by decide) (by decide) rfl w2_101 rfl)
    (e_each_cons (r_aload_n X (k := 0) (i := 0) rfl dX10_move_61 rfl)
    (e_each_cons (r_getP X (index := 19) (ci := 9) (k := 1) dX10_move_62 (by decide) (by decide) rfl w2_100 rfl)
    (e_each_cons (r_callV X rfl (τ := sg_X4_save) (index := 305) (ci := 3) dX10_move_65 (by decide) rfl w6_98 w6_99 w6_100 cs_X4_save rfl ⟨by decide, by decide⟩ rfl)
    (e_each_cons (r_iload X (i := 4) dX10_move_68 rfl)
    (e_each_cons (r_iconst X (n := (-1)) (v := (-1)) dX10_move_70 (by decide) rfl)
    (e_each_cons (r_icmp_ne X (off := 21) (t := 92) dX10_move_71 (by decide) rfl)
    (e_each_cons (r_aload X (i := 7) dX10_move_74 rfl)
    (e_each_cons (r_dup X dX10_move_76 rfl)
    (e_each_cons (r_getI X (index := 192) (ci := 1) (k := 12) dX10_move_77 (by decide) (by decide) rfl w1_117 rfl)
    (e_each_cons (r_iconst X (n := 1) (v := 1) dX10_move_80 (by decide) rfl)
    (e_each_cons (r_iload_n X (k := 3) (i := 3) rfl dX10_move_81 rfl)
    (e_each_cons (r_ishl X dX10_move_82 rfl)
    (e_each_cons (r_iconst X (n := (-1)) (v := (-1)) dX10_move_83 (by decide) rfl)
    (e_each_cons (r_ixor X dX10_move_84 rfl)
    (e_each_cons (r_iand X dX10_move_85 rfl)
    (e_each_cons (r_putI X (index := 192) (ci := 1) (k := 12) dX10_move_86 (by decide) (by decide) rfl rfl w1_117 rfl)
    (e_each_cons (r_goto X (off := 13) (t := 102) dX10_move_89 (by decide))
    (e_each_cons (r_aload X (i := 7) dX10_move_92 rfl)
    (e_each_cons (r_iload_n X (k := 3) (i := 3) rfl dX10_move_94 rfl)
    (e_each_cons (r_iload X (i := 4) dX10_move_95 rfl)
    (e_each_cons (r_iload X (i := 5) dX10_move_97 rfl)
    (e_each_cons (r_callV X rfl (τ := sg_X2_moveTo) (index := 331) (ci := 1) dX10_move_99 (by decide) rfl w6_181 w4_114 w4_115 cs_X2_moveTo rfl ⟨by decide, by decide⟩ rfl)
    (e_each_cons (r_aload X (i := 6) dX10_move_102 rfl)
    (e_each_cons (r_iload_n X (k := 2) (i := 2) rfl dX10_move_104 rfl)
    (e_each_cons (r_callV X rfl (τ := sg_X7_noteContent) (index := 317) (ci := 6) dX10_move_105 (by decide) rfl w6_151 w6_152 w6_153 cs_X7_noteContent rfl ⟨by decide, by decide⟩ rfl)
    (e_each_cons (r_aload X (i := 6) dX10_move_108 rfl)
    (e_each_cons (r_getP X (index := 266) (ci := 6) (k := 0) dX10_move_110 (by decide) (by decide) rfl w2_21 rfl)
    (e_each_cons (r_iload_n X (k := 2) (i := 2) rfl dX10_move_113 rfl)
    (e_each_cons (r_iload_n X (k := 3) (i := 3) rfl dX10_move_114 rfl)
    (e_each_cons (r_callV X rfl (τ := sg_X5_momentOf) (index := 207) (ci := 4) dX10_move_115 (by decide) rfl w5_217 w2_231 w2_232 cs_X5_momentOf rfl ⟨by decide, by decide⟩ rfl)
    (e_each_cons (r_ireti X dX10_move_118 rfl)
    (e_each_nil)))))))))))))))))))))))))))))))))))))))))))))))))))))))))))
theorem dX10_reply_0 : decode cX10_reply 0 = .ok (.aload_n 0, 1) := by decide +kernel
theorem dX10_reply_1 : decode cX10_reply 1 = .ok (.iload_n 1, 1) := by decide +kernel
theorem dX10_reply_2 : decode cX10_reply 2 = .ok (.invokevirtual 262, 3) := by decide +kernel
theorem dX10_reply_5 : decode cX10_reply 5 = .ok (.astore 5, 2) := by decide +kernel
theorem dX10_reply_7 : decode cX10_reply 7 = .ok (.iload 4, 2) := by decide +kernel
theorem dX10_reply_9 : decode cX10_reply 9 = .ok (.iconst 0, 1) := by decide +kernel
theorem dX10_reply_10 : decode cX10_reply 10 = .ok (.iconst 3, 1) := by decide +kernel
theorem dX10_reply_11 : decode cX10_reply 11 = .ok (.invokestatic 63, 3) := by decide +kernel
theorem dX10_reply_14 : decode cX10_reply 14 = .ok (.invokestatic 67, 3) := by decide +kernel
theorem dX10_reply_17 : decode cX10_reply 17 = .ok (.aload 5, 2) := by decide +kernel
theorem dX10_reply_19 : decode cX10_reply 19 = .ok (.getfield 266, 3) := by decide +kernel
theorem dX10_reply_22 : decode cX10_reply 22 = .ok (.iload_n 2, 1) := by decide +kernel
theorem dX10_reply_23 : decode cX10_reply 23 = .ok (.invokestatic 157, 3) := by decide +kernel
theorem dX10_reply_26 : decode cX10_reply 26 = .ok (.astore 6, 2) := by decide +kernel
theorem dX10_reply_28 : decode cX10_reply 28 = .ok (.iload_n 3, 1) := by decide +kernel
theorem dX10_reply_29 : decode cX10_reply 29 = .ok (.iconst (-1), 1) := by decide +kernel
theorem dX10_reply_30 : decode cX10_reply 30 = .ok (.if_icmp .eq 12, 3) := by decide +kernel
theorem dX10_reply_33 : decode cX10_reply 33 = .ok (.aload 6, 2) := by decide +kernel
theorem dX10_reply_35 : decode cX10_reply 35 = .ok (.iload_n 3, 1) := by decide +kernel
theorem dX10_reply_36 : decode cX10_reply 36 = .ok (.invokevirtual 195, 3) := by decide +kernel
theorem dX10_reply_39 : decode cX10_reply 39 = .ok (.ifCond .eq 7, 3) := by decide +kernel
theorem dX10_reply_42 : decode cX10_reply 42 = .ok (.iconst 1, 1) := by decide +kernel
theorem dX10_reply_43 : decode cX10_reply 43 = .ok (.goto 4, 3) := by decide +kernel
theorem dX10_reply_46 : decode cX10_reply 46 = .ok (.iconst 0, 1) := by decide +kernel
theorem dX10_reply_47 : decode cX10_reply 47 = .ok (.invokestatic 198, 3) := by decide +kernel
theorem dX10_reply_50 : decode cX10_reply 50 = .ok (.aload_n 0, 1) := by decide +kernel
theorem dX10_reply_51 : decode cX10_reply 51 = .ok (.getfield 26, 3) := by decide +kernel
theorem dX10_reply_54 : decode cX10_reply 54 = .ok (.aload_n 0, 1) := by decide +kernel
theorem dX10_reply_55 : decode cX10_reply 55 = .ok (.getfield 19, 3) := by decide +kernel
theorem dX10_reply_58 : decode cX10_reply 58 = .ok (.invokevirtual 305, 3) := by decide +kernel
theorem dX10_reply_61 : decode cX10_reply 61 = .ok (.aload 5, 2) := by decide +kernel
theorem dX10_reply_63 : decode cX10_reply 63 = .ok (.iload_n 2, 1) := by decide +kernel
theorem dX10_reply_64 : decode cX10_reply 64 = .ok (.invokevirtual 335, 3) := by decide +kernel
theorem dX10_reply_67 : decode cX10_reply 67 = .ok (.iload_n 3, 1) := by decide +kernel
theorem dX10_reply_68 : decode cX10_reply 68 = .ok (.iconst (-1), 1) := by decide +kernel
theorem dX10_reply_69 : decode cX10_reply 69 = .ok (.if_icmp .ne 24, 3) := by decide +kernel
theorem dX10_reply_72 : decode cX10_reply 72 = .ok (.aload 6, 2) := by decide +kernel
theorem dX10_reply_74 : decode cX10_reply 74 = .ok (.getfield 223, 3) := by decide +kernel
theorem dX10_reply_77 : decode cX10_reply 77 = .ok (.iload_n 1, 1) := by decide +kernel
theorem dX10_reply_78 : decode cX10_reply 78 = .ok (.iaload, 1) := by decide +kernel
theorem dX10_reply_79 : decode cX10_reply 79 = .ok (.istore 7, 2) := by decide +kernel
theorem dX10_reply_81 : decode cX10_reply 81 = .ok (.aload 6, 2) := by decide +kernel
theorem dX10_reply_83 : decode cX10_reply 83 = .ok (.getfield 223, 3) := by decide +kernel
theorem dX10_reply_86 : decode cX10_reply 86 = .ok (.iload_n 1, 1) := by decide +kernel
theorem dX10_reply_87 : decode cX10_reply 87 = .ok (.iload 4, 2) := by decide +kernel
theorem dX10_reply_89 : decode cX10_reply 89 = .ok (.iastore, 1) := by decide +kernel
theorem dX10_reply_90 : decode cX10_reply 90 = .ok (.goto 21, 3) := by decide +kernel
theorem dX10_reply_93 : decode cX10_reply 93 = .ok (.aload 6, 2) := by decide +kernel
theorem dX10_reply_95 : decode cX10_reply 95 = .ok (.iload_n 1, 1) := by decide +kernel
theorem dX10_reply_96 : decode cX10_reply 96 = .ok (.iload_n 3, 1) := by decide +kernel
theorem dX10_reply_97 : decode cX10_reply 97 = .ok (.invokevirtual 338, 3) := by decide +kernel
theorem dX10_reply_100 : decode cX10_reply 100 = .ok (.istore 7, 2) := by decide +kernel
theorem dX10_reply_102 : decode cX10_reply 102 = .ok (.aload 6, 2) := by decide +kernel
theorem dX10_reply_104 : decode cX10_reply 104 = .ok (.iload_n 1, 1) := by decide +kernel
theorem dX10_reply_105 : decode cX10_reply 105 = .ok (.iload_n 3, 1) := by decide +kernel
theorem dX10_reply_106 : decode cX10_reply 106 = .ok (.iload 4, 2) := by decide +kernel
theorem dX10_reply_108 : decode cX10_reply 108 = .ok (.invokevirtual 341, 3) := by decide +kernel
theorem dX10_reply_111 : decode cX10_reply 111 = .ok (.iload 7, 2) := by decide +kernel
theorem dX10_reply_113 : decode cX10_reply 113 = .ok (.ireturn, 1) := by decide +kernel
def pg_X10_reply (l : Launch) (g : EG) : List (Nat × ES) := [(0, s_ldP 0), (1, s_ldI 1), (2, s_callV l g sg_X10_reply sg_X10_sideAt 9), (5, s_stP 5), (7, s_ldI 4), (9, s_c (.inl 0)), (10, s_c (.inl 3)), (11, s_callS l g sg_X10_reply sg_X10_isWithin), (14, s_callS l g sg_X10_reply sg_X10_requireArgument), (17, s_ldP 5), (19, s_getP 6 0), (22, s_ldI 2), (23, s_callS l g sg_X10_reply sg_X10_eventAt), (26, s_stP 6), (28, s_ldI 3), (29, s_c (.inl (-1))), (30, s_icmp_eq 42), (33, s_ldP 6), (35, s_ldI 3), (36, s_callV l g sg_X10_reply sg_X2_hasDate 1), (39, s_if_eq 46), (42, s_c (.inl 1)), (43, s_goto 47), (46, s_c (.inl 0)), (47, s_callS l g sg_X10_reply sg_X10_requireIndex), (50, s_ldP 0), (51, s_getP 9 2), (54, s_ldP 0), (55, s_getP 9 1), (58, s_callV l g sg_X10_reply sg_X4_save 3), (61, s_ldP 5), (63, s_ldI 2), (64, s_callV l g sg_X10_reply sg_X7_noteAnswers 6), (67, s_ldI 3), (68, s_c (.inl (-1))), (69, s_icmp_ne 93), (72, s_ldP 6), (74, s_getP 1 15), (77, s_ldI 1), (78, s_iald), (79, s_stI 7), (81, s_ldP 6), (83, s_getP 1 15), (86, s_ldI 1), (87, s_ldI 4), (89, s_iast), (90, s_goto 111), (93, s_ldP 6), (95, s_ldI 1), (96, s_ldI 3), (97, s_callV l g sg_X10_reply sg_X2_givenTo 1), (100, s_stI 7), (102, s_ldP 6), (104, s_ldI 1), (105, s_ldI 3), (106, s_ldI 4), (108, s_callV l g sg_X10_reply sg_X2_giveTo 1), (111, s_ldI 7), (113, s_ireti)]
set_option maxRecDepth 100000 in
theorem ok_X10_reply {l : Launch} {g : EG} : e_okp l g sg_X10_reply "CalendarSync" (pg_X10_reply l g) := fun p e R s m args below meth c ex M0 Q X =>
    e_each_cons (r_aload_n X (k := 0) (i := 0) rfl dX10_reply_0 rfl)
    (e_each_cons (r_iload_n X (k := 1) (i := 1) rfl dX10_reply_1 rfl)
    (e_each_cons (r_callV X rfl (τ := sg_X10_sideAt) (index := 262) (ci := 9) dX10_reply_2 (by decide) rfl w2_208 w2_210 ws_2 cs_X10_sideAt rfl ⟨by decide, by decide⟩ rfl)
    (e_each_cons (r_astore X (i := 5) dX10_reply_5 (by decide) rfl)
    (e_each_cons (r_iload X (i := 4) dX10_reply_7 rfl)
    (e_each_cons (r_iconst X (n := 0) (v := 0) dX10_reply_9 (by decide) rfl)
    (e_each_cons (r_iconst X (n := 3) (v := 3) dX10_reply_10 (by decide) rfl)
    (e_each_cons (r_callS X rfl (τ := sg_X10_isWithin) (index := 63) dX10_reply_11 w2_126 w2_127 cs_X10_isWithin rfl ⟨by decide, by decide⟩ rfl)
    (e_each_cons (r_callS X rfl (τ := sg_X10_requireArgument) (index := 67) dX10_reply_14 w2_129 w2_130 cs_X10_requireArgument rfl ⟨by decide, by decide⟩ rfl)
    (e_each_cons (r_aload X (i := 5) dX10_reply_17 rfl)
    (e_each_cons (r_getP X (index := 266) (ci := 6) (k := 0) dX10_reply_19 (by decide) (by decide) rfl w2_21 rfl)
    (e_each_cons (r_iload_n X (k := 2) (i := 2) rfl dX10_reply_22 rfl)
    (e_each_cons (r_callS X rfl (τ := sg_X10_eventAt) (index := 157) dX10_reply_23 w5_195 w5_196 cs_X10_eventAt rfl ⟨by decide, by decide⟩ rfl)
    (e_each_cons (r_astore X (i := 6) dX10_reply_26 (by decide) rfl)
    (e_each_cons (r_iload_n X (k := 3) (i := 3) rfl dX10_reply_28 rfl)
    (e_each_cons (r_iconst X (n := (-1)) (v := (-1)) dX10_reply_29 (by decide) rfl)
    (e_each_cons (r_icmp_eq X (off := 12) (t := 42) dX10_reply_30 (by decide) rfl)
    (e_each_cons (r_aload X (i := 6) dX10_reply_33 rfl)
    (e_each_cons (r_iload_n X (k := 3) (i := 3) rfl dX10_reply_35 rfl)
    (e_each_cons (r_callV X rfl (τ := sg_X2_hasDate) (index := 195) (ci := 1) dX10_reply_36 (by decide) rfl w5_206 w5_207 w5_208 cs_X2_hasDate rfl ⟨by decide, by decide⟩ rfl)
    (e_each_cons (r_if_eq X (off := 7) (t := 46) dX10_reply_39 (by decide) rfl)
    (e_each_cons (r_iconst X (n := 1) (v := 1) dX10_reply_42 (by decide) rfl)
    (e_each_cons (r_goto X (off := 4) (t := 47) dX10_reply_43 (by decide))
    (e_each_cons (r_iconst X (n := 0) (v := 0) dX10_reply_46 (by decide) rfl)
    (e_each_cons (r_callS X rfl (τ := sg_X10_requireIndex) (index := 198) dX10_reply_47 w5_211 w5_212 cs_X10_requireIndex rfl ⟨by decide, by decide⟩ rfl)
    (e_each_cons (r_aload_n X (k := 0) (i := 0) rfl dX10_reply_50 rfl)
    (e_each_cons (r_getP X (index := 26) (ci := 9) (k := 2) dX10_reply_51 (by decide) (by decide) rfl w2_101 rfl)
    (e_each_cons (r_aload_n X (k := 0) (i := 0) rfl dX10_reply_54 rfl)
    (e_each_cons (r_getP X (index := 19) (ci := 9) (k := 1) dX10_reply_55 (by decide) (by decide) rfl w2_100 rfl)
    (e_each_cons (r_callV X rfl (τ := sg_X4_save) (index := 305) (ci := 3) dX10_reply_58 (by decide) rfl w6_98 w6_99 w6_100 cs_X4_save rfl ⟨by decide, by decide⟩ rfl)
    (e_each_cons (r_aload X (i := 5) dX10_reply_61 rfl)
    (e_each_cons (r_iload_n X (k := 2) (i := 2) rfl dX10_reply_63 rfl)
    (e_each_cons (r_callV X rfl (τ := sg_X7_noteAnswers) (index := 335) (ci := 6) dX10_reply_64 (by decide) rfl w6_189 w6_190 w6_191 cs_X7_noteAnswers rfl ⟨by decide, by decide⟩ rfl)
    (e_each_cons (r_iload_n X (k := 3) (i := 3) rfl dX10_reply_67 rfl)
    (e_each_cons (r_iconst X (n := (-1)) (v := (-1)) dX10_reply_68 (by decide) rfl)
    (e_each_cons (r_icmp_ne X (off := 24) (t := 93) dX10_reply_69 (by decide) rfl)
    (e_each_cons (r_aload X (i := 6) dX10_reply_72 rfl)
    (e_each_cons (r_getP X (index := 223) (ci := 1) (k := 15) dX10_reply_74 (by decide) (by decide) rfl w1_122 rfl)
    (e_each_cons (r_iload_n X (k := 1) (i := 1) rfl dX10_reply_77 rfl)
    (e_each_cons (r_iald X dX10_reply_78 rfl)
    (e_each_cons (r_istore X (i := 7) dX10_reply_79 (by decide) rfl)
    (e_each_cons (r_aload X (i := 6) dX10_reply_81 rfl)
    (e_each_cons (r_getP X (index := 223) (ci := 1) (k := 15) dX10_reply_83 (by decide) (by decide) rfl w1_122 rfl)
    (e_each_cons (r_iload_n X (k := 1) (i := 1) rfl dX10_reply_86 rfl)
    (e_each_cons (r_iload X (i := 4) dX10_reply_87 rfl)
    (e_each_cons (r_iast X dX10_reply_89 rfl)
    (e_each_cons (r_goto X (off := 21) (t := 111) dX10_reply_90 (by decide))
    (e_each_cons (r_aload X (i := 6) dX10_reply_93 rfl)
    (e_each_cons (r_iload_n X (k := 1) (i := 1) rfl dX10_reply_95 rfl)
    (e_each_cons (r_iload_n X (k := 3) (i := 3) rfl dX10_reply_96 rfl)
    (e_each_cons (r_callV X rfl (τ := sg_X2_givenTo) (index := 338) (ci := 1) dX10_reply_97 (by decide) rfl w6_193 w3_17 w3_18 cs_X2_givenTo rfl ⟨by decide, by decide⟩ rfl)
    (e_each_cons (r_istore X (i := 7) dX10_reply_100 (by decide) rfl)
    (e_each_cons (r_aload X (i := 6) dX10_reply_102 rfl)
    (e_each_cons (r_iload_n X (k := 1) (i := 1) rfl dX10_reply_104 rfl)
    (e_each_cons (r_iload_n X (k := 3) (i := 3) rfl dX10_reply_105 rfl)
    (e_each_cons (r_iload X (i := 4) dX10_reply_106 rfl)
    (e_each_cons (r_callV X rfl (τ := sg_X2_giveTo) (index := 341) (ci := 1) dX10_reply_108 (by decide) rfl w6_194 w6_195 w6_196 cs_X2_giveTo rfl ⟨by decide, by decide⟩ rfl)
    (e_each_cons (r_iload X (i := 7) dX10_reply_111 rfl)
    (e_each_cons (r_ireti X dX10_reply_113 rfl)
    (e_each_nil)))))))))))))))))))))))))))))))))))))))))))))))))))))))))))
theorem dX10_remove_0 : decode cX10_remove 0 = .ok (.aload_n 0, 1) := by decide +kernel
theorem dX10_remove_1 : decode cX10_remove 1 = .ok (.iload_n 1, 1) := by decide +kernel
theorem dX10_remove_2 : decode cX10_remove 2 = .ok (.invokevirtual 262, 3) := by decide +kernel
theorem dX10_remove_5 : decode cX10_remove 5 = .ok (.astore_n 3, 1) := by decide +kernel
theorem dX10_remove_6 : decode cX10_remove 6 = .ok (.aload_n 3, 1) := by decide +kernel
theorem dX10_remove_7 : decode cX10_remove 7 = .ok (.getfield 266, 3) := by decide +kernel
theorem dX10_remove_10 : decode cX10_remove 10 = .ok (.iload_n 2, 1) := by decide +kernel
theorem dX10_remove_11 : decode cX10_remove 11 = .ok (.invokestatic 157, 3) := by decide +kernel
theorem dX10_remove_14 : decode cX10_remove 14 = .ok (.astore 4, 2) := by decide +kernel
theorem dX10_remove_16 : decode cX10_remove 16 = .ok (.aload_n 0, 1) := by decide +kernel
theorem dX10_remove_17 : decode cX10_remove 17 = .ok (.getfield 26, 3) := by decide +kernel
theorem dX10_remove_20 : decode cX10_remove 20 = .ok (.aload_n 0, 1) := by decide +kernel
theorem dX10_remove_21 : decode cX10_remove 21 = .ok (.getfield 19, 3) := by decide +kernel
theorem dX10_remove_24 : decode cX10_remove 24 = .ok (.invokevirtual 305, 3) := by decide +kernel
theorem dX10_remove_27 : decode cX10_remove 27 = .ok (.aload 4, 2) := by decide +kernel
theorem dX10_remove_29 : decode cX10_remove 29 = .ok (.iconst 0, 1) := by decide +kernel
theorem dX10_remove_30 : decode cX10_remove 30 = .ok (.putfield 344, 3) := by decide +kernel
theorem dX10_remove_33 : decode cX10_remove 33 = .ok (.aload_n 3, 1) := by decide +kernel
theorem dX10_remove_34 : decode cX10_remove 34 = .ok (.iload_n 2, 1) := by decide +kernel
theorem dX10_remove_35 : decode cX10_remove 35 = .ok (.invokevirtual 317, 3) := by decide +kernel
theorem dX10_remove_38 : decode cX10_remove 38 = .ok (.aload_n 3, 1) := by decide +kernel
theorem dX10_remove_39 : decode cX10_remove 39 = .ok (.getfield 266, 3) := by decide +kernel
theorem dX10_remove_42 : decode cX10_remove 42 = .ok (.invokevirtual 151, 3) := by decide +kernel
theorem dX10_remove_45 : decode cX10_remove 45 = .ok (.invokestatic 320, 3) := by decide +kernel
theorem dX10_remove_48 : decode cX10_remove 48 = .ok (.ireturn, 1) := by decide +kernel
def pg_X10_remove (l : Launch) (g : EG) : List (Nat × ES) := [(0, s_ldP 0), (1, s_ldI 1), (2, s_callV l g sg_X10_remove sg_X10_sideAt 9), (5, s_stP 3), (6, s_ldP 3), (7, s_getP 6 0), (10, s_ldI 2), (11, s_callS l g sg_X10_remove sg_X10_eventAt), (14, s_stP 4), (16, s_ldP 0), (17, s_getP 9 2), (20, s_ldP 0), (21, s_getP 9 1), (24, s_callV l g sg_X10_remove sg_X4_save 3), (27, s_ldP 4), (29, s_c (.inl 0)), (30, s_putI 1 0), (33, s_ldP 3), (34, s_ldI 2), (35, s_callV l g sg_X10_remove sg_X7_noteContent 6), (38, s_ldP 3), (39, s_getP 6 0), (42, s_callV l g sg_X10_remove sg_X5_eventBits 4), (45, s_callS l g sg_X10_remove sg_J6_bitCount_0f7a4), (48, s_ireti)]
set_option maxRecDepth 100000 in
theorem ok_X10_remove {l : Launch} {g : EG} : e_okp l g sg_X10_remove "CalendarSync" (pg_X10_remove l g) := fun p e R s m args below meth c ex M0 Q X =>
    e_each_cons (r_aload_n X (k := 0) (i := 0) rfl dX10_remove_0 rfl)
    (e_each_cons (r_iload_n X (k := 1) (i := 1) rfl dX10_remove_1 rfl)
    (e_each_cons (r_callV X rfl (τ := sg_X10_sideAt) (index := 262) (ci := 9) dX10_remove_2 (by decide) rfl w2_208 w2_210 ws_2 cs_X10_sideAt rfl ⟨by decide, by decide⟩ rfl)
    (e_each_cons (r_astore_n X (k := 3) (i := 3) rfl dX10_remove_5 (by decide) rfl)
    (e_each_cons (r_aload_n X (k := 3) (i := 3) rfl dX10_remove_6 rfl)
    (e_each_cons (r_getP X (index := 266) (ci := 6) (k := 0) dX10_remove_7 (by decide) (by decide) rfl w2_21 rfl)
    (e_each_cons (r_iload_n X (k := 2) (i := 2) rfl dX10_remove_10 rfl)
    (e_each_cons (r_callS X rfl (τ := sg_X10_eventAt) (index := 157) dX10_remove_11 w5_195 w5_196 cs_X10_eventAt rfl ⟨by decide, by decide⟩ rfl)
    (e_each_cons (r_astore X (i := 4) dX10_remove_14 (by decide) rfl)
    (e_each_cons (r_aload_n X (k := 0) (i := 0) rfl dX10_remove_16 rfl)
    (e_each_cons (r_getP X (index := 26) (ci := 9) (k := 2) dX10_remove_17 (by decide) (by decide) rfl w2_101 rfl)
    (e_each_cons (r_aload_n X (k := 0) (i := 0) rfl dX10_remove_20 rfl)
    (e_each_cons (r_getP X (index := 19) (ci := 9) (k := 1) dX10_remove_21 (by decide) (by decide) rfl w2_100 rfl)
    (e_each_cons (r_callV X rfl (τ := sg_X4_save) (index := 305) (ci := 3) dX10_remove_24 (by decide) rfl w6_98 w6_99 w6_100 cs_X4_save rfl ⟨by decide, by decide⟩ rfl)
    (e_each_cons (r_aload X (i := 4) dX10_remove_27 rfl)
    (e_each_cons (r_iconst X (n := 0) (v := 0) dX10_remove_29 (by decide) rfl)
    (e_each_cons (r_putI X (index := 344) (ci := 1) (k := 0) dX10_remove_30 (by decide) (by decide) rfl rfl w1_86 rfl)
    (e_each_cons (r_aload_n X (k := 3) (i := 3) rfl dX10_remove_33 rfl)
    (e_each_cons (r_iload_n X (k := 2) (i := 2) rfl dX10_remove_34 rfl)
    (e_each_cons (r_callV X rfl (τ := sg_X7_noteContent) (index := 317) (ci := 6) dX10_remove_35 (by decide) rfl w6_151 w6_152 w6_153 cs_X7_noteContent rfl ⟨by decide, by decide⟩ rfl)
    (e_each_cons (r_aload_n X (k := 3) (i := 3) rfl dX10_remove_38 rfl)
    (e_each_cons (r_getP X (index := 266) (ci := 6) (k := 0) dX10_remove_39 (by decide) (by decide) rfl w2_21 rfl)
    (e_each_cons (r_callV X rfl (τ := sg_X5_eventBits) (index := 151) (ci := 4) dX10_remove_42 (by decide) rfl w2_200 w2_201 w2_202 cs_X5_eventBits rfl ⟨by decide, by decide⟩ rfl)
    (e_each_cons (r_callS X rfl (τ := sg_J6_bitCount_0f7a4) (index := 320) dX10_remove_45 w6_155 w6_89 cs_J6_bitCount_0f7a4 rfl ⟨by decide, by decide⟩ rfl)
    (e_each_cons (r_ireti X dX10_remove_48 rfl)
    (e_each_nil)))))))))))))))))))))))))
theorem dX10_setZone_0 : decode cX10_setZone 0 = .ok (.aload_n 0, 1) := by decide +kernel
theorem dX10_setZone_1 : decode cX10_setZone 1 = .ok (.getfield 19, 3) := by decide +kernel
theorem dX10_setZone_4 : decode cX10_setZone 4 = .ok (.getfield 271, 3) := by decide +kernel
theorem dX10_setZone_7 : decode cX10_setZone 7 = .ok (.iload_n 1, 1) := by decide +kernel
theorem dX10_setZone_8 : decode cX10_setZone 8 = .ok (.invokestatic 123, 3) := by decide +kernel
theorem dX10_setZone_11 : decode cX10_setZone 11 = .ok (.astore 5, 2) := by decide +kernel
theorem dX10_setZone_13 : decode cX10_setZone 13 = .ok (.iload_n 2, 1) := by decide +kernel
theorem dX10_setZone_14 : decode cX10_setZone 14 = .ok (.sipush (-720), 3) := by decide +kernel
theorem dX10_setZone_17 : decode cX10_setZone 17 = .ok (.sipush 720, 3) := by decide +kernel
theorem dX10_setZone_20 : decode cX10_setZone 20 = .ok (.invokestatic 63, 3) := by decide +kernel
theorem dX10_setZone_23 : decode cX10_setZone 23 = .ok (.invokestatic 67, 3) := by decide +kernel
theorem dX10_setZone_26 : decode cX10_setZone 26 = .ok (.iload_n 3, 1) := by decide +kernel
theorem dX10_setZone_27 : decode cX10_setZone 27 = .ok (.iconst (-1), 1) := by decide +kernel
theorem dX10_setZone_28 : decode cX10_setZone 28 = .ok (.if_icmp .eq 10, 3) := by decide +kernel
theorem dX10_setZone_31 : decode cX10_setZone 31 = .ok (.iload_n 3, 1) := by decide +kernel
theorem dX10_setZone_32 : decode cX10_setZone 32 = .ok (.invokestatic 348, 3) := by decide +kernel
theorem dX10_setZone_35 : decode cX10_setZone 35 = .ok (.ifCond .eq 7, 3) := by decide +kernel
theorem dX10_setZone_38 : decode cX10_setZone 38 = .ok (.iconst 1, 1) := by decide +kernel
theorem dX10_setZone_39 : decode cX10_setZone 39 = .ok (.goto 4, 3) := by decide +kernel
theorem dX10_setZone_42 : decode cX10_setZone 42 = .ok (.iconst 0, 1) := by decide +kernel
theorem dX10_setZone_43 : decode cX10_setZone 43 = .ok (.invokestatic 67, 3) := by decide +kernel
theorem dX10_setZone_46 : decode cX10_setZone 46 = .ok (.iload_n 3, 1) := by decide +kernel
theorem dX10_setZone_47 : decode cX10_setZone 47 = .ok (.iconst (-1), 1) := by decide +kernel
theorem dX10_setZone_48 : decode cX10_setZone 48 = .ok (.if_icmp .eq 17, 3) := by decide +kernel
theorem dX10_setZone_51 : decode cX10_setZone 51 = .ok (.iload 4, 2) := by decide +kernel
theorem dX10_setZone_53 : decode cX10_setZone 53 = .ok (.invokestatic 348, 3) := by decide +kernel
theorem dX10_setZone_56 : decode cX10_setZone 56 = .ok (.ifCond .eq 13, 3) := by decide +kernel
theorem dX10_setZone_59 : decode cX10_setZone 59 = .ok (.iload_n 3, 1) := by decide +kernel
theorem dX10_setZone_60 : decode cX10_setZone 60 = .ok (.iload 4, 2) := by decide +kernel
theorem dX10_setZone_62 : decode cX10_setZone 62 = .ok (.if_icmp .gt 7, 3) := by decide +kernel
theorem dX10_setZone_65 : decode cX10_setZone 65 = .ok (.iconst 1, 1) := by decide +kernel
theorem dX10_setZone_66 : decode cX10_setZone 66 = .ok (.goto 4, 3) := by decide +kernel
theorem dX10_setZone_69 : decode cX10_setZone 69 = .ok (.iconst 0, 1) := by decide +kernel
theorem dX10_setZone_70 : decode cX10_setZone 70 = .ok (.invokestatic 67, 3) := by decide +kernel
theorem dX10_setZone_73 : decode cX10_setZone 73 = .ok (.aload_n 0, 1) := by decide +kernel
theorem dX10_setZone_74 : decode cX10_setZone 74 = .ok (.getfield 26, 3) := by decide +kernel
theorem dX10_setZone_77 : decode cX10_setZone 77 = .ok (.aload_n 0, 1) := by decide +kernel
theorem dX10_setZone_78 : decode cX10_setZone 78 = .ok (.getfield 19, 3) := by decide +kernel
theorem dX10_setZone_81 : decode cX10_setZone 81 = .ok (.invokevirtual 305, 3) := by decide +kernel
theorem dX10_setZone_84 : decode cX10_setZone 84 = .ok (.aload 5, 2) := by decide +kernel
theorem dX10_setZone_86 : decode cX10_setZone 86 = .ok (.iload_n 2, 1) := by decide +kernel
theorem dX10_setZone_87 : decode cX10_setZone 87 = .ok (.iload_n 3, 1) := by decide +kernel
theorem dX10_setZone_88 : decode cX10_setZone 88 = .ok (.iload_n 3, 1) := by decide +kernel
theorem dX10_setZone_89 : decode cX10_setZone 89 = .ok (.iconst (-1), 1) := by decide +kernel
theorem dX10_setZone_90 : decode cX10_setZone 90 = .ok (.if_icmp .ne 7, 3) := by decide +kernel
theorem dX10_setZone_93 : decode cX10_setZone 93 = .ok (.iconst (-1), 1) := by decide +kernel
theorem dX10_setZone_94 : decode cX10_setZone 94 = .ok (.goto 5, 3) := by decide +kernel
theorem dX10_setZone_97 : decode cX10_setZone 97 = .ok (.iload 4, 2) := by decide +kernel
theorem dX10_setZone_99 : decode cX10_setZone 99 = .ok (.invokevirtual 351, 3) := by decide +kernel
theorem dX10_setZone_102 : decode cX10_setZone 102 = .ok (.aload 5, 2) := by decide +kernel
theorem dX10_setZone_104 : decode cX10_setZone 104 = .ok (.aload_n 0, 1) := by decide +kernel
theorem dX10_setZone_105 : decode cX10_setZone 105 = .ok (.getfield 19, 3) := by decide +kernel
theorem dX10_setZone_108 : decode cX10_setZone 108 = .ok (.iconst (-1), 1) := by decide +kernel
theorem dX10_setZone_109 : decode cX10_setZone 109 = .ok (.invokevirtual 354, 3) := by decide +kernel
theorem dX10_setZone_112 : decode cX10_setZone 112 = .ok (.putfield 138, 3) := by decide +kernel
theorem dX10_setZone_115 : decode cX10_setZone 115 = .ok (.aload_n 0, 1) := by decide +kernel
theorem dX10_setZone_116 : decode cX10_setZone 116 = .ok (.getfield 19, 3) := by decide +kernel
theorem dX10_setZone_119 : decode cX10_setZone 119 = .ok (.getfield 278, 3) := by decide +kernel
theorem dX10_setZone_122 : decode cX10_setZone 122 = .ok (.ireturn, 1) := by decide +kernel
def pg_X10_setZone (l : Launch) (g : EG) : List (Nat × ES) := [(0, s_ldP 0), (1, s_getP 9 1), (4, s_getP 2 1), (7, s_ldI 1), (8, s_callS l g sg_X10_setZone sg_X10_zoneAt), (11, s_stP 5), (13, s_ldI 2), (14, s_c (.inl (-720))), (17, s_c (.inl 720)), (20, s_callS l g sg_X10_setZone sg_X10_isWithin), (23, s_callS l g sg_X10_setZone sg_X10_requireArgument), (26, s_ldI 3), (27, s_c (.inl (-1))), (28, s_icmp_eq 38), (31, s_ldI 3), (32, s_callS l g sg_X10_setZone sg_X1_isDayOfYear), (35, s_if_eq 42), (38, s_c (.inl 1)), (39, s_goto 43), (42, s_c (.inl 0)), (43, s_callS l g sg_X10_setZone sg_X10_requireArgument), (46, s_ldI 3), (47, s_c (.inl (-1))), (48, s_icmp_eq 65), (51, s_ldI 4), (53, s_callS l g sg_X10_setZone sg_X1_isDayOfYear), (56, s_if_eq 69), (59, s_ldI 3), (60, s_ldI 4), (62, s_icmp_gt 69), (65, s_c (.inl 1)), (66, s_goto 70), (69, s_c (.inl 0)), (70, s_callS l g sg_X10_setZone sg_X10_requireArgument), (73, s_ldP 0), (74, s_getP 9 2), (77, s_ldP 0), (78, s_getP 9 1), (81, s_callV l g sg_X10_setZone sg_X4_save 3), (84, s_ldP 5), (86, s_ldI 2), (87, s_ldI 3), (88, s_ldI 3), (89, s_c (.inl (-1))), (90, s_icmp_ne 97), (93, s_c (.inl (-1))), (94, s_goto 99), (97, s_ldI 4), (99, s_callV l g sg_X10_setZone sg_X9_setTo 8), (102, s_ldP 5), (104, s_ldP 0), (105, s_getP 9 1), (108, s_c (.inl (-1))), (109, s_callV l g sg_X10_setZone sg_X3_countChange 2), (112, s_putI 8 3), (115, s_ldP 0), (116, s_getP 9 1), (119, s_getI 2 0), (122, s_ireti)]
set_option maxRecDepth 100000 in
theorem ok_X10_setZone {l : Launch} {g : EG} : e_okp l g sg_X10_setZone "CalendarSync" (pg_X10_setZone l g) := fun p e R s m args below meth c ex M0 Q X =>
    e_each_cons (r_aload_n X (k := 0) (i := 0) rfl dX10_setZone_0 rfl)
    (e_each_cons (r_getP X (index := 19) (ci := 9) (k := 1) dX10_setZone_1 (by decide) (by decide) rfl w2_100 rfl)
    (e_each_cons (r_getP X (index := 271) (ci := 2) (k := 1) dX10_setZone_4 (by decide) (by decide) rfl w2_48 rfl)
    (e_each_cons (r_iload_n X (k := 1) (i := 1) rfl dX10_setZone_7 rfl)
    (e_each_cons (r_callS X rfl (τ := sg_X10_zoneAt) (index := 123) dX10_setZone_8 w5_168 w5_169 cs_X10_zoneAt rfl ⟨by decide, by decide⟩ rfl)
    (e_each_cons (r_astore X (i := 5) dX10_setZone_11 (by decide) rfl)
    (e_each_cons (r_iload_n X (k := 2) (i := 2) rfl dX10_setZone_13 rfl)
    (e_each_cons (r_sipush X (n := (-720)) (v := (-720)) dX10_setZone_14 (by decide) rfl)
    (e_each_cons (r_sipush X (n := 720) (v := 720) dX10_setZone_17 (by decide) rfl)
    (e_each_cons (r_callS X rfl (τ := sg_X10_isWithin) (index := 63) dX10_setZone_20 w2_126 w2_127 cs_X10_isWithin rfl ⟨by decide, by decide⟩ rfl)
    (e_each_cons (r_callS X rfl (τ := sg_X10_requireArgument) (index := 67) dX10_setZone_23 w2_129 w2_130 cs_X10_requireArgument rfl ⟨by decide, by decide⟩ rfl)
    (e_each_cons (r_iload_n X (k := 3) (i := 3) rfl dX10_setZone_26 rfl)
    (e_each_cons (r_iconst X (n := (-1)) (v := (-1)) dX10_setZone_27 (by decide) rfl)
    (e_each_cons (r_icmp_eq X (off := 10) (t := 38) dX10_setZone_28 (by decide) rfl)
    (e_each_cons (r_iload_n X (k := 3) (i := 3) rfl dX10_setZone_31 rfl)
    (e_each_cons (r_callS X rfl (τ := sg_X1_isDayOfYear) (index := 348) dX10_setZone_32 w6_211 w6_212 cs_X1_isDayOfYear rfl ⟨by decide, by decide⟩ rfl)
    (e_each_cons (r_if_eq X (off := 7) (t := 42) dX10_setZone_35 (by decide) rfl)
    (e_each_cons (r_iconst X (n := 1) (v := 1) dX10_setZone_38 (by decide) rfl)
    (e_each_cons (r_goto X (off := 4) (t := 43) dX10_setZone_39 (by decide))
    (e_each_cons (r_iconst X (n := 0) (v := 0) dX10_setZone_42 (by decide) rfl)
    (e_each_cons (r_callS X rfl (τ := sg_X10_requireArgument) (index := 67) dX10_setZone_43 w2_129 w2_130 cs_X10_requireArgument rfl ⟨by decide, by decide⟩ rfl)
    (e_each_cons (r_iload_n X (k := 3) (i := 3) rfl dX10_setZone_46 rfl)
    (e_each_cons (r_iconst X (n := (-1)) (v := (-1)) dX10_setZone_47 (by decide) rfl)
    (e_each_cons (r_icmp_eq X (off := 17) (t := 65) dX10_setZone_48 (by decide) rfl)
    (e_each_cons (r_iload X (i := 4) dX10_setZone_51 rfl)
    (e_each_cons (r_callS X rfl (τ := sg_X1_isDayOfYear) (index := 348) dX10_setZone_53 w6_211 w6_212 cs_X1_isDayOfYear rfl ⟨by decide, by decide⟩ rfl)
    (e_each_cons (r_if_eq X (off := 13) (t := 69) dX10_setZone_56 (by decide) rfl)
    (e_each_cons (r_iload_n X (k := 3) (i := 3) rfl dX10_setZone_59 rfl)
    (e_each_cons (r_iload X (i := 4) dX10_setZone_60 rfl)
    (e_each_cons (r_icmp_gt X (off := 7) (t := 69) dX10_setZone_62 (by decide) rfl)
    (e_each_cons (r_iconst X (n := 1) (v := 1) dX10_setZone_65 (by decide) rfl)
    (e_each_cons (r_goto X (off := 4) (t := 70) dX10_setZone_66 (by decide))
    (e_each_cons (r_iconst X (n := 0) (v := 0) dX10_setZone_69 (by decide) rfl)
    (e_each_cons (r_callS X rfl (τ := sg_X10_requireArgument) (index := 67) dX10_setZone_70 w2_129 w2_130 cs_X10_requireArgument rfl ⟨by decide, by decide⟩ rfl)
    (e_each_cons (r_aload_n X (k := 0) (i := 0) rfl dX10_setZone_73 rfl)
    (e_each_cons (r_getP X (index := 26) (ci := 9) (k := 2) dX10_setZone_74 (by decide) (by decide) rfl w2_101 rfl)
    (e_each_cons (r_aload_n X (k := 0) (i := 0) rfl dX10_setZone_77 rfl)
    (e_each_cons (r_getP X (index := 19) (ci := 9) (k := 1) dX10_setZone_78 (by decide) (by decide) rfl w2_100 rfl)
    (e_each_cons (r_callV X rfl (τ := sg_X4_save) (index := 305) (ci := 3) dX10_setZone_81 (by decide) rfl w6_98 w6_99 w6_100 cs_X4_save rfl ⟨by decide, by decide⟩ rfl)
    (e_each_cons (r_aload X (i := 5) dX10_setZone_84 rfl)
    (e_each_cons (r_iload_n X (k := 2) (i := 2) rfl dX10_setZone_86 rfl)
    (e_each_cons (r_iload_n X (k := 3) (i := 3) rfl dX10_setZone_87 rfl)
    (e_each_cons (r_iload_n X (k := 3) (i := 3) rfl dX10_setZone_88 rfl)
    (e_each_cons (r_iconst X (n := (-1)) (v := (-1)) dX10_setZone_89 (by decide) rfl)
    (e_each_cons (r_icmp_ne X (off := 7) (t := 97) dX10_setZone_90 (by decide) rfl)
    (e_each_cons (r_iconst X (n := (-1)) (v := (-1)) dX10_setZone_93 (by decide) rfl)
    (e_each_cons (r_goto X (off := 5) (t := 99) dX10_setZone_94 (by decide))
    (e_each_cons (r_iload X (i := 4) dX10_setZone_97 rfl)
    (e_each_cons (r_callV X rfl (τ := sg_X9_setTo) (index := 351) (ci := 8) dX10_setZone_99 (by decide) rfl w6_214 w3_199 w3_200 cs_X9_setTo rfl ⟨by decide, by decide⟩ rfl)
    (e_each_cons (r_aload X (i := 5) dX10_setZone_102 rfl)
    (e_each_cons (r_aload_n X (k := 0) (i := 0) rfl dX10_setZone_104 rfl)
    (e_each_cons (r_getP X (index := 19) (ci := 9) (k := 1) dX10_setZone_105 (by decide) (by decide) rfl w2_100 rfl)
    (e_each_cons (r_iconst X (n := (-1)) (v := (-1)) dX10_setZone_108 (by decide) rfl)
    (e_each_cons (r_callV X rfl (τ := sg_X3_countChange) (index := 354) (ci := 2) dX10_setZone_109 (by decide) rfl w6_215 w6_117 w6_118 cs_X3_countChange rfl ⟨by decide, by decide⟩ rfl)
    (e_each_cons (r_putI X (index := 138) (ci := 8) (k := 3) dX10_setZone_112 (by decide) (by decide) rfl rfl w1_66 rfl)
    (e_each_cons (r_aload_n X (k := 0) (i := 0) rfl dX10_setZone_115 rfl)
    (e_each_cons (r_getP X (index := 19) (ci := 9) (k := 1) dX10_setZone_116 (by decide) (by decide) rfl w2_100 rfl)
    (e_each_cons (r_getI X (index := 278) (ci := 2) (k := 0) dX10_setZone_119 (by decide) (by decide) rfl w2_46 rfl)
    (e_each_cons (r_ireti X dX10_setZone_122 rfl)
    (e_each_nil)))))))))))))))))))))))))))))))))))))))))))))))))))))))))))
theorem dX10_push_0 : decode cX10_push 0 = .ok (.iload_n 1, 1) := by decide +kernel
theorem dX10_push_1 : decode cX10_push 1 = .ok (.invokestatic 220, 3) := by decide +kernel
theorem dX10_push_4 : decode cX10_push 4 = .ok (.invokestatic 67, 3) := by decide +kernel
theorem dX10_push_7 : decode cX10_push 7 = .ok (.aload_n 0, 1) := by decide +kernel
theorem dX10_push_8 : decode cX10_push 8 = .ok (.getfield 26, 3) := by decide +kernel
theorem dX10_push_11 : decode cX10_push 11 = .ok (.aload_n 0, 1) := by decide +kernel
theorem dX10_push_12 : decode cX10_push 12 = .ok (.getfield 19, 3) := by decide +kernel
theorem dX10_push_15 : decode cX10_push 15 = .ok (.invokevirtual 305, 3) := by decide +kernel
theorem dX10_push_18 : decode cX10_push 18 = .ok (.aload_n 0, 1) := by decide +kernel
theorem dX10_push_19 : decode cX10_push 19 = .ok (.getfield 19, 3) := by decide +kernel
theorem dX10_push_22 : decode cX10_push 22 = .ok (.iload_n 1, 1) := by decide +kernel
theorem dX10_push_23 : decode cX10_push 23 = .ok (.invokevirtual 357, 3) := by decide +kernel
theorem dX10_push_26 : decode cX10_push 26 = .ok (.ireturn, 1) := by decide +kernel
def pg_X10_push (l : Launch) (g : EG) : List (Nat × ES) := [(0, s_ldI 1), (1, s_callS l g sg_X10_push sg_X10_isSide), (4, s_callS l g sg_X10_push sg_X10_requireArgument), (7, s_ldP 0), (8, s_getP 9 2), (11, s_ldP 0), (12, s_getP 9 1), (15, s_callV l g sg_X10_push sg_X4_save 3), (18, s_ldP 0), (19, s_getP 9 1), (22, s_ldI 1), (23, s_callV l g sg_X10_push sg_X3_pushFrom 2), (26, s_ireti)]
set_option maxRecDepth 100000 in
theorem ok_X10_push {l : Launch} {g : EG} : e_okp l g sg_X10_push "CalendarSync" (pg_X10_push l g) := fun p e R s m args below meth c ex M0 Q X =>
    e_each_cons (r_iload_n X (k := 1) (i := 1) rfl dX10_push_0 rfl)
    (e_each_cons (r_callS X rfl (τ := sg_X10_isSide) (index := 220) dX10_push_1 w2_212 w2_213 cs_X10_isSide rfl ⟨by decide, by decide⟩ rfl)
    (e_each_cons (r_callS X rfl (τ := sg_X10_requireArgument) (index := 67) dX10_push_4 w2_129 w2_130 cs_X10_requireArgument rfl ⟨by decide, by decide⟩ rfl)
    (e_each_cons (r_aload_n X (k := 0) (i := 0) rfl dX10_push_7 rfl)
    (e_each_cons (r_getP X (index := 26) (ci := 9) (k := 2) dX10_push_8 (by decide) (by decide) rfl w2_101 rfl)
    (e_each_cons (r_aload_n X (k := 0) (i := 0) rfl dX10_push_11 rfl)
    (e_each_cons (r_getP X (index := 19) (ci := 9) (k := 1) dX10_push_12 (by decide) (by decide) rfl w2_100 rfl)
    (e_each_cons (r_callV X rfl (τ := sg_X4_save) (index := 305) (ci := 3) dX10_push_15 (by decide) rfl w6_98 w6_99 w6_100 cs_X4_save rfl ⟨by decide, by decide⟩ rfl)
    (e_each_cons (r_aload_n X (k := 0) (i := 0) rfl dX10_push_18 rfl)
    (e_each_cons (r_getP X (index := 19) (ci := 9) (k := 1) dX10_push_19 (by decide) (by decide) rfl w2_100 rfl)
    (e_each_cons (r_iload_n X (k := 1) (i := 1) rfl dX10_push_22 rfl)
    (e_each_cons (r_callV X rfl (τ := sg_X3_pushFrom) (index := 357) (ci := 2) dX10_push_23 (by decide) rfl w6_103 w6_104 w6_105 cs_X3_pushFrom rfl ⟨by decide, by decide⟩ rfl)
    (e_each_cons (r_ireti X dX10_push_26 rfl)
    (e_each_nil)))))))))))))
theorem dX10_pull_0 : decode cX10_pull 0 = .ok (.iload_n 1, 1) := by decide +kernel
theorem dX10_pull_1 : decode cX10_pull 1 = .ok (.invokestatic 220, 3) := by decide +kernel
theorem dX10_pull_4 : decode cX10_pull 4 = .ok (.invokestatic 67, 3) := by decide +kernel
theorem dX10_pull_7 : decode cX10_pull 7 = .ok (.aload_n 0, 1) := by decide +kernel
theorem dX10_pull_8 : decode cX10_pull 8 = .ok (.getfield 26, 3) := by decide +kernel
theorem dX10_pull_11 : decode cX10_pull 11 = .ok (.aload_n 0, 1) := by decide +kernel
theorem dX10_pull_12 : decode cX10_pull 12 = .ok (.getfield 19, 3) := by decide +kernel
theorem dX10_pull_15 : decode cX10_pull 15 = .ok (.invokevirtual 305, 3) := by decide +kernel
theorem dX10_pull_18 : decode cX10_pull 18 = .ok (.aload_n 0, 1) := by decide +kernel
theorem dX10_pull_19 : decode cX10_pull 19 = .ok (.getfield 19, 3) := by decide +kernel
theorem dX10_pull_22 : decode cX10_pull 22 = .ok (.iload_n 1, 1) := by decide +kernel
theorem dX10_pull_23 : decode cX10_pull 23 = .ok (.invokevirtual 360, 3) := by decide +kernel
theorem dX10_pull_26 : decode cX10_pull 26 = .ok (.ireturn, 1) := by decide +kernel
def pg_X10_pull (l : Launch) (g : EG) : List (Nat × ES) := [(0, s_ldI 1), (1, s_callS l g sg_X10_pull sg_X10_isSide), (4, s_callS l g sg_X10_pull sg_X10_requireArgument), (7, s_ldP 0), (8, s_getP 9 2), (11, s_ldP 0), (12, s_getP 9 1), (15, s_callV l g sg_X10_pull sg_X4_save 3), (18, s_ldP 0), (19, s_getP 9 1), (22, s_ldI 1), (23, s_callV l g sg_X10_pull sg_X3_pullTo 2), (26, s_ireti)]
set_option maxRecDepth 100000 in
theorem ok_X10_pull {l : Launch} {g : EG} : e_okp l g sg_X10_pull "CalendarSync" (pg_X10_pull l g) := fun p e R s m args below meth c ex M0 Q X =>
    e_each_cons (r_iload_n X (k := 1) (i := 1) rfl dX10_pull_0 rfl)
    (e_each_cons (r_callS X rfl (τ := sg_X10_isSide) (index := 220) dX10_pull_1 w2_212 w2_213 cs_X10_isSide rfl ⟨by decide, by decide⟩ rfl)
    (e_each_cons (r_callS X rfl (τ := sg_X10_requireArgument) (index := 67) dX10_pull_4 w2_129 w2_130 cs_X10_requireArgument rfl ⟨by decide, by decide⟩ rfl)
    (e_each_cons (r_aload_n X (k := 0) (i := 0) rfl dX10_pull_7 rfl)
    (e_each_cons (r_getP X (index := 26) (ci := 9) (k := 2) dX10_pull_8 (by decide) (by decide) rfl w2_101 rfl)
    (e_each_cons (r_aload_n X (k := 0) (i := 0) rfl dX10_pull_11 rfl)
    (e_each_cons (r_getP X (index := 19) (ci := 9) (k := 1) dX10_pull_12 (by decide) (by decide) rfl w2_100 rfl)
    (e_each_cons (r_callV X rfl (τ := sg_X4_save) (index := 305) (ci := 3) dX10_pull_15 (by decide) rfl w6_98 w6_99 w6_100 cs_X4_save rfl ⟨by decide, by decide⟩ rfl)
    (e_each_cons (r_aload_n X (k := 0) (i := 0) rfl dX10_pull_18 rfl)
    (e_each_cons (r_getP X (index := 19) (ci := 9) (k := 1) dX10_pull_19 (by decide) (by decide) rfl w2_100 rfl)
    (e_each_cons (r_iload_n X (k := 1) (i := 1) rfl dX10_pull_22 rfl)
    (e_each_cons (r_callV X rfl (τ := sg_X3_pullTo) (index := 360) (ci := 2) dX10_pull_23 (by decide) rfl w6_129 w6_130 w6_131 cs_X3_pullTo rfl ⟨by decide, by decide⟩ rfl)
    (e_each_cons (r_ireti X dX10_pull_26 rfl)
    (e_each_nil)))))))))))))
theorem dX10_sync_0 : decode cX10_sync 0 = .ok (.iload_n 1, 1) := by decide +kernel
theorem dX10_sync_1 : decode cX10_sync 1 = .ok (.invokestatic 220, 3) := by decide +kernel
theorem dX10_sync_4 : decode cX10_sync 4 = .ok (.invokestatic 67, 3) := by decide +kernel
theorem dX10_sync_7 : decode cX10_sync 7 = .ok (.aload_n 0, 1) := by decide +kernel
theorem dX10_sync_8 : decode cX10_sync 8 = .ok (.getfield 26, 3) := by decide +kernel
theorem dX10_sync_11 : decode cX10_sync 11 = .ok (.aload_n 0, 1) := by decide +kernel
theorem dX10_sync_12 : decode cX10_sync 12 = .ok (.getfield 19, 3) := by decide +kernel
theorem dX10_sync_15 : decode cX10_sync 15 = .ok (.invokevirtual 305, 3) := by decide +kernel
theorem dX10_sync_18 : decode cX10_sync 18 = .ok (.aload_n 0, 1) := by decide +kernel
theorem dX10_sync_19 : decode cX10_sync 19 = .ok (.getfield 19, 3) := by decide +kernel
theorem dX10_sync_22 : decode cX10_sync 22 = .ok (.iload_n 1, 1) := by decide +kernel
theorem dX10_sync_23 : decode cX10_sync 23 = .ok (.invokevirtual 357, 3) := by decide +kernel
theorem dX10_sync_26 : decode cX10_sync 26 = .ok (.pop, 1) := by decide +kernel
theorem dX10_sync_27 : decode cX10_sync 27 = .ok (.aload_n 0, 1) := by decide +kernel
theorem dX10_sync_28 : decode cX10_sync 28 = .ok (.getfield 19, 3) := by decide +kernel
theorem dX10_sync_31 : decode cX10_sync 31 = .ok (.iload_n 1, 1) := by decide +kernel
theorem dX10_sync_32 : decode cX10_sync 32 = .ok (.invokevirtual 360, 3) := by decide +kernel
theorem dX10_sync_35 : decode cX10_sync 35 = .ok (.ireturn, 1) := by decide +kernel
def pg_X10_sync (l : Launch) (g : EG) : List (Nat × ES) := [(0, s_ldI 1), (1, s_callS l g sg_X10_sync sg_X10_isSide), (4, s_callS l g sg_X10_sync sg_X10_requireArgument), (7, s_ldP 0), (8, s_getP 9 2), (11, s_ldP 0), (12, s_getP 9 1), (15, s_callV l g sg_X10_sync sg_X4_save 3), (18, s_ldP 0), (19, s_getP 9 1), (22, s_ldI 1), (23, s_callV l g sg_X10_sync sg_X3_pushFrom 2), (26, s_pop), (27, s_ldP 0), (28, s_getP 9 1), (31, s_ldI 1), (32, s_callV l g sg_X10_sync sg_X3_pullTo 2), (35, s_ireti)]
set_option maxRecDepth 100000 in
theorem ok_X10_sync {l : Launch} {g : EG} : e_okp l g sg_X10_sync "CalendarSync" (pg_X10_sync l g) := fun p e R s m args below meth c ex M0 Q X =>
    e_each_cons (r_iload_n X (k := 1) (i := 1) rfl dX10_sync_0 rfl)
    (e_each_cons (r_callS X rfl (τ := sg_X10_isSide) (index := 220) dX10_sync_1 w2_212 w2_213 cs_X10_isSide rfl ⟨by decide, by decide⟩ rfl)
    (e_each_cons (r_callS X rfl (τ := sg_X10_requireArgument) (index := 67) dX10_sync_4 w2_129 w2_130 cs_X10_requireArgument rfl ⟨by decide, by decide⟩ rfl)
    (e_each_cons (r_aload_n X (k := 0) (i := 0) rfl dX10_sync_7 rfl)
    (e_each_cons (r_getP X (index := 26) (ci := 9) (k := 2) dX10_sync_8 (by decide) (by decide) rfl w2_101 rfl)
    (e_each_cons (r_aload_n X (k := 0) (i := 0) rfl dX10_sync_11 rfl)
    (e_each_cons (r_getP X (index := 19) (ci := 9) (k := 1) dX10_sync_12 (by decide) (by decide) rfl w2_100 rfl)
    (e_each_cons (r_callV X rfl (τ := sg_X4_save) (index := 305) (ci := 3) dX10_sync_15 (by decide) rfl w6_98 w6_99 w6_100 cs_X4_save rfl ⟨by decide, by decide⟩ rfl)
    (e_each_cons (r_aload_n X (k := 0) (i := 0) rfl dX10_sync_18 rfl)
    (e_each_cons (r_getP X (index := 19) (ci := 9) (k := 1) dX10_sync_19 (by decide) (by decide) rfl w2_100 rfl)
    (e_each_cons (r_iload_n X (k := 1) (i := 1) rfl dX10_sync_22 rfl)
    (e_each_cons (r_callV X rfl (τ := sg_X3_pushFrom) (index := 357) (ci := 2) dX10_sync_23 (by decide) rfl w6_103 w6_104 w6_105 cs_X3_pushFrom rfl ⟨by decide, by decide⟩ rfl)
    (e_each_cons (r_pop X dX10_sync_26 rfl)
    (e_each_cons (r_aload_n X (k := 0) (i := 0) rfl dX10_sync_27 rfl)
    (e_each_cons (r_getP X (index := 19) (ci := 9) (k := 1) dX10_sync_28 (by decide) (by decide) rfl w2_100 rfl)
    (e_each_cons (r_iload_n X (k := 1) (i := 1) rfl dX10_sync_31 rfl)
    (e_each_cons (r_callV X rfl (τ := sg_X3_pullTo) (index := 360) (ci := 2) dX10_sync_32 (by decide) rfl w6_129 w6_130 w6_131 cs_X3_pullTo rfl ⟨by decide, by decide⟩ rfl)
    (e_each_cons (r_ireti X dX10_sync_35 rfl)
    (e_each_nil))))))))))))))))))
theorem dX10_undo_0 : decode cX10_undo 0 = .ok (.aload_n 0, 1) := by decide +kernel
theorem dX10_undo_1 : decode cX10_undo 1 = .ok (.getfield 26, 3) := by decide +kernel
theorem dX10_undo_4 : decode cX10_undo 4 = .ok (.getfield 363, 3) := by decide +kernel
theorem dX10_undo_7 : decode cX10_undo 7 = .ok (.ifCond .le 7, 3) := by decide +kernel
theorem dX10_undo_10 : decode cX10_undo 10 = .ok (.iconst 1, 1) := by decide +kernel
theorem dX10_undo_11 : decode cX10_undo 11 = .ok (.goto 4, 3) := by decide +kernel
theorem dX10_undo_14 : decode cX10_undo 14 = .ok (.iconst 0, 1) := by decide +kernel
theorem dX10_undo_15 : decode cX10_undo 15 = .ok (.invokestatic 55, 3) := by decide +kernel
theorem dX10_undo_18 : decode cX10_undo 18 = .ok (.aload_n 0, 1) := by decide +kernel
theorem dX10_undo_19 : decode cX10_undo 19 = .ok (.getfield 26, 3) := by decide +kernel
theorem dX10_undo_22 : decode cX10_undo 22 = .ok (.aload_n 0, 1) := by decide +kernel
theorem dX10_undo_23 : decode cX10_undo 23 = .ok (.getfield 19, 3) := by decide +kernel
theorem dX10_undo_26 : decode cX10_undo 26 = .ok (.invokevirtual 364, 3) := by decide +kernel
theorem dX10_undo_29 : decode cX10_undo 29 = .ok (.aload_n 0, 1) := by decide +kernel
theorem dX10_undo_30 : decode cX10_undo 30 = .ok (.getfield 26, 3) := by decide +kernel
theorem dX10_undo_33 : decode cX10_undo 33 = .ok (.getfield 363, 3) := by decide +kernel
theorem dX10_undo_36 : decode cX10_undo 36 = .ok (.ireturn, 1) := by decide +kernel
def pg_X10_undo (l : Launch) (g : EG) : List (Nat × ES) := [(0, s_ldP 0), (1, s_getP 9 2), (4, s_getI 3 0), (7, s_if_le 14), (10, s_c (.inl 1)), (11, s_goto 15), (14, s_c (.inl 0)), (15, s_callS l g sg_X10_undo sg_X10_requireState), (18, s_ldP 0), (19, s_getP 9 2), (22, s_ldP 0), (23, s_getP 9 1), (26, s_callV l g sg_X10_undo sg_X4_bringBack 3), (29, s_ldP 0), (30, s_getP 9 2), (33, s_getI 3 0), (36, s_ireti)]
set_option maxRecDepth 100000 in
theorem ok_X10_undo {l : Launch} {g : EG} : e_okp l g sg_X10_undo "CalendarSync" (pg_X10_undo l g) := fun p e R s m args below meth c ex M0 Q X =>
    e_each_cons (r_aload_n X (k := 0) (i := 0) rfl dX10_undo_0 rfl)
    (e_each_cons (r_getP X (index := 26) (ci := 9) (k := 2) dX10_undo_1 (by decide) (by decide) rfl w2_101 rfl)
    (e_each_cons (r_getI X (index := 363) (ci := 3) (k := 0) dX10_undo_4 (by decide) (by decide) rfl w2_71 rfl)
    (e_each_cons (r_if_le X (off := 7) (t := 14) dX10_undo_7 (by decide) rfl)
    (e_each_cons (r_iconst X (n := 1) (v := 1) dX10_undo_10 (by decide) rfl)
    (e_each_cons (r_goto X (off := 4) (t := 15) dX10_undo_11 (by decide))
    (e_each_cons (r_iconst X (n := 0) (v := 0) dX10_undo_14 (by decide) rfl)
    (e_each_cons (r_callS X rfl (τ := sg_X10_requireState) (index := 55) dX10_undo_15 w3_163 w3_164 cs_X10_requireState rfl ⟨by decide, by decide⟩ rfl)
    (e_each_cons (r_aload_n X (k := 0) (i := 0) rfl dX10_undo_18 rfl)
    (e_each_cons (r_getP X (index := 26) (ci := 9) (k := 2) dX10_undo_19 (by decide) (by decide) rfl w2_101 rfl)
    (e_each_cons (r_aload_n X (k := 0) (i := 0) rfl dX10_undo_22 rfl)
    (e_each_cons (r_getP X (index := 19) (ci := 9) (k := 1) dX10_undo_23 (by decide) (by decide) rfl w2_100 rfl)
    (e_each_cons (r_callV X rfl (τ := sg_X4_bringBack) (index := 364) (ci := 3) dX10_undo_26 (by decide) rfl w5_155 w5_156 w5_157 cs_X4_bringBack rfl ⟨by decide, by decide⟩ rfl)
    (e_each_cons (r_aload_n X (k := 0) (i := 0) rfl dX10_undo_29 rfl)
    (e_each_cons (r_getP X (index := 26) (ci := 9) (k := 2) dX10_undo_30 (by decide) (by decide) rfl w2_101 rfl)
    (e_each_cons (r_getI X (index := 363) (ci := 3) (k := 0) dX10_undo_33 (by decide) (by decide) rfl w2_71 rfl)
    (e_each_cons (r_ireti X dX10_undo_36 rfl)
    (e_each_nil)))))))))))))))))
theorem dX10_keep_0 : decode cX10_keep 0 = .ok (.iload_n 1, 1) := by decide +kernel
theorem dX10_keep_1 : decode cX10_keep 1 = .ok (.iconst 0, 1) := by decide +kernel
theorem dX10_keep_2 : decode cX10_keep 2 = .ok (.iconst 1, 1) := by decide +kernel
theorem dX10_keep_3 : decode cX10_keep 3 = .ok (.invokestatic 63, 3) := by decide +kernel
theorem dX10_keep_6 : decode cX10_keep 6 = .ok (.invokestatic 67, 3) := by decide +kernel
theorem dX10_keep_9 : decode cX10_keep 9 = .ok (.aload_n 0, 1) := by decide +kernel
theorem dX10_keep_10 : decode cX10_keep 10 = .ok (.getfield 30, 3) := by decide +kernel
theorem dX10_keep_13 : decode cX10_keep 13 = .ok (.iload_n 1, 1) := by decide +kernel
theorem dX10_keep_14 : decode cX10_keep 14 = .ok (.aaload, 1) := by decide +kernel
theorem dX10_keep_15 : decode cX10_keep 15 = .ok (.aload_n 0, 1) := by decide +kernel
theorem dX10_keep_16 : decode cX10_keep 16 = .ok (.getfield 19, 3) := by decide +kernel
theorem dX10_keep_19 : decode cX10_keep 19 = .ok (.invokevirtual 367, 3) := by decide +kernel
theorem dX10_keep_22 : decode cX10_keep 22 = .ok (.aload_n 0, 1) := by decide +kernel
theorem dX10_keep_23 : decode cX10_keep 23 = .ok (.getfield 34, 3) := by decide +kernel
theorem dX10_keep_26 : decode cX10_keep 26 = .ok (.iload_n 1, 1) := by decide +kernel
theorem dX10_keep_27 : decode cX10_keep 27 = .ok (.iconst 1, 1) := by decide +kernel
theorem dX10_keep_28 : decode cX10_keep 28 = .ok (.bastore, 1) := by decide +kernel
theorem dX10_keep_29 : decode cX10_keep 29 = .ok (.aload_n 0, 1) := by decide +kernel
theorem dX10_keep_30 : decode cX10_keep 30 = .ok (.getfield 19, 3) := by decide +kernel
theorem dX10_keep_33 : decode cX10_keep 33 = .ok (.getfield 278, 3) := by decide +kernel
theorem dX10_keep_36 : decode cX10_keep 36 = .ok (.ireturn, 1) := by decide +kernel
def pg_X10_keep (l : Launch) (g : EG) : List (Nat × ES) := [(0, s_ldI 1), (1, s_c (.inl 0)), (2, s_c (.inl 1)), (3, s_callS l g sg_X10_keep sg_X10_isWithin), (6, s_callS l g sg_X10_keep sg_X10_requireArgument), (9, s_ldP 0), (10, s_getP 9 3), (13, s_ldI 1), (14, s_aald), (15, s_ldP 0), (16, s_getP 9 1), (19, s_callV l g sg_X10_keep sg_X3_become 2), (22, s_ldP 0), (23, s_getP 9 4), (26, s_ldI 1), (27, s_c (.inl 1)), (28, s_zast), (29, s_ldP 0), (30, s_getP 9 1), (33, s_getI 2 0), (36, s_ireti)]
set_option maxRecDepth 100000 in
theorem ok_X10_keep {l : Launch} {g : EG} : e_okp l g sg_X10_keep "CalendarSync" (pg_X10_keep l g) := fun p e R s m args below meth c ex M0 Q X =>
    e_each_cons (r_iload_n X (k := 1) (i := 1) rfl dX10_keep_0 rfl)
    (e_each_cons (r_iconst X (n := 0) (v := 0) dX10_keep_1 (by decide) rfl)
    (e_each_cons (r_iconst X (n := 1) (v := 1) dX10_keep_2 (by decide) rfl)
    (e_each_cons (r_callS X rfl (τ := sg_X10_isWithin) (index := 63) dX10_keep_3 w2_126 w2_127 cs_X10_isWithin rfl ⟨by decide, by decide⟩ rfl)
    (e_each_cons (r_callS X rfl (τ := sg_X10_requireArgument) (index := 67) dX10_keep_6 w2_129 w2_130 cs_X10_requireArgument rfl ⟨by decide, by decide⟩ rfl)
    (e_each_cons (r_aload_n X (k := 0) (i := 0) rfl dX10_keep_9 rfl)
    (e_each_cons (r_getP X (index := 30) (ci := 9) (k := 3) dX10_keep_10 (by decide) (by decide) rfl w2_102 rfl)
    (e_each_cons (r_iload_n X (k := 1) (i := 1) rfl dX10_keep_13 rfl)
    (e_each_cons (r_aald X dX10_keep_14 rfl)
    (e_each_cons (r_aload_n X (k := 0) (i := 0) rfl dX10_keep_15 rfl)
    (e_each_cons (r_getP X (index := 19) (ci := 9) (k := 1) dX10_keep_16 (by decide) (by decide) rfl w2_100 rfl)
    (e_each_cons (r_callV X rfl (τ := sg_X3_become) (index := 367) (ci := 2) dX10_keep_19 (by decide) rfl w3_43 w3_44 w3_45 cs_X3_become rfl ⟨by decide, by decide⟩ rfl)
    (e_each_cons (r_aload_n X (k := 0) (i := 0) rfl dX10_keep_22 rfl)
    (e_each_cons (r_getP X (index := 34) (ci := 9) (k := 4) dX10_keep_23 (by decide) (by decide) rfl w2_103 rfl)
    (e_each_cons (r_iload_n X (k := 1) (i := 1) rfl dX10_keep_26 rfl)
    (e_each_cons (r_iconst X (n := 1) (v := 1) dX10_keep_27 (by decide) rfl)
    (e_each_cons (r_zast X dX10_keep_28 rfl)
    (e_each_cons (r_aload_n X (k := 0) (i := 0) rfl dX10_keep_29 rfl)
    (e_each_cons (r_getP X (index := 19) (ci := 9) (k := 1) dX10_keep_30 (by decide) (by decide) rfl w2_100 rfl)
    (e_each_cons (r_getI X (index := 278) (ci := 2) (k := 0) dX10_keep_33 (by decide) (by decide) rfl w2_46 rfl)
    (e_each_cons (r_ireti X dX10_keep_36 rfl)
    (e_each_nil)))))))))))))))))))))
theorem dX10_restore_0 : decode cX10_restore 0 = .ok (.iload_n 1, 1) := by decide +kernel
theorem dX10_restore_1 : decode cX10_restore 1 = .ok (.iconst 0, 1) := by decide +kernel
theorem dX10_restore_2 : decode cX10_restore 2 = .ok (.iconst 1, 1) := by decide +kernel
theorem dX10_restore_3 : decode cX10_restore 3 = .ok (.invokestatic 63, 3) := by decide +kernel
theorem dX10_restore_6 : decode cX10_restore 6 = .ok (.invokestatic 67, 3) := by decide +kernel
theorem dX10_restore_9 : decode cX10_restore 9 = .ok (.aload_n 0, 1) := by decide +kernel
theorem dX10_restore_10 : decode cX10_restore 10 = .ok (.getfield 34, 3) := by decide +kernel
theorem dX10_restore_13 : decode cX10_restore 13 = .ok (.iload_n 1, 1) := by decide +kernel
theorem dX10_restore_14 : decode cX10_restore 14 = .ok (.baload, 1) := by decide +kernel
theorem dX10_restore_15 : decode cX10_restore 15 = .ok (.invokestatic 240, 3) := by decide +kernel
theorem dX10_restore_18 : decode cX10_restore 18 = .ok (.aload_n 0, 1) := by decide +kernel
theorem dX10_restore_19 : decode cX10_restore 19 = .ok (.getfield 19, 3) := by decide +kernel
theorem dX10_restore_22 : decode cX10_restore 22 = .ok (.aload_n 0, 1) := by decide +kernel
theorem dX10_restore_23 : decode cX10_restore 23 = .ok (.getfield 30, 3) := by decide +kernel
theorem dX10_restore_26 : decode cX10_restore 26 = .ok (.iload_n 1, 1) := by decide +kernel
theorem dX10_restore_27 : decode cX10_restore 27 = .ok (.aaload, 1) := by decide +kernel
theorem dX10_restore_28 : decode cX10_restore 28 = .ok (.invokevirtual 367, 3) := by decide +kernel
theorem dX10_restore_31 : decode cX10_restore 31 = .ok (.aload_n 0, 1) := by decide +kernel
theorem dX10_restore_32 : decode cX10_restore 32 = .ok (.getfield 26, 3) := by decide +kernel
theorem dX10_restore_35 : decode cX10_restore 35 = .ok (.invokevirtual 82, 3) := by decide +kernel
theorem dX10_restore_38 : decode cX10_restore 38 = .ok (.aload_n 0, 1) := by decide +kernel
theorem dX10_restore_39 : decode cX10_restore 39 = .ok (.getfield 19, 3) := by decide +kernel
theorem dX10_restore_42 : decode cX10_restore 42 = .ok (.getfield 278, 3) := by decide +kernel
theorem dX10_restore_45 : decode cX10_restore 45 = .ok (.ireturn, 1) := by decide +kernel
def pg_X10_restore (l : Launch) (g : EG) : List (Nat × ES) := [(0, s_ldI 1), (1, s_c (.inl 0)), (2, s_c (.inl 1)), (3, s_callS l g sg_X10_restore sg_X10_isWithin), (6, s_callS l g sg_X10_restore sg_X10_requireArgument), (9, s_ldP 0), (10, s_getP 9 4), (13, s_ldI 1), (14, s_zald), (15, s_callS l g sg_X10_restore sg_X10_requireElement), (18, s_ldP 0), (19, s_getP 9 1), (22, s_ldP 0), (23, s_getP 9 3), (26, s_ldI 1), (27, s_aald), (28, s_callV l g sg_X10_restore sg_X3_become 2), (31, s_ldP 0), (32, s_getP 9 2), (35, s_callV l g sg_X10_restore sg_X4_forget 3), (38, s_ldP 0), (39, s_getP 9 1), (42, s_getI 2 0), (45, s_ireti)]
set_option maxRecDepth 100000 in
theorem ok_X10_restore {l : Launch} {g : EG} : e_okp l g sg_X10_restore "CalendarSync" (pg_X10_restore l g) := fun p e R s m args below meth c ex M0 Q X =>
    e_each_cons (r_iload_n X (k := 1) (i := 1) rfl dX10_restore_0 rfl)
    (e_each_cons (r_iconst X (n := 0) (v := 0) dX10_restore_1 (by decide) rfl)
    (e_each_cons (r_iconst X (n := 1) (v := 1) dX10_restore_2 (by decide) rfl)
    (e_each_cons (r_callS X rfl (τ := sg_X10_isWithin) (index := 63) dX10_restore_3 w2_126 w2_127 cs_X10_isWithin rfl ⟨by decide, by decide⟩ rfl)
    (e_each_cons (r_callS X rfl (τ := sg_X10_requireArgument) (index := 67) dX10_restore_6 w2_129 w2_130 cs_X10_requireArgument rfl ⟨by decide, by decide⟩ rfl)
    (e_each_cons (r_aload_n X (k := 0) (i := 0) rfl dX10_restore_9 rfl)
    (e_each_cons (r_getP X (index := 34) (ci := 9) (k := 4) dX10_restore_10 (by decide) (by decide) rfl w2_103 rfl)
    (e_each_cons (r_iload_n X (k := 1) (i := 1) rfl dX10_restore_13 rfl)
    (e_each_cons (r_zald X dX10_restore_14 rfl)
    (e_each_cons (r_callS X rfl (τ := sg_X10_requireElement) (index := 240) dX10_restore_15 w3_77 w3_78 cs_X10_requireElement rfl ⟨by decide, by decide⟩ rfl)
    (e_each_cons (r_aload_n X (k := 0) (i := 0) rfl dX10_restore_18 rfl)
    (e_each_cons (r_getP X (index := 19) (ci := 9) (k := 1) dX10_restore_19 (by decide) (by decide) rfl w2_100 rfl)
    (e_each_cons (r_aload_n X (k := 0) (i := 0) rfl dX10_restore_22 rfl)
    (e_each_cons (r_getP X (index := 30) (ci := 9) (k := 3) dX10_restore_23 (by decide) (by decide) rfl w2_102 rfl)
    (e_each_cons (r_iload_n X (k := 1) (i := 1) rfl dX10_restore_26 rfl)
    (e_each_cons (r_aald X dX10_restore_27 rfl)
    (e_each_cons (r_callV X rfl (τ := sg_X3_become) (index := 367) (ci := 2) dX10_restore_28 (by decide) rfl w3_43 w3_44 w3_45 cs_X3_become rfl ⟨by decide, by decide⟩ rfl)
    (e_each_cons (r_aload_n X (k := 0) (i := 0) rfl dX10_restore_31 rfl)
    (e_each_cons (r_getP X (index := 26) (ci := 9) (k := 2) dX10_restore_32 (by decide) (by decide) rfl w2_101 rfl)
    (e_each_cons (r_callV X rfl (τ := sg_X4_forget) (index := 82) (ci := 3) dX10_restore_35 (by decide) rfl w3_96 w3_97 w3_98 cs_X4_forget rfl ⟨by decide, by decide⟩ rfl)
    (e_each_cons (r_aload_n X (k := 0) (i := 0) rfl dX10_restore_38 rfl)
    (e_each_cons (r_getP X (index := 19) (ci := 9) (k := 1) dX10_restore_39 (by decide) (by decide) rfl w2_100 rfl)
    (e_each_cons (r_getI X (index := 278) (ci := 2) (k := 0) dX10_restore_42 (by decide) (by decide) rfl w2_46 rfl)
    (e_each_cons (r_ireti X dX10_restore_45 rfl)
    (e_each_nil))))))))))))))))))))))))
