/-! TABLES (by program): the rows of X6 -/
theorem dX6_fail_0 : decode cX6_fail 0 = .ok (.aload_n 0, 1) := by decide +kernel
theorem dX6_fail_1 : decode cX6_fail 1 = .ok (.iload_n 1, 1) := by decide +kernel
theorem dX6_fail_2 : decode cX6_fail 2 = .ok (.putfield 51, 3) := by decide +kernel
theorem dX6_fail_5 : decode cX6_fail 5 = .ok (.aload_n 0, 1) := by decide +kernel
theorem dX6_fail_6 : decode cX6_fail 6 = .ok (.aload_n 0, 1) := by decide +kernel
theorem dX6_fail_7 : decode cX6_fail 7 = .ok (.getfield 25, 3) := by decide +kernel
theorem dX6_fail_10 : decode cX6_fail 10 = .ok (.getfield 99, 3) := by decide +kernel
theorem dX6_fail_13 : decode cX6_fail 13 = .ok (.putfield 18, 3) := by decide +kernel
theorem dX6_fail_16 : decode cX6_fail 16 = .ok (.iconst 0, 1) := by decide +kernel
theorem dX6_fail_17 : decode cX6_fail 17 = .ok (.ireturn, 1) := by decide +kernel
def pg_X6_fail (l : Launch) (g : EG) : List (Nat × ES) := [(0, s_ldP 0), (1, s_ldI 1), (2, s_putI 5 2), (5, s_ldP 0), (6, s_ldP 0), (7, s_getP 5 4), (10, s_getI 7 2), (13, s_putI 5 3), (16, s_c (.inl 0)), (17, s_iretz)]
set_option maxRecDepth 100000 in
theorem ok_X6_fail {l : Launch} {g : EG} : e_okp l g sg_X6_fail "CalendarSync$Reader" (pg_X6_fail l g) := fun p e R s m args below meth c ex M0 Q X =>
    e_each_cons (r_aload_n X (k := 0) (i := 0) rfl dX6_fail_0 rfl)
    (e_each_cons (r_iload_n X (k := 1) (i := 1) rfl dX6_fail_1 rfl)
    (e_each_cons (r_putI X (index := 51) (ci := 5) (k := 2) dX6_fail_2 (by decide) (by decide) rfl rfl w1_215 rfl)
    (e_each_cons (r_aload_n X (k := 0) (i := 0) rfl dX6_fail_5 rfl)
    (e_each_cons (r_aload_n X (k := 0) (i := 0) rfl dX6_fail_6 rfl)
    (e_each_cons (r_getP X (index := 25) (ci := 5) (k := 4) dX6_fail_7 (by decide) (by decide) rfl w1_217 rfl)
    (e_each_cons (r_getI X (index := 99) (ci := 7) (k := 2) dX6_fail_10 (by decide) (by decide) rfl w1_188 rfl)
    (e_each_cons (r_putI X (index := 18) (ci := 5) (k := 3) dX6_fail_13 (by decide) (by decide) rfl rfl w1_216 rfl)
    (e_each_cons (r_iconst X (n := 0) (v := 0) dX6_fail_16 (by decide) rfl)
    (e_each_cons (r_iretz X dX6_fail_17 rfl)
    (e_each_nil))))))))))
theorem dX6_seeNumber_0 : decode cX6_seeNumber 0 = .ok (.aload_n 0, 1) := by decide +kernel
theorem dX6_seeNumber_1 : decode cX6_seeNumber 1 = .ok (.getfield 25, 3) := by decide +kernel
theorem dX6_seeNumber_4 : decode cX6_seeNumber 4 = .ok (.getfield 58, 3) := by decide +kernel
theorem dX6_seeNumber_7 : decode cX6_seeNumber 7 = .ok (.iconst 2, 1) := by decide +kernel
theorem dX6_seeNumber_8 : decode cX6_seeNumber 8 = .ok (.if_icmp .eq 9, 3) := by decide +kernel
theorem dX6_seeNumber_11 : decode cX6_seeNumber 11 = .ok (.aload_n 0, 1) := by decide +kernel
theorem dX6_seeNumber_12 : decode cX6_seeNumber 12 = .ok (.iconst 1, 1) := by decide +kernel
theorem dX6_seeNumber_13 : decode cX6_seeNumber 13 = .ok (.invokevirtual 86, 3) := by decide +kernel
theorem dX6_seeNumber_16 : decode cX6_seeNumber 16 = .ok (.ireturn, 1) := by decide +kernel
theorem dX6_seeNumber_17 : decode cX6_seeNumber 17 = .ok (.aload_n 0, 1) := by decide +kernel
theorem dX6_seeNumber_18 : decode cX6_seeNumber 18 = .ok (.aload_n 0, 1) := by decide +kernel
theorem dX6_seeNumber_19 : decode cX6_seeNumber 19 = .ok (.getfield 25, 3) := by decide +kernel
theorem dX6_seeNumber_22 : decode cX6_seeNumber 22 = .ok (.getfield 109, 3) := by decide +kernel
theorem dX6_seeNumber_25 : decode cX6_seeNumber 25 = .ok (.putfield 112, 3) := by decide +kernel
theorem dX6_seeNumber_28 : decode cX6_seeNumber 28 = .ok (.aload_n 0, 1) := by decide +kernel
theorem dX6_seeNumber_29 : decode cX6_seeNumber 29 = .ok (.getfield 112, 3) := by decide +kernel
theorem dX6_seeNumber_32 : decode cX6_seeNumber 32 = .ok (.iload_n 1, 1) := by decide +kernel
theorem dX6_seeNumber_33 : decode cX6_seeNumber 33 = .ok (.iload_n 2, 1) := by decide +kernel
theorem dX6_seeNumber_34 : decode cX6_seeNumber 34 = .ok (.invokestatic 115, 3) := by decide +kernel
theorem dX6_seeNumber_37 : decode cX6_seeNumber 37 = .ok (.ifCond .ne 11, 3) := by decide +kernel
theorem dX6_seeNumber_40 : decode cX6_seeNumber 40 = .ok (.aload_n 0, 1) := by decide +kernel
theorem dX6_seeNumber_41 : decode cX6_seeNumber 41 = .ok (.iconst 2, 1) := by decide +kernel
theorem dX6_seeNumber_42 : decode cX6_seeNumber 42 = .ok (.invokevirtual 86, 3) := by decide +kernel
theorem dX6_seeNumber_45 : decode cX6_seeNumber 45 = .ok (.ifCond .eq 7, 3) := by decide +kernel
theorem dX6_seeNumber_48 : decode cX6_seeNumber 48 = .ok (.iconst 1, 1) := by decide +kernel
theorem dX6_seeNumber_49 : decode cX6_seeNumber 49 = .ok (.goto 4, 3) := by decide +kernel
theorem dX6_seeNumber_52 : decode cX6_seeNumber 52 = .ok (.iconst 0, 1) := by decide +kernel
theorem dX6_seeNumber_53 : decode cX6_seeNumber 53 = .ok (.ireturn, 1) := by decide +kernel
def pg_X6_seeNumber (l : Launch) (g : EG) : List (Nat × ES) := [(0, s_ldP 0), (1, s_getP 5 4), (4, s_getI 7 1), (7, s_c (.inl 2)), (8, s_icmp_eq 17), (11, s_ldP 0), (12, s_c (.inl 1)), (13, s_callV l g sg_X6_seeNumber sg_X6_fail 5), (16, s_iretz), (17, s_ldP 0), (18, s_ldP 0), (19, s_getP 5 4), (22, s_getI 7 3), (25, s_putI 5 5), (28, s_ldP 0), (29, s_getI 5 5), (32, s_ldI 1), (33, s_ldI 2), (34, s_callS l g sg_X6_seeNumber sg_X10_isWithin), (37, s_if_ne 48), (40, s_ldP 0), (41, s_c (.inl 2)), (42, s_callV l g sg_X6_seeNumber sg_X6_fail 5), (45, s_if_eq 52), (48, s_c (.inl 1)), (49, s_goto 53), (52, s_c (.inl 0)), (53, s_iretz)]
set_option maxRecDepth 100000 in
theorem ok_X6_seeNumber {l : Launch} {g : EG} : e_okp l g sg_X6_seeNumber "CalendarSync$Reader" (pg_X6_seeNumber l g) := fun p e R s m args below meth c ex M0 Q X =>
    e_each_cons (r_aload_n X (k := 0) (i := 0) rfl dX6_seeNumber_0 rfl)
    (e_each_cons (r_getP X (index := 25) (ci := 5) (k := 4) dX6_seeNumber_1 (by decide) (by decide) rfl w1_217 rfl)
    (e_each_cons (r_getI X (index := 58) (ci := 7) (k := 1) dX6_seeNumber_4 (by decide) (by decide) rfl w1_186 rfl)
    (e_each_cons (r_iconst X (n := 2) (v := 2) dX6_seeNumber_7 (by decide) rfl)
    (e_each_cons (r_icmp_eq X (off := 9) (t := 17) dX6_seeNumber_8 (by decide) rfl)
    (e_each_cons (r_aload_n X (k := 0) (i := 0) rfl dX6_seeNumber_11 rfl)
    (e_each_cons (r_iconst X (n := 1) (v := 1) dX6_seeNumber_12 (by decide) rfl)
    (e_each_cons (r_callV X rfl (τ := sg_X6_fail) (index := 86) (ci := 5) dX6_seeNumber_13 (by decide) rfl w3_237 w3_239 ws_6 cs_X6_fail rfl ⟨by decide, by decide⟩ rfl)
    (e_each_cons (r_iretz X dX6_seeNumber_16 rfl)
    (e_each_cons (r_aload_n X (k := 0) (i := 0) rfl dX6_seeNumber_17 rfl)
    (e_each_cons (r_aload_n X (k := 0) (i := 0) rfl dX6_seeNumber_18 rfl)
    (e_each_cons (r_getP X (index := 25) (ci := 5) (k := 4) dX6_seeNumber_19 (by decide) (by decide) rfl w1_217 rfl)
    (e_each_cons (r_getI X (index := 109) (ci := 7) (k := 3) dX6_seeNumber_22 (by decide) (by decide) rfl w1_191 rfl)
    (e_each_cons (r_putI X (index := 112) (ci := 5) (k := 5) dX6_seeNumber_25 (by decide) (by decide) rfl rfl w1_219 rfl)
    (e_each_cons (r_aload_n X (k := 0) (i := 0) rfl dX6_seeNumber_28 rfl)
    (e_each_cons (r_getI X (index := 112) (ci := 5) (k := 5) dX6_seeNumber_29 (by decide) (by decide) rfl w1_219 rfl)
    (e_each_cons (r_iload_n X (k := 1) (i := 1) rfl dX6_seeNumber_32 rfl)
    (e_each_cons (r_iload_n X (k := 2) (i := 2) rfl dX6_seeNumber_33 rfl)
    (e_each_cons (r_callSN X rfl (τ := sg_X10_isWithin) (index := 115) (host := "CalendarSync") dX6_seeNumber_34 wn4_10 w2_127 cs_X10_isWithin rfl ⟨by decide, by decide⟩ rfl)
    (e_each_cons (r_if_ne X (off := 11) (t := 48) dX6_seeNumber_37 (by decide) rfl)
    (e_each_cons (r_aload_n X (k := 0) (i := 0) rfl dX6_seeNumber_40 rfl)
    (e_each_cons (r_iconst X (n := 2) (v := 2) dX6_seeNumber_41 (by decide) rfl)
    (e_each_cons (r_callV X rfl (τ := sg_X6_fail) (index := 86) (ci := 5) dX6_seeNumber_42 (by decide) rfl w3_237 w3_239 ws_6 cs_X6_fail rfl ⟨by decide, by decide⟩ rfl)
    (e_each_cons (r_if_eq X (off := 7) (t := 52) dX6_seeNumber_45 (by decide) rfl)
    (e_each_cons (r_iconst X (n := 1) (v := 1) dX6_seeNumber_48 (by decide) rfl)
    (e_each_cons (r_goto X (off := 4) (t := 53) dX6_seeNumber_49 (by decide))
    (e_each_cons (r_iconst X (n := 0) (v := 0) dX6_seeNumber_52 (by decide) rfl)
    (e_each_cons (r_iretz X dX6_seeNumber_53 rfl)
    (e_each_nil))))))))))))))))))))))))))))
theorem dX6_takeNumber_0 : decode cX6_takeNumber 0 = .ok (.aload_n 0, 1) := by decide +kernel
theorem dX6_takeNumber_1 : decode cX6_takeNumber 1 = .ok (.iload_n 1, 1) := by decide +kernel
theorem dX6_takeNumber_2 : decode cX6_takeNumber 2 = .ok (.iload_n 2, 1) := by decide +kernel
theorem dX6_takeNumber_3 : decode cX6_takeNumber 3 = .ok (.invokevirtual 105, 3) := by decide +kernel
theorem dX6_takeNumber_6 : decode cX6_takeNumber 6 = .ok (.ifCond .ne 5, 3) := by decide +kernel
theorem dX6_takeNumber_9 : decode cX6_takeNumber 9 = .ok (.iconst 0, 1) := by decide +kernel
theorem dX6_takeNumber_10 : decode cX6_takeNumber 10 = .ok (.ireturn, 1) := by decide +kernel
theorem dX6_takeNumber_11 : decode cX6_takeNumber 11 = .ok (.aload_n 0, 1) := by decide +kernel
theorem dX6_takeNumber_12 : decode cX6_takeNumber 12 = .ok (.getfield 25, 3) := by decide +kernel
theorem dX6_takeNumber_15 : decode cX6_takeNumber 15 = .ok (.invokevirtual 102, 3) := by decide +kernel
theorem dX6_takeNumber_18 : decode cX6_takeNumber 18 = .ok (.iconst 1, 1) := by decide +kernel
theorem dX6_takeNumber_19 : decode cX6_takeNumber 19 = .ok (.ireturn, 1) := by decide +kernel
def pg_X6_takeNumber (l : Launch) (g : EG) : List (Nat × ES) := [(0, s_ldP 0), (1, s_ldI 1), (2, s_ldI 2), (3, s_callV l g sg_X6_takeNumber sg_X6_seeNumber 5), (6, s_if_ne 11), (9, s_c (.inl 0)), (10, s_iretz), (11, s_ldP 0), (12, s_getP 5 4), (15, s_callV l g sg_X6_takeNumber sg_X8_step 7), (18, s_c (.inl 1)), (19, s_iretz)]
set_option maxRecDepth 100000 in
theorem ok_X6_takeNumber {l : Launch} {g : EG} : e_okp l g sg_X6_takeNumber "CalendarSync$Reader" (pg_X6_takeNumber l g) := fun p e R s m args below meth c ex M0 Q X =>
    e_each_cons (r_aload_n X (k := 0) (i := 0) rfl dX6_takeNumber_0 rfl)
    (e_each_cons (r_iload_n X (k := 1) (i := 1) rfl dX6_takeNumber_1 rfl)
    (e_each_cons (r_iload_n X (k := 2) (i := 2) rfl dX6_takeNumber_2 rfl)
    (e_each_cons (r_callV X rfl (τ := sg_X6_seeNumber) (index := 105) (ci := 5) dX6_takeNumber_3 (by decide) rfl w4_6 w4_8 ws_8 cs_X6_seeNumber rfl ⟨by decide, by decide⟩ rfl)
    (e_each_cons (r_if_ne X (off := 5) (t := 11) dX6_takeNumber_6 (by decide) rfl)
    (e_each_cons (r_iconst X (n := 0) (v := 0) dX6_takeNumber_9 (by decide) rfl)
    (e_each_cons (r_iretz X dX6_takeNumber_10 rfl)
    (e_each_cons (r_aload_n X (k := 0) (i := 0) rfl dX6_takeNumber_11 rfl)
    (e_each_cons (r_getP X (index := 25) (ci := 5) (k := 4) dX6_takeNumber_12 (by decide) (by decide) rfl w1_217 rfl)
    (e_each_cons (r_callV X rfl (τ := sg_X8_step) (index := 102) (ci := 7) dX6_takeNumber_15 (by decide) rfl w4_1 w3_214 w3_215 cs_X8_step rfl ⟨by decide, by decide⟩ rfl)
    (e_each_cons (r_iconst X (n := 1) (v := 1) dX6_takeNumber_18 (by decide) rfl)
    (e_each_cons (r_iretz X dX6_takeNumber_19 rfl)
    (e_each_nil))))))))))))
theorem dX6_readZone_0 : decode cX6_readZone 0 = .ok (.aload_n 0, 1) := by decide +kernel
theorem dX6_readZone_1 : decode cX6_readZone 1 = .ok (.getfield 12, 3) := by decide +kernel
theorem dX6_readZone_4 : decode cX6_readZone 4 = .ok (.getfield 90, 3) := by decide +kernel
theorem dX6_readZone_7 : decode cX6_readZone 7 = .ok (.iconst 3, 1) := by decide +kernel
theorem dX6_readZone_8 : decode cX6_readZone 8 = .ok (.if_icmp .lt 9, 3) := by decide +kernel
theorem dX6_readZone_11 : decode cX6_readZone 11 = .ok (.aload_n 0, 1) := by decide +kernel
theorem dX6_readZone_12 : decode cX6_readZone 12 = .ok (.iconst 4, 1) := by decide +kernel
theorem dX6_readZone_13 : decode cX6_readZone 13 = .ok (.invokevirtual 86, 3) := by decide +kernel
theorem dX6_readZone_16 : decode cX6_readZone 16 = .ok (.ireturn, 1) := by decide +kernel
theorem dX6_readZone_17 : decode cX6_readZone 17 = .ok (.aload_n 0, 1) := by decide +kernel
theorem dX6_readZone_18 : decode cX6_readZone 18 = .ok (.aload_n 0, 1) := by decide +kernel
theorem dX6_readZone_19 : decode cX6_readZone 19 = .ok (.getfield 12, 3) := by decide +kernel
theorem dX6_readZone_22 : decode cX6_readZone 22 = .ok (.getfield 29, 3) := by decide +kernel
theorem dX6_readZone_25 : decode cX6_readZone 25 = .ok (.aload_n 0, 1) := by decide +kernel
theorem dX6_readZone_26 : decode cX6_readZone 26 = .ok (.getfield 12, 3) := by decide +kernel
theorem dX6_readZone_29 : decode cX6_readZone 29 = .ok (.getfield 90, 3) := by decide +kernel
theorem dX6_readZone_32 : decode cX6_readZone 32 = .ok (.aaload, 1) := by decide +kernel
theorem dX6_readZone_33 : decode cX6_readZone 33 = .ok (.putfield 33, 3) := by decide +kernel
theorem dX6_readZone_36 : decode cX6_readZone 36 = .ok (.aload_n 0, 1) := by decide +kernel
theorem dX6_readZone_37 : decode cX6_readZone 37 = .ok (.getfield 12, 3) := by decide +kernel
theorem dX6_readZone_40 : decode cX6_readZone 40 = .ok (.dup, 1) := by decide +kernel
theorem dX6_readZone_41 : decode cX6_readZone 41 = .ok (.getfield 90, 3) := by decide +kernel
theorem dX6_readZone_44 : decode cX6_readZone 44 = .ok (.iconst 1, 1) := by decide +kernel
theorem dX6_readZone_45 : decode cX6_readZone 45 = .ok (.iadd, 1) := by decide +kernel
theorem dX6_readZone_46 : decode cX6_readZone 46 = .ok (.putfield 90, 3) := by decide +kernel
theorem dX6_readZone_49 : decode cX6_readZone 49 = .ok (.aload_n 0, 1) := by decide +kernel
theorem dX6_readZone_50 : decode cX6_readZone 50 = .ok (.getfield 25, 3) := by decide +kernel
theorem dX6_readZone_53 : decode cX6_readZone 53 = .ok (.invokevirtual 102, 3) := by decide +kernel
theorem dX6_readZone_56 : decode cX6_readZone 56 = .ok (.aload_n 0, 1) := by decide +kernel
theorem dX6_readZone_57 : decode cX6_readZone 57 = .ok (.getfield 25, 3) := by decide +kernel
theorem dX6_readZone_60 : decode cX6_readZone 60 = .ok (.getfield 58, 3) := by decide +kernel
theorem dX6_readZone_63 : decode cX6_readZone 63 = .ok (.iconst 4, 1) := by decide +kernel
theorem dX6_readZone_64 : decode cX6_readZone 64 = .ok (.if_icmp .ne 7, 3) := by decide +kernel
theorem dX6_readZone_67 : decode cX6_readZone 67 = .ok (.iconst 1, 1) := by decide +kernel
theorem dX6_readZone_68 : decode cX6_readZone 68 = .ok (.goto 4, 3) := by decide +kernel
theorem dX6_readZone_71 : decode cX6_readZone 71 = .ok (.iconst 0, 1) := by decide +kernel
theorem dX6_readZone_72 : decode cX6_readZone 72 = .ok (.istore_n 1, 1) := by decide +kernel
theorem dX6_readZone_73 : decode cX6_readZone 73 = .ok (.iload_n 1, 1) := by decide +kernel
theorem dX6_readZone_74 : decode cX6_readZone 74 = .ok (.ifCond .eq 10, 3) := by decide +kernel
theorem dX6_readZone_77 : decode cX6_readZone 77 = .ok (.aload_n 0, 1) := by decide +kernel
theorem dX6_readZone_78 : decode cX6_readZone 78 = .ok (.getfield 25, 3) := by decide +kernel
theorem dX6_readZone_81 : decode cX6_readZone 81 = .ok (.invokevirtual 102, 3) := by decide +kernel
theorem dX6_readZone_84 : decode cX6_readZone 84 = .ok (.aload_n 0, 1) := by decide +kernel
theorem dX6_readZone_85 : decode cX6_readZone 85 = .ok (.iconst 0, 1) := by decide +kernel
theorem dX6_readZone_86 : decode cX6_readZone 86 = .ok (.sipush 720, 3) := by decide +kernel
theorem dX6_readZone_89 : decode cX6_readZone 89 = .ok (.invokevirtual 119, 3) := by decide +kernel
theorem dX6_readZone_92 : decode cX6_readZone 92 = .ok (.ifCond .ne 5, 3) := by decide +kernel
theorem dX6_readZone_95 : decode cX6_readZone 95 = .ok (.iconst 0, 1) := by decide +kernel
theorem dX6_readZone_96 : decode cX6_readZone 96 = .ok (.ireturn, 1) := by decide +kernel
theorem dX6_readZone_97 : decode cX6_readZone 97 = .ok (.aload_n 0, 1) := by decide +kernel
theorem dX6_readZone_98 : decode cX6_readZone 98 = .ok (.getfield 33, 3) := by decide +kernel
theorem dX6_readZone_101 : decode cX6_readZone 101 = .ok (.iload_n 1, 1) := by decide +kernel
theorem dX6_readZone_102 : decode cX6_readZone 102 = .ok (.ifCond .eq 11, 3) := by decide +kernel
theorem dX6_readZone_105 : decode cX6_readZone 105 = .ok (.aload_n 0, 1) := by decide +kernel
theorem dX6_readZone_106 : decode cX6_readZone 106 = .ok (.getfield 112, 3) := by decide +kernel
theorem dX6_readZone_109 : decode cX6_readZone 109 = .ok (.ineg, 1) := by decide +kernel
theorem dX6_readZone_110 : decode cX6_readZone 110 = .ok (.goto 7, 3) := by decide +kernel
theorem dX6_readZone_113 : decode cX6_readZone 113 = .ok (.aload_n 0, 1) := by decide +kernel
theorem dX6_readZone_114 : decode cX6_readZone 114 = .ok (.getfield 112, 3) := by decide +kernel
theorem dX6_readZone_117 : decode cX6_readZone 117 = .ok (.iconst (-1), 1) := by decide +kernel
theorem dX6_readZone_118 : decode cX6_readZone 118 = .ok (.iconst (-1), 1) := by decide +kernel
theorem dX6_readZone_119 : decode cX6_readZone 119 = .ok (.invokevirtual 122, 3) := by decide +kernel
theorem dX6_readZone_122 : decode cX6_readZone 122 = .ok (.iconst 1, 1) := by decide +kernel
theorem dX6_readZone_123 : decode cX6_readZone 123 = .ok (.ireturn, 1) := by decide +kernel
def pg_X6_readZone (l : Launch) (g : EG) : List (Nat × ES) := [(0, s_ldP 0), (1, s_getP 5 0), (4, s_getI 4 0), (7, s_c (.inl 3)), (8, s_icmp_lt 17), (11, s_ldP 0), (12, s_c (.inl 4)), (13, s_callV l g sg_X6_readZone sg_X6_fail 5), (16, s_iretz), (17, s_ldP 0), (18, s_ldP 0), (19, s_getP 5 0), (22, s_getP 4 1), (25, s_ldP 0), (26, s_getP 5 0), (29, s_getI 4 0), (32, s_aald), (33, s_putP 5 7), (36, s_ldP 0), (37, s_getP 5 0), (40, s_dup), (41, s_getI 4 0), (44, s_c (.inl 1)), (45, s_ii (fun x y => x + y)), (46, s_putI 4 0), (49, s_ldP 0), (50, s_getP 5 4), (53, s_callV l g sg_X6_readZone sg_X8_step 7), (56, s_ldP 0), (57, s_getP 5 4), (60, s_getI 7 1), (63, s_c (.inl 4)), (64, s_icmp_ne 71), (67, s_c (.inl 1)), (68, s_goto 72), (71, s_c (.inl 0)), (72, s_stI 1), (73, s_ldI 1), (74, s_if_eq 84), (77, s_ldP 0), (78, s_getP 5 4), (81, s_callV l g sg_X6_readZone sg_X8_step 7), (84, s_ldP 0), (85, s_c (.inl 0)), (86, s_c (.inl 720)), (89, s_callV l g sg_X6_readZone sg_X6_takeNumber 5), (92, s_if_ne 97), (95, s_c (.inl 0)), (96, s_iretz), (97, s_ldP 0), (98, s_getP 5 7), (101, s_ldI 1), (102, s_if_eq 113), (105, s_ldP 0), (106, s_getI 5 5), (109, s_i1 (fun x => -x)), (110, s_goto 117), (113, s_ldP 0), (114, s_getI 5 5), (117, s_c (.inl (-1))), (118, s_c (.inl (-1))), (119, s_callV l g sg_X6_readZone sg_X9_setTo 8), (122, s_c (.inl 1)), (123, s_iretz)]
set_option maxRecDepth 100000 in
theorem ok_X6_readZone {l : Launch} {g : EG} : e_okp l g sg_X6_readZone "CalendarSync$Reader" (pg_X6_readZone l g) := fun p e R s m args below meth c ex M0 Q X =>
    e_each_cons (r_aload_n X (k := 0) (i := 0) rfl dX6_readZone_0 rfl)
    (e_each_cons (r_getP X (index := 12) (ci := 5) (k := 0) dX6_readZone_1 (by decide) (by decide) rfl w1_211 rfl)
    (e_each_cons (r_getI X (index := 90) (ci := 4) (k := 0) dX6_readZone_4 (by decide) (by decide) rfl w1_162 rfl)
    (e_each_cons (r_iconst X (n := 3) (v := 3) dX6_readZone_7 (by decide) rfl)
    (e_each_cons (r_icmp_lt X (off := 9) (t := 17) dX6_readZone_8 (by decide) rfl)
    (e_each_cons (r_aload_n X (k := 0) (i := 0) rfl dX6_readZone_11 rfl)
    (e_each_cons (r_iconst X (n := 4) (v := 4) dX6_readZone_12 (by decide) rfl)
    (e_each_cons (r_callV X rfl (τ := sg_X6_fail) (index := 86) (ci := 5) dX6_readZone_13 (by decide) rfl w3_237 w3_239 ws_6 cs_X6_fail rfl ⟨by decide, by decide⟩ rfl)
    (e_each_cons (r_iretz X dX6_readZone_16 rfl)
    (e_each_cons (r_aload_n X (k := 0) (i := 0) rfl dX6_readZone_17 rfl)
    (e_each_cons (r_aload_n X (k := 0) (i := 0) rfl dX6_readZone_18 rfl)
    (e_each_cons (r_getP X (index := 12) (ci := 5) (k := 0) dX6_readZone_19 (by decide) (by decide) rfl w1_211 rfl)
    (e_each_cons (r_getP X (index := 29) (ci := 4) (k := 1) dX6_readZone_22 (by decide) (by decide) rfl w1_163 rfl)
    (e_each_cons (r_aload_n X (k := 0) (i := 0) rfl dX6_readZone_25 rfl)
    (e_each_cons (r_getP X (index := 12) (ci := 5) (k := 0) dX6_readZone_26 (by decide) (by decide) rfl w1_211 rfl)
    (e_each_cons (r_getI X (index := 90) (ci := 4) (k := 0) dX6_readZone_29 (by decide) (by decide) rfl w1_162 rfl)
    (e_each_cons (r_aald X dX6_readZone_32 rfl)
    (e_each_cons (r_putP X (index := 33) (ci := 5) (k := 7) dX6_readZone_33 (by decide) (by decide) rfl (Or.inl rfl) w1_221 rfl)
    (e_each_cons (r_aload_n X (k := 0) (i := 0) rfl dX6_readZone_36 rfl)
    (e_each_cons (r_getP X (index := 12) (ci := 5) (k := 0) dX6_readZone_37 (by decide) (by decide) rfl w1_211 rfl)
    (e_each_cons (r_dup X dX6_readZone_40 rfl)
    (e_each_cons (r_getI X (index := 90) (ci := 4) (k := 0) dX6_readZone_41 (by decide) (by decide) rfl w1_162 rfl)
    (e_each_cons (r_iconst X (n := 1) (v := 1) dX6_readZone_44 (by decide) rfl)
    (e_each_cons (r_iadd X dX6_readZone_45 rfl)
    (e_each_cons (r_putI X (index := 90) (ci := 4) (k := 0) dX6_readZone_46 (by decide) (by decide) rfl rfl w1_162 rfl)
    (e_each_cons (r_aload_n X (k := 0) (i := 0) rfl dX6_readZone_49 rfl)
    (e_each_cons (r_getP X (index := 25) (ci := 5) (k := 4) dX6_readZone_50 (by decide) (by decide) rfl w1_217 rfl)
    (e_each_cons (r_callV X rfl (τ := sg_X8_step) (index := 102) (ci := 7) dX6_readZone_53 (by decide) rfl w4_1 w3_214 w3_215 cs_X8_step rfl ⟨by decide, by decide⟩ rfl)
    (e_each_cons (r_aload_n X (k := 0) (i := 0) rfl dX6_readZone_56 rfl)
    (e_each_cons (r_getP X (index := 25) (ci := 5) (k := 4) dX6_readZone_57 (by decide) (by decide) rfl w1_217 rfl)
    (e_each_cons (r_getI X (index := 58) (ci := 7) (k := 1) dX6_readZone_60 (by decide) (by decide) rfl w1_186 rfl)
    (e_each_cons (r_iconst X (n := 4) (v := 4) dX6_readZone_63 (by decide) rfl)
    (e_each_cons (r_icmp_ne X (off := 7) (t := 71) dX6_readZone_64 (by decide) rfl)
    (e_each_cons (r_iconst X (n := 1) (v := 1) dX6_readZone_67 (by decide) rfl)
    (e_each_cons (r_goto X (off := 4) (t := 72) dX6_readZone_68 (by decide))
    (e_each_cons (r_iconst X (n := 0) (v := 0) dX6_readZone_71 (by decide) rfl)
    (e_each_cons (r_istore_n X (k := 1) (i := 1) rfl dX6_readZone_72 (by decide) rfl)
    (e_each_cons (r_iload_n X (k := 1) (i := 1) rfl dX6_readZone_73 rfl)
    (e_each_cons (r_if_eq X (off := 10) (t := 84) dX6_readZone_74 (by decide) rfl)
    (e_each_cons (r_aload_n X (k := 0) (i := 0) rfl dX6_readZone_77 rfl)
    (e_each_cons (r_getP X (index := 25) (ci := 5) (k := 4) dX6_readZone_78 (by decide) (by decide) rfl w1_217 rfl)
    (e_each_cons (r_callV X rfl (τ := sg_X8_step) (index := 102) (ci := 7) dX6_readZone_81 (by decide) rfl w4_1 w3_214 w3_215 cs_X8_step rfl ⟨by decide, by decide⟩ rfl)
    (e_each_cons (r_aload_n X (k := 0) (i := 0) rfl dX6_readZone_84 rfl)
    (e_each_cons (r_iconst X (n := 0) (v := 0) dX6_readZone_85 (by decide) rfl)
    (e_each_cons (r_sipush X (n := 720) (v := 720) dX6_readZone_86 (by decide) rfl)
    (e_each_cons (r_callV X rfl (τ := sg_X6_takeNumber) (index := 119) (ci := 5) dX6_readZone_89 (by decide) rfl w4_2 w4_4 ws_7 cs_X6_takeNumber rfl ⟨by decide, by decide⟩ rfl)
    (e_each_cons (r_if_ne X (off := 5) (t := 97) dX6_readZone_92 (by decide) rfl)
    (e_each_cons (r_iconst X (n := 0) (v := 0) dX6_readZone_95 (by decide) rfl)
    (e_each_cons (r_iretz X dX6_readZone_96 rfl)
    (e_each_cons (r_aload_n X (k := 0) (i := 0) rfl dX6_readZone_97 rfl)
    (e_each_cons (r_getP X (index := 33) (ci := 5) (k := 7) dX6_readZone_98 (by decide) (by decide) rfl w1_221 rfl)
    (e_each_cons (r_iload_n X (k := 1) (i := 1) rfl dX6_readZone_101 rfl)
    (e_each_cons (r_if_eq X (off := 11) (t := 113) dX6_readZone_102 (by decide) rfl)
    (e_each_cons (r_aload_n X (k := 0) (i := 0) rfl dX6_readZone_105 rfl)
    (e_each_cons (r_getI X (index := 112) (ci := 5) (k := 5) dX6_readZone_106 (by decide) (by decide) rfl w1_219 rfl)
    (e_each_cons (r_ineg X dX6_readZone_109 rfl)
    (e_each_cons (r_goto X (off := 7) (t := 117) dX6_readZone_110 (by decide))
    (e_each_cons (r_aload_n X (k := 0) (i := 0) rfl dX6_readZone_113 rfl)
    (e_each_cons (r_getI X (index := 112) (ci := 5) (k := 5) dX6_readZone_114 (by decide) (by decide) rfl w1_219 rfl)
    (e_each_cons (r_iconst X (n := (-1)) (v := (-1)) dX6_readZone_117 (by decide) rfl)
    (e_each_cons (r_iconst X (n := (-1)) (v := (-1)) dX6_readZone_118 (by decide) rfl)
    (e_each_cons (r_callV X rfl (τ := sg_X9_setTo) (index := 122) (ci := 8) dX6_readZone_119 (by decide) rfl w4_11 w3_199 w3_200 cs_X9_setTo rfl ⟨by decide, by decide⟩ rfl)
    (e_each_cons (r_iconst X (n := 1) (v := 1) dX6_readZone_122 (by decide) rfl)
    (e_each_cons (r_iretz X dX6_readZone_123 rfl)
    (e_each_nil))))))))))))))))))))))))))))))))))))))))))))))))))))))))))))))))
theorem dX6_readSummer_0 : decode cX6_readSummer 0 = .ok (.aload_n 0, 1) := by decide +kernel
theorem dX6_readSummer_1 : decode cX6_readSummer 1 = .ok (.getfield 25, 3) := by decide +kernel
theorem dX6_readSummer_4 : decode cX6_readSummer 4 = .ok (.ldc 128, 2) := by decide +kernel
theorem dX6_readSummer_6 : decode cX6_readSummer 6 = .ok (.invokevirtual 62, 3) := by decide +kernel
theorem dX6_readSummer_9 : decode cX6_readSummer 9 = .ok (.ifCond .ne 5, 3) := by decide +kernel
theorem dX6_readSummer_12 : decode cX6_readSummer 12 = .ok (.iconst 1, 1) := by decide +kernel
theorem dX6_readSummer_13 : decode cX6_readSummer 13 = .ok (.ireturn, 1) := by decide +kernel
theorem dX6_readSummer_14 : decode cX6_readSummer 14 = .ok (.aload_n 0, 1) := by decide +kernel
theorem dX6_readSummer_15 : decode cX6_readSummer 15 = .ok (.getfield 25, 3) := by decide +kernel
theorem dX6_readSummer_18 : decode cX6_readSummer 18 = .ok (.invokevirtual 102, 3) := by decide +kernel
theorem dX6_readSummer_21 : decode cX6_readSummer 21 = .ok (.aload_n 0, 1) := by decide +kernel
theorem dX6_readSummer_22 : decode cX6_readSummer 22 = .ok (.iconst 0, 1) := by decide +kernel
theorem dX6_readSummer_23 : decode cX6_readSummer 23 = .ok (.sipush 364, 3) := by decide +kernel
theorem dX6_readSummer_26 : decode cX6_readSummer 26 = .ok (.invokevirtual 119, 3) := by decide +kernel
theorem dX6_readSummer_29 : decode cX6_readSummer 29 = .ok (.ifCond .ne 5, 3) := by decide +kernel
theorem dX6_readSummer_32 : decode cX6_readSummer 32 = .ok (.iconst 0, 1) := by decide +kernel
theorem dX6_readSummer_33 : decode cX6_readSummer 33 = .ok (.ireturn, 1) := by decide +kernel
theorem dX6_readSummer_34 : decode cX6_readSummer 34 = .ok (.aload_n 0, 1) := by decide +kernel
theorem dX6_readSummer_35 : decode cX6_readSummer 35 = .ok (.getfield 112, 3) := by decide +kernel
theorem dX6_readSummer_38 : decode cX6_readSummer 38 = .ok (.istore_n 1, 1) := by decide +kernel
theorem dX6_readSummer_39 : decode cX6_readSummer 39 = .ok (.aload_n 0, 1) := by decide +kernel
theorem dX6_readSummer_40 : decode cX6_readSummer 40 = .ok (.iload_n 1, 1) := by decide +kernel
theorem dX6_readSummer_41 : decode cX6_readSummer 41 = .ok (.sipush 364, 3) := by decide +kernel
theorem dX6_readSummer_44 : decode cX6_readSummer 44 = .ok (.invokevirtual 119, 3) := by decide +kernel
theorem dX6_readSummer_47 : decode cX6_readSummer 47 = .ok (.ifCond .ne 5, 3) := by decide +kernel
theorem dX6_readSummer_50 : decode cX6_readSummer 50 = .ok (.iconst 0, 1) := by decide +kernel
theorem dX6_readSummer_51 : decode cX6_readSummer 51 = .ok (.ireturn, 1) := by decide +kernel
theorem dX6_readSummer_52 : decode cX6_readSummer 52 = .ok (.aload_n 0, 1) := by decide +kernel
theorem dX6_readSummer_53 : decode cX6_readSummer 53 = .ok (.getfield 33, 3) := by decide +kernel
theorem dX6_readSummer_56 : decode cX6_readSummer 56 = .ok (.aload_n 0, 1) := by decide +kernel
theorem dX6_readSummer_57 : decode cX6_readSummer 57 = .ok (.getfield 33, 3) := by decide +kernel
theorem dX6_readSummer_60 : decode cX6_readSummer 60 = .ok (.getfield 132, 3) := by decide +kernel
theorem dX6_readSummer_63 : decode cX6_readSummer 63 = .ok (.iload_n 1, 1) := by decide +kernel
theorem dX6_readSummer_64 : decode cX6_readSummer 64 = .ok (.aload_n 0, 1) := by decide +kernel
theorem dX6_readSummer_65 : decode cX6_readSummer 65 = .ok (.getfield 112, 3) := by decide +kernel
theorem dX6_readSummer_68 : decode cX6_readSummer 68 = .ok (.invokevirtual 122, 3) := by decide +kernel
theorem dX6_readSummer_71 : decode cX6_readSummer 71 = .ok (.iconst 1, 1) := by decide +kernel
theorem dX6_readSummer_72 : decode cX6_readSummer 72 = .ok (.ireturn, 1) := by decide +kernel
def pg_X6_readSummer (l : Launch) (g : EG) : List (Nat × ES) := [(0, s_ldP 0), (1, s_getP 5 4), (4, s_str 1), (6, s_callV l g sg_X6_readSummer sg_X8_isWord 7), (9, s_if_ne 14), (12, s_c (.inl 1)), (13, s_iretz), (14, s_ldP 0), (15, s_getP 5 4), (18, s_callV l g sg_X6_readSummer sg_X8_step 7), (21, s_ldP 0), (22, s_c (.inl 0)), (23, s_c (.inl 364)), (26, s_callV l g sg_X6_readSummer sg_X6_takeNumber 5), (29, s_if_ne 34), (32, s_c (.inl 0)), (33, s_iretz), (34, s_ldP 0), (35, s_getI 5 5), (38, s_stI 1), (39, s_ldP 0), (40, s_ldI 1), (41, s_c (.inl 364)), (44, s_callV l g sg_X6_readSummer sg_X6_takeNumber 5), (47, s_if_ne 52), (50, s_c (.inl 0)), (51, s_iretz), (52, s_ldP 0), (53, s_getP 5 7), (56, s_ldP 0), (57, s_getP 5 7), (60, s_getI 8 0), (63, s_ldI 1), (64, s_ldP 0), (65, s_getI 5 5), (68, s_callV l g sg_X6_readSummer sg_X9_setTo 8), (71, s_c (.inl 1)), (72, s_iretz)]
set_option maxRecDepth 100000 in
theorem ok_X6_readSummer {l : Launch} {g : EG} : e_okp l g sg_X6_readSummer "CalendarSync$Reader" (pg_X6_readSummer l g) := fun p e R s m args below meth c ex M0 Q X =>
    e_each_cons (r_aload_n X (k := 0) (i := 0) rfl dX6_readSummer_0 rfl)
    (e_each_cons (r_getP X (index := 25) (ci := 5) (k := 4) dX6_readSummer_1 (by decide) (by decide) rfl w1_217 rfl)
    (e_each_cons (r_str X (k := 1) (is := 128) dX6_readSummer_4 rfl ⟨⟨rfl, rfl⟩, by decide⟩ rfl)
    (e_each_cons (r_callV X rfl (τ := sg_X8_isWord) (index := 62) (ci := 7) dX6_readSummer_6 (by decide) rfl w3_227 w3_228 w3_229 cs_X8_isWord rfl ⟨by decide, by decide⟩ rfl)
    (e_each_cons (r_if_ne X (off := 5) (t := 14) dX6_readSummer_9 (by decide) rfl)
    (e_each_cons (r_iconst X (n := 1) (v := 1) dX6_readSummer_12 (by decide) rfl)
    (e_each_cons (r_iretz X dX6_readSummer_13 rfl)
    (e_each_cons (r_aload_n X (k := 0) (i := 0) rfl dX6_readSummer_14 rfl)
    (e_each_cons (r_getP X (index := 25) (ci := 5) (k := 4) dX6_readSummer_15 (by decide) (by decide) rfl w1_217 rfl)
    (e_each_cons (r_callV X rfl (τ := sg_X8_step) (index := 102) (ci := 7) dX6_readSummer_18 (by decide) rfl w4_1 w3_214 w3_215 cs_X8_step rfl ⟨by decide, by decide⟩ rfl)
    (e_each_cons (r_aload_n X (k := 0) (i := 0) rfl dX6_readSummer_21 rfl)
    (e_each_cons (r_iconst X (n := 0) (v := 0) dX6_readSummer_22 (by decide) rfl)
    (e_each_cons (r_sipush X (n := 364) (v := 364) dX6_readSummer_23 (by decide) rfl)
    (e_each_cons (r_callV X rfl (τ := sg_X6_takeNumber) (index := 119) (ci := 5) dX6_readSummer_26 (by decide) rfl w4_2 w4_4 ws_7 cs_X6_takeNumber rfl ⟨by decide, by decide⟩ rfl)
    (e_each_cons (r_if_ne X (off := 5) (t := 34) dX6_readSummer_29 (by decide) rfl)
    (e_each_cons (r_iconst X (n := 0) (v := 0) dX6_readSummer_32 (by decide) rfl)
    (e_each_cons (r_iretz X dX6_readSummer_33 rfl)
    (e_each_cons (r_aload_n X (k := 0) (i := 0) rfl dX6_readSummer_34 rfl)
    (e_each_cons (r_getI X (index := 112) (ci := 5) (k := 5) dX6_readSummer_35 (by decide) (by decide) rfl w1_219 rfl)
    (e_each_cons (r_istore_n X (k := 1) (i := 1) rfl dX6_readSummer_38 (by decide) rfl)
    (e_each_cons (r_aload_n X (k := 0) (i := 0) rfl dX6_readSummer_39 rfl)
    (e_each_cons (r_iload_n X (k := 1) (i := 1) rfl dX6_readSummer_40 rfl)
    (e_each_cons (r_sipush X (n := 364) (v := 364) dX6_readSummer_41 (by decide) rfl)
    (e_each_cons (r_callV X rfl (τ := sg_X6_takeNumber) (index := 119) (ci := 5) dX6_readSummer_44 (by decide) rfl w4_2 w4_4 ws_7 cs_X6_takeNumber rfl ⟨by decide, by decide⟩ rfl)
    (e_each_cons (r_if_ne X (off := 5) (t := 52) dX6_readSummer_47 (by decide) rfl)
    (e_each_cons (r_iconst X (n := 0) (v := 0) dX6_readSummer_50 (by decide) rfl)
    (e_each_cons (r_iretz X dX6_readSummer_51 rfl)
    (e_each_cons (r_aload_n X (k := 0) (i := 0) rfl dX6_readSummer_52 rfl)
    (e_each_cons (r_getP X (index := 33) (ci := 5) (k := 7) dX6_readSummer_53 (by decide) (by decide) rfl w1_221 rfl)
    (e_each_cons (r_aload_n X (k := 0) (i := 0) rfl dX6_readSummer_56 rfl)
    (e_each_cons (r_getP X (index := 33) (ci := 5) (k := 7) dX6_readSummer_57 (by decide) (by decide) rfl w1_221 rfl)
    (e_each_cons (r_getI X (index := 132) (ci := 8) (k := 0) dX6_readSummer_60 (by decide) (by decide) rfl w1_60 rfl)
    (e_each_cons (r_iload_n X (k := 1) (i := 1) rfl dX6_readSummer_63 rfl)
    (e_each_cons (r_aload_n X (k := 0) (i := 0) rfl dX6_readSummer_64 rfl)
    (e_each_cons (r_getI X (index := 112) (ci := 5) (k := 5) dX6_readSummer_65 (by decide) (by decide) rfl w1_219 rfl)
    (e_each_cons (r_callV X rfl (τ := sg_X9_setTo) (index := 122) (ci := 8) dX6_readSummer_68 (by decide) rfl w4_11 w3_199 w3_200 cs_X9_setTo rfl ⟨by decide, by decide⟩ rfl)
    (e_each_cons (r_iconst X (n := 1) (v := 1) dX6_readSummer_71 (by decide) rfl)
    (e_each_cons (r_iretz X dX6_readSummer_72 rfl)
    (e_each_nil))))))))))))))))))))))))))))))))))))))
theorem dX6_takeSemicolon_0 : decode cX6_takeSemicolon 0 = .ok (.aload_n 0, 1) := by decide +kernel
theorem dX6_takeSemicolon_1 : decode cX6_takeSemicolon 1 = .ok (.getfield 25, 3) := by decide +kernel
theorem dX6_takeSemicolon_4 : decode cX6_takeSemicolon 4 = .ok (.getfield 58, 3) := by decide +kernel
theorem dX6_takeSemicolon_7 : decode cX6_takeSemicolon 7 = .ok (.iconst 3, 1) := by decide +kernel
theorem dX6_takeSemicolon_8 : decode cX6_takeSemicolon 8 = .ok (.if_icmp .eq 9, 3) := by decide +kernel
theorem dX6_takeSemicolon_11 : decode cX6_takeSemicolon 11 = .ok (.aload_n 0, 1) := by decide +kernel
theorem dX6_takeSemicolon_12 : decode cX6_takeSemicolon 12 = .ok (.iconst 1, 1) := by decide +kernel
theorem dX6_takeSemicolon_13 : decode cX6_takeSemicolon 13 = .ok (.invokevirtual 86, 3) := by decide +kernel
theorem dX6_takeSemicolon_16 : decode cX6_takeSemicolon 16 = .ok (.ireturn, 1) := by decide +kernel
theorem dX6_takeSemicolon_17 : decode cX6_takeSemicolon 17 = .ok (.aload_n 0, 1) := by decide +kernel
theorem dX6_takeSemicolon_18 : decode cX6_takeSemicolon 18 = .ok (.getfield 25, 3) := by decide +kernel
theorem dX6_takeSemicolon_21 : decode cX6_takeSemicolon 21 = .ok (.invokevirtual 102, 3) := by decide +kernel
theorem dX6_takeSemicolon_24 : decode cX6_takeSemicolon 24 = .ok (.iconst 1, 1) := by decide +kernel
theorem dX6_takeSemicolon_25 : decode cX6_takeSemicolon 25 = .ok (.ireturn, 1) := by decide +kernel
def pg_X6_takeSemicolon (l : Launch) (g : EG) : List (Nat × ES) := [(0, s_ldP 0), (1, s_getP 5 4), (4, s_getI 7 1), (7, s_c (.inl 3)), (8, s_icmp_eq 17), (11, s_ldP 0), (12, s_c (.inl 1)), (13, s_callV l g sg_X6_takeSemicolon sg_X6_fail 5), (16, s_iretz), (17, s_ldP 0), (18, s_getP 5 4), (21, s_callV l g sg_X6_takeSemicolon sg_X8_step 7), (24, s_c (.inl 1)), (25, s_iretz)]
set_option maxRecDepth 100000 in
theorem ok_X6_takeSemicolon {l : Launch} {g : EG} : e_okp l g sg_X6_takeSemicolon "CalendarSync$Reader" (pg_X6_takeSemicolon l g) := fun p e R s m args below meth c ex M0 Q X =>
    e_each_cons (r_aload_n X (k := 0) (i := 0) rfl dX6_takeSemicolon_0 rfl)
    (e_each_cons (r_getP X (index := 25) (ci := 5) (k := 4) dX6_takeSemicolon_1 (by decide) (by decide) rfl w1_217 rfl)
    (e_each_cons (r_getI X (index := 58) (ci := 7) (k := 1) dX6_takeSemicolon_4 (by decide) (by decide) rfl w1_186 rfl)
    (e_each_cons (r_iconst X (n := 3) (v := 3) dX6_takeSemicolon_7 (by decide) rfl)
    (e_each_cons (r_icmp_eq X (off := 9) (t := 17) dX6_takeSemicolon_8 (by decide) rfl)
    (e_each_cons (r_aload_n X (k := 0) (i := 0) rfl dX6_takeSemicolon_11 rfl)
    (e_each_cons (r_iconst X (n := 1) (v := 1) dX6_takeSemicolon_12 (by decide) rfl)
    (e_each_cons (r_callV X rfl (τ := sg_X6_fail) (index := 86) (ci := 5) dX6_takeSemicolon_13 (by decide) rfl w3_237 w3_239 ws_6 cs_X6_fail rfl ⟨by decide, by decide⟩ rfl)
    (e_each_cons (r_iretz X dX6_takeSemicolon_16 rfl)
    (e_each_cons (r_aload_n X (k := 0) (i := 0) rfl dX6_takeSemicolon_17 rfl)
    (e_each_cons (r_getP X (index := 25) (ci := 5) (k := 4) dX6_takeSemicolon_18 (by decide) (by decide) rfl w1_217 rfl)
    (e_each_cons (r_callV X rfl (τ := sg_X8_step) (index := 102) (ci := 7) dX6_takeSemicolon_21 (by decide) rfl w4_1 w3_214 w3_215 cs_X8_step rfl ⟨by decide, by decide⟩ rfl)
    (e_each_cons (r_iconst X (n := 1) (v := 1) dX6_takeSemicolon_24 (by decide) rfl)
    (e_each_cons (r_iretz X dX6_takeSemicolon_25 rfl)
    (e_each_nil))))))))))))))
theorem dX6_readEvent_0 : decode cX6_readEvent 0 = .ok (.aload_n 0, 1) := by decide +kernel
theorem dX6_readEvent_1 : decode cX6_readEvent 1 = .ok (.getfield 48, 3) := by decide +kernel
theorem dX6_readEvent_4 : decode cX6_readEvent 4 = .ok (.bipush 8, 2) := by decide +kernel
theorem dX6_readEvent_6 : decode cX6_readEvent 6 = .ok (.if_icmp .lt 9, 3) := by decide +kernel
theorem dX6_readEvent_9 : decode cX6_readEvent 9 = .ok (.aload_n 0, 1) := by decide +kernel
theorem dX6_readEvent_10 : decode cX6_readEvent 10 = .ok (.iconst 4, 1) := by decide +kernel
theorem dX6_readEvent_11 : decode cX6_readEvent 11 = .ok (.invokevirtual 86, 3) := by decide +kernel
theorem dX6_readEvent_14 : decode cX6_readEvent 14 = .ok (.ireturn, 1) := by decide +kernel
theorem dX6_readEvent_15 : decode cX6_readEvent 15 = .ok (.aload_n 0, 1) := by decide +kernel
theorem dX6_readEvent_16 : decode cX6_readEvent 16 = .ok (.aload_n 0, 1) := by decide +kernel
theorem dX6_readEvent_17 : decode cX6_readEvent 17 = .ok (.getfield 12, 3) := by decide +kernel
theorem dX6_readEvent_20 : decode cX6_readEvent 20 = .ok (.getfield 37, 3) := by decide +kernel
theorem dX6_readEvent_23 : decode cX6_readEvent 23 = .ok (.aload_n 0, 1) := by decide +kernel
theorem dX6_readEvent_24 : decode cX6_readEvent 24 = .ok (.getfield 48, 3) := by decide +kernel
theorem dX6_readEvent_27 : decode cX6_readEvent 27 = .ok (.aaload, 1) := by decide +kernel
theorem dX6_readEvent_28 : decode cX6_readEvent 28 = .ok (.putfield 41, 3) := by decide +kernel
theorem dX6_readEvent_31 : decode cX6_readEvent 31 = .ok (.aload_n 0, 1) := by decide +kernel
theorem dX6_readEvent_32 : decode cX6_readEvent 32 = .ok (.dup, 1) := by decide +kernel
theorem dX6_readEvent_33 : decode cX6_readEvent 33 = .ok (.getfield 48, 3) := by decide +kernel
theorem dX6_readEvent_36 : decode cX6_readEvent 36 = .ok (.iconst 1, 1) := by decide +kernel
theorem dX6_readEvent_37 : decode cX6_readEvent 37 = .ok (.iadd, 1) := by decide +kernel
theorem dX6_readEvent_38 : decode cX6_readEvent 38 = .ok (.putfield 48, 3) := by decide +kernel
theorem dX6_readEvent_41 : decode cX6_readEvent 41 = .ok (.aload_n 0, 1) := by decide +kernel
theorem dX6_readEvent_42 : decode cX6_readEvent 42 = .ok (.getfield 25, 3) := by decide +kernel
theorem dX6_readEvent_45 : decode cX6_readEvent 45 = .ok (.invokevirtual 102, 3) := by decide +kernel
theorem dX6_readEvent_48 : decode cX6_readEvent 48 = .ok (.aload_n 0, 1) := by decide +kernel
theorem dX6_readEvent_49 : decode cX6_readEvent 49 = .ok (.iconst 0, 1) := by decide +kernel
theorem dX6_readEvent_50 : decode cX6_readEvent 50 = .ok (.sipush 1094, 3) := by decide +kernel
theorem dX6_readEvent_53 : decode cX6_readEvent 53 = .ok (.invokevirtual 119, 3) := by decide +kernel
theorem dX6_readEvent_56 : decode cX6_readEvent 56 = .ok (.ifCond .ne 5, 3) := by decide +kernel
theorem dX6_readEvent_59 : decode cX6_readEvent 59 = .ok (.iconst 0, 1) := by decide +kernel
theorem dX6_readEvent_60 : decode cX6_readEvent 60 = .ok (.ireturn, 1) := by decide +kernel
theorem dX6_readEvent_61 : decode cX6_readEvent 61 = .ok (.aload_n 0, 1) := by decide +kernel
theorem dX6_readEvent_62 : decode cX6_readEvent 62 = .ok (.getfield 112, 3) := by decide +kernel
theorem dX6_readEvent_65 : decode cX6_readEvent 65 = .ok (.istore_n 1, 1) := by decide +kernel
theorem dX6_readEvent_66 : decode cX6_readEvent 66 = .ok (.aload_n 0, 1) := by decide +kernel
theorem dX6_readEvent_67 : decode cX6_readEvent 67 = .ok (.iconst 0, 1) := by decide +kernel
theorem dX6_readEvent_68 : decode cX6_readEvent 68 = .ok (.sipush 1439, 3) := by decide +kernel
theorem dX6_readEvent_71 : decode cX6_readEvent 71 = .ok (.invokevirtual 119, 3) := by decide +kernel
theorem dX6_readEvent_74 : decode cX6_readEvent 74 = .ok (.ifCond .ne 5, 3) := by decide +kernel
theorem dX6_readEvent_77 : decode cX6_readEvent 77 = .ok (.iconst 0, 1) := by decide +kernel
theorem dX6_readEvent_78 : decode cX6_readEvent 78 = .ok (.ireturn, 1) := by decide +kernel
theorem dX6_readEvent_79 : decode cX6_readEvent 79 = .ok (.aload_n 0, 1) := by decide +kernel
theorem dX6_readEvent_80 : decode cX6_readEvent 80 = .ok (.getfield 112, 3) := by decide +kernel
theorem dX6_readEvent_83 : decode cX6_readEvent 83 = .ok (.istore_n 2, 1) := by decide +kernel
theorem dX6_readEvent_84 : decode cX6_readEvent 84 = .ok (.aload_n 0, 1) := by decide +kernel
theorem dX6_readEvent_85 : decode cX6_readEvent 85 = .ok (.iconst 1, 1) := by decide +kernel
theorem dX6_readEvent_86 : decode cX6_readEvent 86 = .ok (.sipush 1440, 3) := by decide +kernel
theorem dX6_readEvent_89 : decode cX6_readEvent 89 = .ok (.invokevirtual 119, 3) := by decide +kernel
theorem dX6_readEvent_92 : decode cX6_readEvent 92 = .ok (.ifCond .ne 5, 3) := by decide +kernel
theorem dX6_readEvent_95 : decode cX6_readEvent 95 = .ok (.iconst 0, 1) := by decide +kernel
theorem dX6_readEvent_96 : decode cX6_readEvent 96 = .ok (.ireturn, 1) := by decide +kernel
theorem dX6_readEvent_97 : decode cX6_readEvent 97 = .ok (.aload_n 0, 1) := by decide +kernel
theorem dX6_readEvent_98 : decode cX6_readEvent 98 = .ok (.getfield 112, 3) := by decide +kernel
theorem dX6_readEvent_101 : decode cX6_readEvent 101 = .ok (.istore_n 3, 1) := by decide +kernel
theorem dX6_readEvent_102 : decode cX6_readEvent 102 = .ok (.aload_n 0, 1) := by decide +kernel
theorem dX6_readEvent_103 : decode cX6_readEvent 103 = .ok (.iconst 0, 1) := by decide +kernel
theorem dX6_readEvent_104 : decode cX6_readEvent 104 = .ok (.aload_n 0, 1) := by decide +kernel
theorem dX6_readEvent_105 : decode cX6_readEvent 105 = .ok (.getfield 12, 3) := by decide +kernel
theorem dX6_readEvent_108 : decode cX6_readEvent 108 = .ok (.getfield 90, 3) := by decide +kernel
theorem dX6_readEvent_111 : decode cX6_readEvent 111 = .ok (.iconst 1, 1) := by decide +kernel
theorem dX6_readEvent_112 : decode cX6_readEvent 112 = .ok (.isub, 1) := by decide +kernel
theorem dX6_readEvent_113 : decode cX6_readEvent 113 = .ok (.invokevirtual 119, 3) := by decide +kernel
theorem dX6_readEvent_116 : decode cX6_readEvent 116 = .ok (.ifCond .ne 5, 3) := by decide +kernel
theorem dX6_readEvent_119 : decode cX6_readEvent 119 = .ok (.iconst 0, 1) := by decide +kernel
theorem dX6_readEvent_120 : decode cX6_readEvent 120 = .ok (.ireturn, 1) := by decide +kernel
theorem dX6_readEvent_121 : decode cX6_readEvent 121 = .ok (.aload_n 0, 1) := by decide +kernel
theorem dX6_readEvent_122 : decode cX6_readEvent 122 = .ok (.getfield 41, 3) := by decide +kernel
theorem dX6_readEvent_125 : decode cX6_readEvent 125 = .ok (.iload_n 1, 1) := by decide +kernel
theorem dX6_readEvent_126 : decode cX6_readEvent 126 = .ok (.iload_n 2, 1) := by decide +kernel
theorem dX6_readEvent_127 : decode cX6_readEvent 127 = .ok (.iload_n 3, 1) := by decide +kernel
theorem dX6_readEvent_128 : decode cX6_readEvent 128 = .ok (.aload_n 0, 1) := by decide +kernel
theorem dX6_readEvent_129 : decode cX6_readEvent 129 = .ok (.getfield 112, 3) := by decide +kernel
theorem dX6_readEvent_132 : decode cX6_readEvent 132 = .ok (.invokevirtual 135, 3) := by decide +kernel
theorem dX6_readEvent_135 : decode cX6_readEvent 135 = .ok (.aload_n 0, 1) := by decide +kernel
theorem dX6_readEvent_136 : decode cX6_readEvent 136 = .ok (.getfield 41, 3) := by decide +kernel
theorem dX6_readEvent_139 : decode cX6_readEvent 139 = .ok (.iconst 0, 1) := by decide +kernel
theorem dX6_readEvent_140 : decode cX6_readEvent 140 = .ok (.putfield 141, 3) := by decide +kernel
theorem dX6_readEvent_143 : decode cX6_readEvent 143 = .ok (.iconst 1, 1) := by decide +kernel
theorem dX6_readEvent_144 : decode cX6_readEvent 144 = .ok (.ireturn, 1) := by decide +kernel
def pg_X6_readEvent (l : Launch) (g : EG) : List (Nat × ES) := [(0, s_ldP 0), (1, s_getI 5 1), (4, s_c (.inl 8)), (6, s_icmp_lt 15), (9, s_ldP 0), (10, s_c (.inl 4)), (11, s_callV l g sg_X6_readEvent sg_X6_fail 5), (14, s_iretz), (15, s_ldP 0), (16, s_ldP 0), (17, s_getP 5 0), (20, s_getP 4 2), (23, s_ldP 0), (24, s_getI 5 1), (27, s_aald), (28, s_putP 5 8), (31, s_ldP 0), (32, s_dup), (33, s_getI 5 1), (36, s_c (.inl 1)), (37, s_ii (fun x y => x + y)), (38, s_putI 5 1), (41, s_ldP 0), (42, s_getP 5 4), (45, s_callV l g sg_X6_readEvent sg_X8_step 7), (48, s_ldP 0), (49, s_c (.inl 0)), (50, s_c (.inl 1094)), (53, s_callV l g sg_X6_readEvent sg_X6_takeNumber 5), (56, s_if_ne 61), (59, s_c (.inl 0)), (60, s_iretz), (61, s_ldP 0), (62, s_getI 5 5), (65, s_stI 1), (66, s_ldP 0), (67, s_c (.inl 0)), (68, s_c (.inl 1439)), (71, s_callV l g sg_X6_readEvent sg_X6_takeNumber 5), (74, s_if_ne 79), (77, s_c (.inl 0)), (78, s_iretz), (79, s_ldP 0), (80, s_getI 5 5), (83, s_stI 2), (84, s_ldP 0), (85, s_c (.inl 1)), (86, s_c (.inl 1440)), (89, s_callV l g sg_X6_readEvent sg_X6_takeNumber 5), (92, s_if_ne 97), (95, s_c (.inl 0)), (96, s_iretz), (97, s_ldP 0), (98, s_getI 5 5), (101, s_stI 3), (102, s_ldP 0), (103, s_c (.inl 0)), (104, s_ldP 0), (105, s_getP 5 0), (108, s_getI 4 0), (111, s_c (.inl 1)), (112, s_ii (fun x y => x - y)), (113, s_callV l g sg_X6_readEvent sg_X6_takeNumber 5), (116, s_if_ne 121), (119, s_c (.inl 0)), (120, s_iretz), (121, s_ldP 0), (122, s_getP 5 8), (125, s_ldI 1), (126, s_ldI 2), (127, s_ldI 3), (128, s_ldP 0), (129, s_getI 5 5), (132, s_callV l g sg_X6_readEvent sg_X2_startAt 1), (135, s_ldP 0), (136, s_getP 5 8), (139, s_c (.inl 0)), (140, s_putI 1 9), (143, s_c (.inl 1)), (144, s_iretz)]
set_option maxRecDepth 100000 in
theorem ok_X6_readEvent {l : Launch} {g : EG} : e_okp l g sg_X6_readEvent "CalendarSync$Reader" (pg_X6_readEvent l g) := fun p e R s m args below meth c ex M0 Q X =>
    e_each_cons (r_aload_n X (k := 0) (i := 0) rfl dX6_readEvent_0 rfl)
    (e_each_cons (r_getI X (index := 48) (ci := 5) (k := 1) dX6_readEvent_1 (by decide) (by decide) rfl w1_213 rfl)
    (e_each_cons (r_bipush X (n := 8) (v := 8) dX6_readEvent_4 (by decide) rfl)
    (e_each_cons (r_icmp_lt X (off := 9) (t := 15) dX6_readEvent_6 (by decide) rfl)
    (e_each_cons (r_aload_n X (k := 0) (i := 0) rfl dX6_readEvent_9 rfl)
    (e_each_cons (r_iconst X (n := 4) (v := 4) dX6_readEvent_10 (by decide) rfl)
    (e_each_cons (r_callV X rfl (τ := sg_X6_fail) (index := 86) (ci := 5) dX6_readEvent_11 (by decide) rfl w3_237 w3_239 ws_6 cs_X6_fail rfl ⟨by decide, by decide⟩ rfl)
    (e_each_cons (r_iretz X dX6_readEvent_14 rfl)
    (e_each_cons (r_aload_n X (k := 0) (i := 0) rfl dX6_readEvent_15 rfl)
    (e_each_cons (r_aload_n X (k := 0) (i := 0) rfl dX6_readEvent_16 rfl)
    (e_each_cons (r_getP X (index := 12) (ci := 5) (k := 0) dX6_readEvent_17 (by decide) (by decide) rfl w1_211 rfl)
    (e_each_cons (r_getP X (index := 37) (ci := 4) (k := 2) dX6_readEvent_20 (by decide) (by decide) rfl w1_166 rfl)
    (e_each_cons (r_aload_n X (k := 0) (i := 0) rfl dX6_readEvent_23 rfl)
    (e_each_cons (r_getI X (index := 48) (ci := 5) (k := 1) dX6_readEvent_24 (by decide) (by decide) rfl w1_213 rfl)
    (e_each_cons (r_aald X dX6_readEvent_27 rfl)
    (e_each_cons (r_putP X (index := 41) (ci := 5) (k := 8) dX6_readEvent_28 (by decide) (by decide) rfl (Or.inl rfl) w1_222 rfl)
    (e_each_cons (r_aload_n X (k := 0) (i := 0) rfl dX6_readEvent_31 rfl)
    (e_each_cons (r_dup X dX6_readEvent_32 rfl)
    (e_each_cons (r_getI X (index := 48) (ci := 5) (k := 1) dX6_readEvent_33 (by decide) (by decide) rfl w1_213 rfl)
    (e_each_cons (r_iconst X (n := 1) (v := 1) dX6_readEvent_36 (by decide) rfl)
    (e_each_cons (r_iadd X dX6_readEvent_37 rfl)
    (e_each_cons (r_putI X (index := 48) (ci := 5) (k := 1) dX6_readEvent_38 (by decide) (by decide) rfl rfl w1_213 rfl)
    (e_each_cons (r_aload_n X (k := 0) (i := 0) rfl dX6_readEvent_41 rfl)
    (e_each_cons (r_getP X (index := 25) (ci := 5) (k := 4) dX6_readEvent_42 (by decide) (by decide) rfl w1_217 rfl)
    (e_each_cons (r_callV X rfl (τ := sg_X8_step) (index := 102) (ci := 7) dX6_readEvent_45 (by decide) rfl w4_1 w3_214 w3_215 cs_X8_step rfl ⟨by decide, by decide⟩ rfl)
    (e_each_cons (r_aload_n X (k := 0) (i := 0) rfl dX6_readEvent_48 rfl)
    (e_each_cons (r_iconst X (n := 0) (v := 0) dX6_readEvent_49 (by decide) rfl)
    (e_each_cons (r_sipush X (n := 1094) (v := 1094) dX6_readEvent_50 (by decide) rfl)
    (e_each_cons (r_callV X rfl (τ := sg_X6_takeNumber) (index := 119) (ci := 5) dX6_readEvent_53 (by decide) rfl w4_2 w4_4 ws_7 cs_X6_takeNumber rfl ⟨by decide, by decide⟩ rfl)
    (e_each_cons (r_if_ne X (off := 5) (t := 61) dX6_readEvent_56 (by decide) rfl)
    (e_each_cons (r_iconst X (n := 0) (v := 0) dX6_readEvent_59 (by decide) rfl)
    (e_each_cons (r_iretz X dX6_readEvent_60 rfl)
    (e_each_cons (r_aload_n X (k := 0) (i := 0) rfl dX6_readEvent_61 rfl)
    (e_each_cons (r_getI X (index := 112) (ci := 5) (k := 5) dX6_readEvent_62 (by decide) (by decide) rfl w1_219 rfl)
    (e_each_cons (r_istore_n X (k := 1) (i := 1) rfl dX6_readEvent_65 (by decide) rfl)
    (e_each_cons (r_aload_n X (k := 0) (i := 0) rfl dX6_readEvent_66 rfl)
    (e_each_cons (r_iconst X (n := 0) (v := 0) dX6_readEvent_67 (by decide) rfl)
    (e_each_cons (r_sipush X (n := 1439) (v := 1439) dX6_readEvent_68 (by decide) rfl)
    (e_each_cons (r_callV X rfl (τ := sg_X6_takeNumber) (index := 119) (ci := 5) dX6_readEvent_71 (by decide) rfl w4_2 w4_4 ws_7 cs_X6_takeNumber rfl ⟨by decide, by decide⟩ rfl)
    (e_each_cons (r_if_ne X (off := 5) (t := 79) dX6_readEvent_74 (by decide) rfl)
    (e_each_cons (r_iconst X (n := 0) (v := 0) dX6_readEvent_77 (by decide) rfl)
    (e_each_cons (r_iretz X dX6_readEvent_78 rfl)
    (e_each_cons (r_aload_n X (k := 0) (i := 0) rfl dX6_readEvent_79 rfl)
    (e_each_cons (r_getI X (index := 112) (ci := 5) (k := 5) dX6_readEvent_80 (by decide) (by decide) rfl w1_219 rfl)
    (e_each_cons (r_istore_n X (k := 2) (i := 2) rfl dX6_readEvent_83 (by decide) rfl)
    (e_each_cons (r_aload_n X (k := 0) (i := 0) rfl dX6_readEvent_84 rfl)
    (e_each_cons (r_iconst X (n := 1) (v := 1) dX6_readEvent_85 (by decide) rfl)
    (e_each_cons (r_sipush X (n := 1440) (v := 1440) dX6_readEvent_86 (by decide) rfl)
    (e_each_cons (r_callV X rfl (τ := sg_X6_takeNumber) (index := 119) (ci := 5) dX6_readEvent_89 (by decide) rfl w4_2 w4_4 ws_7 cs_X6_takeNumber rfl ⟨by decide, by decide⟩ rfl)
    (e_each_cons (r_if_ne X (off := 5) (t := 97) dX6_readEvent_92 (by decide) rfl)
    (e_each_cons (r_iconst X (n := 0) (v := 0) dX6_readEvent_95 (by decide) rfl)
    (e_each_cons (r_iretz X dX6_readEvent_96 rfl)
    (e_each_cons (r_aload_n X (k := 0) (i := 0) rfl dX6_readEvent_97 rfl)
    (e_each_cons (r_getI X (index := 112) (ci := 5) (k := 5) dX6_readEvent_98 (by decide) (by decide) rfl w1_219 rfl)
    (e_each_cons (r_istore_n X (k := 3) (i := 3) rfl dX6_readEvent_101 (by decide) rfl)
    (e_each_cons (r_aload_n X (k := 0) (i := 0) rfl dX6_readEvent_102 rfl)
    (e_each_cons (r_iconst X (n := 0) (v := 0) dX6_readEvent_103 (by decide) rfl)
    (e_each_cons (r_aload_n X (k := 0) (i := 0) rfl dX6_readEvent_104 rfl)
    (e_each_cons (r_getP X (index := 12) (ci := 5) (k := 0) dX6_readEvent_105 (by decide) (by decide) rfl w1_211 rfl)
    (e_each_cons (r_getI X (index := 90) (ci := 4) (k := 0) dX6_readEvent_108 (by decide) (by decide) rfl w1_162 rfl)
    (e_each_cons (r_iconst X (n := 1) (v := 1) dX6_readEvent_111 (by decide) rfl)
    (e_each_cons (r_isub X dX6_readEvent_112 rfl)
    (e_each_cons (r_callV X rfl (τ := sg_X6_takeNumber) (index := 119) (ci := 5) dX6_readEvent_113 (by decide) rfl w4_2 w4_4 ws_7 cs_X6_takeNumber rfl ⟨by decide, by decide⟩ rfl)
    (e_each_cons (r_if_ne X (off := 5) (t := 121) dX6_readEvent_116 (by decide) rfl)
    (e_each_cons (r_iconst X (n := 0) (v := 0) dX6_readEvent_119 (by decide) rfl)
    (e_each_cons (r_iretz X dX6_readEvent_120 rfl)
    (e_each_cons (r_aload_n X (k := 0) (i := 0) rfl dX6_readEvent_121 rfl)
    (e_each_cons (r_getP X (index := 41) (ci := 5) (k := 8) dX6_readEvent_122 (by decide) (by decide) rfl w1_222 rfl)
    (e_each_cons (r_iload_n X (k := 1) (i := 1) rfl dX6_readEvent_125 rfl)
    (e_each_cons (r_iload_n X (k := 2) (i := 2) rfl dX6_readEvent_126 rfl)
    (e_each_cons (r_iload_n X (k := 3) (i := 3) rfl dX6_readEvent_127 rfl)
    (e_each_cons (r_aload_n X (k := 0) (i := 0) rfl dX6_readEvent_128 rfl)
    (e_each_cons (r_getI X (index := 112) (ci := 5) (k := 5) dX6_readEvent_129 (by decide) (by decide) rfl w1_219 rfl)
    (e_each_cons (r_callV X rfl (τ := sg_X2_startAt) (index := 135) (ci := 1) dX6_readEvent_132 (by decide) rfl w4_26 w4_27 w4_28 cs_X2_startAt rfl ⟨by decide, by decide⟩ rfl)
    (e_each_cons (r_aload_n X (k := 0) (i := 0) rfl dX6_readEvent_135 rfl)
    (e_each_cons (r_getP X (index := 41) (ci := 5) (k := 8) dX6_readEvent_136 (by decide) (by decide) rfl w1_222 rfl)
    (e_each_cons (r_iconst X (n := 0) (v := 0) dX6_readEvent_139 (by decide) rfl)
    (e_each_cons (r_putI X (index := 141) (ci := 1) (k := 9) dX6_readEvent_140 (by decide) (by decide) rfl rfl w1_108 rfl)
    (e_each_cons (r_iconst X (n := 1) (v := 1) dX6_readEvent_143 (by decide) rfl)
    (e_each_cons (r_iretz X dX6_readEvent_144 rfl)
    (e_each_nil))))))))))))))))))))))))))))))))))))))))))))))))))))))))))))))))))))))))))))))))
theorem dX6_unitKind_0 : decode cX6_unitKind 0 = .ok (.aload_n 0, 1) := by decide +kernel
theorem dX6_unitKind_1 : decode cX6_unitKind 1 = .ok (.getfield 25, 3) := by decide +kernel
theorem dX6_unitKind_4 : decode cX6_unitKind 4 = .ok (.ldc 161, 2) := by decide +kernel
theorem dX6_unitKind_6 : decode cX6_unitKind 6 = .ok (.invokevirtual 62, 3) := by decide +kernel
theorem dX6_unitKind_9 : decode cX6_unitKind 9 = .ok (.ifCond .eq 5, 3) := by decide +kernel
theorem dX6_unitKind_12 : decode cX6_unitKind 12 = .ok (.iconst 1, 1) := by decide +kernel
theorem dX6_unitKind_13 : decode cX6_unitKind 13 = .ok (.ireturn, 1) := by decide +kernel
theorem dX6_unitKind_14 : decode cX6_unitKind 14 = .ok (.aload_n 0, 1) := by decide +kernel
theorem dX6_unitKind_15 : decode cX6_unitKind 15 = .ok (.getfield 25, 3) := by decide +kernel
theorem dX6_unitKind_18 : decode cX6_unitKind 18 = .ok (.ldc 163, 2) := by decide +kernel
theorem dX6_unitKind_20 : decode cX6_unitKind 20 = .ok (.invokevirtual 62, 3) := by decide +kernel
theorem dX6_unitKind_23 : decode cX6_unitKind 23 = .ok (.ifCond .eq 5, 3) := by decide +kernel
theorem dX6_unitKind_26 : decode cX6_unitKind 26 = .ok (.iconst 2, 1) := by decide +kernel
theorem dX6_unitKind_27 : decode cX6_unitKind 27 = .ok (.ireturn, 1) := by decide +kernel
theorem dX6_unitKind_28 : decode cX6_unitKind 28 = .ok (.aload_n 0, 1) := by decide +kernel
theorem dX6_unitKind_29 : decode cX6_unitKind 29 = .ok (.getfield 25, 3) := by decide +kernel
theorem dX6_unitKind_32 : decode cX6_unitKind 32 = .ok (.ldc 165, 2) := by decide +kernel
theorem dX6_unitKind_34 : decode cX6_unitKind 34 = .ok (.invokevirtual 62, 3) := by decide +kernel
theorem dX6_unitKind_37 : decode cX6_unitKind 37 = .ok (.ifCond .eq 7, 3) := by decide +kernel
theorem dX6_unitKind_40 : decode cX6_unitKind 40 = .ok (.iconst 3, 1) := by decide +kernel
theorem dX6_unitKind_41 : decode cX6_unitKind 41 = .ok (.goto 4, 3) := by decide +kernel
theorem dX6_unitKind_44 : decode cX6_unitKind 44 = .ok (.iconst (-1), 1) := by decide +kernel
theorem dX6_unitKind_45 : decode cX6_unitKind 45 = .ok (.ireturn, 1) := by decide +kernel
def pg_X6_unitKind (l : Launch) (g : EG) : List (Nat × ES) := [(0, s_ldP 0), (1, s_getP 5 4), (4, s_str 4), (6, s_callV l g sg_X6_unitKind sg_X8_isWord 7), (9, s_if_eq 14), (12, s_c (.inl 1)), (13, s_ireti), (14, s_ldP 0), (15, s_getP 5 4), (18, s_str 5), (20, s_callV l g sg_X6_unitKind sg_X8_isWord 7), (23, s_if_eq 28), (26, s_c (.inl 2)), (27, s_ireti), (28, s_ldP 0), (29, s_getP 5 4), (32, s_str 6), (34, s_callV l g sg_X6_unitKind sg_X8_isWord 7), (37, s_if_eq 44), (40, s_c (.inl 3)), (41, s_goto 45), (44, s_c (.inl (-1))), (45, s_ireti)]
set_option maxRecDepth 100000 in
theorem ok_X6_unitKind {l : Launch} {g : EG} : e_okp l g sg_X6_unitKind "CalendarSync$Reader" (pg_X6_unitKind l g) := fun p e R s m args below meth c ex M0 Q X =>
    e_each_cons (r_aload_n X (k := 0) (i := 0) rfl dX6_unitKind_0 rfl)
    (e_each_cons (r_getP X (index := 25) (ci := 5) (k := 4) dX6_unitKind_1 (by decide) (by decide) rfl w1_217 rfl)
    (e_each_cons (r_str X (k := 4) (is := 161) dX6_unitKind_4 rfl ⟨⟨rfl, rfl⟩, by decide⟩ rfl)
    (e_each_cons (r_callV X rfl (τ := sg_X8_isWord) (index := 62) (ci := 7) dX6_unitKind_6 (by decide) rfl w3_227 w3_228 w3_229 cs_X8_isWord rfl ⟨by decide, by decide⟩ rfl)
    (e_each_cons (r_if_eq X (off := 5) (t := 14) dX6_unitKind_9 (by decide) rfl)
    (e_each_cons (r_iconst X (n := 1) (v := 1) dX6_unitKind_12 (by decide) rfl)
    (e_each_cons (r_ireti X dX6_unitKind_13 rfl)
    (e_each_cons (r_aload_n X (k := 0) (i := 0) rfl dX6_unitKind_14 rfl)
    (e_each_cons (r_getP X (index := 25) (ci := 5) (k := 4) dX6_unitKind_15 (by decide) (by decide) rfl w1_217 rfl)
    (e_each_cons (r_str X (k := 5) (is := 163) dX6_unitKind_18 rfl ⟨⟨rfl, rfl⟩, by decide⟩ rfl)
    (e_each_cons (r_callV X rfl (τ := sg_X8_isWord) (index := 62) (ci := 7) dX6_unitKind_20 (by decide) rfl w3_227 w3_228 w3_229 cs_X8_isWord rfl ⟨by decide, by decide⟩ rfl)
    (e_each_cons (r_if_eq X (off := 5) (t := 28) dX6_unitKind_23 (by decide) rfl)
    (e_each_cons (r_iconst X (n := 2) (v := 2) dX6_unitKind_26 (by decide) rfl)
    (e_each_cons (r_ireti X dX6_unitKind_27 rfl)
    (e_each_cons (r_aload_n X (k := 0) (i := 0) rfl dX6_unitKind_28 rfl)
    (e_each_cons (r_getP X (index := 25) (ci := 5) (k := 4) dX6_unitKind_29 (by decide) (by decide) rfl w1_217 rfl)
    (e_each_cons (r_str X (k := 6) (is := 165) dX6_unitKind_32 rfl ⟨⟨rfl, rfl⟩, by decide⟩ rfl)
    (e_each_cons (r_callV X rfl (τ := sg_X8_isWord) (index := 62) (ci := 7) dX6_unitKind_34 (by decide) rfl w3_227 w3_228 w3_229 cs_X8_isWord rfl ⟨by decide, by decide⟩ rfl)
    (e_each_cons (r_if_eq X (off := 7) (t := 44) dX6_unitKind_37 (by decide) rfl)
    (e_each_cons (r_iconst X (n := 3) (v := 3) dX6_unitKind_40 (by decide) rfl)
    (e_each_cons (r_goto X (off := 4) (t := 45) dX6_unitKind_41 (by decide))
    (e_each_cons (r_iconst X (n := (-1)) (v := (-1)) dX6_unitKind_44 (by decide) rfl)
    (e_each_cons (r_ireti X dX6_unitKind_45 rfl)
    (e_each_nil)))))))))))))))))))))))
theorem dX6_takeWeekdays_0 : decode cX6_takeWeekdays 0 = .ok (.iconst 0, 1) := by decide +kernel
theorem dX6_takeWeekdays_1 : decode cX6_takeWeekdays 1 = .ok (.istore_n 1, 1) := by decide +kernel
theorem dX6_takeWeekdays_2 : decode cX6_takeWeekdays 2 = .ok (.iload_n 1, 1) := by decide +kernel
theorem dX6_takeWeekdays_3 : decode cX6_takeWeekdays 3 = .ok (.bipush 7, 2) := by decide +kernel
theorem dX6_takeWeekdays_5 : decode cX6_takeWeekdays 5 = .ok (.if_icmp .gt 79, 3) := by decide +kernel
theorem dX6_takeWeekdays_8 : decode cX6_takeWeekdays 8 = .ok (.aload_n 0, 1) := by decide +kernel
theorem dX6_takeWeekdays_9 : decode cX6_takeWeekdays 9 = .ok (.getfield 25, 3) := by decide +kernel
theorem dX6_takeWeekdays_12 : decode cX6_takeWeekdays 12 = .ok (.invokevirtual 167, 3) := by decide +kernel
theorem dX6_takeWeekdays_15 : decode cX6_takeWeekdays 15 = .ok (.istore_n 2, 1) := by decide +kernel
theorem dX6_takeWeekdays_16 : decode cX6_takeWeekdays 16 = .ok (.iload_n 2, 1) := by decide +kernel
theorem dX6_takeWeekdays_17 : decode cX6_takeWeekdays 17 = .ok (.iconst (-1), 1) := by decide +kernel
theorem dX6_takeWeekdays_18 : decode cX6_takeWeekdays 18 = .ok (.if_icmp .ne 24, 3) := by decide +kernel
theorem dX6_takeWeekdays_21 : decode cX6_takeWeekdays 21 = .ok (.aload_n 0, 1) := by decide +kernel
theorem dX6_takeWeekdays_22 : decode cX6_takeWeekdays 22 = .ok (.getfield 150, 3) := by decide +kernel
theorem dX6_takeWeekdays_25 : decode cX6_takeWeekdays 25 = .ok (.ifCond .ne 11, 3) := by decide +kernel
theorem dX6_takeWeekdays_28 : decode cX6_takeWeekdays 28 = .ok (.aload_n 0, 1) := by decide +kernel
theorem dX6_takeWeekdays_29 : decode cX6_takeWeekdays 29 = .ok (.iconst 1, 1) := by decide +kernel
theorem dX6_takeWeekdays_30 : decode cX6_takeWeekdays 30 = .ok (.invokevirtual 86, 3) := by decide +kernel
theorem dX6_takeWeekdays_33 : decode cX6_takeWeekdays 33 = .ok (.ifCond .eq 7, 3) := by decide +kernel
theorem dX6_takeWeekdays_36 : decode cX6_takeWeekdays 36 = .ok (.iconst 1, 1) := by decide +kernel
theorem dX6_takeWeekdays_37 : decode cX6_takeWeekdays 37 = .ok (.goto 4, 3) := by decide +kernel
theorem dX6_takeWeekdays_40 : decode cX6_takeWeekdays 40 = .ok (.iconst 0, 1) := by decide +kernel
theorem dX6_takeWeekdays_41 : decode cX6_takeWeekdays 41 = .ok (.ireturn, 1) := by decide +kernel
theorem dX6_takeWeekdays_42 : decode cX6_takeWeekdays 42 = .ok (.aload_n 0, 1) := by decide +kernel
theorem dX6_takeWeekdays_43 : decode cX6_takeWeekdays 43 = .ok (.getfield 150, 3) := by decide +kernel
theorem dX6_takeWeekdays_46 : decode cX6_takeWeekdays 46 = .ok (.iload_n 2, 1) := by decide +kernel
theorem dX6_takeWeekdays_47 : decode cX6_takeWeekdays 47 = .ok (.invokestatic 170, 3) := by decide +kernel
theorem dX6_takeWeekdays_50 : decode cX6_takeWeekdays 50 = .ok (.ifCond .eq 9, 3) := by decide +kernel
theorem dX6_takeWeekdays_53 : decode cX6_takeWeekdays 53 = .ok (.aload_n 0, 1) := by decide +kernel
theorem dX6_takeWeekdays_54 : decode cX6_takeWeekdays 54 = .ok (.iconst 3, 1) := by decide +kernel
theorem dX6_takeWeekdays_55 : decode cX6_takeWeekdays 55 = .ok (.invokevirtual 86, 3) := by decide +kernel
theorem dX6_takeWeekdays_58 : decode cX6_takeWeekdays 58 = .ok (.ireturn, 1) := by decide +kernel
theorem dX6_takeWeekdays_59 : decode cX6_takeWeekdays 59 = .ok (.aload_n 0, 1) := by decide +kernel
theorem dX6_takeWeekdays_60 : decode cX6_takeWeekdays 60 = .ok (.dup, 1) := by decide +kernel
theorem dX6_takeWeekdays_61 : decode cX6_takeWeekdays 61 = .ok (.getfield 150, 3) := by decide +kernel
theorem dX6_takeWeekdays_64 : decode cX6_takeWeekdays 64 = .ok (.iconst 1, 1) := by decide +kernel
theorem dX6_takeWeekdays_65 : decode cX6_takeWeekdays 65 = .ok (.iload_n 2, 1) := by decide +kernel
theorem dX6_takeWeekdays_66 : decode cX6_takeWeekdays 66 = .ok (.ishl, 1) := by decide +kernel
theorem dX6_takeWeekdays_67 : decode cX6_takeWeekdays 67 = .ok (.ior, 1) := by decide +kernel
theorem dX6_takeWeekdays_68 : decode cX6_takeWeekdays 68 = .ok (.putfield 150, 3) := by decide +kernel
theorem dX6_takeWeekdays_71 : decode cX6_takeWeekdays 71 = .ok (.aload_n 0, 1) := by decide +kernel
theorem dX6_takeWeekdays_72 : decode cX6_takeWeekdays 72 = .ok (.getfield 25, 3) := by decide +kernel
theorem dX6_takeWeekdays_75 : decode cX6_takeWeekdays 75 = .ok (.invokevirtual 102, 3) := by decide +kernel
theorem dX6_takeWeekdays_78 : decode cX6_takeWeekdays 78 = .ok (.iinc 1 1, 3) := by decide +kernel
theorem dX6_takeWeekdays_81 : decode cX6_takeWeekdays 81 = .ok (.goto (-79), 3) := by decide +kernel
theorem dX6_takeWeekdays_84 : decode cX6_takeWeekdays 84 = .ok (.iconst 1, 1) := by decide +kernel
theorem dX6_takeWeekdays_85 : decode cX6_takeWeekdays 85 = .ok (.ireturn, 1) := by decide +kernel
def pg_X6_takeWeekdays (l : Launch) (g : EG) : List (Nat × ES) := [(0, s_c (.inl 0)), (1, s_stI 1), (2, s_ldI 1), (3, s_c (.inl 7)), (5, s_icmp_gt 84), (8, s_ldP 0), (9, s_getP 5 4), (12, s_callV l g sg_X6_takeWeekdays sg_X8_weekday 7), (15, s_stI 2), (16, s_ldI 2), (17, s_c (.inl (-1))), (18, s_icmp_ne 42), (21, s_ldP 0), (22, s_getI 5 6), (25, s_if_ne 36), (28, s_ldP 0), (29, s_c (.inl 1)), (30, s_callV l g sg_X6_takeWeekdays sg_X6_fail 5), (33, s_if_eq 40), (36, s_c (.inl 1)), (37, s_goto 41), (40, s_c (.inl 0)), (41, s_iretz), (42, s_ldP 0), (43, s_getI 5 6), (46, s_ldI 2), (47, s_callS l g sg_X6_takeWeekdays sg_X10_hasBit), (50, s_if_eq 59), (53, s_ldP 0), (54, s_c (.inl 3)), (55, s_callV l g sg_X6_takeWeekdays sg_X6_fail 5), (58, s_iretz), (59, s_ldP 0), (60, s_dup), (61, s_getI 5 6), (64, s_c (.inl 1)), (65, s_ldI 2), (66, s_ii (fun x y => x <<< (y &&& 31))), (67, s_ii (fun x y => x ||| y)), (68, s_putI 5 6), (71, s_ldP 0), (72, s_getP 5 4), (75, s_callV l g sg_X6_takeWeekdays sg_X8_step 7), (78, s_iinc 1 1), (81, s_goto 2), (84, s_c (.inl 1)), (85, s_iretz)]
set_option maxRecDepth 100000 in
theorem ok_X6_takeWeekdays {l : Launch} {g : EG} : e_okp l g sg_X6_takeWeekdays "CalendarSync$Reader" (pg_X6_takeWeekdays l g) := fun p e R s m args below meth c ex M0 Q X =>
    e_each_cons (r_iconst X (n := 0) (v := 0) dX6_takeWeekdays_0 (by decide) rfl)
    (e_each_cons (r_istore_n X (k := 1) (i := 1) rfl dX6_takeWeekdays_1 (by decide) rfl)
    (e_each_cons (r_iload_n X (k := 1) (i := 1) rfl dX6_takeWeekdays_2 rfl)
    (e_each_cons (r_bipush X (n := 7) (v := 7) dX6_takeWeekdays_3 (by decide) rfl)
    (e_each_cons (r_icmp_gt X (off := 79) (t := 84) dX6_takeWeekdays_5 (by decide) rfl)
    (e_each_cons (r_aload_n X (k := 0) (i := 0) rfl dX6_takeWeekdays_8 rfl)
    (e_each_cons (r_getP X (index := 25) (ci := 5) (k := 4) dX6_takeWeekdays_9 (by decide) (by decide) rfl w1_217 rfl)
    (e_each_cons (r_callV X rfl (τ := sg_X8_weekday) (index := 167) (ci := 7) dX6_takeWeekdays_12 (by decide) rfl w4_58 w4_59 w4_60 cs_X8_weekday rfl ⟨by decide, by decide⟩ rfl)
    (e_each_cons (r_istore_n X (k := 2) (i := 2) rfl dX6_takeWeekdays_15 (by decide) rfl)
    (e_each_cons (r_iload_n X (k := 2) (i := 2) rfl dX6_takeWeekdays_16 rfl)
    (e_each_cons (r_iconst X (n := (-1)) (v := (-1)) dX6_takeWeekdays_17 (by decide) rfl)
    (e_each_cons (r_icmp_ne X (off := 24) (t := 42) dX6_takeWeekdays_18 (by decide) rfl)
    (e_each_cons (r_aload_n X (k := 0) (i := 0) rfl dX6_takeWeekdays_21 rfl)
    (e_each_cons (r_getI X (index := 150) (ci := 5) (k := 6) dX6_takeWeekdays_22 (by decide) (by decide) rfl w1_220 rfl)
    (e_each_cons (r_if_ne X (off := 11) (t := 36) dX6_takeWeekdays_25 (by decide) rfl)
    (e_each_cons (r_aload_n X (k := 0) (i := 0) rfl dX6_takeWeekdays_28 rfl)
    (e_each_cons (r_iconst X (n := 1) (v := 1) dX6_takeWeekdays_29 (by decide) rfl)
    (e_each_cons (r_callV X rfl (τ := sg_X6_fail) (index := 86) (ci := 5) dX6_takeWeekdays_30 (by decide) rfl w3_237 w3_239 ws_6 cs_X6_fail rfl ⟨by decide, by decide⟩ rfl)
    (e_each_cons (r_if_eq X (off := 7) (t := 40) dX6_takeWeekdays_33 (by decide) rfl)
    (e_each_cons (r_iconst X (n := 1) (v := 1) dX6_takeWeekdays_36 (by decide) rfl)
    (e_each_cons (r_goto X (off := 4) (t := 41) dX6_takeWeekdays_37 (by decide))
    (e_each_cons (r_iconst X (n := 0) (v := 0) dX6_takeWeekdays_40 (by decide) rfl)
    (e_each_cons (r_iretz X dX6_takeWeekdays_41 rfl)
    (e_each_cons (r_aload_n X (k := 0) (i := 0) rfl dX6_takeWeekdays_42 rfl)
    (e_each_cons (r_getI X (index := 150) (ci := 5) (k := 6) dX6_takeWeekdays_43 (by decide) (by decide) rfl w1_220 rfl)
    (e_each_cons (r_iload_n X (k := 2) (i := 2) rfl dX6_takeWeekdays_46 rfl)
    (e_each_cons (r_callSN X rfl (τ := sg_X10_hasBit) (index := 170) (host := "CalendarSync") dX6_takeWeekdays_47 wn4_63 w2_224 cs_X10_hasBit rfl ⟨by decide, by decide⟩ rfl)
    (e_each_cons (r_if_eq X (off := 9) (t := 59) dX6_takeWeekdays_50 (by decide) rfl)
    (e_each_cons (r_aload_n X (k := 0) (i := 0) rfl dX6_takeWeekdays_53 rfl)
    (e_each_cons (r_iconst X (n := 3) (v := 3) dX6_takeWeekdays_54 (by decide) rfl)
    (e_each_cons (r_callV X rfl (τ := sg_X6_fail) (index := 86) (ci := 5) dX6_takeWeekdays_55 (by decide) rfl w3_237 w3_239 ws_6 cs_X6_fail rfl ⟨by decide, by decide⟩ rfl)
    (e_each_cons (r_iretz X dX6_takeWeekdays_58 rfl)
    (e_each_cons (r_aload_n X (k := 0) (i := 0) rfl dX6_takeWeekdays_59 rfl)
    (e_each_cons (r_dup X dX6_takeWeekdays_60 rfl)
    (e_each_cons (r_getI X (index := 150) (ci := 5) (k := 6) dX6_takeWeekdays_61 (by decide) (by decide) rfl w1_220 rfl)
    (e_each_cons (r_iconst X (n := 1) (v := 1) dX6_takeWeekdays_64 (by decide) rfl)
    (e_each_cons (r_iload_n X (k := 2) (i := 2) rfl dX6_takeWeekdays_65 rfl)
    (e_each_cons (r_ishl X dX6_takeWeekdays_66 rfl)
    (e_each_cons (r_ior X dX6_takeWeekdays_67 rfl)
    (e_each_cons (r_putI X (index := 150) (ci := 5) (k := 6) dX6_takeWeekdays_68 (by decide) (by decide) rfl rfl w1_220 rfl)
    (e_each_cons (r_aload_n X (k := 0) (i := 0) rfl dX6_takeWeekdays_71 rfl)
    (e_each_cons (r_getP X (index := 25) (ci := 5) (k := 4) dX6_takeWeekdays_72 (by decide) (by decide) rfl w1_217 rfl)
    (e_each_cons (r_callV X rfl (τ := sg_X8_step) (index := 102) (ci := 7) dX6_takeWeekdays_75 (by decide) rfl w4_1 w3_214 w3_215 cs_X8_step rfl ⟨by decide, by decide⟩ rfl)
    (e_each_cons (r_iinc X (i := 1) (n := 1) (d := 1) dX6_takeWeekdays_78 (by decide) (by decide) rfl)
    (e_each_cons (r_goto X (off := (-79)) (t := 2) dX6_takeWeekdays_81 (by decide))
    (e_each_cons (r_iconst X (n := 1) (v := 1) dX6_takeWeekdays_84 (by decide) rfl)
    (e_each_cons (r_iretz X dX6_takeWeekdays_85 rfl)
    (e_each_nil)))))))))))))))))))))))))))))))))))))))))))))))
theorem dX6_readRule_0 : decode cX6_readRule 0 = .ok (.aload_n 0, 1) := by decide +kernel
theorem dX6_readRule_1 : decode cX6_readRule 1 = .ok (.getfield 25, 3) := by decide +kernel
theorem dX6_readRule_4 : decode cX6_readRule 4 = .ok (.ldc 144, 2) := by decide +kernel
theorem dX6_readRule_6 : decode cX6_readRule 6 = .ok (.invokevirtual 62, 3) := by decide +kernel
theorem dX6_readRule_9 : decode cX6_readRule 9 = .ok (.ifCond .ne 5, 3) := by decide +kernel
theorem dX6_readRule_12 : decode cX6_readRule 12 = .ok (.iconst 1, 1) := by decide +kernel
theorem dX6_readRule_13 : decode cX6_readRule 13 = .ok (.ireturn, 1) := by decide +kernel
theorem dX6_readRule_14 : decode cX6_readRule 14 = .ok (.aload_n 0, 1) := by decide +kernel
theorem dX6_readRule_15 : decode cX6_readRule 15 = .ok (.getfield 25, 3) := by decide +kernel
theorem dX6_readRule_18 : decode cX6_readRule 18 = .ok (.invokevirtual 102, 3) := by decide +kernel
theorem dX6_readRule_21 : decode cX6_readRule 21 = .ok (.aload_n 0, 1) := by decide +kernel
theorem dX6_readRule_22 : decode cX6_readRule 22 = .ok (.iconst 1, 1) := by decide +kernel
theorem dX6_readRule_23 : decode cX6_readRule 23 = .ok (.bipush 9, 2) := by decide +kernel
theorem dX6_readRule_25 : decode cX6_readRule 25 = .ok (.invokevirtual 119, 3) := by decide +kernel
theorem dX6_readRule_28 : decode cX6_readRule 28 = .ok (.ifCond .ne 5, 3) := by decide +kernel
theorem dX6_readRule_31 : decode cX6_readRule 31 = .ok (.iconst 0, 1) := by decide +kernel
theorem dX6_readRule_32 : decode cX6_readRule 32 = .ok (.ireturn, 1) := by decide +kernel
theorem dX6_readRule_33 : decode cX6_readRule 33 = .ok (.aload_n 0, 1) := by decide +kernel
theorem dX6_readRule_34 : decode cX6_readRule 34 = .ok (.getfield 112, 3) := by decide +kernel
theorem dX6_readRule_37 : decode cX6_readRule 37 = .ok (.istore_n 1, 1) := by decide +kernel
theorem dX6_readRule_38 : decode cX6_readRule 38 = .ok (.aload_n 0, 1) := by decide +kernel
theorem dX6_readRule_39 : decode cX6_readRule 39 = .ok (.invokevirtual 146, 3) := by decide +kernel
theorem dX6_readRule_42 : decode cX6_readRule 42 = .ok (.istore_n 2, 1) := by decide +kernel
theorem dX6_readRule_43 : decode cX6_readRule 43 = .ok (.iload_n 2, 1) := by decide +kernel
theorem dX6_readRule_44 : decode cX6_readRule 44 = .ok (.iconst (-1), 1) := by decide +kernel
theorem dX6_readRule_45 : decode cX6_readRule 45 = .ok (.if_icmp .ne 9, 3) := by decide +kernel
theorem dX6_readRule_48 : decode cX6_readRule 48 = .ok (.aload_n 0, 1) := by decide +kernel
theorem dX6_readRule_49 : decode cX6_readRule 49 = .ok (.iconst 1, 1) := by decide +kernel
theorem dX6_readRule_50 : decode cX6_readRule 50 = .ok (.invokevirtual 86, 3) := by decide +kernel
theorem dX6_readRule_53 : decode cX6_readRule 53 = .ok (.ireturn, 1) := by decide +kernel
theorem dX6_readRule_54 : decode cX6_readRule 54 = .ok (.aload_n 0, 1) := by decide +kernel
theorem dX6_readRule_55 : decode cX6_readRule 55 = .ok (.getfield 25, 3) := by decide +kernel
theorem dX6_readRule_58 : decode cX6_readRule 58 = .ok (.invokevirtual 102, 3) := by decide +kernel
theorem dX6_readRule_61 : decode cX6_readRule 61 = .ok (.aload_n 0, 1) := by decide +kernel
theorem dX6_readRule_62 : decode cX6_readRule 62 = .ok (.iconst 0, 1) := by decide +kernel
theorem dX6_readRule_63 : decode cX6_readRule 63 = .ok (.putfield 150, 3) := by decide +kernel
theorem dX6_readRule_66 : decode cX6_readRule 66 = .ok (.iload_n 2, 1) := by decide +kernel
theorem dX6_readRule_67 : decode cX6_readRule 67 = .ok (.iconst 2, 1) := by decide +kernel
theorem dX6_readRule_68 : decode cX6_readRule 68 = .ok (.if_icmp .ne 12, 3) := by decide +kernel
theorem dX6_readRule_71 : decode cX6_readRule 71 = .ok (.aload_n 0, 1) := by decide +kernel
theorem dX6_readRule_72 : decode cX6_readRule 72 = .ok (.invokevirtual 153, 3) := by decide +kernel
theorem dX6_readRule_75 : decode cX6_readRule 75 = .ok (.ifCond .ne 5, 3) := by decide +kernel
theorem dX6_readRule_78 : decode cX6_readRule 78 = .ok (.iconst 0, 1) := by decide +kernel
theorem dX6_readRule_79 : decode cX6_readRule 79 = .ok (.ireturn, 1) := by decide +kernel
theorem dX6_readRule_80 : decode cX6_readRule 80 = .ok (.aload_n 0, 1) := by decide +kernel
theorem dX6_readRule_81 : decode cX6_readRule 81 = .ok (.getfield 25, 3) := by decide +kernel
theorem dX6_readRule_84 : decode cX6_readRule 84 = .ok (.ldc 156, 2) := by decide +kernel
theorem dX6_readRule_86 : decode cX6_readRule 86 = .ok (.invokevirtual 62, 3) := by decide +kernel
theorem dX6_readRule_89 : decode cX6_readRule 89 = .ok (.ifCond .ne 9, 3) := by decide +kernel
theorem dX6_readRule_92 : decode cX6_readRule 92 = .ok (.aload_n 0, 1) := by decide +kernel
theorem dX6_readRule_93 : decode cX6_readRule 93 = .ok (.iconst 1, 1) := by decide +kernel
theorem dX6_readRule_94 : decode cX6_readRule 94 = .ok (.invokevirtual 86, 3) := by decide +kernel
theorem dX6_readRule_97 : decode cX6_readRule 97 = .ok (.ireturn, 1) := by decide +kernel
theorem dX6_readRule_98 : decode cX6_readRule 98 = .ok (.aload_n 0, 1) := by decide +kernel
theorem dX6_readRule_99 : decode cX6_readRule 99 = .ok (.getfield 25, 3) := by decide +kernel
theorem dX6_readRule_102 : decode cX6_readRule 102 = .ok (.invokevirtual 102, 3) := by decide +kernel
theorem dX6_readRule_105 : decode cX6_readRule 105 = .ok (.aload_n 0, 1) := by decide +kernel
theorem dX6_readRule_106 : decode cX6_readRule 106 = .ok (.iconst 1, 1) := by decide +kernel
theorem dX6_readRule_107 : decode cX6_readRule 107 = .ok (.bipush 30, 2) := by decide +kernel
theorem dX6_readRule_109 : decode cX6_readRule 109 = .ok (.invokevirtual 119, 3) := by decide +kernel
theorem dX6_readRule_112 : decode cX6_readRule 112 = .ok (.ifCond .ne 5, 3) := by decide +kernel
theorem dX6_readRule_115 : decode cX6_readRule 115 = .ok (.iconst 0, 1) := by decide +kernel
theorem dX6_readRule_116 : decode cX6_readRule 116 = .ok (.ireturn, 1) := by decide +kernel
theorem dX6_readRule_117 : decode cX6_readRule 117 = .ok (.aload_n 0, 1) := by decide +kernel
theorem dX6_readRule_118 : decode cX6_readRule 118 = .ok (.getfield 41, 3) := by decide +kernel
theorem dX6_readRule_121 : decode cX6_readRule 121 = .ok (.iload_n 2, 1) := by decide +kernel
theorem dX6_readRule_122 : decode cX6_readRule 122 = .ok (.iload_n 1, 1) := by decide +kernel
theorem dX6_readRule_123 : decode cX6_readRule 123 = .ok (.aload_n 0, 1) := by decide +kernel
theorem dX6_readRule_124 : decode cX6_readRule 124 = .ok (.getfield 150, 3) := by decide +kernel
theorem dX6_readRule_127 : decode cX6_readRule 127 = .ok (.aload_n 0, 1) := by decide +kernel
theorem dX6_readRule_128 : decode cX6_readRule 128 = .ok (.getfield 112, 3) := by decide +kernel
theorem dX6_readRule_131 : decode cX6_readRule 131 = .ok (.invokevirtual 158, 3) := by decide +kernel
theorem dX6_readRule_134 : decode cX6_readRule 134 = .ok (.iconst 1, 1) := by decide +kernel
theorem dX6_readRule_135 : decode cX6_readRule 135 = .ok (.ireturn, 1) := by decide +kernel
def pg_X6_readRule (l : Launch) (g : EG) : List (Nat × ES) := [(0, s_ldP 0), (1, s_getP 5 4), (4, s_str 3), (6, s_callV l g sg_X6_readRule sg_X8_isWord 7), (9, s_if_ne 14), (12, s_c (.inl 1)), (13, s_iretz), (14, s_ldP 0), (15, s_getP 5 4), (18, s_callV l g sg_X6_readRule sg_X8_step 7), (21, s_ldP 0), (22, s_c (.inl 1)), (23, s_c (.inl 9)), (25, s_callV l g sg_X6_readRule sg_X6_takeNumber 5), (28, s_if_ne 33), (31, s_c (.inl 0)), (32, s_iretz), (33, s_ldP 0), (34, s_getI 5 5), (37, s_stI 1), (38, s_ldP 0), (39, s_callV l g sg_X6_readRule sg_X6_unitKind 5), (42, s_stI 2), (43, s_ldI 2), (44, s_c (.inl (-1))), (45, s_icmp_ne 54), (48, s_ldP 0), (49, s_c (.inl 1)), (50, s_callV l g sg_X6_readRule sg_X6_fail 5), (53, s_iretz), (54, s_ldP 0), (55, s_getP 5 4), (58, s_callV l g sg_X6_readRule sg_X8_step 7), (61, s_ldP 0), (62, s_c (.inl 0)), (63, s_putI 5 6), (66, s_ldI 2), (67, s_c (.inl 2)), (68, s_icmp_ne 80), (71, s_ldP 0), (72, s_callV l g sg_X6_readRule sg_X6_takeWeekdays 5), (75, s_if_ne 80), (78, s_c (.inl 0)), (79, s_iretz), (80, s_ldP 0), (81, s_getP 5 4), (84, s_str 7), (86, s_callV l g sg_X6_readRule sg_X8_isWord 7), (89, s_if_ne 98), (92, s_ldP 0), (93, s_c (.inl 1)), (94, s_callV l g sg_X6_readRule sg_X6_fail 5), (97, s_iretz), (98, s_ldP 0), (99, s_getP 5 4), (102, s_callV l g sg_X6_readRule sg_X8_step 7), (105, s_ldP 0), (106, s_c (.inl 1)), (107, s_c (.inl 30)), (109, s_callV l g sg_X6_readRule sg_X6_takeNumber 5), (112, s_if_ne 117), (115, s_c (.inl 0)), (116, s_iretz), (117, s_ldP 0), (118, s_getP 5 8), (121, s_ldI 2), (122, s_ldI 1), (123, s_ldP 0), (124, s_getI 5 6), (127, s_ldP 0), (128, s_getI 5 5), (131, s_callV l g sg_X6_readRule sg_X2_setRule 1), (134, s_c (.inl 1)), (135, s_iretz)]
set_option maxRecDepth 100000 in
theorem ok_X6_readRule {l : Launch} {g : EG} : e_okp l g sg_X6_readRule "CalendarSync$Reader" (pg_X6_readRule l g) := fun p e R s m args below meth c ex M0 Q X =>
    e_each_cons (r_aload_n X (k := 0) (i := 0) rfl dX6_readRule_0 rfl)
    (e_each_cons (r_getP X (index := 25) (ci := 5) (k := 4) dX6_readRule_1 (by decide) (by decide) rfl w1_217 rfl)
    (e_each_cons (r_str X (k := 3) (is := 144) dX6_readRule_4 rfl ⟨⟨rfl, rfl⟩, by decide⟩ rfl)
    (e_each_cons (r_callV X rfl (τ := sg_X8_isWord) (index := 62) (ci := 7) dX6_readRule_6 (by decide) rfl w3_227 w3_228 w3_229 cs_X8_isWord rfl ⟨by decide, by decide⟩ rfl)
    (e_each_cons (r_if_ne X (off := 5) (t := 14) dX6_readRule_9 (by decide) rfl)
    (e_each_cons (r_iconst X (n := 1) (v := 1) dX6_readRule_12 (by decide) rfl)
    (e_each_cons (r_iretz X dX6_readRule_13 rfl)
    (e_each_cons (r_aload_n X (k := 0) (i := 0) rfl dX6_readRule_14 rfl)
    (e_each_cons (r_getP X (index := 25) (ci := 5) (k := 4) dX6_readRule_15 (by decide) (by decide) rfl w1_217 rfl)
    (e_each_cons (r_callV X rfl (τ := sg_X8_step) (index := 102) (ci := 7) dX6_readRule_18 (by decide) rfl w4_1 w3_214 w3_215 cs_X8_step rfl ⟨by decide, by decide⟩ rfl)
    (e_each_cons (r_aload_n X (k := 0) (i := 0) rfl dX6_readRule_21 rfl)
    (e_each_cons (r_iconst X (n := 1) (v := 1) dX6_readRule_22 (by decide) rfl)
    (e_each_cons (r_bipush X (n := 9) (v := 9) dX6_readRule_23 (by decide) rfl)
    (e_each_cons (r_callV X rfl (τ := sg_X6_takeNumber) (index := 119) (ci := 5) dX6_readRule_25 (by decide) rfl w4_2 w4_4 ws_7 cs_X6_takeNumber rfl ⟨by decide, by decide⟩ rfl)
    (e_each_cons (r_if_ne X (off := 5) (t := 33) dX6_readRule_28 (by decide) rfl)
    (e_each_cons (r_iconst X (n := 0) (v := 0) dX6_readRule_31 (by decide) rfl)
    (e_each_cons (r_iretz X dX6_readRule_32 rfl)
    (e_each_cons (r_aload_n X (k := 0) (i := 0) rfl dX6_readRule_33 rfl)
    (e_each_cons (r_getI X (index := 112) (ci := 5) (k := 5) dX6_readRule_34 (by decide) (by decide) rfl w1_219 rfl)
    (e_each_cons (r_istore_n X (k := 1) (i := 1) rfl dX6_readRule_37 (by decide) rfl)
    (e_each_cons (r_aload_n X (k := 0) (i := 0) rfl dX6_readRule_38 rfl)
    (e_each_cons (r_callV X rfl (τ := sg_X6_unitKind) (index := 146) (ci := 5) dX6_readRule_39 (by decide) rfl w4_47 w4_49 ws_16 cs_X6_unitKind rfl ⟨by decide, by decide⟩ rfl)
    (e_each_cons (r_istore_n X (k := 2) (i := 2) rfl dX6_readRule_42 (by decide) rfl)
    (e_each_cons (r_iload_n X (k := 2) (i := 2) rfl dX6_readRule_43 rfl)
    (e_each_cons (r_iconst X (n := (-1)) (v := (-1)) dX6_readRule_44 (by decide) rfl)
    (e_each_cons (r_icmp_ne X (off := 9) (t := 54) dX6_readRule_45 (by decide) rfl)
    (e_each_cons (r_aload_n X (k := 0) (i := 0) rfl dX6_readRule_48 rfl)
    (e_each_cons (r_iconst X (n := 1) (v := 1) dX6_readRule_49 (by decide) rfl)
    (e_each_cons (r_callV X rfl (τ := sg_X6_fail) (index := 86) (ci := 5) dX6_readRule_50 (by decide) rfl w3_237 w3_239 ws_6 cs_X6_fail rfl ⟨by decide, by decide⟩ rfl)
    (e_each_cons (r_iretz X dX6_readRule_53 rfl)
    (e_each_cons (r_aload_n X (k := 0) (i := 0) rfl dX6_readRule_54 rfl)
    (e_each_cons (r_getP X (index := 25) (ci := 5) (k := 4) dX6_readRule_55 (by decide) (by decide) rfl w1_217 rfl)
    (e_each_cons (r_callV X rfl (τ := sg_X8_step) (index := 102) (ci := 7) dX6_readRule_58 (by decide) rfl w4_1 w3_214 w3_215 cs_X8_step rfl ⟨by decide, by decide⟩ rfl)
    (e_each_cons (r_aload_n X (k := 0) (i := 0) rfl dX6_readRule_61 rfl)
    (e_each_cons (r_iconst X (n := 0) (v := 0) dX6_readRule_62 (by decide) rfl)
    (e_each_cons (r_putI X (index := 150) (ci := 5) (k := 6) dX6_readRule_63 (by decide) (by decide) rfl rfl w1_220 rfl)
    (e_each_cons (r_iload_n X (k := 2) (i := 2) rfl dX6_readRule_66 rfl)
    (e_each_cons (r_iconst X (n := 2) (v := 2) dX6_readRule_67 (by decide) rfl)
    (e_each_cons (r_icmp_ne X (off := 12) (t := 80) dX6_readRule_68 (by decide) rfl)
    (e_each_cons (r_aload_n X (k := 0) (i := 0) rfl dX6_readRule_71 rfl)
    (e_each_cons (r_callV X rfl (τ := sg_X6_takeWeekdays) (index := 153) (ci := 5) dX6_readRule_72 (by decide) rfl w4_54 w4_56 ws_17 cs_X6_takeWeekdays rfl ⟨by decide, by decide⟩ rfl)
    (e_each_cons (r_if_ne X (off := 5) (t := 80) dX6_readRule_75 (by decide) rfl)
    (e_each_cons (r_iconst X (n := 0) (v := 0) dX6_readRule_78 (by decide) rfl)
    (e_each_cons (r_iretz X dX6_readRule_79 rfl)
    (e_each_cons (r_aload_n X (k := 0) (i := 0) rfl dX6_readRule_80 rfl)
    (e_each_cons (r_getP X (index := 25) (ci := 5) (k := 4) dX6_readRule_81 (by decide) (by decide) rfl w1_217 rfl)
    (e_each_cons (r_str X (k := 7) (is := 156) dX6_readRule_84 rfl ⟨⟨rfl, rfl⟩, by decide⟩ rfl)
    (e_each_cons (r_callV X rfl (τ := sg_X8_isWord) (index := 62) (ci := 7) dX6_readRule_86 (by decide) rfl w3_227 w3_228 w3_229 cs_X8_isWord rfl ⟨by decide, by decide⟩ rfl)
    (e_each_cons (r_if_ne X (off := 9) (t := 98) dX6_readRule_89 (by decide) rfl)
    (e_each_cons (r_aload_n X (k := 0) (i := 0) rfl dX6_readRule_92 rfl)
    (e_each_cons (r_iconst X (n := 1) (v := 1) dX6_readRule_93 (by decide) rfl)
    (e_each_cons (r_callV X rfl (τ := sg_X6_fail) (index := 86) (ci := 5) dX6_readRule_94 (by decide) rfl w3_237 w3_239 ws_6 cs_X6_fail rfl ⟨by decide, by decide⟩ rfl)
    (e_each_cons (r_iretz X dX6_readRule_97 rfl)
    (e_each_cons (r_aload_n X (k := 0) (i := 0) rfl dX6_readRule_98 rfl)
    (e_each_cons (r_getP X (index := 25) (ci := 5) (k := 4) dX6_readRule_99 (by decide) (by decide) rfl w1_217 rfl)
    (e_each_cons (r_callV X rfl (τ := sg_X8_step) (index := 102) (ci := 7) dX6_readRule_102 (by decide) rfl w4_1 w3_214 w3_215 cs_X8_step rfl ⟨by decide, by decide⟩ rfl)
    (e_each_cons (r_aload_n X (k := 0) (i := 0) rfl dX6_readRule_105 rfl)
    (e_each_cons (r_iconst X (n := 1) (v := 1) dX6_readRule_106 (by decide) rfl)
    (e_each_cons (r_bipush X (n := 30) (v := 30) dX6_readRule_107 (by decide) rfl)
    (e_each_cons (r_callV X rfl (τ := sg_X6_takeNumber) (index := 119) (ci := 5) dX6_readRule_109 (by decide) rfl w4_2 w4_4 ws_7 cs_X6_takeNumber rfl ⟨by decide, by decide⟩ rfl)
    (e_each_cons (r_if_ne X (off := 5) (t := 117) dX6_readRule_112 (by decide) rfl)
    (e_each_cons (r_iconst X (n := 0) (v := 0) dX6_readRule_115 (by decide) rfl)
    (e_each_cons (r_iretz X dX6_readRule_116 rfl)
    (e_each_cons (r_aload_n X (k := 0) (i := 0) rfl dX6_readRule_117 rfl)
    (e_each_cons (r_getP X (index := 41) (ci := 5) (k := 8) dX6_readRule_118 (by decide) (by decide) rfl w1_222 rfl)
    (e_each_cons (r_iload_n X (k := 2) (i := 2) rfl dX6_readRule_121 rfl)
    (e_each_cons (r_iload_n X (k := 1) (i := 1) rfl dX6_readRule_122 rfl)
    (e_each_cons (r_aload_n X (k := 0) (i := 0) rfl dX6_readRule_123 rfl)
    (e_each_cons (r_getI X (index := 150) (ci := 5) (k := 6) dX6_readRule_124 (by decide) (by decide) rfl w1_220 rfl)
    (e_each_cons (r_aload_n X (k := 0) (i := 0) rfl dX6_readRule_127 rfl)
    (e_each_cons (r_getI X (index := 112) (ci := 5) (k := 5) dX6_readRule_128 (by decide) (by decide) rfl w1_219 rfl)
    (e_each_cons (r_callV X rfl (τ := sg_X2_setRule) (index := 158) (ci := 1) dX6_readRule_131 (by decide) rfl w4_65 w4_66 w4_67 cs_X2_setRule rfl ⟨by decide, by decide⟩ rfl)
    (e_each_cons (r_iconst X (n := 1) (v := 1) dX6_readRule_134 (by decide) rfl)
    (e_each_cons (r_iretz X dX6_readRule_135 rfl)
    (e_each_nil))))))))))))))))))))))))))))))))))))))))))))))))))))))))))))))))))))))))))
theorem dX6_readNot_0 : decode cX6_readNot 0 = .ok (.aload_n 0, 1) := by decide +kernel
theorem dX6_readNot_1 : decode cX6_readNot 1 = .ok (.iconst 0, 1) := by decide +kernel
theorem dX6_readNot_2 : decode cX6_readNot 2 = .ok (.aload_n 0, 1) := by decide +kernel
theorem dX6_readNot_3 : decode cX6_readNot 3 = .ok (.getfield 41, 3) := by decide +kernel
theorem dX6_readNot_6 : decode cX6_readNot 6 = .ok (.getfield 183, 3) := by decide +kernel
theorem dX6_readNot_9 : decode cX6_readNot 9 = .ok (.iconst 1, 1) := by decide +kernel
theorem dX6_readNot_10 : decode cX6_readNot 10 = .ok (.isub, 1) := by decide +kernel
theorem dX6_readNot_11 : decode cX6_readNot 11 = .ok (.invokevirtual 105, 3) := by decide +kernel
theorem dX6_readNot_14 : decode cX6_readNot 14 = .ok (.ifCond .ne 5, 3) := by decide +kernel
theorem dX6_readNot_17 : decode cX6_readNot 17 = .ok (.iconst 0, 1) := by decide +kernel
theorem dX6_readNot_18 : decode cX6_readNot 18 = .ok (.ireturn, 1) := by decide +kernel
theorem dX6_readNot_19 : decode cX6_readNot 19 = .ok (.aload_n 0, 1) := by decide +kernel
theorem dX6_readNot_20 : decode cX6_readNot 20 = .ok (.getfield 41, 3) := by decide +kernel
theorem dX6_readNot_23 : decode cX6_readNot 23 = .ok (.getfield 186, 3) := by decide +kernel
theorem dX6_readNot_26 : decode cX6_readNot 26 = .ok (.aload_n 0, 1) := by decide +kernel
theorem dX6_readNot_27 : decode cX6_readNot 27 = .ok (.getfield 112, 3) := by decide +kernel
theorem dX6_readNot_30 : decode cX6_readNot 30 = .ok (.invokestatic 170, 3) := by decide +kernel
theorem dX6_readNot_33 : decode cX6_readNot 33 = .ok (.ifCond .eq 9, 3) := by decide +kernel
theorem dX6_readNot_36 : decode cX6_readNot 36 = .ok (.aload_n 0, 1) := by decide +kernel
theorem dX6_readNot_37 : decode cX6_readNot 37 = .ok (.iconst 3, 1) := by decide +kernel
theorem dX6_readNot_38 : decode cX6_readNot 38 = .ok (.invokevirtual 86, 3) := by decide +kernel
theorem dX6_readNot_41 : decode cX6_readNot 41 = .ok (.ireturn, 1) := by decide +kernel
theorem dX6_readNot_42 : decode cX6_readNot 42 = .ok (.aload_n 0, 1) := by decide +kernel
theorem dX6_readNot_43 : decode cX6_readNot 43 = .ok (.getfield 41, 3) := by decide +kernel
theorem dX6_readNot_46 : decode cX6_readNot 46 = .ok (.dup, 1) := by decide +kernel
theorem dX6_readNot_47 : decode cX6_readNot 47 = .ok (.getfield 186, 3) := by decide +kernel
theorem dX6_readNot_50 : decode cX6_readNot 50 = .ok (.iconst 1, 1) := by decide +kernel
theorem dX6_readNot_51 : decode cX6_readNot 51 = .ok (.aload_n 0, 1) := by decide +kernel
theorem dX6_readNot_52 : decode cX6_readNot 52 = .ok (.getfield 112, 3) := by decide +kernel
theorem dX6_readNot_55 : decode cX6_readNot 55 = .ok (.ishl, 1) := by decide +kernel
theorem dX6_readNot_56 : decode cX6_readNot 56 = .ok (.ior, 1) := by decide +kernel
theorem dX6_readNot_57 : decode cX6_readNot 57 = .ok (.putfield 186, 3) := by decide +kernel
theorem dX6_readNot_60 : decode cX6_readNot 60 = .ok (.aload_n 0, 1) := by decide +kernel
theorem dX6_readNot_61 : decode cX6_readNot 61 = .ok (.getfield 25, 3) := by decide +kernel
theorem dX6_readNot_64 : decode cX6_readNot 64 = .ok (.invokevirtual 102, 3) := by decide +kernel
theorem dX6_readNot_67 : decode cX6_readNot 67 = .ok (.iconst 1, 1) := by decide +kernel
theorem dX6_readNot_68 : decode cX6_readNot 68 = .ok (.ireturn, 1) := by decide +kernel
def pg_X6_readNot (l : Launch) (g : EG) : List (Nat × ES) := [(0, s_ldP 0), (1, s_c (.inl 0)), (2, s_ldP 0), (3, s_getP 5 8), (6, s_getI 1 10), (9, s_c (.inl 1)), (10, s_ii (fun x y => x - y)), (11, s_callV l g sg_X6_readNot sg_X6_seeNumber 5), (14, s_if_ne 19), (17, s_c (.inl 0)), (18, s_iretz), (19, s_ldP 0), (20, s_getP 5 8), (23, s_getI 1 11), (26, s_ldP 0), (27, s_getI 5 5), (30, s_callS l g sg_X6_readNot sg_X10_hasBit), (33, s_if_eq 42), (36, s_ldP 0), (37, s_c (.inl 3)), (38, s_callV l g sg_X6_readNot sg_X6_fail 5), (41, s_iretz), (42, s_ldP 0), (43, s_getP 5 8), (46, s_dup), (47, s_getI 1 11), (50, s_c (.inl 1)), (51, s_ldP 0), (52, s_getI 5 5), (55, s_ii (fun x y => x <<< (y &&& 31))), (56, s_ii (fun x y => x ||| y)), (57, s_putI 1 11), (60, s_ldP 0), (61, s_getP 5 4), (64, s_callV l g sg_X6_readNot sg_X8_step 7), (67, s_c (.inl 1)), (68, s_iretz)]
set_option maxRecDepth 100000 in
theorem ok_X6_readNot {l : Launch} {g : EG} : e_okp l g sg_X6_readNot "CalendarSync$Reader" (pg_X6_readNot l g) := fun p e R s m args below meth c ex M0 Q X =>
    e_each_cons (r_aload_n X (k := 0) (i := 0) rfl dX6_readNot_0 rfl)
    (e_each_cons (r_iconst X (n := 0) (v := 0) dX6_readNot_1 (by decide) rfl)
    (e_each_cons (r_aload_n X (k := 0) (i := 0) rfl dX6_readNot_2 rfl)
    (e_each_cons (r_getP X (index := 41) (ci := 5) (k := 8) dX6_readNot_3 (by decide) (by decide) rfl w1_222 rfl)
    (e_each_cons (r_getI X (index := 183) (ci := 1) (k := 10) dX6_readNot_6 (by decide) (by decide) rfl w1_112 rfl)
    (e_each_cons (r_iconst X (n := 1) (v := 1) dX6_readNot_9 (by decide) rfl)
    (e_each_cons (r_isub X dX6_readNot_10 rfl)
    (e_each_cons (r_callV X rfl (τ := sg_X6_seeNumber) (index := 105) (ci := 5) dX6_readNot_11 (by decide) rfl w4_6 w4_8 ws_8 cs_X6_seeNumber rfl ⟨by decide, by decide⟩ rfl)
    (e_each_cons (r_if_ne X (off := 5) (t := 19) dX6_readNot_14 (by decide) rfl)
    (e_each_cons (r_iconst X (n := 0) (v := 0) dX6_readNot_17 (by decide) rfl)
    (e_each_cons (r_iretz X dX6_readNot_18 rfl)
    (e_each_cons (r_aload_n X (k := 0) (i := 0) rfl dX6_readNot_19 rfl)
    (e_each_cons (r_getP X (index := 41) (ci := 5) (k := 8) dX6_readNot_20 (by decide) (by decide) rfl w1_222 rfl)
    (e_each_cons (r_getI X (index := 186) (ci := 1) (k := 11) dX6_readNot_23 (by decide) (by decide) rfl w1_115 rfl)
    (e_each_cons (r_aload_n X (k := 0) (i := 0) rfl dX6_readNot_26 rfl)
    (e_each_cons (r_getI X (index := 112) (ci := 5) (k := 5) dX6_readNot_27 (by decide) (by decide) rfl w1_219 rfl)
    (e_each_cons (r_callSN X rfl (τ := sg_X10_hasBit) (index := 170) (host := "CalendarSync") dX6_readNot_30 wn4_63 w2_224 cs_X10_hasBit rfl ⟨by decide, by decide⟩ rfl)
    (e_each_cons (r_if_eq X (off := 9) (t := 42) dX6_readNot_33 (by decide) rfl)
    (e_each_cons (r_aload_n X (k := 0) (i := 0) rfl dX6_readNot_36 rfl)
    (e_each_cons (r_iconst X (n := 3) (v := 3) dX6_readNot_37 (by decide) rfl)
    (e_each_cons (r_callV X rfl (τ := sg_X6_fail) (index := 86) (ci := 5) dX6_readNot_38 (by decide) rfl w3_237 w3_239 ws_6 cs_X6_fail rfl ⟨by decide, by decide⟩ rfl)
    (e_each_cons (r_iretz X dX6_readNot_41 rfl)
    (e_each_cons (r_aload_n X (k := 0) (i := 0) rfl dX6_readNot_42 rfl)
    (e_each_cons (r_getP X (index := 41) (ci := 5) (k := 8) dX6_readNot_43 (by decide) (by decide) rfl w1_222 rfl)
    (e_each_cons (r_dup X dX6_readNot_46 rfl)
    (e_each_cons (r_getI X (index := 186) (ci := 1) (k := 11) dX6_readNot_47 (by decide) (by decide) rfl w1_115 rfl)
    (e_each_cons (r_iconst X (n := 1) (v := 1) dX6_readNot_50 (by decide) rfl)
    (e_each_cons (r_aload_n X (k := 0) (i := 0) rfl dX6_readNot_51 rfl)
    (e_each_cons (r_getI X (index := 112) (ci := 5) (k := 5) dX6_readNot_52 (by decide) (by decide) rfl w1_219 rfl)
    (e_each_cons (r_ishl X dX6_readNot_55 rfl)
    (e_each_cons (r_ior X dX6_readNot_56 rfl)
    (e_each_cons (r_putI X (index := 186) (ci := 1) (k := 11) dX6_readNot_57 (by decide) (by decide) rfl rfl w1_115 rfl)
    (e_each_cons (r_aload_n X (k := 0) (i := 0) rfl dX6_readNot_60 rfl)
    (e_each_cons (r_getP X (index := 25) (ci := 5) (k := 4) dX6_readNot_61 (by decide) (by decide) rfl w1_217 rfl)
    (e_each_cons (r_callV X rfl (τ := sg_X8_step) (index := 102) (ci := 7) dX6_readNot_64 (by decide) rfl w4_1 w3_214 w3_215 cs_X8_step rfl ⟨by decide, by decide⟩ rfl)
    (e_each_cons (r_iconst X (n := 1) (v := 1) dX6_readNot_67 (by decide) rfl)
    (e_each_cons (r_iretz X dX6_readNot_68 rfl)
    (e_each_nil)))))))))))))))))))))))))))))))))))))
theorem dX6_readMove_0 : decode cX6_readMove 0 = .ok (.aload_n 0, 1) := by decide +kernel
theorem dX6_readMove_1 : decode cX6_readMove 1 = .ok (.iconst 0, 1) := by decide +kernel
theorem dX6_readMove_2 : decode cX6_readMove 2 = .ok (.aload_n 0, 1) := by decide +kernel
theorem dX6_readMove_3 : decode cX6_readMove 3 = .ok (.getfield 41, 3) := by decide +kernel
theorem dX6_readMove_6 : decode cX6_readMove 6 = .ok (.getfield 183, 3) := by decide +kernel
theorem dX6_readMove_9 : decode cX6_readMove 9 = .ok (.iconst 1, 1) := by decide +kernel
theorem dX6_readMove_10 : decode cX6_readMove 10 = .ok (.isub, 1) := by decide +kernel
theorem dX6_readMove_11 : decode cX6_readMove 11 = .ok (.invokevirtual 119, 3) := by decide +kernel
theorem dX6_readMove_14 : decode cX6_readMove 14 = .ok (.ifCond .ne 5, 3) := by decide +kernel
theorem dX6_readMove_17 : decode cX6_readMove 17 = .ok (.iconst 0, 1) := by decide +kernel
theorem dX6_readMove_18 : decode cX6_readMove 18 = .ok (.ireturn, 1) := by decide +kernel
theorem dX6_readMove_19 : decode cX6_readMove 19 = .ok (.aload_n 0, 1) := by decide +kernel
theorem dX6_readMove_20 : decode cX6_readMove 20 = .ok (.getfield 112, 3) := by decide +kernel
theorem dX6_readMove_23 : decode cX6_readMove 23 = .ok (.istore_n 1, 1) := by decide +kernel
theorem dX6_readMove_24 : decode cX6_readMove 24 = .ok (.aload_n 0, 1) := by decide +kernel
theorem dX6_readMove_25 : decode cX6_readMove 25 = .ok (.iconst 0, 1) := by decide +kernel
theorem dX6_readMove_26 : decode cX6_readMove 26 = .ok (.sipush 1094, 3) := by decide +kernel
theorem dX6_readMove_29 : decode cX6_readMove 29 = .ok (.invokevirtual 119, 3) := by decide +kernel
theorem dX6_readMove_32 : decode cX6_readMove 32 = .ok (.ifCond .ne 5, 3) := by decide +kernel
theorem dX6_readMove_35 : decode cX6_readMove 35 = .ok (.iconst 0, 1) := by decide +kernel
theorem dX6_readMove_36 : decode cX6_readMove 36 = .ok (.ireturn, 1) := by decide +kernel
theorem dX6_readMove_37 : decode cX6_readMove 37 = .ok (.aload_n 0, 1) := by decide +kernel
theorem dX6_readMove_38 : decode cX6_readMove 38 = .ok (.getfield 112, 3) := by decide +kernel
theorem dX6_readMove_41 : decode cX6_readMove 41 = .ok (.istore_n 2, 1) := by decide +kernel
theorem dX6_readMove_42 : decode cX6_readMove 42 = .ok (.aload_n 0, 1) := by decide +kernel
theorem dX6_readMove_43 : decode cX6_readMove 43 = .ok (.iconst 0, 1) := by decide +kernel
theorem dX6_readMove_44 : decode cX6_readMove 44 = .ok (.sipush 1439, 3) := by decide +kernel
theorem dX6_readMove_47 : decode cX6_readMove 47 = .ok (.invokevirtual 119, 3) := by decide +kernel
theorem dX6_readMove_50 : decode cX6_readMove 50 = .ok (.ifCond .ne 5, 3) := by decide +kernel
theorem dX6_readMove_53 : decode cX6_readMove 53 = .ok (.iconst 0, 1) := by decide +kernel
theorem dX6_readMove_54 : decode cX6_readMove 54 = .ok (.ireturn, 1) := by decide +kernel
theorem dX6_readMove_55 : decode cX6_readMove 55 = .ok (.aload_n 0, 1) := by decide +kernel
theorem dX6_readMove_56 : decode cX6_readMove 56 = .ok (.getfield 41, 3) := by decide +kernel
theorem dX6_readMove_59 : decode cX6_readMove 59 = .ok (.iload_n 1, 1) := by decide +kernel
theorem dX6_readMove_60 : decode cX6_readMove 60 = .ok (.iload_n 2, 1) := by decide +kernel
theorem dX6_readMove_61 : decode cX6_readMove 61 = .ok (.aload_n 0, 1) := by decide +kernel
theorem dX6_readMove_62 : decode cX6_readMove 62 = .ok (.getfield 112, 3) := by decide +kernel
theorem dX6_readMove_65 : decode cX6_readMove 65 = .ok (.invokevirtual 189, 3) := by decide +kernel
theorem dX6_readMove_68 : decode cX6_readMove 68 = .ok (.iconst 1, 1) := by decide +kernel
theorem dX6_readMove_69 : decode cX6_readMove 69 = .ok (.ireturn, 1) := by decide +kernel
def pg_X6_readMove (l : Launch) (g : EG) : List (Nat × ES) := [(0, s_ldP 0), (1, s_c (.inl 0)), (2, s_ldP 0), (3, s_getP 5 8), (6, s_getI 1 10), (9, s_c (.inl 1)), (10, s_ii (fun x y => x - y)), (11, s_callV l g sg_X6_readMove sg_X6_takeNumber 5), (14, s_if_ne 19), (17, s_c (.inl 0)), (18, s_iretz), (19, s_ldP 0), (20, s_getI 5 5), (23, s_stI 1), (24, s_ldP 0), (25, s_c (.inl 0)), (26, s_c (.inl 1094)), (29, s_callV l g sg_X6_readMove sg_X6_takeNumber 5), (32, s_if_ne 37), (35, s_c (.inl 0)), (36, s_iretz), (37, s_ldP 0), (38, s_getI 5 5), (41, s_stI 2), (42, s_ldP 0), (43, s_c (.inl 0)), (44, s_c (.inl 1439)), (47, s_callV l g sg_X6_readMove sg_X6_takeNumber 5), (50, s_if_ne 55), (53, s_c (.inl 0)), (54, s_iretz), (55, s_ldP 0), (56, s_getP 5 8), (59, s_ldI 1), (60, s_ldI 2), (61, s_ldP 0), (62, s_getI 5 5), (65, s_callV l g sg_X6_readMove sg_X2_moveTo 1), (68, s_c (.inl 1)), (69, s_iretz)]
set_option maxRecDepth 100000 in
theorem ok_X6_readMove {l : Launch} {g : EG} : e_okp l g sg_X6_readMove "CalendarSync$Reader" (pg_X6_readMove l g) := fun p e R s m args below meth c ex M0 Q X =>
    e_each_cons (r_aload_n X (k := 0) (i := 0) rfl dX6_readMove_0 rfl)
    (e_each_cons (r_iconst X (n := 0) (v := 0) dX6_readMove_1 (by decide) rfl)
    (e_each_cons (r_aload_n X (k := 0) (i := 0) rfl dX6_readMove_2 rfl)
    (e_each_cons (r_getP X (index := 41) (ci := 5) (k := 8) dX6_readMove_3 (by decide) (by decide) rfl w1_222 rfl)
    (e_each_cons (r_getI X (index := 183) (ci := 1) (k := 10) dX6_readMove_6 (by decide) (by decide) rfl w1_112 rfl)
    (e_each_cons (r_iconst X (n := 1) (v := 1) dX6_readMove_9 (by decide) rfl)
    (e_each_cons (r_isub X dX6_readMove_10 rfl)
    (e_each_cons (r_callV X rfl (τ := sg_X6_takeNumber) (index := 119) (ci := 5) dX6_readMove_11 (by decide) rfl w4_2 w4_4 ws_7 cs_X6_takeNumber rfl ⟨by decide, by decide⟩ rfl)
    (e_each_cons (r_if_ne X (off := 5) (t := 19) dX6_readMove_14 (by decide) rfl)
    (e_each_cons (r_iconst X (n := 0) (v := 0) dX6_readMove_17 (by decide) rfl)
    (e_each_cons (r_iretz X dX6_readMove_18 rfl)
    (e_each_cons (r_aload_n X (k := 0) (i := 0) rfl dX6_readMove_19 rfl)
    (e_each_cons (r_getI X (index := 112) (ci := 5) (k := 5) dX6_readMove_20 (by decide) (by decide) rfl w1_219 rfl)
    (e_each_cons (r_istore_n X (k := 1) (i := 1) rfl dX6_readMove_23 (by decide) rfl)
    (e_each_cons (r_aload_n X (k := 0) (i := 0) rfl dX6_readMove_24 rfl)
    (e_each_cons (r_iconst X (n := 0) (v := 0) dX6_readMove_25 (by decide) rfl)
    (e_each_cons (r_sipush X (n := 1094) (v := 1094) dX6_readMove_26 (by decide) rfl)
    (e_each_cons (r_callV X rfl (τ := sg_X6_takeNumber) (index := 119) (ci := 5) dX6_readMove_29 (by decide) rfl w4_2 w4_4 ws_7 cs_X6_takeNumber rfl ⟨by decide, by decide⟩ rfl)
    (e_each_cons (r_if_ne X (off := 5) (t := 37) dX6_readMove_32 (by decide) rfl)
    (e_each_cons (r_iconst X (n := 0) (v := 0) dX6_readMove_35 (by decide) rfl)
    (e_each_cons (r_iretz X dX6_readMove_36 rfl)
    (e_each_cons (r_aload_n X (k := 0) (i := 0) rfl dX6_readMove_37 rfl)
    (e_each_cons (r_getI X (index := 112) (ci := 5) (k := 5) dX6_readMove_38 (by decide) (by decide) rfl w1_219 rfl)
    (e_each_cons (r_istore_n X (k := 2) (i := 2) rfl dX6_readMove_41 (by decide) rfl)
    (e_each_cons (r_aload_n X (k := 0) (i := 0) rfl dX6_readMove_42 rfl)
    (e_each_cons (r_iconst X (n := 0) (v := 0) dX6_readMove_43 (by decide) rfl)
    (e_each_cons (r_sipush X (n := 1439) (v := 1439) dX6_readMove_44 (by decide) rfl)
    (e_each_cons (r_callV X rfl (τ := sg_X6_takeNumber) (index := 119) (ci := 5) dX6_readMove_47 (by decide) rfl w4_2 w4_4 ws_7 cs_X6_takeNumber rfl ⟨by decide, by decide⟩ rfl)
    (e_each_cons (r_if_ne X (off := 5) (t := 55) dX6_readMove_50 (by decide) rfl)
    (e_each_cons (r_iconst X (n := 0) (v := 0) dX6_readMove_53 (by decide) rfl)
    (e_each_cons (r_iretz X dX6_readMove_54 rfl)
    (e_each_cons (r_aload_n X (k := 0) (i := 0) rfl dX6_readMove_55 rfl)
    (e_each_cons (r_getP X (index := 41) (ci := 5) (k := 8) dX6_readMove_56 (by decide) (by decide) rfl w1_222 rfl)
    (e_each_cons (r_iload_n X (k := 1) (i := 1) rfl dX6_readMove_59 rfl)
    (e_each_cons (r_iload_n X (k := 2) (i := 2) rfl dX6_readMove_60 rfl)
    (e_each_cons (r_aload_n X (k := 0) (i := 0) rfl dX6_readMove_61 rfl)
    (e_each_cons (r_getI X (index := 112) (ci := 5) (k := 5) dX6_readMove_62 (by decide) (by decide) rfl w1_219 rfl)
    (e_each_cons (r_callV X rfl (τ := sg_X2_moveTo) (index := 189) (ci := 1) dX6_readMove_65 (by decide) rfl w4_113 w4_114 w4_115 cs_X2_moveTo rfl ⟨by decide, by decide⟩ rfl)
    (e_each_cons (r_iconst X (n := 1) (v := 1) dX6_readMove_68 (by decide) rfl)
    (e_each_cons (r_iretz X dX6_readMove_69 rfl)
    (e_each_nil))))))))))))))))))))))))))))))))))))))))
theorem dX6_readExceptions_0 : decode cX6_readExceptions 0 = .ok (.iconst 0, 1) := by decide +kernel
theorem dX6_readExceptions_1 : decode cX6_readExceptions 1 = .ok (.istore_n 1, 1) := by decide +kernel
theorem dX6_readExceptions_2 : decode cX6_readExceptions 2 = .ok (.iload_n 1, 1) := by decide +kernel
theorem dX6_readExceptions_3 : decode cX6_readExceptions 3 = .ok (.sipush 801, 3) := by decide +kernel
theorem dX6_readExceptions_6 : decode cX6_readExceptions 6 = .ok (.if_icmp .ge 67, 3) := by decide +kernel
theorem dX6_readExceptions_9 : decode cX6_readExceptions 9 = .ok (.aload_n 0, 1) := by decide +kernel
theorem dX6_readExceptions_10 : decode cX6_readExceptions 10 = .ok (.getfield 25, 3) := by decide +kernel
theorem dX6_readExceptions_13 : decode cX6_readExceptions 13 = .ok (.ldc 173, 2) := by decide +kernel
theorem dX6_readExceptions_15 : decode cX6_readExceptions 15 = .ok (.invokevirtual 62, 3) := by decide +kernel
theorem dX6_readExceptions_18 : decode cX6_readExceptions 18 = .ok (.istore_n 2, 1) := by decide +kernel
theorem dX6_readExceptions_19 : decode cX6_readExceptions 19 = .ok (.iload_n 2, 1) := by decide +kernel
theorem dX6_readExceptions_20 : decode cX6_readExceptions 20 = .ok (.ifCond .ne 17, 3) := by decide +kernel
theorem dX6_readExceptions_23 : decode cX6_readExceptions 23 = .ok (.aload_n 0, 1) := by decide +kernel
theorem dX6_readExceptions_24 : decode cX6_readExceptions 24 = .ok (.getfield 25, 3) := by decide +kernel
theorem dX6_readExceptions_27 : decode cX6_readExceptions 27 = .ok (.ldc 175, 2) := by decide +kernel
theorem dX6_readExceptions_29 : decode cX6_readExceptions 29 = .ok (.invokevirtual 62, 3) := by decide +kernel
theorem dX6_readExceptions_32 : decode cX6_readExceptions 32 = .ok (.ifCond .ne 5, 3) := by decide +kernel
theorem dX6_readExceptions_35 : decode cX6_readExceptions 35 = .ok (.iconst 1, 1) := by decide +kernel
theorem dX6_readExceptions_36 : decode cX6_readExceptions 36 = .ok (.ireturn, 1) := by decide +kernel
theorem dX6_readExceptions_37 : decode cX6_readExceptions 37 = .ok (.aload_n 0, 1) := by decide +kernel
theorem dX6_readExceptions_38 : decode cX6_readExceptions 38 = .ok (.getfield 25, 3) := by decide +kernel
theorem dX6_readExceptions_41 : decode cX6_readExceptions 41 = .ok (.invokevirtual 102, 3) := by decide +kernel
theorem dX6_readExceptions_44 : decode cX6_readExceptions 44 = .ok (.iload_n 2, 1) := by decide +kernel
theorem dX6_readExceptions_45 : decode cX6_readExceptions 45 = .ok (.ifCond .eq 13, 3) := by decide +kernel
theorem dX6_readExceptions_48 : decode cX6_readExceptions 48 = .ok (.aload_n 0, 1) := by decide +kernel
theorem dX6_readExceptions_49 : decode cX6_readExceptions 49 = .ok (.invokevirtual 177, 3) := by decide +kernel
theorem dX6_readExceptions_52 : decode cX6_readExceptions 52 = .ok (.ifCond .eq 13, 3) := by decide +kernel
theorem dX6_readExceptions_55 : decode cX6_readExceptions 55 = .ok (.goto 12, 3) := by decide +kernel
theorem dX6_readExceptions_58 : decode cX6_readExceptions 58 = .ok (.aload_n 0, 1) := by decide +kernel
theorem dX6_readExceptions_59 : decode cX6_readExceptions 59 = .ok (.invokevirtual 180, 3) := by decide +kernel
theorem dX6_readExceptions_62 : decode cX6_readExceptions 62 = .ok (.ifCond .ne 5, 3) := by decide +kernel
theorem dX6_readExceptions_65 : decode cX6_readExceptions 65 = .ok (.iconst 0, 1) := by decide +kernel
theorem dX6_readExceptions_66 : decode cX6_readExceptions 66 = .ok (.ireturn, 1) := by decide +kernel
theorem dX6_readExceptions_67 : decode cX6_readExceptions 67 = .ok (.iinc 1 1, 3) := by decide +kernel
theorem dX6_readExceptions_70 : decode cX6_readExceptions 70 = .ok (.goto (-68), 3) := by decide +kernel
theorem dX6_readExceptions_73 : decode cX6_readExceptions 73 = .ok (.iconst 1, 1) := by decide +kernel
theorem dX6_readExceptions_74 : decode cX6_readExceptions 74 = .ok (.ireturn, 1) := by decide +kernel
def pg_X6_readExceptions (l : Launch) (g : EG) : List (Nat × ES) := [(0, s_c (.inl 0)), (1, s_stI 1), (2, s_ldI 1), (3, s_c (.inl 801)), (6, s_icmp_ge 73), (9, s_ldP 0), (10, s_getP 5 4), (13, s_str 8), (15, s_callV l g sg_X6_readExceptions sg_X8_isWord 7), (18, s_stI 2), (19, s_ldI 2), (20, s_if_ne 37), (23, s_ldP 0), (24, s_getP 5 4), (27, s_str 9), (29, s_callV l g sg_X6_readExceptions sg_X8_isWord 7), (32, s_if_ne 37), (35, s_c (.inl 1)), (36, s_iretz), (37, s_ldP 0), (38, s_getP 5 4), (41, s_callV l g sg_X6_readExceptions sg_X8_step 7), (44, s_ldI 2), (45, s_if_eq 58), (48, s_ldP 0), (49, s_callV l g sg_X6_readExceptions sg_X6_readNot 5), (52, s_if_eq 65), (55, s_goto 67), (58, s_ldP 0), (59, s_callV l g sg_X6_readExceptions sg_X6_readMove 5), (62, s_if_ne 67), (65, s_c (.inl 0)), (66, s_iretz), (67, s_iinc 1 1), (70, s_goto 2), (73, s_c (.inl 1)), (74, s_iretz)]
set_option maxRecDepth 100000 in
theorem ok_X6_readExceptions {l : Launch} {g : EG} : e_okp l g sg_X6_readExceptions "CalendarSync$Reader" (pg_X6_readExceptions l g) := fun p e R s m args below meth c ex M0 Q X =>
    e_each_cons (r_iconst X (n := 0) (v := 0) dX6_readExceptions_0 (by decide) rfl)
    (e_each_cons (r_istore_n X (k := 1) (i := 1) rfl dX6_readExceptions_1 (by decide) rfl)
    (e_each_cons (r_iload_n X (k := 1) (i := 1) rfl dX6_readExceptions_2 rfl)
    (e_each_cons (r_sipush X (n := 801) (v := 801) dX6_readExceptions_3 (by decide) rfl)
    (e_each_cons (r_icmp_ge X (off := 67) (t := 73) dX6_readExceptions_6 (by decide) rfl)
    (e_each_cons (r_aload_n X (k := 0) (i := 0) rfl dX6_readExceptions_9 rfl)
    (e_each_cons (r_getP X (index := 25) (ci := 5) (k := 4) dX6_readExceptions_10 (by decide) (by decide) rfl w1_217 rfl)
    (e_each_cons (r_str X (k := 8) (is := 173) dX6_readExceptions_13 rfl ⟨⟨rfl, rfl⟩, by decide⟩ rfl)
    (e_each_cons (r_callV X rfl (τ := sg_X8_isWord) (index := 62) (ci := 7) dX6_readExceptions_15 (by decide) rfl w3_227 w3_228 w3_229 cs_X8_isWord rfl ⟨by decide, by decide⟩ rfl)
    (e_each_cons (r_istore_n X (k := 2) (i := 2) rfl dX6_readExceptions_18 (by decide) rfl)
    (e_each_cons (r_iload_n X (k := 2) (i := 2) rfl dX6_readExceptions_19 rfl)
    (e_each_cons (r_if_ne X (off := 17) (t := 37) dX6_readExceptions_20 (by decide) rfl)
    (e_each_cons (r_aload_n X (k := 0) (i := 0) rfl dX6_readExceptions_23 rfl)
    (e_each_cons (r_getP X (index := 25) (ci := 5) (k := 4) dX6_readExceptions_24 (by decide) (by decide) rfl w1_217 rfl)
    (e_each_cons (r_str X (k := 9) (is := 175) dX6_readExceptions_27 rfl ⟨⟨rfl, rfl⟩, by decide⟩ rfl)
    (e_each_cons (r_callV X rfl (τ := sg_X8_isWord) (index := 62) (ci := 7) dX6_readExceptions_29 (by decide) rfl w3_227 w3_228 w3_229 cs_X8_isWord rfl ⟨by decide, by decide⟩ rfl)
    (e_each_cons (r_if_ne X (off := 5) (t := 37) dX6_readExceptions_32 (by decide) rfl)
    (e_each_cons (r_iconst X (n := 1) (v := 1) dX6_readExceptions_35 (by decide) rfl)
    (e_each_cons (r_iretz X dX6_readExceptions_36 rfl)
    (e_each_cons (r_aload_n X (k := 0) (i := 0) rfl dX6_readExceptions_37 rfl)
    (e_each_cons (r_getP X (index := 25) (ci := 5) (k := 4) dX6_readExceptions_38 (by decide) (by decide) rfl w1_217 rfl)
    (e_each_cons (r_callV X rfl (τ := sg_X8_step) (index := 102) (ci := 7) dX6_readExceptions_41 (by decide) rfl w4_1 w3_214 w3_215 cs_X8_step rfl ⟨by decide, by decide⟩ rfl)
    (e_each_cons (r_iload_n X (k := 2) (i := 2) rfl dX6_readExceptions_44 rfl)
    (e_each_cons (r_if_eq X (off := 13) (t := 58) dX6_readExceptions_45 (by decide) rfl)
    (e_each_cons (r_aload_n X (k := 0) (i := 0) rfl dX6_readExceptions_48 rfl)
    (e_each_cons (r_callV X rfl (τ := sg_X6_readNot) (index := 177) (ci := 5) dX6_readExceptions_49 (by decide) rfl w4_105 w4_107 ws_22 cs_X6_readNot rfl ⟨by decide, by decide⟩ rfl)
    (e_each_cons (r_if_eq X (off := 13) (t := 65) dX6_readExceptions_52 (by decide) rfl)
    (e_each_cons (r_goto X (off := 12) (t := 67) dX6_readExceptions_55 (by decide))
    (e_each_cons (r_aload_n X (k := 0) (i := 0) rfl dX6_readExceptions_58 rfl)
    (e_each_cons (r_callV X rfl (τ := sg_X6_readMove) (index := 180) (ci := 5) dX6_readExceptions_59 (by decide) rfl w4_109 w4_111 ws_23 cs_X6_readMove rfl ⟨by decide, by decide⟩ rfl)
    (e_each_cons (r_if_ne X (off := 5) (t := 67) dX6_readExceptions_62 (by decide) rfl)
    (e_each_cons (r_iconst X (n := 0) (v := 0) dX6_readExceptions_65 (by decide) rfl)
    (e_each_cons (r_iretz X dX6_readExceptions_66 rfl)
    (e_each_cons (r_iinc X (i := 1) (n := 1) (d := 1) dX6_readExceptions_67 (by decide) (by decide) rfl)
    (e_each_cons (r_goto X (off := (-68)) (t := 2) dX6_readExceptions_70 (by decide))
    (e_each_cons (r_iconst X (n := 1) (v := 1) dX6_readExceptions_73 (by decide) rfl)
    (e_each_cons (r_iretz X dX6_readExceptions_74 rfl)
    (e_each_nil)))))))))))))))))))))))))))))))))))))
theorem dX6_readCalendar_0 : decode cX6_readCalendar 0 = .ok (.aload_n 0, 1) := by decide +kernel
theorem dX6_readCalendar_1 : decode cX6_readCalendar 1 = .ok (.getfield 12, 3) := by decide +kernel
theorem dX6_readCalendar_4 : decode cX6_readCalendar 4 = .ok (.invokevirtual 45, 3) := by decide +kernel
theorem dX6_readCalendar_7 : decode cX6_readCalendar 7 = .ok (.aload_n 0, 1) := by decide +kernel
theorem dX6_readCalendar_8 : decode cX6_readCalendar 8 = .ok (.iconst 0, 1) := by decide +kernel
theorem dX6_readCalendar_9 : decode cX6_readCalendar 9 = .ok (.putfield 48, 3) := by decide +kernel
theorem dX6_readCalendar_12 : decode cX6_readCalendar 12 = .ok (.aload_n 0, 1) := by decide +kernel
theorem dX6_readCalendar_13 : decode cX6_readCalendar 13 = .ok (.iconst 0, 1) := by decide +kernel
theorem dX6_readCalendar_14 : decode cX6_readCalendar 14 = .ok (.putfield 51, 3) := by decide +kernel
theorem dX6_readCalendar_17 : decode cX6_readCalendar 17 = .ok (.aload_n 0, 1) := by decide +kernel
theorem dX6_readCalendar_18 : decode cX6_readCalendar 18 = .ok (.iconst (-1), 1) := by decide +kernel
theorem dX6_readCalendar_19 : decode cX6_readCalendar 19 = .ok (.putfield 18, 3) := by decide +kernel
theorem dX6_readCalendar_22 : decode cX6_readCalendar 22 = .ok (.aload_n 0, 1) := by decide +kernel
theorem dX6_readCalendar_23 : decode cX6_readCalendar 23 = .ok (.getfield 25, 3) := by decide +kernel
theorem dX6_readCalendar_26 : decode cX6_readCalendar 26 = .ok (.iload_n 1, 1) := by decide +kernel
theorem dX6_readCalendar_27 : decode cX6_readCalendar 27 = .ok (.invokevirtual 54, 3) := by decide +kernel
theorem dX6_readCalendar_30 : decode cX6_readCalendar 30 = .ok (.iconst 1, 1) := by decide +kernel
theorem dX6_readCalendar_31 : decode cX6_readCalendar 31 = .ok (.istore_n 2, 1) := by decide +kernel
theorem dX6_readCalendar_32 : decode cX6_readCalendar 32 = .ok (.iconst 0, 1) := by decide +kernel
theorem dX6_readCalendar_33 : decode cX6_readCalendar 33 = .ok (.istore_n 3, 1) := by decide +kernel
theorem dX6_readCalendar_34 : decode cX6_readCalendar 34 = .ok (.iload_n 3, 1) := by decide +kernel
theorem dX6_readCalendar_35 : decode cX6_readCalendar 35 = .ok (.sipush 801, 3) := by decide +kernel
theorem dX6_readCalendar_38 : decode cX6_readCalendar 38 = .ok (.if_icmp .ge 120, 3) := by decide +kernel
theorem dX6_readCalendar_41 : decode cX6_readCalendar 41 = .ok (.iload_n 2, 1) := by decide +kernel
theorem dX6_readCalendar_42 : decode cX6_readCalendar 42 = .ok (.ifCond .eq 116, 3) := by decide +kernel
theorem dX6_readCalendar_45 : decode cX6_readCalendar 45 = .ok (.aload_n 0, 1) := by decide +kernel
theorem dX6_readCalendar_46 : decode cX6_readCalendar 46 = .ok (.getfield 25, 3) := by decide +kernel
theorem dX6_readCalendar_49 : decode cX6_readCalendar 49 = .ok (.getfield 58, 3) := by decide +kernel
theorem dX6_readCalendar_52 : decode cX6_readCalendar 52 = .ok (.ifCond .eq 106, 3) := by decide +kernel
theorem dX6_readCalendar_55 : decode cX6_readCalendar 55 = .ok (.aload_n 0, 1) := by decide +kernel
theorem dX6_readCalendar_56 : decode cX6_readCalendar 56 = .ok (.getfield 25, 3) := by decide +kernel
theorem dX6_readCalendar_59 : decode cX6_readCalendar 59 = .ok (.ldc 61, 2) := by decide +kernel
theorem dX6_readCalendar_61 : decode cX6_readCalendar 61 = .ok (.invokevirtual 62, 3) := by decide +kernel
theorem dX6_readCalendar_64 : decode cX6_readCalendar 64 = .ok (.ifCond .eq 33, 3) := by decide +kernel
theorem dX6_readCalendar_67 : decode cX6_readCalendar 67 = .ok (.aload_n 0, 1) := by decide +kernel
theorem dX6_readCalendar_68 : decode cX6_readCalendar 68 = .ok (.invokevirtual 66, 3) := by decide +kernel
theorem dX6_readCalendar_71 : decode cX6_readCalendar 71 = .ok (.ifCond .eq 21, 3) := by decide +kernel
theorem dX6_readCalendar_74 : decode cX6_readCalendar 74 = .ok (.aload_n 0, 1) := by decide +kernel
theorem dX6_readCalendar_75 : decode cX6_readCalendar 75 = .ok (.invokevirtual 70, 3) := by decide +kernel
theorem dX6_readCalendar_78 : decode cX6_readCalendar 78 = .ok (.ifCond .eq 14, 3) := by decide +kernel
theorem dX6_readCalendar_81 : decode cX6_readCalendar 81 = .ok (.aload_n 0, 1) := by decide +kernel
theorem dX6_readCalendar_82 : decode cX6_readCalendar 82 = .ok (.invokevirtual 73, 3) := by decide +kernel
theorem dX6_readCalendar_85 : decode cX6_readCalendar 85 = .ok (.ifCond .eq 7, 3) := by decide +kernel
theorem dX6_readCalendar_88 : decode cX6_readCalendar 88 = .ok (.iconst 1, 1) := by decide +kernel
theorem dX6_readCalendar_89 : decode cX6_readCalendar 89 = .ok (.goto 4, 3) := by decide +kernel
theorem dX6_readCalendar_92 : decode cX6_readCalendar 92 = .ok (.iconst 0, 1) := by decide +kernel
theorem dX6_readCalendar_93 : decode cX6_readCalendar 93 = .ok (.istore_n 2, 1) := by decide +kernel
theorem dX6_readCalendar_94 : decode cX6_readCalendar 94 = .ok (.goto 58, 3) := by decide +kernel
theorem dX6_readCalendar_97 : decode cX6_readCalendar 97 = .ok (.aload_n 0, 1) := by decide +kernel
theorem dX6_readCalendar_98 : decode cX6_readCalendar 98 = .ok (.getfield 25, 3) := by decide +kernel
theorem dX6_readCalendar_101 : decode cX6_readCalendar 101 = .ok (.ldc 76, 2) := by decide +kernel
theorem dX6_readCalendar_103 : decode cX6_readCalendar 103 = .ok (.invokevirtual 62, 3) := by decide +kernel
theorem dX6_readCalendar_106 : decode cX6_readCalendar 106 = .ok (.ifCond .eq 40, 3) := by decide +kernel
theorem dX6_readCalendar_109 : decode cX6_readCalendar 109 = .ok (.aload_n 0, 1) := by decide +kernel
theorem dX6_readCalendar_110 : decode cX6_readCalendar 110 = .ok (.invokevirtual 77, 3) := by decide +kernel
theorem dX6_readCalendar_113 : decode cX6_readCalendar 113 = .ok (.ifCond .eq 28, 3) := by decide +kernel
theorem dX6_readCalendar_116 : decode cX6_readCalendar 116 = .ok (.aload_n 0, 1) := by decide +kernel
theorem dX6_readCalendar_117 : decode cX6_readCalendar 117 = .ok (.invokevirtual 80, 3) := by decide +kernel
theorem dX6_readCalendar_120 : decode cX6_readCalendar 120 = .ok (.ifCond .eq 21, 3) := by decide +kernel
theorem dX6_readCalendar_123 : decode cX6_readCalendar 123 = .ok (.aload_n 0, 1) := by decide +kernel
theorem dX6_readCalendar_124 : decode cX6_readCalendar 124 = .ok (.invokevirtual 83, 3) := by decide +kernel
theorem dX6_readCalendar_127 : decode cX6_readCalendar 127 = .ok (.ifCond .eq 14, 3) := by decide +kernel
theorem dX6_readCalendar_130 : decode cX6_readCalendar 130 = .ok (.aload_n 0, 1) := by decide +kernel
theorem dX6_readCalendar_131 : decode cX6_readCalendar 131 = .ok (.invokevirtual 73, 3) := by decide +kernel
theorem dX6_readCalendar_134 : decode cX6_readCalendar 134 = .ok (.ifCond .eq 7, 3) := by decide +kernel
theorem dX6_readCalendar_137 : decode cX6_readCalendar 137 = .ok (.iconst 1, 1) := by decide +kernel
theorem dX6_readCalendar_138 : decode cX6_readCalendar 138 = .ok (.goto 4, 3) := by decide +kernel
theorem dX6_readCalendar_141 : decode cX6_readCalendar 141 = .ok (.iconst 0, 1) := by decide +kernel
theorem dX6_readCalendar_142 : decode cX6_readCalendar 142 = .ok (.istore_n 2, 1) := by decide +kernel
theorem dX6_readCalendar_143 : decode cX6_readCalendar 143 = .ok (.goto 9, 3) := by decide +kernel
theorem dX6_readCalendar_146 : decode cX6_readCalendar 146 = .ok (.aload_n 0, 1) := by decide +kernel
theorem dX6_readCalendar_147 : decode cX6_readCalendar 147 = .ok (.iconst 1, 1) := by decide +kernel
theorem dX6_readCalendar_148 : decode cX6_readCalendar 148 = .ok (.invokevirtual 86, 3) := by decide +kernel
theorem dX6_readCalendar_151 : decode cX6_readCalendar 151 = .ok (.istore_n 2, 1) := by decide +kernel
theorem dX6_readCalendar_152 : decode cX6_readCalendar 152 = .ok (.iinc 3 1, 3) := by decide +kernel
theorem dX6_readCalendar_155 : decode cX6_readCalendar 155 = .ok (.goto (-121), 3) := by decide +kernel
theorem dX6_readCalendar_158 : decode cX6_readCalendar 158 = .ok (.aload_n 0, 1) := by decide +kernel
theorem dX6_readCalendar_159 : decode cX6_readCalendar 159 = .ok (.getfield 12, 3) := by decide +kernel
theorem dX6_readCalendar_162 : decode cX6_readCalendar 162 = .ok (.iconst 1, 1) := by decide +kernel
theorem dX6_readCalendar_163 : decode cX6_readCalendar 163 = .ok (.aload_n 0, 1) := by decide +kernel
theorem dX6_readCalendar_164 : decode cX6_readCalendar 164 = .ok (.getfield 12, 3) := by decide +kernel
theorem dX6_readCalendar_167 : decode cX6_readCalendar 167 = .ok (.getfield 90, 3) := by decide +kernel
theorem dX6_readCalendar_170 : decode cX6_readCalendar 170 = .ok (.invokestatic 93, 3) := by decide +kernel
theorem dX6_readCalendar_173 : decode cX6_readCalendar 173 = .ok (.putfield 90, 3) := by decide +kernel
theorem dX6_readCalendar_176 : decode cX6_readCalendar 176 = .ok (.iload_n 2, 1) := by decide +kernel
theorem dX6_readCalendar_177 : decode cX6_readCalendar 177 = .ok (.ireturn, 1) := by decide +kernel
def pg_X6_readCalendar (l : Launch) (g : EG) : List (Nat × ES) := [(0, s_ldP 0), (1, s_getP 5 0), (4, s_callV l g sg_X6_readCalendar sg_X5_clear 4), (7, s_ldP 0), (8, s_c (.inl 0)), (9, s_putI 5 1), (12, s_ldP 0), (13, s_c (.inl 0)), (14, s_putI 5 2), (17, s_ldP 0), (18, s_c (.inl (-1))), (19, s_putI 5 3), (22, s_ldP 0), (23, s_getP 5 4), (26, s_ldI 1), (27, s_callV l g sg_X6_readCalendar sg_X8_beginTokens 7), (30, s_c (.inl 1)), (31, s_stI 2), (32, s_c (.inl 0)), (33, s_stI 3), (34, s_ldI 3), (35, s_c (.inl 801)), (38, s_icmp_ge 158), (41, s_ldI 2), (42, s_if_eq 158), (45, s_ldP 0), (46, s_getP 5 4), (49, s_getI 7 1), (52, s_if_eq 158), (55, s_ldP 0), (56, s_getP 5 4), (59, s_str 0), (61, s_callV l g sg_X6_readCalendar sg_X8_isWord 7), (64, s_if_eq 97), (67, s_ldP 0), (68, s_callV l g sg_X6_readCalendar sg_X6_readZone 5), (71, s_if_eq 92), (74, s_ldP 0), (75, s_callV l g sg_X6_readCalendar sg_X6_readSummer 5), (78, s_if_eq 92), (81, s_ldP 0), (82, s_callV l g sg_X6_readCalendar sg_X6_takeSemicolon 5), (85, s_if_eq 92), (88, s_c (.inl 1)), (89, s_goto 93), (92, s_c (.inl 0)), (93, s_stI 2), (94, s_goto 152), (97, s_ldP 0), (98, s_getP 5 4), (101, s_str 2), (103, s_callV l g sg_X6_readCalendar sg_X8_isWord 7), (106, s_if_eq 146), (109, s_ldP 0), (110, s_callV l g sg_X6_readCalendar sg_X6_readEvent 5), (113, s_if_eq 141), (116, s_ldP 0), (117, s_callV l g sg_X6_readCalendar sg_X6_readRule 5), (120, s_if_eq 141), (123, s_ldP 0), (124, s_callV l g sg_X6_readCalendar sg_X6_readExceptions 5), (127, s_if_eq 141), (130, s_ldP 0), (131, s_callV l g sg_X6_readCalendar sg_X6_takeSemicolon 5), (134, s_if_eq 141), (137, s_c (.inl 1)), (138, s_goto 142), (141, s_c (.inl 0)), (142, s_stI 2), (143, s_goto 152), (146, s_ldP 0), (147, s_c (.inl 1)), (148, s_callV l g sg_X6_readCalendar sg_X6_fail 5), (151, s_stI 2), (152, s_iinc 3 1), (155, s_goto 34), (158, s_ldP 0), (159, s_getP 5 0), (162, s_c (.inl 1)), (163, s_ldP 0), (164, s_getP 5 0), (167, s_getI 4 0), (170, s_mmax sg_X6_readCalendar), (173, s_putI 4 0), (176, s_ldI 2), (177, s_iretz)]
set_option maxRecDepth 100000 in
theorem ok_X6_readCalendar {l : Launch} {g : EG} : e_okp l g sg_X6_readCalendar "CalendarSync$Reader" (pg_X6_readCalendar l g) := fun p e R s m args below meth c ex M0 Q X =>
    e_each_cons (r_aload_n X (k := 0) (i := 0) rfl dX6_readCalendar_0 rfl)
    (e_each_cons (r_getP X (index := 12) (ci := 5) (k := 0) dX6_readCalendar_1 (by decide) (by decide) rfl w1_211 rfl)
    (e_each_cons (r_callV X rfl (τ := sg_X5_clear) (index := 45) (ci := 4) dX6_readCalendar_4 (by decide) rfl w3_194 w3_195 w3_196 cs_X5_clear rfl ⟨by decide, by decide⟩ rfl)
    (e_each_cons (r_aload_n X (k := 0) (i := 0) rfl dX6_readCalendar_7 rfl)
    (e_each_cons (r_iconst X (n := 0) (v := 0) dX6_readCalendar_8 (by decide) rfl)
    (e_each_cons (r_putI X (index := 48) (ci := 5) (k := 1) dX6_readCalendar_9 (by decide) (by decide) rfl rfl w1_213 rfl)
    (e_each_cons (r_aload_n X (k := 0) (i := 0) rfl dX6_readCalendar_12 rfl)
    (e_each_cons (r_iconst X (n := 0) (v := 0) dX6_readCalendar_13 (by decide) rfl)
    (e_each_cons (r_putI X (index := 51) (ci := 5) (k := 2) dX6_readCalendar_14 (by decide) (by decide) rfl rfl w1_215 rfl)
    (e_each_cons (r_aload_n X (k := 0) (i := 0) rfl dX6_readCalendar_17 rfl)
    (e_each_cons (r_iconst X (n := (-1)) (v := (-1)) dX6_readCalendar_18 (by decide) rfl)
    (e_each_cons (r_putI X (index := 18) (ci := 5) (k := 3) dX6_readCalendar_19 (by decide) (by decide) rfl rfl w1_216 rfl)
    (e_each_cons (r_aload_n X (k := 0) (i := 0) rfl dX6_readCalendar_22 rfl)
    (e_each_cons (r_getP X (index := 25) (ci := 5) (k := 4) dX6_readCalendar_23 (by decide) (by decide) rfl w1_217 rfl)
    (e_each_cons (r_iload_n X (k := 1) (i := 1) rfl dX6_readCalendar_26 rfl)
    (e_each_cons (r_callV X rfl (τ := sg_X8_beginTokens) (index := 54) (ci := 7) dX6_readCalendar_27 (by decide) rfl w3_206 w3_207 w3_208 cs_X8_beginTokens rfl ⟨by decide, by decide⟩ rfl)
    (e_each_cons (r_iconst X (n := 1) (v := 1) dX6_readCalendar_30 (by decide) rfl)
    (e_each_cons (r_istore_n X (k := 2) (i := 2) rfl dX6_readCalendar_31 (by decide) rfl)
    (e_each_cons (r_iconst X (n := 0) (v := 0) dX6_readCalendar_32 (by decide) rfl)
    (e_each_cons (r_istore_n X (k := 3) (i := 3) rfl dX6_readCalendar_33 (by decide) rfl)
    (e_each_cons (r_iload_n X (k := 3) (i := 3) rfl dX6_readCalendar_34 rfl)
    (e_each_cons (r_sipush X (n := 801) (v := 801) dX6_readCalendar_35 (by decide) rfl)
    (e_each_cons (r_icmp_ge X (off := 120) (t := 158) dX6_readCalendar_38 (by decide) rfl)
    (e_each_cons (r_iload_n X (k := 2) (i := 2) rfl dX6_readCalendar_41 rfl)
    (e_each_cons (r_if_eq X (off := 116) (t := 158) dX6_readCalendar_42 (by decide) rfl)
    (e_each_cons (r_aload_n X (k := 0) (i := 0) rfl dX6_readCalendar_45 rfl)
    (e_each_cons (r_getP X (index := 25) (ci := 5) (k := 4) dX6_readCalendar_46 (by decide) (by decide) rfl w1_217 rfl)
    (e_each_cons (r_getI X (index := 58) (ci := 7) (k := 1) dX6_readCalendar_49 (by decide) (by decide) rfl w1_186 rfl)
    (e_each_cons (r_if_eq X (off := 106) (t := 158) dX6_readCalendar_52 (by decide) rfl)
    (e_each_cons (r_aload_n X (k := 0) (i := 0) rfl dX6_readCalendar_55 rfl)
    (e_each_cons (r_getP X (index := 25) (ci := 5) (k := 4) dX6_readCalendar_56 (by decide) (by decide) rfl w1_217 rfl)
    (e_each_cons (r_str X (k := 0) (is := 61) dX6_readCalendar_59 rfl ⟨⟨rfl, rfl⟩, by decide⟩ rfl)
    (e_each_cons (r_callV X rfl (τ := sg_X8_isWord) (index := 62) (ci := 7) dX6_readCalendar_61 (by decide) rfl w3_227 w3_228 w3_229 cs_X8_isWord rfl ⟨by decide, by decide⟩ rfl)
    (e_each_cons (r_if_eq X (off := 33) (t := 97) dX6_readCalendar_64 (by decide) rfl)
    (e_each_cons (r_aload_n X (k := 0) (i := 0) rfl dX6_readCalendar_67 rfl)
    (e_each_cons (r_callV X rfl (τ := sg_X6_readZone) (index := 66) (ci := 5) dX6_readCalendar_68 (by decide) rfl w3_233 w3_235 ws_5 cs_X6_readZone rfl ⟨by decide, by decide⟩ rfl)
    (e_each_cons (r_if_eq X (off := 21) (t := 92) dX6_readCalendar_71 (by decide) rfl)
    (e_each_cons (r_aload_n X (k := 0) (i := 0) rfl dX6_readCalendar_74 rfl)
    (e_each_cons (r_callV X rfl (τ := sg_X6_readSummer) (index := 70) (ci := 5) dX6_readCalendar_75 (by decide) rfl w4_12 w4_14 ws_9 cs_X6_readSummer rfl ⟨by decide, by decide⟩ rfl)
    (e_each_cons (r_if_eq X (off := 14) (t := 92) dX6_readCalendar_78 (by decide) rfl)
    (e_each_cons (r_aload_n X (k := 0) (i := 0) rfl dX6_readCalendar_81 rfl)
    (e_each_cons (r_callV X rfl (τ := sg_X6_takeSemicolon) (index := 73) (ci := 5) dX6_readCalendar_82 (by decide) rfl w4_17 w4_19 ws_10 cs_X6_takeSemicolon rfl ⟨by decide, by decide⟩ rfl)
    (e_each_cons (r_if_eq X (off := 7) (t := 92) dX6_readCalendar_85 (by decide) rfl)
    (e_each_cons (r_iconst X (n := 1) (v := 1) dX6_readCalendar_88 (by decide) rfl)
    (e_each_cons (r_goto X (off := 4) (t := 93) dX6_readCalendar_89 (by decide))
    (e_each_cons (r_iconst X (n := 0) (v := 0) dX6_readCalendar_92 (by decide) rfl)
    (e_each_cons (r_istore_n X (k := 2) (i := 2) rfl dX6_readCalendar_93 (by decide) rfl)
    (e_each_cons (r_goto X (off := 58) (t := 152) dX6_readCalendar_94 (by decide))
    (e_each_cons (r_aload_n X (k := 0) (i := 0) rfl dX6_readCalendar_97 rfl)
    (e_each_cons (r_getP X (index := 25) (ci := 5) (k := 4) dX6_readCalendar_98 (by decide) (by decide) rfl w1_217 rfl)
    (e_each_cons (r_str X (k := 2) (is := 76) dX6_readCalendar_101 rfl ⟨⟨rfl, rfl⟩, by decide⟩ rfl)
    (e_each_cons (r_callV X rfl (τ := sg_X8_isWord) (index := 62) (ci := 7) dX6_readCalendar_103 (by decide) rfl w3_227 w3_228 w3_229 cs_X8_isWord rfl ⟨by decide, by decide⟩ rfl)
    (e_each_cons (r_if_eq X (off := 40) (t := 146) dX6_readCalendar_106 (by decide) rfl)
    (e_each_cons (r_aload_n X (k := 0) (i := 0) rfl dX6_readCalendar_109 rfl)
    (e_each_cons (r_callV X rfl (τ := sg_X6_readEvent) (index := 77) (ci := 5) dX6_readCalendar_110 (by decide) rfl w4_22 w4_24 ws_11 cs_X6_readEvent rfl ⟨by decide, by decide⟩ rfl)
    (e_each_cons (r_if_eq X (off := 28) (t := 141) dX6_readCalendar_113 (by decide) rfl)
    (e_each_cons (r_aload_n X (k := 0) (i := 0) rfl dX6_readCalendar_116 rfl)
    (e_each_cons (r_callV X rfl (τ := sg_X6_readRule) (index := 80) (ci := 5) dX6_readCalendar_117 (by decide) rfl w4_42 w4_44 ws_15 cs_X6_readRule rfl ⟨by decide, by decide⟩ rfl)
    (e_each_cons (r_if_eq X (off := 21) (t := 141) dX6_readCalendar_120 (by decide) rfl)
    (e_each_cons (r_aload_n X (k := 0) (i := 0) rfl dX6_readCalendar_123 rfl)
    (e_each_cons (r_callV X rfl (τ := sg_X6_readExceptions) (index := 83) (ci := 5) dX6_readCalendar_124 (by decide) rfl w4_99 w4_101 ws_21 cs_X6_readExceptions rfl ⟨by decide, by decide⟩ rfl)
    (e_each_cons (r_if_eq X (off := 14) (t := 141) dX6_readCalendar_127 (by decide) rfl)
    (e_each_cons (r_aload_n X (k := 0) (i := 0) rfl dX6_readCalendar_130 rfl)
    (e_each_cons (r_callV X rfl (τ := sg_X6_takeSemicolon) (index := 73) (ci := 5) dX6_readCalendar_131 (by decide) rfl w4_17 w4_19 ws_10 cs_X6_takeSemicolon rfl ⟨by decide, by decide⟩ rfl)
    (e_each_cons (r_if_eq X (off := 7) (t := 141) dX6_readCalendar_134 (by decide) rfl)
    (e_each_cons (r_iconst X (n := 1) (v := 1) dX6_readCalendar_137 (by decide) rfl)
    (e_each_cons (r_goto X (off := 4) (t := 142) dX6_readCalendar_138 (by decide))
    (e_each_cons (r_iconst X (n := 0) (v := 0) dX6_readCalendar_141 (by decide) rfl)
    (e_each_cons (r_istore_n X (k := 2) (i := 2) rfl dX6_readCalendar_142 (by decide) rfl)
    (e_each_cons (r_goto X (off := 9) (t := 152) dX6_readCalendar_143 (by decide))
    (e_each_cons (r_aload_n X (k := 0) (i := 0) rfl dX6_readCalendar_146 rfl)
    (e_each_cons (r_iconst X (n := 1) (v := 1) dX6_readCalendar_147 (by decide) rfl)
    (e_each_cons (r_callV X rfl (τ := sg_X6_fail) (index := 86) (ci := 5) dX6_readCalendar_148 (by decide) rfl w3_237 w3_239 ws_6 cs_X6_fail rfl ⟨by decide, by decide⟩ rfl)
    (e_each_cons (r_istore_n X (k := 2) (i := 2) rfl dX6_readCalendar_151 (by decide) rfl)
    (e_each_cons (r_iinc X (i := 3) (n := 1) (d := 1) dX6_readCalendar_152 (by decide) (by decide) rfl)
    (e_each_cons (r_goto X (off := (-121)) (t := 34) dX6_readCalendar_155 (by decide))
    (e_each_cons (r_aload_n X (k := 0) (i := 0) rfl dX6_readCalendar_158 rfl)
    (e_each_cons (r_getP X (index := 12) (ci := 5) (k := 0) dX6_readCalendar_159 (by decide) (by decide) rfl w1_211 rfl)
    (e_each_cons (r_iconst X (n := 1) (v := 1) dX6_readCalendar_162 (by decide) rfl)
    (e_each_cons (r_aload_n X (k := 0) (i := 0) rfl dX6_readCalendar_163 rfl)
    (e_each_cons (r_getP X (index := 12) (ci := 5) (k := 0) dX6_readCalendar_164 (by decide) (by decide) rfl w1_211 rfl)
    (e_each_cons (r_getI X (index := 90) (ci := 4) (k := 0) dX6_readCalendar_167 (by decide) (by decide) rfl w1_162 rfl)
    (e_each_cons (r_mmax X (index := 93) dX6_readCalendar_170 w4_117 w4_118 w1_16 w4_119 ⟨by decide, by decide⟩ rfl)
    (e_each_cons (r_putI X (index := 90) (ci := 4) (k := 0) dX6_readCalendar_173 (by decide) (by decide) rfl rfl w1_162 rfl)
    (e_each_cons (r_iload_n X (k := 2) (i := 2) rfl dX6_readCalendar_176 rfl)
    (e_each_cons (r_iretz X dX6_readCalendar_177 rfl)
    (e_each_nil))))))))))))))))))))))))))))))))))))))))))))))))))))))))))))))))))))))))))))))))))))))
