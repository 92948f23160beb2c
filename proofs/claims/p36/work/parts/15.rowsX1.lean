/-! TABLES (by program): the rows of X1 -/
theorem dX1_isDay_0 : decode cX1_isDay 0 = .ok (.iload_n 0, 1) := by decide +kernel
theorem dX1_isDay_1 : decode cX1_isDay 1 = .ok (.iconst 0, 1) := by decide +kernel
theorem dX1_isDay_2 : decode cX1_isDay 2 = .ok (.sipush 1094, 3) := by decide +kernel
theorem dX1_isDay_5 : decode cX1_isDay 5 = .ok (.invokestatic 11, 3) := by decide +kernel
theorem dX1_isDay_8 : decode cX1_isDay 8 = .ok (.ireturn, 1) := by decide +kernel
def pg_X1_isDay (l : Launch) (g : EG) : List (Nat × ES) := [(0, s_ldI 0), (1, s_c (.inl 0)), (2, s_c (.inl 1094)), (5, s_callS l g sg_X1_isDay sg_X10_isWithin), (8, s_iretz)]
set_option maxRecDepth 100000 in
theorem ok_X1_isDay {l : Launch} {g : EG} : e_okp l g sg_X1_isDay "CalendarSync$Days" (pg_X1_isDay l g) := fun p e R s m args below meth c ex M0 Q X =>
    e_each_cons (r_iload_n X (k := 0) (i := 0) rfl dX1_isDay_0 rfl)
    (e_each_cons (r_iconst X (n := 0) (v := 0) dX1_isDay_1 (by decide) rfl)
    (e_each_cons (r_sipush X (n := 1094) (v := 1094) dX1_isDay_2 (by decide) rfl)
    (e_each_cons (r_callSN X rfl (τ := sg_X10_isWithin) (index := 11) (host := "CalendarSync") dX1_isDay_5 wn6_4 w2_127 cs_X10_isWithin rfl ⟨by decide, by decide⟩ rfl)
    (e_each_cons (r_iretz X dX1_isDay_8 rfl)
    (e_each_nil)))))
theorem dX1_isDayOfYear_0 : decode cX1_isDayOfYear 0 = .ok (.iload_n 0, 1) := by decide +kernel
theorem dX1_isDayOfYear_1 : decode cX1_isDayOfYear 1 = .ok (.iconst 0, 1) := by decide +kernel
theorem dX1_isDayOfYear_2 : decode cX1_isDayOfYear 2 = .ok (.sipush 364, 3) := by decide +kernel
theorem dX1_isDayOfYear_5 : decode cX1_isDayOfYear 5 = .ok (.invokestatic 11, 3) := by decide +kernel
theorem dX1_isDayOfYear_8 : decode cX1_isDayOfYear 8 = .ok (.ireturn, 1) := by decide +kernel
def pg_X1_isDayOfYear (l : Launch) (g : EG) : List (Nat × ES) := [(0, s_ldI 0), (1, s_c (.inl 0)), (2, s_c (.inl 364)), (5, s_callS l g sg_X1_isDayOfYear sg_X10_isWithin), (8, s_iretz)]
set_option maxRecDepth 100000 in
theorem ok_X1_isDayOfYear {l : Launch} {g : EG} : e_okp l g sg_X1_isDayOfYear "CalendarSync$Days" (pg_X1_isDayOfYear l g) := fun p e R s m args below meth c ex M0 Q X =>
    e_each_cons (r_iload_n X (k := 0) (i := 0) rfl dX1_isDayOfYear_0 rfl)
    (e_each_cons (r_iconst X (n := 0) (v := 0) dX1_isDayOfYear_1 (by decide) rfl)
    (e_each_cons (r_sipush X (n := 364) (v := 364) dX1_isDayOfYear_2 (by decide) rfl)
    (e_each_cons (r_callSN X rfl (τ := sg_X10_isWithin) (index := 11) (host := "CalendarSync") dX1_isDayOfYear_5 wn6_4 w2_127 cs_X10_isWithin rfl ⟨by decide, by decide⟩ rfl)
    (e_each_cons (r_iretz X dX1_isDayOfYear_8 rfl)
    (e_each_nil)))))
theorem dX1_isMinute_0 : decode cX1_isMinute 0 = .ok (.iload_n 0, 1) := by decide +kernel
theorem dX1_isMinute_1 : decode cX1_isMinute 1 = .ok (.iconst 0, 1) := by decide +kernel
theorem dX1_isMinute_2 : decode cX1_isMinute 2 = .ok (.sipush 1439, 3) := by decide +kernel
theorem dX1_isMinute_5 : decode cX1_isMinute 5 = .ok (.invokestatic 11, 3) := by decide +kernel
theorem dX1_isMinute_8 : decode cX1_isMinute 8 = .ok (.ireturn, 1) := by decide +kernel
def pg_X1_isMinute (l : Launch) (g : EG) : List (Nat × ES) := [(0, s_ldI 0), (1, s_c (.inl 0)), (2, s_c (.inl 1439)), (5, s_callS l g sg_X1_isMinute sg_X10_isWithin), (8, s_iretz)]
set_option maxRecDepth 100000 in
theorem ok_X1_isMinute {l : Launch} {g : EG} : e_okp l g sg_X1_isMinute "CalendarSync$Days" (pg_X1_isMinute l g) := fun p e R s m args below meth c ex M0 Q X =>
    e_each_cons (r_iload_n X (k := 0) (i := 0) rfl dX1_isMinute_0 rfl)
    (e_each_cons (r_iconst X (n := 0) (v := 0) dX1_isMinute_1 (by decide) rfl)
    (e_each_cons (r_sipush X (n := 1439) (v := 1439) dX1_isMinute_2 (by decide) rfl)
    (e_each_cons (r_callSN X rfl (τ := sg_X10_isWithin) (index := 11) (host := "CalendarSync") dX1_isMinute_5 wn6_4 w2_127 cs_X10_isWithin rfl ⟨by decide, by decide⟩ rfl)
    (e_each_cons (r_iretz X dX1_isMinute_8 rfl)
    (e_each_nil)))))
theorem dX1_yearOf_0 : decode cX1_yearOf 0 = .ok (.iload_n 0, 1) := by decide +kernel
theorem dX1_yearOf_1 : decode cX1_yearOf 1 = .ok (.sipush 365, 3) := by decide +kernel
theorem dX1_yearOf_4 : decode cX1_yearOf 4 = .ok (.idiv, 1) := by decide +kernel
theorem dX1_yearOf_5 : decode cX1_yearOf 5 = .ok (.ireturn, 1) := by decide +kernel
def pg_X1_yearOf (l : Launch) (g : EG) : List (Nat × ES) := [(0, s_ldI 0), (1, s_c (.inl 365)), (4, s_iid (fun x y => x / y) (fun _ y => ¬ y = 0)), (5, s_ireti)]
set_option maxRecDepth 100000 in
theorem ok_X1_yearOf {l : Launch} {g : EG} : e_okp l g sg_X1_yearOf "CalendarSync$Days" (pg_X1_yearOf l g) := fun p e R s m args below meth c ex M0 Q X =>
    e_each_cons (r_iload_n X (k := 0) (i := 0) rfl dX1_yearOf_0 rfl)
    (e_each_cons (r_sipush X (n := 365) (v := 365) dX1_yearOf_1 (by decide) rfl)
    (e_each_cons (r_idiv X dX1_yearOf_4 rfl)
    (e_each_cons (r_ireti X dX1_yearOf_5 rfl)
    (e_each_nil))))
theorem dX1_weekdayOf_0 : decode cX1_weekdayOf 0 = .ok (.iload_n 0, 1) := by decide +kernel
theorem dX1_weekdayOf_1 : decode cX1_weekdayOf 1 = .ok (.bipush 7, 2) := by decide +kernel
theorem dX1_weekdayOf_3 : decode cX1_weekdayOf 3 = .ok (.irem, 1) := by decide +kernel
theorem dX1_weekdayOf_4 : decode cX1_weekdayOf 4 = .ok (.ireturn, 1) := by decide +kernel
def pg_X1_weekdayOf (l : Launch) (g : EG) : List (Nat × ES) := [(0, s_ldI 0), (1, s_c (.inl 7)), (3, s_iid (fun x y => x - x / y * y) (fun _ y => ¬ y = 0)), (4, s_ireti)]
set_option maxRecDepth 100000 in
theorem ok_X1_weekdayOf {l : Launch} {g : EG} : e_okp l g sg_X1_weekdayOf "CalendarSync$Days" (pg_X1_weekdayOf l g) := fun p e R s m args below meth c ex M0 Q X =>
    e_each_cons (r_iload_n X (k := 0) (i := 0) rfl dX1_weekdayOf_0 rfl)
    (e_each_cons (r_bipush X (n := 7) (v := 7) dX1_weekdayOf_1 (by decide) rfl)
    (e_each_cons (r_irem X dX1_weekdayOf_3 rfl)
    (e_each_cons (r_ireti X dX1_weekdayOf_4 rfl)
    (e_each_nil))))
theorem dX1_monthOf_0 : decode cX1_monthOf 0 = .ok (.iload_n 0, 1) := by decide +kernel
theorem dX1_monthOf_1 : decode cX1_monthOf 1 = .ok (.sipush 365, 3) := by decide +kernel
theorem dX1_monthOf_4 : decode cX1_monthOf 4 = .ok (.irem, 1) := by decide +kernel
theorem dX1_monthOf_5 : decode cX1_monthOf 5 = .ok (.istore_n 1, 1) := by decide +kernel
theorem dX1_monthOf_6 : decode cX1_monthOf 6 = .ok (.iconst 0, 1) := by decide +kernel
theorem dX1_monthOf_7 : decode cX1_monthOf 7 = .ok (.istore_n 2, 1) := by decide +kernel
theorem dX1_monthOf_8 : decode cX1_monthOf 8 = .ok (.iload_n 2, 1) := by decide +kernel
theorem dX1_monthOf_9 : decode cX1_monthOf 9 = .ok (.bipush 11, 2) := by decide +kernel
theorem dX1_monthOf_11 : decode cX1_monthOf 11 = .ok (.if_icmp .ge 20, 3) := by decide +kernel
theorem dX1_monthOf_14 : decode cX1_monthOf 14 = .ok (.getstatic 15, 3) := by decide +kernel
theorem dX1_monthOf_17 : decode cX1_monthOf 17 = .ok (.iload_n 2, 1) := by decide +kernel
theorem dX1_monthOf_18 : decode cX1_monthOf 18 = .ok (.iconst 1, 1) := by decide +kernel
theorem dX1_monthOf_19 : decode cX1_monthOf 19 = .ok (.iadd, 1) := by decide +kernel
theorem dX1_monthOf_20 : decode cX1_monthOf 20 = .ok (.iaload, 1) := by decide +kernel
theorem dX1_monthOf_21 : decode cX1_monthOf 21 = .ok (.iload_n 1, 1) := by decide +kernel
theorem dX1_monthOf_22 : decode cX1_monthOf 22 = .ok (.if_icmp .gt 9, 3) := by decide +kernel
theorem dX1_monthOf_25 : decode cX1_monthOf 25 = .ok (.iinc 2 1, 3) := by decide +kernel
theorem dX1_monthOf_28 : decode cX1_monthOf 28 = .ok (.goto (-20), 3) := by decide +kernel
theorem dX1_monthOf_31 : decode cX1_monthOf 31 = .ok (.iload_n 2, 1) := by decide +kernel
theorem dX1_monthOf_32 : decode cX1_monthOf 32 = .ok (.ireturn, 1) := by decide +kernel
def pg_X1_monthOf (l : Launch) (g : EG) : List (Nat × ES) := [(0, s_ldI 0), (1, s_c (.inl 365)), (4, s_iid (fun x y => x - x / y * y) (fun _ y => ¬ y = 0)), (5, s_stI 1), (6, s_c (.inl 0)), (7, s_stI 2), (8, s_ldI 2), (9, s_c (.inl 11)), (11, s_icmp_ge 31), (14, s_gets), (17, s_ldI 2), (18, s_c (.inl 1)), (19, s_ii (fun x y => x + y)), (20, s_ialdM), (21, s_ldI 1), (22, s_icmp_gt 31), (25, s_iinc 2 1), (28, s_goto 8), (31, s_ldI 2), (32, s_ireti)]
set_option maxRecDepth 100000 in
theorem ok_X1_monthOf {l : Launch} {g : EG} : e_okp l g sg_X1_monthOf "CalendarSync$Days" (pg_X1_monthOf l g) := fun p e R s m args below meth c ex M0 Q X =>
    e_each_cons (r_iload_n X (k := 0) (i := 0) rfl dX1_monthOf_0 rfl)
    (e_each_cons (r_sipush X (n := 365) (v := 365) dX1_monthOf_1 (by decide) rfl)
    (e_each_cons (r_irem X dX1_monthOf_4 rfl)
    (e_each_cons (r_istore_n X (k := 1) (i := 1) rfl dX1_monthOf_5 (by decide) rfl)
    (e_each_cons (r_iconst X (n := 0) (v := 0) dX1_monthOf_6 (by decide) rfl)
    (e_each_cons (r_istore_n X (k := 2) (i := 2) rfl dX1_monthOf_7 (by decide) rfl)
    (e_each_cons (r_iload_n X (k := 2) (i := 2) rfl dX1_monthOf_8 rfl)
    (e_each_cons (r_bipush X (n := 11) (v := 11) dX1_monthOf_9 (by decide) rfl)
    (e_each_cons (r_icmp_ge X (off := 20) (t := 31) dX1_monthOf_11 (by decide) rfl)
    (e_each_cons (r_gets X (index := 15) dX1_monthOf_14 w4_90 rfl)
    (e_each_cons (r_iload_n X (k := 2) (i := 2) rfl dX1_monthOf_17 rfl)
    (e_each_cons (r_iconst X (n := 1) (v := 1) dX1_monthOf_18 (by decide) rfl)
    (e_each_cons (r_iadd X dX1_monthOf_19 rfl)
    (e_each_cons (r_ialdM X dX1_monthOf_20 rfl)
    (e_each_cons (r_iload_n X (k := 1) (i := 1) rfl dX1_monthOf_21 rfl)
    (e_each_cons (r_icmp_gt X (off := 9) (t := 31) dX1_monthOf_22 (by decide) rfl)
    (e_each_cons (r_iinc X (i := 2) (n := 1) (d := 1) dX1_monthOf_25 (by decide) (by decide) rfl)
    (e_each_cons (r_goto X (off := (-20)) (t := 8) dX1_monthOf_28 (by decide))
    (e_each_cons (r_iload_n X (k := 2) (i := 2) rfl dX1_monthOf_31 rfl)
    (e_each_cons (r_ireti X dX1_monthOf_32 rfl)
    (e_each_nil))))))))))))))))))))
theorem dX1_dayOfMonth_0 : decode cX1_dayOfMonth 0 = .ok (.iload_n 0, 1) := by decide +kernel
theorem dX1_dayOfMonth_1 : decode cX1_dayOfMonth 1 = .ok (.sipush 365, 3) := by decide +kernel
theorem dX1_dayOfMonth_4 : decode cX1_dayOfMonth 4 = .ok (.irem, 1) := by decide +kernel
theorem dX1_dayOfMonth_5 : decode cX1_dayOfMonth 5 = .ok (.getstatic 15, 3) := by decide +kernel
theorem dX1_dayOfMonth_8 : decode cX1_dayOfMonth 8 = .ok (.iload_n 0, 1) := by decide +kernel
theorem dX1_dayOfMonth_9 : decode cX1_dayOfMonth 9 = .ok (.invokestatic 19, 3) := by decide +kernel
theorem dX1_dayOfMonth_12 : decode cX1_dayOfMonth 12 = .ok (.iaload, 1) := by decide +kernel
theorem dX1_dayOfMonth_13 : decode cX1_dayOfMonth 13 = .ok (.isub, 1) := by decide +kernel
theorem dX1_dayOfMonth_14 : decode cX1_dayOfMonth 14 = .ok (.iconst 1, 1) := by decide +kernel
theorem dX1_dayOfMonth_15 : decode cX1_dayOfMonth 15 = .ok (.iadd, 1) := by decide +kernel
theorem dX1_dayOfMonth_16 : decode cX1_dayOfMonth 16 = .ok (.ireturn, 1) := by decide +kernel
def pg_X1_dayOfMonth (l : Launch) (g : EG) : List (Nat × ES) := [(0, s_ldI 0), (1, s_c (.inl 365)), (4, s_iid (fun x y => x - x / y * y) (fun _ y => ¬ y = 0)), (5, s_gets), (8, s_ldI 0), (9, s_callS l g sg_X1_dayOfMonth sg_X1_monthOf), (12, s_ialdM), (13, s_ii (fun x y => x - y)), (14, s_c (.inl 1)), (15, s_ii (fun x y => x + y)), (16, s_ireti)]
set_option maxRecDepth 100000 in
theorem ok_X1_dayOfMonth {l : Launch} {g : EG} : e_okp l g sg_X1_dayOfMonth "CalendarSync$Days" (pg_X1_dayOfMonth l g) := fun p e R s m args below meth c ex M0 Q X =>
    e_each_cons (r_iload_n X (k := 0) (i := 0) rfl dX1_dayOfMonth_0 rfl)
    (e_each_cons (r_sipush X (n := 365) (v := 365) dX1_dayOfMonth_1 (by decide) rfl)
    (e_each_cons (r_irem X dX1_dayOfMonth_4 rfl)
    (e_each_cons (r_gets X (index := 15) dX1_dayOfMonth_5 w4_90 rfl)
    (e_each_cons (r_iload_n X (k := 0) (i := 0) rfl dX1_dayOfMonth_8 rfl)
    (e_each_cons (r_callS X rfl (τ := sg_X1_monthOf) (index := 19) dX1_dayOfMonth_9 w4_95 w4_88 cs_X1_monthOf rfl ⟨by decide, by decide⟩ rfl)
    (e_each_cons (r_ialdM X dX1_dayOfMonth_12 rfl)
    (e_each_cons (r_isub X dX1_dayOfMonth_13 rfl)
    (e_each_cons (r_iconst X (n := 1) (v := 1) dX1_dayOfMonth_14 (by decide) rfl)
    (e_each_cons (r_iadd X dX1_dayOfMonth_15 rfl)
    (e_each_cons (r_ireti X dX1_dayOfMonth_16 rfl)
    (e_each_nil)))))))))))
theorem dX1_dayInMonth_0 : decode cX1_dayInMonth 0 = .ok (.iload_n 0, 1) := by decide +kernel
theorem dX1_dayInMonth_1 : decode cX1_dayInMonth 1 = .ok (.ifCond .lt 9, 3) := by decide +kernel
theorem dX1_dayInMonth_4 : decode cX1_dayInMonth 4 = .ok (.iload_n 0, 1) := by decide +kernel
theorem dX1_dayInMonth_5 : decode cX1_dayInMonth 5 = .ok (.bipush 36, 2) := by decide +kernel
theorem dX1_dayInMonth_7 : decode cX1_dayInMonth 7 = .ok (.if_icmp .lt 5, 3) := by decide +kernel
theorem dX1_dayInMonth_10 : decode cX1_dayInMonth 10 = .ok (.iconst (-1), 1) := by decide +kernel
theorem dX1_dayInMonth_11 : decode cX1_dayInMonth 11 = .ok (.ireturn, 1) := by decide +kernel
theorem dX1_dayInMonth_12 : decode cX1_dayInMonth 12 = .ok (.getstatic 15, 3) := by decide +kernel
theorem dX1_dayInMonth_15 : decode cX1_dayInMonth 15 = .ok (.iload_n 0, 1) := by decide +kernel
theorem dX1_dayInMonth_16 : decode cX1_dayInMonth 16 = .ok (.bipush 12, 2) := by decide +kernel
theorem dX1_dayInMonth_18 : decode cX1_dayInMonth 18 = .ok (.irem, 1) := by decide +kernel
theorem dX1_dayInMonth_19 : decode cX1_dayInMonth 19 = .ok (.iaload, 1) := by decide +kernel
theorem dX1_dayInMonth_20 : decode cX1_dayInMonth 20 = .ok (.istore_n 2, 1) := by decide +kernel
theorem dX1_dayInMonth_21 : decode cX1_dayInMonth 21 = .ok (.getstatic 15, 3) := by decide +kernel
theorem dX1_dayInMonth_24 : decode cX1_dayInMonth 24 = .ok (.iload_n 0, 1) := by decide +kernel
theorem dX1_dayInMonth_25 : decode cX1_dayInMonth 25 = .ok (.bipush 12, 2) := by decide +kernel
theorem dX1_dayInMonth_27 : decode cX1_dayInMonth 27 = .ok (.irem, 1) := by decide +kernel
theorem dX1_dayInMonth_28 : decode cX1_dayInMonth 28 = .ok (.iconst 1, 1) := by decide +kernel
theorem dX1_dayInMonth_29 : decode cX1_dayInMonth 29 = .ok (.iadd, 1) := by decide +kernel
theorem dX1_dayInMonth_30 : decode cX1_dayInMonth 30 = .ok (.iaload, 1) := by decide +kernel
theorem dX1_dayInMonth_31 : decode cX1_dayInMonth 31 = .ok (.iload_n 2, 1) := by decide +kernel
theorem dX1_dayInMonth_32 : decode cX1_dayInMonth 32 = .ok (.isub, 1) := by decide +kernel
theorem dX1_dayInMonth_33 : decode cX1_dayInMonth 33 = .ok (.istore_n 3, 1) := by decide +kernel
theorem dX1_dayInMonth_34 : decode cX1_dayInMonth 34 = .ok (.iload_n 1, 1) := by decide +kernel
theorem dX1_dayInMonth_35 : decode cX1_dayInMonth 35 = .ok (.iload_n 3, 1) := by decide +kernel
theorem dX1_dayInMonth_36 : decode cX1_dayInMonth 36 = .ok (.if_icmp .le 7, 3) := by decide +kernel
theorem dX1_dayInMonth_39 : decode cX1_dayInMonth 39 = .ok (.iconst (-1), 1) := by decide +kernel
theorem dX1_dayInMonth_40 : decode cX1_dayInMonth 40 = .ok (.goto 17, 3) := by decide +kernel
theorem dX1_dayInMonth_43 : decode cX1_dayInMonth 43 = .ok (.iload_n 0, 1) := by decide +kernel
theorem dX1_dayInMonth_44 : decode cX1_dayInMonth 44 = .ok (.bipush 12, 2) := by decide +kernel
theorem dX1_dayInMonth_46 : decode cX1_dayInMonth 46 = .ok (.idiv, 1) := by decide +kernel
theorem dX1_dayInMonth_47 : decode cX1_dayInMonth 47 = .ok (.sipush 365, 3) := by decide +kernel
theorem dX1_dayInMonth_50 : decode cX1_dayInMonth 50 = .ok (.imul, 1) := by decide +kernel
theorem dX1_dayInMonth_51 : decode cX1_dayInMonth 51 = .ok (.iload_n 2, 1) := by decide +kernel
theorem dX1_dayInMonth_52 : decode cX1_dayInMonth 52 = .ok (.iadd, 1) := by decide +kernel
theorem dX1_dayInMonth_53 : decode cX1_dayInMonth 53 = .ok (.iload_n 1, 1) := by decide +kernel
theorem dX1_dayInMonth_54 : decode cX1_dayInMonth 54 = .ok (.iadd, 1) := by decide +kernel
theorem dX1_dayInMonth_55 : decode cX1_dayInMonth 55 = .ok (.iconst 1, 1) := by decide +kernel
theorem dX1_dayInMonth_56 : decode cX1_dayInMonth 56 = .ok (.isub, 1) := by decide +kernel
theorem dX1_dayInMonth_57 : decode cX1_dayInMonth 57 = .ok (.ireturn, 1) := by decide +kernel
def pg_X1_dayInMonth (l : Launch) (g : EG) : List (Nat × ES) := [(0, s_ldI 0), (1, s_if_lt 10), (4, s_ldI 0), (5, s_c (.inl 36)), (7, s_icmp_lt 12), (10, s_c (.inl (-1))), (11, s_ireti), (12, s_gets), (15, s_ldI 0), (16, s_c (.inl 12)), (18, s_iid (fun x y => x - x / y * y) (fun _ y => ¬ y = 0)), (19, s_ialdM), (20, s_stI 2), (21, s_gets), (24, s_ldI 0), (25, s_c (.inl 12)), (27, s_iid (fun x y => x - x / y * y) (fun _ y => ¬ y = 0)), (28, s_c (.inl 1)), (29, s_ii (fun x y => x + y)), (30, s_ialdM), (31, s_ldI 2), (32, s_ii (fun x y => x - y)), (33, s_stI 3), (34, s_ldI 1), (35, s_ldI 3), (36, s_icmp_le 43), (39, s_c (.inl (-1))), (40, s_goto 57), (43, s_ldI 0), (44, s_c (.inl 12)), (46, s_iid (fun x y => x / y) (fun _ y => ¬ y = 0)), (47, s_c (.inl 365)), (50, s_ii (fun x y => x * y)), (51, s_ldI 2), (52, s_ii (fun x y => x + y)), (53, s_ldI 1), (54, s_ii (fun x y => x + y)), (55, s_c (.inl 1)), (56, s_ii (fun x y => x - y)), (57, s_ireti)]
set_option maxRecDepth 100000 in
theorem ok_X1_dayInMonth {l : Launch} {g : EG} : e_okp l g sg_X1_dayInMonth "CalendarSync$Days" (pg_X1_dayInMonth l g) := fun p e R s m args below meth c ex M0 Q X =>
    e_each_cons (r_iload_n X (k := 0) (i := 0) rfl dX1_dayInMonth_0 rfl)
    (e_each_cons (r_if_lt X (off := 9) (t := 10) dX1_dayInMonth_1 (by decide) rfl)
    (e_each_cons (r_iload_n X (k := 0) (i := 0) rfl dX1_dayInMonth_4 rfl)
    (e_each_cons (r_bipush X (n := 36) (v := 36) dX1_dayInMonth_5 (by decide) rfl)
    (e_each_cons (r_icmp_lt X (off := 5) (t := 12) dX1_dayInMonth_7 (by decide) rfl)
    (e_each_cons (r_iconst X (n := (-1)) (v := (-1)) dX1_dayInMonth_10 (by decide) rfl)
    (e_each_cons (r_ireti X dX1_dayInMonth_11 rfl)
    (e_each_cons (r_gets X (index := 15) dX1_dayInMonth_12 w4_90 rfl)
    (e_each_cons (r_iload_n X (k := 0) (i := 0) rfl dX1_dayInMonth_15 rfl)
    (e_each_cons (r_bipush X (n := 12) (v := 12) dX1_dayInMonth_16 (by decide) rfl)
    (e_each_cons (r_irem X dX1_dayInMonth_18 rfl)
    (e_each_cons (r_ialdM X dX1_dayInMonth_19 rfl)
    (e_each_cons (r_istore_n X (k := 2) (i := 2) rfl dX1_dayInMonth_20 (by decide) rfl)
    (e_each_cons (r_gets X (index := 15) dX1_dayInMonth_21 w4_90 rfl)
    (e_each_cons (r_iload_n X (k := 0) (i := 0) rfl dX1_dayInMonth_24 rfl)
    (e_each_cons (r_bipush X (n := 12) (v := 12) dX1_dayInMonth_25 (by decide) rfl)
    (e_each_cons (r_irem X dX1_dayInMonth_27 rfl)
    (e_each_cons (r_iconst X (n := 1) (v := 1) dX1_dayInMonth_28 (by decide) rfl)
    (e_each_cons (r_iadd X dX1_dayInMonth_29 rfl)
    (e_each_cons (r_ialdM X dX1_dayInMonth_30 rfl)
    (e_each_cons (r_iload_n X (k := 2) (i := 2) rfl dX1_dayInMonth_31 rfl)
    (e_each_cons (r_isub X dX1_dayInMonth_32 rfl)
    (e_each_cons (r_istore_n X (k := 3) (i := 3) rfl dX1_dayInMonth_33 (by decide) rfl)
    (e_each_cons (r_iload_n X (k := 1) (i := 1) rfl dX1_dayInMonth_34 rfl)
    (e_each_cons (r_iload_n X (k := 3) (i := 3) rfl dX1_dayInMonth_35 rfl)
    (e_each_cons (r_icmp_le X (off := 7) (t := 43) dX1_dayInMonth_36 (by decide) rfl)
    (e_each_cons (r_iconst X (n := (-1)) (v := (-1)) dX1_dayInMonth_39 (by decide) rfl)
    (e_each_cons (r_goto X (off := 17) (t := 57) dX1_dayInMonth_40 (by decide))
    (e_each_cons (r_iload_n X (k := 0) (i := 0) rfl dX1_dayInMonth_43 rfl)
    (e_each_cons (r_bipush X (n := 12) (v := 12) dX1_dayInMonth_44 (by decide) rfl)
    (e_each_cons (r_idiv X dX1_dayInMonth_46 rfl)
    (e_each_cons (r_sipush X (n := 365) (v := 365) dX1_dayInMonth_47 (by decide) rfl)
    (e_each_cons (r_imul X dX1_dayInMonth_50 rfl)
    (e_each_cons (r_iload_n X (k := 2) (i := 2) rfl dX1_dayInMonth_51 rfl)
    (e_each_cons (r_iadd X dX1_dayInMonth_52 rfl)
    (e_each_cons (r_iload_n X (k := 1) (i := 1) rfl dX1_dayInMonth_53 rfl)
    (e_each_cons (r_iadd X dX1_dayInMonth_54 rfl)
    (e_each_cons (r_iconst X (n := 1) (v := 1) dX1_dayInMonth_55 (by decide) rfl)
    (e_each_cons (r_isub X dX1_dayInMonth_56 rfl)
    (e_each_cons (r_ireti X dX1_dayInMonth_57 rfl)
    (e_each_nil))))))))))))))))))))))))))))))))))))))))
