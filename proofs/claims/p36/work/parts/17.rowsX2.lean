/-! TABLES (by program): the rows of X2 -/
theorem dX2_shownBits_0 : decode cX2_shownBits 0 = .ok (.aload_n 0, 1) := by decide +kernel
theorem dX2_shownBits_1 : decode cX2_shownBits 1 = .ok (.getfield 29, 3) := by decide +kernel
theorem dX2_shownBits_4 : decode cX2_shownBits 4 = .ok (.ifCond .eq 21, 3) := by decide +kernel
theorem dX2_shownBits_7 : decode cX2_shownBits 7 = .ok (.iconst 1, 1) := by decide +kernel
theorem dX2_shownBits_8 : decode cX2_shownBits 8 = .ok (.aload_n 0, 1) := by decide +kernel
theorem dX2_shownBits_9 : decode cX2_shownBits 9 = .ok (.getfield 76, 3) := by decide +kernel
theorem dX2_shownBits_12 : decode cX2_shownBits 12 = .ok (.ishl, 1) := by decide +kernel
theorem dX2_shownBits_13 : decode cX2_shownBits 13 = .ok (.iconst 1, 1) := by decide +kernel
theorem dX2_shownBits_14 : decode cX2_shownBits 14 = .ok (.isub, 1) := by decide +kernel
theorem dX2_shownBits_15 : decode cX2_shownBits 15 = .ok (.aload_n 0, 1) := by decide +kernel
theorem dX2_shownBits_16 : decode cX2_shownBits 16 = .ok (.getfield 79, 3) := by decide +kernel
theorem dX2_shownBits_19 : decode cX2_shownBits 19 = .ok (.iconst (-1), 1) := by decide +kernel
theorem dX2_shownBits_20 : decode cX2_shownBits 20 = .ok (.ixor, 1) := by decide +kernel
theorem dX2_shownBits_21 : decode cX2_shownBits 21 = .ok (.iand, 1) := by decide +kernel
theorem dX2_shownBits_22 : decode cX2_shownBits 22 = .ok (.goto 4, 3) := by decide +kernel
theorem dX2_shownBits_25 : decode cX2_shownBits 25 = .ok (.iconst 0, 1) := by decide +kernel
theorem dX2_shownBits_26 : decode cX2_shownBits 26 = .ok (.ireturn, 1) := by decide +kernel
def pg_X2_shownBits (l : Launch) (g : EG) : List (Nat × ES) := [(0, s_ldP 0), (1, s_getI 1 0), (4, s_if_eq 25), (7, s_c (.inl 1)), (8, s_ldP 0), (9, s_getI 1 10), (12, s_ii (fun x y => x <<< (y &&& 31))), (13, s_c (.inl 1)), (14, s_ii (fun x y => x - y)), (15, s_ldP 0), (16, s_getI 1 11), (19, s_c (.inl (-1))), (20, s_ii (fun x y => x ^^^ y)), (21, s_ii (fun x y => x &&& y)), (22, s_goto 26), (25, s_c (.inl 0)), (26, s_ireti)]
set_option maxRecDepth 100000 in
theorem ok_X2_shownBits {l : Launch} {g : EG} : e_okp l g sg_X2_shownBits "CalendarSync$Event" (pg_X2_shownBits l g) := fun p e R s m args below meth c ex M0 Q X =>
    e_each_cons (r_aload_n X (k := 0) (i := 0) rfl dX2_shownBits_0 rfl)
    (e_each_cons (r_getI X (index := 29) (ci := 1) (k := 0) dX2_shownBits_1 (by decide) (by decide) rfl w1_83 rfl)
    (e_each_cons (r_if_eq X (off := 21) (t := 25) dX2_shownBits_4 (by decide) rfl)
    (e_each_cons (r_iconst X (n := 1) (v := 1) dX2_shownBits_7 (by decide) rfl)
    (e_each_cons (r_aload_n X (k := 0) (i := 0) rfl dX2_shownBits_8 rfl)
    (e_each_cons (r_getI X (index := 76) (ci := 1) (k := 10) dX2_shownBits_9 (by decide) (by decide) rfl w1_110 rfl)
    (e_each_cons (r_ishl X dX2_shownBits_12 rfl)
    (e_each_cons (r_iconst X (n := 1) (v := 1) dX2_shownBits_13 (by decide) rfl)
    (e_each_cons (r_isub X dX2_shownBits_14 rfl)
    (e_each_cons (r_aload_n X (k := 0) (i := 0) rfl dX2_shownBits_15 rfl)
    (e_each_cons (r_getI X (index := 79) (ci := 1) (k := 11) dX2_shownBits_16 (by decide) (by decide) rfl w1_113 rfl)
    (e_each_cons (r_iconst X (n := (-1)) (v := (-1)) dX2_shownBits_19 (by decide) rfl)
    (e_each_cons (r_ixor X dX2_shownBits_20 rfl)
    (e_each_cons (r_iand X dX2_shownBits_21 rfl)
    (e_each_cons (r_goto X (off := 4) (t := 26) dX2_shownBits_22 (by decide))
    (e_each_cons (r_iconst X (n := 0) (v := 0) dX2_shownBits_25 (by decide) rfl)
    (e_each_cons (r_ireti X dX2_shownBits_26 rfl)
    (e_each_nil)))))))))))))))))
theorem dX2_dayOf_0 : decode cX2_dayOf 0 = .ok (.aload_n 0, 1) := by decide +kernel
theorem dX2_dayOf_1 : decode cX2_dayOf 1 = .ok (.getfield 82, 3) := by decide +kernel
theorem dX2_dayOf_4 : decode cX2_dayOf 4 = .ok (.iload_n 1, 1) := by decide +kernel
theorem dX2_dayOf_5 : decode cX2_dayOf 5 = .ok (.invokestatic 97, 3) := by decide +kernel
theorem dX2_dayOf_8 : decode cX2_dayOf 8 = .ok (.ifCond .eq 16, 3) := by decide +kernel
theorem dX2_dayOf_11 : decode cX2_dayOf 11 = .ok (.aload_n 0, 1) := by decide +kernel
theorem dX2_dayOf_12 : decode cX2_dayOf 12 = .ok (.getfield 19, 3) := by decide +kernel
theorem dX2_dayOf_15 : decode cX2_dayOf 15 = .ok (.iload_n 1, 1) := by decide +kernel
theorem dX2_dayOf_16 : decode cX2_dayOf 16 = .ok (.iaload, 1) := by decide +kernel
theorem dX2_dayOf_17 : decode cX2_dayOf 17 = .ok (.sipush 1440, 3) := by decide +kernel
theorem dX2_dayOf_20 : decode cX2_dayOf 20 = .ok (.idiv, 1) := by decide +kernel
theorem dX2_dayOf_21 : decode cX2_dayOf 21 = .ok (.goto 9, 3) := by decide +kernel
theorem dX2_dayOf_24 : decode cX2_dayOf 24 = .ok (.aload_n 0, 1) := by decide +kernel
theorem dX2_dayOf_25 : decode cX2_dayOf 25 = .ok (.getfield 15, 3) := by decide +kernel
theorem dX2_dayOf_28 : decode cX2_dayOf 28 = .ok (.iload_n 1, 1) := by decide +kernel
theorem dX2_dayOf_29 : decode cX2_dayOf 29 = .ok (.iaload, 1) := by decide +kernel
theorem dX2_dayOf_30 : decode cX2_dayOf 30 = .ok (.ireturn, 1) := by decide +kernel
def pg_X2_dayOf (l : Launch) (g : EG) : List (Nat × ES) := [(0, s_ldP 0), (1, s_getI 1 12), (4, s_ldI 1), (5, s_callS l g sg_X2_dayOf sg_X10_hasBit), (8, s_if_eq 24), (11, s_ldP 0), (12, s_getP 1 14), (15, s_ldI 1), (16, s_iald), (17, s_c (.inl 1440)), (20, s_iid (fun x y => x / y) (fun _ y => ¬ y = 0)), (21, s_goto 30), (24, s_ldP 0), (25, s_getP 1 13), (28, s_ldI 1), (29, s_iald), (30, s_ireti)]
set_option maxRecDepth 100000 in
theorem ok_X2_dayOf {l : Launch} {g : EG} : e_okp l g sg_X2_dayOf "CalendarSync$Event" (pg_X2_dayOf l g) := fun p e R s m args below meth c ex M0 Q X =>
    e_each_cons (r_aload_n X (k := 0) (i := 0) rfl dX2_dayOf_0 rfl)
    (e_each_cons (r_getI X (index := 82) (ci := 1) (k := 12) dX2_dayOf_1 (by decide) (by decide) rfl w1_116 rfl)
    (e_each_cons (r_iload_n X (k := 1) (i := 1) rfl dX2_dayOf_4 rfl)
    (e_each_cons (r_callSN X rfl (τ := sg_X10_hasBit) (index := 97) (host := "CalendarSync") dX2_dayOf_5 wn2_238 w2_224 cs_X10_hasBit rfl ⟨by decide, by decide⟩ rfl)
    (e_each_cons (r_if_eq X (off := 16) (t := 24) dX2_dayOf_8 (by decide) rfl)
    (e_each_cons (r_aload_n X (k := 0) (i := 0) rfl dX2_dayOf_11 rfl)
    (e_each_cons (r_getP X (index := 19) (ci := 1) (k := 14) dX2_dayOf_12 (by decide) (by decide) rfl w1_120 rfl)
    (e_each_cons (r_iload_n X (k := 1) (i := 1) rfl dX2_dayOf_15 rfl)
    (e_each_cons (r_iald X dX2_dayOf_16 rfl)
    (e_each_cons (r_sipush X (n := 1440) (v := 1440) dX2_dayOf_17 (by decide) rfl)
    (e_each_cons (r_idiv X dX2_dayOf_20 rfl)
    (e_each_cons (r_goto X (off := 9) (t := 30) dX2_dayOf_21 (by decide))
    (e_each_cons (r_aload_n X (k := 0) (i := 0) rfl dX2_dayOf_24 rfl)
    (e_each_cons (r_getP X (index := 15) (ci := 1) (k := 13) dX2_dayOf_25 (by decide) (by decide) rfl w1_118 rfl)
    (e_each_cons (r_iload_n X (k := 1) (i := 1) rfl dX2_dayOf_28 rfl)
    (e_each_cons (r_iald X dX2_dayOf_29 rfl)
    (e_each_cons (r_ireti X dX2_dayOf_30 rfl)
    (e_each_nil)))))))))))))))))
theorem dX2_minuteOf_0 : decode cX2_minuteOf 0 = .ok (.aload_n 0, 1) := by decide +kernel
theorem dX2_minuteOf_1 : decode cX2_minuteOf 1 = .ok (.getfield 82, 3) := by decide +kernel
theorem dX2_minuteOf_4 : decode cX2_minuteOf 4 = .ok (.iload_n 1, 1) := by decide +kernel
theorem dX2_minuteOf_5 : decode cX2_minuteOf 5 = .ok (.invokestatic 97, 3) := by decide +kernel
theorem dX2_minuteOf_8 : decode cX2_minuteOf 8 = .ok (.ifCond .eq 16, 3) := by decide +kernel
theorem dX2_minuteOf_11 : decode cX2_minuteOf 11 = .ok (.aload_n 0, 1) := by decide +kernel
theorem dX2_minuteOf_12 : decode cX2_minuteOf 12 = .ok (.getfield 19, 3) := by decide +kernel
theorem dX2_minuteOf_15 : decode cX2_minuteOf 15 = .ok (.iload_n 1, 1) := by decide +kernel
theorem dX2_minuteOf_16 : decode cX2_minuteOf 16 = .ok (.iaload, 1) := by decide +kernel
theorem dX2_minuteOf_17 : decode cX2_minuteOf 17 = .ok (.sipush 1440, 3) := by decide +kernel
theorem dX2_minuteOf_20 : decode cX2_minuteOf 20 = .ok (.irem, 1) := by decide +kernel
theorem dX2_minuteOf_21 : decode cX2_minuteOf 21 = .ok (.goto 7, 3) := by decide +kernel
theorem dX2_minuteOf_24 : decode cX2_minuteOf 24 = .ok (.aload_n 0, 1) := by decide +kernel
theorem dX2_minuteOf_25 : decode cX2_minuteOf 25 = .ok (.getfield 36, 3) := by decide +kernel
theorem dX2_minuteOf_28 : decode cX2_minuteOf 28 = .ok (.ireturn, 1) := by decide +kernel
def pg_X2_minuteOf (l : Launch) (g : EG) : List (Nat × ES) := [(0, s_ldP 0), (1, s_getI 1 12), (4, s_ldI 1), (5, s_callS l g sg_X2_minuteOf sg_X10_hasBit), (8, s_if_eq 24), (11, s_ldP 0), (12, s_getP 1 14), (15, s_ldI 1), (16, s_iald), (17, s_c (.inl 1440)), (20, s_iid (fun x y => x - x / y * y) (fun _ y => ¬ y = 0)), (21, s_goto 28), (24, s_ldP 0), (25, s_getI 1 2), (28, s_ireti)]
set_option maxRecDepth 100000 in
theorem ok_X2_minuteOf {l : Launch} {g : EG} : e_okp l g sg_X2_minuteOf "CalendarSync$Event" (pg_X2_minuteOf l g) := fun p e R s m args below meth c ex M0 Q X =>
    e_each_cons (r_aload_n X (k := 0) (i := 0) rfl dX2_minuteOf_0 rfl)
    (e_each_cons (r_getI X (index := 82) (ci := 1) (k := 12) dX2_minuteOf_1 (by decide) (by decide) rfl w1_116 rfl)
    (e_each_cons (r_iload_n X (k := 1) (i := 1) rfl dX2_minuteOf_4 rfl)
    (e_each_cons (r_callSN X rfl (τ := sg_X10_hasBit) (index := 97) (host := "CalendarSync") dX2_minuteOf_5 wn2_238 w2_224 cs_X10_hasBit rfl ⟨by decide, by decide⟩ rfl)
    (e_each_cons (r_if_eq X (off := 16) (t := 24) dX2_minuteOf_8 (by decide) rfl)
    (e_each_cons (r_aload_n X (k := 0) (i := 0) rfl dX2_minuteOf_11 rfl)
    (e_each_cons (r_getP X (index := 19) (ci := 1) (k := 14) dX2_minuteOf_12 (by decide) (by decide) rfl w1_120 rfl)
    (e_each_cons (r_iload_n X (k := 1) (i := 1) rfl dX2_minuteOf_15 rfl)
    (e_each_cons (r_iald X dX2_minuteOf_16 rfl)
    (e_each_cons (r_sipush X (n := 1440) (v := 1440) dX2_minuteOf_17 (by decide) rfl)
    (e_each_cons (r_irem X dX2_minuteOf_20 rfl)
    (e_each_cons (r_goto X (off := 7) (t := 28) dX2_minuteOf_21 (by decide))
    (e_each_cons (r_aload_n X (k := 0) (i := 0) rfl dX2_minuteOf_24 rfl)
    (e_each_cons (r_getI X (index := 36) (ci := 1) (k := 2) dX2_minuteOf_25 (by decide) (by decide) rfl w1_89 rfl)
    (e_each_cons (r_ireti X dX2_minuteOf_28 rfl)
    (e_each_nil)))))))))))))))
theorem dX2_forgetDates_0 : decode cX2_forgetDates 0 = .ok (.aload_n 0, 1) := by decide +kernel
theorem dX2_forgetDates_1 : decode cX2_forgetDates 1 = .ok (.iconst 0, 1) := by decide +kernel
theorem dX2_forgetDates_2 : decode cX2_forgetDates 2 = .ok (.putfield 76, 3) := by decide +kernel
theorem dX2_forgetDates_5 : decode cX2_forgetDates 5 = .ok (.aload_n 0, 1) := by decide +kernel
theorem dX2_forgetDates_6 : decode cX2_forgetDates 6 = .ok (.iconst 0, 1) := by decide +kernel
theorem dX2_forgetDates_7 : decode cX2_forgetDates 7 = .ok (.putfield 79, 3) := by decide +kernel
theorem dX2_forgetDates_10 : decode cX2_forgetDates 10 = .ok (.aload_n 0, 1) := by decide +kernel
theorem dX2_forgetDates_11 : decode cX2_forgetDates 11 = .ok (.iconst 0, 1) := by decide +kernel
theorem dX2_forgetDates_12 : decode cX2_forgetDates 12 = .ok (.putfield 82, 3) := by decide +kernel
theorem dX2_forgetDates_15 : decode cX2_forgetDates 15 = .ok (.aload_n 0, 1) := by decide +kernel
theorem dX2_forgetDates_16 : decode cX2_forgetDates 16 = .ok (.getfield 25, 3) := by decide +kernel
theorem dX2_forgetDates_19 : decode cX2_forgetDates 19 = .ok (.iconst 0, 1) := by decide +kernel
theorem dX2_forgetDates_20 : decode cX2_forgetDates 20 = .ok (.lconst 0, 1) := by decide +kernel
theorem dX2_forgetDates_21 : decode cX2_forgetDates 21 = .ok (.lastore, 1) := by decide +kernel
theorem dX2_forgetDates_22 : decode cX2_forgetDates 22 = .ok (.aload_n 0, 1) := by decide +kernel
theorem dX2_forgetDates_23 : decode cX2_forgetDates 23 = .ok (.getfield 25, 3) := by decide +kernel
theorem dX2_forgetDates_26 : decode cX2_forgetDates 26 = .ok (.iconst 1, 1) := by decide +kernel
theorem dX2_forgetDates_27 : decode cX2_forgetDates 27 = .ok (.lconst 0, 1) := by decide +kernel
theorem dX2_forgetDates_28 : decode cX2_forgetDates 28 = .ok (.lastore, 1) := by decide +kernel
theorem dX2_forgetDates_29 : decode cX2_forgetDates 29 = .ok (.return_, 1) := by decide +kernel
def pg_X2_forgetDates (l : Launch) (g : EG) : List (Nat × ES) := [(0, s_ldP 0), (1, s_c (.inl 0)), (2, s_putI 1 10), (5, s_ldP 0), (6, s_c (.inl 0)), (7, s_putI 1 11), (10, s_ldP 0), (11, s_c (.inl 0)), (12, s_putI 1 12), (15, s_ldP 0), (16, s_getP 1 16), (19, s_c (.inl 0)), (20, s_c (.inr (.inl 0))), (21, s_last), (22, s_ldP 0), (23, s_getP 1 16), (26, s_c (.inl 1)), (27, s_c (.inr (.inl 0))), (28, s_last), (29, s_vret)]
set_option maxRecDepth 100000 in
theorem ok_X2_forgetDates {l : Launch} {g : EG} : e_okp l g sg_X2_forgetDates "CalendarSync$Event" (pg_X2_forgetDates l g) := fun p e R s m args below meth c ex M0 Q X =>
    e_each_cons (r_aload_n X (k := 0) (i := 0) rfl dX2_forgetDates_0 rfl)
    (e_each_cons (r_iconst X (n := 0) (v := 0) dX2_forgetDates_1 (by decide) rfl)
    (e_each_cons (r_putI X (index := 76) (ci := 1) (k := 10) dX2_forgetDates_2 (by decide) (by decide) rfl rfl w1_110 rfl)
    (e_each_cons (r_aload_n X (k := 0) (i := 0) rfl dX2_forgetDates_5 rfl)
    (e_each_cons (r_iconst X (n := 0) (v := 0) dX2_forgetDates_6 (by decide) rfl)
    (e_each_cons (r_putI X (index := 79) (ci := 1) (k := 11) dX2_forgetDates_7 (by decide) (by decide) rfl rfl w1_113 rfl)
    (e_each_cons (r_aload_n X (k := 0) (i := 0) rfl dX2_forgetDates_10 rfl)
    (e_each_cons (r_iconst X (n := 0) (v := 0) dX2_forgetDates_11 (by decide) rfl)
    (e_each_cons (r_putI X (index := 82) (ci := 1) (k := 12) dX2_forgetDates_12 (by decide) (by decide) rfl rfl w1_116 rfl)
    (e_each_cons (r_aload_n X (k := 0) (i := 0) rfl dX2_forgetDates_15 rfl)
    (e_each_cons (r_getP X (index := 25) (ci := 1) (k := 16) dX2_forgetDates_16 (by decide) (by decide) rfl w1_123 rfl)
    (e_each_cons (r_iconst X (n := 0) (v := 0) dX2_forgetDates_19 (by decide) rfl)
    (e_each_cons (r_lconst X (n := 0) (v := 0) dX2_forgetDates_20 (by decide) rfl)
    (e_each_cons (r_last X dX2_forgetDates_21 rfl)
    (e_each_cons (r_aload_n X (k := 0) (i := 0) rfl dX2_forgetDates_22 rfl)
    (e_each_cons (r_getP X (index := 25) (ci := 1) (k := 16) dX2_forgetDates_23 (by decide) (by decide) rfl w1_123 rfl)
    (e_each_cons (r_iconst X (n := 1) (v := 1) dX2_forgetDates_26 (by decide) rfl)
    (e_each_cons (r_lconst X (n := 0) (v := 0) dX2_forgetDates_27 (by decide) rfl)
    (e_each_cons (r_last X dX2_forgetDates_28 rfl)
    (e_each_cons (r_vret X dX2_forgetDates_29 rfl)
    (e_each_nil))))))))))))))))))))
theorem dX2_addDate_0 : decode cX2_addDate 0 = .ok (.aload_n 0, 1) := by decide +kernel
theorem dX2_addDate_1 : decode cX2_addDate 1 = .ok (.getfield 76, 3) := by decide +kernel
theorem dX2_addDate_4 : decode cX2_addDate 4 = .ok (.aload_n 0, 1) := by decide +kernel
theorem dX2_addDate_5 : decode cX2_addDate 5 = .ok (.getfield 57, 3) := by decide +kernel
theorem dX2_addDate_8 : decode cX2_addDate 8 = .ok (.if_icmp .ge 43, 3) := by decide +kernel
theorem dX2_addDate_11 : decode cX2_addDate 11 = .ok (.aload_n 0, 1) := by decide +kernel
theorem dX2_addDate_12 : decode cX2_addDate 12 = .ok (.getfield 76, 3) := by decide +kernel
theorem dX2_addDate_15 : decode cX2_addDate 15 = .ok (.bipush 30, 2) := by decide +kernel
theorem dX2_addDate_17 : decode cX2_addDate 17 = .ok (.if_icmp .ge 34, 3) := by decide +kernel
theorem dX2_addDate_20 : decode cX2_addDate 20 = .ok (.iload_n 1, 1) := by decide +kernel
theorem dX2_addDate_21 : decode cX2_addDate 21 = .ok (.ifCond .lt 30, 3) := by decide +kernel
theorem dX2_addDate_24 : decode cX2_addDate 24 = .ok (.iload_n 1, 1) := by decide +kernel
theorem dX2_addDate_25 : decode cX2_addDate 25 = .ok (.sipush 1094, 3) := by decide +kernel
theorem dX2_addDate_28 : decode cX2_addDate 28 = .ok (.if_icmp .gt 23, 3) := by decide +kernel
theorem dX2_addDate_31 : decode cX2_addDate 31 = .ok (.aload_n 0, 1) := by decide +kernel
theorem dX2_addDate_32 : decode cX2_addDate 32 = .ok (.getfield 15, 3) := by decide +kernel
theorem dX2_addDate_35 : decode cX2_addDate 35 = .ok (.aload_n 0, 1) := by decide +kernel
theorem dX2_addDate_36 : decode cX2_addDate 36 = .ok (.getfield 76, 3) := by decide +kernel
theorem dX2_addDate_39 : decode cX2_addDate 39 = .ok (.iload_n 1, 1) := by decide +kernel
theorem dX2_addDate_40 : decode cX2_addDate 40 = .ok (.iastore, 1) := by decide +kernel
theorem dX2_addDate_41 : decode cX2_addDate 41 = .ok (.aload_n 0, 1) := by decide +kernel
theorem dX2_addDate_42 : decode cX2_addDate 42 = .ok (.dup, 1) := by decide +kernel
theorem dX2_addDate_43 : decode cX2_addDate 43 = .ok (.getfield 76, 3) := by decide +kernel
theorem dX2_addDate_46 : decode cX2_addDate 46 = .ok (.iconst 1, 1) := by decide +kernel
theorem dX2_addDate_47 : decode cX2_addDate 47 = .ok (.iadd, 1) := by decide +kernel
theorem dX2_addDate_48 : decode cX2_addDate 48 = .ok (.putfield 76, 3) := by decide +kernel
theorem dX2_addDate_51 : decode cX2_addDate 51 = .ok (.return_, 1) := by decide +kernel
def pg_X2_addDate (l : Launch) (g : EG) : List (Nat × ES) := [(0, s_ldP 0), (1, s_getI 1 10), (4, s_ldP 0), (5, s_getI 1 8), (8, s_icmp_ge 51), (11, s_ldP 0), (12, s_getI 1 10), (15, s_c (.inl 30)), (17, s_icmp_ge 51), (20, s_ldI 1), (21, s_if_lt 51), (24, s_ldI 1), (25, s_c (.inl 1094)), (28, s_icmp_gt 51), (31, s_ldP 0), (32, s_getP 1 13), (35, s_ldP 0), (36, s_getI 1 10), (39, s_ldI 1), (40, s_iast), (41, s_ldP 0), (42, s_dup), (43, s_getI 1 10), (46, s_c (.inl 1)), (47, s_ii (fun x y => x + y)), (48, s_putI 1 10), (51, s_vret)]
set_option maxRecDepth 100000 in
theorem ok_X2_addDate {l : Launch} {g : EG} : e_okp l g sg_X2_addDate "CalendarSync$Event" (pg_X2_addDate l g) := fun p e R s m args below meth c ex M0 Q X =>
    e_each_cons (r_aload_n X (k := 0) (i := 0) rfl dX2_addDate_0 rfl)
    (e_each_cons (r_getI X (index := 76) (ci := 1) (k := 10) dX2_addDate_1 (by decide) (by decide) rfl w1_110 rfl)
    (e_each_cons (r_aload_n X (k := 0) (i := 0) rfl dX2_addDate_4 rfl)
    (e_each_cons (r_getI X (index := 57) (ci := 1) (k := 8) dX2_addDate_5 (by decide) (by decide) rfl w1_104 rfl)
    (e_each_cons (r_icmp_ge X (off := 43) (t := 51) dX2_addDate_8 (by decide) rfl)
    (e_each_cons (r_aload_n X (k := 0) (i := 0) rfl dX2_addDate_11 rfl)
    (e_each_cons (r_getI X (index := 76) (ci := 1) (k := 10) dX2_addDate_12 (by decide) (by decide) rfl w1_110 rfl)
    (e_each_cons (r_bipush X (n := 30) (v := 30) dX2_addDate_15 (by decide) rfl)
    (e_each_cons (r_icmp_ge X (off := 34) (t := 51) dX2_addDate_17 (by decide) rfl)
    (e_each_cons (r_iload_n X (k := 1) (i := 1) rfl dX2_addDate_20 rfl)
    (e_each_cons (r_if_lt X (off := 30) (t := 51) dX2_addDate_21 (by decide) rfl)
    (e_each_cons (r_iload_n X (k := 1) (i := 1) rfl dX2_addDate_24 rfl)
    (e_each_cons (r_sipush X (n := 1094) (v := 1094) dX2_addDate_25 (by decide) rfl)
    (e_each_cons (r_icmp_gt X (off := 23) (t := 51) dX2_addDate_28 (by decide) rfl)
    (e_each_cons (r_aload_n X (k := 0) (i := 0) rfl dX2_addDate_31 rfl)
    (e_each_cons (r_getP X (index := 15) (ci := 1) (k := 13) dX2_addDate_32 (by decide) (by decide) rfl w1_118 rfl)
    (e_each_cons (r_aload_n X (k := 0) (i := 0) rfl dX2_addDate_35 rfl)
    (e_each_cons (r_getI X (index := 76) (ci := 1) (k := 10) dX2_addDate_36 (by decide) (by decide) rfl w1_110 rfl)
    (e_each_cons (r_iload_n X (k := 1) (i := 1) rfl dX2_addDate_39 rfl)
    (e_each_cons (r_iast X dX2_addDate_40 rfl)
    (e_each_cons (r_aload_n X (k := 0) (i := 0) rfl dX2_addDate_41 rfl)
    (e_each_cons (r_dup X dX2_addDate_42 rfl)
    (e_each_cons (r_getI X (index := 76) (ci := 1) (k := 10) dX2_addDate_43 (by decide) (by decide) rfl w1_110 rfl)
    (e_each_cons (r_iconst X (n := 1) (v := 1) dX2_addDate_46 (by decide) rfl)
    (e_each_cons (r_iadd X dX2_addDate_47 rfl)
    (e_each_cons (r_putI X (index := 76) (ci := 1) (k := 10) dX2_addDate_48 (by decide) (by decide) rfl rfl w1_110 rfl)
    (e_each_cons (r_vret X dX2_addDate_51 rfl)
    (e_each_nil)))))))))))))))))))))))))))
theorem dX2_setOnce_0 : decode cX2_setOnce 0 = .ok (.aload_n 0, 1) := by decide +kernel
theorem dX2_setOnce_1 : decode cX2_setOnce 1 = .ok (.iconst 0, 1) := by decide +kernel
theorem dX2_setOnce_2 : decode cX2_setOnce 2 = .ok (.putfield 48, 3) := by decide +kernel
theorem dX2_setOnce_5 : decode cX2_setOnce 5 = .ok (.aload_n 0, 1) := by decide +kernel
theorem dX2_setOnce_6 : decode cX2_setOnce 6 = .ok (.iconst 0, 1) := by decide +kernel
theorem dX2_setOnce_7 : decode cX2_setOnce 7 = .ok (.putfield 51, 3) := by decide +kernel
theorem dX2_setOnce_10 : decode cX2_setOnce 10 = .ok (.aload_n 0, 1) := by decide +kernel
theorem dX2_setOnce_11 : decode cX2_setOnce 11 = .ok (.iconst 0, 1) := by decide +kernel
theorem dX2_setOnce_12 : decode cX2_setOnce 12 = .ok (.putfield 54, 3) := by decide +kernel
theorem dX2_setOnce_15 : decode cX2_setOnce 15 = .ok (.aload_n 0, 1) := by decide +kernel
theorem dX2_setOnce_16 : decode cX2_setOnce 16 = .ok (.iconst 1, 1) := by decide +kernel
theorem dX2_setOnce_17 : decode cX2_setOnce 17 = .ok (.putfield 57, 3) := by decide +kernel
theorem dX2_setOnce_20 : decode cX2_setOnce 20 = .ok (.aload_n 0, 1) := by decide +kernel
theorem dX2_setOnce_21 : decode cX2_setOnce 21 = .ok (.invokevirtual 60, 3) := by decide +kernel
theorem dX2_setOnce_24 : decode cX2_setOnce 24 = .ok (.aload_n 0, 1) := by decide +kernel
theorem dX2_setOnce_25 : decode cX2_setOnce 25 = .ok (.aload_n 0, 1) := by decide +kernel
theorem dX2_setOnce_26 : decode cX2_setOnce 26 = .ok (.getfield 33, 3) := by decide +kernel
theorem dX2_setOnce_29 : decode cX2_setOnce 29 = .ok (.invokevirtual 63, 3) := by decide +kernel
theorem dX2_setOnce_32 : decode cX2_setOnce 32 = .ok (.return_, 1) := by decide +kernel
def pg_X2_setOnce (l : Launch) (g : EG) : List (Nat × ES) := [(0, s_ldP 0), (1, s_c (.inl 0)), (2, s_putI 1 5), (5, s_ldP 0), (6, s_c (.inl 0)), (7, s_putI 1 6), (10, s_ldP 0), (11, s_c (.inl 0)), (12, s_putI 1 7), (15, s_ldP 0), (16, s_c (.inl 1)), (17, s_putI 1 8), (20, s_ldP 0), (21, s_callV l g sg_X2_setOnce sg_X2_forgetDates 1), (24, s_ldP 0), (25, s_ldP 0), (26, s_getI 1 1), (29, s_callV l g sg_X2_setOnce sg_X2_addDate 1), (32, s_vret)]
set_option maxRecDepth 100000 in
theorem ok_X2_setOnce {l : Launch} {g : EG} : e_okp l g sg_X2_setOnce "CalendarSync$Event" (pg_X2_setOnce l g) := fun p e R s m args below meth c ex M0 Q X =>
    e_each_cons (r_aload_n X (k := 0) (i := 0) rfl dX2_setOnce_0 rfl)
    (e_each_cons (r_iconst X (n := 0) (v := 0) dX2_setOnce_1 (by decide) rfl)
    (e_each_cons (r_putI X (index := 48) (ci := 1) (k := 5) dX2_setOnce_2 (by decide) (by decide) rfl rfl w1_98 rfl)
    (e_each_cons (r_aload_n X (k := 0) (i := 0) rfl dX2_setOnce_5 rfl)
    (e_each_cons (r_iconst X (n := 0) (v := 0) dX2_setOnce_6 (by decide) rfl)
    (e_each_cons (r_putI X (index := 51) (ci := 1) (k := 6) dX2_setOnce_7 (by decide) (by decide) rfl rfl w1_100 rfl)
    (e_each_cons (r_aload_n X (k := 0) (i := 0) rfl dX2_setOnce_10 rfl)
    (e_each_cons (r_iconst X (n := 0) (v := 0) dX2_setOnce_11 (by decide) rfl)
    (e_each_cons (r_putI X (index := 54) (ci := 1) (k := 7) dX2_setOnce_12 (by decide) (by decide) rfl rfl w1_102 rfl)
    (e_each_cons (r_aload_n X (k := 0) (i := 0) rfl dX2_setOnce_15 rfl)
    (e_each_cons (r_iconst X (n := 1) (v := 1) dX2_setOnce_16 (by decide) rfl)
    (e_each_cons (r_putI X (index := 57) (ci := 1) (k := 8) dX2_setOnce_17 (by decide) (by decide) rfl rfl w1_104 rfl)
    (e_each_cons (r_aload_n X (k := 0) (i := 0) rfl dX2_setOnce_20 rfl)
    (e_each_cons (r_callV X rfl (τ := sg_X2_forgetDates) (index := 60) (ci := 1) dX2_setOnce_21 (by decide) rfl w4_34 w4_36 ws_13 cs_X2_forgetDates rfl ⟨by decide, by decide⟩ rfl)
    (e_each_cons (r_aload_n X (k := 0) (i := 0) rfl dX2_setOnce_24 rfl)
    (e_each_cons (r_aload_n X (k := 0) (i := 0) rfl dX2_setOnce_25 rfl)
    (e_each_cons (r_getI X (index := 33) (ci := 1) (k := 1) dX2_setOnce_26 (by decide) (by decide) rfl w1_87 rfl)
    (e_each_cons (r_callV X rfl (τ := sg_X2_addDate) (index := 63) (ci := 1) dX2_setOnce_29 (by decide) rfl w4_38 w4_40 ws_14 cs_X2_addDate rfl ⟨by decide, by decide⟩ rfl)
    (e_each_cons (r_vret X dX2_setOnce_32 rfl)
    (e_each_nil)))))))))))))))))))
theorem dX2_startAt_0 : decode cX2_startAt 0 = .ok (.aload_n 0, 1) := by decide +kernel
theorem dX2_startAt_1 : decode cX2_startAt 1 = .ok (.iconst 1, 1) := by decide +kernel
theorem dX2_startAt_2 : decode cX2_startAt 2 = .ok (.putfield 29, 3) := by decide +kernel
theorem dX2_startAt_5 : decode cX2_startAt 5 = .ok (.aload_n 0, 1) := by decide +kernel
theorem dX2_startAt_6 : decode cX2_startAt 6 = .ok (.iload_n 1, 1) := by decide +kernel
theorem dX2_startAt_7 : decode cX2_startAt 7 = .ok (.putfield 33, 3) := by decide +kernel
theorem dX2_startAt_10 : decode cX2_startAt 10 = .ok (.aload_n 0, 1) := by decide +kernel
theorem dX2_startAt_11 : decode cX2_startAt 11 = .ok (.iload_n 2, 1) := by decide +kernel
theorem dX2_startAt_12 : decode cX2_startAt 12 = .ok (.putfield 36, 3) := by decide +kernel
theorem dX2_startAt_15 : decode cX2_startAt 15 = .ok (.aload_n 0, 1) := by decide +kernel
theorem dX2_startAt_16 : decode cX2_startAt 16 = .ok (.iload_n 3, 1) := by decide +kernel
theorem dX2_startAt_17 : decode cX2_startAt 17 = .ok (.putfield 39, 3) := by decide +kernel
theorem dX2_startAt_20 : decode cX2_startAt 20 = .ok (.aload_n 0, 1) := by decide +kernel
theorem dX2_startAt_21 : decode cX2_startAt 21 = .ok (.iload 4, 2) := by decide +kernel
theorem dX2_startAt_23 : decode cX2_startAt 23 = .ok (.putfield 42, 3) := by decide +kernel
theorem dX2_startAt_26 : decode cX2_startAt 26 = .ok (.aload_n 0, 1) := by decide +kernel
theorem dX2_startAt_27 : decode cX2_startAt 27 = .ok (.getfield 22, 3) := by decide +kernel
theorem dX2_startAt_30 : decode cX2_startAt 30 = .ok (.iconst 0, 1) := by decide +kernel
theorem dX2_startAt_31 : decode cX2_startAt 31 = .ok (.iconst 0, 1) := by decide +kernel
theorem dX2_startAt_32 : decode cX2_startAt 32 = .ok (.iastore, 1) := by decide +kernel
theorem dX2_startAt_33 : decode cX2_startAt 33 = .ok (.aload_n 0, 1) := by decide +kernel
theorem dX2_startAt_34 : decode cX2_startAt 34 = .ok (.getfield 22, 3) := by decide +kernel
theorem dX2_startAt_37 : decode cX2_startAt 37 = .ok (.iconst 1, 1) := by decide +kernel
theorem dX2_startAt_38 : decode cX2_startAt 38 = .ok (.iconst 0, 1) := by decide +kernel
theorem dX2_startAt_39 : decode cX2_startAt 39 = .ok (.iastore, 1) := by decide +kernel
theorem dX2_startAt_40 : decode cX2_startAt 40 = .ok (.aload_n 0, 1) := by decide +kernel
theorem dX2_startAt_41 : decode cX2_startAt 41 = .ok (.invokevirtual 45, 3) := by decide +kernel
theorem dX2_startAt_44 : decode cX2_startAt 44 = .ok (.return_, 1) := by decide +kernel
def pg_X2_startAt (l : Launch) (g : EG) : List (Nat × ES) := [(0, s_ldP 0), (1, s_c (.inl 1)), (2, s_putI 1 0), (5, s_ldP 0), (6, s_ldI 1), (7, s_putI 1 1), (10, s_ldP 0), (11, s_ldI 2), (12, s_putI 1 2), (15, s_ldP 0), (16, s_ldI 3), (17, s_putI 1 3), (20, s_ldP 0), (21, s_ldI 4), (23, s_putI 1 4), (26, s_ldP 0), (27, s_getP 1 15), (30, s_c (.inl 0)), (31, s_c (.inl 0)), (32, s_iast), (33, s_ldP 0), (34, s_getP 1 15), (37, s_c (.inl 1)), (38, s_c (.inl 0)), (39, s_iast), (40, s_ldP 0), (41, s_callV l g sg_X2_startAt sg_X2_setOnce 1), (44, s_vret)]
set_option maxRecDepth 100000 in
theorem ok_X2_startAt {l : Launch} {g : EG} : e_okp l g sg_X2_startAt "CalendarSync$Event" (pg_X2_startAt l g) := fun p e R s m args below meth c ex M0 Q X =>
    e_each_cons (r_aload_n X (k := 0) (i := 0) rfl dX2_startAt_0 rfl)
    (e_each_cons (r_iconst X (n := 1) (v := 1) dX2_startAt_1 (by decide) rfl)
    (e_each_cons (r_putI X (index := 29) (ci := 1) (k := 0) dX2_startAt_2 (by decide) (by decide) rfl rfl w1_83 rfl)
    (e_each_cons (r_aload_n X (k := 0) (i := 0) rfl dX2_startAt_5 rfl)
    (e_each_cons (r_iload_n X (k := 1) (i := 1) rfl dX2_startAt_6 rfl)
    (e_each_cons (r_putI X (index := 33) (ci := 1) (k := 1) dX2_startAt_7 (by decide) (by decide) rfl rfl w1_87 rfl)
    (e_each_cons (r_aload_n X (k := 0) (i := 0) rfl dX2_startAt_10 rfl)
    (e_each_cons (r_iload_n X (k := 2) (i := 2) rfl dX2_startAt_11 rfl)
    (e_each_cons (r_putI X (index := 36) (ci := 1) (k := 2) dX2_startAt_12 (by decide) (by decide) rfl rfl w1_89 rfl)
    (e_each_cons (r_aload_n X (k := 0) (i := 0) rfl dX2_startAt_15 rfl)
    (e_each_cons (r_iload_n X (k := 3) (i := 3) rfl dX2_startAt_16 rfl)
    (e_each_cons (r_putI X (index := 39) (ci := 1) (k := 3) dX2_startAt_17 (by decide) (by decide) rfl rfl w1_91 rfl)
    (e_each_cons (r_aload_n X (k := 0) (i := 0) rfl dX2_startAt_20 rfl)
    (e_each_cons (r_iload X (i := 4) dX2_startAt_21 rfl)
    (e_each_cons (r_putI X (index := 42) (ci := 1) (k := 4) dX2_startAt_23 (by decide) (by decide) rfl rfl w1_95 rfl)
    (e_each_cons (r_aload_n X (k := 0) (i := 0) rfl dX2_startAt_26 rfl)
    (e_each_cons (r_getP X (index := 22) (ci := 1) (k := 15) dX2_startAt_27 (by decide) (by decide) rfl w1_121 rfl)
    (e_each_cons (r_iconst X (n := 0) (v := 0) dX2_startAt_30 (by decide) rfl)
    (e_each_cons (r_iconst X (n := 0) (v := 0) dX2_startAt_31 (by decide) rfl)
    (e_each_cons (r_iast X dX2_startAt_32 rfl)
    (e_each_cons (r_aload_n X (k := 0) (i := 0) rfl dX2_startAt_33 rfl)
    (e_each_cons (r_getP X (index := 22) (ci := 1) (k := 15) dX2_startAt_34 (by decide) (by decide) rfl w1_121 rfl)
    (e_each_cons (r_iconst X (n := 1) (v := 1) dX2_startAt_37 (by decide) rfl)
    (e_each_cons (r_iconst X (n := 0) (v := 0) dX2_startAt_38 (by decide) rfl)
    (e_each_cons (r_iast X dX2_startAt_39 rfl)
    (e_each_cons (r_aload_n X (k := 0) (i := 0) rfl dX2_startAt_40 rfl)
    (e_each_cons (r_callV X rfl (τ := sg_X2_setOnce) (index := 45) (ci := 1) dX2_startAt_41 (by decide) rfl w4_30 w4_32 ws_12 cs_X2_setOnce rfl ⟨by decide, by decide⟩ rfl)
    (e_each_cons (r_vret X dX2_startAt_44 rfl)
    (e_each_nil))))))))))))))))))))))))))))
theorem dX2_listDays_0 : decode cX2_listDays 0 = .ok (.iconst 0, 1) := by decide +kernel
theorem dX2_listDays_1 : decode cX2_listDays 1 = .ok (.istore_n 1, 1) := by decide +kernel
theorem dX2_listDays_2 : decode cX2_listDays 2 = .ok (.iload_n 1, 1) := by decide +kernel
theorem dX2_listDays_3 : decode cX2_listDays 3 = .ok (.aload_n 0, 1) := by decide +kernel
theorem dX2_listDays_4 : decode cX2_listDays 4 = .ok (.getfield 57, 3) := by decide +kernel
theorem dX2_listDays_7 : decode cX2_listDays 7 = .ok (.if_icmp .ge 24, 3) := by decide +kernel
theorem dX2_listDays_10 : decode cX2_listDays 10 = .ok (.aload_n 0, 1) := by decide +kernel
theorem dX2_listDays_11 : decode cX2_listDays 11 = .ok (.aload_n 0, 1) := by decide +kernel
theorem dX2_listDays_12 : decode cX2_listDays 12 = .ok (.getfield 33, 3) := by decide +kernel
theorem dX2_listDays_15 : decode cX2_listDays 15 = .ok (.iload_n 1, 1) := by decide +kernel
theorem dX2_listDays_16 : decode cX2_listDays 16 = .ok (.aload_n 0, 1) := by decide +kernel
theorem dX2_listDays_17 : decode cX2_listDays 17 = .ok (.getfield 51, 3) := by decide +kernel
theorem dX2_listDays_20 : decode cX2_listDays 20 = .ok (.imul, 1) := by decide +kernel
theorem dX2_listDays_21 : decode cX2_listDays 21 = .ok (.iadd, 1) := by decide +kernel
theorem dX2_listDays_22 : decode cX2_listDays 22 = .ok (.invokevirtual 63, 3) := by decide +kernel
theorem dX2_listDays_25 : decode cX2_listDays 25 = .ok (.iinc 1 1, 3) := by decide +kernel
theorem dX2_listDays_28 : decode cX2_listDays 28 = .ok (.goto (-26), 3) := by decide +kernel
theorem dX2_listDays_31 : decode cX2_listDays 31 = .ok (.return_, 1) := by decide +kernel
def pg_X2_listDays (l : Launch) (g : EG) : List (Nat × ES) := [(0, s_c (.inl 0)), (1, s_stI 1), (2, s_ldI 1), (3, s_ldP 0), (4, s_getI 1 8), (7, s_icmp_ge 31), (10, s_ldP 0), (11, s_ldP 0), (12, s_getI 1 1), (15, s_ldI 1), (16, s_ldP 0), (17, s_getI 1 6), (20, s_ii (fun x y => x * y)), (21, s_ii (fun x y => x + y)), (22, s_callV l g sg_X2_listDays sg_X2_addDate 1), (25, s_iinc 1 1), (28, s_goto 2), (31, s_vret)]
set_option maxRecDepth 100000 in
theorem ok_X2_listDays {l : Launch} {g : EG} : e_okp l g sg_X2_listDays "CalendarSync$Event" (pg_X2_listDays l g) := fun p e R s m args below meth c ex M0 Q X =>
    e_each_cons (r_iconst X (n := 0) (v := 0) dX2_listDays_0 (by decide) rfl)
    (e_each_cons (r_istore_n X (k := 1) (i := 1) rfl dX2_listDays_1 (by decide) rfl)
    (e_each_cons (r_iload_n X (k := 1) (i := 1) rfl dX2_listDays_2 rfl)
    (e_each_cons (r_aload_n X (k := 0) (i := 0) rfl dX2_listDays_3 rfl)
    (e_each_cons (r_getI X (index := 57) (ci := 1) (k := 8) dX2_listDays_4 (by decide) (by decide) rfl w1_104 rfl)
    (e_each_cons (r_icmp_ge X (off := 24) (t := 31) dX2_listDays_7 (by decide) rfl)
    (e_each_cons (r_aload_n X (k := 0) (i := 0) rfl dX2_listDays_10 rfl)
    (e_each_cons (r_aload_n X (k := 0) (i := 0) rfl dX2_listDays_11 rfl)
    (e_each_cons (r_getI X (index := 33) (ci := 1) (k := 1) dX2_listDays_12 (by decide) (by decide) rfl w1_87 rfl)
    (e_each_cons (r_iload_n X (k := 1) (i := 1) rfl dX2_listDays_15 rfl)
    (e_each_cons (r_aload_n X (k := 0) (i := 0) rfl dX2_listDays_16 rfl)
    (e_each_cons (r_getI X (index := 51) (ci := 1) (k := 6) dX2_listDays_17 (by decide) (by decide) rfl w1_100 rfl)
    (e_each_cons (r_imul X dX2_listDays_20 rfl)
    (e_each_cons (r_iadd X dX2_listDays_21 rfl)
    (e_each_cons (r_callV X rfl (τ := sg_X2_addDate) (index := 63) (ci := 1) dX2_listDays_22 (by decide) rfl w4_38 w4_40 ws_14 cs_X2_addDate rfl ⟨by decide, by decide⟩ rfl)
    (e_each_cons (r_iinc X (i := 1) (n := 1) (d := 1) dX2_listDays_25 (by decide) (by decide) rfl)
    (e_each_cons (r_goto X (off := (-26)) (t := 2) dX2_listDays_28 (by decide))
    (e_each_cons (r_vret X dX2_listDays_31 rfl)
    (e_each_nil))))))))))))))))))
theorem dX2_listWeeks_0 : decode cX2_listWeeks 0 = .ok (.aload_n 0, 1) := by decide +kernel
theorem dX2_listWeeks_1 : decode cX2_listWeeks 1 = .ok (.getfield 33, 3) := by decide +kernel
theorem dX2_listWeeks_4 : decode cX2_listWeeks 4 = .ok (.bipush 7, 2) := by decide +kernel
theorem dX2_listWeeks_6 : decode cX2_listWeeks 6 = .ok (.idiv, 1) := by decide +kernel
theorem dX2_listWeeks_7 : decode cX2_listWeeks 7 = .ok (.istore_n 1, 1) := by decide +kernel
theorem dX2_listWeeks_8 : decode cX2_listWeeks 8 = .ok (.aload_n 0, 1) := by decide +kernel
theorem dX2_listWeeks_9 : decode cX2_listWeeks 9 = .ok (.getfield 33, 3) := by decide +kernel
theorem dX2_listWeeks_12 : decode cX2_listWeeks 12 = .ok (.istore_n 2, 1) := by decide +kernel
theorem dX2_listWeeks_13 : decode cX2_listWeeks 13 = .ok (.iload_n 2, 1) := by decide +kernel
theorem dX2_listWeeks_14 : decode cX2_listWeeks 14 = .ok (.sipush 1094, 3) := by decide +kernel
theorem dX2_listWeeks_17 : decode cX2_listWeeks 17 = .ok (.if_icmp .gt 59, 3) := by decide +kernel
theorem dX2_listWeeks_20 : decode cX2_listWeeks 20 = .ok (.aload_n 0, 1) := by decide +kernel
theorem dX2_listWeeks_21 : decode cX2_listWeeks 21 = .ok (.getfield 51, 3) := by decide +kernel
theorem dX2_listWeeks_24 : decode cX2_listWeeks 24 = .ok (.ifCond .le 52, 3) := by decide +kernel
theorem dX2_listWeeks_27 : decode cX2_listWeeks 27 = .ok (.iload_n 2, 1) := by decide +kernel
theorem dX2_listWeeks_28 : decode cX2_listWeeks 28 = .ok (.bipush 7, 2) := by decide +kernel
theorem dX2_listWeeks_30 : decode cX2_listWeeks 30 = .ok (.idiv, 1) := by decide +kernel
theorem dX2_listWeeks_31 : decode cX2_listWeeks 31 = .ok (.iload_n 1, 1) := by decide +kernel
theorem dX2_listWeeks_32 : decode cX2_listWeeks 32 = .ok (.isub, 1) := by decide +kernel
theorem dX2_listWeeks_33 : decode cX2_listWeeks 33 = .ok (.aload_n 0, 1) := by decide +kernel
theorem dX2_listWeeks_34 : decode cX2_listWeeks 34 = .ok (.getfield 51, 3) := by decide +kernel
theorem dX2_listWeeks_37 : decode cX2_listWeeks 37 = .ok (.irem, 1) := by decide +kernel
theorem dX2_listWeeks_38 : decode cX2_listWeeks 38 = .ok (.ifCond .ne 7, 3) := by decide +kernel
theorem dX2_listWeeks_41 : decode cX2_listWeeks 41 = .ok (.iconst 1, 1) := by decide +kernel
theorem dX2_listWeeks_42 : decode cX2_listWeeks 42 = .ok (.goto 4, 3) := by decide +kernel
theorem dX2_listWeeks_45 : decode cX2_listWeeks 45 = .ok (.iconst 0, 1) := by decide +kernel
theorem dX2_listWeeks_46 : decode cX2_listWeeks 46 = .ok (.istore_n 3, 1) := by decide +kernel
theorem dX2_listWeeks_47 : decode cX2_listWeeks 47 = .ok (.iload_n 3, 1) := by decide +kernel
theorem dX2_listWeeks_48 : decode cX2_listWeeks 48 = .ok (.ifCond .eq 22, 3) := by decide +kernel
theorem dX2_listWeeks_51 : decode cX2_listWeeks 51 = .ok (.aload_n 0, 1) := by decide +kernel
theorem dX2_listWeeks_52 : decode cX2_listWeeks 52 = .ok (.getfield 54, 3) := by decide +kernel
theorem dX2_listWeeks_55 : decode cX2_listWeeks 55 = .ok (.iload_n 2, 1) := by decide +kernel
theorem dX2_listWeeks_56 : decode cX2_listWeeks 56 = .ok (.invokestatic 93, 3) := by decide +kernel
theorem dX2_listWeeks_59 : decode cX2_listWeeks 59 = .ok (.invokestatic 97, 3) := by decide +kernel
theorem dX2_listWeeks_62 : decode cX2_listWeeks 62 = .ok (.ifCond .eq 8, 3) := by decide +kernel
theorem dX2_listWeeks_65 : decode cX2_listWeeks 65 = .ok (.aload_n 0, 1) := by decide +kernel
theorem dX2_listWeeks_66 : decode cX2_listWeeks 66 = .ok (.iload_n 2, 1) := by decide +kernel
theorem dX2_listWeeks_67 : decode cX2_listWeeks 67 = .ok (.invokevirtual 63, 3) := by decide +kernel
theorem dX2_listWeeks_70 : decode cX2_listWeeks 70 = .ok (.iinc 2 1, 3) := by decide +kernel
theorem dX2_listWeeks_73 : decode cX2_listWeeks 73 = .ok (.goto (-60), 3) := by decide +kernel
theorem dX2_listWeeks_76 : decode cX2_listWeeks 76 = .ok (.return_, 1) := by decide +kernel
def pg_X2_listWeeks (l : Launch) (g : EG) : List (Nat × ES) := [(0, s_ldP 0), (1, s_getI 1 1), (4, s_c (.inl 7)), (6, s_iid (fun x y => x / y) (fun _ y => ¬ y = 0)), (7, s_stI 1), (8, s_ldP 0), (9, s_getI 1 1), (12, s_stI 2), (13, s_ldI 2), (14, s_c (.inl 1094)), (17, s_icmp_gt 76), (20, s_ldP 0), (21, s_getI 1 6), (24, s_if_le 76), (27, s_ldI 2), (28, s_c (.inl 7)), (30, s_iid (fun x y => x / y) (fun _ y => ¬ y = 0)), (31, s_ldI 1), (32, s_ii (fun x y => x - y)), (33, s_ldP 0), (34, s_getI 1 6), (37, s_iid (fun x y => x - x / y * y) (fun _ y => ¬ y = 0)), (38, s_if_ne 45), (41, s_c (.inl 1)), (42, s_goto 46), (45, s_c (.inl 0)), (46, s_stI 3), (47, s_ldI 3), (48, s_if_eq 70), (51, s_ldP 0), (52, s_getI 1 7), (55, s_ldI 2), (56, s_callS l g sg_X2_listWeeks sg_X1_weekdayOf), (59, s_callS l g sg_X2_listWeeks sg_X10_hasBit), (62, s_if_eq 70), (65, s_ldP 0), (66, s_ldI 2), (67, s_callV l g sg_X2_listWeeks sg_X2_addDate 1), (70, s_iinc 2 1), (73, s_goto 13), (76, s_vret)]
set_option maxRecDepth 100000 in
theorem ok_X2_listWeeks {l : Launch} {g : EG} : e_okp l g sg_X2_listWeeks "CalendarSync$Event" (pg_X2_listWeeks l g) := fun p e R s m args below meth c ex M0 Q X =>
    e_each_cons (r_aload_n X (k := 0) (i := 0) rfl dX2_listWeeks_0 rfl)
    (e_each_cons (r_getI X (index := 33) (ci := 1) (k := 1) dX2_listWeeks_1 (by decide) (by decide) rfl w1_87 rfl)
    (e_each_cons (r_bipush X (n := 7) (v := 7) dX2_listWeeks_4 (by decide) rfl)
    (e_each_cons (r_idiv X dX2_listWeeks_6 rfl)
    (e_each_cons (r_istore_n X (k := 1) (i := 1) rfl dX2_listWeeks_7 (by decide) rfl)
    (e_each_cons (r_aload_n X (k := 0) (i := 0) rfl dX2_listWeeks_8 rfl)
    (e_each_cons (r_getI X (index := 33) (ci := 1) (k := 1) dX2_listWeeks_9 (by decide) (by decide) rfl w1_87 rfl)
    (e_each_cons (r_istore_n X (k := 2) (i := 2) rfl dX2_listWeeks_12 (by decide) rfl)
    (e_each_cons (r_iload_n X (k := 2) (i := 2) rfl dX2_listWeeks_13 rfl)
    (e_each_cons (r_sipush X (n := 1094) (v := 1094) dX2_listWeeks_14 (by decide) rfl)
    (e_each_cons (r_icmp_gt X (off := 59) (t := 76) dX2_listWeeks_17 (by decide) rfl)
    (e_each_cons (r_aload_n X (k := 0) (i := 0) rfl dX2_listWeeks_20 rfl)
    (e_each_cons (r_getI X (index := 51) (ci := 1) (k := 6) dX2_listWeeks_21 (by decide) (by decide) rfl w1_100 rfl)
    (e_each_cons (r_if_le X (off := 52) (t := 76) dX2_listWeeks_24 (by decide) rfl)
    (e_each_cons (r_iload_n X (k := 2) (i := 2) rfl dX2_listWeeks_27 rfl)
    (e_each_cons (r_bipush X (n := 7) (v := 7) dX2_listWeeks_28 (by decide) rfl)
    (e_each_cons (r_idiv X dX2_listWeeks_30 rfl)
    (e_each_cons (r_iload_n X (k := 1) (i := 1) rfl dX2_listWeeks_31 rfl)
    (e_each_cons (r_isub X dX2_listWeeks_32 rfl)
    (e_each_cons (r_aload_n X (k := 0) (i := 0) rfl dX2_listWeeks_33 rfl)
    (e_each_cons (r_getI X (index := 51) (ci := 1) (k := 6) dX2_listWeeks_34 (by decide) (by decide) rfl w1_100 rfl)
    (e_each_cons (r_irem X dX2_listWeeks_37 rfl)
    (e_each_cons (r_if_ne X (off := 7) (t := 45) dX2_listWeeks_38 (by decide) rfl)
    (e_each_cons (r_iconst X (n := 1) (v := 1) dX2_listWeeks_41 (by decide) rfl)
    (e_each_cons (r_goto X (off := 4) (t := 46) dX2_listWeeks_42 (by decide))
    (e_each_cons (r_iconst X (n := 0) (v := 0) dX2_listWeeks_45 (by decide) rfl)
    (e_each_cons (r_istore_n X (k := 3) (i := 3) rfl dX2_listWeeks_46 (by decide) rfl)
    (e_each_cons (r_iload_n X (k := 3) (i := 3) rfl dX2_listWeeks_47 rfl)
    (e_each_cons (r_if_eq X (off := 22) (t := 70) dX2_listWeeks_48 (by decide) rfl)
    (e_each_cons (r_aload_n X (k := 0) (i := 0) rfl dX2_listWeeks_51 rfl)
    (e_each_cons (r_getI X (index := 54) (ci := 1) (k := 7) dX2_listWeeks_52 (by decide) (by decide) rfl w1_102 rfl)
    (e_each_cons (r_iload_n X (k := 2) (i := 2) rfl dX2_listWeeks_55 rfl)
    (e_each_cons (r_callS X rfl (τ := sg_X1_weekdayOf) (index := 93) dX2_listWeeks_56 w4_77 w4_78 cs_X1_weekdayOf rfl ⟨by decide, by decide⟩ rfl)
    (e_each_cons (r_callSN X rfl (τ := sg_X10_hasBit) (index := 97) (host := "CalendarSync") dX2_listWeeks_59 wn2_238 w2_224 cs_X10_hasBit rfl ⟨by decide, by decide⟩ rfl)
    (e_each_cons (r_if_eq X (off := 8) (t := 70) dX2_listWeeks_62 (by decide) rfl)
    (e_each_cons (r_aload_n X (k := 0) (i := 0) rfl dX2_listWeeks_65 rfl)
    (e_each_cons (r_iload_n X (k := 2) (i := 2) rfl dX2_listWeeks_66 rfl)
    (e_each_cons (r_callV X rfl (τ := sg_X2_addDate) (index := 63) (ci := 1) dX2_listWeeks_67 (by decide) rfl w4_38 w4_40 ws_14 cs_X2_addDate rfl ⟨by decide, by decide⟩ rfl)
    (e_each_cons (r_iinc X (i := 2) (n := 1) (d := 1) dX2_listWeeks_70 (by decide) (by decide) rfl)
    (e_each_cons (r_goto X (off := (-60)) (t := 13) dX2_listWeeks_73 (by decide))
    (e_each_cons (r_vret X dX2_listWeeks_76 rfl)
    (e_each_nil)))))))))))))))))))))))))))))))))))))))))
theorem dX2_listMonths_0 : decode cX2_listMonths 0 = .ok (.aload_n 0, 1) := by decide +kernel
theorem dX2_listMonths_1 : decode cX2_listMonths 1 = .ok (.getfield 33, 3) := by decide +kernel
theorem dX2_listMonths_4 : decode cX2_listMonths 4 = .ok (.invokestatic 101, 3) := by decide +kernel
theorem dX2_listMonths_7 : decode cX2_listMonths 7 = .ok (.bipush 12, 2) := by decide +kernel
theorem dX2_listMonths_9 : decode cX2_listMonths 9 = .ok (.imul, 1) := by decide +kernel
theorem dX2_listMonths_10 : decode cX2_listMonths 10 = .ok (.aload_n 0, 1) := by decide +kernel
theorem dX2_listMonths_11 : decode cX2_listMonths 11 = .ok (.getfield 33, 3) := by decide +kernel
theorem dX2_listMonths_14 : decode cX2_listMonths 14 = .ok (.invokestatic 104, 3) := by decide +kernel
theorem dX2_listMonths_17 : decode cX2_listMonths 17 = .ok (.iadd, 1) := by decide +kernel
theorem dX2_listMonths_18 : decode cX2_listMonths 18 = .ok (.istore_n 1, 1) := by decide +kernel
theorem dX2_listMonths_19 : decode cX2_listMonths 19 = .ok (.aload_n 0, 1) := by decide +kernel
theorem dX2_listMonths_20 : decode cX2_listMonths 20 = .ok (.getfield 33, 3) := by decide +kernel
theorem dX2_listMonths_23 : decode cX2_listMonths 23 = .ok (.invokestatic 107, 3) := by decide +kernel
theorem dX2_listMonths_26 : decode cX2_listMonths 26 = .ok (.istore_n 2, 1) := by decide +kernel
theorem dX2_listMonths_27 : decode cX2_listMonths 27 = .ok (.iconst 0, 1) := by decide +kernel
theorem dX2_listMonths_28 : decode cX2_listMonths 28 = .ok (.istore_n 3, 1) := by decide +kernel
theorem dX2_listMonths_29 : decode cX2_listMonths 29 = .ok (.iload_n 3, 1) := by decide +kernel
theorem dX2_listMonths_30 : decode cX2_listMonths 30 = .ok (.bipush 36, 2) := by decide +kernel
theorem dX2_listMonths_32 : decode cX2_listMonths 32 = .ok (.if_icmp .ge 25, 3) := by decide +kernel
theorem dX2_listMonths_35 : decode cX2_listMonths 35 = .ok (.aload_n 0, 1) := by decide +kernel
theorem dX2_listMonths_36 : decode cX2_listMonths 36 = .ok (.iload_n 1, 1) := by decide +kernel
theorem dX2_listMonths_37 : decode cX2_listMonths 37 = .ok (.iload_n 3, 1) := by decide +kernel
theorem dX2_listMonths_38 : decode cX2_listMonths 38 = .ok (.aload_n 0, 1) := by decide +kernel
theorem dX2_listMonths_39 : decode cX2_listMonths 39 = .ok (.getfield 51, 3) := by decide +kernel
theorem dX2_listMonths_42 : decode cX2_listMonths 42 = .ok (.imul, 1) := by decide +kernel
theorem dX2_listMonths_43 : decode cX2_listMonths 43 = .ok (.iadd, 1) := by decide +kernel
theorem dX2_listMonths_44 : decode cX2_listMonths 44 = .ok (.iload_n 2, 1) := by decide +kernel
theorem dX2_listMonths_45 : decode cX2_listMonths 45 = .ok (.invokestatic 110, 3) := by decide +kernel
theorem dX2_listMonths_48 : decode cX2_listMonths 48 = .ok (.invokevirtual 63, 3) := by decide +kernel
theorem dX2_listMonths_51 : decode cX2_listMonths 51 = .ok (.iinc 3 1, 3) := by decide +kernel
theorem dX2_listMonths_54 : decode cX2_listMonths 54 = .ok (.goto (-25), 3) := by decide +kernel
theorem dX2_listMonths_57 : decode cX2_listMonths 57 = .ok (.return_, 1) := by decide +kernel
def pg_X2_listMonths (l : Launch) (g : EG) : List (Nat × ES) := [(0, s_ldP 0), (1, s_getI 1 1), (4, s_callS l g sg_X2_listMonths sg_X1_yearOf), (7, s_c (.inl 12)), (9, s_ii (fun x y => x * y)), (10, s_ldP 0), (11, s_getI 1 1), (14, s_callS l g sg_X2_listMonths sg_X1_monthOf), (17, s_ii (fun x y => x + y)), (18, s_stI 1), (19, s_ldP 0), (20, s_getI 1 1), (23, s_callS l g sg_X2_listMonths sg_X1_dayOfMonth), (26, s_stI 2), (27, s_c (.inl 0)), (28, s_stI 3), (29, s_ldI 3), (30, s_c (.inl 36)), (32, s_icmp_ge 57), (35, s_ldP 0), (36, s_ldI 1), (37, s_ldI 3), (38, s_ldP 0), (39, s_getI 1 6), (42, s_ii (fun x y => x * y)), (43, s_ii (fun x y => x + y)), (44, s_ldI 2), (45, s_callS l g sg_X2_listMonths sg_X1_dayInMonth), (48, s_callV l g sg_X2_listMonths sg_X2_addDate 1), (51, s_iinc 3 1), (54, s_goto 29), (57, s_vret)]
set_option maxRecDepth 100000 in
theorem ok_X2_listMonths {l : Launch} {g : EG} : e_okp l g sg_X2_listMonths "CalendarSync$Event" (pg_X2_listMonths l g) := fun p e R s m args below meth c ex M0 Q X =>
    e_each_cons (r_aload_n X (k := 0) (i := 0) rfl dX2_listMonths_0 rfl)
    (e_each_cons (r_getI X (index := 33) (ci := 1) (k := 1) dX2_listMonths_1 (by decide) (by decide) rfl w1_87 rfl)
    (e_each_cons (r_callS X rfl (τ := sg_X1_yearOf) (index := 101) dX2_listMonths_4 w4_84 w4_85 cs_X1_yearOf rfl ⟨by decide, by decide⟩ rfl)
    (e_each_cons (r_bipush X (n := 12) (v := 12) dX2_listMonths_7 (by decide) rfl)
    (e_each_cons (r_imul X dX2_listMonths_9 rfl)
    (e_each_cons (r_aload_n X (k := 0) (i := 0) rfl dX2_listMonths_10 rfl)
    (e_each_cons (r_getI X (index := 33) (ci := 1) (k := 1) dX2_listMonths_11 (by decide) (by decide) rfl w1_87 rfl)
    (e_each_cons (r_callS X rfl (τ := sg_X1_monthOf) (index := 104) dX2_listMonths_14 w4_87 w4_88 cs_X1_monthOf rfl ⟨by decide, by decide⟩ rfl)
    (e_each_cons (r_iadd X dX2_listMonths_17 rfl)
    (e_each_cons (r_istore_n X (k := 1) (i := 1) rfl dX2_listMonths_18 (by decide) rfl)
    (e_each_cons (r_aload_n X (k := 0) (i := 0) rfl dX2_listMonths_19 rfl)
    (e_each_cons (r_getI X (index := 33) (ci := 1) (k := 1) dX2_listMonths_20 (by decide) (by decide) rfl w1_87 rfl)
    (e_each_cons (r_callS X rfl (τ := sg_X1_dayOfMonth) (index := 107) dX2_listMonths_23 w4_92 w4_93 cs_X1_dayOfMonth rfl ⟨by decide, by decide⟩ rfl)
    (e_each_cons (r_istore_n X (k := 2) (i := 2) rfl dX2_listMonths_26 (by decide) rfl)
    (e_each_cons (r_iconst X (n := 0) (v := 0) dX2_listMonths_27 (by decide) rfl)
    (e_each_cons (r_istore_n X (k := 3) (i := 3) rfl dX2_listMonths_28 (by decide) rfl)
    (e_each_cons (r_iload_n X (k := 3) (i := 3) rfl dX2_listMonths_29 rfl)
    (e_each_cons (r_bipush X (n := 36) (v := 36) dX2_listMonths_30 (by decide) rfl)
    (e_each_cons (r_icmp_ge X (off := 25) (t := 57) dX2_listMonths_32 (by decide) rfl)
    (e_each_cons (r_aload_n X (k := 0) (i := 0) rfl dX2_listMonths_35 rfl)
    (e_each_cons (r_iload_n X (k := 1) (i := 1) rfl dX2_listMonths_36 rfl)
    (e_each_cons (r_iload_n X (k := 3) (i := 3) rfl dX2_listMonths_37 rfl)
    (e_each_cons (r_aload_n X (k := 0) (i := 0) rfl dX2_listMonths_38 rfl)
    (e_each_cons (r_getI X (index := 51) (ci := 1) (k := 6) dX2_listMonths_39 (by decide) (by decide) rfl w1_100 rfl)
    (e_each_cons (r_imul X dX2_listMonths_42 rfl)
    (e_each_cons (r_iadd X dX2_listMonths_43 rfl)
    (e_each_cons (r_iload_n X (k := 2) (i := 2) rfl dX2_listMonths_44 rfl)
    (e_each_cons (r_callS X rfl (τ := sg_X1_dayInMonth) (index := 110) dX2_listMonths_45 w4_96 w4_97 cs_X1_dayInMonth rfl ⟨by decide, by decide⟩ rfl)
    (e_each_cons (r_callV X rfl (τ := sg_X2_addDate) (index := 63) (ci := 1) dX2_listMonths_48 (by decide) rfl w4_38 w4_40 ws_14 cs_X2_addDate rfl ⟨by decide, by decide⟩ rfl)
    (e_each_cons (r_iinc X (i := 3) (n := 1) (d := 1) dX2_listMonths_51 (by decide) (by decide) rfl)
    (e_each_cons (r_goto X (off := (-25)) (t := 29) dX2_listMonths_54 (by decide))
    (e_each_cons (r_vret X dX2_listMonths_57 rfl)
    (e_each_nil))))))))))))))))))))))))))))))))
theorem dX2_setRule_0 : decode cX2_setRule 0 = .ok (.iload_n 1, 1) := by decide +kernel
theorem dX2_setRule_1 : decode cX2_setRule 1 = .ok (.ifCond .ne 8, 3) := by decide +kernel
theorem dX2_setRule_4 : decode cX2_setRule 4 = .ok (.aload_n 0, 1) := by decide +kernel
theorem dX2_setRule_5 : decode cX2_setRule 5 = .ok (.invokevirtual 45, 3) := by decide +kernel
theorem dX2_setRule_8 : decode cX2_setRule 8 = .ok (.return_, 1) := by decide +kernel
theorem dX2_setRule_9 : decode cX2_setRule 9 = .ok (.aload_n 0, 1) := by decide +kernel
theorem dX2_setRule_10 : decode cX2_setRule 10 = .ok (.iload_n 1, 1) := by decide +kernel
theorem dX2_setRule_11 : decode cX2_setRule 11 = .ok (.putfield 48, 3) := by decide +kernel
theorem dX2_setRule_14 : decode cX2_setRule 14 = .ok (.aload_n 0, 1) := by decide +kernel
theorem dX2_setRule_15 : decode cX2_setRule 15 = .ok (.iload_n 2, 1) := by decide +kernel
theorem dX2_setRule_16 : decode cX2_setRule 16 = .ok (.putfield 51, 3) := by decide +kernel
theorem dX2_setRule_19 : decode cX2_setRule 19 = .ok (.aload_n 0, 1) := by decide +kernel
theorem dX2_setRule_20 : decode cX2_setRule 20 = .ok (.iload_n 1, 1) := by decide +kernel
theorem dX2_setRule_21 : decode cX2_setRule 21 = .ok (.iconst 2, 1) := by decide +kernel
theorem dX2_setRule_22 : decode cX2_setRule 22 = .ok (.if_icmp .ne 7, 3) := by decide +kernel
theorem dX2_setRule_25 : decode cX2_setRule 25 = .ok (.iload_n 3, 1) := by decide +kernel
theorem dX2_setRule_26 : decode cX2_setRule 26 = .ok (.goto 4, 3) := by decide +kernel
theorem dX2_setRule_29 : decode cX2_setRule 29 = .ok (.iconst 0, 1) := by decide +kernel
theorem dX2_setRule_30 : decode cX2_setRule 30 = .ok (.putfield 54, 3) := by decide +kernel
theorem dX2_setRule_33 : decode cX2_setRule 33 = .ok (.aload_n 0, 1) := by decide +kernel
theorem dX2_setRule_34 : decode cX2_setRule 34 = .ok (.iload 4, 2) := by decide +kernel
theorem dX2_setRule_36 : decode cX2_setRule 36 = .ok (.putfield 57, 3) := by decide +kernel
theorem dX2_setRule_39 : decode cX2_setRule 39 = .ok (.aload_n 0, 1) := by decide +kernel
theorem dX2_setRule_40 : decode cX2_setRule 40 = .ok (.invokevirtual 60, 3) := by decide +kernel
theorem dX2_setRule_43 : decode cX2_setRule 43 = .ok (.iload_n 1, 1) := by decide +kernel
theorem dX2_setRule_44 : decode cX2_setRule 44 = .ok (.iconst 1, 1) := by decide +kernel
theorem dX2_setRule_45 : decode cX2_setRule 45 = .ok (.if_icmp .ne 10, 3) := by decide +kernel
theorem dX2_setRule_48 : decode cX2_setRule 48 = .ok (.aload_n 0, 1) := by decide +kernel
theorem dX2_setRule_49 : decode cX2_setRule 49 = .ok (.invokevirtual 67, 3) := by decide +kernel
theorem dX2_setRule_52 : decode cX2_setRule 52 = .ok (.goto 19, 3) := by decide +kernel
theorem dX2_setRule_55 : decode cX2_setRule 55 = .ok (.iload_n 1, 1) := by decide +kernel
theorem dX2_setRule_56 : decode cX2_setRule 56 = .ok (.iconst 2, 1) := by decide +kernel
theorem dX2_setRule_57 : decode cX2_setRule 57 = .ok (.if_icmp .ne 10, 3) := by decide +kernel
theorem dX2_setRule_60 : decode cX2_setRule 60 = .ok (.aload_n 0, 1) := by decide +kernel
theorem dX2_setRule_61 : decode cX2_setRule 61 = .ok (.invokevirtual 70, 3) := by decide +kernel
theorem dX2_setRule_64 : decode cX2_setRule 64 = .ok (.goto 7, 3) := by decide +kernel
theorem dX2_setRule_67 : decode cX2_setRule 67 = .ok (.aload_n 0, 1) := by decide +kernel
theorem dX2_setRule_68 : decode cX2_setRule 68 = .ok (.invokevirtual 73, 3) := by decide +kernel
theorem dX2_setRule_71 : decode cX2_setRule 71 = .ok (.return_, 1) := by decide +kernel
def pg_X2_setRule (l : Launch) (g : EG) : List (Nat × ES) := [(0, s_ldI 1), (1, s_if_ne 9), (4, s_ldP 0), (5, s_callV l g sg_X2_setRule sg_X2_setOnce 1), (8, s_vret), (9, s_ldP 0), (10, s_ldI 1), (11, s_putI 1 5), (14, s_ldP 0), (15, s_ldI 2), (16, s_putI 1 6), (19, s_ldP 0), (20, s_ldI 1), (21, s_c (.inl 2)), (22, s_icmp_ne 29), (25, s_ldI 3), (26, s_goto 30), (29, s_c (.inl 0)), (30, s_putI 1 7), (33, s_ldP 0), (34, s_ldI 4), (36, s_putI 1 8), (39, s_ldP 0), (40, s_callV l g sg_X2_setRule sg_X2_forgetDates 1), (43, s_ldI 1), (44, s_c (.inl 1)), (45, s_icmp_ne 55), (48, s_ldP 0), (49, s_callV l g sg_X2_setRule sg_X2_listDays 1), (52, s_goto 71), (55, s_ldI 1), (56, s_c (.inl 2)), (57, s_icmp_ne 67), (60, s_ldP 0), (61, s_callV l g sg_X2_setRule sg_X2_listWeeks 1), (64, s_goto 71), (67, s_ldP 0), (68, s_callV l g sg_X2_setRule sg_X2_listMonths 1), (71, s_vret)]
set_option maxRecDepth 100000 in
theorem ok_X2_setRule {l : Launch} {g : EG} : e_okp l g sg_X2_setRule "CalendarSync$Event" (pg_X2_setRule l g) := fun p e R s m args below meth c ex M0 Q X =>
    e_each_cons (r_iload_n X (k := 1) (i := 1) rfl dX2_setRule_0 rfl)
    (e_each_cons (r_if_ne X (off := 8) (t := 9) dX2_setRule_1 (by decide) rfl)
    (e_each_cons (r_aload_n X (k := 0) (i := 0) rfl dX2_setRule_4 rfl)
    (e_each_cons (r_callV X rfl (τ := sg_X2_setOnce) (index := 45) (ci := 1) dX2_setRule_5 (by decide) rfl w4_30 w4_32 ws_12 cs_X2_setOnce rfl ⟨by decide, by decide⟩ rfl)
    (e_each_cons (r_vret X dX2_setRule_8 rfl)
    (e_each_cons (r_aload_n X (k := 0) (i := 0) rfl dX2_setRule_9 rfl)
    (e_each_cons (r_iload_n X (k := 1) (i := 1) rfl dX2_setRule_10 rfl)
    (e_each_cons (r_putI X (index := 48) (ci := 1) (k := 5) dX2_setRule_11 (by decide) (by decide) rfl rfl w1_98 rfl)
    (e_each_cons (r_aload_n X (k := 0) (i := 0) rfl dX2_setRule_14 rfl)
    (e_each_cons (r_iload_n X (k := 2) (i := 2) rfl dX2_setRule_15 rfl)
    (e_each_cons (r_putI X (index := 51) (ci := 1) (k := 6) dX2_setRule_16 (by decide) (by decide) rfl rfl w1_100 rfl)
    (e_each_cons (r_aload_n X (k := 0) (i := 0) rfl dX2_setRule_19 rfl)
    (e_each_cons (r_iload_n X (k := 1) (i := 1) rfl dX2_setRule_20 rfl)
    (e_each_cons (r_iconst X (n := 2) (v := 2) dX2_setRule_21 (by decide) rfl)
    (e_each_cons (r_icmp_ne X (off := 7) (t := 29) dX2_setRule_22 (by decide) rfl)
    (e_each_cons (r_iload_n X (k := 3) (i := 3) rfl dX2_setRule_25 rfl)
    (e_each_cons (r_goto X (off := 4) (t := 30) dX2_setRule_26 (by decide))
    (e_each_cons (r_iconst X (n := 0) (v := 0) dX2_setRule_29 (by decide) rfl)
    (e_each_cons (r_putI X (index := 54) (ci := 1) (k := 7) dX2_setRule_30 (by decide) (by decide) rfl rfl w1_102 rfl)
    (e_each_cons (r_aload_n X (k := 0) (i := 0) rfl dX2_setRule_33 rfl)
    (e_each_cons (r_iload X (i := 4) dX2_setRule_34 rfl)
    (e_each_cons (r_putI X (index := 57) (ci := 1) (k := 8) dX2_setRule_36 (by decide) (by decide) rfl rfl w1_104 rfl)
    (e_each_cons (r_aload_n X (k := 0) (i := 0) rfl dX2_setRule_39 rfl)
    (e_each_cons (r_callV X rfl (τ := sg_X2_forgetDates) (index := 60) (ci := 1) dX2_setRule_40 (by decide) rfl w4_34 w4_36 ws_13 cs_X2_forgetDates rfl ⟨by decide, by decide⟩ rfl)
    (e_each_cons (r_iload_n X (k := 1) (i := 1) rfl dX2_setRule_43 rfl)
    (e_each_cons (r_iconst X (n := 1) (v := 1) dX2_setRule_44 (by decide) rfl)
    (e_each_cons (r_icmp_ne X (off := 10) (t := 55) dX2_setRule_45 (by decide) rfl)
    (e_each_cons (r_aload_n X (k := 0) (i := 0) rfl dX2_setRule_48 rfl)
    (e_each_cons (r_callV X rfl (τ := sg_X2_listDays) (index := 67) (ci := 1) dX2_setRule_49 (by decide) rfl w4_69 w4_71 ws_18 cs_X2_listDays rfl ⟨by decide, by decide⟩ rfl)
    (e_each_cons (r_goto X (off := 19) (t := 71) dX2_setRule_52 (by decide))
    (e_each_cons (r_iload_n X (k := 1) (i := 1) rfl dX2_setRule_55 rfl)
    (e_each_cons (r_iconst X (n := 2) (v := 2) dX2_setRule_56 (by decide) rfl)
    (e_each_cons (r_icmp_ne X (off := 10) (t := 67) dX2_setRule_57 (by decide) rfl)
    (e_each_cons (r_aload_n X (k := 0) (i := 0) rfl dX2_setRule_60 rfl)
    (e_each_cons (r_callV X rfl (τ := sg_X2_listWeeks) (index := 70) (ci := 1) dX2_setRule_61 (by decide) rfl w4_73 w4_75 ws_19 cs_X2_listWeeks rfl ⟨by decide, by decide⟩ rfl)
    (e_each_cons (r_goto X (off := 7) (t := 71) dX2_setRule_64 (by decide))
    (e_each_cons (r_aload_n X (k := 0) (i := 0) rfl dX2_setRule_67 rfl)
    (e_each_cons (r_callV X rfl (τ := sg_X2_listMonths) (index := 73) (ci := 1) dX2_setRule_68 (by decide) rfl w4_80 w4_82 ws_20 cs_X2_listMonths rfl ⟨by decide, by decide⟩ rfl)
    (e_each_cons (r_vret X dX2_setRule_71 rfl)
    (e_each_nil)))))))))))))))))))))))))))))))))))))))
theorem dX2_vanish_0 : decode cX2_vanish 0 = .ok (.aload_n 0, 1) := by decide +kernel
theorem dX2_vanish_1 : decode cX2_vanish 1 = .ok (.iconst 0, 1) := by decide +kernel
theorem dX2_vanish_2 : decode cX2_vanish 2 = .ok (.putfield 29, 3) := by decide +kernel
theorem dX2_vanish_5 : decode cX2_vanish 5 = .ok (.aload_n 0, 1) := by decide +kernel
theorem dX2_vanish_6 : decode cX2_vanish 6 = .ok (.iconst (-1), 1) := by decide +kernel
theorem dX2_vanish_7 : decode cX2_vanish 7 = .ok (.putfield 9, 3) := by decide +kernel
theorem dX2_vanish_10 : decode cX2_vanish 10 = .ok (.return_, 1) := by decide +kernel
def pg_X2_vanish (l : Launch) (g : EG) : List (Nat × ES) := [(0, s_ldP 0), (1, s_c (.inl 0)), (2, s_putI 1 0), (5, s_ldP 0), (6, s_c (.inl (-1))), (7, s_putI 1 9), (10, s_vret)]
set_option maxRecDepth 100000 in
theorem ok_X2_vanish {l : Launch} {g : EG} : e_okp l g sg_X2_vanish "CalendarSync$Event" (pg_X2_vanish l g) := fun p e R s m args below meth c ex M0 Q X =>
    e_each_cons (r_aload_n X (k := 0) (i := 0) rfl dX2_vanish_0 rfl)
    (e_each_cons (r_iconst X (n := 0) (v := 0) dX2_vanish_1 (by decide) rfl)
    (e_each_cons (r_putI X (index := 29) (ci := 1) (k := 0) dX2_vanish_2 (by decide) (by decide) rfl rfl w1_83 rfl)
    (e_each_cons (r_aload_n X (k := 0) (i := 0) rfl dX2_vanish_5 rfl)
    (e_each_cons (r_iconst X (n := (-1)) (v := (-1)) dX2_vanish_6 (by decide) rfl)
    (e_each_cons (r_putI X (index := 9) (ci := 1) (k := 9) dX2_vanish_7 (by decide) (by decide) rfl rfl w1_106 rfl)
    (e_each_cons (r_vret X dX2_vanish_10 rfl)
    (e_each_nil)))))))
theorem dX2_become_0 : decode cX2_become 0 = .ok (.aload_n 0, 1) := by decide +kernel
theorem dX2_become_1 : decode cX2_become 1 = .ok (.aload_n 1, 1) := by decide +kernel
theorem dX2_become_2 : decode cX2_become 2 = .ok (.getfield 29, 3) := by decide +kernel
theorem dX2_become_5 : decode cX2_become 5 = .ok (.putfield 29, 3) := by decide +kernel
theorem dX2_become_8 : decode cX2_become 8 = .ok (.aload_n 0, 1) := by decide +kernel
theorem dX2_become_9 : decode cX2_become 9 = .ok (.aload_n 1, 1) := by decide +kernel
theorem dX2_become_10 : decode cX2_become 10 = .ok (.getfield 33, 3) := by decide +kernel
theorem dX2_become_13 : decode cX2_become 13 = .ok (.putfield 33, 3) := by decide +kernel
theorem dX2_become_16 : decode cX2_become 16 = .ok (.aload_n 0, 1) := by decide +kernel
theorem dX2_become_17 : decode cX2_become 17 = .ok (.aload_n 1, 1) := by decide +kernel
theorem dX2_become_18 : decode cX2_become 18 = .ok (.getfield 36, 3) := by decide +kernel
theorem dX2_become_21 : decode cX2_become 21 = .ok (.putfield 36, 3) := by decide +kernel
theorem dX2_become_24 : decode cX2_become 24 = .ok (.aload_n 0, 1) := by decide +kernel
theorem dX2_become_25 : decode cX2_become 25 = .ok (.aload_n 1, 1) := by decide +kernel
theorem dX2_become_26 : decode cX2_become 26 = .ok (.getfield 39, 3) := by decide +kernel
theorem dX2_become_29 : decode cX2_become 29 = .ok (.putfield 39, 3) := by decide +kernel
theorem dX2_become_32 : decode cX2_become 32 = .ok (.aload_n 0, 1) := by decide +kernel
theorem dX2_become_33 : decode cX2_become 33 = .ok (.aload_n 1, 1) := by decide +kernel
theorem dX2_become_34 : decode cX2_become 34 = .ok (.getfield 42, 3) := by decide +kernel
theorem dX2_become_37 : decode cX2_become 37 = .ok (.putfield 42, 3) := by decide +kernel
theorem dX2_become_40 : decode cX2_become 40 = .ok (.aload_n 0, 1) := by decide +kernel
theorem dX2_become_41 : decode cX2_become 41 = .ok (.aload_n 1, 1) := by decide +kernel
theorem dX2_become_42 : decode cX2_become 42 = .ok (.getfield 48, 3) := by decide +kernel
theorem dX2_become_45 : decode cX2_become 45 = .ok (.putfield 48, 3) := by decide +kernel
theorem dX2_become_48 : decode cX2_become 48 = .ok (.aload_n 0, 1) := by decide +kernel
theorem dX2_become_49 : decode cX2_become 49 = .ok (.aload_n 1, 1) := by decide +kernel
theorem dX2_become_50 : decode cX2_become 50 = .ok (.getfield 51, 3) := by decide +kernel
theorem dX2_become_53 : decode cX2_become 53 = .ok (.putfield 51, 3) := by decide +kernel
theorem dX2_become_56 : decode cX2_become 56 = .ok (.aload_n 0, 1) := by decide +kernel
theorem dX2_become_57 : decode cX2_become 57 = .ok (.aload_n 1, 1) := by decide +kernel
theorem dX2_become_58 : decode cX2_become 58 = .ok (.getfield 54, 3) := by decide +kernel
theorem dX2_become_61 : decode cX2_become 61 = .ok (.putfield 54, 3) := by decide +kernel
theorem dX2_become_64 : decode cX2_become 64 = .ok (.aload_n 0, 1) := by decide +kernel
theorem dX2_become_65 : decode cX2_become 65 = .ok (.aload_n 1, 1) := by decide +kernel
theorem dX2_become_66 : decode cX2_become 66 = .ok (.getfield 57, 3) := by decide +kernel
theorem dX2_become_69 : decode cX2_become 69 = .ok (.putfield 57, 3) := by decide +kernel
theorem dX2_become_72 : decode cX2_become 72 = .ok (.aload_n 0, 1) := by decide +kernel
theorem dX2_become_73 : decode cX2_become 73 = .ok (.aload_n 1, 1) := by decide +kernel
theorem dX2_become_74 : decode cX2_become 74 = .ok (.getfield 9, 3) := by decide +kernel
theorem dX2_become_77 : decode cX2_become 77 = .ok (.putfield 9, 3) := by decide +kernel
theorem dX2_become_80 : decode cX2_become 80 = .ok (.aload_n 0, 1) := by decide +kernel
theorem dX2_become_81 : decode cX2_become 81 = .ok (.aload_n 1, 1) := by decide +kernel
theorem dX2_become_82 : decode cX2_become 82 = .ok (.getfield 76, 3) := by decide +kernel
theorem dX2_become_85 : decode cX2_become 85 = .ok (.putfield 76, 3) := by decide +kernel
theorem dX2_become_88 : decode cX2_become 88 = .ok (.aload_n 0, 1) := by decide +kernel
theorem dX2_become_89 : decode cX2_become 89 = .ok (.aload_n 1, 1) := by decide +kernel
theorem dX2_become_90 : decode cX2_become 90 = .ok (.getfield 79, 3) := by decide +kernel
theorem dX2_become_93 : decode cX2_become 93 = .ok (.putfield 79, 3) := by decide +kernel
theorem dX2_become_96 : decode cX2_become 96 = .ok (.aload_n 0, 1) := by decide +kernel
theorem dX2_become_97 : decode cX2_become 97 = .ok (.aload_n 1, 1) := by decide +kernel
theorem dX2_become_98 : decode cX2_become 98 = .ok (.getfield 82, 3) := by decide +kernel
theorem dX2_become_101 : decode cX2_become 101 = .ok (.putfield 82, 3) := by decide +kernel
theorem dX2_become_104 : decode cX2_become 104 = .ok (.aload_n 1, 1) := by decide +kernel
theorem dX2_become_105 : decode cX2_become 105 = .ok (.getfield 15, 3) := by decide +kernel
theorem dX2_become_108 : decode cX2_become 108 = .ok (.iconst 0, 1) := by decide +kernel
theorem dX2_become_109 : decode cX2_become 109 = .ok (.aload_n 0, 1) := by decide +kernel
theorem dX2_become_110 : decode cX2_become 110 = .ok (.getfield 15, 3) := by decide +kernel
theorem dX2_become_113 : decode cX2_become 113 = .ok (.iconst 0, 1) := by decide +kernel
theorem dX2_become_114 : decode cX2_become 114 = .ok (.bipush 30, 2) := by decide +kernel
theorem dX2_become_116 : decode cX2_become 116 = .ok (.invokestatic 85, 3) := by decide +kernel
theorem dX2_become_119 : decode cX2_become 119 = .ok (.aload_n 1, 1) := by decide +kernel
theorem dX2_become_120 : decode cX2_become 120 = .ok (.getfield 19, 3) := by decide +kernel
theorem dX2_become_123 : decode cX2_become 123 = .ok (.iconst 0, 1) := by decide +kernel
theorem dX2_become_124 : decode cX2_become 124 = .ok (.aload_n 0, 1) := by decide +kernel
theorem dX2_become_125 : decode cX2_become 125 = .ok (.getfield 19, 3) := by decide +kernel
theorem dX2_become_128 : decode cX2_become 128 = .ok (.iconst 0, 1) := by decide +kernel
theorem dX2_become_129 : decode cX2_become 129 = .ok (.bipush 30, 2) := by decide +kernel
theorem dX2_become_131 : decode cX2_become 131 = .ok (.invokestatic 85, 3) := by decide +kernel
theorem dX2_become_134 : decode cX2_become 134 = .ok (.aload_n 1, 1) := by decide +kernel
theorem dX2_become_135 : decode cX2_become 135 = .ok (.getfield 22, 3) := by decide +kernel
theorem dX2_become_138 : decode cX2_become 138 = .ok (.iconst 0, 1) := by decide +kernel
theorem dX2_become_139 : decode cX2_become 139 = .ok (.aload_n 0, 1) := by decide +kernel
theorem dX2_become_140 : decode cX2_become 140 = .ok (.getfield 22, 3) := by decide +kernel
theorem dX2_become_143 : decode cX2_become 143 = .ok (.iconst 0, 1) := by decide +kernel
theorem dX2_become_144 : decode cX2_become 144 = .ok (.iconst 2, 1) := by decide +kernel
theorem dX2_become_145 : decode cX2_become 145 = .ok (.invokestatic 85, 3) := by decide +kernel
theorem dX2_become_148 : decode cX2_become 148 = .ok (.aload_n 1, 1) := by decide +kernel
theorem dX2_become_149 : decode cX2_become 149 = .ok (.getfield 25, 3) := by decide +kernel
theorem dX2_become_152 : decode cX2_become 152 = .ok (.iconst 0, 1) := by decide +kernel
theorem dX2_become_153 : decode cX2_become 153 = .ok (.aload_n 0, 1) := by decide +kernel
theorem dX2_become_154 : decode cX2_become 154 = .ok (.getfield 25, 3) := by decide +kernel
theorem dX2_become_157 : decode cX2_become 157 = .ok (.iconst 0, 1) := by decide +kernel
theorem dX2_become_158 : decode cX2_become 158 = .ok (.iconst 2, 1) := by decide +kernel
theorem dX2_become_159 : decode cX2_become 159 = .ok (.invokestatic 85, 3) := by decide +kernel
theorem dX2_become_162 : decode cX2_become 162 = .ok (.return_, 1) := by decide +kernel
def pg_X2_become (l : Launch) (g : EG) : List (Nat × ES) := [(0, s_ldP 0), (1, s_ldP 1), (2, s_getI 1 0), (5, s_putI 1 0), (8, s_ldP 0), (9, s_ldP 1), (10, s_getI 1 1), (13, s_putI 1 1), (16, s_ldP 0), (17, s_ldP 1), (18, s_getI 1 2), (21, s_putI 1 2), (24, s_ldP 0), (25, s_ldP 1), (26, s_getI 1 3), (29, s_putI 1 3), (32, s_ldP 0), (33, s_ldP 1), (34, s_getI 1 4), (37, s_putI 1 4), (40, s_ldP 0), (41, s_ldP 1), (42, s_getI 1 5), (45, s_putI 1 5), (48, s_ldP 0), (49, s_ldP 1), (50, s_getI 1 6), (53, s_putI 1 6), (56, s_ldP 0), (57, s_ldP 1), (58, s_getI 1 7), (61, s_putI 1 7), (64, s_ldP 0), (65, s_ldP 1), (66, s_getI 1 8), (69, s_putI 1 8), (72, s_ldP 0), (73, s_ldP 1), (74, s_getI 1 9), (77, s_putI 1 9), (80, s_ldP 0), (81, s_ldP 1), (82, s_getI 1 10), (85, s_putI 1 10), (88, s_ldP 0), (89, s_ldP 1), (90, s_getI 1 11), (93, s_putI 1 11), (96, s_ldP 0), (97, s_ldP 1), (98, s_getI 1 12), (101, s_putI 1 12), (104, s_ldP 1), (105, s_getP 1 13), (108, s_c (.inl 0)), (109, s_ldP 0), (110, s_getP 1 13), (113, s_c (.inl 0)), (114, s_c (.inl 30)), (116, s_acI), (119, s_ldP 1), (120, s_getP 1 14), (123, s_c (.inl 0)), (124, s_ldP 0), (125, s_getP 1 14), (128, s_c (.inl 0)), (129, s_c (.inl 30)), (131, s_acI), (134, s_ldP 1), (135, s_getP 1 15), (138, s_c (.inl 0)), (139, s_ldP 0), (140, s_getP 1 15), (143, s_c (.inl 0)), (144, s_c (.inl 2)), (145, s_acI), (148, s_ldP 1), (149, s_getP 1 16), (152, s_c (.inl 0)), (153, s_ldP 0), (154, s_getP 1 16), (157, s_c (.inl 0)), (158, s_c (.inl 2)), (159, s_acL), (162, s_vret)]
set_option maxRecDepth 100000 in
theorem ok_X2_become {l : Launch} {g : EG} : e_okp l g sg_X2_become "CalendarSync$Event" (pg_X2_become l g) := fun p e R s m args below meth c ex M0 Q X =>
    e_each_cons (r_aload_n X (k := 0) (i := 0) rfl dX2_become_0 rfl)
    (e_each_cons (r_aload_n X (k := 1) (i := 1) rfl dX2_become_1 rfl)
    (e_each_cons (r_getI X (index := 29) (ci := 1) (k := 0) dX2_become_2 (by decide) (by decide) rfl w1_83 rfl)
    (e_each_cons (r_putI X (index := 29) (ci := 1) (k := 0) dX2_become_5 (by decide) (by decide) rfl rfl w1_83 rfl)
    (e_each_cons (r_aload_n X (k := 0) (i := 0) rfl dX2_become_8 rfl)
    (e_each_cons (r_aload_n X (k := 1) (i := 1) rfl dX2_become_9 rfl)
    (e_each_cons (r_getI X (index := 33) (ci := 1) (k := 1) dX2_become_10 (by decide) (by decide) rfl w1_87 rfl)
    (e_each_cons (r_putI X (index := 33) (ci := 1) (k := 1) dX2_become_13 (by decide) (by decide) rfl rfl w1_87 rfl)
    (e_each_cons (r_aload_n X (k := 0) (i := 0) rfl dX2_become_16 rfl)
    (e_each_cons (r_aload_n X (k := 1) (i := 1) rfl dX2_become_17 rfl)
    (e_each_cons (r_getI X (index := 36) (ci := 1) (k := 2) dX2_become_18 (by decide) (by decide) rfl w1_89 rfl)
    (e_each_cons (r_putI X (index := 36) (ci := 1) (k := 2) dX2_become_21 (by decide) (by decide) rfl rfl w1_89 rfl)
    (e_each_cons (r_aload_n X (k := 0) (i := 0) rfl dX2_become_24 rfl)
    (e_each_cons (r_aload_n X (k := 1) (i := 1) rfl dX2_become_25 rfl)
    (e_each_cons (r_getI X (index := 39) (ci := 1) (k := 3) dX2_become_26 (by decide) (by decide) rfl w1_91 rfl)
    (e_each_cons (r_putI X (index := 39) (ci := 1) (k := 3) dX2_become_29 (by decide) (by decide) rfl rfl w1_91 rfl)
    (e_each_cons (r_aload_n X (k := 0) (i := 0) rfl dX2_become_32 rfl)
    (e_each_cons (r_aload_n X (k := 1) (i := 1) rfl dX2_become_33 rfl)
    (e_each_cons (r_getI X (index := 42) (ci := 1) (k := 4) dX2_become_34 (by decide) (by decide) rfl w1_95 rfl)
    (e_each_cons (r_putI X (index := 42) (ci := 1) (k := 4) dX2_become_37 (by decide) (by decide) rfl rfl w1_95 rfl)
    (e_each_cons (r_aload_n X (k := 0) (i := 0) rfl dX2_become_40 rfl)
    (e_each_cons (r_aload_n X (k := 1) (i := 1) rfl dX2_become_41 rfl)
    (e_each_cons (r_getI X (index := 48) (ci := 1) (k := 5) dX2_become_42 (by decide) (by decide) rfl w1_98 rfl)
    (e_each_cons (r_putI X (index := 48) (ci := 1) (k := 5) dX2_become_45 (by decide) (by decide) rfl rfl w1_98 rfl)
    (e_each_cons (r_aload_n X (k := 0) (i := 0) rfl dX2_become_48 rfl)
    (e_each_cons (r_aload_n X (k := 1) (i := 1) rfl dX2_become_49 rfl)
    (e_each_cons (r_getI X (index := 51) (ci := 1) (k := 6) dX2_become_50 (by decide) (by decide) rfl w1_100 rfl)
    (e_each_cons (r_putI X (index := 51) (ci := 1) (k := 6) dX2_become_53 (by decide) (by decide) rfl rfl w1_100 rfl)
    (e_each_cons (r_aload_n X (k := 0) (i := 0) rfl dX2_become_56 rfl)
    (e_each_cons (r_aload_n X (k := 1) (i := 1) rfl dX2_become_57 rfl)
    (e_each_cons (r_getI X (index := 54) (ci := 1) (k := 7) dX2_become_58 (by decide) (by decide) rfl w1_102 rfl)
    (e_each_cons (r_putI X (index := 54) (ci := 1) (k := 7) dX2_become_61 (by decide) (by decide) rfl rfl w1_102 rfl)
    (e_each_cons (r_aload_n X (k := 0) (i := 0) rfl dX2_become_64 rfl)
    (e_each_cons (r_aload_n X (k := 1) (i := 1) rfl dX2_become_65 rfl)
    (e_each_cons (r_getI X (index := 57) (ci := 1) (k := 8) dX2_become_66 (by decide) (by decide) rfl w1_104 rfl)
    (e_each_cons (r_putI X (index := 57) (ci := 1) (k := 8) dX2_become_69 (by decide) (by decide) rfl rfl w1_104 rfl)
    (e_each_cons (r_aload_n X (k := 0) (i := 0) rfl dX2_become_72 rfl)
    (e_each_cons (r_aload_n X (k := 1) (i := 1) rfl dX2_become_73 rfl)
    (e_each_cons (r_getI X (index := 9) (ci := 1) (k := 9) dX2_become_74 (by decide) (by decide) rfl w1_106 rfl)
    (e_each_cons (r_putI X (index := 9) (ci := 1) (k := 9) dX2_become_77 (by decide) (by decide) rfl rfl w1_106 rfl)
    (e_each_cons (r_aload_n X (k := 0) (i := 0) rfl dX2_become_80 rfl)
    (e_each_cons (r_aload_n X (k := 1) (i := 1) rfl dX2_become_81 rfl)
    (e_each_cons (r_getI X (index := 76) (ci := 1) (k := 10) dX2_become_82 (by decide) (by decide) rfl w1_110 rfl)
    (e_each_cons (r_putI X (index := 76) (ci := 1) (k := 10) dX2_become_85 (by decide) (by decide) rfl rfl w1_110 rfl)
    (e_each_cons (r_aload_n X (k := 0) (i := 0) rfl dX2_become_88 rfl)
    (e_each_cons (r_aload_n X (k := 1) (i := 1) rfl dX2_become_89 rfl)
    (e_each_cons (r_getI X (index := 79) (ci := 1) (k := 11) dX2_become_90 (by decide) (by decide) rfl w1_113 rfl)
    (e_each_cons (r_putI X (index := 79) (ci := 1) (k := 11) dX2_become_93 (by decide) (by decide) rfl rfl w1_113 rfl)
    (e_each_cons (r_aload_n X (k := 0) (i := 0) rfl dX2_become_96 rfl)
    (e_each_cons (r_aload_n X (k := 1) (i := 1) rfl dX2_become_97 rfl)
    (e_each_cons (r_getI X (index := 82) (ci := 1) (k := 12) dX2_become_98 (by decide) (by decide) rfl w1_116 rfl)
    (e_each_cons (r_putI X (index := 82) (ci := 1) (k := 12) dX2_become_101 (by decide) (by decide) rfl rfl w1_116 rfl)
    (e_each_cons (r_aload_n X (k := 1) (i := 1) rfl dX2_become_104 rfl)
    (e_each_cons (r_getP X (index := 15) (ci := 1) (k := 13) dX2_become_105 (by decide) (by decide) rfl w1_118 rfl)
    (e_each_cons (r_iconst X (n := 0) (v := 0) dX2_become_108 (by decide) rfl)
    (e_each_cons (r_aload_n X (k := 0) (i := 0) rfl dX2_become_109 rfl)
    (e_each_cons (r_getP X (index := 15) (ci := 1) (k := 13) dX2_become_110 (by decide) (by decide) rfl w1_118 rfl)
    (e_each_cons (r_iconst X (n := 0) (v := 0) dX2_become_113 (by decide) rfl)
    (e_each_cons (r_bipush X (n := 30) (v := 30) dX2_become_114 (by decide) rfl)
    (e_each_cons (r_acI X (index := 85) dX2_become_116 w3_63 w3_65 w3_64 w1_18 ⟨by decide, by decide⟩ rfl)
    (e_each_cons (r_aload_n X (k := 1) (i := 1) rfl dX2_become_119 rfl)
    (e_each_cons (r_getP X (index := 19) (ci := 1) (k := 14) dX2_become_120 (by decide) (by decide) rfl w1_120 rfl)
    (e_each_cons (r_iconst X (n := 0) (v := 0) dX2_become_123 (by decide) rfl)
    (e_each_cons (r_aload_n X (k := 0) (i := 0) rfl dX2_become_124 rfl)
    (e_each_cons (r_getP X (index := 19) (ci := 1) (k := 14) dX2_become_125 (by decide) (by decide) rfl w1_120 rfl)
    (e_each_cons (r_iconst X (n := 0) (v := 0) dX2_become_128 (by decide) rfl)
    (e_each_cons (r_bipush X (n := 30) (v := 30) dX2_become_129 (by decide) rfl)
    (e_each_cons (r_acI X (index := 85) dX2_become_131 w3_63 w3_65 w3_64 w1_18 ⟨by decide, by decide⟩ rfl)
    (e_each_cons (r_aload_n X (k := 1) (i := 1) rfl dX2_become_134 rfl)
    (e_each_cons (r_getP X (index := 22) (ci := 1) (k := 15) dX2_become_135 (by decide) (by decide) rfl w1_121 rfl)
    (e_each_cons (r_iconst X (n := 0) (v := 0) dX2_become_138 (by decide) rfl)
    (e_each_cons (r_aload_n X (k := 0) (i := 0) rfl dX2_become_139 rfl)
    (e_each_cons (r_getP X (index := 22) (ci := 1) (k := 15) dX2_become_140 (by decide) (by decide) rfl w1_121 rfl)
    (e_each_cons (r_iconst X (n := 0) (v := 0) dX2_become_143 (by decide) rfl)
    (e_each_cons (r_iconst X (n := 2) (v := 2) dX2_become_144 (by decide) rfl)
    (e_each_cons (r_acI X (index := 85) dX2_become_145 w3_63 w3_65 w3_64 w1_18 ⟨by decide, by decide⟩ rfl)
    (e_each_cons (r_aload_n X (k := 1) (i := 1) rfl dX2_become_148 rfl)
    (e_each_cons (r_getP X (index := 25) (ci := 1) (k := 16) dX2_become_149 (by decide) (by decide) rfl w1_123 rfl)
    (e_each_cons (r_iconst X (n := 0) (v := 0) dX2_become_152 (by decide) rfl)
    (e_each_cons (r_aload_n X (k := 0) (i := 0) rfl dX2_become_153 rfl)
    (e_each_cons (r_getP X (index := 25) (ci := 1) (k := 16) dX2_become_154 (by decide) (by decide) rfl w1_123 rfl)
    (e_each_cons (r_iconst X (n := 0) (v := 0) dX2_become_157 (by decide) rfl)
    (e_each_cons (r_iconst X (n := 2) (v := 2) dX2_become_158 (by decide) rfl)
    (e_each_cons (r_acL X (index := 85) dX2_become_159 w3_63 w3_65 w3_64 w1_18 ⟨by decide, by decide⟩ rfl)
    (e_each_cons (r_vret X dX2_become_162 rfl)
    (e_each_nil)))))))))))))))))))))))))))))))))))))))))))))))))))))))))))))))))))))))))))))))))))))
theorem dX2_hasDate_0 : decode cX2_hasDate 0 = .ok (.iload_n 1, 1) := by decide +kernel
theorem dX2_hasDate_1 : decode cX2_hasDate 1 = .ok (.iconst 0, 1) := by decide +kernel
theorem dX2_hasDate_2 : decode cX2_hasDate 2 = .ok (.aload_n 0, 1) := by decide +kernel
theorem dX2_hasDate_3 : decode cX2_hasDate 3 = .ok (.getfield 76, 3) := by decide +kernel
theorem dX2_hasDate_6 : decode cX2_hasDate 6 = .ok (.iconst 1, 1) := by decide +kernel
theorem dX2_hasDate_7 : decode cX2_hasDate 7 = .ok (.isub, 1) := by decide +kernel
theorem dX2_hasDate_8 : decode cX2_hasDate 8 = .ok (.invokestatic 114, 3) := by decide +kernel
theorem dX2_hasDate_11 : decode cX2_hasDate 11 = .ok (.ireturn, 1) := by decide +kernel
def pg_X2_hasDate (l : Launch) (g : EG) : List (Nat × ES) := [(0, s_ldI 1), (1, s_c (.inl 0)), (2, s_ldP 0), (3, s_getI 1 10), (6, s_c (.inl 1)), (7, s_ii (fun x y => x - y)), (8, s_callS l g sg_X2_hasDate sg_X10_isWithin), (11, s_iretz)]
set_option maxRecDepth 100000 in
theorem ok_X2_hasDate {l : Launch} {g : EG} : e_okp l g sg_X2_hasDate "CalendarSync$Event" (pg_X2_hasDate l g) := fun p e R s m args below meth c ex M0 Q X =>
    e_each_cons (r_iload_n X (k := 1) (i := 1) rfl dX2_hasDate_0 rfl)
    (e_each_cons (r_iconst X (n := 0) (v := 0) dX2_hasDate_1 (by decide) rfl)
    (e_each_cons (r_aload_n X (k := 0) (i := 0) rfl dX2_hasDate_2 rfl)
    (e_each_cons (r_getI X (index := 76) (ci := 1) (k := 10) dX2_hasDate_3 (by decide) (by decide) rfl w1_110 rfl)
    (e_each_cons (r_iconst X (n := 1) (v := 1) dX2_hasDate_6 (by decide) rfl)
    (e_each_cons (r_isub X dX2_hasDate_7 rfl)
    (e_each_cons (r_callSN X rfl (τ := sg_X10_isWithin) (index := 114) (host := "CalendarSync") dX2_hasDate_8 wn5_210 w2_127 cs_X10_isWithin rfl ⟨by decide, by decide⟩ rfl)
    (e_each_cons (r_iretz X dX2_hasDate_11 rfl)
    (e_each_nil))))))))
theorem dX2_isShown_0 : decode cX2_isShown 0 = .ok (.aload_n 0, 1) := by decide +kernel
theorem dX2_isShown_1 : decode cX2_isShown 1 = .ok (.invokevirtual 118, 3) := by decide +kernel
theorem dX2_isShown_4 : decode cX2_isShown 4 = .ok (.iload_n 1, 1) := by decide +kernel
theorem dX2_isShown_5 : decode cX2_isShown 5 = .ok (.invokestatic 97, 3) := by decide +kernel
theorem dX2_isShown_8 : decode cX2_isShown 8 = .ok (.ireturn, 1) := by decide +kernel
def pg_X2_isShown (l : Launch) (g : EG) : List (Nat × ES) := [(0, s_ldP 0), (1, s_callV l g sg_X2_isShown sg_X2_shownBits 1), (4, s_ldI 1), (5, s_callS l g sg_X2_isShown sg_X10_hasBit), (8, s_iretz)]
set_option maxRecDepth 100000 in
theorem ok_X2_isShown {l : Launch} {g : EG} : e_okp l g sg_X2_isShown "CalendarSync$Event" (pg_X2_isShown l g) := fun p e R s m args below meth c ex M0 Q X =>
    e_each_cons (r_aload_n X (k := 0) (i := 0) rfl dX2_isShown_0 rfl)
    (e_each_cons (r_callV X rfl (τ := sg_X2_shownBits) (index := 118) (ci := 1) dX2_isShown_1 (by decide) rfl w5_222 w2_220 w2_221 cs_X2_shownBits rfl ⟨by decide, by decide⟩ rfl)
    (e_each_cons (r_iload_n X (k := 1) (i := 1) rfl dX2_isShown_4 rfl)
    (e_each_cons (r_callSN X rfl (τ := sg_X10_hasBit) (index := 97) (host := "CalendarSync") dX2_isShown_5 wn2_238 w2_224 cs_X10_hasBit rfl ⟨by decide, by decide⟩ rfl)
    (e_each_cons (r_iretz X dX2_isShown_8 rfl)
    (e_each_nil)))))
theorem dX2_moveTo_0 : decode cX2_moveTo 0 = .ok (.aload_n 0, 1) := by decide +kernel
theorem dX2_moveTo_1 : decode cX2_moveTo 1 = .ok (.dup, 1) := by decide +kernel
theorem dX2_moveTo_2 : decode cX2_moveTo 2 = .ok (.getfield 82, 3) := by decide +kernel
theorem dX2_moveTo_5 : decode cX2_moveTo 5 = .ok (.iconst 1, 1) := by decide +kernel
theorem dX2_moveTo_6 : decode cX2_moveTo 6 = .ok (.iload_n 1, 1) := by decide +kernel
theorem dX2_moveTo_7 : decode cX2_moveTo 7 = .ok (.ishl, 1) := by decide +kernel
theorem dX2_moveTo_8 : decode cX2_moveTo 8 = .ok (.ior, 1) := by decide +kernel
theorem dX2_moveTo_9 : decode cX2_moveTo 9 = .ok (.putfield 82, 3) := by decide +kernel
theorem dX2_moveTo_12 : decode cX2_moveTo 12 = .ok (.aload_n 0, 1) := by decide +kernel
theorem dX2_moveTo_13 : decode cX2_moveTo 13 = .ok (.getfield 19, 3) := by decide +kernel
theorem dX2_moveTo_16 : decode cX2_moveTo 16 = .ok (.iload_n 1, 1) := by decide +kernel
theorem dX2_moveTo_17 : decode cX2_moveTo 17 = .ok (.iload_n 2, 1) := by decide +kernel
theorem dX2_moveTo_18 : decode cX2_moveTo 18 = .ok (.sipush 1440, 3) := by decide +kernel
theorem dX2_moveTo_21 : decode cX2_moveTo 21 = .ok (.imul, 1) := by decide +kernel
theorem dX2_moveTo_22 : decode cX2_moveTo 22 = .ok (.iload_n 3, 1) := by decide +kernel
theorem dX2_moveTo_23 : decode cX2_moveTo 23 = .ok (.iadd, 1) := by decide +kernel
theorem dX2_moveTo_24 : decode cX2_moveTo 24 = .ok (.iastore, 1) := by decide +kernel
theorem dX2_moveTo_25 : decode cX2_moveTo 25 = .ok (.return_, 1) := by decide +kernel
def pg_X2_moveTo (l : Launch) (g : EG) : List (Nat × ES) := [(0, s_ldP 0), (1, s_dup), (2, s_getI 1 12), (5, s_c (.inl 1)), (6, s_ldI 1), (7, s_ii (fun x y => x <<< (y &&& 31))), (8, s_ii (fun x y => x ||| y)), (9, s_putI 1 12), (12, s_ldP 0), (13, s_getP 1 14), (16, s_ldI 1), (17, s_ldI 2), (18, s_c (.inl 1440)), (21, s_ii (fun x y => x * y)), (22, s_ldI 3), (23, s_ii (fun x y => x + y)), (24, s_iast), (25, s_vret)]
set_option maxRecDepth 100000 in
theorem ok_X2_moveTo {l : Launch} {g : EG} : e_okp l g sg_X2_moveTo "CalendarSync$Event" (pg_X2_moveTo l g) := fun p e R s m args below meth c ex M0 Q X =>
    e_each_cons (r_aload_n X (k := 0) (i := 0) rfl dX2_moveTo_0 rfl)
    (e_each_cons (r_dup X dX2_moveTo_1 rfl)
    (e_each_cons (r_getI X (index := 82) (ci := 1) (k := 12) dX2_moveTo_2 (by decide) (by decide) rfl w1_116 rfl)
    (e_each_cons (r_iconst X (n := 1) (v := 1) dX2_moveTo_5 (by decide) rfl)
    (e_each_cons (r_iload_n X (k := 1) (i := 1) rfl dX2_moveTo_6 rfl)
    (e_each_cons (r_ishl X dX2_moveTo_7 rfl)
    (e_each_cons (r_ior X dX2_moveTo_8 rfl)
    (e_each_cons (r_putI X (index := 82) (ci := 1) (k := 12) dX2_moveTo_9 (by decide) (by decide) rfl rfl w1_116 rfl)
    (e_each_cons (r_aload_n X (k := 0) (i := 0) rfl dX2_moveTo_12 rfl)
    (e_each_cons (r_getP X (index := 19) (ci := 1) (k := 14) dX2_moveTo_13 (by decide) (by decide) rfl w1_120 rfl)
    (e_each_cons (r_iload_n X (k := 1) (i := 1) rfl dX2_moveTo_16 rfl)
    (e_each_cons (r_iload_n X (k := 2) (i := 2) rfl dX2_moveTo_17 rfl)
    (e_each_cons (r_sipush X (n := 1440) (v := 1440) dX2_moveTo_18 (by decide) rfl)
    (e_each_cons (r_imul X dX2_moveTo_21 rfl)
    (e_each_cons (r_iload_n X (k := 3) (i := 3) rfl dX2_moveTo_22 rfl)
    (e_each_cons (r_iadd X dX2_moveTo_23 rfl)
    (e_each_cons (r_iast X dX2_moveTo_24 rfl)
    (e_each_cons (r_vret X dX2_moveTo_25 rfl)
    (e_each_nil))))))))))))))))))
theorem dX2_givenTo_0 : decode cX2_givenTo 0 = .ok (.aload_n 0, 1) := by decide +kernel
theorem dX2_givenTo_1 : decode cX2_givenTo 1 = .ok (.getfield 25, 3) := by decide +kernel
theorem dX2_givenTo_4 : decode cX2_givenTo 4 = .ok (.iload_n 1, 1) := by decide +kernel
theorem dX2_givenTo_5 : decode cX2_givenTo 5 = .ok (.laload, 1) := by decide +kernel
theorem dX2_givenTo_6 : decode cX2_givenTo 6 = .ok (.iconst 2, 1) := by decide +kernel
theorem dX2_givenTo_7 : decode cX2_givenTo 7 = .ok (.iload_n 2, 1) := by decide +kernel
theorem dX2_givenTo_8 : decode cX2_givenTo 8 = .ok (.imul, 1) := by decide +kernel
theorem dX2_givenTo_9 : decode cX2_givenTo 9 = .ok (.lshr, 1) := by decide +kernel
theorem dX2_givenTo_10 : decode cX2_givenTo 10 = .ok (.l2i, 1) := by decide +kernel
theorem dX2_givenTo_11 : decode cX2_givenTo 11 = .ok (.iconst 3, 1) := by decide +kernel
theorem dX2_givenTo_12 : decode cX2_givenTo 12 = .ok (.iand, 1) := by decide +kernel
theorem dX2_givenTo_13 : decode cX2_givenTo 13 = .ok (.ireturn, 1) := by decide +kernel
def pg_X2_givenTo (l : Launch) (g : EG) : List (Nat × ES) := [(0, s_ldP 0), (1, s_getP 1 16), (4, s_ldI 1), (5, s_lald), (6, s_c (.inl 2)), (7, s_ldI 2), (8, s_ii (fun x y => x * y)), (9, s_li (fun x y => x >>> (y.toInt64 &&& 63))), (10, s_lI (fun x => x.toInt32)), (11, s_c (.inl 3)), (12, s_ii (fun x y => x &&& y)), (13, s_ireti)]
set_option maxRecDepth 100000 in
theorem ok_X2_givenTo {l : Launch} {g : EG} : e_okp l g sg_X2_givenTo "CalendarSync$Event" (pg_X2_givenTo l g) := fun p e R s m args below meth c ex M0 Q X =>
    e_each_cons (r_aload_n X (k := 0) (i := 0) rfl dX2_givenTo_0 rfl)
    (e_each_cons (r_getP X (index := 25) (ci := 1) (k := 16) dX2_givenTo_1 (by decide) (by decide) rfl w1_123 rfl)
    (e_each_cons (r_iload_n X (k := 1) (i := 1) rfl dX2_givenTo_4 rfl)
    (e_each_cons (r_lald X dX2_givenTo_5 rfl)
    (e_each_cons (r_iconst X (n := 2) (v := 2) dX2_givenTo_6 (by decide) rfl)
    (e_each_cons (r_iload_n X (k := 2) (i := 2) rfl dX2_givenTo_7 rfl)
    (e_each_cons (r_imul X dX2_givenTo_8 rfl)
    (e_each_cons (r_lshr X dX2_givenTo_9 rfl)
    (e_each_cons (r_l2i X dX2_givenTo_10 rfl)
    (e_each_cons (r_iconst X (n := 3) (v := 3) dX2_givenTo_11 (by decide) rfl)
    (e_each_cons (r_iand X dX2_givenTo_12 rfl)
    (e_each_cons (r_ireti X dX2_givenTo_13 rfl)
    (e_each_nil))))))))))))
theorem dX2_giveTo_0 : decode cX2_giveTo 0 = .ok (.aload_n 0, 1) := by decide +kernel
theorem dX2_giveTo_1 : decode cX2_giveTo 1 = .ok (.getfield 25, 3) := by decide +kernel
theorem dX2_giveTo_4 : decode cX2_giveTo 4 = .ok (.iload_n 1, 1) := by decide +kernel
theorem dX2_giveTo_5 : decode cX2_giveTo 5 = .ok (.aload_n 0, 1) := by decide +kernel
theorem dX2_giveTo_6 : decode cX2_giveTo 6 = .ok (.getfield 25, 3) := by decide +kernel
theorem dX2_giveTo_9 : decode cX2_giveTo 9 = .ok (.iload_n 1, 1) := by decide +kernel
theorem dX2_giveTo_10 : decode cX2_giveTo 10 = .ok (.laload, 1) := by decide +kernel
theorem dX2_giveTo_11 : decode cX2_giveTo 11 = .ok (.ldc2_w 122, 3) := by decide +kernel
theorem dX2_giveTo_14 : decode cX2_giveTo 14 = .ok (.iconst 2, 1) := by decide +kernel
theorem dX2_giveTo_15 : decode cX2_giveTo 15 = .ok (.iload_n 2, 1) := by decide +kernel
theorem dX2_giveTo_16 : decode cX2_giveTo 16 = .ok (.imul, 1) := by decide +kernel
theorem dX2_giveTo_17 : decode cX2_giveTo 17 = .ok (.lshl, 1) := by decide +kernel
theorem dX2_giveTo_18 : decode cX2_giveTo 18 = .ok (.ldc2_w 124, 3) := by decide +kernel
theorem dX2_giveTo_21 : decode cX2_giveTo 21 = .ok (.lxor, 1) := by decide +kernel
theorem dX2_giveTo_22 : decode cX2_giveTo 22 = .ok (.land, 1) := by decide +kernel
theorem dX2_giveTo_23 : decode cX2_giveTo 23 = .ok (.iload_n 3, 1) := by decide +kernel
theorem dX2_giveTo_24 : decode cX2_giveTo 24 = .ok (.i2l, 1) := by decide +kernel
theorem dX2_giveTo_25 : decode cX2_giveTo 25 = .ok (.iconst 2, 1) := by decide +kernel
theorem dX2_giveTo_26 : decode cX2_giveTo 26 = .ok (.iload_n 2, 1) := by decide +kernel
theorem dX2_giveTo_27 : decode cX2_giveTo 27 = .ok (.imul, 1) := by decide +kernel
theorem dX2_giveTo_28 : decode cX2_giveTo 28 = .ok (.lshl, 1) := by decide +kernel
theorem dX2_giveTo_29 : decode cX2_giveTo 29 = .ok (.lor, 1) := by decide +kernel
theorem dX2_giveTo_30 : decode cX2_giveTo 30 = .ok (.lastore, 1) := by decide +kernel
theorem dX2_giveTo_31 : decode cX2_giveTo 31 = .ok (.return_, 1) := by decide +kernel
def pg_X2_giveTo (l : Launch) (g : EG) : List (Nat × ES) := [(0, s_ldP 0), (1, s_getP 1 16), (4, s_ldI 1), (5, s_ldP 0), (6, s_getP 1 16), (9, s_ldI 1), (10, s_lald), (11, s_c (.inr (.inl 3))), (14, s_c (.inl 2)), (15, s_ldI 2), (16, s_ii (fun x y => x * y)), (17, s_li (fun x y => x <<< (y.toInt64 &&& 63))), (18, s_c (.inr (.inl (-1)))), (21, s_ll (fun x y => x ^^^ y)), (22, s_ll (fun x y => x &&& y)), (23, s_ldI 3), (24, s_il (fun x => x.toInt64)), (25, s_c (.inl 2)), (26, s_ldI 2), (27, s_ii (fun x y => x * y)), (28, s_li (fun x y => x <<< (y.toInt64 &&& 63))), (29, s_ll (fun x y => x ||| y)), (30, s_last), (31, s_vret)]
set_option maxRecDepth 100000 in
theorem ok_X2_giveTo {l : Launch} {g : EG} : e_okp l g sg_X2_giveTo "CalendarSync$Event" (pg_X2_giveTo l g) := fun p e R s m args below meth c ex M0 Q X =>
    e_each_cons (r_aload_n X (k := 0) (i := 0) rfl dX2_giveTo_0 rfl)
    (e_each_cons (r_getP X (index := 25) (ci := 1) (k := 16) dX2_giveTo_1 (by decide) (by decide) rfl w1_123 rfl)
    (e_each_cons (r_iload_n X (k := 1) (i := 1) rfl dX2_giveTo_4 rfl)
    (e_each_cons (r_aload_n X (k := 0) (i := 0) rfl dX2_giveTo_5 rfl)
    (e_each_cons (r_getP X (index := 25) (ci := 1) (k := 16) dX2_giveTo_6 (by decide) (by decide) rfl w1_123 rfl)
    (e_each_cons (r_iload_n X (k := 1) (i := 1) rfl dX2_giveTo_9 rfl)
    (e_each_cons (r_lald X dX2_giveTo_10 rfl)
    (e_each_cons (r_ldc2 X (n := 122) (v := 3) dX2_giveTo_11 w6_198 rfl)
    (e_each_cons (r_iconst X (n := 2) (v := 2) dX2_giveTo_14 (by decide) rfl)
    (e_each_cons (r_iload_n X (k := 2) (i := 2) rfl dX2_giveTo_15 rfl)
    (e_each_cons (r_imul X dX2_giveTo_16 rfl)
    (e_each_cons (r_lshl X dX2_giveTo_17 rfl)
    (e_each_cons (r_ldc2 X (n := 124) (v := (-1)) dX2_giveTo_18 w6_199 rfl)
    (e_each_cons (r_lxor X dX2_giveTo_21 rfl)
    (e_each_cons (r_land X dX2_giveTo_22 rfl)
    (e_each_cons (r_iload_n X (k := 3) (i := 3) rfl dX2_giveTo_23 rfl)
    (e_each_cons (r_i2l X dX2_giveTo_24 rfl)
    (e_each_cons (r_iconst X (n := 2) (v := 2) dX2_giveTo_25 (by decide) rfl)
    (e_each_cons (r_iload_n X (k := 2) (i := 2) rfl dX2_giveTo_26 rfl)
    (e_each_cons (r_imul X dX2_giveTo_27 rfl)
    (e_each_cons (r_lshl X dX2_giveTo_28 rfl)
    (e_each_cons (r_lor X dX2_giveTo_29 rfl)
    (e_each_cons (r_last X dX2_giveTo_30 rfl)
    (e_each_cons (r_vret X dX2_giveTo_31 rfl)
    (e_each_nil))))))))))))))))))))))))
theorem dX2_answerTo_0 : decode cX2_answerTo 0 = .ok (.aload_n 0, 1) := by decide +kernel
theorem dX2_answerTo_1 : decode cX2_answerTo 1 = .ok (.iload_n 1, 1) := by decide +kernel
theorem dX2_answerTo_2 : decode cX2_answerTo 2 = .ok (.iload_n 2, 1) := by decide +kernel
theorem dX2_answerTo_3 : decode cX2_answerTo 3 = .ok (.invokevirtual 126, 3) := by decide +kernel
theorem dX2_answerTo_6 : decode cX2_answerTo 6 = .ok (.istore_n 3, 1) := by decide +kernel
theorem dX2_answerTo_7 : decode cX2_answerTo 7 = .ok (.iload_n 3, 1) := by decide +kernel
theorem dX2_answerTo_8 : decode cX2_answerTo 8 = .ok (.ifCond .eq 7, 3) := by decide +kernel
theorem dX2_answerTo_11 : decode cX2_answerTo 11 = .ok (.iload_n 3, 1) := by decide +kernel
theorem dX2_answerTo_12 : decode cX2_answerTo 12 = .ok (.goto 9, 3) := by decide +kernel
theorem dX2_answerTo_15 : decode cX2_answerTo 15 = .ok (.aload_n 0, 1) := by decide +kernel
theorem dX2_answerTo_16 : decode cX2_answerTo 16 = .ok (.getfield 22, 3) := by decide +kernel
theorem dX2_answerTo_19 : decode cX2_answerTo 19 = .ok (.iload_n 1, 1) := by decide +kernel
theorem dX2_answerTo_20 : decode cX2_answerTo 20 = .ok (.iaload, 1) := by decide +kernel
theorem dX2_answerTo_21 : decode cX2_answerTo 21 = .ok (.ireturn, 1) := by decide +kernel
def pg_X2_answerTo (l : Launch) (g : EG) : List (Nat × ES) := [(0, s_ldP 0), (1, s_ldI 1), (2, s_ldI 2), (3, s_callV l g sg_X2_answerTo sg_X2_givenTo 1), (6, s_stI 3), (7, s_ldI 3), (8, s_if_eq 15), (11, s_ldI 3), (12, s_goto 21), (15, s_ldP 0), (16, s_getP 1 15), (19, s_ldI 1), (20, s_iald), (21, s_ireti)]
set_option maxRecDepth 100000 in
theorem ok_X2_answerTo {l : Launch} {g : EG} : e_okp l g sg_X2_answerTo "CalendarSync$Event" (pg_X2_answerTo l g) := fun p e R s m args below meth c ex M0 Q X =>
    e_each_cons (r_aload_n X (k := 0) (i := 0) rfl dX2_answerTo_0 rfl)
    (e_each_cons (r_iload_n X (k := 1) (i := 1) rfl dX2_answerTo_1 rfl)
    (e_each_cons (r_iload_n X (k := 2) (i := 2) rfl dX2_answerTo_2 rfl)
    (e_each_cons (r_callV X rfl (τ := sg_X2_givenTo) (index := 126) (ci := 1) dX2_answerTo_3 (by decide) rfl w3_16 w3_17 w3_18 cs_X2_givenTo rfl ⟨by decide, by decide⟩ rfl)
    (e_each_cons (r_istore_n X (k := 3) (i := 3) rfl dX2_answerTo_6 (by decide) rfl)
    (e_each_cons (r_iload_n X (k := 3) (i := 3) rfl dX2_answerTo_7 rfl)
    (e_each_cons (r_if_eq X (off := 7) (t := 15) dX2_answerTo_8 (by decide) rfl)
    (e_each_cons (r_iload_n X (k := 3) (i := 3) rfl dX2_answerTo_11 rfl)
    (e_each_cons (r_goto X (off := 9) (t := 21) dX2_answerTo_12 (by decide))
    (e_each_cons (r_aload_n X (k := 0) (i := 0) rfl dX2_answerTo_15 rfl)
    (e_each_cons (r_getP X (index := 22) (ci := 1) (k := 15) dX2_answerTo_16 (by decide) (by decide) rfl w1_121 rfl)
    (e_each_cons (r_iload_n X (k := 1) (i := 1) rfl dX2_answerTo_19 rfl)
    (e_each_cons (r_iald X dX2_answerTo_20 rfl)
    (e_each_cons (r_ireti X dX2_answerTo_21 rfl)
    (e_each_nil))))))))))))))
theorem dX2_takeAnswers_0 : decode cX2_takeAnswers 0 = .ok (.aload_n 0, 1) := by decide +kernel
theorem dX2_takeAnswers_1 : decode cX2_takeAnswers 1 = .ok (.getfield 22, 3) := by decide +kernel
theorem dX2_takeAnswers_4 : decode cX2_takeAnswers 4 = .ok (.iload_n 2, 1) := by decide +kernel
theorem dX2_takeAnswers_5 : decode cX2_takeAnswers 5 = .ok (.aload_n 1, 1) := by decide +kernel
theorem dX2_takeAnswers_6 : decode cX2_takeAnswers 6 = .ok (.getfield 22, 3) := by decide +kernel
theorem dX2_takeAnswers_9 : decode cX2_takeAnswers 9 = .ok (.iload_n 2, 1) := by decide +kernel
theorem dX2_takeAnswers_10 : decode cX2_takeAnswers 10 = .ok (.iaload, 1) := by decide +kernel
theorem dX2_takeAnswers_11 : decode cX2_takeAnswers 11 = .ok (.iastore, 1) := by decide +kernel
theorem dX2_takeAnswers_12 : decode cX2_takeAnswers 12 = .ok (.aload_n 0, 1) := by decide +kernel
theorem dX2_takeAnswers_13 : decode cX2_takeAnswers 13 = .ok (.getfield 25, 3) := by decide +kernel
theorem dX2_takeAnswers_16 : decode cX2_takeAnswers 16 = .ok (.iload_n 2, 1) := by decide +kernel
theorem dX2_takeAnswers_17 : decode cX2_takeAnswers 17 = .ok (.aload_n 1, 1) := by decide +kernel
theorem dX2_takeAnswers_18 : decode cX2_takeAnswers 18 = .ok (.getfield 25, 3) := by decide +kernel
theorem dX2_takeAnswers_21 : decode cX2_takeAnswers 21 = .ok (.iload_n 2, 1) := by decide +kernel
theorem dX2_takeAnswers_22 : decode cX2_takeAnswers 22 = .ok (.laload, 1) := by decide +kernel
theorem dX2_takeAnswers_23 : decode cX2_takeAnswers 23 = .ok (.lconst 1, 1) := by decide +kernel
theorem dX2_takeAnswers_24 : decode cX2_takeAnswers 24 = .ok (.iconst 2, 1) := by decide +kernel
theorem dX2_takeAnswers_25 : decode cX2_takeAnswers 25 = .ok (.aload_n 0, 1) := by decide +kernel
theorem dX2_takeAnswers_26 : decode cX2_takeAnswers 26 = .ok (.getfield 76, 3) := by decide +kernel
theorem dX2_takeAnswers_29 : decode cX2_takeAnswers 29 = .ok (.imul, 1) := by decide +kernel
theorem dX2_takeAnswers_30 : decode cX2_takeAnswers 30 = .ok (.lshl, 1) := by decide +kernel
theorem dX2_takeAnswers_31 : decode cX2_takeAnswers 31 = .ok (.lconst 1, 1) := by decide +kernel
theorem dX2_takeAnswers_32 : decode cX2_takeAnswers 32 = .ok (.lsub, 1) := by decide +kernel
theorem dX2_takeAnswers_33 : decode cX2_takeAnswers 33 = .ok (.land, 1) := by decide +kernel
theorem dX2_takeAnswers_34 : decode cX2_takeAnswers 34 = .ok (.lastore, 1) := by decide +kernel
theorem dX2_takeAnswers_35 : decode cX2_takeAnswers 35 = .ok (.return_, 1) := by decide +kernel
def pg_X2_takeAnswers (l : Launch) (g : EG) : List (Nat × ES) := [(0, s_ldP 0), (1, s_getP 1 15), (4, s_ldI 2), (5, s_ldP 1), (6, s_getP 1 15), (9, s_ldI 2), (10, s_iald), (11, s_iast), (12, s_ldP 0), (13, s_getP 1 16), (16, s_ldI 2), (17, s_ldP 1), (18, s_getP 1 16), (21, s_ldI 2), (22, s_lald), (23, s_c (.inr (.inl 1))), (24, s_c (.inl 2)), (25, s_ldP 0), (26, s_getI 1 10), (29, s_ii (fun x y => x * y)), (30, s_li (fun x y => x <<< (y.toInt64 &&& 63))), (31, s_c (.inr (.inl 1))), (32, s_ll (fun x y => x - y)), (33, s_ll (fun x y => x &&& y)), (34, s_last), (35, s_vret)]
set_option maxRecDepth 100000 in
theorem ok_X2_takeAnswers {l : Launch} {g : EG} : e_okp l g sg_X2_takeAnswers "CalendarSync$Event" (pg_X2_takeAnswers l g) := fun p e R s m args below meth c ex M0 Q X =>
    e_each_cons (r_aload_n X (k := 0) (i := 0) rfl dX2_takeAnswers_0 rfl)
    (e_each_cons (r_getP X (index := 22) (ci := 1) (k := 15) dX2_takeAnswers_1 (by decide) (by decide) rfl w1_121 rfl)
    (e_each_cons (r_iload_n X (k := 2) (i := 2) rfl dX2_takeAnswers_4 rfl)
    (e_each_cons (r_aload_n X (k := 1) (i := 1) rfl dX2_takeAnswers_5 rfl)
    (e_each_cons (r_getP X (index := 22) (ci := 1) (k := 15) dX2_takeAnswers_6 (by decide) (by decide) rfl w1_121 rfl)
    (e_each_cons (r_iload_n X (k := 2) (i := 2) rfl dX2_takeAnswers_9 rfl)
    (e_each_cons (r_iald X dX2_takeAnswers_10 rfl)
    (e_each_cons (r_iast X dX2_takeAnswers_11 rfl)
    (e_each_cons (r_aload_n X (k := 0) (i := 0) rfl dX2_takeAnswers_12 rfl)
    (e_each_cons (r_getP X (index := 25) (ci := 1) (k := 16) dX2_takeAnswers_13 (by decide) (by decide) rfl w1_123 rfl)
    (e_each_cons (r_iload_n X (k := 2) (i := 2) rfl dX2_takeAnswers_16 rfl)
    (e_each_cons (r_aload_n X (k := 1) (i := 1) rfl dX2_takeAnswers_17 rfl)
    (e_each_cons (r_getP X (index := 25) (ci := 1) (k := 16) dX2_takeAnswers_18 (by decide) (by decide) rfl w1_123 rfl)
    (e_each_cons (r_iload_n X (k := 2) (i := 2) rfl dX2_takeAnswers_21 rfl)
    (e_each_cons (r_lald X dX2_takeAnswers_22 rfl)
    (e_each_cons (r_lconst X (n := 1) (v := 1) dX2_takeAnswers_23 (by decide) rfl)
    (e_each_cons (r_iconst X (n := 2) (v := 2) dX2_takeAnswers_24 (by decide) rfl)
    (e_each_cons (r_aload_n X (k := 0) (i := 0) rfl dX2_takeAnswers_25 rfl)
    (e_each_cons (r_getI X (index := 76) (ci := 1) (k := 10) dX2_takeAnswers_26 (by decide) (by decide) rfl w1_110 rfl)
    (e_each_cons (r_imul X dX2_takeAnswers_29 rfl)
    (e_each_cons (r_lshl X dX2_takeAnswers_30 rfl)
    (e_each_cons (r_lconst X (n := 1) (v := 1) dX2_takeAnswers_31 (by decide) rfl)
    (e_each_cons (r_lsub X dX2_takeAnswers_32 rfl)
    (e_each_cons (r_land X dX2_takeAnswers_33 rfl)
    (e_each_cons (r_last X dX2_takeAnswers_34 rfl)
    (e_each_cons (r_vret X dX2_takeAnswers_35 rfl)
    (e_each_nil))))))))))))))))))))))))))
