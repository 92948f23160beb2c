/-! TABLES (by program): the rows of X9 -/
theorem dX9_isSummer_0 : decode cX9_isSummer 0 = .ok (.aload_n 0, 1) := by decide +kernel
theorem dX9_isSummer_1 : decode cX9_isSummer 1 = .ok (.getfield 9, 3) := by decide +kernel
theorem dX9_isSummer_4 : decode cX9_isSummer 4 = .ok (.iconst (-1), 1) := by decide +kernel
theorem dX9_isSummer_5 : decode cX9_isSummer 5 = .ok (.if_icmp .eq 22, 3) := by decide +kernel
theorem dX9_isSummer_8 : decode cX9_isSummer 8 = .ok (.iload_n 1, 1) := by decide +kernel
theorem dX9_isSummer_9 : decode cX9_isSummer 9 = .ok (.aload_n 0, 1) := by decide +kernel
theorem dX9_isSummer_10 : decode cX9_isSummer 10 = .ok (.getfield 9, 3) := by decide +kernel
theorem dX9_isSummer_13 : decode cX9_isSummer 13 = .ok (.aload_n 0, 1) := by decide +kernel
theorem dX9_isSummer_14 : decode cX9_isSummer 14 = .ok (.getfield 15, 3) := by decide +kernel
theorem dX9_isSummer_17 : decode cX9_isSummer 17 = .ok (.invokestatic 30, 3) := by decide +kernel
theorem dX9_isSummer_20 : decode cX9_isSummer 20 = .ok (.ifCond .eq 7, 3) := by decide +kernel
theorem dX9_isSummer_23 : decode cX9_isSummer 23 = .ok (.iconst 1, 1) := by decide +kernel
theorem dX9_isSummer_24 : decode cX9_isSummer 24 = .ok (.goto 4, 3) := by decide +kernel
theorem dX9_isSummer_27 : decode cX9_isSummer 27 = .ok (.iconst 0, 1) := by decide +kernel
theorem dX9_isSummer_28 : decode cX9_isSummer 28 = .ok (.ireturn, 1) := by decide +kernel
def pg_X9_isSummer (l : Launch) (g : EG) : List (Nat × ES) := [(0, s_ldP 0), (1, s_getI 8 1), (4, s_c (.inl (-1))), (5, s_icmp_eq 27), (8, s_ldI 1), (9, s_ldP 0), (10, s_getI 8 1), (13, s_ldP 0), (14, s_getI 8 2), (17, s_callS l g sg_X9_isSummer sg_X10_isWithin), (20, s_if_eq 27), (23, s_c (.inl 1)), (24, s_goto 28), (27, s_c (.inl 0)), (28, s_iretz)]
set_option maxRecDepth 100000 in
theorem ok_X9_isSummer {l : Launch} {g : EG} : e_okp l g sg_X9_isSummer "CalendarSync$Zone" (pg_X9_isSummer l g) := fun p e R s m args below meth c ex M0 Q X =>
    e_each_cons (r_aload_n X (k := 0) (i := 0) rfl dX9_isSummer_0 rfl)
    (e_each_cons (r_getI X (index := 9) (ci := 8) (k := 1) dX9_isSummer_1 (by decide) (by decide) rfl w1_61 rfl)
    (e_each_cons (r_iconst X (n := (-1)) (v := (-1)) dX9_isSummer_4 (by decide) rfl)
    (e_each_cons (r_icmp_eq X (off := 22) (t := 27) dX9_isSummer_5 (by decide) rfl)
    (e_each_cons (r_iload_n X (k := 1) (i := 1) rfl dX9_isSummer_8 rfl)
    (e_each_cons (r_aload_n X (k := 0) (i := 0) rfl dX9_isSummer_9 rfl)
    (e_each_cons (r_getI X (index := 9) (ci := 8) (k := 1) dX9_isSummer_10 (by decide) (by decide) rfl w1_61 rfl)
    (e_each_cons (r_aload_n X (k := 0) (i := 0) rfl dX9_isSummer_13 rfl)
    (e_each_cons (r_getI X (index := 15) (ci := 8) (k := 2) dX9_isSummer_14 (by decide) (by decide) rfl w1_63 rfl)
    (e_each_cons (r_callSN X rfl (τ := sg_X10_isWithin) (index := 30) (host := "CalendarSync") dX9_isSummer_17 wn3_11 w2_127 cs_X10_isWithin rfl ⟨by decide, by decide⟩ rfl)
    (e_each_cons (r_if_eq X (off := 7) (t := 27) dX9_isSummer_20 (by decide) rfl)
    (e_each_cons (r_iconst X (n := 1) (v := 1) dX9_isSummer_23 (by decide) rfl)
    (e_each_cons (r_goto X (off := 4) (t := 28) dX9_isSummer_24 (by decide))
    (e_each_cons (r_iconst X (n := 0) (v := 0) dX9_isSummer_27 (by decide) rfl)
    (e_each_cons (r_iretz X dX9_isSummer_28 rfl)
    (e_each_nil)))))))))))))))
theorem dX9_momentAt_0 : decode cX9_momentAt 0 = .ok (.iload_n 1, 1) := by decide +kernel
theorem dX9_momentAt_1 : decode cX9_momentAt 1 = .ok (.sipush 1440, 3) := by decide +kernel
theorem dX9_momentAt_4 : decode cX9_momentAt 4 = .ok (.imul, 1) := by decide +kernel
theorem dX9_momentAt_5 : decode cX9_momentAt 5 = .ok (.iload_n 2, 1) := by decide +kernel
theorem dX9_momentAt_6 : decode cX9_momentAt 6 = .ok (.iadd, 1) := by decide +kernel
theorem dX9_momentAt_7 : decode cX9_momentAt 7 = .ok (.aload_n 0, 1) := by decide +kernel
theorem dX9_momentAt_8 : decode cX9_momentAt 8 = .ok (.getfield 18, 3) := by decide +kernel
theorem dX9_momentAt_11 : decode cX9_momentAt 11 = .ok (.isub, 1) := by decide +kernel
theorem dX9_momentAt_12 : decode cX9_momentAt 12 = .ok (.istore_n 3, 1) := by decide +kernel
theorem dX9_momentAt_13 : decode cX9_momentAt 13 = .ok (.aload_n 0, 1) := by decide +kernel
theorem dX9_momentAt_14 : decode cX9_momentAt 14 = .ok (.iload_n 1, 1) := by decide +kernel
theorem dX9_momentAt_15 : decode cX9_momentAt 15 = .ok (.sipush 365, 3) := by decide +kernel
theorem dX9_momentAt_18 : decode cX9_momentAt 18 = .ok (.irem, 1) := by decide +kernel
theorem dX9_momentAt_19 : decode cX9_momentAt 19 = .ok (.invokevirtual 26, 3) := by decide +kernel
theorem dX9_momentAt_22 : decode cX9_momentAt 22 = .ok (.ifCond .eq 10, 3) := by decide +kernel
theorem dX9_momentAt_25 : decode cX9_momentAt 25 = .ok (.iload_n 3, 1) := by decide +kernel
theorem dX9_momentAt_26 : decode cX9_momentAt 26 = .ok (.bipush 60, 2) := by decide +kernel
theorem dX9_momentAt_28 : decode cX9_momentAt 28 = .ok (.isub, 1) := by decide +kernel
theorem dX9_momentAt_29 : decode cX9_momentAt 29 = .ok (.goto 4, 3) := by decide +kernel
theorem dX9_momentAt_32 : decode cX9_momentAt 32 = .ok (.iload_n 3, 1) := by decide +kernel
theorem dX9_momentAt_33 : decode cX9_momentAt 33 = .ok (.ireturn, 1) := by decide +kernel
def pg_X9_momentAt (l : Launch) (g : EG) : List (Nat × ES) := [(0, s_ldI 1), (1, s_c (.inl 1440)), (4, s_ii (fun x y => x * y)), (5, s_ldI 2), (6, s_ii (fun x y => x + y)), (7, s_ldP 0), (8, s_getI 8 0), (11, s_ii (fun x y => x - y)), (12, s_stI 3), (13, s_ldP 0), (14, s_ldI 1), (15, s_c (.inl 365)), (18, s_iid (fun x y => x - x / y * y) (fun _ y => ¬ y = 0)), (19, s_callV l g sg_X9_momentAt sg_X9_isSummer 8), (22, s_if_eq 32), (25, s_ldI 3), (26, s_c (.inl 60)), (28, s_ii (fun x y => x - y)), (29, s_goto 33), (32, s_ldI 3), (33, s_ireti)]
set_option maxRecDepth 100000 in
theorem ok_X9_momentAt {l : Launch} {g : EG} : e_okp l g sg_X9_momentAt "CalendarSync$Zone" (pg_X9_momentAt l g) := fun p e R s m args below meth c ex M0 Q X =>
    e_each_cons (r_iload_n X (k := 1) (i := 1) rfl dX9_momentAt_0 rfl)
    (e_each_cons (r_sipush X (n := 1440) (v := 1440) dX9_momentAt_1 (by decide) rfl)
    (e_each_cons (r_imul X dX9_momentAt_4 rfl)
    (e_each_cons (r_iload_n X (k := 2) (i := 2) rfl dX9_momentAt_5 rfl)
    (e_each_cons (r_iadd X dX9_momentAt_6 rfl)
    (e_each_cons (r_aload_n X (k := 0) (i := 0) rfl dX9_momentAt_7 rfl)
    (e_each_cons (r_getI X (index := 18) (ci := 8) (k := 0) dX9_momentAt_8 (by decide) (by decide) rfl w1_58 rfl)
    (e_each_cons (r_isub X dX9_momentAt_11 rfl)
    (e_each_cons (r_istore_n X (k := 3) (i := 3) rfl dX9_momentAt_12 (by decide) rfl)
    (e_each_cons (r_aload_n X (k := 0) (i := 0) rfl dX9_momentAt_13 rfl)
    (e_each_cons (r_iload_n X (k := 1) (i := 1) rfl dX9_momentAt_14 rfl)
    (e_each_cons (r_sipush X (n := 365) (v := 365) dX9_momentAt_15 (by decide) rfl)
    (e_each_cons (r_irem X dX9_momentAt_18 rfl)
    (e_each_cons (r_callV X rfl (τ := sg_X9_isSummer) (index := 26) (ci := 8) dX9_momentAt_19 (by decide) rfl w3_7 w3_9 ws_4 cs_X9_isSummer rfl ⟨by decide, by decide⟩ rfl)
    (e_each_cons (r_if_eq X (off := 10) (t := 32) dX9_momentAt_22 (by decide) rfl)
    (e_each_cons (r_iload_n X (k := 3) (i := 3) rfl dX9_momentAt_25 rfl)
    (e_each_cons (r_bipush X (n := 60) (v := 60) dX9_momentAt_26 (by decide) rfl)
    (e_each_cons (r_isub X dX9_momentAt_28 rfl)
    (e_each_cons (r_goto X (off := 4) (t := 33) dX9_momentAt_29 (by decide))
    (e_each_cons (r_iload_n X (k := 3) (i := 3) rfl dX9_momentAt_32 rfl)
    (e_each_cons (r_ireti X dX9_momentAt_33 rfl)
    (e_each_nil)))))))))))))))))))))
theorem dX9_become_0 : decode cX9_become 0 = .ok (.aload_n 0, 1) := by decide +kernel
theorem dX9_become_1 : decode cX9_become 1 = .ok (.aload_n 1, 1) := by decide +kernel
theorem dX9_become_2 : decode cX9_become 2 = .ok (.getfield 18, 3) := by decide +kernel
theorem dX9_become_5 : decode cX9_become 5 = .ok (.putfield 18, 3) := by decide +kernel
theorem dX9_become_8 : decode cX9_become 8 = .ok (.aload_n 0, 1) := by decide +kernel
theorem dX9_become_9 : decode cX9_become 9 = .ok (.aload_n 1, 1) := by decide +kernel
theorem dX9_become_10 : decode cX9_become 10 = .ok (.getfield 9, 3) := by decide +kernel
theorem dX9_become_13 : decode cX9_become 13 = .ok (.putfield 9, 3) := by decide +kernel
theorem dX9_become_16 : decode cX9_become 16 = .ok (.aload_n 0, 1) := by decide +kernel
theorem dX9_become_17 : decode cX9_become 17 = .ok (.aload_n 1, 1) := by decide +kernel
theorem dX9_become_18 : decode cX9_become 18 = .ok (.getfield 15, 3) := by decide +kernel
theorem dX9_become_21 : decode cX9_become 21 = .ok (.putfield 15, 3) := by decide +kernel
theorem dX9_become_24 : decode cX9_become 24 = .ok (.aload_n 0, 1) := by decide +kernel
theorem dX9_become_25 : decode cX9_become 25 = .ok (.aload_n 1, 1) := by decide +kernel
theorem dX9_become_26 : decode cX9_become 26 = .ok (.getfield 21, 3) := by decide +kernel
theorem dX9_become_29 : decode cX9_become 29 = .ok (.putfield 21, 3) := by decide +kernel
theorem dX9_become_32 : decode cX9_become 32 = .ok (.return_, 1) := by decide +kernel
def pg_X9_become (l : Launch) (g : EG) : List (Nat × ES) := [(0, s_ldP 0), (1, s_ldP 1), (2, s_getI 8 0), (5, s_putI 8 0), (8, s_ldP 0), (9, s_ldP 1), (10, s_getI 8 1), (13, s_putI 8 1), (16, s_ldP 0), (17, s_ldP 1), (18, s_getI 8 2), (21, s_putI 8 2), (24, s_ldP 0), (25, s_ldP 1), (26, s_getI 8 3), (29, s_putI 8 3), (32, s_vret)]
set_option maxRecDepth 100000 in
theorem ok_X9_become {l : Launch} {g : EG} : e_okp l g sg_X9_become "CalendarSync$Zone" (pg_X9_become l g) := fun p e R s m args below meth c ex M0 Q X =>
    e_each_cons (r_aload_n X (k := 0) (i := 0) rfl dX9_become_0 rfl)
    (e_each_cons (r_aload_n X (k := 1) (i := 1) rfl dX9_become_1 rfl)
    (e_each_cons (r_getI X (index := 18) (ci := 8) (k := 0) dX9_become_2 (by decide) (by decide) rfl w1_58 rfl)
    (e_each_cons (r_putI X (index := 18) (ci := 8) (k := 0) dX9_become_5 (by decide) (by decide) rfl rfl w1_58 rfl)
    (e_each_cons (r_aload_n X (k := 0) (i := 0) rfl dX9_become_8 rfl)
    (e_each_cons (r_aload_n X (k := 1) (i := 1) rfl dX9_become_9 rfl)
    (e_each_cons (r_getI X (index := 9) (ci := 8) (k := 1) dX9_become_10 (by decide) (by decide) rfl w1_61 rfl)
    (e_each_cons (r_putI X (index := 9) (ci := 8) (k := 1) dX9_become_13 (by decide) (by decide) rfl rfl w1_61 rfl)
    (e_each_cons (r_aload_n X (k := 0) (i := 0) rfl dX9_become_16 rfl)
    (e_each_cons (r_aload_n X (k := 1) (i := 1) rfl dX9_become_17 rfl)
    (e_each_cons (r_getI X (index := 15) (ci := 8) (k := 2) dX9_become_18 (by decide) (by decide) rfl w1_63 rfl)
    (e_each_cons (r_putI X (index := 15) (ci := 8) (k := 2) dX9_become_21 (by decide) (by decide) rfl rfl w1_63 rfl)
    (e_each_cons (r_aload_n X (k := 0) (i := 0) rfl dX9_become_24 rfl)
    (e_each_cons (r_aload_n X (k := 1) (i := 1) rfl dX9_become_25 rfl)
    (e_each_cons (r_getI X (index := 21) (ci := 8) (k := 3) dX9_become_26 (by decide) (by decide) rfl w1_65 rfl)
    (e_each_cons (r_putI X (index := 21) (ci := 8) (k := 3) dX9_become_29 (by decide) (by decide) rfl rfl w1_65 rfl)
    (e_each_cons (r_vret X dX9_become_32 rfl)
    (e_each_nil)))))))))))))))))
theorem dX9_setTo_0 : decode cX9_setTo 0 = .ok (.aload_n 0, 1) := by decide +kernel
theorem dX9_setTo_1 : decode cX9_setTo 1 = .ok (.iload_n 1, 1) := by decide +kernel
theorem dX9_setTo_2 : decode cX9_setTo 2 = .ok (.putfield 18, 3) := by decide +kernel
theorem dX9_setTo_5 : decode cX9_setTo 5 = .ok (.aload_n 0, 1) := by decide +kernel
theorem dX9_setTo_6 : decode cX9_setTo 6 = .ok (.iload_n 2, 1) := by decide +kernel
theorem dX9_setTo_7 : decode cX9_setTo 7 = .ok (.putfield 9, 3) := by decide +kernel
theorem dX9_setTo_10 : decode cX9_setTo 10 = .ok (.aload_n 0, 1) := by decide +kernel
theorem dX9_setTo_11 : decode cX9_setTo 11 = .ok (.iload_n 3, 1) := by decide +kernel
theorem dX9_setTo_12 : decode cX9_setTo 12 = .ok (.putfield 15, 3) := by decide +kernel
theorem dX9_setTo_15 : decode cX9_setTo 15 = .ok (.return_, 1) := by decide +kernel
def pg_X9_setTo (l : Launch) (g : EG) : List (Nat × ES) := [(0, s_ldP 0), (1, s_ldI 1), (2, s_putI 8 0), (5, s_ldP 0), (6, s_ldI 2), (7, s_putI 8 1), (10, s_ldP 0), (11, s_ldI 3), (12, s_putI 8 2), (15, s_vret)]
set_option maxRecDepth 100000 in
theorem ok_X9_setTo {l : Launch} {g : EG} : e_okp l g sg_X9_setTo "CalendarSync$Zone" (pg_X9_setTo l g) := fun p e R s m args below meth c ex M0 Q X =>
    e_each_cons (r_aload_n X (k := 0) (i := 0) rfl dX9_setTo_0 rfl)
    (e_each_cons (r_iload_n X (k := 1) (i := 1) rfl dX9_setTo_1 rfl)
    (e_each_cons (r_putI X (index := 18) (ci := 8) (k := 0) dX9_setTo_2 (by decide) (by decide) rfl rfl w1_58 rfl)
    (e_each_cons (r_aload_n X (k := 0) (i := 0) rfl dX9_setTo_5 rfl)
    (e_each_cons (r_iload_n X (k := 2) (i := 2) rfl dX9_setTo_6 rfl)
    (e_each_cons (r_putI X (index := 9) (ci := 8) (k := 1) dX9_setTo_7 (by decide) (by decide) rfl rfl w1_61 rfl)
    (e_each_cons (r_aload_n X (k := 0) (i := 0) rfl dX9_setTo_10 rfl)
    (e_each_cons (r_iload_n X (k := 3) (i := 3) rfl dX9_setTo_11 rfl)
    (e_each_cons (r_putI X (index := 15) (ci := 8) (k := 2) dX9_setTo_12 (by decide) (by decide) rfl rfl w1_63 rfl)
    (e_each_cons (r_vret X dX9_setTo_15 rfl)
    (e_each_nil))))))))))
