/-! TABLES (by program): the rows of X11 -/
theorem dX11_thrown_0 : decode cX11_thrown 0 = .ok (.aload_n 0, 1) := by decide +kernel
theorem dX11_thrown_1 : decode cX11_thrown 1 = .ok (.getfield 61, 3) := by decide +kernel
theorem dX11_thrown_4 : decode cX11_thrown 4 = .ok (.ireturn, 1) := by decide +kernel
def pg_X11_thrown (l : Launch) (g : EG) : List (Nat × ES) := [(0, s_ldP 0), (1, s_getI 10 0), (4, s_ireti)]
set_option maxRecDepth 100000 in
theorem ok_X11_thrown {l : Launch} {g : EG} : e_okp l g sg_X11_thrown "CalendarSyncModel" (pg_X11_thrown l g) := fun p e R s m args below meth c ex M0 Q X =>
    e_each_cons (r_aload_n X (k := 0) (i := 0) rfl dX11_thrown_0 rfl)
    (e_each_cons (r_getI X (index := 61) (ci := 10) (k := 0) dX11_thrown_1 (by decide) (by decide) rfl w6_26 rfl)
    (e_each_cons (r_ireti X dX11_thrown_4 rfl)
    (e_each_nil)))
theorem dX11_refuse_0 : decode cX11_refuse 0 = .ok (.aload_n 0, 1) := by decide +kernel
theorem dX11_refuse_1 : decode cX11_refuse 1 = .ok (.iload_n 1, 1) := by decide +kernel
theorem dX11_refuse_2 : decode cX11_refuse 2 = .ok (.putfield 61, 3) := by decide +kernel
theorem dX11_refuse_5 : decode cX11_refuse 5 = .ok (.iconst 0, 1) := by decide +kernel
theorem dX11_refuse_6 : decode cX11_refuse 6 = .ok (.ireturn, 1) := by decide +kernel
def pg_X11_refuse (l : Launch) (g : EG) : List (Nat × ES) := [(0, s_ldP 0), (1, s_ldI 1), (2, s_putI 10 0), (5, s_c (.inl 0)), (6, s_ireti)]
set_option maxRecDepth 100000 in
theorem ok_X11_refuse {l : Launch} {g : EG} : e_okp l g sg_X11_refuse "CalendarSyncModel" (pg_X11_refuse l g) := fun p e R s m args below meth c ex M0 Q X =>
    e_each_cons (r_aload_n X (k := 0) (i := 0) rfl dX11_refuse_0 rfl)
    (e_each_cons (r_iload_n X (k := 1) (i := 1) rfl dX11_refuse_1 rfl)
    (e_each_cons (r_putI X (index := 61) (ci := 10) (k := 0) dX11_refuse_2 (by decide) (by decide) rfl rfl w6_26 rfl)
    (e_each_cons (r_iconst X (n := 0) (v := 0) dX11_refuse_5 (by decide) rfl)
    (e_each_cons (r_ireti X dX11_refuse_6 rfl)
    (e_each_nil)))))
theorem dX11_told_0 : decode cX11_told 0 = .ok (.aload_n 0, 1) := by decide +kernel
theorem dX11_told_1 : decode cX11_told 1 = .ok (.iconst 0, 1) := by decide +kernel
theorem dX11_told_2 : decode cX11_told 2 = .ok (.putfield 61, 3) := by decide +kernel
theorem dX11_told_5 : decode cX11_told 5 = .ok (.iload_n 1, 1) := by decide +kernel
theorem dX11_told_6 : decode cX11_told 6 = .ok (.ireturn, 1) := by decide +kernel
def pg_X11_told (l : Launch) (g : EG) : List (Nat × ES) := [(0, s_ldP 0), (1, s_c (.inl 0)), (2, s_putI 10 0), (5, s_ldI 1), (6, s_ireti)]
set_option maxRecDepth 100000 in
theorem ok_X11_told {l : Launch} {g : EG} : e_okp l g sg_X11_told "CalendarSyncModel" (pg_X11_told l g) := fun p e R s m args below meth c ex M0 Q X =>
    e_each_cons (r_aload_n X (k := 0) (i := 0) rfl dX11_told_0 rfl)
    (e_each_cons (r_iconst X (n := 0) (v := 0) dX11_told_1 (by decide) rfl)
    (e_each_cons (r_putI X (index := 61) (ci := 10) (k := 0) dX11_told_2 (by decide) (by decide) rfl rfl w6_26 rfl)
    (e_each_cons (r_iload_n X (k := 1) (i := 1) rfl dX11_told_5 rfl)
    (e_each_cons (r_ireti X dX11_told_6 rfl)
    (e_each_nil)))))
theorem dX11_isRefused_0 : decode cX11_isRefused 0 = .ok (.aload_n 0, 1) := by decide +kernel
theorem dX11_isRefused_1 : decode cX11_isRefused 1 = .ok (.iload_n 1, 1) := by decide +kernel
theorem dX11_isRefused_2 : decode cX11_isRefused 2 = .ok (.putfield 61, 3) := by decide +kernel
theorem dX11_isRefused_5 : decode cX11_isRefused 5 = .ok (.iload_n 1, 1) := by decide +kernel
theorem dX11_isRefused_6 : decode cX11_isRefused 6 = .ok (.ifCond .le 7, 3) := by decide +kernel
theorem dX11_isRefused_9 : decode cX11_isRefused 9 = .ok (.iconst 1, 1) := by decide +kernel
theorem dX11_isRefused_10 : decode cX11_isRefused 10 = .ok (.goto 4, 3) := by decide +kernel
theorem dX11_isRefused_13 : decode cX11_isRefused 13 = .ok (.iconst 0, 1) := by decide +kernel
theorem dX11_isRefused_14 : decode cX11_isRefused 14 = .ok (.ireturn, 1) := by decide +kernel
def pg_X11_isRefused (l : Launch) (g : EG) : List (Nat × ES) := [(0, s_ldP 0), (1, s_ldI 1), (2, s_putI 10 0), (5, s_ldI 1), (6, s_if_le 13), (9, s_c (.inl 1)), (10, s_goto 14), (13, s_c (.inl 0)), (14, s_iretz)]
set_option maxRecDepth 100000 in
theorem ok_X11_isRefused {l : Launch} {g : EG} : e_okp l g sg_X11_isRefused "CalendarSyncModel" (pg_X11_isRefused l g) := fun p e R s m args below meth c ex M0 Q X =>
    e_each_cons (r_aload_n X (k := 0) (i := 0) rfl dX11_isRefused_0 rfl)
    (e_each_cons (r_iload_n X (k := 1) (i := 1) rfl dX11_isRefused_1 rfl)
    (e_each_cons (r_putI X (index := 61) (ci := 10) (k := 0) dX11_isRefused_2 (by decide) (by decide) rfl rfl w6_26 rfl)
    (e_each_cons (r_iload_n X (k := 1) (i := 1) rfl dX11_isRefused_5 rfl)
    (e_each_cons (r_if_le X (off := 7) (t := 13) dX11_isRefused_6 (by decide) rfl)
    (e_each_cons (r_iconst X (n := 1) (v := 1) dX11_isRefused_9 (by decide) rfl)
    (e_each_cons (r_goto X (off := 4) (t := 14) dX11_isRefused_10 (by decide))
    (e_each_cons (r_iconst X (n := 0) (v := 0) dX11_isRefused_13 (by decide) rfl)
    (e_each_cons (r_iretz X dX11_isRefused_14 rfl)
    (e_each_nil)))))))))
theorem dX11_in_0 : decode cX11_in 0 = .ok (.iload_n 0, 1) := by decide +kernel
theorem dX11_in_1 : decode cX11_in 1 = .ok (.iload_n 1, 1) := by decide +kernel
theorem dX11_in_2 : decode cX11_in 2 = .ok (.if_icmp .lt 12, 3) := by decide +kernel
theorem dX11_in_5 : decode cX11_in 5 = .ok (.iload_n 0, 1) := by decide +kernel
theorem dX11_in_6 : decode cX11_in 6 = .ok (.iload_n 2, 1) := by decide +kernel
theorem dX11_in_7 : decode cX11_in 7 = .ok (.if_icmp .gt 7, 3) := by decide +kernel
theorem dX11_in_10 : decode cX11_in 10 = .ok (.iconst 1, 1) := by decide +kernel
theorem dX11_in_11 : decode cX11_in 11 = .ok (.goto 4, 3) := by decide +kernel
theorem dX11_in_14 : decode cX11_in 14 = .ok (.iconst 0, 1) := by decide +kernel
theorem dX11_in_15 : decode cX11_in 15 = .ok (.ireturn, 1) := by decide +kernel
def pg_X11_in (l : Launch) (g : EG) : List (Nat × ES) := [(0, s_ldI 0), (1, s_ldI 1), (2, s_icmp_lt 14), (5, s_ldI 0), (6, s_ldI 2), (7, s_icmp_gt 14), (10, s_c (.inl 1)), (11, s_goto 15), (14, s_c (.inl 0)), (15, s_iretz)]
set_option maxRecDepth 100000 in
theorem ok_X11_in {l : Launch} {g : EG} : e_okp l g sg_X11_in "CalendarSyncModel" (pg_X11_in l g) := fun p e R s m args below meth c ex M0 Q X =>
    e_each_cons (r_iload_n X (k := 0) (i := 0) rfl dX11_in_0 rfl)
    (e_each_cons (r_iload_n X (k := 1) (i := 1) rfl dX11_in_1 rfl)
    (e_each_cons (r_icmp_lt X (off := 12) (t := 14) dX11_in_2 (by decide) rfl)
    (e_each_cons (r_iload_n X (k := 0) (i := 0) rfl dX11_in_5 rfl)
    (e_each_cons (r_iload_n X (k := 2) (i := 2) rfl dX11_in_6 rfl)
    (e_each_cons (r_icmp_gt X (off := 7) (t := 14) dX11_in_7 (by decide) rfl)
    (e_each_cons (r_iconst X (n := 1) (v := 1) dX11_in_10 (by decide) rfl)
    (e_each_cons (r_goto X (off := 4) (t := 15) dX11_in_11 (by decide))
    (e_each_cons (r_iconst X (n := 0) (v := 0) dX11_in_14 (by decide) rfl)
    (e_each_cons (r_iretz X dX11_in_15 rfl)
    (e_each_nil))))))))))
theorem dX11_has_0 : decode cX11_has 0 = .ok (.iload_n 0, 1) := by decide +kernel
theorem dX11_has_1 : decode cX11_has 1 = .ok (.iload_n 1, 1) := by decide +kernel
theorem dX11_has_2 : decode cX11_has 2 = .ok (.ishr, 1) := by decide +kernel
theorem dX11_has_3 : decode cX11_has 3 = .ok (.iconst 1, 1) := by decide +kernel
theorem dX11_has_4 : decode cX11_has 4 = .ok (.iand, 1) := by decide +kernel
theorem dX11_has_5 : decode cX11_has 5 = .ok (.iconst 1, 1) := by decide +kernel
theorem dX11_has_6 : decode cX11_has 6 = .ok (.if_icmp .ne 7, 3) := by decide +kernel
theorem dX11_has_9 : decode cX11_has 9 = .ok (.iconst 1, 1) := by decide +kernel
theorem dX11_has_10 : decode cX11_has 10 = .ok (.goto 4, 3) := by decide +kernel
theorem dX11_has_13 : decode cX11_has 13 = .ok (.iconst 0, 1) := by decide +kernel
theorem dX11_has_14 : decode cX11_has 14 = .ok (.ireturn, 1) := by decide +kernel
def pg_X11_has (l : Launch) (g : EG) : List (Nat × ES) := [(0, s_ldI 0), (1, s_ldI 1), (2, s_ii (fun x y => x >>> (y &&& 31))), (3, s_c (.inl 1)), (4, s_ii (fun x y => x &&& y)), (5, s_c (.inl 1)), (6, s_icmp_ne 13), (9, s_c (.inl 1)), (10, s_goto 14), (13, s_c (.inl 0)), (14, s_iretz)]
set_option maxRecDepth 100000 in
theorem ok_X11_has {l : Launch} {g : EG} : e_okp l g sg_X11_has "CalendarSyncModel" (pg_X11_has l g) := fun p e R s m args below meth c ex M0 Q X =>
    e_each_cons (r_iload_n X (k := 0) (i := 0) rfl dX11_has_0 rfl)
    (e_each_cons (r_iload_n X (k := 1) (i := 1) rfl dX11_has_1 rfl)
    (e_each_cons (r_ishr X dX11_has_2 rfl)
    (e_each_cons (r_iconst X (n := 1) (v := 1) dX11_has_3 (by decide) rfl)
    (e_each_cons (r_iand X dX11_has_4 rfl)
    (e_each_cons (r_iconst X (n := 1) (v := 1) dX11_has_5 (by decide) rfl)
    (e_each_cons (r_icmp_ne X (off := 7) (t := 13) dX11_has_6 (by decide) rfl)
    (e_each_cons (r_iconst X (n := 1) (v := 1) dX11_has_9 (by decide) rfl)
    (e_each_cons (r_goto X (off := 4) (t := 14) dX11_has_10 (by decide))
    (e_each_cons (r_iconst X (n := 0) (v := 0) dX11_has_13 (by decide) rfl)
    (e_each_cons (r_iretz X dX11_has_14 rfl)
    (e_each_nil)))))))))))
theorem dX11_bitsIn_0 : decode cX11_bitsIn 0 = .ok (.iconst 0, 1) := by decide +kernel
theorem dX11_bitsIn_1 : decode cX11_bitsIn 1 = .ok (.istore_n 1, 1) := by decide +kernel
theorem dX11_bitsIn_2 : decode cX11_bitsIn 2 = .ok (.iconst 0, 1) := by decide +kernel
theorem dX11_bitsIn_3 : decode cX11_bitsIn 3 = .ok (.istore_n 2, 1) := by decide +kernel
theorem dX11_bitsIn_4 : decode cX11_bitsIn 4 = .ok (.iload_n 2, 1) := by decide +kernel
theorem dX11_bitsIn_5 : decode cX11_bitsIn 5 = .ok (.bipush 30, 2) := by decide +kernel
theorem dX11_bitsIn_7 : decode cX11_bitsIn 7 = .ok (.if_icmp .ge 25, 3) := by decide +kernel
theorem dX11_bitsIn_10 : decode cX11_bitsIn 10 = .ok (.iload_n 0, 1) := by decide +kernel
theorem dX11_bitsIn_11 : decode cX11_bitsIn 11 = .ok (.iload_n 2, 1) := by decide +kernel
theorem dX11_bitsIn_12 : decode cX11_bitsIn 12 = .ok (.invokestatic 64, 3) := by decide +kernel
theorem dX11_bitsIn_15 : decode cX11_bitsIn 15 = .ok (.ifCond .eq 9, 3) := by decide +kernel
theorem dX11_bitsIn_18 : decode cX11_bitsIn 18 = .ok (.iload_n 1, 1) := by decide +kernel
theorem dX11_bitsIn_19 : decode cX11_bitsIn 19 = .ok (.iconst 1, 1) := by decide +kernel
theorem dX11_bitsIn_20 : decode cX11_bitsIn 20 = .ok (.iadd, 1) := by decide +kernel
theorem dX11_bitsIn_21 : decode cX11_bitsIn 21 = .ok (.goto 4, 3) := by decide +kernel
theorem dX11_bitsIn_24 : decode cX11_bitsIn 24 = .ok (.iload_n 1, 1) := by decide +kernel
theorem dX11_bitsIn_25 : decode cX11_bitsIn 25 = .ok (.istore_n 1, 1) := by decide +kernel
theorem dX11_bitsIn_26 : decode cX11_bitsIn 26 = .ok (.iinc 2 1, 3) := by decide +kernel
theorem dX11_bitsIn_29 : decode cX11_bitsIn 29 = .ok (.goto (-25), 3) := by decide +kernel
theorem dX11_bitsIn_32 : decode cX11_bitsIn 32 = .ok (.iload_n 1, 1) := by decide +kernel
theorem dX11_bitsIn_33 : decode cX11_bitsIn 33 = .ok (.ireturn, 1) := by decide +kernel
def pg_X11_bitsIn (l : Launch) (g : EG) : List (Nat × ES) := [(0, s_c (.inl 0)), (1, s_stI 1), (2, s_c (.inl 0)), (3, s_stI 2), (4, s_ldI 2), (5, s_c (.inl 30)), (7, s_icmp_ge 32), (10, s_ldI 0), (11, s_ldI 2), (12, s_callS l g sg_X11_bitsIn sg_X11_has), (15, s_if_eq 24), (18, s_ldI 1), (19, s_c (.inl 1)), (20, s_ii (fun x y => x + y)), (21, s_goto 25), (24, s_ldI 1), (25, s_stI 1), (26, s_iinc 2 1), (29, s_goto 4), (32, s_ldI 1), (33, s_ireti)]
set_option maxRecDepth 100000 in
theorem ok_X11_bitsIn {l : Launch} {g : EG} : e_okp l g sg_X11_bitsIn "CalendarSyncModel" (pg_X11_bitsIn l g) := fun p e R s m args below meth c ex M0 Q X =>
    e_each_cons (r_iconst X (n := 0) (v := 0) dX11_bitsIn_0 (by decide) rfl)
    (e_each_cons (r_istore_n X (k := 1) (i := 1) rfl dX11_bitsIn_1 (by decide) rfl)
    (e_each_cons (r_iconst X (n := 0) (v := 0) dX11_bitsIn_2 (by decide) rfl)
    (e_each_cons (r_istore_n X (k := 2) (i := 2) rfl dX11_bitsIn_3 (by decide) rfl)
    (e_each_cons (r_iload_n X (k := 2) (i := 2) rfl dX11_bitsIn_4 rfl)
    (e_each_cons (r_bipush X (n := 30) (v := 30) dX11_bitsIn_5 (by decide) rfl)
    (e_each_cons (r_icmp_ge X (off := 25) (t := 32) dX11_bitsIn_7 (by decide) rfl)
    (e_each_cons (r_iload_n X (k := 0) (i := 0) rfl dX11_bitsIn_10 rfl)
    (e_each_cons (r_iload_n X (k := 2) (i := 2) rfl dX11_bitsIn_11 rfl)
    (e_each_cons (r_callS X rfl (τ := sg_X11_has) (index := 64) dX11_bitsIn_12 w7_27 w7_28 cs_X11_has rfl ⟨by decide, by decide⟩ rfl)
    (e_each_cons (r_if_eq X (off := 9) (t := 24) dX11_bitsIn_15 (by decide) rfl)
    (e_each_cons (r_iload_n X (k := 1) (i := 1) rfl dX11_bitsIn_18 rfl)
    (e_each_cons (r_iconst X (n := 1) (v := 1) dX11_bitsIn_19 (by decide) rfl)
    (e_each_cons (r_iadd X dX11_bitsIn_20 rfl)
    (e_each_cons (r_goto X (off := 4) (t := 25) dX11_bitsIn_21 (by decide))
    (e_each_cons (r_iload_n X (k := 1) (i := 1) rfl dX11_bitsIn_24 rfl)
    (e_each_cons (r_istore_n X (k := 1) (i := 1) rfl dX11_bitsIn_25 (by decide) rfl)
    (e_each_cons (r_iinc X (i := 2) (n := 1) (d := 1) dX11_bitsIn_26 (by decide) (by decide) rfl)
    (e_each_cons (r_goto X (off := (-25)) (t := 4) dX11_bitsIn_29 (by decide))
    (e_each_cons (r_iload_n X (k := 1) (i := 1) rfl dX11_bitsIn_32 rfl)
    (e_each_cons (r_ireti X dX11_bitsIn_33 rfl)
    (e_each_nil)))))))))))))))))))))
theorem dX11_lesser_0 : decode cX11_lesser 0 = .ok (.iload_n 0, 1) := by decide +kernel
theorem dX11_lesser_1 : decode cX11_lesser 1 = .ok (.iload_n 1, 1) := by decide +kernel
theorem dX11_lesser_2 : decode cX11_lesser 2 = .ok (.if_icmp .ge 7, 3) := by decide +kernel
theorem dX11_lesser_5 : decode cX11_lesser 5 = .ok (.iload_n 0, 1) := by decide +kernel
theorem dX11_lesser_6 : decode cX11_lesser 6 = .ok (.goto 4, 3) := by decide +kernel
theorem dX11_lesser_9 : decode cX11_lesser 9 = .ok (.iload_n 1, 1) := by decide +kernel
theorem dX11_lesser_10 : decode cX11_lesser 10 = .ok (.ireturn, 1) := by decide +kernel
def pg_X11_lesser (l : Launch) (g : EG) : List (Nat × ES) := [(0, s_ldI 0), (1, s_ldI 1), (2, s_icmp_ge 9), (5, s_ldI 0), (6, s_goto 10), (9, s_ldI 1), (10, s_ireti)]
set_option maxRecDepth 100000 in
theorem ok_X11_lesser {l : Launch} {g : EG} : e_okp l g sg_X11_lesser "CalendarSyncModel" (pg_X11_lesser l g) := fun p e R s m args below meth c ex M0 Q X =>
    e_each_cons (r_iload_n X (k := 0) (i := 0) rfl dX11_lesser_0 rfl)
    (e_each_cons (r_iload_n X (k := 1) (i := 1) rfl dX11_lesser_1 rfl)
    (e_each_cons (r_icmp_ge X (off := 7) (t := 9) dX11_lesser_2 (by decide) rfl)
    (e_each_cons (r_iload_n X (k := 0) (i := 0) rfl dX11_lesser_5 rfl)
    (e_each_cons (r_goto X (off := 4) (t := 10) dX11_lesser_6 (by decide))
    (e_each_cons (r_iload_n X (k := 1) (i := 1) rfl dX11_lesser_9 rfl)
    (e_each_cons (r_ireti X dX11_lesser_10 rfl)
    (e_each_nil)))))))
theorem dX11_greater_0 : decode cX11_greater 0 = .ok (.iload_n 0, 1) := by decide +kernel
theorem dX11_greater_1 : decode cX11_greater 1 = .ok (.iload_n 1, 1) := by decide +kernel
theorem dX11_greater_2 : decode cX11_greater 2 = .ok (.if_icmp .le 7, 3) := by decide +kernel
theorem dX11_greater_5 : decode cX11_greater 5 = .ok (.iload_n 0, 1) := by decide +kernel
theorem dX11_greater_6 : decode cX11_greater 6 = .ok (.goto 4, 3) := by decide +kernel
theorem dX11_greater_9 : decode cX11_greater 9 = .ok (.iload_n 1, 1) := by decide +kernel
theorem dX11_greater_10 : decode cX11_greater 10 = .ok (.ireturn, 1) := by decide +kernel
def pg_X11_greater (l : Launch) (g : EG) : List (Nat × ES) := [(0, s_ldI 0), (1, s_ldI 1), (2, s_icmp_le 9), (5, s_ldI 0), (6, s_goto 10), (9, s_ldI 1), (10, s_ireti)]
set_option maxRecDepth 100000 in
theorem ok_X11_greater {l : Launch} {g : EG} : e_okp l g sg_X11_greater "CalendarSyncModel" (pg_X11_greater l g) := fun p e R s m args below meth c ex M0 Q X =>
    e_each_cons (r_iload_n X (k := 0) (i := 0) rfl dX11_greater_0 rfl)
    (e_each_cons (r_iload_n X (k := 1) (i := 1) rfl dX11_greater_1 rfl)
    (e_each_cons (r_icmp_le X (off := 7) (t := 9) dX11_greater_2 (by decide) rfl)
    (e_each_cons (r_iload_n X (k := 0) (i := 0) rfl dX11_greater_5 rfl)
    (e_each_cons (r_goto X (off := 4) (t := 10) dX11_greater_6 (by decide))
    (e_each_cons (r_iload_n X (k := 1) (i := 1) rfl dX11_greater_9 rfl)
    (e_each_cons (r_ireti X dX11_greater_10 rfl)
    (e_each_nil)))))))
theorem dX11_zoneAt_0 : decode cX11_zoneAt 0 = .ok (.bipush 24, 2) := by decide +kernel
theorem dX11_zoneAt_2 : decode cX11_zoneAt 2 = .ok (.sipush 1100, 3) := by decide +kernel
theorem dX11_zoneAt_5 : decode cX11_zoneAt 5 = .ok (.iload_n 0, 1) := by decide +kernel
theorem dX11_zoneAt_6 : decode cX11_zoneAt 6 = .ok (.imul, 1) := by decide +kernel
theorem dX11_zoneAt_7 : decode cX11_zoneAt 7 = .ok (.iadd, 1) := by decide +kernel
theorem dX11_zoneAt_8 : decode cX11_zoneAt 8 = .ok (.iconst 4, 1) := by decide +kernel
theorem dX11_zoneAt_9 : decode cX11_zoneAt 9 = .ok (.iload_n 1, 1) := by decide +kernel
theorem dX11_zoneAt_10 : decode cX11_zoneAt 10 = .ok (.imul, 1) := by decide +kernel
theorem dX11_zoneAt_11 : decode cX11_zoneAt 11 = .ok (.iadd, 1) := by decide +kernel
theorem dX11_zoneAt_12 : decode cX11_zoneAt 12 = .ok (.ireturn, 1) := by decide +kernel
def pg_X11_zoneAt (l : Launch) (g : EG) : List (Nat × ES) := [(0, s_c (.inl 24)), (2, s_c (.inl 1100)), (5, s_ldI 0), (6, s_ii (fun x y => x * y)), (7, s_ii (fun x y => x + y)), (8, s_c (.inl 4)), (9, s_ldI 1), (10, s_ii (fun x y => x * y)), (11, s_ii (fun x y => x + y)), (12, s_ireti)]
set_option maxRecDepth 100000 in
theorem ok_X11_zoneAt {l : Launch} {g : EG} : e_okp l g sg_X11_zoneAt "CalendarSyncModel" (pg_X11_zoneAt l g) := fun p e R s m args below meth c ex M0 Q X =>
    e_each_cons (r_bipush X (n := 24) (v := 24) dX11_zoneAt_0 (by decide) rfl)
    (e_each_cons (r_sipush X (n := 1100) (v := 1100) dX11_zoneAt_2 (by decide) rfl)
    (e_each_cons (r_iload_n X (k := 0) (i := 0) rfl dX11_zoneAt_5 rfl)
    (e_each_cons (r_imul X dX11_zoneAt_6 rfl)
    (e_each_cons (r_iadd X dX11_zoneAt_7 rfl)
    (e_each_cons (r_iconst X (n := 4) (v := 4) dX11_zoneAt_8 (by decide) rfl)
    (e_each_cons (r_iload_n X (k := 1) (i := 1) rfl dX11_zoneAt_9 rfl)
    (e_each_cons (r_imul X dX11_zoneAt_10 rfl)
    (e_each_cons (r_iadd X dX11_zoneAt_11 rfl)
    (e_each_cons (r_ireti X dX11_zoneAt_12 rfl)
    (e_each_nil))))))))))
theorem dX11_eventAt_0 : decode cX11_eventAt 0 = .ok (.bipush 24, 2) := by decide +kernel
theorem dX11_eventAt_2 : decode cX11_eventAt 2 = .ok (.sipush 1100, 3) := by decide +kernel
theorem dX11_eventAt_5 : decode cX11_eventAt 5 = .ok (.iload_n 0, 1) := by decide +kernel
theorem dX11_eventAt_6 : decode cX11_eventAt 6 = .ok (.imul, 1) := by decide +kernel
theorem dX11_eventAt_7 : decode cX11_eventAt 7 = .ok (.iadd, 1) := by decide +kernel
theorem dX11_eventAt_8 : decode cX11_eventAt 8 = .ok (.bipush 12, 2) := by decide +kernel
theorem dX11_eventAt_10 : decode cX11_eventAt 10 = .ok (.iadd, 1) := by decide +kernel
theorem dX11_eventAt_11 : decode cX11_eventAt 11 = .ok (.sipush 136, 3) := by decide +kernel
theorem dX11_eventAt_14 : decode cX11_eventAt 14 = .ok (.iload_n 1, 1) := by decide +kernel
theorem dX11_eventAt_15 : decode cX11_eventAt 15 = .ok (.imul, 1) := by decide +kernel
theorem dX11_eventAt_16 : decode cX11_eventAt 16 = .ok (.iadd, 1) := by decide +kernel
theorem dX11_eventAt_17 : decode cX11_eventAt 17 = .ok (.ireturn, 1) := by decide +kernel
def pg_X11_eventAt (l : Launch) (g : EG) : List (Nat × ES) := [(0, s_c (.inl 24)), (2, s_c (.inl 1100)), (5, s_ldI 0), (6, s_ii (fun x y => x * y)), (7, s_ii (fun x y => x + y)), (8, s_c (.inl 12)), (10, s_ii (fun x y => x + y)), (11, s_c (.inl 136)), (14, s_ldI 1), (15, s_ii (fun x y => x * y)), (16, s_ii (fun x y => x + y)), (17, s_ireti)]
set_option maxRecDepth 100000 in
theorem ok_X11_eventAt {l : Launch} {g : EG} : e_okp l g sg_X11_eventAt "CalendarSyncModel" (pg_X11_eventAt l g) := fun p e R s m args below meth c ex M0 Q X =>
    e_each_cons (r_bipush X (n := 24) (v := 24) dX11_eventAt_0 (by decide) rfl)
    (e_each_cons (r_sipush X (n := 1100) (v := 1100) dX11_eventAt_2 (by decide) rfl)
    (e_each_cons (r_iload_n X (k := 0) (i := 0) rfl dX11_eventAt_5 rfl)
    (e_each_cons (r_imul X dX11_eventAt_6 rfl)
    (e_each_cons (r_iadd X dX11_eventAt_7 rfl)
    (e_each_cons (r_bipush X (n := 12) (v := 12) dX11_eventAt_8 (by decide) rfl)
    (e_each_cons (r_iadd X dX11_eventAt_10 rfl)
    (e_each_cons (r_sipush X (n := 136) (v := 136) dX11_eventAt_11 (by decide) rfl)
    (e_each_cons (r_iload_n X (k := 1) (i := 1) rfl dX11_eventAt_14 rfl)
    (e_each_cons (r_imul X dX11_eventAt_15 rfl)
    (e_each_cons (r_iadd X dX11_eventAt_16 rfl)
    (e_each_cons (r_ireti X dX11_eventAt_17 rfl)
    (e_each_nil))))))))))))
theorem dX11_remembers_0 : decode cX11_remembers 0 = .ok (.aload_n 0, 1) := by decide +kernel
theorem dX11_remembers_1 : decode cX11_remembers 1 = .ok (.getfield 68, 3) := by decide +kernel
theorem dX11_remembers_4 : decode cX11_remembers 4 = .ok (.bipush 12, 2) := by decide +kernel
theorem dX11_remembers_6 : decode cX11_remembers 6 = .ok (.if_icmp .ne 45, 3) := by decide +kernel
theorem dX11_remembers_9 : decode cX11_remembers 9 = .ok (.sipush 3324, 3) := by decide +kernel
theorem dX11_remembers_12 : decode cX11_remembers 12 = .ok (.istore_n 1, 1) := by decide +kernel
theorem dX11_remembers_13 : decode cX11_remembers 13 = .ok (.iload_n 1, 1) := by decide +kernel
theorem dX11_remembers_14 : decode cX11_remembers 14 = .ok (.ldc 13, 2) := by decide +kernel
theorem dX11_remembers_16 : decode cX11_remembers 16 = .ok (.if_icmp .ge 25, 3) := by decide +kernel
theorem dX11_remembers_19 : decode cX11_remembers 19 = .ok (.aload_n 0, 1) := by decide +kernel
theorem dX11_remembers_20 : decode cX11_remembers 20 = .ok (.getfield 14, 3) := by decide +kernel
theorem dX11_remembers_23 : decode cX11_remembers 23 = .ok (.iload_n 1, 1) := by decide +kernel
theorem dX11_remembers_24 : decode cX11_remembers 24 = .ok (.sipush 3324, 3) := by decide +kernel
theorem dX11_remembers_27 : decode cX11_remembers 27 = .ok (.isub, 1) := by decide +kernel
theorem dX11_remembers_28 : decode cX11_remembers 28 = .ok (.aload_n 0, 1) := by decide +kernel
theorem dX11_remembers_29 : decode cX11_remembers 29 = .ok (.getfield 14, 3) := by decide +kernel
theorem dX11_remembers_32 : decode cX11_remembers 32 = .ok (.iload_n 1, 1) := by decide +kernel
theorem dX11_remembers_33 : decode cX11_remembers 33 = .ok (.iaload, 1) := by decide +kernel
theorem dX11_remembers_34 : decode cX11_remembers 34 = .ok (.iastore, 1) := by decide +kernel
theorem dX11_remembers_35 : decode cX11_remembers 35 = .ok (.iinc 1 1, 3) := by decide +kernel
theorem dX11_remembers_38 : decode cX11_remembers 38 = .ok (.goto (-25), 3) := by decide +kernel
theorem dX11_remembers_41 : decode cX11_remembers 41 = .ok (.aload_n 0, 1) := by decide +kernel
theorem dX11_remembers_42 : decode cX11_remembers 42 = .ok (.aload_n 0, 1) := by decide +kernel
theorem dX11_remembers_43 : decode cX11_remembers 43 = .ok (.getfield 68, 3) := by decide +kernel
theorem dX11_remembers_46 : decode cX11_remembers 46 = .ok (.iconst 1, 1) := by decide +kernel
theorem dX11_remembers_47 : decode cX11_remembers 47 = .ok (.isub, 1) := by decide +kernel
theorem dX11_remembers_48 : decode cX11_remembers 48 = .ok (.putfield 68, 3) := by decide +kernel
theorem dX11_remembers_51 : decode cX11_remembers 51 = .ok (.iconst 0, 1) := by decide +kernel
theorem dX11_remembers_52 : decode cX11_remembers 52 = .ok (.istore_n 1, 1) := by decide +kernel
theorem dX11_remembers_53 : decode cX11_remembers 53 = .ok (.iload_n 1, 1) := by decide +kernel
theorem dX11_remembers_54 : decode cX11_remembers 54 = .ok (.sipush 3324, 3) := by decide +kernel
theorem dX11_remembers_57 : decode cX11_remembers 57 = .ok (.if_icmp .ge 30, 3) := by decide +kernel
theorem dX11_remembers_60 : decode cX11_remembers 60 = .ok (.aload_n 0, 1) := by decide +kernel
theorem dX11_remembers_61 : decode cX11_remembers 61 = .ok (.getfield 14, 3) := by decide +kernel
theorem dX11_remembers_64 : decode cX11_remembers 64 = .ok (.sipush 3324, 3) := by decide +kernel
theorem dX11_remembers_67 : decode cX11_remembers 67 = .ok (.aload_n 0, 1) := by decide +kernel
theorem dX11_remembers_68 : decode cX11_remembers 68 = .ok (.getfield 68, 3) := by decide +kernel
theorem dX11_remembers_71 : decode cX11_remembers 71 = .ok (.imul, 1) := by decide +kernel
theorem dX11_remembers_72 : decode cX11_remembers 72 = .ok (.iload_n 1, 1) := by decide +kernel
theorem dX11_remembers_73 : decode cX11_remembers 73 = .ok (.iadd, 1) := by decide +kernel
theorem dX11_remembers_74 : decode cX11_remembers 74 = .ok (.aload_n 0, 1) := by decide +kernel
theorem dX11_remembers_75 : decode cX11_remembers 75 = .ok (.getfield 7, 3) := by decide +kernel
theorem dX11_remembers_78 : decode cX11_remembers 78 = .ok (.iload_n 1, 1) := by decide +kernel
theorem dX11_remembers_79 : decode cX11_remembers 79 = .ok (.iaload, 1) := by decide +kernel
theorem dX11_remembers_80 : decode cX11_remembers 80 = .ok (.iastore, 1) := by decide +kernel
theorem dX11_remembers_81 : decode cX11_remembers 81 = .ok (.iinc 1 1, 3) := by decide +kernel
theorem dX11_remembers_84 : decode cX11_remembers 84 = .ok (.goto (-31), 3) := by decide +kernel
theorem dX11_remembers_87 : decode cX11_remembers 87 = .ok (.aload_n 0, 1) := by decide +kernel
theorem dX11_remembers_88 : decode cX11_remembers 88 = .ok (.aload_n 0, 1) := by decide +kernel
theorem dX11_remembers_89 : decode cX11_remembers 89 = .ok (.getfield 68, 3) := by decide +kernel
theorem dX11_remembers_92 : decode cX11_remembers 92 = .ok (.iconst 1, 1) := by decide +kernel
theorem dX11_remembers_93 : decode cX11_remembers 93 = .ok (.iadd, 1) := by decide +kernel
theorem dX11_remembers_94 : decode cX11_remembers 94 = .ok (.putfield 68, 3) := by decide +kernel
theorem dX11_remembers_97 : decode cX11_remembers 97 = .ok (.return_, 1) := by decide +kernel
def pg_X11_remembers (l : Launch) (g : EG) : List (Nat × ES) := [(0, s_ldP 0), (1, s_getI 10 6), (4, s_c (.inl 12)), (6, s_icmp_ne 51), (9, s_c (.inl 3324)), (12, s_stI 1), (13, s_ldI 1), (14, s_c (.inl 39888)), (16, s_icmp_ge 41), (19, s_ldP 0), (20, s_getP 10 3), (23, s_ldI 1), (24, s_c (.inl 3324)), (27, s_ii (fun x y => x - y)), (28, s_ldP 0), (29, s_getP 10 3), (32, s_ldI 1), (33, s_iald), (34, s_iast), (35, s_iinc 1 1), (38, s_goto 13), (41, s_ldP 0), (42, s_ldP 0), (43, s_getI 10 6), (46, s_c (.inl 1)), (47, s_ii (fun x y => x - y)), (48, s_putI 10 6), (51, s_c (.inl 0)), (52, s_stI 1), (53, s_ldI 1), (54, s_c (.inl 3324)), (57, s_icmp_ge 87), (60, s_ldP 0), (61, s_getP 10 3), (64, s_c (.inl 3324)), (67, s_ldP 0), (68, s_getI 10 6), (71, s_ii (fun x y => x * y)), (72, s_ldI 1), (73, s_ii (fun x y => x + y)), (74, s_ldP 0), (75, s_getP 10 2), (78, s_ldI 1), (79, s_iald), (80, s_iast), (81, s_iinc 1 1), (84, s_goto 53), (87, s_ldP 0), (88, s_ldP 0), (89, s_getI 10 6), (92, s_c (.inl 1)), (93, s_ii (fun x y => x + y)), (94, s_putI 10 6), (97, s_vret)]
set_option maxRecDepth 100000 in
theorem ok_X11_remembers {l : Launch} {g : EG} : e_okp l g sg_X11_remembers "CalendarSyncModel" (pg_X11_remembers l g) := fun p e R s m args below meth c ex M0 Q X =>
    e_each_cons (r_aload_n X (k := 0) (i := 0) rfl dX11_remembers_0 rfl)
    (e_each_cons (r_getI X (index := 68) (ci := 10) (k := 6) dX11_remembers_1 (by decide) (by decide) rfl w6_32 rfl)
    (e_each_cons (r_bipush X (n := 12) (v := 12) dX11_remembers_4 (by decide) rfl)
    (e_each_cons (r_icmp_ne X (off := 45) (t := 51) dX11_remembers_6 (by decide) rfl)
    (e_each_cons (r_sipush X (n := 3324) (v := 3324) dX11_remembers_9 (by decide) rfl)
    (e_each_cons (r_istore_n X (k := 1) (i := 1) rfl dX11_remembers_12 (by decide) rfl)
    (e_each_cons (r_iload_n X (k := 1) (i := 1) rfl dX11_remembers_13 rfl)
    (e_each_cons (r_ldc X (n := 13) (v := 39888) dX11_remembers_14 w6_17 rfl)
    (e_each_cons (r_icmp_ge X (off := 25) (t := 41) dX11_remembers_16 (by decide) rfl)
    (e_each_cons (r_aload_n X (k := 0) (i := 0) rfl dX11_remembers_19 rfl)
    (e_each_cons (r_getP X (index := 14) (ci := 10) (k := 3) dX11_remembers_20 (by decide) (by decide) rfl w6_29 rfl)
    (e_each_cons (r_iload_n X (k := 1) (i := 1) rfl dX11_remembers_23 rfl)
    (e_each_cons (r_sipush X (n := 3324) (v := 3324) dX11_remembers_24 (by decide) rfl)
    (e_each_cons (r_isub X dX11_remembers_27 rfl)
    (e_each_cons (r_aload_n X (k := 0) (i := 0) rfl dX11_remembers_28 rfl)
    (e_each_cons (r_getP X (index := 14) (ci := 10) (k := 3) dX11_remembers_29 (by decide) (by decide) rfl w6_29 rfl)
    (e_each_cons (r_iload_n X (k := 1) (i := 1) rfl dX11_remembers_32 rfl)
    (e_each_cons (r_iald X dX11_remembers_33 rfl)
    (e_each_cons (r_iast X dX11_remembers_34 rfl)
    (e_each_cons (r_iinc X (i := 1) (n := 1) (d := 1) dX11_remembers_35 (by decide) (by decide) rfl)
    (e_each_cons (r_goto X (off := (-25)) (t := 13) dX11_remembers_38 (by decide))
    (e_each_cons (r_aload_n X (k := 0) (i := 0) rfl dX11_remembers_41 rfl)
    (e_each_cons (r_aload_n X (k := 0) (i := 0) rfl dX11_remembers_42 rfl)
    (e_each_cons (r_getI X (index := 68) (ci := 10) (k := 6) dX11_remembers_43 (by decide) (by decide) rfl w6_32 rfl)
    (e_each_cons (r_iconst X (n := 1) (v := 1) dX11_remembers_46 (by decide) rfl)
    (e_each_cons (r_isub X dX11_remembers_47 rfl)
    (e_each_cons (r_putI X (index := 68) (ci := 10) (k := 6) dX11_remembers_48 (by decide) (by decide) rfl rfl w6_32 rfl)
    (e_each_cons (r_iconst X (n := 0) (v := 0) dX11_remembers_51 (by decide) rfl)
    (e_each_cons (r_istore_n X (k := 1) (i := 1) rfl dX11_remembers_52 (by decide) rfl)
    (e_each_cons (r_iload_n X (k := 1) (i := 1) rfl dX11_remembers_53 rfl)
    (e_each_cons (r_sipush X (n := 3324) (v := 3324) dX11_remembers_54 (by decide) rfl)
    (e_each_cons (r_icmp_ge X (off := 30) (t := 87) dX11_remembers_57 (by decide) rfl)
    (e_each_cons (r_aload_n X (k := 0) (i := 0) rfl dX11_remembers_60 rfl)
    (e_each_cons (r_getP X (index := 14) (ci := 10) (k := 3) dX11_remembers_61 (by decide) (by decide) rfl w6_29 rfl)
    (e_each_cons (r_sipush X (n := 3324) (v := 3324) dX11_remembers_64 (by decide) rfl)
    (e_each_cons (r_aload_n X (k := 0) (i := 0) rfl dX11_remembers_67 rfl)
    (e_each_cons (r_getI X (index := 68) (ci := 10) (k := 6) dX11_remembers_68 (by decide) (by decide) rfl w6_32 rfl)
    (e_each_cons (r_imul X dX11_remembers_71 rfl)
    (e_each_cons (r_iload_n X (k := 1) (i := 1) rfl dX11_remembers_72 rfl)
    (e_each_cons (r_iadd X dX11_remembers_73 rfl)
    (e_each_cons (r_aload_n X (k := 0) (i := 0) rfl dX11_remembers_74 rfl)
    (e_each_cons (r_getP X (index := 7) (ci := 10) (k := 2) dX11_remembers_75 (by decide) (by decide) rfl w6_28 rfl)
    (e_each_cons (r_iload_n X (k := 1) (i := 1) rfl dX11_remembers_78 rfl)
    (e_each_cons (r_iald X dX11_remembers_79 rfl)
    (e_each_cons (r_iast X dX11_remembers_80 rfl)
    (e_each_cons (r_iinc X (i := 1) (n := 1) (d := 1) dX11_remembers_81 (by decide) (by decide) rfl)
    (e_each_cons (r_goto X (off := (-31)) (t := 53) dX11_remembers_84 (by decide))
    (e_each_cons (r_aload_n X (k := 0) (i := 0) rfl dX11_remembers_87 rfl)
    (e_each_cons (r_aload_n X (k := 0) (i := 0) rfl dX11_remembers_88 rfl)
    (e_each_cons (r_getI X (index := 68) (ci := 10) (k := 6) dX11_remembers_89 (by decide) (by decide) rfl w6_32 rfl)
    (e_each_cons (r_iconst X (n := 1) (v := 1) dX11_remembers_92 (by decide) rfl)
    (e_each_cons (r_iadd X dX11_remembers_93 rfl)
    (e_each_cons (r_putI X (index := 68) (ci := 10) (k := 6) dX11_remembers_94 (by decide) (by decide) rfl rfl w6_32 rfl)
    (e_each_cons (r_vret X dX11_remembers_97 rfl)
    (e_each_nil))))))))))))))))))))))))))))))))))))))))))))))))))))))
theorem dX11_undo_0 : decode cX11_undo 0 = .ok (.aload_n 0, 1) := by decide +kernel
theorem dX11_undo_1 : decode cX11_undo 1 = .ok (.aload_n 0, 1) := by decide +kernel
theorem dX11_undo_2 : decode cX11_undo 2 = .ok (.getfield 68, 3) := by decide +kernel
theorem dX11_undo_5 : decode cX11_undo 5 = .ok (.ifCond .ne 7, 3) := by decide +kernel
theorem dX11_undo_8 : decode cX11_undo 8 = .ok (.iconst 1, 1) := by decide +kernel
theorem dX11_undo_9 : decode cX11_undo 9 = .ok (.goto 4, 3) := by decide +kernel
theorem dX11_undo_12 : decode cX11_undo 12 = .ok (.iconst 0, 1) := by decide +kernel
theorem dX11_undo_13 : decode cX11_undo 13 = .ok (.invokevirtual 71, 3) := by decide +kernel
theorem dX11_undo_16 : decode cX11_undo 16 = .ok (.ifCond .eq 5, 3) := by decide +kernel
theorem dX11_undo_19 : decode cX11_undo 19 = .ok (.iconst 0, 1) := by decide +kernel
theorem dX11_undo_20 : decode cX11_undo 20 = .ok (.ireturn, 1) := by decide +kernel
theorem dX11_undo_21 : decode cX11_undo 21 = .ok (.aload_n 0, 1) := by decide +kernel
theorem dX11_undo_22 : decode cX11_undo 22 = .ok (.aload_n 0, 1) := by decide +kernel
theorem dX11_undo_23 : decode cX11_undo 23 = .ok (.getfield 68, 3) := by decide +kernel
theorem dX11_undo_26 : decode cX11_undo 26 = .ok (.iconst 1, 1) := by decide +kernel
theorem dX11_undo_27 : decode cX11_undo 27 = .ok (.isub, 1) := by decide +kernel
theorem dX11_undo_28 : decode cX11_undo 28 = .ok (.putfield 68, 3) := by decide +kernel
theorem dX11_undo_31 : decode cX11_undo 31 = .ok (.iconst 0, 1) := by decide +kernel
theorem dX11_undo_32 : decode cX11_undo 32 = .ok (.istore_n 1, 1) := by decide +kernel
theorem dX11_undo_33 : decode cX11_undo 33 = .ok (.iload_n 1, 1) := by decide +kernel
theorem dX11_undo_34 : decode cX11_undo 34 = .ok (.sipush 3324, 3) := by decide +kernel
theorem dX11_undo_37 : decode cX11_undo 37 = .ok (.if_icmp .ge 30, 3) := by decide +kernel
theorem dX11_undo_40 : decode cX11_undo 40 = .ok (.aload_n 0, 1) := by decide +kernel
theorem dX11_undo_41 : decode cX11_undo 41 = .ok (.getfield 7, 3) := by decide +kernel
theorem dX11_undo_44 : decode cX11_undo 44 = .ok (.iload_n 1, 1) := by decide +kernel
theorem dX11_undo_45 : decode cX11_undo 45 = .ok (.aload_n 0, 1) := by decide +kernel
theorem dX11_undo_46 : decode cX11_undo 46 = .ok (.getfield 14, 3) := by decide +kernel
theorem dX11_undo_49 : decode cX11_undo 49 = .ok (.sipush 3324, 3) := by decide +kernel
theorem dX11_undo_52 : decode cX11_undo 52 = .ok (.aload_n 0, 1) := by decide +kernel
theorem dX11_undo_53 : decode cX11_undo 53 = .ok (.getfield 68, 3) := by decide +kernel
theorem dX11_undo_56 : decode cX11_undo 56 = .ok (.imul, 1) := by decide +kernel
theorem dX11_undo_57 : decode cX11_undo 57 = .ok (.iload_n 1, 1) := by decide +kernel
theorem dX11_undo_58 : decode cX11_undo 58 = .ok (.iadd, 1) := by decide +kernel
theorem dX11_undo_59 : decode cX11_undo 59 = .ok (.iaload, 1) := by decide +kernel
theorem dX11_undo_60 : decode cX11_undo 60 = .ok (.iastore, 1) := by decide +kernel
theorem dX11_undo_61 : decode cX11_undo 61 = .ok (.iinc 1 1, 3) := by decide +kernel
theorem dX11_undo_64 : decode cX11_undo 64 = .ok (.goto (-31), 3) := by decide +kernel
theorem dX11_undo_67 : decode cX11_undo 67 = .ok (.aload_n 0, 1) := by decide +kernel
theorem dX11_undo_68 : decode cX11_undo 68 = .ok (.getfield 68, 3) := by decide +kernel
theorem dX11_undo_71 : decode cX11_undo 71 = .ok (.ireturn, 1) := by decide +kernel
def pg_X11_undo (l : Launch) (g : EG) : List (Nat × ES) := [(0, s_ldP 0), (1, s_ldP 0), (2, s_getI 10 6), (5, s_if_ne 12), (8, s_c (.inl 1)), (9, s_goto 13), (12, s_c (.inl 0)), (13, s_callV l g sg_X11_undo sg_X11_isRefused 10), (16, s_if_eq 21), (19, s_c (.inl 0)), (20, s_ireti), (21, s_ldP 0), (22, s_ldP 0), (23, s_getI 10 6), (26, s_c (.inl 1)), (27, s_ii (fun x y => x - y)), (28, s_putI 10 6), (31, s_c (.inl 0)), (32, s_stI 1), (33, s_ldI 1), (34, s_c (.inl 3324)), (37, s_icmp_ge 67), (40, s_ldP 0), (41, s_getP 10 2), (44, s_ldI 1), (45, s_ldP 0), (46, s_getP 10 3), (49, s_c (.inl 3324)), (52, s_ldP 0), (53, s_getI 10 6), (56, s_ii (fun x y => x * y)), (57, s_ldI 1), (58, s_ii (fun x y => x + y)), (59, s_iald), (60, s_iast), (61, s_iinc 1 1), (64, s_goto 33), (67, s_ldP 0), (68, s_getI 10 6), (71, s_ireti)]
set_option maxRecDepth 100000 in
theorem ok_X11_undo {l : Launch} {g : EG} : e_okp l g sg_X11_undo "CalendarSyncModel" (pg_X11_undo l g) := fun p e R s m args below meth c ex M0 Q X =>
    e_each_cons (r_aload_n X (k := 0) (i := 0) rfl dX11_undo_0 rfl)
    (e_each_cons (r_aload_n X (k := 0) (i := 0) rfl dX11_undo_1 rfl)
    (e_each_cons (r_getI X (index := 68) (ci := 10) (k := 6) dX11_undo_2 (by decide) (by decide) rfl w6_32 rfl)
    (e_each_cons (r_if_ne X (off := 7) (t := 12) dX11_undo_5 (by decide) rfl)
    (e_each_cons (r_iconst X (n := 1) (v := 1) dX11_undo_8 (by decide) rfl)
    (e_each_cons (r_goto X (off := 4) (t := 13) dX11_undo_9 (by decide))
    (e_each_cons (r_iconst X (n := 0) (v := 0) dX11_undo_12 (by decide) rfl)
    (e_each_cons (r_callV X rfl (τ := sg_X11_isRefused) (index := 71) (ci := 10) dX11_undo_13 (by decide) rfl w6_119 w6_121 ws_31 cs_X11_isRefused rfl ⟨by decide, by decide⟩ rfl)
    (e_each_cons (r_if_eq X (off := 5) (t := 21) dX11_undo_16 (by decide) rfl)
    (e_each_cons (r_iconst X (n := 0) (v := 0) dX11_undo_19 (by decide) rfl)
    (e_each_cons (r_ireti X dX11_undo_20 rfl)
    (e_each_cons (r_aload_n X (k := 0) (i := 0) rfl dX11_undo_21 rfl)
    (e_each_cons (r_aload_n X (k := 0) (i := 0) rfl dX11_undo_22 rfl)
    (e_each_cons (r_getI X (index := 68) (ci := 10) (k := 6) dX11_undo_23 (by decide) (by decide) rfl w6_32 rfl)
    (e_each_cons (r_iconst X (n := 1) (v := 1) dX11_undo_26 (by decide) rfl)
    (e_each_cons (r_isub X dX11_undo_27 rfl)
    (e_each_cons (r_putI X (index := 68) (ci := 10) (k := 6) dX11_undo_28 (by decide) (by decide) rfl rfl w6_32 rfl)
    (e_each_cons (r_iconst X (n := 0) (v := 0) dX11_undo_31 (by decide) rfl)
    (e_each_cons (r_istore_n X (k := 1) (i := 1) rfl dX11_undo_32 (by decide) rfl)
    (e_each_cons (r_iload_n X (k := 1) (i := 1) rfl dX11_undo_33 rfl)
    (e_each_cons (r_sipush X (n := 3324) (v := 3324) dX11_undo_34 (by decide) rfl)
    (e_each_cons (r_icmp_ge X (off := 30) (t := 67) dX11_undo_37 (by decide) rfl)
    (e_each_cons (r_aload_n X (k := 0) (i := 0) rfl dX11_undo_40 rfl)
    (e_each_cons (r_getP X (index := 7) (ci := 10) (k := 2) dX11_undo_41 (by decide) (by decide) rfl w6_28 rfl)
    (e_each_cons (r_iload_n X (k := 1) (i := 1) rfl dX11_undo_44 rfl)
    (e_each_cons (r_aload_n X (k := 0) (i := 0) rfl dX11_undo_45 rfl)
    (e_each_cons (r_getP X (index := 14) (ci := 10) (k := 3) dX11_undo_46 (by decide) (by decide) rfl w6_29 rfl)
    (e_each_cons (r_sipush X (n := 3324) (v := 3324) dX11_undo_49 (by decide) rfl)
    (e_each_cons (r_aload_n X (k := 0) (i := 0) rfl dX11_undo_52 rfl)
    (e_each_cons (r_getI X (index := 68) (ci := 10) (k := 6) dX11_undo_53 (by decide) (by decide) rfl w6_32 rfl)
    (e_each_cons (r_imul X dX11_undo_56 rfl)
    (e_each_cons (r_iload_n X (k := 1) (i := 1) rfl dX11_undo_57 rfl)
    (e_each_cons (r_iadd X dX11_undo_58 rfl)
    (e_each_cons (r_iald X dX11_undo_59 rfl)
    (e_each_cons (r_iast X dX11_undo_60 rfl)
    (e_each_cons (r_iinc X (i := 1) (n := 1) (d := 1) dX11_undo_61 (by decide) (by decide) rfl)
    (e_each_cons (r_goto X (off := (-31)) (t := 33) dX11_undo_64 (by decide))
    (e_each_cons (r_aload_n X (k := 0) (i := 0) rfl dX11_undo_67 rfl)
    (e_each_cons (r_getI X (index := 68) (ci := 10) (k := 6) dX11_undo_68 (by decide) (by decide) rfl w6_32 rfl)
    (e_each_cons (r_ireti X dX11_undo_71 rfl)
    (e_each_nil))))))))))))))))))))))))))))))))))))))))
theorem dX11_keep_0 : decode cX11_keep 0 = .ok (.aload_n 0, 1) := by decide +kernel
theorem dX11_keep_1 : decode cX11_keep 1 = .ok (.iload_n 1, 1) := by decide +kernel
theorem dX11_keep_2 : decode cX11_keep 2 = .ok (.iconst 0, 1) := by decide +kernel
theorem dX11_keep_3 : decode cX11_keep 3 = .ok (.iconst 1, 1) := by decide +kernel
theorem dX11_keep_4 : decode cX11_keep 4 = .ok (.invokestatic 75, 3) := by decide +kernel
theorem dX11_keep_7 : decode cX11_keep 7 = .ok (.ifCond .eq 7, 3) := by decide +kernel
theorem dX11_keep_10 : decode cX11_keep 10 = .ok (.iconst 0, 1) := by decide +kernel
theorem dX11_keep_11 : decode cX11_keep 11 = .ok (.goto 4, 3) := by decide +kernel
theorem dX11_keep_14 : decode cX11_keep 14 = .ok (.iconst 1, 1) := by decide +kernel
theorem dX11_keep_15 : decode cX11_keep 15 = .ok (.invokevirtual 71, 3) := by decide +kernel
theorem dX11_keep_18 : decode cX11_keep 18 = .ok (.ifCond .eq 5, 3) := by decide +kernel
theorem dX11_keep_21 : decode cX11_keep 21 = .ok (.iconst 0, 1) := by decide +kernel
theorem dX11_keep_22 : decode cX11_keep 22 = .ok (.ireturn, 1) := by decide +kernel
theorem dX11_keep_23 : decode cX11_keep 23 = .ok (.iconst 0, 1) := by decide +kernel
theorem dX11_keep_24 : decode cX11_keep 24 = .ok (.istore_n 2, 1) := by decide +kernel
theorem dX11_keep_25 : decode cX11_keep 25 = .ok (.iload_n 2, 1) := by decide +kernel
theorem dX11_keep_26 : decode cX11_keep 26 = .ok (.sipush 3324, 3) := by decide +kernel
theorem dX11_keep_29 : decode cX11_keep 29 = .ok (.if_icmp .ge 27, 3) := by decide +kernel
theorem dX11_keep_32 : decode cX11_keep 32 = .ok (.aload_n 0, 1) := by decide +kernel
theorem dX11_keep_33 : decode cX11_keep 33 = .ok (.getfield 17, 3) := by decide +kernel
theorem dX11_keep_36 : decode cX11_keep 36 = .ok (.sipush 3324, 3) := by decide +kernel
theorem dX11_keep_39 : decode cX11_keep 39 = .ok (.iload_n 1, 1) := by decide +kernel
theorem dX11_keep_40 : decode cX11_keep 40 = .ok (.imul, 1) := by decide +kernel
theorem dX11_keep_41 : decode cX11_keep 41 = .ok (.iload_n 2, 1) := by decide +kernel
theorem dX11_keep_42 : decode cX11_keep 42 = .ok (.iadd, 1) := by decide +kernel
theorem dX11_keep_43 : decode cX11_keep 43 = .ok (.aload_n 0, 1) := by decide +kernel
theorem dX11_keep_44 : decode cX11_keep 44 = .ok (.getfield 7, 3) := by decide +kernel
theorem dX11_keep_47 : decode cX11_keep 47 = .ok (.iload_n 2, 1) := by decide +kernel
theorem dX11_keep_48 : decode cX11_keep 48 = .ok (.iaload, 1) := by decide +kernel
theorem dX11_keep_49 : decode cX11_keep 49 = .ok (.iastore, 1) := by decide +kernel
theorem dX11_keep_50 : decode cX11_keep 50 = .ok (.iinc 2 1, 3) := by decide +kernel
theorem dX11_keep_53 : decode cX11_keep 53 = .ok (.goto (-28), 3) := by decide +kernel
theorem dX11_keep_56 : decode cX11_keep 56 = .ok (.aload_n 0, 1) := by decide +kernel
theorem dX11_keep_57 : decode cX11_keep 57 = .ok (.getfield 20, 3) := by decide +kernel
theorem dX11_keep_60 : decode cX11_keep 60 = .ok (.iload_n 1, 1) := by decide +kernel
theorem dX11_keep_61 : decode cX11_keep 61 = .ok (.iconst 1, 1) := by decide +kernel
theorem dX11_keep_62 : decode cX11_keep 62 = .ok (.bastore, 1) := by decide +kernel
theorem dX11_keep_63 : decode cX11_keep 63 = .ok (.aload_n 0, 1) := by decide +kernel
theorem dX11_keep_64 : decode cX11_keep 64 = .ok (.getfield 7, 3) := by decide +kernel
theorem dX11_keep_67 : decode cX11_keep 67 = .ok (.iconst 0, 1) := by decide +kernel
theorem dX11_keep_68 : decode cX11_keep 68 = .ok (.iaload, 1) := by decide +kernel
theorem dX11_keep_69 : decode cX11_keep 69 = .ok (.ireturn, 1) := by decide +kernel
def pg_X11_keep (l : Launch) (g : EG) : List (Nat × ES) := [(0, s_ldP 0), (1, s_ldI 1), (2, s_c (.inl 0)), (3, s_c (.inl 1)), (4, s_callS l g sg_X11_keep sg_X11_in), (7, s_if_eq 14), (10, s_c (.inl 0)), (11, s_goto 15), (14, s_c (.inl 1)), (15, s_callV l g sg_X11_keep sg_X11_isRefused 10), (18, s_if_eq 23), (21, s_c (.inl 0)), (22, s_ireti), (23, s_c (.inl 0)), (24, s_stI 2), (25, s_ldI 2), (26, s_c (.inl 3324)), (29, s_icmp_ge 56), (32, s_ldP 0), (33, s_getP 10 4), (36, s_c (.inl 3324)), (39, s_ldI 1), (40, s_ii (fun x y => x * y)), (41, s_ldI 2), (42, s_ii (fun x y => x + y)), (43, s_ldP 0), (44, s_getP 10 2), (47, s_ldI 2), (48, s_iald), (49, s_iast), (50, s_iinc 2 1), (53, s_goto 25), (56, s_ldP 0), (57, s_getP 10 5), (60, s_ldI 1), (61, s_c (.inl 1)), (62, s_zast), (63, s_ldP 0), (64, s_getP 10 2), (67, s_c (.inl 0)), (68, s_iald), (69, s_ireti)]
set_option maxRecDepth 100000 in
theorem ok_X11_keep {l : Launch} {g : EG} : e_okp l g sg_X11_keep "CalendarSyncModel" (pg_X11_keep l g) := fun p e R s m args below meth c ex M0 Q X =>
    e_each_cons (r_aload_n X (k := 0) (i := 0) rfl dX11_keep_0 rfl)
    (e_each_cons (r_iload_n X (k := 1) (i := 1) rfl dX11_keep_1 rfl)
    (e_each_cons (r_iconst X (n := 0) (v := 0) dX11_keep_2 (by decide) rfl)
    (e_each_cons (r_iconst X (n := 1) (v := 1) dX11_keep_3 (by decide) rfl)
    (e_each_cons (r_callS X rfl (τ := sg_X11_in) (index := 75) dX11_keep_4 w6_127 w6_128 cs_X11_in rfl ⟨by decide, by decide⟩ rfl)
    (e_each_cons (r_if_eq X (off := 7) (t := 14) dX11_keep_7 (by decide) rfl)
    (e_each_cons (r_iconst X (n := 0) (v := 0) dX11_keep_10 (by decide) rfl)
    (e_each_cons (r_goto X (off := 4) (t := 15) dX11_keep_11 (by decide))
    (e_each_cons (r_iconst X (n := 1) (v := 1) dX11_keep_14 (by decide) rfl)
    (e_each_cons (r_callV X rfl (τ := sg_X11_isRefused) (index := 71) (ci := 10) dX11_keep_15 (by decide) rfl w6_119 w6_121 ws_31 cs_X11_isRefused rfl ⟨by decide, by decide⟩ rfl)
    (e_each_cons (r_if_eq X (off := 5) (t := 23) dX11_keep_18 (by decide) rfl)
    (e_each_cons (r_iconst X (n := 0) (v := 0) dX11_keep_21 (by decide) rfl)
    (e_each_cons (r_ireti X dX11_keep_22 rfl)
    (e_each_cons (r_iconst X (n := 0) (v := 0) dX11_keep_23 (by decide) rfl)
    (e_each_cons (r_istore_n X (k := 2) (i := 2) rfl dX11_keep_24 (by decide) rfl)
    (e_each_cons (r_iload_n X (k := 2) (i := 2) rfl dX11_keep_25 rfl)
    (e_each_cons (r_sipush X (n := 3324) (v := 3324) dX11_keep_26 (by decide) rfl)
    (e_each_cons (r_icmp_ge X (off := 27) (t := 56) dX11_keep_29 (by decide) rfl)
    (e_each_cons (r_aload_n X (k := 0) (i := 0) rfl dX11_keep_32 rfl)
    (e_each_cons (r_getP X (index := 17) (ci := 10) (k := 4) dX11_keep_33 (by decide) (by decide) rfl w6_30 rfl)
    (e_each_cons (r_sipush X (n := 3324) (v := 3324) dX11_keep_36 (by decide) rfl)
    (e_each_cons (r_iload_n X (k := 1) (i := 1) rfl dX11_keep_39 rfl)
    (e_each_cons (r_imul X dX11_keep_40 rfl)
    (e_each_cons (r_iload_n X (k := 2) (i := 2) rfl dX11_keep_41 rfl)
    (e_each_cons (r_iadd X dX11_keep_42 rfl)
    (e_each_cons (r_aload_n X (k := 0) (i := 0) rfl dX11_keep_43 rfl)
    (e_each_cons (r_getP X (index := 7) (ci := 10) (k := 2) dX11_keep_44 (by decide) (by decide) rfl w6_28 rfl)
    (e_each_cons (r_iload_n X (k := 2) (i := 2) rfl dX11_keep_47 rfl)
    (e_each_cons (r_iald X dX11_keep_48 rfl)
    (e_each_cons (r_iast X dX11_keep_49 rfl)
    (e_each_cons (r_iinc X (i := 2) (n := 1) (d := 1) dX11_keep_50 (by decide) (by decide) rfl)
    (e_each_cons (r_goto X (off := (-28)) (t := 25) dX11_keep_53 (by decide))
    (e_each_cons (r_aload_n X (k := 0) (i := 0) rfl dX11_keep_56 rfl)
    (e_each_cons (r_getP X (index := 20) (ci := 10) (k := 5) dX11_keep_57 (by decide) (by decide) rfl w6_31 rfl)
    (e_each_cons (r_iload_n X (k := 1) (i := 1) rfl dX11_keep_60 rfl)
    (e_each_cons (r_iconst X (n := 1) (v := 1) dX11_keep_61 (by decide) rfl)
    (e_each_cons (r_zast X dX11_keep_62 rfl)
    (e_each_cons (r_aload_n X (k := 0) (i := 0) rfl dX11_keep_63 rfl)
    (e_each_cons (r_getP X (index := 7) (ci := 10) (k := 2) dX11_keep_64 (by decide) (by decide) rfl w6_28 rfl)
    (e_each_cons (r_iconst X (n := 0) (v := 0) dX11_keep_67 (by decide) rfl)
    (e_each_cons (r_iald X dX11_keep_68 rfl)
    (e_each_cons (r_ireti X dX11_keep_69 rfl)
    (e_each_nil))))))))))))))))))))))))))))))))))))))))))
theorem dX11_restore_0 : decode cX11_restore 0 = .ok (.aload_n 0, 1) := by decide +kernel
theorem dX11_restore_1 : decode cX11_restore 1 = .ok (.iload_n 1, 1) := by decide +kernel
theorem dX11_restore_2 : decode cX11_restore 2 = .ok (.iconst 0, 1) := by decide +kernel
theorem dX11_restore_3 : decode cX11_restore 3 = .ok (.iconst 1, 1) := by decide +kernel
theorem dX11_restore_4 : decode cX11_restore 4 = .ok (.invokestatic 75, 3) := by decide +kernel
theorem dX11_restore_7 : decode cX11_restore 7 = .ok (.ifCond .ne 7, 3) := by decide +kernel
theorem dX11_restore_10 : decode cX11_restore 10 = .ok (.iconst 1, 1) := by decide +kernel
theorem dX11_restore_11 : decode cX11_restore 11 = .ok (.goto 17, 3) := by decide +kernel
theorem dX11_restore_14 : decode cX11_restore 14 = .ok (.aload_n 0, 1) := by decide +kernel
theorem dX11_restore_15 : decode cX11_restore 15 = .ok (.getfield 20, 3) := by decide +kernel
theorem dX11_restore_18 : decode cX11_restore 18 = .ok (.iload_n 1, 1) := by decide +kernel
theorem dX11_restore_19 : decode cX11_restore 19 = .ok (.baload, 1) := by decide +kernel
theorem dX11_restore_20 : decode cX11_restore 20 = .ok (.ifCond .eq 7, 3) := by decide +kernel
theorem dX11_restore_23 : decode cX11_restore 23 = .ok (.iconst 0, 1) := by decide +kernel
theorem dX11_restore_24 : decode cX11_restore 24 = .ok (.goto 4, 3) := by decide +kernel
theorem dX11_restore_27 : decode cX11_restore 27 = .ok (.iconst 2, 1) := by decide +kernel
theorem dX11_restore_28 : decode cX11_restore 28 = .ok (.invokevirtual 71, 3) := by decide +kernel
theorem dX11_restore_31 : decode cX11_restore 31 = .ok (.ifCond .eq 5, 3) := by decide +kernel
theorem dX11_restore_34 : decode cX11_restore 34 = .ok (.iconst 0, 1) := by decide +kernel
theorem dX11_restore_35 : decode cX11_restore 35 = .ok (.ireturn, 1) := by decide +kernel
theorem dX11_restore_36 : decode cX11_restore 36 = .ok (.iconst 0, 1) := by decide +kernel
theorem dX11_restore_37 : decode cX11_restore 37 = .ok (.istore_n 2, 1) := by decide +kernel
theorem dX11_restore_38 : decode cX11_restore 38 = .ok (.iload_n 2, 1) := by decide +kernel
theorem dX11_restore_39 : decode cX11_restore 39 = .ok (.sipush 3324, 3) := by decide +kernel
theorem dX11_restore_42 : decode cX11_restore 42 = .ok (.if_icmp .ge 27, 3) := by decide +kernel
theorem dX11_restore_45 : decode cX11_restore 45 = .ok (.aload_n 0, 1) := by decide +kernel
theorem dX11_restore_46 : decode cX11_restore 46 = .ok (.getfield 7, 3) := by decide +kernel
theorem dX11_restore_49 : decode cX11_restore 49 = .ok (.iload_n 2, 1) := by decide +kernel
theorem dX11_restore_50 : decode cX11_restore 50 = .ok (.aload_n 0, 1) := by decide +kernel
theorem dX11_restore_51 : decode cX11_restore 51 = .ok (.getfield 17, 3) := by decide +kernel
theorem dX11_restore_54 : decode cX11_restore 54 = .ok (.sipush 3324, 3) := by decide +kernel
theorem dX11_restore_57 : decode cX11_restore 57 = .ok (.iload_n 1, 1) := by decide +kernel
theorem dX11_restore_58 : decode cX11_restore 58 = .ok (.imul, 1) := by decide +kernel
theorem dX11_restore_59 : decode cX11_restore 59 = .ok (.iload_n 2, 1) := by decide +kernel
theorem dX11_restore_60 : decode cX11_restore 60 = .ok (.iadd, 1) := by decide +kernel
theorem dX11_restore_61 : decode cX11_restore 61 = .ok (.iaload, 1) := by decide +kernel
theorem dX11_restore_62 : decode cX11_restore 62 = .ok (.iastore, 1) := by decide +kernel
theorem dX11_restore_63 : decode cX11_restore 63 = .ok (.iinc 2 1, 3) := by decide +kernel
theorem dX11_restore_66 : decode cX11_restore 66 = .ok (.goto (-28), 3) := by decide +kernel
theorem dX11_restore_69 : decode cX11_restore 69 = .ok (.aload_n 0, 1) := by decide +kernel
theorem dX11_restore_70 : decode cX11_restore 70 = .ok (.iconst 0, 1) := by decide +kernel
theorem dX11_restore_71 : decode cX11_restore 71 = .ok (.putfield 68, 3) := by decide +kernel
theorem dX11_restore_74 : decode cX11_restore 74 = .ok (.aload_n 0, 1) := by decide +kernel
theorem dX11_restore_75 : decode cX11_restore 75 = .ok (.getfield 7, 3) := by decide +kernel
theorem dX11_restore_78 : decode cX11_restore 78 = .ok (.iconst 0, 1) := by decide +kernel
theorem dX11_restore_79 : decode cX11_restore 79 = .ok (.iaload, 1) := by decide +kernel
theorem dX11_restore_80 : decode cX11_restore 80 = .ok (.ireturn, 1) := by decide +kernel
def pg_X11_restore (l : Launch) (g : EG) : List (Nat × ES) := [(0, s_ldP 0), (1, s_ldI 1), (2, s_c (.inl 0)), (3, s_c (.inl 1)), (4, s_callS l g sg_X11_restore sg_X11_in), (7, s_if_ne 14), (10, s_c (.inl 1)), (11, s_goto 28), (14, s_ldP 0), (15, s_getP 10 5), (18, s_ldI 1), (19, s_zald), (20, s_if_eq 27), (23, s_c (.inl 0)), (24, s_goto 28), (27, s_c (.inl 2)), (28, s_callV l g sg_X11_restore sg_X11_isRefused 10), (31, s_if_eq 36), (34, s_c (.inl 0)), (35, s_ireti), (36, s_c (.inl 0)), (37, s_stI 2), (38, s_ldI 2), (39, s_c (.inl 3324)), (42, s_icmp_ge 69), (45, s_ldP 0), (46, s_getP 10 2), (49, s_ldI 2), (50, s_ldP 0), (51, s_getP 10 4), (54, s_c (.inl 3324)), (57, s_ldI 1), (58, s_ii (fun x y => x * y)), (59, s_ldI 2), (60, s_ii (fun x y => x + y)), (61, s_iald), (62, s_iast), (63, s_iinc 2 1), (66, s_goto 38), (69, s_ldP 0), (70, s_c (.inl 0)), (71, s_putI 10 6), (74, s_ldP 0), (75, s_getP 10 2), (78, s_c (.inl 0)), (79, s_iald), (80, s_ireti)]
set_option maxRecDepth 100000 in
theorem ok_X11_restore {l : Launch} {g : EG} : e_okp l g sg_X11_restore "CalendarSyncModel" (pg_X11_restore l g) := fun p e R s m args below meth c ex M0 Q X =>
    e_each_cons (r_aload_n X (k := 0) (i := 0) rfl dX11_restore_0 rfl)
    (e_each_cons (r_iload_n X (k := 1) (i := 1) rfl dX11_restore_1 rfl)
    (e_each_cons (r_iconst X (n := 0) (v := 0) dX11_restore_2 (by decide) rfl)
    (e_each_cons (r_iconst X (n := 1) (v := 1) dX11_restore_3 (by decide) rfl)
    (e_each_cons (r_callS X rfl (τ := sg_X11_in) (index := 75) dX11_restore_4 w6_127 w6_128 cs_X11_in rfl ⟨by decide, by decide⟩ rfl)
    (e_each_cons (r_if_ne X (off := 7) (t := 14) dX11_restore_7 (by decide) rfl)
    (e_each_cons (r_iconst X (n := 1) (v := 1) dX11_restore_10 (by decide) rfl)
    (e_each_cons (r_goto X (off := 17) (t := 28) dX11_restore_11 (by decide))
    (e_each_cons (r_aload_n X (k := 0) (i := 0) rfl dX11_restore_14 rfl)
    (e_each_cons (r_getP X (index := 20) (ci := 10) (k := 5) dX11_restore_15 (by decide) (by decide) rfl w6_31 rfl)
    (e_each_cons (r_iload_n X (k := 1) (i := 1) rfl dX11_restore_18 rfl)
    (e_each_cons (r_zald X dX11_restore_19 rfl)
    (e_each_cons (r_if_eq X (off := 7) (t := 27) dX11_restore_20 (by decide) rfl)
    (e_each_cons (r_iconst X (n := 0) (v := 0) dX11_restore_23 (by decide) rfl)
    (e_each_cons (r_goto X (off := 4) (t := 28) dX11_restore_24 (by decide))
    (e_each_cons (r_iconst X (n := 2) (v := 2) dX11_restore_27 (by decide) rfl)
    (e_each_cons (r_callV X rfl (τ := sg_X11_isRefused) (index := 71) (ci := 10) dX11_restore_28 (by decide) rfl w6_119 w6_121 ws_31 cs_X11_isRefused rfl ⟨by decide, by decide⟩ rfl)
    (e_each_cons (r_if_eq X (off := 5) (t := 36) dX11_restore_31 (by decide) rfl)
    (e_each_cons (r_iconst X (n := 0) (v := 0) dX11_restore_34 (by decide) rfl)
    (e_each_cons (r_ireti X dX11_restore_35 rfl)
    (e_each_cons (r_iconst X (n := 0) (v := 0) dX11_restore_36 (by decide) rfl)
    (e_each_cons (r_istore_n X (k := 2) (i := 2) rfl dX11_restore_37 (by decide) rfl)
    (e_each_cons (r_iload_n X (k := 2) (i := 2) rfl dX11_restore_38 rfl)
    (e_each_cons (r_sipush X (n := 3324) (v := 3324) dX11_restore_39 (by decide) rfl)
    (e_each_cons (r_icmp_ge X (off := 27) (t := 69) dX11_restore_42 (by decide) rfl)
    (e_each_cons (r_aload_n X (k := 0) (i := 0) rfl dX11_restore_45 rfl)
    (e_each_cons (r_getP X (index := 7) (ci := 10) (k := 2) dX11_restore_46 (by decide) (by decide) rfl w6_28 rfl)
    (e_each_cons (r_iload_n X (k := 2) (i := 2) rfl dX11_restore_49 rfl)
    (e_each_cons (r_aload_n X (k := 0) (i := 0) rfl dX11_restore_50 rfl)
    (e_each_cons (r_getP X (index := 17) (ci := 10) (k := 4) dX11_restore_51 (by decide) (by decide) rfl w6_30 rfl)
    (e_each_cons (r_sipush X (n := 3324) (v := 3324) dX11_restore_54 (by decide) rfl)
    (e_each_cons (r_iload_n X (k := 1) (i := 1) rfl dX11_restore_57 rfl)
    (e_each_cons (r_imul X dX11_restore_58 rfl)
    (e_each_cons (r_iload_n X (k := 2) (i := 2) rfl dX11_restore_59 rfl)
    (e_each_cons (r_iadd X dX11_restore_60 rfl)
    (e_each_cons (r_iald X dX11_restore_61 rfl)
    (e_each_cons (r_iast X dX11_restore_62 rfl)
    (e_each_cons (r_iinc X (i := 2) (n := 1) (d := 1) dX11_restore_63 (by decide) (by decide) rfl)
    (e_each_cons (r_goto X (off := (-28)) (t := 38) dX11_restore_66 (by decide))
    (e_each_cons (r_aload_n X (k := 0) (i := 0) rfl dX11_restore_69 rfl)
    (e_each_cons (r_iconst X (n := 0) (v := 0) dX11_restore_70 (by decide) rfl)
    (e_each_cons (r_putI X (index := 68) (ci := 10) (k := 6) dX11_restore_71 (by decide) (by decide) rfl rfl w6_32 rfl)
    (e_each_cons (r_aload_n X (k := 0) (i := 0) rfl dX11_restore_74 rfl)
    (e_each_cons (r_getP X (index := 7) (ci := 10) (k := 2) dX11_restore_75 (by decide) (by decide) rfl w6_28 rfl)
    (e_each_cons (r_iconst X (n := 0) (v := 0) dX11_restore_78 (by decide) rfl)
    (e_each_cons (r_iald X dX11_restore_79 rfl)
    (e_each_cons (r_ireti X dX11_restore_80 rfl)
    (e_each_nil)))))))))))))))))))))))))))))))))))))))))))))))
theorem dX11_daysOf_0 : decode cX11_daysOf 0 = .ok (.iload_n 0, 1) := by decide +kernel
theorem dX11_daysOf_1 : decode cX11_daysOf 1 = .ok (.tableswitch 61 2 11 #[55, 61, 58, 61, 58, 61, 61, 58, 61, 58], 55) := by decide +kernel
theorem dX11_daysOf_56 : decode cX11_daysOf 56 = .ok (.bipush 28, 2) := by decide +kernel
theorem dX11_daysOf_58 : decode cX11_daysOf 58 = .ok (.ireturn, 1) := by decide +kernel
theorem dX11_daysOf_59 : decode cX11_daysOf 59 = .ok (.bipush 30, 2) := by decide +kernel
theorem dX11_daysOf_61 : decode cX11_daysOf 61 = .ok (.ireturn, 1) := by decide +kernel
theorem dX11_daysOf_62 : decode cX11_daysOf 62 = .ok (.bipush 31, 2) := by decide +kernel
theorem dX11_daysOf_64 : decode cX11_daysOf 64 = .ok (.ireturn, 1) := by decide +kernel
def pg_X11_daysOf (l : Launch) (g : EG) : List (Nat × ES) := [(0, s_ldI 0), (1, s_tab 2 [56, 62, 59, 62, 59, 62, 62, 59, 62, 59] 62), (56, s_c (.inl 28)), (58, s_ireti), (59, s_c (.inl 30)), (61, s_ireti), (62, s_c (.inl 31)), (64, s_ireti)]
set_option maxRecDepth 100000 in
theorem ok_X11_daysOf {l : Launch} {g : EG} : e_okp l g sg_X11_daysOf "CalendarSyncModel" (pg_X11_daysOf l g) := fun p e R s m args below meth c ex M0 Q X =>
    e_each_cons (r_iload_n X (k := 0) (i := 0) rfl dX11_daysOf_0 rfl)
    (e_each_cons (r_tab X (dflt := 61) (lo := 2) (hi := 11) (ts := [56, 62, 59, 62, 59, 62, 62, 59, 62, 59]) (dt := 62) dX11_daysOf_1 (by decide) (by decide) (by decide))
    (e_each_cons (r_bipush X (n := 28) (v := 28) dX11_daysOf_56 (by decide) rfl)
    (e_each_cons (r_ireti X dX11_daysOf_58 rfl)
    (e_each_cons (r_bipush X (n := 30) (v := 30) dX11_daysOf_59 (by decide) rfl)
    (e_each_cons (r_ireti X dX11_daysOf_61 rfl)
    (e_each_cons (r_bipush X (n := 31) (v := 31) dX11_daysOf_62 (by decide) rfl)
    (e_each_cons (r_ireti X dX11_daysOf_64 rfl)
    (e_each_nil))))))))
theorem dX11_beginOf_0 : decode cX11_beginOf 0 = .ok (.iconst 0, 1) := by decide +kernel
theorem dX11_beginOf_1 : decode cX11_beginOf 1 = .ok (.istore_n 1, 1) := by decide +kernel
theorem dX11_beginOf_2 : decode cX11_beginOf 2 = .ok (.iconst 1, 1) := by decide +kernel
theorem dX11_beginOf_3 : decode cX11_beginOf 3 = .ok (.istore_n 2, 1) := by decide +kernel
theorem dX11_beginOf_4 : decode cX11_beginOf 4 = .ok (.iload_n 2, 1) := by decide +kernel
theorem dX11_beginOf_5 : decode cX11_beginOf 5 = .ok (.iload_n 0, 1) := by decide +kernel
theorem dX11_beginOf_6 : decode cX11_beginOf 6 = .ok (.if_icmp .ge 16, 3) := by decide +kernel
theorem dX11_beginOf_9 : decode cX11_beginOf 9 = .ok (.iload_n 1, 1) := by decide +kernel
theorem dX11_beginOf_10 : decode cX11_beginOf 10 = .ok (.iload_n 2, 1) := by decide +kernel
theorem dX11_beginOf_11 : decode cX11_beginOf 11 = .ok (.invokestatic 79, 3) := by decide +kernel
theorem dX11_beginOf_14 : decode cX11_beginOf 14 = .ok (.iadd, 1) := by decide +kernel
theorem dX11_beginOf_15 : decode cX11_beginOf 15 = .ok (.istore_n 1, 1) := by decide +kernel
theorem dX11_beginOf_16 : decode cX11_beginOf 16 = .ok (.iinc 2 1, 3) := by decide +kernel
theorem dX11_beginOf_19 : decode cX11_beginOf 19 = .ok (.goto (-15), 3) := by decide +kernel
theorem dX11_beginOf_22 : decode cX11_beginOf 22 = .ok (.iload_n 1, 1) := by decide +kernel
theorem dX11_beginOf_23 : decode cX11_beginOf 23 = .ok (.ireturn, 1) := by decide +kernel
def pg_X11_beginOf (l : Launch) (g : EG) : List (Nat × ES) := [(0, s_c (.inl 0)), (1, s_stI 1), (2, s_c (.inl 1)), (3, s_stI 2), (4, s_ldI 2), (5, s_ldI 0), (6, s_icmp_ge 22), (9, s_ldI 1), (10, s_ldI 2), (11, s_callS l g sg_X11_beginOf sg_X11_daysOf), (14, s_ii (fun x y => x + y)), (15, s_stI 1), (16, s_iinc 2 1), (19, s_goto 4), (22, s_ldI 1), (23, s_ireti)]
set_option maxRecDepth 100000 in
theorem ok_X11_beginOf {l : Launch} {g : EG} : e_okp l g sg_X11_beginOf "CalendarSyncModel" (pg_X11_beginOf l g) := fun p e R s m args below meth c ex M0 Q X =>
    e_each_cons (r_iconst X (n := 0) (v := 0) dX11_beginOf_0 (by decide) rfl)
    (e_each_cons (r_istore_n X (k := 1) (i := 1) rfl dX11_beginOf_1 (by decide) rfl)
    (e_each_cons (r_iconst X (n := 1) (v := 1) dX11_beginOf_2 (by decide) rfl)
    (e_each_cons (r_istore_n X (k := 2) (i := 2) rfl dX11_beginOf_3 (by decide) rfl)
    (e_each_cons (r_iload_n X (k := 2) (i := 2) rfl dX11_beginOf_4 rfl)
    (e_each_cons (r_iload_n X (k := 0) (i := 0) rfl dX11_beginOf_5 rfl)
    (e_each_cons (r_icmp_ge X (off := 16) (t := 22) dX11_beginOf_6 (by decide) rfl)
    (e_each_cons (r_iload_n X (k := 1) (i := 1) rfl dX11_beginOf_9 rfl)
    (e_each_cons (r_iload_n X (k := 2) (i := 2) rfl dX11_beginOf_10 rfl)
    (e_each_cons (r_callS X rfl (τ := sg_X11_daysOf) (index := 79) dX11_beginOf_11 w6_147 w6_148 cs_X11_daysOf rfl ⟨by decide, by decide⟩ rfl)
    (e_each_cons (r_iadd X dX11_beginOf_14 rfl)
    (e_each_cons (r_istore_n X (k := 1) (i := 1) rfl dX11_beginOf_15 (by decide) rfl)
    (e_each_cons (r_iinc X (i := 2) (n := 1) (d := 1) dX11_beginOf_16 (by decide) (by decide) rfl)
    (e_each_cons (r_goto X (off := (-15)) (t := 4) dX11_beginOf_19 (by decide))
    (e_each_cons (r_iload_n X (k := 1) (i := 1) rfl dX11_beginOf_22 rfl)
    (e_each_cons (r_ireti X dX11_beginOf_23 rfl)
    (e_each_nil))))))))))))))))
theorem dX11_monthOf_0 : decode cX11_monthOf 0 = .ok (.iconst 1, 1) := by decide +kernel
theorem dX11_monthOf_1 : decode cX11_monthOf 1 = .ok (.istore_n 1, 1) := by decide +kernel
theorem dX11_monthOf_2 : decode cX11_monthOf 2 = .ok (.iload_n 1, 1) := by decide +kernel
theorem dX11_monthOf_3 : decode cX11_monthOf 3 = .ok (.invokestatic 83, 3) := by decide +kernel
theorem dX11_monthOf_6 : decode cX11_monthOf 6 = .ok (.iload_n 1, 1) := by decide +kernel
theorem dX11_monthOf_7 : decode cX11_monthOf 7 = .ok (.invokestatic 79, 3) := by decide +kernel
theorem dX11_monthOf_10 : decode cX11_monthOf 10 = .ok (.iadd, 1) := by decide +kernel
theorem dX11_monthOf_11 : decode cX11_monthOf 11 = .ok (.iload_n 0, 1) := by decide +kernel
theorem dX11_monthOf_12 : decode cX11_monthOf 12 = .ok (.sipush 365, 3) := by decide +kernel
theorem dX11_monthOf_15 : decode cX11_monthOf 15 = .ok (.irem, 1) := by decide +kernel
theorem dX11_monthOf_16 : decode cX11_monthOf 16 = .ok (.if_icmp .gt 10, 3) := by decide +kernel
theorem dX11_monthOf_19 : decode cX11_monthOf 19 = .ok (.iload_n 1, 1) := by decide +kernel
theorem dX11_monthOf_20 : decode cX11_monthOf 20 = .ok (.iconst 1, 1) := by decide +kernel
theorem dX11_monthOf_21 : decode cX11_monthOf 21 = .ok (.iadd, 1) := by decide +kernel
theorem dX11_monthOf_22 : decode cX11_monthOf 22 = .ok (.istore_n 1, 1) := by decide +kernel
theorem dX11_monthOf_23 : decode cX11_monthOf 23 = .ok (.goto (-21), 3) := by decide +kernel
theorem dX11_monthOf_26 : decode cX11_monthOf 26 = .ok (.iload_n 1, 1) := by decide +kernel
theorem dX11_monthOf_27 : decode cX11_monthOf 27 = .ok (.ireturn, 1) := by decide +kernel
def pg_X11_monthOf (l : Launch) (g : EG) : List (Nat × ES) := [(0, s_c (.inl 1)), (1, s_stI 1), (2, s_ldI 1), (3, s_callS l g sg_X11_monthOf sg_X11_beginOf), (6, s_ldI 1), (7, s_callS l g sg_X11_monthOf sg_X11_daysOf), (10, s_ii (fun x y => x + y)), (11, s_ldI 0), (12, s_c (.inl 365)), (15, s_iid (fun x y => x - x / y * y) (fun _ y => ¬ y = 0)), (16, s_icmp_gt 26), (19, s_ldI 1), (20, s_c (.inl 1)), (21, s_ii (fun x y => x + y)), (22, s_stI 1), (23, s_goto 2), (26, s_ldI 1), (27, s_ireti)]
set_option maxRecDepth 100000 in
theorem ok_X11_monthOf {l : Launch} {g : EG} : e_okp l g sg_X11_monthOf "CalendarSyncModel" (pg_X11_monthOf l g) := fun p e R s m args below meth c ex M0 Q X =>
    e_each_cons (r_iconst X (n := 1) (v := 1) dX11_monthOf_0 (by decide) rfl)
    (e_each_cons (r_istore_n X (k := 1) (i := 1) rfl dX11_monthOf_1 (by decide) rfl)
    (e_each_cons (r_iload_n X (k := 1) (i := 1) rfl dX11_monthOf_2 rfl)
    (e_each_cons (r_callS X rfl (τ := sg_X11_beginOf) (index := 83) dX11_monthOf_3 w6_144 w6_145 cs_X11_beginOf rfl ⟨by decide, by decide⟩ rfl)
    (e_each_cons (r_iload_n X (k := 1) (i := 1) rfl dX11_monthOf_6 rfl)
    (e_each_cons (r_callS X rfl (τ := sg_X11_daysOf) (index := 79) dX11_monthOf_7 w6_147 w6_148 cs_X11_daysOf rfl ⟨by decide, by decide⟩ rfl)
    (e_each_cons (r_iadd X dX11_monthOf_10 rfl)
    (e_each_cons (r_iload_n X (k := 0) (i := 0) rfl dX11_monthOf_11 rfl)
    (e_each_cons (r_sipush X (n := 365) (v := 365) dX11_monthOf_12 (by decide) rfl)
    (e_each_cons (r_irem X dX11_monthOf_15 rfl)
    (e_each_cons (r_icmp_gt X (off := 10) (t := 26) dX11_monthOf_16 (by decide) rfl)
    (e_each_cons (r_iload_n X (k := 1) (i := 1) rfl dX11_monthOf_19 rfl)
    (e_each_cons (r_iconst X (n := 1) (v := 1) dX11_monthOf_20 (by decide) rfl)
    (e_each_cons (r_iadd X dX11_monthOf_21 rfl)
    (e_each_cons (r_istore_n X (k := 1) (i := 1) rfl dX11_monthOf_22 (by decide) rfl)
    (e_each_cons (r_goto X (off := (-21)) (t := 2) dX11_monthOf_23 (by decide))
    (e_each_cons (r_iload_n X (k := 1) (i := 1) rfl dX11_monthOf_26 rfl)
    (e_each_cons (r_ireti X dX11_monthOf_27 rfl)
    (e_each_nil))))))))))))))))))
theorem dX11_dayOfMonth_0 : decode cX11_dayOfMonth 0 = .ok (.iload_n 0, 1) := by decide +kernel
theorem dX11_dayOfMonth_1 : decode cX11_dayOfMonth 1 = .ok (.sipush 365, 3) := by decide +kernel
theorem dX11_dayOfMonth_4 : decode cX11_dayOfMonth 4 = .ok (.irem, 1) := by decide +kernel
theorem dX11_dayOfMonth_5 : decode cX11_dayOfMonth 5 = .ok (.iload_n 0, 1) := by decide +kernel
theorem dX11_dayOfMonth_6 : decode cX11_dayOfMonth 6 = .ok (.invokestatic 86, 3) := by decide +kernel
theorem dX11_dayOfMonth_9 : decode cX11_dayOfMonth 9 = .ok (.invokestatic 83, 3) := by decide +kernel
theorem dX11_dayOfMonth_12 : decode cX11_dayOfMonth 12 = .ok (.isub, 1) := by decide +kernel
theorem dX11_dayOfMonth_13 : decode cX11_dayOfMonth 13 = .ok (.iconst 1, 1) := by decide +kernel
theorem dX11_dayOfMonth_14 : decode cX11_dayOfMonth 14 = .ok (.iadd, 1) := by decide +kernel
theorem dX11_dayOfMonth_15 : decode cX11_dayOfMonth 15 = .ok (.ireturn, 1) := by decide +kernel
def pg_X11_dayOfMonth (l : Launch) (g : EG) : List (Nat × ES) := [(0, s_ldI 0), (1, s_c (.inl 365)), (4, s_iid (fun x y => x - x / y * y) (fun _ y => ¬ y = 0)), (5, s_ldI 0), (6, s_callS l g sg_X11_dayOfMonth sg_X11_monthOf), (9, s_callS l g sg_X11_dayOfMonth sg_X11_beginOf), (12, s_ii (fun x y => x - y)), (13, s_c (.inl 1)), (14, s_ii (fun x y => x + y)), (15, s_ireti)]
set_option maxRecDepth 100000 in
theorem ok_X11_dayOfMonth {l : Launch} {g : EG} : e_okp l g sg_X11_dayOfMonth "CalendarSyncModel" (pg_X11_dayOfMonth l g) := fun p e R s m args below meth c ex M0 Q X =>
    e_each_cons (r_iload_n X (k := 0) (i := 0) rfl dX11_dayOfMonth_0 rfl)
    (e_each_cons (r_sipush X (n := 365) (v := 365) dX11_dayOfMonth_1 (by decide) rfl)
    (e_each_cons (r_irem X dX11_dayOfMonth_4 rfl)
    (e_each_cons (r_iload_n X (k := 0) (i := 0) rfl dX11_dayOfMonth_5 rfl)
    (e_each_cons (r_callS X rfl (τ := sg_X11_monthOf) (index := 86) dX11_dayOfMonth_6 w6_141 w6_142 cs_X11_monthOf rfl ⟨by decide, by decide⟩ rfl)
    (e_each_cons (r_callS X rfl (τ := sg_X11_beginOf) (index := 83) dX11_dayOfMonth_9 w6_144 w6_145 cs_X11_beginOf rfl ⟨by decide, by decide⟩ rfl)
    (e_each_cons (r_isub X dX11_dayOfMonth_12 rfl)
    (e_each_cons (r_iconst X (n := 1) (v := 1) dX11_dayOfMonth_13 (by decide) rfl)
    (e_each_cons (r_iadd X dX11_dayOfMonth_14 rfl)
    (e_each_cons (r_ireti X dX11_dayOfMonth_15 rfl)
    (e_each_nil))))))))))
theorem dX11_isDay_0 : decode cX11_isDay 0 = .ok (.iload_n 0, 1) := by decide +kernel
theorem dX11_isDay_1 : decode cX11_isDay 1 = .ok (.iconst 0, 1) := by decide +kernel
theorem dX11_isDay_2 : decode cX11_isDay 2 = .ok (.sipush 1094, 3) := by decide +kernel
theorem dX11_isDay_5 : decode cX11_isDay 5 = .ok (.invokestatic 75, 3) := by decide +kernel
theorem dX11_isDay_8 : decode cX11_isDay 8 = .ok (.ireturn, 1) := by decide +kernel
def pg_X11_isDay (l : Launch) (g : EG) : List (Nat × ES) := [(0, s_ldI 0), (1, s_c (.inl 0)), (2, s_c (.inl 1094)), (5, s_callS l g sg_X11_isDay sg_X11_in), (8, s_iretz)]
set_option maxRecDepth 100000 in
theorem ok_X11_isDay {l : Launch} {g : EG} : e_okp l g sg_X11_isDay "CalendarSyncModel" (pg_X11_isDay l g) := fun p e R s m args below meth c ex M0 Q X =>
    e_each_cons (r_iload_n X (k := 0) (i := 0) rfl dX11_isDay_0 rfl)
    (e_each_cons (r_iconst X (n := 0) (v := 0) dX11_isDay_1 (by decide) rfl)
    (e_each_cons (r_sipush X (n := 1094) (v := 1094) dX11_isDay_2 (by decide) rfl)
    (e_each_cons (r_callS X rfl (τ := sg_X11_in) (index := 75) dX11_isDay_5 w6_127 w6_128 cs_X11_in rfl ⟨by decide, by decide⟩ rfl)
    (e_each_cons (r_iretz X dX11_isDay_8 rfl)
    (e_each_nil)))))
theorem dX11_isMinute_0 : decode cX11_isMinute 0 = .ok (.iload_n 0, 1) := by decide +kernel
theorem dX11_isMinute_1 : decode cX11_isMinute 1 = .ok (.iconst 0, 1) := by decide +kernel
theorem dX11_isMinute_2 : decode cX11_isMinute 2 = .ok (.sipush 1439, 3) := by decide +kernel
theorem dX11_isMinute_5 : decode cX11_isMinute 5 = .ok (.invokestatic 75, 3) := by decide +kernel
theorem dX11_isMinute_8 : decode cX11_isMinute 8 = .ok (.ireturn, 1) := by decide +kernel
def pg_X11_isMinute (l : Launch) (g : EG) : List (Nat × ES) := [(0, s_ldI 0), (1, s_c (.inl 0)), (2, s_c (.inl 1439)), (5, s_callS l g sg_X11_isMinute sg_X11_in), (8, s_iretz)]
set_option maxRecDepth 100000 in
theorem ok_X11_isMinute {l : Launch} {g : EG} : e_okp l g sg_X11_isMinute "CalendarSyncModel" (pg_X11_isMinute l g) := fun p e R s m args below meth c ex M0 Q X =>
    e_each_cons (r_iload_n X (k := 0) (i := 0) rfl dX11_isMinute_0 rfl)
    (e_each_cons (r_iconst X (n := 0) (v := 0) dX11_isMinute_1 (by decide) rfl)
    (e_each_cons (r_sipush X (n := 1439) (v := 1439) dX11_isMinute_2 (by decide) rfl)
    (e_each_cons (r_callS X rfl (τ := sg_X11_in) (index := 75) dX11_isMinute_5 w6_127 w6_128 cs_X11_in rfl ⟨by decide, by decide⟩ rfl)
    (e_each_cons (r_iretz X dX11_isMinute_8 rfl)
    (e_each_nil)))))
theorem dX11_day_0 : decode cX11_day 0 = .ok (.aload_n 0, 1) := by decide +kernel
theorem dX11_day_1 : decode cX11_day 1 = .ok (.iload_n 1, 1) := by decide +kernel
theorem dX11_day_2 : decode cX11_day 2 = .ok (.invokestatic 89, 3) := by decide +kernel
theorem dX11_day_5 : decode cX11_day 5 = .ok (.ifCond .eq 16, 3) := by decide +kernel
theorem dX11_day_8 : decode cX11_day 8 = .ok (.iload_n 2, 1) := by decide +kernel
theorem dX11_day_9 : decode cX11_day 9 = .ok (.iconst 0, 1) := by decide +kernel
theorem dX11_day_10 : decode cX11_day 10 = .ok (.iconst 3, 1) := by decide +kernel
theorem dX11_day_11 : decode cX11_day 11 = .ok (.invokestatic 75, 3) := by decide +kernel
theorem dX11_day_14 : decode cX11_day 14 = .ok (.ifCond .eq 7, 3) := by decide +kernel
theorem dX11_day_17 : decode cX11_day 17 = .ok (.iconst 0, 1) := by decide +kernel
theorem dX11_day_18 : decode cX11_day 18 = .ok (.goto 4, 3) := by decide +kernel
theorem dX11_day_21 : decode cX11_day 21 = .ok (.iconst 1, 1) := by decide +kernel
theorem dX11_day_22 : decode cX11_day 22 = .ok (.invokevirtual 71, 3) := by decide +kernel
theorem dX11_day_25 : decode cX11_day 25 = .ok (.ifCond .eq 5, 3) := by decide +kernel
theorem dX11_day_28 : decode cX11_day 28 = .ok (.iconst 0, 1) := by decide +kernel
theorem dX11_day_29 : decode cX11_day 29 = .ok (.ireturn, 1) := by decide +kernel
theorem dX11_day_30 : decode cX11_day 30 = .ok (.iload_n 2, 1) := by decide +kernel
theorem dX11_day_31 : decode cX11_day 31 = .ok (.tableswitch 40 0 2 #[25, 30, 35], 25) := by decide +kernel
theorem dX11_day_56 : decode cX11_day 56 = .ok (.iload_n 1, 1) := by decide +kernel
theorem dX11_day_57 : decode cX11_day 57 = .ok (.invokestatic 86, 3) := by decide +kernel
theorem dX11_day_60 : decode cX11_day 60 = .ok (.ireturn, 1) := by decide +kernel
theorem dX11_day_61 : decode cX11_day 61 = .ok (.iload_n 1, 1) := by decide +kernel
theorem dX11_day_62 : decode cX11_day 62 = .ok (.invokestatic 92, 3) := by decide +kernel
theorem dX11_day_65 : decode cX11_day 65 = .ok (.ireturn, 1) := by decide +kernel
theorem dX11_day_66 : decode cX11_day 66 = .ok (.iload_n 1, 1) := by decide +kernel
theorem dX11_day_67 : decode cX11_day 67 = .ok (.bipush 7, 2) := by decide +kernel
theorem dX11_day_69 : decode cX11_day 69 = .ok (.irem, 1) := by decide +kernel
theorem dX11_day_70 : decode cX11_day 70 = .ok (.ireturn, 1) := by decide +kernel
theorem dX11_day_71 : decode cX11_day 71 = .ok (.iload_n 1, 1) := by decide +kernel
theorem dX11_day_72 : decode cX11_day 72 = .ok (.sipush 365, 3) := by decide +kernel
theorem dX11_day_75 : decode cX11_day 75 = .ok (.idiv, 1) := by decide +kernel
theorem dX11_day_76 : decode cX11_day 76 = .ok (.ireturn, 1) := by decide +kernel
def pg_X11_day (l : Launch) (g : EG) : List (Nat × ES) := [(0, s_ldP 0), (1, s_ldI 1), (2, s_callS l g sg_X11_day sg_X11_isDay), (5, s_if_eq 21), (8, s_ldI 2), (9, s_c (.inl 0)), (10, s_c (.inl 3)), (11, s_callS l g sg_X11_day sg_X11_in), (14, s_if_eq 21), (17, s_c (.inl 0)), (18, s_goto 22), (21, s_c (.inl 1)), (22, s_callV l g sg_X11_day sg_X11_isRefused 10), (25, s_if_eq 30), (28, s_c (.inl 0)), (29, s_ireti), (30, s_ldI 2), (31, s_tab 0 [56, 61, 66] 71), (56, s_ldI 1), (57, s_callS l g sg_X11_day sg_X11_monthOf), (60, s_ireti), (61, s_ldI 1), (62, s_callS l g sg_X11_day sg_X11_dayOfMonth), (65, s_ireti), (66, s_ldI 1), (67, s_c (.inl 7)), (69, s_iid (fun x y => x - x / y * y) (fun _ y => ¬ y = 0)), (70, s_ireti), (71, s_ldI 1), (72, s_c (.inl 365)), (75, s_iid (fun x y => x / y) (fun _ y => ¬ y = 0)), (76, s_ireti)]
set_option maxRecDepth 100000 in
theorem ok_X11_day {l : Launch} {g : EG} : e_okp l g sg_X11_day "CalendarSyncModel" (pg_X11_day l g) := fun p e R s m args below meth c ex M0 Q X =>
    e_each_cons (r_aload_n X (k := 0) (i := 0) rfl dX11_day_0 rfl)
    (e_each_cons (r_iload_n X (k := 1) (i := 1) rfl dX11_day_1 rfl)
    (e_each_cons (r_callS X rfl (τ := sg_X11_isDay) (index := 89) dX11_day_2 w6_138 w6_139 cs_X11_isDay rfl ⟨by decide, by decide⟩ rfl)
    (e_each_cons (r_if_eq X (off := 16) (t := 21) dX11_day_5 (by decide) rfl)
    (e_each_cons (r_iload_n X (k := 2) (i := 2) rfl dX11_day_8 rfl)
    (e_each_cons (r_iconst X (n := 0) (v := 0) dX11_day_9 (by decide) rfl)
    (e_each_cons (r_iconst X (n := 3) (v := 3) dX11_day_10 (by decide) rfl)
    (e_each_cons (r_callS X rfl (τ := sg_X11_in) (index := 75) dX11_day_11 w6_127 w6_128 cs_X11_in rfl ⟨by decide, by decide⟩ rfl)
    (e_each_cons (r_if_eq X (off := 7) (t := 21) dX11_day_14 (by decide) rfl)
    (e_each_cons (r_iconst X (n := 0) (v := 0) dX11_day_17 (by decide) rfl)
    (e_each_cons (r_goto X (off := 4) (t := 22) dX11_day_18 (by decide))
    (e_each_cons (r_iconst X (n := 1) (v := 1) dX11_day_21 (by decide) rfl)
    (e_each_cons (r_callV X rfl (τ := sg_X11_isRefused) (index := 71) (ci := 10) dX11_day_22 (by decide) rfl w6_119 w6_121 ws_31 cs_X11_isRefused rfl ⟨by decide, by decide⟩ rfl)
    (e_each_cons (r_if_eq X (off := 5) (t := 30) dX11_day_25 (by decide) rfl)
    (e_each_cons (r_iconst X (n := 0) (v := 0) dX11_day_28 (by decide) rfl)
    (e_each_cons (r_ireti X dX11_day_29 rfl)
    (e_each_cons (r_iload_n X (k := 2) (i := 2) rfl dX11_day_30 rfl)
    (e_each_cons (r_tab X (dflt := 40) (lo := 0) (hi := 2) (ts := [56, 61, 66]) (dt := 71) dX11_day_31 (by decide) (by decide) (by decide))
    (e_each_cons (r_iload_n X (k := 1) (i := 1) rfl dX11_day_56 rfl)
    (e_each_cons (r_callS X rfl (τ := sg_X11_monthOf) (index := 86) dX11_day_57 w6_141 w6_142 cs_X11_monthOf rfl ⟨by decide, by decide⟩ rfl)
    (e_each_cons (r_ireti X dX11_day_60 rfl)
    (e_each_cons (r_iload_n X (k := 1) (i := 1) rfl dX11_day_61 rfl)
    (e_each_cons (r_callS X rfl (τ := sg_X11_dayOfMonth) (index := 92) dX11_day_62 w6_150 w6_151 cs_X11_dayOfMonth rfl ⟨by decide, by decide⟩ rfl)
    (e_each_cons (r_ireti X dX11_day_65 rfl)
    (e_each_cons (r_iload_n X (k := 1) (i := 1) rfl dX11_day_66 rfl)
    (e_each_cons (r_bipush X (n := 7) (v := 7) dX11_day_67 (by decide) rfl)
    (e_each_cons (r_irem X dX11_day_69 rfl)
    (e_each_cons (r_ireti X dX11_day_70 rfl)
    (e_each_cons (r_iload_n X (k := 1) (i := 1) rfl dX11_day_71 rfl)
    (e_each_cons (r_sipush X (n := 365) (v := 365) dX11_day_72 (by decide) rfl)
    (e_each_cons (r_idiv X dX11_day_75 rfl)
    (e_each_cons (r_ireti X dX11_day_76 rfl)
    (e_each_nil))))))))))))))))))))))))))))))))
theorem dX11_adds_0 : decode cX11_adds 0 = .ok (.iload_n 1, 1) := by decide +kernel
theorem dX11_adds_1 : decode cX11_adds 1 = .ok (.sipush 1094, 3) := by decide +kernel
theorem dX11_adds_4 : decode cX11_adds 4 = .ok (.if_icmp .gt 31, 3) := by decide +kernel
theorem dX11_adds_7 : decode cX11_adds 7 = .ok (.aload_n 0, 1) := by decide +kernel
theorem dX11_adds_8 : decode cX11_adds 8 = .ok (.getfield 95, 3) := by decide +kernel
theorem dX11_adds_11 : decode cX11_adds 11 = .ok (.iload_n 2, 1) := by decide +kernel
theorem dX11_adds_12 : decode cX11_adds 12 = .ok (.if_icmp .ge 23, 3) := by decide +kernel
theorem dX11_adds_15 : decode cX11_adds 15 = .ok (.aload_n 0, 1) := by decide +kernel
theorem dX11_adds_16 : decode cX11_adds 16 = .ok (.getfield 24, 3) := by decide +kernel
theorem dX11_adds_19 : decode cX11_adds 19 = .ok (.aload_n 0, 1) := by decide +kernel
theorem dX11_adds_20 : decode cX11_adds 20 = .ok (.getfield 95, 3) := by decide +kernel
theorem dX11_adds_23 : decode cX11_adds 23 = .ok (.iload_n 1, 1) := by decide +kernel
theorem dX11_adds_24 : decode cX11_adds 24 = .ok (.iastore, 1) := by decide +kernel
theorem dX11_adds_25 : decode cX11_adds 25 = .ok (.aload_n 0, 1) := by decide +kernel
theorem dX11_adds_26 : decode cX11_adds 26 = .ok (.aload_n 0, 1) := by decide +kernel
theorem dX11_adds_27 : decode cX11_adds 27 = .ok (.getfield 95, 3) := by decide +kernel
theorem dX11_adds_30 : decode cX11_adds 30 = .ok (.iconst 1, 1) := by decide +kernel
theorem dX11_adds_31 : decode cX11_adds 31 = .ok (.iadd, 1) := by decide +kernel
theorem dX11_adds_32 : decode cX11_adds 32 = .ok (.putfield 95, 3) := by decide +kernel
theorem dX11_adds_35 : decode cX11_adds 35 = .ok (.return_, 1) := by decide +kernel
def pg_X11_adds (l : Launch) (g : EG) : List (Nat × ES) := [(0, s_ldI 1), (1, s_c (.inl 1094)), (4, s_icmp_gt 35), (7, s_ldP 0), (8, s_getI 10 8), (11, s_ldI 2), (12, s_icmp_ge 35), (15, s_ldP 0), (16, s_getP 10 7), (19, s_ldP 0), (20, s_getI 10 8), (23, s_ldI 1), (24, s_iast), (25, s_ldP 0), (26, s_ldP 0), (27, s_getI 10 8), (30, s_c (.inl 1)), (31, s_ii (fun x y => x + y)), (32, s_putI 10 8), (35, s_vret)]
set_option maxRecDepth 100000 in
theorem ok_X11_adds {l : Launch} {g : EG} : e_okp l g sg_X11_adds "CalendarSyncModel" (pg_X11_adds l g) := fun p e R s m args below meth c ex M0 Q X =>
    e_each_cons (r_iload_n X (k := 1) (i := 1) rfl dX11_adds_0 rfl)
    (e_each_cons (r_sipush X (n := 1094) (v := 1094) dX11_adds_1 (by decide) rfl)
    (e_each_cons (r_icmp_gt X (off := 31) (t := 35) dX11_adds_4 (by decide) rfl)
    (e_each_cons (r_aload_n X (k := 0) (i := 0) rfl dX11_adds_7 rfl)
    (e_each_cons (r_getI X (index := 95) (ci := 10) (k := 8) dX11_adds_8 (by decide) (by decide) rfl w6_34 rfl)
    (e_each_cons (r_iload_n X (k := 2) (i := 2) rfl dX11_adds_11 rfl)
    (e_each_cons (r_icmp_ge X (off := 23) (t := 35) dX11_adds_12 (by decide) rfl)
    (e_each_cons (r_aload_n X (k := 0) (i := 0) rfl dX11_adds_15 rfl)
    (e_each_cons (r_getP X (index := 24) (ci := 10) (k := 7) dX11_adds_16 (by decide) (by decide) rfl w6_33 rfl)
    (e_each_cons (r_aload_n X (k := 0) (i := 0) rfl dX11_adds_19 rfl)
    (e_each_cons (r_getI X (index := 95) (ci := 10) (k := 8) dX11_adds_20 (by decide) (by decide) rfl w6_34 rfl)
    (e_each_cons (r_iload_n X (k := 1) (i := 1) rfl dX11_adds_23 rfl)
    (e_each_cons (r_iast X dX11_adds_24 rfl)
    (e_each_cons (r_aload_n X (k := 0) (i := 0) rfl dX11_adds_25 rfl)
    (e_each_cons (r_aload_n X (k := 0) (i := 0) rfl dX11_adds_26 rfl)
    (e_each_cons (r_getI X (index := 95) (ci := 10) (k := 8) dX11_adds_27 (by decide) (by decide) rfl w6_34 rfl)
    (e_each_cons (r_iconst X (n := 1) (v := 1) dX11_adds_30 (by decide) rfl)
    (e_each_cons (r_iadd X dX11_adds_31 rfl)
    (e_each_cons (r_putI X (index := 95) (ci := 10) (k := 8) dX11_adds_32 (by decide) (by decide) rfl rfl w6_34 rfl)
    (e_each_cons (r_vret X dX11_adds_35 rfl)
    (e_each_nil))))))))))))))))))))
theorem dX11_isOfWeeks_0 : decode cX11_isOfWeeks 0 = .ok (.iload_n 2, 1) := by decide +kernel
theorem dX11_isOfWeeks_1 : decode cX11_isOfWeeks 1 = .ok (.bipush 7, 2) := by decide +kernel
theorem dX11_isOfWeeks_3 : decode cX11_isOfWeeks 3 = .ok (.idiv, 1) := by decide +kernel
theorem dX11_isOfWeeks_4 : decode cX11_isOfWeeks 4 = .ok (.aload_n 0, 1) := by decide +kernel
theorem dX11_isOfWeeks_5 : decode cX11_isOfWeeks 5 = .ok (.iload_n 1, 1) := by decide +kernel
theorem dX11_isOfWeeks_6 : decode cX11_isOfWeeks 6 = .ok (.iconst 1, 1) := by decide +kernel
theorem dX11_isOfWeeks_7 : decode cX11_isOfWeeks 7 = .ok (.iadd, 1) := by decide +kernel
theorem dX11_isOfWeeks_8 : decode cX11_isOfWeeks 8 = .ok (.iaload, 1) := by decide +kernel
theorem dX11_isOfWeeks_9 : decode cX11_isOfWeeks 9 = .ok (.bipush 7, 2) := by decide +kernel
theorem dX11_isOfWeeks_11 : decode cX11_isOfWeeks 11 = .ok (.idiv, 1) := by decide +kernel
theorem dX11_isOfWeeks_12 : decode cX11_isOfWeeks 12 = .ok (.isub, 1) := by decide +kernel
theorem dX11_isOfWeeks_13 : decode cX11_isOfWeeks 13 = .ok (.istore_n 3, 1) := by decide +kernel
theorem dX11_isOfWeeks_14 : decode cX11_isOfWeeks 14 = .ok (.iload_n 3, 1) := by decide +kernel
theorem dX11_isOfWeeks_15 : decode cX11_isOfWeeks 15 = .ok (.aload_n 0, 1) := by decide +kernel
theorem dX11_isOfWeeks_16 : decode cX11_isOfWeeks 16 = .ok (.iload_n 1, 1) := by decide +kernel
theorem dX11_isOfWeeks_17 : decode cX11_isOfWeeks 17 = .ok (.bipush 6, 2) := by decide +kernel
theorem dX11_isOfWeeks_19 : decode cX11_isOfWeeks 19 = .ok (.iadd, 1) := by decide +kernel
theorem dX11_isOfWeeks_20 : decode cX11_isOfWeeks 20 = .ok (.iaload, 1) := by decide +kernel
theorem dX11_isOfWeeks_21 : decode cX11_isOfWeeks 21 = .ok (.irem, 1) := by decide +kernel
theorem dX11_isOfWeeks_22 : decode cX11_isOfWeeks 22 = .ok (.ifCond .ne 23, 3) := by decide +kernel
theorem dX11_isOfWeeks_25 : decode cX11_isOfWeeks 25 = .ok (.aload_n 0, 1) := by decide +kernel
theorem dX11_isOfWeeks_26 : decode cX11_isOfWeeks 26 = .ok (.iload_n 1, 1) := by decide +kernel
theorem dX11_isOfWeeks_27 : decode cX11_isOfWeeks 27 = .ok (.bipush 7, 2) := by decide +kernel
theorem dX11_isOfWeeks_29 : decode cX11_isOfWeeks 29 = .ok (.iadd, 1) := by decide +kernel
theorem dX11_isOfWeeks_30 : decode cX11_isOfWeeks 30 = .ok (.iaload, 1) := by decide +kernel
theorem dX11_isOfWeeks_31 : decode cX11_isOfWeeks 31 = .ok (.iload_n 2, 1) := by decide +kernel
theorem dX11_isOfWeeks_32 : decode cX11_isOfWeeks 32 = .ok (.bipush 7, 2) := by decide +kernel
theorem dX11_isOfWeeks_34 : decode cX11_isOfWeeks 34 = .ok (.irem, 1) := by decide +kernel
theorem dX11_isOfWeeks_35 : decode cX11_isOfWeeks 35 = .ok (.invokestatic 64, 3) := by decide +kernel
theorem dX11_isOfWeeks_38 : decode cX11_isOfWeeks 38 = .ok (.ifCond .eq 7, 3) := by decide +kernel
theorem dX11_isOfWeeks_41 : decode cX11_isOfWeeks 41 = .ok (.iconst 1, 1) := by decide +kernel
theorem dX11_isOfWeeks_42 : decode cX11_isOfWeeks 42 = .ok (.goto 4, 3) := by decide +kernel
theorem dX11_isOfWeeks_45 : decode cX11_isOfWeeks 45 = .ok (.iconst 0, 1) := by decide +kernel
theorem dX11_isOfWeeks_46 : decode cX11_isOfWeeks 46 = .ok (.ireturn, 1) := by decide +kernel
def pg_X11_isOfWeeks (l : Launch) (g : EG) : List (Nat × ES) := [(0, s_ldI 2), (1, s_c (.inl 7)), (3, s_iid (fun x y => x / y) (fun _ y => ¬ y = 0)), (4, s_ldP 0), (5, s_ldI 1), (6, s_c (.inl 1)), (7, s_ii (fun x y => x + y)), (8, s_iald), (9, s_c (.inl 7)), (11, s_iid (fun x y => x / y) (fun _ y => ¬ y = 0)), (12, s_ii (fun x y => x - y)), (13, s_stI 3), (14, s_ldI 3), (15, s_ldP 0), (16, s_ldI 1), (17, s_c (.inl 6)), (19, s_ii (fun x y => x + y)), (20, s_iald), (21, s_iid (fun x y => x - x / y * y) (fun _ y => ¬ y = 0)), (22, s_if_ne 45), (25, s_ldP 0), (26, s_ldI 1), (27, s_c (.inl 7)), (29, s_ii (fun x y => x + y)), (30, s_iald), (31, s_ldI 2), (32, s_c (.inl 7)), (34, s_iid (fun x y => x - x / y * y) (fun _ y => ¬ y = 0)), (35, s_callS l g sg_X11_isOfWeeks sg_X11_has), (38, s_if_eq 45), (41, s_c (.inl 1)), (42, s_goto 46), (45, s_c (.inl 0)), (46, s_iretz)]
set_option maxRecDepth 100000 in
theorem ok_X11_isOfWeeks {l : Launch} {g : EG} : e_okp l g sg_X11_isOfWeeks "CalendarSyncModel" (pg_X11_isOfWeeks l g) := fun p e R s m args below meth c ex M0 Q X =>
    e_each_cons (r_iload_n X (k := 2) (i := 2) rfl dX11_isOfWeeks_0 rfl)
    (e_each_cons (r_bipush X (n := 7) (v := 7) dX11_isOfWeeks_1 (by decide) rfl)
    (e_each_cons (r_idiv X dX11_isOfWeeks_3 rfl)
    (e_each_cons (r_aload_n X (k := 0) (i := 0) rfl dX11_isOfWeeks_4 rfl)
    (e_each_cons (r_iload_n X (k := 1) (i := 1) rfl dX11_isOfWeeks_5 rfl)
    (e_each_cons (r_iconst X (n := 1) (v := 1) dX11_isOfWeeks_6 (by decide) rfl)
    (e_each_cons (r_iadd X dX11_isOfWeeks_7 rfl)
    (e_each_cons (r_iald X dX11_isOfWeeks_8 rfl)
    (e_each_cons (r_bipush X (n := 7) (v := 7) dX11_isOfWeeks_9 (by decide) rfl)
    (e_each_cons (r_idiv X dX11_isOfWeeks_11 rfl)
    (e_each_cons (r_isub X dX11_isOfWeeks_12 rfl)
    (e_each_cons (r_istore_n X (k := 3) (i := 3) rfl dX11_isOfWeeks_13 (by decide) rfl)
    (e_each_cons (r_iload_n X (k := 3) (i := 3) rfl dX11_isOfWeeks_14 rfl)
    (e_each_cons (r_aload_n X (k := 0) (i := 0) rfl dX11_isOfWeeks_15 rfl)
    (e_each_cons (r_iload_n X (k := 1) (i := 1) rfl dX11_isOfWeeks_16 rfl)
    (e_each_cons (r_bipush X (n := 6) (v := 6) dX11_isOfWeeks_17 (by decide) rfl)
    (e_each_cons (r_iadd X dX11_isOfWeeks_19 rfl)
    (e_each_cons (r_iald X dX11_isOfWeeks_20 rfl)
    (e_each_cons (r_irem X dX11_isOfWeeks_21 rfl)
    (e_each_cons (r_if_ne X (off := 23) (t := 45) dX11_isOfWeeks_22 (by decide) rfl)
    (e_each_cons (r_aload_n X (k := 0) (i := 0) rfl dX11_isOfWeeks_25 rfl)
    (e_each_cons (r_iload_n X (k := 1) (i := 1) rfl dX11_isOfWeeks_26 rfl)
    (e_each_cons (r_bipush X (n := 7) (v := 7) dX11_isOfWeeks_27 (by decide) rfl)
    (e_each_cons (r_iadd X dX11_isOfWeeks_29 rfl)
    (e_each_cons (r_iald X dX11_isOfWeeks_30 rfl)
    (e_each_cons (r_iload_n X (k := 2) (i := 2) rfl dX11_isOfWeeks_31 rfl)
    (e_each_cons (r_bipush X (n := 7) (v := 7) dX11_isOfWeeks_32 (by decide) rfl)
    (e_each_cons (r_irem X dX11_isOfWeeks_34 rfl)
    (e_each_cons (r_callS X rfl (τ := sg_X11_has) (index := 64) dX11_isOfWeeks_35 w7_27 w7_28 cs_X11_has rfl ⟨by decide, by decide⟩ rfl)
    (e_each_cons (r_if_eq X (off := 7) (t := 45) dX11_isOfWeeks_38 (by decide) rfl)
    (e_each_cons (r_iconst X (n := 1) (v := 1) dX11_isOfWeeks_41 (by decide) rfl)
    (e_each_cons (r_goto X (off := 4) (t := 46) dX11_isOfWeeks_42 (by decide))
    (e_each_cons (r_iconst X (n := 0) (v := 0) dX11_isOfWeeks_45 (by decide) rfl)
    (e_each_cons (r_iretz X dX11_isOfWeeks_46 rfl)
    (e_each_nil))))))))))))))))))))))))))))))))))
theorem dX11_laysMonths_0 : decode cX11_laysMonths 0 = .ok (.aload_n 1, 1) := by decide +kernel
theorem dX11_laysMonths_1 : decode cX11_laysMonths 1 = .ok (.iload_n 2, 1) := by decide +kernel
theorem dX11_laysMonths_2 : decode cX11_laysMonths 2 = .ok (.iconst 1, 1) := by decide +kernel
theorem dX11_laysMonths_3 : decode cX11_laysMonths 3 = .ok (.iadd, 1) := by decide +kernel
theorem dX11_laysMonths_4 : decode cX11_laysMonths 4 = .ok (.iaload, 1) := by decide +kernel
theorem dX11_laysMonths_5 : decode cX11_laysMonths 5 = .ok (.istore_n 3, 1) := by decide +kernel
theorem dX11_laysMonths_6 : decode cX11_laysMonths 6 = .ok (.iload_n 3, 1) := by decide +kernel
theorem dX11_laysMonths_7 : decode cX11_laysMonths 7 = .ok (.invokestatic 92, 3) := by decide +kernel
theorem dX11_laysMonths_10 : decode cX11_laysMonths 10 = .ok (.istore 4, 2) := by decide +kernel
theorem dX11_laysMonths_12 : decode cX11_laysMonths 12 = .ok (.bipush 12, 2) := by decide +kernel
theorem dX11_laysMonths_14 : decode cX11_laysMonths 14 = .ok (.iload_n 3, 1) := by decide +kernel
theorem dX11_laysMonths_15 : decode cX11_laysMonths 15 = .ok (.sipush 365, 3) := by decide +kernel
theorem dX11_laysMonths_18 : decode cX11_laysMonths 18 = .ok (.idiv, 1) := by decide +kernel
theorem dX11_laysMonths_19 : decode cX11_laysMonths 19 = .ok (.imul, 1) := by decide +kernel
theorem dX11_laysMonths_20 : decode cX11_laysMonths 20 = .ok (.iload_n 3, 1) := by decide +kernel
theorem dX11_laysMonths_21 : decode cX11_laysMonths 21 = .ok (.invokestatic 86, 3) := by decide +kernel
theorem dX11_laysMonths_24 : decode cX11_laysMonths 24 = .ok (.iadd, 1) := by decide +kernel
theorem dX11_laysMonths_25 : decode cX11_laysMonths 25 = .ok (.iconst 1, 1) := by decide +kernel
theorem dX11_laysMonths_26 : decode cX11_laysMonths 26 = .ok (.isub, 1) := by decide +kernel
theorem dX11_laysMonths_27 : decode cX11_laysMonths 27 = .ok (.istore 5, 2) := by decide +kernel
theorem dX11_laysMonths_29 : decode cX11_laysMonths 29 = .ok (.iload 5, 2) := by decide +kernel
theorem dX11_laysMonths_31 : decode cX11_laysMonths 31 = .ok (.bipush 36, 2) := by decide +kernel
theorem dX11_laysMonths_33 : decode cX11_laysMonths 33 = .ok (.if_icmp .ge 66, 3) := by decide +kernel
theorem dX11_laysMonths_36 : decode cX11_laysMonths 36 = .ok (.iload 5, 2) := by decide +kernel
theorem dX11_laysMonths_38 : decode cX11_laysMonths 38 = .ok (.bipush 12, 2) := by decide +kernel
theorem dX11_laysMonths_40 : decode cX11_laysMonths 40 = .ok (.irem, 1) := by decide +kernel
theorem dX11_laysMonths_41 : decode cX11_laysMonths 41 = .ok (.iconst 1, 1) := by decide +kernel
theorem dX11_laysMonths_42 : decode cX11_laysMonths 42 = .ok (.iadd, 1) := by decide +kernel
theorem dX11_laysMonths_43 : decode cX11_laysMonths 43 = .ok (.istore 6, 2) := by decide +kernel
theorem dX11_laysMonths_45 : decode cX11_laysMonths 45 = .ok (.iload 4, 2) := by decide +kernel
theorem dX11_laysMonths_47 : decode cX11_laysMonths 47 = .ok (.iload 6, 2) := by decide +kernel
theorem dX11_laysMonths_49 : decode cX11_laysMonths 49 = .ok (.invokestatic 79, 3) := by decide +kernel
theorem dX11_laysMonths_52 : decode cX11_laysMonths 52 = .ok (.if_icmp .gt 33, 3) := by decide +kernel
theorem dX11_laysMonths_55 : decode cX11_laysMonths 55 = .ok (.aload_n 0, 1) := by decide +kernel
theorem dX11_laysMonths_56 : decode cX11_laysMonths 56 = .ok (.sipush 365, 3) := by decide +kernel
theorem dX11_laysMonths_59 : decode cX11_laysMonths 59 = .ok (.iload 5, 2) := by decide +kernel
theorem dX11_laysMonths_61 : decode cX11_laysMonths 61 = .ok (.bipush 12, 2) := by decide +kernel
theorem dX11_laysMonths_63 : decode cX11_laysMonths 63 = .ok (.idiv, 1) := by decide +kernel
theorem dX11_laysMonths_64 : decode cX11_laysMonths 64 = .ok (.imul, 1) := by decide +kernel
theorem dX11_laysMonths_65 : decode cX11_laysMonths 65 = .ok (.iload 6, 2) := by decide +kernel
theorem dX11_laysMonths_67 : decode cX11_laysMonths 67 = .ok (.invokestatic 83, 3) := by decide +kernel
theorem dX11_laysMonths_70 : decode cX11_laysMonths 70 = .ok (.iadd, 1) := by decide +kernel
theorem dX11_laysMonths_71 : decode cX11_laysMonths 71 = .ok (.iload 4, 2) := by decide +kernel
theorem dX11_laysMonths_73 : decode cX11_laysMonths 73 = .ok (.iadd, 1) := by decide +kernel
theorem dX11_laysMonths_74 : decode cX11_laysMonths 74 = .ok (.iconst 1, 1) := by decide +kernel
theorem dX11_laysMonths_75 : decode cX11_laysMonths 75 = .ok (.isub, 1) := by decide +kernel
theorem dX11_laysMonths_76 : decode cX11_laysMonths 76 = .ok (.aload_n 1, 1) := by decide +kernel
theorem dX11_laysMonths_77 : decode cX11_laysMonths 77 = .ok (.iload_n 2, 1) := by decide +kernel
theorem dX11_laysMonths_78 : decode cX11_laysMonths 78 = .ok (.bipush 8, 2) := by decide +kernel
theorem dX11_laysMonths_80 : decode cX11_laysMonths 80 = .ok (.iadd, 1) := by decide +kernel
theorem dX11_laysMonths_81 : decode cX11_laysMonths 81 = .ok (.iaload, 1) := by decide +kernel
theorem dX11_laysMonths_82 : decode cX11_laysMonths 82 = .ok (.invokevirtual 98, 3) := by decide +kernel
theorem dX11_laysMonths_85 : decode cX11_laysMonths 85 = .ok (.iload 5, 2) := by decide +kernel
theorem dX11_laysMonths_87 : decode cX11_laysMonths 87 = .ok (.aload_n 1, 1) := by decide +kernel
theorem dX11_laysMonths_88 : decode cX11_laysMonths 88 = .ok (.iload_n 2, 1) := by decide +kernel
theorem dX11_laysMonths_89 : decode cX11_laysMonths 89 = .ok (.bipush 6, 2) := by decide +kernel
theorem dX11_laysMonths_91 : decode cX11_laysMonths 91 = .ok (.iadd, 1) := by decide +kernel
theorem dX11_laysMonths_92 : decode cX11_laysMonths 92 = .ok (.iaload, 1) := by decide +kernel
theorem dX11_laysMonths_93 : decode cX11_laysMonths 93 = .ok (.iadd, 1) := by decide +kernel
theorem dX11_laysMonths_94 : decode cX11_laysMonths 94 = .ok (.istore 5, 2) := by decide +kernel
theorem dX11_laysMonths_96 : decode cX11_laysMonths 96 = .ok (.goto (-67), 3) := by decide +kernel
theorem dX11_laysMonths_99 : decode cX11_laysMonths 99 = .ok (.return_, 1) := by decide +kernel
def pg_X11_laysMonths (l : Launch) (g : EG) : List (Nat × ES) := [(0, s_ldP 1), (1, s_ldI 2), (2, s_c (.inl 1)), (3, s_ii (fun x y => x + y)), (4, s_iald), (5, s_stI 3), (6, s_ldI 3), (7, s_callS l g sg_X11_laysMonths sg_X11_dayOfMonth), (10, s_stI 4), (12, s_c (.inl 12)), (14, s_ldI 3), (15, s_c (.inl 365)), (18, s_iid (fun x y => x / y) (fun _ y => ¬ y = 0)), (19, s_ii (fun x y => x * y)), (20, s_ldI 3), (21, s_callS l g sg_X11_laysMonths sg_X11_monthOf), (24, s_ii (fun x y => x + y)), (25, s_c (.inl 1)), (26, s_ii (fun x y => x - y)), (27, s_stI 5), (29, s_ldI 5), (31, s_c (.inl 36)), (33, s_icmp_ge 99), (36, s_ldI 5), (38, s_c (.inl 12)), (40, s_iid (fun x y => x - x / y * y) (fun _ y => ¬ y = 0)), (41, s_c (.inl 1)), (42, s_ii (fun x y => x + y)), (43, s_stI 6), (45, s_ldI 4), (47, s_ldI 6), (49, s_callS l g sg_X11_laysMonths sg_X11_daysOf), (52, s_icmp_gt 85), (55, s_ldP 0), (56, s_c (.inl 365)), (59, s_ldI 5), (61, s_c (.inl 12)), (63, s_iid (fun x y => x / y) (fun _ y => ¬ y = 0)), (64, s_ii (fun x y => x * y)), (65, s_ldI 6), (67, s_callS l g sg_X11_laysMonths sg_X11_beginOf), (70, s_ii (fun x y => x + y)), (71, s_ldI 4), (73, s_ii (fun x y => x + y)), (74, s_c (.inl 1)), (75, s_ii (fun x y => x - y)), (76, s_ldP 1), (77, s_ldI 2), (78, s_c (.inl 8)), (80, s_ii (fun x y => x + y)), (81, s_iald), (82, s_callV l g sg_X11_laysMonths sg_X11_adds 10), (85, s_ldI 5), (87, s_ldP 1), (88, s_ldI 2), (89, s_c (.inl 6)), (91, s_ii (fun x y => x + y)), (92, s_iald), (93, s_ii (fun x y => x + y)), (94, s_stI 5), (96, s_goto 29), (99, s_vret)]
set_option maxRecDepth 100000 in
theorem ok_X11_laysMonths {l : Launch} {g : EG} : e_okp l g sg_X11_laysMonths "CalendarSyncModel" (pg_X11_laysMonths l g) := fun p e R s m args below meth c ex M0 Q X =>
    e_each_cons (r_aload_n X (k := 1) (i := 1) rfl dX11_laysMonths_0 rfl)
    (e_each_cons (r_iload_n X (k := 2) (i := 2) rfl dX11_laysMonths_1 rfl)
    (e_each_cons (r_iconst X (n := 1) (v := 1) dX11_laysMonths_2 (by decide) rfl)
    (e_each_cons (r_iadd X dX11_laysMonths_3 rfl)
    (e_each_cons (r_iald X dX11_laysMonths_4 rfl)
    (e_each_cons (r_istore_n X (k := 3) (i := 3) rfl dX11_laysMonths_5 (by decide) rfl)
    (e_each_cons (r_iload_n X (k := 3) (i := 3) rfl dX11_laysMonths_6 rfl)
    (e_each_cons (r_callS X rfl (τ := sg_X11_dayOfMonth) (index := 92) dX11_laysMonths_7 w6_150 w6_151 cs_X11_dayOfMonth rfl ⟨by decide, by decide⟩ rfl)
    (e_each_cons (r_istore X (i := 4) dX11_laysMonths_10 (by decide) rfl)
    (e_each_cons (r_bipush X (n := 12) (v := 12) dX11_laysMonths_12 (by decide) rfl)
    (e_each_cons (r_iload_n X (k := 3) (i := 3) rfl dX11_laysMonths_14 rfl)
    (e_each_cons (r_sipush X (n := 365) (v := 365) dX11_laysMonths_15 (by decide) rfl)
    (e_each_cons (r_idiv X dX11_laysMonths_18 rfl)
    (e_each_cons (r_imul X dX11_laysMonths_19 rfl)
    (e_each_cons (r_iload_n X (k := 3) (i := 3) rfl dX11_laysMonths_20 rfl)
    (e_each_cons (r_callS X rfl (τ := sg_X11_monthOf) (index := 86) dX11_laysMonths_21 w6_141 w6_142 cs_X11_monthOf rfl ⟨by decide, by decide⟩ rfl)
    (e_each_cons (r_iadd X dX11_laysMonths_24 rfl)
    (e_each_cons (r_iconst X (n := 1) (v := 1) dX11_laysMonths_25 (by decide) rfl)
    (e_each_cons (r_isub X dX11_laysMonths_26 rfl)
    (e_each_cons (r_istore X (i := 5) dX11_laysMonths_27 (by decide) rfl)
    (e_each_cons (r_iload X (i := 5) dX11_laysMonths_29 rfl)
    (e_each_cons (r_bipush X (n := 36) (v := 36) dX11_laysMonths_31 (by decide) rfl)
    (e_each_cons (r_icmp_ge X (off := 66) (t := 99) dX11_laysMonths_33 (by decide) rfl)
    (e_each_cons (r_iload X (i := 5) dX11_laysMonths_36 rfl)
    (e_each_cons (r_bipush X (n := 12) (v := 12) dX11_laysMonths_38 (by decide) rfl)
    (e_each_cons (r_irem X dX11_laysMonths_40 rfl)
    (e_each_cons (r_iconst X (n := 1) (v := 1) dX11_laysMonths_41 (by decide) rfl)
    (e_each_cons (r_iadd X dX11_laysMonths_42 rfl)
    (e_each_cons (r_istore X (i := 6) dX11_laysMonths_43 (by decide) rfl)
    (e_each_cons (r_iload X (i := 4) dX11_laysMonths_45 rfl)
    (e_each_cons (r_iload X (i := 6) dX11_laysMonths_47 rfl)
    (e_each_cons (r_callS X rfl (τ := sg_X11_daysOf) (index := 79) dX11_laysMonths_49 w6_147 w6_148 cs_X11_daysOf rfl ⟨by decide, by decide⟩ rfl)
    (e_each_cons (r_icmp_gt X (off := 33) (t := 85) dX11_laysMonths_52 (by decide) rfl)
    (e_each_cons (r_aload_n X (k := 0) (i := 0) rfl dX11_laysMonths_55 rfl)
    (e_each_cons (r_sipush X (n := 365) (v := 365) dX11_laysMonths_56 (by decide) rfl)
    (e_each_cons (r_iload X (i := 5) dX11_laysMonths_59 rfl)
    (e_each_cons (r_bipush X (n := 12) (v := 12) dX11_laysMonths_61 (by decide) rfl)
    (e_each_cons (r_idiv X dX11_laysMonths_63 rfl)
    (e_each_cons (r_imul X dX11_laysMonths_64 rfl)
    (e_each_cons (r_iload X (i := 6) dX11_laysMonths_65 rfl)
    (e_each_cons (r_callS X rfl (τ := sg_X11_beginOf) (index := 83) dX11_laysMonths_67 w6_144 w6_145 cs_X11_beginOf rfl ⟨by decide, by decide⟩ rfl)
    (e_each_cons (r_iadd X dX11_laysMonths_70 rfl)
    (e_each_cons (r_iload X (i := 4) dX11_laysMonths_71 rfl)
    (e_each_cons (r_iadd X dX11_laysMonths_73 rfl)
    (e_each_cons (r_iconst X (n := 1) (v := 1) dX11_laysMonths_74 (by decide) rfl)
    (e_each_cons (r_isub X dX11_laysMonths_75 rfl)
    (e_each_cons (r_aload_n X (k := 1) (i := 1) rfl dX11_laysMonths_76 rfl)
    (e_each_cons (r_iload_n X (k := 2) (i := 2) rfl dX11_laysMonths_77 rfl)
    (e_each_cons (r_bipush X (n := 8) (v := 8) dX11_laysMonths_78 (by decide) rfl)
    (e_each_cons (r_iadd X dX11_laysMonths_80 rfl)
    (e_each_cons (r_iald X dX11_laysMonths_81 rfl)
    (e_each_cons (r_callV X rfl (τ := sg_X11_adds) (index := 98) (ci := 10) dX11_laysMonths_82 (by decide) rfl w7_35 w7_37 ws_52 cs_X11_adds rfl ⟨by decide, by decide⟩ rfl)
    (e_each_cons (r_iload X (i := 5) dX11_laysMonths_85 rfl)
    (e_each_cons (r_aload_n X (k := 1) (i := 1) rfl dX11_laysMonths_87 rfl)
    (e_each_cons (r_iload_n X (k := 2) (i := 2) rfl dX11_laysMonths_88 rfl)
    (e_each_cons (r_bipush X (n := 6) (v := 6) dX11_laysMonths_89 (by decide) rfl)
    (e_each_cons (r_iadd X dX11_laysMonths_91 rfl)
    (e_each_cons (r_iald X dX11_laysMonths_92 rfl)
    (e_each_cons (r_iadd X dX11_laysMonths_93 rfl)
    (e_each_cons (r_istore X (i := 5) dX11_laysMonths_94 (by decide) rfl)
    (e_each_cons (r_goto X (off := (-67)) (t := 29) dX11_laysMonths_96 (by decide))
    (e_each_cons (r_vret X dX11_laysMonths_99 rfl)
    (e_each_nil))))))))))))))))))))))))))))))))))))))))))))))))))))))))))))))
theorem dX11_laysDates_0 : decode cX11_laysDates 0 = .ok (.aload_n 0, 1) := by decide +kernel
theorem dX11_laysDates_1 : decode cX11_laysDates 1 = .ok (.iconst 0, 1) := by decide +kernel
theorem dX11_laysDates_2 : decode cX11_laysDates 2 = .ok (.putfield 95, 3) := by decide +kernel
theorem dX11_laysDates_5 : decode cX11_laysDates 5 = .ok (.aload_n 1, 1) := by decide +kernel
theorem dX11_laysDates_6 : decode cX11_laysDates 6 = .ok (.iload_n 2, 1) := by decide +kernel
theorem dX11_laysDates_7 : decode cX11_laysDates 7 = .ok (.iconst 1, 1) := by decide +kernel
theorem dX11_laysDates_8 : decode cX11_laysDates 8 = .ok (.iadd, 1) := by decide +kernel
theorem dX11_laysDates_9 : decode cX11_laysDates 9 = .ok (.iaload, 1) := by decide +kernel
theorem dX11_laysDates_10 : decode cX11_laysDates 10 = .ok (.istore_n 3, 1) := by decide +kernel
theorem dX11_laysDates_11 : decode cX11_laysDates 11 = .ok (.aload_n 1, 1) := by decide +kernel
theorem dX11_laysDates_12 : decode cX11_laysDates 12 = .ok (.iload_n 2, 1) := by decide +kernel
theorem dX11_laysDates_13 : decode cX11_laysDates 13 = .ok (.iconst 5, 1) := by decide +kernel
theorem dX11_laysDates_14 : decode cX11_laysDates 14 = .ok (.iadd, 1) := by decide +kernel
theorem dX11_laysDates_15 : decode cX11_laysDates 15 = .ok (.iaload, 1) := by decide +kernel
theorem dX11_laysDates_16 : decode cX11_laysDates 16 = .ok (.tableswitch 119 0 2 #[28, 37, 77], 28) := by decide +kernel
theorem dX11_laysDates_44 : decode cX11_laysDates 44 = .ok (.aload_n 0, 1) := by decide +kernel
theorem dX11_laysDates_45 : decode cX11_laysDates 45 = .ok (.iload_n 3, 1) := by decide +kernel
theorem dX11_laysDates_46 : decode cX11_laysDates 46 = .ok (.iconst 1, 1) := by decide +kernel
theorem dX11_laysDates_47 : decode cX11_laysDates 47 = .ok (.invokevirtual 98, 3) := by decide +kernel
theorem dX11_laysDates_50 : decode cX11_laysDates 50 = .ok (.goto 91, 3) := by decide +kernel
theorem dX11_laysDates_53 : decode cX11_laysDates 53 = .ok (.iload_n 3, 1) := by decide +kernel
theorem dX11_laysDates_54 : decode cX11_laysDates 54 = .ok (.istore 4, 2) := by decide +kernel
theorem dX11_laysDates_56 : decode cX11_laysDates 56 = .ok (.iload 4, 2) := by decide +kernel
theorem dX11_laysDates_58 : decode cX11_laysDates 58 = .ok (.sipush 1094, 3) := by decide +kernel
theorem dX11_laysDates_61 : decode cX11_laysDates 61 = .ok (.if_icmp .gt 29, 3) := by decide +kernel
theorem dX11_laysDates_64 : decode cX11_laysDates 64 = .ok (.aload_n 0, 1) := by decide +kernel
theorem dX11_laysDates_65 : decode cX11_laysDates 65 = .ok (.iload 4, 2) := by decide +kernel
theorem dX11_laysDates_67 : decode cX11_laysDates 67 = .ok (.aload_n 1, 1) := by decide +kernel
theorem dX11_laysDates_68 : decode cX11_laysDates 68 = .ok (.iload_n 2, 1) := by decide +kernel
theorem dX11_laysDates_69 : decode cX11_laysDates 69 = .ok (.bipush 8, 2) := by decide +kernel
theorem dX11_laysDates_71 : decode cX11_laysDates 71 = .ok (.iadd, 1) := by decide +kernel
theorem dX11_laysDates_72 : decode cX11_laysDates 72 = .ok (.iaload, 1) := by decide +kernel
theorem dX11_laysDates_73 : decode cX11_laysDates 73 = .ok (.invokevirtual 98, 3) := by decide +kernel
theorem dX11_laysDates_76 : decode cX11_laysDates 76 = .ok (.iload 4, 2) := by decide +kernel
theorem dX11_laysDates_78 : decode cX11_laysDates 78 = .ok (.aload_n 1, 1) := by decide +kernel
theorem dX11_laysDates_79 : decode cX11_laysDates 79 = .ok (.iload_n 2, 1) := by decide +kernel
theorem dX11_laysDates_80 : decode cX11_laysDates 80 = .ok (.bipush 6, 2) := by decide +kernel
theorem dX11_laysDates_82 : decode cX11_laysDates 82 = .ok (.iadd, 1) := by decide +kernel
theorem dX11_laysDates_83 : decode cX11_laysDates 83 = .ok (.iaload, 1) := by decide +kernel
theorem dX11_laysDates_84 : decode cX11_laysDates 84 = .ok (.iadd, 1) := by decide +kernel
theorem dX11_laysDates_85 : decode cX11_laysDates 85 = .ok (.istore 4, 2) := by decide +kernel
theorem dX11_laysDates_87 : decode cX11_laysDates 87 = .ok (.goto (-31), 3) := by decide +kernel
theorem dX11_laysDates_90 : decode cX11_laysDates 90 = .ok (.goto 51, 3) := by decide +kernel
theorem dX11_laysDates_93 : decode cX11_laysDates 93 = .ok (.iload_n 3, 1) := by decide +kernel
theorem dX11_laysDates_94 : decode cX11_laysDates 94 = .ok (.istore 4, 2) := by decide +kernel
theorem dX11_laysDates_96 : decode cX11_laysDates 96 = .ok (.iload 4, 2) := by decide +kernel
theorem dX11_laysDates_98 : decode cX11_laysDates 98 = .ok (.sipush 1094, 3) := by decide +kernel
theorem dX11_laysDates_101 : decode cX11_laysDates 101 = .ok (.if_icmp .gt 31, 3) := by decide +kernel
theorem dX11_laysDates_104 : decode cX11_laysDates 104 = .ok (.aload_n 1, 1) := by decide +kernel
theorem dX11_laysDates_105 : decode cX11_laysDates 105 = .ok (.iload_n 2, 1) := by decide +kernel
theorem dX11_laysDates_106 : decode cX11_laysDates 106 = .ok (.iload 4, 2) := by decide +kernel
theorem dX11_laysDates_108 : decode cX11_laysDates 108 = .ok (.invokestatic 102, 3) := by decide +kernel
theorem dX11_laysDates_111 : decode cX11_laysDates 111 = .ok (.ifCond .eq 15, 3) := by decide +kernel
theorem dX11_laysDates_114 : decode cX11_laysDates 114 = .ok (.aload_n 0, 1) := by decide +kernel
theorem dX11_laysDates_115 : decode cX11_laysDates 115 = .ok (.iload 4, 2) := by decide +kernel
theorem dX11_laysDates_117 : decode cX11_laysDates 117 = .ok (.aload_n 1, 1) := by decide +kernel
theorem dX11_laysDates_118 : decode cX11_laysDates 118 = .ok (.iload_n 2, 1) := by decide +kernel
theorem dX11_laysDates_119 : decode cX11_laysDates 119 = .ok (.bipush 8, 2) := by decide +kernel
theorem dX11_laysDates_121 : decode cX11_laysDates 121 = .ok (.iadd, 1) := by decide +kernel
theorem dX11_laysDates_122 : decode cX11_laysDates 122 = .ok (.iaload, 1) := by decide +kernel
theorem dX11_laysDates_123 : decode cX11_laysDates 123 = .ok (.invokevirtual 98, 3) := by decide +kernel
theorem dX11_laysDates_126 : decode cX11_laysDates 126 = .ok (.iinc 4 1, 3) := by decide +kernel
theorem dX11_laysDates_129 : decode cX11_laysDates 129 = .ok (.goto (-33), 3) := by decide +kernel
theorem dX11_laysDates_132 : decode cX11_laysDates 132 = .ok (.goto 9, 3) := by decide +kernel
theorem dX11_laysDates_135 : decode cX11_laysDates 135 = .ok (.aload_n 0, 1) := by decide +kernel
theorem dX11_laysDates_136 : decode cX11_laysDates 136 = .ok (.aload_n 1, 1) := by decide +kernel
theorem dX11_laysDates_137 : decode cX11_laysDates 137 = .ok (.iload_n 2, 1) := by decide +kernel
theorem dX11_laysDates_138 : decode cX11_laysDates 138 = .ok (.invokevirtual 106, 3) := by decide +kernel
theorem dX11_laysDates_141 : decode cX11_laysDates 141 = .ok (.return_, 1) := by decide +kernel
def pg_X11_laysDates (l : Launch) (g : EG) : List (Nat × ES) := [(0, s_ldP 0), (1, s_c (.inl 0)), (2, s_putI 10 8), (5, s_ldP 1), (6, s_ldI 2), (7, s_c (.inl 1)), (8, s_ii (fun x y => x + y)), (9, s_iald), (10, s_stI 3), (11, s_ldP 1), (12, s_ldI 2), (13, s_c (.inl 5)), (14, s_ii (fun x y => x + y)), (15, s_iald), (16, s_tab 0 [44, 53, 93] 135), (44, s_ldP 0), (45, s_ldI 3), (46, s_c (.inl 1)), (47, s_callV l g sg_X11_laysDates sg_X11_adds 10), (50, s_goto 141), (53, s_ldI 3), (54, s_stI 4), (56, s_ldI 4), (58, s_c (.inl 1094)), (61, s_icmp_gt 90), (64, s_ldP 0), (65, s_ldI 4), (67, s_ldP 1), (68, s_ldI 2), (69, s_c (.inl 8)), (71, s_ii (fun x y => x + y)), (72, s_iald), (73, s_callV l g sg_X11_laysDates sg_X11_adds 10), (76, s_ldI 4), (78, s_ldP 1), (79, s_ldI 2), (80, s_c (.inl 6)), (82, s_ii (fun x y => x + y)), (83, s_iald), (84, s_ii (fun x y => x + y)), (85, s_stI 4), (87, s_goto 56), (90, s_goto 141), (93, s_ldI 3), (94, s_stI 4), (96, s_ldI 4), (98, s_c (.inl 1094)), (101, s_icmp_gt 132), (104, s_ldP 1), (105, s_ldI 2), (106, s_ldI 4), (108, s_callS l g sg_X11_laysDates sg_X11_isOfWeeks), (111, s_if_eq 126), (114, s_ldP 0), (115, s_ldI 4), (117, s_ldP 1), (118, s_ldI 2), (119, s_c (.inl 8)), (121, s_ii (fun x y => x + y)), (122, s_iald), (123, s_callV l g sg_X11_laysDates sg_X11_adds 10), (126, s_iinc 4 1), (129, s_goto 96), (132, s_goto 141), (135, s_ldP 0), (136, s_ldP 1), (137, s_ldI 2), (138, s_callV l g sg_X11_laysDates sg_X11_laysMonths 10), (141, s_vret)]
set_option maxRecDepth 100000 in
theorem ok_X11_laysDates {l : Launch} {g : EG} : e_okp l g sg_X11_laysDates "CalendarSyncModel" (pg_X11_laysDates l g) := fun p e R s m args below meth c ex M0 Q X =>
    e_each_cons (r_aload_n X (k := 0) (i := 0) rfl dX11_laysDates_0 rfl)
    (e_each_cons (r_iconst X (n := 0) (v := 0) dX11_laysDates_1 (by decide) rfl)
    (e_each_cons (r_putI X (index := 95) (ci := 10) (k := 8) dX11_laysDates_2 (by decide) (by decide) rfl rfl w6_34 rfl)
    (e_each_cons (r_aload_n X (k := 1) (i := 1) rfl dX11_laysDates_5 rfl)
    (e_each_cons (r_iload_n X (k := 2) (i := 2) rfl dX11_laysDates_6 rfl)
    (e_each_cons (r_iconst X (n := 1) (v := 1) dX11_laysDates_7 (by decide) rfl)
    (e_each_cons (r_iadd X dX11_laysDates_8 rfl)
    (e_each_cons (r_iald X dX11_laysDates_9 rfl)
    (e_each_cons (r_istore_n X (k := 3) (i := 3) rfl dX11_laysDates_10 (by decide) rfl)
    (e_each_cons (r_aload_n X (k := 1) (i := 1) rfl dX11_laysDates_11 rfl)
    (e_each_cons (r_iload_n X (k := 2) (i := 2) rfl dX11_laysDates_12 rfl)
    (e_each_cons (r_iconst X (n := 5) (v := 5) dX11_laysDates_13 (by decide) rfl)
    (e_each_cons (r_iadd X dX11_laysDates_14 rfl)
    (e_each_cons (r_iald X dX11_laysDates_15 rfl)
    (e_each_cons (r_tab X (dflt := 119) (lo := 0) (hi := 2) (ts := [44, 53, 93]) (dt := 135) dX11_laysDates_16 (by decide) (by decide) (by decide))
    (e_each_cons (r_aload_n X (k := 0) (i := 0) rfl dX11_laysDates_44 rfl)
    (e_each_cons (r_iload_n X (k := 3) (i := 3) rfl dX11_laysDates_45 rfl)
    (e_each_cons (r_iconst X (n := 1) (v := 1) dX11_laysDates_46 (by decide) rfl)
    (e_each_cons (r_callV X rfl (τ := sg_X11_adds) (index := 98) (ci := 10) dX11_laysDates_47 (by decide) rfl w7_35 w7_37 ws_52 cs_X11_adds rfl ⟨by decide, by decide⟩ rfl)
    (e_each_cons (r_goto X (off := 91) (t := 141) dX11_laysDates_50 (by decide))
    (e_each_cons (r_iload_n X (k := 3) (i := 3) rfl dX11_laysDates_53 rfl)
    (e_each_cons (r_istore X (i := 4) dX11_laysDates_54 (by decide) rfl)
    (e_each_cons (r_iload X (i := 4) dX11_laysDates_56 rfl)
    (e_each_cons (r_sipush X (n := 1094) (v := 1094) dX11_laysDates_58 (by decide) rfl)
    (e_each_cons (r_icmp_gt X (off := 29) (t := 90) dX11_laysDates_61 (by decide) rfl)
    (e_each_cons (r_aload_n X (k := 0) (i := 0) rfl dX11_laysDates_64 rfl)
    (e_each_cons (r_iload X (i := 4) dX11_laysDates_65 rfl)
    (e_each_cons (r_aload_n X (k := 1) (i := 1) rfl dX11_laysDates_67 rfl)
    (e_each_cons (r_iload_n X (k := 2) (i := 2) rfl dX11_laysDates_68 rfl)
    (e_each_cons (r_bipush X (n := 8) (v := 8) dX11_laysDates_69 (by decide) rfl)
    (e_each_cons (r_iadd X dX11_laysDates_71 rfl)
    (e_each_cons (r_iald X dX11_laysDates_72 rfl)
    (e_each_cons (r_callV X rfl (τ := sg_X11_adds) (index := 98) (ci := 10) dX11_laysDates_73 (by decide) rfl w7_35 w7_37 ws_52 cs_X11_adds rfl ⟨by decide, by decide⟩ rfl)
    (e_each_cons (r_iload X (i := 4) dX11_laysDates_76 rfl)
    (e_each_cons (r_aload_n X (k := 1) (i := 1) rfl dX11_laysDates_78 rfl)
    (e_each_cons (r_iload_n X (k := 2) (i := 2) rfl dX11_laysDates_79 rfl)
    (e_each_cons (r_bipush X (n := 6) (v := 6) dX11_laysDates_80 (by decide) rfl)
    (e_each_cons (r_iadd X dX11_laysDates_82 rfl)
    (e_each_cons (r_iald X dX11_laysDates_83 rfl)
    (e_each_cons (r_iadd X dX11_laysDates_84 rfl)
    (e_each_cons (r_istore X (i := 4) dX11_laysDates_85 (by decide) rfl)
    (e_each_cons (r_goto X (off := (-31)) (t := 56) dX11_laysDates_87 (by decide))
    (e_each_cons (r_goto X (off := 51) (t := 141) dX11_laysDates_90 (by decide))
    (e_each_cons (r_iload_n X (k := 3) (i := 3) rfl dX11_laysDates_93 rfl)
    (e_each_cons (r_istore X (i := 4) dX11_laysDates_94 (by decide) rfl)
    (e_each_cons (r_iload X (i := 4) dX11_laysDates_96 rfl)
    (e_each_cons (r_sipush X (n := 1094) (v := 1094) dX11_laysDates_98 (by decide) rfl)
    (e_each_cons (r_icmp_gt X (off := 31) (t := 132) dX11_laysDates_101 (by decide) rfl)
    (e_each_cons (r_aload_n X (k := 1) (i := 1) rfl dX11_laysDates_104 rfl)
    (e_each_cons (r_iload_n X (k := 2) (i := 2) rfl dX11_laysDates_105 rfl)
    (e_each_cons (r_iload X (i := 4) dX11_laysDates_106 rfl)
    (e_each_cons (r_callS X rfl (τ := sg_X11_isOfWeeks) (index := 102) dX11_laysDates_108 w7_39 w7_40 cs_X11_isOfWeeks rfl ⟨by decide, by decide⟩ rfl)
    (e_each_cons (r_if_eq X (off := 15) (t := 126) dX11_laysDates_111 (by decide) rfl)
    (e_each_cons (r_aload_n X (k := 0) (i := 0) rfl dX11_laysDates_114 rfl)
    (e_each_cons (r_iload X (i := 4) dX11_laysDates_115 rfl)
    (e_each_cons (r_aload_n X (k := 1) (i := 1) rfl dX11_laysDates_117 rfl)
    (e_each_cons (r_iload_n X (k := 2) (i := 2) rfl dX11_laysDates_118 rfl)
    (e_each_cons (r_bipush X (n := 8) (v := 8) dX11_laysDates_119 (by decide) rfl)
    (e_each_cons (r_iadd X dX11_laysDates_121 rfl)
    (e_each_cons (r_iald X dX11_laysDates_122 rfl)
    (e_each_cons (r_callV X rfl (τ := sg_X11_adds) (index := 98) (ci := 10) dX11_laysDates_123 (by decide) rfl w7_35 w7_37 ws_52 cs_X11_adds rfl ⟨by decide, by decide⟩ rfl)
    (e_each_cons (r_iinc X (i := 4) (n := 1) (d := 1) dX11_laysDates_126 (by decide) (by decide) rfl)
    (e_each_cons (r_goto X (off := (-33)) (t := 96) dX11_laysDates_129 (by decide))
    (e_each_cons (r_goto X (off := 9) (t := 141) dX11_laysDates_132 (by decide))
    (e_each_cons (r_aload_n X (k := 0) (i := 0) rfl dX11_laysDates_135 rfl)
    (e_each_cons (r_aload_n X (k := 1) (i := 1) rfl dX11_laysDates_136 rfl)
    (e_each_cons (r_iload_n X (k := 2) (i := 2) rfl dX11_laysDates_137 rfl)
    (e_each_cons (r_callV X rfl (τ := sg_X11_laysMonths) (index := 106) (ci := 10) dX11_laysDates_138 (by decide) rfl w7_42 w7_44 ws_53 cs_X11_laysMonths rfl ⟨by decide, by decide⟩ rfl)
    (e_each_cons (r_vret X dX11_laysDates_141 rfl)
    (e_each_nil)))))))))))))))))))))))))))))))))))))))))))))))))))))))))))))))))))))
theorem dX11_lays_0 : decode cX11_lays 0 = .ok (.bipush 24, 2) := by decide +kernel
theorem dX11_lays_2 : decode cX11_lays 2 = .ok (.istore_n 2, 1) := by decide +kernel
theorem dX11_lays_3 : decode cX11_lays 3 = .ok (.iload_n 2, 1) := by decide +kernel
theorem dX11_lays_4 : decode cX11_lays 4 = .ok (.ifCond .lt 37, 3) := by decide +kernel
theorem dX11_lays_7 : decode cX11_lays 7 = .ok (.aload_n 0, 1) := by decide +kernel
theorem dX11_lays_8 : decode cX11_lays 8 = .ok (.getfield 27, 3) := by decide +kernel
theorem dX11_lays_11 : decode cX11_lays 11 = .ok (.aload_n 0, 1) := by decide +kernel
theorem dX11_lays_12 : decode cX11_lays 12 = .ok (.getfield 110, 3) := by decide +kernel
theorem dX11_lays_15 : decode cX11_lays 15 = .ok (.iload_n 1, 1) := by decide +kernel
theorem dX11_lays_16 : decode cX11_lays 16 = .ok (.iload_n 2, 1) := by decide +kernel
theorem dX11_lays_17 : decode cX11_lays 17 = .ok (.ishr, 1) := by decide +kernel
theorem dX11_lays_18 : decode cX11_lays 18 = .ok (.sipush 255, 3) := by decide +kernel
theorem dX11_lays_21 : decode cX11_lays 21 = .ok (.iand, 1) := by decide +kernel
theorem dX11_lays_22 : decode cX11_lays 22 = .ok (.iastore, 1) := by decide +kernel
theorem dX11_lays_23 : decode cX11_lays 23 = .ok (.aload_n 0, 1) := by decide +kernel
theorem dX11_lays_24 : decode cX11_lays 24 = .ok (.aload_n 0, 1) := by decide +kernel
theorem dX11_lays_25 : decode cX11_lays 25 = .ok (.getfield 110, 3) := by decide +kernel
theorem dX11_lays_28 : decode cX11_lays 28 = .ok (.iconst 1, 1) := by decide +kernel
theorem dX11_lays_29 : decode cX11_lays 29 = .ok (.iadd, 1) := by decide +kernel
theorem dX11_lays_30 : decode cX11_lays 30 = .ok (.putfield 110, 3) := by decide +kernel
theorem dX11_lays_33 : decode cX11_lays 33 = .ok (.iload_n 2, 1) := by decide +kernel
theorem dX11_lays_34 : decode cX11_lays 34 = .ok (.bipush 8, 2) := by decide +kernel
theorem dX11_lays_36 : decode cX11_lays 36 = .ok (.isub, 1) := by decide +kernel
theorem dX11_lays_37 : decode cX11_lays 37 = .ok (.istore_n 2, 1) := by decide +kernel
theorem dX11_lays_38 : decode cX11_lays 38 = .ok (.goto (-35), 3) := by decide +kernel
theorem dX11_lays_41 : decode cX11_lays 41 = .ok (.return_, 1) := by decide +kernel
def pg_X11_lays (l : Launch) (g : EG) : List (Nat × ES) := [(0, s_c (.inl 24)), (2, s_stI 2), (3, s_ldI 2), (4, s_if_lt 41), (7, s_ldP 0), (8, s_getP 10 9), (11, s_ldP 0), (12, s_getI 10 10), (15, s_ldI 1), (16, s_ldI 2), (17, s_ii (fun x y => x >>> (y &&& 31))), (18, s_c (.inl 255)), (21, s_ii (fun x y => x &&& y)), (22, s_iast), (23, s_ldP 0), (24, s_ldP 0), (25, s_getI 10 10), (28, s_c (.inl 1)), (29, s_ii (fun x y => x + y)), (30, s_putI 10 10), (33, s_ldI 2), (34, s_c (.inl 8)), (36, s_ii (fun x y => x - y)), (37, s_stI 2), (38, s_goto 3), (41, s_vret)]
set_option maxRecDepth 100000 in
theorem ok_X11_lays {l : Launch} {g : EG} : e_okp l g sg_X11_lays "CalendarSyncModel" (pg_X11_lays l g) := fun p e R s m args below meth c ex M0 Q X =>
    e_each_cons (r_bipush X (n := 24) (v := 24) dX11_lays_0 (by decide) rfl)
    (e_each_cons (r_istore_n X (k := 2) (i := 2) rfl dX11_lays_2 (by decide) rfl)
    (e_each_cons (r_iload_n X (k := 2) (i := 2) rfl dX11_lays_3 rfl)
    (e_each_cons (r_if_lt X (off := 37) (t := 41) dX11_lays_4 (by decide) rfl)
    (e_each_cons (r_aload_n X (k := 0) (i := 0) rfl dX11_lays_7 rfl)
    (e_each_cons (r_getP X (index := 27) (ci := 10) (k := 9) dX11_lays_8 (by decide) (by decide) rfl w6_35 rfl)
    (e_each_cons (r_aload_n X (k := 0) (i := 0) rfl dX11_lays_11 rfl)
    (e_each_cons (r_getI X (index := 110) (ci := 10) (k := 10) dX11_lays_12 (by decide) (by decide) rfl w6_36 rfl)
    (e_each_cons (r_iload_n X (k := 1) (i := 1) rfl dX11_lays_15 rfl)
    (e_each_cons (r_iload_n X (k := 2) (i := 2) rfl dX11_lays_16 rfl)
    (e_each_cons (r_ishr X dX11_lays_17 rfl)
    (e_each_cons (r_sipush X (n := 255) (v := 255) dX11_lays_18 (by decide) rfl)
    (e_each_cons (r_iand X dX11_lays_21 rfl)
    (e_each_cons (r_iast X dX11_lays_22 rfl)
    (e_each_cons (r_aload_n X (k := 0) (i := 0) rfl dX11_lays_23 rfl)
    (e_each_cons (r_aload_n X (k := 0) (i := 0) rfl dX11_lays_24 rfl)
    (e_each_cons (r_getI X (index := 110) (ci := 10) (k := 10) dX11_lays_25 (by decide) (by decide) rfl w6_36 rfl)
    (e_each_cons (r_iconst X (n := 1) (v := 1) dX11_lays_28 (by decide) rfl)
    (e_each_cons (r_iadd X dX11_lays_29 rfl)
    (e_each_cons (r_putI X (index := 110) (ci := 10) (k := 10) dX11_lays_30 (by decide) (by decide) rfl rfl w6_36 rfl)
    (e_each_cons (r_iload_n X (k := 2) (i := 2) rfl dX11_lays_33 rfl)
    (e_each_cons (r_bipush X (n := 8) (v := 8) dX11_lays_34 (by decide) rfl)
    (e_each_cons (r_isub X dX11_lays_36 rfl)
    (e_each_cons (r_istore_n X (k := 2) (i := 2) rfl dX11_lays_37 (by decide) rfl)
    (e_each_cons (r_goto X (off := (-35)) (t := 3) dX11_lays_38 (by decide))
    (e_each_cons (r_vret X dX11_lays_41 rfl)
    (e_each_nil))))))))))))))))))))))))))
theorem dX11_feed_0 : decode cX11_feed 0 = .ok (.aload_n 0, 1) := by decide +kernel
theorem dX11_feed_1 : decode cX11_feed 1 = .ok (.iconst 0, 1) := by decide +kernel
theorem dX11_feed_2 : decode cX11_feed 2 = .ok (.putfield 61, 3) := by decide +kernel
theorem dX11_feed_5 : decode cX11_feed 5 = .ok (.aload_n 0, 1) := by decide +kernel
theorem dX11_feed_6 : decode cX11_feed 6 = .ok (.getfield 110, 3) := by decide +kernel
theorem dX11_feed_9 : decode cX11_feed 9 = .ok (.bipush 20, 2) := by decide +kernel
theorem dX11_feed_11 : decode cX11_feed 11 = .ok (.iadd, 1) := by decide +kernel
theorem dX11_feed_12 : decode cX11_feed 12 = .ok (.sipush 800, 3) := by decide +kernel
theorem dX11_feed_15 : decode cX11_feed 15 = .ok (.if_icmp .le 9, 3) := by decide +kernel
theorem dX11_feed_18 : decode cX11_feed 18 = .ok (.aload_n 0, 1) := by decide +kernel
theorem dX11_feed_19 : decode cX11_feed 19 = .ok (.iconst 1, 1) := by decide +kernel
theorem dX11_feed_20 : decode cX11_feed 20 = .ok (.invokevirtual 113, 3) := by decide +kernel
theorem dX11_feed_23 : decode cX11_feed 23 = .ok (.ireturn, 1) := by decide +kernel
theorem dX11_feed_24 : decode cX11_feed 24 = .ok (.aload_n 0, 1) := by decide +kernel
theorem dX11_feed_25 : decode cX11_feed 25 = .ok (.iload_n 1, 1) := by decide +kernel
theorem dX11_feed_26 : decode cX11_feed 26 = .ok (.invokevirtual 116, 3) := by decide +kernel
theorem dX11_feed_29 : decode cX11_feed 29 = .ok (.aload_n 0, 1) := by decide +kernel
theorem dX11_feed_30 : decode cX11_feed 30 = .ok (.iload_n 2, 1) := by decide +kernel
theorem dX11_feed_31 : decode cX11_feed 31 = .ok (.invokevirtual 116, 3) := by decide +kernel
theorem dX11_feed_34 : decode cX11_feed 34 = .ok (.aload_n 0, 1) := by decide +kernel
theorem dX11_feed_35 : decode cX11_feed 35 = .ok (.iload_n 3, 1) := by decide +kernel
theorem dX11_feed_36 : decode cX11_feed 36 = .ok (.invokevirtual 116, 3) := by decide +kernel
theorem dX11_feed_39 : decode cX11_feed 39 = .ok (.aload_n 0, 1) := by decide +kernel
theorem dX11_feed_40 : decode cX11_feed 40 = .ok (.iload 4, 2) := by decide +kernel
theorem dX11_feed_42 : decode cX11_feed 42 = .ok (.invokevirtual 116, 3) := by decide +kernel
theorem dX11_feed_45 : decode cX11_feed 45 = .ok (.aload_n 0, 1) := by decide +kernel
theorem dX11_feed_46 : decode cX11_feed 46 = .ok (.iload 5, 2) := by decide +kernel
theorem dX11_feed_48 : decode cX11_feed 48 = .ok (.invokevirtual 116, 3) := by decide +kernel
theorem dX11_feed_51 : decode cX11_feed 51 = .ok (.aload_n 0, 1) := by decide +kernel
theorem dX11_feed_52 : decode cX11_feed 52 = .ok (.getfield 110, 3) := by decide +kernel
theorem dX11_feed_55 : decode cX11_feed 55 = .ok (.ireturn, 1) := by decide +kernel
def pg_X11_feed (l : Launch) (g : EG) : List (Nat × ES) := [(0, s_ldP 0), (1, s_c (.inl 0)), (2, s_putI 10 0), (5, s_ldP 0), (6, s_getI 10 10), (9, s_c (.inl 20)), (11, s_ii (fun x y => x + y)), (12, s_c (.inl 800)), (15, s_icmp_le 24), (18, s_ldP 0), (19, s_c (.inl 1)), (20, s_callV l g sg_X11_feed sg_X11_refuse 10), (23, s_ireti), (24, s_ldP 0), (25, s_ldI 1), (26, s_callV l g sg_X11_feed sg_X11_lays 10), (29, s_ldP 0), (30, s_ldI 2), (31, s_callV l g sg_X11_feed sg_X11_lays 10), (34, s_ldP 0), (35, s_ldI 3), (36, s_callV l g sg_X11_feed sg_X11_lays 10), (39, s_ldP 0), (40, s_ldI 4), (42, s_callV l g sg_X11_feed sg_X11_lays 10), (45, s_ldP 0), (46, s_ldI 5), (48, s_callV l g sg_X11_feed sg_X11_lays 10), (51, s_ldP 0), (52, s_getI 10 10), (55, s_ireti)]
set_option maxRecDepth 100000 in
theorem ok_X11_feed {l : Launch} {g : EG} : e_okp l g sg_X11_feed "CalendarSyncModel" (pg_X11_feed l g) := fun p e R s m args below meth c ex M0 Q X =>
    e_each_cons (r_aload_n X (k := 0) (i := 0) rfl dX11_feed_0 rfl)
    (e_each_cons (r_iconst X (n := 0) (v := 0) dX11_feed_1 (by decide) rfl)
    (e_each_cons (r_putI X (index := 61) (ci := 10) (k := 0) dX11_feed_2 (by decide) (by decide) rfl rfl w6_26 rfl)
    (e_each_cons (r_aload_n X (k := 0) (i := 0) rfl dX11_feed_5 rfl)
    (e_each_cons (r_getI X (index := 110) (ci := 10) (k := 10) dX11_feed_6 (by decide) (by decide) rfl w6_36 rfl)
    (e_each_cons (r_bipush X (n := 20) (v := 20) dX11_feed_9 (by decide) rfl)
    (e_each_cons (r_iadd X dX11_feed_11 rfl)
    (e_each_cons (r_sipush X (n := 800) (v := 800) dX11_feed_12 (by decide) rfl)
    (e_each_cons (r_icmp_le X (off := 9) (t := 24) dX11_feed_15 (by decide) rfl)
    (e_each_cons (r_aload_n X (k := 0) (i := 0) rfl dX11_feed_18 rfl)
    (e_each_cons (r_iconst X (n := 1) (v := 1) dX11_feed_19 (by decide) rfl)
    (e_each_cons (r_callV X rfl (τ := sg_X11_refuse) (index := 113) (ci := 10) dX11_feed_20 (by decide) rfl w6_157 w6_159 ws_32 cs_X11_refuse rfl ⟨by decide, by decide⟩ rfl)
    (e_each_cons (r_ireti X dX11_feed_23 rfl)
    (e_each_cons (r_aload_n X (k := 0) (i := 0) rfl dX11_feed_24 rfl)
    (e_each_cons (r_iload_n X (k := 1) (i := 1) rfl dX11_feed_25 rfl)
    (e_each_cons (r_callV X rfl (τ := sg_X11_lays) (index := 116) (ci := 10) dX11_feed_26 (by decide) rfl w6_161 w6_163 ws_33 cs_X11_lays rfl ⟨by decide, by decide⟩ rfl)
    (e_each_cons (r_aload_n X (k := 0) (i := 0) rfl dX11_feed_29 rfl)
    (e_each_cons (r_iload_n X (k := 2) (i := 2) rfl dX11_feed_30 rfl)
    (e_each_cons (r_callV X rfl (τ := sg_X11_lays) (index := 116) (ci := 10) dX11_feed_31 (by decide) rfl w6_161 w6_163 ws_33 cs_X11_lays rfl ⟨by decide, by decide⟩ rfl)
    (e_each_cons (r_aload_n X (k := 0) (i := 0) rfl dX11_feed_34 rfl)
    (e_each_cons (r_iload_n X (k := 3) (i := 3) rfl dX11_feed_35 rfl)
    (e_each_cons (r_callV X rfl (τ := sg_X11_lays) (index := 116) (ci := 10) dX11_feed_36 (by decide) rfl w6_161 w6_163 ws_33 cs_X11_lays rfl ⟨by decide, by decide⟩ rfl)
    (e_each_cons (r_aload_n X (k := 0) (i := 0) rfl dX11_feed_39 rfl)
    (e_each_cons (r_iload X (i := 4) dX11_feed_40 rfl)
    (e_each_cons (r_callV X rfl (τ := sg_X11_lays) (index := 116) (ci := 10) dX11_feed_42 (by decide) rfl w6_161 w6_163 ws_33 cs_X11_lays rfl ⟨by decide, by decide⟩ rfl)
    (e_each_cons (r_aload_n X (k := 0) (i := 0) rfl dX11_feed_45 rfl)
    (e_each_cons (r_iload X (i := 5) dX11_feed_46 rfl)
    (e_each_cons (r_callV X rfl (τ := sg_X11_lays) (index := 116) (ci := 10) dX11_feed_48 (by decide) rfl w6_161 w6_163 ws_33 cs_X11_lays rfl ⟨by decide, by decide⟩ rfl)
    (e_each_cons (r_aload_n X (k := 0) (i := 0) rfl dX11_feed_51 rfl)
    (e_each_cons (r_getI X (index := 110) (ci := 10) (k := 10) dX11_feed_52 (by decide) (by decide) rfl w6_36 rfl)
    (e_each_cons (r_ireti X dX11_feed_55 rfl)
    (e_each_nil)))))))))))))))))))))))))))))))
theorem dX11_errorCode_0 : decode cX11_errorCode 0 = .ok (.aload_n 0, 1) := by decide +kernel
theorem dX11_errorCode_1 : decode cX11_errorCode 1 = .ok (.aload_n 0, 1) := by decide +kernel
theorem dX11_errorCode_2 : decode cX11_errorCode 2 = .ok (.getfield 120, 3) := by decide +kernel
theorem dX11_errorCode_5 : decode cX11_errorCode 5 = .ok (.invokevirtual 123, 3) := by decide +kernel
theorem dX11_errorCode_8 : decode cX11_errorCode 8 = .ok (.ireturn, 1) := by decide +kernel
def pg_X11_errorCode (l : Launch) (g : EG) : List (Nat × ES) := [(0, s_ldP 0), (1, s_ldP 0), (2, s_getI 10 16), (5, s_callV l g sg_X11_errorCode sg_X11_told 10), (8, s_ireti)]
set_option maxRecDepth 100000 in
theorem ok_X11_errorCode {l : Launch} {g : EG} : e_okp l g sg_X11_errorCode "CalendarSyncModel" (pg_X11_errorCode l g) := fun p e R s m args below meth c ex M0 Q X =>
    e_each_cons (r_aload_n X (k := 0) (i := 0) rfl dX11_errorCode_0 rfl)
    (e_each_cons (r_aload_n X (k := 0) (i := 0) rfl dX11_errorCode_1 rfl)
    (e_each_cons (r_getI X (index := 120) (ci := 10) (k := 16) dX11_errorCode_2 (by decide) (by decide) rfl w6_42 rfl)
    (e_each_cons (r_callV X rfl (τ := sg_X11_told) (index := 123) (ci := 10) dX11_errorCode_5 (by decide) rfl w6_169 w6_171 ws_34 cs_X11_told rfl ⟨by decide, by decide⟩ rfl)
    (e_each_cons (r_ireti X dX11_errorCode_8 rfl)
    (e_each_nil)))))
theorem dX11_errorPosition_0 : decode cX11_errorPosition 0 = .ok (.aload_n 0, 1) := by decide +kernel
theorem dX11_errorPosition_1 : decode cX11_errorPosition 1 = .ok (.aload_n 0, 1) := by decide +kernel
theorem dX11_errorPosition_2 : decode cX11_errorPosition 2 = .ok (.getfield 30, 3) := by decide +kernel
theorem dX11_errorPosition_5 : decode cX11_errorPosition 5 = .ok (.invokevirtual 123, 3) := by decide +kernel
theorem dX11_errorPosition_8 : decode cX11_errorPosition 8 = .ok (.ireturn, 1) := by decide +kernel
def pg_X11_errorPosition (l : Launch) (g : EG) : List (Nat × ES) := [(0, s_ldP 0), (1, s_ldP 0), (2, s_getI 10 17), (5, s_callV l g sg_X11_errorPosition sg_X11_told 10), (8, s_ireti)]
set_option maxRecDepth 100000 in
theorem ok_X11_errorPosition {l : Launch} {g : EG} : e_okp l g sg_X11_errorPosition "CalendarSyncModel" (pg_X11_errorPosition l g) := fun p e R s m args below meth c ex M0 Q X =>
    e_each_cons (r_aload_n X (k := 0) (i := 0) rfl dX11_errorPosition_0 rfl)
    (e_each_cons (r_aload_n X (k := 0) (i := 0) rfl dX11_errorPosition_1 rfl)
    (e_each_cons (r_getI X (index := 30) (ci := 10) (k := 17) dX11_errorPosition_2 (by decide) (by decide) rfl w6_43 rfl)
    (e_each_cons (r_callV X rfl (τ := sg_X11_told) (index := 123) (ci := 10) dX11_errorPosition_5 (by decide) rfl w6_169 w6_171 ws_34 cs_X11_told rfl ⟨by decide, by decide⟩ rfl)
    (e_each_cons (r_ireti X dX11_errorPosition_8 rfl)
    (e_each_nil)))))
theorem dX11_byteAt_0 : decode cX11_byteAt 0 = .ok (.iload_n 1, 1) := by decide +kernel
theorem dX11_byteAt_1 : decode cX11_byteAt 1 = .ok (.aload_n 0, 1) := by decide +kernel
theorem dX11_byteAt_2 : decode cX11_byteAt 2 = .ok (.getfield 126, 3) := by decide +kernel
theorem dX11_byteAt_5 : decode cX11_byteAt 5 = .ok (.if_icmp .ge 12, 3) := by decide +kernel
theorem dX11_byteAt_8 : decode cX11_byteAt 8 = .ok (.aload_n 0, 1) := by decide +kernel
theorem dX11_byteAt_9 : decode cX11_byteAt 9 = .ok (.getfield 27, 3) := by decide +kernel
theorem dX11_byteAt_12 : decode cX11_byteAt 12 = .ok (.iload_n 1, 1) := by decide +kernel
theorem dX11_byteAt_13 : decode cX11_byteAt 13 = .ok (.iaload, 1) := by decide +kernel
theorem dX11_byteAt_14 : decode cX11_byteAt 14 = .ok (.goto 4, 3) := by decide +kernel
theorem dX11_byteAt_17 : decode cX11_byteAt 17 = .ok (.iconst (-1), 1) := by decide +kernel
theorem dX11_byteAt_18 : decode cX11_byteAt 18 = .ok (.ireturn, 1) := by decide +kernel
def pg_X11_byteAt (l : Launch) (g : EG) : List (Nat × ES) := [(0, s_ldI 1), (1, s_ldP 0), (2, s_getI 10 12), (5, s_icmp_ge 17), (8, s_ldP 0), (9, s_getP 10 9), (12, s_ldI 1), (13, s_iald), (14, s_goto 18), (17, s_c (.inl (-1))), (18, s_ireti)]
set_option maxRecDepth 100000 in
theorem ok_X11_byteAt {l : Launch} {g : EG} : e_okp l g sg_X11_byteAt "CalendarSyncModel" (pg_X11_byteAt l g) := fun p e R s m args below meth c ex M0 Q X =>
    e_each_cons (r_iload_n X (k := 1) (i := 1) rfl dX11_byteAt_0 rfl)
    (e_each_cons (r_aload_n X (k := 0) (i := 0) rfl dX11_byteAt_1 rfl)
    (e_each_cons (r_getI X (index := 126) (ci := 10) (k := 12) dX11_byteAt_2 (by decide) (by decide) rfl w6_38 rfl)
    (e_each_cons (r_icmp_ge X (off := 12) (t := 17) dX11_byteAt_5 (by decide) rfl)
    (e_each_cons (r_aload_n X (k := 0) (i := 0) rfl dX11_byteAt_8 rfl)
    (e_each_cons (r_getP X (index := 27) (ci := 10) (k := 9) dX11_byteAt_9 (by decide) (by decide) rfl w6_35 rfl)
    (e_each_cons (r_iload_n X (k := 1) (i := 1) rfl dX11_byteAt_12 rfl)
    (e_each_cons (r_iald X dX11_byteAt_13 rfl)
    (e_each_cons (r_goto X (off := 4) (t := 18) dX11_byteAt_14 (by decide))
    (e_each_cons (r_iconst X (n := (-1)) (v := (-1)) dX11_byteAt_17 (by decide) rfl)
    (e_each_cons (r_ireti X dX11_byteAt_18 rfl)
    (e_each_nil)))))))))))
theorem dX11_isLetter_0 : decode cX11_isLetter 0 = .ok (.iload_n 0, 1) := by decide +kernel
theorem dX11_isLetter_1 : decode cX11_isLetter 1 = .ok (.bipush 97, 2) := by decide +kernel
theorem dX11_isLetter_3 : decode cX11_isLetter 3 = .ok (.bipush 122, 2) := by decide +kernel
theorem dX11_isLetter_5 : decode cX11_isLetter 5 = .ok (.invokestatic 75, 3) := by decide +kernel
theorem dX11_isLetter_8 : decode cX11_isLetter 8 = .ok (.ireturn, 1) := by decide +kernel
def pg_X11_isLetter (l : Launch) (g : EG) : List (Nat × ES) := [(0, s_ldI 0), (1, s_c (.inl 97)), (3, s_c (.inl 122)), (5, s_callS l g sg_X11_isLetter sg_X11_in), (8, s_iretz)]
set_option maxRecDepth 100000 in
theorem ok_X11_isLetter {l : Launch} {g : EG} : e_okp l g sg_X11_isLetter "CalendarSyncModel" (pg_X11_isLetter l g) := fun p e R s m args below meth c ex M0 Q X =>
    e_each_cons (r_iload_n X (k := 0) (i := 0) rfl dX11_isLetter_0 rfl)
    (e_each_cons (r_bipush X (n := 97) (v := 97) dX11_isLetter_1 (by decide) rfl)
    (e_each_cons (r_bipush X (n := 122) (v := 122) dX11_isLetter_3 (by decide) rfl)
    (e_each_cons (r_callS X rfl (τ := sg_X11_in) (index := 75) dX11_isLetter_5 w6_127 w6_128 cs_X11_in rfl ⟨by decide, by decide⟩ rfl)
    (e_each_cons (r_iretz X dX11_isLetter_8 rfl)
    (e_each_nil)))))
theorem dX11_isDigit_0 : decode cX11_isDigit 0 = .ok (.iload_n 0, 1) := by decide +kernel
theorem dX11_isDigit_1 : decode cX11_isDigit 1 = .ok (.bipush 48, 2) := by decide +kernel
theorem dX11_isDigit_3 : decode cX11_isDigit 3 = .ok (.bipush 57, 2) := by decide +kernel
theorem dX11_isDigit_5 : decode cX11_isDigit 5 = .ok (.invokestatic 75, 3) := by decide +kernel
theorem dX11_isDigit_8 : decode cX11_isDigit 8 = .ok (.ireturn, 1) := by decide +kernel
def pg_X11_isDigit (l : Launch) (g : EG) : List (Nat × ES) := [(0, s_ldI 0), (1, s_c (.inl 48)), (3, s_c (.inl 57)), (5, s_callS l g sg_X11_isDigit sg_X11_in), (8, s_iretz)]
set_option maxRecDepth 100000 in
theorem ok_X11_isDigit {l : Launch} {g : EG} : e_okp l g sg_X11_isDigit "CalendarSyncModel" (pg_X11_isDigit l g) := fun p e R s m args below meth c ex M0 Q X =>
    e_each_cons (r_iload_n X (k := 0) (i := 0) rfl dX11_isDigit_0 rfl)
    (e_each_cons (r_bipush X (n := 48) (v := 48) dX11_isDigit_1 (by decide) rfl)
    (e_each_cons (r_bipush X (n := 57) (v := 57) dX11_isDigit_3 (by decide) rfl)
    (e_each_cons (r_callS X rfl (τ := sg_X11_in) (index := 75) dX11_isDigit_5 w6_127 w6_128 cs_X11_in rfl ⟨by decide, by decide⟩ rfl)
    (e_each_cons (r_iretz X dX11_isDigit_8 rfl)
    (e_each_nil)))))
theorem dX11_peek_0 : decode cX11_peek 0 = .ok (.aload_n 0, 1) := by decide +kernel
theorem dX11_peek_1 : decode cX11_peek 1 = .ok (.aload_n 0, 1) := by decide +kernel
theorem dX11_peek_2 : decode cX11_peek 2 = .ok (.getfield 129, 3) := by decide +kernel
theorem dX11_peek_5 : decode cX11_peek 5 = .ok (.invokevirtual 132, 3) := by decide +kernel
theorem dX11_peek_8 : decode cX11_peek 8 = .ok (.bipush 32, 2) := by decide +kernel
theorem dX11_peek_10 : decode cX11_peek 10 = .ok (.if_icmp .eq 16, 3) := by decide +kernel
theorem dX11_peek_13 : decode cX11_peek 13 = .ok (.aload_n 0, 1) := by decide +kernel
theorem dX11_peek_14 : decode cX11_peek 14 = .ok (.aload_n 0, 1) := by decide +kernel
theorem dX11_peek_15 : decode cX11_peek 15 = .ok (.getfield 129, 3) := by decide +kernel
theorem dX11_peek_18 : decode cX11_peek 18 = .ok (.invokevirtual 132, 3) := by decide +kernel
theorem dX11_peek_21 : decode cX11_peek 21 = .ok (.bipush 10, 2) := by decide +kernel
theorem dX11_peek_23 : decode cX11_peek 23 = .ok (.if_icmp .ne 16, 3) := by decide +kernel
theorem dX11_peek_26 : decode cX11_peek 26 = .ok (.aload_n 0, 1) := by decide +kernel
theorem dX11_peek_27 : decode cX11_peek 27 = .ok (.aload_n 0, 1) := by decide +kernel
theorem dX11_peek_28 : decode cX11_peek 28 = .ok (.getfield 129, 3) := by decide +kernel
theorem dX11_peek_31 : decode cX11_peek 31 = .ok (.iconst 1, 1) := by decide +kernel
theorem dX11_peek_32 : decode cX11_peek 32 = .ok (.iadd, 1) := by decide +kernel
theorem dX11_peek_33 : decode cX11_peek 33 = .ok (.putfield 129, 3) := by decide +kernel
theorem dX11_peek_36 : decode cX11_peek 36 = .ok (.goto (-36), 3) := by decide +kernel
theorem dX11_peek_39 : decode cX11_peek 39 = .ok (.aload_n 0, 1) := by decide +kernel
theorem dX11_peek_40 : decode cX11_peek 40 = .ok (.aload_n 0, 1) := by decide +kernel
theorem dX11_peek_41 : decode cX11_peek 41 = .ok (.getfield 129, 3) := by decide +kernel
theorem dX11_peek_44 : decode cX11_peek 44 = .ok (.putfield 135, 3) := by decide +kernel
theorem dX11_peek_47 : decode cX11_peek 47 = .ok (.aload_n 0, 1) := by decide +kernel
theorem dX11_peek_48 : decode cX11_peek 48 = .ok (.aload_n 0, 1) := by decide +kernel
theorem dX11_peek_49 : decode cX11_peek 49 = .ok (.getfield 129, 3) := by decide +kernel
theorem dX11_peek_52 : decode cX11_peek 52 = .ok (.invokevirtual 132, 3) := by decide +kernel
theorem dX11_peek_55 : decode cX11_peek 55 = .ok (.istore_n 1, 1) := by decide +kernel
theorem dX11_peek_56 : decode cX11_peek 56 = .ok (.aload_n 0, 1) := by decide +kernel
theorem dX11_peek_57 : decode cX11_peek 57 = .ok (.aload_n 0, 1) := by decide +kernel
theorem dX11_peek_58 : decode cX11_peek 58 = .ok (.getfield 129, 3) := by decide +kernel
theorem dX11_peek_61 : decode cX11_peek 61 = .ok (.iconst 1, 1) := by decide +kernel
theorem dX11_peek_62 : decode cX11_peek 62 = .ok (.iadd, 1) := by decide +kernel
theorem dX11_peek_63 : decode cX11_peek 63 = .ok (.putfield 138, 3) := by decide +kernel
theorem dX11_peek_66 : decode cX11_peek 66 = .ok (.iload_n 1, 1) := by decide +kernel
theorem dX11_peek_67 : decode cX11_peek 67 = .ok (.invokestatic 141, 3) := by decide +kernel
theorem dX11_peek_70 : decode cX11_peek 70 = .ok (.ifCond .eq 17, 3) := by decide +kernel
theorem dX11_peek_73 : decode cX11_peek 73 = .ok (.aload_n 0, 1) := by decide +kernel
theorem dX11_peek_74 : decode cX11_peek 74 = .ok (.aload_n 0, 1) := by decide +kernel
theorem dX11_peek_75 : decode cX11_peek 75 = .ok (.getfield 138, 3) := by decide +kernel
theorem dX11_peek_78 : decode cX11_peek 78 = .ok (.invokevirtual 132, 3) := by decide +kernel
theorem dX11_peek_81 : decode cX11_peek 81 = .ok (.invokestatic 141, 3) := by decide +kernel
theorem dX11_peek_84 : decode cX11_peek 84 = .ok (.ifCond .ne 24, 3) := by decide +kernel
theorem dX11_peek_87 : decode cX11_peek 87 = .ok (.iload_n 1, 1) := by decide +kernel
theorem dX11_peek_88 : decode cX11_peek 88 = .ok (.invokestatic 144, 3) := by decide +kernel
theorem dX11_peek_91 : decode cX11_peek 91 = .ok (.ifCond .eq 30, 3) := by decide +kernel
theorem dX11_peek_94 : decode cX11_peek 94 = .ok (.aload_n 0, 1) := by decide +kernel
theorem dX11_peek_95 : decode cX11_peek 95 = .ok (.aload_n 0, 1) := by decide +kernel
theorem dX11_peek_96 : decode cX11_peek 96 = .ok (.getfield 138, 3) := by decide +kernel
theorem dX11_peek_99 : decode cX11_peek 99 = .ok (.invokevirtual 132, 3) := by decide +kernel
theorem dX11_peek_102 : decode cX11_peek 102 = .ok (.invokestatic 144, 3) := by decide +kernel
theorem dX11_peek_105 : decode cX11_peek 105 = .ok (.ifCond .eq 16, 3) := by decide +kernel
theorem dX11_peek_108 : decode cX11_peek 108 = .ok (.aload_n 0, 1) := by decide +kernel
theorem dX11_peek_109 : decode cX11_peek 109 = .ok (.aload_n 0, 1) := by decide +kernel
theorem dX11_peek_110 : decode cX11_peek 110 = .ok (.getfield 138, 3) := by decide +kernel
theorem dX11_peek_113 : decode cX11_peek 113 = .ok (.iconst 1, 1) := by decide +kernel
theorem dX11_peek_114 : decode cX11_peek 114 = .ok (.iadd, 1) := by decide +kernel
theorem dX11_peek_115 : decode cX11_peek 115 = .ok (.putfield 138, 3) := by decide +kernel
theorem dX11_peek_118 : decode cX11_peek 118 = .ok (.goto (-52), 3) := by decide +kernel
theorem dX11_peek_121 : decode cX11_peek 121 = .ok (.iload_n 1, 1) := by decide +kernel
theorem dX11_peek_122 : decode cX11_peek 122 = .ok (.ireturn, 1) := by decide +kernel
def pg_X11_peek (l : Launch) (g : EG) : List (Nat × ES) := [(0, s_ldP 0), (1, s_ldP 0), (2, s_getI 10 11), (5, s_callV l g sg_X11_peek sg_X11_byteAt 10), (8, s_c (.inl 32)), (10, s_icmp_eq 26), (13, s_ldP 0), (14, s_ldP 0), (15, s_getI 10 11), (18, s_callV l g sg_X11_peek sg_X11_byteAt 10), (21, s_c (.inl 10)), (23, s_icmp_ne 39), (26, s_ldP 0), (27, s_ldP 0), (28, s_getI 10 11), (31, s_c (.inl 1)), (32, s_ii (fun x y => x + y)), (33, s_putI 10 11), (36, s_goto 0), (39, s_ldP 0), (40, s_ldP 0), (41, s_getI 10 11), (44, s_putI 10 13), (47, s_ldP 0), (48, s_ldP 0), (49, s_getI 10 11), (52, s_callV l g sg_X11_peek sg_X11_byteAt 10), (55, s_stI 1), (56, s_ldP 0), (57, s_ldP 0), (58, s_getI 10 11), (61, s_c (.inl 1)), (62, s_ii (fun x y => x + y)), (63, s_putI 10 14), (66, s_ldI 1), (67, s_callS l g sg_X11_peek sg_X11_isLetter), (70, s_if_eq 87), (73, s_ldP 0), (74, s_ldP 0), (75, s_getI 10 14), (78, s_callV l g sg_X11_peek sg_X11_byteAt 10), (81, s_callS l g sg_X11_peek sg_X11_isLetter), (84, s_if_ne 108), (87, s_ldI 1), (88, s_callS l g sg_X11_peek sg_X11_isDigit), (91, s_if_eq 121), (94, s_ldP 0), (95, s_ldP 0), (96, s_getI 10 14), (99, s_callV l g sg_X11_peek sg_X11_byteAt 10), (102, s_callS l g sg_X11_peek sg_X11_isDigit), (105, s_if_eq 121), (108, s_ldP 0), (109, s_ldP 0), (110, s_getI 10 14), (113, s_c (.inl 1)), (114, s_ii (fun x y => x + y)), (115, s_putI 10 14), (118, s_goto 66), (121, s_ldI 1), (122, s_ireti)]
set_option maxRecDepth 100000 in
theorem ok_X11_peek {l : Launch} {g : EG} : e_okp l g sg_X11_peek "CalendarSyncModel" (pg_X11_peek l g) := fun p e R s m args below meth c ex M0 Q X =>
    e_each_cons (r_aload_n X (k := 0) (i := 0) rfl dX11_peek_0 rfl)
    (e_each_cons (r_aload_n X (k := 0) (i := 0) rfl dX11_peek_1 rfl)
    (e_each_cons (r_getI X (index := 129) (ci := 10) (k := 11) dX11_peek_2 (by decide) (by decide) rfl w6_37 rfl)
    (e_each_cons (r_callV X rfl (τ := sg_X11_byteAt) (index := 132) (ci := 10) dX11_peek_5 (by decide) rfl w6_189 w6_191 ws_37 cs_X11_byteAt rfl ⟨by decide, by decide⟩ rfl)
    (e_each_cons (r_bipush X (n := 32) (v := 32) dX11_peek_8 (by decide) rfl)
    (e_each_cons (r_icmp_eq X (off := 16) (t := 26) dX11_peek_10 (by decide) rfl)
    (e_each_cons (r_aload_n X (k := 0) (i := 0) rfl dX11_peek_13 rfl)
    (e_each_cons (r_aload_n X (k := 0) (i := 0) rfl dX11_peek_14 rfl)
    (e_each_cons (r_getI X (index := 129) (ci := 10) (k := 11) dX11_peek_15 (by decide) (by decide) rfl w6_37 rfl)
    (e_each_cons (r_callV X rfl (τ := sg_X11_byteAt) (index := 132) (ci := 10) dX11_peek_18 (by decide) rfl w6_189 w6_191 ws_37 cs_X11_byteAt rfl ⟨by decide, by decide⟩ rfl)
    (e_each_cons (r_bipush X (n := 10) (v := 10) dX11_peek_21 (by decide) rfl)
    (e_each_cons (r_icmp_ne X (off := 16) (t := 39) dX11_peek_23 (by decide) rfl)
    (e_each_cons (r_aload_n X (k := 0) (i := 0) rfl dX11_peek_26 rfl)
    (e_each_cons (r_aload_n X (k := 0) (i := 0) rfl dX11_peek_27 rfl)
    (e_each_cons (r_getI X (index := 129) (ci := 10) (k := 11) dX11_peek_28 (by decide) (by decide) rfl w6_37 rfl)
    (e_each_cons (r_iconst X (n := 1) (v := 1) dX11_peek_31 (by decide) rfl)
    (e_each_cons (r_iadd X dX11_peek_32 rfl)
    (e_each_cons (r_putI X (index := 129) (ci := 10) (k := 11) dX11_peek_33 (by decide) (by decide) rfl rfl w6_37 rfl)
    (e_each_cons (r_goto X (off := (-36)) (t := 0) dX11_peek_36 (by decide))
    (e_each_cons (r_aload_n X (k := 0) (i := 0) rfl dX11_peek_39 rfl)
    (e_each_cons (r_aload_n X (k := 0) (i := 0) rfl dX11_peek_40 rfl)
    (e_each_cons (r_getI X (index := 129) (ci := 10) (k := 11) dX11_peek_41 (by decide) (by decide) rfl w6_37 rfl)
    (e_each_cons (r_putI X (index := 135) (ci := 10) (k := 13) dX11_peek_44 (by decide) (by decide) rfl rfl w6_39 rfl)
    (e_each_cons (r_aload_n X (k := 0) (i := 0) rfl dX11_peek_47 rfl)
    (e_each_cons (r_aload_n X (k := 0) (i := 0) rfl dX11_peek_48 rfl)
    (e_each_cons (r_getI X (index := 129) (ci := 10) (k := 11) dX11_peek_49 (by decide) (by decide) rfl w6_37 rfl)
    (e_each_cons (r_callV X rfl (τ := sg_X11_byteAt) (index := 132) (ci := 10) dX11_peek_52 (by decide) rfl w6_189 w6_191 ws_37 cs_X11_byteAt rfl ⟨by decide, by decide⟩ rfl)
    (e_each_cons (r_istore_n X (k := 1) (i := 1) rfl dX11_peek_55 (by decide) rfl)
    (e_each_cons (r_aload_n X (k := 0) (i := 0) rfl dX11_peek_56 rfl)
    (e_each_cons (r_aload_n X (k := 0) (i := 0) rfl dX11_peek_57 rfl)
    (e_each_cons (r_getI X (index := 129) (ci := 10) (k := 11) dX11_peek_58 (by decide) (by decide) rfl w6_37 rfl)
    (e_each_cons (r_iconst X (n := 1) (v := 1) dX11_peek_61 (by decide) rfl)
    (e_each_cons (r_iadd X dX11_peek_62 rfl)
    (e_each_cons (r_putI X (index := 138) (ci := 10) (k := 14) dX11_peek_63 (by decide) (by decide) rfl rfl w6_40 rfl)
    (e_each_cons (r_iload_n X (k := 1) (i := 1) rfl dX11_peek_66 rfl)
    (e_each_cons (r_callS X rfl (τ := sg_X11_isLetter) (index := 141) dX11_peek_67 w6_193 w6_194 cs_X11_isLetter rfl ⟨by decide, by decide⟩ rfl)
    (e_each_cons (r_if_eq X (off := 17) (t := 87) dX11_peek_70 (by decide) rfl)
    (e_each_cons (r_aload_n X (k := 0) (i := 0) rfl dX11_peek_73 rfl)
    (e_each_cons (r_aload_n X (k := 0) (i := 0) rfl dX11_peek_74 rfl)
    (e_each_cons (r_getI X (index := 138) (ci := 10) (k := 14) dX11_peek_75 (by decide) (by decide) rfl w6_40 rfl)
    (e_each_cons (r_callV X rfl (τ := sg_X11_byteAt) (index := 132) (ci := 10) dX11_peek_78 (by decide) rfl w6_189 w6_191 ws_37 cs_X11_byteAt rfl ⟨by decide, by decide⟩ rfl)
    (e_each_cons (r_callS X rfl (τ := sg_X11_isLetter) (index := 141) dX11_peek_81 w6_193 w6_194 cs_X11_isLetter rfl ⟨by decide, by decide⟩ rfl)
    (e_each_cons (r_if_ne X (off := 24) (t := 108) dX11_peek_84 (by decide) rfl)
    (e_each_cons (r_iload_n X (k := 1) (i := 1) rfl dX11_peek_87 rfl)
    (e_each_cons (r_callS X rfl (τ := sg_X11_isDigit) (index := 144) dX11_peek_88 w6_196 w6_197 cs_X11_isDigit rfl ⟨by decide, by decide⟩ rfl)
    (e_each_cons (r_if_eq X (off := 30) (t := 121) dX11_peek_91 (by decide) rfl)
    (e_each_cons (r_aload_n X (k := 0) (i := 0) rfl dX11_peek_94 rfl)
    (e_each_cons (r_aload_n X (k := 0) (i := 0) rfl dX11_peek_95 rfl)
    (e_each_cons (r_getI X (index := 138) (ci := 10) (k := 14) dX11_peek_96 (by decide) (by decide) rfl w6_40 rfl)
    (e_each_cons (r_callV X rfl (τ := sg_X11_byteAt) (index := 132) (ci := 10) dX11_peek_99 (by decide) rfl w6_189 w6_191 ws_37 cs_X11_byteAt rfl ⟨by decide, by decide⟩ rfl)
    (e_each_cons (r_callS X rfl (τ := sg_X11_isDigit) (index := 144) dX11_peek_102 w6_196 w6_197 cs_X11_isDigit rfl ⟨by decide, by decide⟩ rfl)
    (e_each_cons (r_if_eq X (off := 16) (t := 121) dX11_peek_105 (by decide) rfl)
    (e_each_cons (r_aload_n X (k := 0) (i := 0) rfl dX11_peek_108 rfl)
    (e_each_cons (r_aload_n X (k := 0) (i := 0) rfl dX11_peek_109 rfl)
    (e_each_cons (r_getI X (index := 138) (ci := 10) (k := 14) dX11_peek_110 (by decide) (by decide) rfl w6_40 rfl)
    (e_each_cons (r_iconst X (n := 1) (v := 1) dX11_peek_113 (by decide) rfl)
    (e_each_cons (r_iadd X dX11_peek_114 rfl)
    (e_each_cons (r_putI X (index := 138) (ci := 10) (k := 14) dX11_peek_115 (by decide) (by decide) rfl rfl w6_40 rfl)
    (e_each_cons (r_goto X (off := (-52)) (t := 66) dX11_peek_118 (by decide))
    (e_each_cons (r_iload_n X (k := 1) (i := 1) rfl dX11_peek_121 rfl)
    (e_each_cons (r_ireti X dX11_peek_122 rfl)
    (e_each_nil)))))))))))))))))))))))))))))))))))))))))))))))))))))))))))))
theorem dX11_fails_0 : decode cX11_fails 0 = .ok (.aload_n 0, 1) := by decide +kernel
theorem dX11_fails_1 : decode cX11_fails 1 = .ok (.iload_n 1, 1) := by decide +kernel
theorem dX11_fails_2 : decode cX11_fails 2 = .ok (.putfield 120, 3) := by decide +kernel
theorem dX11_fails_5 : decode cX11_fails 5 = .ok (.aload_n 0, 1) := by decide +kernel
theorem dX11_fails_6 : decode cX11_fails 6 = .ok (.aload_n 0, 1) := by decide +kernel
theorem dX11_fails_7 : decode cX11_fails 7 = .ok (.getfield 135, 3) := by decide +kernel
theorem dX11_fails_10 : decode cX11_fails 10 = .ok (.putfield 30, 3) := by decide +kernel
theorem dX11_fails_13 : decode cX11_fails 13 = .ok (.iconst 0, 1) := by decide +kernel
theorem dX11_fails_14 : decode cX11_fails 14 = .ok (.ireturn, 1) := by decide +kernel
def pg_X11_fails (l : Launch) (g : EG) : List (Nat × ES) := [(0, s_ldP 0), (1, s_ldI 1), (2, s_putI 10 16), (5, s_ldP 0), (6, s_ldP 0), (7, s_getI 10 13), (10, s_putI 10 17), (13, s_c (.inl 0)), (14, s_iretz)]
set_option maxRecDepth 100000 in
theorem ok_X11_fails {l : Launch} {g : EG} : e_okp l g sg_X11_fails "CalendarSyncModel" (pg_X11_fails l g) := fun p e R s m args below meth c ex M0 Q X =>
    e_each_cons (r_aload_n X (k := 0) (i := 0) rfl dX11_fails_0 rfl)
    (e_each_cons (r_iload_n X (k := 1) (i := 1) rfl dX11_fails_1 rfl)
    (e_each_cons (r_putI X (index := 120) (ci := 10) (k := 16) dX11_fails_2 (by decide) (by decide) rfl rfl w6_42 rfl)
    (e_each_cons (r_aload_n X (k := 0) (i := 0) rfl dX11_fails_5 rfl)
    (e_each_cons (r_aload_n X (k := 0) (i := 0) rfl dX11_fails_6 rfl)
    (e_each_cons (r_getI X (index := 135) (ci := 10) (k := 13) dX11_fails_7 (by decide) (by decide) rfl w6_39 rfl)
    (e_each_cons (r_putI X (index := 30) (ci := 10) (k := 17) dX11_fails_10 (by decide) (by decide) rfl rfl w6_43 rfl)
    (e_each_cons (r_iconst X (n := 0) (v := 0) dX11_fails_13 (by decide) rfl)
    (e_each_cons (r_iretz X dX11_fails_14 rfl)
    (e_each_nil)))))))))
theorem dX11_passes_0 : decode cX11_passes 0 = .ok (.aload_n 0, 1) := by decide +kernel
theorem dX11_passes_1 : decode cX11_passes 1 = .ok (.aload_n 0, 1) := by decide +kernel
theorem dX11_passes_2 : decode cX11_passes 2 = .ok (.getfield 138, 3) := by decide +kernel
theorem dX11_passes_5 : decode cX11_passes 5 = .ok (.putfield 129, 3) := by decide +kernel
theorem dX11_passes_8 : decode cX11_passes 8 = .ok (.iconst 1, 1) := by decide +kernel
theorem dX11_passes_9 : decode cX11_passes 9 = .ok (.ireturn, 1) := by decide +kernel
def pg_X11_passes (l : Launch) (g : EG) : List (Nat × ES) := [(0, s_ldP 0), (1, s_ldP 0), (2, s_getI 10 14), (5, s_putI 10 11), (8, s_c (.inl 1)), (9, s_iretz)]
set_option maxRecDepth 100000 in
theorem ok_X11_passes {l : Launch} {g : EG} : e_okp l g sg_X11_passes "CalendarSyncModel" (pg_X11_passes l g) := fun p e R s m args below meth c ex M0 Q X =>
    e_each_cons (r_aload_n X (k := 0) (i := 0) rfl dX11_passes_0 rfl)
    (e_each_cons (r_aload_n X (k := 0) (i := 0) rfl dX11_passes_1 rfl)
    (e_each_cons (r_getI X (index := 138) (ci := 10) (k := 14) dX11_passes_2 (by decide) (by decide) rfl w6_40 rfl)
    (e_each_cons (r_putI X (index := 129) (ci := 10) (k := 11) dX11_passes_5 (by decide) (by decide) rfl rfl w6_37 rfl)
    (e_each_cons (r_iconst X (n := 1) (v := 1) dX11_passes_8 (by decide) rfl)
    (e_each_cons (r_iretz X dX11_passes_9 rfl)
    (e_each_nil))))))
theorem dX11_letters_0 : decode cX11_letters 0 = .ok (.aload_n 0, 1) := by decide +kernel
theorem dX11_letters_1 : decode cX11_letters 1 = .ok (.getfield 138, 3) := by decide +kernel
theorem dX11_letters_4 : decode cX11_letters 4 = .ok (.aload_n 0, 1) := by decide +kernel
theorem dX11_letters_5 : decode cX11_letters 5 = .ok (.getfield 135, 3) := by decide +kernel
theorem dX11_letters_8 : decode cX11_letters 8 = .ok (.isub, 1) := by decide +kernel
theorem dX11_letters_9 : decode cX11_letters 9 = .ok (.ireturn, 1) := by decide +kernel
def pg_X11_letters (l : Launch) (g : EG) : List (Nat × ES) := [(0, s_ldP 0), (1, s_getI 10 14), (4, s_ldP 0), (5, s_getI 10 13), (8, s_ii (fun x y => x - y)), (9, s_ireti)]
set_option maxRecDepth 100000 in
theorem ok_X11_letters {l : Launch} {g : EG} : e_okp l g sg_X11_letters "CalendarSyncModel" (pg_X11_letters l g) := fun p e R s m args below meth c ex M0 Q X =>
    e_each_cons (r_aload_n X (k := 0) (i := 0) rfl dX11_letters_0 rfl)
    (e_each_cons (r_getI X (index := 138) (ci := 10) (k := 14) dX11_letters_1 (by decide) (by decide) rfl w6_40 rfl)
    (e_each_cons (r_aload_n X (k := 0) (i := 0) rfl dX11_letters_4 rfl)
    (e_each_cons (r_getI X (index := 135) (ci := 10) (k := 13) dX11_letters_5 (by decide) (by decide) rfl w6_39 rfl)
    (e_each_cons (r_isub X dX11_letters_8 rfl)
    (e_each_cons (r_ireti X dX11_letters_9 rfl)
    (e_each_nil))))))
theorem dX11_nextWord_0 : decode cX11_nextWord 0 = .ok (.aload_n 0, 1) := by decide +kernel
theorem dX11_nextWord_1 : decode cX11_nextWord 1 = .ok (.invokevirtual 147, 3) := by decide +kernel
theorem dX11_nextWord_4 : decode cX11_nextWord 4 = .ok (.invokestatic 141, 3) := by decide +kernel
theorem dX11_nextWord_7 : decode cX11_nextWord 7 = .ok (.ifCond .ne 5, 3) := by decide +kernel
theorem dX11_nextWord_10 : decode cX11_nextWord 10 = .ok (.lconst 0, 1) := by decide +kernel
theorem dX11_nextWord_11 : decode cX11_nextWord 11 = .ok (.lreturn, 1) := by decide +kernel
theorem dX11_nextWord_12 : decode cX11_nextWord 12 = .ok (.lconst 0, 1) := by decide +kernel
theorem dX11_nextWord_13 : decode cX11_nextWord 13 = .ok (.lstore_n 1, 1) := by decide +kernel
theorem dX11_nextWord_14 : decode cX11_nextWord 14 = .ok (.aload_n 0, 1) := by decide +kernel
theorem dX11_nextWord_15 : decode cX11_nextWord 15 = .ok (.getfield 135, 3) := by decide +kernel
theorem dX11_nextWord_18 : decode cX11_nextWord 18 = .ok (.istore_n 3, 1) := by decide +kernel
theorem dX11_nextWord_19 : decode cX11_nextWord 19 = .ok (.iload_n 3, 1) := by decide +kernel
theorem dX11_nextWord_20 : decode cX11_nextWord 20 = .ok (.aload_n 0, 1) := by decide +kernel
theorem dX11_nextWord_21 : decode cX11_nextWord 21 = .ok (.getfield 138, 3) := by decide +kernel
theorem dX11_nextWord_24 : decode cX11_nextWord 24 = .ok (.if_icmp .ge 35, 3) := by decide +kernel
theorem dX11_nextWord_27 : decode cX11_nextWord 27 = .ok (.aload_n 0, 1) := by decide +kernel
theorem dX11_nextWord_28 : decode cX11_nextWord 28 = .ok (.invokevirtual 151, 3) := by decide +kernel
theorem dX11_nextWord_31 : decode cX11_nextWord 31 = .ok (.bipush 8, 2) := by decide +kernel
theorem dX11_nextWord_33 : decode cX11_nextWord 33 = .ok (.if_icmp .gt 26, 3) := by decide +kernel
theorem dX11_nextWord_36 : decode cX11_nextWord 36 = .ok (.ldc2_w 154, 3) := by decide +kernel
theorem dX11_nextWord_39 : decode cX11_nextWord 39 = .ok (.lload_n 1, 1) := by decide +kernel
theorem dX11_nextWord_40 : decode cX11_nextWord 40 = .ok (.lmul, 1) := by decide +kernel
theorem dX11_nextWord_41 : decode cX11_nextWord 41 = .ok (.aload_n 0, 1) := by decide +kernel
theorem dX11_nextWord_42 : decode cX11_nextWord 42 = .ok (.iload_n 3, 1) := by decide +kernel
theorem dX11_nextWord_43 : decode cX11_nextWord 43 = .ok (.invokevirtual 132, 3) := by decide +kernel
theorem dX11_nextWord_46 : decode cX11_nextWord 46 = .ok (.i2l, 1) := by decide +kernel
theorem dX11_nextWord_47 : decode cX11_nextWord 47 = .ok (.ladd, 1) := by decide +kernel
theorem dX11_nextWord_48 : decode cX11_nextWord 48 = .ok (.ldc2_w 156, 3) := by decide +kernel
theorem dX11_nextWord_51 : decode cX11_nextWord 51 = .ok (.lsub, 1) := by decide +kernel
theorem dX11_nextWord_52 : decode cX11_nextWord 52 = .ok (.lstore_n 1, 1) := by decide +kernel
theorem dX11_nextWord_53 : decode cX11_nextWord 53 = .ok (.iinc 3 1, 3) := by decide +kernel
theorem dX11_nextWord_56 : decode cX11_nextWord 56 = .ok (.goto (-37), 3) := by decide +kernel
theorem dX11_nextWord_59 : decode cX11_nextWord 59 = .ok (.lload_n 1, 1) := by decide +kernel
theorem dX11_nextWord_60 : decode cX11_nextWord 60 = .ok (.lreturn, 1) := by decide +kernel
def pg_X11_nextWord (l : Launch) (g : EG) : List (Nat × ES) := [(0, s_ldP 0), (1, s_callV l g sg_X11_nextWord sg_X11_peek 10), (4, s_callS l g sg_X11_nextWord sg_X11_isLetter), (7, s_if_ne 12), (10, s_c (.inr (.inl 0))), (11, s_lret), (12, s_c (.inr (.inl 0))), (13, s_stL 1), (14, s_ldP 0), (15, s_getI 10 13), (18, s_stI 3), (19, s_ldI 3), (20, s_ldP 0), (21, s_getI 10 14), (24, s_icmp_ge 59), (27, s_ldP 0), (28, s_callV l g sg_X11_nextWord sg_X11_letters 10), (31, s_c (.inl 8)), (33, s_icmp_gt 59), (36, s_c (.inr (.inl 32))), (39, s_ldL 1), (40, s_ll (fun x y => x * y)), (41, s_ldP 0), (42, s_ldI 3), (43, s_callV l g sg_X11_nextWord sg_X11_byteAt 10), (46, s_il (fun x => x.toInt64)), (47, s_ll (fun x y => x + y)), (48, s_c (.inr (.inl 96))), (51, s_ll (fun x y => x - y)), (52, s_stL 1), (53, s_iinc 3 1), (56, s_goto 19), (59, s_ldL 1), (60, s_lret)]
set_option maxRecDepth 100000 in
theorem ok_X11_nextWord {l : Launch} {g : EG} : e_okp l g sg_X11_nextWord "CalendarSyncModel" (pg_X11_nextWord l g) := fun p e R s m args below meth c ex M0 Q X =>
    e_each_cons (r_aload_n X (k := 0) (i := 0) rfl dX11_nextWord_0 rfl)
    (e_each_cons (r_callV X rfl (τ := sg_X11_peek) (index := 147) (ci := 10) dX11_nextWord_1 (by decide) rfl w6_185 w6_187 ws_36 cs_X11_peek rfl ⟨by decide, by decide⟩ rfl)
    (e_each_cons (r_callS X rfl (τ := sg_X11_isLetter) (index := 141) dX11_nextWord_4 w6_193 w6_194 cs_X11_isLetter rfl ⟨by decide, by decide⟩ rfl)
    (e_each_cons (r_if_ne X (off := 5) (t := 12) dX11_nextWord_7 (by decide) rfl)
    (e_each_cons (r_lconst X (n := 0) (v := 0) dX11_nextWord_10 (by decide) rfl)
    (e_each_cons (r_lret X dX11_nextWord_11 rfl)
    (e_each_cons (r_lconst X (n := 0) (v := 0) dX11_nextWord_12 (by decide) rfl)
    (e_each_cons (r_lstore_n X (k := 1) (i := 1) rfl dX11_nextWord_13 (by decide) rfl)
    (e_each_cons (r_aload_n X (k := 0) (i := 0) rfl dX11_nextWord_14 rfl)
    (e_each_cons (r_getI X (index := 135) (ci := 10) (k := 13) dX11_nextWord_15 (by decide) (by decide) rfl w6_39 rfl)
    (e_each_cons (r_istore_n X (k := 3) (i := 3) rfl dX11_nextWord_18 (by decide) rfl)
    (e_each_cons (r_iload_n X (k := 3) (i := 3) rfl dX11_nextWord_19 rfl)
    (e_each_cons (r_aload_n X (k := 0) (i := 0) rfl dX11_nextWord_20 rfl)
    (e_each_cons (r_getI X (index := 138) (ci := 10) (k := 14) dX11_nextWord_21 (by decide) (by decide) rfl w6_40 rfl)
    (e_each_cons (r_icmp_ge X (off := 35) (t := 59) dX11_nextWord_24 (by decide) rfl)
    (e_each_cons (r_aload_n X (k := 0) (i := 0) rfl dX11_nextWord_27 rfl)
    (e_each_cons (r_callV X rfl (τ := sg_X11_letters) (index := 151) (ci := 10) dX11_nextWord_28 (by decide) rfl w6_207 w6_209 ws_40 cs_X11_letters rfl ⟨by decide, by decide⟩ rfl)
    (e_each_cons (r_bipush X (n := 8) (v := 8) dX11_nextWord_31 (by decide) rfl)
    (e_each_cons (r_icmp_gt X (off := 26) (t := 59) dX11_nextWord_33 (by decide) rfl)
    (e_each_cons (r_ldc2 X (n := 154) (v := 32) dX11_nextWord_36 w6_211 rfl)
    (e_each_cons (r_lload_n X (k := 1) (i := 1) rfl dX11_nextWord_39 rfl)
    (e_each_cons (r_lmul X dX11_nextWord_40 rfl)
    (e_each_cons (r_aload_n X (k := 0) (i := 0) rfl dX11_nextWord_41 rfl)
    (e_each_cons (r_iload_n X (k := 3) (i := 3) rfl dX11_nextWord_42 rfl)
    (e_each_cons (r_callV X rfl (τ := sg_X11_byteAt) (index := 132) (ci := 10) dX11_nextWord_43 (by decide) rfl w6_189 w6_191 ws_37 cs_X11_byteAt rfl ⟨by decide, by decide⟩ rfl)
    (e_each_cons (r_i2l X dX11_nextWord_46 rfl)
    (e_each_cons (r_ladd X dX11_nextWord_47 rfl)
    (e_each_cons (r_ldc2 X (n := 156) (v := 96) dX11_nextWord_48 w6_212 rfl)
    (e_each_cons (r_lsub X dX11_nextWord_51 rfl)
    (e_each_cons (r_lstore_n X (k := 1) (i := 1) rfl dX11_nextWord_52 (by decide) rfl)
    (e_each_cons (r_iinc X (i := 3) (n := 1) (d := 1) dX11_nextWord_53 (by decide) (by decide) rfl)
    (e_each_cons (r_goto X (off := (-37)) (t := 19) dX11_nextWord_56 (by decide))
    (e_each_cons (r_lload_n X (k := 1) (i := 1) rfl dX11_nextWord_59 rfl)
    (e_each_cons (r_lret X dX11_nextWord_60 rfl)
    (e_each_nil))))))))))))))))))))))))))))))))))
theorem dX11_passesWord_0 : decode cX11_passesWord 0 = .ok (.aload_n 0, 1) := by decide +kernel
theorem dX11_passesWord_1 : decode cX11_passesWord 1 = .ok (.invokevirtual 158, 3) := by decide +kernel
theorem dX11_passesWord_4 : decode cX11_passesWord 4 = .ok (.lload_n 1, 1) := by decide +kernel
theorem dX11_passesWord_5 : decode cX11_passesWord 5 = .ok (.lcmp, 1) := by decide +kernel
theorem dX11_passesWord_6 : decode cX11_passesWord 6 = .ok (.ifCond .ne 14, 3) := by decide +kernel
theorem dX11_passesWord_9 : decode cX11_passesWord 9 = .ok (.aload_n 0, 1) := by decide +kernel
theorem dX11_passesWord_10 : decode cX11_passesWord 10 = .ok (.invokevirtual 162, 3) := by decide +kernel
theorem dX11_passesWord_13 : decode cX11_passesWord 13 = .ok (.ifCond .eq 7, 3) := by decide +kernel
theorem dX11_passesWord_16 : decode cX11_passesWord 16 = .ok (.iconst 1, 1) := by decide +kernel
theorem dX11_passesWord_17 : decode cX11_passesWord 17 = .ok (.goto 4, 3) := by decide +kernel
theorem dX11_passesWord_20 : decode cX11_passesWord 20 = .ok (.iconst 0, 1) := by decide +kernel
theorem dX11_passesWord_21 : decode cX11_passesWord 21 = .ok (.ireturn, 1) := by decide +kernel
def pg_X11_passesWord (l : Launch) (g : EG) : List (Nat × ES) := [(0, s_ldP 0), (1, s_callV l g sg_X11_passesWord sg_X11_nextWord 10), (4, s_ldL 1), (5, s_lc lg_cmp), (6, s_if_ne 20), (9, s_ldP 0), (10, s_callV l g sg_X11_passesWord sg_X11_passes 10), (13, s_if_eq 20), (16, s_c (.inl 1)), (17, s_goto 21), (20, s_c (.inl 0)), (21, s_iretz)]
set_option maxRecDepth 100000 in
theorem ok_X11_passesWord {l : Launch} {g : EG} : e_okp l g sg_X11_passesWord "CalendarSyncModel" (pg_X11_passesWord l g) := fun p e R s m args below meth c ex M0 Q X =>
    e_each_cons (r_aload_n X (k := 0) (i := 0) rfl dX11_passesWord_0 rfl)
    (e_each_cons (r_callV X rfl (τ := sg_X11_nextWord) (index := 158) (ci := 10) dX11_passesWord_1 (by decide) rfl w6_203 w6_205 ws_39 cs_X11_nextWord rfl ⟨by decide, by decide⟩ rfl)
    (e_each_cons (r_lload_n X (k := 1) (i := 1) rfl dX11_passesWord_4 rfl)
    (e_each_cons (r_lcmp X dX11_passesWord_5 rfl)
    (e_each_cons (r_if_ne X (off := 14) (t := 20) dX11_passesWord_6 (by decide) rfl)
    (e_each_cons (r_aload_n X (k := 0) (i := 0) rfl dX11_passesWord_9 rfl)
    (e_each_cons (r_callV X rfl (τ := sg_X11_passes) (index := 162) (ci := 10) dX11_passesWord_10 (by decide) rfl w6_219 w6_221 ws_42 cs_X11_passes rfl ⟨by decide, by decide⟩ rfl)
    (e_each_cons (r_if_eq X (off := 7) (t := 20) dX11_passesWord_13 (by decide) rfl)
    (e_each_cons (r_iconst X (n := 1) (v := 1) dX11_passesWord_16 (by decide) rfl)
    (e_each_cons (r_goto X (off := 4) (t := 21) dX11_passesWord_17 (by decide))
    (e_each_cons (r_iconst X (n := 0) (v := 0) dX11_passesWord_20 (by decide) rfl)
    (e_each_cons (r_iretz X dX11_passesWord_21 rfl)
    (e_each_nil))))))))))))
theorem dX11_looksNumber_0 : decode cX11_looksNumber 0 = .ok (.aload_n 0, 1) := by decide +kernel
theorem dX11_looksNumber_1 : decode cX11_looksNumber 1 = .ok (.invokevirtual 147, 3) := by decide +kernel
theorem dX11_looksNumber_4 : decode cX11_looksNumber 4 = .ok (.invokestatic 144, 3) := by decide +kernel
theorem dX11_looksNumber_7 : decode cX11_looksNumber 7 = .ok (.ifCond .eq 11, 3) := by decide +kernel
theorem dX11_looksNumber_10 : decode cX11_looksNumber 10 = .ok (.aload_n 0, 1) := by decide +kernel
theorem dX11_looksNumber_11 : decode cX11_looksNumber 11 = .ok (.invokevirtual 151, 3) := by decide +kernel
theorem dX11_looksNumber_14 : decode cX11_looksNumber 14 = .ok (.iconst 4, 1) := by decide +kernel
theorem dX11_looksNumber_15 : decode cX11_looksNumber 15 = .ok (.if_icmp .le 9, 3) := by decide +kernel
theorem dX11_looksNumber_18 : decode cX11_looksNumber 18 = .ok (.aload_n 0, 1) := by decide +kernel
theorem dX11_looksNumber_19 : decode cX11_looksNumber 19 = .ok (.iconst 1, 1) := by decide +kernel
theorem dX11_looksNumber_20 : decode cX11_looksNumber 20 = .ok (.invokevirtual 166, 3) := by decide +kernel
theorem dX11_looksNumber_23 : decode cX11_looksNumber 23 = .ok (.ireturn, 1) := by decide +kernel
theorem dX11_looksNumber_24 : decode cX11_looksNumber 24 = .ok (.aload_n 0, 1) := by decide +kernel
theorem dX11_looksNumber_25 : decode cX11_looksNumber 25 = .ok (.iconst 0, 1) := by decide +kernel
theorem dX11_looksNumber_26 : decode cX11_looksNumber 26 = .ok (.putfield 169, 3) := by decide +kernel
theorem dX11_looksNumber_29 : decode cX11_looksNumber 29 = .ok (.aload_n 0, 1) := by decide +kernel
theorem dX11_looksNumber_30 : decode cX11_looksNumber 30 = .ok (.getfield 135, 3) := by decide +kernel
theorem dX11_looksNumber_33 : decode cX11_looksNumber 33 = .ok (.istore_n 3, 1) := by decide +kernel
theorem dX11_looksNumber_34 : decode cX11_looksNumber 34 = .ok (.iload_n 3, 1) := by decide +kernel
theorem dX11_looksNumber_35 : decode cX11_looksNumber 35 = .ok (.aload_n 0, 1) := by decide +kernel
theorem dX11_looksNumber_36 : decode cX11_looksNumber 36 = .ok (.getfield 138, 3) := by decide +kernel
theorem dX11_looksNumber_39 : decode cX11_looksNumber 39 = .ok (.if_icmp .ge 29, 3) := by decide +kernel
theorem dX11_looksNumber_42 : decode cX11_looksNumber 42 = .ok (.aload_n 0, 1) := by decide +kernel
theorem dX11_looksNumber_43 : decode cX11_looksNumber 43 = .ok (.bipush 10, 2) := by decide +kernel
theorem dX11_looksNumber_45 : decode cX11_looksNumber 45 = .ok (.aload_n 0, 1) := by decide +kernel
theorem dX11_looksNumber_46 : decode cX11_looksNumber 46 = .ok (.getfield 169, 3) := by decide +kernel
theorem dX11_looksNumber_49 : decode cX11_looksNumber 49 = .ok (.imul, 1) := by decide +kernel
theorem dX11_looksNumber_50 : decode cX11_looksNumber 50 = .ok (.aload_n 0, 1) := by decide +kernel
theorem dX11_looksNumber_51 : decode cX11_looksNumber 51 = .ok (.iload_n 3, 1) := by decide +kernel
theorem dX11_looksNumber_52 : decode cX11_looksNumber 52 = .ok (.invokevirtual 132, 3) := by decide +kernel
theorem dX11_looksNumber_55 : decode cX11_looksNumber 55 = .ok (.iadd, 1) := by decide +kernel
theorem dX11_looksNumber_56 : decode cX11_looksNumber 56 = .ok (.bipush 48, 2) := by decide +kernel
theorem dX11_looksNumber_58 : decode cX11_looksNumber 58 = .ok (.isub, 1) := by decide +kernel
theorem dX11_looksNumber_59 : decode cX11_looksNumber 59 = .ok (.putfield 169, 3) := by decide +kernel
theorem dX11_looksNumber_62 : decode cX11_looksNumber 62 = .ok (.iinc 3 1, 3) := by decide +kernel
theorem dX11_looksNumber_65 : decode cX11_looksNumber 65 = .ok (.goto (-31), 3) := by decide +kernel
theorem dX11_looksNumber_68 : decode cX11_looksNumber 68 = .ok (.aload_n 0, 1) := by decide +kernel
theorem dX11_looksNumber_69 : decode cX11_looksNumber 69 = .ok (.getfield 169, 3) := by decide +kernel
theorem dX11_looksNumber_72 : decode cX11_looksNumber 72 = .ok (.iload_n 1, 1) := by decide +kernel
theorem dX11_looksNumber_73 : decode cX11_looksNumber 73 = .ok (.iload_n 2, 1) := by decide +kernel
theorem dX11_looksNumber_74 : decode cX11_looksNumber 74 = .ok (.invokestatic 75, 3) := by decide +kernel
theorem dX11_looksNumber_77 : decode cX11_looksNumber 77 = .ok (.ifCond .ne 11, 3) := by decide +kernel
theorem dX11_looksNumber_80 : decode cX11_looksNumber 80 = .ok (.aload_n 0, 1) := by decide +kernel
theorem dX11_looksNumber_81 : decode cX11_looksNumber 81 = .ok (.iconst 2, 1) := by decide +kernel
theorem dX11_looksNumber_82 : decode cX11_looksNumber 82 = .ok (.invokevirtual 166, 3) := by decide +kernel
theorem dX11_looksNumber_85 : decode cX11_looksNumber 85 = .ok (.ifCond .eq 7, 3) := by decide +kernel
theorem dX11_looksNumber_88 : decode cX11_looksNumber 88 = .ok (.iconst 1, 1) := by decide +kernel
theorem dX11_looksNumber_89 : decode cX11_looksNumber 89 = .ok (.goto 4, 3) := by decide +kernel
theorem dX11_looksNumber_92 : decode cX11_looksNumber 92 = .ok (.iconst 0, 1) := by decide +kernel
theorem dX11_looksNumber_93 : decode cX11_looksNumber 93 = .ok (.ireturn, 1) := by decide +kernel
def pg_X11_looksNumber (l : Launch) (g : EG) : List (Nat × ES) := [(0, s_ldP 0), (1, s_callV l g sg_X11_looksNumber sg_X11_peek 10), (4, s_callS l g sg_X11_looksNumber sg_X11_isDigit), (7, s_if_eq 18), (10, s_ldP 0), (11, s_callV l g sg_X11_looksNumber sg_X11_letters 10), (14, s_c (.inl 4)), (15, s_icmp_le 24), (18, s_ldP 0), (19, s_c (.inl 1)), (20, s_callV l g sg_X11_looksNumber sg_X11_fails 10), (23, s_iretz), (24, s_ldP 0), (25, s_c (.inl 0)), (26, s_putI 10 15), (29, s_ldP 0), (30, s_getI 10 13), (33, s_stI 3), (34, s_ldI 3), (35, s_ldP 0), (36, s_getI 10 14), (39, s_icmp_ge 68), (42, s_ldP 0), (43, s_c (.inl 10)), (45, s_ldP 0), (46, s_getI 10 15), (49, s_ii (fun x y => x * y)), (50, s_ldP 0), (51, s_ldI 3), (52, s_callV l g sg_X11_looksNumber sg_X11_byteAt 10), (55, s_ii (fun x y => x + y)), (56, s_c (.inl 48)), (58, s_ii (fun x y => x - y)), (59, s_putI 10 15), (62, s_iinc 3 1), (65, s_goto 34), (68, s_ldP 0), (69, s_getI 10 15), (72, s_ldI 1), (73, s_ldI 2), (74, s_callS l g sg_X11_looksNumber sg_X11_in), (77, s_if_ne 88), (80, s_ldP 0), (81, s_c (.inl 2)), (82, s_callV l g sg_X11_looksNumber sg_X11_fails 10), (85, s_if_eq 92), (88, s_c (.inl 1)), (89, s_goto 93), (92, s_c (.inl 0)), (93, s_iretz)]
set_option maxRecDepth 100000 in
theorem ok_X11_looksNumber {l : Launch} {g : EG} : e_okp l g sg_X11_looksNumber "CalendarSyncModel" (pg_X11_looksNumber l g) := fun p e R s m args below meth c ex M0 Q X =>
    e_each_cons (r_aload_n X (k := 0) (i := 0) rfl dX11_looksNumber_0 rfl)
    (e_each_cons (r_callV X rfl (τ := sg_X11_peek) (index := 147) (ci := 10) dX11_looksNumber_1 (by decide) rfl w6_185 w6_187 ws_36 cs_X11_peek rfl ⟨by decide, by decide⟩ rfl)
    (e_each_cons (r_callS X rfl (τ := sg_X11_isDigit) (index := 144) dX11_looksNumber_4 w6_196 w6_197 cs_X11_isDigit rfl ⟨by decide, by decide⟩ rfl)
    (e_each_cons (r_if_eq X (off := 11) (t := 18) dX11_looksNumber_7 (by decide) rfl)
    (e_each_cons (r_aload_n X (k := 0) (i := 0) rfl dX11_looksNumber_10 rfl)
    (e_each_cons (r_callV X rfl (τ := sg_X11_letters) (index := 151) (ci := 10) dX11_looksNumber_11 (by decide) rfl w6_207 w6_209 ws_40 cs_X11_letters rfl ⟨by decide, by decide⟩ rfl)
    (e_each_cons (r_iconst X (n := 4) (v := 4) dX11_looksNumber_14 (by decide) rfl)
    (e_each_cons (r_icmp_le X (off := 9) (t := 24) dX11_looksNumber_15 (by decide) rfl)
    (e_each_cons (r_aload_n X (k := 0) (i := 0) rfl dX11_looksNumber_18 rfl)
    (e_each_cons (r_iconst X (n := 1) (v := 1) dX11_looksNumber_19 (by decide) rfl)
    (e_each_cons (r_callV X rfl (τ := sg_X11_fails) (index := 166) (ci := 10) dX11_looksNumber_20 (by decide) rfl w6_215 w6_217 ws_41 cs_X11_fails rfl ⟨by decide, by decide⟩ rfl)
    (e_each_cons (r_iretz X dX11_looksNumber_23 rfl)
    (e_each_cons (r_aload_n X (k := 0) (i := 0) rfl dX11_looksNumber_24 rfl)
    (e_each_cons (r_iconst X (n := 0) (v := 0) dX11_looksNumber_25 (by decide) rfl)
    (e_each_cons (r_putI X (index := 169) (ci := 10) (k := 15) dX11_looksNumber_26 (by decide) (by decide) rfl rfl w6_41 rfl)
    (e_each_cons (r_aload_n X (k := 0) (i := 0) rfl dX11_looksNumber_29 rfl)
    (e_each_cons (r_getI X (index := 135) (ci := 10) (k := 13) dX11_looksNumber_30 (by decide) (by decide) rfl w6_39 rfl)
    (e_each_cons (r_istore_n X (k := 3) (i := 3) rfl dX11_looksNumber_33 (by decide) rfl)
    (e_each_cons (r_iload_n X (k := 3) (i := 3) rfl dX11_looksNumber_34 rfl)
    (e_each_cons (r_aload_n X (k := 0) (i := 0) rfl dX11_looksNumber_35 rfl)
    (e_each_cons (r_getI X (index := 138) (ci := 10) (k := 14) dX11_looksNumber_36 (by decide) (by decide) rfl w6_40 rfl)
    (e_each_cons (r_icmp_ge X (off := 29) (t := 68) dX11_looksNumber_39 (by decide) rfl)
    (e_each_cons (r_aload_n X (k := 0) (i := 0) rfl dX11_looksNumber_42 rfl)
    (e_each_cons (r_bipush X (n := 10) (v := 10) dX11_looksNumber_43 (by decide) rfl)
    (e_each_cons (r_aload_n X (k := 0) (i := 0) rfl dX11_looksNumber_45 rfl)
    (e_each_cons (r_getI X (index := 169) (ci := 10) (k := 15) dX11_looksNumber_46 (by decide) (by decide) rfl w6_41 rfl)
    (e_each_cons (r_imul X dX11_looksNumber_49 rfl)
    (e_each_cons (r_aload_n X (k := 0) (i := 0) rfl dX11_looksNumber_50 rfl)
    (e_each_cons (r_iload_n X (k := 3) (i := 3) rfl dX11_looksNumber_51 rfl)
    (e_each_cons (r_callV X rfl (τ := sg_X11_byteAt) (index := 132) (ci := 10) dX11_looksNumber_52 (by decide) rfl w6_189 w6_191 ws_37 cs_X11_byteAt rfl ⟨by decide, by decide⟩ rfl)
    (e_each_cons (r_iadd X dX11_looksNumber_55 rfl)
    (e_each_cons (r_bipush X (n := 48) (v := 48) dX11_looksNumber_56 (by decide) rfl)
    (e_each_cons (r_isub X dX11_looksNumber_58 rfl)
    (e_each_cons (r_putI X (index := 169) (ci := 10) (k := 15) dX11_looksNumber_59 (by decide) (by decide) rfl rfl w6_41 rfl)
    (e_each_cons (r_iinc X (i := 3) (n := 1) (d := 1) dX11_looksNumber_62 (by decide) (by decide) rfl)
    (e_each_cons (r_goto X (off := (-31)) (t := 34) dX11_looksNumber_65 (by decide))
    (e_each_cons (r_aload_n X (k := 0) (i := 0) rfl dX11_looksNumber_68 rfl)
    (e_each_cons (r_getI X (index := 169) (ci := 10) (k := 15) dX11_looksNumber_69 (by decide) (by decide) rfl w6_41 rfl)
    (e_each_cons (r_iload_n X (k := 1) (i := 1) rfl dX11_looksNumber_72 rfl)
    (e_each_cons (r_iload_n X (k := 2) (i := 2) rfl dX11_looksNumber_73 rfl)
    (e_each_cons (r_callS X rfl (τ := sg_X11_in) (index := 75) dX11_looksNumber_74 w6_127 w6_128 cs_X11_in rfl ⟨by decide, by decide⟩ rfl)
    (e_each_cons (r_if_ne X (off := 11) (t := 88) dX11_looksNumber_77 (by decide) rfl)
    (e_each_cons (r_aload_n X (k := 0) (i := 0) rfl dX11_looksNumber_80 rfl)
    (e_each_cons (r_iconst X (n := 2) (v := 2) dX11_looksNumber_81 (by decide) rfl)
    (e_each_cons (r_callV X rfl (τ := sg_X11_fails) (index := 166) (ci := 10) dX11_looksNumber_82 (by decide) rfl w6_215 w6_217 ws_41 cs_X11_fails rfl ⟨by decide, by decide⟩ rfl)
    (e_each_cons (r_if_eq X (off := 7) (t := 92) dX11_looksNumber_85 (by decide) rfl)
    (e_each_cons (r_iconst X (n := 1) (v := 1) dX11_looksNumber_88 (by decide) rfl)
    (e_each_cons (r_goto X (off := 4) (t := 93) dX11_looksNumber_89 (by decide))
    (e_each_cons (r_iconst X (n := 0) (v := 0) dX11_looksNumber_92 (by decide) rfl)
    (e_each_cons (r_iretz X dX11_looksNumber_93 rfl)
    (e_each_nil))))))))))))))))))))))))))))))))))))))))))))))))))
theorem dX11_readNumber_0 : decode cX11_readNumber 0 = .ok (.aload_n 0, 1) := by decide +kernel
theorem dX11_readNumber_1 : decode cX11_readNumber 1 = .ok (.iload_n 1, 1) := by decide +kernel
theorem dX11_readNumber_2 : decode cX11_readNumber 2 = .ok (.iload_n 2, 1) := by decide +kernel
theorem dX11_readNumber_3 : decode cX11_readNumber 3 = .ok (.invokevirtual 172, 3) := by decide +kernel
theorem dX11_readNumber_6 : decode cX11_readNumber 6 = .ok (.ifCond .eq 14, 3) := by decide +kernel
theorem dX11_readNumber_9 : decode cX11_readNumber 9 = .ok (.aload_n 0, 1) := by decide +kernel
theorem dX11_readNumber_10 : decode cX11_readNumber 10 = .ok (.invokevirtual 162, 3) := by decide +kernel
theorem dX11_readNumber_13 : decode cX11_readNumber 13 = .ok (.ifCond .eq 7, 3) := by decide +kernel
theorem dX11_readNumber_16 : decode cX11_readNumber 16 = .ok (.iconst 1, 1) := by decide +kernel
theorem dX11_readNumber_17 : decode cX11_readNumber 17 = .ok (.goto 4, 3) := by decide +kernel
theorem dX11_readNumber_20 : decode cX11_readNumber 20 = .ok (.iconst 0, 1) := by decide +kernel
theorem dX11_readNumber_21 : decode cX11_readNumber 21 = .ok (.ireturn, 1) := by decide +kernel
def pg_X11_readNumber (l : Launch) (g : EG) : List (Nat × ES) := [(0, s_ldP 0), (1, s_ldI 1), (2, s_ldI 2), (3, s_callV l g sg_X11_readNumber sg_X11_looksNumber 10), (6, s_if_eq 20), (9, s_ldP 0), (10, s_callV l g sg_X11_readNumber sg_X11_passes 10), (13, s_if_eq 20), (16, s_c (.inl 1)), (17, s_goto 21), (20, s_c (.inl 0)), (21, s_iretz)]
set_option maxRecDepth 100000 in
theorem ok_X11_readNumber {l : Launch} {g : EG} : e_okp l g sg_X11_readNumber "CalendarSyncModel" (pg_X11_readNumber l g) := fun p e R s m args below meth c ex M0 Q X =>
    e_each_cons (r_aload_n X (k := 0) (i := 0) rfl dX11_readNumber_0 rfl)
    (e_each_cons (r_iload_n X (k := 1) (i := 1) rfl dX11_readNumber_1 rfl)
    (e_each_cons (r_iload_n X (k := 2) (i := 2) rfl dX11_readNumber_2 rfl)
    (e_each_cons (r_callV X rfl (τ := sg_X11_looksNumber) (index := 172) (ci := 10) dX11_readNumber_3 (by decide) rfl w6_231 w6_233 ws_45 cs_X11_looksNumber rfl ⟨by decide, by decide⟩ rfl)
    (e_each_cons (r_if_eq X (off := 14) (t := 20) dX11_readNumber_6 (by decide) rfl)
    (e_each_cons (r_aload_n X (k := 0) (i := 0) rfl dX11_readNumber_9 rfl)
    (e_each_cons (r_callV X rfl (τ := sg_X11_passes) (index := 162) (ci := 10) dX11_readNumber_10 (by decide) rfl w6_219 w6_221 ws_42 cs_X11_passes rfl ⟨by decide, by decide⟩ rfl)
    (e_each_cons (r_if_eq X (off := 7) (t := 20) dX11_readNumber_13 (by decide) rfl)
    (e_each_cons (r_iconst X (n := 1) (v := 1) dX11_readNumber_16 (by decide) rfl)
    (e_each_cons (r_goto X (off := 4) (t := 21) dX11_readNumber_17 (by decide))
    (e_each_cons (r_iconst X (n := 0) (v := 0) dX11_readNumber_20 (by decide) rfl)
    (e_each_cons (r_iretz X dX11_readNumber_21 rfl)
    (e_each_nil))))))))))))
theorem dX11_readSemicolon_0 : decode cX11_readSemicolon 0 = .ok (.aload_n 0, 1) := by decide +kernel
theorem dX11_readSemicolon_1 : decode cX11_readSemicolon 1 = .ok (.invokevirtual 147, 3) := by decide +kernel
theorem dX11_readSemicolon_4 : decode cX11_readSemicolon 4 = .ok (.bipush 59, 2) := by decide +kernel
theorem dX11_readSemicolon_6 : decode cX11_readSemicolon 6 = .ok (.if_icmp .ne 10, 3) := by decide +kernel
theorem dX11_readSemicolon_9 : decode cX11_readSemicolon 9 = .ok (.aload_n 0, 1) := by decide +kernel
theorem dX11_readSemicolon_10 : decode cX11_readSemicolon 10 = .ok (.invokevirtual 162, 3) := by decide +kernel
theorem dX11_readSemicolon_13 : decode cX11_readSemicolon 13 = .ok (.goto 8, 3) := by decide +kernel
theorem dX11_readSemicolon_16 : decode cX11_readSemicolon 16 = .ok (.aload_n 0, 1) := by decide +kernel
theorem dX11_readSemicolon_17 : decode cX11_readSemicolon 17 = .ok (.iconst 1, 1) := by decide +kernel
theorem dX11_readSemicolon_18 : decode cX11_readSemicolon 18 = .ok (.invokevirtual 166, 3) := by decide +kernel
theorem dX11_readSemicolon_21 : decode cX11_readSemicolon 21 = .ok (.ireturn, 1) := by decide +kernel
def pg_X11_readSemicolon (l : Launch) (g : EG) : List (Nat × ES) := [(0, s_ldP 0), (1, s_callV l g sg_X11_readSemicolon sg_X11_peek 10), (4, s_c (.inl 59)), (6, s_icmp_ne 16), (9, s_ldP 0), (10, s_callV l g sg_X11_readSemicolon sg_X11_passes 10), (13, s_goto 21), (16, s_ldP 0), (17, s_c (.inl 1)), (18, s_callV l g sg_X11_readSemicolon sg_X11_fails 10), (21, s_iretz)]
set_option maxRecDepth 100000 in
theorem ok_X11_readSemicolon {l : Launch} {g : EG} : e_okp l g sg_X11_readSemicolon "CalendarSyncModel" (pg_X11_readSemicolon l g) := fun p e R s m args below meth c ex M0 Q X =>
    e_each_cons (r_aload_n X (k := 0) (i := 0) rfl dX11_readSemicolon_0 rfl)
    (e_each_cons (r_callV X rfl (τ := sg_X11_peek) (index := 147) (ci := 10) dX11_readSemicolon_1 (by decide) rfl w6_185 w6_187 ws_36 cs_X11_peek rfl ⟨by decide, by decide⟩ rfl)
    (e_each_cons (r_bipush X (n := 59) (v := 59) dX11_readSemicolon_4 (by decide) rfl)
    (e_each_cons (r_icmp_ne X (off := 10) (t := 16) dX11_readSemicolon_6 (by decide) rfl)
    (e_each_cons (r_aload_n X (k := 0) (i := 0) rfl dX11_readSemicolon_9 rfl)
    (e_each_cons (r_callV X rfl (τ := sg_X11_passes) (index := 162) (ci := 10) dX11_readSemicolon_10 (by decide) rfl w6_219 w6_221 ws_42 cs_X11_passes rfl ⟨by decide, by decide⟩ rfl)
    (e_each_cons (r_goto X (off := 8) (t := 21) dX11_readSemicolon_13 (by decide))
    (e_each_cons (r_aload_n X (k := 0) (i := 0) rfl dX11_readSemicolon_16 rfl)
    (e_each_cons (r_iconst X (n := 1) (v := 1) dX11_readSemicolon_17 (by decide) rfl)
    (e_each_cons (r_callV X rfl (τ := sg_X11_fails) (index := 166) (ci := 10) dX11_readSemicolon_18 (by decide) rfl w6_215 w6_217 ws_41 cs_X11_fails rfl ⟨by decide, by decide⟩ rfl)
    (e_each_cons (r_iretz X dX11_readSemicolon_21 rfl)
    (e_each_nil)))))))))))
theorem dX11_beginsCalendar_0 : decode cX11_beginsCalendar 0 = .ok (.iconst 0, 1) := by decide +kernel
theorem dX11_beginsCalendar_1 : decode cX11_beginsCalendar 1 = .ok (.istore_n 1, 1) := by decide +kernel
theorem dX11_beginsCalendar_2 : decode cX11_beginsCalendar 2 = .ok (.iload_n 1, 1) := by decide +kernel
theorem dX11_beginsCalendar_3 : decode cX11_beginsCalendar 3 = .ok (.sipush 1100, 3) := by decide +kernel
theorem dX11_beginsCalendar_6 : decode cX11_beginsCalendar 6 = .ok (.if_icmp .ge 16, 3) := by decide +kernel
theorem dX11_beginsCalendar_9 : decode cX11_beginsCalendar 9 = .ok (.aload_n 0, 1) := by decide +kernel
theorem dX11_beginsCalendar_10 : decode cX11_beginsCalendar 10 = .ok (.getfield 34, 3) := by decide +kernel
theorem dX11_beginsCalendar_13 : decode cX11_beginsCalendar 13 = .ok (.iload_n 1, 1) := by decide +kernel
theorem dX11_beginsCalendar_14 : decode cX11_beginsCalendar 14 = .ok (.iconst 0, 1) := by decide +kernel
theorem dX11_beginsCalendar_15 : decode cX11_beginsCalendar 15 = .ok (.iastore, 1) := by decide +kernel
theorem dX11_beginsCalendar_16 : decode cX11_beginsCalendar 16 = .ok (.iinc 1 1, 3) := by decide +kernel
theorem dX11_beginsCalendar_19 : decode cX11_beginsCalendar 19 = .ok (.goto (-17), 3) := by decide +kernel
theorem dX11_beginsCalendar_22 : decode cX11_beginsCalendar 22 = .ok (.aload_n 0, 1) := by decide +kernel
theorem dX11_beginsCalendar_23 : decode cX11_beginsCalendar 23 = .ok (.iconst 0, 1) := by decide +kernel
theorem dX11_beginsCalendar_24 : decode cX11_beginsCalendar 24 = .ok (.putfield 175, 3) := by decide +kernel
theorem dX11_beginsCalendar_27 : decode cX11_beginsCalendar 27 = .ok (.aload_n 0, 1) := by decide +kernel
theorem dX11_beginsCalendar_28 : decode cX11_beginsCalendar 28 = .ok (.iconst 0, 1) := by decide +kernel
theorem dX11_beginsCalendar_29 : decode cX11_beginsCalendar 29 = .ok (.putfield 178, 3) := by decide +kernel
theorem dX11_beginsCalendar_32 : decode cX11_beginsCalendar 32 = .ok (.return_, 1) := by decide +kernel
def pg_X11_beginsCalendar (l : Launch) (g : EG) : List (Nat × ES) := [(0, s_c (.inl 0)), (1, s_stI 1), (2, s_ldI 1), (3, s_c (.inl 1100)), (6, s_icmp_ge 22), (9, s_ldP 0), (10, s_getP 10 18), (13, s_ldI 1), (14, s_c (.inl 0)), (15, s_iast), (16, s_iinc 1 1), (19, s_goto 2), (22, s_ldP 0), (23, s_c (.inl 0)), (24, s_putI 10 19), (27, s_ldP 0), (28, s_c (.inl 0)), (29, s_putI 10 20), (32, s_vret)]
set_option maxRecDepth 100000 in
theorem ok_X11_beginsCalendar {l : Launch} {g : EG} : e_okp l g sg_X11_beginsCalendar "CalendarSyncModel" (pg_X11_beginsCalendar l g) := fun p e R s m args below meth c ex M0 Q X =>
    e_each_cons (r_iconst X (n := 0) (v := 0) dX11_beginsCalendar_0 (by decide) rfl)
    (e_each_cons (r_istore_n X (k := 1) (i := 1) rfl dX11_beginsCalendar_1 (by decide) rfl)
    (e_each_cons (r_iload_n X (k := 1) (i := 1) rfl dX11_beginsCalendar_2 rfl)
    (e_each_cons (r_sipush X (n := 1100) (v := 1100) dX11_beginsCalendar_3 (by decide) rfl)
    (e_each_cons (r_icmp_ge X (off := 16) (t := 22) dX11_beginsCalendar_6 (by decide) rfl)
    (e_each_cons (r_aload_n X (k := 0) (i := 0) rfl dX11_beginsCalendar_9 rfl)
    (e_each_cons (r_getP X (index := 34) (ci := 10) (k := 18) dX11_beginsCalendar_10 (by decide) (by decide) rfl w6_44 rfl)
    (e_each_cons (r_iload_n X (k := 1) (i := 1) rfl dX11_beginsCalendar_13 rfl)
    (e_each_cons (r_iconst X (n := 0) (v := 0) dX11_beginsCalendar_14 (by decide) rfl)
    (e_each_cons (r_iast X dX11_beginsCalendar_15 rfl)
    (e_each_cons (r_iinc X (i := 1) (n := 1) (d := 1) dX11_beginsCalendar_16 (by decide) (by decide) rfl)
    (e_each_cons (r_goto X (off := (-17)) (t := 2) dX11_beginsCalendar_19 (by decide))
    (e_each_cons (r_aload_n X (k := 0) (i := 0) rfl dX11_beginsCalendar_22 rfl)
    (e_each_cons (r_iconst X (n := 0) (v := 0) dX11_beginsCalendar_23 (by decide) rfl)
    (e_each_cons (r_putI X (index := 175) (ci := 10) (k := 19) dX11_beginsCalendar_24 (by decide) (by decide) rfl rfl w6_45 rfl)
    (e_each_cons (r_aload_n X (k := 0) (i := 0) rfl dX11_beginsCalendar_27 rfl)
    (e_each_cons (r_iconst X (n := 0) (v := 0) dX11_beginsCalendar_28 (by decide) rfl)
    (e_each_cons (r_putI X (index := 178) (ci := 10) (k := 20) dX11_beginsCalendar_29 (by decide) (by decide) rfl rfl w6_46 rfl)
    (e_each_cons (r_vret X dX11_beginsCalendar_32 rfl)
    (e_each_nil)))))))))))))))))))
theorem dX11_readZone_0 : decode cX11_readZone 0 = .ok (.iconst 4, 1) := by decide +kernel
theorem dX11_readZone_1 : decode cX11_readZone 1 = .ok (.aload_n 0, 1) := by decide +kernel
theorem dX11_readZone_2 : decode cX11_readZone 2 = .ok (.getfield 175, 3) := by decide +kernel
theorem dX11_readZone_5 : decode cX11_readZone 5 = .ok (.imul, 1) := by decide +kernel
theorem dX11_readZone_6 : decode cX11_readZone 6 = .ok (.istore_n 1, 1) := by decide +kernel
theorem dX11_readZone_7 : decode cX11_readZone 7 = .ok (.aload_n 0, 1) := by decide +kernel
theorem dX11_readZone_8 : decode cX11_readZone 8 = .ok (.invokevirtual 147, 3) := by decide +kernel
theorem dX11_readZone_11 : decode cX11_readZone 11 = .ok (.bipush 45, 2) := by decide +kernel
theorem dX11_readZone_13 : decode cX11_readZone 13 = .ok (.if_icmp .ne 7, 3) := by decide +kernel
theorem dX11_readZone_16 : decode cX11_readZone 16 = .ok (.iconst 1, 1) := by decide +kernel
theorem dX11_readZone_17 : decode cX11_readZone 17 = .ok (.goto 4, 3) := by decide +kernel
theorem dX11_readZone_20 : decode cX11_readZone 20 = .ok (.iconst 0, 1) := by decide +kernel
theorem dX11_readZone_21 : decode cX11_readZone 21 = .ok (.istore_n 2, 1) := by decide +kernel
theorem dX11_readZone_22 : decode cX11_readZone 22 = .ok (.iload_n 2, 1) := by decide +kernel
theorem dX11_readZone_23 : decode cX11_readZone 23 = .ok (.ifCond .eq 8, 3) := by decide +kernel
theorem dX11_readZone_26 : decode cX11_readZone 26 = .ok (.aload_n 0, 1) := by decide +kernel
theorem dX11_readZone_27 : decode cX11_readZone 27 = .ok (.invokevirtual 162, 3) := by decide +kernel
theorem dX11_readZone_30 : decode cX11_readZone 30 = .ok (.pop, 1) := by decide +kernel
theorem dX11_readZone_31 : decode cX11_readZone 31 = .ok (.aload_n 0, 1) := by decide +kernel
theorem dX11_readZone_32 : decode cX11_readZone 32 = .ok (.iconst 0, 1) := by decide +kernel
theorem dX11_readZone_33 : decode cX11_readZone 33 = .ok (.sipush 720, 3) := by decide +kernel
theorem dX11_readZone_36 : decode cX11_readZone 36 = .ok (.invokevirtual 181, 3) := by decide +kernel
theorem dX11_readZone_39 : decode cX11_readZone 39 = .ok (.ifCond .ne 5, 3) := by decide +kernel
theorem dX11_readZone_42 : decode cX11_readZone 42 = .ok (.iconst 0, 1) := by decide +kernel
theorem dX11_readZone_43 : decode cX11_readZone 43 = .ok (.ireturn, 1) := by decide +kernel
theorem dX11_readZone_44 : decode cX11_readZone 44 = .ok (.aload_n 0, 1) := by decide +kernel
theorem dX11_readZone_45 : decode cX11_readZone 45 = .ok (.getfield 34, 3) := by decide +kernel
theorem dX11_readZone_48 : decode cX11_readZone 48 = .ok (.iload_n 1, 1) := by decide +kernel
theorem dX11_readZone_49 : decode cX11_readZone 49 = .ok (.iconst 0, 1) := by decide +kernel
theorem dX11_readZone_50 : decode cX11_readZone 50 = .ok (.iadd, 1) := by decide +kernel
theorem dX11_readZone_51 : decode cX11_readZone 51 = .ok (.iload_n 2, 1) := by decide +kernel
theorem dX11_readZone_52 : decode cX11_readZone 52 = .ok (.ifCond .eq 11, 3) := by decide +kernel
theorem dX11_readZone_55 : decode cX11_readZone 55 = .ok (.aload_n 0, 1) := by decide +kernel
theorem dX11_readZone_56 : decode cX11_readZone 56 = .ok (.getfield 169, 3) := by decide +kernel
theorem dX11_readZone_59 : decode cX11_readZone 59 = .ok (.ineg, 1) := by decide +kernel
theorem dX11_readZone_60 : decode cX11_readZone 60 = .ok (.goto 7, 3) := by decide +kernel
theorem dX11_readZone_63 : decode cX11_readZone 63 = .ok (.aload_n 0, 1) := by decide +kernel
theorem dX11_readZone_64 : decode cX11_readZone 64 = .ok (.getfield 169, 3) := by decide +kernel
theorem dX11_readZone_67 : decode cX11_readZone 67 = .ok (.iastore, 1) := by decide +kernel
theorem dX11_readZone_68 : decode cX11_readZone 68 = .ok (.aload_n 0, 1) := by decide +kernel
theorem dX11_readZone_69 : decode cX11_readZone 69 = .ok (.getfield 34, 3) := by decide +kernel
theorem dX11_readZone_72 : decode cX11_readZone 72 = .ok (.iload_n 1, 1) := by decide +kernel
theorem dX11_readZone_73 : decode cX11_readZone 73 = .ok (.iconst 1, 1) := by decide +kernel
theorem dX11_readZone_74 : decode cX11_readZone 74 = .ok (.iadd, 1) := by decide +kernel
theorem dX11_readZone_75 : decode cX11_readZone 75 = .ok (.iconst (-1), 1) := by decide +kernel
theorem dX11_readZone_76 : decode cX11_readZone 76 = .ok (.iastore, 1) := by decide +kernel
theorem dX11_readZone_77 : decode cX11_readZone 77 = .ok (.aload_n 0, 1) := by decide +kernel
theorem dX11_readZone_78 : decode cX11_readZone 78 = .ok (.getfield 34, 3) := by decide +kernel
theorem dX11_readZone_81 : decode cX11_readZone 81 = .ok (.iload_n 1, 1) := by decide +kernel
theorem dX11_readZone_82 : decode cX11_readZone 82 = .ok (.iconst 2, 1) := by decide +kernel
theorem dX11_readZone_83 : decode cX11_readZone 83 = .ok (.iadd, 1) := by decide +kernel
theorem dX11_readZone_84 : decode cX11_readZone 84 = .ok (.iconst (-1), 1) := by decide +kernel
theorem dX11_readZone_85 : decode cX11_readZone 85 = .ok (.iastore, 1) := by decide +kernel
theorem dX11_readZone_86 : decode cX11_readZone 86 = .ok (.aload_n 0, 1) := by decide +kernel
theorem dX11_readZone_87 : decode cX11_readZone 87 = .ok (.ldc2_w 184, 3) := by decide +kernel
theorem dX11_readZone_90 : decode cX11_readZone 90 = .ok (.invokevirtual 186, 3) := by decide +kernel
theorem dX11_readZone_93 : decode cX11_readZone 93 = .ok (.ifCond .eq 56, 3) := by decide +kernel
theorem dX11_readZone_96 : decode cX11_readZone 96 = .ok (.aload_n 0, 1) := by decide +kernel
theorem dX11_readZone_97 : decode cX11_readZone 97 = .ok (.iconst 0, 1) := by decide +kernel
theorem dX11_readZone_98 : decode cX11_readZone 98 = .ok (.sipush 364, 3) := by decide +kernel
theorem dX11_readZone_101 : decode cX11_readZone 101 = .ok (.invokevirtual 181, 3) := by decide +kernel
theorem dX11_readZone_104 : decode cX11_readZone 104 = .ok (.ifCond .ne 5, 3) := by decide +kernel
theorem dX11_readZone_107 : decode cX11_readZone 107 = .ok (.iconst 0, 1) := by decide +kernel
theorem dX11_readZone_108 : decode cX11_readZone 108 = .ok (.ireturn, 1) := by decide +kernel
theorem dX11_readZone_109 : decode cX11_readZone 109 = .ok (.aload_n 0, 1) := by decide +kernel
theorem dX11_readZone_110 : decode cX11_readZone 110 = .ok (.getfield 34, 3) := by decide +kernel
theorem dX11_readZone_113 : decode cX11_readZone 113 = .ok (.iload_n 1, 1) := by decide +kernel
theorem dX11_readZone_114 : decode cX11_readZone 114 = .ok (.iconst 1, 1) := by decide +kernel
theorem dX11_readZone_115 : decode cX11_readZone 115 = .ok (.iadd, 1) := by decide +kernel
theorem dX11_readZone_116 : decode cX11_readZone 116 = .ok (.aload_n 0, 1) := by decide +kernel
theorem dX11_readZone_117 : decode cX11_readZone 117 = .ok (.getfield 169, 3) := by decide +kernel
theorem dX11_readZone_120 : decode cX11_readZone 120 = .ok (.iastore, 1) := by decide +kernel
theorem dX11_readZone_121 : decode cX11_readZone 121 = .ok (.aload_n 0, 1) := by decide +kernel
theorem dX11_readZone_122 : decode cX11_readZone 122 = .ok (.aload_n 0, 1) := by decide +kernel
theorem dX11_readZone_123 : decode cX11_readZone 123 = .ok (.getfield 169, 3) := by decide +kernel
theorem dX11_readZone_126 : decode cX11_readZone 126 = .ok (.sipush 364, 3) := by decide +kernel
theorem dX11_readZone_129 : decode cX11_readZone 129 = .ok (.invokevirtual 181, 3) := by decide +kernel
theorem dX11_readZone_132 : decode cX11_readZone 132 = .ok (.ifCond .ne 5, 3) := by decide +kernel
theorem dX11_readZone_135 : decode cX11_readZone 135 = .ok (.iconst 0, 1) := by decide +kernel
theorem dX11_readZone_136 : decode cX11_readZone 136 = .ok (.ireturn, 1) := by decide +kernel
theorem dX11_readZone_137 : decode cX11_readZone 137 = .ok (.aload_n 0, 1) := by decide +kernel
theorem dX11_readZone_138 : decode cX11_readZone 138 = .ok (.getfield 34, 3) := by decide +kernel
theorem dX11_readZone_141 : decode cX11_readZone 141 = .ok (.iload_n 1, 1) := by decide +kernel
theorem dX11_readZone_142 : decode cX11_readZone 142 = .ok (.iconst 2, 1) := by decide +kernel
theorem dX11_readZone_143 : decode cX11_readZone 143 = .ok (.iadd, 1) := by decide +kernel
theorem dX11_readZone_144 : decode cX11_readZone 144 = .ok (.aload_n 0, 1) := by decide +kernel
theorem dX11_readZone_145 : decode cX11_readZone 145 = .ok (.getfield 169, 3) := by decide +kernel
theorem dX11_readZone_148 : decode cX11_readZone 148 = .ok (.iastore, 1) := by decide +kernel
theorem dX11_readZone_149 : decode cX11_readZone 149 = .ok (.aload_n 0, 1) := by decide +kernel
theorem dX11_readZone_150 : decode cX11_readZone 150 = .ok (.aload_n 0, 1) := by decide +kernel
theorem dX11_readZone_151 : decode cX11_readZone 151 = .ok (.getfield 175, 3) := by decide +kernel
theorem dX11_readZone_154 : decode cX11_readZone 154 = .ok (.iconst 1, 1) := by decide +kernel
theorem dX11_readZone_155 : decode cX11_readZone 155 = .ok (.iadd, 1) := by decide +kernel
theorem dX11_readZone_156 : decode cX11_readZone 156 = .ok (.putfield 175, 3) := by decide +kernel
theorem dX11_readZone_159 : decode cX11_readZone 159 = .ok (.iconst 1, 1) := by decide +kernel
theorem dX11_readZone_160 : decode cX11_readZone 160 = .ok (.ireturn, 1) := by decide +kernel
def pg_X11_readZone (l : Launch) (g : EG) : List (Nat × ES) := [(0, s_c (.inl 4)), (1, s_ldP 0), (2, s_getI 10 19), (5, s_ii (fun x y => x * y)), (6, s_stI 1), (7, s_ldP 0), (8, s_callV l g sg_X11_readZone sg_X11_peek 10), (11, s_c (.inl 45)), (13, s_icmp_ne 20), (16, s_c (.inl 1)), (17, s_goto 21), (20, s_c (.inl 0)), (21, s_stI 2), (22, s_ldI 2), (23, s_if_eq 31), (26, s_ldP 0), (27, s_callV l g sg_X11_readZone sg_X11_passes 10), (30, s_pop), (31, s_ldP 0), (32, s_c (.inl 0)), (33, s_c (.inl 720)), (36, s_callV l g sg_X11_readZone sg_X11_readNumber 10), (39, s_if_ne 44), (42, s_c (.inl 0)), (43, s_iretz), (44, s_ldP 0), (45, s_getP 10 18), (48, s_ldI 1), (49, s_c (.inl 0)), (50, s_ii (fun x y => x + y)), (51, s_ldI 2), (52, s_if_eq 63), (55, s_ldP 0), (56, s_getI 10 15), (59, s_i1 (fun x => -x)), (60, s_goto 67), (63, s_ldP 0), (64, s_getI 10 15), (67, s_iast), (68, s_ldP 0), (69, s_getP 10 18), (72, s_ldI 1), (73, s_c (.inl 1)), (74, s_ii (fun x y => x + y)), (75, s_c (.inl (-1))), (76, s_iast), (77, s_ldP 0), (78, s_getP 10 18), (81, s_ldI 1), (82, s_c (.inl 2)), (83, s_ii (fun x y => x + y)), (84, s_c (.inl (-1))), (85, s_iast), (86, s_ldP 0), (87, s_c (.inr (.inl 659993778))), (90, s_callV l g sg_X11_readZone sg_X11_passesWord 10), (93, s_if_eq 149), (96, s_ldP 0), (97, s_c (.inl 0)), (98, s_c (.inl 364)), (101, s_callV l g sg_X11_readZone sg_X11_readNumber 10), (104, s_if_ne 109), (107, s_c (.inl 0)), (108, s_iretz), (109, s_ldP 0), (110, s_getP 10 18), (113, s_ldI 1), (114, s_c (.inl 1)), (115, s_ii (fun x y => x + y)), (116, s_ldP 0), (117, s_getI 10 15), (120, s_iast), (121, s_ldP 0), (122, s_ldP 0), (123, s_getI 10 15), (126, s_c (.inl 364)), (129, s_callV l g sg_X11_readZone sg_X11_readNumber 10), (132, s_if_ne 137), (135, s_c (.inl 0)), (136, s_iretz), (137, s_ldP 0), (138, s_getP 10 18), (141, s_ldI 1), (142, s_c (.inl 2)), (143, s_ii (fun x y => x + y)), (144, s_ldP 0), (145, s_getI 10 15), (148, s_iast), (149, s_ldP 0), (150, s_ldP 0), (151, s_getI 10 19), (154, s_c (.inl 1)), (155, s_ii (fun x y => x + y)), (156, s_putI 10 19), (159, s_c (.inl 1)), (160, s_iretz)]
set_option maxRecDepth 100000 in
theorem ok_X11_readZone {l : Launch} {g : EG} : e_okp l g sg_X11_readZone "CalendarSyncModel" (pg_X11_readZone l g) := fun p e R s m args below meth c ex M0 Q X =>
    e_each_cons (r_iconst X (n := 4) (v := 4) dX11_readZone_0 (by decide) rfl)
    (e_each_cons (r_aload_n X (k := 0) (i := 0) rfl dX11_readZone_1 rfl)
    (e_each_cons (r_getI X (index := 175) (ci := 10) (k := 19) dX11_readZone_2 (by decide) (by decide) rfl w6_45 rfl)
    (e_each_cons (r_imul X dX11_readZone_5 rfl)
    (e_each_cons (r_istore_n X (k := 1) (i := 1) rfl dX11_readZone_6 (by decide) rfl)
    (e_each_cons (r_aload_n X (k := 0) (i := 0) rfl dX11_readZone_7 rfl)
    (e_each_cons (r_callV X rfl (τ := sg_X11_peek) (index := 147) (ci := 10) dX11_readZone_8 (by decide) rfl w6_185 w6_187 ws_36 cs_X11_peek rfl ⟨by decide, by decide⟩ rfl)
    (e_each_cons (r_bipush X (n := 45) (v := 45) dX11_readZone_11 (by decide) rfl)
    (e_each_cons (r_icmp_ne X (off := 7) (t := 20) dX11_readZone_13 (by decide) rfl)
    (e_each_cons (r_iconst X (n := 1) (v := 1) dX11_readZone_16 (by decide) rfl)
    (e_each_cons (r_goto X (off := 4) (t := 21) dX11_readZone_17 (by decide))
    (e_each_cons (r_iconst X (n := 0) (v := 0) dX11_readZone_20 (by decide) rfl)
    (e_each_cons (r_istore_n X (k := 2) (i := 2) rfl dX11_readZone_21 (by decide) rfl)
    (e_each_cons (r_iload_n X (k := 2) (i := 2) rfl dX11_readZone_22 rfl)
    (e_each_cons (r_if_eq X (off := 8) (t := 31) dX11_readZone_23 (by decide) rfl)
    (e_each_cons (r_aload_n X (k := 0) (i := 0) rfl dX11_readZone_26 rfl)
    (e_each_cons (r_callV X rfl (τ := sg_X11_passes) (index := 162) (ci := 10) dX11_readZone_27 (by decide) rfl w6_219 w6_221 ws_42 cs_X11_passes rfl ⟨by decide, by decide⟩ rfl)
    (e_each_cons (r_pop X dX11_readZone_30 rfl)
    (e_each_cons (r_aload_n X (k := 0) (i := 0) rfl dX11_readZone_31 rfl)
    (e_each_cons (r_iconst X (n := 0) (v := 0) dX11_readZone_32 (by decide) rfl)
    (e_each_cons (r_sipush X (n := 720) (v := 720) dX11_readZone_33 (by decide) rfl)
    (e_each_cons (r_callV X rfl (τ := sg_X11_readNumber) (index := 181) (ci := 10) dX11_readZone_36 (by decide) rfl w6_227 w6_229 ws_44 cs_X11_readNumber rfl ⟨by decide, by decide⟩ rfl)
    (e_each_cons (r_if_ne X (off := 5) (t := 44) dX11_readZone_39 (by decide) rfl)
    (e_each_cons (r_iconst X (n := 0) (v := 0) dX11_readZone_42 (by decide) rfl)
    (e_each_cons (r_iretz X dX11_readZone_43 rfl)
    (e_each_cons (r_aload_n X (k := 0) (i := 0) rfl dX11_readZone_44 rfl)
    (e_each_cons (r_getP X (index := 34) (ci := 10) (k := 18) dX11_readZone_45 (by decide) (by decide) rfl w6_44 rfl)
    (e_each_cons (r_iload_n X (k := 1) (i := 1) rfl dX11_readZone_48 rfl)
    (e_each_cons (r_iconst X (n := 0) (v := 0) dX11_readZone_49 (by decide) rfl)
    (e_each_cons (r_iadd X dX11_readZone_50 rfl)
    (e_each_cons (r_iload_n X (k := 2) (i := 2) rfl dX11_readZone_51 rfl)
    (e_each_cons (r_if_eq X (off := 11) (t := 63) dX11_readZone_52 (by decide) rfl)
    (e_each_cons (r_aload_n X (k := 0) (i := 0) rfl dX11_readZone_55 rfl)
    (e_each_cons (r_getI X (index := 169) (ci := 10) (k := 15) dX11_readZone_56 (by decide) (by decide) rfl w6_41 rfl)
    (e_each_cons (r_ineg X dX11_readZone_59 rfl)
    (e_each_cons (r_goto X (off := 7) (t := 67) dX11_readZone_60 (by decide))
    (e_each_cons (r_aload_n X (k := 0) (i := 0) rfl dX11_readZone_63 rfl)
    (e_each_cons (r_getI X (index := 169) (ci := 10) (k := 15) dX11_readZone_64 (by decide) (by decide) rfl w6_41 rfl)
    (e_each_cons (r_iast X dX11_readZone_67 rfl)
    (e_each_cons (r_aload_n X (k := 0) (i := 0) rfl dX11_readZone_68 rfl)
    (e_each_cons (r_getP X (index := 34) (ci := 10) (k := 18) dX11_readZone_69 (by decide) (by decide) rfl w6_44 rfl)
    (e_each_cons (r_iload_n X (k := 1) (i := 1) rfl dX11_readZone_72 rfl)
    (e_each_cons (r_iconst X (n := 1) (v := 1) dX11_readZone_73 (by decide) rfl)
    (e_each_cons (r_iadd X dX11_readZone_74 rfl)
    (e_each_cons (r_iconst X (n := (-1)) (v := (-1)) dX11_readZone_75 (by decide) rfl)
    (e_each_cons (r_iast X dX11_readZone_76 rfl)
    (e_each_cons (r_aload_n X (k := 0) (i := 0) rfl dX11_readZone_77 rfl)
    (e_each_cons (r_getP X (index := 34) (ci := 10) (k := 18) dX11_readZone_78 (by decide) (by decide) rfl w6_44 rfl)
    (e_each_cons (r_iload_n X (k := 1) (i := 1) rfl dX11_readZone_81 rfl)
    (e_each_cons (r_iconst X (n := 2) (v := 2) dX11_readZone_82 (by decide) rfl)
    (e_each_cons (r_iadd X dX11_readZone_83 rfl)
    (e_each_cons (r_iconst X (n := (-1)) (v := (-1)) dX11_readZone_84 (by decide) rfl)
    (e_each_cons (r_iast X dX11_readZone_85 rfl)
    (e_each_cons (r_aload_n X (k := 0) (i := 0) rfl dX11_readZone_86 rfl)
    (e_each_cons (r_ldc2 X (n := 184) (v := 659993778) dX11_readZone_87 w6_235 rfl)
    (e_each_cons (r_callV X rfl (τ := sg_X11_passesWord) (index := 186) (ci := 10) dX11_readZone_90 (by decide) rfl w6_236 w6_238 ws_46 cs_X11_passesWord rfl ⟨by decide, by decide⟩ rfl)
    (e_each_cons (r_if_eq X (off := 56) (t := 149) dX11_readZone_93 (by decide) rfl)
    (e_each_cons (r_aload_n X (k := 0) (i := 0) rfl dX11_readZone_96 rfl)
    (e_each_cons (r_iconst X (n := 0) (v := 0) dX11_readZone_97 (by decide) rfl)
    (e_each_cons (r_sipush X (n := 364) (v := 364) dX11_readZone_98 (by decide) rfl)
    (e_each_cons (r_callV X rfl (τ := sg_X11_readNumber) (index := 181) (ci := 10) dX11_readZone_101 (by decide) rfl w6_227 w6_229 ws_44 cs_X11_readNumber rfl ⟨by decide, by decide⟩ rfl)
    (e_each_cons (r_if_ne X (off := 5) (t := 109) dX11_readZone_104 (by decide) rfl)
    (e_each_cons (r_iconst X (n := 0) (v := 0) dX11_readZone_107 (by decide) rfl)
    (e_each_cons (r_iretz X dX11_readZone_108 rfl)
    (e_each_cons (r_aload_n X (k := 0) (i := 0) rfl dX11_readZone_109 rfl)
    (e_each_cons (r_getP X (index := 34) (ci := 10) (k := 18) dX11_readZone_110 (by decide) (by decide) rfl w6_44 rfl)
    (e_each_cons (r_iload_n X (k := 1) (i := 1) rfl dX11_readZone_113 rfl)
    (e_each_cons (r_iconst X (n := 1) (v := 1) dX11_readZone_114 (by decide) rfl)
    (e_each_cons (r_iadd X dX11_readZone_115 rfl)
    (e_each_cons (r_aload_n X (k := 0) (i := 0) rfl dX11_readZone_116 rfl)
    (e_each_cons (r_getI X (index := 169) (ci := 10) (k := 15) dX11_readZone_117 (by decide) (by decide) rfl w6_41 rfl)
    (e_each_cons (r_iast X dX11_readZone_120 rfl)
    (e_each_cons (r_aload_n X (k := 0) (i := 0) rfl dX11_readZone_121 rfl)
    (e_each_cons (r_aload_n X (k := 0) (i := 0) rfl dX11_readZone_122 rfl)
    (e_each_cons (r_getI X (index := 169) (ci := 10) (k := 15) dX11_readZone_123 (by decide) (by decide) rfl w6_41 rfl)
    (e_each_cons (r_sipush X (n := 364) (v := 364) dX11_readZone_126 (by decide) rfl)
    (e_each_cons (r_callV X rfl (τ := sg_X11_readNumber) (index := 181) (ci := 10) dX11_readZone_129 (by decide) rfl w6_227 w6_229 ws_44 cs_X11_readNumber rfl ⟨by decide, by decide⟩ rfl)
    (e_each_cons (r_if_ne X (off := 5) (t := 137) dX11_readZone_132 (by decide) rfl)
    (e_each_cons (r_iconst X (n := 0) (v := 0) dX11_readZone_135 (by decide) rfl)
    (e_each_cons (r_iretz X dX11_readZone_136 rfl)
    (e_each_cons (r_aload_n X (k := 0) (i := 0) rfl dX11_readZone_137 rfl)
    (e_each_cons (r_getP X (index := 34) (ci := 10) (k := 18) dX11_readZone_138 (by decide) (by decide) rfl w6_44 rfl)
    (e_each_cons (r_iload_n X (k := 1) (i := 1) rfl dX11_readZone_141 rfl)
    (e_each_cons (r_iconst X (n := 2) (v := 2) dX11_readZone_142 (by decide) rfl)
    (e_each_cons (r_iadd X dX11_readZone_143 rfl)
    (e_each_cons (r_aload_n X (k := 0) (i := 0) rfl dX11_readZone_144 rfl)
    (e_each_cons (r_getI X (index := 169) (ci := 10) (k := 15) dX11_readZone_145 (by decide) (by decide) rfl w6_41 rfl)
    (e_each_cons (r_iast X dX11_readZone_148 rfl)
    (e_each_cons (r_aload_n X (k := 0) (i := 0) rfl dX11_readZone_149 rfl)
    (e_each_cons (r_aload_n X (k := 0) (i := 0) rfl dX11_readZone_150 rfl)
    (e_each_cons (r_getI X (index := 175) (ci := 10) (k := 19) dX11_readZone_151 (by decide) (by decide) rfl w6_45 rfl)
    (e_each_cons (r_iconst X (n := 1) (v := 1) dX11_readZone_154 (by decide) rfl)
    (e_each_cons (r_iadd X dX11_readZone_155 rfl)
    (e_each_cons (r_putI X (index := 175) (ci := 10) (k := 19) dX11_readZone_156 (by decide) (by decide) rfl rfl w6_45 rfl)
    (e_each_cons (r_iconst X (n := 1) (v := 1) dX11_readZone_159 (by decide) rfl)
    (e_each_cons (r_iretz X dX11_readZone_160 rfl)
    (e_each_nil))))))))))))))))))))))))))))))))))))))))))))))))))))))))))))))))))))))))))))))))))))))))))))))))
theorem dX11_weekdayHere_0 : decode cX11_weekdayHere 0 = .ok (.aload_n 0, 1) := by decide +kernel
theorem dX11_weekdayHere_1 : decode cX11_weekdayHere 1 = .ok (.invokevirtual 158, 3) := by decide +kernel
theorem dX11_weekdayHere_4 : decode cX11_weekdayHere 4 = .ok (.lstore_n 1, 1) := by decide +kernel
theorem dX11_weekdayHere_5 : decode cX11_weekdayHere 5 = .ok (.lload_n 1, 1) := by decide +kernel
theorem dX11_weekdayHere_6 : decode cX11_weekdayHere 6 = .ok (.ldc2_w 190, 3) := by decide +kernel
theorem dX11_weekdayHere_9 : decode cX11_weekdayHere 9 = .ok (.lcmp, 1) := by decide +kernel
theorem dX11_weekdayHere_10 : decode cX11_weekdayHere 10 = .ok (.ifCond .ne 5, 3) := by decide +kernel
theorem dX11_weekdayHere_13 : decode cX11_weekdayHere 13 = .ok (.iconst 0, 1) := by decide +kernel
theorem dX11_weekdayHere_14 : decode cX11_weekdayHere 14 = .ok (.ireturn, 1) := by decide +kernel
theorem dX11_weekdayHere_15 : decode cX11_weekdayHere 15 = .ok (.lload_n 1, 1) := by decide +kernel
theorem dX11_weekdayHere_16 : decode cX11_weekdayHere 16 = .ok (.ldc2_w 192, 3) := by decide +kernel
theorem dX11_weekdayHere_19 : decode cX11_weekdayHere 19 = .ok (.lcmp, 1) := by decide +kernel
theorem dX11_weekdayHere_20 : decode cX11_weekdayHere 20 = .ok (.ifCond .ne 5, 3) := by decide +kernel
theorem dX11_weekdayHere_23 : decode cX11_weekdayHere 23 = .ok (.iconst 1, 1) := by decide +kernel
theorem dX11_weekdayHere_24 : decode cX11_weekdayHere 24 = .ok (.ireturn, 1) := by decide +kernel
theorem dX11_weekdayHere_25 : decode cX11_weekdayHere 25 = .ok (.lload_n 1, 1) := by decide +kernel
theorem dX11_weekdayHere_26 : decode cX11_weekdayHere 26 = .ok (.ldc2_w 194, 3) := by decide +kernel
theorem dX11_weekdayHere_29 : decode cX11_weekdayHere 29 = .ok (.lcmp, 1) := by decide +kernel
theorem dX11_weekdayHere_30 : decode cX11_weekdayHere 30 = .ok (.ifCond .ne 5, 3) := by decide +kernel
theorem dX11_weekdayHere_33 : decode cX11_weekdayHere 33 = .ok (.iconst 2, 1) := by decide +kernel
theorem dX11_weekdayHere_34 : decode cX11_weekdayHere 34 = .ok (.ireturn, 1) := by decide +kernel
theorem dX11_weekdayHere_35 : decode cX11_weekdayHere 35 = .ok (.lload_n 1, 1) := by decide +kernel
theorem dX11_weekdayHere_36 : decode cX11_weekdayHere 36 = .ok (.ldc2_w 196, 3) := by decide +kernel
theorem dX11_weekdayHere_39 : decode cX11_weekdayHere 39 = .ok (.lcmp, 1) := by decide +kernel
theorem dX11_weekdayHere_40 : decode cX11_weekdayHere 40 = .ok (.ifCond .ne 5, 3) := by decide +kernel
theorem dX11_weekdayHere_43 : decode cX11_weekdayHere 43 = .ok (.iconst 3, 1) := by decide +kernel
theorem dX11_weekdayHere_44 : decode cX11_weekdayHere 44 = .ok (.ireturn, 1) := by decide +kernel
theorem dX11_weekdayHere_45 : decode cX11_weekdayHere 45 = .ok (.lload_n 1, 1) := by decide +kernel
theorem dX11_weekdayHere_46 : decode cX11_weekdayHere 46 = .ok (.ldc2_w 198, 3) := by decide +kernel
theorem dX11_weekdayHere_49 : decode cX11_weekdayHere 49 = .ok (.lcmp, 1) := by decide +kernel
theorem dX11_weekdayHere_50 : decode cX11_weekdayHere 50 = .ok (.ifCond .ne 5, 3) := by decide +kernel
theorem dX11_weekdayHere_53 : decode cX11_weekdayHere 53 = .ok (.iconst 4, 1) := by decide +kernel
theorem dX11_weekdayHere_54 : decode cX11_weekdayHere 54 = .ok (.ireturn, 1) := by decide +kernel
theorem dX11_weekdayHere_55 : decode cX11_weekdayHere 55 = .ok (.lload_n 1, 1) := by decide +kernel
theorem dX11_weekdayHere_56 : decode cX11_weekdayHere 56 = .ok (.ldc2_w 200, 3) := by decide +kernel
theorem dX11_weekdayHere_59 : decode cX11_weekdayHere 59 = .ok (.lcmp, 1) := by decide +kernel
theorem dX11_weekdayHere_60 : decode cX11_weekdayHere 60 = .ok (.ifCond .ne 7, 3) := by decide +kernel
theorem dX11_weekdayHere_63 : decode cX11_weekdayHere 63 = .ok (.iconst 5, 1) := by decide +kernel
theorem dX11_weekdayHere_64 : decode cX11_weekdayHere 64 = .ok (.goto 17, 3) := by decide +kernel
theorem dX11_weekdayHere_67 : decode cX11_weekdayHere 67 = .ok (.lload_n 1, 1) := by decide +kernel
theorem dX11_weekdayHere_68 : decode cX11_weekdayHere 68 = .ok (.ldc2_w 202, 3) := by decide +kernel
theorem dX11_weekdayHere_71 : decode cX11_weekdayHere 71 = .ok (.lcmp, 1) := by decide +kernel
theorem dX11_weekdayHere_72 : decode cX11_weekdayHere 72 = .ok (.ifCond .ne 8, 3) := by decide +kernel
theorem dX11_weekdayHere_75 : decode cX11_weekdayHere 75 = .ok (.bipush 6, 2) := by decide +kernel
theorem dX11_weekdayHere_77 : decode cX11_weekdayHere 77 = .ok (.goto 4, 3) := by decide +kernel
theorem dX11_weekdayHere_80 : decode cX11_weekdayHere 80 = .ok (.iconst (-1), 1) := by decide +kernel
theorem dX11_weekdayHere_81 : decode cX11_weekdayHere 81 = .ok (.ireturn, 1) := by decide +kernel
def pg_X11_weekdayHere (l : Launch) (g : EG) : List (Nat × ES) := [(0, s_ldP 0), (1, s_callV l g sg_X11_weekdayHere sg_X11_nextWord 10), (4, s_stL 1), (5, s_ldL 1), (6, s_c (.inr (.inl 431))), (9, s_lc lg_cmp), (10, s_if_ne 15), (13, s_c (.inl 0)), (14, s_ireti), (15, s_ldL 1), (16, s_c (.inr (.inl 661))), (19, s_lc lg_cmp), (20, s_if_ne 25), (23, s_c (.inl 1)), (24, s_ireti), (25, s_ldL 1), (26, s_c (.inr (.inl 741))), (29, s_lc lg_cmp), (30, s_if_ne 35), (33, s_c (.inl 2)), (34, s_ireti), (35, s_ldL 1), (36, s_c (.inr (.inl 648))), (39, s_lc lg_cmp), (40, s_if_ne 45), (43, s_c (.inl 3)), (44, s_ireti), (45, s_ldL 1), (46, s_c (.inr (.inl 210))), (49, s_lc lg_cmp), (50, s_if_ne 55), (53, s_c (.inl 4)), (54, s_ireti), (55, s_ldL 1), (56, s_c (.inr (.inl 609))), (59, s_lc lg_cmp), (60, s_if_ne 67), (63, s_c (.inl 5)), (64, s_goto 81), (67, s_ldL 1), (68, s_c (.inr (.inl 629))), (71, s_lc lg_cmp), (72, s_if_ne 80), (75, s_c (.inl 6)), (77, s_goto 81), (80, s_c (.inl (-1))), (81, s_ireti)]
set_option maxRecDepth 100000 in
theorem ok_X11_weekdayHere {l : Launch} {g : EG} : e_okp l g sg_X11_weekdayHere "CalendarSyncModel" (pg_X11_weekdayHere l g) := fun p e R s m args below meth c ex M0 Q X =>
    e_each_cons (r_aload_n X (k := 0) (i := 0) rfl dX11_weekdayHere_0 rfl)
    (e_each_cons (r_callV X rfl (τ := sg_X11_nextWord) (index := 158) (ci := 10) dX11_weekdayHere_1 (by decide) rfl w6_203 w6_205 ws_39 cs_X11_nextWord rfl ⟨by decide, by decide⟩ rfl)
    (e_each_cons (r_lstore_n X (k := 1) (i := 1) rfl dX11_weekdayHere_4 (by decide) rfl)
    (e_each_cons (r_lload_n X (k := 1) (i := 1) rfl dX11_weekdayHere_5 rfl)
    (e_each_cons (r_ldc2 X (n := 190) (v := 431) dX11_weekdayHere_6 w7_20 rfl)
    (e_each_cons (r_lcmp X dX11_weekdayHere_9 rfl)
    (e_each_cons (r_if_ne X (off := 5) (t := 15) dX11_weekdayHere_10 (by decide) rfl)
    (e_each_cons (r_iconst X (n := 0) (v := 0) dX11_weekdayHere_13 (by decide) rfl)
    (e_each_cons (r_ireti X dX11_weekdayHere_14 rfl)
    (e_each_cons (r_lload_n X (k := 1) (i := 1) rfl dX11_weekdayHere_15 rfl)
    (e_each_cons (r_ldc2 X (n := 192) (v := 661) dX11_weekdayHere_16 w7_21 rfl)
    (e_each_cons (r_lcmp X dX11_weekdayHere_19 rfl)
    (e_each_cons (r_if_ne X (off := 5) (t := 25) dX11_weekdayHere_20 (by decide) rfl)
    (e_each_cons (r_iconst X (n := 1) (v := 1) dX11_weekdayHere_23 (by decide) rfl)
    (e_each_cons (r_ireti X dX11_weekdayHere_24 rfl)
    (e_each_cons (r_lload_n X (k := 1) (i := 1) rfl dX11_weekdayHere_25 rfl)
    (e_each_cons (r_ldc2 X (n := 194) (v := 741) dX11_weekdayHere_26 w7_22 rfl)
    (e_each_cons (r_lcmp X dX11_weekdayHere_29 rfl)
    (e_each_cons (r_if_ne X (off := 5) (t := 35) dX11_weekdayHere_30 (by decide) rfl)
    (e_each_cons (r_iconst X (n := 2) (v := 2) dX11_weekdayHere_33 (by decide) rfl)
    (e_each_cons (r_ireti X dX11_weekdayHere_34 rfl)
    (e_each_cons (r_lload_n X (k := 1) (i := 1) rfl dX11_weekdayHere_35 rfl)
    (e_each_cons (r_ldc2 X (n := 196) (v := 648) dX11_weekdayHere_36 w7_23 rfl)
    (e_each_cons (r_lcmp X dX11_weekdayHere_39 rfl)
    (e_each_cons (r_if_ne X (off := 5) (t := 45) dX11_weekdayHere_40 (by decide) rfl)
    (e_each_cons (r_iconst X (n := 3) (v := 3) dX11_weekdayHere_43 (by decide) rfl)
    (e_each_cons (r_ireti X dX11_weekdayHere_44 rfl)
    (e_each_cons (r_lload_n X (k := 1) (i := 1) rfl dX11_weekdayHere_45 rfl)
    (e_each_cons (r_ldc2 X (n := 198) (v := 210) dX11_weekdayHere_46 w7_24 rfl)
    (e_each_cons (r_lcmp X dX11_weekdayHere_49 rfl)
    (e_each_cons (r_if_ne X (off := 5) (t := 55) dX11_weekdayHere_50 (by decide) rfl)
    (e_each_cons (r_iconst X (n := 4) (v := 4) dX11_weekdayHere_53 (by decide) rfl)
    (e_each_cons (r_ireti X dX11_weekdayHere_54 rfl)
    (e_each_cons (r_lload_n X (k := 1) (i := 1) rfl dX11_weekdayHere_55 rfl)
    (e_each_cons (r_ldc2 X (n := 200) (v := 609) dX11_weekdayHere_56 w7_25 rfl)
    (e_each_cons (r_lcmp X dX11_weekdayHere_59 rfl)
    (e_each_cons (r_if_ne X (off := 7) (t := 67) dX11_weekdayHere_60 (by decide) rfl)
    (e_each_cons (r_iconst X (n := 5) (v := 5) dX11_weekdayHere_63 (by decide) rfl)
    (e_each_cons (r_goto X (off := 17) (t := 81) dX11_weekdayHere_64 (by decide))
    (e_each_cons (r_lload_n X (k := 1) (i := 1) rfl dX11_weekdayHere_67 rfl)
    (e_each_cons (r_ldc2 X (n := 202) (v := 629) dX11_weekdayHere_68 w7_26 rfl)
    (e_each_cons (r_lcmp X dX11_weekdayHere_71 rfl)
    (e_each_cons (r_if_ne X (off := 8) (t := 80) dX11_weekdayHere_72 (by decide) rfl)
    (e_each_cons (r_bipush X (n := 6) (v := 6) dX11_weekdayHere_75 (by decide) rfl)
    (e_each_cons (r_goto X (off := 4) (t := 81) dX11_weekdayHere_77 (by decide))
    (e_each_cons (r_iconst X (n := (-1)) (v := (-1)) dX11_weekdayHere_80 (by decide) rfl)
    (e_each_cons (r_ireti X dX11_weekdayHere_81 rfl)
    (e_each_nil)))))))))))))))))))))))))))))))))))))))))))))))
theorem dX11_readWeekdays_0 : decode cX11_readWeekdays 0 = .ok (.aload_n 0, 1) := by decide +kernel
theorem dX11_readWeekdays_1 : decode cX11_readWeekdays 1 = .ok (.invokevirtual 204, 3) := by decide +kernel
theorem dX11_readWeekdays_4 : decode cX11_readWeekdays 4 = .ok (.istore_n 2, 1) := by decide +kernel
theorem dX11_readWeekdays_5 : decode cX11_readWeekdays 5 = .ok (.iload_n 2, 1) := by decide +kernel
theorem dX11_readWeekdays_6 : decode cX11_readWeekdays 6 = .ok (.iconst (-1), 1) := by decide +kernel
theorem dX11_readWeekdays_7 : decode cX11_readWeekdays 7 = .ok (.if_icmp .ne 9, 3) := by decide +kernel
theorem dX11_readWeekdays_10 : decode cX11_readWeekdays 10 = .ok (.aload_n 0, 1) := by decide +kernel
theorem dX11_readWeekdays_11 : decode cX11_readWeekdays 11 = .ok (.iconst 1, 1) := by decide +kernel
theorem dX11_readWeekdays_12 : decode cX11_readWeekdays 12 = .ok (.invokevirtual 166, 3) := by decide +kernel
theorem dX11_readWeekdays_15 : decode cX11_readWeekdays 15 = .ok (.ireturn, 1) := by decide +kernel
theorem dX11_readWeekdays_16 : decode cX11_readWeekdays 16 = .ok (.iload_n 2, 1) := by decide +kernel
theorem dX11_readWeekdays_17 : decode cX11_readWeekdays 17 = .ok (.iconst (-1), 1) := by decide +kernel
theorem dX11_readWeekdays_18 : decode cX11_readWeekdays 18 = .ok (.if_icmp .eq 60, 3) := by decide +kernel
theorem dX11_readWeekdays_21 : decode cX11_readWeekdays 21 = .ok (.aload_n 0, 1) := by decide +kernel
theorem dX11_readWeekdays_22 : decode cX11_readWeekdays 22 = .ok (.getfield 34, 3) := by decide +kernel
theorem dX11_readWeekdays_25 : decode cX11_readWeekdays 25 = .ok (.iload_n 1, 1) := by decide +kernel
theorem dX11_readWeekdays_26 : decode cX11_readWeekdays 26 = .ok (.bipush 7, 2) := by decide +kernel
theorem dX11_readWeekdays_28 : decode cX11_readWeekdays 28 = .ok (.iadd, 1) := by decide +kernel
theorem dX11_readWeekdays_29 : decode cX11_readWeekdays 29 = .ok (.iaload, 1) := by decide +kernel
theorem dX11_readWeekdays_30 : decode cX11_readWeekdays 30 = .ok (.iload_n 2, 1) := by decide +kernel
theorem dX11_readWeekdays_31 : decode cX11_readWeekdays 31 = .ok (.invokestatic 64, 3) := by decide +kernel
theorem dX11_readWeekdays_34 : decode cX11_readWeekdays 34 = .ok (.ifCond .eq 9, 3) := by decide +kernel
theorem dX11_readWeekdays_37 : decode cX11_readWeekdays 37 = .ok (.aload_n 0, 1) := by decide +kernel
theorem dX11_readWeekdays_38 : decode cX11_readWeekdays 38 = .ok (.iconst 3, 1) := by decide +kernel
theorem dX11_readWeekdays_39 : decode cX11_readWeekdays 39 = .ok (.invokevirtual 166, 3) := by decide +kernel
theorem dX11_readWeekdays_42 : decode cX11_readWeekdays 42 = .ok (.ireturn, 1) := by decide +kernel
theorem dX11_readWeekdays_43 : decode cX11_readWeekdays 43 = .ok (.aload_n 0, 1) := by decide +kernel
theorem dX11_readWeekdays_44 : decode cX11_readWeekdays 44 = .ok (.getfield 34, 3) := by decide +kernel
theorem dX11_readWeekdays_47 : decode cX11_readWeekdays 47 = .ok (.iload_n 1, 1) := by decide +kernel
theorem dX11_readWeekdays_48 : decode cX11_readWeekdays 48 = .ok (.bipush 7, 2) := by decide +kernel
theorem dX11_readWeekdays_50 : decode cX11_readWeekdays 50 = .ok (.iadd, 1) := by decide +kernel
theorem dX11_readWeekdays_51 : decode cX11_readWeekdays 51 = .ok (.aload_n 0, 1) := by decide +kernel
theorem dX11_readWeekdays_52 : decode cX11_readWeekdays 52 = .ok (.getfield 34, 3) := by decide +kernel
theorem dX11_readWeekdays_55 : decode cX11_readWeekdays 55 = .ok (.iload_n 1, 1) := by decide +kernel
theorem dX11_readWeekdays_56 : decode cX11_readWeekdays 56 = .ok (.bipush 7, 2) := by decide +kernel
theorem dX11_readWeekdays_58 : decode cX11_readWeekdays 58 = .ok (.iadd, 1) := by decide +kernel
theorem dX11_readWeekdays_59 : decode cX11_readWeekdays 59 = .ok (.iaload, 1) := by decide +kernel
theorem dX11_readWeekdays_60 : decode cX11_readWeekdays 60 = .ok (.iconst 1, 1) := by decide +kernel
theorem dX11_readWeekdays_61 : decode cX11_readWeekdays 61 = .ok (.iload_n 2, 1) := by decide +kernel
theorem dX11_readWeekdays_62 : decode cX11_readWeekdays 62 = .ok (.ishl, 1) := by decide +kernel
theorem dX11_readWeekdays_63 : decode cX11_readWeekdays 63 = .ok (.ior, 1) := by decide +kernel
theorem dX11_readWeekdays_64 : decode cX11_readWeekdays 64 = .ok (.iastore, 1) := by decide +kernel
theorem dX11_readWeekdays_65 : decode cX11_readWeekdays 65 = .ok (.aload_n 0, 1) := by decide +kernel
theorem dX11_readWeekdays_66 : decode cX11_readWeekdays 66 = .ok (.invokevirtual 162, 3) := by decide +kernel
theorem dX11_readWeekdays_69 : decode cX11_readWeekdays 69 = .ok (.pop, 1) := by decide +kernel
theorem dX11_readWeekdays_70 : decode cX11_readWeekdays 70 = .ok (.aload_n 0, 1) := by decide +kernel
theorem dX11_readWeekdays_71 : decode cX11_readWeekdays 71 = .ok (.invokevirtual 204, 3) := by decide +kernel
theorem dX11_readWeekdays_74 : decode cX11_readWeekdays 74 = .ok (.istore_n 2, 1) := by decide +kernel
theorem dX11_readWeekdays_75 : decode cX11_readWeekdays 75 = .ok (.goto (-59), 3) := by decide +kernel
theorem dX11_readWeekdays_78 : decode cX11_readWeekdays 78 = .ok (.iconst 1, 1) := by decide +kernel
theorem dX11_readWeekdays_79 : decode cX11_readWeekdays 79 = .ok (.ireturn, 1) := by decide +kernel
def pg_X11_readWeekdays (l : Launch) (g : EG) : List (Nat × ES) := [(0, s_ldP 0), (1, s_callV l g sg_X11_readWeekdays sg_X11_weekdayHere 10), (4, s_stI 2), (5, s_ldI 2), (6, s_c (.inl (-1))), (7, s_icmp_ne 16), (10, s_ldP 0), (11, s_c (.inl 1)), (12, s_callV l g sg_X11_readWeekdays sg_X11_fails 10), (15, s_iretz), (16, s_ldI 2), (17, s_c (.inl (-1))), (18, s_icmp_eq 78), (21, s_ldP 0), (22, s_getP 10 18), (25, s_ldI 1), (26, s_c (.inl 7)), (28, s_ii (fun x y => x + y)), (29, s_iald), (30, s_ldI 2), (31, s_callS l g sg_X11_readWeekdays sg_X11_has), (34, s_if_eq 43), (37, s_ldP 0), (38, s_c (.inl 3)), (39, s_callV l g sg_X11_readWeekdays sg_X11_fails 10), (42, s_iretz), (43, s_ldP 0), (44, s_getP 10 18), (47, s_ldI 1), (48, s_c (.inl 7)), (50, s_ii (fun x y => x + y)), (51, s_ldP 0), (52, s_getP 10 18), (55, s_ldI 1), (56, s_c (.inl 7)), (58, s_ii (fun x y => x + y)), (59, s_iald), (60, s_c (.inl 1)), (61, s_ldI 2), (62, s_ii (fun x y => x <<< (y &&& 31))), (63, s_ii (fun x y => x ||| y)), (64, s_iast), (65, s_ldP 0), (66, s_callV l g sg_X11_readWeekdays sg_X11_passes 10), (69, s_pop), (70, s_ldP 0), (71, s_callV l g sg_X11_readWeekdays sg_X11_weekdayHere 10), (74, s_stI 2), (75, s_goto 16), (78, s_c (.inl 1)), (79, s_iretz)]
set_option maxRecDepth 100000 in
theorem ok_X11_readWeekdays {l : Launch} {g : EG} : e_okp l g sg_X11_readWeekdays "CalendarSyncModel" (pg_X11_readWeekdays l g) := fun p e R s m args below meth c ex M0 Q X =>
    e_each_cons (r_aload_n X (k := 0) (i := 0) rfl dX11_readWeekdays_0 rfl)
    (e_each_cons (r_callV X rfl (τ := sg_X11_weekdayHere) (index := 204) (ci := 10) dX11_readWeekdays_1 (by decide) rfl w7_16 w7_18 ws_50 cs_X11_weekdayHere rfl ⟨by decide, by decide⟩ rfl)
    (e_each_cons (r_istore_n X (k := 2) (i := 2) rfl dX11_readWeekdays_4 (by decide) rfl)
    (e_each_cons (r_iload_n X (k := 2) (i := 2) rfl dX11_readWeekdays_5 rfl)
    (e_each_cons (r_iconst X (n := (-1)) (v := (-1)) dX11_readWeekdays_6 (by decide) rfl)
    (e_each_cons (r_icmp_ne X (off := 9) (t := 16) dX11_readWeekdays_7 (by decide) rfl)
    (e_each_cons (r_aload_n X (k := 0) (i := 0) rfl dX11_readWeekdays_10 rfl)
    (e_each_cons (r_iconst X (n := 1) (v := 1) dX11_readWeekdays_11 (by decide) rfl)
    (e_each_cons (r_callV X rfl (τ := sg_X11_fails) (index := 166) (ci := 10) dX11_readWeekdays_12 (by decide) rfl w6_215 w6_217 ws_41 cs_X11_fails rfl ⟨by decide, by decide⟩ rfl)
    (e_each_cons (r_iretz X dX11_readWeekdays_15 rfl)
    (e_each_cons (r_iload_n X (k := 2) (i := 2) rfl dX11_readWeekdays_16 rfl)
    (e_each_cons (r_iconst X (n := (-1)) (v := (-1)) dX11_readWeekdays_17 (by decide) rfl)
    (e_each_cons (r_icmp_eq X (off := 60) (t := 78) dX11_readWeekdays_18 (by decide) rfl)
    (e_each_cons (r_aload_n X (k := 0) (i := 0) rfl dX11_readWeekdays_21 rfl)
    (e_each_cons (r_getP X (index := 34) (ci := 10) (k := 18) dX11_readWeekdays_22 (by decide) (by decide) rfl w6_44 rfl)
    (e_each_cons (r_iload_n X (k := 1) (i := 1) rfl dX11_readWeekdays_25 rfl)
    (e_each_cons (r_bipush X (n := 7) (v := 7) dX11_readWeekdays_26 (by decide) rfl)
    (e_each_cons (r_iadd X dX11_readWeekdays_28 rfl)
    (e_each_cons (r_iald X dX11_readWeekdays_29 rfl)
    (e_each_cons (r_iload_n X (k := 2) (i := 2) rfl dX11_readWeekdays_30 rfl)
    (e_each_cons (r_callS X rfl (τ := sg_X11_has) (index := 64) dX11_readWeekdays_31 w7_27 w7_28 cs_X11_has rfl ⟨by decide, by decide⟩ rfl)
    (e_each_cons (r_if_eq X (off := 9) (t := 43) dX11_readWeekdays_34 (by decide) rfl)
    (e_each_cons (r_aload_n X (k := 0) (i := 0) rfl dX11_readWeekdays_37 rfl)
    (e_each_cons (r_iconst X (n := 3) (v := 3) dX11_readWeekdays_38 (by decide) rfl)
    (e_each_cons (r_callV X rfl (τ := sg_X11_fails) (index := 166) (ci := 10) dX11_readWeekdays_39 (by decide) rfl w6_215 w6_217 ws_41 cs_X11_fails rfl ⟨by decide, by decide⟩ rfl)
    (e_each_cons (r_iretz X dX11_readWeekdays_42 rfl)
    (e_each_cons (r_aload_n X (k := 0) (i := 0) rfl dX11_readWeekdays_43 rfl)
    (e_each_cons (r_getP X (index := 34) (ci := 10) (k := 18) dX11_readWeekdays_44 (by decide) (by decide) rfl w6_44 rfl)
    (e_each_cons (r_iload_n X (k := 1) (i := 1) rfl dX11_readWeekdays_47 rfl)
    (e_each_cons (r_bipush X (n := 7) (v := 7) dX11_readWeekdays_48 (by decide) rfl)
    (e_each_cons (r_iadd X dX11_readWeekdays_50 rfl)
    (e_each_cons (r_aload_n X (k := 0) (i := 0) rfl dX11_readWeekdays_51 rfl)
    (e_each_cons (r_getP X (index := 34) (ci := 10) (k := 18) dX11_readWeekdays_52 (by decide) (by decide) rfl w6_44 rfl)
    (e_each_cons (r_iload_n X (k := 1) (i := 1) rfl dX11_readWeekdays_55 rfl)
    (e_each_cons (r_bipush X (n := 7) (v := 7) dX11_readWeekdays_56 (by decide) rfl)
    (e_each_cons (r_iadd X dX11_readWeekdays_58 rfl)
    (e_each_cons (r_iald X dX11_readWeekdays_59 rfl)
    (e_each_cons (r_iconst X (n := 1) (v := 1) dX11_readWeekdays_60 (by decide) rfl)
    (e_each_cons (r_iload_n X (k := 2) (i := 2) rfl dX11_readWeekdays_61 rfl)
    (e_each_cons (r_ishl X dX11_readWeekdays_62 rfl)
    (e_each_cons (r_ior X dX11_readWeekdays_63 rfl)
    (e_each_cons (r_iast X dX11_readWeekdays_64 rfl)
    (e_each_cons (r_aload_n X (k := 0) (i := 0) rfl dX11_readWeekdays_65 rfl)
    (e_each_cons (r_callV X rfl (τ := sg_X11_passes) (index := 162) (ci := 10) dX11_readWeekdays_66 (by decide) rfl w6_219 w6_221 ws_42 cs_X11_passes rfl ⟨by decide, by decide⟩ rfl)
    (e_each_cons (r_pop X dX11_readWeekdays_69 rfl)
    (e_each_cons (r_aload_n X (k := 0) (i := 0) rfl dX11_readWeekdays_70 rfl)
    (e_each_cons (r_callV X rfl (τ := sg_X11_weekdayHere) (index := 204) (ci := 10) dX11_readWeekdays_71 (by decide) rfl w7_16 w7_18 ws_50 cs_X11_weekdayHere rfl ⟨by decide, by decide⟩ rfl)
    (e_each_cons (r_istore_n X (k := 2) (i := 2) rfl dX11_readWeekdays_74 (by decide) rfl)
    (e_each_cons (r_goto X (off := (-59)) (t := 16) dX11_readWeekdays_75 (by decide))
    (e_each_cons (r_iconst X (n := 1) (v := 1) dX11_readWeekdays_78 (by decide) rfl)
    (e_each_cons (r_iretz X dX11_readWeekdays_79 rfl)
    (e_each_nil)))))))))))))))))))))))))))))))))))))))))))))))))))
theorem dX11_readRule_0 : decode cX11_readRule 0 = .ok (.aload_n 0, 1) := by decide +kernel
theorem dX11_readRule_1 : decode cX11_readRule 1 = .ok (.iconst 1, 1) := by decide +kernel
theorem dX11_readRule_2 : decode cX11_readRule 2 = .ok (.bipush 9, 2) := by decide +kernel
theorem dX11_readRule_4 : decode cX11_readRule 4 = .ok (.invokevirtual 181, 3) := by decide +kernel
theorem dX11_readRule_7 : decode cX11_readRule 7 = .ok (.ifCond .ne 5, 3) := by decide +kernel
theorem dX11_readRule_10 : decode cX11_readRule 10 = .ok (.iconst 0, 1) := by decide +kernel
theorem dX11_readRule_11 : decode cX11_readRule 11 = .ok (.ireturn, 1) := by decide +kernel
theorem dX11_readRule_12 : decode cX11_readRule 12 = .ok (.aload_n 0, 1) := by decide +kernel
theorem dX11_readRule_13 : decode cX11_readRule 13 = .ok (.getfield 34, 3) := by decide +kernel
theorem dX11_readRule_16 : decode cX11_readRule 16 = .ok (.iload_n 1, 1) := by decide +kernel
theorem dX11_readRule_17 : decode cX11_readRule 17 = .ok (.bipush 6, 2) := by decide +kernel
theorem dX11_readRule_19 : decode cX11_readRule 19 = .ok (.iadd, 1) := by decide +kernel
theorem dX11_readRule_20 : decode cX11_readRule 20 = .ok (.aload_n 0, 1) := by decide +kernel
theorem dX11_readRule_21 : decode cX11_readRule 21 = .ok (.getfield 169, 3) := by decide +kernel
theorem dX11_readRule_24 : decode cX11_readRule 24 = .ok (.iastore, 1) := by decide +kernel
theorem dX11_readRule_25 : decode cX11_readRule 25 = .ok (.aload_n 0, 1) := by decide +kernel
theorem dX11_readRule_26 : decode cX11_readRule 26 = .ok (.invokevirtual 158, 3) := by decide +kernel
theorem dX11_readRule_29 : decode cX11_readRule 29 = .ok (.lstore_n 2, 1) := by decide +kernel
theorem dX11_readRule_30 : decode cX11_readRule 30 = .ok (.lload_n 2, 1) := by decide +kernel
theorem dX11_readRule_31 : decode cX11_readRule 31 = .ok (.ldc2_w 207, 3) := by decide +kernel
theorem dX11_readRule_34 : decode cX11_readRule 34 = .ok (.lcmp, 1) := by decide +kernel
theorem dX11_readRule_35 : decode cX11_readRule 35 = .ok (.ifCond .eq 25, 3) := by decide +kernel
theorem dX11_readRule_38 : decode cX11_readRule 38 = .ok (.lload_n 2, 1) := by decide +kernel
theorem dX11_readRule_39 : decode cX11_readRule 39 = .ok (.ldc2_w 209, 3) := by decide +kernel
theorem dX11_readRule_42 : decode cX11_readRule 42 = .ok (.lcmp, 1) := by decide +kernel
theorem dX11_readRule_43 : decode cX11_readRule 43 = .ok (.ifCond .eq 17, 3) := by decide +kernel
theorem dX11_readRule_46 : decode cX11_readRule 46 = .ok (.lload_n 2, 1) := by decide +kernel
theorem dX11_readRule_47 : decode cX11_readRule 47 = .ok (.ldc2_w 211, 3) := by decide +kernel
theorem dX11_readRule_50 : decode cX11_readRule 50 = .ok (.lcmp, 1) := by decide +kernel
theorem dX11_readRule_51 : decode cX11_readRule 51 = .ok (.ifCond .eq 9, 3) := by decide +kernel
theorem dX11_readRule_54 : decode cX11_readRule 54 = .ok (.aload_n 0, 1) := by decide +kernel
theorem dX11_readRule_55 : decode cX11_readRule 55 = .ok (.iconst 1, 1) := by decide +kernel
theorem dX11_readRule_56 : decode cX11_readRule 56 = .ok (.invokevirtual 166, 3) := by decide +kernel
theorem dX11_readRule_59 : decode cX11_readRule 59 = .ok (.ireturn, 1) := by decide +kernel
theorem dX11_readRule_60 : decode cX11_readRule 60 = .ok (.aload_n 0, 1) := by decide +kernel
theorem dX11_readRule_61 : decode cX11_readRule 61 = .ok (.invokevirtual 162, 3) := by decide +kernel
theorem dX11_readRule_64 : decode cX11_readRule 64 = .ok (.pop, 1) := by decide +kernel
theorem dX11_readRule_65 : decode cX11_readRule 65 = .ok (.aload_n 0, 1) := by decide +kernel
theorem dX11_readRule_66 : decode cX11_readRule 66 = .ok (.getfield 34, 3) := by decide +kernel
theorem dX11_readRule_69 : decode cX11_readRule 69 = .ok (.iload_n 1, 1) := by decide +kernel
theorem dX11_readRule_70 : decode cX11_readRule 70 = .ok (.iconst 5, 1) := by decide +kernel
theorem dX11_readRule_71 : decode cX11_readRule 71 = .ok (.iadd, 1) := by decide +kernel
theorem dX11_readRule_72 : decode cX11_readRule 72 = .ok (.lload_n 2, 1) := by decide +kernel
theorem dX11_readRule_73 : decode cX11_readRule 73 = .ok (.ldc2_w 207, 3) := by decide +kernel
theorem dX11_readRule_76 : decode cX11_readRule 76 = .ok (.lcmp, 1) := by decide +kernel
theorem dX11_readRule_77 : decode cX11_readRule 77 = .ok (.ifCond .ne 7, 3) := by decide +kernel
theorem dX11_readRule_80 : decode cX11_readRule 80 = .ok (.iconst 1, 1) := by decide +kernel
theorem dX11_readRule_81 : decode cX11_readRule 81 = .ok (.goto 16, 3) := by decide +kernel
theorem dX11_readRule_84 : decode cX11_readRule 84 = .ok (.lload_n 2, 1) := by decide +kernel
theorem dX11_readRule_85 : decode cX11_readRule 85 = .ok (.ldc2_w 209, 3) := by decide +kernel
theorem dX11_readRule_88 : decode cX11_readRule 88 = .ok (.lcmp, 1) := by decide +kernel
theorem dX11_readRule_89 : decode cX11_readRule 89 = .ok (.ifCond .ne 7, 3) := by decide +kernel
theorem dX11_readRule_92 : decode cX11_readRule 92 = .ok (.iconst 2, 1) := by decide +kernel
theorem dX11_readRule_93 : decode cX11_readRule 93 = .ok (.goto 4, 3) := by decide +kernel
theorem dX11_readRule_96 : decode cX11_readRule 96 = .ok (.iconst 3, 1) := by decide +kernel
theorem dX11_readRule_97 : decode cX11_readRule 97 = .ok (.iastore, 1) := by decide +kernel
theorem dX11_readRule_98 : decode cX11_readRule 98 = .ok (.lload_n 2, 1) := by decide +kernel
theorem dX11_readRule_99 : decode cX11_readRule 99 = .ok (.ldc2_w 209, 3) := by decide +kernel
theorem dX11_readRule_102 : decode cX11_readRule 102 = .ok (.lcmp, 1) := by decide +kernel
theorem dX11_readRule_103 : decode cX11_readRule 103 = .ok (.ifCond .ne 13, 3) := by decide +kernel
theorem dX11_readRule_106 : decode cX11_readRule 106 = .ok (.aload_n 0, 1) := by decide +kernel
theorem dX11_readRule_107 : decode cX11_readRule 107 = .ok (.iload_n 1, 1) := by decide +kernel
theorem dX11_readRule_108 : decode cX11_readRule 108 = .ok (.invokevirtual 213, 3) := by decide +kernel
theorem dX11_readRule_111 : decode cX11_readRule 111 = .ok (.ifCond .ne 5, 3) := by decide +kernel
theorem dX11_readRule_114 : decode cX11_readRule 114 = .ok (.iconst 0, 1) := by decide +kernel
theorem dX11_readRule_115 : decode cX11_readRule 115 = .ok (.ireturn, 1) := by decide +kernel
theorem dX11_readRule_116 : decode cX11_readRule 116 = .ok (.aload_n 0, 1) := by decide +kernel
theorem dX11_readRule_117 : decode cX11_readRule 117 = .ok (.ldc2_w 216, 3) := by decide +kernel
theorem dX11_readRule_120 : decode cX11_readRule 120 = .ok (.invokevirtual 186, 3) := by decide +kernel
theorem dX11_readRule_123 : decode cX11_readRule 123 = .ok (.ifCond .ne 9, 3) := by decide +kernel
theorem dX11_readRule_126 : decode cX11_readRule 126 = .ok (.aload_n 0, 1) := by decide +kernel
theorem dX11_readRule_127 : decode cX11_readRule 127 = .ok (.iconst 1, 1) := by decide +kernel
theorem dX11_readRule_128 : decode cX11_readRule 128 = .ok (.invokevirtual 166, 3) := by decide +kernel
theorem dX11_readRule_131 : decode cX11_readRule 131 = .ok (.ireturn, 1) := by decide +kernel
theorem dX11_readRule_132 : decode cX11_readRule 132 = .ok (.aload_n 0, 1) := by decide +kernel
theorem dX11_readRule_133 : decode cX11_readRule 133 = .ok (.iconst 1, 1) := by decide +kernel
theorem dX11_readRule_134 : decode cX11_readRule 134 = .ok (.bipush 30, 2) := by decide +kernel
theorem dX11_readRule_136 : decode cX11_readRule 136 = .ok (.invokevirtual 181, 3) := by decide +kernel
theorem dX11_readRule_139 : decode cX11_readRule 139 = .ok (.ifCond .ne 5, 3) := by decide +kernel
theorem dX11_readRule_142 : decode cX11_readRule 142 = .ok (.iconst 0, 1) := by decide +kernel
theorem dX11_readRule_143 : decode cX11_readRule 143 = .ok (.ireturn, 1) := by decide +kernel
theorem dX11_readRule_144 : decode cX11_readRule 144 = .ok (.aload_n 0, 1) := by decide +kernel
theorem dX11_readRule_145 : decode cX11_readRule 145 = .ok (.getfield 34, 3) := by decide +kernel
theorem dX11_readRule_148 : decode cX11_readRule 148 = .ok (.iload_n 1, 1) := by decide +kernel
theorem dX11_readRule_149 : decode cX11_readRule 149 = .ok (.bipush 8, 2) := by decide +kernel
theorem dX11_readRule_151 : decode cX11_readRule 151 = .ok (.iadd, 1) := by decide +kernel
theorem dX11_readRule_152 : decode cX11_readRule 152 = .ok (.aload_n 0, 1) := by decide +kernel
theorem dX11_readRule_153 : decode cX11_readRule 153 = .ok (.getfield 169, 3) := by decide +kernel
theorem dX11_readRule_156 : decode cX11_readRule 156 = .ok (.iastore, 1) := by decide +kernel
theorem dX11_readRule_157 : decode cX11_readRule 157 = .ok (.iconst 1, 1) := by decide +kernel
theorem dX11_readRule_158 : decode cX11_readRule 158 = .ok (.ireturn, 1) := by decide +kernel
def pg_X11_readRule (l : Launch) (g : EG) : List (Nat × ES) := [(0, s_ldP 0), (1, s_c (.inl 1)), (2, s_c (.inl 9)), (4, s_callV l g sg_X11_readRule sg_X11_readNumber 10), (7, s_if_ne 12), (10, s_c (.inl 0)), (11, s_iretz), (12, s_ldP 0), (13, s_getP 10 18), (16, s_ldI 1), (17, s_c (.inl 6)), (19, s_ii (fun x y => x + y)), (20, s_ldP 0), (21, s_getI 10 15), (24, s_iast), (25, s_ldP 0), (26, s_callV l g sg_X11_readRule sg_X11_nextWord 10), (29, s_stL 2), (30, s_ldL 2), (31, s_c (.inr (.inl 132915))), (34, s_lc lg_cmp), (35, s_if_eq 60), (38, s_ldL 2), (39, s_c (.inr (.inl 24286579))), (42, s_lc lg_cmp), (43, s_if_eq 60), (46, s_ldL 2), (47, s_c (.inr (.inl 452415763))), (50, s_lc lg_cmp), (51, s_if_eq 60), (54, s_ldP 0), (55, s_c (.inl 1)), (56, s_callV l g sg_X11_readRule sg_X11_fails 10), (59, s_iretz), (60, s_ldP 0), (61, s_callV l g sg_X11_readRule sg_X11_passes 10), (64, s_pop), (65, s_ldP 0), (66, s_getP 10 18), (69, s_ldI 1), (70, s_c (.inl 5)), (71, s_ii (fun x y => x + y)), (72, s_ldL 2), (73, s_c (.inr (.inl 132915))), (76, s_lc lg_cmp), (77, s_if_ne 84), (80, s_c (.inl 1)), (81, s_goto 97), (84, s_ldL 2), (85, s_c (.inr (.inl 24286579))), (88, s_lc lg_cmp), (89, s_if_ne 96), (92, s_c (.inl 2)), (93, s_goto 97), (96, s_c (.inl 3)), (97, s_iast), (98, s_ldL 2), (99, s_c (.inr (.inl 24286579))), (102, s_lc lg_cmp), (103, s_if_ne 116), (106, s_ldP 0), (107, s_ldI 1), (108, s_callV l g sg_X11_readRule sg_X11_readWeekdays 10), (111, s_if_ne 116), (114, s_c (.inl 0)), (115, s_iretz), (116, s_ldP 0), (117, s_c (.inr (.inl 21279923))), (120, s_callV l g sg_X11_readRule sg_X11_passesWord 10), (123, s_if_ne 132), (126, s_ldP 0), (127, s_c (.inl 1)), (128, s_callV l g sg_X11_readRule sg_X11_fails 10), (131, s_iretz), (132, s_ldP 0), (133, s_c (.inl 1)), (134, s_c (.inl 30)), (136, s_callV l g sg_X11_readRule sg_X11_readNumber 10), (139, s_if_ne 144), (142, s_c (.inl 0)), (143, s_iretz), (144, s_ldP 0), (145, s_getP 10 18), (148, s_ldI 1), (149, s_c (.inl 8)), (151, s_ii (fun x y => x + y)), (152, s_ldP 0), (153, s_getI 10 15), (156, s_iast), (157, s_c (.inl 1)), (158, s_iretz)]
set_option maxRecDepth 100000 in
theorem ok_X11_readRule {l : Launch} {g : EG} : e_okp l g sg_X11_readRule "CalendarSyncModel" (pg_X11_readRule l g) := fun p e R s m args below meth c ex M0 Q X =>
    e_each_cons (r_aload_n X (k := 0) (i := 0) rfl dX11_readRule_0 rfl)
    (e_each_cons (r_iconst X (n := 1) (v := 1) dX11_readRule_1 (by decide) rfl)
    (e_each_cons (r_bipush X (n := 9) (v := 9) dX11_readRule_2 (by decide) rfl)
    (e_each_cons (r_callV X rfl (τ := sg_X11_readNumber) (index := 181) (ci := 10) dX11_readRule_4 (by decide) rfl w6_227 w6_229 ws_44 cs_X11_readNumber rfl ⟨by decide, by decide⟩ rfl)
    (e_each_cons (r_if_ne X (off := 5) (t := 12) dX11_readRule_7 (by decide) rfl)
    (e_each_cons (r_iconst X (n := 0) (v := 0) dX11_readRule_10 (by decide) rfl)
    (e_each_cons (r_iretz X dX11_readRule_11 rfl)
    (e_each_cons (r_aload_n X (k := 0) (i := 0) rfl dX11_readRule_12 rfl)
    (e_each_cons (r_getP X (index := 34) (ci := 10) (k := 18) dX11_readRule_13 (by decide) (by decide) rfl w6_44 rfl)
    (e_each_cons (r_iload_n X (k := 1) (i := 1) rfl dX11_readRule_16 rfl)
    (e_each_cons (r_bipush X (n := 6) (v := 6) dX11_readRule_17 (by decide) rfl)
    (e_each_cons (r_iadd X dX11_readRule_19 rfl)
    (e_each_cons (r_aload_n X (k := 0) (i := 0) rfl dX11_readRule_20 rfl)
    (e_each_cons (r_getI X (index := 169) (ci := 10) (k := 15) dX11_readRule_21 (by decide) (by decide) rfl w6_41 rfl)
    (e_each_cons (r_iast X dX11_readRule_24 rfl)
    (e_each_cons (r_aload_n X (k := 0) (i := 0) rfl dX11_readRule_25 rfl)
    (e_each_cons (r_callV X rfl (τ := sg_X11_nextWord) (index := 158) (ci := 10) dX11_readRule_26 (by decide) rfl w6_203 w6_205 ws_39 cs_X11_nextWord rfl ⟨by decide, by decide⟩ rfl)
    (e_each_cons (r_lstore_n X (k := 2) (i := 2) rfl dX11_readRule_29 (by decide) rfl)
    (e_each_cons (r_lload_n X (k := 2) (i := 2) rfl dX11_readRule_30 rfl)
    (e_each_cons (r_ldc2 X (n := 207) (v := 132915) dX11_readRule_31 w7_9 rfl)
    (e_each_cons (r_lcmp X dX11_readRule_34 rfl)
    (e_each_cons (r_if_eq X (off := 25) (t := 60) dX11_readRule_35 (by decide) rfl)
    (e_each_cons (r_lload_n X (k := 2) (i := 2) rfl dX11_readRule_38 rfl)
    (e_each_cons (r_ldc2 X (n := 209) (v := 24286579) dX11_readRule_39 w7_10 rfl)
    (e_each_cons (r_lcmp X dX11_readRule_42 rfl)
    (e_each_cons (r_if_eq X (off := 17) (t := 60) dX11_readRule_43 (by decide) rfl)
    (e_each_cons (r_lload_n X (k := 2) (i := 2) rfl dX11_readRule_46 rfl)
    (e_each_cons (r_ldc2 X (n := 211) (v := 452415763) dX11_readRule_47 w7_11 rfl)
    (e_each_cons (r_lcmp X dX11_readRule_50 rfl)
    (e_each_cons (r_if_eq X (off := 9) (t := 60) dX11_readRule_51 (by decide) rfl)
    (e_each_cons (r_aload_n X (k := 0) (i := 0) rfl dX11_readRule_54 rfl)
    (e_each_cons (r_iconst X (n := 1) (v := 1) dX11_readRule_55 (by decide) rfl)
    (e_each_cons (r_callV X rfl (τ := sg_X11_fails) (index := 166) (ci := 10) dX11_readRule_56 (by decide) rfl w6_215 w6_217 ws_41 cs_X11_fails rfl ⟨by decide, by decide⟩ rfl)
    (e_each_cons (r_iretz X dX11_readRule_59 rfl)
    (e_each_cons (r_aload_n X (k := 0) (i := 0) rfl dX11_readRule_60 rfl)
    (e_each_cons (r_callV X rfl (τ := sg_X11_passes) (index := 162) (ci := 10) dX11_readRule_61 (by decide) rfl w6_219 w6_221 ws_42 cs_X11_passes rfl ⟨by decide, by decide⟩ rfl)
    (e_each_cons (r_pop X dX11_readRule_64 rfl)
    (e_each_cons (r_aload_n X (k := 0) (i := 0) rfl dX11_readRule_65 rfl)
    (e_each_cons (r_getP X (index := 34) (ci := 10) (k := 18) dX11_readRule_66 (by decide) (by decide) rfl w6_44 rfl)
    (e_each_cons (r_iload_n X (k := 1) (i := 1) rfl dX11_readRule_69 rfl)
    (e_each_cons (r_iconst X (n := 5) (v := 5) dX11_readRule_70 (by decide) rfl)
    (e_each_cons (r_iadd X dX11_readRule_71 rfl)
    (e_each_cons (r_lload_n X (k := 2) (i := 2) rfl dX11_readRule_72 rfl)
    (e_each_cons (r_ldc2 X (n := 207) (v := 132915) dX11_readRule_73 w7_9 rfl)
    (e_each_cons (r_lcmp X dX11_readRule_76 rfl)
    (e_each_cons (r_if_ne X (off := 7) (t := 84) dX11_readRule_77 (by decide) rfl)
    (e_each_cons (r_iconst X (n := 1) (v := 1) dX11_readRule_80 (by decide) rfl)
    (e_each_cons (r_goto X (off := 16) (t := 97) dX11_readRule_81 (by decide))
    (e_each_cons (r_lload_n X (k := 2) (i := 2) rfl dX11_readRule_84 rfl)
    (e_each_cons (r_ldc2 X (n := 209) (v := 24286579) dX11_readRule_85 w7_10 rfl)
    (e_each_cons (r_lcmp X dX11_readRule_88 rfl)
    (e_each_cons (r_if_ne X (off := 7) (t := 96) dX11_readRule_89 (by decide) rfl)
    (e_each_cons (r_iconst X (n := 2) (v := 2) dX11_readRule_92 (by decide) rfl)
    (e_each_cons (r_goto X (off := 4) (t := 97) dX11_readRule_93 (by decide))
    (e_each_cons (r_iconst X (n := 3) (v := 3) dX11_readRule_96 (by decide) rfl)
    (e_each_cons (r_iast X dX11_readRule_97 rfl)
    (e_each_cons (r_lload_n X (k := 2) (i := 2) rfl dX11_readRule_98 rfl)
    (e_each_cons (r_ldc2 X (n := 209) (v := 24286579) dX11_readRule_99 w7_10 rfl)
    (e_each_cons (r_lcmp X dX11_readRule_102 rfl)
    (e_each_cons (r_if_ne X (off := 13) (t := 116) dX11_readRule_103 (by decide) rfl)
    (e_each_cons (r_aload_n X (k := 0) (i := 0) rfl dX11_readRule_106 rfl)
    (e_each_cons (r_iload_n X (k := 1) (i := 1) rfl dX11_readRule_107 rfl)
    (e_each_cons (r_callV X rfl (τ := sg_X11_readWeekdays) (index := 213) (ci := 10) dX11_readRule_108 (by decide) rfl w7_12 w7_14 ws_49 cs_X11_readWeekdays rfl ⟨by decide, by decide⟩ rfl)
    (e_each_cons (r_if_ne X (off := 5) (t := 116) dX11_readRule_111 (by decide) rfl)
    (e_each_cons (r_iconst X (n := 0) (v := 0) dX11_readRule_114 (by decide) rfl)
    (e_each_cons (r_iretz X dX11_readRule_115 rfl)
    (e_each_cons (r_aload_n X (k := 0) (i := 0) rfl dX11_readRule_116 rfl)
    (e_each_cons (r_ldc2 X (n := 216) (v := 21279923) dX11_readRule_117 w7_30 rfl)
    (e_each_cons (r_callV X rfl (τ := sg_X11_passesWord) (index := 186) (ci := 10) dX11_readRule_120 (by decide) rfl w6_236 w6_238 ws_46 cs_X11_passesWord rfl ⟨by decide, by decide⟩ rfl)
    (e_each_cons (r_if_ne X (off := 9) (t := 132) dX11_readRule_123 (by decide) rfl)
    (e_each_cons (r_aload_n X (k := 0) (i := 0) rfl dX11_readRule_126 rfl)
    (e_each_cons (r_iconst X (n := 1) (v := 1) dX11_readRule_127 (by decide) rfl)
    (e_each_cons (r_callV X rfl (τ := sg_X11_fails) (index := 166) (ci := 10) dX11_readRule_128 (by decide) rfl w6_215 w6_217 ws_41 cs_X11_fails rfl ⟨by decide, by decide⟩ rfl)
    (e_each_cons (r_iretz X dX11_readRule_131 rfl)
    (e_each_cons (r_aload_n X (k := 0) (i := 0) rfl dX11_readRule_132 rfl)
    (e_each_cons (r_iconst X (n := 1) (v := 1) dX11_readRule_133 (by decide) rfl)
    (e_each_cons (r_bipush X (n := 30) (v := 30) dX11_readRule_134 (by decide) rfl)
    (e_each_cons (r_callV X rfl (τ := sg_X11_readNumber) (index := 181) (ci := 10) dX11_readRule_136 (by decide) rfl w6_227 w6_229 ws_44 cs_X11_readNumber rfl ⟨by decide, by decide⟩ rfl)
    (e_each_cons (r_if_ne X (off := 5) (t := 144) dX11_readRule_139 (by decide) rfl)
    (e_each_cons (r_iconst X (n := 0) (v := 0) dX11_readRule_142 (by decide) rfl)
    (e_each_cons (r_iretz X dX11_readRule_143 rfl)
    (e_each_cons (r_aload_n X (k := 0) (i := 0) rfl dX11_readRule_144 rfl)
    (e_each_cons (r_getP X (index := 34) (ci := 10) (k := 18) dX11_readRule_145 (by decide) (by decide) rfl w6_44 rfl)
    (e_each_cons (r_iload_n X (k := 1) (i := 1) rfl dX11_readRule_148 rfl)
    (e_each_cons (r_bipush X (n := 8) (v := 8) dX11_readRule_149 (by decide) rfl)
    (e_each_cons (r_iadd X dX11_readRule_151 rfl)
    (e_each_cons (r_aload_n X (k := 0) (i := 0) rfl dX11_readRule_152 rfl)
    (e_each_cons (r_getI X (index := 169) (ci := 10) (k := 15) dX11_readRule_153 (by decide) (by decide) rfl w6_41 rfl)
    (e_each_cons (r_iast X dX11_readRule_156 rfl)
    (e_each_cons (r_iconst X (n := 1) (v := 1) dX11_readRule_157 (by decide) rfl)
    (e_each_cons (r_iretz X dX11_readRule_158 rfl)
    (e_each_nil)))))))))))))))))))))))))))))))))))))))))))))))))))))))))))))))))))))))))))))))))))))))))))
theorem dX11_readNot_0 : decode cX11_readNot 0 = .ok (.aload_n 0, 1) := by decide +kernel
theorem dX11_readNot_1 : decode cX11_readNot 1 = .ok (.iconst 0, 1) := by decide +kernel
theorem dX11_readNot_2 : decode cX11_readNot 2 = .ok (.aload_n 0, 1) := by decide +kernel
theorem dX11_readNot_3 : decode cX11_readNot 3 = .ok (.getfield 95, 3) := by decide +kernel
theorem dX11_readNot_6 : decode cX11_readNot 6 = .ok (.iconst 1, 1) := by decide +kernel
theorem dX11_readNot_7 : decode cX11_readNot 7 = .ok (.isub, 1) := by decide +kernel
theorem dX11_readNot_8 : decode cX11_readNot 8 = .ok (.invokevirtual 172, 3) := by decide +kernel
theorem dX11_readNot_11 : decode cX11_readNot 11 = .ok (.ifCond .ne 5, 3) := by decide +kernel
theorem dX11_readNot_14 : decode cX11_readNot 14 = .ok (.iconst 0, 1) := by decide +kernel
theorem dX11_readNot_15 : decode cX11_readNot 15 = .ok (.ireturn, 1) := by decide +kernel
theorem dX11_readNot_16 : decode cX11_readNot 16 = .ok (.aload_n 0, 1) := by decide +kernel
theorem dX11_readNot_17 : decode cX11_readNot 17 = .ok (.getfield 34, 3) := by decide +kernel
theorem dX11_readNot_20 : decode cX11_readNot 20 = .ok (.iload_n 1, 1) := by decide +kernel
theorem dX11_readNot_21 : decode cX11_readNot 21 = .ok (.bipush 12, 2) := by decide +kernel
theorem dX11_readNot_23 : decode cX11_readNot 23 = .ok (.iadd, 1) := by decide +kernel
theorem dX11_readNot_24 : decode cX11_readNot 24 = .ok (.iaload, 1) := by decide +kernel
theorem dX11_readNot_25 : decode cX11_readNot 25 = .ok (.aload_n 0, 1) := by decide +kernel
theorem dX11_readNot_26 : decode cX11_readNot 26 = .ok (.getfield 169, 3) := by decide +kernel
theorem dX11_readNot_29 : decode cX11_readNot 29 = .ok (.invokestatic 64, 3) := by decide +kernel
theorem dX11_readNot_32 : decode cX11_readNot 32 = .ok (.ifCond .eq 9, 3) := by decide +kernel
theorem dX11_readNot_35 : decode cX11_readNot 35 = .ok (.aload_n 0, 1) := by decide +kernel
theorem dX11_readNot_36 : decode cX11_readNot 36 = .ok (.iconst 3, 1) := by decide +kernel
theorem dX11_readNot_37 : decode cX11_readNot 37 = .ok (.invokevirtual 166, 3) := by decide +kernel
theorem dX11_readNot_40 : decode cX11_readNot 40 = .ok (.ireturn, 1) := by decide +kernel
theorem dX11_readNot_41 : decode cX11_readNot 41 = .ok (.aload_n 0, 1) := by decide +kernel
theorem dX11_readNot_42 : decode cX11_readNot 42 = .ok (.getfield 34, 3) := by decide +kernel
theorem dX11_readNot_45 : decode cX11_readNot 45 = .ok (.iload_n 1, 1) := by decide +kernel
theorem dX11_readNot_46 : decode cX11_readNot 46 = .ok (.bipush 12, 2) := by decide +kernel
theorem dX11_readNot_48 : decode cX11_readNot 48 = .ok (.iadd, 1) := by decide +kernel
theorem dX11_readNot_49 : decode cX11_readNot 49 = .ok (.aload_n 0, 1) := by decide +kernel
theorem dX11_readNot_50 : decode cX11_readNot 50 = .ok (.getfield 34, 3) := by decide +kernel
theorem dX11_readNot_53 : decode cX11_readNot 53 = .ok (.iload_n 1, 1) := by decide +kernel
theorem dX11_readNot_54 : decode cX11_readNot 54 = .ok (.bipush 12, 2) := by decide +kernel
theorem dX11_readNot_56 : decode cX11_readNot 56 = .ok (.iadd, 1) := by decide +kernel
theorem dX11_readNot_57 : decode cX11_readNot 57 = .ok (.iaload, 1) := by decide +kernel
theorem dX11_readNot_58 : decode cX11_readNot 58 = .ok (.iconst 1, 1) := by decide +kernel
theorem dX11_readNot_59 : decode cX11_readNot 59 = .ok (.aload_n 0, 1) := by decide +kernel
theorem dX11_readNot_60 : decode cX11_readNot 60 = .ok (.getfield 169, 3) := by decide +kernel
theorem dX11_readNot_63 : decode cX11_readNot 63 = .ok (.ishl, 1) := by decide +kernel
theorem dX11_readNot_64 : decode cX11_readNot 64 = .ok (.ior, 1) := by decide +kernel
theorem dX11_readNot_65 : decode cX11_readNot 65 = .ok (.iastore, 1) := by decide +kernel
theorem dX11_readNot_66 : decode cX11_readNot 66 = .ok (.aload_n 0, 1) := by decide +kernel
theorem dX11_readNot_67 : decode cX11_readNot 67 = .ok (.invokevirtual 162, 3) := by decide +kernel
theorem dX11_readNot_70 : decode cX11_readNot 70 = .ok (.ireturn, 1) := by decide +kernel
def pg_X11_readNot (l : Launch) (g : EG) : List (Nat × ES) := [(0, s_ldP 0), (1, s_c (.inl 0)), (2, s_ldP 0), (3, s_getI 10 8), (6, s_c (.inl 1)), (7, s_ii (fun x y => x - y)), (8, s_callV l g sg_X11_readNot sg_X11_looksNumber 10), (11, s_if_ne 16), (14, s_c (.inl 0)), (15, s_iretz), (16, s_ldP 0), (17, s_getP 10 18), (20, s_ldI 1), (21, s_c (.inl 12)), (23, s_ii (fun x y => x + y)), (24, s_iald), (25, s_ldP 0), (26, s_getI 10 15), (29, s_callS l g sg_X11_readNot sg_X11_has), (32, s_if_eq 41), (35, s_ldP 0), (36, s_c (.inl 3)), (37, s_callV l g sg_X11_readNot sg_X11_fails 10), (40, s_iretz), (41, s_ldP 0), (42, s_getP 10 18), (45, s_ldI 1), (46, s_c (.inl 12)), (48, s_ii (fun x y => x + y)), (49, s_ldP 0), (50, s_getP 10 18), (53, s_ldI 1), (54, s_c (.inl 12)), (56, s_ii (fun x y => x + y)), (57, s_iald), (58, s_c (.inl 1)), (59, s_ldP 0), (60, s_getI 10 15), (63, s_ii (fun x y => x <<< (y &&& 31))), (64, s_ii (fun x y => x ||| y)), (65, s_iast), (66, s_ldP 0), (67, s_callV l g sg_X11_readNot sg_X11_passes 10), (70, s_iretz)]
set_option maxRecDepth 100000 in
theorem ok_X11_readNot {l : Launch} {g : EG} : e_okp l g sg_X11_readNot "CalendarSyncModel" (pg_X11_readNot l g) := fun p e R s m args below meth c ex M0 Q X =>
    e_each_cons (r_aload_n X (k := 0) (i := 0) rfl dX11_readNot_0 rfl)
    (e_each_cons (r_iconst X (n := 0) (v := 0) dX11_readNot_1 (by decide) rfl)
    (e_each_cons (r_aload_n X (k := 0) (i := 0) rfl dX11_readNot_2 rfl)
    (e_each_cons (r_getI X (index := 95) (ci := 10) (k := 8) dX11_readNot_3 (by decide) (by decide) rfl w6_34 rfl)
    (e_each_cons (r_iconst X (n := 1) (v := 1) dX11_readNot_6 (by decide) rfl)
    (e_each_cons (r_isub X dX11_readNot_7 rfl)
    (e_each_cons (r_callV X rfl (τ := sg_X11_looksNumber) (index := 172) (ci := 10) dX11_readNot_8 (by decide) rfl w6_231 w6_233 ws_45 cs_X11_looksNumber rfl ⟨by decide, by decide⟩ rfl)
    (e_each_cons (r_if_ne X (off := 5) (t := 16) dX11_readNot_11 (by decide) rfl)
    (e_each_cons (r_iconst X (n := 0) (v := 0) dX11_readNot_14 (by decide) rfl)
    (e_each_cons (r_iretz X dX11_readNot_15 rfl)
    (e_each_cons (r_aload_n X (k := 0) (i := 0) rfl dX11_readNot_16 rfl)
    (e_each_cons (r_getP X (index := 34) (ci := 10) (k := 18) dX11_readNot_17 (by decide) (by decide) rfl w6_44 rfl)
    (e_each_cons (r_iload_n X (k := 1) (i := 1) rfl dX11_readNot_20 rfl)
    (e_each_cons (r_bipush X (n := 12) (v := 12) dX11_readNot_21 (by decide) rfl)
    (e_each_cons (r_iadd X dX11_readNot_23 rfl)
    (e_each_cons (r_iald X dX11_readNot_24 rfl)
    (e_each_cons (r_aload_n X (k := 0) (i := 0) rfl dX11_readNot_25 rfl)
    (e_each_cons (r_getI X (index := 169) (ci := 10) (k := 15) dX11_readNot_26 (by decide) (by decide) rfl w6_41 rfl)
    (e_each_cons (r_callS X rfl (τ := sg_X11_has) (index := 64) dX11_readNot_29 w7_27 w7_28 cs_X11_has rfl ⟨by decide, by decide⟩ rfl)
    (e_each_cons (r_if_eq X (off := 9) (t := 41) dX11_readNot_32 (by decide) rfl)
    (e_each_cons (r_aload_n X (k := 0) (i := 0) rfl dX11_readNot_35 rfl)
    (e_each_cons (r_iconst X (n := 3) (v := 3) dX11_readNot_36 (by decide) rfl)
    (e_each_cons (r_callV X rfl (τ := sg_X11_fails) (index := 166) (ci := 10) dX11_readNot_37 (by decide) rfl w6_215 w6_217 ws_41 cs_X11_fails rfl ⟨by decide, by decide⟩ rfl)
    (e_each_cons (r_iretz X dX11_readNot_40 rfl)
    (e_each_cons (r_aload_n X (k := 0) (i := 0) rfl dX11_readNot_41 rfl)
    (e_each_cons (r_getP X (index := 34) (ci := 10) (k := 18) dX11_readNot_42 (by decide) (by decide) rfl w6_44 rfl)
    (e_each_cons (r_iload_n X (k := 1) (i := 1) rfl dX11_readNot_45 rfl)
    (e_each_cons (r_bipush X (n := 12) (v := 12) dX11_readNot_46 (by decide) rfl)
    (e_each_cons (r_iadd X dX11_readNot_48 rfl)
    (e_each_cons (r_aload_n X (k := 0) (i := 0) rfl dX11_readNot_49 rfl)
    (e_each_cons (r_getP X (index := 34) (ci := 10) (k := 18) dX11_readNot_50 (by decide) (by decide) rfl w6_44 rfl)
    (e_each_cons (r_iload_n X (k := 1) (i := 1) rfl dX11_readNot_53 rfl)
    (e_each_cons (r_bipush X (n := 12) (v := 12) dX11_readNot_54 (by decide) rfl)
    (e_each_cons (r_iadd X dX11_readNot_56 rfl)
    (e_each_cons (r_iald X dX11_readNot_57 rfl)
    (e_each_cons (r_iconst X (n := 1) (v := 1) dX11_readNot_58 (by decide) rfl)
    (e_each_cons (r_aload_n X (k := 0) (i := 0) rfl dX11_readNot_59 rfl)
    (e_each_cons (r_getI X (index := 169) (ci := 10) (k := 15) dX11_readNot_60 (by decide) (by decide) rfl w6_41 rfl)
    (e_each_cons (r_ishl X dX11_readNot_63 rfl)
    (e_each_cons (r_ior X dX11_readNot_64 rfl)
    (e_each_cons (r_iast X dX11_readNot_65 rfl)
    (e_each_cons (r_aload_n X (k := 0) (i := 0) rfl dX11_readNot_66 rfl)
    (e_each_cons (r_callV X rfl (τ := sg_X11_passes) (index := 162) (ci := 10) dX11_readNot_67 (by decide) rfl w6_219 w6_221 ws_42 cs_X11_passes rfl ⟨by decide, by decide⟩ rfl)
    (e_each_cons (r_iretz X dX11_readNot_70 rfl)
    (e_each_nil))))))))))))))))))))))))))))))))))))))))))))
theorem dX11_readMove_0 : decode cX11_readMove 0 = .ok (.aload_n 0, 1) := by decide +kernel
theorem dX11_readMove_1 : decode cX11_readMove 1 = .ok (.iconst 0, 1) := by decide +kernel
theorem dX11_readMove_2 : decode cX11_readMove 2 = .ok (.aload_n 0, 1) := by decide +kernel
theorem dX11_readMove_3 : decode cX11_readMove 3 = .ok (.getfield 95, 3) := by decide +kernel
theorem dX11_readMove_6 : decode cX11_readMove 6 = .ok (.iconst 1, 1) := by decide +kernel
theorem dX11_readMove_7 : decode cX11_readMove 7 = .ok (.isub, 1) := by decide +kernel
theorem dX11_readMove_8 : decode cX11_readMove 8 = .ok (.invokevirtual 181, 3) := by decide +kernel
theorem dX11_readMove_11 : decode cX11_readMove 11 = .ok (.ifCond .ne 5, 3) := by decide +kernel
theorem dX11_readMove_14 : decode cX11_readMove 14 = .ok (.iconst 0, 1) := by decide +kernel
theorem dX11_readMove_15 : decode cX11_readMove 15 = .ok (.ireturn, 1) := by decide +kernel
theorem dX11_readMove_16 : decode cX11_readMove 16 = .ok (.aload_n 0, 1) := by decide +kernel
theorem dX11_readMove_17 : decode cX11_readMove 17 = .ok (.getfield 169, 3) := by decide +kernel
theorem dX11_readMove_20 : decode cX11_readMove 20 = .ok (.istore_n 2, 1) := by decide +kernel
theorem dX11_readMove_21 : decode cX11_readMove 21 = .ok (.aload_n 0, 1) := by decide +kernel
theorem dX11_readMove_22 : decode cX11_readMove 22 = .ok (.iconst 0, 1) := by decide +kernel
theorem dX11_readMove_23 : decode cX11_readMove 23 = .ok (.sipush 1094, 3) := by decide +kernel
theorem dX11_readMove_26 : decode cX11_readMove 26 = .ok (.invokevirtual 181, 3) := by decide +kernel
theorem dX11_readMove_29 : decode cX11_readMove 29 = .ok (.ifCond .ne 5, 3) := by decide +kernel
theorem dX11_readMove_32 : decode cX11_readMove 32 = .ok (.iconst 0, 1) := by decide +kernel
theorem dX11_readMove_33 : decode cX11_readMove 33 = .ok (.ireturn, 1) := by decide +kernel
theorem dX11_readMove_34 : decode cX11_readMove 34 = .ok (.aload_n 0, 1) := by decide +kernel
theorem dX11_readMove_35 : decode cX11_readMove 35 = .ok (.getfield 34, 3) := by decide +kernel
theorem dX11_readMove_38 : decode cX11_readMove 38 = .ok (.iload_n 1, 1) := by decide +kernel
theorem dX11_readMove_39 : decode cX11_readMove 39 = .ok (.bipush 16, 2) := by decide +kernel
theorem dX11_readMove_41 : decode cX11_readMove 41 = .ok (.iadd, 1) := by decide +kernel
theorem dX11_readMove_42 : decode cX11_readMove 42 = .ok (.iload_n 2, 1) := by decide +kernel
theorem dX11_readMove_43 : decode cX11_readMove 43 = .ok (.iadd, 1) := by decide +kernel
theorem dX11_readMove_44 : decode cX11_readMove 44 = .ok (.aload_n 0, 1) := by decide +kernel
theorem dX11_readMove_45 : decode cX11_readMove 45 = .ok (.getfield 169, 3) := by decide +kernel
theorem dX11_readMove_48 : decode cX11_readMove 48 = .ok (.iastore, 1) := by decide +kernel
theorem dX11_readMove_49 : decode cX11_readMove 49 = .ok (.aload_n 0, 1) := by decide +kernel
theorem dX11_readMove_50 : decode cX11_readMove 50 = .ok (.iconst 0, 1) := by decide +kernel
theorem dX11_readMove_51 : decode cX11_readMove 51 = .ok (.sipush 1439, 3) := by decide +kernel
theorem dX11_readMove_54 : decode cX11_readMove 54 = .ok (.invokevirtual 181, 3) := by decide +kernel
theorem dX11_readMove_57 : decode cX11_readMove 57 = .ok (.ifCond .ne 5, 3) := by decide +kernel
theorem dX11_readMove_60 : decode cX11_readMove 60 = .ok (.iconst 0, 1) := by decide +kernel
theorem dX11_readMove_61 : decode cX11_readMove 61 = .ok (.ireturn, 1) := by decide +kernel
theorem dX11_readMove_62 : decode cX11_readMove 62 = .ok (.aload_n 0, 1) := by decide +kernel
theorem dX11_readMove_63 : decode cX11_readMove 63 = .ok (.getfield 34, 3) := by decide +kernel
theorem dX11_readMove_66 : decode cX11_readMove 66 = .ok (.iload_n 1, 1) := by decide +kernel
theorem dX11_readMove_67 : decode cX11_readMove 67 = .ok (.bipush 46, 2) := by decide +kernel
theorem dX11_readMove_69 : decode cX11_readMove 69 = .ok (.iadd, 1) := by decide +kernel
theorem dX11_readMove_70 : decode cX11_readMove 70 = .ok (.iload_n 2, 1) := by decide +kernel
theorem dX11_readMove_71 : decode cX11_readMove 71 = .ok (.iadd, 1) := by decide +kernel
theorem dX11_readMove_72 : decode cX11_readMove 72 = .ok (.aload_n 0, 1) := by decide +kernel
theorem dX11_readMove_73 : decode cX11_readMove 73 = .ok (.getfield 169, 3) := by decide +kernel
theorem dX11_readMove_76 : decode cX11_readMove 76 = .ok (.iastore, 1) := by decide +kernel
theorem dX11_readMove_77 : decode cX11_readMove 77 = .ok (.aload_n 0, 1) := by decide +kernel
theorem dX11_readMove_78 : decode cX11_readMove 78 = .ok (.getfield 34, 3) := by decide +kernel
theorem dX11_readMove_81 : decode cX11_readMove 81 = .ok (.iload_n 1, 1) := by decide +kernel
theorem dX11_readMove_82 : decode cX11_readMove 82 = .ok (.bipush 13, 2) := by decide +kernel
theorem dX11_readMove_84 : decode cX11_readMove 84 = .ok (.iadd, 1) := by decide +kernel
theorem dX11_readMove_85 : decode cX11_readMove 85 = .ok (.aload_n 0, 1) := by decide +kernel
theorem dX11_readMove_86 : decode cX11_readMove 86 = .ok (.getfield 34, 3) := by decide +kernel
theorem dX11_readMove_89 : decode cX11_readMove 89 = .ok (.iload_n 1, 1) := by decide +kernel
theorem dX11_readMove_90 : decode cX11_readMove 90 = .ok (.bipush 13, 2) := by decide +kernel
theorem dX11_readMove_92 : decode cX11_readMove 92 = .ok (.iadd, 1) := by decide +kernel
theorem dX11_readMove_93 : decode cX11_readMove 93 = .ok (.iaload, 1) := by decide +kernel
theorem dX11_readMove_94 : decode cX11_readMove 94 = .ok (.iconst 1, 1) := by decide +kernel
theorem dX11_readMove_95 : decode cX11_readMove 95 = .ok (.iload_n 2, 1) := by decide +kernel
theorem dX11_readMove_96 : decode cX11_readMove 96 = .ok (.ishl, 1) := by decide +kernel
theorem dX11_readMove_97 : decode cX11_readMove 97 = .ok (.ior, 1) := by decide +kernel
theorem dX11_readMove_98 : decode cX11_readMove 98 = .ok (.iastore, 1) := by decide +kernel
theorem dX11_readMove_99 : decode cX11_readMove 99 = .ok (.iconst 1, 1) := by decide +kernel
theorem dX11_readMove_100 : decode cX11_readMove 100 = .ok (.ireturn, 1) := by decide +kernel
def pg_X11_readMove (l : Launch) (g : EG) : List (Nat × ES) := [(0, s_ldP 0), (1, s_c (.inl 0)), (2, s_ldP 0), (3, s_getI 10 8), (6, s_c (.inl 1)), (7, s_ii (fun x y => x - y)), (8, s_callV l g sg_X11_readMove sg_X11_readNumber 10), (11, s_if_ne 16), (14, s_c (.inl 0)), (15, s_iretz), (16, s_ldP 0), (17, s_getI 10 15), (20, s_stI 2), (21, s_ldP 0), (22, s_c (.inl 0)), (23, s_c (.inl 1094)), (26, s_callV l g sg_X11_readMove sg_X11_readNumber 10), (29, s_if_ne 34), (32, s_c (.inl 0)), (33, s_iretz), (34, s_ldP 0), (35, s_getP 10 18), (38, s_ldI 1), (39, s_c (.inl 16)), (41, s_ii (fun x y => x + y)), (42, s_ldI 2), (43, s_ii (fun x y => x + y)), (44, s_ldP 0), (45, s_getI 10 15), (48, s_iast), (49, s_ldP 0), (50, s_c (.inl 0)), (51, s_c (.inl 1439)), (54, s_callV l g sg_X11_readMove sg_X11_readNumber 10), (57, s_if_ne 62), (60, s_c (.inl 0)), (61, s_iretz), (62, s_ldP 0), (63, s_getP 10 18), (66, s_ldI 1), (67, s_c (.inl 46)), (69, s_ii (fun x y => x + y)), (70, s_ldI 2), (71, s_ii (fun x y => x + y)), (72, s_ldP 0), (73, s_getI 10 15), (76, s_iast), (77, s_ldP 0), (78, s_getP 10 18), (81, s_ldI 1), (82, s_c (.inl 13)), (84, s_ii (fun x y => x + y)), (85, s_ldP 0), (86, s_getP 10 18), (89, s_ldI 1), (90, s_c (.inl 13)), (92, s_ii (fun x y => x + y)), (93, s_iald), (94, s_c (.inl 1)), (95, s_ldI 2), (96, s_ii (fun x y => x <<< (y &&& 31))), (97, s_ii (fun x y => x ||| y)), (98, s_iast), (99, s_c (.inl 1)), (100, s_iretz)]
set_option maxRecDepth 100000 in
theorem ok_X11_readMove {l : Launch} {g : EG} : e_okp l g sg_X11_readMove "CalendarSyncModel" (pg_X11_readMove l g) := fun p e R s m args below meth c ex M0 Q X =>
    e_each_cons (r_aload_n X (k := 0) (i := 0) rfl dX11_readMove_0 rfl)
    (e_each_cons (r_iconst X (n := 0) (v := 0) dX11_readMove_1 (by decide) rfl)
    (e_each_cons (r_aload_n X (k := 0) (i := 0) rfl dX11_readMove_2 rfl)
    (e_each_cons (r_getI X (index := 95) (ci := 10) (k := 8) dX11_readMove_3 (by decide) (by decide) rfl w6_34 rfl)
    (e_each_cons (r_iconst X (n := 1) (v := 1) dX11_readMove_6 (by decide) rfl)
    (e_each_cons (r_isub X dX11_readMove_7 rfl)
    (e_each_cons (r_callV X rfl (τ := sg_X11_readNumber) (index := 181) (ci := 10) dX11_readMove_8 (by decide) rfl w6_227 w6_229 ws_44 cs_X11_readNumber rfl ⟨by decide, by decide⟩ rfl)
    (e_each_cons (r_if_ne X (off := 5) (t := 16) dX11_readMove_11 (by decide) rfl)
    (e_each_cons (r_iconst X (n := 0) (v := 0) dX11_readMove_14 (by decide) rfl)
    (e_each_cons (r_iretz X dX11_readMove_15 rfl)
    (e_each_cons (r_aload_n X (k := 0) (i := 0) rfl dX11_readMove_16 rfl)
    (e_each_cons (r_getI X (index := 169) (ci := 10) (k := 15) dX11_readMove_17 (by decide) (by decide) rfl w6_41 rfl)
    (e_each_cons (r_istore_n X (k := 2) (i := 2) rfl dX11_readMove_20 (by decide) rfl)
    (e_each_cons (r_aload_n X (k := 0) (i := 0) rfl dX11_readMove_21 rfl)
    (e_each_cons (r_iconst X (n := 0) (v := 0) dX11_readMove_22 (by decide) rfl)
    (e_each_cons (r_sipush X (n := 1094) (v := 1094) dX11_readMove_23 (by decide) rfl)
    (e_each_cons (r_callV X rfl (τ := sg_X11_readNumber) (index := 181) (ci := 10) dX11_readMove_26 (by decide) rfl w6_227 w6_229 ws_44 cs_X11_readNumber rfl ⟨by decide, by decide⟩ rfl)
    (e_each_cons (r_if_ne X (off := 5) (t := 34) dX11_readMove_29 (by decide) rfl)
    (e_each_cons (r_iconst X (n := 0) (v := 0) dX11_readMove_32 (by decide) rfl)
    (e_each_cons (r_iretz X dX11_readMove_33 rfl)
    (e_each_cons (r_aload_n X (k := 0) (i := 0) rfl dX11_readMove_34 rfl)
    (e_each_cons (r_getP X (index := 34) (ci := 10) (k := 18) dX11_readMove_35 (by decide) (by decide) rfl w6_44 rfl)
    (e_each_cons (r_iload_n X (k := 1) (i := 1) rfl dX11_readMove_38 rfl)
    (e_each_cons (r_bipush X (n := 16) (v := 16) dX11_readMove_39 (by decide) rfl)
    (e_each_cons (r_iadd X dX11_readMove_41 rfl)
    (e_each_cons (r_iload_n X (k := 2) (i := 2) rfl dX11_readMove_42 rfl)
    (e_each_cons (r_iadd X dX11_readMove_43 rfl)
    (e_each_cons (r_aload_n X (k := 0) (i := 0) rfl dX11_readMove_44 rfl)
    (e_each_cons (r_getI X (index := 169) (ci := 10) (k := 15) dX11_readMove_45 (by decide) (by decide) rfl w6_41 rfl)
    (e_each_cons (r_iast X dX11_readMove_48 rfl)
    (e_each_cons (r_aload_n X (k := 0) (i := 0) rfl dX11_readMove_49 rfl)
    (e_each_cons (r_iconst X (n := 0) (v := 0) dX11_readMove_50 (by decide) rfl)
    (e_each_cons (r_sipush X (n := 1439) (v := 1439) dX11_readMove_51 (by decide) rfl)
    (e_each_cons (r_callV X rfl (τ := sg_X11_readNumber) (index := 181) (ci := 10) dX11_readMove_54 (by decide) rfl w6_227 w6_229 ws_44 cs_X11_readNumber rfl ⟨by decide, by decide⟩ rfl)
    (e_each_cons (r_if_ne X (off := 5) (t := 62) dX11_readMove_57 (by decide) rfl)
    (e_each_cons (r_iconst X (n := 0) (v := 0) dX11_readMove_60 (by decide) rfl)
    (e_each_cons (r_iretz X dX11_readMove_61 rfl)
    (e_each_cons (r_aload_n X (k := 0) (i := 0) rfl dX11_readMove_62 rfl)
    (e_each_cons (r_getP X (index := 34) (ci := 10) (k := 18) dX11_readMove_63 (by decide) (by decide) rfl w6_44 rfl)
    (e_each_cons (r_iload_n X (k := 1) (i := 1) rfl dX11_readMove_66 rfl)
    (e_each_cons (r_bipush X (n := 46) (v := 46) dX11_readMove_67 (by decide) rfl)
    (e_each_cons (r_iadd X dX11_readMove_69 rfl)
    (e_each_cons (r_iload_n X (k := 2) (i := 2) rfl dX11_readMove_70 rfl)
    (e_each_cons (r_iadd X dX11_readMove_71 rfl)
    (e_each_cons (r_aload_n X (k := 0) (i := 0) rfl dX11_readMove_72 rfl)
    (e_each_cons (r_getI X (index := 169) (ci := 10) (k := 15) dX11_readMove_73 (by decide) (by decide) rfl w6_41 rfl)
    (e_each_cons (r_iast X dX11_readMove_76 rfl)
    (e_each_cons (r_aload_n X (k := 0) (i := 0) rfl dX11_readMove_77 rfl)
    (e_each_cons (r_getP X (index := 34) (ci := 10) (k := 18) dX11_readMove_78 (by decide) (by decide) rfl w6_44 rfl)
    (e_each_cons (r_iload_n X (k := 1) (i := 1) rfl dX11_readMove_81 rfl)
    (e_each_cons (r_bipush X (n := 13) (v := 13) dX11_readMove_82 (by decide) rfl)
    (e_each_cons (r_iadd X dX11_readMove_84 rfl)
    (e_each_cons (r_aload_n X (k := 0) (i := 0) rfl dX11_readMove_85 rfl)
    (e_each_cons (r_getP X (index := 34) (ci := 10) (k := 18) dX11_readMove_86 (by decide) (by decide) rfl w6_44 rfl)
    (e_each_cons (r_iload_n X (k := 1) (i := 1) rfl dX11_readMove_89 rfl)
    (e_each_cons (r_bipush X (n := 13) (v := 13) dX11_readMove_90 (by decide) rfl)
    (e_each_cons (r_iadd X dX11_readMove_92 rfl)
    (e_each_cons (r_iald X dX11_readMove_93 rfl)
    (e_each_cons (r_iconst X (n := 1) (v := 1) dX11_readMove_94 (by decide) rfl)
    (e_each_cons (r_iload_n X (k := 2) (i := 2) rfl dX11_readMove_95 rfl)
    (e_each_cons (r_ishl X dX11_readMove_96 rfl)
    (e_each_cons (r_ior X dX11_readMove_97 rfl)
    (e_each_cons (r_iast X dX11_readMove_98 rfl)
    (e_each_cons (r_iconst X (n := 1) (v := 1) dX11_readMove_99 (by decide) rfl)
    (e_each_cons (r_iretz X dX11_readMove_100 rfl)
    (e_each_nil)))))))))))))))))))))))))))))))))))))))))))))))))))))))))))))))))
theorem dX11_readExceptions_0 : decode cX11_readExceptions 0 = .ok (.aload_n 0, 1) := by decide +kernel
theorem dX11_readExceptions_1 : decode cX11_readExceptions 1 = .ok (.invokevirtual 158, 3) := by decide +kernel
theorem dX11_readExceptions_4 : decode cX11_readExceptions 4 = .ok (.lstore_n 2, 1) := by decide +kernel
theorem dX11_readExceptions_5 : decode cX11_readExceptions 5 = .ok (.lload_n 2, 1) := by decide +kernel
theorem dX11_readExceptions_6 : decode cX11_readExceptions 6 = .ok (.ldc2_w 218, 3) := by decide +kernel
theorem dX11_readExceptions_9 : decode cX11_readExceptions 9 = .ok (.lcmp, 1) := by decide +kernel
theorem dX11_readExceptions_10 : decode cX11_readExceptions 10 = .ok (.ifCond .eq 11, 3) := by decide +kernel
theorem dX11_readExceptions_13 : decode cX11_readExceptions 13 = .ok (.lload_n 2, 1) := by decide +kernel
theorem dX11_readExceptions_14 : decode cX11_readExceptions 14 = .ok (.ldc2_w 220, 3) := by decide +kernel
theorem dX11_readExceptions_17 : decode cX11_readExceptions 17 = .ok (.lcmp, 1) := by decide +kernel
theorem dX11_readExceptions_18 : decode cX11_readExceptions 18 = .ok (.ifCond .ne 45, 3) := by decide +kernel
theorem dX11_readExceptions_21 : decode cX11_readExceptions 21 = .ok (.aload_n 0, 1) := by decide +kernel
theorem dX11_readExceptions_22 : decode cX11_readExceptions 22 = .ok (.invokevirtual 162, 3) := by decide +kernel
theorem dX11_readExceptions_25 : decode cX11_readExceptions 25 = .ok (.pop, 1) := by decide +kernel
theorem dX11_readExceptions_26 : decode cX11_readExceptions 26 = .ok (.lload_n 2, 1) := by decide +kernel
theorem dX11_readExceptions_27 : decode cX11_readExceptions 27 = .ok (.ldc2_w 218, 3) := by decide +kernel
theorem dX11_readExceptions_30 : decode cX11_readExceptions 30 = .ok (.lcmp, 1) := by decide +kernel
theorem dX11_readExceptions_31 : decode cX11_readExceptions 31 = .ok (.ifCond .ne 14, 3) := by decide +kernel
theorem dX11_readExceptions_34 : decode cX11_readExceptions 34 = .ok (.aload_n 0, 1) := by decide +kernel
theorem dX11_readExceptions_35 : decode cX11_readExceptions 35 = .ok (.iload_n 1, 1) := by decide +kernel
theorem dX11_readExceptions_36 : decode cX11_readExceptions 36 = .ok (.invokevirtual 222, 3) := by decide +kernel
theorem dX11_readExceptions_39 : decode cX11_readExceptions 39 = .ok (.ifCond .eq 14, 3) := by decide +kernel
theorem dX11_readExceptions_42 : decode cX11_readExceptions 42 = .ok (.goto 13, 3) := by decide +kernel
theorem dX11_readExceptions_45 : decode cX11_readExceptions 45 = .ok (.aload_n 0, 1) := by decide +kernel
theorem dX11_readExceptions_46 : decode cX11_readExceptions 46 = .ok (.iload_n 1, 1) := by decide +kernel
theorem dX11_readExceptions_47 : decode cX11_readExceptions 47 = .ok (.invokevirtual 225, 3) := by decide +kernel
theorem dX11_readExceptions_50 : decode cX11_readExceptions 50 = .ok (.ifCond .ne 5, 3) := by decide +kernel
theorem dX11_readExceptions_53 : decode cX11_readExceptions 53 = .ok (.iconst 0, 1) := by decide +kernel
theorem dX11_readExceptions_54 : decode cX11_readExceptions 54 = .ok (.ireturn, 1) := by decide +kernel
theorem dX11_readExceptions_55 : decode cX11_readExceptions 55 = .ok (.aload_n 0, 1) := by decide +kernel
theorem dX11_readExceptions_56 : decode cX11_readExceptions 56 = .ok (.invokevirtual 158, 3) := by decide +kernel
theorem dX11_readExceptions_59 : decode cX11_readExceptions 59 = .ok (.lstore_n 2, 1) := by decide +kernel
theorem dX11_readExceptions_60 : decode cX11_readExceptions 60 = .ok (.goto (-55), 3) := by decide +kernel
theorem dX11_readExceptions_63 : decode cX11_readExceptions 63 = .ok (.iconst 1, 1) := by decide +kernel
theorem dX11_readExceptions_64 : decode cX11_readExceptions 64 = .ok (.ireturn, 1) := by decide +kernel
def pg_X11_readExceptions (l : Launch) (g : EG) : List (Nat × ES) := [(0, s_ldP 0), (1, s_callV l g sg_X11_readExceptions sg_X11_nextWord 10), (4, s_stL 2), (5, s_ldL 2), (6, s_c (.inr (.inl 14836))), (9, s_lc lg_cmp), (10, s_if_eq 21), (13, s_ldL 2), (14, s_c (.inr (.inl 442053))), (17, s_lc lg_cmp), (18, s_if_ne 63), (21, s_ldP 0), (22, s_callV l g sg_X11_readExceptions sg_X11_passes 10), (25, s_pop), (26, s_ldL 2), (27, s_c (.inr (.inl 14836))), (30, s_lc lg_cmp), (31, s_if_ne 45), (34, s_ldP 0), (35, s_ldI 1), (36, s_callV l g sg_X11_readExceptions sg_X11_readNot 10), (39, s_if_eq 53), (42, s_goto 55), (45, s_ldP 0), (46, s_ldI 1), (47, s_callV l g sg_X11_readExceptions sg_X11_readMove 10), (50, s_if_ne 55), (53, s_c (.inl 0)), (54, s_iretz), (55, s_ldP 0), (56, s_callV l g sg_X11_readExceptions sg_X11_nextWord 10), (59, s_stL 2), (60, s_goto 5), (63, s_c (.inl 1)), (64, s_iretz)]
set_option maxRecDepth 100000 in
theorem ok_X11_readExceptions {l : Launch} {g : EG} : e_okp l g sg_X11_readExceptions "CalendarSyncModel" (pg_X11_readExceptions l g) := fun p e R s m args below meth c ex M0 Q X =>
    e_each_cons (r_aload_n X (k := 0) (i := 0) rfl dX11_readExceptions_0 rfl)
    (e_each_cons (r_callV X rfl (τ := sg_X11_nextWord) (index := 158) (ci := 10) dX11_readExceptions_1 (by decide) rfl w6_203 w6_205 ws_39 cs_X11_nextWord rfl ⟨by decide, by decide⟩ rfl)
    (e_each_cons (r_lstore_n X (k := 2) (i := 2) rfl dX11_readExceptions_4 (by decide) rfl)
    (e_each_cons (r_lload_n X (k := 2) (i := 2) rfl dX11_readExceptions_5 rfl)
    (e_each_cons (r_ldc2 X (n := 218) (v := 14836) dX11_readExceptions_6 w7_50 rfl)
    (e_each_cons (r_lcmp X dX11_readExceptions_9 rfl)
    (e_each_cons (r_if_eq X (off := 11) (t := 21) dX11_readExceptions_10 (by decide) rfl)
    (e_each_cons (r_lload_n X (k := 2) (i := 2) rfl dX11_readExceptions_13 rfl)
    (e_each_cons (r_ldc2 X (n := 220) (v := 442053) dX11_readExceptions_14 w7_51 rfl)
    (e_each_cons (r_lcmp X dX11_readExceptions_17 rfl)
    (e_each_cons (r_if_ne X (off := 45) (t := 63) dX11_readExceptions_18 (by decide) rfl)
    (e_each_cons (r_aload_n X (k := 0) (i := 0) rfl dX11_readExceptions_21 rfl)
    (e_each_cons (r_callV X rfl (τ := sg_X11_passes) (index := 162) (ci := 10) dX11_readExceptions_22 (by decide) rfl w6_219 w6_221 ws_42 cs_X11_passes rfl ⟨by decide, by decide⟩ rfl)
    (e_each_cons (r_pop X dX11_readExceptions_25 rfl)
    (e_each_cons (r_lload_n X (k := 2) (i := 2) rfl dX11_readExceptions_26 rfl)
    (e_each_cons (r_ldc2 X (n := 218) (v := 14836) dX11_readExceptions_27 w7_50 rfl)
    (e_each_cons (r_lcmp X dX11_readExceptions_30 rfl)
    (e_each_cons (r_if_ne X (off := 14) (t := 45) dX11_readExceptions_31 (by decide) rfl)
    (e_each_cons (r_aload_n X (k := 0) (i := 0) rfl dX11_readExceptions_34 rfl)
    (e_each_cons (r_iload_n X (k := 1) (i := 1) rfl dX11_readExceptions_35 rfl)
    (e_each_cons (r_callV X rfl (τ := sg_X11_readNot) (index := 222) (ci := 10) dX11_readExceptions_36 (by decide) rfl w7_52 w7_54 ws_55 cs_X11_readNot rfl ⟨by decide, by decide⟩ rfl)
    (e_each_cons (r_if_eq X (off := 14) (t := 53) dX11_readExceptions_39 (by decide) rfl)
    (e_each_cons (r_goto X (off := 13) (t := 55) dX11_readExceptions_42 (by decide))
    (e_each_cons (r_aload_n X (k := 0) (i := 0) rfl dX11_readExceptions_45 rfl)
    (e_each_cons (r_iload_n X (k := 1) (i := 1) rfl dX11_readExceptions_46 rfl)
    (e_each_cons (r_callV X rfl (τ := sg_X11_readMove) (index := 225) (ci := 10) dX11_readExceptions_47 (by decide) rfl w7_56 w7_58 ws_56 cs_X11_readMove rfl ⟨by decide, by decide⟩ rfl)
    (e_each_cons (r_if_ne X (off := 5) (t := 55) dX11_readExceptions_50 (by decide) rfl)
    (e_each_cons (r_iconst X (n := 0) (v := 0) dX11_readExceptions_53 (by decide) rfl)
    (e_each_cons (r_iretz X dX11_readExceptions_54 rfl)
    (e_each_cons (r_aload_n X (k := 0) (i := 0) rfl dX11_readExceptions_55 rfl)
    (e_each_cons (r_callV X rfl (τ := sg_X11_nextWord) (index := 158) (ci := 10) dX11_readExceptions_56 (by decide) rfl w6_203 w6_205 ws_39 cs_X11_nextWord rfl ⟨by decide, by decide⟩ rfl)
    (e_each_cons (r_lstore_n X (k := 2) (i := 2) rfl dX11_readExceptions_59 (by decide) rfl)
    (e_each_cons (r_goto X (off := (-55)) (t := 5) dX11_readExceptions_60 (by decide))
    (e_each_cons (r_iconst X (n := 1) (v := 1) dX11_readExceptions_63 (by decide) rfl)
    (e_each_cons (r_iretz X dX11_readExceptions_64 rfl)
    (e_each_nil)))))))))))))))))))))))))))))))))))
theorem dX11_readEvent_0 : decode cX11_readEvent 0 = .ok (.bipush 12, 2) := by decide +kernel
theorem dX11_readEvent_2 : decode cX11_readEvent 2 = .ok (.sipush 136, 3) := by decide +kernel
theorem dX11_readEvent_5 : decode cX11_readEvent 5 = .ok (.aload_n 0, 1) := by decide +kernel
theorem dX11_readEvent_6 : decode cX11_readEvent 6 = .ok (.getfield 178, 3) := by decide +kernel
theorem dX11_readEvent_9 : decode cX11_readEvent 9 = .ok (.imul, 1) := by decide +kernel
theorem dX11_readEvent_10 : decode cX11_readEvent 10 = .ok (.iadd, 1) := by decide +kernel
theorem dX11_readEvent_11 : decode cX11_readEvent 11 = .ok (.istore_n 1, 1) := by decide +kernel
theorem dX11_readEvent_12 : decode cX11_readEvent 12 = .ok (.aload_n 0, 1) := by decide +kernel
theorem dX11_readEvent_13 : decode cX11_readEvent 13 = .ok (.iconst 0, 1) := by decide +kernel
theorem dX11_readEvent_14 : decode cX11_readEvent 14 = .ok (.sipush 1094, 3) := by decide +kernel
theorem dX11_readEvent_17 : decode cX11_readEvent 17 = .ok (.invokevirtual 181, 3) := by decide +kernel
theorem dX11_readEvent_20 : decode cX11_readEvent 20 = .ok (.ifCond .ne 5, 3) := by decide +kernel
theorem dX11_readEvent_23 : decode cX11_readEvent 23 = .ok (.iconst 0, 1) := by decide +kernel
theorem dX11_readEvent_24 : decode cX11_readEvent 24 = .ok (.ireturn, 1) := by decide +kernel
theorem dX11_readEvent_25 : decode cX11_readEvent 25 = .ok (.aload_n 0, 1) := by decide +kernel
theorem dX11_readEvent_26 : decode cX11_readEvent 26 = .ok (.getfield 34, 3) := by decide +kernel
theorem dX11_readEvent_29 : decode cX11_readEvent 29 = .ok (.iload_n 1, 1) := by decide +kernel
theorem dX11_readEvent_30 : decode cX11_readEvent 30 = .ok (.iconst 1, 1) := by decide +kernel
theorem dX11_readEvent_31 : decode cX11_readEvent 31 = .ok (.iadd, 1) := by decide +kernel
theorem dX11_readEvent_32 : decode cX11_readEvent 32 = .ok (.aload_n 0, 1) := by decide +kernel
theorem dX11_readEvent_33 : decode cX11_readEvent 33 = .ok (.getfield 169, 3) := by decide +kernel
theorem dX11_readEvent_36 : decode cX11_readEvent 36 = .ok (.iastore, 1) := by decide +kernel
theorem dX11_readEvent_37 : decode cX11_readEvent 37 = .ok (.aload_n 0, 1) := by decide +kernel
theorem dX11_readEvent_38 : decode cX11_readEvent 38 = .ok (.iconst 0, 1) := by decide +kernel
theorem dX11_readEvent_39 : decode cX11_readEvent 39 = .ok (.sipush 1439, 3) := by decide +kernel
theorem dX11_readEvent_42 : decode cX11_readEvent 42 = .ok (.invokevirtual 181, 3) := by decide +kernel
theorem dX11_readEvent_45 : decode cX11_readEvent 45 = .ok (.ifCond .ne 5, 3) := by decide +kernel
theorem dX11_readEvent_48 : decode cX11_readEvent 48 = .ok (.iconst 0, 1) := by decide +kernel
theorem dX11_readEvent_49 : decode cX11_readEvent 49 = .ok (.ireturn, 1) := by decide +kernel
theorem dX11_readEvent_50 : decode cX11_readEvent 50 = .ok (.aload_n 0, 1) := by decide +kernel
theorem dX11_readEvent_51 : decode cX11_readEvent 51 = .ok (.getfield 34, 3) := by decide +kernel
theorem dX11_readEvent_54 : decode cX11_readEvent 54 = .ok (.iload_n 1, 1) := by decide +kernel
theorem dX11_readEvent_55 : decode cX11_readEvent 55 = .ok (.iconst 2, 1) := by decide +kernel
theorem dX11_readEvent_56 : decode cX11_readEvent 56 = .ok (.iadd, 1) := by decide +kernel
theorem dX11_readEvent_57 : decode cX11_readEvent 57 = .ok (.aload_n 0, 1) := by decide +kernel
theorem dX11_readEvent_58 : decode cX11_readEvent 58 = .ok (.getfield 169, 3) := by decide +kernel
theorem dX11_readEvent_61 : decode cX11_readEvent 61 = .ok (.iastore, 1) := by decide +kernel
theorem dX11_readEvent_62 : decode cX11_readEvent 62 = .ok (.aload_n 0, 1) := by decide +kernel
theorem dX11_readEvent_63 : decode cX11_readEvent 63 = .ok (.iconst 1, 1) := by decide +kernel
theorem dX11_readEvent_64 : decode cX11_readEvent 64 = .ok (.sipush 1440, 3) := by decide +kernel
theorem dX11_readEvent_67 : decode cX11_readEvent 67 = .ok (.invokevirtual 181, 3) := by decide +kernel
theorem dX11_readEvent_70 : decode cX11_readEvent 70 = .ok (.ifCond .ne 5, 3) := by decide +kernel
theorem dX11_readEvent_73 : decode cX11_readEvent 73 = .ok (.iconst 0, 1) := by decide +kernel
theorem dX11_readEvent_74 : decode cX11_readEvent 74 = .ok (.ireturn, 1) := by decide +kernel
theorem dX11_readEvent_75 : decode cX11_readEvent 75 = .ok (.aload_n 0, 1) := by decide +kernel
theorem dX11_readEvent_76 : decode cX11_readEvent 76 = .ok (.getfield 34, 3) := by decide +kernel
theorem dX11_readEvent_79 : decode cX11_readEvent 79 = .ok (.iload_n 1, 1) := by decide +kernel
theorem dX11_readEvent_80 : decode cX11_readEvent 80 = .ok (.iconst 3, 1) := by decide +kernel
theorem dX11_readEvent_81 : decode cX11_readEvent 81 = .ok (.iadd, 1) := by decide +kernel
theorem dX11_readEvent_82 : decode cX11_readEvent 82 = .ok (.aload_n 0, 1) := by decide +kernel
theorem dX11_readEvent_83 : decode cX11_readEvent 83 = .ok (.getfield 169, 3) := by decide +kernel
theorem dX11_readEvent_86 : decode cX11_readEvent 86 = .ok (.iastore, 1) := by decide +kernel
theorem dX11_readEvent_87 : decode cX11_readEvent 87 = .ok (.aload_n 0, 1) := by decide +kernel
theorem dX11_readEvent_88 : decode cX11_readEvent 88 = .ok (.iconst 0, 1) := by decide +kernel
theorem dX11_readEvent_89 : decode cX11_readEvent 89 = .ok (.aload_n 0, 1) := by decide +kernel
theorem dX11_readEvent_90 : decode cX11_readEvent 90 = .ok (.getfield 175, 3) := by decide +kernel
theorem dX11_readEvent_93 : decode cX11_readEvent 93 = .ok (.iconst 1, 1) := by decide +kernel
theorem dX11_readEvent_94 : decode cX11_readEvent 94 = .ok (.isub, 1) := by decide +kernel
theorem dX11_readEvent_95 : decode cX11_readEvent 95 = .ok (.invokevirtual 181, 3) := by decide +kernel
theorem dX11_readEvent_98 : decode cX11_readEvent 98 = .ok (.ifCond .ne 5, 3) := by decide +kernel
theorem dX11_readEvent_101 : decode cX11_readEvent 101 = .ok (.iconst 0, 1) := by decide +kernel
theorem dX11_readEvent_102 : decode cX11_readEvent 102 = .ok (.ireturn, 1) := by decide +kernel
theorem dX11_readEvent_103 : decode cX11_readEvent 103 = .ok (.aload_n 0, 1) := by decide +kernel
theorem dX11_readEvent_104 : decode cX11_readEvent 104 = .ok (.getfield 34, 3) := by decide +kernel
theorem dX11_readEvent_107 : decode cX11_readEvent 107 = .ok (.iload_n 1, 1) := by decide +kernel
theorem dX11_readEvent_108 : decode cX11_readEvent 108 = .ok (.iconst 4, 1) := by decide +kernel
theorem dX11_readEvent_109 : decode cX11_readEvent 109 = .ok (.iadd, 1) := by decide +kernel
theorem dX11_readEvent_110 : decode cX11_readEvent 110 = .ok (.aload_n 0, 1) := by decide +kernel
theorem dX11_readEvent_111 : decode cX11_readEvent 111 = .ok (.getfield 169, 3) := by decide +kernel
theorem dX11_readEvent_114 : decode cX11_readEvent 114 = .ok (.iastore, 1) := by decide +kernel
theorem dX11_readEvent_115 : decode cX11_readEvent 115 = .ok (.aload_n 0, 1) := by decide +kernel
theorem dX11_readEvent_116 : decode cX11_readEvent 116 = .ok (.getfield 34, 3) := by decide +kernel
theorem dX11_readEvent_119 : decode cX11_readEvent 119 = .ok (.iload_n 1, 1) := by decide +kernel
theorem dX11_readEvent_120 : decode cX11_readEvent 120 = .ok (.iconst 5, 1) := by decide +kernel
theorem dX11_readEvent_121 : decode cX11_readEvent 121 = .ok (.iadd, 1) := by decide +kernel
theorem dX11_readEvent_122 : decode cX11_readEvent 122 = .ok (.iconst 0, 1) := by decide +kernel
theorem dX11_readEvent_123 : decode cX11_readEvent 123 = .ok (.iastore, 1) := by decide +kernel
theorem dX11_readEvent_124 : decode cX11_readEvent 124 = .ok (.aload_n 0, 1) := by decide +kernel
theorem dX11_readEvent_125 : decode cX11_readEvent 125 = .ok (.getfield 34, 3) := by decide +kernel
theorem dX11_readEvent_128 : decode cX11_readEvent 128 = .ok (.iload_n 1, 1) := by decide +kernel
theorem dX11_readEvent_129 : decode cX11_readEvent 129 = .ok (.bipush 6, 2) := by decide +kernel
theorem dX11_readEvent_131 : decode cX11_readEvent 131 = .ok (.iadd, 1) := by decide +kernel
theorem dX11_readEvent_132 : decode cX11_readEvent 132 = .ok (.iconst 0, 1) := by decide +kernel
theorem dX11_readEvent_133 : decode cX11_readEvent 133 = .ok (.iastore, 1) := by decide +kernel
theorem dX11_readEvent_134 : decode cX11_readEvent 134 = .ok (.aload_n 0, 1) := by decide +kernel
theorem dX11_readEvent_135 : decode cX11_readEvent 135 = .ok (.getfield 34, 3) := by decide +kernel
theorem dX11_readEvent_138 : decode cX11_readEvent 138 = .ok (.iload_n 1, 1) := by decide +kernel
theorem dX11_readEvent_139 : decode cX11_readEvent 139 = .ok (.bipush 8, 2) := by decide +kernel
theorem dX11_readEvent_141 : decode cX11_readEvent 141 = .ok (.iadd, 1) := by decide +kernel
theorem dX11_readEvent_142 : decode cX11_readEvent 142 = .ok (.iconst 1, 1) := by decide +kernel
theorem dX11_readEvent_143 : decode cX11_readEvent 143 = .ok (.iastore, 1) := by decide +kernel
theorem dX11_readEvent_144 : decode cX11_readEvent 144 = .ok (.aload_n 0, 1) := by decide +kernel
theorem dX11_readEvent_145 : decode cX11_readEvent 145 = .ok (.ldc2_w 228, 3) := by decide +kernel
theorem dX11_readEvent_148 : decode cX11_readEvent 148 = .ok (.invokevirtual 186, 3) := by decide +kernel
theorem dX11_readEvent_151 : decode cX11_readEvent 151 = .ok (.ifCond .eq 13, 3) := by decide +kernel
theorem dX11_readEvent_154 : decode cX11_readEvent 154 = .ok (.aload_n 0, 1) := by decide +kernel
theorem dX11_readEvent_155 : decode cX11_readEvent 155 = .ok (.iload_n 1, 1) := by decide +kernel
theorem dX11_readEvent_156 : decode cX11_readEvent 156 = .ok (.invokevirtual 230, 3) := by decide +kernel
theorem dX11_readEvent_159 : decode cX11_readEvent 159 = .ok (.ifCond .ne 5, 3) := by decide +kernel
theorem dX11_readEvent_162 : decode cX11_readEvent 162 = .ok (.iconst 0, 1) := by decide +kernel
theorem dX11_readEvent_163 : decode cX11_readEvent 163 = .ok (.ireturn, 1) := by decide +kernel
theorem dX11_readEvent_164 : decode cX11_readEvent 164 = .ok (.aload_n 0, 1) := by decide +kernel
theorem dX11_readEvent_165 : decode cX11_readEvent 165 = .ok (.aload_n 0, 1) := by decide +kernel
theorem dX11_readEvent_166 : decode cX11_readEvent 166 = .ok (.getfield 34, 3) := by decide +kernel
theorem dX11_readEvent_169 : decode cX11_readEvent 169 = .ok (.iload_n 1, 1) := by decide +kernel
theorem dX11_readEvent_170 : decode cX11_readEvent 170 = .ok (.invokevirtual 233, 3) := by decide +kernel
theorem dX11_readEvent_173 : decode cX11_readEvent 173 = .ok (.aload_n 0, 1) := by decide +kernel
theorem dX11_readEvent_174 : decode cX11_readEvent 174 = .ok (.iload_n 1, 1) := by decide +kernel
theorem dX11_readEvent_175 : decode cX11_readEvent 175 = .ok (.invokevirtual 236, 3) := by decide +kernel
theorem dX11_readEvent_178 : decode cX11_readEvent 178 = .ok (.ifCond .ne 5, 3) := by decide +kernel
theorem dX11_readEvent_181 : decode cX11_readEvent 181 = .ok (.iconst 0, 1) := by decide +kernel
theorem dX11_readEvent_182 : decode cX11_readEvent 182 = .ok (.ireturn, 1) := by decide +kernel
theorem dX11_readEvent_183 : decode cX11_readEvent 183 = .ok (.aload_n 0, 1) := by decide +kernel
theorem dX11_readEvent_184 : decode cX11_readEvent 184 = .ok (.getfield 34, 3) := by decide +kernel
theorem dX11_readEvent_187 : decode cX11_readEvent 187 = .ok (.iload_n 1, 1) := by decide +kernel
theorem dX11_readEvent_188 : decode cX11_readEvent 188 = .ok (.iconst 0, 1) := by decide +kernel
theorem dX11_readEvent_189 : decode cX11_readEvent 189 = .ok (.iadd, 1) := by decide +kernel
theorem dX11_readEvent_190 : decode cX11_readEvent 190 = .ok (.iconst 1, 1) := by decide +kernel
theorem dX11_readEvent_191 : decode cX11_readEvent 191 = .ok (.iastore, 1) := by decide +kernel
theorem dX11_readEvent_192 : decode cX11_readEvent 192 = .ok (.aload_n 0, 1) := by decide +kernel
theorem dX11_readEvent_193 : decode cX11_readEvent 193 = .ok (.aload_n 0, 1) := by decide +kernel
theorem dX11_readEvent_194 : decode cX11_readEvent 194 = .ok (.getfield 178, 3) := by decide +kernel
theorem dX11_readEvent_197 : decode cX11_readEvent 197 = .ok (.iconst 1, 1) := by decide +kernel
theorem dX11_readEvent_198 : decode cX11_readEvent 198 = .ok (.iadd, 1) := by decide +kernel
theorem dX11_readEvent_199 : decode cX11_readEvent 199 = .ok (.putfield 178, 3) := by decide +kernel
theorem dX11_readEvent_202 : decode cX11_readEvent 202 = .ok (.iconst 1, 1) := by decide +kernel
theorem dX11_readEvent_203 : decode cX11_readEvent 203 = .ok (.ireturn, 1) := by decide +kernel
def pg_X11_readEvent (l : Launch) (g : EG) : List (Nat × ES) := [(0, s_c (.inl 12)), (2, s_c (.inl 136)), (5, s_ldP 0), (6, s_getI 10 20), (9, s_ii (fun x y => x * y)), (10, s_ii (fun x y => x + y)), (11, s_stI 1), (12, s_ldP 0), (13, s_c (.inl 0)), (14, s_c (.inl 1094)), (17, s_callV l g sg_X11_readEvent sg_X11_readNumber 10), (20, s_if_ne 25), (23, s_c (.inl 0)), (24, s_iretz), (25, s_ldP 0), (26, s_getP 10 18), (29, s_ldI 1), (30, s_c (.inl 1)), (31, s_ii (fun x y => x + y)), (32, s_ldP 0), (33, s_getI 10 15), (36, s_iast), (37, s_ldP 0), (38, s_c (.inl 0)), (39, s_c (.inl 1439)), (42, s_callV l g sg_X11_readEvent sg_X11_readNumber 10), (45, s_if_ne 50), (48, s_c (.inl 0)), (49, s_iretz), (50, s_ldP 0), (51, s_getP 10 18), (54, s_ldI 1), (55, s_c (.inl 2)), (56, s_ii (fun x y => x + y)), (57, s_ldP 0), (58, s_getI 10 15), (61, s_iast), (62, s_ldP 0), (63, s_c (.inl 1)), (64, s_c (.inl 1440)), (67, s_callV l g sg_X11_readEvent sg_X11_readNumber 10), (70, s_if_ne 75), (73, s_c (.inl 0)), (74, s_iretz), (75, s_ldP 0), (76, s_getP 10 18), (79, s_ldI 1), (80, s_c (.inl 3)), (81, s_ii (fun x y => x + y)), (82, s_ldP 0), (83, s_getI 10 15), (86, s_iast), (87, s_ldP 0), (88, s_c (.inl 0)), (89, s_ldP 0), (90, s_getI 10 19), (93, s_c (.inl 1)), (94, s_ii (fun x y => x - y)), (95, s_callV l g sg_X11_readEvent sg_X11_readNumber 10), (98, s_if_ne 103), (101, s_c (.inl 0)), (102, s_iretz), (103, s_ldP 0), (104, s_getP 10 18), (107, s_ldI 1), (108, s_c (.inl 4)), (109, s_ii (fun x y => x + y)), (110, s_ldP 0), (111, s_getI 10 15), (114, s_iast), (115, s_ldP 0), (116, s_getP 10 18), (119, s_ldI 1), (120, s_c (.inl 5)), (121, s_ii (fun x y => x + y)), (122, s_c (.inl 0)), (123, s_iast), (124, s_ldP 0), (125, s_getP 10 18), (128, s_ldI 1), (129, s_c (.inl 6)), (131, s_ii (fun x y => x + y)), (132, s_c (.inl 0)), (133, s_iast), (134, s_ldP 0), (135, s_getP 10 18), (138, s_ldI 1), (139, s_c (.inl 8)), (141, s_ii (fun x y => x + y)), (142, s_c (.inl 1)), (143, s_iast), (144, s_ldP 0), (145, s_c (.inr (.inl 5969497))), (148, s_callV l g sg_X11_readEvent sg_X11_passesWord 10), (151, s_if_eq 164), (154, s_ldP 0), (155, s_ldI 1), (156, s_callV l g sg_X11_readEvent sg_X11_readRule 10), (159, s_if_ne 164), (162, s_c (.inl 0)), (163, s_iretz), (164, s_ldP 0), (165, s_ldP 0), (166, s_getP 10 18), (169, s_ldI 1), (170, s_callV l g sg_X11_readEvent sg_X11_laysDates 10), (173, s_ldP 0), (174, s_ldI 1), (175, s_callV l g sg_X11_readEvent sg_X11_readExceptions 10), (178, s_if_ne 183), (181, s_c (.inl 0)), (182, s_iretz), (183, s_ldP 0), (184, s_getP 10 18), (187, s_ldI 1), (188, s_c (.inl 0)), (189, s_ii (fun x y => x + y)), (190, s_c (.inl 1)), (191, s_iast), (192, s_ldP 0), (193, s_ldP 0), (194, s_getI 10 20), (197, s_c (.inl 1)), (198, s_ii (fun x y => x + y)), (199, s_putI 10 20), (202, s_c (.inl 1)), (203, s_iretz)]
set_option maxRecDepth 100000 in
theorem ok_X11_readEvent {l : Launch} {g : EG} : e_okp l g sg_X11_readEvent "CalendarSyncModel" (pg_X11_readEvent l g) := fun p e R s m args below meth c ex M0 Q X =>
    e_each_cons (r_bipush X (n := 12) (v := 12) dX11_readEvent_0 (by decide) rfl)
    (e_each_cons (r_sipush X (n := 136) (v := 136) dX11_readEvent_2 (by decide) rfl)
    (e_each_cons (r_aload_n X (k := 0) (i := 0) rfl dX11_readEvent_5 rfl)
    (e_each_cons (r_getI X (index := 178) (ci := 10) (k := 20) dX11_readEvent_6 (by decide) (by decide) rfl w6_46 rfl)
    (e_each_cons (r_imul X dX11_readEvent_9 rfl)
    (e_each_cons (r_iadd X dX11_readEvent_10 rfl)
    (e_each_cons (r_istore_n X (k := 1) (i := 1) rfl dX11_readEvent_11 (by decide) rfl)
    (e_each_cons (r_aload_n X (k := 0) (i := 0) rfl dX11_readEvent_12 rfl)
    (e_each_cons (r_iconst X (n := 0) (v := 0) dX11_readEvent_13 (by decide) rfl)
    (e_each_cons (r_sipush X (n := 1094) (v := 1094) dX11_readEvent_14 (by decide) rfl)
    (e_each_cons (r_callV X rfl (τ := sg_X11_readNumber) (index := 181) (ci := 10) dX11_readEvent_17 (by decide) rfl w6_227 w6_229 ws_44 cs_X11_readNumber rfl ⟨by decide, by decide⟩ rfl)
    (e_each_cons (r_if_ne X (off := 5) (t := 25) dX11_readEvent_20 (by decide) rfl)
    (e_each_cons (r_iconst X (n := 0) (v := 0) dX11_readEvent_23 (by decide) rfl)
    (e_each_cons (r_iretz X dX11_readEvent_24 rfl)
    (e_each_cons (r_aload_n X (k := 0) (i := 0) rfl dX11_readEvent_25 rfl)
    (e_each_cons (r_getP X (index := 34) (ci := 10) (k := 18) dX11_readEvent_26 (by decide) (by decide) rfl w6_44 rfl)
    (e_each_cons (r_iload_n X (k := 1) (i := 1) rfl dX11_readEvent_29 rfl)
    (e_each_cons (r_iconst X (n := 1) (v := 1) dX11_readEvent_30 (by decide) rfl)
    (e_each_cons (r_iadd X dX11_readEvent_31 rfl)
    (e_each_cons (r_aload_n X (k := 0) (i := 0) rfl dX11_readEvent_32 rfl)
    (e_each_cons (r_getI X (index := 169) (ci := 10) (k := 15) dX11_readEvent_33 (by decide) (by decide) rfl w6_41 rfl)
    (e_each_cons (r_iast X dX11_readEvent_36 rfl)
    (e_each_cons (r_aload_n X (k := 0) (i := 0) rfl dX11_readEvent_37 rfl)
    (e_each_cons (r_iconst X (n := 0) (v := 0) dX11_readEvent_38 (by decide) rfl)
    (e_each_cons (r_sipush X (n := 1439) (v := 1439) dX11_readEvent_39 (by decide) rfl)
    (e_each_cons (r_callV X rfl (τ := sg_X11_readNumber) (index := 181) (ci := 10) dX11_readEvent_42 (by decide) rfl w6_227 w6_229 ws_44 cs_X11_readNumber rfl ⟨by decide, by decide⟩ rfl)
    (e_each_cons (r_if_ne X (off := 5) (t := 50) dX11_readEvent_45 (by decide) rfl)
    (e_each_cons (r_iconst X (n := 0) (v := 0) dX11_readEvent_48 (by decide) rfl)
    (e_each_cons (r_iretz X dX11_readEvent_49 rfl)
    (e_each_cons (r_aload_n X (k := 0) (i := 0) rfl dX11_readEvent_50 rfl)
    (e_each_cons (r_getP X (index := 34) (ci := 10) (k := 18) dX11_readEvent_51 (by decide) (by decide) rfl w6_44 rfl)
    (e_each_cons (r_iload_n X (k := 1) (i := 1) rfl dX11_readEvent_54 rfl)
    (e_each_cons (r_iconst X (n := 2) (v := 2) dX11_readEvent_55 (by decide) rfl)
    (e_each_cons (r_iadd X dX11_readEvent_56 rfl)
    (e_each_cons (r_aload_n X (k := 0) (i := 0) rfl dX11_readEvent_57 rfl)
    (e_each_cons (r_getI X (index := 169) (ci := 10) (k := 15) dX11_readEvent_58 (by decide) (by decide) rfl w6_41 rfl)
    (e_each_cons (r_iast X dX11_readEvent_61 rfl)
    (e_each_cons (r_aload_n X (k := 0) (i := 0) rfl dX11_readEvent_62 rfl)
    (e_each_cons (r_iconst X (n := 1) (v := 1) dX11_readEvent_63 (by decide) rfl)
    (e_each_cons (r_sipush X (n := 1440) (v := 1440) dX11_readEvent_64 (by decide) rfl)
    (e_each_cons (r_callV X rfl (τ := sg_X11_readNumber) (index := 181) (ci := 10) dX11_readEvent_67 (by decide) rfl w6_227 w6_229 ws_44 cs_X11_readNumber rfl ⟨by decide, by decide⟩ rfl)
    (e_each_cons (r_if_ne X (off := 5) (t := 75) dX11_readEvent_70 (by decide) rfl)
    (e_each_cons (r_iconst X (n := 0) (v := 0) dX11_readEvent_73 (by decide) rfl)
    (e_each_cons (r_iretz X dX11_readEvent_74 rfl)
    (e_each_cons (r_aload_n X (k := 0) (i := 0) rfl dX11_readEvent_75 rfl)
    (e_each_cons (r_getP X (index := 34) (ci := 10) (k := 18) dX11_readEvent_76 (by decide) (by decide) rfl w6_44 rfl)
    (e_each_cons (r_iload_n X (k := 1) (i := 1) rfl dX11_readEvent_79 rfl)
    (e_each_cons (r_iconst X (n := 3) (v := 3) dX11_readEvent_80 (by decide) rfl)
    (e_each_cons (r_iadd X dX11_readEvent_81 rfl)
    (e_each_cons (r_aload_n X (k := 0) (i := 0) rfl dX11_readEvent_82 rfl)
    (e_each_cons (r_getI X (index := 169) (ci := 10) (k := 15) dX11_readEvent_83 (by decide) (by decide) rfl w6_41 rfl)
    (e_each_cons (r_iast X dX11_readEvent_86 rfl)
    (e_each_cons (r_aload_n X (k := 0) (i := 0) rfl dX11_readEvent_87 rfl)
    (e_each_cons (r_iconst X (n := 0) (v := 0) dX11_readEvent_88 (by decide) rfl)
    (e_each_cons (r_aload_n X (k := 0) (i := 0) rfl dX11_readEvent_89 rfl)
    (e_each_cons (r_getI X (index := 175) (ci := 10) (k := 19) dX11_readEvent_90 (by decide) (by decide) rfl w6_45 rfl)
    (e_each_cons (r_iconst X (n := 1) (v := 1) dX11_readEvent_93 (by decide) rfl)
    (e_each_cons (r_isub X dX11_readEvent_94 rfl)
    (e_each_cons (r_callV X rfl (τ := sg_X11_readNumber) (index := 181) (ci := 10) dX11_readEvent_95 (by decide) rfl w6_227 w6_229 ws_44 cs_X11_readNumber rfl ⟨by decide, by decide⟩ rfl)
    (e_each_cons (r_if_ne X (off := 5) (t := 103) dX11_readEvent_98 (by decide) rfl)
    (e_each_cons (r_iconst X (n := 0) (v := 0) dX11_readEvent_101 (by decide) rfl)
    (e_each_cons (r_iretz X dX11_readEvent_102 rfl)
    (e_each_cons (r_aload_n X (k := 0) (i := 0) rfl dX11_readEvent_103 rfl)
    (e_each_cons (r_getP X (index := 34) (ci := 10) (k := 18) dX11_readEvent_104 (by decide) (by decide) rfl w6_44 rfl)
    (e_each_cons (r_iload_n X (k := 1) (i := 1) rfl dX11_readEvent_107 rfl)
    (e_each_cons (r_iconst X (n := 4) (v := 4) dX11_readEvent_108 (by decide) rfl)
    (e_each_cons (r_iadd X dX11_readEvent_109 rfl)
    (e_each_cons (r_aload_n X (k := 0) (i := 0) rfl dX11_readEvent_110 rfl)
    (e_each_cons (r_getI X (index := 169) (ci := 10) (k := 15) dX11_readEvent_111 (by decide) (by decide) rfl w6_41 rfl)
    (e_each_cons (r_iast X dX11_readEvent_114 rfl)
    (e_each_cons (r_aload_n X (k := 0) (i := 0) rfl dX11_readEvent_115 rfl)
    (e_each_cons (r_getP X (index := 34) (ci := 10) (k := 18) dX11_readEvent_116 (by decide) (by decide) rfl w6_44 rfl)
    (e_each_cons (r_iload_n X (k := 1) (i := 1) rfl dX11_readEvent_119 rfl)
    (e_each_cons (r_iconst X (n := 5) (v := 5) dX11_readEvent_120 (by decide) rfl)
    (e_each_cons (r_iadd X dX11_readEvent_121 rfl)
    (e_each_cons (r_iconst X (n := 0) (v := 0) dX11_readEvent_122 (by decide) rfl)
    (e_each_cons (r_iast X dX11_readEvent_123 rfl)
    (e_each_cons (r_aload_n X (k := 0) (i := 0) rfl dX11_readEvent_124 rfl)
    (e_each_cons (r_getP X (index := 34) (ci := 10) (k := 18) dX11_readEvent_125 (by decide) (by decide) rfl w6_44 rfl)
    (e_each_cons (r_iload_n X (k := 1) (i := 1) rfl dX11_readEvent_128 rfl)
    (e_each_cons (r_bipush X (n := 6) (v := 6) dX11_readEvent_129 (by decide) rfl)
    (e_each_cons (r_iadd X dX11_readEvent_131 rfl)
    (e_each_cons (r_iconst X (n := 0) (v := 0) dX11_readEvent_132 (by decide) rfl)
    (e_each_cons (r_iast X dX11_readEvent_133 rfl)
    (e_each_cons (r_aload_n X (k := 0) (i := 0) rfl dX11_readEvent_134 rfl)
    (e_each_cons (r_getP X (index := 34) (ci := 10) (k := 18) dX11_readEvent_135 (by decide) (by decide) rfl w6_44 rfl)
    (e_each_cons (r_iload_n X (k := 1) (i := 1) rfl dX11_readEvent_138 rfl)
    (e_each_cons (r_bipush X (n := 8) (v := 8) dX11_readEvent_139 (by decide) rfl)
    (e_each_cons (r_iadd X dX11_readEvent_141 rfl)
    (e_each_cons (r_iconst X (n := 1) (v := 1) dX11_readEvent_142 (by decide) rfl)
    (e_each_cons (r_iast X dX11_readEvent_143 rfl)
    (e_each_cons (r_aload_n X (k := 0) (i := 0) rfl dX11_readEvent_144 rfl)
    (e_each_cons (r_ldc2 X (n := 228) (v := 5969497) dX11_readEvent_145 w7_4 rfl)
    (e_each_cons (r_callV X rfl (τ := sg_X11_passesWord) (index := 186) (ci := 10) dX11_readEvent_148 (by decide) rfl w6_236 w6_238 ws_46 cs_X11_passesWord rfl ⟨by decide, by decide⟩ rfl)
    (e_each_cons (r_if_eq X (off := 13) (t := 164) dX11_readEvent_151 (by decide) rfl)
    (e_each_cons (r_aload_n X (k := 0) (i := 0) rfl dX11_readEvent_154 rfl)
    (e_each_cons (r_iload_n X (k := 1) (i := 1) rfl dX11_readEvent_155 rfl)
    (e_each_cons (r_callV X rfl (τ := sg_X11_readRule) (index := 230) (ci := 10) dX11_readEvent_156 (by decide) rfl w7_5 w7_7 ws_48 cs_X11_readRule rfl ⟨by decide, by decide⟩ rfl)
    (e_each_cons (r_if_ne X (off := 5) (t := 164) dX11_readEvent_159 (by decide) rfl)
    (e_each_cons (r_iconst X (n := 0) (v := 0) dX11_readEvent_162 (by decide) rfl)
    (e_each_cons (r_iretz X dX11_readEvent_163 rfl)
    (e_each_cons (r_aload_n X (k := 0) (i := 0) rfl dX11_readEvent_164 rfl)
    (e_each_cons (r_aload_n X (k := 0) (i := 0) rfl dX11_readEvent_165 rfl)
    (e_each_cons (r_getP X (index := 34) (ci := 10) (k := 18) dX11_readEvent_166 (by decide) (by decide) rfl w6_44 rfl)
    (e_each_cons (r_iload_n X (k := 1) (i := 1) rfl dX11_readEvent_169 rfl)
    (e_each_cons (r_callV X rfl (τ := sg_X11_laysDates) (index := 233) (ci := 10) dX11_readEvent_170 (by decide) rfl w7_31 w7_33 ws_51 cs_X11_laysDates rfl ⟨by decide, by decide⟩ rfl)
    (e_each_cons (r_aload_n X (k := 0) (i := 0) rfl dX11_readEvent_173 rfl)
    (e_each_cons (r_iload_n X (k := 1) (i := 1) rfl dX11_readEvent_174 rfl)
    (e_each_cons (r_callV X rfl (τ := sg_X11_readExceptions) (index := 236) (ci := 10) dX11_readEvent_175 (by decide) rfl w7_46 w7_48 ws_54 cs_X11_readExceptions rfl ⟨by decide, by decide⟩ rfl)
    (e_each_cons (r_if_ne X (off := 5) (t := 183) dX11_readEvent_178 (by decide) rfl)
    (e_each_cons (r_iconst X (n := 0) (v := 0) dX11_readEvent_181 (by decide) rfl)
    (e_each_cons (r_iretz X dX11_readEvent_182 rfl)
    (e_each_cons (r_aload_n X (k := 0) (i := 0) rfl dX11_readEvent_183 rfl)
    (e_each_cons (r_getP X (index := 34) (ci := 10) (k := 18) dX11_readEvent_184 (by decide) (by decide) rfl w6_44 rfl)
    (e_each_cons (r_iload_n X (k := 1) (i := 1) rfl dX11_readEvent_187 rfl)
    (e_each_cons (r_iconst X (n := 0) (v := 0) dX11_readEvent_188 (by decide) rfl)
    (e_each_cons (r_iadd X dX11_readEvent_189 rfl)
    (e_each_cons (r_iconst X (n := 1) (v := 1) dX11_readEvent_190 (by decide) rfl)
    (e_each_cons (r_iast X dX11_readEvent_191 rfl)
    (e_each_cons (r_aload_n X (k := 0) (i := 0) rfl dX11_readEvent_192 rfl)
    (e_each_cons (r_aload_n X (k := 0) (i := 0) rfl dX11_readEvent_193 rfl)
    (e_each_cons (r_getI X (index := 178) (ci := 10) (k := 20) dX11_readEvent_194 (by decide) (by decide) rfl w6_46 rfl)
    (e_each_cons (r_iconst X (n := 1) (v := 1) dX11_readEvent_197 (by decide) rfl)
    (e_each_cons (r_iadd X dX11_readEvent_198 rfl)
    (e_each_cons (r_putI X (index := 178) (ci := 10) (k := 20) dX11_readEvent_199 (by decide) (by decide) rfl rfl w6_46 rfl)
    (e_each_cons (r_iconst X (n := 1) (v := 1) dX11_readEvent_202 (by decide) rfl)
    (e_each_cons (r_iretz X dX11_readEvent_203 rfl)
    (e_each_nil)))))))))))))))))))))))))))))))))))))))))))))))))))))))))))))))))))))))))))))))))))))))))))))))))))))))))))))))))))))))))))))))
theorem dX11_readStatement_0 : decode cX11_readStatement 0 = .ok (.aload_n 0, 1) := by decide +kernel
theorem dX11_readStatement_1 : decode cX11_readStatement 1 = .ok (.invokevirtual 158, 3) := by decide +kernel
theorem dX11_readStatement_4 : decode cX11_readStatement 4 = .ok (.lstore_n 1, 1) := by decide +kernel
theorem dX11_readStatement_5 : decode cX11_readStatement 5 = .ok (.lload_n 1, 1) := by decide +kernel
theorem dX11_readStatement_6 : decode cX11_readStatement 6 = .ok (.ldc2_w 239, 3) := by decide +kernel
theorem dX11_readStatement_9 : decode cX11_readStatement 9 = .ok (.lcmp, 1) := by decide +kernel
theorem dX11_readStatement_10 : decode cX11_readStatement 10 = .ok (.ifCond .eq 17, 3) := by decide +kernel
theorem dX11_readStatement_13 : decode cX11_readStatement 13 = .ok (.lload_n 1, 1) := by decide +kernel
theorem dX11_readStatement_14 : decode cX11_readStatement 14 = .ok (.ldc2_w 241, 3) := by decide +kernel
theorem dX11_readStatement_17 : decode cX11_readStatement 17 = .ok (.lcmp, 1) := by decide +kernel
theorem dX11_readStatement_18 : decode cX11_readStatement 18 = .ok (.ifCond .eq 9, 3) := by decide +kernel
theorem dX11_readStatement_21 : decode cX11_readStatement 21 = .ok (.aload_n 0, 1) := by decide +kernel
theorem dX11_readStatement_22 : decode cX11_readStatement 22 = .ok (.iconst 1, 1) := by decide +kernel
theorem dX11_readStatement_23 : decode cX11_readStatement 23 = .ok (.invokevirtual 166, 3) := by decide +kernel
theorem dX11_readStatement_26 : decode cX11_readStatement 26 = .ok (.ireturn, 1) := by decide +kernel
theorem dX11_readStatement_27 : decode cX11_readStatement 27 = .ok (.lload_n 1, 1) := by decide +kernel
theorem dX11_readStatement_28 : decode cX11_readStatement 28 = .ok (.ldc2_w 239, 3) := by decide +kernel
theorem dX11_readStatement_31 : decode cX11_readStatement 31 = .ok (.lcmp, 1) := by decide +kernel
theorem dX11_readStatement_32 : decode cX11_readStatement 32 = .ok (.ifCond .ne 14, 3) := by decide +kernel
theorem dX11_readStatement_35 : decode cX11_readStatement 35 = .ok (.aload_n 0, 1) := by decide +kernel
theorem dX11_readStatement_36 : decode cX11_readStatement 36 = .ok (.getfield 175, 3) := by decide +kernel
theorem dX11_readStatement_39 : decode cX11_readStatement 39 = .ok (.iconst 3, 1) := by decide +kernel
theorem dX11_readStatement_40 : decode cX11_readStatement 40 = .ok (.if_icmp .ne 21, 3) := by decide +kernel
theorem dX11_readStatement_43 : decode cX11_readStatement 43 = .ok (.goto 12, 3) := by decide +kernel
theorem dX11_readStatement_46 : decode cX11_readStatement 46 = .ok (.aload_n 0, 1) := by decide +kernel
theorem dX11_readStatement_47 : decode cX11_readStatement 47 = .ok (.getfield 178, 3) := by decide +kernel
theorem dX11_readStatement_50 : decode cX11_readStatement 50 = .ok (.bipush 8, 2) := by decide +kernel
theorem dX11_readStatement_52 : decode cX11_readStatement 52 = .ok (.if_icmp .ne 9, 3) := by decide +kernel
theorem dX11_readStatement_55 : decode cX11_readStatement 55 = .ok (.aload_n 0, 1) := by decide +kernel
theorem dX11_readStatement_56 : decode cX11_readStatement 56 = .ok (.iconst 4, 1) := by decide +kernel
theorem dX11_readStatement_57 : decode cX11_readStatement 57 = .ok (.invokevirtual 166, 3) := by decide +kernel
theorem dX11_readStatement_60 : decode cX11_readStatement 60 = .ok (.ireturn, 1) := by decide +kernel
theorem dX11_readStatement_61 : decode cX11_readStatement 61 = .ok (.aload_n 0, 1) := by decide +kernel
theorem dX11_readStatement_62 : decode cX11_readStatement 62 = .ok (.invokevirtual 162, 3) := by decide +kernel
theorem dX11_readStatement_65 : decode cX11_readStatement 65 = .ok (.pop, 1) := by decide +kernel
theorem dX11_readStatement_66 : decode cX11_readStatement 66 = .ok (.lload_n 1, 1) := by decide +kernel
theorem dX11_readStatement_67 : decode cX11_readStatement 67 = .ok (.ldc2_w 239, 3) := by decide +kernel
theorem dX11_readStatement_70 : decode cX11_readStatement 70 = .ok (.lcmp, 1) := by decide +kernel
theorem dX11_readStatement_71 : decode cX11_readStatement 71 = .ok (.ifCond .ne 10, 3) := by decide +kernel
theorem dX11_readStatement_74 : decode cX11_readStatement 74 = .ok (.aload_n 0, 1) := by decide +kernel
theorem dX11_readStatement_75 : decode cX11_readStatement 75 = .ok (.invokevirtual 243, 3) := by decide +kernel
theorem dX11_readStatement_78 : decode cX11_readStatement 78 = .ok (.goto 7, 3) := by decide +kernel
theorem dX11_readStatement_81 : decode cX11_readStatement 81 = .ok (.aload_n 0, 1) := by decide +kernel
theorem dX11_readStatement_82 : decode cX11_readStatement 82 = .ok (.invokevirtual 246, 3) := by decide +kernel
theorem dX11_readStatement_85 : decode cX11_readStatement 85 = .ok (.ireturn, 1) := by decide +kernel
def pg_X11_readStatement (l : Launch) (g : EG) : List (Nat × ES) := [(0, s_ldP 0), (1, s_callV l g sg_X11_readStatement sg_X11_nextWord 10), (4, s_stL 1), (5, s_ldL 1), (6, s_c (.inr (.inl 867781))), (9, s_lc lg_cmp), (10, s_if_eq 27), (13, s_ldL 1), (14, s_c (.inr (.inl 5969364))), (17, s_lc lg_cmp), (18, s_if_eq 27), (21, s_ldP 0), (22, s_c (.inl 1)), (23, s_callV l g sg_X11_readStatement sg_X11_fails 10), (26, s_iretz), (27, s_ldL 1), (28, s_c (.inr (.inl 867781))), (31, s_lc lg_cmp), (32, s_if_ne 46), (35, s_ldP 0), (36, s_getI 10 19), (39, s_c (.inl 3)), (40, s_icmp_ne 61), (43, s_goto 55), (46, s_ldP 0), (47, s_getI 10 20), (50, s_c (.inl 8)), (52, s_icmp_ne 61), (55, s_ldP 0), (56, s_c (.inl 4)), (57, s_callV l g sg_X11_readStatement sg_X11_fails 10), (60, s_iretz), (61, s_ldP 0), (62, s_callV l g sg_X11_readStatement sg_X11_passes 10), (65, s_pop), (66, s_ldL 1), (67, s_c (.inr (.inl 867781))), (70, s_lc lg_cmp), (71, s_if_ne 81), (74, s_ldP 0), (75, s_callV l g sg_X11_readStatement sg_X11_readZone 10), (78, s_goto 85), (81, s_ldP 0), (82, s_callV l g sg_X11_readStatement sg_X11_readEvent 10), (85, s_iretz)]
set_option maxRecDepth 100000 in
theorem ok_X11_readStatement {l : Launch} {g : EG} : e_okp l g sg_X11_readStatement "CalendarSyncModel" (pg_X11_readStatement l g) := fun p e R s m args below meth c ex M0 Q X =>
    e_each_cons (r_aload_n X (k := 0) (i := 0) rfl dX11_readStatement_0 rfl)
    (e_each_cons (r_callV X rfl (τ := sg_X11_nextWord) (index := 158) (ci := 10) dX11_readStatement_1 (by decide) rfl w6_203 w6_205 ws_39 cs_X11_nextWord rfl ⟨by decide, by decide⟩ rfl)
    (e_each_cons (r_lstore_n X (k := 1) (i := 1) rfl dX11_readStatement_4 (by decide) rfl)
    (e_each_cons (r_lload_n X (k := 1) (i := 1) rfl dX11_readStatement_5 rfl)
    (e_each_cons (r_ldc2 X (n := 239) (v := 867781) dX11_readStatement_6 w6_213 rfl)
    (e_each_cons (r_lcmp X dX11_readStatement_9 rfl)
    (e_each_cons (r_if_eq X (off := 17) (t := 27) dX11_readStatement_10 (by decide) rfl)
    (e_each_cons (r_lload_n X (k := 1) (i := 1) rfl dX11_readStatement_13 rfl)
    (e_each_cons (r_ldc2 X (n := 241) (v := 5969364) dX11_readStatement_14 w6_214 rfl)
    (e_each_cons (r_lcmp X dX11_readStatement_17 rfl)
    (e_each_cons (r_if_eq X (off := 9) (t := 27) dX11_readStatement_18 (by decide) rfl)
    (e_each_cons (r_aload_n X (k := 0) (i := 0) rfl dX11_readStatement_21 rfl)
    (e_each_cons (r_iconst X (n := 1) (v := 1) dX11_readStatement_22 (by decide) rfl)
    (e_each_cons (r_callV X rfl (τ := sg_X11_fails) (index := 166) (ci := 10) dX11_readStatement_23 (by decide) rfl w6_215 w6_217 ws_41 cs_X11_fails rfl ⟨by decide, by decide⟩ rfl)
    (e_each_cons (r_iretz X dX11_readStatement_26 rfl)
    (e_each_cons (r_lload_n X (k := 1) (i := 1) rfl dX11_readStatement_27 rfl)
    (e_each_cons (r_ldc2 X (n := 239) (v := 867781) dX11_readStatement_28 w6_213 rfl)
    (e_each_cons (r_lcmp X dX11_readStatement_31 rfl)
    (e_each_cons (r_if_ne X (off := 14) (t := 46) dX11_readStatement_32 (by decide) rfl)
    (e_each_cons (r_aload_n X (k := 0) (i := 0) rfl dX11_readStatement_35 rfl)
    (e_each_cons (r_getI X (index := 175) (ci := 10) (k := 19) dX11_readStatement_36 (by decide) (by decide) rfl w6_45 rfl)
    (e_each_cons (r_iconst X (n := 3) (v := 3) dX11_readStatement_39 (by decide) rfl)
    (e_each_cons (r_icmp_ne X (off := 21) (t := 61) dX11_readStatement_40 (by decide) rfl)
    (e_each_cons (r_goto X (off := 12) (t := 55) dX11_readStatement_43 (by decide))
    (e_each_cons (r_aload_n X (k := 0) (i := 0) rfl dX11_readStatement_46 rfl)
    (e_each_cons (r_getI X (index := 178) (ci := 10) (k := 20) dX11_readStatement_47 (by decide) (by decide) rfl w6_46 rfl)
    (e_each_cons (r_bipush X (n := 8) (v := 8) dX11_readStatement_50 (by decide) rfl)
    (e_each_cons (r_icmp_ne X (off := 9) (t := 61) dX11_readStatement_52 (by decide) rfl)
    (e_each_cons (r_aload_n X (k := 0) (i := 0) rfl dX11_readStatement_55 rfl)
    (e_each_cons (r_iconst X (n := 4) (v := 4) dX11_readStatement_56 (by decide) rfl)
    (e_each_cons (r_callV X rfl (τ := sg_X11_fails) (index := 166) (ci := 10) dX11_readStatement_57 (by decide) rfl w6_215 w6_217 ws_41 cs_X11_fails rfl ⟨by decide, by decide⟩ rfl)
    (e_each_cons (r_iretz X dX11_readStatement_60 rfl)
    (e_each_cons (r_aload_n X (k := 0) (i := 0) rfl dX11_readStatement_61 rfl)
    (e_each_cons (r_callV X rfl (τ := sg_X11_passes) (index := 162) (ci := 10) dX11_readStatement_62 (by decide) rfl w6_219 w6_221 ws_42 cs_X11_passes rfl ⟨by decide, by decide⟩ rfl)
    (e_each_cons (r_pop X dX11_readStatement_65 rfl)
    (e_each_cons (r_lload_n X (k := 1) (i := 1) rfl dX11_readStatement_66 rfl)
    (e_each_cons (r_ldc2 X (n := 239) (v := 867781) dX11_readStatement_67 w6_213 rfl)
    (e_each_cons (r_lcmp X dX11_readStatement_70 rfl)
    (e_each_cons (r_if_ne X (off := 10) (t := 81) dX11_readStatement_71 (by decide) rfl)
    (e_each_cons (r_aload_n X (k := 0) (i := 0) rfl dX11_readStatement_74 rfl)
    (e_each_cons (r_callV X rfl (τ := sg_X11_readZone) (index := 243) (ci := 10) dX11_readStatement_75 (by decide) rfl w6_223 w6_225 ws_43 cs_X11_readZone rfl ⟨by decide, by decide⟩ rfl)
    (e_each_cons (r_goto X (off := 7) (t := 85) dX11_readStatement_78 (by decide))
    (e_each_cons (r_aload_n X (k := 0) (i := 0) rfl dX11_readStatement_81 rfl)
    (e_each_cons (r_callV X rfl (τ := sg_X11_readEvent) (index := 246) (ci := 10) dX11_readStatement_82 (by decide) rfl w7_0 w7_2 ws_47 cs_X11_readEvent rfl ⟨by decide, by decide⟩ rfl)
    (e_each_cons (r_iretz X dX11_readStatement_85 rfl)
    (e_each_nil)))))))))))))))))))))))))))))))))))))))))))))
theorem dX11_readCalendar_0 : decode cX11_readCalendar 0 = .ok (.aload_n 0, 1) := by decide +kernel
theorem dX11_readCalendar_1 : decode cX11_readCalendar 1 = .ok (.invokevirtual 55, 3) := by decide +kernel
theorem dX11_readCalendar_4 : decode cX11_readCalendar 4 = .ok (.aload_n 0, 1) := by decide +kernel
theorem dX11_readCalendar_5 : decode cX11_readCalendar 5 = .ok (.invokevirtual 147, 3) := by decide +kernel
theorem dX11_readCalendar_8 : decode cX11_readCalendar 8 = .ok (.iconst (-1), 1) := by decide +kernel
theorem dX11_readCalendar_9 : decode cX11_readCalendar 9 = .ok (.if_icmp .eq 19, 3) := by decide +kernel
theorem dX11_readCalendar_12 : decode cX11_readCalendar 12 = .ok (.aload_n 0, 1) := by decide +kernel
theorem dX11_readCalendar_13 : decode cX11_readCalendar 13 = .ok (.invokevirtual 249, 3) := by decide +kernel
theorem dX11_readCalendar_16 : decode cX11_readCalendar 16 = .ok (.ifCond .eq 10, 3) := by decide +kernel
theorem dX11_readCalendar_19 : decode cX11_readCalendar 19 = .ok (.aload_n 0, 1) := by decide +kernel
theorem dX11_readCalendar_20 : decode cX11_readCalendar 20 = .ok (.invokevirtual 252, 3) := by decide +kernel
theorem dX11_readCalendar_23 : decode cX11_readCalendar 23 = .ok (.ifCond .ne (-19), 3) := by decide +kernel
theorem dX11_readCalendar_26 : decode cX11_readCalendar 26 = .ok (.iconst 0, 1) := by decide +kernel
theorem dX11_readCalendar_27 : decode cX11_readCalendar 27 = .ok (.ireturn, 1) := by decide +kernel
theorem dX11_readCalendar_28 : decode cX11_readCalendar 28 = .ok (.iconst 1, 1) := by decide +kernel
theorem dX11_readCalendar_29 : decode cX11_readCalendar 29 = .ok (.ireturn, 1) := by decide +kernel
def pg_X11_readCalendar (l : Launch) (g : EG) : List (Nat × ES) := [(0, s_ldP 0), (1, s_callV l g sg_X11_readCalendar sg_X11_beginsCalendar 10), (4, s_ldP 0), (5, s_callV l g sg_X11_readCalendar sg_X11_peek 10), (8, s_c (.inl (-1))), (9, s_icmp_eq 28), (12, s_ldP 0), (13, s_callV l g sg_X11_readCalendar sg_X11_readStatement 10), (16, s_if_eq 26), (19, s_ldP 0), (20, s_callV l g sg_X11_readCalendar sg_X11_readSemicolon 10), (23, s_if_ne 4), (26, s_c (.inl 0)), (27, s_iretz), (28, s_c (.inl 1)), (29, s_iretz)]
set_option maxRecDepth 100000 in
theorem ok_X11_readCalendar {l : Launch} {g : EG} : e_okp l g sg_X11_readCalendar "CalendarSyncModel" (pg_X11_readCalendar l g) := fun p e R s m args below meth c ex M0 Q X =>
    e_each_cons (r_aload_n X (k := 0) (i := 0) rfl dX11_readCalendar_0 rfl)
    (e_each_cons (r_callV X rfl (τ := sg_X11_beginsCalendar) (index := 55) (ci := 10) dX11_readCalendar_1 (by decide) rfl w6_18 w6_20 ws_29 cs_X11_beginsCalendar rfl ⟨by decide, by decide⟩ rfl)
    (e_each_cons (r_aload_n X (k := 0) (i := 0) rfl dX11_readCalendar_4 rfl)
    (e_each_cons (r_callV X rfl (τ := sg_X11_peek) (index := 147) (ci := 10) dX11_readCalendar_5 (by decide) rfl w6_185 w6_187 ws_36 cs_X11_peek rfl ⟨by decide, by decide⟩ rfl)
    (e_each_cons (r_iconst X (n := (-1)) (v := (-1)) dX11_readCalendar_8 (by decide) rfl)
    (e_each_cons (r_icmp_eq X (off := 19) (t := 28) dX11_readCalendar_9 (by decide) rfl)
    (e_each_cons (r_aload_n X (k := 0) (i := 0) rfl dX11_readCalendar_12 rfl)
    (e_each_cons (r_callV X rfl (τ := sg_X11_readStatement) (index := 249) (ci := 10) dX11_readCalendar_13 (by decide) rfl w6_199 w6_201 ws_38 cs_X11_readStatement rfl ⟨by decide, by decide⟩ rfl)
    (e_each_cons (r_if_eq X (off := 10) (t := 26) dX11_readCalendar_16 (by decide) rfl)
    (e_each_cons (r_aload_n X (k := 0) (i := 0) rfl dX11_readCalendar_19 rfl)
    (e_each_cons (r_callV X rfl (τ := sg_X11_readSemicolon) (index := 252) (ci := 10) dX11_readCalendar_20 (by decide) rfl w7_60 w7_62 ws_57 cs_X11_readSemicolon rfl ⟨by decide, by decide⟩ rfl)
    (e_each_cons (r_if_ne X (off := (-19)) (t := 4) dX11_readCalendar_23 (by decide) rfl)
    (e_each_cons (r_iconst X (n := 0) (v := 0) dX11_readCalendar_26 (by decide) rfl)
    (e_each_cons (r_iretz X dX11_readCalendar_27 rfl)
    (e_each_cons (r_iconst X (n := 1) (v := 1) dX11_readCalendar_28 (by decide) rfl)
    (e_each_cons (r_iretz X dX11_readCalendar_29 rfl)
    (e_each_nil))))))))))))))))
theorem dX11_takesCalendar_0 : decode cX11_takesCalendar 0 = .ok (.aload_n 0, 1) := by decide +kernel
theorem dX11_takesCalendar_1 : decode cX11_takesCalendar 1 = .ok (.aload_n 0, 1) := by decide +kernel
theorem dX11_takesCalendar_2 : decode cX11_takesCalendar 2 = .ok (.getfield 175, 3) := by decide +kernel
theorem dX11_takesCalendar_5 : decode cX11_takesCalendar 5 = .ok (.ifCond .ne 7, 3) := by decide +kernel
theorem dX11_takesCalendar_8 : decode cX11_takesCalendar 8 = .ok (.iconst 1, 1) := by decide +kernel
theorem dX11_takesCalendar_9 : decode cX11_takesCalendar 9 = .ok (.goto 7, 3) := by decide +kernel
theorem dX11_takesCalendar_12 : decode cX11_takesCalendar 12 = .ok (.aload_n 0, 1) := by decide +kernel
theorem dX11_takesCalendar_13 : decode cX11_takesCalendar 13 = .ok (.getfield 175, 3) := by decide +kernel
theorem dX11_takesCalendar_16 : decode cX11_takesCalendar 16 = .ok (.putfield 255, 3) := by decide +kernel
theorem dX11_takesCalendar_19 : decode cX11_takesCalendar 19 = .ok (.aload_n 0, 1) := by decide +kernel
theorem dX11_takesCalendar_20 : decode cX11_takesCalendar 20 = .ok (.getfield 175, 3) := by decide +kernel
theorem dX11_takesCalendar_23 : decode cX11_takesCalendar 23 = .ok (.ifCond .ne 17, 3) := by decide +kernel
theorem dX11_takesCalendar_26 : decode cX11_takesCalendar 26 = .ok (.aload_n 0, 1) := by decide +kernel
theorem dX11_takesCalendar_27 : decode cX11_takesCalendar 27 = .ok (.getfield 34, 3) := by decide +kernel
theorem dX11_takesCalendar_30 : decode cX11_takesCalendar 30 = .ok (.iconst 1, 1) := by decide +kernel
theorem dX11_takesCalendar_31 : decode cX11_takesCalendar 31 = .ok (.iconst (-1), 1) := by decide +kernel
theorem dX11_takesCalendar_32 : decode cX11_takesCalendar 32 = .ok (.iastore, 1) := by decide +kernel
theorem dX11_takesCalendar_33 : decode cX11_takesCalendar 33 = .ok (.aload_n 0, 1) := by decide +kernel
theorem dX11_takesCalendar_34 : decode cX11_takesCalendar 34 = .ok (.getfield 34, 3) := by decide +kernel
theorem dX11_takesCalendar_37 : decode cX11_takesCalendar 37 = .ok (.iconst 2, 1) := by decide +kernel
theorem dX11_takesCalendar_38 : decode cX11_takesCalendar 38 = .ok (.iconst (-1), 1) := by decide +kernel
theorem dX11_takesCalendar_39 : decode cX11_takesCalendar 39 = .ok (.iastore, 1) := by decide +kernel
theorem dX11_takesCalendar_40 : decode cX11_takesCalendar 40 = .ok (.aload_n 0, 1) := by decide +kernel
theorem dX11_takesCalendar_41 : decode cX11_takesCalendar 41 = .ok (.getfield 178, 3) := by decide +kernel
theorem dX11_takesCalendar_44 : decode cX11_takesCalendar 44 = .ok (.istore_n 1, 1) := by decide +kernel
theorem dX11_takesCalendar_45 : decode cX11_takesCalendar 45 = .ok (.iload_n 1, 1) := by decide +kernel
theorem dX11_takesCalendar_46 : decode cX11_takesCalendar 46 = .ok (.bipush 8, 2) := by decide +kernel
theorem dX11_takesCalendar_48 : decode cX11_takesCalendar 48 = .ok (.if_icmp .ge 26, 3) := by decide +kernel
theorem dX11_takesCalendar_51 : decode cX11_takesCalendar 51 = .ok (.aload_n 0, 1) := by decide +kernel
theorem dX11_takesCalendar_52 : decode cX11_takesCalendar 52 = .ok (.getfield 34, 3) := by decide +kernel
theorem dX11_takesCalendar_55 : decode cX11_takesCalendar 55 = .ok (.bipush 12, 2) := by decide +kernel
theorem dX11_takesCalendar_57 : decode cX11_takesCalendar 57 = .ok (.sipush 136, 3) := by decide +kernel
theorem dX11_takesCalendar_60 : decode cX11_takesCalendar 60 = .ok (.iload_n 1, 1) := by decide +kernel
theorem dX11_takesCalendar_61 : decode cX11_takesCalendar 61 = .ok (.imul, 1) := by decide +kernel
theorem dX11_takesCalendar_62 : decode cX11_takesCalendar 62 = .ok (.iadd, 1) := by decide +kernel
theorem dX11_takesCalendar_63 : decode cX11_takesCalendar 63 = .ok (.bipush 9, 2) := by decide +kernel
theorem dX11_takesCalendar_65 : decode cX11_takesCalendar 65 = .ok (.iadd, 1) := by decide +kernel
theorem dX11_takesCalendar_66 : decode cX11_takesCalendar 66 = .ok (.iconst (-1), 1) := by decide +kernel
theorem dX11_takesCalendar_67 : decode cX11_takesCalendar 67 = .ok (.iastore, 1) := by decide +kernel
theorem dX11_takesCalendar_68 : decode cX11_takesCalendar 68 = .ok (.iinc 1 1, 3) := by decide +kernel
theorem dX11_takesCalendar_71 : decode cX11_takesCalendar 71 = .ok (.goto (-26), 3) := by decide +kernel
theorem dX11_takesCalendar_74 : decode cX11_takesCalendar 74 = .ok (.iconst 0, 1) := by decide +kernel
theorem dX11_takesCalendar_75 : decode cX11_takesCalendar 75 = .ok (.istore_n 1, 1) := by decide +kernel
theorem dX11_takesCalendar_76 : decode cX11_takesCalendar 76 = .ok (.iload_n 1, 1) := by decide +kernel
theorem dX11_takesCalendar_77 : decode cX11_takesCalendar 77 = .ok (.bipush 24, 2) := by decide +kernel
theorem dX11_takesCalendar_79 : decode cX11_takesCalendar 79 = .ok (.if_icmp .ge 16, 3) := by decide +kernel
theorem dX11_takesCalendar_82 : decode cX11_takesCalendar 82 = .ok (.aload_n 0, 1) := by decide +kernel
theorem dX11_takesCalendar_83 : decode cX11_takesCalendar 83 = .ok (.getfield 7, 3) := by decide +kernel
theorem dX11_takesCalendar_86 : decode cX11_takesCalendar 86 = .ok (.iload_n 1, 1) := by decide +kernel
theorem dX11_takesCalendar_87 : decode cX11_takesCalendar 87 = .ok (.iconst 0, 1) := by decide +kernel
theorem dX11_takesCalendar_88 : decode cX11_takesCalendar 88 = .ok (.iastore, 1) := by decide +kernel
theorem dX11_takesCalendar_89 : decode cX11_takesCalendar 89 = .ok (.iinc 1 1, 3) := by decide +kernel
theorem dX11_takesCalendar_92 : decode cX11_takesCalendar 92 = .ok (.goto (-16), 3) := by decide +kernel
theorem dX11_takesCalendar_95 : decode cX11_takesCalendar 95 = .ok (.iconst 0, 1) := by decide +kernel
theorem dX11_takesCalendar_96 : decode cX11_takesCalendar 96 = .ok (.istore_n 1, 1) := by decide +kernel
theorem dX11_takesCalendar_97 : decode cX11_takesCalendar 97 = .ok (.iload_n 1, 1) := by decide +kernel
theorem dX11_takesCalendar_98 : decode cX11_takesCalendar 98 = .ok (.sipush 1100, 3) := by decide +kernel
theorem dX11_takesCalendar_101 : decode cX11_takesCalendar 101 = .ok (.if_icmp .ge 56, 3) := by decide +kernel
theorem dX11_takesCalendar_104 : decode cX11_takesCalendar 104 = .ok (.aload_n 0, 1) := by decide +kernel
theorem dX11_takesCalendar_105 : decode cX11_takesCalendar 105 = .ok (.getfield 7, 3) := by decide +kernel
theorem dX11_takesCalendar_108 : decode cX11_takesCalendar 108 = .ok (.bipush 24, 2) := by decide +kernel
theorem dX11_takesCalendar_110 : decode cX11_takesCalendar 110 = .ok (.iload_n 1, 1) := by decide +kernel
theorem dX11_takesCalendar_111 : decode cX11_takesCalendar 111 = .ok (.iadd, 1) := by decide +kernel
theorem dX11_takesCalendar_112 : decode cX11_takesCalendar 112 = .ok (.aload_n 0, 1) := by decide +kernel
theorem dX11_takesCalendar_113 : decode cX11_takesCalendar 113 = .ok (.getfield 34, 3) := by decide +kernel
theorem dX11_takesCalendar_116 : decode cX11_takesCalendar 116 = .ok (.iload_n 1, 1) := by decide +kernel
theorem dX11_takesCalendar_117 : decode cX11_takesCalendar 117 = .ok (.iaload, 1) := by decide +kernel
theorem dX11_takesCalendar_118 : decode cX11_takesCalendar 118 = .ok (.iastore, 1) := by decide +kernel
theorem dX11_takesCalendar_119 : decode cX11_takesCalendar 119 = .ok (.aload_n 0, 1) := by decide +kernel
theorem dX11_takesCalendar_120 : decode cX11_takesCalendar 120 = .ok (.getfield 7, 3) := by decide +kernel
theorem dX11_takesCalendar_123 : decode cX11_takesCalendar 123 = .ok (.sipush 1124, 3) := by decide +kernel
theorem dX11_takesCalendar_126 : decode cX11_takesCalendar 126 = .ok (.iload_n 1, 1) := by decide +kernel
theorem dX11_takesCalendar_127 : decode cX11_takesCalendar 127 = .ok (.iadd, 1) := by decide +kernel
theorem dX11_takesCalendar_128 : decode cX11_takesCalendar 128 = .ok (.aload_n 0, 1) := by decide +kernel
theorem dX11_takesCalendar_129 : decode cX11_takesCalendar 129 = .ok (.getfield 34, 3) := by decide +kernel
theorem dX11_takesCalendar_132 : decode cX11_takesCalendar 132 = .ok (.iload_n 1, 1) := by decide +kernel
theorem dX11_takesCalendar_133 : decode cX11_takesCalendar 133 = .ok (.iaload, 1) := by decide +kernel
theorem dX11_takesCalendar_134 : decode cX11_takesCalendar 134 = .ok (.iastore, 1) := by decide +kernel
theorem dX11_takesCalendar_135 : decode cX11_takesCalendar 135 = .ok (.aload_n 0, 1) := by decide +kernel
theorem dX11_takesCalendar_136 : decode cX11_takesCalendar 136 = .ok (.getfield 7, 3) := by decide +kernel
theorem dX11_takesCalendar_139 : decode cX11_takesCalendar 139 = .ok (.sipush 2224, 3) := by decide +kernel
theorem dX11_takesCalendar_142 : decode cX11_takesCalendar 142 = .ok (.iload_n 1, 1) := by decide +kernel
theorem dX11_takesCalendar_143 : decode cX11_takesCalendar 143 = .ok (.iadd, 1) := by decide +kernel
theorem dX11_takesCalendar_144 : decode cX11_takesCalendar 144 = .ok (.aload_n 0, 1) := by decide +kernel
theorem dX11_takesCalendar_145 : decode cX11_takesCalendar 145 = .ok (.getfield 34, 3) := by decide +kernel
theorem dX11_takesCalendar_148 : decode cX11_takesCalendar 148 = .ok (.iload_n 1, 1) := by decide +kernel
theorem dX11_takesCalendar_149 : decode cX11_takesCalendar 149 = .ok (.iaload, 1) := by decide +kernel
theorem dX11_takesCalendar_150 : decode cX11_takesCalendar 150 = .ok (.iastore, 1) := by decide +kernel
theorem dX11_takesCalendar_151 : decode cX11_takesCalendar 151 = .ok (.iinc 1 1, 3) := by decide +kernel
theorem dX11_takesCalendar_154 : decode cX11_takesCalendar 154 = .ok (.goto (-57), 3) := by decide +kernel
theorem dX11_takesCalendar_157 : decode cX11_takesCalendar 157 = .ok (.aload_n 0, 1) := by decide +kernel
theorem dX11_takesCalendar_158 : decode cX11_takesCalendar 158 = .ok (.iconst 0, 1) := by decide +kernel
theorem dX11_takesCalendar_159 : decode cX11_takesCalendar 159 = .ok (.putfield 68, 3) := by decide +kernel
theorem dX11_takesCalendar_162 : decode cX11_takesCalendar 162 = .ok (.aload_n 0, 1) := by decide +kernel
theorem dX11_takesCalendar_163 : decode cX11_takesCalendar 163 = .ok (.getfield 20, 3) := by decide +kernel
theorem dX11_takesCalendar_166 : decode cX11_takesCalendar 166 = .ok (.iconst 0, 1) := by decide +kernel
theorem dX11_takesCalendar_167 : decode cX11_takesCalendar 167 = .ok (.iconst 0, 1) := by decide +kernel
theorem dX11_takesCalendar_168 : decode cX11_takesCalendar 168 = .ok (.bastore, 1) := by decide +kernel
theorem dX11_takesCalendar_169 : decode cX11_takesCalendar 169 = .ok (.aload_n 0, 1) := by decide +kernel
theorem dX11_takesCalendar_170 : decode cX11_takesCalendar 170 = .ok (.getfield 20, 3) := by decide +kernel
theorem dX11_takesCalendar_173 : decode cX11_takesCalendar 173 = .ok (.iconst 1, 1) := by decide +kernel
theorem dX11_takesCalendar_174 : decode cX11_takesCalendar 174 = .ok (.iconst 0, 1) := by decide +kernel
theorem dX11_takesCalendar_175 : decode cX11_takesCalendar 175 = .ok (.bastore, 1) := by decide +kernel
theorem dX11_takesCalendar_176 : decode cX11_takesCalendar 176 = .ok (.return_, 1) := by decide +kernel
def pg_X11_takesCalendar (l : Launch) (g : EG) : List (Nat × ES) := [(0, s_ldP 0), (1, s_ldP 0), (2, s_getI 10 19), (5, s_if_ne 12), (8, s_c (.inl 1)), (9, s_goto 16), (12, s_ldP 0), (13, s_getI 10 19), (16, s_putI 10 1), (19, s_ldP 0), (20, s_getI 10 19), (23, s_if_ne 40), (26, s_ldP 0), (27, s_getP 10 18), (30, s_c (.inl 1)), (31, s_c (.inl (-1))), (32, s_iast), (33, s_ldP 0), (34, s_getP 10 18), (37, s_c (.inl 2)), (38, s_c (.inl (-1))), (39, s_iast), (40, s_ldP 0), (41, s_getI 10 20), (44, s_stI 1), (45, s_ldI 1), (46, s_c (.inl 8)), (48, s_icmp_ge 74), (51, s_ldP 0), (52, s_getP 10 18), (55, s_c (.inl 12)), (57, s_c (.inl 136)), (60, s_ldI 1), (61, s_ii (fun x y => x * y)), (62, s_ii (fun x y => x + y)), (63, s_c (.inl 9)), (65, s_ii (fun x y => x + y)), (66, s_c (.inl (-1))), (67, s_iast), (68, s_iinc 1 1), (71, s_goto 45), (74, s_c (.inl 0)), (75, s_stI 1), (76, s_ldI 1), (77, s_c (.inl 24)), (79, s_icmp_ge 95), (82, s_ldP 0), (83, s_getP 10 2), (86, s_ldI 1), (87, s_c (.inl 0)), (88, s_iast), (89, s_iinc 1 1), (92, s_goto 76), (95, s_c (.inl 0)), (96, s_stI 1), (97, s_ldI 1), (98, s_c (.inl 1100)), (101, s_icmp_ge 157), (104, s_ldP 0), (105, s_getP 10 2), (108, s_c (.inl 24)), (110, s_ldI 1), (111, s_ii (fun x y => x + y)), (112, s_ldP 0), (113, s_getP 10 18), (116, s_ldI 1), (117, s_iald), (118, s_iast), (119, s_ldP 0), (120, s_getP 10 2), (123, s_c (.inl 1124)), (126, s_ldI 1), (127, s_ii (fun x y => x + y)), (128, s_ldP 0), (129, s_getP 10 18), (132, s_ldI 1), (133, s_iald), (134, s_iast), (135, s_ldP 0), (136, s_getP 10 2), (139, s_c (.inl 2224)), (142, s_ldI 1), (143, s_ii (fun x y => x + y)), (144, s_ldP 0), (145, s_getP 10 18), (148, s_ldI 1), (149, s_iald), (150, s_iast), (151, s_iinc 1 1), (154, s_goto 97), (157, s_ldP 0), (158, s_c (.inl 0)), (159, s_putI 10 6), (162, s_ldP 0), (163, s_getP 10 5), (166, s_c (.inl 0)), (167, s_c (.inl 0)), (168, s_zast), (169, s_ldP 0), (170, s_getP 10 5), (173, s_c (.inl 1)), (174, s_c (.inl 0)), (175, s_zast), (176, s_vret)]
set_option maxRecDepth 100000 in
theorem ok_X11_takesCalendar {l : Launch} {g : EG} : e_okp l g sg_X11_takesCalendar "CalendarSyncModel" (pg_X11_takesCalendar l g) := fun p e R s m args below meth c ex M0 Q X =>
    e_each_cons (r_aload_n X (k := 0) (i := 0) rfl dX11_takesCalendar_0 rfl)
    (e_each_cons (r_aload_n X (k := 0) (i := 0) rfl dX11_takesCalendar_1 rfl)
    (e_each_cons (r_getI X (index := 175) (ci := 10) (k := 19) dX11_takesCalendar_2 (by decide) (by decide) rfl w6_45 rfl)
    (e_each_cons (r_if_ne X (off := 7) (t := 12) dX11_takesCalendar_5 (by decide) rfl)
    (e_each_cons (r_iconst X (n := 1) (v := 1) dX11_takesCalendar_8 (by decide) rfl)
    (e_each_cons (r_goto X (off := 7) (t := 16) dX11_takesCalendar_9 (by decide))
    (e_each_cons (r_aload_n X (k := 0) (i := 0) rfl dX11_takesCalendar_12 rfl)
    (e_each_cons (r_getI X (index := 175) (ci := 10) (k := 19) dX11_takesCalendar_13 (by decide) (by decide) rfl w6_45 rfl)
    (e_each_cons (r_putI X (index := 255) (ci := 10) (k := 1) dX11_takesCalendar_16 (by decide) (by decide) rfl rfl w6_27 rfl)
    (e_each_cons (r_aload_n X (k := 0) (i := 0) rfl dX11_takesCalendar_19 rfl)
    (e_each_cons (r_getI X (index := 175) (ci := 10) (k := 19) dX11_takesCalendar_20 (by decide) (by decide) rfl w6_45 rfl)
    (e_each_cons (r_if_ne X (off := 17) (t := 40) dX11_takesCalendar_23 (by decide) rfl)
    (e_each_cons (r_aload_n X (k := 0) (i := 0) rfl dX11_takesCalendar_26 rfl)
    (e_each_cons (r_getP X (index := 34) (ci := 10) (k := 18) dX11_takesCalendar_27 (by decide) (by decide) rfl w6_44 rfl)
    (e_each_cons (r_iconst X (n := 1) (v := 1) dX11_takesCalendar_30 (by decide) rfl)
    (e_each_cons (r_iconst X (n := (-1)) (v := (-1)) dX11_takesCalendar_31 (by decide) rfl)
    (e_each_cons (r_iast X dX11_takesCalendar_32 rfl)
    (e_each_cons (r_aload_n X (k := 0) (i := 0) rfl dX11_takesCalendar_33 rfl)
    (e_each_cons (r_getP X (index := 34) (ci := 10) (k := 18) dX11_takesCalendar_34 (by decide) (by decide) rfl w6_44 rfl)
    (e_each_cons (r_iconst X (n := 2) (v := 2) dX11_takesCalendar_37 (by decide) rfl)
    (e_each_cons (r_iconst X (n := (-1)) (v := (-1)) dX11_takesCalendar_38 (by decide) rfl)
    (e_each_cons (r_iast X dX11_takesCalendar_39 rfl)
    (e_each_cons (r_aload_n X (k := 0) (i := 0) rfl dX11_takesCalendar_40 rfl)
    (e_each_cons (r_getI X (index := 178) (ci := 10) (k := 20) dX11_takesCalendar_41 (by decide) (by decide) rfl w6_46 rfl)
    (e_each_cons (r_istore_n X (k := 1) (i := 1) rfl dX11_takesCalendar_44 (by decide) rfl)
    (e_each_cons (r_iload_n X (k := 1) (i := 1) rfl dX11_takesCalendar_45 rfl)
    (e_each_cons (r_bipush X (n := 8) (v := 8) dX11_takesCalendar_46 (by decide) rfl)
    (e_each_cons (r_icmp_ge X (off := 26) (t := 74) dX11_takesCalendar_48 (by decide) rfl)
    (e_each_cons (r_aload_n X (k := 0) (i := 0) rfl dX11_takesCalendar_51 rfl)
    (e_each_cons (r_getP X (index := 34) (ci := 10) (k := 18) dX11_takesCalendar_52 (by decide) (by decide) rfl w6_44 rfl)
    (e_each_cons (r_bipush X (n := 12) (v := 12) dX11_takesCalendar_55 (by decide) rfl)
    (e_each_cons (r_sipush X (n := 136) (v := 136) dX11_takesCalendar_57 (by decide) rfl)
    (e_each_cons (r_iload_n X (k := 1) (i := 1) rfl dX11_takesCalendar_60 rfl)
    (e_each_cons (r_imul X dX11_takesCalendar_61 rfl)
    (e_each_cons (r_iadd X dX11_takesCalendar_62 rfl)
    (e_each_cons (r_bipush X (n := 9) (v := 9) dX11_takesCalendar_63 (by decide) rfl)
    (e_each_cons (r_iadd X dX11_takesCalendar_65 rfl)
    (e_each_cons (r_iconst X (n := (-1)) (v := (-1)) dX11_takesCalendar_66 (by decide) rfl)
    (e_each_cons (r_iast X dX11_takesCalendar_67 rfl)
    (e_each_cons (r_iinc X (i := 1) (n := 1) (d := 1) dX11_takesCalendar_68 (by decide) (by decide) rfl)
    (e_each_cons (r_goto X (off := (-26)) (t := 45) dX11_takesCalendar_71 (by decide))
    (e_each_cons (r_iconst X (n := 0) (v := 0) dX11_takesCalendar_74 (by decide) rfl)
    (e_each_cons (r_istore_n X (k := 1) (i := 1) rfl dX11_takesCalendar_75 (by decide) rfl)
    (e_each_cons (r_iload_n X (k := 1) (i := 1) rfl dX11_takesCalendar_76 rfl)
    (e_each_cons (r_bipush X (n := 24) (v := 24) dX11_takesCalendar_77 (by decide) rfl)
    (e_each_cons (r_icmp_ge X (off := 16) (t := 95) dX11_takesCalendar_79 (by decide) rfl)
    (e_each_cons (r_aload_n X (k := 0) (i := 0) rfl dX11_takesCalendar_82 rfl)
    (e_each_cons (r_getP X (index := 7) (ci := 10) (k := 2) dX11_takesCalendar_83 (by decide) (by decide) rfl w6_28 rfl)
    (e_each_cons (r_iload_n X (k := 1) (i := 1) rfl dX11_takesCalendar_86 rfl)
    (e_each_cons (r_iconst X (n := 0) (v := 0) dX11_takesCalendar_87 (by decide) rfl)
    (e_each_cons (r_iast X dX11_takesCalendar_88 rfl)
    (e_each_cons (r_iinc X (i := 1) (n := 1) (d := 1) dX11_takesCalendar_89 (by decide) (by decide) rfl)
    (e_each_cons (r_goto X (off := (-16)) (t := 76) dX11_takesCalendar_92 (by decide))
    (e_each_cons (r_iconst X (n := 0) (v := 0) dX11_takesCalendar_95 (by decide) rfl)
    (e_each_cons (r_istore_n X (k := 1) (i := 1) rfl dX11_takesCalendar_96 (by decide) rfl)
    (e_each_cons (r_iload_n X (k := 1) (i := 1) rfl dX11_takesCalendar_97 rfl)
    (e_each_cons (r_sipush X (n := 1100) (v := 1100) dX11_takesCalendar_98 (by decide) rfl)
    (e_each_cons (r_icmp_ge X (off := 56) (t := 157) dX11_takesCalendar_101 (by decide) rfl)
    (e_each_cons (r_aload_n X (k := 0) (i := 0) rfl dX11_takesCalendar_104 rfl)
    (e_each_cons (r_getP X (index := 7) (ci := 10) (k := 2) dX11_takesCalendar_105 (by decide) (by decide) rfl w6_28 rfl)
    (e_each_cons (r_bipush X (n := 24) (v := 24) dX11_takesCalendar_108 (by decide) rfl)
    (e_each_cons (r_iload_n X (k := 1) (i := 1) rfl dX11_takesCalendar_110 rfl)
    (e_each_cons (r_iadd X dX11_takesCalendar_111 rfl)
    (e_each_cons (r_aload_n X (k := 0) (i := 0) rfl dX11_takesCalendar_112 rfl)
    (e_each_cons (r_getP X (index := 34) (ci := 10) (k := 18) dX11_takesCalendar_113 (by decide) (by decide) rfl w6_44 rfl)
    (e_each_cons (r_iload_n X (k := 1) (i := 1) rfl dX11_takesCalendar_116 rfl)
    (e_each_cons (r_iald X dX11_takesCalendar_117 rfl)
    (e_each_cons (r_iast X dX11_takesCalendar_118 rfl)
    (e_each_cons (r_aload_n X (k := 0) (i := 0) rfl dX11_takesCalendar_119 rfl)
    (e_each_cons (r_getP X (index := 7) (ci := 10) (k := 2) dX11_takesCalendar_120 (by decide) (by decide) rfl w6_28 rfl)
    (e_each_cons (r_sipush X (n := 1124) (v := 1124) dX11_takesCalendar_123 (by decide) rfl)
    (e_each_cons (r_iload_n X (k := 1) (i := 1) rfl dX11_takesCalendar_126 rfl)
    (e_each_cons (r_iadd X dX11_takesCalendar_127 rfl)
    (e_each_cons (r_aload_n X (k := 0) (i := 0) rfl dX11_takesCalendar_128 rfl)
    (e_each_cons (r_getP X (index := 34) (ci := 10) (k := 18) dX11_takesCalendar_129 (by decide) (by decide) rfl w6_44 rfl)
    (e_each_cons (r_iload_n X (k := 1) (i := 1) rfl dX11_takesCalendar_132 rfl)
    (e_each_cons (r_iald X dX11_takesCalendar_133 rfl)
    (e_each_cons (r_iast X dX11_takesCalendar_134 rfl)
    (e_each_cons (r_aload_n X (k := 0) (i := 0) rfl dX11_takesCalendar_135 rfl)
    (e_each_cons (r_getP X (index := 7) (ci := 10) (k := 2) dX11_takesCalendar_136 (by decide) (by decide) rfl w6_28 rfl)
    (e_each_cons (r_sipush X (n := 2224) (v := 2224) dX11_takesCalendar_139 (by decide) rfl)
    (e_each_cons (r_iload_n X (k := 1) (i := 1) rfl dX11_takesCalendar_142 rfl)
    (e_each_cons (r_iadd X dX11_takesCalendar_143 rfl)
    (e_each_cons (r_aload_n X (k := 0) (i := 0) rfl dX11_takesCalendar_144 rfl)
    (e_each_cons (r_getP X (index := 34) (ci := 10) (k := 18) dX11_takesCalendar_145 (by decide) (by decide) rfl w6_44 rfl)
    (e_each_cons (r_iload_n X (k := 1) (i := 1) rfl dX11_takesCalendar_148 rfl)
    (e_each_cons (r_iald X dX11_takesCalendar_149 rfl)
    (e_each_cons (r_iast X dX11_takesCalendar_150 rfl)
    (e_each_cons (r_iinc X (i := 1) (n := 1) (d := 1) dX11_takesCalendar_151 (by decide) (by decide) rfl)
    (e_each_cons (r_goto X (off := (-57)) (t := 97) dX11_takesCalendar_154 (by decide))
    (e_each_cons (r_aload_n X (k := 0) (i := 0) rfl dX11_takesCalendar_157 rfl)
    (e_each_cons (r_iconst X (n := 0) (v := 0) dX11_takesCalendar_158 (by decide) rfl)
    (e_each_cons (r_putI X (index := 68) (ci := 10) (k := 6) dX11_takesCalendar_159 (by decide) (by decide) rfl rfl w6_32 rfl)
    (e_each_cons (r_aload_n X (k := 0) (i := 0) rfl dX11_takesCalendar_162 rfl)
    (e_each_cons (r_getP X (index := 20) (ci := 10) (k := 5) dX11_takesCalendar_163 (by decide) (by decide) rfl w6_31 rfl)
    (e_each_cons (r_iconst X (n := 0) (v := 0) dX11_takesCalendar_166 (by decide) rfl)
    (e_each_cons (r_iconst X (n := 0) (v := 0) dX11_takesCalendar_167 (by decide) rfl)
    (e_each_cons (r_zast X dX11_takesCalendar_168 rfl)
    (e_each_cons (r_aload_n X (k := 0) (i := 0) rfl dX11_takesCalendar_169 rfl)
    (e_each_cons (r_getP X (index := 20) (ci := 10) (k := 5) dX11_takesCalendar_170 (by decide) (by decide) rfl w6_31 rfl)
    (e_each_cons (r_iconst X (n := 1) (v := 1) dX11_takesCalendar_173 (by decide) rfl)
    (e_each_cons (r_iconst X (n := 0) (v := 0) dX11_takesCalendar_174 (by decide) rfl)
    (e_each_cons (r_zast X dX11_takesCalendar_175 rfl)
    (e_each_cons (r_vret X dX11_takesCalendar_176 rfl)
    (e_each_nil))))))))))))))))))))))))))))))))))))))))))))))))))))))))))))))))))))))))))))))))))))))))))))))))))))))))
theorem dX11_load_0 : decode cX11_load 0 = .ok (.aload_n 0, 1) := by decide +kernel
theorem dX11_load_1 : decode cX11_load 1 = .ok (.iload_n 1, 1) := by decide +kernel
theorem dX11_load_2 : decode cX11_load 2 = .ok (.iconst 0, 1) := by decide +kernel
theorem dX11_load_3 : decode cX11_load 3 = .ok (.aload_n 0, 1) := by decide +kernel
theorem dX11_load_4 : decode cX11_load 4 = .ok (.getfield 110, 3) := by decide +kernel
theorem dX11_load_7 : decode cX11_load 7 = .ok (.invokestatic 75, 3) := by decide +kernel
theorem dX11_load_10 : decode cX11_load 10 = .ok (.ifCond .eq 7, 3) := by decide +kernel
theorem dX11_load_13 : decode cX11_load 13 = .ok (.iconst 0, 1) := by decide +kernel
theorem dX11_load_14 : decode cX11_load 14 = .ok (.goto 4, 3) := by decide +kernel
theorem dX11_load_17 : decode cX11_load 17 = .ok (.iconst 1, 1) := by decide +kernel
theorem dX11_load_18 : decode cX11_load 18 = .ok (.invokevirtual 71, 3) := by decide +kernel
theorem dX11_load_21 : decode cX11_load 21 = .ok (.ifCond .eq 5, 3) := by decide +kernel
theorem dX11_load_24 : decode cX11_load 24 = .ok (.iconst 0, 1) := by decide +kernel
theorem dX11_load_25 : decode cX11_load 25 = .ok (.ireturn, 1) := by decide +kernel
theorem dX11_load_26 : decode cX11_load 26 = .ok (.aload_n 0, 1) := by decide +kernel
theorem dX11_load_27 : decode cX11_load 27 = .ok (.iload_n 1, 1) := by decide +kernel
theorem dX11_load_28 : decode cX11_load 28 = .ok (.putfield 126, 3) := by decide +kernel
theorem dX11_load_31 : decode cX11_load 31 = .ok (.aload_n 0, 1) := by decide +kernel
theorem dX11_load_32 : decode cX11_load 32 = .ok (.iconst 0, 1) := by decide +kernel
theorem dX11_load_33 : decode cX11_load 33 = .ok (.putfield 129, 3) := by decide +kernel
theorem dX11_load_36 : decode cX11_load 36 = .ok (.aload_n 0, 1) := by decide +kernel
theorem dX11_load_37 : decode cX11_load 37 = .ok (.iconst 0, 1) := by decide +kernel
theorem dX11_load_38 : decode cX11_load 38 = .ok (.putfield 110, 3) := by decide +kernel
theorem dX11_load_41 : decode cX11_load 41 = .ok (.aload_n 0, 1) := by decide +kernel
theorem dX11_load_42 : decode cX11_load 42 = .ok (.iconst 0, 1) := by decide +kernel
theorem dX11_load_43 : decode cX11_load 43 = .ok (.putfield 120, 3) := by decide +kernel
theorem dX11_load_46 : decode cX11_load 46 = .ok (.aload_n 0, 1) := by decide +kernel
theorem dX11_load_47 : decode cX11_load 47 = .ok (.iconst (-1), 1) := by decide +kernel
theorem dX11_load_48 : decode cX11_load 48 = .ok (.putfield 30, 3) := by decide +kernel
theorem dX11_load_51 : decode cX11_load 51 = .ok (.aload_n 0, 1) := by decide +kernel
theorem dX11_load_52 : decode cX11_load 52 = .ok (.aload_n 0, 1) := by decide +kernel
theorem dX11_load_53 : decode cX11_load 53 = .ok (.invokevirtual 258, 3) := by decide +kernel
theorem dX11_load_56 : decode cX11_load 56 = .ok (.ifCond .eq 7, 3) := by decide +kernel
theorem dX11_load_59 : decode cX11_load 59 = .ok (.iconst 0, 1) := by decide +kernel
theorem dX11_load_60 : decode cX11_load 60 = .ok (.goto 4, 3) := by decide +kernel
theorem dX11_load_63 : decode cX11_load 63 = .ok (.iconst 2, 1) := by decide +kernel
theorem dX11_load_64 : decode cX11_load 64 = .ok (.invokevirtual 71, 3) := by decide +kernel
theorem dX11_load_67 : decode cX11_load 67 = .ok (.ifCond .eq 5, 3) := by decide +kernel
theorem dX11_load_70 : decode cX11_load 70 = .ok (.iconst 0, 1) := by decide +kernel
theorem dX11_load_71 : decode cX11_load 71 = .ok (.ireturn, 1) := by decide +kernel
theorem dX11_load_72 : decode cX11_load 72 = .ok (.aload_n 0, 1) := by decide +kernel
theorem dX11_load_73 : decode cX11_load 73 = .ok (.invokevirtual 58, 3) := by decide +kernel
theorem dX11_load_76 : decode cX11_load 76 = .ok (.aload_n 0, 1) := by decide +kernel
theorem dX11_load_77 : decode cX11_load 77 = .ok (.getfield 178, 3) := by decide +kernel
theorem dX11_load_80 : decode cX11_load 80 = .ok (.ireturn, 1) := by decide +kernel
def pg_X11_load (l : Launch) (g : EG) : List (Nat × ES) := [(0, s_ldP 0), (1, s_ldI 1), (2, s_c (.inl 0)), (3, s_ldP 0), (4, s_getI 10 10), (7, s_callS l g sg_X11_load sg_X11_in), (10, s_if_eq 17), (13, s_c (.inl 0)), (14, s_goto 18), (17, s_c (.inl 1)), (18, s_callV l g sg_X11_load sg_X11_isRefused 10), (21, s_if_eq 26), (24, s_c (.inl 0)), (25, s_ireti), (26, s_ldP 0), (27, s_ldI 1), (28, s_putI 10 12), (31, s_ldP 0), (32, s_c (.inl 0)), (33, s_putI 10 11), (36, s_ldP 0), (37, s_c (.inl 0)), (38, s_putI 10 10), (41, s_ldP 0), (42, s_c (.inl 0)), (43, s_putI 10 16), (46, s_ldP 0), (47, s_c (.inl (-1))), (48, s_putI 10 17), (51, s_ldP 0), (52, s_ldP 0), (53, s_callV l g sg_X11_load sg_X11_readCalendar 10), (56, s_if_eq 63), (59, s_c (.inl 0)), (60, s_goto 64), (63, s_c (.inl 2)), (64, s_callV l g sg_X11_load sg_X11_isRefused 10), (67, s_if_eq 72), (70, s_c (.inl 0)), (71, s_ireti), (72, s_ldP 0), (73, s_callV l g sg_X11_load sg_X11_takesCalendar 10), (76, s_ldP 0), (77, s_getI 10 20), (80, s_ireti)]
set_option maxRecDepth 100000 in
theorem ok_X11_load {l : Launch} {g : EG} : e_okp l g sg_X11_load "CalendarSyncModel" (pg_X11_load l g) := fun p e R s m args below meth c ex M0 Q X =>
    e_each_cons (r_aload_n X (k := 0) (i := 0) rfl dX11_load_0 rfl)
    (e_each_cons (r_iload_n X (k := 1) (i := 1) rfl dX11_load_1 rfl)
    (e_each_cons (r_iconst X (n := 0) (v := 0) dX11_load_2 (by decide) rfl)
    (e_each_cons (r_aload_n X (k := 0) (i := 0) rfl dX11_load_3 rfl)
    (e_each_cons (r_getI X (index := 110) (ci := 10) (k := 10) dX11_load_4 (by decide) (by decide) rfl w6_36 rfl)
    (e_each_cons (r_callS X rfl (τ := sg_X11_in) (index := 75) dX11_load_7 w6_127 w6_128 cs_X11_in rfl ⟨by decide, by decide⟩ rfl)
    (e_each_cons (r_if_eq X (off := 7) (t := 17) dX11_load_10 (by decide) rfl)
    (e_each_cons (r_iconst X (n := 0) (v := 0) dX11_load_13 (by decide) rfl)
    (e_each_cons (r_goto X (off := 4) (t := 18) dX11_load_14 (by decide))
    (e_each_cons (r_iconst X (n := 1) (v := 1) dX11_load_17 (by decide) rfl)
    (e_each_cons (r_callV X rfl (τ := sg_X11_isRefused) (index := 71) (ci := 10) dX11_load_18 (by decide) rfl w6_119 w6_121 ws_31 cs_X11_isRefused rfl ⟨by decide, by decide⟩ rfl)
    (e_each_cons (r_if_eq X (off := 5) (t := 26) dX11_load_21 (by decide) rfl)
    (e_each_cons (r_iconst X (n := 0) (v := 0) dX11_load_24 (by decide) rfl)
    (e_each_cons (r_ireti X dX11_load_25 rfl)
    (e_each_cons (r_aload_n X (k := 0) (i := 0) rfl dX11_load_26 rfl)
    (e_each_cons (r_iload_n X (k := 1) (i := 1) rfl dX11_load_27 rfl)
    (e_each_cons (r_putI X (index := 126) (ci := 10) (k := 12) dX11_load_28 (by decide) (by decide) rfl rfl w6_38 rfl)
    (e_each_cons (r_aload_n X (k := 0) (i := 0) rfl dX11_load_31 rfl)
    (e_each_cons (r_iconst X (n := 0) (v := 0) dX11_load_32 (by decide) rfl)
    (e_each_cons (r_putI X (index := 129) (ci := 10) (k := 11) dX11_load_33 (by decide) (by decide) rfl rfl w6_37 rfl)
    (e_each_cons (r_aload_n X (k := 0) (i := 0) rfl dX11_load_36 rfl)
    (e_each_cons (r_iconst X (n := 0) (v := 0) dX11_load_37 (by decide) rfl)
    (e_each_cons (r_putI X (index := 110) (ci := 10) (k := 10) dX11_load_38 (by decide) (by decide) rfl rfl w6_36 rfl)
    (e_each_cons (r_aload_n X (k := 0) (i := 0) rfl dX11_load_41 rfl)
    (e_each_cons (r_iconst X (n := 0) (v := 0) dX11_load_42 (by decide) rfl)
    (e_each_cons (r_putI X (index := 120) (ci := 10) (k := 16) dX11_load_43 (by decide) (by decide) rfl rfl w6_42 rfl)
    (e_each_cons (r_aload_n X (k := 0) (i := 0) rfl dX11_load_46 rfl)
    (e_each_cons (r_iconst X (n := (-1)) (v := (-1)) dX11_load_47 (by decide) rfl)
    (e_each_cons (r_putI X (index := 30) (ci := 10) (k := 17) dX11_load_48 (by decide) (by decide) rfl rfl w6_43 rfl)
    (e_each_cons (r_aload_n X (k := 0) (i := 0) rfl dX11_load_51 rfl)
    (e_each_cons (r_aload_n X (k := 0) (i := 0) rfl dX11_load_52 rfl)
    (e_each_cons (r_callV X rfl (τ := sg_X11_readCalendar) (index := 258) (ci := 10) dX11_load_53 (by decide) rfl w6_181 w6_183 ws_35 cs_X11_readCalendar rfl ⟨by decide, by decide⟩ rfl)
    (e_each_cons (r_if_eq X (off := 7) (t := 63) dX11_load_56 (by decide) rfl)
    (e_each_cons (r_iconst X (n := 0) (v := 0) dX11_load_59 (by decide) rfl)
    (e_each_cons (r_goto X (off := 4) (t := 64) dX11_load_60 (by decide))
    (e_each_cons (r_iconst X (n := 2) (v := 2) dX11_load_63 (by decide) rfl)
    (e_each_cons (r_callV X rfl (τ := sg_X11_isRefused) (index := 71) (ci := 10) dX11_load_64 (by decide) rfl w6_119 w6_121 ws_31 cs_X11_isRefused rfl ⟨by decide, by decide⟩ rfl)
    (e_each_cons (r_if_eq X (off := 5) (t := 72) dX11_load_67 (by decide) rfl)
    (e_each_cons (r_iconst X (n := 0) (v := 0) dX11_load_70 (by decide) rfl)
    (e_each_cons (r_ireti X dX11_load_71 rfl)
    (e_each_cons (r_aload_n X (k := 0) (i := 0) rfl dX11_load_72 rfl)
    (e_each_cons (r_callV X rfl (τ := sg_X11_takesCalendar) (index := 58) (ci := 10) dX11_load_73 (by decide) rfl w6_22 w6_24 ws_30 cs_X11_takesCalendar rfl ⟨by decide, by decide⟩ rfl)
    (e_each_cons (r_aload_n X (k := 0) (i := 0) rfl dX11_load_76 rfl)
    (e_each_cons (r_getI X (index := 178) (ci := 10) (k := 20) dX11_load_77 (by decide) (by decide) rfl w6_46 rfl)
    (e_each_cons (r_ireti X dX11_load_80 rfl)
    (e_each_nil)))))))))))))))))))))))))))))))))))))))))))))
theorem dX11_isPlace_0 : decode cX11_isPlace 0 = .ok (.iload_n 0, 1) := by decide +kernel
theorem dX11_isPlace_1 : decode cX11_isPlace 1 = .ok (.iconst 0, 1) := by decide +kernel
theorem dX11_isPlace_2 : decode cX11_isPlace 2 = .ok (.iconst 2, 1) := by decide +kernel
theorem dX11_isPlace_3 : decode cX11_isPlace 3 = .ok (.invokestatic 75, 3) := by decide +kernel
theorem dX11_isPlace_6 : decode cX11_isPlace 6 = .ok (.ireturn, 1) := by decide +kernel
def pg_X11_isPlace (l : Launch) (g : EG) : List (Nat × ES) := [(0, s_ldI 0), (1, s_c (.inl 0)), (2, s_c (.inl 2)), (3, s_callS l g sg_X11_isPlace sg_X11_in), (6, s_iretz)]
set_option maxRecDepth 100000 in
theorem ok_X11_isPlace {l : Launch} {g : EG} : e_okp l g sg_X11_isPlace "CalendarSyncModel" (pg_X11_isPlace l g) := fun p e R s m args below meth c ex M0 Q X =>
    e_each_cons (r_iload_n X (k := 0) (i := 0) rfl dX11_isPlace_0 rfl)
    (e_each_cons (r_iconst X (n := 0) (v := 0) dX11_isPlace_1 (by decide) rfl)
    (e_each_cons (r_iconst X (n := 2) (v := 2) dX11_isPlace_2 (by decide) rfl)
    (e_each_cons (r_callS X rfl (τ := sg_X11_in) (index := 75) dX11_isPlace_3 w6_127 w6_128 cs_X11_in rfl ⟨by decide, by decide⟩ rfl)
    (e_each_cons (r_iretz X dX11_isPlace_6 rfl)
    (e_each_nil)))))
theorem dX11_isSide_0 : decode cX11_isSide 0 = .ok (.iload_n 0, 1) := by decide +kernel
theorem dX11_isSide_1 : decode cX11_isSide 1 = .ok (.iconst 0, 1) := by decide +kernel
theorem dX11_isSide_2 : decode cX11_isSide 2 = .ok (.iconst 1, 1) := by decide +kernel
theorem dX11_isSide_3 : decode cX11_isSide 3 = .ok (.invokestatic 75, 3) := by decide +kernel
theorem dX11_isSide_6 : decode cX11_isSide 6 = .ok (.ireturn, 1) := by decide +kernel
def pg_X11_isSide (l : Launch) (g : EG) : List (Nat × ES) := [(0, s_ldI 0), (1, s_c (.inl 0)), (2, s_c (.inl 1)), (3, s_callS l g sg_X11_isSide sg_X11_in), (6, s_iretz)]
set_option maxRecDepth 100000 in
theorem ok_X11_isSide {l : Launch} {g : EG} : e_okp l g sg_X11_isSide "CalendarSyncModel" (pg_X11_isSide l g) := fun p e R s m args below meth c ex M0 Q X =>
    e_each_cons (r_iload_n X (k := 0) (i := 0) rfl dX11_isSide_0 rfl)
    (e_each_cons (r_iconst X (n := 0) (v := 0) dX11_isSide_1 (by decide) rfl)
    (e_each_cons (r_iconst X (n := 1) (v := 1) dX11_isSide_2 (by decide) rfl)
    (e_each_cons (r_callS X rfl (τ := sg_X11_in) (index := 75) dX11_isSide_3 w6_127 w6_128 cs_X11_in rfl ⟨by decide, by decide⟩ rfl)
    (e_each_cons (r_iretz X dX11_isSide_6 rfl)
    (e_each_nil)))))
theorem dX11_isZone_0 : decode cX11_isZone 0 = .ok (.iload_n 1, 1) := by decide +kernel
theorem dX11_isZone_1 : decode cX11_isZone 1 = .ok (.iconst 0, 1) := by decide +kernel
theorem dX11_isZone_2 : decode cX11_isZone 2 = .ok (.aload_n 0, 1) := by decide +kernel
theorem dX11_isZone_3 : decode cX11_isZone 3 = .ok (.getfield 255, 3) := by decide +kernel
theorem dX11_isZone_6 : decode cX11_isZone 6 = .ok (.iconst 1, 1) := by decide +kernel
theorem dX11_isZone_7 : decode cX11_isZone 7 = .ok (.isub, 1) := by decide +kernel
theorem dX11_isZone_8 : decode cX11_isZone 8 = .ok (.invokestatic 75, 3) := by decide +kernel
theorem dX11_isZone_11 : decode cX11_isZone 11 = .ok (.ireturn, 1) := by decide +kernel
def pg_X11_isZone (l : Launch) (g : EG) : List (Nat × ES) := [(0, s_ldI 1), (1, s_c (.inl 0)), (2, s_ldP 0), (3, s_getI 10 1), (6, s_c (.inl 1)), (7, s_ii (fun x y => x - y)), (8, s_callS l g sg_X11_isZone sg_X11_in), (11, s_iretz)]
set_option maxRecDepth 100000 in
theorem ok_X11_isZone {l : Launch} {g : EG} : e_okp l g sg_X11_isZone "CalendarSyncModel" (pg_X11_isZone l g) := fun p e R s m args below meth c ex M0 Q X =>
    e_each_cons (r_iload_n X (k := 1) (i := 1) rfl dX11_isZone_0 rfl)
    (e_each_cons (r_iconst X (n := 0) (v := 0) dX11_isZone_1 (by decide) rfl)
    (e_each_cons (r_aload_n X (k := 0) (i := 0) rfl dX11_isZone_2 rfl)
    (e_each_cons (r_getI X (index := 255) (ci := 10) (k := 1) dX11_isZone_3 (by decide) (by decide) rfl w6_27 rfl)
    (e_each_cons (r_iconst X (n := 1) (v := 1) dX11_isZone_6 (by decide) rfl)
    (e_each_cons (r_isub X dX11_isZone_7 rfl)
    (e_each_cons (r_callS X rfl (τ := sg_X11_in) (index := 75) dX11_isZone_8 w6_127 w6_128 cs_X11_in rfl ⟨by decide, by decide⟩ rfl)
    (e_each_cons (r_iretz X dX11_isZone_11 rfl)
    (e_each_nil))))))))
theorem dX11_momentOf_0 : decode cX11_momentOf 0 = .ok (.iload_n 1, 1) := by decide +kernel
theorem dX11_momentOf_1 : decode cX11_momentOf 1 = .ok (.iload_n 2, 1) := by decide +kernel
theorem dX11_momentOf_2 : decode cX11_momentOf 2 = .ok (.invokestatic 261, 3) := by decide +kernel
theorem dX11_momentOf_5 : decode cX11_momentOf 5 = .ok (.istore 5, 2) := by decide +kernel
theorem dX11_momentOf_7 : decode cX11_momentOf 7 = .ok (.aload_n 0, 1) := by decide +kernel
theorem dX11_momentOf_8 : decode cX11_momentOf 8 = .ok (.getfield 7, 3) := by decide +kernel
theorem dX11_momentOf_11 : decode cX11_momentOf 11 = .ok (.iload 5, 2) := by decide +kernel
theorem dX11_momentOf_13 : decode cX11_momentOf 13 = .ok (.iconst 1, 1) := by decide +kernel
theorem dX11_momentOf_14 : decode cX11_momentOf 14 = .ok (.iadd, 1) := by decide +kernel
theorem dX11_momentOf_15 : decode cX11_momentOf 15 = .ok (.iaload, 1) := by decide +kernel
theorem dX11_momentOf_16 : decode cX11_momentOf 16 = .ok (.iconst (-1), 1) := by decide +kernel
theorem dX11_momentOf_17 : decode cX11_momentOf 17 = .ok (.if_icmp .eq 36, 3) := by decide +kernel
theorem dX11_momentOf_20 : decode cX11_momentOf 20 = .ok (.iload_n 3, 1) := by decide +kernel
theorem dX11_momentOf_21 : decode cX11_momentOf 21 = .ok (.sipush 365, 3) := by decide +kernel
theorem dX11_momentOf_24 : decode cX11_momentOf 24 = .ok (.irem, 1) := by decide +kernel
theorem dX11_momentOf_25 : decode cX11_momentOf 25 = .ok (.aload_n 0, 1) := by decide +kernel
theorem dX11_momentOf_26 : decode cX11_momentOf 26 = .ok (.getfield 7, 3) := by decide +kernel
theorem dX11_momentOf_29 : decode cX11_momentOf 29 = .ok (.iload 5, 2) := by decide +kernel
theorem dX11_momentOf_31 : decode cX11_momentOf 31 = .ok (.iconst 1, 1) := by decide +kernel
theorem dX11_momentOf_32 : decode cX11_momentOf 32 = .ok (.iadd, 1) := by decide +kernel
theorem dX11_momentOf_33 : decode cX11_momentOf 33 = .ok (.iaload, 1) := by decide +kernel
theorem dX11_momentOf_34 : decode cX11_momentOf 34 = .ok (.aload_n 0, 1) := by decide +kernel
theorem dX11_momentOf_35 : decode cX11_momentOf 35 = .ok (.getfield 7, 3) := by decide +kernel
theorem dX11_momentOf_38 : decode cX11_momentOf 38 = .ok (.iload 5, 2) := by decide +kernel
theorem dX11_momentOf_40 : decode cX11_momentOf 40 = .ok (.iconst 2, 1) := by decide +kernel
theorem dX11_momentOf_41 : decode cX11_momentOf 41 = .ok (.iadd, 1) := by decide +kernel
theorem dX11_momentOf_42 : decode cX11_momentOf 42 = .ok (.iaload, 1) := by decide +kernel
theorem dX11_momentOf_43 : decode cX11_momentOf 43 = .ok (.invokestatic 75, 3) := by decide +kernel
theorem dX11_momentOf_46 : decode cX11_momentOf 46 = .ok (.ifCond .eq 7, 3) := by decide +kernel
theorem dX11_momentOf_49 : decode cX11_momentOf 49 = .ok (.iconst 1, 1) := by decide +kernel
theorem dX11_momentOf_50 : decode cX11_momentOf 50 = .ok (.goto 4, 3) := by decide +kernel
theorem dX11_momentOf_53 : decode cX11_momentOf 53 = .ok (.iconst 0, 1) := by decide +kernel
theorem dX11_momentOf_54 : decode cX11_momentOf 54 = .ok (.istore 6, 2) := by decide +kernel
theorem dX11_momentOf_56 : decode cX11_momentOf 56 = .ok (.iload_n 3, 1) := by decide +kernel
theorem dX11_momentOf_57 : decode cX11_momentOf 57 = .ok (.sipush 1440, 3) := by decide +kernel
theorem dX11_momentOf_60 : decode cX11_momentOf 60 = .ok (.imul, 1) := by decide +kernel
theorem dX11_momentOf_61 : decode cX11_momentOf 61 = .ok (.iload 4, 2) := by decide +kernel
theorem dX11_momentOf_63 : decode cX11_momentOf 63 = .ok (.iadd, 1) := by decide +kernel
theorem dX11_momentOf_64 : decode cX11_momentOf 64 = .ok (.aload_n 0, 1) := by decide +kernel
theorem dX11_momentOf_65 : decode cX11_momentOf 65 = .ok (.getfield 7, 3) := by decide +kernel
theorem dX11_momentOf_68 : decode cX11_momentOf 68 = .ok (.iload 5, 2) := by decide +kernel
theorem dX11_momentOf_70 : decode cX11_momentOf 70 = .ok (.iconst 0, 1) := by decide +kernel
theorem dX11_momentOf_71 : decode cX11_momentOf 71 = .ok (.iadd, 1) := by decide +kernel
theorem dX11_momentOf_72 : decode cX11_momentOf 72 = .ok (.iaload, 1) := by decide +kernel
theorem dX11_momentOf_73 : decode cX11_momentOf 73 = .ok (.isub, 1) := by decide +kernel
theorem dX11_momentOf_74 : decode cX11_momentOf 74 = .ok (.iload 6, 2) := by decide +kernel
theorem dX11_momentOf_76 : decode cX11_momentOf 76 = .ok (.ifCond .eq 8, 3) := by decide +kernel
theorem dX11_momentOf_79 : decode cX11_momentOf 79 = .ok (.bipush 60, 2) := by decide +kernel
theorem dX11_momentOf_81 : decode cX11_momentOf 81 = .ok (.goto 4, 3) := by decide +kernel
theorem dX11_momentOf_84 : decode cX11_momentOf 84 = .ok (.iconst 0, 1) := by decide +kernel
theorem dX11_momentOf_85 : decode cX11_momentOf 85 = .ok (.isub, 1) := by decide +kernel
theorem dX11_momentOf_86 : decode cX11_momentOf 86 = .ok (.ireturn, 1) := by decide +kernel
def pg_X11_momentOf (l : Launch) (g : EG) : List (Nat × ES) := [(0, s_ldI 1), (1, s_ldI 2), (2, s_callS l g sg_X11_momentOf sg_X11_zoneAt), (5, s_stI 5), (7, s_ldP 0), (8, s_getP 10 2), (11, s_ldI 5), (13, s_c (.inl 1)), (14, s_ii (fun x y => x + y)), (15, s_iald), (16, s_c (.inl (-1))), (17, s_icmp_eq 53), (20, s_ldI 3), (21, s_c (.inl 365)), (24, s_iid (fun x y => x - x / y * y) (fun _ y => ¬ y = 0)), (25, s_ldP 0), (26, s_getP 10 2), (29, s_ldI 5), (31, s_c (.inl 1)), (32, s_ii (fun x y => x + y)), (33, s_iald), (34, s_ldP 0), (35, s_getP 10 2), (38, s_ldI 5), (40, s_c (.inl 2)), (41, s_ii (fun x y => x + y)), (42, s_iald), (43, s_callS l g sg_X11_momentOf sg_X11_in), (46, s_if_eq 53), (49, s_c (.inl 1)), (50, s_goto 54), (53, s_c (.inl 0)), (54, s_stI 6), (56, s_ldI 3), (57, s_c (.inl 1440)), (60, s_ii (fun x y => x * y)), (61, s_ldI 4), (63, s_ii (fun x y => x + y)), (64, s_ldP 0), (65, s_getP 10 2), (68, s_ldI 5), (70, s_c (.inl 0)), (71, s_ii (fun x y => x + y)), (72, s_iald), (73, s_ii (fun x y => x - y)), (74, s_ldI 6), (76, s_if_eq 84), (79, s_c (.inl 60)), (81, s_goto 85), (84, s_c (.inl 0)), (85, s_ii (fun x y => x - y)), (86, s_ireti)]
set_option maxRecDepth 100000 in
theorem ok_X11_momentOf {l : Launch} {g : EG} : e_okp l g sg_X11_momentOf "CalendarSyncModel" (pg_X11_momentOf l g) := fun p e R s m args below meth c ex M0 Q X =>
    e_each_cons (r_iload_n X (k := 1) (i := 1) rfl dX11_momentOf_0 rfl)
    (e_each_cons (r_iload_n X (k := 2) (i := 2) rfl dX11_momentOf_1 rfl)
    (e_each_cons (r_callS X rfl (τ := sg_X11_zoneAt) (index := 261) dX11_momentOf_2 w7_75 w7_76 cs_X11_zoneAt rfl ⟨by decide, by decide⟩ rfl)
    (e_each_cons (r_istore X (i := 5) dX11_momentOf_5 (by decide) rfl)
    (e_each_cons (r_aload_n X (k := 0) (i := 0) rfl dX11_momentOf_7 rfl)
    (e_each_cons (r_getP X (index := 7) (ci := 10) (k := 2) dX11_momentOf_8 (by decide) (by decide) rfl w6_28 rfl)
    (e_each_cons (r_iload X (i := 5) dX11_momentOf_11 rfl)
    (e_each_cons (r_iconst X (n := 1) (v := 1) dX11_momentOf_13 (by decide) rfl)
    (e_each_cons (r_iadd X dX11_momentOf_14 rfl)
    (e_each_cons (r_iald X dX11_momentOf_15 rfl)
    (e_each_cons (r_iconst X (n := (-1)) (v := (-1)) dX11_momentOf_16 (by decide) rfl)
    (e_each_cons (r_icmp_eq X (off := 36) (t := 53) dX11_momentOf_17 (by decide) rfl)
    (e_each_cons (r_iload_n X (k := 3) (i := 3) rfl dX11_momentOf_20 rfl)
    (e_each_cons (r_sipush X (n := 365) (v := 365) dX11_momentOf_21 (by decide) rfl)
    (e_each_cons (r_irem X dX11_momentOf_24 rfl)
    (e_each_cons (r_aload_n X (k := 0) (i := 0) rfl dX11_momentOf_25 rfl)
    (e_each_cons (r_getP X (index := 7) (ci := 10) (k := 2) dX11_momentOf_26 (by decide) (by decide) rfl w6_28 rfl)
    (e_each_cons (r_iload X (i := 5) dX11_momentOf_29 rfl)
    (e_each_cons (r_iconst X (n := 1) (v := 1) dX11_momentOf_31 (by decide) rfl)
    (e_each_cons (r_iadd X dX11_momentOf_32 rfl)
    (e_each_cons (r_iald X dX11_momentOf_33 rfl)
    (e_each_cons (r_aload_n X (k := 0) (i := 0) rfl dX11_momentOf_34 rfl)
    (e_each_cons (r_getP X (index := 7) (ci := 10) (k := 2) dX11_momentOf_35 (by decide) (by decide) rfl w6_28 rfl)
    (e_each_cons (r_iload X (i := 5) dX11_momentOf_38 rfl)
    (e_each_cons (r_iconst X (n := 2) (v := 2) dX11_momentOf_40 (by decide) rfl)
    (e_each_cons (r_iadd X dX11_momentOf_41 rfl)
    (e_each_cons (r_iald X dX11_momentOf_42 rfl)
    (e_each_cons (r_callS X rfl (τ := sg_X11_in) (index := 75) dX11_momentOf_43 w6_127 w6_128 cs_X11_in rfl ⟨by decide, by decide⟩ rfl)
    (e_each_cons (r_if_eq X (off := 7) (t := 53) dX11_momentOf_46 (by decide) rfl)
    (e_each_cons (r_iconst X (n := 1) (v := 1) dX11_momentOf_49 (by decide) rfl)
    (e_each_cons (r_goto X (off := 4) (t := 54) dX11_momentOf_50 (by decide))
    (e_each_cons (r_iconst X (n := 0) (v := 0) dX11_momentOf_53 (by decide) rfl)
    (e_each_cons (r_istore X (i := 6) dX11_momentOf_54 (by decide) rfl)
    (e_each_cons (r_iload_n X (k := 3) (i := 3) rfl dX11_momentOf_56 rfl)
    (e_each_cons (r_sipush X (n := 1440) (v := 1440) dX11_momentOf_57 (by decide) rfl)
    (e_each_cons (r_imul X dX11_momentOf_60 rfl)
    (e_each_cons (r_iload X (i := 4) dX11_momentOf_61 rfl)
    (e_each_cons (r_iadd X dX11_momentOf_63 rfl)
    (e_each_cons (r_aload_n X (k := 0) (i := 0) rfl dX11_momentOf_64 rfl)
    (e_each_cons (r_getP X (index := 7) (ci := 10) (k := 2) dX11_momentOf_65 (by decide) (by decide) rfl w6_28 rfl)
    (e_each_cons (r_iload X (i := 5) dX11_momentOf_68 rfl)
    (e_each_cons (r_iconst X (n := 0) (v := 0) dX11_momentOf_70 (by decide) rfl)
    (e_each_cons (r_iadd X dX11_momentOf_71 rfl)
    (e_each_cons (r_iald X dX11_momentOf_72 rfl)
    (e_each_cons (r_isub X dX11_momentOf_73 rfl)
    (e_each_cons (r_iload X (i := 6) dX11_momentOf_74 rfl)
    (e_each_cons (r_if_eq X (off := 8) (t := 84) dX11_momentOf_76 (by decide) rfl)
    (e_each_cons (r_bipush X (n := 60) (v := 60) dX11_momentOf_79 (by decide) rfl)
    (e_each_cons (r_goto X (off := 4) (t := 85) dX11_momentOf_81 (by decide))
    (e_each_cons (r_iconst X (n := 0) (v := 0) dX11_momentOf_84 (by decide) rfl)
    (e_each_cons (r_isub X dX11_momentOf_85 rfl)
    (e_each_cons (r_ireti X dX11_momentOf_86 rfl)
    (e_each_nil))))))))))))))))))))))))))))))))))))))))))))))))))))
theorem dX11_zone_0 : decode cX11_zone 0 = .ok (.aload_n 0, 1) := by decide +kernel
theorem dX11_zone_1 : decode cX11_zone 1 = .ok (.iload_n 1, 1) := by decide +kernel
theorem dX11_zone_2 : decode cX11_zone 2 = .ok (.invokestatic 265, 3) := by decide +kernel
theorem dX11_zone_5 : decode cX11_zone 5 = .ok (.ifCond .ne 7, 3) := by decide +kernel
theorem dX11_zone_8 : decode cX11_zone 8 = .ok (.iconst 1, 1) := by decide +kernel
theorem dX11_zone_9 : decode cX11_zone 9 = .ok (.goto 29, 3) := by decide +kernel
theorem dX11_zone_12 : decode cX11_zone 12 = .ok (.aload_n 0, 1) := by decide +kernel
theorem dX11_zone_13 : decode cX11_zone 13 = .ok (.iload_n 2, 1) := by decide +kernel
theorem dX11_zone_14 : decode cX11_zone 14 = .ok (.invokevirtual 268, 3) := by decide +kernel
theorem dX11_zone_17 : decode cX11_zone 17 = .ok (.ifCond .ne 7, 3) := by decide +kernel
theorem dX11_zone_20 : decode cX11_zone 20 = .ok (.iconst 2, 1) := by decide +kernel
theorem dX11_zone_21 : decode cX11_zone 21 = .ok (.goto 17, 3) := by decide +kernel
theorem dX11_zone_24 : decode cX11_zone 24 = .ok (.iload_n 3, 1) := by decide +kernel
theorem dX11_zone_25 : decode cX11_zone 25 = .ok (.iconst 0, 1) := by decide +kernel
theorem dX11_zone_26 : decode cX11_zone 26 = .ok (.iconst 3, 1) := by decide +kernel
theorem dX11_zone_27 : decode cX11_zone 27 = .ok (.invokestatic 75, 3) := by decide +kernel
theorem dX11_zone_30 : decode cX11_zone 30 = .ok (.ifCond .eq 7, 3) := by decide +kernel
theorem dX11_zone_33 : decode cX11_zone 33 = .ok (.iconst 0, 1) := by decide +kernel
theorem dX11_zone_34 : decode cX11_zone 34 = .ok (.goto 4, 3) := by decide +kernel
theorem dX11_zone_37 : decode cX11_zone 37 = .ok (.iconst 3, 1) := by decide +kernel
theorem dX11_zone_38 : decode cX11_zone 38 = .ok (.invokevirtual 71, 3) := by decide +kernel
theorem dX11_zone_41 : decode cX11_zone 41 = .ok (.ifCond .eq 5, 3) := by decide +kernel
theorem dX11_zone_44 : decode cX11_zone 44 = .ok (.iconst 0, 1) := by decide +kernel
theorem dX11_zone_45 : decode cX11_zone 45 = .ok (.ireturn, 1) := by decide +kernel
theorem dX11_zone_46 : decode cX11_zone 46 = .ok (.aload_n 0, 1) := by decide +kernel
theorem dX11_zone_47 : decode cX11_zone 47 = .ok (.getfield 7, 3) := by decide +kernel
theorem dX11_zone_50 : decode cX11_zone 50 = .ok (.iload_n 1, 1) := by decide +kernel
theorem dX11_zone_51 : decode cX11_zone 51 = .ok (.iload_n 2, 1) := by decide +kernel
theorem dX11_zone_52 : decode cX11_zone 52 = .ok (.invokestatic 261, 3) := by decide +kernel
theorem dX11_zone_55 : decode cX11_zone 55 = .ok (.iload_n 3, 1) := by decide +kernel
theorem dX11_zone_56 : decode cX11_zone 56 = .ok (.iadd, 1) := by decide +kernel
theorem dX11_zone_57 : decode cX11_zone 57 = .ok (.iaload, 1) := by decide +kernel
theorem dX11_zone_58 : decode cX11_zone 58 = .ok (.ireturn, 1) := by decide +kernel
def pg_X11_zone (l : Launch) (g : EG) : List (Nat × ES) := [(0, s_ldP 0), (1, s_ldI 1), (2, s_callS l g sg_X11_zone sg_X11_isPlace), (5, s_if_ne 12), (8, s_c (.inl 1)), (9, s_goto 38), (12, s_ldP 0), (13, s_ldI 2), (14, s_callV l g sg_X11_zone sg_X11_isZone 10), (17, s_if_ne 24), (20, s_c (.inl 2)), (21, s_goto 38), (24, s_ldI 3), (25, s_c (.inl 0)), (26, s_c (.inl 3)), (27, s_callS l g sg_X11_zone sg_X11_in), (30, s_if_eq 37), (33, s_c (.inl 0)), (34, s_goto 38), (37, s_c (.inl 3)), (38, s_callV l g sg_X11_zone sg_X11_isRefused 10), (41, s_if_eq 46), (44, s_c (.inl 0)), (45, s_ireti), (46, s_ldP 0), (47, s_getP 10 2), (50, s_ldI 1), (51, s_ldI 2), (52, s_callS l g sg_X11_zone sg_X11_zoneAt), (55, s_ldI 3), (56, s_ii (fun x y => x + y)), (57, s_iald), (58, s_ireti)]
set_option maxRecDepth 100000 in
theorem ok_X11_zone {l : Launch} {g : EG} : e_okp l g sg_X11_zone "CalendarSyncModel" (pg_X11_zone l g) := fun p e R s m args below meth c ex M0 Q X =>
    e_each_cons (r_aload_n X (k := 0) (i := 0) rfl dX11_zone_0 rfl)
    (e_each_cons (r_iload_n X (k := 1) (i := 1) rfl dX11_zone_1 rfl)
    (e_each_cons (r_callS X rfl (τ := sg_X11_isPlace) (index := 265) dX11_zone_2 w7_68 w7_69 cs_X11_isPlace rfl ⟨by decide, by decide⟩ rfl)
    (e_each_cons (r_if_ne X (off := 7) (t := 12) dX11_zone_5 (by decide) rfl)
    (e_each_cons (r_iconst X (n := 1) (v := 1) dX11_zone_8 (by decide) rfl)
    (e_each_cons (r_goto X (off := 29) (t := 38) dX11_zone_9 (by decide))
    (e_each_cons (r_aload_n X (k := 0) (i := 0) rfl dX11_zone_12 rfl)
    (e_each_cons (r_iload_n X (k := 2) (i := 2) rfl dX11_zone_13 rfl)
    (e_each_cons (r_callV X rfl (τ := sg_X11_isZone) (index := 268) (ci := 10) dX11_zone_14 (by decide) rfl w7_71 w7_73 ws_58 cs_X11_isZone rfl ⟨by decide, by decide⟩ rfl)
    (e_each_cons (r_if_ne X (off := 7) (t := 24) dX11_zone_17 (by decide) rfl)
    (e_each_cons (r_iconst X (n := 2) (v := 2) dX11_zone_20 (by decide) rfl)
    (e_each_cons (r_goto X (off := 17) (t := 38) dX11_zone_21 (by decide))
    (e_each_cons (r_iload_n X (k := 3) (i := 3) rfl dX11_zone_24 rfl)
    (e_each_cons (r_iconst X (n := 0) (v := 0) dX11_zone_25 (by decide) rfl)
    (e_each_cons (r_iconst X (n := 3) (v := 3) dX11_zone_26 (by decide) rfl)
    (e_each_cons (r_callS X rfl (τ := sg_X11_in) (index := 75) dX11_zone_27 w6_127 w6_128 cs_X11_in rfl ⟨by decide, by decide⟩ rfl)
    (e_each_cons (r_if_eq X (off := 7) (t := 37) dX11_zone_30 (by decide) rfl)
    (e_each_cons (r_iconst X (n := 0) (v := 0) dX11_zone_33 (by decide) rfl)
    (e_each_cons (r_goto X (off := 4) (t := 38) dX11_zone_34 (by decide))
    (e_each_cons (r_iconst X (n := 3) (v := 3) dX11_zone_37 (by decide) rfl)
    (e_each_cons (r_callV X rfl (τ := sg_X11_isRefused) (index := 71) (ci := 10) dX11_zone_38 (by decide) rfl w6_119 w6_121 ws_31 cs_X11_isRefused rfl ⟨by decide, by decide⟩ rfl)
    (e_each_cons (r_if_eq X (off := 5) (t := 46) dX11_zone_41 (by decide) rfl)
    (e_each_cons (r_iconst X (n := 0) (v := 0) dX11_zone_44 (by decide) rfl)
    (e_each_cons (r_ireti X dX11_zone_45 rfl)
    (e_each_cons (r_aload_n X (k := 0) (i := 0) rfl dX11_zone_46 rfl)
    (e_each_cons (r_getP X (index := 7) (ci := 10) (k := 2) dX11_zone_47 (by decide) (by decide) rfl w6_28 rfl)
    (e_each_cons (r_iload_n X (k := 1) (i := 1) rfl dX11_zone_50 rfl)
    (e_each_cons (r_iload_n X (k := 2) (i := 2) rfl dX11_zone_51 rfl)
    (e_each_cons (r_callS X rfl (τ := sg_X11_zoneAt) (index := 261) dX11_zone_52 w7_75 w7_76 cs_X11_zoneAt rfl ⟨by decide, by decide⟩ rfl)
    (e_each_cons (r_iload_n X (k := 3) (i := 3) rfl dX11_zone_55 rfl)
    (e_each_cons (r_iadd X dX11_zone_56 rfl)
    (e_each_cons (r_iald X dX11_zone_57 rfl)
    (e_each_cons (r_ireti X dX11_zone_58 rfl)
    (e_each_nil)))))))))))))))))))))))))))))))))
theorem dX11_moment_0 : decode cX11_moment 0 = .ok (.iload_n 1, 1) := by decide +kernel
theorem dX11_moment_1 : decode cX11_moment 1 = .ok (.invokestatic 265, 3) := by decide +kernel
theorem dX11_moment_4 : decode cX11_moment 4 = .ok (.ifCond .eq 22, 3) := by decide +kernel
theorem dX11_moment_7 : decode cX11_moment 7 = .ok (.iload_n 3, 1) := by decide +kernel
theorem dX11_moment_8 : decode cX11_moment 8 = .ok (.invokestatic 89, 3) := by decide +kernel
theorem dX11_moment_11 : decode cX11_moment 11 = .ok (.ifCond .eq 15, 3) := by decide +kernel
theorem dX11_moment_14 : decode cX11_moment 14 = .ok (.iload 4, 2) := by decide +kernel
theorem dX11_moment_16 : decode cX11_moment 16 = .ok (.invokestatic 271, 3) := by decide +kernel
theorem dX11_moment_19 : decode cX11_moment 19 = .ok (.ifCond .eq 7, 3) := by decide +kernel
theorem dX11_moment_22 : decode cX11_moment 22 = .ok (.iconst 1, 1) := by decide +kernel
theorem dX11_moment_23 : decode cX11_moment 23 = .ok (.goto 4, 3) := by decide +kernel
theorem dX11_moment_26 : decode cX11_moment 26 = .ok (.iconst 0, 1) := by decide +kernel
theorem dX11_moment_27 : decode cX11_moment 27 = .ok (.istore 5, 2) := by decide +kernel
theorem dX11_moment_29 : decode cX11_moment 29 = .ok (.aload_n 0, 1) := by decide +kernel
theorem dX11_moment_30 : decode cX11_moment 30 = .ok (.iload 5, 2) := by decide +kernel
theorem dX11_moment_32 : decode cX11_moment 32 = .ok (.ifCond .ne 7, 3) := by decide +kernel
theorem dX11_moment_35 : decode cX11_moment 35 = .ok (.iconst 1, 1) := by decide +kernel
theorem dX11_moment_36 : decode cX11_moment 36 = .ok (.goto 16, 3) := by decide +kernel
theorem dX11_moment_39 : decode cX11_moment 39 = .ok (.aload_n 0, 1) := by decide +kernel
theorem dX11_moment_40 : decode cX11_moment 40 = .ok (.iload_n 2, 1) := by decide +kernel
theorem dX11_moment_41 : decode cX11_moment 41 = .ok (.invokevirtual 268, 3) := by decide +kernel
theorem dX11_moment_44 : decode cX11_moment 44 = .ok (.ifCond .eq 7, 3) := by decide +kernel
theorem dX11_moment_47 : decode cX11_moment 47 = .ok (.iconst 0, 1) := by decide +kernel
theorem dX11_moment_48 : decode cX11_moment 48 = .ok (.goto 4, 3) := by decide +kernel
theorem dX11_moment_51 : decode cX11_moment 51 = .ok (.iconst 2, 1) := by decide +kernel
theorem dX11_moment_52 : decode cX11_moment 52 = .ok (.invokevirtual 71, 3) := by decide +kernel
theorem dX11_moment_55 : decode cX11_moment 55 = .ok (.ifCond .eq 5, 3) := by decide +kernel
theorem dX11_moment_58 : decode cX11_moment 58 = .ok (.iconst 0, 1) := by decide +kernel
theorem dX11_moment_59 : decode cX11_moment 59 = .ok (.ireturn, 1) := by decide +kernel
theorem dX11_moment_60 : decode cX11_moment 60 = .ok (.aload_n 0, 1) := by decide +kernel
theorem dX11_moment_61 : decode cX11_moment 61 = .ok (.iload_n 1, 1) := by decide +kernel
theorem dX11_moment_62 : decode cX11_moment 62 = .ok (.iload_n 2, 1) := by decide +kernel
theorem dX11_moment_63 : decode cX11_moment 63 = .ok (.iload_n 3, 1) := by decide +kernel
theorem dX11_moment_64 : decode cX11_moment 64 = .ok (.iload 4, 2) := by decide +kernel
theorem dX11_moment_66 : decode cX11_moment 66 = .ok (.invokevirtual 274, 3) := by decide +kernel
theorem dX11_moment_69 : decode cX11_moment 69 = .ok (.ireturn, 1) := by decide +kernel
def pg_X11_moment (l : Launch) (g : EG) : List (Nat × ES) := [(0, s_ldI 1), (1, s_callS l g sg_X11_moment sg_X11_isPlace), (4, s_if_eq 26), (7, s_ldI 3), (8, s_callS l g sg_X11_moment sg_X11_isDay), (11, s_if_eq 26), (14, s_ldI 4), (16, s_callS l g sg_X11_moment sg_X11_isMinute), (19, s_if_eq 26), (22, s_c (.inl 1)), (23, s_goto 27), (26, s_c (.inl 0)), (27, s_stI 5), (29, s_ldP 0), (30, s_ldI 5), (32, s_if_ne 39), (35, s_c (.inl 1)), (36, s_goto 52), (39, s_ldP 0), (40, s_ldI 2), (41, s_callV l g sg_X11_moment sg_X11_isZone 10), (44, s_if_eq 51), (47, s_c (.inl 0)), (48, s_goto 52), (51, s_c (.inl 2)), (52, s_callV l g sg_X11_moment sg_X11_isRefused 10), (55, s_if_eq 60), (58, s_c (.inl 0)), (59, s_ireti), (60, s_ldP 0), (61, s_ldI 1), (62, s_ldI 2), (63, s_ldI 3), (64, s_ldI 4), (66, s_callV l g sg_X11_moment sg_X11_momentOf 10), (69, s_ireti)]
set_option maxRecDepth 100000 in
theorem ok_X11_moment {l : Launch} {g : EG} : e_okp l g sg_X11_moment "CalendarSyncModel" (pg_X11_moment l g) := fun p e R s m args below meth c ex M0 Q X =>
    e_each_cons (r_iload_n X (k := 1) (i := 1) rfl dX11_moment_0 rfl)
    (e_each_cons (r_callS X rfl (τ := sg_X11_isPlace) (index := 265) dX11_moment_1 w7_68 w7_69 cs_X11_isPlace rfl ⟨by decide, by decide⟩ rfl)
    (e_each_cons (r_if_eq X (off := 22) (t := 26) dX11_moment_4 (by decide) rfl)
    (e_each_cons (r_iload_n X (k := 3) (i := 3) rfl dX11_moment_7 rfl)
    (e_each_cons (r_callS X rfl (τ := sg_X11_isDay) (index := 89) dX11_moment_8 w6_138 w6_139 cs_X11_isDay rfl ⟨by decide, by decide⟩ rfl)
    (e_each_cons (r_if_eq X (off := 15) (t := 26) dX11_moment_11 (by decide) rfl)
    (e_each_cons (r_iload X (i := 4) dX11_moment_14 rfl)
    (e_each_cons (r_callS X rfl (τ := sg_X11_isMinute) (index := 271) dX11_moment_16 w7_82 w7_83 cs_X11_isMinute rfl ⟨by decide, by decide⟩ rfl)
    (e_each_cons (r_if_eq X (off := 7) (t := 26) dX11_moment_19 (by decide) rfl)
    (e_each_cons (r_iconst X (n := 1) (v := 1) dX11_moment_22 (by decide) rfl)
    (e_each_cons (r_goto X (off := 4) (t := 27) dX11_moment_23 (by decide))
    (e_each_cons (r_iconst X (n := 0) (v := 0) dX11_moment_26 (by decide) rfl)
    (e_each_cons (r_istore X (i := 5) dX11_moment_27 (by decide) rfl)
    (e_each_cons (r_aload_n X (k := 0) (i := 0) rfl dX11_moment_29 rfl)
    (e_each_cons (r_iload X (i := 5) dX11_moment_30 rfl)
    (e_each_cons (r_if_ne X (off := 7) (t := 39) dX11_moment_32 (by decide) rfl)
    (e_each_cons (r_iconst X (n := 1) (v := 1) dX11_moment_35 (by decide) rfl)
    (e_each_cons (r_goto X (off := 16) (t := 52) dX11_moment_36 (by decide))
    (e_each_cons (r_aload_n X (k := 0) (i := 0) rfl dX11_moment_39 rfl)
    (e_each_cons (r_iload_n X (k := 2) (i := 2) rfl dX11_moment_40 rfl)
    (e_each_cons (r_callV X rfl (τ := sg_X11_isZone) (index := 268) (ci := 10) dX11_moment_41 (by decide) rfl w7_71 w7_73 ws_58 cs_X11_isZone rfl ⟨by decide, by decide⟩ rfl)
    (e_each_cons (r_if_eq X (off := 7) (t := 51) dX11_moment_44 (by decide) rfl)
    (e_each_cons (r_iconst X (n := 0) (v := 0) dX11_moment_47 (by decide) rfl)
    (e_each_cons (r_goto X (off := 4) (t := 52) dX11_moment_48 (by decide))
    (e_each_cons (r_iconst X (n := 2) (v := 2) dX11_moment_51 (by decide) rfl)
    (e_each_cons (r_callV X rfl (τ := sg_X11_isRefused) (index := 71) (ci := 10) dX11_moment_52 (by decide) rfl w6_119 w6_121 ws_31 cs_X11_isRefused rfl ⟨by decide, by decide⟩ rfl)
    (e_each_cons (r_if_eq X (off := 5) (t := 60) dX11_moment_55 (by decide) rfl)
    (e_each_cons (r_iconst X (n := 0) (v := 0) dX11_moment_58 (by decide) rfl)
    (e_each_cons (r_ireti X dX11_moment_59 rfl)
    (e_each_cons (r_aload_n X (k := 0) (i := 0) rfl dX11_moment_60 rfl)
    (e_each_cons (r_iload_n X (k := 1) (i := 1) rfl dX11_moment_61 rfl)
    (e_each_cons (r_iload_n X (k := 2) (i := 2) rfl dX11_moment_62 rfl)
    (e_each_cons (r_iload_n X (k := 3) (i := 3) rfl dX11_moment_63 rfl)
    (e_each_cons (r_iload X (i := 4) dX11_moment_64 rfl)
    (e_each_cons (r_callV X rfl (τ := sg_X11_momentOf) (index := 274) (ci := 10) dX11_moment_66 (by decide) rfl w7_85 w7_87 ws_59 cs_X11_momentOf rfl ⟨by decide, by decide⟩ rfl)
    (e_each_cons (r_ireti X dX11_moment_69 rfl)
    (e_each_nil))))))))))))))))))))))))))))))))))))
theorem dX11_isThere_0 : decode cX11_isThere 0 = .ok (.iload_n 2, 1) := by decide +kernel
theorem dX11_isThere_1 : decode cX11_isThere 1 = .ok (.iconst 0, 1) := by decide +kernel
theorem dX11_isThere_2 : decode cX11_isThere 2 = .ok (.bipush 7, 2) := by decide +kernel
theorem dX11_isThere_4 : decode cX11_isThere 4 = .ok (.invokestatic 75, 3) := by decide +kernel
theorem dX11_isThere_7 : decode cX11_isThere 7 = .ok (.ifCond .eq 23, 3) := by decide +kernel
theorem dX11_isThere_10 : decode cX11_isThere 10 = .ok (.aload_n 0, 1) := by decide +kernel
theorem dX11_isThere_11 : decode cX11_isThere 11 = .ok (.getfield 7, 3) := by decide +kernel
theorem dX11_isThere_14 : decode cX11_isThere 14 = .ok (.iload_n 1, 1) := by decide +kernel
theorem dX11_isThere_15 : decode cX11_isThere 15 = .ok (.iload_n 2, 1) := by decide +kernel
theorem dX11_isThere_16 : decode cX11_isThere 16 = .ok (.invokestatic 278, 3) := by decide +kernel
theorem dX11_isThere_19 : decode cX11_isThere 19 = .ok (.iconst 0, 1) := by decide +kernel
theorem dX11_isThere_20 : decode cX11_isThere 20 = .ok (.iadd, 1) := by decide +kernel
theorem dX11_isThere_21 : decode cX11_isThere 21 = .ok (.iaload, 1) := by decide +kernel
theorem dX11_isThere_22 : decode cX11_isThere 22 = .ok (.iconst 1, 1) := by decide +kernel
theorem dX11_isThere_23 : decode cX11_isThere 23 = .ok (.if_icmp .ne 7, 3) := by decide +kernel
theorem dX11_isThere_26 : decode cX11_isThere 26 = .ok (.iconst 1, 1) := by decide +kernel
theorem dX11_isThere_27 : decode cX11_isThere 27 = .ok (.goto 4, 3) := by decide +kernel
theorem dX11_isThere_30 : decode cX11_isThere 30 = .ok (.iconst 0, 1) := by decide +kernel
theorem dX11_isThere_31 : decode cX11_isThere 31 = .ok (.ireturn, 1) := by decide +kernel
def pg_X11_isThere (l : Launch) (g : EG) : List (Nat × ES) := [(0, s_ldI 2), (1, s_c (.inl 0)), (2, s_c (.inl 7)), (4, s_callS l g sg_X11_isThere sg_X11_in), (7, s_if_eq 30), (10, s_ldP 0), (11, s_getP 10 2), (14, s_ldI 1), (15, s_ldI 2), (16, s_callS l g sg_X11_isThere sg_X11_eventAt), (19, s_c (.inl 0)), (20, s_ii (fun x y => x + y)), (21, s_iald), (22, s_c (.inl 1)), (23, s_icmp_ne 30), (26, s_c (.inl 1)), (27, s_goto 31), (30, s_c (.inl 0)), (31, s_iretz)]
set_option maxRecDepth 100000 in
theorem ok_X11_isThere {l : Launch} {g : EG} : e_okp l g sg_X11_isThere "CalendarSyncModel" (pg_X11_isThere l g) := fun p e R s m args below meth c ex M0 Q X =>
    e_each_cons (r_iload_n X (k := 2) (i := 2) rfl dX11_isThere_0 rfl)
    (e_each_cons (r_iconst X (n := 0) (v := 0) dX11_isThere_1 (by decide) rfl)
    (e_each_cons (r_bipush X (n := 7) (v := 7) dX11_isThere_2 (by decide) rfl)
    (e_each_cons (r_callS X rfl (τ := sg_X11_in) (index := 75) dX11_isThere_4 w6_127 w6_128 cs_X11_in rfl ⟨by decide, by decide⟩ rfl)
    (e_each_cons (r_if_eq X (off := 23) (t := 30) dX11_isThere_7 (by decide) rfl)
    (e_each_cons (r_aload_n X (k := 0) (i := 0) rfl dX11_isThere_10 rfl)
    (e_each_cons (r_getP X (index := 7) (ci := 10) (k := 2) dX11_isThere_11 (by decide) (by decide) rfl w6_28 rfl)
    (e_each_cons (r_iload_n X (k := 1) (i := 1) rfl dX11_isThere_14 rfl)
    (e_each_cons (r_iload_n X (k := 2) (i := 2) rfl dX11_isThere_15 rfl)
    (e_each_cons (r_callS X rfl (τ := sg_X11_eventAt) (index := 278) dX11_isThere_16 w7_101 w7_102 cs_X11_eventAt rfl ⟨by decide, by decide⟩ rfl)
    (e_each_cons (r_iconst X (n := 0) (v := 0) dX11_isThere_19 (by decide) rfl)
    (e_each_cons (r_iadd X dX11_isThere_20 rfl)
    (e_each_cons (r_iald X dX11_isThere_21 rfl)
    (e_each_cons (r_iconst X (n := 1) (v := 1) dX11_isThere_22 (by decide) rfl)
    (e_each_cons (r_icmp_ne X (off := 7) (t := 30) dX11_isThere_23 (by decide) rfl)
    (e_each_cons (r_iconst X (n := 1) (v := 1) dX11_isThere_26 (by decide) rfl)
    (e_each_cons (r_goto X (off := 4) (t := 31) dX11_isThere_27 (by decide))
    (e_each_cons (r_iconst X (n := 0) (v := 0) dX11_isThere_30 (by decide) rfl)
    (e_each_cons (r_iretz X dX11_isThere_31 rfl)
    (e_each_nil)))))))))))))))))))
theorem dX11_eventsOf_0 : decode cX11_eventsOf 0 = .ok (.iconst 0, 1) := by decide +kernel
theorem dX11_eventsOf_1 : decode cX11_eventsOf 1 = .ok (.istore_n 2, 1) := by decide +kernel
theorem dX11_eventsOf_2 : decode cX11_eventsOf 2 = .ok (.iconst 0, 1) := by decide +kernel
theorem dX11_eventsOf_3 : decode cX11_eventsOf 3 = .ok (.istore_n 3, 1) := by decide +kernel
theorem dX11_eventsOf_4 : decode cX11_eventsOf 4 = .ok (.iload_n 3, 1) := by decide +kernel
theorem dX11_eventsOf_5 : decode cX11_eventsOf 5 = .ok (.bipush 8, 2) := by decide +kernel
theorem dX11_eventsOf_7 : decode cX11_eventsOf 7 = .ok (.if_icmp .ge 28, 3) := by decide +kernel
theorem dX11_eventsOf_10 : decode cX11_eventsOf 10 = .ok (.aload_n 0, 1) := by decide +kernel
theorem dX11_eventsOf_11 : decode cX11_eventsOf 11 = .ok (.iload_n 1, 1) := by decide +kernel
theorem dX11_eventsOf_12 : decode cX11_eventsOf 12 = .ok (.iload_n 3, 1) := by decide +kernel
theorem dX11_eventsOf_13 : decode cX11_eventsOf 13 = .ok (.invokevirtual 281, 3) := by decide +kernel
theorem dX11_eventsOf_16 : decode cX11_eventsOf 16 = .ok (.ifCond .eq 11, 3) := by decide +kernel
theorem dX11_eventsOf_19 : decode cX11_eventsOf 19 = .ok (.iload_n 2, 1) := by decide +kernel
theorem dX11_eventsOf_20 : decode cX11_eventsOf 20 = .ok (.iconst 1, 1) := by decide +kernel
theorem dX11_eventsOf_21 : decode cX11_eventsOf 21 = .ok (.iload_n 3, 1) := by decide +kernel
theorem dX11_eventsOf_22 : decode cX11_eventsOf 22 = .ok (.ishl, 1) := by decide +kernel
theorem dX11_eventsOf_23 : decode cX11_eventsOf 23 = .ok (.ior, 1) := by decide +kernel
theorem dX11_eventsOf_24 : decode cX11_eventsOf 24 = .ok (.goto 4, 3) := by decide +kernel
theorem dX11_eventsOf_27 : decode cX11_eventsOf 27 = .ok (.iload_n 2, 1) := by decide +kernel
theorem dX11_eventsOf_28 : decode cX11_eventsOf 28 = .ok (.istore_n 2, 1) := by decide +kernel
theorem dX11_eventsOf_29 : decode cX11_eventsOf 29 = .ok (.iinc 3 1, 3) := by decide +kernel
theorem dX11_eventsOf_32 : decode cX11_eventsOf 32 = .ok (.goto (-28), 3) := by decide +kernel
theorem dX11_eventsOf_35 : decode cX11_eventsOf 35 = .ok (.iload_n 2, 1) := by decide +kernel
theorem dX11_eventsOf_36 : decode cX11_eventsOf 36 = .ok (.ireturn, 1) := by decide +kernel
def pg_X11_eventsOf (l : Launch) (g : EG) : List (Nat × ES) := [(0, s_c (.inl 0)), (1, s_stI 2), (2, s_c (.inl 0)), (3, s_stI 3), (4, s_ldI 3), (5, s_c (.inl 8)), (7, s_icmp_ge 35), (10, s_ldP 0), (11, s_ldI 1), (12, s_ldI 3), (13, s_callV l g sg_X11_eventsOf sg_X11_isThere 10), (16, s_if_eq 27), (19, s_ldI 2), (20, s_c (.inl 1)), (21, s_ldI 3), (22, s_ii (fun x y => x <<< (y &&& 31))), (23, s_ii (fun x y => x ||| y)), (24, s_goto 28), (27, s_ldI 2), (28, s_stI 2), (29, s_iinc 3 1), (32, s_goto 4), (35, s_ldI 2), (36, s_ireti)]
set_option maxRecDepth 100000 in
theorem ok_X11_eventsOf {l : Launch} {g : EG} : e_okp l g sg_X11_eventsOf "CalendarSyncModel" (pg_X11_eventsOf l g) := fun p e R s m args below meth c ex M0 Q X =>
    e_each_cons (r_iconst X (n := 0) (v := 0) dX11_eventsOf_0 (by decide) rfl)
    (e_each_cons (r_istore_n X (k := 2) (i := 2) rfl dX11_eventsOf_1 (by decide) rfl)
    (e_each_cons (r_iconst X (n := 0) (v := 0) dX11_eventsOf_2 (by decide) rfl)
    (e_each_cons (r_istore_n X (k := 3) (i := 3) rfl dX11_eventsOf_3 (by decide) rfl)
    (e_each_cons (r_iload_n X (k := 3) (i := 3) rfl dX11_eventsOf_4 rfl)
    (e_each_cons (r_bipush X (n := 8) (v := 8) dX11_eventsOf_5 (by decide) rfl)
    (e_each_cons (r_icmp_ge X (off := 28) (t := 35) dX11_eventsOf_7 (by decide) rfl)
    (e_each_cons (r_aload_n X (k := 0) (i := 0) rfl dX11_eventsOf_10 rfl)
    (e_each_cons (r_iload_n X (k := 1) (i := 1) rfl dX11_eventsOf_11 rfl)
    (e_each_cons (r_iload_n X (k := 3) (i := 3) rfl dX11_eventsOf_12 rfl)
    (e_each_cons (r_callV X rfl (τ := sg_X11_isThere) (index := 281) (ci := 10) dX11_eventsOf_13 (by decide) rfl w7_97 w7_99 ws_61 cs_X11_isThere rfl ⟨by decide, by decide⟩ rfl)
    (e_each_cons (r_if_eq X (off := 11) (t := 27) dX11_eventsOf_16 (by decide) rfl)
    (e_each_cons (r_iload_n X (k := 2) (i := 2) rfl dX11_eventsOf_19 rfl)
    (e_each_cons (r_iconst X (n := 1) (v := 1) dX11_eventsOf_20 (by decide) rfl)
    (e_each_cons (r_iload_n X (k := 3) (i := 3) rfl dX11_eventsOf_21 rfl)
    (e_each_cons (r_ishl X dX11_eventsOf_22 rfl)
    (e_each_cons (r_ior X dX11_eventsOf_23 rfl)
    (e_each_cons (r_goto X (off := 4) (t := 28) dX11_eventsOf_24 (by decide))
    (e_each_cons (r_iload_n X (k := 2) (i := 2) rfl dX11_eventsOf_27 rfl)
    (e_each_cons (r_istore_n X (k := 2) (i := 2) rfl dX11_eventsOf_28 (by decide) rfl)
    (e_each_cons (r_iinc X (i := 3) (n := 1) (d := 1) dX11_eventsOf_29 (by decide) (by decide) rfl)
    (e_each_cons (r_goto X (off := (-28)) (t := 4) dX11_eventsOf_32 (by decide))
    (e_each_cons (r_iload_n X (k := 2) (i := 2) rfl dX11_eventsOf_35 rfl)
    (e_each_cons (r_ireti X dX11_eventsOf_36 rfl)
    (e_each_nil))))))))))))))))))))))))
theorem dX11_events_0 : decode cX11_events 0 = .ok (.aload_n 0, 1) := by decide +kernel
theorem dX11_events_1 : decode cX11_events 1 = .ok (.iload_n 1, 1) := by decide +kernel
theorem dX11_events_2 : decode cX11_events 2 = .ok (.invokestatic 265, 3) := by decide +kernel
theorem dX11_events_5 : decode cX11_events 5 = .ok (.ifCond .eq 7, 3) := by decide +kernel
theorem dX11_events_8 : decode cX11_events 8 = .ok (.iconst 0, 1) := by decide +kernel
theorem dX11_events_9 : decode cX11_events 9 = .ok (.goto 4, 3) := by decide +kernel
theorem dX11_events_12 : decode cX11_events 12 = .ok (.iconst 1, 1) := by decide +kernel
theorem dX11_events_13 : decode cX11_events 13 = .ok (.invokevirtual 71, 3) := by decide +kernel
theorem dX11_events_16 : decode cX11_events 16 = .ok (.ifCond .eq 5, 3) := by decide +kernel
theorem dX11_events_19 : decode cX11_events 19 = .ok (.iconst 0, 1) := by decide +kernel
theorem dX11_events_20 : decode cX11_events 20 = .ok (.ireturn, 1) := by decide +kernel
theorem dX11_events_21 : decode cX11_events 21 = .ok (.aload_n 0, 1) := by decide +kernel
theorem dX11_events_22 : decode cX11_events 22 = .ok (.iload_n 1, 1) := by decide +kernel
theorem dX11_events_23 : decode cX11_events 23 = .ok (.invokevirtual 284, 3) := by decide +kernel
theorem dX11_events_26 : decode cX11_events 26 = .ok (.ireturn, 1) := by decide +kernel
def pg_X11_events (l : Launch) (g : EG) : List (Nat × ES) := [(0, s_ldP 0), (1, s_ldI 1), (2, s_callS l g sg_X11_events sg_X11_isPlace), (5, s_if_eq 12), (8, s_c (.inl 0)), (9, s_goto 13), (12, s_c (.inl 1)), (13, s_callV l g sg_X11_events sg_X11_isRefused 10), (16, s_if_eq 21), (19, s_c (.inl 0)), (20, s_ireti), (21, s_ldP 0), (22, s_ldI 1), (23, s_callV l g sg_X11_events sg_X11_eventsOf 10), (26, s_ireti)]
set_option maxRecDepth 100000 in
theorem ok_X11_events {l : Launch} {g : EG} : e_okp l g sg_X11_events "CalendarSyncModel" (pg_X11_events l g) := fun p e R s m args below meth c ex M0 Q X =>
    e_each_cons (r_aload_n X (k := 0) (i := 0) rfl dX11_events_0 rfl)
    (e_each_cons (r_iload_n X (k := 1) (i := 1) rfl dX11_events_1 rfl)
    (e_each_cons (r_callS X rfl (τ := sg_X11_isPlace) (index := 265) dX11_events_2 w7_68 w7_69 cs_X11_isPlace rfl ⟨by decide, by decide⟩ rfl)
    (e_each_cons (r_if_eq X (off := 7) (t := 12) dX11_events_5 (by decide) rfl)
    (e_each_cons (r_iconst X (n := 0) (v := 0) dX11_events_8 (by decide) rfl)
    (e_each_cons (r_goto X (off := 4) (t := 13) dX11_events_9 (by decide))
    (e_each_cons (r_iconst X (n := 1) (v := 1) dX11_events_12 (by decide) rfl)
    (e_each_cons (r_callV X rfl (τ := sg_X11_isRefused) (index := 71) (ci := 10) dX11_events_13 (by decide) rfl w6_119 w6_121 ws_31 cs_X11_isRefused rfl ⟨by decide, by decide⟩ rfl)
    (e_each_cons (r_if_eq X (off := 5) (t := 21) dX11_events_16 (by decide) rfl)
    (e_each_cons (r_iconst X (n := 0) (v := 0) dX11_events_19 (by decide) rfl)
    (e_each_cons (r_ireti X dX11_events_20 rfl)
    (e_each_cons (r_aload_n X (k := 0) (i := 0) rfl dX11_events_21 rfl)
    (e_each_cons (r_iload_n X (k := 1) (i := 1) rfl dX11_events_22 rfl)
    (e_each_cons (r_callV X rfl (τ := sg_X11_eventsOf) (index := 284) (ci := 10) dX11_events_23 (by decide) rfl w7_93 w7_95 ws_60 cs_X11_eventsOf rfl ⟨by decide, by decide⟩ rfl)
    (e_each_cons (r_ireti X dX11_events_26 rfl)
    (e_each_nil)))))))))))))))
theorem dX11_wrongEvent_0 : decode cX11_wrongEvent 0 = .ok (.iload_n 1, 1) := by decide +kernel
theorem dX11_wrongEvent_1 : decode cX11_wrongEvent 1 = .ok (.invokestatic 265, 3) := by decide +kernel
theorem dX11_wrongEvent_4 : decode cX11_wrongEvent 4 = .ok (.ifCond .ne 7, 3) := by decide +kernel
theorem dX11_wrongEvent_7 : decode cX11_wrongEvent 7 = .ok (.iconst 1, 1) := by decide +kernel
theorem dX11_wrongEvent_8 : decode cX11_wrongEvent 8 = .ok (.goto 17, 3) := by decide +kernel
theorem dX11_wrongEvent_11 : decode cX11_wrongEvent 11 = .ok (.aload_n 0, 1) := by decide +kernel
theorem dX11_wrongEvent_12 : decode cX11_wrongEvent 12 = .ok (.iload_n 1, 1) := by decide +kernel
theorem dX11_wrongEvent_13 : decode cX11_wrongEvent 13 = .ok (.iload_n 2, 1) := by decide +kernel
theorem dX11_wrongEvent_14 : decode cX11_wrongEvent 14 = .ok (.invokevirtual 281, 3) := by decide +kernel
theorem dX11_wrongEvent_17 : decode cX11_wrongEvent 17 = .ok (.ifCond .eq 7, 3) := by decide +kernel
theorem dX11_wrongEvent_20 : decode cX11_wrongEvent 20 = .ok (.iconst 0, 1) := by decide +kernel
theorem dX11_wrongEvent_21 : decode cX11_wrongEvent 21 = .ok (.goto 4, 3) := by decide +kernel
theorem dX11_wrongEvent_24 : decode cX11_wrongEvent 24 = .ok (.iconst 2, 1) := by decide +kernel
theorem dX11_wrongEvent_25 : decode cX11_wrongEvent 25 = .ok (.ireturn, 1) := by decide +kernel
def pg_X11_wrongEvent (l : Launch) (g : EG) : List (Nat × ES) := [(0, s_ldI 1), (1, s_callS l g sg_X11_wrongEvent sg_X11_isPlace), (4, s_if_ne 11), (7, s_c (.inl 1)), (8, s_goto 25), (11, s_ldP 0), (12, s_ldI 1), (13, s_ldI 2), (14, s_callV l g sg_X11_wrongEvent sg_X11_isThere 10), (17, s_if_eq 24), (20, s_c (.inl 0)), (21, s_goto 25), (24, s_c (.inl 2)), (25, s_ireti)]
set_option maxRecDepth 100000 in
theorem ok_X11_wrongEvent {l : Launch} {g : EG} : e_okp l g sg_X11_wrongEvent "CalendarSyncModel" (pg_X11_wrongEvent l g) := fun p e R s m args below meth c ex M0 Q X =>
    e_each_cons (r_iload_n X (k := 1) (i := 1) rfl dX11_wrongEvent_0 rfl)
    (e_each_cons (r_callS X rfl (τ := sg_X11_isPlace) (index := 265) dX11_wrongEvent_1 w7_68 w7_69 cs_X11_isPlace rfl ⟨by decide, by decide⟩ rfl)
    (e_each_cons (r_if_ne X (off := 7) (t := 11) dX11_wrongEvent_4 (by decide) rfl)
    (e_each_cons (r_iconst X (n := 1) (v := 1) dX11_wrongEvent_7 (by decide) rfl)
    (e_each_cons (r_goto X (off := 17) (t := 25) dX11_wrongEvent_8 (by decide))
    (e_each_cons (r_aload_n X (k := 0) (i := 0) rfl dX11_wrongEvent_11 rfl)
    (e_each_cons (r_iload_n X (k := 1) (i := 1) rfl dX11_wrongEvent_12 rfl)
    (e_each_cons (r_iload_n X (k := 2) (i := 2) rfl dX11_wrongEvent_13 rfl)
    (e_each_cons (r_callV X rfl (τ := sg_X11_isThere) (index := 281) (ci := 10) dX11_wrongEvent_14 (by decide) rfl w7_97 w7_99 ws_61 cs_X11_isThere rfl ⟨by decide, by decide⟩ rfl)
    (e_each_cons (r_if_eq X (off := 7) (t := 24) dX11_wrongEvent_17 (by decide) rfl)
    (e_each_cons (r_iconst X (n := 0) (v := 0) dX11_wrongEvent_20 (by decide) rfl)
    (e_each_cons (r_goto X (off := 4) (t := 25) dX11_wrongEvent_21 (by decide))
    (e_each_cons (r_iconst X (n := 2) (v := 2) dX11_wrongEvent_24 (by decide) rfl)
    (e_each_cons (r_ireti X dX11_wrongEvent_25 rfl)
    (e_each_nil))))))))))))))
theorem dX11_event_0 : decode cX11_event 0 = .ok (.aload_n 0, 1) := by decide +kernel
theorem dX11_event_1 : decode cX11_event 1 = .ok (.iload_n 1, 1) := by decide +kernel
theorem dX11_event_2 : decode cX11_event 2 = .ok (.iload_n 2, 1) := by decide +kernel
theorem dX11_event_3 : decode cX11_event 3 = .ok (.invokevirtual 287, 3) := by decide +kernel
theorem dX11_event_6 : decode cX11_event 6 = .ok (.istore 4, 2) := by decide +kernel
theorem dX11_event_8 : decode cX11_event 8 = .ok (.aload_n 0, 1) := by decide +kernel
theorem dX11_event_9 : decode cX11_event 9 = .ok (.iload 4, 2) := by decide +kernel
theorem dX11_event_11 : decode cX11_event 11 = .ok (.ifCond .le 8, 3) := by decide +kernel
theorem dX11_event_14 : decode cX11_event 14 = .ok (.iload 4, 2) := by decide +kernel
theorem dX11_event_16 : decode cX11_event 16 = .ok (.goto 18, 3) := by decide +kernel
theorem dX11_event_19 : decode cX11_event 19 = .ok (.iload_n 3, 1) := by decide +kernel
theorem dX11_event_20 : decode cX11_event 20 = .ok (.iconst 0, 1) := by decide +kernel
theorem dX11_event_21 : decode cX11_event 21 = .ok (.bipush 11, 2) := by decide +kernel
theorem dX11_event_23 : decode cX11_event 23 = .ok (.invokestatic 75, 3) := by decide +kernel
theorem dX11_event_26 : decode cX11_event 26 = .ok (.ifCond .eq 7, 3) := by decide +kernel
theorem dX11_event_29 : decode cX11_event 29 = .ok (.iconst 0, 1) := by decide +kernel
theorem dX11_event_30 : decode cX11_event 30 = .ok (.goto 4, 3) := by decide +kernel
theorem dX11_event_33 : decode cX11_event 33 = .ok (.iconst 3, 1) := by decide +kernel
theorem dX11_event_34 : decode cX11_event 34 = .ok (.invokevirtual 71, 3) := by decide +kernel
theorem dX11_event_37 : decode cX11_event 37 = .ok (.ifCond .eq 5, 3) := by decide +kernel
theorem dX11_event_40 : decode cX11_event 40 = .ok (.iconst 0, 1) := by decide +kernel
theorem dX11_event_41 : decode cX11_event 41 = .ok (.ireturn, 1) := by decide +kernel
theorem dX11_event_42 : decode cX11_event 42 = .ok (.iload_n 1, 1) := by decide +kernel
theorem dX11_event_43 : decode cX11_event 43 = .ok (.iload_n 2, 1) := by decide +kernel
theorem dX11_event_44 : decode cX11_event 44 = .ok (.invokestatic 278, 3) := by decide +kernel
theorem dX11_event_47 : decode cX11_event 47 = .ok (.istore 5, 2) := by decide +kernel
theorem dX11_event_49 : decode cX11_event 49 = .ok (.iload_n 3, 1) := by decide +kernel
theorem dX11_event_50 : decode cX11_event 50 = .ok (.bipush 9, 2) := by decide +kernel
theorem dX11_event_52 : decode cX11_event 52 = .ok (.if_icmp .ne 18, 3) := by decide +kernel
theorem dX11_event_55 : decode cX11_event 55 = .ok (.aload_n 0, 1) := by decide +kernel
theorem dX11_event_56 : decode cX11_event 56 = .ok (.aload_n 0, 1) := by decide +kernel
theorem dX11_event_57 : decode cX11_event 57 = .ok (.getfield 7, 3) := by decide +kernel
theorem dX11_event_60 : decode cX11_event 60 = .ok (.iload 5, 2) := by decide +kernel
theorem dX11_event_62 : decode cX11_event 62 = .ok (.invokevirtual 233, 3) := by decide +kernel
theorem dX11_event_65 : decode cX11_event 65 = .ok (.aload_n 0, 1) := by decide +kernel
theorem dX11_event_66 : decode cX11_event 66 = .ok (.getfield 95, 3) := by decide +kernel
theorem dX11_event_69 : decode cX11_event 69 = .ok (.ireturn, 1) := by decide +kernel
theorem dX11_event_70 : decode cX11_event 70 = .ok (.aload_n 0, 1) := by decide +kernel
theorem dX11_event_71 : decode cX11_event 71 = .ok (.getfield 7, 3) := by decide +kernel
theorem dX11_event_74 : decode cX11_event 74 = .ok (.iload 5, 2) := by decide +kernel
theorem dX11_event_76 : decode cX11_event 76 = .ok (.iload_n 3, 1) := by decide +kernel
theorem dX11_event_77 : decode cX11_event 77 = .ok (.bipush 8, 2) := by decide +kernel
theorem dX11_event_79 : decode cX11_event 79 = .ok (.if_icmp .ne 8, 3) := by decide +kernel
theorem dX11_event_82 : decode cX11_event 82 = .ok (.bipush 9, 2) := by decide +kernel
theorem dX11_event_84 : decode cX11_event 84 = .ok (.goto 28, 3) := by decide +kernel
theorem dX11_event_87 : decode cX11_event 87 = .ok (.iload_n 3, 1) := by decide +kernel
theorem dX11_event_88 : decode cX11_event 88 = .ok (.bipush 10, 2) := by decide +kernel
theorem dX11_event_90 : decode cX11_event 90 = .ok (.if_icmp .ne 8, 3) := by decide +kernel
theorem dX11_event_93 : decode cX11_event 93 = .ok (.bipush 12, 2) := by decide +kernel
theorem dX11_event_95 : decode cX11_event 95 = .ok (.goto 17, 3) := by decide +kernel
theorem dX11_event_98 : decode cX11_event 98 = .ok (.iload_n 3, 1) := by decide +kernel
theorem dX11_event_99 : decode cX11_event 99 = .ok (.bipush 11, 2) := by decide +kernel
theorem dX11_event_101 : decode cX11_event 101 = .ok (.if_icmp .ne 8, 3) := by decide +kernel
theorem dX11_event_104 : decode cX11_event 104 = .ok (.bipush 13, 2) := by decide +kernel
theorem dX11_event_106 : decode cX11_event 106 = .ok (.goto 6, 3) := by decide +kernel
theorem dX11_event_109 : decode cX11_event 109 = .ok (.iconst 1, 1) := by decide +kernel
theorem dX11_event_110 : decode cX11_event 110 = .ok (.iload_n 3, 1) := by decide +kernel
theorem dX11_event_111 : decode cX11_event 111 = .ok (.iadd, 1) := by decide +kernel
theorem dX11_event_112 : decode cX11_event 112 = .ok (.iadd, 1) := by decide +kernel
theorem dX11_event_113 : decode cX11_event 113 = .ok (.iaload, 1) := by decide +kernel
theorem dX11_event_114 : decode cX11_event 114 = .ok (.ireturn, 1) := by decide +kernel
def pg_X11_event (l : Launch) (g : EG) : List (Nat × ES) := [(0, s_ldP 0), (1, s_ldI 1), (2, s_ldI 2), (3, s_callV l g sg_X11_event sg_X11_wrongEvent 10), (6, s_stI 4), (8, s_ldP 0), (9, s_ldI 4), (11, s_if_le 19), (14, s_ldI 4), (16, s_goto 34), (19, s_ldI 3), (20, s_c (.inl 0)), (21, s_c (.inl 11)), (23, s_callS l g sg_X11_event sg_X11_in), (26, s_if_eq 33), (29, s_c (.inl 0)), (30, s_goto 34), (33, s_c (.inl 3)), (34, s_callV l g sg_X11_event sg_X11_isRefused 10), (37, s_if_eq 42), (40, s_c (.inl 0)), (41, s_ireti), (42, s_ldI 1), (43, s_ldI 2), (44, s_callS l g sg_X11_event sg_X11_eventAt), (47, s_stI 5), (49, s_ldI 3), (50, s_c (.inl 9)), (52, s_icmp_ne 70), (55, s_ldP 0), (56, s_ldP 0), (57, s_getP 10 2), (60, s_ldI 5), (62, s_callV l g sg_X11_event sg_X11_laysDates 10), (65, s_ldP 0), (66, s_getI 10 8), (69, s_ireti), (70, s_ldP 0), (71, s_getP 10 2), (74, s_ldI 5), (76, s_ldI 3), (77, s_c (.inl 8)), (79, s_icmp_ne 87), (82, s_c (.inl 9)), (84, s_goto 112), (87, s_ldI 3), (88, s_c (.inl 10)), (90, s_icmp_ne 98), (93, s_c (.inl 12)), (95, s_goto 112), (98, s_ldI 3), (99, s_c (.inl 11)), (101, s_icmp_ne 109), (104, s_c (.inl 13)), (106, s_goto 112), (109, s_c (.inl 1)), (110, s_ldI 3), (111, s_ii (fun x y => x + y)), (112, s_ii (fun x y => x + y)), (113, s_iald), (114, s_ireti)]
set_option maxRecDepth 100000 in
theorem ok_X11_event {l : Launch} {g : EG} : e_okp l g sg_X11_event "CalendarSyncModel" (pg_X11_event l g) := fun p e R s m args below meth c ex M0 Q X =>
    e_each_cons (r_aload_n X (k := 0) (i := 0) rfl dX11_event_0 rfl)
    (e_each_cons (r_iload_n X (k := 1) (i := 1) rfl dX11_event_1 rfl)
    (e_each_cons (r_iload_n X (k := 2) (i := 2) rfl dX11_event_2 rfl)
    (e_each_cons (r_callV X rfl (τ := sg_X11_wrongEvent) (index := 287) (ci := 10) dX11_event_3 (by decide) rfl w7_108 w7_110 ws_62 cs_X11_wrongEvent rfl ⟨by decide, by decide⟩ rfl)
    (e_each_cons (r_istore X (i := 4) dX11_event_6 (by decide) rfl)
    (e_each_cons (r_aload_n X (k := 0) (i := 0) rfl dX11_event_8 rfl)
    (e_each_cons (r_iload X (i := 4) dX11_event_9 rfl)
    (e_each_cons (r_if_le X (off := 8) (t := 19) dX11_event_11 (by decide) rfl)
    (e_each_cons (r_iload X (i := 4) dX11_event_14 rfl)
    (e_each_cons (r_goto X (off := 18) (t := 34) dX11_event_16 (by decide))
    (e_each_cons (r_iload_n X (k := 3) (i := 3) rfl dX11_event_19 rfl)
    (e_each_cons (r_iconst X (n := 0) (v := 0) dX11_event_20 (by decide) rfl)
    (e_each_cons (r_bipush X (n := 11) (v := 11) dX11_event_21 (by decide) rfl)
    (e_each_cons (r_callS X rfl (τ := sg_X11_in) (index := 75) dX11_event_23 w6_127 w6_128 cs_X11_in rfl ⟨by decide, by decide⟩ rfl)
    (e_each_cons (r_if_eq X (off := 7) (t := 33) dX11_event_26 (by decide) rfl)
    (e_each_cons (r_iconst X (n := 0) (v := 0) dX11_event_29 (by decide) rfl)
    (e_each_cons (r_goto X (off := 4) (t := 34) dX11_event_30 (by decide))
    (e_each_cons (r_iconst X (n := 3) (v := 3) dX11_event_33 (by decide) rfl)
    (e_each_cons (r_callV X rfl (τ := sg_X11_isRefused) (index := 71) (ci := 10) dX11_event_34 (by decide) rfl w6_119 w6_121 ws_31 cs_X11_isRefused rfl ⟨by decide, by decide⟩ rfl)
    (e_each_cons (r_if_eq X (off := 5) (t := 42) dX11_event_37 (by decide) rfl)
    (e_each_cons (r_iconst X (n := 0) (v := 0) dX11_event_40 (by decide) rfl)
    (e_each_cons (r_ireti X dX11_event_41 rfl)
    (e_each_cons (r_iload_n X (k := 1) (i := 1) rfl dX11_event_42 rfl)
    (e_each_cons (r_iload_n X (k := 2) (i := 2) rfl dX11_event_43 rfl)
    (e_each_cons (r_callS X rfl (τ := sg_X11_eventAt) (index := 278) dX11_event_44 w7_101 w7_102 cs_X11_eventAt rfl ⟨by decide, by decide⟩ rfl)
    (e_each_cons (r_istore X (i := 5) dX11_event_47 (by decide) rfl)
    (e_each_cons (r_iload_n X (k := 3) (i := 3) rfl dX11_event_49 rfl)
    (e_each_cons (r_bipush X (n := 9) (v := 9) dX11_event_50 (by decide) rfl)
    (e_each_cons (r_icmp_ne X (off := 18) (t := 70) dX11_event_52 (by decide) rfl)
    (e_each_cons (r_aload_n X (k := 0) (i := 0) rfl dX11_event_55 rfl)
    (e_each_cons (r_aload_n X (k := 0) (i := 0) rfl dX11_event_56 rfl)
    (e_each_cons (r_getP X (index := 7) (ci := 10) (k := 2) dX11_event_57 (by decide) (by decide) rfl w6_28 rfl)
    (e_each_cons (r_iload X (i := 5) dX11_event_60 rfl)
    (e_each_cons (r_callV X rfl (τ := sg_X11_laysDates) (index := 233) (ci := 10) dX11_event_62 (by decide) rfl w7_31 w7_33 ws_51 cs_X11_laysDates rfl ⟨by decide, by decide⟩ rfl)
    (e_each_cons (r_aload_n X (k := 0) (i := 0) rfl dX11_event_65 rfl)
    (e_each_cons (r_getI X (index := 95) (ci := 10) (k := 8) dX11_event_66 (by decide) (by decide) rfl w6_34 rfl)
    (e_each_cons (r_ireti X dX11_event_69 rfl)
    (e_each_cons (r_aload_n X (k := 0) (i := 0) rfl dX11_event_70 rfl)
    (e_each_cons (r_getP X (index := 7) (ci := 10) (k := 2) dX11_event_71 (by decide) (by decide) rfl w6_28 rfl)
    (e_each_cons (r_iload X (i := 5) dX11_event_74 rfl)
    (e_each_cons (r_iload_n X (k := 3) (i := 3) rfl dX11_event_76 rfl)
    (e_each_cons (r_bipush X (n := 8) (v := 8) dX11_event_77 (by decide) rfl)
    (e_each_cons (r_icmp_ne X (off := 8) (t := 87) dX11_event_79 (by decide) rfl)
    (e_each_cons (r_bipush X (n := 9) (v := 9) dX11_event_82 (by decide) rfl)
    (e_each_cons (r_goto X (off := 28) (t := 112) dX11_event_84 (by decide))
    (e_each_cons (r_iload_n X (k := 3) (i := 3) rfl dX11_event_87 rfl)
    (e_each_cons (r_bipush X (n := 10) (v := 10) dX11_event_88 (by decide) rfl)
    (e_each_cons (r_icmp_ne X (off := 8) (t := 98) dX11_event_90 (by decide) rfl)
    (e_each_cons (r_bipush X (n := 12) (v := 12) dX11_event_93 (by decide) rfl)
    (e_each_cons (r_goto X (off := 17) (t := 112) dX11_event_95 (by decide))
    (e_each_cons (r_iload_n X (k := 3) (i := 3) rfl dX11_event_98 rfl)
    (e_each_cons (r_bipush X (n := 11) (v := 11) dX11_event_99 (by decide) rfl)
    (e_each_cons (r_icmp_ne X (off := 8) (t := 109) dX11_event_101 (by decide) rfl)
    (e_each_cons (r_bipush X (n := 13) (v := 13) dX11_event_104 (by decide) rfl)
    (e_each_cons (r_goto X (off := 6) (t := 112) dX11_event_106 (by decide))
    (e_each_cons (r_iconst X (n := 1) (v := 1) dX11_event_109 (by decide) rfl)
    (e_each_cons (r_iload_n X (k := 3) (i := 3) rfl dX11_event_110 rfl)
    (e_each_cons (r_iadd X dX11_event_111 rfl)
    (e_each_cons (r_iadd X dX11_event_112 rfl)
    (e_each_cons (r_iald X dX11_event_113 rfl)
    (e_each_cons (r_ireti X dX11_event_114 rfl)
    (e_each_nil)))))))))))))))))))))))))))))))))))))))))))))))))))))))))))))
theorem dX11_isShown_0 : decode cX11_isShown 0 = .ok (.aload_n 0, 1) := by decide +kernel
theorem dX11_isShown_1 : decode cX11_isShown 1 = .ok (.getfield 7, 3) := by decide +kernel
theorem dX11_isShown_4 : decode cX11_isShown 4 = .ok (.iload_n 1, 1) := by decide +kernel
theorem dX11_isShown_5 : decode cX11_isShown 5 = .ok (.bipush 12, 2) := by decide +kernel
theorem dX11_isShown_7 : decode cX11_isShown 7 = .ok (.iadd, 1) := by decide +kernel
theorem dX11_isShown_8 : decode cX11_isShown 8 = .ok (.iaload, 1) := by decide +kernel
theorem dX11_isShown_9 : decode cX11_isShown 9 = .ok (.iload_n 2, 1) := by decide +kernel
theorem dX11_isShown_10 : decode cX11_isShown 10 = .ok (.invokestatic 64, 3) := by decide +kernel
theorem dX11_isShown_13 : decode cX11_isShown 13 = .ok (.ifCond .ne 7, 3) := by decide +kernel
theorem dX11_isShown_16 : decode cX11_isShown 16 = .ok (.iconst 1, 1) := by decide +kernel
theorem dX11_isShown_17 : decode cX11_isShown 17 = .ok (.goto 4, 3) := by decide +kernel
theorem dX11_isShown_20 : decode cX11_isShown 20 = .ok (.iconst 0, 1) := by decide +kernel
theorem dX11_isShown_21 : decode cX11_isShown 21 = .ok (.ireturn, 1) := by decide +kernel
def pg_X11_isShown (l : Launch) (g : EG) : List (Nat × ES) := [(0, s_ldP 0), (1, s_getP 10 2), (4, s_ldI 1), (5, s_c (.inl 12)), (7, s_ii (fun x y => x + y)), (8, s_iald), (9, s_ldI 2), (10, s_callS l g sg_X11_isShown sg_X11_has), (13, s_if_ne 20), (16, s_c (.inl 1)), (17, s_goto 21), (20, s_c (.inl 0)), (21, s_iretz)]
set_option maxRecDepth 100000 in
theorem ok_X11_isShown {l : Launch} {g : EG} : e_okp l g sg_X11_isShown "CalendarSyncModel" (pg_X11_isShown l g) := fun p e R s m args below meth c ex M0 Q X =>
    e_each_cons (r_aload_n X (k := 0) (i := 0) rfl dX11_isShown_0 rfl)
    (e_each_cons (r_getP X (index := 7) (ci := 10) (k := 2) dX11_isShown_1 (by decide) (by decide) rfl w6_28 rfl)
    (e_each_cons (r_iload_n X (k := 1) (i := 1) rfl dX11_isShown_4 rfl)
    (e_each_cons (r_bipush X (n := 12) (v := 12) dX11_isShown_5 (by decide) rfl)
    (e_each_cons (r_iadd X dX11_isShown_7 rfl)
    (e_each_cons (r_iald X dX11_isShown_8 rfl)
    (e_each_cons (r_iload_n X (k := 2) (i := 2) rfl dX11_isShown_9 rfl)
    (e_each_cons (r_callS X rfl (τ := sg_X11_has) (index := 64) dX11_isShown_10 w7_27 w7_28 cs_X11_has rfl ⟨by decide, by decide⟩ rfl)
    (e_each_cons (r_if_ne X (off := 7) (t := 20) dX11_isShown_13 (by decide) rfl)
    (e_each_cons (r_iconst X (n := 1) (v := 1) dX11_isShown_16 (by decide) rfl)
    (e_each_cons (r_goto X (off := 4) (t := 21) dX11_isShown_17 (by decide))
    (e_each_cons (r_iconst X (n := 0) (v := 0) dX11_isShown_20 (by decide) rfl)
    (e_each_cons (r_iretz X dX11_isShown_21 rfl)
    (e_each_nil)))))))))))))
theorem dX11_dayOf_0 : decode cX11_dayOf 0 = .ok (.aload_n 0, 1) := by decide +kernel
theorem dX11_dayOf_1 : decode cX11_dayOf 1 = .ok (.getfield 7, 3) := by decide +kernel
theorem dX11_dayOf_4 : decode cX11_dayOf 4 = .ok (.iload_n 1, 1) := by decide +kernel
theorem dX11_dayOf_5 : decode cX11_dayOf 5 = .ok (.bipush 13, 2) := by decide +kernel
theorem dX11_dayOf_7 : decode cX11_dayOf 7 = .ok (.iadd, 1) := by decide +kernel
theorem dX11_dayOf_8 : decode cX11_dayOf 8 = .ok (.iaload, 1) := by decide +kernel
theorem dX11_dayOf_9 : decode cX11_dayOf 9 = .ok (.iload_n 2, 1) := by decide +kernel
theorem dX11_dayOf_10 : decode cX11_dayOf 10 = .ok (.invokestatic 64, 3) := by decide +kernel
theorem dX11_dayOf_13 : decode cX11_dayOf 13 = .ok (.ifCond .eq 17, 3) := by decide +kernel
theorem dX11_dayOf_16 : decode cX11_dayOf 16 = .ok (.aload_n 0, 1) := by decide +kernel
theorem dX11_dayOf_17 : decode cX11_dayOf 17 = .ok (.getfield 7, 3) := by decide +kernel
theorem dX11_dayOf_20 : decode cX11_dayOf 20 = .ok (.iload_n 1, 1) := by decide +kernel
theorem dX11_dayOf_21 : decode cX11_dayOf 21 = .ok (.bipush 16, 2) := by decide +kernel
theorem dX11_dayOf_23 : decode cX11_dayOf 23 = .ok (.iadd, 1) := by decide +kernel
theorem dX11_dayOf_24 : decode cX11_dayOf 24 = .ok (.iload_n 2, 1) := by decide +kernel
theorem dX11_dayOf_25 : decode cX11_dayOf 25 = .ok (.iadd, 1) := by decide +kernel
theorem dX11_dayOf_26 : decode cX11_dayOf 26 = .ok (.iaload, 1) := by decide +kernel
theorem dX11_dayOf_27 : decode cX11_dayOf 27 = .ok (.goto 9, 3) := by decide +kernel
theorem dX11_dayOf_30 : decode cX11_dayOf 30 = .ok (.aload_n 0, 1) := by decide +kernel
theorem dX11_dayOf_31 : decode cX11_dayOf 31 = .ok (.getfield 24, 3) := by decide +kernel
theorem dX11_dayOf_34 : decode cX11_dayOf 34 = .ok (.iload_n 2, 1) := by decide +kernel
theorem dX11_dayOf_35 : decode cX11_dayOf 35 = .ok (.iaload, 1) := by decide +kernel
theorem dX11_dayOf_36 : decode cX11_dayOf 36 = .ok (.ireturn, 1) := by decide +kernel
def pg_X11_dayOf (l : Launch) (g : EG) : List (Nat × ES) := [(0, s_ldP 0), (1, s_getP 10 2), (4, s_ldI 1), (5, s_c (.inl 13)), (7, s_ii (fun x y => x + y)), (8, s_iald), (9, s_ldI 2), (10, s_callS l g sg_X11_dayOf sg_X11_has), (13, s_if_eq 30), (16, s_ldP 0), (17, s_getP 10 2), (20, s_ldI 1), (21, s_c (.inl 16)), (23, s_ii (fun x y => x + y)), (24, s_ldI 2), (25, s_ii (fun x y => x + y)), (26, s_iald), (27, s_goto 36), (30, s_ldP 0), (31, s_getP 10 7), (34, s_ldI 2), (35, s_iald), (36, s_ireti)]
set_option maxRecDepth 100000 in
theorem ok_X11_dayOf {l : Launch} {g : EG} : e_okp l g sg_X11_dayOf "CalendarSyncModel" (pg_X11_dayOf l g) := fun p e R s m args below meth c ex M0 Q X =>
    e_each_cons (r_aload_n X (k := 0) (i := 0) rfl dX11_dayOf_0 rfl)
    (e_each_cons (r_getP X (index := 7) (ci := 10) (k := 2) dX11_dayOf_1 (by decide) (by decide) rfl w6_28 rfl)
    (e_each_cons (r_iload_n X (k := 1) (i := 1) rfl dX11_dayOf_4 rfl)
    (e_each_cons (r_bipush X (n := 13) (v := 13) dX11_dayOf_5 (by decide) rfl)
    (e_each_cons (r_iadd X dX11_dayOf_7 rfl)
    (e_each_cons (r_iald X dX11_dayOf_8 rfl)
    (e_each_cons (r_iload_n X (k := 2) (i := 2) rfl dX11_dayOf_9 rfl)
    (e_each_cons (r_callS X rfl (τ := sg_X11_has) (index := 64) dX11_dayOf_10 w7_27 w7_28 cs_X11_has rfl ⟨by decide, by decide⟩ rfl)
    (e_each_cons (r_if_eq X (off := 17) (t := 30) dX11_dayOf_13 (by decide) rfl)
    (e_each_cons (r_aload_n X (k := 0) (i := 0) rfl dX11_dayOf_16 rfl)
    (e_each_cons (r_getP X (index := 7) (ci := 10) (k := 2) dX11_dayOf_17 (by decide) (by decide) rfl w6_28 rfl)
    (e_each_cons (r_iload_n X (k := 1) (i := 1) rfl dX11_dayOf_20 rfl)
    (e_each_cons (r_bipush X (n := 16) (v := 16) dX11_dayOf_21 (by decide) rfl)
    (e_each_cons (r_iadd X dX11_dayOf_23 rfl)
    (e_each_cons (r_iload_n X (k := 2) (i := 2) rfl dX11_dayOf_24 rfl)
    (e_each_cons (r_iadd X dX11_dayOf_25 rfl)
    (e_each_cons (r_iald X dX11_dayOf_26 rfl)
    (e_each_cons (r_goto X (off := 9) (t := 36) dX11_dayOf_27 (by decide))
    (e_each_cons (r_aload_n X (k := 0) (i := 0) rfl dX11_dayOf_30 rfl)
    (e_each_cons (r_getP X (index := 24) (ci := 10) (k := 7) dX11_dayOf_31 (by decide) (by decide) rfl w6_33 rfl)
    (e_each_cons (r_iload_n X (k := 2) (i := 2) rfl dX11_dayOf_34 rfl)
    (e_each_cons (r_iald X dX11_dayOf_35 rfl)
    (e_each_cons (r_ireti X dX11_dayOf_36 rfl)
    (e_each_nil)))))))))))))))))))))))
theorem dX11_minuteOf_0 : decode cX11_minuteOf 0 = .ok (.aload_n 0, 1) := by decide +kernel
theorem dX11_minuteOf_1 : decode cX11_minuteOf 1 = .ok (.getfield 7, 3) := by decide +kernel
theorem dX11_minuteOf_4 : decode cX11_minuteOf 4 = .ok (.iload_n 1, 1) := by decide +kernel
theorem dX11_minuteOf_5 : decode cX11_minuteOf 5 = .ok (.bipush 13, 2) := by decide +kernel
theorem dX11_minuteOf_7 : decode cX11_minuteOf 7 = .ok (.iadd, 1) := by decide +kernel
theorem dX11_minuteOf_8 : decode cX11_minuteOf 8 = .ok (.iaload, 1) := by decide +kernel
theorem dX11_minuteOf_9 : decode cX11_minuteOf 9 = .ok (.iload_n 2, 1) := by decide +kernel
theorem dX11_minuteOf_10 : decode cX11_minuteOf 10 = .ok (.invokestatic 64, 3) := by decide +kernel
theorem dX11_minuteOf_13 : decode cX11_minuteOf 13 = .ok (.ifCond .eq 17, 3) := by decide +kernel
theorem dX11_minuteOf_16 : decode cX11_minuteOf 16 = .ok (.aload_n 0, 1) := by decide +kernel
theorem dX11_minuteOf_17 : decode cX11_minuteOf 17 = .ok (.getfield 7, 3) := by decide +kernel
theorem dX11_minuteOf_20 : decode cX11_minuteOf 20 = .ok (.iload_n 1, 1) := by decide +kernel
theorem dX11_minuteOf_21 : decode cX11_minuteOf 21 = .ok (.bipush 46, 2) := by decide +kernel
theorem dX11_minuteOf_23 : decode cX11_minuteOf 23 = .ok (.iadd, 1) := by decide +kernel
theorem dX11_minuteOf_24 : decode cX11_minuteOf 24 = .ok (.iload_n 2, 1) := by decide +kernel
theorem dX11_minuteOf_25 : decode cX11_minuteOf 25 = .ok (.iadd, 1) := by decide +kernel
theorem dX11_minuteOf_26 : decode cX11_minuteOf 26 = .ok (.iaload, 1) := by decide +kernel
theorem dX11_minuteOf_27 : decode cX11_minuteOf 27 = .ok (.goto 11, 3) := by decide +kernel
theorem dX11_minuteOf_30 : decode cX11_minuteOf 30 = .ok (.aload_n 0, 1) := by decide +kernel
theorem dX11_minuteOf_31 : decode cX11_minuteOf 31 = .ok (.getfield 7, 3) := by decide +kernel
theorem dX11_minuteOf_34 : decode cX11_minuteOf 34 = .ok (.iload_n 1, 1) := by decide +kernel
theorem dX11_minuteOf_35 : decode cX11_minuteOf 35 = .ok (.iconst 2, 1) := by decide +kernel
theorem dX11_minuteOf_36 : decode cX11_minuteOf 36 = .ok (.iadd, 1) := by decide +kernel
theorem dX11_minuteOf_37 : decode cX11_minuteOf 37 = .ok (.iaload, 1) := by decide +kernel
theorem dX11_minuteOf_38 : decode cX11_minuteOf 38 = .ok (.ireturn, 1) := by decide +kernel
def pg_X11_minuteOf (l : Launch) (g : EG) : List (Nat × ES) := [(0, s_ldP 0), (1, s_getP 10 2), (4, s_ldI 1), (5, s_c (.inl 13)), (7, s_ii (fun x y => x + y)), (8, s_iald), (9, s_ldI 2), (10, s_callS l g sg_X11_minuteOf sg_X11_has), (13, s_if_eq 30), (16, s_ldP 0), (17, s_getP 10 2), (20, s_ldI 1), (21, s_c (.inl 46)), (23, s_ii (fun x y => x + y)), (24, s_ldI 2), (25, s_ii (fun x y => x + y)), (26, s_iald), (27, s_goto 38), (30, s_ldP 0), (31, s_getP 10 2), (34, s_ldI 1), (35, s_c (.inl 2)), (36, s_ii (fun x y => x + y)), (37, s_iald), (38, s_ireti)]
set_option maxRecDepth 100000 in
theorem ok_X11_minuteOf {l : Launch} {g : EG} : e_okp l g sg_X11_minuteOf "CalendarSyncModel" (pg_X11_minuteOf l g) := fun p e R s m args below meth c ex M0 Q X =>
    e_each_cons (r_aload_n X (k := 0) (i := 0) rfl dX11_minuteOf_0 rfl)
    (e_each_cons (r_getP X (index := 7) (ci := 10) (k := 2) dX11_minuteOf_1 (by decide) (by decide) rfl w6_28 rfl)
    (e_each_cons (r_iload_n X (k := 1) (i := 1) rfl dX11_minuteOf_4 rfl)
    (e_each_cons (r_bipush X (n := 13) (v := 13) dX11_minuteOf_5 (by decide) rfl)
    (e_each_cons (r_iadd X dX11_minuteOf_7 rfl)
    (e_each_cons (r_iald X dX11_minuteOf_8 rfl)
    (e_each_cons (r_iload_n X (k := 2) (i := 2) rfl dX11_minuteOf_9 rfl)
    (e_each_cons (r_callS X rfl (τ := sg_X11_has) (index := 64) dX11_minuteOf_10 w7_27 w7_28 cs_X11_has rfl ⟨by decide, by decide⟩ rfl)
    (e_each_cons (r_if_eq X (off := 17) (t := 30) dX11_minuteOf_13 (by decide) rfl)
    (e_each_cons (r_aload_n X (k := 0) (i := 0) rfl dX11_minuteOf_16 rfl)
    (e_each_cons (r_getP X (index := 7) (ci := 10) (k := 2) dX11_minuteOf_17 (by decide) (by decide) rfl w6_28 rfl)
    (e_each_cons (r_iload_n X (k := 1) (i := 1) rfl dX11_minuteOf_20 rfl)
    (e_each_cons (r_bipush X (n := 46) (v := 46) dX11_minuteOf_21 (by decide) rfl)
    (e_each_cons (r_iadd X dX11_minuteOf_23 rfl)
    (e_each_cons (r_iload_n X (k := 2) (i := 2) rfl dX11_minuteOf_24 rfl)
    (e_each_cons (r_iadd X dX11_minuteOf_25 rfl)
    (e_each_cons (r_iald X dX11_minuteOf_26 rfl)
    (e_each_cons (r_goto X (off := 11) (t := 38) dX11_minuteOf_27 (by decide))
    (e_each_cons (r_aload_n X (k := 0) (i := 0) rfl dX11_minuteOf_30 rfl)
    (e_each_cons (r_getP X (index := 7) (ci := 10) (k := 2) dX11_minuteOf_31 (by decide) (by decide) rfl w6_28 rfl)
    (e_each_cons (r_iload_n X (k := 1) (i := 1) rfl dX11_minuteOf_34 rfl)
    (e_each_cons (r_iconst X (n := 2) (v := 2) dX11_minuteOf_35 (by decide) rfl)
    (e_each_cons (r_iadd X dX11_minuteOf_36 rfl)
    (e_each_cons (r_iald X dX11_minuteOf_37 rfl)
    (e_each_cons (r_ireti X dX11_minuteOf_38 rfl)
    (e_each_nil)))))))))))))))))))))))))
theorem dX11_momentOfDate_0 : decode cX11_momentOfDate 0 = .ok (.iload_n 1, 1) := by decide +kernel
theorem dX11_momentOfDate_1 : decode cX11_momentOfDate 1 = .ok (.iload_n 2, 1) := by decide +kernel
theorem dX11_momentOfDate_2 : decode cX11_momentOfDate 2 = .ok (.invokestatic 278, 3) := by decide +kernel
theorem dX11_momentOfDate_5 : decode cX11_momentOfDate 5 = .ok (.istore 4, 2) := by decide +kernel
theorem dX11_momentOfDate_7 : decode cX11_momentOfDate 7 = .ok (.aload_n 0, 1) := by decide +kernel
theorem dX11_momentOfDate_8 : decode cX11_momentOfDate 8 = .ok (.iload_n 1, 1) := by decide +kernel
theorem dX11_momentOfDate_9 : decode cX11_momentOfDate 9 = .ok (.aload_n 0, 1) := by decide +kernel
theorem dX11_momentOfDate_10 : decode cX11_momentOfDate 10 = .ok (.getfield 7, 3) := by decide +kernel
theorem dX11_momentOfDate_13 : decode cX11_momentOfDate 13 = .ok (.iload 4, 2) := by decide +kernel
theorem dX11_momentOfDate_15 : decode cX11_momentOfDate 15 = .ok (.iconst 4, 1) := by decide +kernel
theorem dX11_momentOfDate_16 : decode cX11_momentOfDate 16 = .ok (.iadd, 1) := by decide +kernel
theorem dX11_momentOfDate_17 : decode cX11_momentOfDate 17 = .ok (.iaload, 1) := by decide +kernel
theorem dX11_momentOfDate_18 : decode cX11_momentOfDate 18 = .ok (.aload_n 0, 1) := by decide +kernel
theorem dX11_momentOfDate_19 : decode cX11_momentOfDate 19 = .ok (.iload 4, 2) := by decide +kernel
theorem dX11_momentOfDate_21 : decode cX11_momentOfDate 21 = .ok (.iload_n 3, 1) := by decide +kernel
theorem dX11_momentOfDate_22 : decode cX11_momentOfDate 22 = .ok (.invokevirtual 290, 3) := by decide +kernel
theorem dX11_momentOfDate_25 : decode cX11_momentOfDate 25 = .ok (.aload_n 0, 1) := by decide +kernel
theorem dX11_momentOfDate_26 : decode cX11_momentOfDate 26 = .ok (.iload 4, 2) := by decide +kernel
theorem dX11_momentOfDate_28 : decode cX11_momentOfDate 28 = .ok (.iload_n 3, 1) := by decide +kernel
theorem dX11_momentOfDate_29 : decode cX11_momentOfDate 29 = .ok (.invokevirtual 293, 3) := by decide +kernel
theorem dX11_momentOfDate_32 : decode cX11_momentOfDate 32 = .ok (.invokevirtual 274, 3) := by decide +kernel
theorem dX11_momentOfDate_35 : decode cX11_momentOfDate 35 = .ok (.ireturn, 1) := by decide +kernel
def pg_X11_momentOfDate (l : Launch) (g : EG) : List (Nat × ES) := [(0, s_ldI 1), (1, s_ldI 2), (2, s_callS l g sg_X11_momentOfDate sg_X11_eventAt), (5, s_stI 4), (7, s_ldP 0), (8, s_ldI 1), (9, s_ldP 0), (10, s_getP 10 2), (13, s_ldI 4), (15, s_c (.inl 4)), (16, s_ii (fun x y => x + y)), (17, s_iald), (18, s_ldP 0), (19, s_ldI 4), (21, s_ldI 3), (22, s_callV l g sg_X11_momentOfDate sg_X11_dayOf 10), (25, s_ldP 0), (26, s_ldI 4), (28, s_ldI 3), (29, s_callV l g sg_X11_momentOfDate sg_X11_minuteOf 10), (32, s_callV l g sg_X11_momentOfDate sg_X11_momentOf 10), (35, s_ireti)]
set_option maxRecDepth 100000 in
theorem ok_X11_momentOfDate {l : Launch} {g : EG} : e_okp l g sg_X11_momentOfDate "CalendarSyncModel" (pg_X11_momentOfDate l g) := fun p e R s m args below meth c ex M0 Q X =>
    e_each_cons (r_iload_n X (k := 1) (i := 1) rfl dX11_momentOfDate_0 rfl)
    (e_each_cons (r_iload_n X (k := 2) (i := 2) rfl dX11_momentOfDate_1 rfl)
    (e_each_cons (r_callS X rfl (τ := sg_X11_eventAt) (index := 278) dX11_momentOfDate_2 w7_101 w7_102 cs_X11_eventAt rfl ⟨by decide, by decide⟩ rfl)
    (e_each_cons (r_istore X (i := 4) dX11_momentOfDate_5 (by decide) rfl)
    (e_each_cons (r_aload_n X (k := 0) (i := 0) rfl dX11_momentOfDate_7 rfl)
    (e_each_cons (r_iload_n X (k := 1) (i := 1) rfl dX11_momentOfDate_8 rfl)
    (e_each_cons (r_aload_n X (k := 0) (i := 0) rfl dX11_momentOfDate_9 rfl)
    (e_each_cons (r_getP X (index := 7) (ci := 10) (k := 2) dX11_momentOfDate_10 (by decide) (by decide) rfl w6_28 rfl)
    (e_each_cons (r_iload X (i := 4) dX11_momentOfDate_13 rfl)
    (e_each_cons (r_iconst X (n := 4) (v := 4) dX11_momentOfDate_15 (by decide) rfl)
    (e_each_cons (r_iadd X dX11_momentOfDate_16 rfl)
    (e_each_cons (r_iald X dX11_momentOfDate_17 rfl)
    (e_each_cons (r_aload_n X (k := 0) (i := 0) rfl dX11_momentOfDate_18 rfl)
    (e_each_cons (r_iload X (i := 4) dX11_momentOfDate_19 rfl)
    (e_each_cons (r_iload_n X (k := 3) (i := 3) rfl dX11_momentOfDate_21 rfl)
    (e_each_cons (r_callV X rfl (τ := sg_X11_dayOf) (index := 290) (ci := 10) dX11_momentOfDate_22 (by decide) rfl w7_116 w7_118 ws_63 cs_X11_dayOf rfl ⟨by decide, by decide⟩ rfl)
    (e_each_cons (r_aload_n X (k := 0) (i := 0) rfl dX11_momentOfDate_25 rfl)
    (e_each_cons (r_iload X (i := 4) dX11_momentOfDate_26 rfl)
    (e_each_cons (r_iload_n X (k := 3) (i := 3) rfl dX11_momentOfDate_28 rfl)
    (e_each_cons (r_callV X rfl (τ := sg_X11_minuteOf) (index := 293) (ci := 10) dX11_momentOfDate_29 (by decide) rfl w7_120 w7_122 ws_64 cs_X11_minuteOf rfl ⟨by decide, by decide⟩ rfl)
    (e_each_cons (r_callV X rfl (τ := sg_X11_momentOf) (index := 274) (ci := 10) dX11_momentOfDate_32 (by decide) rfl w7_85 w7_87 ws_59 cs_X11_momentOf rfl ⟨by decide, by decide⟩ rfl)
    (e_each_cons (r_ireti X dX11_momentOfDate_35 rfl)
    (e_each_nil))))))))))))))))))))))
theorem dX11_answerTo_0 : decode cX11_answerTo 0 = .ok (.aload_n 0, 1) := by decide +kernel
theorem dX11_answerTo_1 : decode cX11_answerTo 1 = .ok (.getfield 7, 3) := by decide +kernel
theorem dX11_answerTo_4 : decode cX11_answerTo 4 = .ok (.iload_n 1, 1) := by decide +kernel
theorem dX11_answerTo_5 : decode cX11_answerTo 5 = .ok (.bipush 76, 2) := by decide +kernel
theorem dX11_answerTo_7 : decode cX11_answerTo 7 = .ok (.iadd, 1) := by decide +kernel
theorem dX11_answerTo_8 : decode cX11_answerTo 8 = .ok (.bipush 30, 2) := by decide +kernel
theorem dX11_answerTo_10 : decode cX11_answerTo 10 = .ok (.iload_n 2, 1) := by decide +kernel
theorem dX11_answerTo_11 : decode cX11_answerTo 11 = .ok (.imul, 1) := by decide +kernel
theorem dX11_answerTo_12 : decode cX11_answerTo 12 = .ok (.iadd, 1) := by decide +kernel
theorem dX11_answerTo_13 : decode cX11_answerTo 13 = .ok (.iload_n 3, 1) := by decide +kernel
theorem dX11_answerTo_14 : decode cX11_answerTo 14 = .ok (.iadd, 1) := by decide +kernel
theorem dX11_answerTo_15 : decode cX11_answerTo 15 = .ok (.iaload, 1) := by decide +kernel
theorem dX11_answerTo_16 : decode cX11_answerTo 16 = .ok (.istore 4, 2) := by decide +kernel
theorem dX11_answerTo_18 : decode cX11_answerTo 18 = .ok (.iload 4, 2) := by decide +kernel
theorem dX11_answerTo_20 : decode cX11_answerTo 20 = .ok (.ifCond .eq 8, 3) := by decide +kernel
theorem dX11_answerTo_23 : decode cX11_answerTo 23 = .ok (.iload 4, 2) := by decide +kernel
theorem dX11_answerTo_25 : decode cX11_answerTo 25 = .ok (.goto 14, 3) := by decide +kernel
theorem dX11_answerTo_28 : decode cX11_answerTo 28 = .ok (.aload_n 0, 1) := by decide +kernel
theorem dX11_answerTo_29 : decode cX11_answerTo 29 = .ok (.getfield 7, 3) := by decide +kernel
theorem dX11_answerTo_32 : decode cX11_answerTo 32 = .ok (.iload_n 1, 1) := by decide +kernel
theorem dX11_answerTo_33 : decode cX11_answerTo 33 = .ok (.bipush 14, 2) := by decide +kernel
theorem dX11_answerTo_35 : decode cX11_answerTo 35 = .ok (.iadd, 1) := by decide +kernel
theorem dX11_answerTo_36 : decode cX11_answerTo 36 = .ok (.iload_n 2, 1) := by decide +kernel
theorem dX11_answerTo_37 : decode cX11_answerTo 37 = .ok (.iadd, 1) := by decide +kernel
theorem dX11_answerTo_38 : decode cX11_answerTo 38 = .ok (.iaload, 1) := by decide +kernel
theorem dX11_answerTo_39 : decode cX11_answerTo 39 = .ok (.ireturn, 1) := by decide +kernel
def pg_X11_answerTo (l : Launch) (g : EG) : List (Nat × ES) := [(0, s_ldP 0), (1, s_getP 10 2), (4, s_ldI 1), (5, s_c (.inl 76)), (7, s_ii (fun x y => x + y)), (8, s_c (.inl 30)), (10, s_ldI 2), (11, s_ii (fun x y => x * y)), (12, s_ii (fun x y => x + y)), (13, s_ldI 3), (14, s_ii (fun x y => x + y)), (15, s_iald), (16, s_stI 4), (18, s_ldI 4), (20, s_if_eq 28), (23, s_ldI 4), (25, s_goto 39), (28, s_ldP 0), (29, s_getP 10 2), (32, s_ldI 1), (33, s_c (.inl 14)), (35, s_ii (fun x y => x + y)), (36, s_ldI 2), (37, s_ii (fun x y => x + y)), (38, s_iald), (39, s_ireti)]
set_option maxRecDepth 100000 in
theorem ok_X11_answerTo {l : Launch} {g : EG} : e_okp l g sg_X11_answerTo "CalendarSyncModel" (pg_X11_answerTo l g) := fun p e R s m args below meth c ex M0 Q X =>
    e_each_cons (r_aload_n X (k := 0) (i := 0) rfl dX11_answerTo_0 rfl)
    (e_each_cons (r_getP X (index := 7) (ci := 10) (k := 2) dX11_answerTo_1 (by decide) (by decide) rfl w6_28 rfl)
    (e_each_cons (r_iload_n X (k := 1) (i := 1) rfl dX11_answerTo_4 rfl)
    (e_each_cons (r_bipush X (n := 76) (v := 76) dX11_answerTo_5 (by decide) rfl)
    (e_each_cons (r_iadd X dX11_answerTo_7 rfl)
    (e_each_cons (r_bipush X (n := 30) (v := 30) dX11_answerTo_8 (by decide) rfl)
    (e_each_cons (r_iload_n X (k := 2) (i := 2) rfl dX11_answerTo_10 rfl)
    (e_each_cons (r_imul X dX11_answerTo_11 rfl)
    (e_each_cons (r_iadd X dX11_answerTo_12 rfl)
    (e_each_cons (r_iload_n X (k := 3) (i := 3) rfl dX11_answerTo_13 rfl)
    (e_each_cons (r_iadd X dX11_answerTo_14 rfl)
    (e_each_cons (r_iald X dX11_answerTo_15 rfl)
    (e_each_cons (r_istore X (i := 4) dX11_answerTo_16 (by decide) rfl)
    (e_each_cons (r_iload X (i := 4) dX11_answerTo_18 rfl)
    (e_each_cons (r_if_eq X (off := 8) (t := 28) dX11_answerTo_20 (by decide) rfl)
    (e_each_cons (r_iload X (i := 4) dX11_answerTo_23 rfl)
    (e_each_cons (r_goto X (off := 14) (t := 39) dX11_answerTo_25 (by decide))
    (e_each_cons (r_aload_n X (k := 0) (i := 0) rfl dX11_answerTo_28 rfl)
    (e_each_cons (r_getP X (index := 7) (ci := 10) (k := 2) dX11_answerTo_29 (by decide) (by decide) rfl w6_28 rfl)
    (e_each_cons (r_iload_n X (k := 1) (i := 1) rfl dX11_answerTo_32 rfl)
    (e_each_cons (r_bipush X (n := 14) (v := 14) dX11_answerTo_33 (by decide) rfl)
    (e_each_cons (r_iadd X dX11_answerTo_35 rfl)
    (e_each_cons (r_iload_n X (k := 2) (i := 2) rfl dX11_answerTo_36 rfl)
    (e_each_cons (r_iadd X dX11_answerTo_37 rfl)
    (e_each_cons (r_iald X dX11_answerTo_38 rfl)
    (e_each_cons (r_ireti X dX11_answerTo_39 rfl)
    (e_each_nil))))))))))))))))))))))))))
theorem dX11_date_0 : decode cX11_date 0 = .ok (.aload_n 0, 1) := by decide +kernel
theorem dX11_date_1 : decode cX11_date 1 = .ok (.iload_n 1, 1) := by decide +kernel
theorem dX11_date_2 : decode cX11_date 2 = .ok (.iload_n 2, 1) := by decide +kernel
theorem dX11_date_3 : decode cX11_date 3 = .ok (.invokevirtual 287, 3) := by decide +kernel
theorem dX11_date_6 : decode cX11_date 6 = .ok (.istore 5, 2) := by decide +kernel
theorem dX11_date_8 : decode cX11_date 8 = .ok (.aload_n 0, 1) := by decide +kernel
theorem dX11_date_9 : decode cX11_date 9 = .ok (.iload 5, 2) := by decide +kernel
theorem dX11_date_11 : decode cX11_date 11 = .ok (.invokevirtual 71, 3) := by decide +kernel
theorem dX11_date_14 : decode cX11_date 14 = .ok (.ifCond .eq 5, 3) := by decide +kernel
theorem dX11_date_17 : decode cX11_date 17 = .ok (.iconst 0, 1) := by decide +kernel
theorem dX11_date_18 : decode cX11_date 18 = .ok (.ireturn, 1) := by decide +kernel
theorem dX11_date_19 : decode cX11_date 19 = .ok (.iload_n 1, 1) := by decide +kernel
theorem dX11_date_20 : decode cX11_date 20 = .ok (.iload_n 2, 1) := by decide +kernel
theorem dX11_date_21 : decode cX11_date 21 = .ok (.invokestatic 278, 3) := by decide +kernel
theorem dX11_date_24 : decode cX11_date 24 = .ok (.istore 6, 2) := by decide +kernel
theorem dX11_date_26 : decode cX11_date 26 = .ok (.aload_n 0, 1) := by decide +kernel
theorem dX11_date_27 : decode cX11_date 27 = .ok (.aload_n 0, 1) := by decide +kernel
theorem dX11_date_28 : decode cX11_date 28 = .ok (.getfield 7, 3) := by decide +kernel
theorem dX11_date_31 : decode cX11_date 31 = .ok (.iload 6, 2) := by decide +kernel
theorem dX11_date_33 : decode cX11_date 33 = .ok (.invokevirtual 233, 3) := by decide +kernel
theorem dX11_date_36 : decode cX11_date 36 = .ok (.aload_n 0, 1) := by decide +kernel
theorem dX11_date_37 : decode cX11_date 37 = .ok (.iload_n 3, 1) := by decide +kernel
theorem dX11_date_38 : decode cX11_date 38 = .ok (.iconst 0, 1) := by decide +kernel
theorem dX11_date_39 : decode cX11_date 39 = .ok (.aload_n 0, 1) := by decide +kernel
theorem dX11_date_40 : decode cX11_date 40 = .ok (.getfield 95, 3) := by decide +kernel
theorem dX11_date_43 : decode cX11_date 43 = .ok (.iconst 1, 1) := by decide +kernel
theorem dX11_date_44 : decode cX11_date 44 = .ok (.isub, 1) := by decide +kernel
theorem dX11_date_45 : decode cX11_date 45 = .ok (.invokestatic 75, 3) := by decide +kernel
theorem dX11_date_48 : decode cX11_date 48 = .ok (.ifCond .eq 18, 3) := by decide +kernel
theorem dX11_date_51 : decode cX11_date 51 = .ok (.iload 4, 2) := by decide +kernel
theorem dX11_date_53 : decode cX11_date 53 = .ok (.iconst 0, 1) := by decide +kernel
theorem dX11_date_54 : decode cX11_date 54 = .ok (.bipush 6, 2) := by decide +kernel
theorem dX11_date_56 : decode cX11_date 56 = .ok (.invokestatic 75, 3) := by decide +kernel
theorem dX11_date_59 : decode cX11_date 59 = .ok (.ifCond .eq 7, 3) := by decide +kernel
theorem dX11_date_62 : decode cX11_date 62 = .ok (.iconst 0, 1) := by decide +kernel
theorem dX11_date_63 : decode cX11_date 63 = .ok (.goto 4, 3) := by decide +kernel
theorem dX11_date_66 : decode cX11_date 66 = .ok (.iconst 3, 1) := by decide +kernel
theorem dX11_date_67 : decode cX11_date 67 = .ok (.invokevirtual 71, 3) := by decide +kernel
theorem dX11_date_70 : decode cX11_date 70 = .ok (.ifCond .eq 5, 3) := by decide +kernel
theorem dX11_date_73 : decode cX11_date 73 = .ok (.iconst 0, 1) := by decide +kernel
theorem dX11_date_74 : decode cX11_date 74 = .ok (.ireturn, 1) := by decide +kernel
theorem dX11_date_75 : decode cX11_date 75 = .ok (.iload 4, 2) := by decide +kernel
theorem dX11_date_77 : decode cX11_date 77 = .ok (.tableswitch 82 0 4 #[35, 43, 51, 59, 75], 35) := by decide +kernel
theorem dX11_date_112 : decode cX11_date 112 = .ok (.aload_n 0, 1) := by decide +kernel
theorem dX11_date_113 : decode cX11_date 113 = .ok (.iload 6, 2) := by decide +kernel
theorem dX11_date_115 : decode cX11_date 115 = .ok (.iload_n 3, 1) := by decide +kernel
theorem dX11_date_116 : decode cX11_date 116 = .ok (.invokevirtual 290, 3) := by decide +kernel
theorem dX11_date_119 : decode cX11_date 119 = .ok (.ireturn, 1) := by decide +kernel
theorem dX11_date_120 : decode cX11_date 120 = .ok (.aload_n 0, 1) := by decide +kernel
theorem dX11_date_121 : decode cX11_date 121 = .ok (.iload 6, 2) := by decide +kernel
theorem dX11_date_123 : decode cX11_date 123 = .ok (.iload_n 3, 1) := by decide +kernel
theorem dX11_date_124 : decode cX11_date 124 = .ok (.invokevirtual 293, 3) := by decide +kernel
theorem dX11_date_127 : decode cX11_date 127 = .ok (.ireturn, 1) := by decide +kernel
theorem dX11_date_128 : decode cX11_date 128 = .ok (.aload_n 0, 1) := by decide +kernel
theorem dX11_date_129 : decode cX11_date 129 = .ok (.iload_n 1, 1) := by decide +kernel
theorem dX11_date_130 : decode cX11_date 130 = .ok (.iload_n 2, 1) := by decide +kernel
theorem dX11_date_131 : decode cX11_date 131 = .ok (.iload_n 3, 1) := by decide +kernel
theorem dX11_date_132 : decode cX11_date 132 = .ok (.invokevirtual 296, 3) := by decide +kernel
theorem dX11_date_135 : decode cX11_date 135 = .ok (.ireturn, 1) := by decide +kernel
theorem dX11_date_136 : decode cX11_date 136 = .ok (.aload_n 0, 1) := by decide +kernel
theorem dX11_date_137 : decode cX11_date 137 = .ok (.iload 6, 2) := by decide +kernel
theorem dX11_date_139 : decode cX11_date 139 = .ok (.iload_n 3, 1) := by decide +kernel
theorem dX11_date_140 : decode cX11_date 140 = .ok (.invokevirtual 300, 3) := by decide +kernel
theorem dX11_date_143 : decode cX11_date 143 = .ok (.ifCond .eq 7, 3) := by decide +kernel
theorem dX11_date_146 : decode cX11_date 146 = .ok (.iconst 1, 1) := by decide +kernel
theorem dX11_date_147 : decode cX11_date 147 = .ok (.goto 4, 3) := by decide +kernel
theorem dX11_date_150 : decode cX11_date 150 = .ok (.iconst 0, 1) := by decide +kernel
theorem dX11_date_151 : decode cX11_date 151 = .ok (.ireturn, 1) := by decide +kernel
theorem dX11_date_152 : decode cX11_date 152 = .ok (.aload_n 0, 1) := by decide +kernel
theorem dX11_date_153 : decode cX11_date 153 = .ok (.getfield 24, 3) := by decide +kernel
theorem dX11_date_156 : decode cX11_date 156 = .ok (.iload_n 3, 1) := by decide +kernel
theorem dX11_date_157 : decode cX11_date 157 = .ok (.iaload, 1) := by decide +kernel
theorem dX11_date_158 : decode cX11_date 158 = .ok (.ireturn, 1) := by decide +kernel
theorem dX11_date_159 : decode cX11_date 159 = .ok (.aload_n 0, 1) := by decide +kernel
theorem dX11_date_160 : decode cX11_date 160 = .ok (.iload 6, 2) := by decide +kernel
theorem dX11_date_162 : decode cX11_date 162 = .ok (.iload 4, 2) := by decide +kernel
theorem dX11_date_164 : decode cX11_date 164 = .ok (.iconst 5, 1) := by decide +kernel
theorem dX11_date_165 : decode cX11_date 165 = .ok (.isub, 1) := by decide +kernel
theorem dX11_date_166 : decode cX11_date 166 = .ok (.iload_n 3, 1) := by decide +kernel
theorem dX11_date_167 : decode cX11_date 167 = .ok (.invokevirtual 303, 3) := by decide +kernel
theorem dX11_date_170 : decode cX11_date 170 = .ok (.ireturn, 1) := by decide +kernel
def pg_X11_date (l : Launch) (g : EG) : List (Nat × ES) := [(0, s_ldP 0), (1, s_ldI 1), (2, s_ldI 2), (3, s_callV l g sg_X11_date sg_X11_wrongEvent 10), (6, s_stI 5), (8, s_ldP 0), (9, s_ldI 5), (11, s_callV l g sg_X11_date sg_X11_isRefused 10), (14, s_if_eq 19), (17, s_c (.inl 0)), (18, s_ireti), (19, s_ldI 1), (20, s_ldI 2), (21, s_callS l g sg_X11_date sg_X11_eventAt), (24, s_stI 6), (26, s_ldP 0), (27, s_ldP 0), (28, s_getP 10 2), (31, s_ldI 6), (33, s_callV l g sg_X11_date sg_X11_laysDates 10), (36, s_ldP 0), (37, s_ldI 3), (38, s_c (.inl 0)), (39, s_ldP 0), (40, s_getI 10 8), (43, s_c (.inl 1)), (44, s_ii (fun x y => x - y)), (45, s_callS l g sg_X11_date sg_X11_in), (48, s_if_eq 66), (51, s_ldI 4), (53, s_c (.inl 0)), (54, s_c (.inl 6)), (56, s_callS l g sg_X11_date sg_X11_in), (59, s_if_eq 66), (62, s_c (.inl 0)), (63, s_goto 67), (66, s_c (.inl 3)), (67, s_callV l g sg_X11_date sg_X11_isRefused 10), (70, s_if_eq 75), (73, s_c (.inl 0)), (74, s_ireti), (75, s_ldI 4), (77, s_tab 0 [112, 120, 128, 136, 152] 159), (112, s_ldP 0), (113, s_ldI 6), (115, s_ldI 3), (116, s_callV l g sg_X11_date sg_X11_dayOf 10), (119, s_ireti), (120, s_ldP 0), (121, s_ldI 6), (123, s_ldI 3), (124, s_callV l g sg_X11_date sg_X11_minuteOf 10), (127, s_ireti), (128, s_ldP 0), (129, s_ldI 1), (130, s_ldI 2), (131, s_ldI 3), (132, s_callV l g sg_X11_date sg_X11_momentOfDate 10), (135, s_ireti), (136, s_ldP 0), (137, s_ldI 6), (139, s_ldI 3), (140, s_callV l g sg_X11_date sg_X11_isShown 10), (143, s_if_eq 150), (146, s_c (.inl 1)), (147, s_goto 151), (150, s_c (.inl 0)), (151, s_ireti), (152, s_ldP 0), (153, s_getP 10 7), (156, s_ldI 3), (157, s_iald), (158, s_ireti), (159, s_ldP 0), (160, s_ldI 6), (162, s_ldI 4), (164, s_c (.inl 5)), (165, s_ii (fun x y => x - y)), (166, s_ldI 3), (167, s_callV l g sg_X11_date sg_X11_answerTo 10), (170, s_ireti)]
set_option maxRecDepth 100000 in
theorem ok_X11_date {l : Launch} {g : EG} : e_okp l g sg_X11_date "CalendarSyncModel" (pg_X11_date l g) := fun p e R s m args below meth c ex M0 Q X =>
    e_each_cons (r_aload_n X (k := 0) (i := 0) rfl dX11_date_0 rfl)
    (e_each_cons (r_iload_n X (k := 1) (i := 1) rfl dX11_date_1 rfl)
    (e_each_cons (r_iload_n X (k := 2) (i := 2) rfl dX11_date_2 rfl)
    (e_each_cons (r_callV X rfl (τ := sg_X11_wrongEvent) (index := 287) (ci := 10) dX11_date_3 (by decide) rfl w7_108 w7_110 ws_62 cs_X11_wrongEvent rfl ⟨by decide, by decide⟩ rfl)
    (e_each_cons (r_istore X (i := 5) dX11_date_6 (by decide) rfl)
    (e_each_cons (r_aload_n X (k := 0) (i := 0) rfl dX11_date_8 rfl)
    (e_each_cons (r_iload X (i := 5) dX11_date_9 rfl)
    (e_each_cons (r_callV X rfl (τ := sg_X11_isRefused) (index := 71) (ci := 10) dX11_date_11 (by decide) rfl w6_119 w6_121 ws_31 cs_X11_isRefused rfl ⟨by decide, by decide⟩ rfl)
    (e_each_cons (r_if_eq X (off := 5) (t := 19) dX11_date_14 (by decide) rfl)
    (e_each_cons (r_iconst X (n := 0) (v := 0) dX11_date_17 (by decide) rfl)
    (e_each_cons (r_ireti X dX11_date_18 rfl)
    (e_each_cons (r_iload_n X (k := 1) (i := 1) rfl dX11_date_19 rfl)
    (e_each_cons (r_iload_n X (k := 2) (i := 2) rfl dX11_date_20 rfl)
    (e_each_cons (r_callS X rfl (τ := sg_X11_eventAt) (index := 278) dX11_date_21 w7_101 w7_102 cs_X11_eventAt rfl ⟨by decide, by decide⟩ rfl)
    (e_each_cons (r_istore X (i := 6) dX11_date_24 (by decide) rfl)
    (e_each_cons (r_aload_n X (k := 0) (i := 0) rfl dX11_date_26 rfl)
    (e_each_cons (r_aload_n X (k := 0) (i := 0) rfl dX11_date_27 rfl)
    (e_each_cons (r_getP X (index := 7) (ci := 10) (k := 2) dX11_date_28 (by decide) (by decide) rfl w6_28 rfl)
    (e_each_cons (r_iload X (i := 6) dX11_date_31 rfl)
    (e_each_cons (r_callV X rfl (τ := sg_X11_laysDates) (index := 233) (ci := 10) dX11_date_33 (by decide) rfl w7_31 w7_33 ws_51 cs_X11_laysDates rfl ⟨by decide, by decide⟩ rfl)
    (e_each_cons (r_aload_n X (k := 0) (i := 0) rfl dX11_date_36 rfl)
    (e_each_cons (r_iload_n X (k := 3) (i := 3) rfl dX11_date_37 rfl)
    (e_each_cons (r_iconst X (n := 0) (v := 0) dX11_date_38 (by decide) rfl)
    (e_each_cons (r_aload_n X (k := 0) (i := 0) rfl dX11_date_39 rfl)
    (e_each_cons (r_getI X (index := 95) (ci := 10) (k := 8) dX11_date_40 (by decide) (by decide) rfl w6_34 rfl)
    (e_each_cons (r_iconst X (n := 1) (v := 1) dX11_date_43 (by decide) rfl)
    (e_each_cons (r_isub X dX11_date_44 rfl)
    (e_each_cons (r_callS X rfl (τ := sg_X11_in) (index := 75) dX11_date_45 w6_127 w6_128 cs_X11_in rfl ⟨by decide, by decide⟩ rfl)
    (e_each_cons (r_if_eq X (off := 18) (t := 66) dX11_date_48 (by decide) rfl)
    (e_each_cons (r_iload X (i := 4) dX11_date_51 rfl)
    (e_each_cons (r_iconst X (n := 0) (v := 0) dX11_date_53 (by decide) rfl)
    (e_each_cons (r_bipush X (n := 6) (v := 6) dX11_date_54 (by decide) rfl)
    (e_each_cons (r_callS X rfl (τ := sg_X11_in) (index := 75) dX11_date_56 w6_127 w6_128 cs_X11_in rfl ⟨by decide, by decide⟩ rfl)
    (e_each_cons (r_if_eq X (off := 7) (t := 66) dX11_date_59 (by decide) rfl)
    (e_each_cons (r_iconst X (n := 0) (v := 0) dX11_date_62 (by decide) rfl)
    (e_each_cons (r_goto X (off := 4) (t := 67) dX11_date_63 (by decide))
    (e_each_cons (r_iconst X (n := 3) (v := 3) dX11_date_66 (by decide) rfl)
    (e_each_cons (r_callV X rfl (τ := sg_X11_isRefused) (index := 71) (ci := 10) dX11_date_67 (by decide) rfl w6_119 w6_121 ws_31 cs_X11_isRefused rfl ⟨by decide, by decide⟩ rfl)
    (e_each_cons (r_if_eq X (off := 5) (t := 75) dX11_date_70 (by decide) rfl)
    (e_each_cons (r_iconst X (n := 0) (v := 0) dX11_date_73 (by decide) rfl)
    (e_each_cons (r_ireti X dX11_date_74 rfl)
    (e_each_cons (r_iload X (i := 4) dX11_date_75 rfl)
    (e_each_cons (r_tab X (dflt := 82) (lo := 0) (hi := 4) (ts := [112, 120, 128, 136, 152]) (dt := 159) dX11_date_77 (by decide) (by decide) (by decide))
    (e_each_cons (r_aload_n X (k := 0) (i := 0) rfl dX11_date_112 rfl)
    (e_each_cons (r_iload X (i := 6) dX11_date_113 rfl)
    (e_each_cons (r_iload_n X (k := 3) (i := 3) rfl dX11_date_115 rfl)
    (e_each_cons (r_callV X rfl (τ := sg_X11_dayOf) (index := 290) (ci := 10) dX11_date_116 (by decide) rfl w7_116 w7_118 ws_63 cs_X11_dayOf rfl ⟨by decide, by decide⟩ rfl)
    (e_each_cons (r_ireti X dX11_date_119 rfl)
    (e_each_cons (r_aload_n X (k := 0) (i := 0) rfl dX11_date_120 rfl)
    (e_each_cons (r_iload X (i := 6) dX11_date_121 rfl)
    (e_each_cons (r_iload_n X (k := 3) (i := 3) rfl dX11_date_123 rfl)
    (e_each_cons (r_callV X rfl (τ := sg_X11_minuteOf) (index := 293) (ci := 10) dX11_date_124 (by decide) rfl w7_120 w7_122 ws_64 cs_X11_minuteOf rfl ⟨by decide, by decide⟩ rfl)
    (e_each_cons (r_ireti X dX11_date_127 rfl)
    (e_each_cons (r_aload_n X (k := 0) (i := 0) rfl dX11_date_128 rfl)
    (e_each_cons (r_iload_n X (k := 1) (i := 1) rfl dX11_date_129 rfl)
    (e_each_cons (r_iload_n X (k := 2) (i := 2) rfl dX11_date_130 rfl)
    (e_each_cons (r_iload_n X (k := 3) (i := 3) rfl dX11_date_131 rfl)
    (e_each_cons (r_callV X rfl (τ := sg_X11_momentOfDate) (index := 296) (ci := 10) dX11_date_132 (by decide) rfl w7_124 w7_126 ws_65 cs_X11_momentOfDate rfl ⟨by decide, by decide⟩ rfl)
    (e_each_cons (r_ireti X dX11_date_135 rfl)
    (e_each_cons (r_aload_n X (k := 0) (i := 0) rfl dX11_date_136 rfl)
    (e_each_cons (r_iload X (i := 6) dX11_date_137 rfl)
    (e_each_cons (r_iload_n X (k := 3) (i := 3) rfl dX11_date_139 rfl)
    (e_each_cons (r_callV X rfl (τ := sg_X11_isShown) (index := 300) (ci := 10) dX11_date_140 (by decide) rfl w7_128 w7_130 ws_66 cs_X11_isShown rfl ⟨by decide, by decide⟩ rfl)
    (e_each_cons (r_if_eq X (off := 7) (t := 150) dX11_date_143 (by decide) rfl)
    (e_each_cons (r_iconst X (n := 1) (v := 1) dX11_date_146 (by decide) rfl)
    (e_each_cons (r_goto X (off := 4) (t := 151) dX11_date_147 (by decide))
    (e_each_cons (r_iconst X (n := 0) (v := 0) dX11_date_150 (by decide) rfl)
    (e_each_cons (r_ireti X dX11_date_151 rfl)
    (e_each_cons (r_aload_n X (k := 0) (i := 0) rfl dX11_date_152 rfl)
    (e_each_cons (r_getP X (index := 24) (ci := 10) (k := 7) dX11_date_153 (by decide) (by decide) rfl w6_33 rfl)
    (e_each_cons (r_iload_n X (k := 3) (i := 3) rfl dX11_date_156 rfl)
    (e_each_cons (r_iald X dX11_date_157 rfl)
    (e_each_cons (r_ireti X dX11_date_158 rfl)
    (e_each_cons (r_aload_n X (k := 0) (i := 0) rfl dX11_date_159 rfl)
    (e_each_cons (r_iload X (i := 6) dX11_date_160 rfl)
    (e_each_cons (r_iload X (i := 4) dX11_date_162 rfl)
    (e_each_cons (r_iconst X (n := 5) (v := 5) dX11_date_164 (by decide) rfl)
    (e_each_cons (r_isub X dX11_date_165 rfl)
    (e_each_cons (r_iload_n X (k := 3) (i := 3) rfl dX11_date_166 rfl)
    (e_each_cons (r_callV X rfl (τ := sg_X11_answerTo) (index := 303) (ci := 10) dX11_date_167 (by decide) rfl w7_132 w7_134 ws_67 cs_X11_answerTo rfl ⟨by decide, by decide⟩ rfl)
    (e_each_cons (r_ireti X dX11_date_170 rfl)
    (e_each_nil)))))))))))))))))))))))))))))))))))))))))))))))))))))))))))))))))))))))))))))))))
theorem dX11_answer_0 : decode cX11_answer 0 = .ok (.aload_n 0, 1) := by decide +kernel
theorem dX11_answer_1 : decode cX11_answer 1 = .ok (.iload_n 1, 1) := by decide +kernel
theorem dX11_answer_2 : decode cX11_answer 2 = .ok (.invokestatic 265, 3) := by decide +kernel
theorem dX11_answer_5 : decode cX11_answer 5 = .ok (.ifCond .eq 10, 3) := by decide +kernel
theorem dX11_answer_8 : decode cX11_answer 8 = .ok (.iload_n 3, 1) := by decide +kernel
theorem dX11_answer_9 : decode cX11_answer 9 = .ok (.invokestatic 306, 3) := by decide +kernel
theorem dX11_answer_12 : decode cX11_answer 12 = .ok (.ifCond .ne 7, 3) := by decide +kernel
theorem dX11_answer_15 : decode cX11_answer 15 = .ok (.iconst 1, 1) := by decide +kernel
theorem dX11_answer_16 : decode cX11_answer 16 = .ok (.goto 17, 3) := by decide +kernel
theorem dX11_answer_19 : decode cX11_answer 19 = .ok (.aload_n 0, 1) := by decide +kernel
theorem dX11_answer_20 : decode cX11_answer 20 = .ok (.iload_n 1, 1) := by decide +kernel
theorem dX11_answer_21 : decode cX11_answer 21 = .ok (.iload_n 2, 1) := by decide +kernel
theorem dX11_answer_22 : decode cX11_answer 22 = .ok (.invokevirtual 281, 3) := by decide +kernel
theorem dX11_answer_25 : decode cX11_answer 25 = .ok (.ifCond .eq 7, 3) := by decide +kernel
theorem dX11_answer_28 : decode cX11_answer 28 = .ok (.iconst 0, 1) := by decide +kernel
theorem dX11_answer_29 : decode cX11_answer 29 = .ok (.goto 4, 3) := by decide +kernel
theorem dX11_answer_32 : decode cX11_answer 32 = .ok (.iconst 2, 1) := by decide +kernel
theorem dX11_answer_33 : decode cX11_answer 33 = .ok (.invokevirtual 71, 3) := by decide +kernel
theorem dX11_answer_36 : decode cX11_answer 36 = .ok (.ifCond .eq 5, 3) := by decide +kernel
theorem dX11_answer_39 : decode cX11_answer 39 = .ok (.iconst 0, 1) := by decide +kernel
theorem dX11_answer_40 : decode cX11_answer 40 = .ok (.ireturn, 1) := by decide +kernel
theorem dX11_answer_41 : decode cX11_answer 41 = .ok (.aload_n 0, 1) := by decide +kernel
theorem dX11_answer_42 : decode cX11_answer 42 = .ok (.getfield 7, 3) := by decide +kernel
theorem dX11_answer_45 : decode cX11_answer 45 = .ok (.iload_n 1, 1) := by decide +kernel
theorem dX11_answer_46 : decode cX11_answer 46 = .ok (.iload_n 2, 1) := by decide +kernel
theorem dX11_answer_47 : decode cX11_answer 47 = .ok (.invokestatic 278, 3) := by decide +kernel
theorem dX11_answer_50 : decode cX11_answer 50 = .ok (.bipush 14, 2) := by decide +kernel
theorem dX11_answer_52 : decode cX11_answer 52 = .ok (.iadd, 1) := by decide +kernel
theorem dX11_answer_53 : decode cX11_answer 53 = .ok (.iload_n 3, 1) := by decide +kernel
theorem dX11_answer_54 : decode cX11_answer 54 = .ok (.iadd, 1) := by decide +kernel
theorem dX11_answer_55 : decode cX11_answer 55 = .ok (.iaload, 1) := by decide +kernel
theorem dX11_answer_56 : decode cX11_answer 56 = .ok (.ireturn, 1) := by decide +kernel
def pg_X11_answer (l : Launch) (g : EG) : List (Nat × ES) := [(0, s_ldP 0), (1, s_ldI 1), (2, s_callS l g sg_X11_answer sg_X11_isPlace), (5, s_if_eq 15), (8, s_ldI 3), (9, s_callS l g sg_X11_answer sg_X11_isSide), (12, s_if_ne 19), (15, s_c (.inl 1)), (16, s_goto 33), (19, s_ldP 0), (20, s_ldI 1), (21, s_ldI 2), (22, s_callV l g sg_X11_answer sg_X11_isThere 10), (25, s_if_eq 32), (28, s_c (.inl 0)), (29, s_goto 33), (32, s_c (.inl 2)), (33, s_callV l g sg_X11_answer sg_X11_isRefused 10), (36, s_if_eq 41), (39, s_c (.inl 0)), (40, s_ireti), (41, s_ldP 0), (42, s_getP 10 2), (45, s_ldI 1), (46, s_ldI 2), (47, s_callS l g sg_X11_answer sg_X11_eventAt), (50, s_c (.inl 14)), (52, s_ii (fun x y => x + y)), (53, s_ldI 3), (54, s_ii (fun x y => x + y)), (55, s_iald), (56, s_ireti)]
set_option maxRecDepth 100000 in
theorem ok_X11_answer {l : Launch} {g : EG} : e_okp l g sg_X11_answer "CalendarSyncModel" (pg_X11_answer l g) := fun p e R s m args below meth c ex M0 Q X =>
    e_each_cons (r_aload_n X (k := 0) (i := 0) rfl dX11_answer_0 rfl)
    (e_each_cons (r_iload_n X (k := 1) (i := 1) rfl dX11_answer_1 rfl)
    (e_each_cons (r_callS X rfl (τ := sg_X11_isPlace) (index := 265) dX11_answer_2 w7_68 w7_69 cs_X11_isPlace rfl ⟨by decide, by decide⟩ rfl)
    (e_each_cons (r_if_eq X (off := 10) (t := 15) dX11_answer_5 (by decide) rfl)
    (e_each_cons (r_iload_n X (k := 3) (i := 3) rfl dX11_answer_8 rfl)
    (e_each_cons (r_callS X rfl (τ := sg_X11_isSide) (index := 306) dX11_answer_9 w7_140 w7_141 cs_X11_isSide rfl ⟨by decide, by decide⟩ rfl)
    (e_each_cons (r_if_ne X (off := 7) (t := 19) dX11_answer_12 (by decide) rfl)
    (e_each_cons (r_iconst X (n := 1) (v := 1) dX11_answer_15 (by decide) rfl)
    (e_each_cons (r_goto X (off := 17) (t := 33) dX11_answer_16 (by decide))
    (e_each_cons (r_aload_n X (k := 0) (i := 0) rfl dX11_answer_19 rfl)
    (e_each_cons (r_iload_n X (k := 1) (i := 1) rfl dX11_answer_20 rfl)
    (e_each_cons (r_iload_n X (k := 2) (i := 2) rfl dX11_answer_21 rfl)
    (e_each_cons (r_callV X rfl (τ := sg_X11_isThere) (index := 281) (ci := 10) dX11_answer_22 (by decide) rfl w7_97 w7_99 ws_61 cs_X11_isThere rfl ⟨by decide, by decide⟩ rfl)
    (e_each_cons (r_if_eq X (off := 7) (t := 32) dX11_answer_25 (by decide) rfl)
    (e_each_cons (r_iconst X (n := 0) (v := 0) dX11_answer_28 (by decide) rfl)
    (e_each_cons (r_goto X (off := 4) (t := 33) dX11_answer_29 (by decide))
    (e_each_cons (r_iconst X (n := 2) (v := 2) dX11_answer_32 (by decide) rfl)
    (e_each_cons (r_callV X rfl (τ := sg_X11_isRefused) (index := 71) (ci := 10) dX11_answer_33 (by decide) rfl w6_119 w6_121 ws_31 cs_X11_isRefused rfl ⟨by decide, by decide⟩ rfl)
    (e_each_cons (r_if_eq X (off := 5) (t := 41) dX11_answer_36 (by decide) rfl)
    (e_each_cons (r_iconst X (n := 0) (v := 0) dX11_answer_39 (by decide) rfl)
    (e_each_cons (r_ireti X dX11_answer_40 rfl)
    (e_each_cons (r_aload_n X (k := 0) (i := 0) rfl dX11_answer_41 rfl)
    (e_each_cons (r_getP X (index := 7) (ci := 10) (k := 2) dX11_answer_42 (by decide) (by decide) rfl w6_28 rfl)
    (e_each_cons (r_iload_n X (k := 1) (i := 1) rfl dX11_answer_45 rfl)
    (e_each_cons (r_iload_n X (k := 2) (i := 2) rfl dX11_answer_46 rfl)
    (e_each_cons (r_callS X rfl (τ := sg_X11_eventAt) (index := 278) dX11_answer_47 w7_101 w7_102 cs_X11_eventAt rfl ⟨by decide, by decide⟩ rfl)
    (e_each_cons (r_bipush X (n := 14) (v := 14) dX11_answer_50 (by decide) rfl)
    (e_each_cons (r_iadd X dX11_answer_52 rfl)
    (e_each_cons (r_iload_n X (k := 3) (i := 3) rfl dX11_answer_53 rfl)
    (e_each_cons (r_iadd X dX11_answer_54 rfl)
    (e_each_cons (r_iald X dX11_answer_55 rfl)
    (e_each_cons (r_ireti X dX11_answer_56 rfl)
    (e_each_nil))))))))))))))))))))))))))))))))
theorem dX11_enters_0 : decode cX11_enters 0 = .ok (.aload_n 0, 1) := by decide +kernel
theorem dX11_enters_1 : decode cX11_enters 1 = .ok (.getfield 309, 3) := by decide +kernel
theorem dX11_enters_4 : decode cX11_enters 4 = .ok (.istore 5, 2) := by decide +kernel
theorem dX11_enters_6 : decode cX11_enters 6 = .ok (.iload 5, 2) := by decide +kernel
theorem dX11_enters_8 : decode cX11_enters 8 = .ok (.ifCond .le 89, 3) := by decide +kernel
theorem dX11_enters_11 : decode cX11_enters 11 = .ok (.aload_n 0, 1) := by decide +kernel
theorem dX11_enters_12 : decode cX11_enters 12 = .ok (.getfield 43, 3) := by decide +kernel
theorem dX11_enters_15 : decode cX11_enters 15 = .ok (.iload 5, 2) := by decide +kernel
theorem dX11_enters_17 : decode cX11_enters 17 = .ok (.iconst 1, 1) := by decide +kernel
theorem dX11_enters_18 : decode cX11_enters 18 = .ok (.isub, 1) := by decide +kernel
theorem dX11_enters_19 : decode cX11_enters 19 = .ok (.iaload, 1) := by decide +kernel
theorem dX11_enters_20 : decode cX11_enters 20 = .ok (.iload_n 3, 1) := by decide +kernel
theorem dX11_enters_21 : decode cX11_enters 21 = .ok (.if_icmp .le 76, 3) := by decide +kernel
theorem dX11_enters_24 : decode cX11_enters 24 = .ok (.aload_n 0, 1) := by decide +kernel
theorem dX11_enters_25 : decode cX11_enters 25 = .ok (.getfield 37, 3) := by decide +kernel
theorem dX11_enters_28 : decode cX11_enters 28 = .ok (.iload 5, 2) := by decide +kernel
theorem dX11_enters_30 : decode cX11_enters 30 = .ok (.aload_n 0, 1) := by decide +kernel
theorem dX11_enters_31 : decode cX11_enters 31 = .ok (.getfield 37, 3) := by decide +kernel
theorem dX11_enters_34 : decode cX11_enters 34 = .ok (.iload 5, 2) := by decide +kernel
theorem dX11_enters_36 : decode cX11_enters 36 = .ok (.iconst 1, 1) := by decide +kernel
theorem dX11_enters_37 : decode cX11_enters 37 = .ok (.isub, 1) := by decide +kernel
theorem dX11_enters_38 : decode cX11_enters 38 = .ok (.iaload, 1) := by decide +kernel
theorem dX11_enters_39 : decode cX11_enters 39 = .ok (.iastore, 1) := by decide +kernel
theorem dX11_enters_40 : decode cX11_enters 40 = .ok (.aload_n 0, 1) := by decide +kernel
theorem dX11_enters_41 : decode cX11_enters 41 = .ok (.getfield 40, 3) := by decide +kernel
theorem dX11_enters_44 : decode cX11_enters 44 = .ok (.iload 5, 2) := by decide +kernel
theorem dX11_enters_46 : decode cX11_enters 46 = .ok (.aload_n 0, 1) := by decide +kernel
theorem dX11_enters_47 : decode cX11_enters 47 = .ok (.getfield 40, 3) := by decide +kernel
theorem dX11_enters_50 : decode cX11_enters 50 = .ok (.iload 5, 2) := by decide +kernel
theorem dX11_enters_52 : decode cX11_enters 52 = .ok (.iconst 1, 1) := by decide +kernel
theorem dX11_enters_53 : decode cX11_enters 53 = .ok (.isub, 1) := by decide +kernel
theorem dX11_enters_54 : decode cX11_enters 54 = .ok (.iaload, 1) := by decide +kernel
theorem dX11_enters_55 : decode cX11_enters 55 = .ok (.iastore, 1) := by decide +kernel
theorem dX11_enters_56 : decode cX11_enters 56 = .ok (.aload_n 0, 1) := by decide +kernel
theorem dX11_enters_57 : decode cX11_enters 57 = .ok (.getfield 43, 3) := by decide +kernel
theorem dX11_enters_60 : decode cX11_enters 60 = .ok (.iload 5, 2) := by decide +kernel
theorem dX11_enters_62 : decode cX11_enters 62 = .ok (.aload_n 0, 1) := by decide +kernel
theorem dX11_enters_63 : decode cX11_enters 63 = .ok (.getfield 43, 3) := by decide +kernel
theorem dX11_enters_66 : decode cX11_enters 66 = .ok (.iload 5, 2) := by decide +kernel
theorem dX11_enters_68 : decode cX11_enters 68 = .ok (.iconst 1, 1) := by decide +kernel
theorem dX11_enters_69 : decode cX11_enters 69 = .ok (.isub, 1) := by decide +kernel
theorem dX11_enters_70 : decode cX11_enters 70 = .ok (.iaload, 1) := by decide +kernel
theorem dX11_enters_71 : decode cX11_enters 71 = .ok (.iastore, 1) := by decide +kernel
theorem dX11_enters_72 : decode cX11_enters 72 = .ok (.aload_n 0, 1) := by decide +kernel
theorem dX11_enters_73 : decode cX11_enters 73 = .ok (.getfield 46, 3) := by decide +kernel
theorem dX11_enters_76 : decode cX11_enters 76 = .ok (.iload 5, 2) := by decide +kernel
theorem dX11_enters_78 : decode cX11_enters 78 = .ok (.aload_n 0, 1) := by decide +kernel
theorem dX11_enters_79 : decode cX11_enters 79 = .ok (.getfield 46, 3) := by decide +kernel
theorem dX11_enters_82 : decode cX11_enters 82 = .ok (.iload 5, 2) := by decide +kernel
theorem dX11_enters_84 : decode cX11_enters 84 = .ok (.iconst 1, 1) := by decide +kernel
theorem dX11_enters_85 : decode cX11_enters 85 = .ok (.isub, 1) := by decide +kernel
theorem dX11_enters_86 : decode cX11_enters 86 = .ok (.iaload, 1) := by decide +kernel
theorem dX11_enters_87 : decode cX11_enters 87 = .ok (.iastore, 1) := by decide +kernel
theorem dX11_enters_88 : decode cX11_enters 88 = .ok (.iload 5, 2) := by decide +kernel
theorem dX11_enters_90 : decode cX11_enters 90 = .ok (.iconst 1, 1) := by decide +kernel
theorem dX11_enters_91 : decode cX11_enters 91 = .ok (.isub, 1) := by decide +kernel
theorem dX11_enters_92 : decode cX11_enters 92 = .ok (.istore 5, 2) := by decide +kernel
theorem dX11_enters_94 : decode cX11_enters 94 = .ok (.goto (-88), 3) := by decide +kernel
theorem dX11_enters_97 : decode cX11_enters 97 = .ok (.aload_n 0, 1) := by decide +kernel
theorem dX11_enters_98 : decode cX11_enters 98 = .ok (.getfield 37, 3) := by decide +kernel
theorem dX11_enters_101 : decode cX11_enters 101 = .ok (.iload 5, 2) := by decide +kernel
theorem dX11_enters_103 : decode cX11_enters 103 = .ok (.iload_n 1, 1) := by decide +kernel
theorem dX11_enters_104 : decode cX11_enters 104 = .ok (.iastore, 1) := by decide +kernel
theorem dX11_enters_105 : decode cX11_enters 105 = .ok (.aload_n 0, 1) := by decide +kernel
theorem dX11_enters_106 : decode cX11_enters 106 = .ok (.getfield 40, 3) := by decide +kernel
theorem dX11_enters_109 : decode cX11_enters 109 = .ok (.iload 5, 2) := by decide +kernel
theorem dX11_enters_111 : decode cX11_enters 111 = .ok (.iload_n 2, 1) := by decide +kernel
theorem dX11_enters_112 : decode cX11_enters 112 = .ok (.iastore, 1) := by decide +kernel
theorem dX11_enters_113 : decode cX11_enters 113 = .ok (.aload_n 0, 1) := by decide +kernel
theorem dX11_enters_114 : decode cX11_enters 114 = .ok (.getfield 43, 3) := by decide +kernel
theorem dX11_enters_117 : decode cX11_enters 117 = .ok (.iload 5, 2) := by decide +kernel
theorem dX11_enters_119 : decode cX11_enters 119 = .ok (.iload_n 3, 1) := by decide +kernel
theorem dX11_enters_120 : decode cX11_enters 120 = .ok (.iastore, 1) := by decide +kernel
theorem dX11_enters_121 : decode cX11_enters 121 = .ok (.aload_n 0, 1) := by decide +kernel
theorem dX11_enters_122 : decode cX11_enters 122 = .ok (.getfield 46, 3) := by decide +kernel
theorem dX11_enters_125 : decode cX11_enters 125 = .ok (.iload 5, 2) := by decide +kernel
theorem dX11_enters_127 : decode cX11_enters 127 = .ok (.iload 4, 2) := by decide +kernel
theorem dX11_enters_129 : decode cX11_enters 129 = .ok (.iastore, 1) := by decide +kernel
theorem dX11_enters_130 : decode cX11_enters 130 = .ok (.aload_n 0, 1) := by decide +kernel
theorem dX11_enters_131 : decode cX11_enters 131 = .ok (.aload_n 0, 1) := by decide +kernel
theorem dX11_enters_132 : decode cX11_enters 132 = .ok (.getfield 309, 3) := by decide +kernel
theorem dX11_enters_135 : decode cX11_enters 135 = .ok (.iconst 1, 1) := by decide +kernel
theorem dX11_enters_136 : decode cX11_enters 136 = .ok (.iadd, 1) := by decide +kernel
theorem dX11_enters_137 : decode cX11_enters 137 = .ok (.putfield 309, 3) := by decide +kernel
theorem dX11_enters_140 : decode cX11_enters 140 = .ok (.return_, 1) := by decide +kernel
def pg_X11_enters (l : Launch) (g : EG) : List (Nat × ES) := [(0, s_ldP 0), (1, s_getI 10 25), (4, s_stI 5), (6, s_ldI 5), (8, s_if_le 97), (11, s_ldP 0), (12, s_getP 10 23), (15, s_ldI 5), (17, s_c (.inl 1)), (18, s_ii (fun x y => x - y)), (19, s_iald), (20, s_ldI 3), (21, s_icmp_le 97), (24, s_ldP 0), (25, s_getP 10 21), (28, s_ldI 5), (30, s_ldP 0), (31, s_getP 10 21), (34, s_ldI 5), (36, s_c (.inl 1)), (37, s_ii (fun x y => x - y)), (38, s_iald), (39, s_iast), (40, s_ldP 0), (41, s_getP 10 22), (44, s_ldI 5), (46, s_ldP 0), (47, s_getP 10 22), (50, s_ldI 5), (52, s_c (.inl 1)), (53, s_ii (fun x y => x - y)), (54, s_iald), (55, s_iast), (56, s_ldP 0), (57, s_getP 10 23), (60, s_ldI 5), (62, s_ldP 0), (63, s_getP 10 23), (66, s_ldI 5), (68, s_c (.inl 1)), (69, s_ii (fun x y => x - y)), (70, s_iald), (71, s_iast), (72, s_ldP 0), (73, s_getP 10 24), (76, s_ldI 5), (78, s_ldP 0), (79, s_getP 10 24), (82, s_ldI 5), (84, s_c (.inl 1)), (85, s_ii (fun x y => x - y)), (86, s_iald), (87, s_iast), (88, s_ldI 5), (90, s_c (.inl 1)), (91, s_ii (fun x y => x - y)), (92, s_stI 5), (94, s_goto 6), (97, s_ldP 0), (98, s_getP 10 21), (101, s_ldI 5), (103, s_ldI 1), (104, s_iast), (105, s_ldP 0), (106, s_getP 10 22), (109, s_ldI 5), (111, s_ldI 2), (112, s_iast), (113, s_ldP 0), (114, s_getP 10 23), (117, s_ldI 5), (119, s_ldI 3), (120, s_iast), (121, s_ldP 0), (122, s_getP 10 24), (125, s_ldI 5), (127, s_ldI 4), (129, s_iast), (130, s_ldP 0), (131, s_ldP 0), (132, s_getI 10 25), (135, s_c (.inl 1)), (136, s_ii (fun x y => x + y)), (137, s_putI 10 25), (140, s_vret)]
set_option maxRecDepth 100000 in
theorem ok_X11_enters {l : Launch} {g : EG} : e_okp l g sg_X11_enters "CalendarSyncModel" (pg_X11_enters l g) := fun p e R s m args below meth c ex M0 Q X =>
    e_each_cons (r_aload_n X (k := 0) (i := 0) rfl dX11_enters_0 rfl)
    (e_each_cons (r_getI X (index := 309) (ci := 10) (k := 25) dX11_enters_1 (by decide) (by decide) rfl w6_51 rfl)
    (e_each_cons (r_istore X (i := 5) dX11_enters_4 (by decide) rfl)
    (e_each_cons (r_iload X (i := 5) dX11_enters_6 rfl)
    (e_each_cons (r_if_le X (off := 89) (t := 97) dX11_enters_8 (by decide) rfl)
    (e_each_cons (r_aload_n X (k := 0) (i := 0) rfl dX11_enters_11 rfl)
    (e_each_cons (r_getP X (index := 43) (ci := 10) (k := 23) dX11_enters_12 (by decide) (by decide) rfl w6_49 rfl)
    (e_each_cons (r_iload X (i := 5) dX11_enters_15 rfl)
    (e_each_cons (r_iconst X (n := 1) (v := 1) dX11_enters_17 (by decide) rfl)
    (e_each_cons (r_isub X dX11_enters_18 rfl)
    (e_each_cons (r_iald X dX11_enters_19 rfl)
    (e_each_cons (r_iload_n X (k := 3) (i := 3) rfl dX11_enters_20 rfl)
    (e_each_cons (r_icmp_le X (off := 76) (t := 97) dX11_enters_21 (by decide) rfl)
    (e_each_cons (r_aload_n X (k := 0) (i := 0) rfl dX11_enters_24 rfl)
    (e_each_cons (r_getP X (index := 37) (ci := 10) (k := 21) dX11_enters_25 (by decide) (by decide) rfl w6_47 rfl)
    (e_each_cons (r_iload X (i := 5) dX11_enters_28 rfl)
    (e_each_cons (r_aload_n X (k := 0) (i := 0) rfl dX11_enters_30 rfl)
    (e_each_cons (r_getP X (index := 37) (ci := 10) (k := 21) dX11_enters_31 (by decide) (by decide) rfl w6_47 rfl)
    (e_each_cons (r_iload X (i := 5) dX11_enters_34 rfl)
    (e_each_cons (r_iconst X (n := 1) (v := 1) dX11_enters_36 (by decide) rfl)
    (e_each_cons (r_isub X dX11_enters_37 rfl)
    (e_each_cons (r_iald X dX11_enters_38 rfl)
    (e_each_cons (r_iast X dX11_enters_39 rfl)
    (e_each_cons (r_aload_n X (k := 0) (i := 0) rfl dX11_enters_40 rfl)
    (e_each_cons (r_getP X (index := 40) (ci := 10) (k := 22) dX11_enters_41 (by decide) (by decide) rfl w6_48 rfl)
    (e_each_cons (r_iload X (i := 5) dX11_enters_44 rfl)
    (e_each_cons (r_aload_n X (k := 0) (i := 0) rfl dX11_enters_46 rfl)
    (e_each_cons (r_getP X (index := 40) (ci := 10) (k := 22) dX11_enters_47 (by decide) (by decide) rfl w6_48 rfl)
    (e_each_cons (r_iload X (i := 5) dX11_enters_50 rfl)
    (e_each_cons (r_iconst X (n := 1) (v := 1) dX11_enters_52 (by decide) rfl)
    (e_each_cons (r_isub X dX11_enters_53 rfl)
    (e_each_cons (r_iald X dX11_enters_54 rfl)
    (e_each_cons (r_iast X dX11_enters_55 rfl)
    (e_each_cons (r_aload_n X (k := 0) (i := 0) rfl dX11_enters_56 rfl)
    (e_each_cons (r_getP X (index := 43) (ci := 10) (k := 23) dX11_enters_57 (by decide) (by decide) rfl w6_49 rfl)
    (e_each_cons (r_iload X (i := 5) dX11_enters_60 rfl)
    (e_each_cons (r_aload_n X (k := 0) (i := 0) rfl dX11_enters_62 rfl)
    (e_each_cons (r_getP X (index := 43) (ci := 10) (k := 23) dX11_enters_63 (by decide) (by decide) rfl w6_49 rfl)
    (e_each_cons (r_iload X (i := 5) dX11_enters_66 rfl)
    (e_each_cons (r_iconst X (n := 1) (v := 1) dX11_enters_68 (by decide) rfl)
    (e_each_cons (r_isub X dX11_enters_69 rfl)
    (e_each_cons (r_iald X dX11_enters_70 rfl)
    (e_each_cons (r_iast X dX11_enters_71 rfl)
    (e_each_cons (r_aload_n X (k := 0) (i := 0) rfl dX11_enters_72 rfl)
    (e_each_cons (r_getP X (index := 46) (ci := 10) (k := 24) dX11_enters_73 (by decide) (by decide) rfl w6_50 rfl)
    (e_each_cons (r_iload X (i := 5) dX11_enters_76 rfl)
    (e_each_cons (r_aload_n X (k := 0) (i := 0) rfl dX11_enters_78 rfl)
    (e_each_cons (r_getP X (index := 46) (ci := 10) (k := 24) dX11_enters_79 (by decide) (by decide) rfl w6_50 rfl)
    (e_each_cons (r_iload X (i := 5) dX11_enters_82 rfl)
    (e_each_cons (r_iconst X (n := 1) (v := 1) dX11_enters_84 (by decide) rfl)
    (e_each_cons (r_isub X dX11_enters_85 rfl)
    (e_each_cons (r_iald X dX11_enters_86 rfl)
    (e_each_cons (r_iast X dX11_enters_87 rfl)
    (e_each_cons (r_iload X (i := 5) dX11_enters_88 rfl)
    (e_each_cons (r_iconst X (n := 1) (v := 1) dX11_enters_90 (by decide) rfl)
    (e_each_cons (r_isub X dX11_enters_91 rfl)
    (e_each_cons (r_istore X (i := 5) dX11_enters_92 (by decide) rfl)
    (e_each_cons (r_goto X (off := (-88)) (t := 6) dX11_enters_94 (by decide))
    (e_each_cons (r_aload_n X (k := 0) (i := 0) rfl dX11_enters_97 rfl)
    (e_each_cons (r_getP X (index := 37) (ci := 10) (k := 21) dX11_enters_98 (by decide) (by decide) rfl w6_47 rfl)
    (e_each_cons (r_iload X (i := 5) dX11_enters_101 rfl)
    (e_each_cons (r_iload_n X (k := 1) (i := 1) rfl dX11_enters_103 rfl)
    (e_each_cons (r_iast X dX11_enters_104 rfl)
    (e_each_cons (r_aload_n X (k := 0) (i := 0) rfl dX11_enters_105 rfl)
    (e_each_cons (r_getP X (index := 40) (ci := 10) (k := 22) dX11_enters_106 (by decide) (by decide) rfl w6_48 rfl)
    (e_each_cons (r_iload X (i := 5) dX11_enters_109 rfl)
    (e_each_cons (r_iload_n X (k := 2) (i := 2) rfl dX11_enters_111 rfl)
    (e_each_cons (r_iast X dX11_enters_112 rfl)
    (e_each_cons (r_aload_n X (k := 0) (i := 0) rfl dX11_enters_113 rfl)
    (e_each_cons (r_getP X (index := 43) (ci := 10) (k := 23) dX11_enters_114 (by decide) (by decide) rfl w6_49 rfl)
    (e_each_cons (r_iload X (i := 5) dX11_enters_117 rfl)
    (e_each_cons (r_iload_n X (k := 3) (i := 3) rfl dX11_enters_119 rfl)
    (e_each_cons (r_iast X dX11_enters_120 rfl)
    (e_each_cons (r_aload_n X (k := 0) (i := 0) rfl dX11_enters_121 rfl)
    (e_each_cons (r_getP X (index := 46) (ci := 10) (k := 24) dX11_enters_122 (by decide) (by decide) rfl w6_50 rfl)
    (e_each_cons (r_iload X (i := 5) dX11_enters_125 rfl)
    (e_each_cons (r_iload X (i := 4) dX11_enters_127 rfl)
    (e_each_cons (r_iast X dX11_enters_129 rfl)
    (e_each_cons (r_aload_n X (k := 0) (i := 0) rfl dX11_enters_130 rfl)
    (e_each_cons (r_aload_n X (k := 0) (i := 0) rfl dX11_enters_131 rfl)
    (e_each_cons (r_getI X (index := 309) (ci := 10) (k := 25) dX11_enters_132 (by decide) (by decide) rfl w6_51 rfl)
    (e_each_cons (r_iconst X (n := 1) (v := 1) dX11_enters_135 (by decide) rfl)
    (e_each_cons (r_iadd X dX11_enters_136 rfl)
    (e_each_cons (r_putI X (index := 309) (ci := 10) (k := 25) dX11_enters_137 (by decide) (by decide) rfl rfl w6_51 rfl)
    (e_each_cons (r_vret X dX11_enters_140 rfl)
    (e_each_nil)))))))))))))))))))))))))))))))))))))))))))))))))))))))))))))))))))))))))))))))))))))
theorem dX11_laysAgenda_0 : decode cX11_laysAgenda 0 = .ok (.aload_n 0, 1) := by decide +kernel
theorem dX11_laysAgenda_1 : decode cX11_laysAgenda 1 = .ok (.iconst 0, 1) := by decide +kernel
theorem dX11_laysAgenda_2 : decode cX11_laysAgenda 2 = .ok (.putfield 309, 3) := by decide +kernel
theorem dX11_laysAgenda_5 : decode cX11_laysAgenda 5 = .ok (.iconst 0, 1) := by decide +kernel
theorem dX11_laysAgenda_6 : decode cX11_laysAgenda 6 = .ok (.istore_n 2, 1) := by decide +kernel
theorem dX11_laysAgenda_7 : decode cX11_laysAgenda 7 = .ok (.iload_n 2, 1) := by decide +kernel
theorem dX11_laysAgenda_8 : decode cX11_laysAgenda 8 = .ok (.bipush 8, 2) := by decide +kernel
theorem dX11_laysAgenda_10 : decode cX11_laysAgenda 10 = .ok (.if_icmp .ge 87, 3) := by decide +kernel
theorem dX11_laysAgenda_13 : decode cX11_laysAgenda 13 = .ok (.aload_n 0, 1) := by decide +kernel
theorem dX11_laysAgenda_14 : decode cX11_laysAgenda 14 = .ok (.iload_n 1, 1) := by decide +kernel
theorem dX11_laysAgenda_15 : decode cX11_laysAgenda 15 = .ok (.iload_n 2, 1) := by decide +kernel
theorem dX11_laysAgenda_16 : decode cX11_laysAgenda 16 = .ok (.invokevirtual 281, 3) := by decide +kernel
theorem dX11_laysAgenda_19 : decode cX11_laysAgenda 19 = .ok (.ifCond .ne 6, 3) := by decide +kernel
theorem dX11_laysAgenda_22 : decode cX11_laysAgenda 22 = .ok (.goto 69, 3) := by decide +kernel
theorem dX11_laysAgenda_25 : decode cX11_laysAgenda 25 = .ok (.iload_n 1, 1) := by decide +kernel
theorem dX11_laysAgenda_26 : decode cX11_laysAgenda 26 = .ok (.iload_n 2, 1) := by decide +kernel
theorem dX11_laysAgenda_27 : decode cX11_laysAgenda 27 = .ok (.invokestatic 278, 3) := by decide +kernel
theorem dX11_laysAgenda_30 : decode cX11_laysAgenda 30 = .ok (.istore_n 3, 1) := by decide +kernel
theorem dX11_laysAgenda_31 : decode cX11_laysAgenda 31 = .ok (.aload_n 0, 1) := by decide +kernel
theorem dX11_laysAgenda_32 : decode cX11_laysAgenda 32 = .ok (.aload_n 0, 1) := by decide +kernel
theorem dX11_laysAgenda_33 : decode cX11_laysAgenda 33 = .ok (.getfield 7, 3) := by decide +kernel
theorem dX11_laysAgenda_36 : decode cX11_laysAgenda 36 = .ok (.iload_n 3, 1) := by decide +kernel
theorem dX11_laysAgenda_37 : decode cX11_laysAgenda 37 = .ok (.invokevirtual 233, 3) := by decide +kernel
theorem dX11_laysAgenda_40 : decode cX11_laysAgenda 40 = .ok (.iconst 0, 1) := by decide +kernel
theorem dX11_laysAgenda_41 : decode cX11_laysAgenda 41 = .ok (.istore 4, 2) := by decide +kernel
theorem dX11_laysAgenda_43 : decode cX11_laysAgenda 43 = .ok (.iload 4, 2) := by decide +kernel
theorem dX11_laysAgenda_45 : decode cX11_laysAgenda 45 = .ok (.aload_n 0, 1) := by decide +kernel
theorem dX11_laysAgenda_46 : decode cX11_laysAgenda 46 = .ok (.getfield 95, 3) := by decide +kernel
theorem dX11_laysAgenda_49 : decode cX11_laysAgenda 49 = .ok (.if_icmp .ge 42, 3) := by decide +kernel
theorem dX11_laysAgenda_52 : decode cX11_laysAgenda 52 = .ok (.aload_n 0, 1) := by decide +kernel
theorem dX11_laysAgenda_53 : decode cX11_laysAgenda 53 = .ok (.iload_n 3, 1) := by decide +kernel
theorem dX11_laysAgenda_54 : decode cX11_laysAgenda 54 = .ok (.iload 4, 2) := by decide +kernel
theorem dX11_laysAgenda_56 : decode cX11_laysAgenda 56 = .ok (.invokevirtual 300, 3) := by decide +kernel
theorem dX11_laysAgenda_59 : decode cX11_laysAgenda 59 = .ok (.ifCond .eq 26, 3) := by decide +kernel
theorem dX11_laysAgenda_62 : decode cX11_laysAgenda 62 = .ok (.aload_n 0, 1) := by decide +kernel
theorem dX11_laysAgenda_63 : decode cX11_laysAgenda 63 = .ok (.iload_n 2, 1) := by decide +kernel
theorem dX11_laysAgenda_64 : decode cX11_laysAgenda 64 = .ok (.iload 4, 2) := by decide +kernel
theorem dX11_laysAgenda_66 : decode cX11_laysAgenda 66 = .ok (.aload_n 0, 1) := by decide +kernel
theorem dX11_laysAgenda_67 : decode cX11_laysAgenda 67 = .ok (.iload_n 1, 1) := by decide +kernel
theorem dX11_laysAgenda_68 : decode cX11_laysAgenda 68 = .ok (.iload_n 2, 1) := by decide +kernel
theorem dX11_laysAgenda_69 : decode cX11_laysAgenda 69 = .ok (.iload 4, 2) := by decide +kernel
theorem dX11_laysAgenda_71 : decode cX11_laysAgenda 71 = .ok (.invokevirtual 296, 3) := by decide +kernel
theorem dX11_laysAgenda_74 : decode cX11_laysAgenda 74 = .ok (.aload_n 0, 1) := by decide +kernel
theorem dX11_laysAgenda_75 : decode cX11_laysAgenda 75 = .ok (.getfield 7, 3) := by decide +kernel
theorem dX11_laysAgenda_78 : decode cX11_laysAgenda 78 = .ok (.iload_n 3, 1) := by decide +kernel
theorem dX11_laysAgenda_79 : decode cX11_laysAgenda 79 = .ok (.iconst 3, 1) := by decide +kernel
theorem dX11_laysAgenda_80 : decode cX11_laysAgenda 80 = .ok (.iadd, 1) := by decide +kernel
theorem dX11_laysAgenda_81 : decode cX11_laysAgenda 81 = .ok (.iaload, 1) := by decide +kernel
theorem dX11_laysAgenda_82 : decode cX11_laysAgenda 82 = .ok (.invokevirtual 312, 3) := by decide +kernel
theorem dX11_laysAgenda_85 : decode cX11_laysAgenda 85 = .ok (.iinc 4 1, 3) := by decide +kernel
theorem dX11_laysAgenda_88 : decode cX11_laysAgenda 88 = .ok (.goto (-45), 3) := by decide +kernel
theorem dX11_laysAgenda_91 : decode cX11_laysAgenda 91 = .ok (.iinc 2 1, 3) := by decide +kernel
theorem dX11_laysAgenda_94 : decode cX11_laysAgenda 94 = .ok (.goto (-87), 3) := by decide +kernel
theorem dX11_laysAgenda_97 : decode cX11_laysAgenda 97 = .ok (.return_, 1) := by decide +kernel
def pg_X11_laysAgenda (l : Launch) (g : EG) : List (Nat × ES) := [(0, s_ldP 0), (1, s_c (.inl 0)), (2, s_putI 10 25), (5, s_c (.inl 0)), (6, s_stI 2), (7, s_ldI 2), (8, s_c (.inl 8)), (10, s_icmp_ge 97), (13, s_ldP 0), (14, s_ldI 1), (15, s_ldI 2), (16, s_callV l g sg_X11_laysAgenda sg_X11_isThere 10), (19, s_if_ne 25), (22, s_goto 91), (25, s_ldI 1), (26, s_ldI 2), (27, s_callS l g sg_X11_laysAgenda sg_X11_eventAt), (30, s_stI 3), (31, s_ldP 0), (32, s_ldP 0), (33, s_getP 10 2), (36, s_ldI 3), (37, s_callV l g sg_X11_laysAgenda sg_X11_laysDates 10), (40, s_c (.inl 0)), (41, s_stI 4), (43, s_ldI 4), (45, s_ldP 0), (46, s_getI 10 8), (49, s_icmp_ge 91), (52, s_ldP 0), (53, s_ldI 3), (54, s_ldI 4), (56, s_callV l g sg_X11_laysAgenda sg_X11_isShown 10), (59, s_if_eq 85), (62, s_ldP 0), (63, s_ldI 2), (64, s_ldI 4), (66, s_ldP 0), (67, s_ldI 1), (68, s_ldI 2), (69, s_ldI 4), (71, s_callV l g sg_X11_laysAgenda sg_X11_momentOfDate 10), (74, s_ldP 0), (75, s_getP 10 2), (78, s_ldI 3), (79, s_c (.inl 3)), (80, s_ii (fun x y => x + y)), (81, s_iald), (82, s_callV l g sg_X11_laysAgenda sg_X11_enters 10), (85, s_iinc 4 1), (88, s_goto 43), (91, s_iinc 2 1), (94, s_goto 7), (97, s_vret)]
set_option maxRecDepth 100000 in
theorem ok_X11_laysAgenda {l : Launch} {g : EG} : e_okp l g sg_X11_laysAgenda "CalendarSyncModel" (pg_X11_laysAgenda l g) := fun p e R s m args below meth c ex M0 Q X =>
    e_each_cons (r_aload_n X (k := 0) (i := 0) rfl dX11_laysAgenda_0 rfl)
    (e_each_cons (r_iconst X (n := 0) (v := 0) dX11_laysAgenda_1 (by decide) rfl)
    (e_each_cons (r_putI X (index := 309) (ci := 10) (k := 25) dX11_laysAgenda_2 (by decide) (by decide) rfl rfl w6_51 rfl)
    (e_each_cons (r_iconst X (n := 0) (v := 0) dX11_laysAgenda_5 (by decide) rfl)
    (e_each_cons (r_istore_n X (k := 2) (i := 2) rfl dX11_laysAgenda_6 (by decide) rfl)
    (e_each_cons (r_iload_n X (k := 2) (i := 2) rfl dX11_laysAgenda_7 rfl)
    (e_each_cons (r_bipush X (n := 8) (v := 8) dX11_laysAgenda_8 (by decide) rfl)
    (e_each_cons (r_icmp_ge X (off := 87) (t := 97) dX11_laysAgenda_10 (by decide) rfl)
    (e_each_cons (r_aload_n X (k := 0) (i := 0) rfl dX11_laysAgenda_13 rfl)
    (e_each_cons (r_iload_n X (k := 1) (i := 1) rfl dX11_laysAgenda_14 rfl)
    (e_each_cons (r_iload_n X (k := 2) (i := 2) rfl dX11_laysAgenda_15 rfl)
    (e_each_cons (r_callV X rfl (τ := sg_X11_isThere) (index := 281) (ci := 10) dX11_laysAgenda_16 (by decide) rfl w7_97 w7_99 ws_61 cs_X11_isThere rfl ⟨by decide, by decide⟩ rfl)
    (e_each_cons (r_if_ne X (off := 6) (t := 25) dX11_laysAgenda_19 (by decide) rfl)
    (e_each_cons (r_goto X (off := 69) (t := 91) dX11_laysAgenda_22 (by decide))
    (e_each_cons (r_iload_n X (k := 1) (i := 1) rfl dX11_laysAgenda_25 rfl)
    (e_each_cons (r_iload_n X (k := 2) (i := 2) rfl dX11_laysAgenda_26 rfl)
    (e_each_cons (r_callS X rfl (τ := sg_X11_eventAt) (index := 278) dX11_laysAgenda_27 w7_101 w7_102 cs_X11_eventAt rfl ⟨by decide, by decide⟩ rfl)
    (e_each_cons (r_istore_n X (k := 3) (i := 3) rfl dX11_laysAgenda_30 (by decide) rfl)
    (e_each_cons (r_aload_n X (k := 0) (i := 0) rfl dX11_laysAgenda_31 rfl)
    (e_each_cons (r_aload_n X (k := 0) (i := 0) rfl dX11_laysAgenda_32 rfl)
    (e_each_cons (r_getP X (index := 7) (ci := 10) (k := 2) dX11_laysAgenda_33 (by decide) (by decide) rfl w6_28 rfl)
    (e_each_cons (r_iload_n X (k := 3) (i := 3) rfl dX11_laysAgenda_36 rfl)
    (e_each_cons (r_callV X rfl (τ := sg_X11_laysDates) (index := 233) (ci := 10) dX11_laysAgenda_37 (by decide) rfl w7_31 w7_33 ws_51 cs_X11_laysDates rfl ⟨by decide, by decide⟩ rfl)
    (e_each_cons (r_iconst X (n := 0) (v := 0) dX11_laysAgenda_40 (by decide) rfl)
    (e_each_cons (r_istore X (i := 4) dX11_laysAgenda_41 (by decide) rfl)
    (e_each_cons (r_iload X (i := 4) dX11_laysAgenda_43 rfl)
    (e_each_cons (r_aload_n X (k := 0) (i := 0) rfl dX11_laysAgenda_45 rfl)
    (e_each_cons (r_getI X (index := 95) (ci := 10) (k := 8) dX11_laysAgenda_46 (by decide) (by decide) rfl w6_34 rfl)
    (e_each_cons (r_icmp_ge X (off := 42) (t := 91) dX11_laysAgenda_49 (by decide) rfl)
    (e_each_cons (r_aload_n X (k := 0) (i := 0) rfl dX11_laysAgenda_52 rfl)
    (e_each_cons (r_iload_n X (k := 3) (i := 3) rfl dX11_laysAgenda_53 rfl)
    (e_each_cons (r_iload X (i := 4) dX11_laysAgenda_54 rfl)
    (e_each_cons (r_callV X rfl (τ := sg_X11_isShown) (index := 300) (ci := 10) dX11_laysAgenda_56 (by decide) rfl w7_128 w7_130 ws_66 cs_X11_isShown rfl ⟨by decide, by decide⟩ rfl)
    (e_each_cons (r_if_eq X (off := 26) (t := 85) dX11_laysAgenda_59 (by decide) rfl)
    (e_each_cons (r_aload_n X (k := 0) (i := 0) rfl dX11_laysAgenda_62 rfl)
    (e_each_cons (r_iload_n X (k := 2) (i := 2) rfl dX11_laysAgenda_63 rfl)
    (e_each_cons (r_iload X (i := 4) dX11_laysAgenda_64 rfl)
    (e_each_cons (r_aload_n X (k := 0) (i := 0) rfl dX11_laysAgenda_66 rfl)
    (e_each_cons (r_iload_n X (k := 1) (i := 1) rfl dX11_laysAgenda_67 rfl)
    (e_each_cons (r_iload_n X (k := 2) (i := 2) rfl dX11_laysAgenda_68 rfl)
    (e_each_cons (r_iload X (i := 4) dX11_laysAgenda_69 rfl)
    (e_each_cons (r_callV X rfl (τ := sg_X11_momentOfDate) (index := 296) (ci := 10) dX11_laysAgenda_71 (by decide) rfl w7_124 w7_126 ws_65 cs_X11_momentOfDate rfl ⟨by decide, by decide⟩ rfl)
    (e_each_cons (r_aload_n X (k := 0) (i := 0) rfl dX11_laysAgenda_74 rfl)
    (e_each_cons (r_getP X (index := 7) (ci := 10) (k := 2) dX11_laysAgenda_75 (by decide) (by decide) rfl w6_28 rfl)
    (e_each_cons (r_iload_n X (k := 3) (i := 3) rfl dX11_laysAgenda_78 rfl)
    (e_each_cons (r_iconst X (n := 3) (v := 3) dX11_laysAgenda_79 (by decide) rfl)
    (e_each_cons (r_iadd X dX11_laysAgenda_80 rfl)
    (e_each_cons (r_iald X dX11_laysAgenda_81 rfl)
    (e_each_cons (r_callV X rfl (τ := sg_X11_enters) (index := 312) (ci := 10) dX11_laysAgenda_82 (by decide) rfl w7_151 w7_153 ws_69 cs_X11_enters rfl ⟨by decide, by decide⟩ rfl)
    (e_each_cons (r_iinc X (i := 4) (n := 1) (d := 1) dX11_laysAgenda_85 (by decide) (by decide) rfl)
    (e_each_cons (r_goto X (off := (-45)) (t := 43) dX11_laysAgenda_88 (by decide))
    (e_each_cons (r_iinc X (i := 2) (n := 1) (d := 1) dX11_laysAgenda_91 (by decide) (by decide) rfl)
    (e_each_cons (r_goto X (off := (-87)) (t := 7) dX11_laysAgenda_94 (by decide))
    (e_each_cons (r_vret X dX11_laysAgenda_97 rfl)
    (e_each_nil))))))))))))))))))))))))))))))))))))))))))))))))))))))
theorem dX11_agenda_0 : decode cX11_agenda 0 = .ok (.aload_n 0, 1) := by decide +kernel
theorem dX11_agenda_1 : decode cX11_agenda 1 = .ok (.iload_n 1, 1) := by decide +kernel
theorem dX11_agenda_2 : decode cX11_agenda 2 = .ok (.invokestatic 265, 3) := by decide +kernel
theorem dX11_agenda_5 : decode cX11_agenda 5 = .ok (.ifCond .eq 7, 3) := by decide +kernel
theorem dX11_agenda_8 : decode cX11_agenda 8 = .ok (.iconst 0, 1) := by decide +kernel
theorem dX11_agenda_9 : decode cX11_agenda 9 = .ok (.goto 4, 3) := by decide +kernel
theorem dX11_agenda_12 : decode cX11_agenda 12 = .ok (.iconst 1, 1) := by decide +kernel
theorem dX11_agenda_13 : decode cX11_agenda 13 = .ok (.invokevirtual 71, 3) := by decide +kernel
theorem dX11_agenda_16 : decode cX11_agenda 16 = .ok (.ifCond .eq 5, 3) := by decide +kernel
theorem dX11_agenda_19 : decode cX11_agenda 19 = .ok (.iconst 0, 1) := by decide +kernel
theorem dX11_agenda_20 : decode cX11_agenda 20 = .ok (.ireturn, 1) := by decide +kernel
theorem dX11_agenda_21 : decode cX11_agenda 21 = .ok (.aload_n 0, 1) := by decide +kernel
theorem dX11_agenda_22 : decode cX11_agenda 22 = .ok (.iload_n 1, 1) := by decide +kernel
theorem dX11_agenda_23 : decode cX11_agenda 23 = .ok (.invokevirtual 316, 3) := by decide +kernel
theorem dX11_agenda_26 : decode cX11_agenda 26 = .ok (.iconst 0, 1) := by decide +kernel
theorem dX11_agenda_27 : decode cX11_agenda 27 = .ok (.istore 4, 2) := by decide +kernel
theorem dX11_agenda_29 : decode cX11_agenda 29 = .ok (.iconst 0, 1) := by decide +kernel
theorem dX11_agenda_30 : decode cX11_agenda 30 = .ok (.istore 5, 2) := by decide +kernel
theorem dX11_agenda_32 : decode cX11_agenda 32 = .ok (.iload 5, 2) := by decide +kernel
theorem dX11_agenda_34 : decode cX11_agenda 34 = .ok (.aload_n 0, 1) := by decide +kernel
theorem dX11_agenda_35 : decode cX11_agenda 35 = .ok (.getfield 309, 3) := by decide +kernel
theorem dX11_agenda_38 : decode cX11_agenda 38 = .ok (.if_icmp .ge 42, 3) := by decide +kernel
theorem dX11_agenda_41 : decode cX11_agenda 41 = .ok (.aload_n 0, 1) := by decide +kernel
theorem dX11_agenda_42 : decode cX11_agenda 42 = .ok (.getfield 43, 3) := by decide +kernel
theorem dX11_agenda_45 : decode cX11_agenda 45 = .ok (.iload 5, 2) := by decide +kernel
theorem dX11_agenda_47 : decode cX11_agenda 47 = .ok (.iaload, 1) := by decide +kernel
theorem dX11_agenda_48 : decode cX11_agenda 48 = .ok (.iload_n 2, 1) := by decide +kernel
theorem dX11_agenda_49 : decode cX11_agenda 49 = .ok (.if_icmp .lt 21, 3) := by decide +kernel
theorem dX11_agenda_52 : decode cX11_agenda 52 = .ok (.aload_n 0, 1) := by decide +kernel
theorem dX11_agenda_53 : decode cX11_agenda 53 = .ok (.getfield 43, 3) := by decide +kernel
theorem dX11_agenda_56 : decode cX11_agenda 56 = .ok (.iload 5, 2) := by decide +kernel
theorem dX11_agenda_58 : decode cX11_agenda 58 = .ok (.iaload, 1) := by decide +kernel
theorem dX11_agenda_59 : decode cX11_agenda 59 = .ok (.iload_n 3, 1) := by decide +kernel
theorem dX11_agenda_60 : decode cX11_agenda 60 = .ok (.if_icmp .ge 10, 3) := by decide +kernel
theorem dX11_agenda_63 : decode cX11_agenda 63 = .ok (.iload 4, 2) := by decide +kernel
theorem dX11_agenda_65 : decode cX11_agenda 65 = .ok (.iconst 1, 1) := by decide +kernel
theorem dX11_agenda_66 : decode cX11_agenda 66 = .ok (.iadd, 1) := by decide +kernel
theorem dX11_agenda_67 : decode cX11_agenda 67 = .ok (.goto 5, 3) := by decide +kernel
theorem dX11_agenda_70 : decode cX11_agenda 70 = .ok (.iload 4, 2) := by decide +kernel
theorem dX11_agenda_72 : decode cX11_agenda 72 = .ok (.istore 4, 2) := by decide +kernel
theorem dX11_agenda_74 : decode cX11_agenda 74 = .ok (.iinc 5 1, 3) := by decide +kernel
theorem dX11_agenda_77 : decode cX11_agenda 77 = .ok (.goto (-45), 3) := by decide +kernel
theorem dX11_agenda_80 : decode cX11_agenda 80 = .ok (.iload 4, 2) := by decide +kernel
theorem dX11_agenda_82 : decode cX11_agenda 82 = .ok (.ireturn, 1) := by decide +kernel
def pg_X11_agenda (l : Launch) (g : EG) : List (Nat × ES) := [(0, s_ldP 0), (1, s_ldI 1), (2, s_callS l g sg_X11_agenda sg_X11_isPlace), (5, s_if_eq 12), (8, s_c (.inl 0)), (9, s_goto 13), (12, s_c (.inl 1)), (13, s_callV l g sg_X11_agenda sg_X11_isRefused 10), (16, s_if_eq 21), (19, s_c (.inl 0)), (20, s_ireti), (21, s_ldP 0), (22, s_ldI 1), (23, s_callV l g sg_X11_agenda sg_X11_laysAgenda 10), (26, s_c (.inl 0)), (27, s_stI 4), (29, s_c (.inl 0)), (30, s_stI 5), (32, s_ldI 5), (34, s_ldP 0), (35, s_getI 10 25), (38, s_icmp_ge 80), (41, s_ldP 0), (42, s_getP 10 23), (45, s_ldI 5), (47, s_iald), (48, s_ldI 2), (49, s_icmp_lt 70), (52, s_ldP 0), (53, s_getP 10 23), (56, s_ldI 5), (58, s_iald), (59, s_ldI 3), (60, s_icmp_ge 70), (63, s_ldI 4), (65, s_c (.inl 1)), (66, s_ii (fun x y => x + y)), (67, s_goto 72), (70, s_ldI 4), (72, s_stI 4), (74, s_iinc 5 1), (77, s_goto 32), (80, s_ldI 4), (82, s_ireti)]
set_option maxRecDepth 100000 in
theorem ok_X11_agenda {l : Launch} {g : EG} : e_okp l g sg_X11_agenda "CalendarSyncModel" (pg_X11_agenda l g) := fun p e R s m args below meth c ex M0 Q X =>
    e_each_cons (r_aload_n X (k := 0) (i := 0) rfl dX11_agenda_0 rfl)
    (e_each_cons (r_iload_n X (k := 1) (i := 1) rfl dX11_agenda_1 rfl)
    (e_each_cons (r_callS X rfl (τ := sg_X11_isPlace) (index := 265) dX11_agenda_2 w7_68 w7_69 cs_X11_isPlace rfl ⟨by decide, by decide⟩ rfl)
    (e_each_cons (r_if_eq X (off := 7) (t := 12) dX11_agenda_5 (by decide) rfl)
    (e_each_cons (r_iconst X (n := 0) (v := 0) dX11_agenda_8 (by decide) rfl)
    (e_each_cons (r_goto X (off := 4) (t := 13) dX11_agenda_9 (by decide))
    (e_each_cons (r_iconst X (n := 1) (v := 1) dX11_agenda_12 (by decide) rfl)
    (e_each_cons (r_callV X rfl (τ := sg_X11_isRefused) (index := 71) (ci := 10) dX11_agenda_13 (by decide) rfl w6_119 w6_121 ws_31 cs_X11_isRefused rfl ⟨by decide, by decide⟩ rfl)
    (e_each_cons (r_if_eq X (off := 5) (t := 21) dX11_agenda_16 (by decide) rfl)
    (e_each_cons (r_iconst X (n := 0) (v := 0) dX11_agenda_19 (by decide) rfl)
    (e_each_cons (r_ireti X dX11_agenda_20 rfl)
    (e_each_cons (r_aload_n X (k := 0) (i := 0) rfl dX11_agenda_21 rfl)
    (e_each_cons (r_iload_n X (k := 1) (i := 1) rfl dX11_agenda_22 rfl)
    (e_each_cons (r_callV X rfl (τ := sg_X11_laysAgenda) (index := 316) (ci := 10) dX11_agenda_23 (by decide) rfl w7_147 w7_149 ws_68 cs_X11_laysAgenda rfl ⟨by decide, by decide⟩ rfl)
    (e_each_cons (r_iconst X (n := 0) (v := 0) dX11_agenda_26 (by decide) rfl)
    (e_each_cons (r_istore X (i := 4) dX11_agenda_27 (by decide) rfl)
    (e_each_cons (r_iconst X (n := 0) (v := 0) dX11_agenda_29 (by decide) rfl)
    (e_each_cons (r_istore X (i := 5) dX11_agenda_30 (by decide) rfl)
    (e_each_cons (r_iload X (i := 5) dX11_agenda_32 rfl)
    (e_each_cons (r_aload_n X (k := 0) (i := 0) rfl dX11_agenda_34 rfl)
    (e_each_cons (r_getI X (index := 309) (ci := 10) (k := 25) dX11_agenda_35 (by decide) (by decide) rfl w6_51 rfl)
    (e_each_cons (r_icmp_ge X (off := 42) (t := 80) dX11_agenda_38 (by decide) rfl)
    (e_each_cons (r_aload_n X (k := 0) (i := 0) rfl dX11_agenda_41 rfl)
    (e_each_cons (r_getP X (index := 43) (ci := 10) (k := 23) dX11_agenda_42 (by decide) (by decide) rfl w6_49 rfl)
    (e_each_cons (r_iload X (i := 5) dX11_agenda_45 rfl)
    (e_each_cons (r_iald X dX11_agenda_47 rfl)
    (e_each_cons (r_iload_n X (k := 2) (i := 2) rfl dX11_agenda_48 rfl)
    (e_each_cons (r_icmp_lt X (off := 21) (t := 70) dX11_agenda_49 (by decide) rfl)
    (e_each_cons (r_aload_n X (k := 0) (i := 0) rfl dX11_agenda_52 rfl)
    (e_each_cons (r_getP X (index := 43) (ci := 10) (k := 23) dX11_agenda_53 (by decide) (by decide) rfl w6_49 rfl)
    (e_each_cons (r_iload X (i := 5) dX11_agenda_56 rfl)
    (e_each_cons (r_iald X dX11_agenda_58 rfl)
    (e_each_cons (r_iload_n X (k := 3) (i := 3) rfl dX11_agenda_59 rfl)
    (e_each_cons (r_icmp_ge X (off := 10) (t := 70) dX11_agenda_60 (by decide) rfl)
    (e_each_cons (r_iload X (i := 4) dX11_agenda_63 rfl)
    (e_each_cons (r_iconst X (n := 1) (v := 1) dX11_agenda_65 (by decide) rfl)
    (e_each_cons (r_iadd X dX11_agenda_66 rfl)
    (e_each_cons (r_goto X (off := 5) (t := 72) dX11_agenda_67 (by decide))
    (e_each_cons (r_iload X (i := 4) dX11_agenda_70 rfl)
    (e_each_cons (r_istore X (i := 4) dX11_agenda_72 (by decide) rfl)
    (e_each_cons (r_iinc X (i := 5) (n := 1) (d := 1) dX11_agenda_74 (by decide) (by decide) rfl)
    (e_each_cons (r_goto X (off := (-45)) (t := 32) dX11_agenda_77 (by decide))
    (e_each_cons (r_iload X (i := 4) dX11_agenda_80 rfl)
    (e_each_cons (r_ireti X dX11_agenda_82 rfl)
    (e_each_nil))))))))))))))))))))))))))))))))))))))))))))
theorem dX11_firstFrom_0 : decode cX11_firstFrom 0 = .ok (.iconst 0, 1) := by decide +kernel
theorem dX11_firstFrom_1 : decode cX11_firstFrom 1 = .ok (.istore_n 2, 1) := by decide +kernel
theorem dX11_firstFrom_2 : decode cX11_firstFrom 2 = .ok (.iload_n 2, 1) := by decide +kernel
theorem dX11_firstFrom_3 : decode cX11_firstFrom 3 = .ok (.aload_n 0, 1) := by decide +kernel
theorem dX11_firstFrom_4 : decode cX11_firstFrom 4 = .ok (.getfield 309, 3) := by decide +kernel
theorem dX11_firstFrom_7 : decode cX11_firstFrom 7 = .ok (.if_icmp .ge 20, 3) := by decide +kernel
theorem dX11_firstFrom_10 : decode cX11_firstFrom 10 = .ok (.aload_n 0, 1) := by decide +kernel
theorem dX11_firstFrom_11 : decode cX11_firstFrom 11 = .ok (.getfield 43, 3) := by decide +kernel
theorem dX11_firstFrom_14 : decode cX11_firstFrom 14 = .ok (.iload_n 2, 1) := by decide +kernel
theorem dX11_firstFrom_15 : decode cX11_firstFrom 15 = .ok (.iaload, 1) := by decide +kernel
theorem dX11_firstFrom_16 : decode cX11_firstFrom 16 = .ok (.iload_n 1, 1) := by decide +kernel
theorem dX11_firstFrom_17 : decode cX11_firstFrom 17 = .ok (.if_icmp .ge 10, 3) := by decide +kernel
theorem dX11_firstFrom_20 : decode cX11_firstFrom 20 = .ok (.iload_n 2, 1) := by decide +kernel
theorem dX11_firstFrom_21 : decode cX11_firstFrom 21 = .ok (.iconst 1, 1) := by decide +kernel
theorem dX11_firstFrom_22 : decode cX11_firstFrom 22 = .ok (.iadd, 1) := by decide +kernel
theorem dX11_firstFrom_23 : decode cX11_firstFrom 23 = .ok (.istore_n 2, 1) := by decide +kernel
theorem dX11_firstFrom_24 : decode cX11_firstFrom 24 = .ok (.goto (-22), 3) := by decide +kernel
theorem dX11_firstFrom_27 : decode cX11_firstFrom 27 = .ok (.iload_n 2, 1) := by decide +kernel
theorem dX11_firstFrom_28 : decode cX11_firstFrom 28 = .ok (.ireturn, 1) := by decide +kernel
def pg_X11_firstFrom (l : Launch) (g : EG) : List (Nat × ES) := [(0, s_c (.inl 0)), (1, s_stI 2), (2, s_ldI 2), (3, s_ldP 0), (4, s_getI 10 25), (7, s_icmp_ge 27), (10, s_ldP 0), (11, s_getP 10 23), (14, s_ldI 2), (15, s_iald), (16, s_ldI 1), (17, s_icmp_ge 27), (20, s_ldI 2), (21, s_c (.inl 1)), (22, s_ii (fun x y => x + y)), (23, s_stI 2), (24, s_goto 2), (27, s_ldI 2), (28, s_ireti)]
set_option maxRecDepth 100000 in
theorem ok_X11_firstFrom {l : Launch} {g : EG} : e_okp l g sg_X11_firstFrom "CalendarSyncModel" (pg_X11_firstFrom l g) := fun p e R s m args below meth c ex M0 Q X =>
    e_each_cons (r_iconst X (n := 0) (v := 0) dX11_firstFrom_0 (by decide) rfl)
    (e_each_cons (r_istore_n X (k := 2) (i := 2) rfl dX11_firstFrom_1 (by decide) rfl)
    (e_each_cons (r_iload_n X (k := 2) (i := 2) rfl dX11_firstFrom_2 rfl)
    (e_each_cons (r_aload_n X (k := 0) (i := 0) rfl dX11_firstFrom_3 rfl)
    (e_each_cons (r_getI X (index := 309) (ci := 10) (k := 25) dX11_firstFrom_4 (by decide) (by decide) rfl w6_51 rfl)
    (e_each_cons (r_icmp_ge X (off := 20) (t := 27) dX11_firstFrom_7 (by decide) rfl)
    (e_each_cons (r_aload_n X (k := 0) (i := 0) rfl dX11_firstFrom_10 rfl)
    (e_each_cons (r_getP X (index := 43) (ci := 10) (k := 23) dX11_firstFrom_11 (by decide) (by decide) rfl w6_49 rfl)
    (e_each_cons (r_iload_n X (k := 2) (i := 2) rfl dX11_firstFrom_14 rfl)
    (e_each_cons (r_iald X dX11_firstFrom_15 rfl)
    (e_each_cons (r_iload_n X (k := 1) (i := 1) rfl dX11_firstFrom_16 rfl)
    (e_each_cons (r_icmp_ge X (off := 10) (t := 27) dX11_firstFrom_17 (by decide) rfl)
    (e_each_cons (r_iload_n X (k := 2) (i := 2) rfl dX11_firstFrom_20 rfl)
    (e_each_cons (r_iconst X (n := 1) (v := 1) dX11_firstFrom_21 (by decide) rfl)
    (e_each_cons (r_iadd X dX11_firstFrom_22 rfl)
    (e_each_cons (r_istore_n X (k := 2) (i := 2) rfl dX11_firstFrom_23 (by decide) rfl)
    (e_each_cons (r_goto X (off := (-22)) (t := 2) dX11_firstFrom_24 (by decide))
    (e_each_cons (r_iload_n X (k := 2) (i := 2) rfl dX11_firstFrom_27 rfl)
    (e_each_cons (r_ireti X dX11_firstFrom_28 rfl)
    (e_each_nil)))))))))))))))))))
theorem dX11_agendaAt_0 : decode cX11_agendaAt 0 = .ok (.aload_n 0, 1) := by decide +kernel
theorem dX11_agendaAt_1 : decode cX11_agendaAt 1 = .ok (.iload_n 1, 1) := by decide +kernel
theorem dX11_agendaAt_2 : decode cX11_agendaAt 2 = .ok (.invokestatic 265, 3) := by decide +kernel
theorem dX11_agendaAt_5 : decode cX11_agendaAt 5 = .ok (.ifCond .eq 7, 3) := by decide +kernel
theorem dX11_agendaAt_8 : decode cX11_agendaAt 8 = .ok (.iconst 0, 1) := by decide +kernel
theorem dX11_agendaAt_9 : decode cX11_agendaAt 9 = .ok (.goto 4, 3) := by decide +kernel
theorem dX11_agendaAt_12 : decode cX11_agendaAt 12 = .ok (.iconst 1, 1) := by decide +kernel
theorem dX11_agendaAt_13 : decode cX11_agendaAt 13 = .ok (.invokevirtual 71, 3) := by decide +kernel
theorem dX11_agendaAt_16 : decode cX11_agendaAt 16 = .ok (.ifCond .eq 5, 3) := by decide +kernel
theorem dX11_agendaAt_19 : decode cX11_agendaAt 19 = .ok (.iconst 0, 1) := by decide +kernel
theorem dX11_agendaAt_20 : decode cX11_agendaAt 20 = .ok (.ireturn, 1) := by decide +kernel
theorem dX11_agendaAt_21 : decode cX11_agendaAt 21 = .ok (.aload_n 0, 1) := by decide +kernel
theorem dX11_agendaAt_22 : decode cX11_agendaAt 22 = .ok (.iload_n 1, 1) := by decide +kernel
theorem dX11_agendaAt_23 : decode cX11_agendaAt 23 = .ok (.invokevirtual 316, 3) := by decide +kernel
theorem dX11_agendaAt_26 : decode cX11_agendaAt 26 = .ok (.aload_n 0, 1) := by decide +kernel
theorem dX11_agendaAt_27 : decode cX11_agendaAt 27 = .ok (.iload_n 2, 1) := by decide +kernel
theorem dX11_agendaAt_28 : decode cX11_agendaAt 28 = .ok (.invokevirtual 319, 3) := by decide +kernel
theorem dX11_agendaAt_31 : decode cX11_agendaAt 31 = .ok (.istore 5, 2) := by decide +kernel
theorem dX11_agendaAt_33 : decode cX11_agendaAt 33 = .ok (.aload_n 0, 1) := by decide +kernel
theorem dX11_agendaAt_34 : decode cX11_agendaAt 34 = .ok (.iload_n 3, 1) := by decide +kernel
theorem dX11_agendaAt_35 : decode cX11_agendaAt 35 = .ok (.iconst 0, 1) := by decide +kernel
theorem dX11_agendaAt_36 : decode cX11_agendaAt 36 = .ok (.aload_n 0, 1) := by decide +kernel
theorem dX11_agendaAt_37 : decode cX11_agendaAt 37 = .ok (.getfield 309, 3) := by decide +kernel
theorem dX11_agendaAt_40 : decode cX11_agendaAt 40 = .ok (.iload 5, 2) := by decide +kernel
theorem dX11_agendaAt_42 : decode cX11_agendaAt 42 = .ok (.isub, 1) := by decide +kernel
theorem dX11_agendaAt_43 : decode cX11_agendaAt 43 = .ok (.iconst 1, 1) := by decide +kernel
theorem dX11_agendaAt_44 : decode cX11_agendaAt 44 = .ok (.isub, 1) := by decide +kernel
theorem dX11_agendaAt_45 : decode cX11_agendaAt 45 = .ok (.invokestatic 75, 3) := by decide +kernel
theorem dX11_agendaAt_48 : decode cX11_agendaAt 48 = .ok (.ifCond .ne 7, 3) := by decide +kernel
theorem dX11_agendaAt_51 : decode cX11_agendaAt 51 = .ok (.iconst 2, 1) := by decide +kernel
theorem dX11_agendaAt_52 : decode cX11_agendaAt 52 = .ok (.goto 18, 3) := by decide +kernel
theorem dX11_agendaAt_55 : decode cX11_agendaAt 55 = .ok (.iload 4, 2) := by decide +kernel
theorem dX11_agendaAt_57 : decode cX11_agendaAt 57 = .ok (.iconst 0, 1) := by decide +kernel
theorem dX11_agendaAt_58 : decode cX11_agendaAt 58 = .ok (.iconst 2, 1) := by decide +kernel
theorem dX11_agendaAt_59 : decode cX11_agendaAt 59 = .ok (.invokestatic 75, 3) := by decide +kernel
theorem dX11_agendaAt_62 : decode cX11_agendaAt 62 = .ok (.ifCond .eq 7, 3) := by decide +kernel
theorem dX11_agendaAt_65 : decode cX11_agendaAt 65 = .ok (.iconst 0, 1) := by decide +kernel
theorem dX11_agendaAt_66 : decode cX11_agendaAt 66 = .ok (.goto 4, 3) := by decide +kernel
theorem dX11_agendaAt_69 : decode cX11_agendaAt 69 = .ok (.iconst 3, 1) := by decide +kernel
theorem dX11_agendaAt_70 : decode cX11_agendaAt 70 = .ok (.invokevirtual 71, 3) := by decide +kernel
theorem dX11_agendaAt_73 : decode cX11_agendaAt 73 = .ok (.ifCond .eq 5, 3) := by decide +kernel
theorem dX11_agendaAt_76 : decode cX11_agendaAt 76 = .ok (.iconst 0, 1) := by decide +kernel
theorem dX11_agendaAt_77 : decode cX11_agendaAt 77 = .ok (.ireturn, 1) := by decide +kernel
theorem dX11_agendaAt_78 : decode cX11_agendaAt 78 = .ok (.iload 5, 2) := by decide +kernel
theorem dX11_agendaAt_80 : decode cX11_agendaAt 80 = .ok (.iload_n 3, 1) := by decide +kernel
theorem dX11_agendaAt_81 : decode cX11_agendaAt 81 = .ok (.iadd, 1) := by decide +kernel
theorem dX11_agendaAt_82 : decode cX11_agendaAt 82 = .ok (.istore 6, 2) := by decide +kernel
theorem dX11_agendaAt_84 : decode cX11_agendaAt 84 = .ok (.iload 4, 2) := by decide +kernel
theorem dX11_agendaAt_86 : decode cX11_agendaAt 86 = .ok (.ifCond .ne 13, 3) := by decide +kernel
theorem dX11_agendaAt_89 : decode cX11_agendaAt 89 = .ok (.aload_n 0, 1) := by decide +kernel
theorem dX11_agendaAt_90 : decode cX11_agendaAt 90 = .ok (.getfield 37, 3) := by decide +kernel
theorem dX11_agendaAt_93 : decode cX11_agendaAt 93 = .ok (.iload 6, 2) := by decide +kernel
theorem dX11_agendaAt_95 : decode cX11_agendaAt 95 = .ok (.iaload, 1) := by decide +kernel
theorem dX11_agendaAt_96 : decode cX11_agendaAt 96 = .ok (.goto 26, 3) := by decide +kernel
theorem dX11_agendaAt_99 : decode cX11_agendaAt 99 = .ok (.iload 4, 2) := by decide +kernel
theorem dX11_agendaAt_101 : decode cX11_agendaAt 101 = .ok (.iconst 1, 1) := by decide +kernel
theorem dX11_agendaAt_102 : decode cX11_agendaAt 102 = .ok (.if_icmp .ne 13, 3) := by decide +kernel
theorem dX11_agendaAt_105 : decode cX11_agendaAt 105 = .ok (.aload_n 0, 1) := by decide +kernel
theorem dX11_agendaAt_106 : decode cX11_agendaAt 106 = .ok (.getfield 40, 3) := by decide +kernel
theorem dX11_agendaAt_109 : decode cX11_agendaAt 109 = .ok (.iload 6, 2) := by decide +kernel
theorem dX11_agendaAt_111 : decode cX11_agendaAt 111 = .ok (.iaload, 1) := by decide +kernel
theorem dX11_agendaAt_112 : decode cX11_agendaAt 112 = .ok (.goto 10, 3) := by decide +kernel
theorem dX11_agendaAt_115 : decode cX11_agendaAt 115 = .ok (.aload_n 0, 1) := by decide +kernel
theorem dX11_agendaAt_116 : decode cX11_agendaAt 116 = .ok (.getfield 43, 3) := by decide +kernel
theorem dX11_agendaAt_119 : decode cX11_agendaAt 119 = .ok (.iload 6, 2) := by decide +kernel
theorem dX11_agendaAt_121 : decode cX11_agendaAt 121 = .ok (.iaload, 1) := by decide +kernel
theorem dX11_agendaAt_122 : decode cX11_agendaAt 122 = .ok (.ireturn, 1) := by decide +kernel
def pg_X11_agendaAt (l : Launch) (g : EG) : List (Nat × ES) := [(0, s_ldP 0), (1, s_ldI 1), (2, s_callS l g sg_X11_agendaAt sg_X11_isPlace), (5, s_if_eq 12), (8, s_c (.inl 0)), (9, s_goto 13), (12, s_c (.inl 1)), (13, s_callV l g sg_X11_agendaAt sg_X11_isRefused 10), (16, s_if_eq 21), (19, s_c (.inl 0)), (20, s_ireti), (21, s_ldP 0), (22, s_ldI 1), (23, s_callV l g sg_X11_agendaAt sg_X11_laysAgenda 10), (26, s_ldP 0), (27, s_ldI 2), (28, s_callV l g sg_X11_agendaAt sg_X11_firstFrom 10), (31, s_stI 5), (33, s_ldP 0), (34, s_ldI 3), (35, s_c (.inl 0)), (36, s_ldP 0), (37, s_getI 10 25), (40, s_ldI 5), (42, s_ii (fun x y => x - y)), (43, s_c (.inl 1)), (44, s_ii (fun x y => x - y)), (45, s_callS l g sg_X11_agendaAt sg_X11_in), (48, s_if_ne 55), (51, s_c (.inl 2)), (52, s_goto 70), (55, s_ldI 4), (57, s_c (.inl 0)), (58, s_c (.inl 2)), (59, s_callS l g sg_X11_agendaAt sg_X11_in), (62, s_if_eq 69), (65, s_c (.inl 0)), (66, s_goto 70), (69, s_c (.inl 3)), (70, s_callV l g sg_X11_agendaAt sg_X11_isRefused 10), (73, s_if_eq 78), (76, s_c (.inl 0)), (77, s_ireti), (78, s_ldI 5), (80, s_ldI 3), (81, s_ii (fun x y => x + y)), (82, s_stI 6), (84, s_ldI 4), (86, s_if_ne 99), (89, s_ldP 0), (90, s_getP 10 21), (93, s_ldI 6), (95, s_iald), (96, s_goto 122), (99, s_ldI 4), (101, s_c (.inl 1)), (102, s_icmp_ne 115), (105, s_ldP 0), (106, s_getP 10 22), (109, s_ldI 6), (111, s_iald), (112, s_goto 122), (115, s_ldP 0), (116, s_getP 10 23), (119, s_ldI 6), (121, s_iald), (122, s_ireti)]
set_option maxRecDepth 100000 in
theorem ok_X11_agendaAt {l : Launch} {g : EG} : e_okp l g sg_X11_agendaAt "CalendarSyncModel" (pg_X11_agendaAt l g) := fun p e R s m args below meth c ex M0 Q X =>
    e_each_cons (r_aload_n X (k := 0) (i := 0) rfl dX11_agendaAt_0 rfl)
    (e_each_cons (r_iload_n X (k := 1) (i := 1) rfl dX11_agendaAt_1 rfl)
    (e_each_cons (r_callS X rfl (τ := sg_X11_isPlace) (index := 265) dX11_agendaAt_2 w7_68 w7_69 cs_X11_isPlace rfl ⟨by decide, by decide⟩ rfl)
    (e_each_cons (r_if_eq X (off := 7) (t := 12) dX11_agendaAt_5 (by decide) rfl)
    (e_each_cons (r_iconst X (n := 0) (v := 0) dX11_agendaAt_8 (by decide) rfl)
    (e_each_cons (r_goto X (off := 4) (t := 13) dX11_agendaAt_9 (by decide))
    (e_each_cons (r_iconst X (n := 1) (v := 1) dX11_agendaAt_12 (by decide) rfl)
    (e_each_cons (r_callV X rfl (τ := sg_X11_isRefused) (index := 71) (ci := 10) dX11_agendaAt_13 (by decide) rfl w6_119 w6_121 ws_31 cs_X11_isRefused rfl ⟨by decide, by decide⟩ rfl)
    (e_each_cons (r_if_eq X (off := 5) (t := 21) dX11_agendaAt_16 (by decide) rfl)
    (e_each_cons (r_iconst X (n := 0) (v := 0) dX11_agendaAt_19 (by decide) rfl)
    (e_each_cons (r_ireti X dX11_agendaAt_20 rfl)
    (e_each_cons (r_aload_n X (k := 0) (i := 0) rfl dX11_agendaAt_21 rfl)
    (e_each_cons (r_iload_n X (k := 1) (i := 1) rfl dX11_agendaAt_22 rfl)
    (e_each_cons (r_callV X rfl (τ := sg_X11_laysAgenda) (index := 316) (ci := 10) dX11_agendaAt_23 (by decide) rfl w7_147 w7_149 ws_68 cs_X11_laysAgenda rfl ⟨by decide, by decide⟩ rfl)
    (e_each_cons (r_aload_n X (k := 0) (i := 0) rfl dX11_agendaAt_26 rfl)
    (e_each_cons (r_iload_n X (k := 2) (i := 2) rfl dX11_agendaAt_27 rfl)
    (e_each_cons (r_callV X rfl (τ := sg_X11_firstFrom) (index := 319) (ci := 10) dX11_agendaAt_28 (by decide) rfl w7_159 w7_161 ws_70 cs_X11_firstFrom rfl ⟨by decide, by decide⟩ rfl)
    (e_each_cons (r_istore X (i := 5) dX11_agendaAt_31 (by decide) rfl)
    (e_each_cons (r_aload_n X (k := 0) (i := 0) rfl dX11_agendaAt_33 rfl)
    (e_each_cons (r_iload_n X (k := 3) (i := 3) rfl dX11_agendaAt_34 rfl)
    (e_each_cons (r_iconst X (n := 0) (v := 0) dX11_agendaAt_35 (by decide) rfl)
    (e_each_cons (r_aload_n X (k := 0) (i := 0) rfl dX11_agendaAt_36 rfl)
    (e_each_cons (r_getI X (index := 309) (ci := 10) (k := 25) dX11_agendaAt_37 (by decide) (by decide) rfl w6_51 rfl)
    (e_each_cons (r_iload X (i := 5) dX11_agendaAt_40 rfl)
    (e_each_cons (r_isub X dX11_agendaAt_42 rfl)
    (e_each_cons (r_iconst X (n := 1) (v := 1) dX11_agendaAt_43 (by decide) rfl)
    (e_each_cons (r_isub X dX11_agendaAt_44 rfl)
    (e_each_cons (r_callS X rfl (τ := sg_X11_in) (index := 75) dX11_agendaAt_45 w6_127 w6_128 cs_X11_in rfl ⟨by decide, by decide⟩ rfl)
    (e_each_cons (r_if_ne X (off := 7) (t := 55) dX11_agendaAt_48 (by decide) rfl)
    (e_each_cons (r_iconst X (n := 2) (v := 2) dX11_agendaAt_51 (by decide) rfl)
    (e_each_cons (r_goto X (off := 18) (t := 70) dX11_agendaAt_52 (by decide))
    (e_each_cons (r_iload X (i := 4) dX11_agendaAt_55 rfl)
    (e_each_cons (r_iconst X (n := 0) (v := 0) dX11_agendaAt_57 (by decide) rfl)
    (e_each_cons (r_iconst X (n := 2) (v := 2) dX11_agendaAt_58 (by decide) rfl)
    (e_each_cons (r_callS X rfl (τ := sg_X11_in) (index := 75) dX11_agendaAt_59 w6_127 w6_128 cs_X11_in rfl ⟨by decide, by decide⟩ rfl)
    (e_each_cons (r_if_eq X (off := 7) (t := 69) dX11_agendaAt_62 (by decide) rfl)
    (e_each_cons (r_iconst X (n := 0) (v := 0) dX11_agendaAt_65 (by decide) rfl)
    (e_each_cons (r_goto X (off := 4) (t := 70) dX11_agendaAt_66 (by decide))
    (e_each_cons (r_iconst X (n := 3) (v := 3) dX11_agendaAt_69 (by decide) rfl)
    (e_each_cons (r_callV X rfl (τ := sg_X11_isRefused) (index := 71) (ci := 10) dX11_agendaAt_70 (by decide) rfl w6_119 w6_121 ws_31 cs_X11_isRefused rfl ⟨by decide, by decide⟩ rfl)
    (e_each_cons (r_if_eq X (off := 5) (t := 78) dX11_agendaAt_73 (by decide) rfl)
    (e_each_cons (r_iconst X (n := 0) (v := 0) dX11_agendaAt_76 (by decide) rfl)
    (e_each_cons (r_ireti X dX11_agendaAt_77 rfl)
    (e_each_cons (r_iload X (i := 5) dX11_agendaAt_78 rfl)
    (e_each_cons (r_iload_n X (k := 3) (i := 3) rfl dX11_agendaAt_80 rfl)
    (e_each_cons (r_iadd X dX11_agendaAt_81 rfl)
    (e_each_cons (r_istore X (i := 6) dX11_agendaAt_82 (by decide) rfl)
    (e_each_cons (r_iload X (i := 4) dX11_agendaAt_84 rfl)
    (e_each_cons (r_if_ne X (off := 13) (t := 99) dX11_agendaAt_86 (by decide) rfl)
    (e_each_cons (r_aload_n X (k := 0) (i := 0) rfl dX11_agendaAt_89 rfl)
    (e_each_cons (r_getP X (index := 37) (ci := 10) (k := 21) dX11_agendaAt_90 (by decide) (by decide) rfl w6_47 rfl)
    (e_each_cons (r_iload X (i := 6) dX11_agendaAt_93 rfl)
    (e_each_cons (r_iald X dX11_agendaAt_95 rfl)
    (e_each_cons (r_goto X (off := 26) (t := 122) dX11_agendaAt_96 (by decide))
    (e_each_cons (r_iload X (i := 4) dX11_agendaAt_99 rfl)
    (e_each_cons (r_iconst X (n := 1) (v := 1) dX11_agendaAt_101 (by decide) rfl)
    (e_each_cons (r_icmp_ne X (off := 13) (t := 115) dX11_agendaAt_102 (by decide) rfl)
    (e_each_cons (r_aload_n X (k := 0) (i := 0) rfl dX11_agendaAt_105 rfl)
    (e_each_cons (r_getP X (index := 40) (ci := 10) (k := 22) dX11_agendaAt_106 (by decide) (by decide) rfl w6_48 rfl)
    (e_each_cons (r_iload X (i := 6) dX11_agendaAt_109 rfl)
    (e_each_cons (r_iald X dX11_agendaAt_111 rfl)
    (e_each_cons (r_goto X (off := 10) (t := 122) dX11_agendaAt_112 (by decide))
    (e_each_cons (r_aload_n X (k := 0) (i := 0) rfl dX11_agendaAt_115 rfl)
    (e_each_cons (r_getP X (index := 43) (ci := 10) (k := 23) dX11_agendaAt_116 (by decide) (by decide) rfl w6_49 rfl)
    (e_each_cons (r_iload X (i := 6) dX11_agendaAt_119 rfl)
    (e_each_cons (r_iald X dX11_agendaAt_121 rfl)
    (e_each_cons (r_ireti X dX11_agendaAt_122 rfl)
    (e_each_nil)))))))))))))))))))))))))))))))))))))))))))))))))))))))))))))))))))
theorem dX11_clashes_0 : decode cX11_clashes 0 = .ok (.aload_n 0, 1) := by decide +kernel
theorem dX11_clashes_1 : decode cX11_clashes 1 = .ok (.iload_n 1, 1) := by decide +kernel
theorem dX11_clashes_2 : decode cX11_clashes 2 = .ok (.invokestatic 265, 3) := by decide +kernel
theorem dX11_clashes_5 : decode cX11_clashes 5 = .ok (.ifCond .eq 7, 3) := by decide +kernel
theorem dX11_clashes_8 : decode cX11_clashes 8 = .ok (.iconst 0, 1) := by decide +kernel
theorem dX11_clashes_9 : decode cX11_clashes 9 = .ok (.goto 4, 3) := by decide +kernel
theorem dX11_clashes_12 : decode cX11_clashes 12 = .ok (.iconst 1, 1) := by decide +kernel
theorem dX11_clashes_13 : decode cX11_clashes 13 = .ok (.invokevirtual 71, 3) := by decide +kernel
theorem dX11_clashes_16 : decode cX11_clashes 16 = .ok (.ifCond .eq 5, 3) := by decide +kernel
theorem dX11_clashes_19 : decode cX11_clashes 19 = .ok (.iconst 0, 1) := by decide +kernel
theorem dX11_clashes_20 : decode cX11_clashes 20 = .ok (.ireturn, 1) := by decide +kernel
theorem dX11_clashes_21 : decode cX11_clashes 21 = .ok (.aload_n 0, 1) := by decide +kernel
theorem dX11_clashes_22 : decode cX11_clashes 22 = .ok (.iload_n 1, 1) := by decide +kernel
theorem dX11_clashes_23 : decode cX11_clashes 23 = .ok (.invokevirtual 316, 3) := by decide +kernel
theorem dX11_clashes_26 : decode cX11_clashes 26 = .ok (.iconst 0, 1) := by decide +kernel
theorem dX11_clashes_27 : decode cX11_clashes 27 = .ok (.istore_n 2, 1) := by decide +kernel
theorem dX11_clashes_28 : decode cX11_clashes 28 = .ok (.iconst 0, 1) := by decide +kernel
theorem dX11_clashes_29 : decode cX11_clashes 29 = .ok (.istore_n 3, 1) := by decide +kernel
theorem dX11_clashes_30 : decode cX11_clashes 30 = .ok (.iload_n 3, 1) := by decide +kernel
theorem dX11_clashes_31 : decode cX11_clashes 31 = .ok (.aload_n 0, 1) := by decide +kernel
theorem dX11_clashes_32 : decode cX11_clashes 32 = .ok (.getfield 309, 3) := by decide +kernel
theorem dX11_clashes_35 : decode cX11_clashes 35 = .ok (.if_icmp .ge 91, 3) := by decide +kernel
theorem dX11_clashes_38 : decode cX11_clashes 38 = .ok (.iconst 0, 1) := by decide +kernel
theorem dX11_clashes_39 : decode cX11_clashes 39 = .ok (.istore 4, 2) := by decide +kernel
theorem dX11_clashes_41 : decode cX11_clashes 41 = .ok (.iload 4, 2) := by decide +kernel
theorem dX11_clashes_43 : decode cX11_clashes 43 = .ok (.iload_n 3, 1) := by decide +kernel
theorem dX11_clashes_44 : decode cX11_clashes 44 = .ok (.if_icmp .ge 76, 3) := by decide +kernel
theorem dX11_clashes_47 : decode cX11_clashes 47 = .ok (.aload_n 0, 1) := by decide +kernel
theorem dX11_clashes_48 : decode cX11_clashes 48 = .ok (.getfield 43, 3) := by decide +kernel
theorem dX11_clashes_51 : decode cX11_clashes 51 = .ok (.iload_n 3, 1) := by decide +kernel
theorem dX11_clashes_52 : decode cX11_clashes 52 = .ok (.iaload, 1) := by decide +kernel
theorem dX11_clashes_53 : decode cX11_clashes 53 = .ok (.aload_n 0, 1) := by decide +kernel
theorem dX11_clashes_54 : decode cX11_clashes 54 = .ok (.getfield 43, 3) := by decide +kernel
theorem dX11_clashes_57 : decode cX11_clashes 57 = .ok (.iload 4, 2) := by decide +kernel
theorem dX11_clashes_59 : decode cX11_clashes 59 = .ok (.iaload, 1) := by decide +kernel
theorem dX11_clashes_60 : decode cX11_clashes 60 = .ok (.aload_n 0, 1) := by decide +kernel
theorem dX11_clashes_61 : decode cX11_clashes 61 = .ok (.getfield 46, 3) := by decide +kernel
theorem dX11_clashes_64 : decode cX11_clashes 64 = .ok (.iload 4, 2) := by decide +kernel
theorem dX11_clashes_66 : decode cX11_clashes 66 = .ok (.iaload, 1) := by decide +kernel
theorem dX11_clashes_67 : decode cX11_clashes 67 = .ok (.iadd, 1) := by decide +kernel
theorem dX11_clashes_68 : decode cX11_clashes 68 = .ok (.if_icmp .ge 30, 3) := by decide +kernel
theorem dX11_clashes_71 : decode cX11_clashes 71 = .ok (.aload_n 0, 1) := by decide +kernel
theorem dX11_clashes_72 : decode cX11_clashes 72 = .ok (.getfield 43, 3) := by decide +kernel
theorem dX11_clashes_75 : decode cX11_clashes 75 = .ok (.iload 4, 2) := by decide +kernel
theorem dX11_clashes_77 : decode cX11_clashes 77 = .ok (.iaload, 1) := by decide +kernel
theorem dX11_clashes_78 : decode cX11_clashes 78 = .ok (.aload_n 0, 1) := by decide +kernel
theorem dX11_clashes_79 : decode cX11_clashes 79 = .ok (.getfield 43, 3) := by decide +kernel
theorem dX11_clashes_82 : decode cX11_clashes 82 = .ok (.iload_n 3, 1) := by decide +kernel
theorem dX11_clashes_83 : decode cX11_clashes 83 = .ok (.iaload, 1) := by decide +kernel
theorem dX11_clashes_84 : decode cX11_clashes 84 = .ok (.aload_n 0, 1) := by decide +kernel
theorem dX11_clashes_85 : decode cX11_clashes 85 = .ok (.getfield 46, 3) := by decide +kernel
theorem dX11_clashes_88 : decode cX11_clashes 88 = .ok (.iload_n 3, 1) := by decide +kernel
theorem dX11_clashes_89 : decode cX11_clashes 89 = .ok (.iaload, 1) := by decide +kernel
theorem dX11_clashes_90 : decode cX11_clashes 90 = .ok (.iadd, 1) := by decide +kernel
theorem dX11_clashes_91 : decode cX11_clashes 91 = .ok (.if_icmp .ge 7, 3) := by decide +kernel
theorem dX11_clashes_94 : decode cX11_clashes 94 = .ok (.iconst 1, 1) := by decide +kernel
theorem dX11_clashes_95 : decode cX11_clashes 95 = .ok (.goto 4, 3) := by decide +kernel
theorem dX11_clashes_98 : decode cX11_clashes 98 = .ok (.iconst 0, 1) := by decide +kernel
theorem dX11_clashes_99 : decode cX11_clashes 99 = .ok (.istore 5, 2) := by decide +kernel
theorem dX11_clashes_101 : decode cX11_clashes 101 = .ok (.iload 5, 2) := by decide +kernel
theorem dX11_clashes_103 : decode cX11_clashes 103 = .ok (.ifCond .eq 9, 3) := by decide +kernel
theorem dX11_clashes_106 : decode cX11_clashes 106 = .ok (.iload_n 2, 1) := by decide +kernel
theorem dX11_clashes_107 : decode cX11_clashes 107 = .ok (.iconst 1, 1) := by decide +kernel
theorem dX11_clashes_108 : decode cX11_clashes 108 = .ok (.iadd, 1) := by decide +kernel
theorem dX11_clashes_109 : decode cX11_clashes 109 = .ok (.goto 4, 3) := by decide +kernel
theorem dX11_clashes_112 : decode cX11_clashes 112 = .ok (.iload_n 2, 1) := by decide +kernel
theorem dX11_clashes_113 : decode cX11_clashes 113 = .ok (.istore_n 2, 1) := by decide +kernel
theorem dX11_clashes_114 : decode cX11_clashes 114 = .ok (.iinc 4 1, 3) := by decide +kernel
theorem dX11_clashes_117 : decode cX11_clashes 117 = .ok (.goto (-76), 3) := by decide +kernel
theorem dX11_clashes_120 : decode cX11_clashes 120 = .ok (.iinc 3 1, 3) := by decide +kernel
theorem dX11_clashes_123 : decode cX11_clashes 123 = .ok (.goto (-93), 3) := by decide +kernel
theorem dX11_clashes_126 : decode cX11_clashes 126 = .ok (.iload_n 2, 1) := by decide +kernel
theorem dX11_clashes_127 : decode cX11_clashes 127 = .ok (.ireturn, 1) := by decide +kernel
def pg_X11_clashes (l : Launch) (g : EG) : List (Nat × ES) := [(0, s_ldP 0), (1, s_ldI 1), (2, s_callS l g sg_X11_clashes sg_X11_isPlace), (5, s_if_eq 12), (8, s_c (.inl 0)), (9, s_goto 13), (12, s_c (.inl 1)), (13, s_callV l g sg_X11_clashes sg_X11_isRefused 10), (16, s_if_eq 21), (19, s_c (.inl 0)), (20, s_ireti), (21, s_ldP 0), (22, s_ldI 1), (23, s_callV l g sg_X11_clashes sg_X11_laysAgenda 10), (26, s_c (.inl 0)), (27, s_stI 2), (28, s_c (.inl 0)), (29, s_stI 3), (30, s_ldI 3), (31, s_ldP 0), (32, s_getI 10 25), (35, s_icmp_ge 126), (38, s_c (.inl 0)), (39, s_stI 4), (41, s_ldI 4), (43, s_ldI 3), (44, s_icmp_ge 120), (47, s_ldP 0), (48, s_getP 10 23), (51, s_ldI 3), (52, s_iald), (53, s_ldP 0), (54, s_getP 10 23), (57, s_ldI 4), (59, s_iald), (60, s_ldP 0), (61, s_getP 10 24), (64, s_ldI 4), (66, s_iald), (67, s_ii (fun x y => x + y)), (68, s_icmp_ge 98), (71, s_ldP 0), (72, s_getP 10 23), (75, s_ldI 4), (77, s_iald), (78, s_ldP 0), (79, s_getP 10 23), (82, s_ldI 3), (83, s_iald), (84, s_ldP 0), (85, s_getP 10 24), (88, s_ldI 3), (89, s_iald), (90, s_ii (fun x y => x + y)), (91, s_icmp_ge 98), (94, s_c (.inl 1)), (95, s_goto 99), (98, s_c (.inl 0)), (99, s_stI 5), (101, s_ldI 5), (103, s_if_eq 112), (106, s_ldI 2), (107, s_c (.inl 1)), (108, s_ii (fun x y => x + y)), (109, s_goto 113), (112, s_ldI 2), (113, s_stI 2), (114, s_iinc 4 1), (117, s_goto 41), (120, s_iinc 3 1), (123, s_goto 30), (126, s_ldI 2), (127, s_ireti)]
set_option maxRecDepth 100000 in
theorem ok_X11_clashes {l : Launch} {g : EG} : e_okp l g sg_X11_clashes "CalendarSyncModel" (pg_X11_clashes l g) := fun p e R s m args below meth c ex M0 Q X =>
    e_each_cons (r_aload_n X (k := 0) (i := 0) rfl dX11_clashes_0 rfl)
    (e_each_cons (r_iload_n X (k := 1) (i := 1) rfl dX11_clashes_1 rfl)
    (e_each_cons (r_callS X rfl (τ := sg_X11_isPlace) (index := 265) dX11_clashes_2 w7_68 w7_69 cs_X11_isPlace rfl ⟨by decide, by decide⟩ rfl)
    (e_each_cons (r_if_eq X (off := 7) (t := 12) dX11_clashes_5 (by decide) rfl)
    (e_each_cons (r_iconst X (n := 0) (v := 0) dX11_clashes_8 (by decide) rfl)
    (e_each_cons (r_goto X (off := 4) (t := 13) dX11_clashes_9 (by decide))
    (e_each_cons (r_iconst X (n := 1) (v := 1) dX11_clashes_12 (by decide) rfl)
    (e_each_cons (r_callV X rfl (τ := sg_X11_isRefused) (index := 71) (ci := 10) dX11_clashes_13 (by decide) rfl w6_119 w6_121 ws_31 cs_X11_isRefused rfl ⟨by decide, by decide⟩ rfl)
    (e_each_cons (r_if_eq X (off := 5) (t := 21) dX11_clashes_16 (by decide) rfl)
    (e_each_cons (r_iconst X (n := 0) (v := 0) dX11_clashes_19 (by decide) rfl)
    (e_each_cons (r_ireti X dX11_clashes_20 rfl)
    (e_each_cons (r_aload_n X (k := 0) (i := 0) rfl dX11_clashes_21 rfl)
    (e_each_cons (r_iload_n X (k := 1) (i := 1) rfl dX11_clashes_22 rfl)
    (e_each_cons (r_callV X rfl (τ := sg_X11_laysAgenda) (index := 316) (ci := 10) dX11_clashes_23 (by decide) rfl w7_147 w7_149 ws_68 cs_X11_laysAgenda rfl ⟨by decide, by decide⟩ rfl)
    (e_each_cons (r_iconst X (n := 0) (v := 0) dX11_clashes_26 (by decide) rfl)
    (e_each_cons (r_istore_n X (k := 2) (i := 2) rfl dX11_clashes_27 (by decide) rfl)
    (e_each_cons (r_iconst X (n := 0) (v := 0) dX11_clashes_28 (by decide) rfl)
    (e_each_cons (r_istore_n X (k := 3) (i := 3) rfl dX11_clashes_29 (by decide) rfl)
    (e_each_cons (r_iload_n X (k := 3) (i := 3) rfl dX11_clashes_30 rfl)
    (e_each_cons (r_aload_n X (k := 0) (i := 0) rfl dX11_clashes_31 rfl)
    (e_each_cons (r_getI X (index := 309) (ci := 10) (k := 25) dX11_clashes_32 (by decide) (by decide) rfl w6_51 rfl)
    (e_each_cons (r_icmp_ge X (off := 91) (t := 126) dX11_clashes_35 (by decide) rfl)
    (e_each_cons (r_iconst X (n := 0) (v := 0) dX11_clashes_38 (by decide) rfl)
    (e_each_cons (r_istore X (i := 4) dX11_clashes_39 (by decide) rfl)
    (e_each_cons (r_iload X (i := 4) dX11_clashes_41 rfl)
    (e_each_cons (r_iload_n X (k := 3) (i := 3) rfl dX11_clashes_43 rfl)
    (e_each_cons (r_icmp_ge X (off := 76) (t := 120) dX11_clashes_44 (by decide) rfl)
    (e_each_cons (r_aload_n X (k := 0) (i := 0) rfl dX11_clashes_47 rfl)
    (e_each_cons (r_getP X (index := 43) (ci := 10) (k := 23) dX11_clashes_48 (by decide) (by decide) rfl w6_49 rfl)
    (e_each_cons (r_iload_n X (k := 3) (i := 3) rfl dX11_clashes_51 rfl)
    (e_each_cons (r_iald X dX11_clashes_52 rfl)
    (e_each_cons (r_aload_n X (k := 0) (i := 0) rfl dX11_clashes_53 rfl)
    (e_each_cons (r_getP X (index := 43) (ci := 10) (k := 23) dX11_clashes_54 (by decide) (by decide) rfl w6_49 rfl)
    (e_each_cons (r_iload X (i := 4) dX11_clashes_57 rfl)
    (e_each_cons (r_iald X dX11_clashes_59 rfl)
    (e_each_cons (r_aload_n X (k := 0) (i := 0) rfl dX11_clashes_60 rfl)
    (e_each_cons (r_getP X (index := 46) (ci := 10) (k := 24) dX11_clashes_61 (by decide) (by decide) rfl w6_50 rfl)
    (e_each_cons (r_iload X (i := 4) dX11_clashes_64 rfl)
    (e_each_cons (r_iald X dX11_clashes_66 rfl)
    (e_each_cons (r_iadd X dX11_clashes_67 rfl)
    (e_each_cons (r_icmp_ge X (off := 30) (t := 98) dX11_clashes_68 (by decide) rfl)
    (e_each_cons (r_aload_n X (k := 0) (i := 0) rfl dX11_clashes_71 rfl)
    (e_each_cons (r_getP X (index := 43) (ci := 10) (k := 23) dX11_clashes_72 (by decide) (by decide) rfl w6_49 rfl)
    (e_each_cons (r_iload X (i := 4) dX11_clashes_75 rfl)
    (e_each_cons (r_iald X dX11_clashes_77 rfl)
    (e_each_cons (r_aload_n X (k := 0) (i := 0) rfl dX11_clashes_78 rfl)
    (e_each_cons (r_getP X (index := 43) (ci := 10) (k := 23) dX11_clashes_79 (by decide) (by decide) rfl w6_49 rfl)
    (e_each_cons (r_iload_n X (k := 3) (i := 3) rfl dX11_clashes_82 rfl)
    (e_each_cons (r_iald X dX11_clashes_83 rfl)
    (e_each_cons (r_aload_n X (k := 0) (i := 0) rfl dX11_clashes_84 rfl)
    (e_each_cons (r_getP X (index := 46) (ci := 10) (k := 24) dX11_clashes_85 (by decide) (by decide) rfl w6_50 rfl)
    (e_each_cons (r_iload_n X (k := 3) (i := 3) rfl dX11_clashes_88 rfl)
    (e_each_cons (r_iald X dX11_clashes_89 rfl)
    (e_each_cons (r_iadd X dX11_clashes_90 rfl)
    (e_each_cons (r_icmp_ge X (off := 7) (t := 98) dX11_clashes_91 (by decide) rfl)
    (e_each_cons (r_iconst X (n := 1) (v := 1) dX11_clashes_94 (by decide) rfl)
    (e_each_cons (r_goto X (off := 4) (t := 99) dX11_clashes_95 (by decide))
    (e_each_cons (r_iconst X (n := 0) (v := 0) dX11_clashes_98 (by decide) rfl)
    (e_each_cons (r_istore X (i := 5) dX11_clashes_99 (by decide) rfl)
    (e_each_cons (r_iload X (i := 5) dX11_clashes_101 rfl)
    (e_each_cons (r_if_eq X (off := 9) (t := 112) dX11_clashes_103 (by decide) rfl)
    (e_each_cons (r_iload_n X (k := 2) (i := 2) rfl dX11_clashes_106 rfl)
    (e_each_cons (r_iconst X (n := 1) (v := 1) dX11_clashes_107 (by decide) rfl)
    (e_each_cons (r_iadd X dX11_clashes_108 rfl)
    (e_each_cons (r_goto X (off := 4) (t := 113) dX11_clashes_109 (by decide))
    (e_each_cons (r_iload_n X (k := 2) (i := 2) rfl dX11_clashes_112 rfl)
    (e_each_cons (r_istore_n X (k := 2) (i := 2) rfl dX11_clashes_113 (by decide) rfl)
    (e_each_cons (r_iinc X (i := 4) (n := 1) (d := 1) dX11_clashes_114 (by decide) (by decide) rfl)
    (e_each_cons (r_goto X (off := (-76)) (t := 41) dX11_clashes_117 (by decide))
    (e_each_cons (r_iinc X (i := 3) (n := 1) (d := 1) dX11_clashes_120 (by decide) (by decide) rfl)
    (e_each_cons (r_goto X (off := (-93)) (t := 30) dX11_clashes_123 (by decide))
    (e_each_cons (r_iload_n X (k := 2) (i := 2) rfl dX11_clashes_126 rfl)
    (e_each_cons (r_ireti X dX11_clashes_127 rfl)
    (e_each_nil)))))))))))))))))))))))))))))))))))))))))))))))))))))))))))))))))))))))))
theorem dX11_busyMinutes_0 : decode cX11_busyMinutes 0 = .ok (.iconst 0, 1) := by decide +kernel
theorem dX11_busyMinutes_1 : decode cX11_busyMinutes 1 = .ok (.istore_n 3, 1) := by decide +kernel
theorem dX11_busyMinutes_2 : decode cX11_busyMinutes 2 = .ok (.iload_n 1, 1) := by decide +kernel
theorem dX11_busyMinutes_3 : decode cX11_busyMinutes 3 = .ok (.istore 4, 2) := by decide +kernel
theorem dX11_busyMinutes_5 : decode cX11_busyMinutes 5 = .ok (.iconst 0, 1) := by decide +kernel
theorem dX11_busyMinutes_6 : decode cX11_busyMinutes 6 = .ok (.istore 5, 2) := by decide +kernel
theorem dX11_busyMinutes_8 : decode cX11_busyMinutes 8 = .ok (.iload 5, 2) := by decide +kernel
theorem dX11_busyMinutes_10 : decode cX11_busyMinutes 10 = .ok (.aload_n 0, 1) := by decide +kernel
theorem dX11_busyMinutes_11 : decode cX11_busyMinutes 11 = .ok (.getfield 309, 3) := by decide +kernel
theorem dX11_busyMinutes_14 : decode cX11_busyMinutes 14 = .ok (.if_icmp .ge 63, 3) := by decide +kernel
theorem dX11_busyMinutes_17 : decode cX11_busyMinutes 17 = .ok (.aload_n 0, 1) := by decide +kernel
theorem dX11_busyMinutes_18 : decode cX11_busyMinutes 18 = .ok (.getfield 43, 3) := by decide +kernel
theorem dX11_busyMinutes_21 : decode cX11_busyMinutes 21 = .ok (.iload 5, 2) := by decide +kernel
theorem dX11_busyMinutes_23 : decode cX11_busyMinutes 23 = .ok (.iaload, 1) := by decide +kernel
theorem dX11_busyMinutes_24 : decode cX11_busyMinutes 24 = .ok (.iload 4, 2) := by decide +kernel
theorem dX11_busyMinutes_26 : decode cX11_busyMinutes 26 = .ok (.invokestatic 322, 3) := by decide +kernel
theorem dX11_busyMinutes_29 : decode cX11_busyMinutes 29 = .ok (.istore 6, 2) := by decide +kernel
theorem dX11_busyMinutes_31 : decode cX11_busyMinutes 31 = .ok (.aload_n 0, 1) := by decide +kernel
theorem dX11_busyMinutes_32 : decode cX11_busyMinutes 32 = .ok (.getfield 43, 3) := by decide +kernel
theorem dX11_busyMinutes_35 : decode cX11_busyMinutes 35 = .ok (.iload 5, 2) := by decide +kernel
theorem dX11_busyMinutes_37 : decode cX11_busyMinutes 37 = .ok (.iaload, 1) := by decide +kernel
theorem dX11_busyMinutes_38 : decode cX11_busyMinutes 38 = .ok (.aload_n 0, 1) := by decide +kernel
theorem dX11_busyMinutes_39 : decode cX11_busyMinutes 39 = .ok (.getfield 46, 3) := by decide +kernel
theorem dX11_busyMinutes_42 : decode cX11_busyMinutes 42 = .ok (.iload 5, 2) := by decide +kernel
theorem dX11_busyMinutes_44 : decode cX11_busyMinutes 44 = .ok (.iaload, 1) := by decide +kernel
theorem dX11_busyMinutes_45 : decode cX11_busyMinutes 45 = .ok (.iadd, 1) := by decide +kernel
theorem dX11_busyMinutes_46 : decode cX11_busyMinutes 46 = .ok (.iload_n 2, 1) := by decide +kernel
theorem dX11_busyMinutes_47 : decode cX11_busyMinutes 47 = .ok (.invokestatic 325, 3) := by decide +kernel
theorem dX11_busyMinutes_50 : decode cX11_busyMinutes 50 = .ok (.istore 7, 2) := by decide +kernel
theorem dX11_busyMinutes_52 : decode cX11_busyMinutes 52 = .ok (.iload 7, 2) := by decide +kernel
theorem dX11_busyMinutes_54 : decode cX11_busyMinutes 54 = .ok (.iload 6, 2) := by decide +kernel
theorem dX11_busyMinutes_56 : decode cX11_busyMinutes 56 = .ok (.if_icmp .le 15, 3) := by decide +kernel
theorem dX11_busyMinutes_59 : decode cX11_busyMinutes 59 = .ok (.iload_n 3, 1) := by decide +kernel
theorem dX11_busyMinutes_60 : decode cX11_busyMinutes 60 = .ok (.iload 7, 2) := by decide +kernel
theorem dX11_busyMinutes_62 : decode cX11_busyMinutes 62 = .ok (.iadd, 1) := by decide +kernel
theorem dX11_busyMinutes_63 : decode cX11_busyMinutes 63 = .ok (.iload 6, 2) := by decide +kernel
theorem dX11_busyMinutes_65 : decode cX11_busyMinutes 65 = .ok (.isub, 1) := by decide +kernel
theorem dX11_busyMinutes_66 : decode cX11_busyMinutes 66 = .ok (.istore_n 3, 1) := by decide +kernel
theorem dX11_busyMinutes_67 : decode cX11_busyMinutes 67 = .ok (.iload 7, 2) := by decide +kernel
theorem dX11_busyMinutes_69 : decode cX11_busyMinutes 69 = .ok (.istore 4, 2) := by decide +kernel
theorem dX11_busyMinutes_71 : decode cX11_busyMinutes 71 = .ok (.iinc 5 1, 3) := by decide +kernel
theorem dX11_busyMinutes_74 : decode cX11_busyMinutes 74 = .ok (.goto (-66), 3) := by decide +kernel
theorem dX11_busyMinutes_77 : decode cX11_busyMinutes 77 = .ok (.iload_n 3, 1) := by decide +kernel
theorem dX11_busyMinutes_78 : decode cX11_busyMinutes 78 = .ok (.ireturn, 1) := by decide +kernel
def pg_X11_busyMinutes (l : Launch) (g : EG) : List (Nat × ES) := [(0, s_c (.inl 0)), (1, s_stI 3), (2, s_ldI 1), (3, s_stI 4), (5, s_c (.inl 0)), (6, s_stI 5), (8, s_ldI 5), (10, s_ldP 0), (11, s_getI 10 25), (14, s_icmp_ge 77), (17, s_ldP 0), (18, s_getP 10 23), (21, s_ldI 5), (23, s_iald), (24, s_ldI 4), (26, s_callS l g sg_X11_busyMinutes sg_X11_greater), (29, s_stI 6), (31, s_ldP 0), (32, s_getP 10 23), (35, s_ldI 5), (37, s_iald), (38, s_ldP 0), (39, s_getP 10 24), (42, s_ldI 5), (44, s_iald), (45, s_ii (fun x y => x + y)), (46, s_ldI 2), (47, s_callS l g sg_X11_busyMinutes sg_X11_lesser), (50, s_stI 7), (52, s_ldI 7), (54, s_ldI 6), (56, s_icmp_le 71), (59, s_ldI 3), (60, s_ldI 7), (62, s_ii (fun x y => x + y)), (63, s_ldI 6), (65, s_ii (fun x y => x - y)), (66, s_stI 3), (67, s_ldI 7), (69, s_stI 4), (71, s_iinc 5 1), (74, s_goto 8), (77, s_ldI 3), (78, s_ireti)]
set_option maxRecDepth 100000 in
theorem ok_X11_busyMinutes {l : Launch} {g : EG} : e_okp l g sg_X11_busyMinutes "CalendarSyncModel" (pg_X11_busyMinutes l g) := fun p e R s m args below meth c ex M0 Q X =>
    e_each_cons (r_iconst X (n := 0) (v := 0) dX11_busyMinutes_0 (by decide) rfl)
    (e_each_cons (r_istore_n X (k := 3) (i := 3) rfl dX11_busyMinutes_1 (by decide) rfl)
    (e_each_cons (r_iload_n X (k := 1) (i := 1) rfl dX11_busyMinutes_2 rfl)
    (e_each_cons (r_istore X (i := 4) dX11_busyMinutes_3 (by decide) rfl)
    (e_each_cons (r_iconst X (n := 0) (v := 0) dX11_busyMinutes_5 (by decide) rfl)
    (e_each_cons (r_istore X (i := 5) dX11_busyMinutes_6 (by decide) rfl)
    (e_each_cons (r_iload X (i := 5) dX11_busyMinutes_8 rfl)
    (e_each_cons (r_aload_n X (k := 0) (i := 0) rfl dX11_busyMinutes_10 rfl)
    (e_each_cons (r_getI X (index := 309) (ci := 10) (k := 25) dX11_busyMinutes_11 (by decide) (by decide) rfl w6_51 rfl)
    (e_each_cons (r_icmp_ge X (off := 63) (t := 77) dX11_busyMinutes_14 (by decide) rfl)
    (e_each_cons (r_aload_n X (k := 0) (i := 0) rfl dX11_busyMinutes_17 rfl)
    (e_each_cons (r_getP X (index := 43) (ci := 10) (k := 23) dX11_busyMinutes_18 (by decide) (by decide) rfl w6_49 rfl)
    (e_each_cons (r_iload X (i := 5) dX11_busyMinutes_21 rfl)
    (e_each_cons (r_iald X dX11_busyMinutes_23 rfl)
    (e_each_cons (r_iload X (i := 4) dX11_busyMinutes_24 rfl)
    (e_each_cons (r_callS X rfl (τ := sg_X11_greater) (index := 322) dX11_busyMinutes_26 w7_184 w7_185 cs_X11_greater rfl ⟨by decide, by decide⟩ rfl)
    (e_each_cons (r_istore X (i := 6) dX11_busyMinutes_29 (by decide) rfl)
    (e_each_cons (r_aload_n X (k := 0) (i := 0) rfl dX11_busyMinutes_31 rfl)
    (e_each_cons (r_getP X (index := 43) (ci := 10) (k := 23) dX11_busyMinutes_32 (by decide) (by decide) rfl w6_49 rfl)
    (e_each_cons (r_iload X (i := 5) dX11_busyMinutes_35 rfl)
    (e_each_cons (r_iald X dX11_busyMinutes_37 rfl)
    (e_each_cons (r_aload_n X (k := 0) (i := 0) rfl dX11_busyMinutes_38 rfl)
    (e_each_cons (r_getP X (index := 46) (ci := 10) (k := 24) dX11_busyMinutes_39 (by decide) (by decide) rfl w6_50 rfl)
    (e_each_cons (r_iload X (i := 5) dX11_busyMinutes_42 rfl)
    (e_each_cons (r_iald X dX11_busyMinutes_44 rfl)
    (e_each_cons (r_iadd X dX11_busyMinutes_45 rfl)
    (e_each_cons (r_iload_n X (k := 2) (i := 2) rfl dX11_busyMinutes_46 rfl)
    (e_each_cons (r_callS X rfl (τ := sg_X11_lesser) (index := 325) dX11_busyMinutes_47 w7_187 w7_188 cs_X11_lesser rfl ⟨by decide, by decide⟩ rfl)
    (e_each_cons (r_istore X (i := 7) dX11_busyMinutes_50 (by decide) rfl)
    (e_each_cons (r_iload X (i := 7) dX11_busyMinutes_52 rfl)
    (e_each_cons (r_iload X (i := 6) dX11_busyMinutes_54 rfl)
    (e_each_cons (r_icmp_le X (off := 15) (t := 71) dX11_busyMinutes_56 (by decide) rfl)
    (e_each_cons (r_iload_n X (k := 3) (i := 3) rfl dX11_busyMinutes_59 rfl)
    (e_each_cons (r_iload X (i := 7) dX11_busyMinutes_60 rfl)
    (e_each_cons (r_iadd X dX11_busyMinutes_62 rfl)
    (e_each_cons (r_iload X (i := 6) dX11_busyMinutes_63 rfl)
    (e_each_cons (r_isub X dX11_busyMinutes_65 rfl)
    (e_each_cons (r_istore_n X (k := 3) (i := 3) rfl dX11_busyMinutes_66 (by decide) rfl)
    (e_each_cons (r_iload X (i := 7) dX11_busyMinutes_67 rfl)
    (e_each_cons (r_istore X (i := 4) dX11_busyMinutes_69 (by decide) rfl)
    (e_each_cons (r_iinc X (i := 5) (n := 1) (d := 1) dX11_busyMinutes_71 (by decide) (by decide) rfl)
    (e_each_cons (r_goto X (off := (-66)) (t := 8) dX11_busyMinutes_74 (by decide))
    (e_each_cons (r_iload_n X (k := 3) (i := 3) rfl dX11_busyMinutes_77 rfl)
    (e_each_cons (r_ireti X dX11_busyMinutes_78 rfl)
    (e_each_nil))))))))))))))))))))))))))))))))))))))))))))
theorem dX11_isTime_0 : decode cX11_isTime 0 = .ok (.iload_n 3, 1) := by decide +kernel
theorem dX11_isTime_1 : decode cX11_isTime 1 = .ok (.i2l, 1) := by decide +kernel
theorem dX11_isTime_2 : decode cX11_isTime 2 = .ok (.iload_n 2, 1) := by decide +kernel
theorem dX11_isTime_3 : decode cX11_isTime 3 = .ok (.i2l, 1) := by decide +kernel
theorem dX11_isTime_4 : decode cX11_isTime 4 = .ok (.lsub, 1) := by decide +kernel
theorem dX11_isTime_5 : decode cX11_isTime 5 = .ok (.lstore 4, 2) := by decide +kernel
theorem dX11_isTime_7 : decode cX11_isTime 7 = .ok (.iload_n 1, 1) := by decide +kernel
theorem dX11_isTime_8 : decode cX11_isTime 8 = .ok (.invokestatic 265, 3) := by decide +kernel
theorem dX11_isTime_11 : decode cX11_isTime 11 = .ok (.ifCond .eq 23, 3) := by decide +kernel
theorem dX11_isTime_14 : decode cX11_isTime 14 = .ok (.lload 4, 2) := by decide +kernel
theorem dX11_isTime_16 : decode cX11_isTime 16 = .ok (.lconst 1, 1) := by decide +kernel
theorem dX11_isTime_17 : decode cX11_isTime 17 = .ok (.lcmp, 1) := by decide +kernel
theorem dX11_isTime_18 : decode cX11_isTime 18 = .ok (.ifCond .lt 16, 3) := by decide +kernel
theorem dX11_isTime_21 : decode cX11_isTime 21 = .ok (.lload 4, 2) := by decide +kernel
theorem dX11_isTime_23 : decode cX11_isTime 23 = .ok (.ldc2_w 328, 3) := by decide +kernel
theorem dX11_isTime_26 : decode cX11_isTime 26 = .ok (.lcmp, 1) := by decide +kernel
theorem dX11_isTime_27 : decode cX11_isTime 27 = .ok (.ifCond .gt 7, 3) := by decide +kernel
theorem dX11_isTime_30 : decode cX11_isTime 30 = .ok (.iconst 1, 1) := by decide +kernel
theorem dX11_isTime_31 : decode cX11_isTime 31 = .ok (.goto 4, 3) := by decide +kernel
theorem dX11_isTime_34 : decode cX11_isTime 34 = .ok (.iconst 0, 1) := by decide +kernel
theorem dX11_isTime_35 : decode cX11_isTime 35 = .ok (.ireturn, 1) := by decide +kernel
def pg_X11_isTime (l : Launch) (g : EG) : List (Nat × ES) := [(0, s_ldI 3), (1, s_il (fun x => x.toInt64)), (2, s_ldI 2), (3, s_il (fun x => x.toInt64)), (4, s_ll (fun x y => x - y)), (5, s_stL 4), (7, s_ldI 1), (8, s_callS l g sg_X11_isTime sg_X11_isPlace), (11, s_if_eq 34), (14, s_ldL 4), (16, s_c (.inr (.inl 1))), (17, s_lc lg_cmp), (18, s_if_lt 34), (21, s_ldL 4), (23, s_c (.inr (.inl 100000))), (26, s_lc lg_cmp), (27, s_if_gt 34), (30, s_c (.inl 1)), (31, s_goto 35), (34, s_c (.inl 0)), (35, s_iretz)]
set_option maxRecDepth 100000 in
theorem ok_X11_isTime {l : Launch} {g : EG} : e_okp l g sg_X11_isTime "CalendarSyncModel" (pg_X11_isTime l g) := fun p e R s m args below meth c ex M0 Q X =>
    e_each_cons (r_iload_n X (k := 3) (i := 3) rfl dX11_isTime_0 rfl)
    (e_each_cons (r_i2l X dX11_isTime_1 rfl)
    (e_each_cons (r_iload_n X (k := 2) (i := 2) rfl dX11_isTime_2 rfl)
    (e_each_cons (r_i2l X dX11_isTime_3 rfl)
    (e_each_cons (r_lsub X dX11_isTime_4 rfl)
    (e_each_cons (r_lstore X (i := 4) dX11_isTime_5 (by decide) rfl)
    (e_each_cons (r_iload_n X (k := 1) (i := 1) rfl dX11_isTime_7 rfl)
    (e_each_cons (r_callS X rfl (τ := sg_X11_isPlace) (index := 265) dX11_isTime_8 w7_68 w7_69 cs_X11_isPlace rfl ⟨by decide, by decide⟩ rfl)
    (e_each_cons (r_if_eq X (off := 23) (t := 34) dX11_isTime_11 (by decide) rfl)
    (e_each_cons (r_lload X (i := 4) dX11_isTime_14 rfl)
    (e_each_cons (r_lconst X (n := 1) (v := 1) dX11_isTime_16 (by decide) rfl)
    (e_each_cons (r_lcmp X dX11_isTime_17 rfl)
    (e_each_cons (r_if_lt X (off := 16) (t := 34) dX11_isTime_18 (by decide) rfl)
    (e_each_cons (r_lload X (i := 4) dX11_isTime_21 rfl)
    (e_each_cons (r_ldc2 X (n := 328) (v := 100000) dX11_isTime_23 w7_175 rfl)
    (e_each_cons (r_lcmp X dX11_isTime_26 rfl)
    (e_each_cons (r_if_gt X (off := 7) (t := 34) dX11_isTime_27 (by decide) rfl)
    (e_each_cons (r_iconst X (n := 1) (v := 1) dX11_isTime_30 (by decide) rfl)
    (e_each_cons (r_goto X (off := 4) (t := 35) dX11_isTime_31 (by decide))
    (e_each_cons (r_iconst X (n := 0) (v := 0) dX11_isTime_34 (by decide) rfl)
    (e_each_cons (r_iretz X dX11_isTime_35 rfl)
    (e_each_nil)))))))))))))))))))))
theorem dX11_busyNow_0 : decode cX11_busyNow 0 = .ok (.aload_n 0, 1) := by decide +kernel
theorem dX11_busyNow_1 : decode cX11_busyNow 1 = .ok (.iload_n 1, 1) := by decide +kernel
theorem dX11_busyNow_2 : decode cX11_busyNow 2 = .ok (.invokevirtual 316, 3) := by decide +kernel
theorem dX11_busyNow_5 : decode cX11_busyNow 5 = .ok (.aload_n 0, 1) := by decide +kernel
theorem dX11_busyNow_6 : decode cX11_busyNow 6 = .ok (.iload_n 2, 1) := by decide +kernel
theorem dX11_busyNow_7 : decode cX11_busyNow 7 = .ok (.iload_n 3, 1) := by decide +kernel
theorem dX11_busyNow_8 : decode cX11_busyNow 8 = .ok (.invokevirtual 330, 3) := by decide +kernel
theorem dX11_busyNow_11 : decode cX11_busyNow 11 = .ok (.i2f, 1) := by decide +kernel
theorem dX11_busyNow_12 : decode cX11_busyNow 12 = .ok (.iload_n 3, 1) := by decide +kernel
theorem dX11_busyNow_13 : decode cX11_busyNow 13 = .ok (.iload_n 2, 1) := by decide +kernel
theorem dX11_busyNow_14 : decode cX11_busyNow 14 = .ok (.isub, 1) := by decide +kernel
theorem dX11_busyNow_15 : decode cX11_busyNow 15 = .ok (.i2f, 1) := by decide +kernel
theorem dX11_busyNow_16 : decode cX11_busyNow 16 = .ok (.fdiv, 1) := by decide +kernel
theorem dX11_busyNow_17 : decode cX11_busyNow 17 = .ok (.freturn, 1) := by decide +kernel
def pg_X11_busyNow (l : Launch) (g : EG) : List (Nat × ES) := [(0, s_ldP 0), (1, s_ldI 1), (2, s_callV l g sg_X11_busyNow sg_X11_laysAgenda 10), (5, s_ldP 0), (6, s_ldI 2), (7, s_ldI 3), (8, s_callV l g sg_X11_busyNow sg_X11_busyMinutes 10), (11, s_if FP.i2f), (12, s_ldI 3), (13, s_ldI 2), (14, s_ii (fun x y => x - y)), (15, s_if FP.i2f), (16, s_ff FP.fdiv (fun x y => vf_n32 (FP.fdiv x y))), (17, s_fret)]
set_option maxRecDepth 100000 in
theorem ok_X11_busyNow {l : Launch} {g : EG} : e_okp l g sg_X11_busyNow "CalendarSyncModel" (pg_X11_busyNow l g) := fun p e R s m args below meth c ex M0 Q X =>
    e_each_cons (r_aload_n X (k := 0) (i := 0) rfl dX11_busyNow_0 rfl)
    (e_each_cons (r_iload_n X (k := 1) (i := 1) rfl dX11_busyNow_1 rfl)
    (e_each_cons (r_callV X rfl (τ := sg_X11_laysAgenda) (index := 316) (ci := 10) dX11_busyNow_2 (by decide) rfl w7_147 w7_149 ws_68 cs_X11_laysAgenda rfl ⟨by decide, by decide⟩ rfl)
    (e_each_cons (r_aload_n X (k := 0) (i := 0) rfl dX11_busyNow_5 rfl)
    (e_each_cons (r_iload_n X (k := 2) (i := 2) rfl dX11_busyNow_6 rfl)
    (e_each_cons (r_iload_n X (k := 3) (i := 3) rfl dX11_busyNow_7 rfl)
    (e_each_cons (r_callV X rfl (τ := sg_X11_busyMinutes) (index := 330) (ci := 10) dX11_busyNow_8 (by decide) rfl w7_180 w7_182 ws_73 cs_X11_busyMinutes rfl ⟨by decide, by decide⟩ rfl)
    (e_each_cons (r_i2f X dX11_busyNow_11 rfl)
    (e_each_cons (r_iload_n X (k := 3) (i := 3) rfl dX11_busyNow_12 rfl)
    (e_each_cons (r_iload_n X (k := 2) (i := 2) rfl dX11_busyNow_13 rfl)
    (e_each_cons (r_isub X dX11_busyNow_14 rfl)
    (e_each_cons (r_i2f X dX11_busyNow_15 rfl)
    (e_each_cons (r_fdiv X dX11_busyNow_16 rfl)
    (e_each_cons (r_fret X dX11_busyNow_17 rfl)
    (e_each_nil))))))))))))))
theorem dX11_busy_0 : decode cX11_busy 0 = .ok (.aload_n 0, 1) := by decide +kernel
theorem dX11_busy_1 : decode cX11_busy 1 = .ok (.aload_n 0, 1) := by decide +kernel
theorem dX11_busy_2 : decode cX11_busy 2 = .ok (.iload_n 1, 1) := by decide +kernel
theorem dX11_busy_3 : decode cX11_busy 3 = .ok (.iload_n 2, 1) := by decide +kernel
theorem dX11_busy_4 : decode cX11_busy 4 = .ok (.iload_n 3, 1) := by decide +kernel
theorem dX11_busy_5 : decode cX11_busy 5 = .ok (.invokevirtual 333, 3) := by decide +kernel
theorem dX11_busy_8 : decode cX11_busy 8 = .ok (.ifCond .eq 7, 3) := by decide +kernel
theorem dX11_busy_11 : decode cX11_busy 11 = .ok (.iconst 0, 1) := by decide +kernel
theorem dX11_busy_12 : decode cX11_busy 12 = .ok (.goto 4, 3) := by decide +kernel
theorem dX11_busy_15 : decode cX11_busy 15 = .ok (.iconst 1, 1) := by decide +kernel
theorem dX11_busy_16 : decode cX11_busy 16 = .ok (.invokevirtual 71, 3) := by decide +kernel
theorem dX11_busy_19 : decode cX11_busy 19 = .ok (.ifCond .eq 5, 3) := by decide +kernel
theorem dX11_busy_22 : decode cX11_busy 22 = .ok (.fconst 0, 1) := by decide +kernel
theorem dX11_busy_23 : decode cX11_busy 23 = .ok (.freturn, 1) := by decide +kernel
theorem dX11_busy_24 : decode cX11_busy 24 = .ok (.aload_n 0, 1) := by decide +kernel
theorem dX11_busy_25 : decode cX11_busy 25 = .ok (.iload_n 1, 1) := by decide +kernel
theorem dX11_busy_26 : decode cX11_busy 26 = .ok (.iload_n 2, 1) := by decide +kernel
theorem dX11_busy_27 : decode cX11_busy 27 = .ok (.iload_n 3, 1) := by decide +kernel
theorem dX11_busy_28 : decode cX11_busy 28 = .ok (.invokevirtual 336, 3) := by decide +kernel
theorem dX11_busy_31 : decode cX11_busy 31 = .ok (.freturn, 1) := by decide +kernel
def pg_X11_busy (l : Launch) (g : EG) : List (Nat × ES) := [(0, s_ldP 0), (1, s_ldP 0), (2, s_ldI 1), (3, s_ldI 2), (4, s_ldI 3), (5, s_callV l g sg_X11_busy sg_X11_isTime 10), (8, s_if_eq 15), (11, s_c (.inl 0)), (12, s_goto 16), (15, s_c (.inl 1)), (16, s_callV l g sg_X11_busy sg_X11_isRefused 10), (19, s_if_eq 24), (22, s_c (.inr (.inr (.inl FP.fconst0)))), (23, s_fret), (24, s_ldP 0), (25, s_ldI 1), (26, s_ldI 2), (27, s_ldI 3), (28, s_callV l g sg_X11_busy sg_X11_busyNow 10), (31, s_fret)]
set_option maxRecDepth 100000 in
theorem ok_X11_busy {l : Launch} {g : EG} : e_okp l g sg_X11_busy "CalendarSyncModel" (pg_X11_busy l g) := fun p e R s m args below meth c ex M0 Q X =>
    e_each_cons (r_aload_n X (k := 0) (i := 0) rfl dX11_busy_0 rfl)
    (e_each_cons (r_aload_n X (k := 0) (i := 0) rfl dX11_busy_1 rfl)
    (e_each_cons (r_iload_n X (k := 1) (i := 1) rfl dX11_busy_2 rfl)
    (e_each_cons (r_iload_n X (k := 2) (i := 2) rfl dX11_busy_3 rfl)
    (e_each_cons (r_iload_n X (k := 3) (i := 3) rfl dX11_busy_4 rfl)
    (e_each_cons (r_callV X rfl (τ := sg_X11_isTime) (index := 333) (ci := 10) dX11_busy_5 (by decide) rfl w7_171 w7_173 ws_71 cs_X11_isTime rfl ⟨by decide, by decide⟩ rfl)
    (e_each_cons (r_if_eq X (off := 7) (t := 15) dX11_busy_8 (by decide) rfl)
    (e_each_cons (r_iconst X (n := 0) (v := 0) dX11_busy_11 (by decide) rfl)
    (e_each_cons (r_goto X (off := 4) (t := 16) dX11_busy_12 (by decide))
    (e_each_cons (r_iconst X (n := 1) (v := 1) dX11_busy_15 (by decide) rfl)
    (e_each_cons (r_callV X rfl (τ := sg_X11_isRefused) (index := 71) (ci := 10) dX11_busy_16 (by decide) rfl w6_119 w6_121 ws_31 cs_X11_isRefused rfl ⟨by decide, by decide⟩ rfl)
    (e_each_cons (r_if_eq X (off := 5) (t := 24) dX11_busy_19 (by decide) rfl)
    (e_each_cons (r_fconst0 X dX11_busy_22 rfl)
    (e_each_cons (r_fret X dX11_busy_23 rfl)
    (e_each_cons (r_aload_n X (k := 0) (i := 0) rfl dX11_busy_24 rfl)
    (e_each_cons (r_iload_n X (k := 1) (i := 1) rfl dX11_busy_25 rfl)
    (e_each_cons (r_iload_n X (k := 2) (i := 2) rfl dX11_busy_26 rfl)
    (e_each_cons (r_iload_n X (k := 3) (i := 3) rfl dX11_busy_27 rfl)
    (e_each_cons (r_callV X rfl (τ := sg_X11_busyNow) (index := 336) (ci := 10) dX11_busy_28 (by decide) rfl w7_176 w7_178 ws_72 cs_X11_busyNow rfl ⟨by decide, by decide⟩ rfl)
    (e_each_cons (r_fret X dX11_busy_31 rfl)
    (e_each_nil))))))))))))))))))))
theorem dX11_laysShown_0 : decode cX11_laysShown 0 = .ok (.iconst 0, 1) := by decide +kernel
theorem dX11_laysShown_1 : decode cX11_laysShown 1 = .ok (.istore 4, 2) := by decide +kernel
theorem dX11_laysShown_3 : decode cX11_laysShown 3 = .ok (.iload 4, 2) := by decide +kernel
theorem dX11_laysShown_5 : decode cX11_laysShown 5 = .ok (.bipush 30, 2) := by decide +kernel
theorem dX11_laysShown_7 : decode cX11_laysShown 7 = .ok (.if_icmp .ge 19, 3) := by decide +kernel
theorem dX11_laysShown_10 : decode cX11_laysShown 10 = .ok (.aload_n 0, 1) := by decide +kernel
theorem dX11_laysShown_11 : decode cX11_laysShown 11 = .ok (.getfield 52, 3) := by decide +kernel
theorem dX11_laysShown_14 : decode cX11_laysShown 14 = .ok (.iload_n 3, 1) := by decide +kernel
theorem dX11_laysShown_15 : decode cX11_laysShown 15 = .ok (.iload 4, 2) := by decide +kernel
theorem dX11_laysShown_17 : decode cX11_laysShown 17 = .ok (.iadd, 1) := by decide +kernel
theorem dX11_laysShown_18 : decode cX11_laysShown 18 = .ok (.iconst 0, 1) := by decide +kernel
theorem dX11_laysShown_19 : decode cX11_laysShown 19 = .ok (.bastore, 1) := by decide +kernel
theorem dX11_laysShown_20 : decode cX11_laysShown 20 = .ok (.iinc 4 1, 3) := by decide +kernel
theorem dX11_laysShown_23 : decode cX11_laysShown 23 = .ok (.goto (-20), 3) := by decide +kernel
theorem dX11_laysShown_26 : decode cX11_laysShown 26 = .ok (.aload_n 0, 1) := by decide +kernel
theorem dX11_laysShown_27 : decode cX11_laysShown 27 = .ok (.iload_n 1, 1) := by decide +kernel
theorem dX11_laysShown_28 : decode cX11_laysShown 28 = .ok (.iload_n 2, 1) := by decide +kernel
theorem dX11_laysShown_29 : decode cX11_laysShown 29 = .ok (.invokevirtual 281, 3) := by decide +kernel
theorem dX11_laysShown_32 : decode cX11_laysShown 32 = .ok (.ifCond .ne 4, 3) := by decide +kernel
theorem dX11_laysShown_35 : decode cX11_laysShown 35 = .ok (.return_, 1) := by decide +kernel
theorem dX11_laysShown_36 : decode cX11_laysShown 36 = .ok (.iload_n 1, 1) := by decide +kernel
theorem dX11_laysShown_37 : decode cX11_laysShown 37 = .ok (.iload_n 2, 1) := by decide +kernel
theorem dX11_laysShown_38 : decode cX11_laysShown 38 = .ok (.invokestatic 278, 3) := by decide +kernel
theorem dX11_laysShown_41 : decode cX11_laysShown 41 = .ok (.istore 4, 2) := by decide +kernel
theorem dX11_laysShown_43 : decode cX11_laysShown 43 = .ok (.aload_n 0, 1) := by decide +kernel
theorem dX11_laysShown_44 : decode cX11_laysShown 44 = .ok (.aload_n 0, 1) := by decide +kernel
theorem dX11_laysShown_45 : decode cX11_laysShown 45 = .ok (.getfield 7, 3) := by decide +kernel
theorem dX11_laysShown_48 : decode cX11_laysShown 48 = .ok (.iload 4, 2) := by decide +kernel
theorem dX11_laysShown_50 : decode cX11_laysShown 50 = .ok (.invokevirtual 233, 3) := by decide +kernel
theorem dX11_laysShown_53 : decode cX11_laysShown 53 = .ok (.iconst 0, 1) := by decide +kernel
theorem dX11_laysShown_54 : decode cX11_laysShown 54 = .ok (.istore 5, 2) := by decide +kernel
theorem dX11_laysShown_56 : decode cX11_laysShown 56 = .ok (.iload 5, 2) := by decide +kernel
theorem dX11_laysShown_58 : decode cX11_laysShown 58 = .ok (.aload_n 0, 1) := by decide +kernel
theorem dX11_laysShown_59 : decode cX11_laysShown 59 = .ok (.getfield 95, 3) := by decide +kernel
theorem dX11_laysShown_62 : decode cX11_laysShown 62 = .ok (.if_icmp .ge 43, 3) := by decide +kernel
theorem dX11_laysShown_65 : decode cX11_laysShown 65 = .ok (.aload_n 0, 1) := by decide +kernel
theorem dX11_laysShown_66 : decode cX11_laysShown 66 = .ok (.getfield 52, 3) := by decide +kernel
theorem dX11_laysShown_69 : decode cX11_laysShown 69 = .ok (.iload_n 3, 1) := by decide +kernel
theorem dX11_laysShown_70 : decode cX11_laysShown 70 = .ok (.iload 5, 2) := by decide +kernel
theorem dX11_laysShown_72 : decode cX11_laysShown 72 = .ok (.iadd, 1) := by decide +kernel
theorem dX11_laysShown_73 : decode cX11_laysShown 73 = .ok (.aload_n 0, 1) := by decide +kernel
theorem dX11_laysShown_74 : decode cX11_laysShown 74 = .ok (.iload 4, 2) := by decide +kernel
theorem dX11_laysShown_76 : decode cX11_laysShown 76 = .ok (.iload 5, 2) := by decide +kernel
theorem dX11_laysShown_78 : decode cX11_laysShown 78 = .ok (.invokevirtual 300, 3) := by decide +kernel
theorem dX11_laysShown_81 : decode cX11_laysShown 81 = .ok (.bastore, 1) := by decide +kernel
theorem dX11_laysShown_82 : decode cX11_laysShown 82 = .ok (.aload_n 0, 1) := by decide +kernel
theorem dX11_laysShown_83 : decode cX11_laysShown 83 = .ok (.getfield 49, 3) := by decide +kernel
theorem dX11_laysShown_86 : decode cX11_laysShown 86 = .ok (.iload_n 3, 1) := by decide +kernel
theorem dX11_laysShown_87 : decode cX11_laysShown 87 = .ok (.iload 5, 2) := by decide +kernel
theorem dX11_laysShown_89 : decode cX11_laysShown 89 = .ok (.iadd, 1) := by decide +kernel
theorem dX11_laysShown_90 : decode cX11_laysShown 90 = .ok (.aload_n 0, 1) := by decide +kernel
theorem dX11_laysShown_91 : decode cX11_laysShown 91 = .ok (.iload_n 1, 1) := by decide +kernel
theorem dX11_laysShown_92 : decode cX11_laysShown 92 = .ok (.iload_n 2, 1) := by decide +kernel
theorem dX11_laysShown_93 : decode cX11_laysShown 93 = .ok (.iload 5, 2) := by decide +kernel
theorem dX11_laysShown_95 : decode cX11_laysShown 95 = .ok (.invokevirtual 296, 3) := by decide +kernel
theorem dX11_laysShown_98 : decode cX11_laysShown 98 = .ok (.iastore, 1) := by decide +kernel
theorem dX11_laysShown_99 : decode cX11_laysShown 99 = .ok (.iinc 5 1, 3) := by decide +kernel
theorem dX11_laysShown_102 : decode cX11_laysShown 102 = .ok (.goto (-46), 3) := by decide +kernel
theorem dX11_laysShown_105 : decode cX11_laysShown 105 = .ok (.return_, 1) := by decide +kernel
def pg_X11_laysShown (l : Launch) (g : EG) : List (Nat × ES) := [(0, s_c (.inl 0)), (1, s_stI 4), (3, s_ldI 4), (5, s_c (.inl 30)), (7, s_icmp_ge 26), (10, s_ldP 0), (11, s_getP 10 27), (14, s_ldI 3), (15, s_ldI 4), (17, s_ii (fun x y => x + y)), (18, s_c (.inl 0)), (19, s_zast), (20, s_iinc 4 1), (23, s_goto 3), (26, s_ldP 0), (27, s_ldI 1), (28, s_ldI 2), (29, s_callV l g sg_X11_laysShown sg_X11_isThere 10), (32, s_if_ne 36), (35, s_vret), (36, s_ldI 1), (37, s_ldI 2), (38, s_callS l g sg_X11_laysShown sg_X11_eventAt), (41, s_stI 4), (43, s_ldP 0), (44, s_ldP 0), (45, s_getP 10 2), (48, s_ldI 4), (50, s_callV l g sg_X11_laysShown sg_X11_laysDates 10), (53, s_c (.inl 0)), (54, s_stI 5), (56, s_ldI 5), (58, s_ldP 0), (59, s_getI 10 8), (62, s_icmp_ge 105), (65, s_ldP 0), (66, s_getP 10 27), (69, s_ldI 3), (70, s_ldI 5), (72, s_ii (fun x y => x + y)), (73, s_ldP 0), (74, s_ldI 4), (76, s_ldI 5), (78, s_callV l g sg_X11_laysShown sg_X11_isShown 10), (81, s_zast), (82, s_ldP 0), (83, s_getP 10 26), (86, s_ldI 3), (87, s_ldI 5), (89, s_ii (fun x y => x + y)), (90, s_ldP 0), (91, s_ldI 1), (92, s_ldI 2), (93, s_ldI 5), (95, s_callV l g sg_X11_laysShown sg_X11_momentOfDate 10), (98, s_iast), (99, s_iinc 5 1), (102, s_goto 56), (105, s_vret)]
set_option maxRecDepth 100000 in
theorem ok_X11_laysShown {l : Launch} {g : EG} : e_okp l g sg_X11_laysShown "CalendarSyncModel" (pg_X11_laysShown l g) := fun p e R s m args below meth c ex M0 Q X =>
    e_each_cons (r_iconst X (n := 0) (v := 0) dX11_laysShown_0 (by decide) rfl)
    (e_each_cons (r_istore X (i := 4) dX11_laysShown_1 (by decide) rfl)
    (e_each_cons (r_iload X (i := 4) dX11_laysShown_3 rfl)
    (e_each_cons (r_bipush X (n := 30) (v := 30) dX11_laysShown_5 (by decide) rfl)
    (e_each_cons (r_icmp_ge X (off := 19) (t := 26) dX11_laysShown_7 (by decide) rfl)
    (e_each_cons (r_aload_n X (k := 0) (i := 0) rfl dX11_laysShown_10 rfl)
    (e_each_cons (r_getP X (index := 52) (ci := 10) (k := 27) dX11_laysShown_11 (by decide) (by decide) rfl w6_53 rfl)
    (e_each_cons (r_iload_n X (k := 3) (i := 3) rfl dX11_laysShown_14 rfl)
    (e_each_cons (r_iload X (i := 4) dX11_laysShown_15 rfl)
    (e_each_cons (r_iadd X dX11_laysShown_17 rfl)
    (e_each_cons (r_iconst X (n := 0) (v := 0) dX11_laysShown_18 (by decide) rfl)
    (e_each_cons (r_zast X dX11_laysShown_19 rfl)
    (e_each_cons (r_iinc X (i := 4) (n := 1) (d := 1) dX11_laysShown_20 (by decide) (by decide) rfl)
    (e_each_cons (r_goto X (off := (-20)) (t := 3) dX11_laysShown_23 (by decide))
    (e_each_cons (r_aload_n X (k := 0) (i := 0) rfl dX11_laysShown_26 rfl)
    (e_each_cons (r_iload_n X (k := 1) (i := 1) rfl dX11_laysShown_27 rfl)
    (e_each_cons (r_iload_n X (k := 2) (i := 2) rfl dX11_laysShown_28 rfl)
    (e_each_cons (r_callV X rfl (τ := sg_X11_isThere) (index := 281) (ci := 10) dX11_laysShown_29 (by decide) rfl w7_97 w7_99 ws_61 cs_X11_isThere rfl ⟨by decide, by decide⟩ rfl)
    (e_each_cons (r_if_ne X (off := 4) (t := 36) dX11_laysShown_32 (by decide) rfl)
    (e_each_cons (r_vret X dX11_laysShown_35 rfl)
    (e_each_cons (r_iload_n X (k := 1) (i := 1) rfl dX11_laysShown_36 rfl)
    (e_each_cons (r_iload_n X (k := 2) (i := 2) rfl dX11_laysShown_37 rfl)
    (e_each_cons (r_callS X rfl (τ := sg_X11_eventAt) (index := 278) dX11_laysShown_38 w7_101 w7_102 cs_X11_eventAt rfl ⟨by decide, by decide⟩ rfl)
    (e_each_cons (r_istore X (i := 4) dX11_laysShown_41 (by decide) rfl)
    (e_each_cons (r_aload_n X (k := 0) (i := 0) rfl dX11_laysShown_43 rfl)
    (e_each_cons (r_aload_n X (k := 0) (i := 0) rfl dX11_laysShown_44 rfl)
    (e_each_cons (r_getP X (index := 7) (ci := 10) (k := 2) dX11_laysShown_45 (by decide) (by decide) rfl w6_28 rfl)
    (e_each_cons (r_iload X (i := 4) dX11_laysShown_48 rfl)
    (e_each_cons (r_callV X rfl (τ := sg_X11_laysDates) (index := 233) (ci := 10) dX11_laysShown_50 (by decide) rfl w7_31 w7_33 ws_51 cs_X11_laysDates rfl ⟨by decide, by decide⟩ rfl)
    (e_each_cons (r_iconst X (n := 0) (v := 0) dX11_laysShown_53 (by decide) rfl)
    (e_each_cons (r_istore X (i := 5) dX11_laysShown_54 (by decide) rfl)
    (e_each_cons (r_iload X (i := 5) dX11_laysShown_56 rfl)
    (e_each_cons (r_aload_n X (k := 0) (i := 0) rfl dX11_laysShown_58 rfl)
    (e_each_cons (r_getI X (index := 95) (ci := 10) (k := 8) dX11_laysShown_59 (by decide) (by decide) rfl w6_34 rfl)
    (e_each_cons (r_icmp_ge X (off := 43) (t := 105) dX11_laysShown_62 (by decide) rfl)
    (e_each_cons (r_aload_n X (k := 0) (i := 0) rfl dX11_laysShown_65 rfl)
    (e_each_cons (r_getP X (index := 52) (ci := 10) (k := 27) dX11_laysShown_66 (by decide) (by decide) rfl w6_53 rfl)
    (e_each_cons (r_iload_n X (k := 3) (i := 3) rfl dX11_laysShown_69 rfl)
    (e_each_cons (r_iload X (i := 5) dX11_laysShown_70 rfl)
    (e_each_cons (r_iadd X dX11_laysShown_72 rfl)
    (e_each_cons (r_aload_n X (k := 0) (i := 0) rfl dX11_laysShown_73 rfl)
    (e_each_cons (r_iload X (i := 4) dX11_laysShown_74 rfl)
    (e_each_cons (r_iload X (i := 5) dX11_laysShown_76 rfl)
    (e_each_cons (r_callV X rfl (τ := sg_X11_isShown) (index := 300) (ci := 10) dX11_laysShown_78 (by decide) rfl w7_128 w7_130 ws_66 cs_X11_isShown rfl ⟨by decide, by decide⟩ rfl)
    (e_each_cons (r_zast X dX11_laysShown_81 rfl)
    (e_each_cons (r_aload_n X (k := 0) (i := 0) rfl dX11_laysShown_82 rfl)
    (e_each_cons (r_getP X (index := 49) (ci := 10) (k := 26) dX11_laysShown_83 (by decide) (by decide) rfl w6_52 rfl)
    (e_each_cons (r_iload_n X (k := 3) (i := 3) rfl dX11_laysShown_86 rfl)
    (e_each_cons (r_iload X (i := 5) dX11_laysShown_87 rfl)
    (e_each_cons (r_iadd X dX11_laysShown_89 rfl)
    (e_each_cons (r_aload_n X (k := 0) (i := 0) rfl dX11_laysShown_90 rfl)
    (e_each_cons (r_iload_n X (k := 1) (i := 1) rfl dX11_laysShown_91 rfl)
    (e_each_cons (r_iload_n X (k := 2) (i := 2) rfl dX11_laysShown_92 rfl)
    (e_each_cons (r_iload X (i := 5) dX11_laysShown_93 rfl)
    (e_each_cons (r_callV X rfl (τ := sg_X11_momentOfDate) (index := 296) (ci := 10) dX11_laysShown_95 (by decide) rfl w7_124 w7_126 ws_65 cs_X11_momentOfDate rfl ⟨by decide, by decide⟩ rfl)
    (e_each_cons (r_iast X dX11_laysShown_98 rfl)
    (e_each_cons (r_iinc X (i := 5) (n := 1) (d := 1) dX11_laysShown_99 (by decide) (by decide) rfl)
    (e_each_cons (r_goto X (off := (-46)) (t := 56) dX11_laysShown_102 (by decide))
    (e_each_cons (r_vret X dX11_laysShown_105 rfl)
    (e_each_nil)))))))))))))))))))))))))))))))))))))))))))))))))))))))))))
theorem dX11_isSameDate_0 : decode cX11_isSameDate 0 = .ok (.aload_n 0, 1) := by decide +kernel
theorem dX11_isSameDate_1 : decode cX11_isSameDate 1 = .ok (.getfield 49, 3) := by decide +kernel
theorem dX11_isSameDate_4 : decode cX11_isSameDate 4 = .ok (.iload_n 3, 1) := by decide +kernel
theorem dX11_isSameDate_5 : decode cX11_isSameDate 5 = .ok (.iaload, 1) := by decide +kernel
theorem dX11_isSameDate_6 : decode cX11_isSameDate 6 = .ok (.aload_n 0, 1) := by decide +kernel
theorem dX11_isSameDate_7 : decode cX11_isSameDate 7 = .ok (.getfield 49, 3) := by decide +kernel
theorem dX11_isSameDate_10 : decode cX11_isSameDate 10 = .ok (.bipush 30, 2) := by decide +kernel
theorem dX11_isSameDate_12 : decode cX11_isSameDate 12 = .ok (.iload_n 3, 1) := by decide +kernel
theorem dX11_isSameDate_13 : decode cX11_isSameDate 13 = .ok (.iadd, 1) := by decide +kernel
theorem dX11_isSameDate_14 : decode cX11_isSameDate 14 = .ok (.iaload, 1) := by decide +kernel
theorem dX11_isSameDate_15 : decode cX11_isSameDate 15 = .ok (.if_icmp .ne 26, 3) := by decide +kernel
theorem dX11_isSameDate_18 : decode cX11_isSameDate 18 = .ok (.aload_n 0, 1) := by decide +kernel
theorem dX11_isSameDate_19 : decode cX11_isSameDate 19 = .ok (.getfield 7, 3) := by decide +kernel
theorem dX11_isSameDate_22 : decode cX11_isSameDate 22 = .ok (.iload_n 1, 1) := by decide +kernel
theorem dX11_isSameDate_23 : decode cX11_isSameDate 23 = .ok (.iconst 3, 1) := by decide +kernel
theorem dX11_isSameDate_24 : decode cX11_isSameDate 24 = .ok (.iadd, 1) := by decide +kernel
theorem dX11_isSameDate_25 : decode cX11_isSameDate 25 = .ok (.iaload, 1) := by decide +kernel
theorem dX11_isSameDate_26 : decode cX11_isSameDate 26 = .ok (.aload_n 0, 1) := by decide +kernel
theorem dX11_isSameDate_27 : decode cX11_isSameDate 27 = .ok (.getfield 7, 3) := by decide +kernel
theorem dX11_isSameDate_30 : decode cX11_isSameDate 30 = .ok (.iload_n 2, 1) := by decide +kernel
theorem dX11_isSameDate_31 : decode cX11_isSameDate 31 = .ok (.iconst 3, 1) := by decide +kernel
theorem dX11_isSameDate_32 : decode cX11_isSameDate 32 = .ok (.iadd, 1) := by decide +kernel
theorem dX11_isSameDate_33 : decode cX11_isSameDate 33 = .ok (.iaload, 1) := by decide +kernel
theorem dX11_isSameDate_34 : decode cX11_isSameDate 34 = .ok (.if_icmp .ne 7, 3) := by decide +kernel
theorem dX11_isSameDate_37 : decode cX11_isSameDate 37 = .ok (.iconst 1, 1) := by decide +kernel
theorem dX11_isSameDate_38 : decode cX11_isSameDate 38 = .ok (.goto 4, 3) := by decide +kernel
theorem dX11_isSameDate_41 : decode cX11_isSameDate 41 = .ok (.iconst 0, 1) := by decide +kernel
theorem dX11_isSameDate_42 : decode cX11_isSameDate 42 = .ok (.istore 4, 2) := by decide +kernel
theorem dX11_isSameDate_44 : decode cX11_isSameDate 44 = .ok (.iload 4, 2) := by decide +kernel
theorem dX11_isSameDate_46 : decode cX11_isSameDate 46 = .ok (.ifCond .eq 41, 3) := by decide +kernel
theorem dX11_isSameDate_49 : decode cX11_isSameDate 49 = .ok (.aload_n 0, 1) := by decide +kernel
theorem dX11_isSameDate_50 : decode cX11_isSameDate 50 = .ok (.iload_n 1, 1) := by decide +kernel
theorem dX11_isSameDate_51 : decode cX11_isSameDate 51 = .ok (.iconst 0, 1) := by decide +kernel
theorem dX11_isSameDate_52 : decode cX11_isSameDate 52 = .ok (.iload_n 3, 1) := by decide +kernel
theorem dX11_isSameDate_53 : decode cX11_isSameDate 53 = .ok (.invokevirtual 303, 3) := by decide +kernel
theorem dX11_isSameDate_56 : decode cX11_isSameDate 56 = .ok (.aload_n 0, 1) := by decide +kernel
theorem dX11_isSameDate_57 : decode cX11_isSameDate 57 = .ok (.iload_n 2, 1) := by decide +kernel
theorem dX11_isSameDate_58 : decode cX11_isSameDate 58 = .ok (.iconst 0, 1) := by decide +kernel
theorem dX11_isSameDate_59 : decode cX11_isSameDate 59 = .ok (.iload_n 3, 1) := by decide +kernel
theorem dX11_isSameDate_60 : decode cX11_isSameDate 60 = .ok (.invokevirtual 303, 3) := by decide +kernel
theorem dX11_isSameDate_63 : decode cX11_isSameDate 63 = .ok (.if_icmp .ne 24, 3) := by decide +kernel
theorem dX11_isSameDate_66 : decode cX11_isSameDate 66 = .ok (.aload_n 0, 1) := by decide +kernel
theorem dX11_isSameDate_67 : decode cX11_isSameDate 67 = .ok (.iload_n 1, 1) := by decide +kernel
theorem dX11_isSameDate_68 : decode cX11_isSameDate 68 = .ok (.iconst 1, 1) := by decide +kernel
theorem dX11_isSameDate_69 : decode cX11_isSameDate 69 = .ok (.iload_n 3, 1) := by decide +kernel
theorem dX11_isSameDate_70 : decode cX11_isSameDate 70 = .ok (.invokevirtual 303, 3) := by decide +kernel
theorem dX11_isSameDate_73 : decode cX11_isSameDate 73 = .ok (.aload_n 0, 1) := by decide +kernel
theorem dX11_isSameDate_74 : decode cX11_isSameDate 74 = .ok (.iload_n 2, 1) := by decide +kernel
theorem dX11_isSameDate_75 : decode cX11_isSameDate 75 = .ok (.iconst 1, 1) := by decide +kernel
theorem dX11_isSameDate_76 : decode cX11_isSameDate 76 = .ok (.iload_n 3, 1) := by decide +kernel
theorem dX11_isSameDate_77 : decode cX11_isSameDate 77 = .ok (.invokevirtual 303, 3) := by decide +kernel
theorem dX11_isSameDate_80 : decode cX11_isSameDate 80 = .ok (.if_icmp .ne 7, 3) := by decide +kernel
theorem dX11_isSameDate_83 : decode cX11_isSameDate 83 = .ok (.iconst 1, 1) := by decide +kernel
theorem dX11_isSameDate_84 : decode cX11_isSameDate 84 = .ok (.goto 4, 3) := by decide +kernel
theorem dX11_isSameDate_87 : decode cX11_isSameDate 87 = .ok (.iconst 0, 1) := by decide +kernel
theorem dX11_isSameDate_88 : decode cX11_isSameDate 88 = .ok (.ireturn, 1) := by decide +kernel
def pg_X11_isSameDate (l : Launch) (g : EG) : List (Nat × ES) := [(0, s_ldP 0), (1, s_getP 10 26), (4, s_ldI 3), (5, s_iald), (6, s_ldP 0), (7, s_getP 10 26), (10, s_c (.inl 30)), (12, s_ldI 3), (13, s_ii (fun x y => x + y)), (14, s_iald), (15, s_icmp_ne 41), (18, s_ldP 0), (19, s_getP 10 2), (22, s_ldI 1), (23, s_c (.inl 3)), (24, s_ii (fun x y => x + y)), (25, s_iald), (26, s_ldP 0), (27, s_getP 10 2), (30, s_ldI 2), (31, s_c (.inl 3)), (32, s_ii (fun x y => x + y)), (33, s_iald), (34, s_icmp_ne 41), (37, s_c (.inl 1)), (38, s_goto 42), (41, s_c (.inl 0)), (42, s_stI 4), (44, s_ldI 4), (46, s_if_eq 87), (49, s_ldP 0), (50, s_ldI 1), (51, s_c (.inl 0)), (52, s_ldI 3), (53, s_callV l g sg_X11_isSameDate sg_X11_answerTo 10), (56, s_ldP 0), (57, s_ldI 2), (58, s_c (.inl 0)), (59, s_ldI 3), (60, s_callV l g sg_X11_isSameDate sg_X11_answerTo 10), (63, s_icmp_ne 87), (66, s_ldP 0), (67, s_ldI 1), (68, s_c (.inl 1)), (69, s_ldI 3), (70, s_callV l g sg_X11_isSameDate sg_X11_answerTo 10), (73, s_ldP 0), (74, s_ldI 2), (75, s_c (.inl 1)), (76, s_ldI 3), (77, s_callV l g sg_X11_isSameDate sg_X11_answerTo 10), (80, s_icmp_ne 87), (83, s_c (.inl 1)), (84, s_goto 88), (87, s_c (.inl 0)), (88, s_iretz)]
set_option maxRecDepth 100000 in
theorem ok_X11_isSameDate {l : Launch} {g : EG} : e_okp l g sg_X11_isSameDate "CalendarSyncModel" (pg_X11_isSameDate l g) := fun p e R s m args below meth c ex M0 Q X =>
    e_each_cons (r_aload_n X (k := 0) (i := 0) rfl dX11_isSameDate_0 rfl)
    (e_each_cons (r_getP X (index := 49) (ci := 10) (k := 26) dX11_isSameDate_1 (by decide) (by decide) rfl w6_52 rfl)
    (e_each_cons (r_iload_n X (k := 3) (i := 3) rfl dX11_isSameDate_4 rfl)
    (e_each_cons (r_iald X dX11_isSameDate_5 rfl)
    (e_each_cons (r_aload_n X (k := 0) (i := 0) rfl dX11_isSameDate_6 rfl)
    (e_each_cons (r_getP X (index := 49) (ci := 10) (k := 26) dX11_isSameDate_7 (by decide) (by decide) rfl w6_52 rfl)
    (e_each_cons (r_bipush X (n := 30) (v := 30) dX11_isSameDate_10 (by decide) rfl)
    (e_each_cons (r_iload_n X (k := 3) (i := 3) rfl dX11_isSameDate_12 rfl)
    (e_each_cons (r_iadd X dX11_isSameDate_13 rfl)
    (e_each_cons (r_iald X dX11_isSameDate_14 rfl)
    (e_each_cons (r_icmp_ne X (off := 26) (t := 41) dX11_isSameDate_15 (by decide) rfl)
    (e_each_cons (r_aload_n X (k := 0) (i := 0) rfl dX11_isSameDate_18 rfl)
    (e_each_cons (r_getP X (index := 7) (ci := 10) (k := 2) dX11_isSameDate_19 (by decide) (by decide) rfl w6_28 rfl)
    (e_each_cons (r_iload_n X (k := 1) (i := 1) rfl dX11_isSameDate_22 rfl)
    (e_each_cons (r_iconst X (n := 3) (v := 3) dX11_isSameDate_23 (by decide) rfl)
    (e_each_cons (r_iadd X dX11_isSameDate_24 rfl)
    (e_each_cons (r_iald X dX11_isSameDate_25 rfl)
    (e_each_cons (r_aload_n X (k := 0) (i := 0) rfl dX11_isSameDate_26 rfl)
    (e_each_cons (r_getP X (index := 7) (ci := 10) (k := 2) dX11_isSameDate_27 (by decide) (by decide) rfl w6_28 rfl)
    (e_each_cons (r_iload_n X (k := 2) (i := 2) rfl dX11_isSameDate_30 rfl)
    (e_each_cons (r_iconst X (n := 3) (v := 3) dX11_isSameDate_31 (by decide) rfl)
    (e_each_cons (r_iadd X dX11_isSameDate_32 rfl)
    (e_each_cons (r_iald X dX11_isSameDate_33 rfl)
    (e_each_cons (r_icmp_ne X (off := 7) (t := 41) dX11_isSameDate_34 (by decide) rfl)
    (e_each_cons (r_iconst X (n := 1) (v := 1) dX11_isSameDate_37 (by decide) rfl)
    (e_each_cons (r_goto X (off := 4) (t := 42) dX11_isSameDate_38 (by decide))
    (e_each_cons (r_iconst X (n := 0) (v := 0) dX11_isSameDate_41 (by decide) rfl)
    (e_each_cons (r_istore X (i := 4) dX11_isSameDate_42 (by decide) rfl)
    (e_each_cons (r_iload X (i := 4) dX11_isSameDate_44 rfl)
    (e_each_cons (r_if_eq X (off := 41) (t := 87) dX11_isSameDate_46 (by decide) rfl)
    (e_each_cons (r_aload_n X (k := 0) (i := 0) rfl dX11_isSameDate_49 rfl)
    (e_each_cons (r_iload_n X (k := 1) (i := 1) rfl dX11_isSameDate_50 rfl)
    (e_each_cons (r_iconst X (n := 0) (v := 0) dX11_isSameDate_51 (by decide) rfl)
    (e_each_cons (r_iload_n X (k := 3) (i := 3) rfl dX11_isSameDate_52 rfl)
    (e_each_cons (r_callV X rfl (τ := sg_X11_answerTo) (index := 303) (ci := 10) dX11_isSameDate_53 (by decide) rfl w7_132 w7_134 ws_67 cs_X11_answerTo rfl ⟨by decide, by decide⟩ rfl)
    (e_each_cons (r_aload_n X (k := 0) (i := 0) rfl dX11_isSameDate_56 rfl)
    (e_each_cons (r_iload_n X (k := 2) (i := 2) rfl dX11_isSameDate_57 rfl)
    (e_each_cons (r_iconst X (n := 0) (v := 0) dX11_isSameDate_58 (by decide) rfl)
    (e_each_cons (r_iload_n X (k := 3) (i := 3) rfl dX11_isSameDate_59 rfl)
    (e_each_cons (r_callV X rfl (τ := sg_X11_answerTo) (index := 303) (ci := 10) dX11_isSameDate_60 (by decide) rfl w7_132 w7_134 ws_67 cs_X11_answerTo rfl ⟨by decide, by decide⟩ rfl)
    (e_each_cons (r_icmp_ne X (off := 24) (t := 87) dX11_isSameDate_63 (by decide) rfl)
    (e_each_cons (r_aload_n X (k := 0) (i := 0) rfl dX11_isSameDate_66 rfl)
    (e_each_cons (r_iload_n X (k := 1) (i := 1) rfl dX11_isSameDate_67 rfl)
    (e_each_cons (r_iconst X (n := 1) (v := 1) dX11_isSameDate_68 (by decide) rfl)
    (e_each_cons (r_iload_n X (k := 3) (i := 3) rfl dX11_isSameDate_69 rfl)
    (e_each_cons (r_callV X rfl (τ := sg_X11_answerTo) (index := 303) (ci := 10) dX11_isSameDate_70 (by decide) rfl w7_132 w7_134 ws_67 cs_X11_answerTo rfl ⟨by decide, by decide⟩ rfl)
    (e_each_cons (r_aload_n X (k := 0) (i := 0) rfl dX11_isSameDate_73 rfl)
    (e_each_cons (r_iload_n X (k := 2) (i := 2) rfl dX11_isSameDate_74 rfl)
    (e_each_cons (r_iconst X (n := 1) (v := 1) dX11_isSameDate_75 (by decide) rfl)
    (e_each_cons (r_iload_n X (k := 3) (i := 3) rfl dX11_isSameDate_76 rfl)
    (e_each_cons (r_callV X rfl (τ := sg_X11_answerTo) (index := 303) (ci := 10) dX11_isSameDate_77 (by decide) rfl w7_132 w7_134 ws_67 cs_X11_answerTo rfl ⟨by decide, by decide⟩ rfl)
    (e_each_cons (r_icmp_ne X (off := 7) (t := 87) dX11_isSameDate_80 (by decide) rfl)
    (e_each_cons (r_iconst X (n := 1) (v := 1) dX11_isSameDate_83 (by decide) rfl)
    (e_each_cons (r_goto X (off := 4) (t := 88) dX11_isSameDate_84 (by decide))
    (e_each_cons (r_iconst X (n := 0) (v := 0) dX11_isSameDate_87 (by decide) rfl)
    (e_each_cons (r_iretz X dX11_isSameDate_88 rfl)
    (e_each_nil))))))))))))))))))))))))))))))))))))))))))))))))))))))))
theorem dX11_isSameEvent_0 : decode cX11_isSameEvent 0 = .ok (.aload_n 0, 1) := by decide +kernel
theorem dX11_isSameEvent_1 : decode cX11_isSameEvent 1 = .ok (.iload_n 1, 1) := by decide +kernel
theorem dX11_isSameEvent_2 : decode cX11_isSameEvent 2 = .ok (.iload_n 2, 1) := by decide +kernel
theorem dX11_isSameEvent_3 : decode cX11_isSameEvent 3 = .ok (.iconst 0, 1) := by decide +kernel
theorem dX11_isSameEvent_4 : decode cX11_isSameEvent 4 = .ok (.invokevirtual 346, 3) := by decide +kernel
theorem dX11_isSameEvent_7 : decode cX11_isSameEvent 7 = .ok (.aload_n 0, 1) := by decide +kernel
theorem dX11_isSameEvent_8 : decode cX11_isSameEvent 8 = .ok (.iconst 2, 1) := by decide +kernel
theorem dX11_isSameEvent_9 : decode cX11_isSameEvent 9 = .ok (.iload_n 2, 1) := by decide +kernel
theorem dX11_isSameEvent_10 : decode cX11_isSameEvent 10 = .ok (.bipush 30, 2) := by decide +kernel
theorem dX11_isSameEvent_12 : decode cX11_isSameEvent 12 = .ok (.invokevirtual 346, 3) := by decide +kernel
theorem dX11_isSameEvent_15 : decode cX11_isSameEvent 15 = .ok (.iconst 0, 1) := by decide +kernel
theorem dX11_isSameEvent_16 : decode cX11_isSameEvent 16 = .ok (.istore_n 3, 1) := by decide +kernel
theorem dX11_isSameEvent_17 : decode cX11_isSameEvent 17 = .ok (.iload_n 3, 1) := by decide +kernel
theorem dX11_isSameEvent_18 : decode cX11_isSameEvent 18 = .ok (.bipush 30, 2) := by decide +kernel
theorem dX11_isSameEvent_20 : decode cX11_isSameEvent 20 = .ok (.if_icmp .ge 58, 3) := by decide +kernel
theorem dX11_isSameEvent_23 : decode cX11_isSameEvent 23 = .ok (.aload_n 0, 1) := by decide +kernel
theorem dX11_isSameEvent_24 : decode cX11_isSameEvent 24 = .ok (.getfield 52, 3) := by decide +kernel
theorem dX11_isSameEvent_27 : decode cX11_isSameEvent 27 = .ok (.iload_n 3, 1) := by decide +kernel
theorem dX11_isSameEvent_28 : decode cX11_isSameEvent 28 = .ok (.baload, 1) := by decide +kernel
theorem dX11_isSameEvent_29 : decode cX11_isSameEvent 29 = .ok (.aload_n 0, 1) := by decide +kernel
theorem dX11_isSameEvent_30 : decode cX11_isSameEvent 30 = .ok (.getfield 52, 3) := by decide +kernel
theorem dX11_isSameEvent_33 : decode cX11_isSameEvent 33 = .ok (.bipush 30, 2) := by decide +kernel
theorem dX11_isSameEvent_35 : decode cX11_isSameEvent 35 = .ok (.iload_n 3, 1) := by decide +kernel
theorem dX11_isSameEvent_36 : decode cX11_isSameEvent 36 = .ok (.iadd, 1) := by decide +kernel
theorem dX11_isSameEvent_37 : decode cX11_isSameEvent 37 = .ok (.baload, 1) := by decide +kernel
theorem dX11_isSameEvent_38 : decode cX11_isSameEvent 38 = .ok (.if_icmp .eq 5, 3) := by decide +kernel
theorem dX11_isSameEvent_41 : decode cX11_isSameEvent 41 = .ok (.iconst 0, 1) := by decide +kernel
theorem dX11_isSameEvent_42 : decode cX11_isSameEvent 42 = .ok (.ireturn, 1) := by decide +kernel
theorem dX11_isSameEvent_43 : decode cX11_isSameEvent 43 = .ok (.aload_n 0, 1) := by decide +kernel
theorem dX11_isSameEvent_44 : decode cX11_isSameEvent 44 = .ok (.getfield 52, 3) := by decide +kernel
theorem dX11_isSameEvent_47 : decode cX11_isSameEvent 47 = .ok (.iload_n 3, 1) := by decide +kernel
theorem dX11_isSameEvent_48 : decode cX11_isSameEvent 48 = .ok (.baload, 1) := by decide +kernel
theorem dX11_isSameEvent_49 : decode cX11_isSameEvent 49 = .ok (.ifCond .eq 23, 3) := by decide +kernel
theorem dX11_isSameEvent_52 : decode cX11_isSameEvent 52 = .ok (.aload_n 0, 1) := by decide +kernel
theorem dX11_isSameEvent_53 : decode cX11_isSameEvent 53 = .ok (.iload_n 1, 1) := by decide +kernel
theorem dX11_isSameEvent_54 : decode cX11_isSameEvent 54 = .ok (.iload_n 2, 1) := by decide +kernel
theorem dX11_isSameEvent_55 : decode cX11_isSameEvent 55 = .ok (.invokestatic 278, 3) := by decide +kernel
theorem dX11_isSameEvent_58 : decode cX11_isSameEvent 58 = .ok (.iconst 2, 1) := by decide +kernel
theorem dX11_isSameEvent_59 : decode cX11_isSameEvent 59 = .ok (.iload_n 2, 1) := by decide +kernel
theorem dX11_isSameEvent_60 : decode cX11_isSameEvent 60 = .ok (.invokestatic 278, 3) := by decide +kernel
theorem dX11_isSameEvent_63 : decode cX11_isSameEvent 63 = .ok (.iload_n 3, 1) := by decide +kernel
theorem dX11_isSameEvent_64 : decode cX11_isSameEvent 64 = .ok (.invokevirtual 350, 3) := by decide +kernel
theorem dX11_isSameEvent_67 : decode cX11_isSameEvent 67 = .ok (.ifCond .ne 5, 3) := by decide +kernel
theorem dX11_isSameEvent_70 : decode cX11_isSameEvent 70 = .ok (.iconst 0, 1) := by decide +kernel
theorem dX11_isSameEvent_71 : decode cX11_isSameEvent 71 = .ok (.ireturn, 1) := by decide +kernel
theorem dX11_isSameEvent_72 : decode cX11_isSameEvent 72 = .ok (.iinc 3 1, 3) := by decide +kernel
theorem dX11_isSameEvent_75 : decode cX11_isSameEvent 75 = .ok (.goto (-58), 3) := by decide +kernel
theorem dX11_isSameEvent_78 : decode cX11_isSameEvent 78 = .ok (.iconst 1, 1) := by decide +kernel
theorem dX11_isSameEvent_79 : decode cX11_isSameEvent 79 = .ok (.ireturn, 1) := by decide +kernel
def pg_X11_isSameEvent (l : Launch) (g : EG) : List (Nat × ES) := [(0, s_ldP 0), (1, s_ldI 1), (2, s_ldI 2), (3, s_c (.inl 0)), (4, s_callV l g sg_X11_isSameEvent sg_X11_laysShown 10), (7, s_ldP 0), (8, s_c (.inl 2)), (9, s_ldI 2), (10, s_c (.inl 30)), (12, s_callV l g sg_X11_isSameEvent sg_X11_laysShown 10), (15, s_c (.inl 0)), (16, s_stI 3), (17, s_ldI 3), (18, s_c (.inl 30)), (20, s_icmp_ge 78), (23, s_ldP 0), (24, s_getP 10 27), (27, s_ldI 3), (28, s_zald), (29, s_ldP 0), (30, s_getP 10 27), (33, s_c (.inl 30)), (35, s_ldI 3), (36, s_ii (fun x y => x + y)), (37, s_zald), (38, s_icmp_eq 43), (41, s_c (.inl 0)), (42, s_iretz), (43, s_ldP 0), (44, s_getP 10 27), (47, s_ldI 3), (48, s_zald), (49, s_if_eq 72), (52, s_ldP 0), (53, s_ldI 1), (54, s_ldI 2), (55, s_callS l g sg_X11_isSameEvent sg_X11_eventAt), (58, s_c (.inl 2)), (59, s_ldI 2), (60, s_callS l g sg_X11_isSameEvent sg_X11_eventAt), (63, s_ldI 3), (64, s_callV l g sg_X11_isSameEvent sg_X11_isSameDate 10), (67, s_if_ne 72), (70, s_c (.inl 0)), (71, s_iretz), (72, s_iinc 3 1), (75, s_goto 17), (78, s_c (.inl 1)), (79, s_iretz)]
set_option maxRecDepth 100000 in
theorem ok_X11_isSameEvent {l : Launch} {g : EG} : e_okp l g sg_X11_isSameEvent "CalendarSyncModel" (pg_X11_isSameEvent l g) := fun p e R s m args below meth c ex M0 Q X =>
    e_each_cons (r_aload_n X (k := 0) (i := 0) rfl dX11_isSameEvent_0 rfl)
    (e_each_cons (r_iload_n X (k := 1) (i := 1) rfl dX11_isSameEvent_1 rfl)
    (e_each_cons (r_iload_n X (k := 2) (i := 2) rfl dX11_isSameEvent_2 rfl)
    (e_each_cons (r_iconst X (n := 0) (v := 0) dX11_isSameEvent_3 (by decide) rfl)
    (e_each_cons (r_callV X rfl (τ := sg_X11_laysShown) (index := 346) (ci := 10) dX11_isSameEvent_4 (by decide) rfl w7_212 w7_214 ws_75 cs_X11_laysShown rfl ⟨by decide, by decide⟩ rfl)
    (e_each_cons (r_aload_n X (k := 0) (i := 0) rfl dX11_isSameEvent_7 rfl)
    (e_each_cons (r_iconst X (n := 2) (v := 2) dX11_isSameEvent_8 (by decide) rfl)
    (e_each_cons (r_iload_n X (k := 2) (i := 2) rfl dX11_isSameEvent_9 rfl)
    (e_each_cons (r_bipush X (n := 30) (v := 30) dX11_isSameEvent_10 (by decide) rfl)
    (e_each_cons (r_callV X rfl (τ := sg_X11_laysShown) (index := 346) (ci := 10) dX11_isSameEvent_12 (by decide) rfl w7_212 w7_214 ws_75 cs_X11_laysShown rfl ⟨by decide, by decide⟩ rfl)
    (e_each_cons (r_iconst X (n := 0) (v := 0) dX11_isSameEvent_15 (by decide) rfl)
    (e_each_cons (r_istore_n X (k := 3) (i := 3) rfl dX11_isSameEvent_16 (by decide) rfl)
    (e_each_cons (r_iload_n X (k := 3) (i := 3) rfl dX11_isSameEvent_17 rfl)
    (e_each_cons (r_bipush X (n := 30) (v := 30) dX11_isSameEvent_18 (by decide) rfl)
    (e_each_cons (r_icmp_ge X (off := 58) (t := 78) dX11_isSameEvent_20 (by decide) rfl)
    (e_each_cons (r_aload_n X (k := 0) (i := 0) rfl dX11_isSameEvent_23 rfl)
    (e_each_cons (r_getP X (index := 52) (ci := 10) (k := 27) dX11_isSameEvent_24 (by decide) (by decide) rfl w6_53 rfl)
    (e_each_cons (r_iload_n X (k := 3) (i := 3) rfl dX11_isSameEvent_27 rfl)
    (e_each_cons (r_zald X dX11_isSameEvent_28 rfl)
    (e_each_cons (r_aload_n X (k := 0) (i := 0) rfl dX11_isSameEvent_29 rfl)
    (e_each_cons (r_getP X (index := 52) (ci := 10) (k := 27) dX11_isSameEvent_30 (by decide) (by decide) rfl w6_53 rfl)
    (e_each_cons (r_bipush X (n := 30) (v := 30) dX11_isSameEvent_33 (by decide) rfl)
    (e_each_cons (r_iload_n X (k := 3) (i := 3) rfl dX11_isSameEvent_35 rfl)
    (e_each_cons (r_iadd X dX11_isSameEvent_36 rfl)
    (e_each_cons (r_zald X dX11_isSameEvent_37 rfl)
    (e_each_cons (r_icmp_eq X (off := 5) (t := 43) dX11_isSameEvent_38 (by decide) rfl)
    (e_each_cons (r_iconst X (n := 0) (v := 0) dX11_isSameEvent_41 (by decide) rfl)
    (e_each_cons (r_iretz X dX11_isSameEvent_42 rfl)
    (e_each_cons (r_aload_n X (k := 0) (i := 0) rfl dX11_isSameEvent_43 rfl)
    (e_each_cons (r_getP X (index := 52) (ci := 10) (k := 27) dX11_isSameEvent_44 (by decide) (by decide) rfl w6_53 rfl)
    (e_each_cons (r_iload_n X (k := 3) (i := 3) rfl dX11_isSameEvent_47 rfl)
    (e_each_cons (r_zald X dX11_isSameEvent_48 rfl)
    (e_each_cons (r_if_eq X (off := 23) (t := 72) dX11_isSameEvent_49 (by decide) rfl)
    (e_each_cons (r_aload_n X (k := 0) (i := 0) rfl dX11_isSameEvent_52 rfl)
    (e_each_cons (r_iload_n X (k := 1) (i := 1) rfl dX11_isSameEvent_53 rfl)
    (e_each_cons (r_iload_n X (k := 2) (i := 2) rfl dX11_isSameEvent_54 rfl)
    (e_each_cons (r_callS X rfl (τ := sg_X11_eventAt) (index := 278) dX11_isSameEvent_55 w7_101 w7_102 cs_X11_eventAt rfl ⟨by decide, by decide⟩ rfl)
    (e_each_cons (r_iconst X (n := 2) (v := 2) dX11_isSameEvent_58 (by decide) rfl)
    (e_each_cons (r_iload_n X (k := 2) (i := 2) rfl dX11_isSameEvent_59 rfl)
    (e_each_cons (r_callS X rfl (τ := sg_X11_eventAt) (index := 278) dX11_isSameEvent_60 w7_101 w7_102 cs_X11_eventAt rfl ⟨by decide, by decide⟩ rfl)
    (e_each_cons (r_iload_n X (k := 3) (i := 3) rfl dX11_isSameEvent_63 rfl)
    (e_each_cons (r_callV X rfl (τ := sg_X11_isSameDate) (index := 350) (ci := 10) dX11_isSameEvent_64 (by decide) rfl w7_216 w7_218 ws_76 cs_X11_isSameDate rfl ⟨by decide, by decide⟩ rfl)
    (e_each_cons (r_if_ne X (off := 5) (t := 72) dX11_isSameEvent_67 (by decide) rfl)
    (e_each_cons (r_iconst X (n := 0) (v := 0) dX11_isSameEvent_70 (by decide) rfl)
    (e_each_cons (r_iretz X dX11_isSameEvent_71 rfl)
    (e_each_cons (r_iinc X (i := 3) (n := 1) (d := 1) dX11_isSameEvent_72 (by decide) (by decide) rfl)
    (e_each_cons (r_goto X (off := (-58)) (t := 17) dX11_isSameEvent_75 (by decide))
    (e_each_cons (r_iconst X (n := 1) (v := 1) dX11_isSameEvent_78 (by decide) rfl)
    (e_each_cons (r_iretz X dX11_isSameEvent_79 rfl)
    (e_each_nil)))))))))))))))))))))))))))))))))))))))))))))))))
theorem dX11_isSame_0 : decode cX11_isSame 0 = .ok (.aload_n 0, 1) := by decide +kernel
theorem dX11_isSame_1 : decode cX11_isSame 1 = .ok (.iload_n 1, 1) := by decide +kernel
theorem dX11_isSame_2 : decode cX11_isSame 2 = .ok (.invokestatic 306, 3) := by decide +kernel
theorem dX11_isSame_5 : decode cX11_isSame 5 = .ok (.ifCond .eq 7, 3) := by decide +kernel
theorem dX11_isSame_8 : decode cX11_isSame 8 = .ok (.iconst 0, 1) := by decide +kernel
theorem dX11_isSame_9 : decode cX11_isSame 9 = .ok (.goto 4, 3) := by decide +kernel
theorem dX11_isSame_12 : decode cX11_isSame 12 = .ok (.iconst 1, 1) := by decide +kernel
theorem dX11_isSame_13 : decode cX11_isSame 13 = .ok (.putfield 61, 3) := by decide +kernel
theorem dX11_isSame_16 : decode cX11_isSame 16 = .ok (.aload_n 0, 1) := by decide +kernel
theorem dX11_isSame_17 : decode cX11_isSame 17 = .ok (.getfield 61, 3) := by decide +kernel
theorem dX11_isSame_20 : decode cX11_isSame 20 = .ok (.ifCond .le 5, 3) := by decide +kernel
theorem dX11_isSame_23 : decode cX11_isSame 23 = .ok (.iconst 0, 1) := by decide +kernel
theorem dX11_isSame_24 : decode cX11_isSame 24 = .ok (.ireturn, 1) := by decide +kernel
theorem dX11_isSame_25 : decode cX11_isSame 25 = .ok (.iconst 0, 1) := by decide +kernel
theorem dX11_isSame_26 : decode cX11_isSame 26 = .ok (.istore_n 2, 1) := by decide +kernel
theorem dX11_isSame_27 : decode cX11_isSame 27 = .ok (.iload_n 2, 1) := by decide +kernel
theorem dX11_isSame_28 : decode cX11_isSame 28 = .ok (.bipush 8, 2) := by decide +kernel
theorem dX11_isSame_30 : decode cX11_isSame 30 = .ok (.if_icmp .ge 20, 3) := by decide +kernel
theorem dX11_isSame_33 : decode cX11_isSame 33 = .ok (.aload_n 0, 1) := by decide +kernel
theorem dX11_isSame_34 : decode cX11_isSame 34 = .ok (.iload_n 1, 1) := by decide +kernel
theorem dX11_isSame_35 : decode cX11_isSame 35 = .ok (.iload_n 2, 1) := by decide +kernel
theorem dX11_isSame_36 : decode cX11_isSame 36 = .ok (.invokevirtual 353, 3) := by decide +kernel
theorem dX11_isSame_39 : decode cX11_isSame 39 = .ok (.ifCond .ne 5, 3) := by decide +kernel
theorem dX11_isSame_42 : decode cX11_isSame 42 = .ok (.iconst 0, 1) := by decide +kernel
theorem dX11_isSame_43 : decode cX11_isSame 43 = .ok (.ireturn, 1) := by decide +kernel
theorem dX11_isSame_44 : decode cX11_isSame 44 = .ok (.iinc 2 1, 3) := by decide +kernel
theorem dX11_isSame_47 : decode cX11_isSame 47 = .ok (.goto (-20), 3) := by decide +kernel
theorem dX11_isSame_50 : decode cX11_isSame 50 = .ok (.iconst 1, 1) := by decide +kernel
theorem dX11_isSame_51 : decode cX11_isSame 51 = .ok (.ireturn, 1) := by decide +kernel
def pg_X11_isSame (l : Launch) (g : EG) : List (Nat × ES) := [(0, s_ldP 0), (1, s_ldI 1), (2, s_callS l g sg_X11_isSame sg_X11_isSide), (5, s_if_eq 12), (8, s_c (.inl 0)), (9, s_goto 13), (12, s_c (.inl 1)), (13, s_putI 10 0), (16, s_ldP 0), (17, s_getI 10 0), (20, s_if_le 25), (23, s_c (.inl 0)), (24, s_iretz), (25, s_c (.inl 0)), (26, s_stI 2), (27, s_ldI 2), (28, s_c (.inl 8)), (30, s_icmp_ge 50), (33, s_ldP 0), (34, s_ldI 1), (35, s_ldI 2), (36, s_callV l g sg_X11_isSame sg_X11_isSameEvent 10), (39, s_if_ne 44), (42, s_c (.inl 0)), (43, s_iretz), (44, s_iinc 2 1), (47, s_goto 27), (50, s_c (.inl 1)), (51, s_iretz)]
set_option maxRecDepth 100000 in
theorem ok_X11_isSame {l : Launch} {g : EG} : e_okp l g sg_X11_isSame "CalendarSyncModel" (pg_X11_isSame l g) := fun p e R s m args below meth c ex M0 Q X =>
    e_each_cons (r_aload_n X (k := 0) (i := 0) rfl dX11_isSame_0 rfl)
    (e_each_cons (r_iload_n X (k := 1) (i := 1) rfl dX11_isSame_1 rfl)
    (e_each_cons (r_callS X rfl (τ := sg_X11_isSide) (index := 306) dX11_isSame_2 w7_140 w7_141 cs_X11_isSide rfl ⟨by decide, by decide⟩ rfl)
    (e_each_cons (r_if_eq X (off := 7) (t := 12) dX11_isSame_5 (by decide) rfl)
    (e_each_cons (r_iconst X (n := 0) (v := 0) dX11_isSame_8 (by decide) rfl)
    (e_each_cons (r_goto X (off := 4) (t := 13) dX11_isSame_9 (by decide))
    (e_each_cons (r_iconst X (n := 1) (v := 1) dX11_isSame_12 (by decide) rfl)
    (e_each_cons (r_putI X (index := 61) (ci := 10) (k := 0) dX11_isSame_13 (by decide) (by decide) rfl rfl w6_26 rfl)
    (e_each_cons (r_aload_n X (k := 0) (i := 0) rfl dX11_isSame_16 rfl)
    (e_each_cons (r_getI X (index := 61) (ci := 10) (k := 0) dX11_isSame_17 (by decide) (by decide) rfl w6_26 rfl)
    (e_each_cons (r_if_le X (off := 5) (t := 25) dX11_isSame_20 (by decide) rfl)
    (e_each_cons (r_iconst X (n := 0) (v := 0) dX11_isSame_23 (by decide) rfl)
    (e_each_cons (r_iretz X dX11_isSame_24 rfl)
    (e_each_cons (r_iconst X (n := 0) (v := 0) dX11_isSame_25 (by decide) rfl)
    (e_each_cons (r_istore_n X (k := 2) (i := 2) rfl dX11_isSame_26 (by decide) rfl)
    (e_each_cons (r_iload_n X (k := 2) (i := 2) rfl dX11_isSame_27 rfl)
    (e_each_cons (r_bipush X (n := 8) (v := 8) dX11_isSame_28 (by decide) rfl)
    (e_each_cons (r_icmp_ge X (off := 20) (t := 50) dX11_isSame_30 (by decide) rfl)
    (e_each_cons (r_aload_n X (k := 0) (i := 0) rfl dX11_isSame_33 rfl)
    (e_each_cons (r_iload_n X (k := 1) (i := 1) rfl dX11_isSame_34 rfl)
    (e_each_cons (r_iload_n X (k := 2) (i := 2) rfl dX11_isSame_35 rfl)
    (e_each_cons (r_callV X rfl (τ := sg_X11_isSameEvent) (index := 353) (ci := 10) dX11_isSame_36 (by decide) rfl w7_208 w7_210 ws_74 cs_X11_isSameEvent rfl ⟨by decide, by decide⟩ rfl)
    (e_each_cons (r_if_ne X (off := 5) (t := 44) dX11_isSame_39 (by decide) rfl)
    (e_each_cons (r_iconst X (n := 0) (v := 0) dX11_isSame_42 (by decide) rfl)
    (e_each_cons (r_iretz X dX11_isSame_43 rfl)
    (e_each_cons (r_iinc X (i := 2) (n := 1) (d := 1) dX11_isSame_44 (by decide) (by decide) rfl)
    (e_each_cons (r_goto X (off := (-20)) (t := 27) dX11_isSame_47 (by decide))
    (e_each_cons (r_iconst X (n := 1) (v := 1) dX11_isSame_50 (by decide) rfl)
    (e_each_cons (r_iretz X dX11_isSame_51 rfl)
    (e_each_nil)))))))))))))))))))))))))))))
theorem dX11_clock_0 : decode cX11_clock 0 = .ok (.aload_n 0, 1) := by decide +kernel
theorem dX11_clock_1 : decode cX11_clock 1 = .ok (.aload_n 0, 1) := by decide +kernel
theorem dX11_clock_2 : decode cX11_clock 2 = .ok (.getfield 7, 3) := by decide +kernel
theorem dX11_clock_5 : decode cX11_clock 5 = .ok (.iconst 0, 1) := by decide +kernel
theorem dX11_clock_6 : decode cX11_clock 6 = .ok (.iaload, 1) := by decide +kernel
theorem dX11_clock_7 : decode cX11_clock 7 = .ok (.invokevirtual 123, 3) := by decide +kernel
theorem dX11_clock_10 : decode cX11_clock 10 = .ok (.ireturn, 1) := by decide +kernel
def pg_X11_clock (l : Launch) (g : EG) : List (Nat × ES) := [(0, s_ldP 0), (1, s_ldP 0), (2, s_getP 10 2), (5, s_c (.inl 0)), (6, s_iald), (7, s_callV l g sg_X11_clock sg_X11_told 10), (10, s_ireti)]
set_option maxRecDepth 100000 in
theorem ok_X11_clock {l : Launch} {g : EG} : e_okp l g sg_X11_clock "CalendarSyncModel" (pg_X11_clock l g) := fun p e R s m args below meth c ex M0 Q X =>
    e_each_cons (r_aload_n X (k := 0) (i := 0) rfl dX11_clock_0 rfl)
    (e_each_cons (r_aload_n X (k := 0) (i := 0) rfl dX11_clock_1 rfl)
    (e_each_cons (r_getP X (index := 7) (ci := 10) (k := 2) dX11_clock_2 (by decide) (by decide) rfl w6_28 rfl)
    (e_each_cons (r_iconst X (n := 0) (v := 0) dX11_clock_5 (by decide) rfl)
    (e_each_cons (r_iald X dX11_clock_6 rfl)
    (e_each_cons (r_callV X rfl (τ := sg_X11_told) (index := 123) (ci := 10) dX11_clock_7 (by decide) rfl w6_169 w6_171 ws_34 cs_X11_told rfl ⟨by decide, by decide⟩ rfl)
    (e_each_cons (r_ireti X dX11_clock_10 rfl)
    (e_each_nil)))))))
theorem dX11_isChanged_0 : decode cX11_isChanged 0 = .ok (.iload_n 1, 1) := by decide +kernel
theorem dX11_isChanged_1 : decode cX11_isChanged 1 = .ok (.iload_n 2, 1) := by decide +kernel
theorem dX11_isChanged_2 : decode cX11_isChanged 2 = .ok (.invokestatic 278, 3) := by decide +kernel
theorem dX11_isChanged_5 : decode cX11_isChanged 5 = .ok (.istore_n 3, 1) := by decide +kernel
theorem dX11_isChanged_6 : decode cX11_isChanged 6 = .ok (.aload_n 0, 1) := by decide +kernel
theorem dX11_isChanged_7 : decode cX11_isChanged 7 = .ok (.getfield 7, 3) := by decide +kernel
theorem dX11_isChanged_10 : decode cX11_isChanged 10 = .ok (.iload_n 3, 1) := by decide +kernel
theorem dX11_isChanged_11 : decode cX11_isChanged 11 = .ok (.bipush 10, 2) := by decide +kernel
theorem dX11_isChanged_13 : decode cX11_isChanged 13 = .ok (.iadd, 1) := by decide +kernel
theorem dX11_isChanged_14 : decode cX11_isChanged 14 = .ok (.iaload, 1) := by decide +kernel
theorem dX11_isChanged_15 : decode cX11_isChanged 15 = .ok (.iconst 1, 1) := by decide +kernel
theorem dX11_isChanged_16 : decode cX11_isChanged 16 = .ok (.if_icmp .eq 16, 3) := by decide +kernel
theorem dX11_isChanged_19 : decode cX11_isChanged 19 = .ok (.aload_n 0, 1) := by decide +kernel
theorem dX11_isChanged_20 : decode cX11_isChanged 20 = .ok (.getfield 7, 3) := by decide +kernel
theorem dX11_isChanged_23 : decode cX11_isChanged 23 = .ok (.iload_n 3, 1) := by decide +kernel
theorem dX11_isChanged_24 : decode cX11_isChanged 24 = .ok (.bipush 11, 2) := by decide +kernel
theorem dX11_isChanged_26 : decode cX11_isChanged 26 = .ok (.iadd, 1) := by decide +kernel
theorem dX11_isChanged_27 : decode cX11_isChanged 27 = .ok (.iaload, 1) := by decide +kernel
theorem dX11_isChanged_28 : decode cX11_isChanged 28 = .ok (.iconst 1, 1) := by decide +kernel
theorem dX11_isChanged_29 : decode cX11_isChanged 29 = .ok (.if_icmp .ne 7, 3) := by decide +kernel
theorem dX11_isChanged_32 : decode cX11_isChanged 32 = .ok (.iconst 1, 1) := by decide +kernel
theorem dX11_isChanged_33 : decode cX11_isChanged 33 = .ok (.goto 4, 3) := by decide +kernel
theorem dX11_isChanged_36 : decode cX11_isChanged 36 = .ok (.iconst 0, 1) := by decide +kernel
theorem dX11_isChanged_37 : decode cX11_isChanged 37 = .ok (.ireturn, 1) := by decide +kernel
def pg_X11_isChanged (l : Launch) (g : EG) : List (Nat × ES) := [(0, s_ldI 1), (1, s_ldI 2), (2, s_callS l g sg_X11_isChanged sg_X11_eventAt), (5, s_stI 3), (6, s_ldP 0), (7, s_getP 10 2), (10, s_ldI 3), (11, s_c (.inl 10)), (13, s_ii (fun x y => x + y)), (14, s_iald), (15, s_c (.inl 1)), (16, s_icmp_eq 32), (19, s_ldP 0), (20, s_getP 10 2), (23, s_ldI 3), (24, s_c (.inl 11)), (26, s_ii (fun x y => x + y)), (27, s_iald), (28, s_c (.inl 1)), (29, s_icmp_ne 36), (32, s_c (.inl 1)), (33, s_goto 37), (36, s_c (.inl 0)), (37, s_iretz)]
set_option maxRecDepth 100000 in
theorem ok_X11_isChanged {l : Launch} {g : EG} : e_okp l g sg_X11_isChanged "CalendarSyncModel" (pg_X11_isChanged l g) := fun p e R s m args below meth c ex M0 Q X =>
    e_each_cons (r_iload_n X (k := 1) (i := 1) rfl dX11_isChanged_0 rfl)
    (e_each_cons (r_iload_n X (k := 2) (i := 2) rfl dX11_isChanged_1 rfl)
    (e_each_cons (r_callS X rfl (τ := sg_X11_eventAt) (index := 278) dX11_isChanged_2 w7_101 w7_102 cs_X11_eventAt rfl ⟨by decide, by decide⟩ rfl)
    (e_each_cons (r_istore_n X (k := 3) (i := 3) rfl dX11_isChanged_5 (by decide) rfl)
    (e_each_cons (r_aload_n X (k := 0) (i := 0) rfl dX11_isChanged_6 rfl)
    (e_each_cons (r_getP X (index := 7) (ci := 10) (k := 2) dX11_isChanged_7 (by decide) (by decide) rfl w6_28 rfl)
    (e_each_cons (r_iload_n X (k := 3) (i := 3) rfl dX11_isChanged_10 rfl)
    (e_each_cons (r_bipush X (n := 10) (v := 10) dX11_isChanged_11 (by decide) rfl)
    (e_each_cons (r_iadd X dX11_isChanged_13 rfl)
    (e_each_cons (r_iald X dX11_isChanged_14 rfl)
    (e_each_cons (r_iconst X (n := 1) (v := 1) dX11_isChanged_15 (by decide) rfl)
    (e_each_cons (r_icmp_eq X (off := 16) (t := 32) dX11_isChanged_16 (by decide) rfl)
    (e_each_cons (r_aload_n X (k := 0) (i := 0) rfl dX11_isChanged_19 rfl)
    (e_each_cons (r_getP X (index := 7) (ci := 10) (k := 2) dX11_isChanged_20 (by decide) (by decide) rfl w6_28 rfl)
    (e_each_cons (r_iload_n X (k := 3) (i := 3) rfl dX11_isChanged_23 rfl)
    (e_each_cons (r_bipush X (n := 11) (v := 11) dX11_isChanged_24 (by decide) rfl)
    (e_each_cons (r_iadd X dX11_isChanged_26 rfl)
    (e_each_cons (r_iald X dX11_isChanged_27 rfl)
    (e_each_cons (r_iconst X (n := 1) (v := 1) dX11_isChanged_28 (by decide) rfl)
    (e_each_cons (r_icmp_ne X (off := 7) (t := 36) dX11_isChanged_29 (by decide) rfl)
    (e_each_cons (r_iconst X (n := 1) (v := 1) dX11_isChanged_32 (by decide) rfl)
    (e_each_cons (r_goto X (off := 4) (t := 37) dX11_isChanged_33 (by decide))
    (e_each_cons (r_iconst X (n := 0) (v := 0) dX11_isChanged_36 (by decide) rfl)
    (e_each_cons (r_iretz X dX11_isChanged_37 rfl)
    (e_each_nil))))))))))))))))))))))))
theorem dX11_changedOf_0 : decode cX11_changedOf 0 = .ok (.iconst 0, 1) := by decide +kernel
theorem dX11_changedOf_1 : decode cX11_changedOf 1 = .ok (.istore_n 3, 1) := by decide +kernel
theorem dX11_changedOf_2 : decode cX11_changedOf 2 = .ok (.iconst 0, 1) := by decide +kernel
theorem dX11_changedOf_3 : decode cX11_changedOf 3 = .ok (.istore 4, 2) := by decide +kernel
theorem dX11_changedOf_5 : decode cX11_changedOf 5 = .ok (.iload 4, 2) := by decide +kernel
theorem dX11_changedOf_7 : decode cX11_changedOf 7 = .ok (.bipush 8, 2) := by decide +kernel
theorem dX11_changedOf_9 : decode cX11_changedOf 9 = .ok (.if_icmp .ge 64, 3) := by decide +kernel
theorem dX11_changedOf_12 : decode cX11_changedOf 12 = .ok (.iload_n 2, 1) := by decide +kernel
theorem dX11_changedOf_13 : decode cX11_changedOf 13 = .ok (.ifCond .eq 29, 3) := by decide +kernel
theorem dX11_changedOf_16 : decode cX11_changedOf 16 = .ok (.aload_n 0, 1) := by decide +kernel
theorem dX11_changedOf_17 : decode cX11_changedOf 17 = .ok (.getfield 7, 3) := by decide +kernel
theorem dX11_changedOf_20 : decode cX11_changedOf 20 = .ok (.iload_n 1, 1) := by decide +kernel
theorem dX11_changedOf_21 : decode cX11_changedOf 21 = .ok (.iload 4, 2) := by decide +kernel
theorem dX11_changedOf_23 : decode cX11_changedOf 23 = .ok (.invokestatic 278, 3) := by decide +kernel
theorem dX11_changedOf_26 : decode cX11_changedOf 26 = .ok (.bipush 10, 2) := by decide +kernel
theorem dX11_changedOf_28 : decode cX11_changedOf 28 = .ok (.iadd, 1) := by decide +kernel
theorem dX11_changedOf_29 : decode cX11_changedOf 29 = .ok (.iaload, 1) := by decide +kernel
theorem dX11_changedOf_30 : decode cX11_changedOf 30 = .ok (.iconst 1, 1) := by decide +kernel
theorem dX11_changedOf_31 : decode cX11_changedOf 31 = .ok (.if_icmp .ne 7, 3) := by decide +kernel
theorem dX11_changedOf_34 : decode cX11_changedOf 34 = .ok (.iconst 1, 1) := by decide +kernel
theorem dX11_changedOf_35 : decode cX11_changedOf 35 = .ok (.goto 14, 3) := by decide +kernel
theorem dX11_changedOf_38 : decode cX11_changedOf 38 = .ok (.iconst 0, 1) := by decide +kernel
theorem dX11_changedOf_39 : decode cX11_changedOf 39 = .ok (.goto 10, 3) := by decide +kernel
theorem dX11_changedOf_42 : decode cX11_changedOf 42 = .ok (.aload_n 0, 1) := by decide +kernel
theorem dX11_changedOf_43 : decode cX11_changedOf 43 = .ok (.iload_n 1, 1) := by decide +kernel
theorem dX11_changedOf_44 : decode cX11_changedOf 44 = .ok (.iload 4, 2) := by decide +kernel
theorem dX11_changedOf_46 : decode cX11_changedOf 46 = .ok (.invokevirtual 356, 3) := by decide +kernel
theorem dX11_changedOf_49 : decode cX11_changedOf 49 = .ok (.istore 5, 2) := by decide +kernel
theorem dX11_changedOf_51 : decode cX11_changedOf 51 = .ok (.iload 5, 2) := by decide +kernel
theorem dX11_changedOf_53 : decode cX11_changedOf 53 = .ok (.ifCond .eq 12, 3) := by decide +kernel
theorem dX11_changedOf_56 : decode cX11_changedOf 56 = .ok (.iload_n 3, 1) := by decide +kernel
theorem dX11_changedOf_57 : decode cX11_changedOf 57 = .ok (.iconst 1, 1) := by decide +kernel
theorem dX11_changedOf_58 : decode cX11_changedOf 58 = .ok (.iload 4, 2) := by decide +kernel
theorem dX11_changedOf_60 : decode cX11_changedOf 60 = .ok (.ishl, 1) := by decide +kernel
theorem dX11_changedOf_61 : decode cX11_changedOf 61 = .ok (.ior, 1) := by decide +kernel
theorem dX11_changedOf_62 : decode cX11_changedOf 62 = .ok (.goto 4, 3) := by decide +kernel
theorem dX11_changedOf_65 : decode cX11_changedOf 65 = .ok (.iload_n 3, 1) := by decide +kernel
theorem dX11_changedOf_66 : decode cX11_changedOf 66 = .ok (.istore_n 3, 1) := by decide +kernel
theorem dX11_changedOf_67 : decode cX11_changedOf 67 = .ok (.iinc 4 1, 3) := by decide +kernel
theorem dX11_changedOf_70 : decode cX11_changedOf 70 = .ok (.goto (-65), 3) := by decide +kernel
theorem dX11_changedOf_73 : decode cX11_changedOf 73 = .ok (.iload_n 3, 1) := by decide +kernel
theorem dX11_changedOf_74 : decode cX11_changedOf 74 = .ok (.ireturn, 1) := by decide +kernel
def pg_X11_changedOf (l : Launch) (g : EG) : List (Nat × ES) := [(0, s_c (.inl 0)), (1, s_stI 3), (2, s_c (.inl 0)), (3, s_stI 4), (5, s_ldI 4), (7, s_c (.inl 8)), (9, s_icmp_ge 73), (12, s_ldI 2), (13, s_if_eq 42), (16, s_ldP 0), (17, s_getP 10 2), (20, s_ldI 1), (21, s_ldI 4), (23, s_callS l g sg_X11_changedOf sg_X11_eventAt), (26, s_c (.inl 10)), (28, s_ii (fun x y => x + y)), (29, s_iald), (30, s_c (.inl 1)), (31, s_icmp_ne 38), (34, s_c (.inl 1)), (35, s_goto 49), (38, s_c (.inl 0)), (39, s_goto 49), (42, s_ldP 0), (43, s_ldI 1), (44, s_ldI 4), (46, s_callV l g sg_X11_changedOf sg_X11_isChanged 10), (49, s_stI 5), (51, s_ldI 5), (53, s_if_eq 65), (56, s_ldI 3), (57, s_c (.inl 1)), (58, s_ldI 4), (60, s_ii (fun x y => x <<< (y &&& 31))), (61, s_ii (fun x y => x ||| y)), (62, s_goto 66), (65, s_ldI 3), (66, s_stI 3), (67, s_iinc 4 1), (70, s_goto 5), (73, s_ldI 3), (74, s_ireti)]
set_option maxRecDepth 100000 in
theorem ok_X11_changedOf {l : Launch} {g : EG} : e_okp l g sg_X11_changedOf "CalendarSyncModel" (pg_X11_changedOf l g) := fun p e R s m args below meth c ex M0 Q X =>
    e_each_cons (r_iconst X (n := 0) (v := 0) dX11_changedOf_0 (by decide) rfl)
    (e_each_cons (r_istore_n X (k := 3) (i := 3) rfl dX11_changedOf_1 (by decide) rfl)
    (e_each_cons (r_iconst X (n := 0) (v := 0) dX11_changedOf_2 (by decide) rfl)
    (e_each_cons (r_istore X (i := 4) dX11_changedOf_3 (by decide) rfl)
    (e_each_cons (r_iload X (i := 4) dX11_changedOf_5 rfl)
    (e_each_cons (r_bipush X (n := 8) (v := 8) dX11_changedOf_7 (by decide) rfl)
    (e_each_cons (r_icmp_ge X (off := 64) (t := 73) dX11_changedOf_9 (by decide) rfl)
    (e_each_cons (r_iload_n X (k := 2) (i := 2) rfl dX11_changedOf_12 rfl)
    (e_each_cons (r_if_eq X (off := 29) (t := 42) dX11_changedOf_13 (by decide) rfl)
    (e_each_cons (r_aload_n X (k := 0) (i := 0) rfl dX11_changedOf_16 rfl)
    (e_each_cons (r_getP X (index := 7) (ci := 10) (k := 2) dX11_changedOf_17 (by decide) (by decide) rfl w6_28 rfl)
    (e_each_cons (r_iload_n X (k := 1) (i := 1) rfl dX11_changedOf_20 rfl)
    (e_each_cons (r_iload X (i := 4) dX11_changedOf_21 rfl)
    (e_each_cons (r_callS X rfl (τ := sg_X11_eventAt) (index := 278) dX11_changedOf_23 w7_101 w7_102 cs_X11_eventAt rfl ⟨by decide, by decide⟩ rfl)
    (e_each_cons (r_bipush X (n := 10) (v := 10) dX11_changedOf_26 (by decide) rfl)
    (e_each_cons (r_iadd X dX11_changedOf_28 rfl)
    (e_each_cons (r_iald X dX11_changedOf_29 rfl)
    (e_each_cons (r_iconst X (n := 1) (v := 1) dX11_changedOf_30 (by decide) rfl)
    (e_each_cons (r_icmp_ne X (off := 7) (t := 38) dX11_changedOf_31 (by decide) rfl)
    (e_each_cons (r_iconst X (n := 1) (v := 1) dX11_changedOf_34 (by decide) rfl)
    (e_each_cons (r_goto X (off := 14) (t := 49) dX11_changedOf_35 (by decide))
    (e_each_cons (r_iconst X (n := 0) (v := 0) dX11_changedOf_38 (by decide) rfl)
    (e_each_cons (r_goto X (off := 10) (t := 49) dX11_changedOf_39 (by decide))
    (e_each_cons (r_aload_n X (k := 0) (i := 0) rfl dX11_changedOf_42 rfl)
    (e_each_cons (r_iload_n X (k := 1) (i := 1) rfl dX11_changedOf_43 rfl)
    (e_each_cons (r_iload X (i := 4) dX11_changedOf_44 rfl)
    (e_each_cons (r_callV X rfl (τ := sg_X11_isChanged) (index := 356) (ci := 10) dX11_changedOf_46 (by decide) rfl w7_232 w7_234 ws_78 cs_X11_isChanged rfl ⟨by decide, by decide⟩ rfl)
    (e_each_cons (r_istore X (i := 5) dX11_changedOf_49 (by decide) rfl)
    (e_each_cons (r_iload X (i := 5) dX11_changedOf_51 rfl)
    (e_each_cons (r_if_eq X (off := 12) (t := 65) dX11_changedOf_53 (by decide) rfl)
    (e_each_cons (r_iload_n X (k := 3) (i := 3) rfl dX11_changedOf_56 rfl)
    (e_each_cons (r_iconst X (n := 1) (v := 1) dX11_changedOf_57 (by decide) rfl)
    (e_each_cons (r_iload X (i := 4) dX11_changedOf_58 rfl)
    (e_each_cons (r_ishl X dX11_changedOf_60 rfl)
    (e_each_cons (r_ior X dX11_changedOf_61 rfl)
    (e_each_cons (r_goto X (off := 4) (t := 66) dX11_changedOf_62 (by decide))
    (e_each_cons (r_iload_n X (k := 3) (i := 3) rfl dX11_changedOf_65 rfl)
    (e_each_cons (r_istore_n X (k := 3) (i := 3) rfl dX11_changedOf_66 (by decide) rfl)
    (e_each_cons (r_iinc X (i := 4) (n := 1) (d := 1) dX11_changedOf_67 (by decide) (by decide) rfl)
    (e_each_cons (r_goto X (off := (-65)) (t := 5) dX11_changedOf_70 (by decide))
    (e_each_cons (r_iload_n X (k := 3) (i := 3) rfl dX11_changedOf_73 rfl)
    (e_each_cons (r_ireti X dX11_changedOf_74 rfl)
    (e_each_nil))))))))))))))))))))))))))))))))))))))))))
theorem dX11_isTooOld_0 : decode cX11_isTooOld 0 = .ok (.aload_n 0, 1) := by decide +kernel
theorem dX11_isTooOld_1 : decode cX11_isTooOld 1 = .ok (.getfield 7, 3) := by decide +kernel
theorem dX11_isTooOld_4 : decode cX11_isTooOld 4 = .ok (.iconst 1, 1) := by decide +kernel
theorem dX11_isTooOld_5 : decode cX11_isTooOld 5 = .ok (.iload_n 1, 1) := by decide +kernel
theorem dX11_isTooOld_6 : decode cX11_isTooOld 6 = .ok (.iadd, 1) := by decide +kernel
theorem dX11_isTooOld_7 : decode cX11_isTooOld 7 = .ok (.iaload, 1) := by decide +kernel
theorem dX11_isTooOld_8 : decode cX11_isTooOld 8 = .ok (.aload_n 0, 1) := by decide +kernel
theorem dX11_isTooOld_9 : decode cX11_isTooOld 9 = .ok (.getfield 7, 3) := by decide +kernel
theorem dX11_isTooOld_12 : decode cX11_isTooOld 12 = .ok (.iconst 0, 1) := by decide +kernel
theorem dX11_isTooOld_13 : decode cX11_isTooOld 13 = .ok (.iaload, 1) := by decide +kernel
theorem dX11_isTooOld_14 : decode cX11_isTooOld 14 = .ok (.bipush 8, 2) := by decide +kernel
theorem dX11_isTooOld_16 : decode cX11_isTooOld 16 = .ok (.isub, 1) := by decide +kernel
theorem dX11_isTooOld_17 : decode cX11_isTooOld 17 = .ok (.if_icmp .ge 7, 3) := by decide +kernel
theorem dX11_isTooOld_20 : decode cX11_isTooOld 20 = .ok (.iconst 1, 1) := by decide +kernel
theorem dX11_isTooOld_21 : decode cX11_isTooOld 21 = .ok (.goto 4, 3) := by decide +kernel
theorem dX11_isTooOld_24 : decode cX11_isTooOld 24 = .ok (.iconst 0, 1) := by decide +kernel
theorem dX11_isTooOld_25 : decode cX11_isTooOld 25 = .ok (.ireturn, 1) := by decide +kernel
def pg_X11_isTooOld (l : Launch) (g : EG) : List (Nat × ES) := [(0, s_ldP 0), (1, s_getP 10 2), (4, s_c (.inl 1)), (5, s_ldI 1), (6, s_ii (fun x y => x + y)), (7, s_iald), (8, s_ldP 0), (9, s_getP 10 2), (12, s_c (.inl 0)), (13, s_iald), (14, s_c (.inl 8)), (16, s_ii (fun x y => x - y)), (17, s_icmp_ge 24), (20, s_c (.inl 1)), (21, s_goto 25), (24, s_c (.inl 0)), (25, s_iretz)]
set_option maxRecDepth 100000 in
theorem ok_X11_isTooOld {l : Launch} {g : EG} : e_okp l g sg_X11_isTooOld "CalendarSyncModel" (pg_X11_isTooOld l g) := fun p e R s m args below meth c ex M0 Q X =>
    e_each_cons (r_aload_n X (k := 0) (i := 0) rfl dX11_isTooOld_0 rfl)
    (e_each_cons (r_getP X (index := 7) (ci := 10) (k := 2) dX11_isTooOld_1 (by decide) (by decide) rfl w6_28 rfl)
    (e_each_cons (r_iconst X (n := 1) (v := 1) dX11_isTooOld_4 (by decide) rfl)
    (e_each_cons (r_iload_n X (k := 1) (i := 1) rfl dX11_isTooOld_5 rfl)
    (e_each_cons (r_iadd X dX11_isTooOld_6 rfl)
    (e_each_cons (r_iald X dX11_isTooOld_7 rfl)
    (e_each_cons (r_aload_n X (k := 0) (i := 0) rfl dX11_isTooOld_8 rfl)
    (e_each_cons (r_getP X (index := 7) (ci := 10) (k := 2) dX11_isTooOld_9 (by decide) (by decide) rfl w6_28 rfl)
    (e_each_cons (r_iconst X (n := 0) (v := 0) dX11_isTooOld_12 (by decide) rfl)
    (e_each_cons (r_iald X dX11_isTooOld_13 rfl)
    (e_each_cons (r_bipush X (n := 8) (v := 8) dX11_isTooOld_14 (by decide) rfl)
    (e_each_cons (r_isub X dX11_isTooOld_16 rfl)
    (e_each_cons (r_icmp_ge X (off := 7) (t := 24) dX11_isTooOld_17 (by decide) rfl)
    (e_each_cons (r_iconst X (n := 1) (v := 1) dX11_isTooOld_20 (by decide) rfl)
    (e_each_cons (r_goto X (off := 4) (t := 25) dX11_isTooOld_21 (by decide))
    (e_each_cons (r_iconst X (n := 0) (v := 0) dX11_isTooOld_24 (by decide) rfl)
    (e_each_cons (r_iretz X dX11_isTooOld_25 rfl)
    (e_each_nil)))))))))))))))))
theorem dX11_toldTo_0 : decode cX11_toldTo 0 = .ok (.aload_n 0, 1) := by decide +kernel
theorem dX11_toldTo_1 : decode cX11_toldTo 1 = .ok (.iload_n 1, 1) := by decide +kernel
theorem dX11_toldTo_2 : decode cX11_toldTo 2 = .ok (.invokevirtual 359, 3) := by decide +kernel
theorem dX11_toldTo_5 : decode cX11_toldTo 5 = .ok (.ifCond .eq 9, 3) := by decide +kernel
theorem dX11_toldTo_8 : decode cX11_toldTo 8 = .ok (.aload_n 0, 1) := by decide +kernel
theorem dX11_toldTo_9 : decode cX11_toldTo 9 = .ok (.iconst 2, 1) := by decide +kernel
theorem dX11_toldTo_10 : decode cX11_toldTo 10 = .ok (.invokevirtual 284, 3) := by decide +kernel
theorem dX11_toldTo_13 : decode cX11_toldTo 13 = .ok (.ireturn, 1) := by decide +kernel
theorem dX11_toldTo_14 : decode cX11_toldTo 14 = .ok (.iconst 0, 1) := by decide +kernel
theorem dX11_toldTo_15 : decode cX11_toldTo 15 = .ok (.istore_n 2, 1) := by decide +kernel
theorem dX11_toldTo_16 : decode cX11_toldTo 16 = .ok (.aload_n 0, 1) := by decide +kernel
theorem dX11_toldTo_17 : decode cX11_toldTo 17 = .ok (.getfield 7, 3) := by decide +kernel
theorem dX11_toldTo_20 : decode cX11_toldTo 20 = .ok (.iconst 0, 1) := by decide +kernel
theorem dX11_toldTo_21 : decode cX11_toldTo 21 = .ok (.iaload, 1) := by decide +kernel
theorem dX11_toldTo_22 : decode cX11_toldTo 22 = .ok (.aload_n 0, 1) := by decide +kernel
theorem dX11_toldTo_23 : decode cX11_toldTo 23 = .ok (.getfield 7, 3) := by decide +kernel
theorem dX11_toldTo_26 : decode cX11_toldTo 26 = .ok (.iconst 1, 1) := by decide +kernel
theorem dX11_toldTo_27 : decode cX11_toldTo 27 = .ok (.iload_n 1, 1) := by decide +kernel
theorem dX11_toldTo_28 : decode cX11_toldTo 28 = .ok (.iadd, 1) := by decide +kernel
theorem dX11_toldTo_29 : decode cX11_toldTo 29 = .ok (.iaload, 1) := by decide +kernel
theorem dX11_toldTo_30 : decode cX11_toldTo 30 = .ok (.isub, 1) := by decide +kernel
theorem dX11_toldTo_31 : decode cX11_toldTo 31 = .ok (.istore_n 3, 1) := by decide +kernel
theorem dX11_toldTo_32 : decode cX11_toldTo 32 = .ok (.aload_n 0, 1) := by decide +kernel
theorem dX11_toldTo_33 : decode cX11_toldTo 33 = .ok (.getfield 7, 3) := by decide +kernel
theorem dX11_toldTo_36 : decode cX11_toldTo 36 = .ok (.bipush 23, 2) := by decide +kernel
theorem dX11_toldTo_38 : decode cX11_toldTo 38 = .ok (.iaload, 1) := by decide +kernel
theorem dX11_toldTo_39 : decode cX11_toldTo 39 = .ok (.iload_n 3, 1) := by decide +kernel
theorem dX11_toldTo_40 : decode cX11_toldTo 40 = .ok (.isub, 1) := by decide +kernel
theorem dX11_toldTo_41 : decode cX11_toldTo 41 = .ok (.istore 4, 2) := by decide +kernel
theorem dX11_toldTo_43 : decode cX11_toldTo 43 = .ok (.iload 4, 2) := by decide +kernel
theorem dX11_toldTo_45 : decode cX11_toldTo 45 = .ok (.aload_n 0, 1) := by decide +kernel
theorem dX11_toldTo_46 : decode cX11_toldTo 46 = .ok (.getfield 7, 3) := by decide +kernel
theorem dX11_toldTo_49 : decode cX11_toldTo 49 = .ok (.bipush 23, 2) := by decide +kernel
theorem dX11_toldTo_51 : decode cX11_toldTo 51 = .ok (.iaload, 1) := by decide +kernel
theorem dX11_toldTo_52 : decode cX11_toldTo 52 = .ok (.if_icmp .ge 42, 3) := by decide +kernel
theorem dX11_toldTo_55 : decode cX11_toldTo 55 = .ok (.aload_n 0, 1) := by decide +kernel
theorem dX11_toldTo_56 : decode cX11_toldTo 56 = .ok (.getfield 7, 3) := by decide +kernel
theorem dX11_toldTo_59 : decode cX11_toldTo 59 = .ok (.bipush 15, 2) := by decide +kernel
theorem dX11_toldTo_61 : decode cX11_toldTo 61 = .ok (.iload 4, 2) := by decide +kernel
theorem dX11_toldTo_63 : decode cX11_toldTo 63 = .ok (.iadd, 1) := by decide +kernel
theorem dX11_toldTo_64 : decode cX11_toldTo 64 = .ok (.iaload, 1) := by decide +kernel
theorem dX11_toldTo_65 : decode cX11_toldTo 65 = .ok (.iconst (-1), 1) := by decide +kernel
theorem dX11_toldTo_66 : decode cX11_toldTo 66 = .ok (.if_icmp .ne 7, 3) := by decide +kernel
theorem dX11_toldTo_69 : decode cX11_toldTo 69 = .ok (.iload_n 2, 1) := by decide +kernel
theorem dX11_toldTo_70 : decode cX11_toldTo 70 = .ok (.goto 17, 3) := by decide +kernel
theorem dX11_toldTo_73 : decode cX11_toldTo 73 = .ok (.iload_n 2, 1) := by decide +kernel
theorem dX11_toldTo_74 : decode cX11_toldTo 74 = .ok (.iconst 1, 1) := by decide +kernel
theorem dX11_toldTo_75 : decode cX11_toldTo 75 = .ok (.aload_n 0, 1) := by decide +kernel
theorem dX11_toldTo_76 : decode cX11_toldTo 76 = .ok (.getfield 7, 3) := by decide +kernel
theorem dX11_toldTo_79 : decode cX11_toldTo 79 = .ok (.bipush 15, 2) := by decide +kernel
theorem dX11_toldTo_81 : decode cX11_toldTo 81 = .ok (.iload 4, 2) := by decide +kernel
theorem dX11_toldTo_83 : decode cX11_toldTo 83 = .ok (.iadd, 1) := by decide +kernel
theorem dX11_toldTo_84 : decode cX11_toldTo 84 = .ok (.iaload, 1) := by decide +kernel
theorem dX11_toldTo_85 : decode cX11_toldTo 85 = .ok (.ishl, 1) := by decide +kernel
theorem dX11_toldTo_86 : decode cX11_toldTo 86 = .ok (.ior, 1) := by decide +kernel
theorem dX11_toldTo_87 : decode cX11_toldTo 87 = .ok (.istore_n 2, 1) := by decide +kernel
theorem dX11_toldTo_88 : decode cX11_toldTo 88 = .ok (.iinc 4 1, 3) := by decide +kernel
theorem dX11_toldTo_91 : decode cX11_toldTo 91 = .ok (.goto (-48), 3) := by decide +kernel
theorem dX11_toldTo_94 : decode cX11_toldTo 94 = .ok (.iload_n 2, 1) := by decide +kernel
theorem dX11_toldTo_95 : decode cX11_toldTo 95 = .ok (.ireturn, 1) := by decide +kernel
def pg_X11_toldTo (l : Launch) (g : EG) : List (Nat × ES) := [(0, s_ldP 0), (1, s_ldI 1), (2, s_callV l g sg_X11_toldTo sg_X11_isTooOld 10), (5, s_if_eq 14), (8, s_ldP 0), (9, s_c (.inl 2)), (10, s_callV l g sg_X11_toldTo sg_X11_eventsOf 10), (13, s_ireti), (14, s_c (.inl 0)), (15, s_stI 2), (16, s_ldP 0), (17, s_getP 10 2), (20, s_c (.inl 0)), (21, s_iald), (22, s_ldP 0), (23, s_getP 10 2), (26, s_c (.inl 1)), (27, s_ldI 1), (28, s_ii (fun x y => x + y)), (29, s_iald), (30, s_ii (fun x y => x - y)), (31, s_stI 3), (32, s_ldP 0), (33, s_getP 10 2), (36, s_c (.inl 23)), (38, s_iald), (39, s_ldI 3), (40, s_ii (fun x y => x - y)), (41, s_stI 4), (43, s_ldI 4), (45, s_ldP 0), (46, s_getP 10 2), (49, s_c (.inl 23)), (51, s_iald), (52, s_icmp_ge 94), (55, s_ldP 0), (56, s_getP 10 2), (59, s_c (.inl 15)), (61, s_ldI 4), (63, s_ii (fun x y => x + y)), (64, s_iald), (65, s_c (.inl (-1))), (66, s_icmp_ne 73), (69, s_ldI 2), (70, s_goto 87), (73, s_ldI 2), (74, s_c (.inl 1)), (75, s_ldP 0), (76, s_getP 10 2), (79, s_c (.inl 15)), (81, s_ldI 4), (83, s_ii (fun x y => x + y)), (84, s_iald), (85, s_ii (fun x y => x <<< (y &&& 31))), (86, s_ii (fun x y => x ||| y)), (87, s_stI 2), (88, s_iinc 4 1), (91, s_goto 43), (94, s_ldI 2), (95, s_ireti)]
set_option maxRecDepth 100000 in
theorem ok_X11_toldTo {l : Launch} {g : EG} : e_okp l g sg_X11_toldTo "CalendarSyncModel" (pg_X11_toldTo l g) := fun p e R s m args below meth c ex M0 Q X =>
    e_each_cons (r_aload_n X (k := 0) (i := 0) rfl dX11_toldTo_0 rfl)
    (e_each_cons (r_iload_n X (k := 1) (i := 1) rfl dX11_toldTo_1 rfl)
    (e_each_cons (r_callV X rfl (τ := sg_X11_isTooOld) (index := 359) (ci := 10) dX11_toldTo_2 (by decide) rfl w7_236 w7_238 ws_79 cs_X11_isTooOld rfl ⟨by decide, by decide⟩ rfl)
    (e_each_cons (r_if_eq X (off := 9) (t := 14) dX11_toldTo_5 (by decide) rfl)
    (e_each_cons (r_aload_n X (k := 0) (i := 0) rfl dX11_toldTo_8 rfl)
    (e_each_cons (r_iconst X (n := 2) (v := 2) dX11_toldTo_9 (by decide) rfl)
    (e_each_cons (r_callV X rfl (τ := sg_X11_eventsOf) (index := 284) (ci := 10) dX11_toldTo_10 (by decide) rfl w7_93 w7_95 ws_60 cs_X11_eventsOf rfl ⟨by decide, by decide⟩ rfl)
    (e_each_cons (r_ireti X dX11_toldTo_13 rfl)
    (e_each_cons (r_iconst X (n := 0) (v := 0) dX11_toldTo_14 (by decide) rfl)
    (e_each_cons (r_istore_n X (k := 2) (i := 2) rfl dX11_toldTo_15 (by decide) rfl)
    (e_each_cons (r_aload_n X (k := 0) (i := 0) rfl dX11_toldTo_16 rfl)
    (e_each_cons (r_getP X (index := 7) (ci := 10) (k := 2) dX11_toldTo_17 (by decide) (by decide) rfl w6_28 rfl)
    (e_each_cons (r_iconst X (n := 0) (v := 0) dX11_toldTo_20 (by decide) rfl)
    (e_each_cons (r_iald X dX11_toldTo_21 rfl)
    (e_each_cons (r_aload_n X (k := 0) (i := 0) rfl dX11_toldTo_22 rfl)
    (e_each_cons (r_getP X (index := 7) (ci := 10) (k := 2) dX11_toldTo_23 (by decide) (by decide) rfl w6_28 rfl)
    (e_each_cons (r_iconst X (n := 1) (v := 1) dX11_toldTo_26 (by decide) rfl)
    (e_each_cons (r_iload_n X (k := 1) (i := 1) rfl dX11_toldTo_27 rfl)
    (e_each_cons (r_iadd X dX11_toldTo_28 rfl)
    (e_each_cons (r_iald X dX11_toldTo_29 rfl)
    (e_each_cons (r_isub X dX11_toldTo_30 rfl)
    (e_each_cons (r_istore_n X (k := 3) (i := 3) rfl dX11_toldTo_31 (by decide) rfl)
    (e_each_cons (r_aload_n X (k := 0) (i := 0) rfl dX11_toldTo_32 rfl)
    (e_each_cons (r_getP X (index := 7) (ci := 10) (k := 2) dX11_toldTo_33 (by decide) (by decide) rfl w6_28 rfl)
    (e_each_cons (r_bipush X (n := 23) (v := 23) dX11_toldTo_36 (by decide) rfl)
    (e_each_cons (r_iald X dX11_toldTo_38 rfl)
    (e_each_cons (r_iload_n X (k := 3) (i := 3) rfl dX11_toldTo_39 rfl)
    (e_each_cons (r_isub X dX11_toldTo_40 rfl)
    (e_each_cons (r_istore X (i := 4) dX11_toldTo_41 (by decide) rfl)
    (e_each_cons (r_iload X (i := 4) dX11_toldTo_43 rfl)
    (e_each_cons (r_aload_n X (k := 0) (i := 0) rfl dX11_toldTo_45 rfl)
    (e_each_cons (r_getP X (index := 7) (ci := 10) (k := 2) dX11_toldTo_46 (by decide) (by decide) rfl w6_28 rfl)
    (e_each_cons (r_bipush X (n := 23) (v := 23) dX11_toldTo_49 (by decide) rfl)
    (e_each_cons (r_iald X dX11_toldTo_51 rfl)
    (e_each_cons (r_icmp_ge X (off := 42) (t := 94) dX11_toldTo_52 (by decide) rfl)
    (e_each_cons (r_aload_n X (k := 0) (i := 0) rfl dX11_toldTo_55 rfl)
    (e_each_cons (r_getP X (index := 7) (ci := 10) (k := 2) dX11_toldTo_56 (by decide) (by decide) rfl w6_28 rfl)
    (e_each_cons (r_bipush X (n := 15) (v := 15) dX11_toldTo_59 (by decide) rfl)
    (e_each_cons (r_iload X (i := 4) dX11_toldTo_61 rfl)
    (e_each_cons (r_iadd X dX11_toldTo_63 rfl)
    (e_each_cons (r_iald X dX11_toldTo_64 rfl)
    (e_each_cons (r_iconst X (n := (-1)) (v := (-1)) dX11_toldTo_65 (by decide) rfl)
    (e_each_cons (r_icmp_ne X (off := 7) (t := 73) dX11_toldTo_66 (by decide) rfl)
    (e_each_cons (r_iload_n X (k := 2) (i := 2) rfl dX11_toldTo_69 rfl)
    (e_each_cons (r_goto X (off := 17) (t := 87) dX11_toldTo_70 (by decide))
    (e_each_cons (r_iload_n X (k := 2) (i := 2) rfl dX11_toldTo_73 rfl)
    (e_each_cons (r_iconst X (n := 1) (v := 1) dX11_toldTo_74 (by decide) rfl)
    (e_each_cons (r_aload_n X (k := 0) (i := 0) rfl dX11_toldTo_75 rfl)
    (e_each_cons (r_getP X (index := 7) (ci := 10) (k := 2) dX11_toldTo_76 (by decide) (by decide) rfl w6_28 rfl)
    (e_each_cons (r_bipush X (n := 15) (v := 15) dX11_toldTo_79 (by decide) rfl)
    (e_each_cons (r_iload X (i := 4) dX11_toldTo_81 rfl)
    (e_each_cons (r_iadd X dX11_toldTo_83 rfl)
    (e_each_cons (r_iald X dX11_toldTo_84 rfl)
    (e_each_cons (r_ishl X dX11_toldTo_85 rfl)
    (e_each_cons (r_ior X dX11_toldTo_86 rfl)
    (e_each_cons (r_istore_n X (k := 2) (i := 2) rfl dX11_toldTo_87 (by decide) rfl)
    (e_each_cons (r_iinc X (i := 4) (n := 1) (d := 1) dX11_toldTo_88 (by decide) (by decide) rfl)
    (e_each_cons (r_goto X (off := (-48)) (t := 43) dX11_toldTo_91 (by decide))
    (e_each_cons (r_iload_n X (k := 2) (i := 2) rfl dX11_toldTo_94 rfl)
    (e_each_cons (r_ireti X dX11_toldTo_95 rfl)
    (e_each_nil))))))))))))))))))))))))))))))))))))))))))))))))))))))))))))
theorem dX11_side_0 : decode cX11_side 0 = .ok (.aload_n 0, 1) := by decide +kernel
theorem dX11_side_1 : decode cX11_side 1 = .ok (.iload_n 1, 1) := by decide +kernel
theorem dX11_side_2 : decode cX11_side 2 = .ok (.invokestatic 306, 3) := by decide +kernel
theorem dX11_side_5 : decode cX11_side 5 = .ok (.ifCond .eq 16, 3) := by decide +kernel
theorem dX11_side_8 : decode cX11_side 8 = .ok (.iload_n 2, 1) := by decide +kernel
theorem dX11_side_9 : decode cX11_side 9 = .ok (.iconst 0, 1) := by decide +kernel
theorem dX11_side_10 : decode cX11_side 10 = .ok (.iconst 4, 1) := by decide +kernel
theorem dX11_side_11 : decode cX11_side 11 = .ok (.invokestatic 75, 3) := by decide +kernel
theorem dX11_side_14 : decode cX11_side 14 = .ok (.ifCond .eq 7, 3) := by decide +kernel
theorem dX11_side_17 : decode cX11_side 17 = .ok (.iconst 0, 1) := by decide +kernel
theorem dX11_side_18 : decode cX11_side 18 = .ok (.goto 4, 3) := by decide +kernel
theorem dX11_side_21 : decode cX11_side 21 = .ok (.iconst 1, 1) := by decide +kernel
theorem dX11_side_22 : decode cX11_side 22 = .ok (.invokevirtual 71, 3) := by decide +kernel
theorem dX11_side_25 : decode cX11_side 25 = .ok (.ifCond .eq 5, 3) := by decide +kernel
theorem dX11_side_28 : decode cX11_side 28 = .ok (.iconst 0, 1) := by decide +kernel
theorem dX11_side_29 : decode cX11_side 29 = .ok (.ireturn, 1) := by decide +kernel
theorem dX11_side_30 : decode cX11_side 30 = .ok (.iload_n 2, 1) := by decide +kernel
theorem dX11_side_31 : decode cX11_side 31 = .ok (.tableswitch 66 0 3 #[29, 38, 45, 52], 29) := by decide +kernel
theorem dX11_side_60 : decode cX11_side 60 = .ok (.aload_n 0, 1) := by decide +kernel
theorem dX11_side_61 : decode cX11_side 61 = .ok (.getfield 7, 3) := by decide +kernel
theorem dX11_side_64 : decode cX11_side 64 = .ok (.iconst 1, 1) := by decide +kernel
theorem dX11_side_65 : decode cX11_side 65 = .ok (.iload_n 1, 1) := by decide +kernel
theorem dX11_side_66 : decode cX11_side 66 = .ok (.iadd, 1) := by decide +kernel
theorem dX11_side_67 : decode cX11_side 67 = .ok (.iaload, 1) := by decide +kernel
theorem dX11_side_68 : decode cX11_side 68 = .ok (.ireturn, 1) := by decide +kernel
theorem dX11_side_69 : decode cX11_side 69 = .ok (.aload_n 0, 1) := by decide +kernel
theorem dX11_side_70 : decode cX11_side 70 = .ok (.iload_n 1, 1) := by decide +kernel
theorem dX11_side_71 : decode cX11_side 71 = .ok (.iconst 0, 1) := by decide +kernel
theorem dX11_side_72 : decode cX11_side 72 = .ok (.invokevirtual 362, 3) := by decide +kernel
theorem dX11_side_75 : decode cX11_side 75 = .ok (.ireturn, 1) := by decide +kernel
theorem dX11_side_76 : decode cX11_side 76 = .ok (.aload_n 0, 1) := by decide +kernel
theorem dX11_side_77 : decode cX11_side 77 = .ok (.iload_n 1, 1) := by decide +kernel
theorem dX11_side_78 : decode cX11_side 78 = .ok (.iconst 1, 1) := by decide +kernel
theorem dX11_side_79 : decode cX11_side 79 = .ok (.invokevirtual 362, 3) := by decide +kernel
theorem dX11_side_82 : decode cX11_side 82 = .ok (.ireturn, 1) := by decide +kernel
theorem dX11_side_83 : decode cX11_side 83 = .ok (.aload_n 0, 1) := by decide +kernel
theorem dX11_side_84 : decode cX11_side 84 = .ok (.iload_n 1, 1) := by decide +kernel
theorem dX11_side_85 : decode cX11_side 85 = .ok (.invokevirtual 359, 3) := by decide +kernel
theorem dX11_side_88 : decode cX11_side 88 = .ok (.ifCond .eq 7, 3) := by decide +kernel
theorem dX11_side_91 : decode cX11_side 91 = .ok (.iconst 1, 1) := by decide +kernel
theorem dX11_side_92 : decode cX11_side 92 = .ok (.goto 4, 3) := by decide +kernel
theorem dX11_side_95 : decode cX11_side 95 = .ok (.iconst 0, 1) := by decide +kernel
theorem dX11_side_96 : decode cX11_side 96 = .ok (.ireturn, 1) := by decide +kernel
theorem dX11_side_97 : decode cX11_side 97 = .ok (.aload_n 0, 1) := by decide +kernel
theorem dX11_side_98 : decode cX11_side 98 = .ok (.iload_n 1, 1) := by decide +kernel
theorem dX11_side_99 : decode cX11_side 99 = .ok (.invokevirtual 366, 3) := by decide +kernel
theorem dX11_side_102 : decode cX11_side 102 = .ok (.ireturn, 1) := by decide +kernel
def pg_X11_side (l : Launch) (g : EG) : List (Nat × ES) := [(0, s_ldP 0), (1, s_ldI 1), (2, s_callS l g sg_X11_side sg_X11_isSide), (5, s_if_eq 21), (8, s_ldI 2), (9, s_c (.inl 0)), (10, s_c (.inl 4)), (11, s_callS l g sg_X11_side sg_X11_in), (14, s_if_eq 21), (17, s_c (.inl 0)), (18, s_goto 22), (21, s_c (.inl 1)), (22, s_callV l g sg_X11_side sg_X11_isRefused 10), (25, s_if_eq 30), (28, s_c (.inl 0)), (29, s_ireti), (30, s_ldI 2), (31, s_tab 0 [60, 69, 76, 83] 97), (60, s_ldP 0), (61, s_getP 10 2), (64, s_c (.inl 1)), (65, s_ldI 1), (66, s_ii (fun x y => x + y)), (67, s_iald), (68, s_ireti), (69, s_ldP 0), (70, s_ldI 1), (71, s_c (.inl 0)), (72, s_callV l g sg_X11_side sg_X11_changedOf 10), (75, s_ireti), (76, s_ldP 0), (77, s_ldI 1), (78, s_c (.inl 1)), (79, s_callV l g sg_X11_side sg_X11_changedOf 10), (82, s_ireti), (83, s_ldP 0), (84, s_ldI 1), (85, s_callV l g sg_X11_side sg_X11_isTooOld 10), (88, s_if_eq 95), (91, s_c (.inl 1)), (92, s_goto 96), (95, s_c (.inl 0)), (96, s_ireti), (97, s_ldP 0), (98, s_ldI 1), (99, s_callV l g sg_X11_side sg_X11_toldTo 10), (102, s_ireti)]
set_option maxRecDepth 100000 in
theorem ok_X11_side {l : Launch} {g : EG} : e_okp l g sg_X11_side "CalendarSyncModel" (pg_X11_side l g) := fun p e R s m args below meth c ex M0 Q X =>
    e_each_cons (r_aload_n X (k := 0) (i := 0) rfl dX11_side_0 rfl)
    (e_each_cons (r_iload_n X (k := 1) (i := 1) rfl dX11_side_1 rfl)
    (e_each_cons (r_callS X rfl (τ := sg_X11_isSide) (index := 306) dX11_side_2 w7_140 w7_141 cs_X11_isSide rfl ⟨by decide, by decide⟩ rfl)
    (e_each_cons (r_if_eq X (off := 16) (t := 21) dX11_side_5 (by decide) rfl)
    (e_each_cons (r_iload_n X (k := 2) (i := 2) rfl dX11_side_8 rfl)
    (e_each_cons (r_iconst X (n := 0) (v := 0) dX11_side_9 (by decide) rfl)
    (e_each_cons (r_iconst X (n := 4) (v := 4) dX11_side_10 (by decide) rfl)
    (e_each_cons (r_callS X rfl (τ := sg_X11_in) (index := 75) dX11_side_11 w6_127 w6_128 cs_X11_in rfl ⟨by decide, by decide⟩ rfl)
    (e_each_cons (r_if_eq X (off := 7) (t := 21) dX11_side_14 (by decide) rfl)
    (e_each_cons (r_iconst X (n := 0) (v := 0) dX11_side_17 (by decide) rfl)
    (e_each_cons (r_goto X (off := 4) (t := 22) dX11_side_18 (by decide))
    (e_each_cons (r_iconst X (n := 1) (v := 1) dX11_side_21 (by decide) rfl)
    (e_each_cons (r_callV X rfl (τ := sg_X11_isRefused) (index := 71) (ci := 10) dX11_side_22 (by decide) rfl w6_119 w6_121 ws_31 cs_X11_isRefused rfl ⟨by decide, by decide⟩ rfl)
    (e_each_cons (r_if_eq X (off := 5) (t := 30) dX11_side_25 (by decide) rfl)
    (e_each_cons (r_iconst X (n := 0) (v := 0) dX11_side_28 (by decide) rfl)
    (e_each_cons (r_ireti X dX11_side_29 rfl)
    (e_each_cons (r_iload_n X (k := 2) (i := 2) rfl dX11_side_30 rfl)
    (e_each_cons (r_tab X (dflt := 66) (lo := 0) (hi := 3) (ts := [60, 69, 76, 83]) (dt := 97) dX11_side_31 (by decide) (by decide) (by decide))
    (e_each_cons (r_aload_n X (k := 0) (i := 0) rfl dX11_side_60 rfl)
    (e_each_cons (r_getP X (index := 7) (ci := 10) (k := 2) dX11_side_61 (by decide) (by decide) rfl w6_28 rfl)
    (e_each_cons (r_iconst X (n := 1) (v := 1) dX11_side_64 (by decide) rfl)
    (e_each_cons (r_iload_n X (k := 1) (i := 1) rfl dX11_side_65 rfl)
    (e_each_cons (r_iadd X dX11_side_66 rfl)
    (e_each_cons (r_iald X dX11_side_67 rfl)
    (e_each_cons (r_ireti X dX11_side_68 rfl)
    (e_each_cons (r_aload_n X (k := 0) (i := 0) rfl dX11_side_69 rfl)
    (e_each_cons (r_iload_n X (k := 1) (i := 1) rfl dX11_side_70 rfl)
    (e_each_cons (r_iconst X (n := 0) (v := 0) dX11_side_71 (by decide) rfl)
    (e_each_cons (r_callV X rfl (τ := sg_X11_changedOf) (index := 362) (ci := 10) dX11_side_72 (by decide) rfl w7_228 w7_230 ws_77 cs_X11_changedOf rfl ⟨by decide, by decide⟩ rfl)
    (e_each_cons (r_ireti X dX11_side_75 rfl)
    (e_each_cons (r_aload_n X (k := 0) (i := 0) rfl dX11_side_76 rfl)
    (e_each_cons (r_iload_n X (k := 1) (i := 1) rfl dX11_side_77 rfl)
    (e_each_cons (r_iconst X (n := 1) (v := 1) dX11_side_78 (by decide) rfl)
    (e_each_cons (r_callV X rfl (τ := sg_X11_changedOf) (index := 362) (ci := 10) dX11_side_79 (by decide) rfl w7_228 w7_230 ws_77 cs_X11_changedOf rfl ⟨by decide, by decide⟩ rfl)
    (e_each_cons (r_ireti X dX11_side_82 rfl)
    (e_each_cons (r_aload_n X (k := 0) (i := 0) rfl dX11_side_83 rfl)
    (e_each_cons (r_iload_n X (k := 1) (i := 1) rfl dX11_side_84 rfl)
    (e_each_cons (r_callV X rfl (τ := sg_X11_isTooOld) (index := 359) (ci := 10) dX11_side_85 (by decide) rfl w7_236 w7_238 ws_79 cs_X11_isTooOld rfl ⟨by decide, by decide⟩ rfl)
    (e_each_cons (r_if_eq X (off := 7) (t := 95) dX11_side_88 (by decide) rfl)
    (e_each_cons (r_iconst X (n := 1) (v := 1) dX11_side_91 (by decide) rfl)
    (e_each_cons (r_goto X (off := 4) (t := 96) dX11_side_92 (by decide))
    (e_each_cons (r_iconst X (n := 0) (v := 0) dX11_side_95 (by decide) rfl)
    (e_each_cons (r_ireti X dX11_side_96 rfl)
    (e_each_cons (r_aload_n X (k := 0) (i := 0) rfl dX11_side_97 rfl)
    (e_each_cons (r_iload_n X (k := 1) (i := 1) rfl dX11_side_98 rfl)
    (e_each_cons (r_callV X rfl (τ := sg_X11_toldTo) (index := 366) (ci := 10) dX11_side_99 (by decide) rfl w8_0 w8_2 ws_80 cs_X11_toldTo rfl ⟨by decide, by decide⟩ rfl)
    (e_each_cons (r_ireti X dX11_side_102 rfl)
    (e_each_nil)))))))))))))))))))))))))))))))))))))))))))))))
theorem dX11_account_0 : decode cX11_account 0 = .ok (.aload_n 0, 1) := by decide +kernel
theorem dX11_account_1 : decode cX11_account 1 = .ok (.iload_n 1, 1) := by decide +kernel
theorem dX11_account_2 : decode cX11_account 2 = .ok (.invokestatic 306, 3) := by decide +kernel
theorem dX11_account_5 : decode cX11_account 5 = .ok (.ifCond .eq 16, 3) := by decide +kernel
theorem dX11_account_8 : decode cX11_account 8 = .ok (.iload_n 2, 1) := by decide +kernel
theorem dX11_account_9 : decode cX11_account 9 = .ok (.iconst 0, 1) := by decide +kernel
theorem dX11_account_10 : decode cX11_account 10 = .ok (.iconst 5, 1) := by decide +kernel
theorem dX11_account_11 : decode cX11_account 11 = .ok (.invokestatic 75, 3) := by decide +kernel
theorem dX11_account_14 : decode cX11_account 14 = .ok (.ifCond .eq 7, 3) := by decide +kernel
theorem dX11_account_17 : decode cX11_account 17 = .ok (.iconst 0, 1) := by decide +kernel
theorem dX11_account_18 : decode cX11_account 18 = .ok (.goto 4, 3) := by decide +kernel
theorem dX11_account_21 : decode cX11_account 21 = .ok (.iconst 1, 1) := by decide +kernel
theorem dX11_account_22 : decode cX11_account 22 = .ok (.invokevirtual 71, 3) := by decide +kernel
theorem dX11_account_25 : decode cX11_account 25 = .ok (.ifCond .eq 5, 3) := by decide +kernel
theorem dX11_account_28 : decode cX11_account 28 = .ok (.iconst 0, 1) := by decide +kernel
theorem dX11_account_29 : decode cX11_account 29 = .ok (.ireturn, 1) := by decide +kernel
theorem dX11_account_30 : decode cX11_account 30 = .ok (.aload_n 0, 1) := by decide +kernel
theorem dX11_account_31 : decode cX11_account 31 = .ok (.getfield 7, 3) := by decide +kernel
theorem dX11_account_34 : decode cX11_account 34 = .ok (.iconst 3, 1) := by decide +kernel
theorem dX11_account_35 : decode cX11_account 35 = .ok (.bipush 6, 2) := by decide +kernel
theorem dX11_account_37 : decode cX11_account 37 = .ok (.iload_n 1, 1) := by decide +kernel
theorem dX11_account_38 : decode cX11_account 38 = .ok (.imul, 1) := by decide +kernel
theorem dX11_account_39 : decode cX11_account 39 = .ok (.iadd, 1) := by decide +kernel
theorem dX11_account_40 : decode cX11_account 40 = .ok (.iload_n 2, 1) := by decide +kernel
theorem dX11_account_41 : decode cX11_account 41 = .ok (.iadd, 1) := by decide +kernel
theorem dX11_account_42 : decode cX11_account 42 = .ok (.iaload, 1) := by decide +kernel
theorem dX11_account_43 : decode cX11_account 43 = .ok (.ireturn, 1) := by decide +kernel
def pg_X11_account (l : Launch) (g : EG) : List (Nat × ES) := [(0, s_ldP 0), (1, s_ldI 1), (2, s_callS l g sg_X11_account sg_X11_isSide), (5, s_if_eq 21), (8, s_ldI 2), (9, s_c (.inl 0)), (10, s_c (.inl 5)), (11, s_callS l g sg_X11_account sg_X11_in), (14, s_if_eq 21), (17, s_c (.inl 0)), (18, s_goto 22), (21, s_c (.inl 1)), (22, s_callV l g sg_X11_account sg_X11_isRefused 10), (25, s_if_eq 30), (28, s_c (.inl 0)), (29, s_ireti), (30, s_ldP 0), (31, s_getP 10 2), (34, s_c (.inl 3)), (35, s_c (.inl 6)), (37, s_ldI 1), (38, s_ii (fun x y => x * y)), (39, s_ii (fun x y => x + y)), (40, s_ldI 2), (41, s_ii (fun x y => x + y)), (42, s_iald), (43, s_ireti)]
set_option maxRecDepth 100000 in
theorem ok_X11_account {l : Launch} {g : EG} : e_okp l g sg_X11_account "CalendarSyncModel" (pg_X11_account l g) := fun p e R s m args below meth c ex M0 Q X =>
    e_each_cons (r_aload_n X (k := 0) (i := 0) rfl dX11_account_0 rfl)
    (e_each_cons (r_iload_n X (k := 1) (i := 1) rfl dX11_account_1 rfl)
    (e_each_cons (r_callS X rfl (τ := sg_X11_isSide) (index := 306) dX11_account_2 w7_140 w7_141 cs_X11_isSide rfl ⟨by decide, by decide⟩ rfl)
    (e_each_cons (r_if_eq X (off := 16) (t := 21) dX11_account_5 (by decide) rfl)
    (e_each_cons (r_iload_n X (k := 2) (i := 2) rfl dX11_account_8 rfl)
    (e_each_cons (r_iconst X (n := 0) (v := 0) dX11_account_9 (by decide) rfl)
    (e_each_cons (r_iconst X (n := 5) (v := 5) dX11_account_10 (by decide) rfl)
    (e_each_cons (r_callS X rfl (τ := sg_X11_in) (index := 75) dX11_account_11 w6_127 w6_128 cs_X11_in rfl ⟨by decide, by decide⟩ rfl)
    (e_each_cons (r_if_eq X (off := 7) (t := 21) dX11_account_14 (by decide) rfl)
    (e_each_cons (r_iconst X (n := 0) (v := 0) dX11_account_17 (by decide) rfl)
    (e_each_cons (r_goto X (off := 4) (t := 22) dX11_account_18 (by decide))
    (e_each_cons (r_iconst X (n := 1) (v := 1) dX11_account_21 (by decide) rfl)
    (e_each_cons (r_callV X rfl (τ := sg_X11_isRefused) (index := 71) (ci := 10) dX11_account_22 (by decide) rfl w6_119 w6_121 ws_31 cs_X11_isRefused rfl ⟨by decide, by decide⟩ rfl)
    (e_each_cons (r_if_eq X (off := 5) (t := 30) dX11_account_25 (by decide) rfl)
    (e_each_cons (r_iconst X (n := 0) (v := 0) dX11_account_28 (by decide) rfl)
    (e_each_cons (r_ireti X dX11_account_29 rfl)
    (e_each_cons (r_aload_n X (k := 0) (i := 0) rfl dX11_account_30 rfl)
    (e_each_cons (r_getP X (index := 7) (ci := 10) (k := 2) dX11_account_31 (by decide) (by decide) rfl w6_28 rfl)
    (e_each_cons (r_iconst X (n := 3) (v := 3) dX11_account_34 (by decide) rfl)
    (e_each_cons (r_bipush X (n := 6) (v := 6) dX11_account_35 (by decide) rfl)
    (e_each_cons (r_iload_n X (k := 1) (i := 1) rfl dX11_account_37 rfl)
    (e_each_cons (r_imul X dX11_account_38 rfl)
    (e_each_cons (r_iadd X dX11_account_39 rfl)
    (e_each_cons (r_iload_n X (k := 2) (i := 2) rfl dX11_account_40 rfl)
    (e_each_cons (r_iadd X dX11_account_41 rfl)
    (e_each_cons (r_iald X dX11_account_42 rfl)
    (e_each_cons (r_ireti X dX11_account_43 rfl)
    (e_each_nil)))))))))))))))))))))))))))
theorem dX11_counts_0 : decode cX11_counts 0 = .ok (.iconst 3, 1) := by decide +kernel
theorem dX11_counts_1 : decode cX11_counts 1 = .ok (.bipush 6, 2) := by decide +kernel
theorem dX11_counts_3 : decode cX11_counts 3 = .ok (.iload_n 1, 1) := by decide +kernel
theorem dX11_counts_4 : decode cX11_counts 4 = .ok (.imul, 1) := by decide +kernel
theorem dX11_counts_5 : decode cX11_counts 5 = .ok (.iadd, 1) := by decide +kernel
theorem dX11_counts_6 : decode cX11_counts 6 = .ok (.iload_n 2, 1) := by decide +kernel
theorem dX11_counts_7 : decode cX11_counts 7 = .ok (.iadd, 1) := by decide +kernel
theorem dX11_counts_8 : decode cX11_counts 8 = .ok (.istore 4, 2) := by decide +kernel
theorem dX11_counts_10 : decode cX11_counts 10 = .ok (.aload_n 0, 1) := by decide +kernel
theorem dX11_counts_11 : decode cX11_counts 11 = .ok (.getfield 7, 3) := by decide +kernel
theorem dX11_counts_14 : decode cX11_counts 14 = .ok (.iload 4, 2) := by decide +kernel
theorem dX11_counts_16 : decode cX11_counts 16 = .ok (.aload_n 0, 1) := by decide +kernel
theorem dX11_counts_17 : decode cX11_counts 17 = .ok (.getfield 7, 3) := by decide +kernel
theorem dX11_counts_20 : decode cX11_counts 20 = .ok (.iload 4, 2) := by decide +kernel
theorem dX11_counts_22 : decode cX11_counts 22 = .ok (.iaload, 1) := by decide +kernel
theorem dX11_counts_23 : decode cX11_counts 23 = .ok (.iload_n 3, 1) := by decide +kernel
theorem dX11_counts_24 : decode cX11_counts 24 = .ok (.iadd, 1) := by decide +kernel
theorem dX11_counts_25 : decode cX11_counts 25 = .ok (.iastore, 1) := by decide +kernel
theorem dX11_counts_26 : decode cX11_counts 26 = .ok (.return_, 1) := by decide +kernel
def pg_X11_counts (l : Launch) (g : EG) : List (Nat × ES) := [(0, s_c (.inl 3)), (1, s_c (.inl 6)), (3, s_ldI 1), (4, s_ii (fun x y => x * y)), (5, s_ii (fun x y => x + y)), (6, s_ldI 2), (7, s_ii (fun x y => x + y)), (8, s_stI 4), (10, s_ldP 0), (11, s_getP 10 2), (14, s_ldI 4), (16, s_ldP 0), (17, s_getP 10 2), (20, s_ldI 4), (22, s_iald), (23, s_ldI 3), (24, s_ii (fun x y => x + y)), (25, s_iast), (26, s_vret)]
set_option maxRecDepth 100000 in
theorem ok_X11_counts {l : Launch} {g : EG} : e_okp l g sg_X11_counts "CalendarSyncModel" (pg_X11_counts l g) := fun p e R s m args below meth c ex M0 Q X =>
    e_each_cons (r_iconst X (n := 3) (v := 3) dX11_counts_0 (by decide) rfl)
    (e_each_cons (r_bipush X (n := 6) (v := 6) dX11_counts_1 (by decide) rfl)
    (e_each_cons (r_iload_n X (k := 1) (i := 1) rfl dX11_counts_3 rfl)
    (e_each_cons (r_imul X dX11_counts_4 rfl)
    (e_each_cons (r_iadd X dX11_counts_5 rfl)
    (e_each_cons (r_iload_n X (k := 2) (i := 2) rfl dX11_counts_6 rfl)
    (e_each_cons (r_iadd X dX11_counts_7 rfl)
    (e_each_cons (r_istore X (i := 4) dX11_counts_8 (by decide) rfl)
    (e_each_cons (r_aload_n X (k := 0) (i := 0) rfl dX11_counts_10 rfl)
    (e_each_cons (r_getP X (index := 7) (ci := 10) (k := 2) dX11_counts_11 (by decide) (by decide) rfl w6_28 rfl)
    (e_each_cons (r_iload X (i := 4) dX11_counts_14 rfl)
    (e_each_cons (r_aload_n X (k := 0) (i := 0) rfl dX11_counts_16 rfl)
    (e_each_cons (r_getP X (index := 7) (ci := 10) (k := 2) dX11_counts_17 (by decide) (by decide) rfl w6_28 rfl)
    (e_each_cons (r_iload X (i := 4) dX11_counts_20 rfl)
    (e_each_cons (r_iald X dX11_counts_22 rfl)
    (e_each_cons (r_iload_n X (k := 3) (i := 3) rfl dX11_counts_23 rfl)
    (e_each_cons (r_iadd X dX11_counts_24 rfl)
    (e_each_cons (r_iast X dX11_counts_25 rfl)
    (e_each_cons (r_vret X dX11_counts_26 rfl)
    (e_each_nil)))))))))))))))))))
theorem dX11_clearsDates_0 : decode cX11_clearsDates 0 = .ok (.aload_n 0, 1) := by decide +kernel
theorem dX11_clearsDates_1 : decode cX11_clearsDates 1 = .ok (.getfield 7, 3) := by decide +kernel
theorem dX11_clearsDates_4 : decode cX11_clearsDates 4 = .ok (.iload_n 1, 1) := by decide +kernel
theorem dX11_clearsDates_5 : decode cX11_clearsDates 5 = .ok (.bipush 12, 2) := by decide +kernel
theorem dX11_clearsDates_7 : decode cX11_clearsDates 7 = .ok (.iadd, 1) := by decide +kernel
theorem dX11_clearsDates_8 : decode cX11_clearsDates 8 = .ok (.iconst 0, 1) := by decide +kernel
theorem dX11_clearsDates_9 : decode cX11_clearsDates 9 = .ok (.iastore, 1) := by decide +kernel
theorem dX11_clearsDates_10 : decode cX11_clearsDates 10 = .ok (.aload_n 0, 1) := by decide +kernel
theorem dX11_clearsDates_11 : decode cX11_clearsDates 11 = .ok (.getfield 7, 3) := by decide +kernel
theorem dX11_clearsDates_14 : decode cX11_clearsDates 14 = .ok (.iload_n 1, 1) := by decide +kernel
theorem dX11_clearsDates_15 : decode cX11_clearsDates 15 = .ok (.bipush 13, 2) := by decide +kernel
theorem dX11_clearsDates_17 : decode cX11_clearsDates 17 = .ok (.iadd, 1) := by decide +kernel
theorem dX11_clearsDates_18 : decode cX11_clearsDates 18 = .ok (.iconst 0, 1) := by decide +kernel
theorem dX11_clearsDates_19 : decode cX11_clearsDates 19 = .ok (.iastore, 1) := by decide +kernel
theorem dX11_clearsDates_20 : decode cX11_clearsDates 20 = .ok (.bipush 16, 2) := by decide +kernel
theorem dX11_clearsDates_22 : decode cX11_clearsDates 22 = .ok (.istore_n 2, 1) := by decide +kernel
theorem dX11_clearsDates_23 : decode cX11_clearsDates 23 = .ok (.iload_n 2, 1) := by decide +kernel
theorem dX11_clearsDates_24 : decode cX11_clearsDates 24 = .ok (.sipush 136, 3) := by decide +kernel
theorem dX11_clearsDates_27 : decode cX11_clearsDates 27 = .ok (.if_icmp .ge 18, 3) := by decide +kernel
theorem dX11_clearsDates_30 : decode cX11_clearsDates 30 = .ok (.aload_n 0, 1) := by decide +kernel
theorem dX11_clearsDates_31 : decode cX11_clearsDates 31 = .ok (.getfield 7, 3) := by decide +kernel
theorem dX11_clearsDates_34 : decode cX11_clearsDates 34 = .ok (.iload_n 1, 1) := by decide +kernel
theorem dX11_clearsDates_35 : decode cX11_clearsDates 35 = .ok (.iload_n 2, 1) := by decide +kernel
theorem dX11_clearsDates_36 : decode cX11_clearsDates 36 = .ok (.iadd, 1) := by decide +kernel
theorem dX11_clearsDates_37 : decode cX11_clearsDates 37 = .ok (.iconst 0, 1) := by decide +kernel
theorem dX11_clearsDates_38 : decode cX11_clearsDates 38 = .ok (.iastore, 1) := by decide +kernel
theorem dX11_clearsDates_39 : decode cX11_clearsDates 39 = .ok (.iinc 2 1, 3) := by decide +kernel
theorem dX11_clearsDates_42 : decode cX11_clearsDates 42 = .ok (.goto (-19), 3) := by decide +kernel
theorem dX11_clearsDates_45 : decode cX11_clearsDates 45 = .ok (.return_, 1) := by decide +kernel
def pg_X11_clearsDates (l : Launch) (g : EG) : List (Nat × ES) := [(0, s_ldP 0), (1, s_getP 10 2), (4, s_ldI 1), (5, s_c (.inl 12)), (7, s_ii (fun x y => x + y)), (8, s_c (.inl 0)), (9, s_iast), (10, s_ldP 0), (11, s_getP 10 2), (14, s_ldI 1), (15, s_c (.inl 13)), (17, s_ii (fun x y => x + y)), (18, s_c (.inl 0)), (19, s_iast), (20, s_c (.inl 16)), (22, s_stI 2), (23, s_ldI 2), (24, s_c (.inl 136)), (27, s_icmp_ge 45), (30, s_ldP 0), (31, s_getP 10 2), (34, s_ldI 1), (35, s_ldI 2), (36, s_ii (fun x y => x + y)), (37, s_c (.inl 0)), (38, s_iast), (39, s_iinc 2 1), (42, s_goto 23), (45, s_vret)]
set_option maxRecDepth 100000 in
theorem ok_X11_clearsDates {l : Launch} {g : EG} : e_okp l g sg_X11_clearsDates "CalendarSyncModel" (pg_X11_clearsDates l g) := fun p e R s m args below meth c ex M0 Q X =>
    e_each_cons (r_aload_n X (k := 0) (i := 0) rfl dX11_clearsDates_0 rfl)
    (e_each_cons (r_getP X (index := 7) (ci := 10) (k := 2) dX11_clearsDates_1 (by decide) (by decide) rfl w6_28 rfl)
    (e_each_cons (r_iload_n X (k := 1) (i := 1) rfl dX11_clearsDates_4 rfl)
    (e_each_cons (r_bipush X (n := 12) (v := 12) dX11_clearsDates_5 (by decide) rfl)
    (e_each_cons (r_iadd X dX11_clearsDates_7 rfl)
    (e_each_cons (r_iconst X (n := 0) (v := 0) dX11_clearsDates_8 (by decide) rfl)
    (e_each_cons (r_iast X dX11_clearsDates_9 rfl)
    (e_each_cons (r_aload_n X (k := 0) (i := 0) rfl dX11_clearsDates_10 rfl)
    (e_each_cons (r_getP X (index := 7) (ci := 10) (k := 2) dX11_clearsDates_11 (by decide) (by decide) rfl w6_28 rfl)
    (e_each_cons (r_iload_n X (k := 1) (i := 1) rfl dX11_clearsDates_14 rfl)
    (e_each_cons (r_bipush X (n := 13) (v := 13) dX11_clearsDates_15 (by decide) rfl)
    (e_each_cons (r_iadd X dX11_clearsDates_17 rfl)
    (e_each_cons (r_iconst X (n := 0) (v := 0) dX11_clearsDates_18 (by decide) rfl)
    (e_each_cons (r_iast X dX11_clearsDates_19 rfl)
    (e_each_cons (r_bipush X (n := 16) (v := 16) dX11_clearsDates_20 (by decide) rfl)
    (e_each_cons (r_istore_n X (k := 2) (i := 2) rfl dX11_clearsDates_22 (by decide) rfl)
    (e_each_cons (r_iload_n X (k := 2) (i := 2) rfl dX11_clearsDates_23 rfl)
    (e_each_cons (r_sipush X (n := 136) (v := 136) dX11_clearsDates_24 (by decide) rfl)
    (e_each_cons (r_icmp_ge X (off := 18) (t := 45) dX11_clearsDates_27 (by decide) rfl)
    (e_each_cons (r_aload_n X (k := 0) (i := 0) rfl dX11_clearsDates_30 rfl)
    (e_each_cons (r_getP X (index := 7) (ci := 10) (k := 2) dX11_clearsDates_31 (by decide) (by decide) rfl w6_28 rfl)
    (e_each_cons (r_iload_n X (k := 1) (i := 1) rfl dX11_clearsDates_34 rfl)
    (e_each_cons (r_iload_n X (k := 2) (i := 2) rfl dX11_clearsDates_35 rfl)
    (e_each_cons (r_iadd X dX11_clearsDates_36 rfl)
    (e_each_cons (r_iconst X (n := 0) (v := 0) dX11_clearsDates_37 (by decide) rfl)
    (e_each_cons (r_iast X dX11_clearsDates_38 rfl)
    (e_each_cons (r_iinc X (i := 2) (n := 1) (d := 1) dX11_clearsDates_39 (by decide) (by decide) rfl)
    (e_each_cons (r_goto X (off := (-19)) (t := 23) dX11_clearsDates_42 (by decide))
    (e_each_cons (r_vret X dX11_clearsDates_45 rfl)
    (e_each_nil)))))))))))))))))))))))))))))
theorem dX11_isEvent_0 : decode cX11_isEvent 0 = .ok (.iload_n 0, 1) := by decide +kernel
theorem dX11_isEvent_1 : decode cX11_isEvent 1 = .ok (.iconst 0, 1) := by decide +kernel
theorem dX11_isEvent_2 : decode cX11_isEvent 2 = .ok (.bipush 7, 2) := by decide +kernel
theorem dX11_isEvent_4 : decode cX11_isEvent 4 = .ok (.invokestatic 75, 3) := by decide +kernel
theorem dX11_isEvent_7 : decode cX11_isEvent 7 = .ok (.ireturn, 1) := by decide +kernel
def pg_X11_isEvent (l : Launch) (g : EG) : List (Nat × ES) := [(0, s_ldI 0), (1, s_c (.inl 0)), (2, s_c (.inl 7)), (4, s_callS l g sg_X11_isEvent sg_X11_in), (7, s_iretz)]
set_option maxRecDepth 100000 in
theorem ok_X11_isEvent {l : Launch} {g : EG} : e_okp l g sg_X11_isEvent "CalendarSyncModel" (pg_X11_isEvent l g) := fun p e R s m args below meth c ex M0 Q X =>
    e_each_cons (r_iload_n X (k := 0) (i := 0) rfl dX11_isEvent_0 rfl)
    (e_each_cons (r_iconst X (n := 0) (v := 0) dX11_isEvent_1 (by decide) rfl)
    (e_each_cons (r_bipush X (n := 7) (v := 7) dX11_isEvent_2 (by decide) rfl)
    (e_each_cons (r_callS X rfl (τ := sg_X11_in) (index := 75) dX11_isEvent_4 w6_127 w6_128 cs_X11_in rfl ⟨by decide, by decide⟩ rfl)
    (e_each_cons (r_iretz X dX11_isEvent_7 rfl)
    (e_each_nil)))))
theorem dX11_wrongNew_0 : decode cX11_wrongNew 0 = .ok (.iload_n 1, 1) := by decide +kernel
theorem dX11_wrongNew_1 : decode cX11_wrongNew 1 = .ok (.invokestatic 306, 3) := by decide +kernel
theorem dX11_wrongNew_4 : decode cX11_wrongNew 4 = .ok (.ifCond .eq 41, 3) := by decide +kernel
theorem dX11_wrongNew_7 : decode cX11_wrongNew 7 = .ok (.iload_n 2, 1) := by decide +kernel
theorem dX11_wrongNew_8 : decode cX11_wrongNew 8 = .ok (.invokestatic 369, 3) := by decide +kernel
theorem dX11_wrongNew_11 : decode cX11_wrongNew 11 = .ok (.ifCond .eq 34, 3) := by decide +kernel
theorem dX11_wrongNew_14 : decode cX11_wrongNew 14 = .ok (.iload_n 3, 1) := by decide +kernel
theorem dX11_wrongNew_15 : decode cX11_wrongNew 15 = .ok (.invokestatic 89, 3) := by decide +kernel
theorem dX11_wrongNew_18 : decode cX11_wrongNew 18 = .ok (.ifCond .eq 27, 3) := by decide +kernel
theorem dX11_wrongNew_21 : decode cX11_wrongNew 21 = .ok (.iload 4, 2) := by decide +kernel
theorem dX11_wrongNew_23 : decode cX11_wrongNew 23 = .ok (.invokestatic 271, 3) := by decide +kernel
theorem dX11_wrongNew_26 : decode cX11_wrongNew 26 = .ok (.ifCond .eq 19, 3) := by decide +kernel
theorem dX11_wrongNew_29 : decode cX11_wrongNew 29 = .ok (.iload 5, 2) := by decide +kernel
theorem dX11_wrongNew_31 : decode cX11_wrongNew 31 = .ok (.iconst 1, 1) := by decide +kernel
theorem dX11_wrongNew_32 : decode cX11_wrongNew 32 = .ok (.sipush 1440, 3) := by decide +kernel
theorem dX11_wrongNew_35 : decode cX11_wrongNew 35 = .ok (.invokestatic 75, 3) := by decide +kernel
theorem dX11_wrongNew_38 : decode cX11_wrongNew 38 = .ok (.ifCond .eq 7, 3) := by decide +kernel
theorem dX11_wrongNew_41 : decode cX11_wrongNew 41 = .ok (.iconst 1, 1) := by decide +kernel
theorem dX11_wrongNew_42 : decode cX11_wrongNew 42 = .ok (.goto 4, 3) := by decide +kernel
theorem dX11_wrongNew_45 : decode cX11_wrongNew 45 = .ok (.iconst 0, 1) := by decide +kernel
theorem dX11_wrongNew_46 : decode cX11_wrongNew 46 = .ok (.istore 7, 2) := by decide +kernel
theorem dX11_wrongNew_48 : decode cX11_wrongNew 48 = .ok (.iload 7, 2) := by decide +kernel
theorem dX11_wrongNew_50 : decode cX11_wrongNew 50 = .ok (.ifCond .ne 5, 3) := by decide +kernel
theorem dX11_wrongNew_53 : decode cX11_wrongNew 53 = .ok (.iconst 1, 1) := by decide +kernel
theorem dX11_wrongNew_54 : decode cX11_wrongNew 54 = .ok (.ireturn, 1) := by decide +kernel
theorem dX11_wrongNew_55 : decode cX11_wrongNew 55 = .ok (.aload_n 0, 1) := by decide +kernel
theorem dX11_wrongNew_56 : decode cX11_wrongNew 56 = .ok (.iload 6, 2) := by decide +kernel
theorem dX11_wrongNew_58 : decode cX11_wrongNew 58 = .ok (.invokevirtual 268, 3) := by decide +kernel
theorem dX11_wrongNew_61 : decode cX11_wrongNew 61 = .ok (.ifCond .ne 7, 3) := by decide +kernel
theorem dX11_wrongNew_64 : decode cX11_wrongNew 64 = .ok (.iconst 2, 1) := by decide +kernel
theorem dX11_wrongNew_65 : decode cX11_wrongNew 65 = .ok (.goto 17, 3) := by decide +kernel
theorem dX11_wrongNew_68 : decode cX11_wrongNew 68 = .ok (.aload_n 0, 1) := by decide +kernel
theorem dX11_wrongNew_69 : decode cX11_wrongNew 69 = .ok (.iload_n 1, 1) := by decide +kernel
theorem dX11_wrongNew_70 : decode cX11_wrongNew 70 = .ok (.iload_n 2, 1) := by decide +kernel
theorem dX11_wrongNew_71 : decode cX11_wrongNew 71 = .ok (.invokevirtual 281, 3) := by decide +kernel
theorem dX11_wrongNew_74 : decode cX11_wrongNew 74 = .ok (.ifCond .eq 7, 3) := by decide +kernel
theorem dX11_wrongNew_77 : decode cX11_wrongNew 77 = .ok (.iconst 3, 1) := by decide +kernel
theorem dX11_wrongNew_78 : decode cX11_wrongNew 78 = .ok (.goto 4, 3) := by decide +kernel
theorem dX11_wrongNew_81 : decode cX11_wrongNew 81 = .ok (.iconst 0, 1) := by decide +kernel
theorem dX11_wrongNew_82 : decode cX11_wrongNew 82 = .ok (.ireturn, 1) := by decide +kernel
def pg_X11_wrongNew (l : Launch) (g : EG) : List (Nat × ES) := [(0, s_ldI 1), (1, s_callS l g sg_X11_wrongNew sg_X11_isSide), (4, s_if_eq 45), (7, s_ldI 2), (8, s_callS l g sg_X11_wrongNew sg_X11_isEvent), (11, s_if_eq 45), (14, s_ldI 3), (15, s_callS l g sg_X11_wrongNew sg_X11_isDay), (18, s_if_eq 45), (21, s_ldI 4), (23, s_callS l g sg_X11_wrongNew sg_X11_isMinute), (26, s_if_eq 45), (29, s_ldI 5), (31, s_c (.inl 1)), (32, s_c (.inl 1440)), (35, s_callS l g sg_X11_wrongNew sg_X11_in), (38, s_if_eq 45), (41, s_c (.inl 1)), (42, s_goto 46), (45, s_c (.inl 0)), (46, s_stI 7), (48, s_ldI 7), (50, s_if_ne 55), (53, s_c (.inl 1)), (54, s_ireti), (55, s_ldP 0), (56, s_ldI 6), (58, s_callV l g sg_X11_wrongNew sg_X11_isZone 10), (61, s_if_ne 68), (64, s_c (.inl 2)), (65, s_goto 82), (68, s_ldP 0), (69, s_ldI 1), (70, s_ldI 2), (71, s_callV l g sg_X11_wrongNew sg_X11_isThere 10), (74, s_if_eq 81), (77, s_c (.inl 3)), (78, s_goto 82), (81, s_c (.inl 0)), (82, s_ireti)]
set_option maxRecDepth 100000 in
theorem ok_X11_wrongNew {l : Launch} {g : EG} : e_okp l g sg_X11_wrongNew "CalendarSyncModel" (pg_X11_wrongNew l g) := fun p e R s m args below meth c ex M0 Q X =>
    e_each_cons (r_iload_n X (k := 1) (i := 1) rfl dX11_wrongNew_0 rfl)
    (e_each_cons (r_callS X rfl (τ := sg_X11_isSide) (index := 306) dX11_wrongNew_1 w7_140 w7_141 cs_X11_isSide rfl ⟨by decide, by decide⟩ rfl)
    (e_each_cons (r_if_eq X (off := 41) (t := 45) dX11_wrongNew_4 (by decide) rfl)
    (e_each_cons (r_iload_n X (k := 2) (i := 2) rfl dX11_wrongNew_7 rfl)
    (e_each_cons (r_callS X rfl (τ := sg_X11_isEvent) (index := 369) dX11_wrongNew_8 w8_16 w8_17 cs_X11_isEvent rfl ⟨by decide, by decide⟩ rfl)
    (e_each_cons (r_if_eq X (off := 34) (t := 45) dX11_wrongNew_11 (by decide) rfl)
    (e_each_cons (r_iload_n X (k := 3) (i := 3) rfl dX11_wrongNew_14 rfl)
    (e_each_cons (r_callS X rfl (τ := sg_X11_isDay) (index := 89) dX11_wrongNew_15 w6_138 w6_139 cs_X11_isDay rfl ⟨by decide, by decide⟩ rfl)
    (e_each_cons (r_if_eq X (off := 27) (t := 45) dX11_wrongNew_18 (by decide) rfl)
    (e_each_cons (r_iload X (i := 4) dX11_wrongNew_21 rfl)
    (e_each_cons (r_callS X rfl (τ := sg_X11_isMinute) (index := 271) dX11_wrongNew_23 w7_82 w7_83 cs_X11_isMinute rfl ⟨by decide, by decide⟩ rfl)
    (e_each_cons (r_if_eq X (off := 19) (t := 45) dX11_wrongNew_26 (by decide) rfl)
    (e_each_cons (r_iload X (i := 5) dX11_wrongNew_29 rfl)
    (e_each_cons (r_iconst X (n := 1) (v := 1) dX11_wrongNew_31 (by decide) rfl)
    (e_each_cons (r_sipush X (n := 1440) (v := 1440) dX11_wrongNew_32 (by decide) rfl)
    (e_each_cons (r_callS X rfl (τ := sg_X11_in) (index := 75) dX11_wrongNew_35 w6_127 w6_128 cs_X11_in rfl ⟨by decide, by decide⟩ rfl)
    (e_each_cons (r_if_eq X (off := 7) (t := 45) dX11_wrongNew_38 (by decide) rfl)
    (e_each_cons (r_iconst X (n := 1) (v := 1) dX11_wrongNew_41 (by decide) rfl)
    (e_each_cons (r_goto X (off := 4) (t := 46) dX11_wrongNew_42 (by decide))
    (e_each_cons (r_iconst X (n := 0) (v := 0) dX11_wrongNew_45 (by decide) rfl)
    (e_each_cons (r_istore X (i := 7) dX11_wrongNew_46 (by decide) rfl)
    (e_each_cons (r_iload X (i := 7) dX11_wrongNew_48 rfl)
    (e_each_cons (r_if_ne X (off := 5) (t := 55) dX11_wrongNew_50 (by decide) rfl)
    (e_each_cons (r_iconst X (n := 1) (v := 1) dX11_wrongNew_53 (by decide) rfl)
    (e_each_cons (r_ireti X dX11_wrongNew_54 rfl)
    (e_each_cons (r_aload_n X (k := 0) (i := 0) rfl dX11_wrongNew_55 rfl)
    (e_each_cons (r_iload X (i := 6) dX11_wrongNew_56 rfl)
    (e_each_cons (r_callV X rfl (τ := sg_X11_isZone) (index := 268) (ci := 10) dX11_wrongNew_58 (by decide) rfl w7_71 w7_73 ws_58 cs_X11_isZone rfl ⟨by decide, by decide⟩ rfl)
    (e_each_cons (r_if_ne X (off := 7) (t := 68) dX11_wrongNew_61 (by decide) rfl)
    (e_each_cons (r_iconst X (n := 2) (v := 2) dX11_wrongNew_64 (by decide) rfl)
    (e_each_cons (r_goto X (off := 17) (t := 82) dX11_wrongNew_65 (by decide))
    (e_each_cons (r_aload_n X (k := 0) (i := 0) rfl dX11_wrongNew_68 rfl)
    (e_each_cons (r_iload_n X (k := 1) (i := 1) rfl dX11_wrongNew_69 rfl)
    (e_each_cons (r_iload_n X (k := 2) (i := 2) rfl dX11_wrongNew_70 rfl)
    (e_each_cons (r_callV X rfl (τ := sg_X11_isThere) (index := 281) (ci := 10) dX11_wrongNew_71 (by decide) rfl w7_97 w7_99 ws_61 cs_X11_isThere rfl ⟨by decide, by decide⟩ rfl)
    (e_each_cons (r_if_eq X (off := 7) (t := 81) dX11_wrongNew_74 (by decide) rfl)
    (e_each_cons (r_iconst X (n := 3) (v := 3) dX11_wrongNew_77 (by decide) rfl)
    (e_each_cons (r_goto X (off := 4) (t := 82) dX11_wrongNew_78 (by decide))
    (e_each_cons (r_iconst X (n := 0) (v := 0) dX11_wrongNew_81 (by decide) rfl)
    (e_each_cons (r_ireti X dX11_wrongNew_82 rfl)
    (e_each_nil))))))))))))))))))))))))))))))))))))))))
theorem dX11_create_0 : decode cX11_create 0 = .ok (.aload_n 0, 1) := by decide +kernel
theorem dX11_create_1 : decode cX11_create 1 = .ok (.aload_n 0, 1) := by decide +kernel
theorem dX11_create_2 : decode cX11_create 2 = .ok (.iload_n 1, 1) := by decide +kernel
theorem dX11_create_3 : decode cX11_create 3 = .ok (.iload_n 2, 1) := by decide +kernel
theorem dX11_create_4 : decode cX11_create 4 = .ok (.iload_n 3, 1) := by decide +kernel
theorem dX11_create_5 : decode cX11_create 5 = .ok (.iload 4, 2) := by decide +kernel
theorem dX11_create_7 : decode cX11_create 7 = .ok (.iload 5, 2) := by decide +kernel
theorem dX11_create_9 : decode cX11_create 9 = .ok (.iload 6, 2) := by decide +kernel
theorem dX11_create_11 : decode cX11_create 11 = .ok (.invokevirtual 372, 3) := by decide +kernel
theorem dX11_create_14 : decode cX11_create 14 = .ok (.invokevirtual 71, 3) := by decide +kernel
theorem dX11_create_17 : decode cX11_create 17 = .ok (.ifCond .eq 5, 3) := by decide +kernel
theorem dX11_create_20 : decode cX11_create 20 = .ok (.iconst 0, 1) := by decide +kernel
theorem dX11_create_21 : decode cX11_create 21 = .ok (.ireturn, 1) := by decide +kernel
theorem dX11_create_22 : decode cX11_create 22 = .ok (.aload_n 0, 1) := by decide +kernel
theorem dX11_create_23 : decode cX11_create 23 = .ok (.invokevirtual 376, 3) := by decide +kernel
theorem dX11_create_26 : decode cX11_create 26 = .ok (.iload_n 1, 1) := by decide +kernel
theorem dX11_create_27 : decode cX11_create 27 = .ok (.iload_n 2, 1) := by decide +kernel
theorem dX11_create_28 : decode cX11_create 28 = .ok (.invokestatic 278, 3) := by decide +kernel
theorem dX11_create_31 : decode cX11_create 31 = .ok (.istore 7, 2) := by decide +kernel
theorem dX11_create_33 : decode cX11_create 33 = .ok (.aload_n 0, 1) := by decide +kernel
theorem dX11_create_34 : decode cX11_create 34 = .ok (.getfield 7, 3) := by decide +kernel
theorem dX11_create_37 : decode cX11_create 37 = .ok (.iload 7, 2) := by decide +kernel
theorem dX11_create_39 : decode cX11_create 39 = .ok (.iconst 0, 1) := by decide +kernel
theorem dX11_create_40 : decode cX11_create 40 = .ok (.iadd, 1) := by decide +kernel
theorem dX11_create_41 : decode cX11_create 41 = .ok (.iconst 1, 1) := by decide +kernel
theorem dX11_create_42 : decode cX11_create 42 = .ok (.iastore, 1) := by decide +kernel
theorem dX11_create_43 : decode cX11_create 43 = .ok (.aload_n 0, 1) := by decide +kernel
theorem dX11_create_44 : decode cX11_create 44 = .ok (.getfield 7, 3) := by decide +kernel
theorem dX11_create_47 : decode cX11_create 47 = .ok (.iload 7, 2) := by decide +kernel
theorem dX11_create_49 : decode cX11_create 49 = .ok (.iconst 1, 1) := by decide +kernel
theorem dX11_create_50 : decode cX11_create 50 = .ok (.iadd, 1) := by decide +kernel
theorem dX11_create_51 : decode cX11_create 51 = .ok (.iload_n 3, 1) := by decide +kernel
theorem dX11_create_52 : decode cX11_create 52 = .ok (.iastore, 1) := by decide +kernel
theorem dX11_create_53 : decode cX11_create 53 = .ok (.aload_n 0, 1) := by decide +kernel
theorem dX11_create_54 : decode cX11_create 54 = .ok (.getfield 7, 3) := by decide +kernel
theorem dX11_create_57 : decode cX11_create 57 = .ok (.iload 7, 2) := by decide +kernel
theorem dX11_create_59 : decode cX11_create 59 = .ok (.iconst 2, 1) := by decide +kernel
theorem dX11_create_60 : decode cX11_create 60 = .ok (.iadd, 1) := by decide +kernel
theorem dX11_create_61 : decode cX11_create 61 = .ok (.iload 4, 2) := by decide +kernel
theorem dX11_create_63 : decode cX11_create 63 = .ok (.iastore, 1) := by decide +kernel
theorem dX11_create_64 : decode cX11_create 64 = .ok (.aload_n 0, 1) := by decide +kernel
theorem dX11_create_65 : decode cX11_create 65 = .ok (.getfield 7, 3) := by decide +kernel
theorem dX11_create_68 : decode cX11_create 68 = .ok (.iload 7, 2) := by decide +kernel
theorem dX11_create_70 : decode cX11_create 70 = .ok (.iconst 3, 1) := by decide +kernel
theorem dX11_create_71 : decode cX11_create 71 = .ok (.iadd, 1) := by decide +kernel
theorem dX11_create_72 : decode cX11_create 72 = .ok (.iload 5, 2) := by decide +kernel
theorem dX11_create_74 : decode cX11_create 74 = .ok (.iastore, 1) := by decide +kernel
theorem dX11_create_75 : decode cX11_create 75 = .ok (.aload_n 0, 1) := by decide +kernel
theorem dX11_create_76 : decode cX11_create 76 = .ok (.getfield 7, 3) := by decide +kernel
theorem dX11_create_79 : decode cX11_create 79 = .ok (.iload 7, 2) := by decide +kernel
theorem dX11_create_81 : decode cX11_create 81 = .ok (.iconst 4, 1) := by decide +kernel
theorem dX11_create_82 : decode cX11_create 82 = .ok (.iadd, 1) := by decide +kernel
theorem dX11_create_83 : decode cX11_create 83 = .ok (.iload 6, 2) := by decide +kernel
theorem dX11_create_85 : decode cX11_create 85 = .ok (.iastore, 1) := by decide +kernel
theorem dX11_create_86 : decode cX11_create 86 = .ok (.aload_n 0, 1) := by decide +kernel
theorem dX11_create_87 : decode cX11_create 87 = .ok (.getfield 7, 3) := by decide +kernel
theorem dX11_create_90 : decode cX11_create 90 = .ok (.iload 7, 2) := by decide +kernel
theorem dX11_create_92 : decode cX11_create 92 = .ok (.iconst 5, 1) := by decide +kernel
theorem dX11_create_93 : decode cX11_create 93 = .ok (.iadd, 1) := by decide +kernel
theorem dX11_create_94 : decode cX11_create 94 = .ok (.iconst 0, 1) := by decide +kernel
theorem dX11_create_95 : decode cX11_create 95 = .ok (.iastore, 1) := by decide +kernel
theorem dX11_create_96 : decode cX11_create 96 = .ok (.aload_n 0, 1) := by decide +kernel
theorem dX11_create_97 : decode cX11_create 97 = .ok (.getfield 7, 3) := by decide +kernel
theorem dX11_create_100 : decode cX11_create 100 = .ok (.iload 7, 2) := by decide +kernel
theorem dX11_create_102 : decode cX11_create 102 = .ok (.bipush 6, 2) := by decide +kernel
theorem dX11_create_104 : decode cX11_create 104 = .ok (.iadd, 1) := by decide +kernel
theorem dX11_create_105 : decode cX11_create 105 = .ok (.iconst 0, 1) := by decide +kernel
theorem dX11_create_106 : decode cX11_create 106 = .ok (.iastore, 1) := by decide +kernel
theorem dX11_create_107 : decode cX11_create 107 = .ok (.aload_n 0, 1) := by decide +kernel
theorem dX11_create_108 : decode cX11_create 108 = .ok (.getfield 7, 3) := by decide +kernel
theorem dX11_create_111 : decode cX11_create 111 = .ok (.iload 7, 2) := by decide +kernel
theorem dX11_create_113 : decode cX11_create 113 = .ok (.bipush 7, 2) := by decide +kernel
theorem dX11_create_115 : decode cX11_create 115 = .ok (.iadd, 1) := by decide +kernel
theorem dX11_create_116 : decode cX11_create 116 = .ok (.iconst 0, 1) := by decide +kernel
theorem dX11_create_117 : decode cX11_create 117 = .ok (.iastore, 1) := by decide +kernel
theorem dX11_create_118 : decode cX11_create 118 = .ok (.aload_n 0, 1) := by decide +kernel
theorem dX11_create_119 : decode cX11_create 119 = .ok (.getfield 7, 3) := by decide +kernel
theorem dX11_create_122 : decode cX11_create 122 = .ok (.iload 7, 2) := by decide +kernel
theorem dX11_create_124 : decode cX11_create 124 = .ok (.bipush 8, 2) := by decide +kernel
theorem dX11_create_126 : decode cX11_create 126 = .ok (.iadd, 1) := by decide +kernel
theorem dX11_create_127 : decode cX11_create 127 = .ok (.iconst 1, 1) := by decide +kernel
theorem dX11_create_128 : decode cX11_create 128 = .ok (.iastore, 1) := by decide +kernel
theorem dX11_create_129 : decode cX11_create 129 = .ok (.aload_n 0, 1) := by decide +kernel
theorem dX11_create_130 : decode cX11_create 130 = .ok (.getfield 7, 3) := by decide +kernel
theorem dX11_create_133 : decode cX11_create 133 = .ok (.iload 7, 2) := by decide +kernel
theorem dX11_create_135 : decode cX11_create 135 = .ok (.bipush 10, 2) := by decide +kernel
theorem dX11_create_137 : decode cX11_create 137 = .ok (.iadd, 1) := by decide +kernel
theorem dX11_create_138 : decode cX11_create 138 = .ok (.iconst 1, 1) := by decide +kernel
theorem dX11_create_139 : decode cX11_create 139 = .ok (.iastore, 1) := by decide +kernel
theorem dX11_create_140 : decode cX11_create 140 = .ok (.aload_n 0, 1) := by decide +kernel
theorem dX11_create_141 : decode cX11_create 141 = .ok (.getfield 7, 3) := by decide +kernel
theorem dX11_create_144 : decode cX11_create 144 = .ok (.iload 7, 2) := by decide +kernel
theorem dX11_create_146 : decode cX11_create 146 = .ok (.bipush 14, 2) := by decide +kernel
theorem dX11_create_148 : decode cX11_create 148 = .ok (.iadd, 1) := by decide +kernel
theorem dX11_create_149 : decode cX11_create 149 = .ok (.iconst 0, 1) := by decide +kernel
theorem dX11_create_150 : decode cX11_create 150 = .ok (.iastore, 1) := by decide +kernel
theorem dX11_create_151 : decode cX11_create 151 = .ok (.aload_n 0, 1) := by decide +kernel
theorem dX11_create_152 : decode cX11_create 152 = .ok (.getfield 7, 3) := by decide +kernel
theorem dX11_create_155 : decode cX11_create 155 = .ok (.iload 7, 2) := by decide +kernel
theorem dX11_create_157 : decode cX11_create 157 = .ok (.bipush 14, 2) := by decide +kernel
theorem dX11_create_159 : decode cX11_create 159 = .ok (.iadd, 1) := by decide +kernel
theorem dX11_create_160 : decode cX11_create 160 = .ok (.iconst 1, 1) := by decide +kernel
theorem dX11_create_161 : decode cX11_create 161 = .ok (.iadd, 1) := by decide +kernel
theorem dX11_create_162 : decode cX11_create 162 = .ok (.iconst 0, 1) := by decide +kernel
theorem dX11_create_163 : decode cX11_create 163 = .ok (.iastore, 1) := by decide +kernel
theorem dX11_create_164 : decode cX11_create 164 = .ok (.aload_n 0, 1) := by decide +kernel
theorem dX11_create_165 : decode cX11_create 165 = .ok (.iload 7, 2) := by decide +kernel
theorem dX11_create_167 : decode cX11_create 167 = .ok (.invokevirtual 379, 3) := by decide +kernel
theorem dX11_create_170 : decode cX11_create 170 = .ok (.aload_n 0, 1) := by decide +kernel
theorem dX11_create_171 : decode cX11_create 171 = .ok (.iload_n 1, 1) := by decide +kernel
theorem dX11_create_172 : decode cX11_create 172 = .ok (.invokevirtual 284, 3) := by decide +kernel
theorem dX11_create_175 : decode cX11_create 175 = .ok (.invokestatic 382, 3) := by decide +kernel
theorem dX11_create_178 : decode cX11_create 178 = .ok (.ireturn, 1) := by decide +kernel
def pg_X11_create (l : Launch) (g : EG) : List (Nat × ES) := [(0, s_ldP 0), (1, s_ldP 0), (2, s_ldI 1), (3, s_ldI 2), (4, s_ldI 3), (5, s_ldI 4), (7, s_ldI 5), (9, s_ldI 6), (11, s_callV l g sg_X11_create sg_X11_wrongNew 10), (14, s_callV l g sg_X11_create sg_X11_isRefused 10), (17, s_if_eq 22), (20, s_c (.inl 0)), (21, s_ireti), (22, s_ldP 0), (23, s_callV l g sg_X11_create sg_X11_remembers 10), (26, s_ldI 1), (27, s_ldI 2), (28, s_callS l g sg_X11_create sg_X11_eventAt), (31, s_stI 7), (33, s_ldP 0), (34, s_getP 10 2), (37, s_ldI 7), (39, s_c (.inl 0)), (40, s_ii (fun x y => x + y)), (41, s_c (.inl 1)), (42, s_iast), (43, s_ldP 0), (44, s_getP 10 2), (47, s_ldI 7), (49, s_c (.inl 1)), (50, s_ii (fun x y => x + y)), (51, s_ldI 3), (52, s_iast), (53, s_ldP 0), (54, s_getP 10 2), (57, s_ldI 7), (59, s_c (.inl 2)), (60, s_ii (fun x y => x + y)), (61, s_ldI 4), (63, s_iast), (64, s_ldP 0), (65, s_getP 10 2), (68, s_ldI 7), (70, s_c (.inl 3)), (71, s_ii (fun x y => x + y)), (72, s_ldI 5), (74, s_iast), (75, s_ldP 0), (76, s_getP 10 2), (79, s_ldI 7), (81, s_c (.inl 4)), (82, s_ii (fun x y => x + y)), (83, s_ldI 6), (85, s_iast), (86, s_ldP 0), (87, s_getP 10 2), (90, s_ldI 7), (92, s_c (.inl 5)), (93, s_ii (fun x y => x + y)), (94, s_c (.inl 0)), (95, s_iast), (96, s_ldP 0), (97, s_getP 10 2), (100, s_ldI 7), (102, s_c (.inl 6)), (104, s_ii (fun x y => x + y)), (105, s_c (.inl 0)), (106, s_iast), (107, s_ldP 0), (108, s_getP 10 2), (111, s_ldI 7), (113, s_c (.inl 7)), (115, s_ii (fun x y => x + y)), (116, s_c (.inl 0)), (117, s_iast), (118, s_ldP 0), (119, s_getP 10 2), (122, s_ldI 7), (124, s_c (.inl 8)), (126, s_ii (fun x y => x + y)), (127, s_c (.inl 1)), (128, s_iast), (129, s_ldP 0), (130, s_getP 10 2), (133, s_ldI 7), (135, s_c (.inl 10)), (137, s_ii (fun x y => x + y)), (138, s_c (.inl 1)), (139, s_iast), (140, s_ldP 0), (141, s_getP 10 2), (144, s_ldI 7), (146, s_c (.inl 14)), (148, s_ii (fun x y => x + y)), (149, s_c (.inl 0)), (150, s_iast), (151, s_ldP 0), (152, s_getP 10 2), (155, s_ldI 7), (157, s_c (.inl 14)), (159, s_ii (fun x y => x + y)), (160, s_c (.inl 1)), (161, s_ii (fun x y => x + y)), (162, s_c (.inl 0)), (163, s_iast), (164, s_ldP 0), (165, s_ldI 7), (167, s_callV l g sg_X11_create sg_X11_clearsDates 10), (170, s_ldP 0), (171, s_ldI 1), (172, s_callV l g sg_X11_create sg_X11_eventsOf 10), (175, s_callS l g sg_X11_create sg_X11_bitsIn), (178, s_ireti)]
set_option maxRecDepth 100000 in
theorem ok_X11_create {l : Launch} {g : EG} : e_okp l g sg_X11_create "CalendarSyncModel" (pg_X11_create l g) := fun p e R s m args below meth c ex M0 Q X =>
    e_each_cons (r_aload_n X (k := 0) (i := 0) rfl dX11_create_0 rfl)
    (e_each_cons (r_aload_n X (k := 0) (i := 0) rfl dX11_create_1 rfl)
    (e_each_cons (r_iload_n X (k := 1) (i := 1) rfl dX11_create_2 rfl)
    (e_each_cons (r_iload_n X (k := 2) (i := 2) rfl dX11_create_3 rfl)
    (e_each_cons (r_iload_n X (k := 3) (i := 3) rfl dX11_create_4 rfl)
    (e_each_cons (r_iload X (i := 4) dX11_create_5 rfl)
    (e_each_cons (r_iload X (i := 5) dX11_create_7 rfl)
    (e_each_cons (r_iload X (i := 6) dX11_create_9 rfl)
    (e_each_cons (r_callV X rfl (τ := sg_X11_wrongNew) (index := 372) (ci := 10) dX11_create_11 (by decide) rfl w8_12 w8_14 ws_81 cs_X11_wrongNew rfl ⟨by decide, by decide⟩ rfl)
    (e_each_cons (r_callV X rfl (τ := sg_X11_isRefused) (index := 71) (ci := 10) dX11_create_14 (by decide) rfl w6_119 w6_121 ws_31 cs_X11_isRefused rfl ⟨by decide, by decide⟩ rfl)
    (e_each_cons (r_if_eq X (off := 5) (t := 22) dX11_create_17 (by decide) rfl)
    (e_each_cons (r_iconst X (n := 0) (v := 0) dX11_create_20 (by decide) rfl)
    (e_each_cons (r_ireti X dX11_create_21 rfl)
    (e_each_cons (r_aload_n X (k := 0) (i := 0) rfl dX11_create_22 rfl)
    (e_each_cons (r_callV X rfl (τ := sg_X11_remembers) (index := 376) (ci := 10) dX11_create_23 (by decide) rfl w8_19 w8_21 ws_82 cs_X11_remembers rfl ⟨by decide, by decide⟩ rfl)
    (e_each_cons (r_iload_n X (k := 1) (i := 1) rfl dX11_create_26 rfl)
    (e_each_cons (r_iload_n X (k := 2) (i := 2) rfl dX11_create_27 rfl)
    (e_each_cons (r_callS X rfl (τ := sg_X11_eventAt) (index := 278) dX11_create_28 w7_101 w7_102 cs_X11_eventAt rfl ⟨by decide, by decide⟩ rfl)
    (e_each_cons (r_istore X (i := 7) dX11_create_31 (by decide) rfl)
    (e_each_cons (r_aload_n X (k := 0) (i := 0) rfl dX11_create_33 rfl)
    (e_each_cons (r_getP X (index := 7) (ci := 10) (k := 2) dX11_create_34 (by decide) (by decide) rfl w6_28 rfl)
    (e_each_cons (r_iload X (i := 7) dX11_create_37 rfl)
    (e_each_cons (r_iconst X (n := 0) (v := 0) dX11_create_39 (by decide) rfl)
    (e_each_cons (r_iadd X dX11_create_40 rfl)
    (e_each_cons (r_iconst X (n := 1) (v := 1) dX11_create_41 (by decide) rfl)
    (e_each_cons (r_iast X dX11_create_42 rfl)
    (e_each_cons (r_aload_n X (k := 0) (i := 0) rfl dX11_create_43 rfl)
    (e_each_cons (r_getP X (index := 7) (ci := 10) (k := 2) dX11_create_44 (by decide) (by decide) rfl w6_28 rfl)
    (e_each_cons (r_iload X (i := 7) dX11_create_47 rfl)
    (e_each_cons (r_iconst X (n := 1) (v := 1) dX11_create_49 (by decide) rfl)
    (e_each_cons (r_iadd X dX11_create_50 rfl)
    (e_each_cons (r_iload_n X (k := 3) (i := 3) rfl dX11_create_51 rfl)
    (e_each_cons (r_iast X dX11_create_52 rfl)
    (e_each_cons (r_aload_n X (k := 0) (i := 0) rfl dX11_create_53 rfl)
    (e_each_cons (r_getP X (index := 7) (ci := 10) (k := 2) dX11_create_54 (by decide) (by decide) rfl w6_28 rfl)
    (e_each_cons (r_iload X (i := 7) dX11_create_57 rfl)
    (e_each_cons (r_iconst X (n := 2) (v := 2) dX11_create_59 (by decide) rfl)
    (e_each_cons (r_iadd X dX11_create_60 rfl)
    (e_each_cons (r_iload X (i := 4) dX11_create_61 rfl)
    (e_each_cons (r_iast X dX11_create_63 rfl)
    (e_each_cons (r_aload_n X (k := 0) (i := 0) rfl dX11_create_64 rfl)
    (e_each_cons (r_getP X (index := 7) (ci := 10) (k := 2) dX11_create_65 (by decide) (by decide) rfl w6_28 rfl)
    (e_each_cons (r_iload X (i := 7) dX11_create_68 rfl)
    (e_each_cons (r_iconst X (n := 3) (v := 3) dX11_create_70 (by decide) rfl)
    (e_each_cons (r_iadd X dX11_create_71 rfl)
    (e_each_cons (r_iload X (i := 5) dX11_create_72 rfl)
    (e_each_cons (r_iast X dX11_create_74 rfl)
    (e_each_cons (r_aload_n X (k := 0) (i := 0) rfl dX11_create_75 rfl)
    (e_each_cons (r_getP X (index := 7) (ci := 10) (k := 2) dX11_create_76 (by decide) (by decide) rfl w6_28 rfl)
    (e_each_cons (r_iload X (i := 7) dX11_create_79 rfl)
    (e_each_cons (r_iconst X (n := 4) (v := 4) dX11_create_81 (by decide) rfl)
    (e_each_cons (r_iadd X dX11_create_82 rfl)
    (e_each_cons (r_iload X (i := 6) dX11_create_83 rfl)
    (e_each_cons (r_iast X dX11_create_85 rfl)
    (e_each_cons (r_aload_n X (k := 0) (i := 0) rfl dX11_create_86 rfl)
    (e_each_cons (r_getP X (index := 7) (ci := 10) (k := 2) dX11_create_87 (by decide) (by decide) rfl w6_28 rfl)
    (e_each_cons (r_iload X (i := 7) dX11_create_90 rfl)
    (e_each_cons (r_iconst X (n := 5) (v := 5) dX11_create_92 (by decide) rfl)
    (e_each_cons (r_iadd X dX11_create_93 rfl)
    (e_each_cons (r_iconst X (n := 0) (v := 0) dX11_create_94 (by decide) rfl)
    (e_each_cons (r_iast X dX11_create_95 rfl)
    (e_each_cons (r_aload_n X (k := 0) (i := 0) rfl dX11_create_96 rfl)
    (e_each_cons (r_getP X (index := 7) (ci := 10) (k := 2) dX11_create_97 (by decide) (by decide) rfl w6_28 rfl)
    (e_each_cons (r_iload X (i := 7) dX11_create_100 rfl)
    (e_each_cons (r_bipush X (n := 6) (v := 6) dX11_create_102 (by decide) rfl)
    (e_each_cons (r_iadd X dX11_create_104 rfl)
    (e_each_cons (r_iconst X (n := 0) (v := 0) dX11_create_105 (by decide) rfl)
    (e_each_cons (r_iast X dX11_create_106 rfl)
    (e_each_cons (r_aload_n X (k := 0) (i := 0) rfl dX11_create_107 rfl)
    (e_each_cons (r_getP X (index := 7) (ci := 10) (k := 2) dX11_create_108 (by decide) (by decide) rfl w6_28 rfl)
    (e_each_cons (r_iload X (i := 7) dX11_create_111 rfl)
    (e_each_cons (r_bipush X (n := 7) (v := 7) dX11_create_113 (by decide) rfl)
    (e_each_cons (r_iadd X dX11_create_115 rfl)
    (e_each_cons (r_iconst X (n := 0) (v := 0) dX11_create_116 (by decide) rfl)
    (e_each_cons (r_iast X dX11_create_117 rfl)
    (e_each_cons (r_aload_n X (k := 0) (i := 0) rfl dX11_create_118 rfl)
    (e_each_cons (r_getP X (index := 7) (ci := 10) (k := 2) dX11_create_119 (by decide) (by decide) rfl w6_28 rfl)
    (e_each_cons (r_iload X (i := 7) dX11_create_122 rfl)
    (e_each_cons (r_bipush X (n := 8) (v := 8) dX11_create_124 (by decide) rfl)
    (e_each_cons (r_iadd X dX11_create_126 rfl)
    (e_each_cons (r_iconst X (n := 1) (v := 1) dX11_create_127 (by decide) rfl)
    (e_each_cons (r_iast X dX11_create_128 rfl)
    (e_each_cons (r_aload_n X (k := 0) (i := 0) rfl dX11_create_129 rfl)
    (e_each_cons (r_getP X (index := 7) (ci := 10) (k := 2) dX11_create_130 (by decide) (by decide) rfl w6_28 rfl)
    (e_each_cons (r_iload X (i := 7) dX11_create_133 rfl)
    (e_each_cons (r_bipush X (n := 10) (v := 10) dX11_create_135 (by decide) rfl)
    (e_each_cons (r_iadd X dX11_create_137 rfl)
    (e_each_cons (r_iconst X (n := 1) (v := 1) dX11_create_138 (by decide) rfl)
    (e_each_cons (r_iast X dX11_create_139 rfl)
    (e_each_cons (r_aload_n X (k := 0) (i := 0) rfl dX11_create_140 rfl)
    (e_each_cons (r_getP X (index := 7) (ci := 10) (k := 2) dX11_create_141 (by decide) (by decide) rfl w6_28 rfl)
    (e_each_cons (r_iload X (i := 7) dX11_create_144 rfl)
    (e_each_cons (r_bipush X (n := 14) (v := 14) dX11_create_146 (by decide) rfl)
    (e_each_cons (r_iadd X dX11_create_148 rfl)
    (e_each_cons (r_iconst X (n := 0) (v := 0) dX11_create_149 (by decide) rfl)
    (e_each_cons (r_iast X dX11_create_150 rfl)
    (e_each_cons (r_aload_n X (k := 0) (i := 0) rfl dX11_create_151 rfl)
    (e_each_cons (r_getP X (index := 7) (ci := 10) (k := 2) dX11_create_152 (by decide) (by decide) rfl w6_28 rfl)
    (e_each_cons (r_iload X (i := 7) dX11_create_155 rfl)
    (e_each_cons (r_bipush X (n := 14) (v := 14) dX11_create_157 (by decide) rfl)
    (e_each_cons (r_iadd X dX11_create_159 rfl)
    (e_each_cons (r_iconst X (n := 1) (v := 1) dX11_create_160 (by decide) rfl)
    (e_each_cons (r_iadd X dX11_create_161 rfl)
    (e_each_cons (r_iconst X (n := 0) (v := 0) dX11_create_162 (by decide) rfl)
    (e_each_cons (r_iast X dX11_create_163 rfl)
    (e_each_cons (r_aload_n X (k := 0) (i := 0) rfl dX11_create_164 rfl)
    (e_each_cons (r_iload X (i := 7) dX11_create_165 rfl)
    (e_each_cons (r_callV X rfl (τ := sg_X11_clearsDates) (index := 379) (ci := 10) dX11_create_167 (by decide) rfl w8_23 w8_25 ws_83 cs_X11_clearsDates rfl ⟨by decide, by decide⟩ rfl)
    (e_each_cons (r_aload_n X (k := 0) (i := 0) rfl dX11_create_170 rfl)
    (e_each_cons (r_iload_n X (k := 1) (i := 1) rfl dX11_create_171 rfl)
    (e_each_cons (r_callV X rfl (τ := sg_X11_eventsOf) (index := 284) (ci := 10) dX11_create_172 (by decide) rfl w7_93 w7_95 ws_60 cs_X11_eventsOf rfl ⟨by decide, by decide⟩ rfl)
    (e_each_cons (r_callS X rfl (τ := sg_X11_bitsIn) (index := 382) dX11_create_175 w8_27 w8_28 cs_X11_bitsIn rfl ⟨by decide, by decide⟩ rfl)
    (e_each_cons (r_ireti X dX11_create_178 rfl)
    (e_each_nil)))))))))))))))))))))))))))))))))))))))))))))))))))))))))))))))))))))))))))))))))))))))))))))))))))))))))))))))))
theorem dX11_wrongRule_0 : decode cX11_wrongRule 0 = .ok (.iload_n 1, 1) := by decide +kernel
theorem dX11_wrongRule_1 : decode cX11_wrongRule 1 = .ok (.invokestatic 306, 3) := by decide +kernel
theorem dX11_wrongRule_4 : decode cX11_wrongRule 4 = .ok (.ifCond .eq 58, 3) := by decide +kernel
theorem dX11_wrongRule_7 : decode cX11_wrongRule 7 = .ok (.iload_n 3, 1) := by decide +kernel
theorem dX11_wrongRule_8 : decode cX11_wrongRule 8 = .ok (.iconst 0, 1) := by decide +kernel
theorem dX11_wrongRule_9 : decode cX11_wrongRule 9 = .ok (.iconst 3, 1) := by decide +kernel
theorem dX11_wrongRule_10 : decode cX11_wrongRule 10 = .ok (.invokestatic 75, 3) := by decide +kernel
theorem dX11_wrongRule_13 : decode cX11_wrongRule 13 = .ok (.ifCond .eq 49, 3) := by decide +kernel
theorem dX11_wrongRule_16 : decode cX11_wrongRule 16 = .ok (.iload_n 3, 1) := by decide +kernel
theorem dX11_wrongRule_17 : decode cX11_wrongRule 17 = .ok (.ifCond .eq 25, 3) := by decide +kernel
theorem dX11_wrongRule_20 : decode cX11_wrongRule 20 = .ok (.iload 4, 2) := by decide +kernel
theorem dX11_wrongRule_22 : decode cX11_wrongRule 22 = .ok (.iconst 1, 1) := by decide +kernel
theorem dX11_wrongRule_23 : decode cX11_wrongRule 23 = .ok (.bipush 9, 2) := by decide +kernel
theorem dX11_wrongRule_25 : decode cX11_wrongRule 25 = .ok (.invokestatic 75, 3) := by decide +kernel
theorem dX11_wrongRule_28 : decode cX11_wrongRule 28 = .ok (.ifCond .eq 34, 3) := by decide +kernel
theorem dX11_wrongRule_31 : decode cX11_wrongRule 31 = .ok (.iload 6, 2) := by decide +kernel
theorem dX11_wrongRule_33 : decode cX11_wrongRule 33 = .ok (.iconst 1, 1) := by decide +kernel
theorem dX11_wrongRule_34 : decode cX11_wrongRule 34 = .ok (.bipush 30, 2) := by decide +kernel
theorem dX11_wrongRule_36 : decode cX11_wrongRule 36 = .ok (.invokestatic 75, 3) := by decide +kernel
theorem dX11_wrongRule_39 : decode cX11_wrongRule 39 = .ok (.ifCond .eq 23, 3) := by decide +kernel
theorem dX11_wrongRule_42 : decode cX11_wrongRule 42 = .ok (.iload_n 3, 1) := by decide +kernel
theorem dX11_wrongRule_43 : decode cX11_wrongRule 43 = .ok (.iconst 2, 1) := by decide +kernel
theorem dX11_wrongRule_44 : decode cX11_wrongRule 44 = .ok (.if_icmp .ne 14, 3) := by decide +kernel
theorem dX11_wrongRule_47 : decode cX11_wrongRule 47 = .ok (.iload 5, 2) := by decide +kernel
theorem dX11_wrongRule_49 : decode cX11_wrongRule 49 = .ok (.iconst 1, 1) := by decide +kernel
theorem dX11_wrongRule_50 : decode cX11_wrongRule 50 = .ok (.bipush 127, 2) := by decide +kernel
theorem dX11_wrongRule_52 : decode cX11_wrongRule 52 = .ok (.invokestatic 75, 3) := by decide +kernel
theorem dX11_wrongRule_55 : decode cX11_wrongRule 55 = .ok (.ifCond .eq 7, 3) := by decide +kernel
theorem dX11_wrongRule_58 : decode cX11_wrongRule 58 = .ok (.iconst 1, 1) := by decide +kernel
theorem dX11_wrongRule_59 : decode cX11_wrongRule 59 = .ok (.goto 4, 3) := by decide +kernel
theorem dX11_wrongRule_62 : decode cX11_wrongRule 62 = .ok (.iconst 0, 1) := by decide +kernel
theorem dX11_wrongRule_63 : decode cX11_wrongRule 63 = .ok (.istore 7, 2) := by decide +kernel
theorem dX11_wrongRule_65 : decode cX11_wrongRule 65 = .ok (.iload 7, 2) := by decide +kernel
theorem dX11_wrongRule_67 : decode cX11_wrongRule 67 = .ok (.ifCond .ne 7, 3) := by decide +kernel
theorem dX11_wrongRule_70 : decode cX11_wrongRule 70 = .ok (.iconst 1, 1) := by decide +kernel
theorem dX11_wrongRule_71 : decode cX11_wrongRule 71 = .ok (.goto 17, 3) := by decide +kernel
theorem dX11_wrongRule_74 : decode cX11_wrongRule 74 = .ok (.aload_n 0, 1) := by decide +kernel
theorem dX11_wrongRule_75 : decode cX11_wrongRule 75 = .ok (.iload_n 1, 1) := by decide +kernel
theorem dX11_wrongRule_76 : decode cX11_wrongRule 76 = .ok (.iload_n 2, 1) := by decide +kernel
theorem dX11_wrongRule_77 : decode cX11_wrongRule 77 = .ok (.invokevirtual 281, 3) := by decide +kernel
theorem dX11_wrongRule_80 : decode cX11_wrongRule 80 = .ok (.ifCond .eq 7, 3) := by decide +kernel
theorem dX11_wrongRule_83 : decode cX11_wrongRule 83 = .ok (.iconst 0, 1) := by decide +kernel
theorem dX11_wrongRule_84 : decode cX11_wrongRule 84 = .ok (.goto 4, 3) := by decide +kernel
theorem dX11_wrongRule_87 : decode cX11_wrongRule 87 = .ok (.iconst 2, 1) := by decide +kernel
theorem dX11_wrongRule_88 : decode cX11_wrongRule 88 = .ok (.ireturn, 1) := by decide +kernel
def pg_X11_wrongRule (l : Launch) (g : EG) : List (Nat × ES) := [(0, s_ldI 1), (1, s_callS l g sg_X11_wrongRule sg_X11_isSide), (4, s_if_eq 62), (7, s_ldI 3), (8, s_c (.inl 0)), (9, s_c (.inl 3)), (10, s_callS l g sg_X11_wrongRule sg_X11_in), (13, s_if_eq 62), (16, s_ldI 3), (17, s_if_eq 42), (20, s_ldI 4), (22, s_c (.inl 1)), (23, s_c (.inl 9)), (25, s_callS l g sg_X11_wrongRule sg_X11_in), (28, s_if_eq 62), (31, s_ldI 6), (33, s_c (.inl 1)), (34, s_c (.inl 30)), (36, s_callS l g sg_X11_wrongRule sg_X11_in), (39, s_if_eq 62), (42, s_ldI 3), (43, s_c (.inl 2)), (44, s_icmp_ne 58), (47, s_ldI 5), (49, s_c (.inl 1)), (50, s_c (.inl 127)), (52, s_callS l g sg_X11_wrongRule sg_X11_in), (55, s_if_eq 62), (58, s_c (.inl 1)), (59, s_goto 63), (62, s_c (.inl 0)), (63, s_stI 7), (65, s_ldI 7), (67, s_if_ne 74), (70, s_c (.inl 1)), (71, s_goto 88), (74, s_ldP 0), (75, s_ldI 1), (76, s_ldI 2), (77, s_callV l g sg_X11_wrongRule sg_X11_isThere 10), (80, s_if_eq 87), (83, s_c (.inl 0)), (84, s_goto 88), (87, s_c (.inl 2)), (88, s_ireti)]
set_option maxRecDepth 100000 in
theorem ok_X11_wrongRule {l : Launch} {g : EG} : e_okp l g sg_X11_wrongRule "CalendarSyncModel" (pg_X11_wrongRule l g) := fun p e R s m args below meth c ex M0 Q X =>
    e_each_cons (r_iload_n X (k := 1) (i := 1) rfl dX11_wrongRule_0 rfl)
    (e_each_cons (r_callS X rfl (τ := sg_X11_isSide) (index := 306) dX11_wrongRule_1 w7_140 w7_141 cs_X11_isSide rfl ⟨by decide, by decide⟩ rfl)
    (e_each_cons (r_if_eq X (off := 58) (t := 62) dX11_wrongRule_4 (by decide) rfl)
    (e_each_cons (r_iload_n X (k := 3) (i := 3) rfl dX11_wrongRule_7 rfl)
    (e_each_cons (r_iconst X (n := 0) (v := 0) dX11_wrongRule_8 (by decide) rfl)
    (e_each_cons (r_iconst X (n := 3) (v := 3) dX11_wrongRule_9 (by decide) rfl)
    (e_each_cons (r_callS X rfl (τ := sg_X11_in) (index := 75) dX11_wrongRule_10 w6_127 w6_128 cs_X11_in rfl ⟨by decide, by decide⟩ rfl)
    (e_each_cons (r_if_eq X (off := 49) (t := 62) dX11_wrongRule_13 (by decide) rfl)
    (e_each_cons (r_iload_n X (k := 3) (i := 3) rfl dX11_wrongRule_16 rfl)
    (e_each_cons (r_if_eq X (off := 25) (t := 42) dX11_wrongRule_17 (by decide) rfl)
    (e_each_cons (r_iload X (i := 4) dX11_wrongRule_20 rfl)
    (e_each_cons (r_iconst X (n := 1) (v := 1) dX11_wrongRule_22 (by decide) rfl)
    (e_each_cons (r_bipush X (n := 9) (v := 9) dX11_wrongRule_23 (by decide) rfl)
    (e_each_cons (r_callS X rfl (τ := sg_X11_in) (index := 75) dX11_wrongRule_25 w6_127 w6_128 cs_X11_in rfl ⟨by decide, by decide⟩ rfl)
    (e_each_cons (r_if_eq X (off := 34) (t := 62) dX11_wrongRule_28 (by decide) rfl)
    (e_each_cons (r_iload X (i := 6) dX11_wrongRule_31 rfl)
    (e_each_cons (r_iconst X (n := 1) (v := 1) dX11_wrongRule_33 (by decide) rfl)
    (e_each_cons (r_bipush X (n := 30) (v := 30) dX11_wrongRule_34 (by decide) rfl)
    (e_each_cons (r_callS X rfl (τ := sg_X11_in) (index := 75) dX11_wrongRule_36 w6_127 w6_128 cs_X11_in rfl ⟨by decide, by decide⟩ rfl)
    (e_each_cons (r_if_eq X (off := 23) (t := 62) dX11_wrongRule_39 (by decide) rfl)
    (e_each_cons (r_iload_n X (k := 3) (i := 3) rfl dX11_wrongRule_42 rfl)
    (e_each_cons (r_iconst X (n := 2) (v := 2) dX11_wrongRule_43 (by decide) rfl)
    (e_each_cons (r_icmp_ne X (off := 14) (t := 58) dX11_wrongRule_44 (by decide) rfl)
    (e_each_cons (r_iload X (i := 5) dX11_wrongRule_47 rfl)
    (e_each_cons (r_iconst X (n := 1) (v := 1) dX11_wrongRule_49 (by decide) rfl)
    (e_each_cons (r_bipush X (n := 127) (v := 127) dX11_wrongRule_50 (by decide) rfl)
    (e_each_cons (r_callS X rfl (τ := sg_X11_in) (index := 75) dX11_wrongRule_52 w6_127 w6_128 cs_X11_in rfl ⟨by decide, by decide⟩ rfl)
    (e_each_cons (r_if_eq X (off := 7) (t := 62) dX11_wrongRule_55 (by decide) rfl)
    (e_each_cons (r_iconst X (n := 1) (v := 1) dX11_wrongRule_58 (by decide) rfl)
    (e_each_cons (r_goto X (off := 4) (t := 63) dX11_wrongRule_59 (by decide))
    (e_each_cons (r_iconst X (n := 0) (v := 0) dX11_wrongRule_62 (by decide) rfl)
    (e_each_cons (r_istore X (i := 7) dX11_wrongRule_63 (by decide) rfl)
    (e_each_cons (r_iload X (i := 7) dX11_wrongRule_65 rfl)
    (e_each_cons (r_if_ne X (off := 7) (t := 74) dX11_wrongRule_67 (by decide) rfl)
    (e_each_cons (r_iconst X (n := 1) (v := 1) dX11_wrongRule_70 (by decide) rfl)
    (e_each_cons (r_goto X (off := 17) (t := 88) dX11_wrongRule_71 (by decide))
    (e_each_cons (r_aload_n X (k := 0) (i := 0) rfl dX11_wrongRule_74 rfl)
    (e_each_cons (r_iload_n X (k := 1) (i := 1) rfl dX11_wrongRule_75 rfl)
    (e_each_cons (r_iload_n X (k := 2) (i := 2) rfl dX11_wrongRule_76 rfl)
    (e_each_cons (r_callV X rfl (τ := sg_X11_isThere) (index := 281) (ci := 10) dX11_wrongRule_77 (by decide) rfl w7_97 w7_99 ws_61 cs_X11_isThere rfl ⟨by decide, by decide⟩ rfl)
    (e_each_cons (r_if_eq X (off := 7) (t := 87) dX11_wrongRule_80 (by decide) rfl)
    (e_each_cons (r_iconst X (n := 0) (v := 0) dX11_wrongRule_83 (by decide) rfl)
    (e_each_cons (r_goto X (off := 4) (t := 88) dX11_wrongRule_84 (by decide))
    (e_each_cons (r_iconst X (n := 2) (v := 2) dX11_wrongRule_87 (by decide) rfl)
    (e_each_cons (r_ireti X dX11_wrongRule_88 rfl)
    (e_each_nil)))))))))))))))))))))))))))))))))))))))))))))
theorem dX11_repeat_0 : decode cX11_repeat 0 = .ok (.aload_n 0, 1) := by decide +kernel
theorem dX11_repeat_1 : decode cX11_repeat 1 = .ok (.aload_n 0, 1) := by decide +kernel
theorem dX11_repeat_2 : decode cX11_repeat 2 = .ok (.iload_n 1, 1) := by decide +kernel
theorem dX11_repeat_3 : decode cX11_repeat 3 = .ok (.iload_n 2, 1) := by decide +kernel
theorem dX11_repeat_4 : decode cX11_repeat 4 = .ok (.iload_n 3, 1) := by decide +kernel
theorem dX11_repeat_5 : decode cX11_repeat 5 = .ok (.iload 4, 2) := by decide +kernel
theorem dX11_repeat_7 : decode cX11_repeat 7 = .ok (.iload 5, 2) := by decide +kernel
theorem dX11_repeat_9 : decode cX11_repeat 9 = .ok (.iload 6, 2) := by decide +kernel
theorem dX11_repeat_11 : decode cX11_repeat 11 = .ok (.invokevirtual 385, 3) := by decide +kernel
theorem dX11_repeat_14 : decode cX11_repeat 14 = .ok (.invokevirtual 71, 3) := by decide +kernel
theorem dX11_repeat_17 : decode cX11_repeat 17 = .ok (.ifCond .eq 5, 3) := by decide +kernel
theorem dX11_repeat_20 : decode cX11_repeat 20 = .ok (.iconst 0, 1) := by decide +kernel
theorem dX11_repeat_21 : decode cX11_repeat 21 = .ok (.ireturn, 1) := by decide +kernel
theorem dX11_repeat_22 : decode cX11_repeat 22 = .ok (.aload_n 0, 1) := by decide +kernel
theorem dX11_repeat_23 : decode cX11_repeat 23 = .ok (.invokevirtual 376, 3) := by decide +kernel
theorem dX11_repeat_26 : decode cX11_repeat 26 = .ok (.iload_n 1, 1) := by decide +kernel
theorem dX11_repeat_27 : decode cX11_repeat 27 = .ok (.iload_n 2, 1) := by decide +kernel
theorem dX11_repeat_28 : decode cX11_repeat 28 = .ok (.invokestatic 278, 3) := by decide +kernel
theorem dX11_repeat_31 : decode cX11_repeat 31 = .ok (.istore 7, 2) := by decide +kernel
theorem dX11_repeat_33 : decode cX11_repeat 33 = .ok (.aload_n 0, 1) := by decide +kernel
theorem dX11_repeat_34 : decode cX11_repeat 34 = .ok (.getfield 7, 3) := by decide +kernel
theorem dX11_repeat_37 : decode cX11_repeat 37 = .ok (.iload 7, 2) := by decide +kernel
theorem dX11_repeat_39 : decode cX11_repeat 39 = .ok (.iconst 5, 1) := by decide +kernel
theorem dX11_repeat_40 : decode cX11_repeat 40 = .ok (.iadd, 1) := by decide +kernel
theorem dX11_repeat_41 : decode cX11_repeat 41 = .ok (.iload_n 3, 1) := by decide +kernel
theorem dX11_repeat_42 : decode cX11_repeat 42 = .ok (.iastore, 1) := by decide +kernel
theorem dX11_repeat_43 : decode cX11_repeat 43 = .ok (.aload_n 0, 1) := by decide +kernel
theorem dX11_repeat_44 : decode cX11_repeat 44 = .ok (.getfield 7, 3) := by decide +kernel
theorem dX11_repeat_47 : decode cX11_repeat 47 = .ok (.iload 7, 2) := by decide +kernel
theorem dX11_repeat_49 : decode cX11_repeat 49 = .ok (.bipush 6, 2) := by decide +kernel
theorem dX11_repeat_51 : decode cX11_repeat 51 = .ok (.iadd, 1) := by decide +kernel
theorem dX11_repeat_52 : decode cX11_repeat 52 = .ok (.iload_n 3, 1) := by decide +kernel
theorem dX11_repeat_53 : decode cX11_repeat 53 = .ok (.ifCond .ne 7, 3) := by decide +kernel
theorem dX11_repeat_56 : decode cX11_repeat 56 = .ok (.iconst 0, 1) := by decide +kernel
theorem dX11_repeat_57 : decode cX11_repeat 57 = .ok (.goto 5, 3) := by decide +kernel
theorem dX11_repeat_60 : decode cX11_repeat 60 = .ok (.iload 4, 2) := by decide +kernel
theorem dX11_repeat_62 : decode cX11_repeat 62 = .ok (.iastore, 1) := by decide +kernel
theorem dX11_repeat_63 : decode cX11_repeat 63 = .ok (.aload_n 0, 1) := by decide +kernel
theorem dX11_repeat_64 : decode cX11_repeat 64 = .ok (.getfield 7, 3) := by decide +kernel
theorem dX11_repeat_67 : decode cX11_repeat 67 = .ok (.iload 7, 2) := by decide +kernel
theorem dX11_repeat_69 : decode cX11_repeat 69 = .ok (.bipush 7, 2) := by decide +kernel
theorem dX11_repeat_71 : decode cX11_repeat 71 = .ok (.iadd, 1) := by decide +kernel
theorem dX11_repeat_72 : decode cX11_repeat 72 = .ok (.iload_n 3, 1) := by decide +kernel
theorem dX11_repeat_73 : decode cX11_repeat 73 = .ok (.iconst 2, 1) := by decide +kernel
theorem dX11_repeat_74 : decode cX11_repeat 74 = .ok (.if_icmp .ne 8, 3) := by decide +kernel
theorem dX11_repeat_77 : decode cX11_repeat 77 = .ok (.iload 5, 2) := by decide +kernel
theorem dX11_repeat_79 : decode cX11_repeat 79 = .ok (.goto 4, 3) := by decide +kernel
theorem dX11_repeat_82 : decode cX11_repeat 82 = .ok (.iconst 0, 1) := by decide +kernel
theorem dX11_repeat_83 : decode cX11_repeat 83 = .ok (.iastore, 1) := by decide +kernel
theorem dX11_repeat_84 : decode cX11_repeat 84 = .ok (.aload_n 0, 1) := by decide +kernel
theorem dX11_repeat_85 : decode cX11_repeat 85 = .ok (.getfield 7, 3) := by decide +kernel
theorem dX11_repeat_88 : decode cX11_repeat 88 = .ok (.iload 7, 2) := by decide +kernel
theorem dX11_repeat_90 : decode cX11_repeat 90 = .ok (.bipush 8, 2) := by decide +kernel
theorem dX11_repeat_92 : decode cX11_repeat 92 = .ok (.iadd, 1) := by decide +kernel
theorem dX11_repeat_93 : decode cX11_repeat 93 = .ok (.iload_n 3, 1) := by decide +kernel
theorem dX11_repeat_94 : decode cX11_repeat 94 = .ok (.ifCond .ne 7, 3) := by decide +kernel
theorem dX11_repeat_97 : decode cX11_repeat 97 = .ok (.iconst 1, 1) := by decide +kernel
theorem dX11_repeat_98 : decode cX11_repeat 98 = .ok (.goto 5, 3) := by decide +kernel
theorem dX11_repeat_101 : decode cX11_repeat 101 = .ok (.iload 6, 2) := by decide +kernel
theorem dX11_repeat_103 : decode cX11_repeat 103 = .ok (.iastore, 1) := by decide +kernel
theorem dX11_repeat_104 : decode cX11_repeat 104 = .ok (.aload_n 0, 1) := by decide +kernel
theorem dX11_repeat_105 : decode cX11_repeat 105 = .ok (.getfield 7, 3) := by decide +kernel
theorem dX11_repeat_108 : decode cX11_repeat 108 = .ok (.iload 7, 2) := by decide +kernel
theorem dX11_repeat_110 : decode cX11_repeat 110 = .ok (.bipush 10, 2) := by decide +kernel
theorem dX11_repeat_112 : decode cX11_repeat 112 = .ok (.iadd, 1) := by decide +kernel
theorem dX11_repeat_113 : decode cX11_repeat 113 = .ok (.iconst 1, 1) := by decide +kernel
theorem dX11_repeat_114 : decode cX11_repeat 114 = .ok (.iastore, 1) := by decide +kernel
theorem dX11_repeat_115 : decode cX11_repeat 115 = .ok (.aload_n 0, 1) := by decide +kernel
theorem dX11_repeat_116 : decode cX11_repeat 116 = .ok (.iload 7, 2) := by decide +kernel
theorem dX11_repeat_118 : decode cX11_repeat 118 = .ok (.invokevirtual 379, 3) := by decide +kernel
theorem dX11_repeat_121 : decode cX11_repeat 121 = .ok (.aload_n 0, 1) := by decide +kernel
theorem dX11_repeat_122 : decode cX11_repeat 122 = .ok (.aload_n 0, 1) := by decide +kernel
theorem dX11_repeat_123 : decode cX11_repeat 123 = .ok (.getfield 7, 3) := by decide +kernel
theorem dX11_repeat_126 : decode cX11_repeat 126 = .ok (.iload 7, 2) := by decide +kernel
theorem dX11_repeat_128 : decode cX11_repeat 128 = .ok (.invokevirtual 233, 3) := by decide +kernel
theorem dX11_repeat_131 : decode cX11_repeat 131 = .ok (.aload_n 0, 1) := by decide +kernel
theorem dX11_repeat_132 : decode cX11_repeat 132 = .ok (.getfield 95, 3) := by decide +kernel
theorem dX11_repeat_135 : decode cX11_repeat 135 = .ok (.ireturn, 1) := by decide +kernel
def pg_X11_repeat (l : Launch) (g : EG) : List (Nat × ES) := [(0, s_ldP 0), (1, s_ldP 0), (2, s_ldI 1), (3, s_ldI 2), (4, s_ldI 3), (5, s_ldI 4), (7, s_ldI 5), (9, s_ldI 6), (11, s_callV l g sg_X11_repeat sg_X11_wrongRule 10), (14, s_callV l g sg_X11_repeat sg_X11_isRefused 10), (17, s_if_eq 22), (20, s_c (.inl 0)), (21, s_ireti), (22, s_ldP 0), (23, s_callV l g sg_X11_repeat sg_X11_remembers 10), (26, s_ldI 1), (27, s_ldI 2), (28, s_callS l g sg_X11_repeat sg_X11_eventAt), (31, s_stI 7), (33, s_ldP 0), (34, s_getP 10 2), (37, s_ldI 7), (39, s_c (.inl 5)), (40, s_ii (fun x y => x + y)), (41, s_ldI 3), (42, s_iast), (43, s_ldP 0), (44, s_getP 10 2), (47, s_ldI 7), (49, s_c (.inl 6)), (51, s_ii (fun x y => x + y)), (52, s_ldI 3), (53, s_if_ne 60), (56, s_c (.inl 0)), (57, s_goto 62), (60, s_ldI 4), (62, s_iast), (63, s_ldP 0), (64, s_getP 10 2), (67, s_ldI 7), (69, s_c (.inl 7)), (71, s_ii (fun x y => x + y)), (72, s_ldI 3), (73, s_c (.inl 2)), (74, s_icmp_ne 82), (77, s_ldI 5), (79, s_goto 83), (82, s_c (.inl 0)), (83, s_iast), (84, s_ldP 0), (85, s_getP 10 2), (88, s_ldI 7), (90, s_c (.inl 8)), (92, s_ii (fun x y => x + y)), (93, s_ldI 3), (94, s_if_ne 101), (97, s_c (.inl 1)), (98, s_goto 103), (101, s_ldI 6), (103, s_iast), (104, s_ldP 0), (105, s_getP 10 2), (108, s_ldI 7), (110, s_c (.inl 10)), (112, s_ii (fun x y => x + y)), (113, s_c (.inl 1)), (114, s_iast), (115, s_ldP 0), (116, s_ldI 7), (118, s_callV l g sg_X11_repeat sg_X11_clearsDates 10), (121, s_ldP 0), (122, s_ldP 0), (123, s_getP 10 2), (126, s_ldI 7), (128, s_callV l g sg_X11_repeat sg_X11_laysDates 10), (131, s_ldP 0), (132, s_getI 10 8), (135, s_ireti)]
set_option maxRecDepth 100000 in
theorem ok_X11_repeat {l : Launch} {g : EG} : e_okp l g sg_X11_repeat "CalendarSyncModel" (pg_X11_repeat l g) := fun p e R s m args below meth c ex M0 Q X =>
    e_each_cons (r_aload_n X (k := 0) (i := 0) rfl dX11_repeat_0 rfl)
    (e_each_cons (r_aload_n X (k := 0) (i := 0) rfl dX11_repeat_1 rfl)
    (e_each_cons (r_iload_n X (k := 1) (i := 1) rfl dX11_repeat_2 rfl)
    (e_each_cons (r_iload_n X (k := 2) (i := 2) rfl dX11_repeat_3 rfl)
    (e_each_cons (r_iload_n X (k := 3) (i := 3) rfl dX11_repeat_4 rfl)
    (e_each_cons (r_iload X (i := 4) dX11_repeat_5 rfl)
    (e_each_cons (r_iload X (i := 5) dX11_repeat_7 rfl)
    (e_each_cons (r_iload X (i := 6) dX11_repeat_9 rfl)
    (e_each_cons (r_callV X rfl (τ := sg_X11_wrongRule) (index := 385) (ci := 10) dX11_repeat_11 (by decide) rfl w8_34 w8_36 ws_84 cs_X11_wrongRule rfl ⟨by decide, by decide⟩ rfl)
    (e_each_cons (r_callV X rfl (τ := sg_X11_isRefused) (index := 71) (ci := 10) dX11_repeat_14 (by decide) rfl w6_119 w6_121 ws_31 cs_X11_isRefused rfl ⟨by decide, by decide⟩ rfl)
    (e_each_cons (r_if_eq X (off := 5) (t := 22) dX11_repeat_17 (by decide) rfl)
    (e_each_cons (r_iconst X (n := 0) (v := 0) dX11_repeat_20 (by decide) rfl)
    (e_each_cons (r_ireti X dX11_repeat_21 rfl)
    (e_each_cons (r_aload_n X (k := 0) (i := 0) rfl dX11_repeat_22 rfl)
    (e_each_cons (r_callV X rfl (τ := sg_X11_remembers) (index := 376) (ci := 10) dX11_repeat_23 (by decide) rfl w8_19 w8_21 ws_82 cs_X11_remembers rfl ⟨by decide, by decide⟩ rfl)
    (e_each_cons (r_iload_n X (k := 1) (i := 1) rfl dX11_repeat_26 rfl)
    (e_each_cons (r_iload_n X (k := 2) (i := 2) rfl dX11_repeat_27 rfl)
    (e_each_cons (r_callS X rfl (τ := sg_X11_eventAt) (index := 278) dX11_repeat_28 w7_101 w7_102 cs_X11_eventAt rfl ⟨by decide, by decide⟩ rfl)
    (e_each_cons (r_istore X (i := 7) dX11_repeat_31 (by decide) rfl)
    (e_each_cons (r_aload_n X (k := 0) (i := 0) rfl dX11_repeat_33 rfl)
    (e_each_cons (r_getP X (index := 7) (ci := 10) (k := 2) dX11_repeat_34 (by decide) (by decide) rfl w6_28 rfl)
    (e_each_cons (r_iload X (i := 7) dX11_repeat_37 rfl)
    (e_each_cons (r_iconst X (n := 5) (v := 5) dX11_repeat_39 (by decide) rfl)
    (e_each_cons (r_iadd X dX11_repeat_40 rfl)
    (e_each_cons (r_iload_n X (k := 3) (i := 3) rfl dX11_repeat_41 rfl)
    (e_each_cons (r_iast X dX11_repeat_42 rfl)
    (e_each_cons (r_aload_n X (k := 0) (i := 0) rfl dX11_repeat_43 rfl)
    (e_each_cons (r_getP X (index := 7) (ci := 10) (k := 2) dX11_repeat_44 (by decide) (by decide) rfl w6_28 rfl)
    (e_each_cons (r_iload X (i := 7) dX11_repeat_47 rfl)
    (e_each_cons (r_bipush X (n := 6) (v := 6) dX11_repeat_49 (by decide) rfl)
    (e_each_cons (r_iadd X dX11_repeat_51 rfl)
    (e_each_cons (r_iload_n X (k := 3) (i := 3) rfl dX11_repeat_52 rfl)
    (e_each_cons (r_if_ne X (off := 7) (t := 60) dX11_repeat_53 (by decide) rfl)
    (e_each_cons (r_iconst X (n := 0) (v := 0) dX11_repeat_56 (by decide) rfl)
    (e_each_cons (r_goto X (off := 5) (t := 62) dX11_repeat_57 (by decide))
    (e_each_cons (r_iload X (i := 4) dX11_repeat_60 rfl)
    (e_each_cons (r_iast X dX11_repeat_62 rfl)
    (e_each_cons (r_aload_n X (k := 0) (i := 0) rfl dX11_repeat_63 rfl)
    (e_each_cons (r_getP X (index := 7) (ci := 10) (k := 2) dX11_repeat_64 (by decide) (by decide) rfl w6_28 rfl)
    (e_each_cons (r_iload X (i := 7) dX11_repeat_67 rfl)
    (e_each_cons (r_bipush X (n := 7) (v := 7) dX11_repeat_69 (by decide) rfl)
    (e_each_cons (r_iadd X dX11_repeat_71 rfl)
    (e_each_cons (r_iload_n X (k := 3) (i := 3) rfl dX11_repeat_72 rfl)
    (e_each_cons (r_iconst X (n := 2) (v := 2) dX11_repeat_73 (by decide) rfl)
    (e_each_cons (r_icmp_ne X (off := 8) (t := 82) dX11_repeat_74 (by decide) rfl)
    (e_each_cons (r_iload X (i := 5) dX11_repeat_77 rfl)
    (e_each_cons (r_goto X (off := 4) (t := 83) dX11_repeat_79 (by decide))
    (e_each_cons (r_iconst X (n := 0) (v := 0) dX11_repeat_82 (by decide) rfl)
    (e_each_cons (r_iast X dX11_repeat_83 rfl)
    (e_each_cons (r_aload_n X (k := 0) (i := 0) rfl dX11_repeat_84 rfl)
    (e_each_cons (r_getP X (index := 7) (ci := 10) (k := 2) dX11_repeat_85 (by decide) (by decide) rfl w6_28 rfl)
    (e_each_cons (r_iload X (i := 7) dX11_repeat_88 rfl)
    (e_each_cons (r_bipush X (n := 8) (v := 8) dX11_repeat_90 (by decide) rfl)
    (e_each_cons (r_iadd X dX11_repeat_92 rfl)
    (e_each_cons (r_iload_n X (k := 3) (i := 3) rfl dX11_repeat_93 rfl)
    (e_each_cons (r_if_ne X (off := 7) (t := 101) dX11_repeat_94 (by decide) rfl)
    (e_each_cons (r_iconst X (n := 1) (v := 1) dX11_repeat_97 (by decide) rfl)
    (e_each_cons (r_goto X (off := 5) (t := 103) dX11_repeat_98 (by decide))
    (e_each_cons (r_iload X (i := 6) dX11_repeat_101 rfl)
    (e_each_cons (r_iast X dX11_repeat_103 rfl)
    (e_each_cons (r_aload_n X (k := 0) (i := 0) rfl dX11_repeat_104 rfl)
    (e_each_cons (r_getP X (index := 7) (ci := 10) (k := 2) dX11_repeat_105 (by decide) (by decide) rfl w6_28 rfl)
    (e_each_cons (r_iload X (i := 7) dX11_repeat_108 rfl)
    (e_each_cons (r_bipush X (n := 10) (v := 10) dX11_repeat_110 (by decide) rfl)
    (e_each_cons (r_iadd X dX11_repeat_112 rfl)
    (e_each_cons (r_iconst X (n := 1) (v := 1) dX11_repeat_113 (by decide) rfl)
    (e_each_cons (r_iast X dX11_repeat_114 rfl)
    (e_each_cons (r_aload_n X (k := 0) (i := 0) rfl dX11_repeat_115 rfl)
    (e_each_cons (r_iload X (i := 7) dX11_repeat_116 rfl)
    (e_each_cons (r_callV X rfl (τ := sg_X11_clearsDates) (index := 379) (ci := 10) dX11_repeat_118 (by decide) rfl w8_23 w8_25 ws_83 cs_X11_clearsDates rfl ⟨by decide, by decide⟩ rfl)
    (e_each_cons (r_aload_n X (k := 0) (i := 0) rfl dX11_repeat_121 rfl)
    (e_each_cons (r_aload_n X (k := 0) (i := 0) rfl dX11_repeat_122 rfl)
    (e_each_cons (r_getP X (index := 7) (ci := 10) (k := 2) dX11_repeat_123 (by decide) (by decide) rfl w6_28 rfl)
    (e_each_cons (r_iload X (i := 7) dX11_repeat_126 rfl)
    (e_each_cons (r_callV X rfl (τ := sg_X11_laysDates) (index := 233) (ci := 10) dX11_repeat_128 (by decide) rfl w7_31 w7_33 ws_51 cs_X11_laysDates rfl ⟨by decide, by decide⟩ rfl)
    (e_each_cons (r_aload_n X (k := 0) (i := 0) rfl dX11_repeat_131 rfl)
    (e_each_cons (r_getI X (index := 95) (ci := 10) (k := 8) dX11_repeat_132 (by decide) (by decide) rfl w6_34 rfl)
    (e_each_cons (r_ireti X dX11_repeat_135 rfl)
    (e_each_nil))))))))))))))))))))))))))))))))))))))))))))))))))))))))))))))))))))))))))))))
theorem dX11_wrongDate_0 : decode cX11_wrongDate 0 = .ok (.iload_n 1, 1) := by decide +kernel
theorem dX11_wrongDate_1 : decode cX11_wrongDate 1 = .ok (.ifCond .eq 10, 3) := by decide +kernel
theorem dX11_wrongDate_4 : decode cX11_wrongDate 4 = .ok (.iload_n 2, 1) := by decide +kernel
theorem dX11_wrongDate_5 : decode cX11_wrongDate 5 = .ok (.invokestatic 306, 3) := by decide +kernel
theorem dX11_wrongDate_8 : decode cX11_wrongDate 8 = .ok (.ifCond .ne 5, 3) := by decide +kernel
theorem dX11_wrongDate_11 : decode cX11_wrongDate 11 = .ok (.iconst 1, 1) := by decide +kernel
theorem dX11_wrongDate_12 : decode cX11_wrongDate 12 = .ok (.ireturn, 1) := by decide +kernel
theorem dX11_wrongDate_13 : decode cX11_wrongDate 13 = .ok (.aload_n 0, 1) := by decide +kernel
theorem dX11_wrongDate_14 : decode cX11_wrongDate 14 = .ok (.iload_n 2, 1) := by decide +kernel
theorem dX11_wrongDate_15 : decode cX11_wrongDate 15 = .ok (.iload_n 3, 1) := by decide +kernel
theorem dX11_wrongDate_16 : decode cX11_wrongDate 16 = .ok (.invokevirtual 281, 3) := by decide +kernel
theorem dX11_wrongDate_19 : decode cX11_wrongDate 19 = .ok (.ifCond .ne 5, 3) := by decide +kernel
theorem dX11_wrongDate_22 : decode cX11_wrongDate 22 = .ok (.iconst 2, 1) := by decide +kernel
theorem dX11_wrongDate_23 : decode cX11_wrongDate 23 = .ok (.ireturn, 1) := by decide +kernel
theorem dX11_wrongDate_24 : decode cX11_wrongDate 24 = .ok (.aload_n 0, 1) := by decide +kernel
theorem dX11_wrongDate_25 : decode cX11_wrongDate 25 = .ok (.aload_n 0, 1) := by decide +kernel
theorem dX11_wrongDate_26 : decode cX11_wrongDate 26 = .ok (.getfield 7, 3) := by decide +kernel
theorem dX11_wrongDate_29 : decode cX11_wrongDate 29 = .ok (.iload_n 2, 1) := by decide +kernel
theorem dX11_wrongDate_30 : decode cX11_wrongDate 30 = .ok (.iload_n 3, 1) := by decide +kernel
theorem dX11_wrongDate_31 : decode cX11_wrongDate 31 = .ok (.invokestatic 278, 3) := by decide +kernel
theorem dX11_wrongDate_34 : decode cX11_wrongDate 34 = .ok (.invokevirtual 233, 3) := by decide +kernel
theorem dX11_wrongDate_37 : decode cX11_wrongDate 37 = .ok (.iload 4, 2) := by decide +kernel
theorem dX11_wrongDate_39 : decode cX11_wrongDate 39 = .ok (.iconst 0, 1) := by decide +kernel
theorem dX11_wrongDate_40 : decode cX11_wrongDate 40 = .ok (.aload_n 0, 1) := by decide +kernel
theorem dX11_wrongDate_41 : decode cX11_wrongDate 41 = .ok (.getfield 95, 3) := by decide +kernel
theorem dX11_wrongDate_44 : decode cX11_wrongDate 44 = .ok (.iconst 1, 1) := by decide +kernel
theorem dX11_wrongDate_45 : decode cX11_wrongDate 45 = .ok (.isub, 1) := by decide +kernel
theorem dX11_wrongDate_46 : decode cX11_wrongDate 46 = .ok (.invokestatic 75, 3) := by decide +kernel
theorem dX11_wrongDate_49 : decode cX11_wrongDate 49 = .ok (.ifCond .eq 7, 3) := by decide +kernel
theorem dX11_wrongDate_52 : decode cX11_wrongDate 52 = .ok (.iconst 0, 1) := by decide +kernel
theorem dX11_wrongDate_53 : decode cX11_wrongDate 53 = .ok (.goto 4, 3) := by decide +kernel
theorem dX11_wrongDate_56 : decode cX11_wrongDate 56 = .ok (.iconst 3, 1) := by decide +kernel
theorem dX11_wrongDate_57 : decode cX11_wrongDate 57 = .ok (.ireturn, 1) := by decide +kernel
def pg_X11_wrongDate (l : Launch) (g : EG) : List (Nat × ES) := [(0, s_ldI 1), (1, s_if_eq 11), (4, s_ldI 2), (5, s_callS l g sg_X11_wrongDate sg_X11_isSide), (8, s_if_ne 13), (11, s_c (.inl 1)), (12, s_ireti), (13, s_ldP 0), (14, s_ldI 2), (15, s_ldI 3), (16, s_callV l g sg_X11_wrongDate sg_X11_isThere 10), (19, s_if_ne 24), (22, s_c (.inl 2)), (23, s_ireti), (24, s_ldP 0), (25, s_ldP 0), (26, s_getP 10 2), (29, s_ldI 2), (30, s_ldI 3), (31, s_callS l g sg_X11_wrongDate sg_X11_eventAt), (34, s_callV l g sg_X11_wrongDate sg_X11_laysDates 10), (37, s_ldI 4), (39, s_c (.inl 0)), (40, s_ldP 0), (41, s_getI 10 8), (44, s_c (.inl 1)), (45, s_ii (fun x y => x - y)), (46, s_callS l g sg_X11_wrongDate sg_X11_in), (49, s_if_eq 56), (52, s_c (.inl 0)), (53, s_goto 57), (56, s_c (.inl 3)), (57, s_ireti)]
set_option maxRecDepth 100000 in
theorem ok_X11_wrongDate {l : Launch} {g : EG} : e_okp l g sg_X11_wrongDate "CalendarSyncModel" (pg_X11_wrongDate l g) := fun p e R s m args below meth c ex M0 Q X =>
    e_each_cons (r_iload_n X (k := 1) (i := 1) rfl dX11_wrongDate_0 rfl)
    (e_each_cons (r_if_eq X (off := 10) (t := 11) dX11_wrongDate_1 (by decide) rfl)
    (e_each_cons (r_iload_n X (k := 2) (i := 2) rfl dX11_wrongDate_4 rfl)
    (e_each_cons (r_callS X rfl (τ := sg_X11_isSide) (index := 306) dX11_wrongDate_5 w7_140 w7_141 cs_X11_isSide rfl ⟨by decide, by decide⟩ rfl)
    (e_each_cons (r_if_ne X (off := 5) (t := 13) dX11_wrongDate_8 (by decide) rfl)
    (e_each_cons (r_iconst X (n := 1) (v := 1) dX11_wrongDate_11 (by decide) rfl)
    (e_each_cons (r_ireti X dX11_wrongDate_12 rfl)
    (e_each_cons (r_aload_n X (k := 0) (i := 0) rfl dX11_wrongDate_13 rfl)
    (e_each_cons (r_iload_n X (k := 2) (i := 2) rfl dX11_wrongDate_14 rfl)
    (e_each_cons (r_iload_n X (k := 3) (i := 3) rfl dX11_wrongDate_15 rfl)
    (e_each_cons (r_callV X rfl (τ := sg_X11_isThere) (index := 281) (ci := 10) dX11_wrongDate_16 (by decide) rfl w7_97 w7_99 ws_61 cs_X11_isThere rfl ⟨by decide, by decide⟩ rfl)
    (e_each_cons (r_if_ne X (off := 5) (t := 24) dX11_wrongDate_19 (by decide) rfl)
    (e_each_cons (r_iconst X (n := 2) (v := 2) dX11_wrongDate_22 (by decide) rfl)
    (e_each_cons (r_ireti X dX11_wrongDate_23 rfl)
    (e_each_cons (r_aload_n X (k := 0) (i := 0) rfl dX11_wrongDate_24 rfl)
    (e_each_cons (r_aload_n X (k := 0) (i := 0) rfl dX11_wrongDate_25 rfl)
    (e_each_cons (r_getP X (index := 7) (ci := 10) (k := 2) dX11_wrongDate_26 (by decide) (by decide) rfl w6_28 rfl)
    (e_each_cons (r_iload_n X (k := 2) (i := 2) rfl dX11_wrongDate_29 rfl)
    (e_each_cons (r_iload_n X (k := 3) (i := 3) rfl dX11_wrongDate_30 rfl)
    (e_each_cons (r_callS X rfl (τ := sg_X11_eventAt) (index := 278) dX11_wrongDate_31 w7_101 w7_102 cs_X11_eventAt rfl ⟨by decide, by decide⟩ rfl)
    (e_each_cons (r_callV X rfl (τ := sg_X11_laysDates) (index := 233) (ci := 10) dX11_wrongDate_34 (by decide) rfl w7_31 w7_33 ws_51 cs_X11_laysDates rfl ⟨by decide, by decide⟩ rfl)
    (e_each_cons (r_iload X (i := 4) dX11_wrongDate_37 rfl)
    (e_each_cons (r_iconst X (n := 0) (v := 0) dX11_wrongDate_39 (by decide) rfl)
    (e_each_cons (r_aload_n X (k := 0) (i := 0) rfl dX11_wrongDate_40 rfl)
    (e_each_cons (r_getI X (index := 95) (ci := 10) (k := 8) dX11_wrongDate_41 (by decide) (by decide) rfl w6_34 rfl)
    (e_each_cons (r_iconst X (n := 1) (v := 1) dX11_wrongDate_44 (by decide) rfl)
    (e_each_cons (r_isub X dX11_wrongDate_45 rfl)
    (e_each_cons (r_callS X rfl (τ := sg_X11_in) (index := 75) dX11_wrongDate_46 w6_127 w6_128 cs_X11_in rfl ⟨by decide, by decide⟩ rfl)
    (e_each_cons (r_if_eq X (off := 7) (t := 56) dX11_wrongDate_49 (by decide) rfl)
    (e_each_cons (r_iconst X (n := 0) (v := 0) dX11_wrongDate_52 (by decide) rfl)
    (e_each_cons (r_goto X (off := 4) (t := 57) dX11_wrongDate_53 (by decide))
    (e_each_cons (r_iconst X (n := 3) (v := 3) dX11_wrongDate_56 (by decide) rfl)
    (e_each_cons (r_ireti X dX11_wrongDate_57 rfl)
    (e_each_nil)))))))))))))))))))))))))))))))))
theorem dX11_cancel_0 : decode cX11_cancel 0 = .ok (.aload_n 0, 1) := by decide +kernel
theorem dX11_cancel_1 : decode cX11_cancel 1 = .ok (.aload_n 0, 1) := by decide +kernel
theorem dX11_cancel_2 : decode cX11_cancel 2 = .ok (.iconst 1, 1) := by decide +kernel
theorem dX11_cancel_3 : decode cX11_cancel 3 = .ok (.iload_n 1, 1) := by decide +kernel
theorem dX11_cancel_4 : decode cX11_cancel 4 = .ok (.iload_n 2, 1) := by decide +kernel
theorem dX11_cancel_5 : decode cX11_cancel 5 = .ok (.iload_n 3, 1) := by decide +kernel
theorem dX11_cancel_6 : decode cX11_cancel 6 = .ok (.invokevirtual 388, 3) := by decide +kernel
theorem dX11_cancel_9 : decode cX11_cancel 9 = .ok (.invokevirtual 71, 3) := by decide +kernel
theorem dX11_cancel_12 : decode cX11_cancel 12 = .ok (.ifCond .eq 5, 3) := by decide +kernel
theorem dX11_cancel_15 : decode cX11_cancel 15 = .ok (.iconst 0, 1) := by decide +kernel
theorem dX11_cancel_16 : decode cX11_cancel 16 = .ok (.ireturn, 1) := by decide +kernel
theorem dX11_cancel_17 : decode cX11_cancel 17 = .ok (.aload_n 0, 1) := by decide +kernel
theorem dX11_cancel_18 : decode cX11_cancel 18 = .ok (.invokevirtual 376, 3) := by decide +kernel
theorem dX11_cancel_21 : decode cX11_cancel 21 = .ok (.iload_n 1, 1) := by decide +kernel
theorem dX11_cancel_22 : decode cX11_cancel 22 = .ok (.iload_n 2, 1) := by decide +kernel
theorem dX11_cancel_23 : decode cX11_cancel 23 = .ok (.invokestatic 278, 3) := by decide +kernel
theorem dX11_cancel_26 : decode cX11_cancel 26 = .ok (.istore 4, 2) := by decide +kernel
theorem dX11_cancel_28 : decode cX11_cancel 28 = .ok (.aload_n 0, 1) := by decide +kernel
theorem dX11_cancel_29 : decode cX11_cancel 29 = .ok (.getfield 7, 3) := by decide +kernel
theorem dX11_cancel_32 : decode cX11_cancel 32 = .ok (.iload 4, 2) := by decide +kernel
theorem dX11_cancel_34 : decode cX11_cancel 34 = .ok (.bipush 12, 2) := by decide +kernel
theorem dX11_cancel_36 : decode cX11_cancel 36 = .ok (.iadd, 1) := by decide +kernel
theorem dX11_cancel_37 : decode cX11_cancel 37 = .ok (.aload_n 0, 1) := by decide +kernel
theorem dX11_cancel_38 : decode cX11_cancel 38 = .ok (.getfield 7, 3) := by decide +kernel
theorem dX11_cancel_41 : decode cX11_cancel 41 = .ok (.iload 4, 2) := by decide +kernel
theorem dX11_cancel_43 : decode cX11_cancel 43 = .ok (.bipush 12, 2) := by decide +kernel
theorem dX11_cancel_45 : decode cX11_cancel 45 = .ok (.iadd, 1) := by decide +kernel
theorem dX11_cancel_46 : decode cX11_cancel 46 = .ok (.iaload, 1) := by decide +kernel
theorem dX11_cancel_47 : decode cX11_cancel 47 = .ok (.iconst 1, 1) := by decide +kernel
theorem dX11_cancel_48 : decode cX11_cancel 48 = .ok (.iload_n 3, 1) := by decide +kernel
theorem dX11_cancel_49 : decode cX11_cancel 49 = .ok (.ishl, 1) := by decide +kernel
theorem dX11_cancel_50 : decode cX11_cancel 50 = .ok (.ixor, 1) := by decide +kernel
theorem dX11_cancel_51 : decode cX11_cancel 51 = .ok (.iastore, 1) := by decide +kernel
theorem dX11_cancel_52 : decode cX11_cancel 52 = .ok (.aload_n 0, 1) := by decide +kernel
theorem dX11_cancel_53 : decode cX11_cancel 53 = .ok (.getfield 7, 3) := by decide +kernel
theorem dX11_cancel_56 : decode cX11_cancel 56 = .ok (.iload 4, 2) := by decide +kernel
theorem dX11_cancel_58 : decode cX11_cancel 58 = .ok (.bipush 10, 2) := by decide +kernel
theorem dX11_cancel_60 : decode cX11_cancel 60 = .ok (.iadd, 1) := by decide +kernel
theorem dX11_cancel_61 : decode cX11_cancel 61 = .ok (.iconst 1, 1) := by decide +kernel
theorem dX11_cancel_62 : decode cX11_cancel 62 = .ok (.iastore, 1) := by decide +kernel
theorem dX11_cancel_63 : decode cX11_cancel 63 = .ok (.aload_n 0, 1) := by decide +kernel
theorem dX11_cancel_64 : decode cX11_cancel 64 = .ok (.getfield 95, 3) := by decide +kernel
theorem dX11_cancel_67 : decode cX11_cancel 67 = .ok (.aload_n 0, 1) := by decide +kernel
theorem dX11_cancel_68 : decode cX11_cancel 68 = .ok (.getfield 7, 3) := by decide +kernel
theorem dX11_cancel_71 : decode cX11_cancel 71 = .ok (.iload 4, 2) := by decide +kernel
theorem dX11_cancel_73 : decode cX11_cancel 73 = .ok (.bipush 12, 2) := by decide +kernel
theorem dX11_cancel_75 : decode cX11_cancel 75 = .ok (.iadd, 1) := by decide +kernel
theorem dX11_cancel_76 : decode cX11_cancel 76 = .ok (.iaload, 1) := by decide +kernel
theorem dX11_cancel_77 : decode cX11_cancel 77 = .ok (.invokestatic 382, 3) := by decide +kernel
theorem dX11_cancel_80 : decode cX11_cancel 80 = .ok (.isub, 1) := by decide +kernel
theorem dX11_cancel_81 : decode cX11_cancel 81 = .ok (.ireturn, 1) := by decide +kernel
def pg_X11_cancel (l : Launch) (g : EG) : List (Nat × ES) := [(0, s_ldP 0), (1, s_ldP 0), (2, s_c (.inl 1)), (3, s_ldI 1), (4, s_ldI 2), (5, s_ldI 3), (6, s_callV l g sg_X11_cancel sg_X11_wrongDate 10), (9, s_callV l g sg_X11_cancel sg_X11_isRefused 10), (12, s_if_eq 17), (15, s_c (.inl 0)), (16, s_ireti), (17, s_ldP 0), (18, s_callV l g sg_X11_cancel sg_X11_remembers 10), (21, s_ldI 1), (22, s_ldI 2), (23, s_callS l g sg_X11_cancel sg_X11_eventAt), (26, s_stI 4), (28, s_ldP 0), (29, s_getP 10 2), (32, s_ldI 4), (34, s_c (.inl 12)), (36, s_ii (fun x y => x + y)), (37, s_ldP 0), (38, s_getP 10 2), (41, s_ldI 4), (43, s_c (.inl 12)), (45, s_ii (fun x y => x + y)), (46, s_iald), (47, s_c (.inl 1)), (48, s_ldI 3), (49, s_ii (fun x y => x <<< (y &&& 31))), (50, s_ii (fun x y => x ^^^ y)), (51, s_iast), (52, s_ldP 0), (53, s_getP 10 2), (56, s_ldI 4), (58, s_c (.inl 10)), (60, s_ii (fun x y => x + y)), (61, s_c (.inl 1)), (62, s_iast), (63, s_ldP 0), (64, s_getI 10 8), (67, s_ldP 0), (68, s_getP 10 2), (71, s_ldI 4), (73, s_c (.inl 12)), (75, s_ii (fun x y => x + y)), (76, s_iald), (77, s_callS l g sg_X11_cancel sg_X11_bitsIn), (80, s_ii (fun x y => x - y)), (81, s_ireti)]
set_option maxRecDepth 100000 in
theorem ok_X11_cancel {l : Launch} {g : EG} : e_okp l g sg_X11_cancel "CalendarSyncModel" (pg_X11_cancel l g) := fun p e R s m args below meth c ex M0 Q X =>
    e_each_cons (r_aload_n X (k := 0) (i := 0) rfl dX11_cancel_0 rfl)
    (e_each_cons (r_aload_n X (k := 0) (i := 0) rfl dX11_cancel_1 rfl)
    (e_each_cons (r_iconst X (n := 1) (v := 1) dX11_cancel_2 (by decide) rfl)
    (e_each_cons (r_iload_n X (k := 1) (i := 1) rfl dX11_cancel_3 rfl)
    (e_each_cons (r_iload_n X (k := 2) (i := 2) rfl dX11_cancel_4 rfl)
    (e_each_cons (r_iload_n X (k := 3) (i := 3) rfl dX11_cancel_5 rfl)
    (e_each_cons (r_callV X rfl (τ := sg_X11_wrongDate) (index := 388) (ci := 10) dX11_cancel_6 (by decide) rfl w8_42 w8_44 ws_85 cs_X11_wrongDate rfl ⟨by decide, by decide⟩ rfl)
    (e_each_cons (r_callV X rfl (τ := sg_X11_isRefused) (index := 71) (ci := 10) dX11_cancel_9 (by decide) rfl w6_119 w6_121 ws_31 cs_X11_isRefused rfl ⟨by decide, by decide⟩ rfl)
    (e_each_cons (r_if_eq X (off := 5) (t := 17) dX11_cancel_12 (by decide) rfl)
    (e_each_cons (r_iconst X (n := 0) (v := 0) dX11_cancel_15 (by decide) rfl)
    (e_each_cons (r_ireti X dX11_cancel_16 rfl)
    (e_each_cons (r_aload_n X (k := 0) (i := 0) rfl dX11_cancel_17 rfl)
    (e_each_cons (r_callV X rfl (τ := sg_X11_remembers) (index := 376) (ci := 10) dX11_cancel_18 (by decide) rfl w8_19 w8_21 ws_82 cs_X11_remembers rfl ⟨by decide, by decide⟩ rfl)
    (e_each_cons (r_iload_n X (k := 1) (i := 1) rfl dX11_cancel_21 rfl)
    (e_each_cons (r_iload_n X (k := 2) (i := 2) rfl dX11_cancel_22 rfl)
    (e_each_cons (r_callS X rfl (τ := sg_X11_eventAt) (index := 278) dX11_cancel_23 w7_101 w7_102 cs_X11_eventAt rfl ⟨by decide, by decide⟩ rfl)
    (e_each_cons (r_istore X (i := 4) dX11_cancel_26 (by decide) rfl)
    (e_each_cons (r_aload_n X (k := 0) (i := 0) rfl dX11_cancel_28 rfl)
    (e_each_cons (r_getP X (index := 7) (ci := 10) (k := 2) dX11_cancel_29 (by decide) (by decide) rfl w6_28 rfl)
    (e_each_cons (r_iload X (i := 4) dX11_cancel_32 rfl)
    (e_each_cons (r_bipush X (n := 12) (v := 12) dX11_cancel_34 (by decide) rfl)
    (e_each_cons (r_iadd X dX11_cancel_36 rfl)
    (e_each_cons (r_aload_n X (k := 0) (i := 0) rfl dX11_cancel_37 rfl)
    (e_each_cons (r_getP X (index := 7) (ci := 10) (k := 2) dX11_cancel_38 (by decide) (by decide) rfl w6_28 rfl)
    (e_each_cons (r_iload X (i := 4) dX11_cancel_41 rfl)
    (e_each_cons (r_bipush X (n := 12) (v := 12) dX11_cancel_43 (by decide) rfl)
    (e_each_cons (r_iadd X dX11_cancel_45 rfl)
    (e_each_cons (r_iald X dX11_cancel_46 rfl)
    (e_each_cons (r_iconst X (n := 1) (v := 1) dX11_cancel_47 (by decide) rfl)
    (e_each_cons (r_iload_n X (k := 3) (i := 3) rfl dX11_cancel_48 rfl)
    (e_each_cons (r_ishl X dX11_cancel_49 rfl)
    (e_each_cons (r_ixor X dX11_cancel_50 rfl)
    (e_each_cons (r_iast X dX11_cancel_51 rfl)
    (e_each_cons (r_aload_n X (k := 0) (i := 0) rfl dX11_cancel_52 rfl)
    (e_each_cons (r_getP X (index := 7) (ci := 10) (k := 2) dX11_cancel_53 (by decide) (by decide) rfl w6_28 rfl)
    (e_each_cons (r_iload X (i := 4) dX11_cancel_56 rfl)
    (e_each_cons (r_bipush X (n := 10) (v := 10) dX11_cancel_58 (by decide) rfl)
    (e_each_cons (r_iadd X dX11_cancel_60 rfl)
    (e_each_cons (r_iconst X (n := 1) (v := 1) dX11_cancel_61 (by decide) rfl)
    (e_each_cons (r_iast X dX11_cancel_62 rfl)
    (e_each_cons (r_aload_n X (k := 0) (i := 0) rfl dX11_cancel_63 rfl)
    (e_each_cons (r_getI X (index := 95) (ci := 10) (k := 8) dX11_cancel_64 (by decide) (by decide) rfl w6_34 rfl)
    (e_each_cons (r_aload_n X (k := 0) (i := 0) rfl dX11_cancel_67 rfl)
    (e_each_cons (r_getP X (index := 7) (ci := 10) (k := 2) dX11_cancel_68 (by decide) (by decide) rfl w6_28 rfl)
    (e_each_cons (r_iload X (i := 4) dX11_cancel_71 rfl)
    (e_each_cons (r_bipush X (n := 12) (v := 12) dX11_cancel_73 (by decide) rfl)
    (e_each_cons (r_iadd X dX11_cancel_75 rfl)
    (e_each_cons (r_iald X dX11_cancel_76 rfl)
    (e_each_cons (r_callS X rfl (τ := sg_X11_bitsIn) (index := 382) dX11_cancel_77 w8_27 w8_28 cs_X11_bitsIn rfl ⟨by decide, by decide⟩ rfl)
    (e_each_cons (r_isub X dX11_cancel_80 rfl)
    (e_each_cons (r_ireti X dX11_cancel_81 rfl)
    (e_each_nil)))))))))))))))))))))))))))))))))))))))))))))))))))
theorem dX11_move_0 : decode cX11_move 0 = .ok (.iload 4, 2) := by decide +kernel
theorem dX11_move_2 : decode cX11_move 2 = .ok (.iconst (-1), 1) := by decide +kernel
theorem dX11_move_3 : decode cX11_move 3 = .ok (.if_icmp .eq 19, 3) := by decide +kernel
theorem dX11_move_6 : decode cX11_move 6 = .ok (.iload 4, 2) := by decide +kernel
theorem dX11_move_8 : decode cX11_move 8 = .ok (.invokestatic 89, 3) := by decide +kernel
theorem dX11_move_11 : decode cX11_move 11 = .ok (.ifCond .eq 15, 3) := by decide +kernel
theorem dX11_move_14 : decode cX11_move 14 = .ok (.iload 5, 2) := by decide +kernel
theorem dX11_move_16 : decode cX11_move 16 = .ok (.invokestatic 271, 3) := by decide +kernel
theorem dX11_move_19 : decode cX11_move 19 = .ok (.ifCond .eq 7, 3) := by decide +kernel
theorem dX11_move_22 : decode cX11_move 22 = .ok (.iconst 1, 1) := by decide +kernel
theorem dX11_move_23 : decode cX11_move 23 = .ok (.goto 4, 3) := by decide +kernel
theorem dX11_move_26 : decode cX11_move 26 = .ok (.iconst 0, 1) := by decide +kernel
theorem dX11_move_27 : decode cX11_move 27 = .ok (.istore 6, 2) := by decide +kernel
theorem dX11_move_29 : decode cX11_move 29 = .ok (.aload_n 0, 1) := by decide +kernel
theorem dX11_move_30 : decode cX11_move 30 = .ok (.aload_n 0, 1) := by decide +kernel
theorem dX11_move_31 : decode cX11_move 31 = .ok (.iload 6, 2) := by decide +kernel
theorem dX11_move_33 : decode cX11_move 33 = .ok (.iload_n 1, 1) := by decide +kernel
theorem dX11_move_34 : decode cX11_move 34 = .ok (.iload_n 2, 1) := by decide +kernel
theorem dX11_move_35 : decode cX11_move 35 = .ok (.iload_n 3, 1) := by decide +kernel
theorem dX11_move_36 : decode cX11_move 36 = .ok (.invokevirtual 388, 3) := by decide +kernel
theorem dX11_move_39 : decode cX11_move 39 = .ok (.invokevirtual 71, 3) := by decide +kernel
theorem dX11_move_42 : decode cX11_move 42 = .ok (.ifCond .eq 5, 3) := by decide +kernel
theorem dX11_move_45 : decode cX11_move 45 = .ok (.iconst 0, 1) := by decide +kernel
theorem dX11_move_46 : decode cX11_move 46 = .ok (.ireturn, 1) := by decide +kernel
theorem dX11_move_47 : decode cX11_move 47 = .ok (.aload_n 0, 1) := by decide +kernel
theorem dX11_move_48 : decode cX11_move 48 = .ok (.invokevirtual 376, 3) := by decide +kernel
theorem dX11_move_51 : decode cX11_move 51 = .ok (.iload_n 1, 1) := by decide +kernel
theorem dX11_move_52 : decode cX11_move 52 = .ok (.iload_n 2, 1) := by decide +kernel
theorem dX11_move_53 : decode cX11_move 53 = .ok (.invokestatic 278, 3) := by decide +kernel
theorem dX11_move_56 : decode cX11_move 56 = .ok (.istore 7, 2) := by decide +kernel
theorem dX11_move_58 : decode cX11_move 58 = .ok (.aload_n 0, 1) := by decide +kernel
theorem dX11_move_59 : decode cX11_move 59 = .ok (.getfield 7, 3) := by decide +kernel
theorem dX11_move_62 : decode cX11_move 62 = .ok (.iload 7, 2) := by decide +kernel
theorem dX11_move_64 : decode cX11_move 64 = .ok (.bipush 10, 2) := by decide +kernel
theorem dX11_move_66 : decode cX11_move 66 = .ok (.iadd, 1) := by decide +kernel
theorem dX11_move_67 : decode cX11_move 67 = .ok (.iconst 1, 1) := by decide +kernel
theorem dX11_move_68 : decode cX11_move 68 = .ok (.iastore, 1) := by decide +kernel
theorem dX11_move_69 : decode cX11_move 69 = .ok (.aload_n 0, 1) := by decide +kernel
theorem dX11_move_70 : decode cX11_move 70 = .ok (.getfield 7, 3) := by decide +kernel
theorem dX11_move_73 : decode cX11_move 73 = .ok (.iload 7, 2) := by decide +kernel
theorem dX11_move_75 : decode cX11_move 75 = .ok (.bipush 13, 2) := by decide +kernel
theorem dX11_move_77 : decode cX11_move 77 = .ok (.iadd, 1) := by decide +kernel
theorem dX11_move_78 : decode cX11_move 78 = .ok (.iload 4, 2) := by decide +kernel
theorem dX11_move_80 : decode cX11_move 80 = .ok (.iconst (-1), 1) := by decide +kernel
theorem dX11_move_81 : decode cX11_move 81 = .ok (.if_icmp .ne 22, 3) := by decide +kernel
theorem dX11_move_84 : decode cX11_move 84 = .ok (.aload_n 0, 1) := by decide +kernel
theorem dX11_move_85 : decode cX11_move 85 = .ok (.getfield 7, 3) := by decide +kernel
theorem dX11_move_88 : decode cX11_move 88 = .ok (.iload 7, 2) := by decide +kernel
theorem dX11_move_90 : decode cX11_move 90 = .ok (.bipush 13, 2) := by decide +kernel
theorem dX11_move_92 : decode cX11_move 92 = .ok (.iadd, 1) := by decide +kernel
theorem dX11_move_93 : decode cX11_move 93 = .ok (.iaload, 1) := by decide +kernel
theorem dX11_move_94 : decode cX11_move 94 = .ok (.iconst 1, 1) := by decide +kernel
theorem dX11_move_95 : decode cX11_move 95 = .ok (.iload_n 3, 1) := by decide +kernel
theorem dX11_move_96 : decode cX11_move 96 = .ok (.ishl, 1) := by decide +kernel
theorem dX11_move_97 : decode cX11_move 97 = .ok (.iconst (-1), 1) := by decide +kernel
theorem dX11_move_98 : decode cX11_move 98 = .ok (.ixor, 1) := by decide +kernel
theorem dX11_move_99 : decode cX11_move 99 = .ok (.iand, 1) := by decide +kernel
theorem dX11_move_100 : decode cX11_move 100 = .ok (.goto 17, 3) := by decide +kernel
theorem dX11_move_103 : decode cX11_move 103 = .ok (.aload_n 0, 1) := by decide +kernel
theorem dX11_move_104 : decode cX11_move 104 = .ok (.getfield 7, 3) := by decide +kernel
theorem dX11_move_107 : decode cX11_move 107 = .ok (.iload 7, 2) := by decide +kernel
theorem dX11_move_109 : decode cX11_move 109 = .ok (.bipush 13, 2) := by decide +kernel
theorem dX11_move_111 : decode cX11_move 111 = .ok (.iadd, 1) := by decide +kernel
theorem dX11_move_112 : decode cX11_move 112 = .ok (.iaload, 1) := by decide +kernel
theorem dX11_move_113 : decode cX11_move 113 = .ok (.iconst 1, 1) := by decide +kernel
theorem dX11_move_114 : decode cX11_move 114 = .ok (.iload_n 3, 1) := by decide +kernel
theorem dX11_move_115 : decode cX11_move 115 = .ok (.ishl, 1) := by decide +kernel
theorem dX11_move_116 : decode cX11_move 116 = .ok (.ior, 1) := by decide +kernel
theorem dX11_move_117 : decode cX11_move 117 = .ok (.iastore, 1) := by decide +kernel
theorem dX11_move_118 : decode cX11_move 118 = .ok (.aload_n 0, 1) := by decide +kernel
theorem dX11_move_119 : decode cX11_move 119 = .ok (.getfield 7, 3) := by decide +kernel
theorem dX11_move_122 : decode cX11_move 122 = .ok (.iload 7, 2) := by decide +kernel
theorem dX11_move_124 : decode cX11_move 124 = .ok (.bipush 16, 2) := by decide +kernel
theorem dX11_move_126 : decode cX11_move 126 = .ok (.iadd, 1) := by decide +kernel
theorem dX11_move_127 : decode cX11_move 127 = .ok (.iload_n 3, 1) := by decide +kernel
theorem dX11_move_128 : decode cX11_move 128 = .ok (.iadd, 1) := by decide +kernel
theorem dX11_move_129 : decode cX11_move 129 = .ok (.iload 4, 2) := by decide +kernel
theorem dX11_move_131 : decode cX11_move 131 = .ok (.iconst (-1), 1) := by decide +kernel
theorem dX11_move_132 : decode cX11_move 132 = .ok (.if_icmp .ne 7, 3) := by decide +kernel
theorem dX11_move_135 : decode cX11_move 135 = .ok (.iconst 0, 1) := by decide +kernel
theorem dX11_move_136 : decode cX11_move 136 = .ok (.goto 5, 3) := by decide +kernel
theorem dX11_move_139 : decode cX11_move 139 = .ok (.iload 4, 2) := by decide +kernel
theorem dX11_move_141 : decode cX11_move 141 = .ok (.iastore, 1) := by decide +kernel
theorem dX11_move_142 : decode cX11_move 142 = .ok (.aload_n 0, 1) := by decide +kernel
theorem dX11_move_143 : decode cX11_move 143 = .ok (.getfield 7, 3) := by decide +kernel
theorem dX11_move_146 : decode cX11_move 146 = .ok (.iload 7, 2) := by decide +kernel
theorem dX11_move_148 : decode cX11_move 148 = .ok (.bipush 46, 2) := by decide +kernel
theorem dX11_move_150 : decode cX11_move 150 = .ok (.iadd, 1) := by decide +kernel
theorem dX11_move_151 : decode cX11_move 151 = .ok (.iload_n 3, 1) := by decide +kernel
theorem dX11_move_152 : decode cX11_move 152 = .ok (.iadd, 1) := by decide +kernel
theorem dX11_move_153 : decode cX11_move 153 = .ok (.iload 4, 2) := by decide +kernel
theorem dX11_move_155 : decode cX11_move 155 = .ok (.iconst (-1), 1) := by decide +kernel
theorem dX11_move_156 : decode cX11_move 156 = .ok (.if_icmp .ne 7, 3) := by decide +kernel
theorem dX11_move_159 : decode cX11_move 159 = .ok (.iconst 0, 1) := by decide +kernel
theorem dX11_move_160 : decode cX11_move 160 = .ok (.goto 5, 3) := by decide +kernel
theorem dX11_move_163 : decode cX11_move 163 = .ok (.iload 5, 2) := by decide +kernel
theorem dX11_move_165 : decode cX11_move 165 = .ok (.iastore, 1) := by decide +kernel
theorem dX11_move_166 : decode cX11_move 166 = .ok (.aload_n 0, 1) := by decide +kernel
theorem dX11_move_167 : decode cX11_move 167 = .ok (.iload_n 1, 1) := by decide +kernel
theorem dX11_move_168 : decode cX11_move 168 = .ok (.iload_n 2, 1) := by decide +kernel
theorem dX11_move_169 : decode cX11_move 169 = .ok (.iload_n 3, 1) := by decide +kernel
theorem dX11_move_170 : decode cX11_move 170 = .ok (.invokevirtual 296, 3) := by decide +kernel
theorem dX11_move_173 : decode cX11_move 173 = .ok (.ireturn, 1) := by decide +kernel
def pg_X11_move (l : Launch) (g : EG) : List (Nat × ES) := [(0, s_ldI 4), (2, s_c (.inl (-1))), (3, s_icmp_eq 22), (6, s_ldI 4), (8, s_callS l g sg_X11_move sg_X11_isDay), (11, s_if_eq 26), (14, s_ldI 5), (16, s_callS l g sg_X11_move sg_X11_isMinute), (19, s_if_eq 26), (22, s_c (.inl 1)), (23, s_goto 27), (26, s_c (.inl 0)), (27, s_stI 6), (29, s_ldP 0), (30, s_ldP 0), (31, s_ldI 6), (33, s_ldI 1), (34, s_ldI 2), (35, s_ldI 3), (36, s_callV l g sg_X11_move sg_X11_wrongDate 10), (39, s_callV l g sg_X11_move sg_X11_isRefused 10), (42, s_if_eq 47), (45, s_c (.inl 0)), (46, s_ireti), (47, s_ldP 0), (48, s_callV l g sg_X11_move sg_X11_remembers 10), (51, s_ldI 1), (52, s_ldI 2), (53, s_callS l g sg_X11_move sg_X11_eventAt), (56, s_stI 7), (58, s_ldP 0), (59, s_getP 10 2), (62, s_ldI 7), (64, s_c (.inl 10)), (66, s_ii (fun x y => x + y)), (67, s_c (.inl 1)), (68, s_iast), (69, s_ldP 0), (70, s_getP 10 2), (73, s_ldI 7), (75, s_c (.inl 13)), (77, s_ii (fun x y => x + y)), (78, s_ldI 4), (80, s_c (.inl (-1))), (81, s_icmp_ne 103), (84, s_ldP 0), (85, s_getP 10 2), (88, s_ldI 7), (90, s_c (.inl 13)), (92, s_ii (fun x y => x + y)), (93, s_iald), (94, s_c (.inl 1)), (95, s_ldI 3), (96, s_ii (fun x y => x <<< (y &&& 31))), (97, s_c (.inl (-1))), (98, s_ii (fun x y => x ^^^ y)), (99, s_ii (fun x y => x &&& y)), (100, s_goto 117), (103, s_ldP 0), (104, s_getP 10 2), (107, s_ldI 7), (109, s_c (.inl 13)), (111, s_ii (fun x y => x + y)), (112, s_iald), (113, s_c (.inl 1)), (114, s_ldI 3), (115, s_ii (fun x y => x <<< (y &&& 31))), (116, s_ii (fun x y => x ||| y)), (117, s_iast), (118, s_ldP 0), (119, s_getP 10 2), (122, s_ldI 7), (124, s_c (.inl 16)), (126, s_ii (fun x y => x + y)), (127, s_ldI 3), (128, s_ii (fun x y => x + y)), (129, s_ldI 4), (131, s_c (.inl (-1))), (132, s_icmp_ne 139), (135, s_c (.inl 0)), (136, s_goto 141), (139, s_ldI 4), (141, s_iast), (142, s_ldP 0), (143, s_getP 10 2), (146, s_ldI 7), (148, s_c (.inl 46)), (150, s_ii (fun x y => x + y)), (151, s_ldI 3), (152, s_ii (fun x y => x + y)), (153, s_ldI 4), (155, s_c (.inl (-1))), (156, s_icmp_ne 163), (159, s_c (.inl 0)), (160, s_goto 165), (163, s_ldI 5), (165, s_iast), (166, s_ldP 0), (167, s_ldI 1), (168, s_ldI 2), (169, s_ldI 3), (170, s_callV l g sg_X11_move sg_X11_momentOfDate 10), (173, s_ireti)]
set_option maxRecDepth 100000 in
theorem ok_X11_move {l : Launch} {g : EG} : e_okp l g sg_X11_move "CalendarSyncModel" (pg_X11_move l g) := fun p e R s m args below meth c ex M0 Q X =>
    e_each_cons (r_iload X (i := 4) dX11_move_0 rfl)
    (e_each_cons (r_iconst X (n := (-1)) (v := (-1)) dX11_move_2 (by decide) rfl)
    (e_each_cons (r_icmp_eq X (off := 19) (t := 22) dX11_move_3 (by decide) rfl)
    (e_each_cons (r_iload X (i := 4) dX11_move_6 rfl)
    (e_each_cons (r_callS X rfl (τ := sg_X11_isDay) (index := 89) dX11_move_8 w6_138 w6_139 cs_X11_isDay rfl ⟨by decide, by decide⟩ rfl)
    (e_each_cons (r_if_eq X (off := 15) (t := 26) dX11_move_11 (by decide) rfl)
    (e_each_cons (r_iload X (i := 5) dX11_move_14 rfl)
    (e_each_cons (r_callS X rfl (τ := sg_X11_isMinute) (index := 271) dX11_move_16 w7_82 w7_83 cs_X11_isMinute rfl ⟨by decide, by decide⟩ rfl)
    (e_each_cons (r_if_eq X (off := 7) (t := 26) dX11_move_19 (by decide) rfl)
    (e_each_cons (r_iconst X (n := 1) (v := 1) dX11_move_22 (by decide) rfl)
    (e_each_cons (r_goto X (off := 4) (t := 27) dX11_move_23 (by decide))
    (e_each_cons (r_iconst X (n := 0) (v := 0) dX11_move_26 (by decide) rfl)
    (e_each_cons (r_istore X (i := 6) dX11_move_27 (by decide) rfl)
    (e_each_cons (r_aload_n X (k := 0) (i := 0) rfl dX11_move_29 rfl)
    (e_each_cons (r_aload_n X (k := 0) (i := 0) rfl dX11_move_30 rfl)
    (e_each_cons (r_iload X (i := 6) dX11_move_31 rfl)
    (e_each_cons (r_iload_n X (k := 1) (i := 1) rfl dX11_move_33 rfl)
    (e_each_cons (r_iload_n X (k := 2) (i := 2) rfl dX11_move_34 rfl)
    (e_each_cons (r_iload_n X (k := 3) (i := 3) rfl dX11_move_35 rfl)
    (e_each_cons (r_callV X rfl (τ := sg_X11_wrongDate) (index := 388) (ci := 10) dX11_move_36 (by decide) rfl w8_42 w8_44 ws_85 cs_X11_wrongDate rfl ⟨by decide, by decide⟩ rfl)
    (e_each_cons (r_callV X rfl (τ := sg_X11_isRefused) (index := 71) (ci := 10) dX11_move_39 (by decide) rfl w6_119 w6_121 ws_31 cs_X11_isRefused rfl ⟨by decide, by decide⟩ rfl)
    (e_each_cons (r_if_eq X (off := 5) (t := 47) dX11_move_42 (by decide) rfl)
    (e_each_cons (r_iconst X (n := 0) (v := 0) dX11_move_45 (by decide) rfl)
    (e_each_cons (r_ireti X dX11_move_46 rfl)
    (e_each_cons (r_aload_n X (k := 0) (i := 0) rfl dX11_move_47 rfl)
    (e_each_cons (r_callV X rfl (τ := sg_X11_remembers) (index := 376) (ci := 10) dX11_move_48 (by decide) rfl w8_19 w8_21 ws_82 cs_X11_remembers rfl ⟨by decide, by decide⟩ rfl)
    (e_each_cons (r_iload_n X (k := 1) (i := 1) rfl dX11_move_51 rfl)
    (e_each_cons (r_iload_n X (k := 2) (i := 2) rfl dX11_move_52 rfl)
    (e_each_cons (r_callS X rfl (τ := sg_X11_eventAt) (index := 278) dX11_move_53 w7_101 w7_102 cs_X11_eventAt rfl ⟨by decide, by decide⟩ rfl)
    (e_each_cons (r_istore X (i := 7) dX11_move_56 (by decide) rfl)
    (e_each_cons (r_aload_n X (k := 0) (i := 0) rfl dX11_move_58 rfl)
    (e_each_cons (r_getP X (index := 7) (ci := 10) (k := 2) dX11_move_59 (by decide) (by decide) rfl w6_28 rfl)
    (e_each_cons (r_iload X (i := 7) dX11_move_62 rfl)
    (e_each_cons (r_bipush X (n := 10) (v := 10) dX11_move_64 (by decide) rfl)
    (e_each_cons (r_iadd X dX11_move_66 rfl)
    (e_each_cons (r_iconst X (n := 1) (v := 1) dX11_move_67 (by decide) rfl)
    (e_each_cons (r_iast X dX11_move_68 rfl)
    (e_each_cons (r_aload_n X (k := 0) (i := 0) rfl dX11_move_69 rfl)
    (e_each_cons (r_getP X (index := 7) (ci := 10) (k := 2) dX11_move_70 (by decide) (by decide) rfl w6_28 rfl)
    (e_each_cons (r_iload X (i := 7) dX11_move_73 rfl)
    (e_each_cons (r_bipush X (n := 13) (v := 13) dX11_move_75 (by decide) rfl)
    (e_each_cons (r_iadd X dX11_move_77 rfl)
    (e_each_cons (r_iload X (i := 4) dX11_move_78 rfl)
    (e_each_cons (r_iconst X (n := (-1)) (v := (-1)) dX11_move_80 (by decide) rfl)
    (e_each_cons (r_icmp_ne X (off := 22) (t := 103) dX11_move_81 (by decide) rfl)
    (e_each_cons (r_aload_n X (k := 0) (i := 0) rfl dX11_move_84 rfl)
    (e_each_cons (r_getP X (index := 7) (ci := 10) (k := 2) dX11_move_85 (by decide) (by decide) rfl w6_28 rfl)
    (e_each_cons (r_iload X (i := 7) dX11_move_88 rfl)
    (e_each_cons (r_bipush X (n := 13) (v := 13) dX11_move_90 (by decide) rfl)
    (e_each_cons (r_iadd X dX11_move_92 rfl)
    (e_each_cons (r_iald X dX11_move_93 rfl)
    (e_each_cons (r_iconst X (n := 1) (v := 1) dX11_move_94 (by decide) rfl)
    (e_each_cons (r_iload_n X (k := 3) (i := 3) rfl dX11_move_95 rfl)
    (e_each_cons (r_ishl X dX11_move_96 rfl)
    (e_each_cons (r_iconst X (n := (-1)) (v := (-1)) dX11_move_97 (by decide) rfl)
    (e_each_cons (r_ixor X dX11_move_98 rfl)
    (e_each_cons (r_iand X dX11_move_99 rfl)
    (e_each_cons (r_goto X (off := 17) (t := 117) dX11_move_100 (by decide))
    (e_each_cons (r_aload_n X (k := 0) (i := 0) rfl dX11_move_103 rfl)
    (e_each_cons (r_getP X (index := 7) (ci := 10) (k := 2) dX11_move_104 (by decide) (by decide) rfl w6_28 rfl)
    (e_each_cons (r_iload X (i := 7) dX11_move_107 rfl)
    (e_each_cons (r_bipush X (n := 13) (v := 13) dX11_move_109 (by decide) rfl)
    (e_each_cons (r_iadd X dX11_move_111 rfl)
    (e_each_cons (r_iald X dX11_move_112 rfl)
    (e_each_cons (r_iconst X (n := 1) (v := 1) dX11_move_113 (by decide) rfl)
    (e_each_cons (r_iload_n X (k := 3) (i := 3) rfl dX11_move_114 rfl)
    (e_each_cons (r_ishl X dX11_move_115 rfl)
    (e_each_cons (r_ior X dX11_move_116 rfl)
    (e_each_cons (r_iast X dX11_move_117 rfl)
    (e_each_cons (r_aload_n X (k := 0) (i := 0) rfl dX11_move_118 rfl)
    (e_each_cons (r_getP X (index := 7) (ci := 10) (k := 2) dX11_move_119 (by decide) (by decide) rfl w6_28 rfl)
    (e_each_cons (r_iload X (i := 7) dX11_move_122 rfl)
    (e_each_cons (r_bipush X (n := 16) (v := 16) dX11_move_124 (by decide) rfl)
    (e_each_cons (r_iadd X dX11_move_126 rfl)
    (e_each_cons (r_iload_n X (k := 3) (i := 3) rfl dX11_move_127 rfl)
    (e_each_cons (r_iadd X dX11_move_128 rfl)
    (e_each_cons (r_iload X (i := 4) dX11_move_129 rfl)
    (e_each_cons (r_iconst X (n := (-1)) (v := (-1)) dX11_move_131 (by decide) rfl)
    (e_each_cons (r_icmp_ne X (off := 7) (t := 139) dX11_move_132 (by decide) rfl)
    (e_each_cons (r_iconst X (n := 0) (v := 0) dX11_move_135 (by decide) rfl)
    (e_each_cons (r_goto X (off := 5) (t := 141) dX11_move_136 (by decide))
    (e_each_cons (r_iload X (i := 4) dX11_move_139 rfl)
    (e_each_cons (r_iast X dX11_move_141 rfl)
    (e_each_cons (r_aload_n X (k := 0) (i := 0) rfl dX11_move_142 rfl)
    (e_each_cons (r_getP X (index := 7) (ci := 10) (k := 2) dX11_move_143 (by decide) (by decide) rfl w6_28 rfl)
    (e_each_cons (r_iload X (i := 7) dX11_move_146 rfl)
    (e_each_cons (r_bipush X (n := 46) (v := 46) dX11_move_148 (by decide) rfl)
    (e_each_cons (r_iadd X dX11_move_150 rfl)
    (e_each_cons (r_iload_n X (k := 3) (i := 3) rfl dX11_move_151 rfl)
    (e_each_cons (r_iadd X dX11_move_152 rfl)
    (e_each_cons (r_iload X (i := 4) dX11_move_153 rfl)
    (e_each_cons (r_iconst X (n := (-1)) (v := (-1)) dX11_move_155 (by decide) rfl)
    (e_each_cons (r_icmp_ne X (off := 7) (t := 163) dX11_move_156 (by decide) rfl)
    (e_each_cons (r_iconst X (n := 0) (v := 0) dX11_move_159 (by decide) rfl)
    (e_each_cons (r_goto X (off := 5) (t := 165) dX11_move_160 (by decide))
    (e_each_cons (r_iload X (i := 5) dX11_move_163 rfl)
    (e_each_cons (r_iast X dX11_move_165 rfl)
    (e_each_cons (r_aload_n X (k := 0) (i := 0) rfl dX11_move_166 rfl)
    (e_each_cons (r_iload_n X (k := 1) (i := 1) rfl dX11_move_167 rfl)
    (e_each_cons (r_iload_n X (k := 2) (i := 2) rfl dX11_move_168 rfl)
    (e_each_cons (r_iload_n X (k := 3) (i := 3) rfl dX11_move_169 rfl)
    (e_each_cons (r_callV X rfl (τ := sg_X11_momentOfDate) (index := 296) (ci := 10) dX11_move_170 (by decide) rfl w7_124 w7_126 ws_65 cs_X11_momentOfDate rfl ⟨by decide, by decide⟩ rfl)
    (e_each_cons (r_ireti X dX11_move_173 rfl)
    (e_each_nil)))))))))))))))))))))))))))))))))))))))))))))))))))))))))))))))))))))))))))))))))))))))))))))))))))))))
theorem dX11_wrongReply_0 : decode cX11_wrongReply 0 = .ok (.iload 4, 2) := by decide +kernel
theorem dX11_wrongReply_2 : decode cX11_wrongReply 2 = .ok (.iconst 0, 1) := by decide +kernel
theorem dX11_wrongReply_3 : decode cX11_wrongReply 3 = .ok (.iconst 3, 1) := by decide +kernel
theorem dX11_wrongReply_4 : decode cX11_wrongReply 4 = .ok (.invokestatic 75, 3) := by decide +kernel
theorem dX11_wrongReply_7 : decode cX11_wrongReply 7 = .ok (.istore 5, 2) := by decide +kernel
theorem dX11_wrongReply_9 : decode cX11_wrongReply 9 = .ok (.aload_n 0, 1) := by decide +kernel
theorem dX11_wrongReply_10 : decode cX11_wrongReply 10 = .ok (.iload 5, 2) := by decide +kernel
theorem dX11_wrongReply_12 : decode cX11_wrongReply 12 = .ok (.iload_n 1, 1) := by decide +kernel
theorem dX11_wrongReply_13 : decode cX11_wrongReply 13 = .ok (.iload_n 2, 1) := by decide +kernel
theorem dX11_wrongReply_14 : decode cX11_wrongReply 14 = .ok (.iload_n 3, 1) := by decide +kernel
theorem dX11_wrongReply_15 : decode cX11_wrongReply 15 = .ok (.iconst (-1), 1) := by decide +kernel
theorem dX11_wrongReply_16 : decode cX11_wrongReply 16 = .ok (.if_icmp .ne 28, 3) := by decide +kernel
theorem dX11_wrongReply_19 : decode cX11_wrongReply 19 = .ok (.iload 5, 2) := by decide +kernel
theorem dX11_wrongReply_21 : decode cX11_wrongReply 21 = .ok (.ifCond .eq 23, 3) := by decide +kernel
theorem dX11_wrongReply_24 : decode cX11_wrongReply 24 = .ok (.iload_n 1, 1) := by decide +kernel
theorem dX11_wrongReply_25 : decode cX11_wrongReply 25 = .ok (.invokestatic 306, 3) := by decide +kernel
theorem dX11_wrongReply_28 : decode cX11_wrongReply 28 = .ok (.ifCond .eq 16, 3) := by decide +kernel
theorem dX11_wrongReply_31 : decode cX11_wrongReply 31 = .ok (.aload_n 0, 1) := by decide +kernel
theorem dX11_wrongReply_32 : decode cX11_wrongReply 32 = .ok (.iload_n 1, 1) := by decide +kernel
theorem dX11_wrongReply_33 : decode cX11_wrongReply 33 = .ok (.iload_n 2, 1) := by decide +kernel
theorem dX11_wrongReply_34 : decode cX11_wrongReply 34 = .ok (.invokevirtual 281, 3) := by decide +kernel
theorem dX11_wrongReply_37 : decode cX11_wrongReply 37 = .ok (.ifCond .eq 7, 3) := by decide +kernel
theorem dX11_wrongReply_40 : decode cX11_wrongReply 40 = .ok (.iconst 0, 1) := by decide +kernel
theorem dX11_wrongReply_41 : decode cX11_wrongReply 41 = .ok (.goto 4, 3) := by decide +kernel
theorem dX11_wrongReply_44 : decode cX11_wrongReply 44 = .ok (.iload_n 3, 1) := by decide +kernel
theorem dX11_wrongReply_45 : decode cX11_wrongReply 45 = .ok (.invokevirtual 388, 3) := by decide +kernel
theorem dX11_wrongReply_48 : decode cX11_wrongReply 48 = .ok (.ireturn, 1) := by decide +kernel
def pg_X11_wrongReply (l : Launch) (g : EG) : List (Nat × ES) := [(0, s_ldI 4), (2, s_c (.inl 0)), (3, s_c (.inl 3)), (4, s_callS l g sg_X11_wrongReply sg_X11_in), (7, s_stI 5), (9, s_ldP 0), (10, s_ldI 5), (12, s_ldI 1), (13, s_ldI 2), (14, s_ldI 3), (15, s_c (.inl (-1))), (16, s_icmp_ne 44), (19, s_ldI 5), (21, s_if_eq 44), (24, s_ldI 1), (25, s_callS l g sg_X11_wrongReply sg_X11_isSide), (28, s_if_eq 44), (31, s_ldP 0), (32, s_ldI 1), (33, s_ldI 2), (34, s_callV l g sg_X11_wrongReply sg_X11_isThere 10), (37, s_if_eq 44), (40, s_c (.inl 0)), (41, s_goto 45), (44, s_ldI 3), (45, s_callV l g sg_X11_wrongReply sg_X11_wrongDate 10), (48, s_ireti)]
set_option maxRecDepth 100000 in
theorem ok_X11_wrongReply {l : Launch} {g : EG} : e_okp l g sg_X11_wrongReply "CalendarSyncModel" (pg_X11_wrongReply l g) := fun p e R s m args below meth c ex M0 Q X =>
    e_each_cons (r_iload X (i := 4) dX11_wrongReply_0 rfl)
    (e_each_cons (r_iconst X (n := 0) (v := 0) dX11_wrongReply_2 (by decide) rfl)
    (e_each_cons (r_iconst X (n := 3) (v := 3) dX11_wrongReply_3 (by decide) rfl)
    (e_each_cons (r_callS X rfl (τ := sg_X11_in) (index := 75) dX11_wrongReply_4 w6_127 w6_128 cs_X11_in rfl ⟨by decide, by decide⟩ rfl)
    (e_each_cons (r_istore X (i := 5) dX11_wrongReply_7 (by decide) rfl)
    (e_each_cons (r_aload_n X (k := 0) (i := 0) rfl dX11_wrongReply_9 rfl)
    (e_each_cons (r_iload X (i := 5) dX11_wrongReply_10 rfl)
    (e_each_cons (r_iload_n X (k := 1) (i := 1) rfl dX11_wrongReply_12 rfl)
    (e_each_cons (r_iload_n X (k := 2) (i := 2) rfl dX11_wrongReply_13 rfl)
    (e_each_cons (r_iload_n X (k := 3) (i := 3) rfl dX11_wrongReply_14 rfl)
    (e_each_cons (r_iconst X (n := (-1)) (v := (-1)) dX11_wrongReply_15 (by decide) rfl)
    (e_each_cons (r_icmp_ne X (off := 28) (t := 44) dX11_wrongReply_16 (by decide) rfl)
    (e_each_cons (r_iload X (i := 5) dX11_wrongReply_19 rfl)
    (e_each_cons (r_if_eq X (off := 23) (t := 44) dX11_wrongReply_21 (by decide) rfl)
    (e_each_cons (r_iload_n X (k := 1) (i := 1) rfl dX11_wrongReply_24 rfl)
    (e_each_cons (r_callS X rfl (τ := sg_X11_isSide) (index := 306) dX11_wrongReply_25 w7_140 w7_141 cs_X11_isSide rfl ⟨by decide, by decide⟩ rfl)
    (e_each_cons (r_if_eq X (off := 16) (t := 44) dX11_wrongReply_28 (by decide) rfl)
    (e_each_cons (r_aload_n X (k := 0) (i := 0) rfl dX11_wrongReply_31 rfl)
    (e_each_cons (r_iload_n X (k := 1) (i := 1) rfl dX11_wrongReply_32 rfl)
    (e_each_cons (r_iload_n X (k := 2) (i := 2) rfl dX11_wrongReply_33 rfl)
    (e_each_cons (r_callV X rfl (τ := sg_X11_isThere) (index := 281) (ci := 10) dX11_wrongReply_34 (by decide) rfl w7_97 w7_99 ws_61 cs_X11_isThere rfl ⟨by decide, by decide⟩ rfl)
    (e_each_cons (r_if_eq X (off := 7) (t := 44) dX11_wrongReply_37 (by decide) rfl)
    (e_each_cons (r_iconst X (n := 0) (v := 0) dX11_wrongReply_40 (by decide) rfl)
    (e_each_cons (r_goto X (off := 4) (t := 45) dX11_wrongReply_41 (by decide))
    (e_each_cons (r_iload_n X (k := 3) (i := 3) rfl dX11_wrongReply_44 rfl)
    (e_each_cons (r_callV X rfl (τ := sg_X11_wrongDate) (index := 388) (ci := 10) dX11_wrongReply_45 (by decide) rfl w8_42 w8_44 ws_85 cs_X11_wrongDate rfl ⟨by decide, by decide⟩ rfl)
    (e_each_cons (r_ireti X dX11_wrongReply_48 rfl)
    (e_each_nil)))))))))))))))))))))))))))
theorem dX11_reply_0 : decode cX11_reply 0 = .ok (.aload_n 0, 1) := by decide +kernel
theorem dX11_reply_1 : decode cX11_reply 1 = .ok (.iload_n 1, 1) := by decide +kernel
theorem dX11_reply_2 : decode cX11_reply 2 = .ok (.iload_n 2, 1) := by decide +kernel
theorem dX11_reply_3 : decode cX11_reply 3 = .ok (.iload_n 3, 1) := by decide +kernel
theorem dX11_reply_4 : decode cX11_reply 4 = .ok (.iload 4, 2) := by decide +kernel
theorem dX11_reply_6 : decode cX11_reply 6 = .ok (.invokevirtual 392, 3) := by decide +kernel
theorem dX11_reply_9 : decode cX11_reply 9 = .ok (.istore 5, 2) := by decide +kernel
theorem dX11_reply_11 : decode cX11_reply 11 = .ok (.aload_n 0, 1) := by decide +kernel
theorem dX11_reply_12 : decode cX11_reply 12 = .ok (.iload_n 3, 1) := by decide +kernel
theorem dX11_reply_13 : decode cX11_reply 13 = .ok (.iconst (-1), 1) := by decide +kernel
theorem dX11_reply_14 : decode cX11_reply 14 = .ok (.if_icmp .ne 13, 3) := by decide +kernel
theorem dX11_reply_17 : decode cX11_reply 17 = .ok (.iload 5, 2) := by decide +kernel
theorem dX11_reply_19 : decode cX11_reply 19 = .ok (.iconst 3, 1) := by decide +kernel
theorem dX11_reply_20 : decode cX11_reply 20 = .ok (.if_icmp .ne 7, 3) := by decide +kernel
theorem dX11_reply_23 : decode cX11_reply 23 = .ok (.iconst 0, 1) := by decide +kernel
theorem dX11_reply_24 : decode cX11_reply 24 = .ok (.goto 5, 3) := by decide +kernel
theorem dX11_reply_27 : decode cX11_reply 27 = .ok (.iload 5, 2) := by decide +kernel
theorem dX11_reply_29 : decode cX11_reply 29 = .ok (.invokevirtual 71, 3) := by decide +kernel
theorem dX11_reply_32 : decode cX11_reply 32 = .ok (.ifCond .eq 5, 3) := by decide +kernel
theorem dX11_reply_35 : decode cX11_reply 35 = .ok (.iconst 0, 1) := by decide +kernel
theorem dX11_reply_36 : decode cX11_reply 36 = .ok (.ireturn, 1) := by decide +kernel
theorem dX11_reply_37 : decode cX11_reply 37 = .ok (.aload_n 0, 1) := by decide +kernel
theorem dX11_reply_38 : decode cX11_reply 38 = .ok (.invokevirtual 376, 3) := by decide +kernel
theorem dX11_reply_41 : decode cX11_reply 41 = .ok (.iload_n 1, 1) := by decide +kernel
theorem dX11_reply_42 : decode cX11_reply 42 = .ok (.iload_n 2, 1) := by decide +kernel
theorem dX11_reply_43 : decode cX11_reply 43 = .ok (.invokestatic 278, 3) := by decide +kernel
theorem dX11_reply_46 : decode cX11_reply 46 = .ok (.istore 6, 2) := by decide +kernel
theorem dX11_reply_48 : decode cX11_reply 48 = .ok (.iload 6, 2) := by decide +kernel
theorem dX11_reply_50 : decode cX11_reply 50 = .ok (.iload_n 3, 1) := by decide +kernel
theorem dX11_reply_51 : decode cX11_reply 51 = .ok (.iconst (-1), 1) := by decide +kernel
theorem dX11_reply_52 : decode cX11_reply 52 = .ok (.if_icmp .ne 10, 3) := by decide +kernel
theorem dX11_reply_55 : decode cX11_reply 55 = .ok (.bipush 14, 2) := by decide +kernel
theorem dX11_reply_57 : decode cX11_reply 57 = .ok (.iload_n 1, 1) := by decide +kernel
theorem dX11_reply_58 : decode cX11_reply 58 = .ok (.iadd, 1) := by decide +kernel
theorem dX11_reply_59 : decode cX11_reply 59 = .ok (.goto 12, 3) := by decide +kernel
theorem dX11_reply_62 : decode cX11_reply 62 = .ok (.bipush 76, 2) := by decide +kernel
theorem dX11_reply_64 : decode cX11_reply 64 = .ok (.bipush 30, 2) := by decide +kernel
theorem dX11_reply_66 : decode cX11_reply 66 = .ok (.iload_n 1, 1) := by decide +kernel
theorem dX11_reply_67 : decode cX11_reply 67 = .ok (.imul, 1) := by decide +kernel
theorem dX11_reply_68 : decode cX11_reply 68 = .ok (.iadd, 1) := by decide +kernel
theorem dX11_reply_69 : decode cX11_reply 69 = .ok (.iload_n 3, 1) := by decide +kernel
theorem dX11_reply_70 : decode cX11_reply 70 = .ok (.iadd, 1) := by decide +kernel
theorem dX11_reply_71 : decode cX11_reply 71 = .ok (.iadd, 1) := by decide +kernel
theorem dX11_reply_72 : decode cX11_reply 72 = .ok (.istore 7, 2) := by decide +kernel
theorem dX11_reply_74 : decode cX11_reply 74 = .ok (.aload_n 0, 1) := by decide +kernel
theorem dX11_reply_75 : decode cX11_reply 75 = .ok (.getfield 7, 3) := by decide +kernel
theorem dX11_reply_78 : decode cX11_reply 78 = .ok (.iload 7, 2) := by decide +kernel
theorem dX11_reply_80 : decode cX11_reply 80 = .ok (.iaload, 1) := by decide +kernel
theorem dX11_reply_81 : decode cX11_reply 81 = .ok (.istore 8, 2) := by decide +kernel
theorem dX11_reply_83 : decode cX11_reply 83 = .ok (.aload_n 0, 1) := by decide +kernel
theorem dX11_reply_84 : decode cX11_reply 84 = .ok (.getfield 7, 3) := by decide +kernel
theorem dX11_reply_87 : decode cX11_reply 87 = .ok (.iload 7, 2) := by decide +kernel
theorem dX11_reply_89 : decode cX11_reply 89 = .ok (.iload 4, 2) := by decide +kernel
theorem dX11_reply_91 : decode cX11_reply 91 = .ok (.iastore, 1) := by decide +kernel
theorem dX11_reply_92 : decode cX11_reply 92 = .ok (.aload_n 0, 1) := by decide +kernel
theorem dX11_reply_93 : decode cX11_reply 93 = .ok (.getfield 7, 3) := by decide +kernel
theorem dX11_reply_96 : decode cX11_reply 96 = .ok (.iload 6, 2) := by decide +kernel
theorem dX11_reply_98 : decode cX11_reply 98 = .ok (.bipush 11, 2) := by decide +kernel
theorem dX11_reply_100 : decode cX11_reply 100 = .ok (.iadd, 1) := by decide +kernel
theorem dX11_reply_101 : decode cX11_reply 101 = .ok (.iconst 1, 1) := by decide +kernel
theorem dX11_reply_102 : decode cX11_reply 102 = .ok (.iastore, 1) := by decide +kernel
theorem dX11_reply_103 : decode cX11_reply 103 = .ok (.iload 8, 2) := by decide +kernel
theorem dX11_reply_105 : decode cX11_reply 105 = .ok (.ireturn, 1) := by decide +kernel
def pg_X11_reply (l : Launch) (g : EG) : List (Nat × ES) := [(0, s_ldP 0), (1, s_ldI 1), (2, s_ldI 2), (3, s_ldI 3), (4, s_ldI 4), (6, s_callV l g sg_X11_reply sg_X11_wrongReply 10), (9, s_stI 5), (11, s_ldP 0), (12, s_ldI 3), (13, s_c (.inl (-1))), (14, s_icmp_ne 27), (17, s_ldI 5), (19, s_c (.inl 3)), (20, s_icmp_ne 27), (23, s_c (.inl 0)), (24, s_goto 29), (27, s_ldI 5), (29, s_callV l g sg_X11_reply sg_X11_isRefused 10), (32, s_if_eq 37), (35, s_c (.inl 0)), (36, s_ireti), (37, s_ldP 0), (38, s_callV l g sg_X11_reply sg_X11_remembers 10), (41, s_ldI 1), (42, s_ldI 2), (43, s_callS l g sg_X11_reply sg_X11_eventAt), (46, s_stI 6), (48, s_ldI 6), (50, s_ldI 3), (51, s_c (.inl (-1))), (52, s_icmp_ne 62), (55, s_c (.inl 14)), (57, s_ldI 1), (58, s_ii (fun x y => x + y)), (59, s_goto 71), (62, s_c (.inl 76)), (64, s_c (.inl 30)), (66, s_ldI 1), (67, s_ii (fun x y => x * y)), (68, s_ii (fun x y => x + y)), (69, s_ldI 3), (70, s_ii (fun x y => x + y)), (71, s_ii (fun x y => x + y)), (72, s_stI 7), (74, s_ldP 0), (75, s_getP 10 2), (78, s_ldI 7), (80, s_iald), (81, s_stI 8), (83, s_ldP 0), (84, s_getP 10 2), (87, s_ldI 7), (89, s_ldI 4), (91, s_iast), (92, s_ldP 0), (93, s_getP 10 2), (96, s_ldI 6), (98, s_c (.inl 11)), (100, s_ii (fun x y => x + y)), (101, s_c (.inl 1)), (102, s_iast), (103, s_ldI 8), (105, s_ireti)]
set_option maxRecDepth 100000 in
theorem ok_X11_reply {l : Launch} {g : EG} : e_okp l g sg_X11_reply "CalendarSyncModel" (pg_X11_reply l g) := fun p e R s m args below meth c ex M0 Q X =>
    e_each_cons (r_aload_n X (k := 0) (i := 0) rfl dX11_reply_0 rfl)
    (e_each_cons (r_iload_n X (k := 1) (i := 1) rfl dX11_reply_1 rfl)
    (e_each_cons (r_iload_n X (k := 2) (i := 2) rfl dX11_reply_2 rfl)
    (e_each_cons (r_iload_n X (k := 3) (i := 3) rfl dX11_reply_3 rfl)
    (e_each_cons (r_iload X (i := 4) dX11_reply_4 rfl)
    (e_each_cons (r_callV X rfl (τ := sg_X11_wrongReply) (index := 392) (ci := 10) dX11_reply_6 (by decide) rfl w8_54 w8_56 ws_86 cs_X11_wrongReply rfl ⟨by decide, by decide⟩ rfl)
    (e_each_cons (r_istore X (i := 5) dX11_reply_9 (by decide) rfl)
    (e_each_cons (r_aload_n X (k := 0) (i := 0) rfl dX11_reply_11 rfl)
    (e_each_cons (r_iload_n X (k := 3) (i := 3) rfl dX11_reply_12 rfl)
    (e_each_cons (r_iconst X (n := (-1)) (v := (-1)) dX11_reply_13 (by decide) rfl)
    (e_each_cons (r_icmp_ne X (off := 13) (t := 27) dX11_reply_14 (by decide) rfl)
    (e_each_cons (r_iload X (i := 5) dX11_reply_17 rfl)
    (e_each_cons (r_iconst X (n := 3) (v := 3) dX11_reply_19 (by decide) rfl)
    (e_each_cons (r_icmp_ne X (off := 7) (t := 27) dX11_reply_20 (by decide) rfl)
    (e_each_cons (r_iconst X (n := 0) (v := 0) dX11_reply_23 (by decide) rfl)
    (e_each_cons (r_goto X (off := 5) (t := 29) dX11_reply_24 (by decide))
    (e_each_cons (r_iload X (i := 5) dX11_reply_27 rfl)
    (e_each_cons (r_callV X rfl (τ := sg_X11_isRefused) (index := 71) (ci := 10) dX11_reply_29 (by decide) rfl w6_119 w6_121 ws_31 cs_X11_isRefused rfl ⟨by decide, by decide⟩ rfl)
    (e_each_cons (r_if_eq X (off := 5) (t := 37) dX11_reply_32 (by decide) rfl)
    (e_each_cons (r_iconst X (n := 0) (v := 0) dX11_reply_35 (by decide) rfl)
    (e_each_cons (r_ireti X dX11_reply_36 rfl)
    (e_each_cons (r_aload_n X (k := 0) (i := 0) rfl dX11_reply_37 rfl)
    (e_each_cons (r_callV X rfl (τ := sg_X11_remembers) (index := 376) (ci := 10) dX11_reply_38 (by decide) rfl w8_19 w8_21 ws_82 cs_X11_remembers rfl ⟨by decide, by decide⟩ rfl)
    (e_each_cons (r_iload_n X (k := 1) (i := 1) rfl dX11_reply_41 rfl)
    (e_each_cons (r_iload_n X (k := 2) (i := 2) rfl dX11_reply_42 rfl)
    (e_each_cons (r_callS X rfl (τ := sg_X11_eventAt) (index := 278) dX11_reply_43 w7_101 w7_102 cs_X11_eventAt rfl ⟨by decide, by decide⟩ rfl)
    (e_each_cons (r_istore X (i := 6) dX11_reply_46 (by decide) rfl)
    (e_each_cons (r_iload X (i := 6) dX11_reply_48 rfl)
    (e_each_cons (r_iload_n X (k := 3) (i := 3) rfl dX11_reply_50 rfl)
    (e_each_cons (r_iconst X (n := (-1)) (v := (-1)) dX11_reply_51 (by decide) rfl)
    (e_each_cons (r_icmp_ne X (off := 10) (t := 62) dX11_reply_52 (by decide) rfl)
    (e_each_cons (r_bipush X (n := 14) (v := 14) dX11_reply_55 (by decide) rfl)
    (e_each_cons (r_iload_n X (k := 1) (i := 1) rfl dX11_reply_57 rfl)
    (e_each_cons (r_iadd X dX11_reply_58 rfl)
    (e_each_cons (r_goto X (off := 12) (t := 71) dX11_reply_59 (by decide))
    (e_each_cons (r_bipush X (n := 76) (v := 76) dX11_reply_62 (by decide) rfl)
    (e_each_cons (r_bipush X (n := 30) (v := 30) dX11_reply_64 (by decide) rfl)
    (e_each_cons (r_iload_n X (k := 1) (i := 1) rfl dX11_reply_66 rfl)
    (e_each_cons (r_imul X dX11_reply_67 rfl)
    (e_each_cons (r_iadd X dX11_reply_68 rfl)
    (e_each_cons (r_iload_n X (k := 3) (i := 3) rfl dX11_reply_69 rfl)
    (e_each_cons (r_iadd X dX11_reply_70 rfl)
    (e_each_cons (r_iadd X dX11_reply_71 rfl)
    (e_each_cons (r_istore X (i := 7) dX11_reply_72 (by decide) rfl)
    (e_each_cons (r_aload_n X (k := 0) (i := 0) rfl dX11_reply_74 rfl)
    (e_each_cons (r_getP X (index := 7) (ci := 10) (k := 2) dX11_reply_75 (by decide) (by decide) rfl w6_28 rfl)
    (e_each_cons (r_iload X (i := 7) dX11_reply_78 rfl)
    (e_each_cons (r_iald X dX11_reply_80 rfl)
    (e_each_cons (r_istore X (i := 8) dX11_reply_81 (by decide) rfl)
    (e_each_cons (r_aload_n X (k := 0) (i := 0) rfl dX11_reply_83 rfl)
    (e_each_cons (r_getP X (index := 7) (ci := 10) (k := 2) dX11_reply_84 (by decide) (by decide) rfl w6_28 rfl)
    (e_each_cons (r_iload X (i := 7) dX11_reply_87 rfl)
    (e_each_cons (r_iload X (i := 4) dX11_reply_89 rfl)
    (e_each_cons (r_iast X dX11_reply_91 rfl)
    (e_each_cons (r_aload_n X (k := 0) (i := 0) rfl dX11_reply_92 rfl)
    (e_each_cons (r_getP X (index := 7) (ci := 10) (k := 2) dX11_reply_93 (by decide) (by decide) rfl w6_28 rfl)
    (e_each_cons (r_iload X (i := 6) dX11_reply_96 rfl)
    (e_each_cons (r_bipush X (n := 11) (v := 11) dX11_reply_98 (by decide) rfl)
    (e_each_cons (r_iadd X dX11_reply_100 rfl)
    (e_each_cons (r_iconst X (n := 1) (v := 1) dX11_reply_101 (by decide) rfl)
    (e_each_cons (r_iast X dX11_reply_102 rfl)
    (e_each_cons (r_iload X (i := 8) dX11_reply_103 rfl)
    (e_each_cons (r_ireti X dX11_reply_105 rfl)
    (e_each_nil)))))))))))))))))))))))))))))))))))))))))))))))))))))))))))))))
theorem dX11_remove_0 : decode cX11_remove 0 = .ok (.aload_n 0, 1) := by decide +kernel
theorem dX11_remove_1 : decode cX11_remove 1 = .ok (.iload_n 1, 1) := by decide +kernel
theorem dX11_remove_2 : decode cX11_remove 2 = .ok (.invokestatic 306, 3) := by decide +kernel
theorem dX11_remove_5 : decode cX11_remove 5 = .ok (.ifCond .ne 7, 3) := by decide +kernel
theorem dX11_remove_8 : decode cX11_remove 8 = .ok (.iconst 1, 1) := by decide +kernel
theorem dX11_remove_9 : decode cX11_remove 9 = .ok (.goto 17, 3) := by decide +kernel
theorem dX11_remove_12 : decode cX11_remove 12 = .ok (.aload_n 0, 1) := by decide +kernel
theorem dX11_remove_13 : decode cX11_remove 13 = .ok (.iload_n 1, 1) := by decide +kernel
theorem dX11_remove_14 : decode cX11_remove 14 = .ok (.iload_n 2, 1) := by decide +kernel
theorem dX11_remove_15 : decode cX11_remove 15 = .ok (.invokevirtual 281, 3) := by decide +kernel
theorem dX11_remove_18 : decode cX11_remove 18 = .ok (.ifCond .eq 7, 3) := by decide +kernel
theorem dX11_remove_21 : decode cX11_remove 21 = .ok (.iconst 0, 1) := by decide +kernel
theorem dX11_remove_22 : decode cX11_remove 22 = .ok (.goto 4, 3) := by decide +kernel
theorem dX11_remove_25 : decode cX11_remove 25 = .ok (.iconst 2, 1) := by decide +kernel
theorem dX11_remove_26 : decode cX11_remove 26 = .ok (.invokevirtual 71, 3) := by decide +kernel
theorem dX11_remove_29 : decode cX11_remove 29 = .ok (.ifCond .eq 5, 3) := by decide +kernel
theorem dX11_remove_32 : decode cX11_remove 32 = .ok (.iconst 0, 1) := by decide +kernel
theorem dX11_remove_33 : decode cX11_remove 33 = .ok (.ireturn, 1) := by decide +kernel
theorem dX11_remove_34 : decode cX11_remove 34 = .ok (.aload_n 0, 1) := by decide +kernel
theorem dX11_remove_35 : decode cX11_remove 35 = .ok (.invokevirtual 376, 3) := by decide +kernel
theorem dX11_remove_38 : decode cX11_remove 38 = .ok (.iload_n 1, 1) := by decide +kernel
theorem dX11_remove_39 : decode cX11_remove 39 = .ok (.iload_n 2, 1) := by decide +kernel
theorem dX11_remove_40 : decode cX11_remove 40 = .ok (.invokestatic 278, 3) := by decide +kernel
theorem dX11_remove_43 : decode cX11_remove 43 = .ok (.istore_n 3, 1) := by decide +kernel
theorem dX11_remove_44 : decode cX11_remove 44 = .ok (.aload_n 0, 1) := by decide +kernel
theorem dX11_remove_45 : decode cX11_remove 45 = .ok (.getfield 7, 3) := by decide +kernel
theorem dX11_remove_48 : decode cX11_remove 48 = .ok (.iload_n 3, 1) := by decide +kernel
theorem dX11_remove_49 : decode cX11_remove 49 = .ok (.iconst 0, 1) := by decide +kernel
theorem dX11_remove_50 : decode cX11_remove 50 = .ok (.iadd, 1) := by decide +kernel
theorem dX11_remove_51 : decode cX11_remove 51 = .ok (.iconst 0, 1) := by decide +kernel
theorem dX11_remove_52 : decode cX11_remove 52 = .ok (.iastore, 1) := by decide +kernel
theorem dX11_remove_53 : decode cX11_remove 53 = .ok (.aload_n 0, 1) := by decide +kernel
theorem dX11_remove_54 : decode cX11_remove 54 = .ok (.getfield 7, 3) := by decide +kernel
theorem dX11_remove_57 : decode cX11_remove 57 = .ok (.iload_n 3, 1) := by decide +kernel
theorem dX11_remove_58 : decode cX11_remove 58 = .ok (.bipush 10, 2) := by decide +kernel
theorem dX11_remove_60 : decode cX11_remove 60 = .ok (.iadd, 1) := by decide +kernel
theorem dX11_remove_61 : decode cX11_remove 61 = .ok (.iconst 1, 1) := by decide +kernel
theorem dX11_remove_62 : decode cX11_remove 62 = .ok (.iastore, 1) := by decide +kernel
theorem dX11_remove_63 : decode cX11_remove 63 = .ok (.aload_n 0, 1) := by decide +kernel
theorem dX11_remove_64 : decode cX11_remove 64 = .ok (.iload_n 1, 1) := by decide +kernel
theorem dX11_remove_65 : decode cX11_remove 65 = .ok (.invokevirtual 284, 3) := by decide +kernel
theorem dX11_remove_68 : decode cX11_remove 68 = .ok (.invokestatic 382, 3) := by decide +kernel
theorem dX11_remove_71 : decode cX11_remove 71 = .ok (.ireturn, 1) := by decide +kernel
def pg_X11_remove (l : Launch) (g : EG) : List (Nat × ES) := [(0, s_ldP 0), (1, s_ldI 1), (2, s_callS l g sg_X11_remove sg_X11_isSide), (5, s_if_ne 12), (8, s_c (.inl 1)), (9, s_goto 26), (12, s_ldP 0), (13, s_ldI 1), (14, s_ldI 2), (15, s_callV l g sg_X11_remove sg_X11_isThere 10), (18, s_if_eq 25), (21, s_c (.inl 0)), (22, s_goto 26), (25, s_c (.inl 2)), (26, s_callV l g sg_X11_remove sg_X11_isRefused 10), (29, s_if_eq 34), (32, s_c (.inl 0)), (33, s_ireti), (34, s_ldP 0), (35, s_callV l g sg_X11_remove sg_X11_remembers 10), (38, s_ldI 1), (39, s_ldI 2), (40, s_callS l g sg_X11_remove sg_X11_eventAt), (43, s_stI 3), (44, s_ldP 0), (45, s_getP 10 2), (48, s_ldI 3), (49, s_c (.inl 0)), (50, s_ii (fun x y => x + y)), (51, s_c (.inl 0)), (52, s_iast), (53, s_ldP 0), (54, s_getP 10 2), (57, s_ldI 3), (58, s_c (.inl 10)), (60, s_ii (fun x y => x + y)), (61, s_c (.inl 1)), (62, s_iast), (63, s_ldP 0), (64, s_ldI 1), (65, s_callV l g sg_X11_remove sg_X11_eventsOf 10), (68, s_callS l g sg_X11_remove sg_X11_bitsIn), (71, s_ireti)]
set_option maxRecDepth 100000 in
theorem ok_X11_remove {l : Launch} {g : EG} : e_okp l g sg_X11_remove "CalendarSyncModel" (pg_X11_remove l g) := fun p e R s m args below meth c ex M0 Q X =>
    e_each_cons (r_aload_n X (k := 0) (i := 0) rfl dX11_remove_0 rfl)
    (e_each_cons (r_iload_n X (k := 1) (i := 1) rfl dX11_remove_1 rfl)
    (e_each_cons (r_callS X rfl (τ := sg_X11_isSide) (index := 306) dX11_remove_2 w7_140 w7_141 cs_X11_isSide rfl ⟨by decide, by decide⟩ rfl)
    (e_each_cons (r_if_ne X (off := 7) (t := 12) dX11_remove_5 (by decide) rfl)
    (e_each_cons (r_iconst X (n := 1) (v := 1) dX11_remove_8 (by decide) rfl)
    (e_each_cons (r_goto X (off := 17) (t := 26) dX11_remove_9 (by decide))
    (e_each_cons (r_aload_n X (k := 0) (i := 0) rfl dX11_remove_12 rfl)
    (e_each_cons (r_iload_n X (k := 1) (i := 1) rfl dX11_remove_13 rfl)
    (e_each_cons (r_iload_n X (k := 2) (i := 2) rfl dX11_remove_14 rfl)
    (e_each_cons (r_callV X rfl (τ := sg_X11_isThere) (index := 281) (ci := 10) dX11_remove_15 (by decide) rfl w7_97 w7_99 ws_61 cs_X11_isThere rfl ⟨by decide, by decide⟩ rfl)
    (e_each_cons (r_if_eq X (off := 7) (t := 25) dX11_remove_18 (by decide) rfl)
    (e_each_cons (r_iconst X (n := 0) (v := 0) dX11_remove_21 (by decide) rfl)
    (e_each_cons (r_goto X (off := 4) (t := 26) dX11_remove_22 (by decide))
    (e_each_cons (r_iconst X (n := 2) (v := 2) dX11_remove_25 (by decide) rfl)
    (e_each_cons (r_callV X rfl (τ := sg_X11_isRefused) (index := 71) (ci := 10) dX11_remove_26 (by decide) rfl w6_119 w6_121 ws_31 cs_X11_isRefused rfl ⟨by decide, by decide⟩ rfl)
    (e_each_cons (r_if_eq X (off := 5) (t := 34) dX11_remove_29 (by decide) rfl)
    (e_each_cons (r_iconst X (n := 0) (v := 0) dX11_remove_32 (by decide) rfl)
    (e_each_cons (r_ireti X dX11_remove_33 rfl)
    (e_each_cons (r_aload_n X (k := 0) (i := 0) rfl dX11_remove_34 rfl)
    (e_each_cons (r_callV X rfl (τ := sg_X11_remembers) (index := 376) (ci := 10) dX11_remove_35 (by decide) rfl w8_19 w8_21 ws_82 cs_X11_remembers rfl ⟨by decide, by decide⟩ rfl)
    (e_each_cons (r_iload_n X (k := 1) (i := 1) rfl dX11_remove_38 rfl)
    (e_each_cons (r_iload_n X (k := 2) (i := 2) rfl dX11_remove_39 rfl)
    (e_each_cons (r_callS X rfl (τ := sg_X11_eventAt) (index := 278) dX11_remove_40 w7_101 w7_102 cs_X11_eventAt rfl ⟨by decide, by decide⟩ rfl)
    (e_each_cons (r_istore_n X (k := 3) (i := 3) rfl dX11_remove_43 (by decide) rfl)
    (e_each_cons (r_aload_n X (k := 0) (i := 0) rfl dX11_remove_44 rfl)
    (e_each_cons (r_getP X (index := 7) (ci := 10) (k := 2) dX11_remove_45 (by decide) (by decide) rfl w6_28 rfl)
    (e_each_cons (r_iload_n X (k := 3) (i := 3) rfl dX11_remove_48 rfl)
    (e_each_cons (r_iconst X (n := 0) (v := 0) dX11_remove_49 (by decide) rfl)
    (e_each_cons (r_iadd X dX11_remove_50 rfl)
    (e_each_cons (r_iconst X (n := 0) (v := 0) dX11_remove_51 (by decide) rfl)
    (e_each_cons (r_iast X dX11_remove_52 rfl)
    (e_each_cons (r_aload_n X (k := 0) (i := 0) rfl dX11_remove_53 rfl)
    (e_each_cons (r_getP X (index := 7) (ci := 10) (k := 2) dX11_remove_54 (by decide) (by decide) rfl w6_28 rfl)
    (e_each_cons (r_iload_n X (k := 3) (i := 3) rfl dX11_remove_57 rfl)
    (e_each_cons (r_bipush X (n := 10) (v := 10) dX11_remove_58 (by decide) rfl)
    (e_each_cons (r_iadd X dX11_remove_60 rfl)
    (e_each_cons (r_iconst X (n := 1) (v := 1) dX11_remove_61 (by decide) rfl)
    (e_each_cons (r_iast X dX11_remove_62 rfl)
    (e_each_cons (r_aload_n X (k := 0) (i := 0) rfl dX11_remove_63 rfl)
    (e_each_cons (r_iload_n X (k := 1) (i := 1) rfl dX11_remove_64 rfl)
    (e_each_cons (r_callV X rfl (τ := sg_X11_eventsOf) (index := 284) (ci := 10) dX11_remove_65 (by decide) rfl w7_93 w7_95 ws_60 cs_X11_eventsOf rfl ⟨by decide, by decide⟩ rfl)
    (e_each_cons (r_callS X rfl (τ := sg_X11_bitsIn) (index := 382) dX11_remove_68 w8_27 w8_28 cs_X11_bitsIn rfl ⟨by decide, by decide⟩ rfl)
    (e_each_cons (r_ireti X dX11_remove_71 rfl)
    (e_each_nil)))))))))))))))))))))))))))))))))))))))))))
theorem dX11_changesStore_0 : decode cX11_changesStore 0 = .ok (.aload_n 0, 1) := by decide +kernel
theorem dX11_changesStore_1 : decode cX11_changesStore 1 = .ok (.getfield 7, 3) := by decide +kernel
theorem dX11_changesStore_4 : decode cX11_changesStore 4 = .ok (.iconst 0, 1) := by decide +kernel
theorem dX11_changesStore_5 : decode cX11_changesStore 5 = .ok (.aload_n 0, 1) := by decide +kernel
theorem dX11_changesStore_6 : decode cX11_changesStore 6 = .ok (.getfield 7, 3) := by decide +kernel
theorem dX11_changesStore_9 : decode cX11_changesStore 9 = .ok (.iconst 0, 1) := by decide +kernel
theorem dX11_changesStore_10 : decode cX11_changesStore 10 = .ok (.iaload, 1) := by decide +kernel
theorem dX11_changesStore_11 : decode cX11_changesStore 11 = .ok (.iconst 1, 1) := by decide +kernel
theorem dX11_changesStore_12 : decode cX11_changesStore 12 = .ok (.iadd, 1) := by decide +kernel
theorem dX11_changesStore_13 : decode cX11_changesStore 13 = .ok (.iastore, 1) := by decide +kernel
theorem dX11_changesStore_14 : decode cX11_changesStore 14 = .ok (.aload_n 0, 1) := by decide +kernel
theorem dX11_changesStore_15 : decode cX11_changesStore 15 = .ok (.getfield 7, 3) := by decide +kernel
theorem dX11_changesStore_18 : decode cX11_changesStore 18 = .ok (.bipush 23, 2) := by decide +kernel
theorem dX11_changesStore_20 : decode cX11_changesStore 20 = .ok (.iaload, 1) := by decide +kernel
theorem dX11_changesStore_21 : decode cX11_changesStore 21 = .ok (.bipush 8, 2) := by decide +kernel
theorem dX11_changesStore_23 : decode cX11_changesStore 23 = .ok (.if_icmp .ne 46, 3) := by decide +kernel
theorem dX11_changesStore_26 : decode cX11_changesStore 26 = .ok (.iconst 1, 1) := by decide +kernel
theorem dX11_changesStore_27 : decode cX11_changesStore 27 = .ok (.istore_n 2, 1) := by decide +kernel
theorem dX11_changesStore_28 : decode cX11_changesStore 28 = .ok (.iload_n 2, 1) := by decide +kernel
theorem dX11_changesStore_29 : decode cX11_changesStore 29 = .ok (.bipush 8, 2) := by decide +kernel
theorem dX11_changesStore_31 : decode cX11_changesStore 31 = .ok (.if_icmp .ge 29, 3) := by decide +kernel
theorem dX11_changesStore_34 : decode cX11_changesStore 34 = .ok (.aload_n 0, 1) := by decide +kernel
theorem dX11_changesStore_35 : decode cX11_changesStore 35 = .ok (.getfield 7, 3) := by decide +kernel
theorem dX11_changesStore_38 : decode cX11_changesStore 38 = .ok (.bipush 15, 2) := by decide +kernel
theorem dX11_changesStore_40 : decode cX11_changesStore 40 = .ok (.iload_n 2, 1) := by decide +kernel
theorem dX11_changesStore_41 : decode cX11_changesStore 41 = .ok (.iadd, 1) := by decide +kernel
theorem dX11_changesStore_42 : decode cX11_changesStore 42 = .ok (.iconst 1, 1) := by decide +kernel
theorem dX11_changesStore_43 : decode cX11_changesStore 43 = .ok (.isub, 1) := by decide +kernel
theorem dX11_changesStore_44 : decode cX11_changesStore 44 = .ok (.aload_n 0, 1) := by decide +kernel
theorem dX11_changesStore_45 : decode cX11_changesStore 45 = .ok (.getfield 7, 3) := by decide +kernel
theorem dX11_changesStore_48 : decode cX11_changesStore 48 = .ok (.bipush 15, 2) := by decide +kernel
theorem dX11_changesStore_50 : decode cX11_changesStore 50 = .ok (.iload_n 2, 1) := by decide +kernel
theorem dX11_changesStore_51 : decode cX11_changesStore 51 = .ok (.iadd, 1) := by decide +kernel
theorem dX11_changesStore_52 : decode cX11_changesStore 52 = .ok (.iaload, 1) := by decide +kernel
theorem dX11_changesStore_53 : decode cX11_changesStore 53 = .ok (.iastore, 1) := by decide +kernel
theorem dX11_changesStore_54 : decode cX11_changesStore 54 = .ok (.iinc 2 1, 3) := by decide +kernel
theorem dX11_changesStore_57 : decode cX11_changesStore 57 = .ok (.goto (-29), 3) := by decide +kernel
theorem dX11_changesStore_60 : decode cX11_changesStore 60 = .ok (.aload_n 0, 1) := by decide +kernel
theorem dX11_changesStore_61 : decode cX11_changesStore 61 = .ok (.getfield 7, 3) := by decide +kernel
theorem dX11_changesStore_64 : decode cX11_changesStore 64 = .ok (.bipush 23, 2) := by decide +kernel
theorem dX11_changesStore_66 : decode cX11_changesStore 66 = .ok (.bipush 7, 2) := by decide +kernel
theorem dX11_changesStore_68 : decode cX11_changesStore 68 = .ok (.iastore, 1) := by decide +kernel
theorem dX11_changesStore_69 : decode cX11_changesStore 69 = .ok (.aload_n 0, 1) := by decide +kernel
theorem dX11_changesStore_70 : decode cX11_changesStore 70 = .ok (.getfield 7, 3) := by decide +kernel
theorem dX11_changesStore_73 : decode cX11_changesStore 73 = .ok (.bipush 15, 2) := by decide +kernel
theorem dX11_changesStore_75 : decode cX11_changesStore 75 = .ok (.aload_n 0, 1) := by decide +kernel
theorem dX11_changesStore_76 : decode cX11_changesStore 76 = .ok (.getfield 7, 3) := by decide +kernel
theorem dX11_changesStore_79 : decode cX11_changesStore 79 = .ok (.bipush 23, 2) := by decide +kernel
theorem dX11_changesStore_81 : decode cX11_changesStore 81 = .ok (.iaload, 1) := by decide +kernel
theorem dX11_changesStore_82 : decode cX11_changesStore 82 = .ok (.iadd, 1) := by decide +kernel
theorem dX11_changesStore_83 : decode cX11_changesStore 83 = .ok (.iload_n 1, 1) := by decide +kernel
theorem dX11_changesStore_84 : decode cX11_changesStore 84 = .ok (.iastore, 1) := by decide +kernel
theorem dX11_changesStore_85 : decode cX11_changesStore 85 = .ok (.aload_n 0, 1) := by decide +kernel
theorem dX11_changesStore_86 : decode cX11_changesStore 86 = .ok (.getfield 7, 3) := by decide +kernel
theorem dX11_changesStore_89 : decode cX11_changesStore 89 = .ok (.bipush 23, 2) := by decide +kernel
theorem dX11_changesStore_91 : decode cX11_changesStore 91 = .ok (.aload_n 0, 1) := by decide +kernel
theorem dX11_changesStore_92 : decode cX11_changesStore 92 = .ok (.getfield 7, 3) := by decide +kernel
theorem dX11_changesStore_95 : decode cX11_changesStore 95 = .ok (.bipush 23, 2) := by decide +kernel
theorem dX11_changesStore_97 : decode cX11_changesStore 97 = .ok (.iaload, 1) := by decide +kernel
theorem dX11_changesStore_98 : decode cX11_changesStore 98 = .ok (.iconst 1, 1) := by decide +kernel
theorem dX11_changesStore_99 : decode cX11_changesStore 99 = .ok (.iadd, 1) := by decide +kernel
theorem dX11_changesStore_100 : decode cX11_changesStore 100 = .ok (.iastore, 1) := by decide +kernel
theorem dX11_changesStore_101 : decode cX11_changesStore 101 = .ok (.return_, 1) := by decide +kernel
def pg_X11_changesStore (l : Launch) (g : EG) : List (Nat × ES) := [(0, s_ldP 0), (1, s_getP 10 2), (4, s_c (.inl 0)), (5, s_ldP 0), (6, s_getP 10 2), (9, s_c (.inl 0)), (10, s_iald), (11, s_c (.inl 1)), (12, s_ii (fun x y => x + y)), (13, s_iast), (14, s_ldP 0), (15, s_getP 10 2), (18, s_c (.inl 23)), (20, s_iald), (21, s_c (.inl 8)), (23, s_icmp_ne 69), (26, s_c (.inl 1)), (27, s_stI 2), (28, s_ldI 2), (29, s_c (.inl 8)), (31, s_icmp_ge 60), (34, s_ldP 0), (35, s_getP 10 2), (38, s_c (.inl 15)), (40, s_ldI 2), (41, s_ii (fun x y => x + y)), (42, s_c (.inl 1)), (43, s_ii (fun x y => x - y)), (44, s_ldP 0), (45, s_getP 10 2), (48, s_c (.inl 15)), (50, s_ldI 2), (51, s_ii (fun x y => x + y)), (52, s_iald), (53, s_iast), (54, s_iinc 2 1), (57, s_goto 28), (60, s_ldP 0), (61, s_getP 10 2), (64, s_c (.inl 23)), (66, s_c (.inl 7)), (68, s_iast), (69, s_ldP 0), (70, s_getP 10 2), (73, s_c (.inl 15)), (75, s_ldP 0), (76, s_getP 10 2), (79, s_c (.inl 23)), (81, s_iald), (82, s_ii (fun x y => x + y)), (83, s_ldI 1), (84, s_iast), (85, s_ldP 0), (86, s_getP 10 2), (89, s_c (.inl 23)), (91, s_ldP 0), (92, s_getP 10 2), (95, s_c (.inl 23)), (97, s_iald), (98, s_c (.inl 1)), (99, s_ii (fun x y => x + y)), (100, s_iast), (101, s_vret)]
set_option maxRecDepth 100000 in
theorem ok_X11_changesStore {l : Launch} {g : EG} : e_okp l g sg_X11_changesStore "CalendarSyncModel" (pg_X11_changesStore l g) := fun p e R s m args below meth c ex M0 Q X =>
    e_each_cons (r_aload_n X (k := 0) (i := 0) rfl dX11_changesStore_0 rfl)
    (e_each_cons (r_getP X (index := 7) (ci := 10) (k := 2) dX11_changesStore_1 (by decide) (by decide) rfl w6_28 rfl)
    (e_each_cons (r_iconst X (n := 0) (v := 0) dX11_changesStore_4 (by decide) rfl)
    (e_each_cons (r_aload_n X (k := 0) (i := 0) rfl dX11_changesStore_5 rfl)
    (e_each_cons (r_getP X (index := 7) (ci := 10) (k := 2) dX11_changesStore_6 (by decide) (by decide) rfl w6_28 rfl)
    (e_each_cons (r_iconst X (n := 0) (v := 0) dX11_changesStore_9 (by decide) rfl)
    (e_each_cons (r_iald X dX11_changesStore_10 rfl)
    (e_each_cons (r_iconst X (n := 1) (v := 1) dX11_changesStore_11 (by decide) rfl)
    (e_each_cons (r_iadd X dX11_changesStore_12 rfl)
    (e_each_cons (r_iast X dX11_changesStore_13 rfl)
    (e_each_cons (r_aload_n X (k := 0) (i := 0) rfl dX11_changesStore_14 rfl)
    (e_each_cons (r_getP X (index := 7) (ci := 10) (k := 2) dX11_changesStore_15 (by decide) (by decide) rfl w6_28 rfl)
    (e_each_cons (r_bipush X (n := 23) (v := 23) dX11_changesStore_18 (by decide) rfl)
    (e_each_cons (r_iald X dX11_changesStore_20 rfl)
    (e_each_cons (r_bipush X (n := 8) (v := 8) dX11_changesStore_21 (by decide) rfl)
    (e_each_cons (r_icmp_ne X (off := 46) (t := 69) dX11_changesStore_23 (by decide) rfl)
    (e_each_cons (r_iconst X (n := 1) (v := 1) dX11_changesStore_26 (by decide) rfl)
    (e_each_cons (r_istore_n X (k := 2) (i := 2) rfl dX11_changesStore_27 (by decide) rfl)
    (e_each_cons (r_iload_n X (k := 2) (i := 2) rfl dX11_changesStore_28 rfl)
    (e_each_cons (r_bipush X (n := 8) (v := 8) dX11_changesStore_29 (by decide) rfl)
    (e_each_cons (r_icmp_ge X (off := 29) (t := 60) dX11_changesStore_31 (by decide) rfl)
    (e_each_cons (r_aload_n X (k := 0) (i := 0) rfl dX11_changesStore_34 rfl)
    (e_each_cons (r_getP X (index := 7) (ci := 10) (k := 2) dX11_changesStore_35 (by decide) (by decide) rfl w6_28 rfl)
    (e_each_cons (r_bipush X (n := 15) (v := 15) dX11_changesStore_38 (by decide) rfl)
    (e_each_cons (r_iload_n X (k := 2) (i := 2) rfl dX11_changesStore_40 rfl)
    (e_each_cons (r_iadd X dX11_changesStore_41 rfl)
    (e_each_cons (r_iconst X (n := 1) (v := 1) dX11_changesStore_42 (by decide) rfl)
    (e_each_cons (r_isub X dX11_changesStore_43 rfl)
    (e_each_cons (r_aload_n X (k := 0) (i := 0) rfl dX11_changesStore_44 rfl)
    (e_each_cons (r_getP X (index := 7) (ci := 10) (k := 2) dX11_changesStore_45 (by decide) (by decide) rfl w6_28 rfl)
    (e_each_cons (r_bipush X (n := 15) (v := 15) dX11_changesStore_48 (by decide) rfl)
    (e_each_cons (r_iload_n X (k := 2) (i := 2) rfl dX11_changesStore_50 rfl)
    (e_each_cons (r_iadd X dX11_changesStore_51 rfl)
    (e_each_cons (r_iald X dX11_changesStore_52 rfl)
    (e_each_cons (r_iast X dX11_changesStore_53 rfl)
    (e_each_cons (r_iinc X (i := 2) (n := 1) (d := 1) dX11_changesStore_54 (by decide) (by decide) rfl)
    (e_each_cons (r_goto X (off := (-29)) (t := 28) dX11_changesStore_57 (by decide))
    (e_each_cons (r_aload_n X (k := 0) (i := 0) rfl dX11_changesStore_60 rfl)
    (e_each_cons (r_getP X (index := 7) (ci := 10) (k := 2) dX11_changesStore_61 (by decide) (by decide) rfl w6_28 rfl)
    (e_each_cons (r_bipush X (n := 23) (v := 23) dX11_changesStore_64 (by decide) rfl)
    (e_each_cons (r_bipush X (n := 7) (v := 7) dX11_changesStore_66 (by decide) rfl)
    (e_each_cons (r_iast X dX11_changesStore_68 rfl)
    (e_each_cons (r_aload_n X (k := 0) (i := 0) rfl dX11_changesStore_69 rfl)
    (e_each_cons (r_getP X (index := 7) (ci := 10) (k := 2) dX11_changesStore_70 (by decide) (by decide) rfl w6_28 rfl)
    (e_each_cons (r_bipush X (n := 15) (v := 15) dX11_changesStore_73 (by decide) rfl)
    (e_each_cons (r_aload_n X (k := 0) (i := 0) rfl dX11_changesStore_75 rfl)
    (e_each_cons (r_getP X (index := 7) (ci := 10) (k := 2) dX11_changesStore_76 (by decide) (by decide) rfl w6_28 rfl)
    (e_each_cons (r_bipush X (n := 23) (v := 23) dX11_changesStore_79 (by decide) rfl)
    (e_each_cons (r_iald X dX11_changesStore_81 rfl)
    (e_each_cons (r_iadd X dX11_changesStore_82 rfl)
    (e_each_cons (r_iload_n X (k := 1) (i := 1) rfl dX11_changesStore_83 rfl)
    (e_each_cons (r_iast X dX11_changesStore_84 rfl)
    (e_each_cons (r_aload_n X (k := 0) (i := 0) rfl dX11_changesStore_85 rfl)
    (e_each_cons (r_getP X (index := 7) (ci := 10) (k := 2) dX11_changesStore_86 (by decide) (by decide) rfl w6_28 rfl)
    (e_each_cons (r_bipush X (n := 23) (v := 23) dX11_changesStore_89 (by decide) rfl)
    (e_each_cons (r_aload_n X (k := 0) (i := 0) rfl dX11_changesStore_91 rfl)
    (e_each_cons (r_getP X (index := 7) (ci := 10) (k := 2) dX11_changesStore_92 (by decide) (by decide) rfl w6_28 rfl)
    (e_each_cons (r_bipush X (n := 23) (v := 23) dX11_changesStore_95 (by decide) rfl)
    (e_each_cons (r_iald X dX11_changesStore_97 rfl)
    (e_each_cons (r_iconst X (n := 1) (v := 1) dX11_changesStore_98 (by decide) rfl)
    (e_each_cons (r_iadd X dX11_changesStore_99 rfl)
    (e_each_cons (r_iast X dX11_changesStore_100 rfl)
    (e_each_cons (r_vret X dX11_changesStore_101 rfl)
    (e_each_nil)))))))))))))))))))))))))))))))))))))))))))))))))))))))))))))))
theorem dX11_setZone_0 : decode cX11_setZone 0 = .ok (.iload_n 2, 1) := by decide +kernel
theorem dX11_setZone_1 : decode cX11_setZone 1 = .ok (.sipush (-720), 3) := by decide +kernel
theorem dX11_setZone_4 : decode cX11_setZone 4 = .ok (.sipush 720, 3) := by decide +kernel
theorem dX11_setZone_7 : decode cX11_setZone 7 = .ok (.invokestatic 75, 3) := by decide +kernel
theorem dX11_setZone_10 : decode cX11_setZone 10 = .ok (.ifCond .eq 35, 3) := by decide +kernel
theorem dX11_setZone_13 : decode cX11_setZone 13 = .ok (.iload_n 3, 1) := by decide +kernel
theorem dX11_setZone_14 : decode cX11_setZone 14 = .ok (.iconst (-1), 1) := by decide +kernel
theorem dX11_setZone_15 : decode cX11_setZone 15 = .ok (.if_icmp .eq 26, 3) := by decide +kernel
theorem dX11_setZone_18 : decode cX11_setZone 18 = .ok (.iload_n 3, 1) := by decide +kernel
theorem dX11_setZone_19 : decode cX11_setZone 19 = .ok (.iconst 0, 1) := by decide +kernel
theorem dX11_setZone_20 : decode cX11_setZone 20 = .ok (.sipush 364, 3) := by decide +kernel
theorem dX11_setZone_23 : decode cX11_setZone 23 = .ok (.invokestatic 75, 3) := by decide +kernel
theorem dX11_setZone_26 : decode cX11_setZone 26 = .ok (.ifCond .eq 19, 3) := by decide +kernel
theorem dX11_setZone_29 : decode cX11_setZone 29 = .ok (.iload 4, 2) := by decide +kernel
theorem dX11_setZone_31 : decode cX11_setZone 31 = .ok (.iload_n 3, 1) := by decide +kernel
theorem dX11_setZone_32 : decode cX11_setZone 32 = .ok (.sipush 364, 3) := by decide +kernel
theorem dX11_setZone_35 : decode cX11_setZone 35 = .ok (.invokestatic 75, 3) := by decide +kernel
theorem dX11_setZone_38 : decode cX11_setZone 38 = .ok (.ifCond .eq 7, 3) := by decide +kernel
theorem dX11_setZone_41 : decode cX11_setZone 41 = .ok (.iconst 1, 1) := by decide +kernel
theorem dX11_setZone_42 : decode cX11_setZone 42 = .ok (.goto 4, 3) := by decide +kernel
theorem dX11_setZone_45 : decode cX11_setZone 45 = .ok (.iconst 0, 1) := by decide +kernel
theorem dX11_setZone_46 : decode cX11_setZone 46 = .ok (.istore 5, 2) := by decide +kernel
theorem dX11_setZone_48 : decode cX11_setZone 48 = .ok (.aload_n 0, 1) := by decide +kernel
theorem dX11_setZone_49 : decode cX11_setZone 49 = .ok (.aload_n 0, 1) := by decide +kernel
theorem dX11_setZone_50 : decode cX11_setZone 50 = .ok (.iload_n 1, 1) := by decide +kernel
theorem dX11_setZone_51 : decode cX11_setZone 51 = .ok (.invokevirtual 268, 3) := by decide +kernel
theorem dX11_setZone_54 : decode cX11_setZone 54 = .ok (.ifCond .ne 7, 3) := by decide +kernel
theorem dX11_setZone_57 : decode cX11_setZone 57 = .ok (.iconst 1, 1) := by decide +kernel
theorem dX11_setZone_58 : decode cX11_setZone 58 = .ok (.goto 13, 3) := by decide +kernel
theorem dX11_setZone_61 : decode cX11_setZone 61 = .ok (.iload 5, 2) := by decide +kernel
theorem dX11_setZone_63 : decode cX11_setZone 63 = .ok (.ifCond .eq 7, 3) := by decide +kernel
theorem dX11_setZone_66 : decode cX11_setZone 66 = .ok (.iconst 0, 1) := by decide +kernel
theorem dX11_setZone_67 : decode cX11_setZone 67 = .ok (.goto 4, 3) := by decide +kernel
theorem dX11_setZone_70 : decode cX11_setZone 70 = .ok (.iconst 2, 1) := by decide +kernel
theorem dX11_setZone_71 : decode cX11_setZone 71 = .ok (.invokevirtual 71, 3) := by decide +kernel
theorem dX11_setZone_74 : decode cX11_setZone 74 = .ok (.ifCond .eq 5, 3) := by decide +kernel
theorem dX11_setZone_77 : decode cX11_setZone 77 = .ok (.iconst 0, 1) := by decide +kernel
theorem dX11_setZone_78 : decode cX11_setZone 78 = .ok (.ireturn, 1) := by decide +kernel
theorem dX11_setZone_79 : decode cX11_setZone 79 = .ok (.aload_n 0, 1) := by decide +kernel
theorem dX11_setZone_80 : decode cX11_setZone 80 = .ok (.invokevirtual 376, 3) := by decide +kernel
theorem dX11_setZone_83 : decode cX11_setZone 83 = .ok (.aload_n 0, 1) := by decide +kernel
theorem dX11_setZone_84 : decode cX11_setZone 84 = .ok (.iconst (-1), 1) := by decide +kernel
theorem dX11_setZone_85 : decode cX11_setZone 85 = .ok (.invokevirtual 395, 3) := by decide +kernel
theorem dX11_setZone_88 : decode cX11_setZone 88 = .ok (.iconst 2, 1) := by decide +kernel
theorem dX11_setZone_89 : decode cX11_setZone 89 = .ok (.iload_n 1, 1) := by decide +kernel
theorem dX11_setZone_90 : decode cX11_setZone 90 = .ok (.invokestatic 261, 3) := by decide +kernel
theorem dX11_setZone_93 : decode cX11_setZone 93 = .ok (.istore 6, 2) := by decide +kernel
theorem dX11_setZone_95 : decode cX11_setZone 95 = .ok (.aload_n 0, 1) := by decide +kernel
theorem dX11_setZone_96 : decode cX11_setZone 96 = .ok (.getfield 7, 3) := by decide +kernel
theorem dX11_setZone_99 : decode cX11_setZone 99 = .ok (.iload 6, 2) := by decide +kernel
theorem dX11_setZone_101 : decode cX11_setZone 101 = .ok (.iconst 0, 1) := by decide +kernel
theorem dX11_setZone_102 : decode cX11_setZone 102 = .ok (.iadd, 1) := by decide +kernel
theorem dX11_setZone_103 : decode cX11_setZone 103 = .ok (.iload_n 2, 1) := by decide +kernel
theorem dX11_setZone_104 : decode cX11_setZone 104 = .ok (.iastore, 1) := by decide +kernel
theorem dX11_setZone_105 : decode cX11_setZone 105 = .ok (.aload_n 0, 1) := by decide +kernel
theorem dX11_setZone_106 : decode cX11_setZone 106 = .ok (.getfield 7, 3) := by decide +kernel
theorem dX11_setZone_109 : decode cX11_setZone 109 = .ok (.iload 6, 2) := by decide +kernel
theorem dX11_setZone_111 : decode cX11_setZone 111 = .ok (.iconst 1, 1) := by decide +kernel
theorem dX11_setZone_112 : decode cX11_setZone 112 = .ok (.iadd, 1) := by decide +kernel
theorem dX11_setZone_113 : decode cX11_setZone 113 = .ok (.iload_n 3, 1) := by decide +kernel
theorem dX11_setZone_114 : decode cX11_setZone 114 = .ok (.iastore, 1) := by decide +kernel
theorem dX11_setZone_115 : decode cX11_setZone 115 = .ok (.aload_n 0, 1) := by decide +kernel
theorem dX11_setZone_116 : decode cX11_setZone 116 = .ok (.getfield 7, 3) := by decide +kernel
theorem dX11_setZone_119 : decode cX11_setZone 119 = .ok (.iload 6, 2) := by decide +kernel
theorem dX11_setZone_121 : decode cX11_setZone 121 = .ok (.iconst 2, 1) := by decide +kernel
theorem dX11_setZone_122 : decode cX11_setZone 122 = .ok (.iadd, 1) := by decide +kernel
theorem dX11_setZone_123 : decode cX11_setZone 123 = .ok (.iload_n 3, 1) := by decide +kernel
theorem dX11_setZone_124 : decode cX11_setZone 124 = .ok (.iconst (-1), 1) := by decide +kernel
theorem dX11_setZone_125 : decode cX11_setZone 125 = .ok (.if_icmp .ne 7, 3) := by decide +kernel
theorem dX11_setZone_128 : decode cX11_setZone 128 = .ok (.iconst (-1), 1) := by decide +kernel
theorem dX11_setZone_129 : decode cX11_setZone 129 = .ok (.goto 5, 3) := by decide +kernel
theorem dX11_setZone_132 : decode cX11_setZone 132 = .ok (.iload 4, 2) := by decide +kernel
theorem dX11_setZone_134 : decode cX11_setZone 134 = .ok (.iastore, 1) := by decide +kernel
theorem dX11_setZone_135 : decode cX11_setZone 135 = .ok (.aload_n 0, 1) := by decide +kernel
theorem dX11_setZone_136 : decode cX11_setZone 136 = .ok (.getfield 7, 3) := by decide +kernel
theorem dX11_setZone_139 : decode cX11_setZone 139 = .ok (.iload 6, 2) := by decide +kernel
theorem dX11_setZone_141 : decode cX11_setZone 141 = .ok (.iconst 3, 1) := by decide +kernel
theorem dX11_setZone_142 : decode cX11_setZone 142 = .ok (.iadd, 1) := by decide +kernel
theorem dX11_setZone_143 : decode cX11_setZone 143 = .ok (.aload_n 0, 1) := by decide +kernel
theorem dX11_setZone_144 : decode cX11_setZone 144 = .ok (.getfield 7, 3) := by decide +kernel
theorem dX11_setZone_147 : decode cX11_setZone 147 = .ok (.iconst 0, 1) := by decide +kernel
theorem dX11_setZone_148 : decode cX11_setZone 148 = .ok (.iaload, 1) := by decide +kernel
theorem dX11_setZone_149 : decode cX11_setZone 149 = .ok (.iastore, 1) := by decide +kernel
theorem dX11_setZone_150 : decode cX11_setZone 150 = .ok (.aload_n 0, 1) := by decide +kernel
theorem dX11_setZone_151 : decode cX11_setZone 151 = .ok (.getfield 7, 3) := by decide +kernel
theorem dX11_setZone_154 : decode cX11_setZone 154 = .ok (.iconst 0, 1) := by decide +kernel
theorem dX11_setZone_155 : decode cX11_setZone 155 = .ok (.iaload, 1) := by decide +kernel
theorem dX11_setZone_156 : decode cX11_setZone 156 = .ok (.ireturn, 1) := by decide +kernel
def pg_X11_setZone (l : Launch) (g : EG) : List (Nat × ES) := [(0, s_ldI 2), (1, s_c (.inl (-720))), (4, s_c (.inl 720)), (7, s_callS l g sg_X11_setZone sg_X11_in), (10, s_if_eq 45), (13, s_ldI 3), (14, s_c (.inl (-1))), (15, s_icmp_eq 41), (18, s_ldI 3), (19, s_c (.inl 0)), (20, s_c (.inl 364)), (23, s_callS l g sg_X11_setZone sg_X11_in), (26, s_if_eq 45), (29, s_ldI 4), (31, s_ldI 3), (32, s_c (.inl 364)), (35, s_callS l g sg_X11_setZone sg_X11_in), (38, s_if_eq 45), (41, s_c (.inl 1)), (42, s_goto 46), (45, s_c (.inl 0)), (46, s_stI 5), (48, s_ldP 0), (49, s_ldP 0), (50, s_ldI 1), (51, s_callV l g sg_X11_setZone sg_X11_isZone 10), (54, s_if_ne 61), (57, s_c (.inl 1)), (58, s_goto 71), (61, s_ldI 5), (63, s_if_eq 70), (66, s_c (.inl 0)), (67, s_goto 71), (70, s_c (.inl 2)), (71, s_callV l g sg_X11_setZone sg_X11_isRefused 10), (74, s_if_eq 79), (77, s_c (.inl 0)), (78, s_ireti), (79, s_ldP 0), (80, s_callV l g sg_X11_setZone sg_X11_remembers 10), (83, s_ldP 0), (84, s_c (.inl (-1))), (85, s_callV l g sg_X11_setZone sg_X11_changesStore 10), (88, s_c (.inl 2)), (89, s_ldI 1), (90, s_callS l g sg_X11_setZone sg_X11_zoneAt), (93, s_stI 6), (95, s_ldP 0), (96, s_getP 10 2), (99, s_ldI 6), (101, s_c (.inl 0)), (102, s_ii (fun x y => x + y)), (103, s_ldI 2), (104, s_iast), (105, s_ldP 0), (106, s_getP 10 2), (109, s_ldI 6), (111, s_c (.inl 1)), (112, s_ii (fun x y => x + y)), (113, s_ldI 3), (114, s_iast), (115, s_ldP 0), (116, s_getP 10 2), (119, s_ldI 6), (121, s_c (.inl 2)), (122, s_ii (fun x y => x + y)), (123, s_ldI 3), (124, s_c (.inl (-1))), (125, s_icmp_ne 132), (128, s_c (.inl (-1))), (129, s_goto 134), (132, s_ldI 4), (134, s_iast), (135, s_ldP 0), (136, s_getP 10 2), (139, s_ldI 6), (141, s_c (.inl 3)), (142, s_ii (fun x y => x + y)), (143, s_ldP 0), (144, s_getP 10 2), (147, s_c (.inl 0)), (148, s_iald), (149, s_iast), (150, s_ldP 0), (151, s_getP 10 2), (154, s_c (.inl 0)), (155, s_iald), (156, s_ireti)]
set_option maxRecDepth 100000 in
theorem ok_X11_setZone {l : Launch} {g : EG} : e_okp l g sg_X11_setZone "CalendarSyncModel" (pg_X11_setZone l g) := fun p e R s m args below meth c ex M0 Q X =>
    e_each_cons (r_iload_n X (k := 2) (i := 2) rfl dX11_setZone_0 rfl)
    (e_each_cons (r_sipush X (n := (-720)) (v := (-720)) dX11_setZone_1 (by decide) rfl)
    (e_each_cons (r_sipush X (n := 720) (v := 720) dX11_setZone_4 (by decide) rfl)
    (e_each_cons (r_callS X rfl (τ := sg_X11_in) (index := 75) dX11_setZone_7 w6_127 w6_128 cs_X11_in rfl ⟨by decide, by decide⟩ rfl)
    (e_each_cons (r_if_eq X (off := 35) (t := 45) dX11_setZone_10 (by decide) rfl)
    (e_each_cons (r_iload_n X (k := 3) (i := 3) rfl dX11_setZone_13 rfl)
    (e_each_cons (r_iconst X (n := (-1)) (v := (-1)) dX11_setZone_14 (by decide) rfl)
    (e_each_cons (r_icmp_eq X (off := 26) (t := 41) dX11_setZone_15 (by decide) rfl)
    (e_each_cons (r_iload_n X (k := 3) (i := 3) rfl dX11_setZone_18 rfl)
    (e_each_cons (r_iconst X (n := 0) (v := 0) dX11_setZone_19 (by decide) rfl)
    (e_each_cons (r_sipush X (n := 364) (v := 364) dX11_setZone_20 (by decide) rfl)
    (e_each_cons (r_callS X rfl (τ := sg_X11_in) (index := 75) dX11_setZone_23 w6_127 w6_128 cs_X11_in rfl ⟨by decide, by decide⟩ rfl)
    (e_each_cons (r_if_eq X (off := 19) (t := 45) dX11_setZone_26 (by decide) rfl)
    (e_each_cons (r_iload X (i := 4) dX11_setZone_29 rfl)
    (e_each_cons (r_iload_n X (k := 3) (i := 3) rfl dX11_setZone_31 rfl)
    (e_each_cons (r_sipush X (n := 364) (v := 364) dX11_setZone_32 (by decide) rfl)
    (e_each_cons (r_callS X rfl (τ := sg_X11_in) (index := 75) dX11_setZone_35 w6_127 w6_128 cs_X11_in rfl ⟨by decide, by decide⟩ rfl)
    (e_each_cons (r_if_eq X (off := 7) (t := 45) dX11_setZone_38 (by decide) rfl)
    (e_each_cons (r_iconst X (n := 1) (v := 1) dX11_setZone_41 (by decide) rfl)
    (e_each_cons (r_goto X (off := 4) (t := 46) dX11_setZone_42 (by decide))
    (e_each_cons (r_iconst X (n := 0) (v := 0) dX11_setZone_45 (by decide) rfl)
    (e_each_cons (r_istore X (i := 5) dX11_setZone_46 (by decide) rfl)
    (e_each_cons (r_aload_n X (k := 0) (i := 0) rfl dX11_setZone_48 rfl)
    (e_each_cons (r_aload_n X (k := 0) (i := 0) rfl dX11_setZone_49 rfl)
    (e_each_cons (r_iload_n X (k := 1) (i := 1) rfl dX11_setZone_50 rfl)
    (e_each_cons (r_callV X rfl (τ := sg_X11_isZone) (index := 268) (ci := 10) dX11_setZone_51 (by decide) rfl w7_71 w7_73 ws_58 cs_X11_isZone rfl ⟨by decide, by decide⟩ rfl)
    (e_each_cons (r_if_ne X (off := 7) (t := 61) dX11_setZone_54 (by decide) rfl)
    (e_each_cons (r_iconst X (n := 1) (v := 1) dX11_setZone_57 (by decide) rfl)
    (e_each_cons (r_goto X (off := 13) (t := 71) dX11_setZone_58 (by decide))
    (e_each_cons (r_iload X (i := 5) dX11_setZone_61 rfl)
    (e_each_cons (r_if_eq X (off := 7) (t := 70) dX11_setZone_63 (by decide) rfl)
    (e_each_cons (r_iconst X (n := 0) (v := 0) dX11_setZone_66 (by decide) rfl)
    (e_each_cons (r_goto X (off := 4) (t := 71) dX11_setZone_67 (by decide))
    (e_each_cons (r_iconst X (n := 2) (v := 2) dX11_setZone_70 (by decide) rfl)
    (e_each_cons (r_callV X rfl (τ := sg_X11_isRefused) (index := 71) (ci := 10) dX11_setZone_71 (by decide) rfl w6_119 w6_121 ws_31 cs_X11_isRefused rfl ⟨by decide, by decide⟩ rfl)
    (e_each_cons (r_if_eq X (off := 5) (t := 79) dX11_setZone_74 (by decide) rfl)
    (e_each_cons (r_iconst X (n := 0) (v := 0) dX11_setZone_77 (by decide) rfl)
    (e_each_cons (r_ireti X dX11_setZone_78 rfl)
    (e_each_cons (r_aload_n X (k := 0) (i := 0) rfl dX11_setZone_79 rfl)
    (e_each_cons (r_callV X rfl (τ := sg_X11_remembers) (index := 376) (ci := 10) dX11_setZone_80 (by decide) rfl w8_19 w8_21 ws_82 cs_X11_remembers rfl ⟨by decide, by decide⟩ rfl)
    (e_each_cons (r_aload_n X (k := 0) (i := 0) rfl dX11_setZone_83 rfl)
    (e_each_cons (r_iconst X (n := (-1)) (v := (-1)) dX11_setZone_84 (by decide) rfl)
    (e_each_cons (r_callV X rfl (τ := sg_X11_changesStore) (index := 395) (ci := 10) dX11_setZone_85 (by decide) rfl w8_66 w8_68 ws_87 cs_X11_changesStore rfl ⟨by decide, by decide⟩ rfl)
    (e_each_cons (r_iconst X (n := 2) (v := 2) dX11_setZone_88 (by decide) rfl)
    (e_each_cons (r_iload_n X (k := 1) (i := 1) rfl dX11_setZone_89 rfl)
    (e_each_cons (r_callS X rfl (τ := sg_X11_zoneAt) (index := 261) dX11_setZone_90 w7_75 w7_76 cs_X11_zoneAt rfl ⟨by decide, by decide⟩ rfl)
    (e_each_cons (r_istore X (i := 6) dX11_setZone_93 (by decide) rfl)
    (e_each_cons (r_aload_n X (k := 0) (i := 0) rfl dX11_setZone_95 rfl)
    (e_each_cons (r_getP X (index := 7) (ci := 10) (k := 2) dX11_setZone_96 (by decide) (by decide) rfl w6_28 rfl)
    (e_each_cons (r_iload X (i := 6) dX11_setZone_99 rfl)
    (e_each_cons (r_iconst X (n := 0) (v := 0) dX11_setZone_101 (by decide) rfl)
    (e_each_cons (r_iadd X dX11_setZone_102 rfl)
    (e_each_cons (r_iload_n X (k := 2) (i := 2) rfl dX11_setZone_103 rfl)
    (e_each_cons (r_iast X dX11_setZone_104 rfl)
    (e_each_cons (r_aload_n X (k := 0) (i := 0) rfl dX11_setZone_105 rfl)
    (e_each_cons (r_getP X (index := 7) (ci := 10) (k := 2) dX11_setZone_106 (by decide) (by decide) rfl w6_28 rfl)
    (e_each_cons (r_iload X (i := 6) dX11_setZone_109 rfl)
    (e_each_cons (r_iconst X (n := 1) (v := 1) dX11_setZone_111 (by decide) rfl)
    (e_each_cons (r_iadd X dX11_setZone_112 rfl)
    (e_each_cons (r_iload_n X (k := 3) (i := 3) rfl dX11_setZone_113 rfl)
    (e_each_cons (r_iast X dX11_setZone_114 rfl)
    (e_each_cons (r_aload_n X (k := 0) (i := 0) rfl dX11_setZone_115 rfl)
    (e_each_cons (r_getP X (index := 7) (ci := 10) (k := 2) dX11_setZone_116 (by decide) (by decide) rfl w6_28 rfl)
    (e_each_cons (r_iload X (i := 6) dX11_setZone_119 rfl)
    (e_each_cons (r_iconst X (n := 2) (v := 2) dX11_setZone_121 (by decide) rfl)
    (e_each_cons (r_iadd X dX11_setZone_122 rfl)
    (e_each_cons (r_iload_n X (k := 3) (i := 3) rfl dX11_setZone_123 rfl)
    (e_each_cons (r_iconst X (n := (-1)) (v := (-1)) dX11_setZone_124 (by decide) rfl)
    (e_each_cons (r_icmp_ne X (off := 7) (t := 132) dX11_setZone_125 (by decide) rfl)
    (e_each_cons (r_iconst X (n := (-1)) (v := (-1)) dX11_setZone_128 (by decide) rfl)
    (e_each_cons (r_goto X (off := 5) (t := 134) dX11_setZone_129 (by decide))
    (e_each_cons (r_iload X (i := 4) dX11_setZone_132 rfl)
    (e_each_cons (r_iast X dX11_setZone_134 rfl)
    (e_each_cons (r_aload_n X (k := 0) (i := 0) rfl dX11_setZone_135 rfl)
    (e_each_cons (r_getP X (index := 7) (ci := 10) (k := 2) dX11_setZone_136 (by decide) (by decide) rfl w6_28 rfl)
    (e_each_cons (r_iload X (i := 6) dX11_setZone_139 rfl)
    (e_each_cons (r_iconst X (n := 3) (v := 3) dX11_setZone_141 (by decide) rfl)
    (e_each_cons (r_iadd X dX11_setZone_142 rfl)
    (e_each_cons (r_aload_n X (k := 0) (i := 0) rfl dX11_setZone_143 rfl)
    (e_each_cons (r_getP X (index := 7) (ci := 10) (k := 2) dX11_setZone_144 (by decide) (by decide) rfl w6_28 rfl)
    (e_each_cons (r_iconst X (n := 0) (v := 0) dX11_setZone_147 (by decide) rfl)
    (e_each_cons (r_iald X dX11_setZone_148 rfl)
    (e_each_cons (r_iast X dX11_setZone_149 rfl)
    (e_each_cons (r_aload_n X (k := 0) (i := 0) rfl dX11_setZone_150 rfl)
    (e_each_cons (r_getP X (index := 7) (ci := 10) (k := 2) dX11_setZone_151 (by decide) (by decide) rfl w6_28 rfl)
    (e_each_cons (r_iconst X (n := 0) (v := 0) dX11_setZone_154 (by decide) rfl)
    (e_each_cons (r_iald X dX11_setZone_155 rfl)
    (e_each_cons (r_ireti X dX11_setZone_156 rfl)
    (e_each_nil))))))))))))))))))))))))))))))))))))))))))))))))))))))))))))))))))))))))))))))))))))))))
theorem dX11_copiesEvent_0 : decode cX11_copiesEvent 0 = .ok (.iload_n 1, 1) := by decide +kernel
theorem dX11_copiesEvent_1 : decode cX11_copiesEvent 1 = .ok (.iload_n 3, 1) := by decide +kernel
theorem dX11_copiesEvent_2 : decode cX11_copiesEvent 2 = .ok (.invokestatic 278, 3) := by decide +kernel
theorem dX11_copiesEvent_5 : decode cX11_copiesEvent 5 = .ok (.istore 4, 2) := by decide +kernel
theorem dX11_copiesEvent_7 : decode cX11_copiesEvent 7 = .ok (.iload_n 2, 1) := by decide +kernel
theorem dX11_copiesEvent_8 : decode cX11_copiesEvent 8 = .ok (.iload_n 3, 1) := by decide +kernel
theorem dX11_copiesEvent_9 : decode cX11_copiesEvent 9 = .ok (.invokestatic 278, 3) := by decide +kernel
theorem dX11_copiesEvent_12 : decode cX11_copiesEvent 12 = .ok (.istore 5, 2) := by decide +kernel
theorem dX11_copiesEvent_14 : decode cX11_copiesEvent 14 = .ok (.iconst 0, 1) := by decide +kernel
theorem dX11_copiesEvent_15 : decode cX11_copiesEvent 15 = .ok (.istore 6, 2) := by decide +kernel
theorem dX11_copiesEvent_17 : decode cX11_copiesEvent 17 = .ok (.iload 6, 2) := by decide +kernel
theorem dX11_copiesEvent_19 : decode cX11_copiesEvent 19 = .ok (.sipush 136, 3) := by decide +kernel
theorem dX11_copiesEvent_22 : decode cX11_copiesEvent 22 = .ok (.if_icmp .ge 29, 3) := by decide +kernel
theorem dX11_copiesEvent_25 : decode cX11_copiesEvent 25 = .ok (.aload_n 0, 1) := by decide +kernel
theorem dX11_copiesEvent_26 : decode cX11_copiesEvent 26 = .ok (.getfield 7, 3) := by decide +kernel
theorem dX11_copiesEvent_29 : decode cX11_copiesEvent 29 = .ok (.iload 5, 2) := by decide +kernel
theorem dX11_copiesEvent_31 : decode cX11_copiesEvent 31 = .ok (.iload 6, 2) := by decide +kernel
theorem dX11_copiesEvent_33 : decode cX11_copiesEvent 33 = .ok (.iadd, 1) := by decide +kernel
theorem dX11_copiesEvent_34 : decode cX11_copiesEvent 34 = .ok (.aload_n 0, 1) := by decide +kernel
theorem dX11_copiesEvent_35 : decode cX11_copiesEvent 35 = .ok (.getfield 7, 3) := by decide +kernel
theorem dX11_copiesEvent_38 : decode cX11_copiesEvent 38 = .ok (.iload 4, 2) := by decide +kernel
theorem dX11_copiesEvent_40 : decode cX11_copiesEvent 40 = .ok (.iload 6, 2) := by decide +kernel
theorem dX11_copiesEvent_42 : decode cX11_copiesEvent 42 = .ok (.iadd, 1) := by decide +kernel
theorem dX11_copiesEvent_43 : decode cX11_copiesEvent 43 = .ok (.iaload, 1) := by decide +kernel
theorem dX11_copiesEvent_44 : decode cX11_copiesEvent 44 = .ok (.iastore, 1) := by decide +kernel
theorem dX11_copiesEvent_45 : decode cX11_copiesEvent 45 = .ok (.iinc 6 1, 3) := by decide +kernel
theorem dX11_copiesEvent_48 : decode cX11_copiesEvent 48 = .ok (.goto (-31), 3) := by decide +kernel
theorem dX11_copiesEvent_51 : decode cX11_copiesEvent 51 = .ok (.aload_n 0, 1) := by decide +kernel
theorem dX11_copiesEvent_52 : decode cX11_copiesEvent 52 = .ok (.getfield 7, 3) := by decide +kernel
theorem dX11_copiesEvent_55 : decode cX11_copiesEvent 55 = .ok (.iload 5, 2) := by decide +kernel
theorem dX11_copiesEvent_57 : decode cX11_copiesEvent 57 = .ok (.bipush 10, 2) := by decide +kernel
theorem dX11_copiesEvent_59 : decode cX11_copiesEvent 59 = .ok (.iadd, 1) := by decide +kernel
theorem dX11_copiesEvent_60 : decode cX11_copiesEvent 60 = .ok (.iconst 0, 1) := by decide +kernel
theorem dX11_copiesEvent_61 : decode cX11_copiesEvent 61 = .ok (.iastore, 1) := by decide +kernel
theorem dX11_copiesEvent_62 : decode cX11_copiesEvent 62 = .ok (.aload_n 0, 1) := by decide +kernel
theorem dX11_copiesEvent_63 : decode cX11_copiesEvent 63 = .ok (.getfield 7, 3) := by decide +kernel
theorem dX11_copiesEvent_66 : decode cX11_copiesEvent 66 = .ok (.iload 5, 2) := by decide +kernel
theorem dX11_copiesEvent_68 : decode cX11_copiesEvent 68 = .ok (.bipush 11, 2) := by decide +kernel
theorem dX11_copiesEvent_70 : decode cX11_copiesEvent 70 = .ok (.iadd, 1) := by decide +kernel
theorem dX11_copiesEvent_71 : decode cX11_copiesEvent 71 = .ok (.iconst 0, 1) := by decide +kernel
theorem dX11_copiesEvent_72 : decode cX11_copiesEvent 72 = .ok (.iastore, 1) := by decide +kernel
theorem dX11_copiesEvent_73 : decode cX11_copiesEvent 73 = .ok (.aload_n 0, 1) := by decide +kernel
theorem dX11_copiesEvent_74 : decode cX11_copiesEvent 74 = .ok (.getfield 7, 3) := by decide +kernel
theorem dX11_copiesEvent_77 : decode cX11_copiesEvent 77 = .ok (.iload 5, 2) := by decide +kernel
theorem dX11_copiesEvent_79 : decode cX11_copiesEvent 79 = .ok (.iconst 0, 1) := by decide +kernel
theorem dX11_copiesEvent_80 : decode cX11_copiesEvent 80 = .ok (.iadd, 1) := by decide +kernel
theorem dX11_copiesEvent_81 : decode cX11_copiesEvent 81 = .ok (.iaload, 1) := by decide +kernel
theorem dX11_copiesEvent_82 : decode cX11_copiesEvent 82 = .ok (.ifCond .ne 14, 3) := by decide +kernel
theorem dX11_copiesEvent_85 : decode cX11_copiesEvent 85 = .ok (.aload_n 0, 1) := by decide +kernel
theorem dX11_copiesEvent_86 : decode cX11_copiesEvent 86 = .ok (.getfield 7, 3) := by decide +kernel
theorem dX11_copiesEvent_89 : decode cX11_copiesEvent 89 = .ok (.iload 5, 2) := by decide +kernel
theorem dX11_copiesEvent_91 : decode cX11_copiesEvent 91 = .ok (.bipush 9, 2) := by decide +kernel
theorem dX11_copiesEvent_93 : decode cX11_copiesEvent 93 = .ok (.iadd, 1) := by decide +kernel
theorem dX11_copiesEvent_94 : decode cX11_copiesEvent 94 = .ok (.iconst (-1), 1) := by decide +kernel
theorem dX11_copiesEvent_95 : decode cX11_copiesEvent 95 = .ok (.iastore, 1) := by decide +kernel
theorem dX11_copiesEvent_96 : decode cX11_copiesEvent 96 = .ok (.return_, 1) := by decide +kernel
def pg_X11_copiesEvent (l : Launch) (g : EG) : List (Nat × ES) := [(0, s_ldI 1), (1, s_ldI 3), (2, s_callS l g sg_X11_copiesEvent sg_X11_eventAt), (5, s_stI 4), (7, s_ldI 2), (8, s_ldI 3), (9, s_callS l g sg_X11_copiesEvent sg_X11_eventAt), (12, s_stI 5), (14, s_c (.inl 0)), (15, s_stI 6), (17, s_ldI 6), (19, s_c (.inl 136)), (22, s_icmp_ge 51), (25, s_ldP 0), (26, s_getP 10 2), (29, s_ldI 5), (31, s_ldI 6), (33, s_ii (fun x y => x + y)), (34, s_ldP 0), (35, s_getP 10 2), (38, s_ldI 4), (40, s_ldI 6), (42, s_ii (fun x y => x + y)), (43, s_iald), (44, s_iast), (45, s_iinc 6 1), (48, s_goto 17), (51, s_ldP 0), (52, s_getP 10 2), (55, s_ldI 5), (57, s_c (.inl 10)), (59, s_ii (fun x y => x + y)), (60, s_c (.inl 0)), (61, s_iast), (62, s_ldP 0), (63, s_getP 10 2), (66, s_ldI 5), (68, s_c (.inl 11)), (70, s_ii (fun x y => x + y)), (71, s_c (.inl 0)), (72, s_iast), (73, s_ldP 0), (74, s_getP 10 2), (77, s_ldI 5), (79, s_c (.inl 0)), (80, s_ii (fun x y => x + y)), (81, s_iald), (82, s_if_ne 96), (85, s_ldP 0), (86, s_getP 10 2), (89, s_ldI 5), (91, s_c (.inl 9)), (93, s_ii (fun x y => x + y)), (94, s_c (.inl (-1))), (95, s_iast), (96, s_vret)]
set_option maxRecDepth 100000 in
theorem ok_X11_copiesEvent {l : Launch} {g : EG} : e_okp l g sg_X11_copiesEvent "CalendarSyncModel" (pg_X11_copiesEvent l g) := fun p e R s m args below meth c ex M0 Q X =>
    e_each_cons (r_iload_n X (k := 1) (i := 1) rfl dX11_copiesEvent_0 rfl)
    (e_each_cons (r_iload_n X (k := 3) (i := 3) rfl dX11_copiesEvent_1 rfl)
    (e_each_cons (r_callS X rfl (τ := sg_X11_eventAt) (index := 278) dX11_copiesEvent_2 w7_101 w7_102 cs_X11_eventAt rfl ⟨by decide, by decide⟩ rfl)
    (e_each_cons (r_istore X (i := 4) dX11_copiesEvent_5 (by decide) rfl)
    (e_each_cons (r_iload_n X (k := 2) (i := 2) rfl dX11_copiesEvent_7 rfl)
    (e_each_cons (r_iload_n X (k := 3) (i := 3) rfl dX11_copiesEvent_8 rfl)
    (e_each_cons (r_callS X rfl (τ := sg_X11_eventAt) (index := 278) dX11_copiesEvent_9 w7_101 w7_102 cs_X11_eventAt rfl ⟨by decide, by decide⟩ rfl)
    (e_each_cons (r_istore X (i := 5) dX11_copiesEvent_12 (by decide) rfl)
    (e_each_cons (r_iconst X (n := 0) (v := 0) dX11_copiesEvent_14 (by decide) rfl)
    (e_each_cons (r_istore X (i := 6) dX11_copiesEvent_15 (by decide) rfl)
    (e_each_cons (r_iload X (i := 6) dX11_copiesEvent_17 rfl)
    (e_each_cons (r_sipush X (n := 136) (v := 136) dX11_copiesEvent_19 (by decide) rfl)
    (e_each_cons (r_icmp_ge X (off := 29) (t := 51) dX11_copiesEvent_22 (by decide) rfl)
    (e_each_cons (r_aload_n X (k := 0) (i := 0) rfl dX11_copiesEvent_25 rfl)
    (e_each_cons (r_getP X (index := 7) (ci := 10) (k := 2) dX11_copiesEvent_26 (by decide) (by decide) rfl w6_28 rfl)
    (e_each_cons (r_iload X (i := 5) dX11_copiesEvent_29 rfl)
    (e_each_cons (r_iload X (i := 6) dX11_copiesEvent_31 rfl)
    (e_each_cons (r_iadd X dX11_copiesEvent_33 rfl)
    (e_each_cons (r_aload_n X (k := 0) (i := 0) rfl dX11_copiesEvent_34 rfl)
    (e_each_cons (r_getP X (index := 7) (ci := 10) (k := 2) dX11_copiesEvent_35 (by decide) (by decide) rfl w6_28 rfl)
    (e_each_cons (r_iload X (i := 4) dX11_copiesEvent_38 rfl)
    (e_each_cons (r_iload X (i := 6) dX11_copiesEvent_40 rfl)
    (e_each_cons (r_iadd X dX11_copiesEvent_42 rfl)
    (e_each_cons (r_iald X dX11_copiesEvent_43 rfl)
    (e_each_cons (r_iast X dX11_copiesEvent_44 rfl)
    (e_each_cons (r_iinc X (i := 6) (n := 1) (d := 1) dX11_copiesEvent_45 (by decide) (by decide) rfl)
    (e_each_cons (r_goto X (off := (-31)) (t := 17) dX11_copiesEvent_48 (by decide))
    (e_each_cons (r_aload_n X (k := 0) (i := 0) rfl dX11_copiesEvent_51 rfl)
    (e_each_cons (r_getP X (index := 7) (ci := 10) (k := 2) dX11_copiesEvent_52 (by decide) (by decide) rfl w6_28 rfl)
    (e_each_cons (r_iload X (i := 5) dX11_copiesEvent_55 rfl)
    (e_each_cons (r_bipush X (n := 10) (v := 10) dX11_copiesEvent_57 (by decide) rfl)
    (e_each_cons (r_iadd X dX11_copiesEvent_59 rfl)
    (e_each_cons (r_iconst X (n := 0) (v := 0) dX11_copiesEvent_60 (by decide) rfl)
    (e_each_cons (r_iast X dX11_copiesEvent_61 rfl)
    (e_each_cons (r_aload_n X (k := 0) (i := 0) rfl dX11_copiesEvent_62 rfl)
    (e_each_cons (r_getP X (index := 7) (ci := 10) (k := 2) dX11_copiesEvent_63 (by decide) (by decide) rfl w6_28 rfl)
    (e_each_cons (r_iload X (i := 5) dX11_copiesEvent_66 rfl)
    (e_each_cons (r_bipush X (n := 11) (v := 11) dX11_copiesEvent_68 (by decide) rfl)
    (e_each_cons (r_iadd X dX11_copiesEvent_70 rfl)
    (e_each_cons (r_iconst X (n := 0) (v := 0) dX11_copiesEvent_71 (by decide) rfl)
    (e_each_cons (r_iast X dX11_copiesEvent_72 rfl)
    (e_each_cons (r_aload_n X (k := 0) (i := 0) rfl dX11_copiesEvent_73 rfl)
    (e_each_cons (r_getP X (index := 7) (ci := 10) (k := 2) dX11_copiesEvent_74 (by decide) (by decide) rfl w6_28 rfl)
    (e_each_cons (r_iload X (i := 5) dX11_copiesEvent_77 rfl)
    (e_each_cons (r_iconst X (n := 0) (v := 0) dX11_copiesEvent_79 (by decide) rfl)
    (e_each_cons (r_iadd X dX11_copiesEvent_80 rfl)
    (e_each_cons (r_iald X dX11_copiesEvent_81 rfl)
    (e_each_cons (r_if_ne X (off := 14) (t := 96) dX11_copiesEvent_82 (by decide) rfl)
    (e_each_cons (r_aload_n X (k := 0) (i := 0) rfl dX11_copiesEvent_85 rfl)
    (e_each_cons (r_getP X (index := 7) (ci := 10) (k := 2) dX11_copiesEvent_86 (by decide) (by decide) rfl w6_28 rfl)
    (e_each_cons (r_iload X (i := 5) dX11_copiesEvent_89 rfl)
    (e_each_cons (r_bipush X (n := 9) (v := 9) dX11_copiesEvent_91 (by decide) rfl)
    (e_each_cons (r_iadd X dX11_copiesEvent_93 rfl)
    (e_each_cons (r_iconst X (n := (-1)) (v := (-1)) dX11_copiesEvent_94 (by decide) rfl)
    (e_each_cons (r_iast X dX11_copiesEvent_95 rfl)
    (e_each_cons (r_vret X dX11_copiesEvent_96 rfl)
    (e_each_nil))))))))))))))))))))))))))))))))))))))))))))))))))))))))
theorem dX11_isAccepted_0 : decode cX11_isAccepted 0 = .ok (.aload_n 0, 1) := by decide +kernel
theorem dX11_isAccepted_1 : decode cX11_isAccepted 1 = .ok (.getfield 7, 3) := by decide +kernel
theorem dX11_isAccepted_4 : decode cX11_isAccepted 4 = .ok (.iload_n 1, 1) := by decide +kernel
theorem dX11_isAccepted_5 : decode cX11_isAccepted 5 = .ok (.iload_n 2, 1) := by decide +kernel
theorem dX11_isAccepted_6 : decode cX11_isAccepted 6 = .ok (.invokestatic 278, 3) := by decide +kernel
theorem dX11_isAccepted_9 : decode cX11_isAccepted 9 = .ok (.bipush 9, 2) := by decide +kernel
theorem dX11_isAccepted_11 : decode cX11_isAccepted 11 = .ok (.iadd, 1) := by decide +kernel
theorem dX11_isAccepted_12 : decode cX11_isAccepted 12 = .ok (.iaload, 1) := by decide +kernel
theorem dX11_isAccepted_13 : decode cX11_isAccepted 13 = .ok (.istore_n 3, 1) := by decide +kernel
theorem dX11_isAccepted_14 : decode cX11_isAccepted 14 = .ok (.aload_n 0, 1) := by decide +kernel
theorem dX11_isAccepted_15 : decode cX11_isAccepted 15 = .ok (.iconst 2, 1) := by decide +kernel
theorem dX11_isAccepted_16 : decode cX11_isAccepted 16 = .ok (.iload_n 2, 1) := by decide +kernel
theorem dX11_isAccepted_17 : decode cX11_isAccepted 17 = .ok (.invokevirtual 281, 3) := by decide +kernel
theorem dX11_isAccepted_20 : decode cX11_isAccepted 20 = .ok (.ifCond .eq 28, 3) := by decide +kernel
theorem dX11_isAccepted_23 : decode cX11_isAccepted 23 = .ok (.aload_n 0, 1) := by decide +kernel
theorem dX11_isAccepted_24 : decode cX11_isAccepted 24 = .ok (.getfield 7, 3) := by decide +kernel
theorem dX11_isAccepted_27 : decode cX11_isAccepted 27 = .ok (.iconst 2, 1) := by decide +kernel
theorem dX11_isAccepted_28 : decode cX11_isAccepted 28 = .ok (.iload_n 2, 1) := by decide +kernel
theorem dX11_isAccepted_29 : decode cX11_isAccepted 29 = .ok (.invokestatic 278, 3) := by decide +kernel
theorem dX11_isAccepted_32 : decode cX11_isAccepted 32 = .ok (.bipush 9, 2) := by decide +kernel
theorem dX11_isAccepted_34 : decode cX11_isAccepted 34 = .ok (.iadd, 1) := by decide +kernel
theorem dX11_isAccepted_35 : decode cX11_isAccepted 35 = .ok (.iaload, 1) := by decide +kernel
theorem dX11_isAccepted_36 : decode cX11_isAccepted 36 = .ok (.iload_n 3, 1) := by decide +kernel
theorem dX11_isAccepted_37 : decode cX11_isAccepted 37 = .ok (.if_icmp .ne 7, 3) := by decide +kernel
theorem dX11_isAccepted_40 : decode cX11_isAccepted 40 = .ok (.iconst 1, 1) := by decide +kernel
theorem dX11_isAccepted_41 : decode cX11_isAccepted 41 = .ok (.goto 17, 3) := by decide +kernel
theorem dX11_isAccepted_44 : decode cX11_isAccepted 44 = .ok (.iconst 0, 1) := by decide +kernel
theorem dX11_isAccepted_45 : decode cX11_isAccepted 45 = .ok (.goto 13, 3) := by decide +kernel
theorem dX11_isAccepted_48 : decode cX11_isAccepted 48 = .ok (.iload_n 3, 1) := by decide +kernel
theorem dX11_isAccepted_49 : decode cX11_isAccepted 49 = .ok (.iconst (-1), 1) := by decide +kernel
theorem dX11_isAccepted_50 : decode cX11_isAccepted 50 = .ok (.if_icmp .ne 7, 3) := by decide +kernel
theorem dX11_isAccepted_53 : decode cX11_isAccepted 53 = .ok (.iconst 1, 1) := by decide +kernel
theorem dX11_isAccepted_54 : decode cX11_isAccepted 54 = .ok (.goto 4, 3) := by decide +kernel
theorem dX11_isAccepted_57 : decode cX11_isAccepted 57 = .ok (.iconst 0, 1) := by decide +kernel
theorem dX11_isAccepted_58 : decode cX11_isAccepted 58 = .ok (.ireturn, 1) := by decide +kernel
def pg_X11_isAccepted (l : Launch) (g : EG) : List (Nat × ES) := [(0, s_ldP 0), (1, s_getP 10 2), (4, s_ldI 1), (5, s_ldI 2), (6, s_callS l g sg_X11_isAccepted sg_X11_eventAt), (9, s_c (.inl 9)), (11, s_ii (fun x y => x + y)), (12, s_iald), (13, s_stI 3), (14, s_ldP 0), (15, s_c (.inl 2)), (16, s_ldI 2), (17, s_callV l g sg_X11_isAccepted sg_X11_isThere 10), (20, s_if_eq 48), (23, s_ldP 0), (24, s_getP 10 2), (27, s_c (.inl 2)), (28, s_ldI 2), (29, s_callS l g sg_X11_isAccepted sg_X11_eventAt), (32, s_c (.inl 9)), (34, s_ii (fun x y => x + y)), (35, s_iald), (36, s_ldI 3), (37, s_icmp_ne 44), (40, s_c (.inl 1)), (41, s_goto 58), (44, s_c (.inl 0)), (45, s_goto 58), (48, s_ldI 3), (49, s_c (.inl (-1))), (50, s_icmp_ne 57), (53, s_c (.inl 1)), (54, s_goto 58), (57, s_c (.inl 0)), (58, s_iretz)]
set_option maxRecDepth 100000 in
theorem ok_X11_isAccepted {l : Launch} {g : EG} : e_okp l g sg_X11_isAccepted "CalendarSyncModel" (pg_X11_isAccepted l g) := fun p e R s m args below meth c ex M0 Q X =>
    e_each_cons (r_aload_n X (k := 0) (i := 0) rfl dX11_isAccepted_0 rfl)
    (e_each_cons (r_getP X (index := 7) (ci := 10) (k := 2) dX11_isAccepted_1 (by decide) (by decide) rfl w6_28 rfl)
    (e_each_cons (r_iload_n X (k := 1) (i := 1) rfl dX11_isAccepted_4 rfl)
    (e_each_cons (r_iload_n X (k := 2) (i := 2) rfl dX11_isAccepted_5 rfl)
    (e_each_cons (r_callS X rfl (τ := sg_X11_eventAt) (index := 278) dX11_isAccepted_6 w7_101 w7_102 cs_X11_eventAt rfl ⟨by decide, by decide⟩ rfl)
    (e_each_cons (r_bipush X (n := 9) (v := 9) dX11_isAccepted_9 (by decide) rfl)
    (e_each_cons (r_iadd X dX11_isAccepted_11 rfl)
    (e_each_cons (r_iald X dX11_isAccepted_12 rfl)
    (e_each_cons (r_istore_n X (k := 3) (i := 3) rfl dX11_isAccepted_13 (by decide) rfl)
    (e_each_cons (r_aload_n X (k := 0) (i := 0) rfl dX11_isAccepted_14 rfl)
    (e_each_cons (r_iconst X (n := 2) (v := 2) dX11_isAccepted_15 (by decide) rfl)
    (e_each_cons (r_iload_n X (k := 2) (i := 2) rfl dX11_isAccepted_16 rfl)
    (e_each_cons (r_callV X rfl (τ := sg_X11_isThere) (index := 281) (ci := 10) dX11_isAccepted_17 (by decide) rfl w7_97 w7_99 ws_61 cs_X11_isThere rfl ⟨by decide, by decide⟩ rfl)
    (e_each_cons (r_if_eq X (off := 28) (t := 48) dX11_isAccepted_20 (by decide) rfl)
    (e_each_cons (r_aload_n X (k := 0) (i := 0) rfl dX11_isAccepted_23 rfl)
    (e_each_cons (r_getP X (index := 7) (ci := 10) (k := 2) dX11_isAccepted_24 (by decide) (by decide) rfl w6_28 rfl)
    (e_each_cons (r_iconst X (n := 2) (v := 2) dX11_isAccepted_27 (by decide) rfl)
    (e_each_cons (r_iload_n X (k := 2) (i := 2) rfl dX11_isAccepted_28 rfl)
    (e_each_cons (r_callS X rfl (τ := sg_X11_eventAt) (index := 278) dX11_isAccepted_29 w7_101 w7_102 cs_X11_eventAt rfl ⟨by decide, by decide⟩ rfl)
    (e_each_cons (r_bipush X (n := 9) (v := 9) dX11_isAccepted_32 (by decide) rfl)
    (e_each_cons (r_iadd X dX11_isAccepted_34 rfl)
    (e_each_cons (r_iald X dX11_isAccepted_35 rfl)
    (e_each_cons (r_iload_n X (k := 3) (i := 3) rfl dX11_isAccepted_36 rfl)
    (e_each_cons (r_icmp_ne X (off := 7) (t := 44) dX11_isAccepted_37 (by decide) rfl)
    (e_each_cons (r_iconst X (n := 1) (v := 1) dX11_isAccepted_40 (by decide) rfl)
    (e_each_cons (r_goto X (off := 17) (t := 58) dX11_isAccepted_41 (by decide))
    (e_each_cons (r_iconst X (n := 0) (v := 0) dX11_isAccepted_44 (by decide) rfl)
    (e_each_cons (r_goto X (off := 13) (t := 58) dX11_isAccepted_45 (by decide))
    (e_each_cons (r_iload_n X (k := 3) (i := 3) rfl dX11_isAccepted_48 rfl)
    (e_each_cons (r_iconst X (n := (-1)) (v := (-1)) dX11_isAccepted_49 (by decide) rfl)
    (e_each_cons (r_icmp_ne X (off := 7) (t := 57) dX11_isAccepted_50 (by decide) rfl)
    (e_each_cons (r_iconst X (n := 1) (v := 1) dX11_isAccepted_53 (by decide) rfl)
    (e_each_cons (r_goto X (off := 4) (t := 58) dX11_isAccepted_54 (by decide))
    (e_each_cons (r_iconst X (n := 0) (v := 0) dX11_isAccepted_57 (by decide) rfl)
    (e_each_cons (r_iretz X dX11_isAccepted_58 rfl)
    (e_each_nil)))))))))))))))))))))))))))))))))))
theorem dX11_accepts_0 : decode cX11_accepts 0 = .ok (.aload_n 0, 1) := by decide +kernel
theorem dX11_accepts_1 : decode cX11_accepts 1 = .ok (.iload_n 1, 1) := by decide +kernel
theorem dX11_accepts_2 : decode cX11_accepts 2 = .ok (.iload_n 2, 1) := by decide +kernel
theorem dX11_accepts_3 : decode cX11_accepts 3 = .ok (.invokevirtual 281, 3) := by decide +kernel
theorem dX11_accepts_6 : decode cX11_accepts 6 = .ok (.ifCond .ne 20, 3) := by decide +kernel
theorem dX11_accepts_9 : decode cX11_accepts 9 = .ok (.aload_n 0, 1) := by decide +kernel
theorem dX11_accepts_10 : decode cX11_accepts 10 = .ok (.iconst 2, 1) := by decide +kernel
theorem dX11_accepts_11 : decode cX11_accepts 11 = .ok (.iload_n 2, 1) := by decide +kernel
theorem dX11_accepts_12 : decode cX11_accepts 12 = .ok (.invokevirtual 281, 3) := by decide +kernel
theorem dX11_accepts_15 : decode cX11_accepts 15 = .ok (.ifCond .ne 11, 3) := by decide +kernel
theorem dX11_accepts_18 : decode cX11_accepts 18 = .ok (.aload_n 0, 1) := by decide +kernel
theorem dX11_accepts_19 : decode cX11_accepts 19 = .ok (.iconst 2, 1) := by decide +kernel
theorem dX11_accepts_20 : decode cX11_accepts 20 = .ok (.iload_n 1, 1) := by decide +kernel
theorem dX11_accepts_21 : decode cX11_accepts 21 = .ok (.iload_n 2, 1) := by decide +kernel
theorem dX11_accepts_22 : decode cX11_accepts 22 = .ok (.invokevirtual 398, 3) := by decide +kernel
theorem dX11_accepts_25 : decode cX11_accepts 25 = .ok (.return_, 1) := by decide +kernel
theorem dX11_accepts_26 : decode cX11_accepts 26 = .ok (.aload_n 0, 1) := by decide +kernel
theorem dX11_accepts_27 : decode cX11_accepts 27 = .ok (.iload_n 2, 1) := by decide +kernel
theorem dX11_accepts_28 : decode cX11_accepts 28 = .ok (.invokevirtual 395, 3) := by decide +kernel
theorem dX11_accepts_31 : decode cX11_accepts 31 = .ok (.aload_n 0, 1) := by decide +kernel
theorem dX11_accepts_32 : decode cX11_accepts 32 = .ok (.iload_n 1, 1) := by decide +kernel
theorem dX11_accepts_33 : decode cX11_accepts 33 = .ok (.iconst 2, 1) := by decide +kernel
theorem dX11_accepts_34 : decode cX11_accepts 34 = .ok (.iload_n 2, 1) := by decide +kernel
theorem dX11_accepts_35 : decode cX11_accepts 35 = .ok (.invokevirtual 398, 3) := by decide +kernel
theorem dX11_accepts_38 : decode cX11_accepts 38 = .ok (.aload_n 0, 1) := by decide +kernel
theorem dX11_accepts_39 : decode cX11_accepts 39 = .ok (.getfield 7, 3) := by decide +kernel
theorem dX11_accepts_42 : decode cX11_accepts 42 = .ok (.iconst 2, 1) := by decide +kernel
theorem dX11_accepts_43 : decode cX11_accepts 43 = .ok (.iload_n 2, 1) := by decide +kernel
theorem dX11_accepts_44 : decode cX11_accepts 44 = .ok (.invokestatic 278, 3) := by decide +kernel
theorem dX11_accepts_47 : decode cX11_accepts 47 = .ok (.bipush 9, 2) := by decide +kernel
theorem dX11_accepts_49 : decode cX11_accepts 49 = .ok (.iadd, 1) := by decide +kernel
theorem dX11_accepts_50 : decode cX11_accepts 50 = .ok (.aload_n 0, 1) := by decide +kernel
theorem dX11_accepts_51 : decode cX11_accepts 51 = .ok (.iconst 2, 1) := by decide +kernel
theorem dX11_accepts_52 : decode cX11_accepts 52 = .ok (.iload_n 2, 1) := by decide +kernel
theorem dX11_accepts_53 : decode cX11_accepts 53 = .ok (.invokevirtual 281, 3) := by decide +kernel
theorem dX11_accepts_56 : decode cX11_accepts 56 = .ok (.ifCond .eq 12, 3) := by decide +kernel
theorem dX11_accepts_59 : decode cX11_accepts 59 = .ok (.aload_n 0, 1) := by decide +kernel
theorem dX11_accepts_60 : decode cX11_accepts 60 = .ok (.getfield 7, 3) := by decide +kernel
theorem dX11_accepts_63 : decode cX11_accepts 63 = .ok (.iconst 0, 1) := by decide +kernel
theorem dX11_accepts_64 : decode cX11_accepts 64 = .ok (.iaload, 1) := by decide +kernel
theorem dX11_accepts_65 : decode cX11_accepts 65 = .ok (.goto 4, 3) := by decide +kernel
theorem dX11_accepts_68 : decode cX11_accepts 68 = .ok (.iconst (-1), 1) := by decide +kernel
theorem dX11_accepts_69 : decode cX11_accepts 69 = .ok (.iastore, 1) := by decide +kernel
theorem dX11_accepts_70 : decode cX11_accepts 70 = .ok (.aload_n 0, 1) := by decide +kernel
theorem dX11_accepts_71 : decode cX11_accepts 71 = .ok (.iconst 2, 1) := by decide +kernel
theorem dX11_accepts_72 : decode cX11_accepts 72 = .ok (.iload_n 1, 1) := by decide +kernel
theorem dX11_accepts_73 : decode cX11_accepts 73 = .ok (.iload_n 2, 1) := by decide +kernel
theorem dX11_accepts_74 : decode cX11_accepts 74 = .ok (.invokevirtual 398, 3) := by decide +kernel
theorem dX11_accepts_77 : decode cX11_accepts 77 = .ok (.aload_n 0, 1) := by decide +kernel
theorem dX11_accepts_78 : decode cX11_accepts 78 = .ok (.iload_n 1, 1) := by decide +kernel
theorem dX11_accepts_79 : decode cX11_accepts 79 = .ok (.iconst 0, 1) := by decide +kernel
theorem dX11_accepts_80 : decode cX11_accepts 80 = .ok (.iconst 1, 1) := by decide +kernel
theorem dX11_accepts_81 : decode cX11_accepts 81 = .ok (.invokevirtual 401, 3) := by decide +kernel
theorem dX11_accepts_84 : decode cX11_accepts 84 = .ok (.return_, 1) := by decide +kernel
def pg_X11_accepts (l : Launch) (g : EG) : List (Nat × ES) := [(0, s_ldP 0), (1, s_ldI 1), (2, s_ldI 2), (3, s_callV l g sg_X11_accepts sg_X11_isThere 10), (6, s_if_ne 26), (9, s_ldP 0), (10, s_c (.inl 2)), (11, s_ldI 2), (12, s_callV l g sg_X11_accepts sg_X11_isThere 10), (15, s_if_ne 26), (18, s_ldP 0), (19, s_c (.inl 2)), (20, s_ldI 1), (21, s_ldI 2), (22, s_callV l g sg_X11_accepts sg_X11_copiesEvent 10), (25, s_vret), (26, s_ldP 0), (27, s_ldI 2), (28, s_callV l g sg_X11_accepts sg_X11_changesStore 10), (31, s_ldP 0), (32, s_ldI 1), (33, s_c (.inl 2)), (34, s_ldI 2), (35, s_callV l g sg_X11_accepts sg_X11_copiesEvent 10), (38, s_ldP 0), (39, s_getP 10 2), (42, s_c (.inl 2)), (43, s_ldI 2), (44, s_callS l g sg_X11_accepts sg_X11_eventAt), (47, s_c (.inl 9)), (49, s_ii (fun x y => x + y)), (50, s_ldP 0), (51, s_c (.inl 2)), (52, s_ldI 2), (53, s_callV l g sg_X11_accepts sg_X11_isThere 10), (56, s_if_eq 68), (59, s_ldP 0), (60, s_getP 10 2), (63, s_c (.inl 0)), (64, s_iald), (65, s_goto 69), (68, s_c (.inl (-1))), (69, s_iast), (70, s_ldP 0), (71, s_c (.inl 2)), (72, s_ldI 1), (73, s_ldI 2), (74, s_callV l g sg_X11_accepts sg_X11_copiesEvent 10), (77, s_ldP 0), (78, s_ldI 1), (79, s_c (.inl 0)), (80, s_c (.inl 1)), (81, s_callV l g sg_X11_accepts sg_X11_counts 10), (84, s_vret)]
set_option maxRecDepth 100000 in
theorem ok_X11_accepts {l : Launch} {g : EG} : e_okp l g sg_X11_accepts "CalendarSyncModel" (pg_X11_accepts l g) := fun p e R s m args below meth c ex M0 Q X =>
    e_each_cons (r_aload_n X (k := 0) (i := 0) rfl dX11_accepts_0 rfl)
    (e_each_cons (r_iload_n X (k := 1) (i := 1) rfl dX11_accepts_1 rfl)
    (e_each_cons (r_iload_n X (k := 2) (i := 2) rfl dX11_accepts_2 rfl)
    (e_each_cons (r_callV X rfl (τ := sg_X11_isThere) (index := 281) (ci := 10) dX11_accepts_3 (by decide) rfl w7_97 w7_99 ws_61 cs_X11_isThere rfl ⟨by decide, by decide⟩ rfl)
    (e_each_cons (r_if_ne X (off := 20) (t := 26) dX11_accepts_6 (by decide) rfl)
    (e_each_cons (r_aload_n X (k := 0) (i := 0) rfl dX11_accepts_9 rfl)
    (e_each_cons (r_iconst X (n := 2) (v := 2) dX11_accepts_10 (by decide) rfl)
    (e_each_cons (r_iload_n X (k := 2) (i := 2) rfl dX11_accepts_11 rfl)
    (e_each_cons (r_callV X rfl (τ := sg_X11_isThere) (index := 281) (ci := 10) dX11_accepts_12 (by decide) rfl w7_97 w7_99 ws_61 cs_X11_isThere rfl ⟨by decide, by decide⟩ rfl)
    (e_each_cons (r_if_ne X (off := 11) (t := 26) dX11_accepts_15 (by decide) rfl)
    (e_each_cons (r_aload_n X (k := 0) (i := 0) rfl dX11_accepts_18 rfl)
    (e_each_cons (r_iconst X (n := 2) (v := 2) dX11_accepts_19 (by decide) rfl)
    (e_each_cons (r_iload_n X (k := 1) (i := 1) rfl dX11_accepts_20 rfl)
    (e_each_cons (r_iload_n X (k := 2) (i := 2) rfl dX11_accepts_21 rfl)
    (e_each_cons (r_callV X rfl (τ := sg_X11_copiesEvent) (index := 398) (ci := 10) dX11_accepts_22 (by decide) rfl w8_90 w8_92 ws_92 cs_X11_copiesEvent rfl ⟨by decide, by decide⟩ rfl)
    (e_each_cons (r_vret X dX11_accepts_25 rfl)
    (e_each_cons (r_aload_n X (k := 0) (i := 0) rfl dX11_accepts_26 rfl)
    (e_each_cons (r_iload_n X (k := 2) (i := 2) rfl dX11_accepts_27 rfl)
    (e_each_cons (r_callV X rfl (τ := sg_X11_changesStore) (index := 395) (ci := 10) dX11_accepts_28 (by decide) rfl w8_66 w8_68 ws_87 cs_X11_changesStore rfl ⟨by decide, by decide⟩ rfl)
    (e_each_cons (r_aload_n X (k := 0) (i := 0) rfl dX11_accepts_31 rfl)
    (e_each_cons (r_iload_n X (k := 1) (i := 1) rfl dX11_accepts_32 rfl)
    (e_each_cons (r_iconst X (n := 2) (v := 2) dX11_accepts_33 (by decide) rfl)
    (e_each_cons (r_iload_n X (k := 2) (i := 2) rfl dX11_accepts_34 rfl)
    (e_each_cons (r_callV X rfl (τ := sg_X11_copiesEvent) (index := 398) (ci := 10) dX11_accepts_35 (by decide) rfl w8_90 w8_92 ws_92 cs_X11_copiesEvent rfl ⟨by decide, by decide⟩ rfl)
    (e_each_cons (r_aload_n X (k := 0) (i := 0) rfl dX11_accepts_38 rfl)
    (e_each_cons (r_getP X (index := 7) (ci := 10) (k := 2) dX11_accepts_39 (by decide) (by decide) rfl w6_28 rfl)
    (e_each_cons (r_iconst X (n := 2) (v := 2) dX11_accepts_42 (by decide) rfl)
    (e_each_cons (r_iload_n X (k := 2) (i := 2) rfl dX11_accepts_43 rfl)
    (e_each_cons (r_callS X rfl (τ := sg_X11_eventAt) (index := 278) dX11_accepts_44 w7_101 w7_102 cs_X11_eventAt rfl ⟨by decide, by decide⟩ rfl)
    (e_each_cons (r_bipush X (n := 9) (v := 9) dX11_accepts_47 (by decide) rfl)
    (e_each_cons (r_iadd X dX11_accepts_49 rfl)
    (e_each_cons (r_aload_n X (k := 0) (i := 0) rfl dX11_accepts_50 rfl)
    (e_each_cons (r_iconst X (n := 2) (v := 2) dX11_accepts_51 (by decide) rfl)
    (e_each_cons (r_iload_n X (k := 2) (i := 2) rfl dX11_accepts_52 rfl)
    (e_each_cons (r_callV X rfl (τ := sg_X11_isThere) (index := 281) (ci := 10) dX11_accepts_53 (by decide) rfl w7_97 w7_99 ws_61 cs_X11_isThere rfl ⟨by decide, by decide⟩ rfl)
    (e_each_cons (r_if_eq X (off := 12) (t := 68) dX11_accepts_56 (by decide) rfl)
    (e_each_cons (r_aload_n X (k := 0) (i := 0) rfl dX11_accepts_59 rfl)
    (e_each_cons (r_getP X (index := 7) (ci := 10) (k := 2) dX11_accepts_60 (by decide) (by decide) rfl w6_28 rfl)
    (e_each_cons (r_iconst X (n := 0) (v := 0) dX11_accepts_63 (by decide) rfl)
    (e_each_cons (r_iald X dX11_accepts_64 rfl)
    (e_each_cons (r_goto X (off := 4) (t := 69) dX11_accepts_65 (by decide))
    (e_each_cons (r_iconst X (n := (-1)) (v := (-1)) dX11_accepts_68 (by decide) rfl)
    (e_each_cons (r_iast X dX11_accepts_69 rfl)
    (e_each_cons (r_aload_n X (k := 0) (i := 0) rfl dX11_accepts_70 rfl)
    (e_each_cons (r_iconst X (n := 2) (v := 2) dX11_accepts_71 (by decide) rfl)
    (e_each_cons (r_iload_n X (k := 1) (i := 1) rfl dX11_accepts_72 rfl)
    (e_each_cons (r_iload_n X (k := 2) (i := 2) rfl dX11_accepts_73 rfl)
    (e_each_cons (r_callV X rfl (τ := sg_X11_copiesEvent) (index := 398) (ci := 10) dX11_accepts_74 (by decide) rfl w8_90 w8_92 ws_92 cs_X11_copiesEvent rfl ⟨by decide, by decide⟩ rfl)
    (e_each_cons (r_aload_n X (k := 0) (i := 0) rfl dX11_accepts_77 rfl)
    (e_each_cons (r_iload_n X (k := 1) (i := 1) rfl dX11_accepts_78 rfl)
    (e_each_cons (r_iconst X (n := 0) (v := 0) dX11_accepts_79 (by decide) rfl)
    (e_each_cons (r_iconst X (n := 1) (v := 1) dX11_accepts_80 (by decide) rfl)
    (e_each_cons (r_callV X rfl (τ := sg_X11_counts) (index := 401) (ci := 10) dX11_accepts_81 (by decide) rfl w8_94 w8_96 ws_93 cs_X11_counts rfl ⟨by decide, by decide⟩ rfl)
    (e_each_cons (r_vret X dX11_accepts_84 rfl)
    (e_each_nil))))))))))))))))))))))))))))))))))))))))))))))))))))))
theorem dX11_merges_0 : decode cX11_merges 0 = .ok (.aload_n 0, 1) := by decide +kernel
theorem dX11_merges_1 : decode cX11_merges 1 = .ok (.iload_n 2, 1) := by decide +kernel
theorem dX11_merges_2 : decode cX11_merges 2 = .ok (.invokevirtual 395, 3) := by decide +kernel
theorem dX11_merges_5 : decode cX11_merges 5 = .ok (.iload_n 1, 1) := by decide +kernel
theorem dX11_merges_6 : decode cX11_merges 6 = .ok (.iload_n 2, 1) := by decide +kernel
theorem dX11_merges_7 : decode cX11_merges 7 = .ok (.invokestatic 278, 3) := by decide +kernel
theorem dX11_merges_10 : decode cX11_merges 10 = .ok (.istore_n 3, 1) := by decide +kernel
theorem dX11_merges_11 : decode cX11_merges 11 = .ok (.iconst 2, 1) := by decide +kernel
theorem dX11_merges_12 : decode cX11_merges 12 = .ok (.iload_n 2, 1) := by decide +kernel
theorem dX11_merges_13 : decode cX11_merges 13 = .ok (.invokestatic 278, 3) := by decide +kernel
theorem dX11_merges_16 : decode cX11_merges 16 = .ok (.istore 4, 2) := by decide +kernel
theorem dX11_merges_18 : decode cX11_merges 18 = .ok (.aload_n 0, 1) := by decide +kernel
theorem dX11_merges_19 : decode cX11_merges 19 = .ok (.aload_n 0, 1) := by decide +kernel
theorem dX11_merges_20 : decode cX11_merges 20 = .ok (.getfield 7, 3) := by decide +kernel
theorem dX11_merges_23 : decode cX11_merges 23 = .ok (.iload 4, 2) := by decide +kernel
theorem dX11_merges_25 : decode cX11_merges 25 = .ok (.invokevirtual 233, 3) := by decide +kernel
theorem dX11_merges_28 : decode cX11_merges 28 = .ok (.iconst 0, 1) := by decide +kernel
theorem dX11_merges_29 : decode cX11_merges 29 = .ok (.istore 5, 2) := by decide +kernel
theorem dX11_merges_31 : decode cX11_merges 31 = .ok (.iload 5, 2) := by decide +kernel
theorem dX11_merges_33 : decode cX11_merges 33 = .ok (.bipush 30, 2) := by decide +kernel
theorem dX11_merges_35 : decode cX11_merges 35 = .ok (.if_icmp .ge 53, 3) := by decide +kernel
theorem dX11_merges_38 : decode cX11_merges 38 = .ok (.bipush 76, 2) := by decide +kernel
theorem dX11_merges_40 : decode cX11_merges 40 = .ok (.bipush 30, 2) := by decide +kernel
theorem dX11_merges_42 : decode cX11_merges 42 = .ok (.iload_n 1, 1) := by decide +kernel
theorem dX11_merges_43 : decode cX11_merges 43 = .ok (.imul, 1) := by decide +kernel
theorem dX11_merges_44 : decode cX11_merges 44 = .ok (.iadd, 1) := by decide +kernel
theorem dX11_merges_45 : decode cX11_merges 45 = .ok (.iload 5, 2) := by decide +kernel
theorem dX11_merges_47 : decode cX11_merges 47 = .ok (.iadd, 1) := by decide +kernel
theorem dX11_merges_48 : decode cX11_merges 48 = .ok (.istore 6, 2) := by decide +kernel
theorem dX11_merges_50 : decode cX11_merges 50 = .ok (.aload_n 0, 1) := by decide +kernel
theorem dX11_merges_51 : decode cX11_merges 51 = .ok (.getfield 7, 3) := by decide +kernel
theorem dX11_merges_54 : decode cX11_merges 54 = .ok (.iload 4, 2) := by decide +kernel
theorem dX11_merges_56 : decode cX11_merges 56 = .ok (.iload 6, 2) := by decide +kernel
theorem dX11_merges_58 : decode cX11_merges 58 = .ok (.iadd, 1) := by decide +kernel
theorem dX11_merges_59 : decode cX11_merges 59 = .ok (.iload 5, 2) := by decide +kernel
theorem dX11_merges_61 : decode cX11_merges 61 = .ok (.aload_n 0, 1) := by decide +kernel
theorem dX11_merges_62 : decode cX11_merges 62 = .ok (.getfield 95, 3) := by decide +kernel
theorem dX11_merges_65 : decode cX11_merges 65 = .ok (.if_icmp .ge 15, 3) := by decide +kernel
theorem dX11_merges_68 : decode cX11_merges 68 = .ok (.aload_n 0, 1) := by decide +kernel
theorem dX11_merges_69 : decode cX11_merges 69 = .ok (.getfield 7, 3) := by decide +kernel
theorem dX11_merges_72 : decode cX11_merges 72 = .ok (.iload_n 3, 1) := by decide +kernel
theorem dX11_merges_73 : decode cX11_merges 73 = .ok (.iload 6, 2) := by decide +kernel
theorem dX11_merges_75 : decode cX11_merges 75 = .ok (.iadd, 1) := by decide +kernel
theorem dX11_merges_76 : decode cX11_merges 76 = .ok (.iaload, 1) := by decide +kernel
theorem dX11_merges_77 : decode cX11_merges 77 = .ok (.goto 4, 3) := by decide +kernel
theorem dX11_merges_80 : decode cX11_merges 80 = .ok (.iconst 0, 1) := by decide +kernel
theorem dX11_merges_81 : decode cX11_merges 81 = .ok (.iastore, 1) := by decide +kernel
theorem dX11_merges_82 : decode cX11_merges 82 = .ok (.iinc 5 1, 3) := by decide +kernel
theorem dX11_merges_85 : decode cX11_merges 85 = .ok (.goto (-54), 3) := by decide +kernel
theorem dX11_merges_88 : decode cX11_merges 88 = .ok (.aload_n 0, 1) := by decide +kernel
theorem dX11_merges_89 : decode cX11_merges 89 = .ok (.getfield 7, 3) := by decide +kernel
theorem dX11_merges_92 : decode cX11_merges 92 = .ok (.iload 4, 2) := by decide +kernel
theorem dX11_merges_94 : decode cX11_merges 94 = .ok (.bipush 14, 2) := by decide +kernel
theorem dX11_merges_96 : decode cX11_merges 96 = .ok (.iadd, 1) := by decide +kernel
theorem dX11_merges_97 : decode cX11_merges 97 = .ok (.iload_n 1, 1) := by decide +kernel
theorem dX11_merges_98 : decode cX11_merges 98 = .ok (.iadd, 1) := by decide +kernel
theorem dX11_merges_99 : decode cX11_merges 99 = .ok (.aload_n 0, 1) := by decide +kernel
theorem dX11_merges_100 : decode cX11_merges 100 = .ok (.getfield 7, 3) := by decide +kernel
theorem dX11_merges_103 : decode cX11_merges 103 = .ok (.iload_n 3, 1) := by decide +kernel
theorem dX11_merges_104 : decode cX11_merges 104 = .ok (.bipush 14, 2) := by decide +kernel
theorem dX11_merges_106 : decode cX11_merges 106 = .ok (.iadd, 1) := by decide +kernel
theorem dX11_merges_107 : decode cX11_merges 107 = .ok (.iload_n 1, 1) := by decide +kernel
theorem dX11_merges_108 : decode cX11_merges 108 = .ok (.iadd, 1) := by decide +kernel
theorem dX11_merges_109 : decode cX11_merges 109 = .ok (.iaload, 1) := by decide +kernel
theorem dX11_merges_110 : decode cX11_merges 110 = .ok (.iastore, 1) := by decide +kernel
theorem dX11_merges_111 : decode cX11_merges 111 = .ok (.aload_n 0, 1) := by decide +kernel
theorem dX11_merges_112 : decode cX11_merges 112 = .ok (.getfield 7, 3) := by decide +kernel
theorem dX11_merges_115 : decode cX11_merges 115 = .ok (.iload 4, 2) := by decide +kernel
theorem dX11_merges_117 : decode cX11_merges 117 = .ok (.bipush 9, 2) := by decide +kernel
theorem dX11_merges_119 : decode cX11_merges 119 = .ok (.iadd, 1) := by decide +kernel
theorem dX11_merges_120 : decode cX11_merges 120 = .ok (.aload_n 0, 1) := by decide +kernel
theorem dX11_merges_121 : decode cX11_merges 121 = .ok (.getfield 7, 3) := by decide +kernel
theorem dX11_merges_124 : decode cX11_merges 124 = .ok (.iconst 0, 1) := by decide +kernel
theorem dX11_merges_125 : decode cX11_merges 125 = .ok (.iaload, 1) := by decide +kernel
theorem dX11_merges_126 : decode cX11_merges 126 = .ok (.iastore, 1) := by decide +kernel
theorem dX11_merges_127 : decode cX11_merges 127 = .ok (.aload_n 0, 1) := by decide +kernel
theorem dX11_merges_128 : decode cX11_merges 128 = .ok (.iconst 2, 1) := by decide +kernel
theorem dX11_merges_129 : decode cX11_merges 129 = .ok (.iload_n 1, 1) := by decide +kernel
theorem dX11_merges_130 : decode cX11_merges 130 = .ok (.iload_n 2, 1) := by decide +kernel
theorem dX11_merges_131 : decode cX11_merges 131 = .ok (.invokevirtual 398, 3) := by decide +kernel
theorem dX11_merges_134 : decode cX11_merges 134 = .ok (.aload_n 0, 1) := by decide +kernel
theorem dX11_merges_135 : decode cX11_merges 135 = .ok (.iload_n 1, 1) := by decide +kernel
theorem dX11_merges_136 : decode cX11_merges 136 = .ok (.iconst 1, 1) := by decide +kernel
theorem dX11_merges_137 : decode cX11_merges 137 = .ok (.iconst 1, 1) := by decide +kernel
theorem dX11_merges_138 : decode cX11_merges 138 = .ok (.invokevirtual 401, 3) := by decide +kernel
theorem dX11_merges_141 : decode cX11_merges 141 = .ok (.return_, 1) := by decide +kernel
def pg_X11_merges (l : Launch) (g : EG) : List (Nat × ES) := [(0, s_ldP 0), (1, s_ldI 2), (2, s_callV l g sg_X11_merges sg_X11_changesStore 10), (5, s_ldI 1), (6, s_ldI 2), (7, s_callS l g sg_X11_merges sg_X11_eventAt), (10, s_stI 3), (11, s_c (.inl 2)), (12, s_ldI 2), (13, s_callS l g sg_X11_merges sg_X11_eventAt), (16, s_stI 4), (18, s_ldP 0), (19, s_ldP 0), (20, s_getP 10 2), (23, s_ldI 4), (25, s_callV l g sg_X11_merges sg_X11_laysDates 10), (28, s_c (.inl 0)), (29, s_stI 5), (31, s_ldI 5), (33, s_c (.inl 30)), (35, s_icmp_ge 88), (38, s_c (.inl 76)), (40, s_c (.inl 30)), (42, s_ldI 1), (43, s_ii (fun x y => x * y)), (44, s_ii (fun x y => x + y)), (45, s_ldI 5), (47, s_ii (fun x y => x + y)), (48, s_stI 6), (50, s_ldP 0), (51, s_getP 10 2), (54, s_ldI 4), (56, s_ldI 6), (58, s_ii (fun x y => x + y)), (59, s_ldI 5), (61, s_ldP 0), (62, s_getI 10 8), (65, s_icmp_ge 80), (68, s_ldP 0), (69, s_getP 10 2), (72, s_ldI 3), (73, s_ldI 6), (75, s_ii (fun x y => x + y)), (76, s_iald), (77, s_goto 81), (80, s_c (.inl 0)), (81, s_iast), (82, s_iinc 5 1), (85, s_goto 31), (88, s_ldP 0), (89, s_getP 10 2), (92, s_ldI 4), (94, s_c (.inl 14)), (96, s_ii (fun x y => x + y)), (97, s_ldI 1), (98, s_ii (fun x y => x + y)), (99, s_ldP 0), (100, s_getP 10 2), (103, s_ldI 3), (104, s_c (.inl 14)), (106, s_ii (fun x y => x + y)), (107, s_ldI 1), (108, s_ii (fun x y => x + y)), (109, s_iald), (110, s_iast), (111, s_ldP 0), (112, s_getP 10 2), (115, s_ldI 4), (117, s_c (.inl 9)), (119, s_ii (fun x y => x + y)), (120, s_ldP 0), (121, s_getP 10 2), (124, s_c (.inl 0)), (125, s_iald), (126, s_iast), (127, s_ldP 0), (128, s_c (.inl 2)), (129, s_ldI 1), (130, s_ldI 2), (131, s_callV l g sg_X11_merges sg_X11_copiesEvent 10), (134, s_ldP 0), (135, s_ldI 1), (136, s_c (.inl 1)), (137, s_c (.inl 1)), (138, s_callV l g sg_X11_merges sg_X11_counts 10), (141, s_vret)]
set_option maxRecDepth 100000 in
theorem ok_X11_merges {l : Launch} {g : EG} : e_okp l g sg_X11_merges "CalendarSyncModel" (pg_X11_merges l g) := fun p e R s m args below meth c ex M0 Q X =>
    e_each_cons (r_aload_n X (k := 0) (i := 0) rfl dX11_merges_0 rfl)
    (e_each_cons (r_iload_n X (k := 2) (i := 2) rfl dX11_merges_1 rfl)
    (e_each_cons (r_callV X rfl (τ := sg_X11_changesStore) (index := 395) (ci := 10) dX11_merges_2 (by decide) rfl w8_66 w8_68 ws_87 cs_X11_changesStore rfl ⟨by decide, by decide⟩ rfl)
    (e_each_cons (r_iload_n X (k := 1) (i := 1) rfl dX11_merges_5 rfl)
    (e_each_cons (r_iload_n X (k := 2) (i := 2) rfl dX11_merges_6 rfl)
    (e_each_cons (r_callS X rfl (τ := sg_X11_eventAt) (index := 278) dX11_merges_7 w7_101 w7_102 cs_X11_eventAt rfl ⟨by decide, by decide⟩ rfl)
    (e_each_cons (r_istore_n X (k := 3) (i := 3) rfl dX11_merges_10 (by decide) rfl)
    (e_each_cons (r_iconst X (n := 2) (v := 2) dX11_merges_11 (by decide) rfl)
    (e_each_cons (r_iload_n X (k := 2) (i := 2) rfl dX11_merges_12 rfl)
    (e_each_cons (r_callS X rfl (τ := sg_X11_eventAt) (index := 278) dX11_merges_13 w7_101 w7_102 cs_X11_eventAt rfl ⟨by decide, by decide⟩ rfl)
    (e_each_cons (r_istore X (i := 4) dX11_merges_16 (by decide) rfl)
    (e_each_cons (r_aload_n X (k := 0) (i := 0) rfl dX11_merges_18 rfl)
    (e_each_cons (r_aload_n X (k := 0) (i := 0) rfl dX11_merges_19 rfl)
    (e_each_cons (r_getP X (index := 7) (ci := 10) (k := 2) dX11_merges_20 (by decide) (by decide) rfl w6_28 rfl)
    (e_each_cons (r_iload X (i := 4) dX11_merges_23 rfl)
    (e_each_cons (r_callV X rfl (τ := sg_X11_laysDates) (index := 233) (ci := 10) dX11_merges_25 (by decide) rfl w7_31 w7_33 ws_51 cs_X11_laysDates rfl ⟨by decide, by decide⟩ rfl)
    (e_each_cons (r_iconst X (n := 0) (v := 0) dX11_merges_28 (by decide) rfl)
    (e_each_cons (r_istore X (i := 5) dX11_merges_29 (by decide) rfl)
    (e_each_cons (r_iload X (i := 5) dX11_merges_31 rfl)
    (e_each_cons (r_bipush X (n := 30) (v := 30) dX11_merges_33 (by decide) rfl)
    (e_each_cons (r_icmp_ge X (off := 53) (t := 88) dX11_merges_35 (by decide) rfl)
    (e_each_cons (r_bipush X (n := 76) (v := 76) dX11_merges_38 (by decide) rfl)
    (e_each_cons (r_bipush X (n := 30) (v := 30) dX11_merges_40 (by decide) rfl)
    (e_each_cons (r_iload_n X (k := 1) (i := 1) rfl dX11_merges_42 rfl)
    (e_each_cons (r_imul X dX11_merges_43 rfl)
    (e_each_cons (r_iadd X dX11_merges_44 rfl)
    (e_each_cons (r_iload X (i := 5) dX11_merges_45 rfl)
    (e_each_cons (r_iadd X dX11_merges_47 rfl)
    (e_each_cons (r_istore X (i := 6) dX11_merges_48 (by decide) rfl)
    (e_each_cons (r_aload_n X (k := 0) (i := 0) rfl dX11_merges_50 rfl)
    (e_each_cons (r_getP X (index := 7) (ci := 10) (k := 2) dX11_merges_51 (by decide) (by decide) rfl w6_28 rfl)
    (e_each_cons (r_iload X (i := 4) dX11_merges_54 rfl)
    (e_each_cons (r_iload X (i := 6) dX11_merges_56 rfl)
    (e_each_cons (r_iadd X dX11_merges_58 rfl)
    (e_each_cons (r_iload X (i := 5) dX11_merges_59 rfl)
    (e_each_cons (r_aload_n X (k := 0) (i := 0) rfl dX11_merges_61 rfl)
    (e_each_cons (r_getI X (index := 95) (ci := 10) (k := 8) dX11_merges_62 (by decide) (by decide) rfl w6_34 rfl)
    (e_each_cons (r_icmp_ge X (off := 15) (t := 80) dX11_merges_65 (by decide) rfl)
    (e_each_cons (r_aload_n X (k := 0) (i := 0) rfl dX11_merges_68 rfl)
    (e_each_cons (r_getP X (index := 7) (ci := 10) (k := 2) dX11_merges_69 (by decide) (by decide) rfl w6_28 rfl)
    (e_each_cons (r_iload_n X (k := 3) (i := 3) rfl dX11_merges_72 rfl)
    (e_each_cons (r_iload X (i := 6) dX11_merges_73 rfl)
    (e_each_cons (r_iadd X dX11_merges_75 rfl)
    (e_each_cons (r_iald X dX11_merges_76 rfl)
    (e_each_cons (r_goto X (off := 4) (t := 81) dX11_merges_77 (by decide))
    (e_each_cons (r_iconst X (n := 0) (v := 0) dX11_merges_80 (by decide) rfl)
    (e_each_cons (r_iast X dX11_merges_81 rfl)
    (e_each_cons (r_iinc X (i := 5) (n := 1) (d := 1) dX11_merges_82 (by decide) (by decide) rfl)
    (e_each_cons (r_goto X (off := (-54)) (t := 31) dX11_merges_85 (by decide))
    (e_each_cons (r_aload_n X (k := 0) (i := 0) rfl dX11_merges_88 rfl)
    (e_each_cons (r_getP X (index := 7) (ci := 10) (k := 2) dX11_merges_89 (by decide) (by decide) rfl w6_28 rfl)
    (e_each_cons (r_iload X (i := 4) dX11_merges_92 rfl)
    (e_each_cons (r_bipush X (n := 14) (v := 14) dX11_merges_94 (by decide) rfl)
    (e_each_cons (r_iadd X dX11_merges_96 rfl)
    (e_each_cons (r_iload_n X (k := 1) (i := 1) rfl dX11_merges_97 rfl)
    (e_each_cons (r_iadd X dX11_merges_98 rfl)
    (e_each_cons (r_aload_n X (k := 0) (i := 0) rfl dX11_merges_99 rfl)
    (e_each_cons (r_getP X (index := 7) (ci := 10) (k := 2) dX11_merges_100 (by decide) (by decide) rfl w6_28 rfl)
    (e_each_cons (r_iload_n X (k := 3) (i := 3) rfl dX11_merges_103 rfl)
    (e_each_cons (r_bipush X (n := 14) (v := 14) dX11_merges_104 (by decide) rfl)
    (e_each_cons (r_iadd X dX11_merges_106 rfl)
    (e_each_cons (r_iload_n X (k := 1) (i := 1) rfl dX11_merges_107 rfl)
    (e_each_cons (r_iadd X dX11_merges_108 rfl)
    (e_each_cons (r_iald X dX11_merges_109 rfl)
    (e_each_cons (r_iast X dX11_merges_110 rfl)
    (e_each_cons (r_aload_n X (k := 0) (i := 0) rfl dX11_merges_111 rfl)
    (e_each_cons (r_getP X (index := 7) (ci := 10) (k := 2) dX11_merges_112 (by decide) (by decide) rfl w6_28 rfl)
    (e_each_cons (r_iload X (i := 4) dX11_merges_115 rfl)
    (e_each_cons (r_bipush X (n := 9) (v := 9) dX11_merges_117 (by decide) rfl)
    (e_each_cons (r_iadd X dX11_merges_119 rfl)
    (e_each_cons (r_aload_n X (k := 0) (i := 0) rfl dX11_merges_120 rfl)
    (e_each_cons (r_getP X (index := 7) (ci := 10) (k := 2) dX11_merges_121 (by decide) (by decide) rfl w6_28 rfl)
    (e_each_cons (r_iconst X (n := 0) (v := 0) dX11_merges_124 (by decide) rfl)
    (e_each_cons (r_iald X dX11_merges_125 rfl)
    (e_each_cons (r_iast X dX11_merges_126 rfl)
    (e_each_cons (r_aload_n X (k := 0) (i := 0) rfl dX11_merges_127 rfl)
    (e_each_cons (r_iconst X (n := 2) (v := 2) dX11_merges_128 (by decide) rfl)
    (e_each_cons (r_iload_n X (k := 1) (i := 1) rfl dX11_merges_129 rfl)
    (e_each_cons (r_iload_n X (k := 2) (i := 2) rfl dX11_merges_130 rfl)
    (e_each_cons (r_callV X rfl (τ := sg_X11_copiesEvent) (index := 398) (ci := 10) dX11_merges_131 (by decide) rfl w8_90 w8_92 ws_92 cs_X11_copiesEvent rfl ⟨by decide, by decide⟩ rfl)
    (e_each_cons (r_aload_n X (k := 0) (i := 0) rfl dX11_merges_134 rfl)
    (e_each_cons (r_iload_n X (k := 1) (i := 1) rfl dX11_merges_135 rfl)
    (e_each_cons (r_iconst X (n := 1) (v := 1) dX11_merges_136 (by decide) rfl)
    (e_each_cons (r_iconst X (n := 1) (v := 1) dX11_merges_137 (by decide) rfl)
    (e_each_cons (r_callV X rfl (τ := sg_X11_counts) (index := 401) (ci := 10) dX11_merges_138 (by decide) rfl w8_94 w8_96 ws_93 cs_X11_counts rfl ⟨by decide, by decide⟩ rfl)
    (e_each_cons (r_vret X dX11_merges_141 rfl)
    (e_each_nil))))))))))))))))))))))))))))))))))))))))))))))))))))))))))))))))))))))))))))))))))))))
theorem dX11_pushesOne_0 : decode cX11_pushesOne 0 = .ok (.aload_n 0, 1) := by decide +kernel
theorem dX11_pushesOne_1 : decode cX11_pushesOne 1 = .ok (.iload_n 1, 1) := by decide +kernel
theorem dX11_pushesOne_2 : decode cX11_pushesOne 2 = .ok (.iload_n 2, 1) := by decide +kernel
theorem dX11_pushesOne_3 : decode cX11_pushesOne 3 = .ok (.invokevirtual 404, 3) := by decide +kernel
theorem dX11_pushesOne_6 : decode cX11_pushesOne 6 = .ok (.ifCond .eq 11, 3) := by decide +kernel
theorem dX11_pushesOne_9 : decode cX11_pushesOne 9 = .ok (.aload_n 0, 1) := by decide +kernel
theorem dX11_pushesOne_10 : decode cX11_pushesOne 10 = .ok (.iload_n 1, 1) := by decide +kernel
theorem dX11_pushesOne_11 : decode cX11_pushesOne 11 = .ok (.iload_n 2, 1) := by decide +kernel
theorem dX11_pushesOne_12 : decode cX11_pushesOne 12 = .ok (.invokevirtual 407, 3) := by decide +kernel
theorem dX11_pushesOne_15 : decode cX11_pushesOne 15 = .ok (.iconst 0, 1) := by decide +kernel
theorem dX11_pushesOne_16 : decode cX11_pushesOne 16 = .ok (.ireturn, 1) := by decide +kernel
theorem dX11_pushesOne_17 : decode cX11_pushesOne 17 = .ok (.aload_n 0, 1) := by decide +kernel
theorem dX11_pushesOne_18 : decode cX11_pushesOne 18 = .ok (.iconst 2, 1) := by decide +kernel
theorem dX11_pushesOne_19 : decode cX11_pushesOne 19 = .ok (.iload_n 2, 1) := by decide +kernel
theorem dX11_pushesOne_20 : decode cX11_pushesOne 20 = .ok (.invokevirtual 281, 3) := by decide +kernel
theorem dX11_pushesOne_23 : decode cX11_pushesOne 23 = .ok (.ifCond .eq 27, 3) := by decide +kernel
theorem dX11_pushesOne_26 : decode cX11_pushesOne 26 = .ok (.aload_n 0, 1) := by decide +kernel
theorem dX11_pushesOne_27 : decode cX11_pushesOne 27 = .ok (.getfield 7, 3) := by decide +kernel
theorem dX11_pushesOne_30 : decode cX11_pushesOne 30 = .ok (.iload_n 1, 1) := by decide +kernel
theorem dX11_pushesOne_31 : decode cX11_pushesOne 31 = .ok (.iload_n 2, 1) := by decide +kernel
theorem dX11_pushesOne_32 : decode cX11_pushesOne 32 = .ok (.invokestatic 278, 3) := by decide +kernel
theorem dX11_pushesOne_35 : decode cX11_pushesOne 35 = .ok (.bipush 10, 2) := by decide +kernel
theorem dX11_pushesOne_37 : decode cX11_pushesOne 37 = .ok (.iadd, 1) := by decide +kernel
theorem dX11_pushesOne_38 : decode cX11_pushesOne 38 = .ok (.iaload, 1) := by decide +kernel
theorem dX11_pushesOne_39 : decode cX11_pushesOne 39 = .ok (.ifCond .ne 11, 3) := by decide +kernel
theorem dX11_pushesOne_42 : decode cX11_pushesOne 42 = .ok (.aload_n 0, 1) := by decide +kernel
theorem dX11_pushesOne_43 : decode cX11_pushesOne 43 = .ok (.iload_n 1, 1) := by decide +kernel
theorem dX11_pushesOne_44 : decode cX11_pushesOne 44 = .ok (.iload_n 2, 1) := by decide +kernel
theorem dX11_pushesOne_45 : decode cX11_pushesOne 45 = .ok (.invokevirtual 410, 3) := by decide +kernel
theorem dX11_pushesOne_48 : decode cX11_pushesOne 48 = .ok (.iconst 0, 1) := by decide +kernel
theorem dX11_pushesOne_49 : decode cX11_pushesOne 49 = .ok (.ireturn, 1) := by decide +kernel
theorem dX11_pushesOne_50 : decode cX11_pushesOne 50 = .ok (.aload_n 0, 1) := by decide +kernel
theorem dX11_pushesOne_51 : decode cX11_pushesOne 51 = .ok (.iconst 2, 1) := by decide +kernel
theorem dX11_pushesOne_52 : decode cX11_pushesOne 52 = .ok (.iload_n 1, 1) := by decide +kernel
theorem dX11_pushesOne_53 : decode cX11_pushesOne 53 = .ok (.iload_n 2, 1) := by decide +kernel
theorem dX11_pushesOne_54 : decode cX11_pushesOne 54 = .ok (.invokevirtual 398, 3) := by decide +kernel
theorem dX11_pushesOne_57 : decode cX11_pushesOne 57 = .ok (.aload_n 0, 1) := by decide +kernel
theorem dX11_pushesOne_58 : decode cX11_pushesOne 58 = .ok (.iload_n 1, 1) := by decide +kernel
theorem dX11_pushesOne_59 : decode cX11_pushesOne 59 = .ok (.iconst 2, 1) := by decide +kernel
theorem dX11_pushesOne_60 : decode cX11_pushesOne 60 = .ok (.iconst 1, 1) := by decide +kernel
theorem dX11_pushesOne_61 : decode cX11_pushesOne 61 = .ok (.invokevirtual 401, 3) := by decide +kernel
theorem dX11_pushesOne_64 : decode cX11_pushesOne 64 = .ok (.iconst 1, 1) := by decide +kernel
theorem dX11_pushesOne_65 : decode cX11_pushesOne 65 = .ok (.ireturn, 1) := by decide +kernel
def pg_X11_pushesOne (l : Launch) (g : EG) : List (Nat × ES) := [(0, s_ldP 0), (1, s_ldI 1), (2, s_ldI 2), (3, s_callV l g sg_X11_pushesOne sg_X11_isAccepted 10), (6, s_if_eq 17), (9, s_ldP 0), (10, s_ldI 1), (11, s_ldI 2), (12, s_callV l g sg_X11_pushesOne sg_X11_accepts 10), (15, s_c (.inl 0)), (16, s_iretz), (17, s_ldP 0), (18, s_c (.inl 2)), (19, s_ldI 2), (20, s_callV l g sg_X11_pushesOne sg_X11_isThere 10), (23, s_if_eq 50), (26, s_ldP 0), (27, s_getP 10 2), (30, s_ldI 1), (31, s_ldI 2), (32, s_callS l g sg_X11_pushesOne sg_X11_eventAt), (35, s_c (.inl 10)), (37, s_ii (fun x y => x + y)), (38, s_iald), (39, s_if_ne 50), (42, s_ldP 0), (43, s_ldI 1), (44, s_ldI 2), (45, s_callV l g sg_X11_pushesOne sg_X11_merges 10), (48, s_c (.inl 0)), (49, s_iretz), (50, s_ldP 0), (51, s_c (.inl 2)), (52, s_ldI 1), (53, s_ldI 2), (54, s_callV l g sg_X11_pushesOne sg_X11_copiesEvent 10), (57, s_ldP 0), (58, s_ldI 1), (59, s_c (.inl 2)), (60, s_c (.inl 1)), (61, s_callV l g sg_X11_pushesOne sg_X11_counts 10), (64, s_c (.inl 1)), (65, s_iretz)]
set_option maxRecDepth 100000 in
theorem ok_X11_pushesOne {l : Launch} {g : EG} : e_okp l g sg_X11_pushesOne "CalendarSyncModel" (pg_X11_pushesOne l g) := fun p e R s m args below meth c ex M0 Q X =>
    e_each_cons (r_aload_n X (k := 0) (i := 0) rfl dX11_pushesOne_0 rfl)
    (e_each_cons (r_iload_n X (k := 1) (i := 1) rfl dX11_pushesOne_1 rfl)
    (e_each_cons (r_iload_n X (k := 2) (i := 2) rfl dX11_pushesOne_2 rfl)
    (e_each_cons (r_callV X rfl (τ := sg_X11_isAccepted) (index := 404) (ci := 10) dX11_pushesOne_3 (by decide) rfl w8_82 w8_84 ws_90 cs_X11_isAccepted rfl ⟨by decide, by decide⟩ rfl)
    (e_each_cons (r_if_eq X (off := 11) (t := 17) dX11_pushesOne_6 (by decide) rfl)
    (e_each_cons (r_aload_n X (k := 0) (i := 0) rfl dX11_pushesOne_9 rfl)
    (e_each_cons (r_iload_n X (k := 1) (i := 1) rfl dX11_pushesOne_10 rfl)
    (e_each_cons (r_iload_n X (k := 2) (i := 2) rfl dX11_pushesOne_11 rfl)
    (e_each_cons (r_callV X rfl (τ := sg_X11_accepts) (index := 407) (ci := 10) dX11_pushesOne_12 (by decide) rfl w8_86 w8_88 ws_91 cs_X11_accepts rfl ⟨by decide, by decide⟩ rfl)
    (e_each_cons (r_iconst X (n := 0) (v := 0) dX11_pushesOne_15 (by decide) rfl)
    (e_each_cons (r_iretz X dX11_pushesOne_16 rfl)
    (e_each_cons (r_aload_n X (k := 0) (i := 0) rfl dX11_pushesOne_17 rfl)
    (e_each_cons (r_iconst X (n := 2) (v := 2) dX11_pushesOne_18 (by decide) rfl)
    (e_each_cons (r_iload_n X (k := 2) (i := 2) rfl dX11_pushesOne_19 rfl)
    (e_each_cons (r_callV X rfl (τ := sg_X11_isThere) (index := 281) (ci := 10) dX11_pushesOne_20 (by decide) rfl w7_97 w7_99 ws_61 cs_X11_isThere rfl ⟨by decide, by decide⟩ rfl)
    (e_each_cons (r_if_eq X (off := 27) (t := 50) dX11_pushesOne_23 (by decide) rfl)
    (e_each_cons (r_aload_n X (k := 0) (i := 0) rfl dX11_pushesOne_26 rfl)
    (e_each_cons (r_getP X (index := 7) (ci := 10) (k := 2) dX11_pushesOne_27 (by decide) (by decide) rfl w6_28 rfl)
    (e_each_cons (r_iload_n X (k := 1) (i := 1) rfl dX11_pushesOne_30 rfl)
    (e_each_cons (r_iload_n X (k := 2) (i := 2) rfl dX11_pushesOne_31 rfl)
    (e_each_cons (r_callS X rfl (τ := sg_X11_eventAt) (index := 278) dX11_pushesOne_32 w7_101 w7_102 cs_X11_eventAt rfl ⟨by decide, by decide⟩ rfl)
    (e_each_cons (r_bipush X (n := 10) (v := 10) dX11_pushesOne_35 (by decide) rfl)
    (e_each_cons (r_iadd X dX11_pushesOne_37 rfl)
    (e_each_cons (r_iald X dX11_pushesOne_38 rfl)
    (e_each_cons (r_if_ne X (off := 11) (t := 50) dX11_pushesOne_39 (by decide) rfl)
    (e_each_cons (r_aload_n X (k := 0) (i := 0) rfl dX11_pushesOne_42 rfl)
    (e_each_cons (r_iload_n X (k := 1) (i := 1) rfl dX11_pushesOne_43 rfl)
    (e_each_cons (r_iload_n X (k := 2) (i := 2) rfl dX11_pushesOne_44 rfl)
    (e_each_cons (r_callV X rfl (τ := sg_X11_merges) (index := 410) (ci := 10) dX11_pushesOne_45 (by decide) rfl w8_98 w8_100 ws_94 cs_X11_merges rfl ⟨by decide, by decide⟩ rfl)
    (e_each_cons (r_iconst X (n := 0) (v := 0) dX11_pushesOne_48 (by decide) rfl)
    (e_each_cons (r_iretz X dX11_pushesOne_49 rfl)
    (e_each_cons (r_aload_n X (k := 0) (i := 0) rfl dX11_pushesOne_50 rfl)
    (e_each_cons (r_iconst X (n := 2) (v := 2) dX11_pushesOne_51 (by decide) rfl)
    (e_each_cons (r_iload_n X (k := 1) (i := 1) rfl dX11_pushesOne_52 rfl)
    (e_each_cons (r_iload_n X (k := 2) (i := 2) rfl dX11_pushesOne_53 rfl)
    (e_each_cons (r_callV X rfl (τ := sg_X11_copiesEvent) (index := 398) (ci := 10) dX11_pushesOne_54 (by decide) rfl w8_90 w8_92 ws_92 cs_X11_copiesEvent rfl ⟨by decide, by decide⟩ rfl)
    (e_each_cons (r_aload_n X (k := 0) (i := 0) rfl dX11_pushesOne_57 rfl)
    (e_each_cons (r_iload_n X (k := 1) (i := 1) rfl dX11_pushesOne_58 rfl)
    (e_each_cons (r_iconst X (n := 2) (v := 2) dX11_pushesOne_59 (by decide) rfl)
    (e_each_cons (r_iconst X (n := 1) (v := 1) dX11_pushesOne_60 (by decide) rfl)
    (e_each_cons (r_callV X rfl (τ := sg_X11_counts) (index := 401) (ci := 10) dX11_pushesOne_61 (by decide) rfl w8_94 w8_96 ws_93 cs_X11_counts rfl ⟨by decide, by decide⟩ rfl)
    (e_each_cons (r_iconst X (n := 1) (v := 1) dX11_pushesOne_64 (by decide) rfl)
    (e_each_cons (r_iretz X dX11_pushesOne_65 rfl)
    (e_each_nil)))))))))))))))))))))))))))))))))))))))))))
theorem dX11_pushes_0 : decode cX11_pushes 0 = .ok (.iconst 0, 1) := by decide +kernel
theorem dX11_pushes_1 : decode cX11_pushes 1 = .ok (.istore_n 2, 1) := by decide +kernel
theorem dX11_pushes_2 : decode cX11_pushes 2 = .ok (.iconst 0, 1) := by decide +kernel
theorem dX11_pushes_3 : decode cX11_pushes 3 = .ok (.istore_n 3, 1) := by decide +kernel
theorem dX11_pushes_4 : decode cX11_pushes 4 = .ok (.iload_n 3, 1) := by decide +kernel
theorem dX11_pushes_5 : decode cX11_pushes 5 = .ok (.bipush 8, 2) := by decide +kernel
theorem dX11_pushes_7 : decode cX11_pushes 7 = .ok (.if_icmp .ge 31, 3) := by decide +kernel
theorem dX11_pushes_10 : decode cX11_pushes 10 = .ok (.aload_n 0, 1) := by decide +kernel
theorem dX11_pushes_11 : decode cX11_pushes 11 = .ok (.iload_n 1, 1) := by decide +kernel
theorem dX11_pushes_12 : decode cX11_pushes 12 = .ok (.iload_n 3, 1) := by decide +kernel
theorem dX11_pushes_13 : decode cX11_pushes 13 = .ok (.invokevirtual 356, 3) := by decide +kernel
theorem dX11_pushes_16 : decode cX11_pushes 16 = .ok (.ifCond .eq 16, 3) := by decide +kernel
theorem dX11_pushes_19 : decode cX11_pushes 19 = .ok (.aload_n 0, 1) := by decide +kernel
theorem dX11_pushes_20 : decode cX11_pushes 20 = .ok (.iload_n 1, 1) := by decide +kernel
theorem dX11_pushes_21 : decode cX11_pushes 21 = .ok (.iload_n 3, 1) := by decide +kernel
theorem dX11_pushes_22 : decode cX11_pushes 22 = .ok (.invokevirtual 413, 3) := by decide +kernel
theorem dX11_pushes_25 : decode cX11_pushes 25 = .ok (.ifCond .eq 7, 3) := by decide +kernel
theorem dX11_pushes_28 : decode cX11_pushes 28 = .ok (.iload_n 2, 1) := by decide +kernel
theorem dX11_pushes_29 : decode cX11_pushes 29 = .ok (.iconst 1, 1) := by decide +kernel
theorem dX11_pushes_30 : decode cX11_pushes 30 = .ok (.iadd, 1) := by decide +kernel
theorem dX11_pushes_31 : decode cX11_pushes 31 = .ok (.istore_n 2, 1) := by decide +kernel
theorem dX11_pushes_32 : decode cX11_pushes 32 = .ok (.iinc 3 1, 3) := by decide +kernel
theorem dX11_pushes_35 : decode cX11_pushes 35 = .ok (.goto (-31), 3) := by decide +kernel
theorem dX11_pushes_38 : decode cX11_pushes 38 = .ok (.iload_n 2, 1) := by decide +kernel
theorem dX11_pushes_39 : decode cX11_pushes 39 = .ok (.ireturn, 1) := by decide +kernel
def pg_X11_pushes (l : Launch) (g : EG) : List (Nat × ES) := [(0, s_c (.inl 0)), (1, s_stI 2), (2, s_c (.inl 0)), (3, s_stI 3), (4, s_ldI 3), (5, s_c (.inl 8)), (7, s_icmp_ge 38), (10, s_ldP 0), (11, s_ldI 1), (12, s_ldI 3), (13, s_callV l g sg_X11_pushes sg_X11_isChanged 10), (16, s_if_eq 32), (19, s_ldP 0), (20, s_ldI 1), (21, s_ldI 3), (22, s_callV l g sg_X11_pushes sg_X11_pushesOne 10), (25, s_if_eq 32), (28, s_ldI 2), (29, s_c (.inl 1)), (30, s_ii (fun x y => x + y)), (31, s_stI 2), (32, s_iinc 3 1), (35, s_goto 4), (38, s_ldI 2), (39, s_ireti)]
set_option maxRecDepth 100000 in
theorem ok_X11_pushes {l : Launch} {g : EG} : e_okp l g sg_X11_pushes "CalendarSyncModel" (pg_X11_pushes l g) := fun p e R s m args below meth c ex M0 Q X =>
    e_each_cons (r_iconst X (n := 0) (v := 0) dX11_pushes_0 (by decide) rfl)
    (e_each_cons (r_istore_n X (k := 2) (i := 2) rfl dX11_pushes_1 (by decide) rfl)
    (e_each_cons (r_iconst X (n := 0) (v := 0) dX11_pushes_2 (by decide) rfl)
    (e_each_cons (r_istore_n X (k := 3) (i := 3) rfl dX11_pushes_3 (by decide) rfl)
    (e_each_cons (r_iload_n X (k := 3) (i := 3) rfl dX11_pushes_4 rfl)
    (e_each_cons (r_bipush X (n := 8) (v := 8) dX11_pushes_5 (by decide) rfl)
    (e_each_cons (r_icmp_ge X (off := 31) (t := 38) dX11_pushes_7 (by decide) rfl)
    (e_each_cons (r_aload_n X (k := 0) (i := 0) rfl dX11_pushes_10 rfl)
    (e_each_cons (r_iload_n X (k := 1) (i := 1) rfl dX11_pushes_11 rfl)
    (e_each_cons (r_iload_n X (k := 3) (i := 3) rfl dX11_pushes_12 rfl)
    (e_each_cons (r_callV X rfl (τ := sg_X11_isChanged) (index := 356) (ci := 10) dX11_pushes_13 (by decide) rfl w7_232 w7_234 ws_78 cs_X11_isChanged rfl ⟨by decide, by decide⟩ rfl)
    (e_each_cons (r_if_eq X (off := 16) (t := 32) dX11_pushes_16 (by decide) rfl)
    (e_each_cons (r_aload_n X (k := 0) (i := 0) rfl dX11_pushes_19 rfl)
    (e_each_cons (r_iload_n X (k := 1) (i := 1) rfl dX11_pushes_20 rfl)
    (e_each_cons (r_iload_n X (k := 3) (i := 3) rfl dX11_pushes_21 rfl)
    (e_each_cons (r_callV X rfl (τ := sg_X11_pushesOne) (index := 413) (ci := 10) dX11_pushes_22 (by decide) rfl w8_78 w8_80 ws_89 cs_X11_pushesOne rfl ⟨by decide, by decide⟩ rfl)
    (e_each_cons (r_if_eq X (off := 7) (t := 32) dX11_pushes_25 (by decide) rfl)
    (e_each_cons (r_iload_n X (k := 2) (i := 2) rfl dX11_pushes_28 rfl)
    (e_each_cons (r_iconst X (n := 1) (v := 1) dX11_pushes_29 (by decide) rfl)
    (e_each_cons (r_iadd X dX11_pushes_30 rfl)
    (e_each_cons (r_istore_n X (k := 2) (i := 2) rfl dX11_pushes_31 (by decide) rfl)
    (e_each_cons (r_iinc X (i := 3) (n := 1) (d := 1) dX11_pushes_32 (by decide) (by decide) rfl)
    (e_each_cons (r_goto X (off := (-31)) (t := 4) dX11_pushes_35 (by decide))
    (e_each_cons (r_iload_n X (k := 2) (i := 2) rfl dX11_pushes_38 rfl)
    (e_each_cons (r_ireti X dX11_pushes_39 rfl)
    (e_each_nil)))))))))))))))))))))))))
theorem dX11_pulls_0 : decode cX11_pulls 0 = .ok (.aload_n 0, 1) := by decide +kernel
theorem dX11_pulls_1 : decode cX11_pulls 1 = .ok (.iload_n 1, 1) := by decide +kernel
theorem dX11_pulls_2 : decode cX11_pulls 2 = .ok (.invokevirtual 366, 3) := by decide +kernel
theorem dX11_pulls_5 : decode cX11_pulls 5 = .ok (.invokestatic 382, 3) := by decide +kernel
theorem dX11_pulls_8 : decode cX11_pulls 8 = .ok (.istore_n 2, 1) := by decide +kernel
theorem dX11_pulls_9 : decode cX11_pulls 9 = .ok (.aload_n 0, 1) := by decide +kernel
theorem dX11_pulls_10 : decode cX11_pulls 10 = .ok (.iload_n 1, 1) := by decide +kernel
theorem dX11_pulls_11 : decode cX11_pulls 11 = .ok (.iconst 3, 1) := by decide +kernel
theorem dX11_pulls_12 : decode cX11_pulls 12 = .ok (.iconst 1, 1) := by decide +kernel
theorem dX11_pulls_13 : decode cX11_pulls 13 = .ok (.invokevirtual 401, 3) := by decide +kernel
theorem dX11_pulls_16 : decode cX11_pulls 16 = .ok (.aload_n 0, 1) := by decide +kernel
theorem dX11_pulls_17 : decode cX11_pulls 17 = .ok (.iload_n 1, 1) := by decide +kernel
theorem dX11_pulls_18 : decode cX11_pulls 18 = .ok (.iconst 4, 1) := by decide +kernel
theorem dX11_pulls_19 : decode cX11_pulls 19 = .ok (.aload_n 0, 1) := by decide +kernel
theorem dX11_pulls_20 : decode cX11_pulls 20 = .ok (.iload_n 1, 1) := by decide +kernel
theorem dX11_pulls_21 : decode cX11_pulls 21 = .ok (.invokevirtual 359, 3) := by decide +kernel
theorem dX11_pulls_24 : decode cX11_pulls 24 = .ok (.ifCond .eq 7, 3) := by decide +kernel
theorem dX11_pulls_27 : decode cX11_pulls 27 = .ok (.iconst 1, 1) := by decide +kernel
theorem dX11_pulls_28 : decode cX11_pulls 28 = .ok (.goto 4, 3) := by decide +kernel
theorem dX11_pulls_31 : decode cX11_pulls 31 = .ok (.iconst 0, 1) := by decide +kernel
theorem dX11_pulls_32 : decode cX11_pulls 32 = .ok (.invokevirtual 401, 3) := by decide +kernel
theorem dX11_pulls_35 : decode cX11_pulls 35 = .ok (.aload_n 0, 1) := by decide +kernel
theorem dX11_pulls_36 : decode cX11_pulls 36 = .ok (.iload_n 1, 1) := by decide +kernel
theorem dX11_pulls_37 : decode cX11_pulls 37 = .ok (.iconst 5, 1) := by decide +kernel
theorem dX11_pulls_38 : decode cX11_pulls 38 = .ok (.iload_n 2, 1) := by decide +kernel
theorem dX11_pulls_39 : decode cX11_pulls 39 = .ok (.invokevirtual 401, 3) := by decide +kernel
theorem dX11_pulls_42 : decode cX11_pulls 42 = .ok (.iconst 0, 1) := by decide +kernel
theorem dX11_pulls_43 : decode cX11_pulls 43 = .ok (.istore_n 3, 1) := by decide +kernel
theorem dX11_pulls_44 : decode cX11_pulls 44 = .ok (.iload_n 3, 1) := by decide +kernel
theorem dX11_pulls_45 : decode cX11_pulls 45 = .ok (.bipush 12, 2) := by decide +kernel
theorem dX11_pulls_47 : decode cX11_pulls 47 = .ok (.if_icmp .ge 34, 3) := by decide +kernel
theorem dX11_pulls_50 : decode cX11_pulls 50 = .ok (.aload_n 0, 1) := by decide +kernel
theorem dX11_pulls_51 : decode cX11_pulls 51 = .ok (.getfield 7, 3) := by decide +kernel
theorem dX11_pulls_54 : decode cX11_pulls 54 = .ok (.bipush 24, 2) := by decide +kernel
theorem dX11_pulls_56 : decode cX11_pulls 56 = .ok (.sipush 1100, 3) := by decide +kernel
theorem dX11_pulls_59 : decode cX11_pulls 59 = .ok (.iload_n 1, 1) := by decide +kernel
theorem dX11_pulls_60 : decode cX11_pulls 60 = .ok (.imul, 1) := by decide +kernel
theorem dX11_pulls_61 : decode cX11_pulls 61 = .ok (.iadd, 1) := by decide +kernel
theorem dX11_pulls_62 : decode cX11_pulls 62 = .ok (.iload_n 3, 1) := by decide +kernel
theorem dX11_pulls_63 : decode cX11_pulls 63 = .ok (.iadd, 1) := by decide +kernel
theorem dX11_pulls_64 : decode cX11_pulls 64 = .ok (.aload_n 0, 1) := by decide +kernel
theorem dX11_pulls_65 : decode cX11_pulls 65 = .ok (.getfield 7, 3) := by decide +kernel
theorem dX11_pulls_68 : decode cX11_pulls 68 = .ok (.sipush 2224, 3) := by decide +kernel
theorem dX11_pulls_71 : decode cX11_pulls 71 = .ok (.iload_n 3, 1) := by decide +kernel
theorem dX11_pulls_72 : decode cX11_pulls 72 = .ok (.iadd, 1) := by decide +kernel
theorem dX11_pulls_73 : decode cX11_pulls 73 = .ok (.iaload, 1) := by decide +kernel
theorem dX11_pulls_74 : decode cX11_pulls 74 = .ok (.iastore, 1) := by decide +kernel
theorem dX11_pulls_75 : decode cX11_pulls 75 = .ok (.iinc 3 1, 3) := by decide +kernel
theorem dX11_pulls_78 : decode cX11_pulls 78 = .ok (.goto (-34), 3) := by decide +kernel
theorem dX11_pulls_81 : decode cX11_pulls 81 = .ok (.iconst 0, 1) := by decide +kernel
theorem dX11_pulls_82 : decode cX11_pulls 82 = .ok (.istore_n 3, 1) := by decide +kernel
theorem dX11_pulls_83 : decode cX11_pulls 83 = .ok (.iload_n 3, 1) := by decide +kernel
theorem dX11_pulls_84 : decode cX11_pulls 84 = .ok (.bipush 8, 2) := by decide +kernel
theorem dX11_pulls_86 : decode cX11_pulls 86 = .ok (.if_icmp .ge 25, 3) := by decide +kernel
theorem dX11_pulls_89 : decode cX11_pulls 89 = .ok (.aload_n 0, 1) := by decide +kernel
theorem dX11_pulls_90 : decode cX11_pulls 90 = .ok (.iload_n 1, 1) := by decide +kernel
theorem dX11_pulls_91 : decode cX11_pulls 91 = .ok (.iload_n 3, 1) := by decide +kernel
theorem dX11_pulls_92 : decode cX11_pulls 92 = .ok (.invokevirtual 356, 3) := by decide +kernel
theorem dX11_pulls_95 : decode cX11_pulls 95 = .ok (.ifCond .ne 10, 3) := by decide +kernel
theorem dX11_pulls_98 : decode cX11_pulls 98 = .ok (.aload_n 0, 1) := by decide +kernel
theorem dX11_pulls_99 : decode cX11_pulls 99 = .ok (.iconst 2, 1) := by decide +kernel
theorem dX11_pulls_100 : decode cX11_pulls 100 = .ok (.iload_n 1, 1) := by decide +kernel
theorem dX11_pulls_101 : decode cX11_pulls 101 = .ok (.iload_n 3, 1) := by decide +kernel
theorem dX11_pulls_102 : decode cX11_pulls 102 = .ok (.invokevirtual 398, 3) := by decide +kernel
theorem dX11_pulls_105 : decode cX11_pulls 105 = .ok (.iinc 3 1, 3) := by decide +kernel
theorem dX11_pulls_108 : decode cX11_pulls 108 = .ok (.goto (-25), 3) := by decide +kernel
theorem dX11_pulls_111 : decode cX11_pulls 111 = .ok (.aload_n 0, 1) := by decide +kernel
theorem dX11_pulls_112 : decode cX11_pulls 112 = .ok (.getfield 7, 3) := by decide +kernel
theorem dX11_pulls_115 : decode cX11_pulls 115 = .ok (.iconst 1, 1) := by decide +kernel
theorem dX11_pulls_116 : decode cX11_pulls 116 = .ok (.iload_n 1, 1) := by decide +kernel
theorem dX11_pulls_117 : decode cX11_pulls 117 = .ok (.iadd, 1) := by decide +kernel
theorem dX11_pulls_118 : decode cX11_pulls 118 = .ok (.aload_n 0, 1) := by decide +kernel
theorem dX11_pulls_119 : decode cX11_pulls 119 = .ok (.getfield 7, 3) := by decide +kernel
theorem dX11_pulls_122 : decode cX11_pulls 122 = .ok (.iconst 0, 1) := by decide +kernel
theorem dX11_pulls_123 : decode cX11_pulls 123 = .ok (.iaload, 1) := by decide +kernel
theorem dX11_pulls_124 : decode cX11_pulls 124 = .ok (.iastore, 1) := by decide +kernel
theorem dX11_pulls_125 : decode cX11_pulls 125 = .ok (.iload_n 2, 1) := by decide +kernel
theorem dX11_pulls_126 : decode cX11_pulls 126 = .ok (.ireturn, 1) := by decide +kernel
def pg_X11_pulls (l : Launch) (g : EG) : List (Nat × ES) := [(0, s_ldP 0), (1, s_ldI 1), (2, s_callV l g sg_X11_pulls sg_X11_toldTo 10), (5, s_callS l g sg_X11_pulls sg_X11_bitsIn), (8, s_stI 2), (9, s_ldP 0), (10, s_ldI 1), (11, s_c (.inl 3)), (12, s_c (.inl 1)), (13, s_callV l g sg_X11_pulls sg_X11_counts 10), (16, s_ldP 0), (17, s_ldI 1), (18, s_c (.inl 4)), (19, s_ldP 0), (20, s_ldI 1), (21, s_callV l g sg_X11_pulls sg_X11_isTooOld 10), (24, s_if_eq 31), (27, s_c (.inl 1)), (28, s_goto 32), (31, s_c (.inl 0)), (32, s_callV l g sg_X11_pulls sg_X11_counts 10), (35, s_ldP 0), (36, s_ldI 1), (37, s_c (.inl 5)), (38, s_ldI 2), (39, s_callV l g sg_X11_pulls sg_X11_counts 10), (42, s_c (.inl 0)), (43, s_stI 3), (44, s_ldI 3), (45, s_c (.inl 12)), (47, s_icmp_ge 81), (50, s_ldP 0), (51, s_getP 10 2), (54, s_c (.inl 24)), (56, s_c (.inl 1100)), (59, s_ldI 1), (60, s_ii (fun x y => x * y)), (61, s_ii (fun x y => x + y)), (62, s_ldI 3), (63, s_ii (fun x y => x + y)), (64, s_ldP 0), (65, s_getP 10 2), (68, s_c (.inl 2224)), (71, s_ldI 3), (72, s_ii (fun x y => x + y)), (73, s_iald), (74, s_iast), (75, s_iinc 3 1), (78, s_goto 44), (81, s_c (.inl 0)), (82, s_stI 3), (83, s_ldI 3), (84, s_c (.inl 8)), (86, s_icmp_ge 111), (89, s_ldP 0), (90, s_ldI 1), (91, s_ldI 3), (92, s_callV l g sg_X11_pulls sg_X11_isChanged 10), (95, s_if_ne 105), (98, s_ldP 0), (99, s_c (.inl 2)), (100, s_ldI 1), (101, s_ldI 3), (102, s_callV l g sg_X11_pulls sg_X11_copiesEvent 10), (105, s_iinc 3 1), (108, s_goto 83), (111, s_ldP 0), (112, s_getP 10 2), (115, s_c (.inl 1)), (116, s_ldI 1), (117, s_ii (fun x y => x + y)), (118, s_ldP 0), (119, s_getP 10 2), (122, s_c (.inl 0)), (123, s_iald), (124, s_iast), (125, s_ldI 2), (126, s_ireti)]
set_option maxRecDepth 100000 in
theorem ok_X11_pulls {l : Launch} {g : EG} : e_okp l g sg_X11_pulls "CalendarSyncModel" (pg_X11_pulls l g) := fun p e R s m args below meth c ex M0 Q X =>
    e_each_cons (r_aload_n X (k := 0) (i := 0) rfl dX11_pulls_0 rfl)
    (e_each_cons (r_iload_n X (k := 1) (i := 1) rfl dX11_pulls_1 rfl)
    (e_each_cons (r_callV X rfl (τ := sg_X11_toldTo) (index := 366) (ci := 10) dX11_pulls_2 (by decide) rfl w8_0 w8_2 ws_80 cs_X11_toldTo rfl ⟨by decide, by decide⟩ rfl)
    (e_each_cons (r_callS X rfl (τ := sg_X11_bitsIn) (index := 382) dX11_pulls_5 w8_27 w8_28 cs_X11_bitsIn rfl ⟨by decide, by decide⟩ rfl)
    (e_each_cons (r_istore_n X (k := 2) (i := 2) rfl dX11_pulls_8 (by decide) rfl)
    (e_each_cons (r_aload_n X (k := 0) (i := 0) rfl dX11_pulls_9 rfl)
    (e_each_cons (r_iload_n X (k := 1) (i := 1) rfl dX11_pulls_10 rfl)
    (e_each_cons (r_iconst X (n := 3) (v := 3) dX11_pulls_11 (by decide) rfl)
    (e_each_cons (r_iconst X (n := 1) (v := 1) dX11_pulls_12 (by decide) rfl)
    (e_each_cons (r_callV X rfl (τ := sg_X11_counts) (index := 401) (ci := 10) dX11_pulls_13 (by decide) rfl w8_94 w8_96 ws_93 cs_X11_counts rfl ⟨by decide, by decide⟩ rfl)
    (e_each_cons (r_aload_n X (k := 0) (i := 0) rfl dX11_pulls_16 rfl)
    (e_each_cons (r_iload_n X (k := 1) (i := 1) rfl dX11_pulls_17 rfl)
    (e_each_cons (r_iconst X (n := 4) (v := 4) dX11_pulls_18 (by decide) rfl)
    (e_each_cons (r_aload_n X (k := 0) (i := 0) rfl dX11_pulls_19 rfl)
    (e_each_cons (r_iload_n X (k := 1) (i := 1) rfl dX11_pulls_20 rfl)
    (e_each_cons (r_callV X rfl (τ := sg_X11_isTooOld) (index := 359) (ci := 10) dX11_pulls_21 (by decide) rfl w7_236 w7_238 ws_79 cs_X11_isTooOld rfl ⟨by decide, by decide⟩ rfl)
    (e_each_cons (r_if_eq X (off := 7) (t := 31) dX11_pulls_24 (by decide) rfl)
    (e_each_cons (r_iconst X (n := 1) (v := 1) dX11_pulls_27 (by decide) rfl)
    (e_each_cons (r_goto X (off := 4) (t := 32) dX11_pulls_28 (by decide))
    (e_each_cons (r_iconst X (n := 0) (v := 0) dX11_pulls_31 (by decide) rfl)
    (e_each_cons (r_callV X rfl (τ := sg_X11_counts) (index := 401) (ci := 10) dX11_pulls_32 (by decide) rfl w8_94 w8_96 ws_93 cs_X11_counts rfl ⟨by decide, by decide⟩ rfl)
    (e_each_cons (r_aload_n X (k := 0) (i := 0) rfl dX11_pulls_35 rfl)
    (e_each_cons (r_iload_n X (k := 1) (i := 1) rfl dX11_pulls_36 rfl)
    (e_each_cons (r_iconst X (n := 5) (v := 5) dX11_pulls_37 (by decide) rfl)
    (e_each_cons (r_iload_n X (k := 2) (i := 2) rfl dX11_pulls_38 rfl)
    (e_each_cons (r_callV X rfl (τ := sg_X11_counts) (index := 401) (ci := 10) dX11_pulls_39 (by decide) rfl w8_94 w8_96 ws_93 cs_X11_counts rfl ⟨by decide, by decide⟩ rfl)
    (e_each_cons (r_iconst X (n := 0) (v := 0) dX11_pulls_42 (by decide) rfl)
    (e_each_cons (r_istore_n X (k := 3) (i := 3) rfl dX11_pulls_43 (by decide) rfl)
    (e_each_cons (r_iload_n X (k := 3) (i := 3) rfl dX11_pulls_44 rfl)
    (e_each_cons (r_bipush X (n := 12) (v := 12) dX11_pulls_45 (by decide) rfl)
    (e_each_cons (r_icmp_ge X (off := 34) (t := 81) dX11_pulls_47 (by decide) rfl)
    (e_each_cons (r_aload_n X (k := 0) (i := 0) rfl dX11_pulls_50 rfl)
    (e_each_cons (r_getP X (index := 7) (ci := 10) (k := 2) dX11_pulls_51 (by decide) (by decide) rfl w6_28 rfl)
    (e_each_cons (r_bipush X (n := 24) (v := 24) dX11_pulls_54 (by decide) rfl)
    (e_each_cons (r_sipush X (n := 1100) (v := 1100) dX11_pulls_56 (by decide) rfl)
    (e_each_cons (r_iload_n X (k := 1) (i := 1) rfl dX11_pulls_59 rfl)
    (e_each_cons (r_imul X dX11_pulls_60 rfl)
    (e_each_cons (r_iadd X dX11_pulls_61 rfl)
    (e_each_cons (r_iload_n X (k := 3) (i := 3) rfl dX11_pulls_62 rfl)
    (e_each_cons (r_iadd X dX11_pulls_63 rfl)
    (e_each_cons (r_aload_n X (k := 0) (i := 0) rfl dX11_pulls_64 rfl)
    (e_each_cons (r_getP X (index := 7) (ci := 10) (k := 2) dX11_pulls_65 (by decide) (by decide) rfl w6_28 rfl)
    (e_each_cons (r_sipush X (n := 2224) (v := 2224) dX11_pulls_68 (by decide) rfl)
    (e_each_cons (r_iload_n X (k := 3) (i := 3) rfl dX11_pulls_71 rfl)
    (e_each_cons (r_iadd X dX11_pulls_72 rfl)
    (e_each_cons (r_iald X dX11_pulls_73 rfl)
    (e_each_cons (r_iast X dX11_pulls_74 rfl)
    (e_each_cons (r_iinc X (i := 3) (n := 1) (d := 1) dX11_pulls_75 (by decide) (by decide) rfl)
    (e_each_cons (r_goto X (off := (-34)) (t := 44) dX11_pulls_78 (by decide))
    (e_each_cons (r_iconst X (n := 0) (v := 0) dX11_pulls_81 (by decide) rfl)
    (e_each_cons (r_istore_n X (k := 3) (i := 3) rfl dX11_pulls_82 (by decide) rfl)
    (e_each_cons (r_iload_n X (k := 3) (i := 3) rfl dX11_pulls_83 rfl)
    (e_each_cons (r_bipush X (n := 8) (v := 8) dX11_pulls_84 (by decide) rfl)
    (e_each_cons (r_icmp_ge X (off := 25) (t := 111) dX11_pulls_86 (by decide) rfl)
    (e_each_cons (r_aload_n X (k := 0) (i := 0) rfl dX11_pulls_89 rfl)
    (e_each_cons (r_iload_n X (k := 1) (i := 1) rfl dX11_pulls_90 rfl)
    (e_each_cons (r_iload_n X (k := 3) (i := 3) rfl dX11_pulls_91 rfl)
    (e_each_cons (r_callV X rfl (τ := sg_X11_isChanged) (index := 356) (ci := 10) dX11_pulls_92 (by decide) rfl w7_232 w7_234 ws_78 cs_X11_isChanged rfl ⟨by decide, by decide⟩ rfl)
    (e_each_cons (r_if_ne X (off := 10) (t := 105) dX11_pulls_95 (by decide) rfl)
    (e_each_cons (r_aload_n X (k := 0) (i := 0) rfl dX11_pulls_98 rfl)
    (e_each_cons (r_iconst X (n := 2) (v := 2) dX11_pulls_99 (by decide) rfl)
    (e_each_cons (r_iload_n X (k := 1) (i := 1) rfl dX11_pulls_100 rfl)
    (e_each_cons (r_iload_n X (k := 3) (i := 3) rfl dX11_pulls_101 rfl)
    (e_each_cons (r_callV X rfl (τ := sg_X11_copiesEvent) (index := 398) (ci := 10) dX11_pulls_102 (by decide) rfl w8_90 w8_92 ws_92 cs_X11_copiesEvent rfl ⟨by decide, by decide⟩ rfl)
    (e_each_cons (r_iinc X (i := 3) (n := 1) (d := 1) dX11_pulls_105 (by decide) (by decide) rfl)
    (e_each_cons (r_goto X (off := (-25)) (t := 83) dX11_pulls_108 (by decide))
    (e_each_cons (r_aload_n X (k := 0) (i := 0) rfl dX11_pulls_111 rfl)
    (e_each_cons (r_getP X (index := 7) (ci := 10) (k := 2) dX11_pulls_112 (by decide) (by decide) rfl w6_28 rfl)
    (e_each_cons (r_iconst X (n := 1) (v := 1) dX11_pulls_115 (by decide) rfl)
    (e_each_cons (r_iload_n X (k := 1) (i := 1) rfl dX11_pulls_116 rfl)
    (e_each_cons (r_iadd X dX11_pulls_117 rfl)
    (e_each_cons (r_aload_n X (k := 0) (i := 0) rfl dX11_pulls_118 rfl)
    (e_each_cons (r_getP X (index := 7) (ci := 10) (k := 2) dX11_pulls_119 (by decide) (by decide) rfl w6_28 rfl)
    (e_each_cons (r_iconst X (n := 0) (v := 0) dX11_pulls_122 (by decide) rfl)
    (e_each_cons (r_iald X dX11_pulls_123 rfl)
    (e_each_cons (r_iast X dX11_pulls_124 rfl)
    (e_each_cons (r_iload_n X (k := 2) (i := 2) rfl dX11_pulls_125 rfl)
    (e_each_cons (r_ireti X dX11_pulls_126 rfl)
    (e_each_nil))))))))))))))))))))))))))))))))))))))))))))))))))))))))))))))))))))))))))))))
theorem dX11_push_0 : decode cX11_push 0 = .ok (.aload_n 0, 1) := by decide +kernel
theorem dX11_push_1 : decode cX11_push 1 = .ok (.iload_n 1, 1) := by decide +kernel
theorem dX11_push_2 : decode cX11_push 2 = .ok (.invokestatic 306, 3) := by decide +kernel
theorem dX11_push_5 : decode cX11_push 5 = .ok (.ifCond .eq 7, 3) := by decide +kernel
theorem dX11_push_8 : decode cX11_push 8 = .ok (.iconst 0, 1) := by decide +kernel
theorem dX11_push_9 : decode cX11_push 9 = .ok (.goto 4, 3) := by decide +kernel
theorem dX11_push_12 : decode cX11_push 12 = .ok (.iconst 1, 1) := by decide +kernel
theorem dX11_push_13 : decode cX11_push 13 = .ok (.invokevirtual 71, 3) := by decide +kernel
theorem dX11_push_16 : decode cX11_push 16 = .ok (.ifCond .eq 5, 3) := by decide +kernel
theorem dX11_push_19 : decode cX11_push 19 = .ok (.iconst 0, 1) := by decide +kernel
theorem dX11_push_20 : decode cX11_push 20 = .ok (.ireturn, 1) := by decide +kernel
theorem dX11_push_21 : decode cX11_push 21 = .ok (.aload_n 0, 1) := by decide +kernel
theorem dX11_push_22 : decode cX11_push 22 = .ok (.invokevirtual 376, 3) := by decide +kernel
theorem dX11_push_25 : decode cX11_push 25 = .ok (.aload_n 0, 1) := by decide +kernel
theorem dX11_push_26 : decode cX11_push 26 = .ok (.iload_n 1, 1) := by decide +kernel
theorem dX11_push_27 : decode cX11_push 27 = .ok (.invokevirtual 416, 3) := by decide +kernel
theorem dX11_push_30 : decode cX11_push 30 = .ok (.ireturn, 1) := by decide +kernel
def pg_X11_push (l : Launch) (g : EG) : List (Nat × ES) := [(0, s_ldP 0), (1, s_ldI 1), (2, s_callS l g sg_X11_push sg_X11_isSide), (5, s_if_eq 12), (8, s_c (.inl 0)), (9, s_goto 13), (12, s_c (.inl 1)), (13, s_callV l g sg_X11_push sg_X11_isRefused 10), (16, s_if_eq 21), (19, s_c (.inl 0)), (20, s_ireti), (21, s_ldP 0), (22, s_callV l g sg_X11_push sg_X11_remembers 10), (25, s_ldP 0), (26, s_ldI 1), (27, s_callV l g sg_X11_push sg_X11_pushes 10), (30, s_ireti)]
set_option maxRecDepth 100000 in
theorem ok_X11_push {l : Launch} {g : EG} : e_okp l g sg_X11_push "CalendarSyncModel" (pg_X11_push l g) := fun p e R s m args below meth c ex M0 Q X =>
    e_each_cons (r_aload_n X (k := 0) (i := 0) rfl dX11_push_0 rfl)
    (e_each_cons (r_iload_n X (k := 1) (i := 1) rfl dX11_push_1 rfl)
    (e_each_cons (r_callS X rfl (τ := sg_X11_isSide) (index := 306) dX11_push_2 w7_140 w7_141 cs_X11_isSide rfl ⟨by decide, by decide⟩ rfl)
    (e_each_cons (r_if_eq X (off := 7) (t := 12) dX11_push_5 (by decide) rfl)
    (e_each_cons (r_iconst X (n := 0) (v := 0) dX11_push_8 (by decide) rfl)
    (e_each_cons (r_goto X (off := 4) (t := 13) dX11_push_9 (by decide))
    (e_each_cons (r_iconst X (n := 1) (v := 1) dX11_push_12 (by decide) rfl)
    (e_each_cons (r_callV X rfl (τ := sg_X11_isRefused) (index := 71) (ci := 10) dX11_push_13 (by decide) rfl w6_119 w6_121 ws_31 cs_X11_isRefused rfl ⟨by decide, by decide⟩ rfl)
    (e_each_cons (r_if_eq X (off := 5) (t := 21) dX11_push_16 (by decide) rfl)
    (e_each_cons (r_iconst X (n := 0) (v := 0) dX11_push_19 (by decide) rfl)
    (e_each_cons (r_ireti X dX11_push_20 rfl)
    (e_each_cons (r_aload_n X (k := 0) (i := 0) rfl dX11_push_21 rfl)
    (e_each_cons (r_callV X rfl (τ := sg_X11_remembers) (index := 376) (ci := 10) dX11_push_22 (by decide) rfl w8_19 w8_21 ws_82 cs_X11_remembers rfl ⟨by decide, by decide⟩ rfl)
    (e_each_cons (r_aload_n X (k := 0) (i := 0) rfl dX11_push_25 rfl)
    (e_each_cons (r_iload_n X (k := 1) (i := 1) rfl dX11_push_26 rfl)
    (e_each_cons (r_callV X rfl (τ := sg_X11_pushes) (index := 416) (ci := 10) dX11_push_27 (by decide) rfl w8_74 w8_76 ws_88 cs_X11_pushes rfl ⟨by decide, by decide⟩ rfl)
    (e_each_cons (r_ireti X dX11_push_30 rfl)
    (e_each_nil)))))))))))))))))
theorem dX11_pull_0 : decode cX11_pull 0 = .ok (.aload_n 0, 1) := by decide +kernel
theorem dX11_pull_1 : decode cX11_pull 1 = .ok (.iload_n 1, 1) := by decide +kernel
theorem dX11_pull_2 : decode cX11_pull 2 = .ok (.invokestatic 306, 3) := by decide +kernel
theorem dX11_pull_5 : decode cX11_pull 5 = .ok (.ifCond .eq 7, 3) := by decide +kernel
theorem dX11_pull_8 : decode cX11_pull 8 = .ok (.iconst 0, 1) := by decide +kernel
theorem dX11_pull_9 : decode cX11_pull 9 = .ok (.goto 4, 3) := by decide +kernel
theorem dX11_pull_12 : decode cX11_pull 12 = .ok (.iconst 1, 1) := by decide +kernel
theorem dX11_pull_13 : decode cX11_pull 13 = .ok (.invokevirtual 71, 3) := by decide +kernel
theorem dX11_pull_16 : decode cX11_pull 16 = .ok (.ifCond .eq 5, 3) := by decide +kernel
theorem dX11_pull_19 : decode cX11_pull 19 = .ok (.iconst 0, 1) := by decide +kernel
theorem dX11_pull_20 : decode cX11_pull 20 = .ok (.ireturn, 1) := by decide +kernel
theorem dX11_pull_21 : decode cX11_pull 21 = .ok (.aload_n 0, 1) := by decide +kernel
theorem dX11_pull_22 : decode cX11_pull 22 = .ok (.invokevirtual 376, 3) := by decide +kernel
theorem dX11_pull_25 : decode cX11_pull 25 = .ok (.aload_n 0, 1) := by decide +kernel
theorem dX11_pull_26 : decode cX11_pull 26 = .ok (.iload_n 1, 1) := by decide +kernel
theorem dX11_pull_27 : decode cX11_pull 27 = .ok (.invokevirtual 419, 3) := by decide +kernel
theorem dX11_pull_30 : decode cX11_pull 30 = .ok (.ireturn, 1) := by decide +kernel
def pg_X11_pull (l : Launch) (g : EG) : List (Nat × ES) := [(0, s_ldP 0), (1, s_ldI 1), (2, s_callS l g sg_X11_pull sg_X11_isSide), (5, s_if_eq 12), (8, s_c (.inl 0)), (9, s_goto 13), (12, s_c (.inl 1)), (13, s_callV l g sg_X11_pull sg_X11_isRefused 10), (16, s_if_eq 21), (19, s_c (.inl 0)), (20, s_ireti), (21, s_ldP 0), (22, s_callV l g sg_X11_pull sg_X11_remembers 10), (25, s_ldP 0), (26, s_ldI 1), (27, s_callV l g sg_X11_pull sg_X11_pulls 10), (30, s_ireti)]
set_option maxRecDepth 100000 in
theorem ok_X11_pull {l : Launch} {g : EG} : e_okp l g sg_X11_pull "CalendarSyncModel" (pg_X11_pull l g) := fun p e R s m args below meth c ex M0 Q X =>
    e_each_cons (r_aload_n X (k := 0) (i := 0) rfl dX11_pull_0 rfl)
    (e_each_cons (r_iload_n X (k := 1) (i := 1) rfl dX11_pull_1 rfl)
    (e_each_cons (r_callS X rfl (τ := sg_X11_isSide) (index := 306) dX11_pull_2 w7_140 w7_141 cs_X11_isSide rfl ⟨by decide, by decide⟩ rfl)
    (e_each_cons (r_if_eq X (off := 7) (t := 12) dX11_pull_5 (by decide) rfl)
    (e_each_cons (r_iconst X (n := 0) (v := 0) dX11_pull_8 (by decide) rfl)
    (e_each_cons (r_goto X (off := 4) (t := 13) dX11_pull_9 (by decide))
    (e_each_cons (r_iconst X (n := 1) (v := 1) dX11_pull_12 (by decide) rfl)
    (e_each_cons (r_callV X rfl (τ := sg_X11_isRefused) (index := 71) (ci := 10) dX11_pull_13 (by decide) rfl w6_119 w6_121 ws_31 cs_X11_isRefused rfl ⟨by decide, by decide⟩ rfl)
    (e_each_cons (r_if_eq X (off := 5) (t := 21) dX11_pull_16 (by decide) rfl)
    (e_each_cons (r_iconst X (n := 0) (v := 0) dX11_pull_19 (by decide) rfl)
    (e_each_cons (r_ireti X dX11_pull_20 rfl)
    (e_each_cons (r_aload_n X (k := 0) (i := 0) rfl dX11_pull_21 rfl)
    (e_each_cons (r_callV X rfl (τ := sg_X11_remembers) (index := 376) (ci := 10) dX11_pull_22 (by decide) rfl w8_19 w8_21 ws_82 cs_X11_remembers rfl ⟨by decide, by decide⟩ rfl)
    (e_each_cons (r_aload_n X (k := 0) (i := 0) rfl dX11_pull_25 rfl)
    (e_each_cons (r_iload_n X (k := 1) (i := 1) rfl dX11_pull_26 rfl)
    (e_each_cons (r_callV X rfl (τ := sg_X11_pulls) (index := 419) (ci := 10) dX11_pull_27 (by decide) rfl w8_106 w8_108 ws_95 cs_X11_pulls rfl ⟨by decide, by decide⟩ rfl)
    (e_each_cons (r_ireti X dX11_pull_30 rfl)
    (e_each_nil)))))))))))))))))
theorem dX11_sync_0 : decode cX11_sync 0 = .ok (.aload_n 0, 1) := by decide +kernel
theorem dX11_sync_1 : decode cX11_sync 1 = .ok (.iload_n 1, 1) := by decide +kernel
theorem dX11_sync_2 : decode cX11_sync 2 = .ok (.invokestatic 306, 3) := by decide +kernel
theorem dX11_sync_5 : decode cX11_sync 5 = .ok (.ifCond .eq 7, 3) := by decide +kernel
theorem dX11_sync_8 : decode cX11_sync 8 = .ok (.iconst 0, 1) := by decide +kernel
theorem dX11_sync_9 : decode cX11_sync 9 = .ok (.goto 4, 3) := by decide +kernel
theorem dX11_sync_12 : decode cX11_sync 12 = .ok (.iconst 1, 1) := by decide +kernel
theorem dX11_sync_13 : decode cX11_sync 13 = .ok (.invokevirtual 71, 3) := by decide +kernel
theorem dX11_sync_16 : decode cX11_sync 16 = .ok (.ifCond .eq 5, 3) := by decide +kernel
theorem dX11_sync_19 : decode cX11_sync 19 = .ok (.iconst 0, 1) := by decide +kernel
theorem dX11_sync_20 : decode cX11_sync 20 = .ok (.ireturn, 1) := by decide +kernel
theorem dX11_sync_21 : decode cX11_sync 21 = .ok (.aload_n 0, 1) := by decide +kernel
theorem dX11_sync_22 : decode cX11_sync 22 = .ok (.invokevirtual 376, 3) := by decide +kernel
theorem dX11_sync_25 : decode cX11_sync 25 = .ok (.aload_n 0, 1) := by decide +kernel
theorem dX11_sync_26 : decode cX11_sync 26 = .ok (.iload_n 1, 1) := by decide +kernel
theorem dX11_sync_27 : decode cX11_sync 27 = .ok (.invokevirtual 416, 3) := by decide +kernel
theorem dX11_sync_30 : decode cX11_sync 30 = .ok (.istore_n 2, 1) := by decide +kernel
theorem dX11_sync_31 : decode cX11_sync 31 = .ok (.aload_n 0, 1) := by decide +kernel
theorem dX11_sync_32 : decode cX11_sync 32 = .ok (.iload_n 1, 1) := by decide +kernel
theorem dX11_sync_33 : decode cX11_sync 33 = .ok (.invokevirtual 419, 3) := by decide +kernel
theorem dX11_sync_36 : decode cX11_sync 36 = .ok (.ireturn, 1) := by decide +kernel
def pg_X11_sync (l : Launch) (g : EG) : List (Nat × ES) := [(0, s_ldP 0), (1, s_ldI 1), (2, s_callS l g sg_X11_sync sg_X11_isSide), (5, s_if_eq 12), (8, s_c (.inl 0)), (9, s_goto 13), (12, s_c (.inl 1)), (13, s_callV l g sg_X11_sync sg_X11_isRefused 10), (16, s_if_eq 21), (19, s_c (.inl 0)), (20, s_ireti), (21, s_ldP 0), (22, s_callV l g sg_X11_sync sg_X11_remembers 10), (25, s_ldP 0), (26, s_ldI 1), (27, s_callV l g sg_X11_sync sg_X11_pushes 10), (30, s_stI 2), (31, s_ldP 0), (32, s_ldI 1), (33, s_callV l g sg_X11_sync sg_X11_pulls 10), (36, s_ireti)]
set_option maxRecDepth 100000 in
theorem ok_X11_sync {l : Launch} {g : EG} : e_okp l g sg_X11_sync "CalendarSyncModel" (pg_X11_sync l g) := fun p e R s m args below meth c ex M0 Q X =>
    e_each_cons (r_aload_n X (k := 0) (i := 0) rfl dX11_sync_0 rfl)
    (e_each_cons (r_iload_n X (k := 1) (i := 1) rfl dX11_sync_1 rfl)
    (e_each_cons (r_callS X rfl (τ := sg_X11_isSide) (index := 306) dX11_sync_2 w7_140 w7_141 cs_X11_isSide rfl ⟨by decide, by decide⟩ rfl)
    (e_each_cons (r_if_eq X (off := 7) (t := 12) dX11_sync_5 (by decide) rfl)
    (e_each_cons (r_iconst X (n := 0) (v := 0) dX11_sync_8 (by decide) rfl)
    (e_each_cons (r_goto X (off := 4) (t := 13) dX11_sync_9 (by decide))
    (e_each_cons (r_iconst X (n := 1) (v := 1) dX11_sync_12 (by decide) rfl)
    (e_each_cons (r_callV X rfl (τ := sg_X11_isRefused) (index := 71) (ci := 10) dX11_sync_13 (by decide) rfl w6_119 w6_121 ws_31 cs_X11_isRefused rfl ⟨by decide, by decide⟩ rfl)
    (e_each_cons (r_if_eq X (off := 5) (t := 21) dX11_sync_16 (by decide) rfl)
    (e_each_cons (r_iconst X (n := 0) (v := 0) dX11_sync_19 (by decide) rfl)
    (e_each_cons (r_ireti X dX11_sync_20 rfl)
    (e_each_cons (r_aload_n X (k := 0) (i := 0) rfl dX11_sync_21 rfl)
    (e_each_cons (r_callV X rfl (τ := sg_X11_remembers) (index := 376) (ci := 10) dX11_sync_22 (by decide) rfl w8_19 w8_21 ws_82 cs_X11_remembers rfl ⟨by decide, by decide⟩ rfl)
    (e_each_cons (r_aload_n X (k := 0) (i := 0) rfl dX11_sync_25 rfl)
    (e_each_cons (r_iload_n X (k := 1) (i := 1) rfl dX11_sync_26 rfl)
    (e_each_cons (r_callV X rfl (τ := sg_X11_pushes) (index := 416) (ci := 10) dX11_sync_27 (by decide) rfl w8_74 w8_76 ws_88 cs_X11_pushes rfl ⟨by decide, by decide⟩ rfl)
    (e_each_cons (r_istore_n X (k := 2) (i := 2) rfl dX11_sync_30 (by decide) rfl)
    (e_each_cons (r_aload_n X (k := 0) (i := 0) rfl dX11_sync_31 rfl)
    (e_each_cons (r_iload_n X (k := 1) (i := 1) rfl dX11_sync_32 rfl)
    (e_each_cons (r_callV X rfl (τ := sg_X11_pulls) (index := 419) (ci := 10) dX11_sync_33 (by decide) rfl w8_106 w8_108 ws_95 cs_X11_pulls rfl ⟨by decide, by decide⟩ rfl)
    (e_each_cons (r_ireti X dX11_sync_36 rfl)
    (e_each_nil)))))))))))))))))))))
