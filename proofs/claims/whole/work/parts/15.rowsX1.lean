/-! TABLES (by program): the rows of X1 -/
def pg_X1_isDay (l : Launch) (g : EG) : List (Nat × ES) := [(0, s_ldI 0), (1, s_c (.inl 0)), (2, s_c (.inl 1094)), (5, s_callS l g sg_X1_isDay sg_X10_isWithin), (8, s_iretz)]
set_option maxRecDepth 100000 in
theorem ok_X1_isDay {l : Launch} {g : EG} : e_okp l g sg_X1_isDay "CalendarSync$Days" (pg_X1_isDay l g) := fun p e R s m args below meth c ex M0 Q X =>
    e_each_cons (r_iload_n X (k := 0) (i := 0) rfl (by decide +kernel) rfl)
    (e_each_cons (r_iconst X (n := 0) (v := 0) (by decide +kernel) (by decide) rfl)
    (e_each_cons (r_sipush X (n := 1094) (v := 1094) (by decide +kernel) (by decide) rfl)
    (e_each_cons (r_callSN X rfl (τ := sg_X10_isWithin) (index := 11) (host := "CalendarSync") (by decide +kernel) wn4_24 w2_222 cs_X10_isWithin rfl ⟨by decide, by decide⟩ rfl)
    (e_each_cons (r_iretz X (by decide +kernel) rfl)
    (e_each_nil)))))
def pg_X1_isDayOfYear (l : Launch) (g : EG) : List (Nat × ES) := [(0, s_ldI 0), (1, s_c (.inl 0)), (2, s_c (.inl 364)), (5, s_callS l g sg_X1_isDayOfYear sg_X10_isWithin), (8, s_iretz)]
set_option maxRecDepth 100000 in
theorem ok_X1_isDayOfYear {l : Launch} {g : EG} : e_okp l g sg_X1_isDayOfYear "CalendarSync$Days" (pg_X1_isDayOfYear l g) := fun p e R s m args below meth c ex M0 Q X =>
    e_each_cons (r_iload_n X (k := 0) (i := 0) rfl (by decide +kernel) rfl)
    (e_each_cons (r_iconst X (n := 0) (v := 0) (by decide +kernel) (by decide) rfl)
    (e_each_cons (r_sipush X (n := 364) (v := 364) (by decide +kernel) (by decide) rfl)
    (e_each_cons (r_callSN X rfl (τ := sg_X10_isWithin) (index := 11) (host := "CalendarSync") (by decide +kernel) wn4_24 w2_222 cs_X10_isWithin rfl ⟨by decide, by decide⟩ rfl)
    (e_each_cons (r_iretz X (by decide +kernel) rfl)
    (e_each_nil)))))
def pg_X1_isMinute (l : Launch) (g : EG) : List (Nat × ES) := [(0, s_ldI 0), (1, s_c (.inl 0)), (2, s_c (.inl 1439)), (5, s_callS l g sg_X1_isMinute sg_X10_isWithin), (8, s_iretz)]
set_option maxRecDepth 100000 in
theorem ok_X1_isMinute {l : Launch} {g : EG} : e_okp l g sg_X1_isMinute "CalendarSync$Days" (pg_X1_isMinute l g) := fun p e R s m args below meth c ex M0 Q X =>
    e_each_cons (r_iload_n X (k := 0) (i := 0) rfl (by decide +kernel) rfl)
    (e_each_cons (r_iconst X (n := 0) (v := 0) (by decide +kernel) (by decide) rfl)
    (e_each_cons (r_sipush X (n := 1439) (v := 1439) (by decide +kernel) (by decide) rfl)
    (e_each_cons (r_callSN X rfl (τ := sg_X10_isWithin) (index := 11) (host := "CalendarSync") (by decide +kernel) wn4_24 w2_222 cs_X10_isWithin rfl ⟨by decide, by decide⟩ rfl)
    (e_each_cons (r_iretz X (by decide +kernel) rfl)
    (e_each_nil)))))
def pg_X1_yearOf (l : Launch) (g : EG) : List (Nat × ES) := [(0, s_ldI 0), (1, s_c (.inl 365)), (4, s_iid (fun x y => x / y) (fun _ y => ¬ y = 0)), (5, s_ireti)]
set_option maxRecDepth 100000 in
theorem ok_X1_yearOf {l : Launch} {g : EG} : e_okp l g sg_X1_yearOf "CalendarSync$Days" (pg_X1_yearOf l g) := fun p e R s m args below meth c ex M0 Q X =>
    e_each_cons (r_iload_n X (k := 0) (i := 0) rfl (by decide +kernel) rfl)
    (e_each_cons (r_sipush X (n := 365) (v := 365) (by decide +kernel) (by decide) rfl)
    (e_each_cons (r_idiv X (by decide +kernel) rfl)
    (e_each_cons (r_ireti X (by decide +kernel) rfl)
    (e_each_nil))))
def pg_X1_weekdayOf (l : Launch) (g : EG) : List (Nat × ES) := [(0, s_ldI 0), (1, s_c (.inl 7)), (3, s_iid (fun x y => x - x / y * y) (fun _ y => ¬ y = 0)), (4, s_ireti)]
set_option maxRecDepth 100000 in
theorem ok_X1_weekdayOf {l : Launch} {g : EG} : e_okp l g sg_X1_weekdayOf "CalendarSync$Days" (pg_X1_weekdayOf l g) := fun p e R s m args below meth c ex M0 Q X =>
    e_each_cons (r_iload_n X (k := 0) (i := 0) rfl (by decide +kernel) rfl)
    (e_each_cons (r_bipush X (n := 7) (v := 7) (by decide +kernel) (by decide) rfl)
    (e_each_cons (r_irem X (by decide +kernel) rfl)
    (e_each_cons (r_ireti X (by decide +kernel) rfl)
    (e_each_nil))))
def pg_X1_monthOf (l : Launch) (g : EG) : List (Nat × ES) := [(0, s_ldI 0), (1, s_c (.inl 365)), (4, s_iid (fun x y => x - x / y * y) (fun _ y => ¬ y = 0)), (5, s_stI 1), (6, s_c (.inl 0)), (7, s_stI 2), (8, s_ldI 2), (9, s_c (.inl 11)), (11, s_icmp_ge 31), (14, s_gets), (17, s_ldI 2), (18, s_c (.inl 1)), (19, s_ii (fun x y => x + y)), (20, s_ialdM), (21, s_ldI 1), (22, s_icmp_gt 31), (25, s_iinc 2 1), (28, s_goto 8), (31, s_ldI 2), (32, s_ireti)]
set_option maxRecDepth 100000 in
theorem ok_X1_monthOf {l : Launch} {g : EG} : e_okp l g sg_X1_monthOf "CalendarSync$Days" (pg_X1_monthOf l g) := fun p e R s m args below meth c ex M0 Q X =>
    e_each_cons (r_iload_n X (k := 0) (i := 0) rfl (by decide +kernel) rfl)
    (e_each_cons (r_sipush X (n := 365) (v := 365) (by decide +kernel) (by decide) rfl)
    (e_each_cons (r_irem X (by decide +kernel) rfl)
    (e_each_cons (r_istore_n X (k := 1) (i := 1) rfl (by decide +kernel) (by decide) rfl)
    (e_each_cons (r_iconst X (n := 0) (v := 0) (by decide +kernel) (by decide) rfl)
    (e_each_cons (r_istore_n X (k := 2) (i := 2) rfl (by decide +kernel) (by decide) rfl)
    (e_each_cons (r_iload_n X (k := 2) (i := 2) rfl (by decide +kernel) rfl)
    (e_each_cons (r_bipush X (n := 11) (v := 11) (by decide +kernel) (by decide) rfl)
    (e_each_cons (r_icmp_ge X (t := 31) (by decide +kernel) (by decide) rfl)
    (e_each_cons (r_gets X (index := 15) (by decide +kernel) w3_192 rfl)
    (e_each_cons (r_iload_n X (k := 2) (i := 2) rfl (by decide +kernel) rfl)
    (e_each_cons (r_iconst X (n := 1) (v := 1) (by decide +kernel) (by decide) rfl)
    (e_each_cons (r_iadd X (by decide +kernel) rfl)
    (e_each_cons (r_ialdM X (by decide +kernel) rfl)
    (e_each_cons (r_iload_n X (k := 1) (i := 1) rfl (by decide +kernel) rfl)
    (e_each_cons (r_icmp_gt X (t := 31) (by decide +kernel) (by decide) rfl)
    (e_each_cons (r_iinc X (i := 2) (n := 1) (d := 1) (by decide +kernel) (by decide) (by decide) rfl)
    (e_each_cons (r_goto X (t := 8) (by decide +kernel) (by decide))
    (e_each_cons (r_iload_n X (k := 2) (i := 2) rfl (by decide +kernel) rfl)
    (e_each_cons (r_ireti X (by decide +kernel) rfl)
    (e_each_nil))))))))))))))))))))
def pg_X1_dayOfMonth (l : Launch) (g : EG) : List (Nat × ES) := [(0, s_ldI 0), (1, s_c (.inl 365)), (4, s_iid (fun x y => x - x / y * y) (fun _ y => ¬ y = 0)), (5, s_gets), (8, s_ldI 0), (9, s_callS l g sg_X1_dayOfMonth sg_X1_monthOf), (12, s_ialdM), (13, s_ii (fun x y => x - y)), (14, s_c (.inl 1)), (15, s_ii (fun x y => x + y)), (16, s_ireti)]
set_option maxRecDepth 100000 in
theorem ok_X1_dayOfMonth {l : Launch} {g : EG} : e_okp l g sg_X1_dayOfMonth "CalendarSync$Days" (pg_X1_dayOfMonth l g) := fun p e R s m args below meth c ex M0 Q X =>
    e_each_cons (r_iload_n X (k := 0) (i := 0) rfl (by decide +kernel) rfl)
    (e_each_cons (r_sipush X (n := 365) (v := 365) (by decide +kernel) (by decide) rfl)
    (e_each_cons (r_irem X (by decide +kernel) rfl)
    (e_each_cons (r_gets X (index := 15) (by decide +kernel) w3_192 rfl)
    (e_each_cons (r_iload_n X (k := 0) (i := 0) rfl (by decide +kernel) rfl)
    (e_each_cons (r_callS X rfl (τ := sg_X1_monthOf) (index := 19) (by decide +kernel) w3_197 w3_190 cs_X1_monthOf rfl ⟨by decide, by decide⟩ rfl)
    (e_each_cons (r_ialdM X (by decide +kernel) rfl)
    (e_each_cons (r_isub X (by decide +kernel) rfl)
    (e_each_cons (r_iconst X (n := 1) (v := 1) (by decide +kernel) (by decide) rfl)
    (e_each_cons (r_iadd X (by decide +kernel) rfl)
    (e_each_cons (r_ireti X (by decide +kernel) rfl)
    (e_each_nil)))))))))))
def pg_X1_dayInMonth (l : Launch) (g : EG) : List (Nat × ES) := [(0, s_ldI 0), (1, s_if_lt 10), (4, s_ldI 0), (5, s_c (.inl 36)), (7, s_icmp_lt 12), (10, s_c (.inl (-1))), (11, s_ireti), (12, s_gets), (15, s_ldI 0), (16, s_c (.inl 12)), (18, s_iid (fun x y => x - x / y * y) (fun _ y => ¬ y = 0)), (19, s_ialdM), (20, s_stI 2), (21, s_gets), (24, s_ldI 0), (25, s_c (.inl 12)), (27, s_iid (fun x y => x - x / y * y) (fun _ y => ¬ y = 0)), (28, s_c (.inl 1)), (29, s_ii (fun x y => x + y)), (30, s_ialdM), (31, s_ldI 2), (32, s_ii (fun x y => x - y)), (33, s_stI 3), (34, s_ldI 1), (35, s_ldI 3), (36, s_icmp_le 43), (39, s_c (.inl (-1))), (40, s_goto 57), (43, s_ldI 0), (44, s_c (.inl 12)), (46, s_iid (fun x y => x / y) (fun _ y => ¬ y = 0)), (47, s_c (.inl 365)), (50, s_ii (fun x y => x * y)), (51, s_ldI 2), (52, s_ii (fun x y => x + y)), (53, s_ldI 1), (54, s_ii (fun x y => x + y)), (55, s_c (.inl 1)), (56, s_ii (fun x y => x - y)), (57, s_ireti)]
set_option maxRecDepth 100000 in
theorem ok_X1_dayInMonth {l : Launch} {g : EG} : e_okp l g sg_X1_dayInMonth "CalendarSync$Days" (pg_X1_dayInMonth l g) := fun p e R s m args below meth c ex M0 Q X =>
    e_each_cons (r_iload_n X (k := 0) (i := 0) rfl (by decide +kernel) rfl)
    (e_each_cons (r_if_lt X (t := 10) (by decide +kernel) (by decide) rfl)
    (e_each_cons (r_iload_n X (k := 0) (i := 0) rfl (by decide +kernel) rfl)
    (e_each_cons (r_bipush X (n := 36) (v := 36) (by decide +kernel) (by decide) rfl)
    (e_each_cons (r_icmp_lt X (t := 12) (by decide +kernel) (by decide) rfl)
    (e_each_cons (r_iconst X (n := (-1)) (v := (-1)) (by decide +kernel) (by decide) rfl)
    (e_each_cons (r_ireti X (by decide +kernel) rfl)
    (e_each_cons (r_gets X (index := 15) (by decide +kernel) w3_192 rfl)
    (e_each_cons (r_iload_n X (k := 0) (i := 0) rfl (by decide +kernel) rfl)
    (e_each_cons (r_bipush X (n := 12) (v := 12) (by decide +kernel) (by decide) rfl)
    (e_each_cons (r_irem X (by decide +kernel) rfl)
    (e_each_cons (r_ialdM X (by decide +kernel) rfl)
    (e_each_cons (r_istore_n X (k := 2) (i := 2) rfl (by decide +kernel) (by decide) rfl)
    (e_each_cons (r_gets X (index := 15) (by decide +kernel) w3_192 rfl)
    (e_each_cons (r_iload_n X (k := 0) (i := 0) rfl (by decide +kernel) rfl)
    (e_each_cons (r_bipush X (n := 12) (v := 12) (by decide +kernel) (by decide) rfl)
    (e_each_cons (r_irem X (by decide +kernel) rfl)
    (e_each_cons (r_iconst X (n := 1) (v := 1) (by decide +kernel) (by decide) rfl)
    (e_each_cons (r_iadd X (by decide +kernel) rfl)
    (e_each_cons (r_ialdM X (by decide +kernel) rfl)
    (e_each_cons (r_iload_n X (k := 2) (i := 2) rfl (by decide +kernel) rfl)
    (e_each_cons (r_isub X (by decide +kernel) rfl)
    (e_each_cons (r_istore_n X (k := 3) (i := 3) rfl (by decide +kernel) (by decide) rfl)
    (e_each_cons (r_iload_n X (k := 1) (i := 1) rfl (by decide +kernel) rfl)
    (e_each_cons (r_iload_n X (k := 3) (i := 3) rfl (by decide +kernel) rfl)
    (e_each_cons (r_icmp_le X (t := 43) (by decide +kernel) (by decide) rfl)
    (e_each_cons (r_iconst X (n := (-1)) (v := (-1)) (by decide +kernel) (by decide) rfl)
    (e_each_cons (r_goto X (t := 57) (by decide +kernel) (by decide))
    (e_each_cons (r_iload_n X (k := 0) (i := 0) rfl (by decide +kernel) rfl)
    (e_each_cons (r_bipush X (n := 12) (v := 12) (by decide +kernel) (by decide) rfl)
    (e_each_cons (r_idiv X (by decide +kernel) rfl)
    (e_each_cons (r_sipush X (n := 365) (v := 365) (by decide +kernel) (by decide) rfl)
    (e_each_cons (r_imul X (by decide +kernel) rfl)
    (e_each_cons (r_iload_n X (k := 2) (i := 2) rfl (by decide +kernel) rfl)
    (e_each_cons (r_iadd X (by decide +kernel) rfl)
    (e_each_cons (r_iload_n X (k := 1) (i := 1) rfl (by decide +kernel) rfl)
    (e_each_cons (r_iadd X (by decide +kernel) rfl)
    (e_each_cons (r_iconst X (n := 1) (v := 1) (by decide +kernel) (by decide) rfl)
    (e_each_cons (r_isub X (by decide +kernel) rfl)
    (e_each_cons (r_ireti X (by decide +kernel) rfl)
    (e_each_nil))))))))))))))))))))))))))))))))))))))))
