/-! TABLES (by program): the rows of X3 -/
theorem dX3_become_0 : decode cX3_become 0 = .ok (.aload_n 0, 1) := by decide +kernel
theorem dX3_become_1 : decode cX3_become 1 = .ok (.aload_n 1, 1) := by decide +kernel
theorem dX3_become_2 : decode cX3_become 2 = .ok (.getfield 29, 3) := by decide +kernel
theorem dX3_become_5 : decode cX3_become 5 = .ok (.putfield 29, 3) := by decide +kernel
theorem dX3_become_8 : decode cX3_become 8 = .ok (.aload_n 0, 1) := by decide +kernel
theorem dX3_become_9 : decode cX3_become 9 = .ok (.getfield 12, 3) := by decide +kernel
theorem dX3_become_12 : decode cX3_become 12 = .ok (.aload_n 1, 1) := by decide +kernel
theorem dX3_become_13 : decode cX3_become 13 = .ok (.getfield 12, 3) := by decide +kernel
theorem dX3_become_16 : decode cX3_become 16 = .ok (.invokevirtual 33, 3) := by decide +kernel
theorem dX3_become_19 : decode cX3_become 19 = .ok (.iconst 0, 1) := by decide +kernel
theorem dX3_become_20 : decode cX3_become 20 = .ok (.istore_n 2, 1) := by decide +kernel
theorem dX3_become_21 : decode cX3_become 21 = .ok (.iload_n 2, 1) := by decide +kernel
theorem dX3_become_22 : decode cX3_become 22 = .ok (.iconst 2, 1) := by decide +kernel
theorem dX3_become_23 : decode cX3_become 23 = .ok (.if_icmp .ge 24, 3) := by decide +kernel
theorem dX3_become_26 : decode cX3_become 26 = .ok (.aload_n 0, 1) := by decide +kernel
theorem dX3_become_27 : decode cX3_become 27 = .ok (.getfield 21, 3) := by decide +kernel
theorem dX3_become_30 : decode cX3_become 30 = .ok (.iload_n 2, 1) := by decide +kernel
theorem dX3_become_31 : decode cX3_become 31 = .ok (.aaload, 1) := by decide +kernel
theorem dX3_become_32 : decode cX3_become 32 = .ok (.aload_n 1, 1) := by decide +kernel
theorem dX3_become_33 : decode cX3_become 33 = .ok (.getfield 21, 3) := by decide +kernel
theorem dX3_become_36 : decode cX3_become 36 = .ok (.iload_n 2, 1) := by decide +kernel
theorem dX3_become_37 : decode cX3_become 37 = .ok (.aaload, 1) := by decide +kernel
theorem dX3_become_38 : decode cX3_become 38 = .ok (.invokevirtual 37, 3) := by decide +kernel
theorem dX3_become_41 : decode cX3_become 41 = .ok (.iinc 2 1, 3) := by decide +kernel
theorem dX3_become_44 : decode cX3_become 44 = .ok (.goto (-23), 3) := by decide +kernel
theorem dX3_become_47 : decode cX3_become 47 = .ok (.aload_n 1, 1) := by decide +kernel
theorem dX3_become_48 : decode cX3_become 48 = .ok (.getfield 25, 3) := by decide +kernel
theorem dX3_become_51 : decode cX3_become 51 = .ok (.iconst 0, 1) := by decide +kernel
theorem dX3_become_52 : decode cX3_become 52 = .ok (.aload_n 0, 1) := by decide +kernel
theorem dX3_become_53 : decode cX3_become 53 = .ok (.getfield 25, 3) := by decide +kernel
theorem dX3_become_56 : decode cX3_become 56 = .ok (.iconst 0, 1) := by decide +kernel
theorem dX3_become_57 : decode cX3_become 57 = .ok (.bipush 8, 2) := by decide +kernel
theorem dX3_become_59 : decode cX3_become 59 = .ok (.invokestatic 40, 3) := by decide +kernel
theorem dX3_become_62 : decode cX3_become 62 = .ok (.return_, 1) := by decide +kernel
def pg_X3_become (l : Launch) (g : EG) : List (Nat × ES) := [(0, s_ldP 0), (1, s_ldP 1), (2, s_getI 2 0), (5, s_putI 2 0), (8, s_ldP 0), (9, s_getP 2 1), (12, s_ldP 1), (13, s_getP 2 1), (16, s_callV l g sg_X3_become sg_X5_become 4), (19, s_c (.inl 0)), (20, s_stI 2), (21, s_ldI 2), (22, s_c (.inl 2)), (23, s_icmp_ge 47), (26, s_ldP 0), (27, s_getP 2 2), (30, s_ldI 2), (31, s_aald), (32, s_ldP 1), (33, s_getP 2 2), (36, s_ldI 2), (37, s_aald), (38, s_callV l g sg_X3_become sg_X7_become 6), (41, s_iinc 2 1), (44, s_goto 21), (47, s_ldP 1), (48, s_getP 2 3), (51, s_c (.inl 0)), (52, s_ldP 0), (53, s_getP 2 3), (56, s_c (.inl 0)), (57, s_c (.inl 8)), (59, s_acI), (62, s_vret)]
set_option maxRecDepth 100000 in
theorem ok_X3_become {l : Launch} {g : EG} : e_okp l g sg_X3_become "CalendarSync$Exchange" (pg_X3_become l g) := fun p e R s m args below meth c ex M0 Q X =>
    e_each_cons (r_aload_n X (k := 0) (i := 0) rfl dX3_become_0 rfl)
    (e_each_cons (r_aload_n X (k := 1) (i := 1) rfl dX3_become_1 rfl)
    (e_each_cons (r_getI X (index := 29) (ci := 2) (k := 0) dX3_become_2 (by decide) (by decide) rfl w2_45 rfl)
    (e_each_cons (r_putI X (index := 29) (ci := 2) (k := 0) dX3_become_5 (by decide) (by decide) rfl rfl w2_45 rfl)
    (e_each_cons (r_aload_n X (k := 0) (i := 0) rfl dX3_become_8 rfl)
    (e_each_cons (r_getP X (index := 12) (ci := 2) (k := 1) dX3_become_9 (by decide) (by decide) rfl w2_47 rfl)
    (e_each_cons (r_aload_n X (k := 1) (i := 1) rfl dX3_become_12 rfl)
    (e_each_cons (r_getP X (index := 12) (ci := 2) (k := 1) dX3_become_13 (by decide) (by decide) rfl w2_47 rfl)
    (e_each_cons (r_callV X rfl (τ := sg_X5_become) (index := 33) (ci := 4) dX3_become_16 (by decide) rfl w3_47 w3_48 w3_49 cs_X5_become rfl ⟨by decide, by decide⟩ rfl)
    (e_each_cons (r_iconst X (n := 0) (v := 0) dX3_become_19 (by decide) rfl)
    (e_each_cons (r_istore_n X (k := 2) (i := 2) rfl dX3_become_20 (by decide) rfl)
    (e_each_cons (r_iload_n X (k := 2) (i := 2) rfl dX3_become_21 rfl)
    (e_each_cons (r_iconst X (n := 2) (v := 2) dX3_become_22 (by decide) rfl)
    (e_each_cons (r_icmp_ge X (off := 24) (t := 47) dX3_become_23 (by decide) rfl)
    (e_each_cons (r_aload_n X (k := 0) (i := 0) rfl dX3_become_26 rfl)
    (e_each_cons (r_getP X (index := 21) (ci := 2) (k := 2) dX3_become_27 (by decide) (by decide) rfl w2_49 rfl)
    (e_each_cons (r_iload_n X (k := 2) (i := 2) rfl dX3_become_30 rfl)
    (e_each_cons (r_aald X dX3_become_31 rfl)
    (e_each_cons (r_aload_n X (k := 1) (i := 1) rfl dX3_become_32 rfl)
    (e_each_cons (r_getP X (index := 21) (ci := 2) (k := 2) dX3_become_33 (by decide) (by decide) rfl w2_49 rfl)
    (e_each_cons (r_iload_n X (k := 2) (i := 2) rfl dX3_become_36 rfl)
    (e_each_cons (r_aald X dX3_become_37 rfl)
    (e_each_cons (r_callV X rfl (τ := sg_X7_become) (index := 37) (ci := 6) dX3_become_38 (by decide) rfl w3_66 w3_67 w3_68 cs_X7_become rfl ⟨by decide, by decide⟩ rfl)
    (e_each_cons (r_iinc X (i := 2) (n := 1) (d := 1) dX3_become_41 (by decide) (by decide) rfl)
    (e_each_cons (r_goto X (off := (-23)) (t := 21) dX3_become_44 (by decide))
    (e_each_cons (r_aload_n X (k := 1) (i := 1) rfl dX3_become_47 rfl)
    (e_each_cons (r_getP X (index := 25) (ci := 2) (k := 3) dX3_become_48 (by decide) (by decide) rfl w2_51 rfl)
    (e_each_cons (r_iconst X (n := 0) (v := 0) dX3_become_51 (by decide) rfl)
    (e_each_cons (r_aload_n X (k := 0) (i := 0) rfl dX3_become_52 rfl)
    (e_each_cons (r_getP X (index := 25) (ci := 2) (k := 3) dX3_become_53 (by decide) (by decide) rfl w2_51 rfl)
    (e_each_cons (r_iconst X (n := 0) (v := 0) dX3_become_56 (by decide) rfl)
    (e_each_cons (r_bipush X (n := 8) (v := 8) dX3_become_57 (by decide) rfl)
    (e_each_cons (r_acI X (index := 40) dX3_become_59 w3_72 w3_65 w3_64 w1_18 ⟨by decide, by decide⟩ rfl)
    (e_each_cons (r_vret X dX3_become_62 rfl)
    (e_each_nil))))))))))))))))))))))))))))))))))
theorem dX3_beginWith_0 : decode cX3_beginWith 0 = .ok (.aload_n 0, 1) := by decide +kernel
theorem dX3_beginWith_1 : decode cX3_beginWith 1 = .ok (.iconst 0, 1) := by decide +kernel
theorem dX3_beginWith_2 : decode cX3_beginWith 2 = .ok (.putfield 29, 3) := by decide +kernel
theorem dX3_beginWith_5 : decode cX3_beginWith 5 = .ok (.aload_n 0, 1) := by decide +kernel
theorem dX3_beginWith_6 : decode cX3_beginWith 6 = .ok (.getfield 12, 3) := by decide +kernel
theorem dX3_beginWith_9 : decode cX3_beginWith 9 = .ok (.aload_n 1, 1) := by decide +kernel
theorem dX3_beginWith_10 : decode cX3_beginWith 10 = .ok (.invokevirtual 33, 3) := by decide +kernel
theorem dX3_beginWith_13 : decode cX3_beginWith 13 = .ok (.iconst 0, 1) := by decide +kernel
theorem dX3_beginWith_14 : decode cX3_beginWith 14 = .ok (.istore_n 2, 1) := by decide +kernel
theorem dX3_beginWith_15 : decode cX3_beginWith 15 = .ok (.iload_n 2, 1) := by decide +kernel
theorem dX3_beginWith_16 : decode cX3_beginWith 16 = .ok (.iconst 2, 1) := by decide +kernel
theorem dX3_beginWith_17 : decode cX3_beginWith 17 = .ok (.if_icmp .ge 19, 3) := by decide +kernel
theorem dX3_beginWith_20 : decode cX3_beginWith 20 = .ok (.aload_n 0, 1) := by decide +kernel
theorem dX3_beginWith_21 : decode cX3_beginWith 21 = .ok (.getfield 21, 3) := by decide +kernel
theorem dX3_beginWith_24 : decode cX3_beginWith 24 = .ok (.iload_n 2, 1) := by decide +kernel
theorem dX3_beginWith_25 : decode cX3_beginWith 25 = .ok (.aaload, 1) := by decide +kernel
theorem dX3_beginWith_26 : decode cX3_beginWith 26 = .ok (.aload_n 1, 1) := by decide +kernel
theorem dX3_beginWith_27 : decode cX3_beginWith 27 = .ok (.invokevirtual 46, 3) := by decide +kernel
theorem dX3_beginWith_30 : decode cX3_beginWith 30 = .ok (.iinc 2 1, 3) := by decide +kernel
theorem dX3_beginWith_33 : decode cX3_beginWith 33 = .ok (.goto (-18), 3) := by decide +kernel
theorem dX3_beginWith_36 : decode cX3_beginWith 36 = .ok (.return_, 1) := by decide +kernel
def pg_X3_beginWith (l : Launch) (g : EG) : List (Nat × ES) := [(0, s_ldP 0), (1, s_c (.inl 0)), (2, s_putI 2 0), (5, s_ldP 0), (6, s_getP 2 1), (9, s_ldP 1), (10, s_callV l g sg_X3_beginWith sg_X5_become 4), (13, s_c (.inl 0)), (14, s_stI 2), (15, s_ldI 2), (16, s_c (.inl 2)), (17, s_icmp_ge 36), (20, s_ldP 0), (21, s_getP 2 2), (24, s_ldI 2), (25, s_aald), (26, s_ldP 1), (27, s_callV l g sg_X3_beginWith sg_X7_beginWith 6), (30, s_iinc 2 1), (33, s_goto 15), (36, s_vret)]
set_option maxRecDepth 100000 in
theorem ok_X3_beginWith {l : Launch} {g : EG} : e_okp l g sg_X3_beginWith "CalendarSync$Exchange" (pg_X3_beginWith l g) := fun p e R s m args below meth c ex M0 Q X =>
    e_each_cons (r_aload_n X (k := 0) (i := 0) rfl dX3_beginWith_0 rfl)
    (e_each_cons (r_iconst X (n := 0) (v := 0) dX3_beginWith_1 (by decide) rfl)
    (e_each_cons (r_putI X (index := 29) (ci := 2) (k := 0) dX3_beginWith_2 (by decide) (by decide) rfl rfl w2_45 rfl)
    (e_each_cons (r_aload_n X (k := 0) (i := 0) rfl dX3_beginWith_5 rfl)
    (e_each_cons (r_getP X (index := 12) (ci := 2) (k := 1) dX3_beginWith_6 (by decide) (by decide) rfl w2_47 rfl)
    (e_each_cons (r_aload_n X (k := 1) (i := 1) rfl dX3_beginWith_9 rfl)
    (e_each_cons (r_callV X rfl (τ := sg_X5_become) (index := 33) (ci := 4) dX3_beginWith_10 (by decide) rfl w3_47 w3_48 w3_49 cs_X5_become rfl ⟨by decide, by decide⟩ rfl)
    (e_each_cons (r_iconst X (n := 0) (v := 0) dX3_beginWith_13 (by decide) rfl)
    (e_each_cons (r_istore_n X (k := 2) (i := 2) rfl dX3_beginWith_14 (by decide) rfl)
    (e_each_cons (r_iload_n X (k := 2) (i := 2) rfl dX3_beginWith_15 rfl)
    (e_each_cons (r_iconst X (n := 2) (v := 2) dX3_beginWith_16 (by decide) rfl)
    (e_each_cons (r_icmp_ge X (off := 19) (t := 36) dX3_beginWith_17 (by decide) rfl)
    (e_each_cons (r_aload_n X (k := 0) (i := 0) rfl dX3_beginWith_20 rfl)
    (e_each_cons (r_getP X (index := 21) (ci := 2) (k := 2) dX3_beginWith_21 (by decide) (by decide) rfl w2_49 rfl)
    (e_each_cons (r_iload_n X (k := 2) (i := 2) rfl dX3_beginWith_24 rfl)
    (e_each_cons (r_aald X dX3_beginWith_25 rfl)
    (e_each_cons (r_aload_n X (k := 1) (i := 1) rfl dX3_beginWith_26 rfl)
    (e_each_cons (r_callV X rfl (τ := sg_X7_beginWith) (index := 46) (ci := 6) dX3_beginWith_27 (by decide) rfl w4_124 w4_125 w4_126 cs_X7_beginWith rfl ⟨by decide, by decide⟩ rfl)
    (e_each_cons (r_iinc X (i := 2) (n := 1) (d := 1) dX3_beginWith_30 (by decide) (by decide) rfl)
    (e_each_cons (r_goto X (off := (-18)) (t := 15) dX3_beginWith_33 (by decide))
    (e_each_cons (r_vret X dX3_beginWith_36 rfl)
    (e_each_nil)))))))))))))))))))))
theorem dX3_countChange_0 : decode cX3_countChange 0 = .ok (.aload_n 0, 1) := by decide +kernel
theorem dX3_countChange_1 : decode cX3_countChange 1 = .ok (.dup, 1) := by decide +kernel
theorem dX3_countChange_2 : decode cX3_countChange 2 = .ok (.getfield 29, 3) := by decide +kernel
theorem dX3_countChange_5 : decode cX3_countChange 5 = .ok (.iconst 1, 1) := by decide +kernel
theorem dX3_countChange_6 : decode cX3_countChange 6 = .ok (.iadd, 1) := by decide +kernel
theorem dX3_countChange_7 : decode cX3_countChange 7 = .ok (.putfield 29, 3) := by decide +kernel
theorem dX3_countChange_10 : decode cX3_countChange 10 = .ok (.aload_n 0, 1) := by decide +kernel
theorem dX3_countChange_11 : decode cX3_countChange 11 = .ok (.getfield 25, 3) := by decide +kernel
theorem dX3_countChange_14 : decode cX3_countChange 14 = .ok (.aload_n 0, 1) := by decide +kernel
theorem dX3_countChange_15 : decode cX3_countChange 15 = .ok (.getfield 29, 3) := by decide +kernel
theorem dX3_countChange_18 : decode cX3_countChange 18 = .ok (.bipush 7, 2) := by decide +kernel
theorem dX3_countChange_20 : decode cX3_countChange 20 = .ok (.iand, 1) := by decide +kernel
theorem dX3_countChange_21 : decode cX3_countChange 21 = .ok (.iload_n 1, 1) := by decide +kernel
theorem dX3_countChange_22 : decode cX3_countChange 22 = .ok (.iastore, 1) := by decide +kernel
theorem dX3_countChange_23 : decode cX3_countChange 23 = .ok (.aload_n 0, 1) := by decide +kernel
theorem dX3_countChange_24 : decode cX3_countChange 24 = .ok (.getfield 29, 3) := by decide +kernel
theorem dX3_countChange_27 : decode cX3_countChange 27 = .ok (.ireturn, 1) := by decide +kernel
def pg_X3_countChange (l : Launch) (g : EG) : List (Nat × ES) := [(0, s_ldP 0), (1, s_dup), (2, s_getI 2 0), (5, s_c (.inl 1)), (6, s_ii (fun x y => x + y)), (7, s_putI 2 0), (10, s_ldP 0), (11, s_getP 2 3), (14, s_ldP 0), (15, s_getI 2 0), (18, s_c (.inl 7)), (20, s_ii (fun x y => x &&& y)), (21, s_ldI 1), (22, s_iast), (23, s_ldP 0), (24, s_getI 2 0), (27, s_ireti)]
set_option maxRecDepth 100000 in
theorem ok_X3_countChange {l : Launch} {g : EG} : e_okp l g sg_X3_countChange "CalendarSync$Exchange" (pg_X3_countChange l g) := fun p e R s m args below meth c ex M0 Q X =>
    e_each_cons (r_aload_n X (k := 0) (i := 0) rfl dX3_countChange_0 rfl)
    (e_each_cons (r_dup X dX3_countChange_1 rfl)
    (e_each_cons (r_getI X (index := 29) (ci := 2) (k := 0) dX3_countChange_2 (by decide) (by decide) rfl w2_45 rfl)
    (e_each_cons (r_iconst X (n := 1) (v := 1) dX3_countChange_5 (by decide) rfl)
    (e_each_cons (r_iadd X dX3_countChange_6 rfl)
    (e_each_cons (r_putI X (index := 29) (ci := 2) (k := 0) dX3_countChange_7 (by decide) (by decide) rfl rfl w2_45 rfl)
    (e_each_cons (r_aload_n X (k := 0) (i := 0) rfl dX3_countChange_10 rfl)
    (e_each_cons (r_getP X (index := 25) (ci := 2) (k := 3) dX3_countChange_11 (by decide) (by decide) rfl w2_51 rfl)
    (e_each_cons (r_aload_n X (k := 0) (i := 0) rfl dX3_countChange_14 rfl)
    (e_each_cons (r_getI X (index := 29) (ci := 2) (k := 0) dX3_countChange_15 (by decide) (by decide) rfl w2_45 rfl)
    (e_each_cons (r_bipush X (n := 7) (v := 7) dX3_countChange_18 (by decide) rfl)
    (e_each_cons (r_iand X dX3_countChange_20 rfl)
    (e_each_cons (r_iload_n X (k := 1) (i := 1) rfl dX3_countChange_21 rfl)
    (e_each_cons (r_iast X dX3_countChange_22 rfl)
    (e_each_cons (r_aload_n X (k := 0) (i := 0) rfl dX3_countChange_23 rfl)
    (e_each_cons (r_getI X (index := 29) (ci := 2) (k := 0) dX3_countChange_24 (by decide) (by decide) rfl w2_45 rfl)
    (e_each_cons (r_ireti X dX3_countChange_27 rfl)
    (e_each_nil)))))))))))))))))
theorem dX3_isTooOld_0 : decode cX3_isTooOld 0 = .ok (.iload_n 1, 1) := by decide +kernel
theorem dX3_isTooOld_1 : decode cX3_isTooOld 1 = .ok (.aload_n 0, 1) := by decide +kernel
theorem dX3_isTooOld_2 : decode cX3_isTooOld 2 = .ok (.getfield 29, 3) := by decide +kernel
theorem dX3_isTooOld_5 : decode cX3_isTooOld 5 = .ok (.bipush 8, 2) := by decide +kernel
theorem dX3_isTooOld_7 : decode cX3_isTooOld 7 = .ok (.isub, 1) := by decide +kernel
theorem dX3_isTooOld_8 : decode cX3_isTooOld 8 = .ok (.if_icmp .ge 7, 3) := by decide +kernel
theorem dX3_isTooOld_11 : decode cX3_isTooOld 11 = .ok (.iconst 1, 1) := by decide +kernel
theorem dX3_isTooOld_12 : decode cX3_isTooOld 12 = .ok (.goto 4, 3) := by decide +kernel
theorem dX3_isTooOld_15 : decode cX3_isTooOld 15 = .ok (.iconst 0, 1) := by decide +kernel
theorem dX3_isTooOld_16 : decode cX3_isTooOld 16 = .ok (.ireturn, 1) := by decide +kernel
def pg_X3_isTooOld (l : Launch) (g : EG) : List (Nat × ES) := [(0, s_ldI 1), (1, s_ldP 0), (2, s_getI 2 0), (5, s_c (.inl 8)), (7, s_ii (fun x y => x - y)), (8, s_icmp_ge 15), (11, s_c (.inl 1)), (12, s_goto 16), (15, s_c (.inl 0)), (16, s_iretz)]
set_option maxRecDepth 100000 in
theorem ok_X3_isTooOld {l : Launch} {g : EG} : e_okp l g sg_X3_isTooOld "CalendarSync$Exchange" (pg_X3_isTooOld l g) := fun p e R s m args below meth c ex M0 Q X =>
    e_each_cons (r_iload_n X (k := 1) (i := 1) rfl dX3_isTooOld_0 rfl)
    (e_each_cons (r_aload_n X (k := 0) (i := 0) rfl dX3_isTooOld_1 rfl)
    (e_each_cons (r_getI X (index := 29) (ci := 2) (k := 0) dX3_isTooOld_2 (by decide) (by decide) rfl w2_45 rfl)
    (e_each_cons (r_bipush X (n := 8) (v := 8) dX3_isTooOld_5 (by decide) rfl)
    (e_each_cons (r_isub X dX3_isTooOld_7 rfl)
    (e_each_cons (r_icmp_ge X (off := 7) (t := 15) dX3_isTooOld_8 (by decide) rfl)
    (e_each_cons (r_iconst X (n := 1) (v := 1) dX3_isTooOld_11 (by decide) rfl)
    (e_each_cons (r_goto X (off := 4) (t := 16) dX3_isTooOld_12 (by decide))
    (e_each_cons (r_iconst X (n := 0) (v := 0) dX3_isTooOld_15 (by decide) rfl)
    (e_each_cons (r_iretz X dX3_isTooOld_16 rfl)
    (e_each_nil))))))))))
theorem dX3_toldBehind_0 : decode cX3_toldBehind 0 = .ok (.aload_n 0, 1) := by decide +kernel
theorem dX3_toldBehind_1 : decode cX3_toldBehind 1 = .ok (.iload_n 1, 1) := by decide +kernel
theorem dX3_toldBehind_2 : decode cX3_toldBehind 2 = .ok (.invokevirtual 49, 3) := by decide +kernel
theorem dX3_toldBehind_5 : decode cX3_toldBehind 5 = .ok (.ifCond .eq 11, 3) := by decide +kernel
theorem dX3_toldBehind_8 : decode cX3_toldBehind 8 = .ok (.aload_n 0, 1) := by decide +kernel
theorem dX3_toldBehind_9 : decode cX3_toldBehind 9 = .ok (.getfield 12, 3) := by decide +kernel
theorem dX3_toldBehind_12 : decode cX3_toldBehind 12 = .ok (.invokevirtual 53, 3) := by decide +kernel
theorem dX3_toldBehind_15 : decode cX3_toldBehind 15 = .ok (.ireturn, 1) := by decide +kernel
theorem dX3_toldBehind_16 : decode cX3_toldBehind 16 = .ok (.iconst 0, 1) := by decide +kernel
theorem dX3_toldBehind_17 : decode cX3_toldBehind 17 = .ok (.istore_n 2, 1) := by decide +kernel
theorem dX3_toldBehind_18 : decode cX3_toldBehind 18 = .ok (.iconst 0, 1) := by decide +kernel
theorem dX3_toldBehind_19 : decode cX3_toldBehind 19 = .ok (.istore_n 3, 1) := by decide +kernel
theorem dX3_toldBehind_20 : decode cX3_toldBehind 20 = .ok (.iload_n 3, 1) := by decide +kernel
theorem dX3_toldBehind_21 : decode cX3_toldBehind 21 = .ok (.bipush 8, 2) := by decide +kernel
theorem dX3_toldBehind_23 : decode cX3_toldBehind 23 = .ok (.if_icmp .ge 48, 3) := by decide +kernel
theorem dX3_toldBehind_26 : decode cX3_toldBehind 26 = .ok (.aload_n 0, 1) := by decide +kernel
theorem dX3_toldBehind_27 : decode cX3_toldBehind 27 = .ok (.getfield 29, 3) := by decide +kernel
theorem dX3_toldBehind_30 : decode cX3_toldBehind 30 = .ok (.iload_n 3, 1) := by decide +kernel
theorem dX3_toldBehind_31 : decode cX3_toldBehind 31 = .ok (.isub, 1) := by decide +kernel
theorem dX3_toldBehind_32 : decode cX3_toldBehind 32 = .ok (.istore 4, 2) := by decide +kernel
theorem dX3_toldBehind_34 : decode cX3_toldBehind 34 = .ok (.aload_n 0, 1) := by decide +kernel
theorem dX3_toldBehind_35 : decode cX3_toldBehind 35 = .ok (.getfield 25, 3) := by decide +kernel
theorem dX3_toldBehind_38 : decode cX3_toldBehind 38 = .ok (.iload 4, 2) := by decide +kernel
theorem dX3_toldBehind_40 : decode cX3_toldBehind 40 = .ok (.bipush 7, 2) := by decide +kernel
theorem dX3_toldBehind_42 : decode cX3_toldBehind 42 = .ok (.iand, 1) := by decide +kernel
theorem dX3_toldBehind_43 : decode cX3_toldBehind 43 = .ok (.iaload, 1) := by decide +kernel
theorem dX3_toldBehind_44 : decode cX3_toldBehind 44 = .ok (.istore 5, 2) := by decide +kernel
theorem dX3_toldBehind_46 : decode cX3_toldBehind 46 = .ok (.iload 4, 2) := by decide +kernel
theorem dX3_toldBehind_48 : decode cX3_toldBehind 48 = .ok (.iload_n 1, 1) := by decide +kernel
theorem dX3_toldBehind_49 : decode cX3_toldBehind 49 = .ok (.if_icmp .le 16, 3) := by decide +kernel
theorem dX3_toldBehind_52 : decode cX3_toldBehind 52 = .ok (.iload 5, 2) := by decide +kernel
theorem dX3_toldBehind_54 : decode cX3_toldBehind 54 = .ok (.iconst (-1), 1) := by decide +kernel
theorem dX3_toldBehind_55 : decode cX3_toldBehind 55 = .ok (.if_icmp .eq 10, 3) := by decide +kernel
theorem dX3_toldBehind_58 : decode cX3_toldBehind 58 = .ok (.iload_n 2, 1) := by decide +kernel
theorem dX3_toldBehind_59 : decode cX3_toldBehind 59 = .ok (.iconst 1, 1) := by decide +kernel
theorem dX3_toldBehind_60 : decode cX3_toldBehind 60 = .ok (.iload 5, 2) := by decide +kernel
theorem dX3_toldBehind_62 : decode cX3_toldBehind 62 = .ok (.ishl, 1) := by decide +kernel
theorem dX3_toldBehind_63 : decode cX3_toldBehind 63 = .ok (.ior, 1) := by decide +kernel
theorem dX3_toldBehind_64 : decode cX3_toldBehind 64 = .ok (.istore_n 2, 1) := by decide +kernel
theorem dX3_toldBehind_65 : decode cX3_toldBehind 65 = .ok (.iinc 3 1, 3) := by decide +kernel
theorem dX3_toldBehind_68 : decode cX3_toldBehind 68 = .ok (.goto (-48), 3) := by decide +kernel
theorem dX3_toldBehind_71 : decode cX3_toldBehind 71 = .ok (.iload_n 2, 1) := by decide +kernel
theorem dX3_toldBehind_72 : decode cX3_toldBehind 72 = .ok (.ireturn, 1) := by decide +kernel
def pg_X3_toldBehind (l : Launch) (g : EG) : List (Nat × ES) := [(0, s_ldP 0), (1, s_ldI 1), (2, s_callV l g sg_X3_toldBehind sg_X3_isTooOld 2), (5, s_if_eq 16), (8, s_ldP 0), (9, s_getP 2 1), (12, s_callV l g sg_X3_toldBehind sg_X5_eventBits 4), (15, s_ireti), (16, s_c (.inl 0)), (17, s_stI 2), (18, s_c (.inl 0)), (19, s_stI 3), (20, s_ldI 3), (21, s_c (.inl 8)), (23, s_icmp_ge 71), (26, s_ldP 0), (27, s_getI 2 0), (30, s_ldI 3), (31, s_ii (fun x y => x - y)), (32, s_stI 4), (34, s_ldP 0), (35, s_getP 2 3), (38, s_ldI 4), (40, s_c (.inl 7)), (42, s_ii (fun x y => x &&& y)), (43, s_iald), (44, s_stI 5), (46, s_ldI 4), (48, s_ldI 1), (49, s_icmp_le 65), (52, s_ldI 5), (54, s_c (.inl (-1))), (55, s_icmp_eq 65), (58, s_ldI 2), (59, s_c (.inl 1)), (60, s_ldI 5), (62, s_ii (fun x y => x <<< (y &&& 31))), (63, s_ii (fun x y => x ||| y)), (64, s_stI 2), (65, s_iinc 3 1), (68, s_goto 20), (71, s_ldI 2), (72, s_ireti)]
set_option maxRecDepth 100000 in
theorem ok_X3_toldBehind {l : Launch} {g : EG} : e_okp l g sg_X3_toldBehind "CalendarSync$Exchange" (pg_X3_toldBehind l g) := fun p e R s m args below meth c ex M0 Q X =>
    e_each_cons (r_aload_n X (k := 0) (i := 0) rfl dX3_toldBehind_0 rfl)
    (e_each_cons (r_iload_n X (k := 1) (i := 1) rfl dX3_toldBehind_1 rfl)
    (e_each_cons (r_callV X rfl (τ := sg_X3_isTooOld) (index := 49) (ci := 2) dX3_toldBehind_2 (by decide) rfl w3_36 w3_29 w3_30 cs_X3_isTooOld rfl ⟨by decide, by decide⟩ rfl)
    (e_each_cons (r_if_eq X (off := 11) (t := 16) dX3_toldBehind_5 (by decide) rfl)
    (e_each_cons (r_aload_n X (k := 0) (i := 0) rfl dX3_toldBehind_8 rfl)
    (e_each_cons (r_getP X (index := 12) (ci := 2) (k := 1) dX3_toldBehind_9 (by decide) (by decide) rfl w2_47 rfl)
    (e_each_cons (r_callV X rfl (τ := sg_X5_eventBits) (index := 53) (ci := 4) dX3_toldBehind_12 (by decide) rfl w3_37 w2_201 w2_202 cs_X5_eventBits rfl ⟨by decide, by decide⟩ rfl)
    (e_each_cons (r_ireti X dX3_toldBehind_15 rfl)
    (e_each_cons (r_iconst X (n := 0) (v := 0) dX3_toldBehind_16 (by decide) rfl)
    (e_each_cons (r_istore_n X (k := 2) (i := 2) rfl dX3_toldBehind_17 (by decide) rfl)
    (e_each_cons (r_iconst X (n := 0) (v := 0) dX3_toldBehind_18 (by decide) rfl)
    (e_each_cons (r_istore_n X (k := 3) (i := 3) rfl dX3_toldBehind_19 (by decide) rfl)
    (e_each_cons (r_iload_n X (k := 3) (i := 3) rfl dX3_toldBehind_20 rfl)
    (e_each_cons (r_bipush X (n := 8) (v := 8) dX3_toldBehind_21 (by decide) rfl)
    (e_each_cons (r_icmp_ge X (off := 48) (t := 71) dX3_toldBehind_23 (by decide) rfl)
    (e_each_cons (r_aload_n X (k := 0) (i := 0) rfl dX3_toldBehind_26 rfl)
    (e_each_cons (r_getI X (index := 29) (ci := 2) (k := 0) dX3_toldBehind_27 (by decide) (by decide) rfl w2_45 rfl)
    (e_each_cons (r_iload_n X (k := 3) (i := 3) rfl dX3_toldBehind_30 rfl)
    (e_each_cons (r_isub X dX3_toldBehind_31 rfl)
    (e_each_cons (r_istore X (i := 4) dX3_toldBehind_32 (by decide) rfl)
    (e_each_cons (r_aload_n X (k := 0) (i := 0) rfl dX3_toldBehind_34 rfl)
    (e_each_cons (r_getP X (index := 25) (ci := 2) (k := 3) dX3_toldBehind_35 (by decide) (by decide) rfl w2_51 rfl)
    (e_each_cons (r_iload X (i := 4) dX3_toldBehind_38 rfl)
    (e_each_cons (r_bipush X (n := 7) (v := 7) dX3_toldBehind_40 (by decide) rfl)
    (e_each_cons (r_iand X dX3_toldBehind_42 rfl)
    (e_each_cons (r_iald X dX3_toldBehind_43 rfl)
    (e_each_cons (r_istore X (i := 5) dX3_toldBehind_44 (by decide) rfl)
    (e_each_cons (r_iload X (i := 4) dX3_toldBehind_46 rfl)
    (e_each_cons (r_iload_n X (k := 1) (i := 1) rfl dX3_toldBehind_48 rfl)
    (e_each_cons (r_icmp_le X (off := 16) (t := 65) dX3_toldBehind_49 (by decide) rfl)
    (e_each_cons (r_iload X (i := 5) dX3_toldBehind_52 rfl)
    (e_each_cons (r_iconst X (n := (-1)) (v := (-1)) dX3_toldBehind_54 (by decide) rfl)
    (e_each_cons (r_icmp_eq X (off := 10) (t := 65) dX3_toldBehind_55 (by decide) rfl)
    (e_each_cons (r_iload_n X (k := 2) (i := 2) rfl dX3_toldBehind_58 rfl)
    (e_each_cons (r_iconst X (n := 1) (v := 1) dX3_toldBehind_59 (by decide) rfl)
    (e_each_cons (r_iload X (i := 5) dX3_toldBehind_60 rfl)
    (e_each_cons (r_ishl X dX3_toldBehind_62 rfl)
    (e_each_cons (r_ior X dX3_toldBehind_63 rfl)
    (e_each_cons (r_istore_n X (k := 2) (i := 2) rfl dX3_toldBehind_64 (by decide) rfl)
    (e_each_cons (r_iinc X (i := 3) (n := 1) (d := 1) dX3_toldBehind_65 (by decide) (by decide) rfl)
    (e_each_cons (r_goto X (off := (-48)) (t := 20) dX3_toldBehind_68 (by decide))
    (e_each_cons (r_iload_n X (k := 2) (i := 2) rfl dX3_toldBehind_71 rfl)
    (e_each_cons (r_ireti X dX3_toldBehind_72 rfl)
    (e_each_nil)))))))))))))))))))))))))))))))))))))))))))
theorem dX3_accept_0 : decode cX3_accept 0 = .ok (.aload_n 1, 1) := by decide +kernel
theorem dX3_accept_1 : decode cX3_accept 1 = .ok (.getfield 74, 3) := by decide +kernel
theorem dX3_accept_4 : decode cX3_accept 4 = .ok (.getfield 77, 3) := by decide +kernel
theorem dX3_accept_7 : decode cX3_accept 7 = .ok (.iload_n 2, 1) := by decide +kernel
theorem dX3_accept_8 : decode cX3_accept 8 = .ok (.aaload, 1) := by decide +kernel
theorem dX3_accept_9 : decode cX3_accept 9 = .ok (.astore_n 3, 1) := by decide +kernel
theorem dX3_accept_10 : decode cX3_accept 10 = .ok (.aload_n 0, 1) := by decide +kernel
theorem dX3_accept_11 : decode cX3_accept 11 = .ok (.getfield 12, 3) := by decide +kernel
theorem dX3_accept_14 : decode cX3_accept 14 = .ok (.getfield 77, 3) := by decide +kernel
theorem dX3_accept_17 : decode cX3_accept 17 = .ok (.iload_n 2, 1) := by decide +kernel
theorem dX3_accept_18 : decode cX3_accept 18 = .ok (.aaload, 1) := by decide +kernel
theorem dX3_accept_19 : decode cX3_accept 19 = .ok (.astore 4, 2) := by decide +kernel
theorem dX3_accept_21 : decode cX3_accept 21 = .ok (.aload_n 3, 1) := by decide +kernel
theorem dX3_accept_22 : decode cX3_accept 22 = .ok (.getfield 90, 3) := by decide +kernel
theorem dX3_accept_25 : decode cX3_accept 25 = .ok (.ifCond .ne 12, 3) := by decide +kernel
theorem dX3_accept_28 : decode cX3_accept 28 = .ok (.aload 4, 2) := by decide +kernel
theorem dX3_accept_30 : decode cX3_accept 30 = .ok (.getfield 90, 3) := by decide +kernel
theorem dX3_accept_33 : decode cX3_accept 33 = .ok (.ifCond .ne 4, 3) := by decide +kernel
theorem dX3_accept_36 : decode cX3_accept 36 = .ok (.return_, 1) := by decide +kernel
theorem dX3_accept_37 : decode cX3_accept 37 = .ok (.aload_n 0, 1) := by decide +kernel
theorem dX3_accept_38 : decode cX3_accept 38 = .ok (.iload_n 2, 1) := by decide +kernel
theorem dX3_accept_39 : decode cX3_accept 39 = .ok (.invokevirtual 98, 3) := by decide +kernel
theorem dX3_accept_42 : decode cX3_accept 42 = .ok (.istore 5, 2) := by decide +kernel
theorem dX3_accept_44 : decode cX3_accept 44 = .ok (.aload_n 3, 1) := by decide +kernel
theorem dX3_accept_45 : decode cX3_accept 45 = .ok (.aload_n 3, 1) := by decide +kernel
theorem dX3_accept_46 : decode cX3_accept 46 = .ok (.getfield 90, 3) := by decide +kernel
theorem dX3_accept_49 : decode cX3_accept 49 = .ok (.ifCond .eq 8, 3) := by decide +kernel
theorem dX3_accept_52 : decode cX3_accept 52 = .ok (.iload 5, 2) := by decide +kernel
theorem dX3_accept_54 : decode cX3_accept 54 = .ok (.goto 4, 3) := by decide +kernel
theorem dX3_accept_57 : decode cX3_accept 57 = .ok (.iconst (-1), 1) := by decide +kernel
theorem dX3_accept_58 : decode cX3_accept 58 = .ok (.putfield 81, 3) := by decide +kernel
theorem dX3_accept_61 : decode cX3_accept 61 = .ok (.aload 4, 2) := by decide +kernel
theorem dX3_accept_63 : decode cX3_accept 63 = .ok (.aload_n 3, 1) := by decide +kernel
theorem dX3_accept_64 : decode cX3_accept 64 = .ok (.invokevirtual 102, 3) := by decide +kernel
theorem dX3_accept_67 : decode cX3_accept 67 = .ok (.aload_n 1, 1) := by decide +kernel
theorem dX3_accept_68 : decode cX3_accept 68 = .ok (.getfield 57, 3) := by decide +kernel
theorem dX3_accept_71 : decode cX3_accept 71 = .ok (.iconst 0, 1) := by decide +kernel
theorem dX3_accept_72 : decode cX3_accept 72 = .ok (.dup2, 1) := by decide +kernel
theorem dX3_accept_73 : decode cX3_accept 73 = .ok (.iaload, 1) := by decide +kernel
theorem dX3_accept_74 : decode cX3_accept 74 = .ok (.iconst 1, 1) := by decide +kernel
theorem dX3_accept_75 : decode cX3_accept 75 = .ok (.iadd, 1) := by decide +kernel
theorem dX3_accept_76 : decode cX3_accept 76 = .ok (.iastore, 1) := by decide +kernel
theorem dX3_accept_77 : decode cX3_accept 77 = .ok (.return_, 1) := by decide +kernel
def pg_X3_accept (l : Launch) (g : EG) : List (Nat × ES) := [(0, s_ldP 1), (1, s_getP 6 0), (4, s_getP 4 2), (7, s_ldI 2), (8, s_aald), (9, s_stP 3), (10, s_ldP 0), (11, s_getP 2 1), (14, s_getP 4 2), (17, s_ldI 2), (18, s_aald), (19, s_stP 4), (21, s_ldP 3), (22, s_getI 1 0), (25, s_if_ne 37), (28, s_ldP 4), (30, s_getI 1 0), (33, s_if_ne 37), (36, s_vret), (37, s_ldP 0), (38, s_ldI 2), (39, s_callV l g sg_X3_accept sg_X3_countChange 2), (42, s_stI 5), (44, s_ldP 3), (45, s_ldP 3), (46, s_getI 1 0), (49, s_if_eq 57), (52, s_ldI 5), (54, s_goto 58), (57, s_c (.inl (-1))), (58, s_putI 1 9), (61, s_ldP 4), (63, s_ldP 3), (64, s_callV l g sg_X3_accept sg_X2_become 1), (67, s_ldP 1), (68, s_getP 6 4), (71, s_c (.inl 0)), (72, s_dup2), (73, s_iald), (74, s_c (.inl 1)), (75, s_ii (fun x y => x + y)), (76, s_iast), (77, s_vret)]
set_option maxRecDepth 100000 in
theorem ok_X3_accept {l : Launch} {g : EG} : e_okp l g sg_X3_accept "CalendarSync$Exchange" (pg_X3_accept l g) := fun p e R s m args below meth c ex M0 Q X =>
    e_each_cons (r_aload_n X (k := 1) (i := 1) rfl dX3_accept_0 rfl)
    (e_each_cons (r_getP X (index := 74) (ci := 6) (k := 0) dX3_accept_1 (by decide) (by decide) rfl w2_20 rfl)
    (e_each_cons (r_getP X (index := 77) (ci := 4) (k := 2) dX3_accept_4 (by decide) (by decide) rfl w1_169 rfl)
    (e_each_cons (r_iload_n X (k := 2) (i := 2) rfl dX3_accept_7 rfl)
    (e_each_cons (r_aald X dX3_accept_8 rfl)
    (e_each_cons (r_astore_n X (k := 3) (i := 3) rfl dX3_accept_9 (by decide) rfl)
    (e_each_cons (r_aload_n X (k := 0) (i := 0) rfl dX3_accept_10 rfl)
    (e_each_cons (r_getP X (index := 12) (ci := 2) (k := 1) dX3_accept_11 (by decide) (by decide) rfl w2_47 rfl)
    (e_each_cons (r_getP X (index := 77) (ci := 4) (k := 2) dX3_accept_14 (by decide) (by decide) rfl w1_169 rfl)
    (e_each_cons (r_iload_n X (k := 2) (i := 2) rfl dX3_accept_17 rfl)
    (e_each_cons (r_aald X dX3_accept_18 rfl)
    (e_each_cons (r_astore X (i := 4) dX3_accept_19 (by decide) rfl)
    (e_each_cons (r_aload_n X (k := 3) (i := 3) rfl dX3_accept_21 rfl)
    (e_each_cons (r_getI X (index := 90) (ci := 1) (k := 0) dX3_accept_22 (by decide) (by decide) rfl w1_85 rfl)
    (e_each_cons (r_if_ne X (off := 12) (t := 37) dX3_accept_25 (by decide) rfl)
    (e_each_cons (r_aload X (i := 4) dX3_accept_28 rfl)
    (e_each_cons (r_getI X (index := 90) (ci := 1) (k := 0) dX3_accept_30 (by decide) (by decide) rfl w1_85 rfl)
    (e_each_cons (r_if_ne X (off := 4) (t := 37) dX3_accept_33 (by decide) rfl)
    (e_each_cons (r_vret X dX3_accept_36 rfl)
    (e_each_cons (r_aload_n X (k := 0) (i := 0) rfl dX3_accept_37 rfl)
    (e_each_cons (r_iload_n X (k := 2) (i := 2) rfl dX3_accept_38 rfl)
    (e_each_cons (r_callV X rfl (τ := sg_X3_countChange) (index := 98) (ci := 2) dX3_accept_39 (by decide) rfl w6_116 w6_117 w6_118 cs_X3_countChange rfl ⟨by decide, by decide⟩ rfl)
    (e_each_cons (r_istore X (i := 5) dX3_accept_42 (by decide) rfl)
    (e_each_cons (r_aload_n X (k := 3) (i := 3) rfl dX3_accept_44 rfl)
    (e_each_cons (r_aload_n X (k := 3) (i := 3) rfl dX3_accept_45 rfl)
    (e_each_cons (r_getI X (index := 90) (ci := 1) (k := 0) dX3_accept_46 (by decide) (by decide) rfl w1_85 rfl)
    (e_each_cons (r_if_eq X (off := 8) (t := 57) dX3_accept_49 (by decide) rfl)
    (e_each_cons (r_iload X (i := 5) dX3_accept_52 rfl)
    (e_each_cons (r_goto X (off := 4) (t := 58) dX3_accept_54 (by decide))
    (e_each_cons (r_iconst X (n := (-1)) (v := (-1)) dX3_accept_57 (by decide) rfl)
    (e_each_cons (r_putI X (index := 81) (ci := 1) (k := 9) dX3_accept_58 (by decide) (by decide) rfl rfl w1_107 rfl)
    (e_each_cons (r_aload X (i := 4) dX3_accept_61 rfl)
    (e_each_cons (r_aload_n X (k := 3) (i := 3) rfl dX3_accept_63 rfl)
    (e_each_cons (r_callV X rfl (τ := sg_X2_become) (index := 102) (ci := 1) dX3_accept_64 (by decide) rfl w6_120 w3_60 w3_61 cs_X2_become rfl ⟨by decide, by decide⟩ rfl)
    (e_each_cons (r_aload_n X (k := 1) (i := 1) rfl dX3_accept_67 rfl)
    (e_each_cons (r_getP X (index := 57) (ci := 6) (k := 4) dX3_accept_68 (by decide) (by decide) rfl w2_32 rfl)
    (e_each_cons (r_iconst X (n := 0) (v := 0) dX3_accept_71 (by decide) rfl)
    (e_each_cons (r_dup2 X dX3_accept_72 rfl)
    (e_each_cons (r_iald X dX3_accept_73 rfl)
    (e_each_cons (r_iconst X (n := 1) (v := 1) dX3_accept_74 (by decide) rfl)
    (e_each_cons (r_iadd X dX3_accept_75 rfl)
    (e_each_cons (r_iast X dX3_accept_76 rfl)
    (e_each_cons (r_vret X dX3_accept_77 rfl)
    (e_each_nil)))))))))))))))))))))))))))))))))))))))))))
theorem dX3_pushEvent_0 : decode cX3_pushEvent 0 = .ok (.aload_n 0, 1) := by decide +kernel
theorem dX3_pushEvent_1 : decode cX3_pushEvent 1 = .ok (.getfield 21, 3) := by decide +kernel
theorem dX3_pushEvent_4 : decode cX3_pushEvent 4 = .ok (.iload_n 1, 1) := by decide +kernel
theorem dX3_pushEvent_5 : decode cX3_pushEvent 5 = .ok (.aaload, 1) := by decide +kernel
theorem dX3_pushEvent_6 : decode cX3_pushEvent 6 = .ok (.astore_n 3, 1) := by decide +kernel
theorem dX3_pushEvent_7 : decode cX3_pushEvent 7 = .ok (.aload_n 3, 1) := by decide +kernel
theorem dX3_pushEvent_8 : decode cX3_pushEvent 8 = .ok (.getfield 74, 3) := by decide +kernel
theorem dX3_pushEvent_11 : decode cX3_pushEvent 11 = .ok (.getfield 77, 3) := by decide +kernel
theorem dX3_pushEvent_14 : decode cX3_pushEvent 14 = .ok (.iload_n 2, 1) := by decide +kernel
theorem dX3_pushEvent_15 : decode cX3_pushEvent 15 = .ok (.aaload, 1) := by decide +kernel
theorem dX3_pushEvent_16 : decode cX3_pushEvent 16 = .ok (.astore 4, 2) := by decide +kernel
theorem dX3_pushEvent_18 : decode cX3_pushEvent 18 = .ok (.aload_n 0, 1) := by decide +kernel
theorem dX3_pushEvent_19 : decode cX3_pushEvent 19 = .ok (.getfield 12, 3) := by decide +kernel
theorem dX3_pushEvent_22 : decode cX3_pushEvent 22 = .ok (.getfield 77, 3) := by decide +kernel
theorem dX3_pushEvent_25 : decode cX3_pushEvent 25 = .ok (.iload_n 2, 1) := by decide +kernel
theorem dX3_pushEvent_26 : decode cX3_pushEvent 26 = .ok (.aaload, 1) := by decide +kernel
theorem dX3_pushEvent_27 : decode cX3_pushEvent 27 = .ok (.astore 5, 2) := by decide +kernel
theorem dX3_pushEvent_29 : decode cX3_pushEvent 29 = .ok (.aload 4, 2) := by decide +kernel
theorem dX3_pushEvent_31 : decode cX3_pushEvent 31 = .ok (.getfield 81, 3) := by decide +kernel
theorem dX3_pushEvent_34 : decode cX3_pushEvent 34 = .ok (.aload 5, 2) := by decide +kernel
theorem dX3_pushEvent_36 : decode cX3_pushEvent 36 = .ok (.getfield 81, 3) := by decide +kernel
theorem dX3_pushEvent_39 : decode cX3_pushEvent 39 = .ok (.if_icmp .ne 12, 3) := by decide +kernel
theorem dX3_pushEvent_42 : decode cX3_pushEvent 42 = .ok (.aload_n 0, 1) := by decide +kernel
theorem dX3_pushEvent_43 : decode cX3_pushEvent 43 = .ok (.aload_n 3, 1) := by decide +kernel
theorem dX3_pushEvent_44 : decode cX3_pushEvent 44 = .ok (.iload_n 2, 1) := by decide +kernel
theorem dX3_pushEvent_45 : decode cX3_pushEvent 45 = .ok (.invokevirtual 86, 3) := by decide +kernel
theorem dX3_pushEvent_48 : decode cX3_pushEvent 48 = .ok (.goto 77, 3) := by decide +kernel
theorem dX3_pushEvent_51 : decode cX3_pushEvent 51 = .ok (.aload 5, 2) := by decide +kernel
theorem dX3_pushEvent_53 : decode cX3_pushEvent 53 = .ok (.getfield 90, 3) := by decide +kernel
theorem dX3_pushEvent_56 : decode cX3_pushEvent 56 = .ok (.ifCond .eq 52, 3) := by decide +kernel
theorem dX3_pushEvent_59 : decode cX3_pushEvent 59 = .ok (.aload_n 3, 1) := by decide +kernel
theorem dX3_pushEvent_60 : decode cX3_pushEvent 60 = .ok (.getfield 71, 3) := by decide +kernel
theorem dX3_pushEvent_63 : decode cX3_pushEvent 63 = .ok (.iload_n 2, 1) := by decide +kernel
theorem dX3_pushEvent_64 : decode cX3_pushEvent 64 = .ok (.invokestatic 63, 3) := by decide +kernel
theorem dX3_pushEvent_67 : decode cX3_pushEvent 67 = .ok (.ifCond .ne 41, 3) := by decide +kernel
theorem dX3_pushEvent_70 : decode cX3_pushEvent 70 = .ok (.aload 5, 2) := by decide +kernel
theorem dX3_pushEvent_72 : decode cX3_pushEvent 72 = .ok (.aload 4, 2) := by decide +kernel
theorem dX3_pushEvent_74 : decode cX3_pushEvent 74 = .ok (.iload_n 1, 1) := by decide +kernel
theorem dX3_pushEvent_75 : decode cX3_pushEvent 75 = .ok (.invokevirtual 94, 3) := by decide +kernel
theorem dX3_pushEvent_78 : decode cX3_pushEvent 78 = .ok (.aload 5, 2) := by decide +kernel
theorem dX3_pushEvent_80 : decode cX3_pushEvent 80 = .ok (.aload_n 0, 1) := by decide +kernel
theorem dX3_pushEvent_81 : decode cX3_pushEvent 81 = .ok (.iload_n 2, 1) := by decide +kernel
theorem dX3_pushEvent_82 : decode cX3_pushEvent 82 = .ok (.invokevirtual 98, 3) := by decide +kernel
theorem dX3_pushEvent_85 : decode cX3_pushEvent 85 = .ok (.putfield 81, 3) := by decide +kernel
theorem dX3_pushEvent_88 : decode cX3_pushEvent 88 = .ok (.aload 4, 2) := by decide +kernel
theorem dX3_pushEvent_90 : decode cX3_pushEvent 90 = .ok (.aload 5, 2) := by decide +kernel
theorem dX3_pushEvent_92 : decode cX3_pushEvent 92 = .ok (.invokevirtual 102, 3) := by decide +kernel
theorem dX3_pushEvent_95 : decode cX3_pushEvent 95 = .ok (.aload_n 3, 1) := by decide +kernel
theorem dX3_pushEvent_96 : decode cX3_pushEvent 96 = .ok (.getfield 57, 3) := by decide +kernel
theorem dX3_pushEvent_99 : decode cX3_pushEvent 99 = .ok (.iconst 1, 1) := by decide +kernel
theorem dX3_pushEvent_100 : decode cX3_pushEvent 100 = .ok (.dup2, 1) := by decide +kernel
theorem dX3_pushEvent_101 : decode cX3_pushEvent 101 = .ok (.iaload, 1) := by decide +kernel
theorem dX3_pushEvent_102 : decode cX3_pushEvent 102 = .ok (.iconst 1, 1) := by decide +kernel
theorem dX3_pushEvent_103 : decode cX3_pushEvent 103 = .ok (.iadd, 1) := by decide +kernel
theorem dX3_pushEvent_104 : decode cX3_pushEvent 104 = .ok (.iastore, 1) := by decide +kernel
theorem dX3_pushEvent_105 : decode cX3_pushEvent 105 = .ok (.goto 20, 3) := by decide +kernel
theorem dX3_pushEvent_108 : decode cX3_pushEvent 108 = .ok (.aload 4, 2) := by decide +kernel
theorem dX3_pushEvent_110 : decode cX3_pushEvent 110 = .ok (.aload 5, 2) := by decide +kernel
theorem dX3_pushEvent_112 : decode cX3_pushEvent 112 = .ok (.invokevirtual 102, 3) := by decide +kernel
theorem dX3_pushEvent_115 : decode cX3_pushEvent 115 = .ok (.aload_n 3, 1) := by decide +kernel
theorem dX3_pushEvent_116 : decode cX3_pushEvent 116 = .ok (.getfield 57, 3) := by decide +kernel
theorem dX3_pushEvent_119 : decode cX3_pushEvent 119 = .ok (.iconst 2, 1) := by decide +kernel
theorem dX3_pushEvent_120 : decode cX3_pushEvent 120 = .ok (.dup2, 1) := by decide +kernel
theorem dX3_pushEvent_121 : decode cX3_pushEvent 121 = .ok (.iaload, 1) := by decide +kernel
theorem dX3_pushEvent_122 : decode cX3_pushEvent 122 = .ok (.iconst 1, 1) := by decide +kernel
theorem dX3_pushEvent_123 : decode cX3_pushEvent 123 = .ok (.iadd, 1) := by decide +kernel
theorem dX3_pushEvent_124 : decode cX3_pushEvent 124 = .ok (.iastore, 1) := by decide +kernel
theorem dX3_pushEvent_125 : decode cX3_pushEvent 125 = .ok (.return_, 1) := by decide +kernel
def pg_X3_pushEvent (l : Launch) (g : EG) : List (Nat × ES) := [(0, s_ldP 0), (1, s_getP 2 2), (4, s_ldI 1), (5, s_aald), (6, s_stP 3), (7, s_ldP 3), (8, s_getP 6 0), (11, s_getP 4 2), (14, s_ldI 2), (15, s_aald), (16, s_stP 4), (18, s_ldP 0), (19, s_getP 2 1), (22, s_getP 4 2), (25, s_ldI 2), (26, s_aald), (27, s_stP 5), (29, s_ldP 4), (31, s_getI 1 9), (34, s_ldP 5), (36, s_getI 1 9), (39, s_icmp_ne 51), (42, s_ldP 0), (43, s_ldP 3), (44, s_ldI 2), (45, s_callV l g sg_X3_pushEvent sg_X3_accept 2), (48, s_goto 125), (51, s_ldP 5), (53, s_getI 1 0), (56, s_if_eq 108), (59, s_ldP 3), (60, s_getI 6 3), (63, s_ldI 2), (64, s_callS l g sg_X3_pushEvent sg_X10_hasBit), (67, s_if_ne 108), (70, s_ldP 5), (72, s_ldP 4), (74, s_ldI 1), (75, s_callV l g sg_X3_pushEvent sg_X2_takeAnswers 1), (78, s_ldP 5), (80, s_ldP 0), (81, s_ldI 2), (82, s_callV l g sg_X3_pushEvent sg_X3_countChange 2), (85, s_putI 1 9), (88, s_ldP 4), (90, s_ldP 5), (92, s_callV l g sg_X3_pushEvent sg_X2_become 1), (95, s_ldP 3), (96, s_getP 6 4), (99, s_c (.inl 1)), (100, s_dup2), (101, s_iald), (102, s_c (.inl 1)), (103, s_ii (fun x y => x + y)), (104, s_iast), (105, s_goto 125), (108, s_ldP 4), (110, s_ldP 5), (112, s_callV l g sg_X3_pushEvent sg_X2_become 1), (115, s_ldP 3), (116, s_getP 6 4), (119, s_c (.inl 2)), (120, s_dup2), (121, s_iald), (122, s_c (.inl 1)), (123, s_ii (fun x y => x + y)), (124, s_iast), (125, s_vret)]
set_option maxRecDepth 100000 in
theorem ok_X3_pushEvent {l : Launch} {g : EG} : e_okp l g sg_X3_pushEvent "CalendarSync$Exchange" (pg_X3_pushEvent l g) := fun p e R s m args below meth c ex M0 Q X =>
    e_each_cons (r_aload_n X (k := 0) (i := 0) rfl dX3_pushEvent_0 rfl)
    (e_each_cons (r_getP X (index := 21) (ci := 2) (k := 2) dX3_pushEvent_1 (by decide) (by decide) rfl w2_49 rfl)
    (e_each_cons (r_iload_n X (k := 1) (i := 1) rfl dX3_pushEvent_4 rfl)
    (e_each_cons (r_aald X dX3_pushEvent_5 rfl)
    (e_each_cons (r_astore_n X (k := 3) (i := 3) rfl dX3_pushEvent_6 (by decide) rfl)
    (e_each_cons (r_aload_n X (k := 3) (i := 3) rfl dX3_pushEvent_7 rfl)
    (e_each_cons (r_getP X (index := 74) (ci := 6) (k := 0) dX3_pushEvent_8 (by decide) (by decide) rfl w2_20 rfl)
    (e_each_cons (r_getP X (index := 77) (ci := 4) (k := 2) dX3_pushEvent_11 (by decide) (by decide) rfl w1_169 rfl)
    (e_each_cons (r_iload_n X (k := 2) (i := 2) rfl dX3_pushEvent_14 rfl)
    (e_each_cons (r_aald X dX3_pushEvent_15 rfl)
    (e_each_cons (r_astore X (i := 4) dX3_pushEvent_16 (by decide) rfl)
    (e_each_cons (r_aload_n X (k := 0) (i := 0) rfl dX3_pushEvent_18 rfl)
    (e_each_cons (r_getP X (index := 12) (ci := 2) (k := 1) dX3_pushEvent_19 (by decide) (by decide) rfl w2_47 rfl)
    (e_each_cons (r_getP X (index := 77) (ci := 4) (k := 2) dX3_pushEvent_22 (by decide) (by decide) rfl w1_169 rfl)
    (e_each_cons (r_iload_n X (k := 2) (i := 2) rfl dX3_pushEvent_25 rfl)
    (e_each_cons (r_aald X dX3_pushEvent_26 rfl)
    (e_each_cons (r_astore X (i := 5) dX3_pushEvent_27 (by decide) rfl)
    (e_each_cons (r_aload X (i := 4) dX3_pushEvent_29 rfl)
    (e_each_cons (r_getI X (index := 81) (ci := 1) (k := 9) dX3_pushEvent_31 (by decide) (by decide) rfl w1_107 rfl)
    (e_each_cons (r_aload X (i := 5) dX3_pushEvent_34 rfl)
    (e_each_cons (r_getI X (index := 81) (ci := 1) (k := 9) dX3_pushEvent_36 (by decide) (by decide) rfl w1_107 rfl)
    (e_each_cons (r_icmp_ne X (off := 12) (t := 51) dX3_pushEvent_39 (by decide) rfl)
    (e_each_cons (r_aload_n X (k := 0) (i := 0) rfl dX3_pushEvent_42 rfl)
    (e_each_cons (r_aload_n X (k := 3) (i := 3) rfl dX3_pushEvent_43 rfl)
    (e_each_cons (r_iload_n X (k := 2) (i := 2) rfl dX3_pushEvent_44 rfl)
    (e_each_cons (r_callV X rfl (τ := sg_X3_accept) (index := 86) (ci := 2) dX3_pushEvent_45 (by decide) rfl w6_112 w6_114 ws_28 cs_X3_accept rfl ⟨by decide, by decide⟩ rfl)
    (e_each_cons (r_goto X (off := 77) (t := 125) dX3_pushEvent_48 (by decide))
    (e_each_cons (r_aload X (i := 5) dX3_pushEvent_51 rfl)
    (e_each_cons (r_getI X (index := 90) (ci := 1) (k := 0) dX3_pushEvent_53 (by decide) (by decide) rfl w1_85 rfl)
    (e_each_cons (r_if_eq X (off := 52) (t := 108) dX3_pushEvent_56 (by decide) rfl)
    (e_each_cons (r_aload_n X (k := 3) (i := 3) rfl dX3_pushEvent_59 rfl)
    (e_each_cons (r_getI X (index := 71) (ci := 6) (k := 3) dX3_pushEvent_60 (by decide) (by decide) rfl w2_29 rfl)
    (e_each_cons (r_iload_n X (k := 2) (i := 2) rfl dX3_pushEvent_63 rfl)
    (e_each_cons (r_callSN X rfl (τ := sg_X10_hasBit) (index := 63) (host := "CalendarSync") dX3_pushEvent_64 wn6_107 w2_224 cs_X10_hasBit rfl ⟨by decide, by decide⟩ rfl)
    (e_each_cons (r_if_ne X (off := 41) (t := 108) dX3_pushEvent_67 (by decide) rfl)
    (e_each_cons (r_aload X (i := 5) dX3_pushEvent_70 rfl)
    (e_each_cons (r_aload X (i := 4) dX3_pushEvent_72 rfl)
    (e_each_cons (r_iload_n X (k := 1) (i := 1) rfl dX3_pushEvent_74 rfl)
    (e_each_cons (r_callV X rfl (τ := sg_X2_takeAnswers) (index := 94) (ci := 1) dX3_pushEvent_75 (by decide) rfl w6_121 w6_122 w6_123 cs_X2_takeAnswers rfl ⟨by decide, by decide⟩ rfl)
    (e_each_cons (r_aload X (i := 5) dX3_pushEvent_78 rfl)
    (e_each_cons (r_aload_n X (k := 0) (i := 0) rfl dX3_pushEvent_80 rfl)
    (e_each_cons (r_iload_n X (k := 2) (i := 2) rfl dX3_pushEvent_81 rfl)
    (e_each_cons (r_callV X rfl (τ := sg_X3_countChange) (index := 98) (ci := 2) dX3_pushEvent_82 (by decide) rfl w6_116 w6_117 w6_118 cs_X3_countChange rfl ⟨by decide, by decide⟩ rfl)
    (e_each_cons (r_putI X (index := 81) (ci := 1) (k := 9) dX3_pushEvent_85 (by decide) (by decide) rfl rfl w1_107 rfl)
    (e_each_cons (r_aload X (i := 4) dX3_pushEvent_88 rfl)
    (e_each_cons (r_aload X (i := 5) dX3_pushEvent_90 rfl)
    (e_each_cons (r_callV X rfl (τ := sg_X2_become) (index := 102) (ci := 1) dX3_pushEvent_92 (by decide) rfl w6_120 w3_60 w3_61 cs_X2_become rfl ⟨by decide, by decide⟩ rfl)
    (e_each_cons (r_aload_n X (k := 3) (i := 3) rfl dX3_pushEvent_95 rfl)
    (e_each_cons (r_getP X (index := 57) (ci := 6) (k := 4) dX3_pushEvent_96 (by decide) (by decide) rfl w2_32 rfl)
    (e_each_cons (r_iconst X (n := 1) (v := 1) dX3_pushEvent_99 (by decide) rfl)
    (e_each_cons (r_dup2 X dX3_pushEvent_100 rfl)
    (e_each_cons (r_iald X dX3_pushEvent_101 rfl)
    (e_each_cons (r_iconst X (n := 1) (v := 1) dX3_pushEvent_102 (by decide) rfl)
    (e_each_cons (r_iadd X dX3_pushEvent_103 rfl)
    (e_each_cons (r_iast X dX3_pushEvent_104 rfl)
    (e_each_cons (r_goto X (off := 20) (t := 125) dX3_pushEvent_105 (by decide))
    (e_each_cons (r_aload X (i := 4) dX3_pushEvent_108 rfl)
    (e_each_cons (r_aload X (i := 5) dX3_pushEvent_110 rfl)
    (e_each_cons (r_callV X rfl (τ := sg_X2_become) (index := 102) (ci := 1) dX3_pushEvent_112 (by decide) rfl w6_120 w3_60 w3_61 cs_X2_become rfl ⟨by decide, by decide⟩ rfl)
    (e_each_cons (r_aload_n X (k := 3) (i := 3) rfl dX3_pushEvent_115 rfl)
    (e_each_cons (r_getP X (index := 57) (ci := 6) (k := 4) dX3_pushEvent_116 (by decide) (by decide) rfl w2_32 rfl)
    (e_each_cons (r_iconst X (n := 2) (v := 2) dX3_pushEvent_119 (by decide) rfl)
    (e_each_cons (r_dup2 X dX3_pushEvent_120 rfl)
    (e_each_cons (r_iald X dX3_pushEvent_121 rfl)
    (e_each_cons (r_iconst X (n := 1) (v := 1) dX3_pushEvent_122 (by decide) rfl)
    (e_each_cons (r_iadd X dX3_pushEvent_123 rfl)
    (e_each_cons (r_iast X dX3_pushEvent_124 rfl)
    (e_each_cons (r_vret X dX3_pushEvent_125 rfl)
    (e_each_nil))))))))))))))))))))))))))))))))))))))))))))))))))))))))))))))))))))
theorem dX3_pushFrom_0 : decode cX3_pushFrom 0 = .ok (.aload_n 0, 1) := by decide +kernel
theorem dX3_pushFrom_1 : decode cX3_pushFrom 1 = .ok (.getfield 21, 3) := by decide +kernel
theorem dX3_pushFrom_4 : decode cX3_pushFrom 4 = .ok (.iload_n 1, 1) := by decide +kernel
theorem dX3_pushFrom_5 : decode cX3_pushFrom 5 = .ok (.aaload, 1) := by decide +kernel
theorem dX3_pushFrom_6 : decode cX3_pushFrom 6 = .ok (.astore_n 2, 1) := by decide +kernel
theorem dX3_pushFrom_7 : decode cX3_pushFrom 7 = .ok (.aload_n 2, 1) := by decide +kernel
theorem dX3_pushFrom_8 : decode cX3_pushFrom 8 = .ok (.getfield 57, 3) := by decide +kernel
theorem dX3_pushFrom_11 : decode cX3_pushFrom 11 = .ok (.iconst 2, 1) := by decide +kernel
theorem dX3_pushFrom_12 : decode cX3_pushFrom 12 = .ok (.iaload, 1) := by decide +kernel
theorem dX3_pushFrom_13 : decode cX3_pushFrom 13 = .ok (.istore_n 3, 1) := by decide +kernel
theorem dX3_pushFrom_14 : decode cX3_pushFrom 14 = .ok (.iconst 0, 1) := by decide +kernel
theorem dX3_pushFrom_15 : decode cX3_pushFrom 15 = .ok (.istore 4, 2) := by decide +kernel
theorem dX3_pushFrom_17 : decode cX3_pushFrom 17 = .ok (.iload 4, 2) := by decide +kernel
theorem dX3_pushFrom_19 : decode cX3_pushFrom 19 = .ok (.bipush 8, 2) := by decide +kernel
theorem dX3_pushFrom_21 : decode cX3_pushFrom 21 = .ok (.if_icmp .ge 28, 3) := by decide +kernel
theorem dX3_pushFrom_24 : decode cX3_pushFrom 24 = .ok (.aload_n 2, 1) := by decide +kernel
theorem dX3_pushFrom_25 : decode cX3_pushFrom 25 = .ok (.getfield 60, 3) := by decide +kernel
theorem dX3_pushFrom_28 : decode cX3_pushFrom 28 = .ok (.iload 4, 2) := by decide +kernel
theorem dX3_pushFrom_30 : decode cX3_pushFrom 30 = .ok (.invokestatic 63, 3) := by decide +kernel
theorem dX3_pushFrom_33 : decode cX3_pushFrom 33 = .ok (.ifCond .eq 10, 3) := by decide +kernel
theorem dX3_pushFrom_36 : decode cX3_pushFrom 36 = .ok (.aload_n 0, 1) := by decide +kernel
theorem dX3_pushFrom_37 : decode cX3_pushFrom 37 = .ok (.iload_n 1, 1) := by decide +kernel
theorem dX3_pushFrom_38 : decode cX3_pushFrom 38 = .ok (.iload 4, 2) := by decide +kernel
theorem dX3_pushFrom_40 : decode cX3_pushFrom 40 = .ok (.invokevirtual 67, 3) := by decide +kernel
theorem dX3_pushFrom_43 : decode cX3_pushFrom 43 = .ok (.iinc 4 1, 3) := by decide +kernel
theorem dX3_pushFrom_46 : decode cX3_pushFrom 46 = .ok (.goto (-29), 3) := by decide +kernel
theorem dX3_pushFrom_49 : decode cX3_pushFrom 49 = .ok (.aload_n 2, 1) := by decide +kernel
theorem dX3_pushFrom_50 : decode cX3_pushFrom 50 = .ok (.iconst 0, 1) := by decide +kernel
theorem dX3_pushFrom_51 : decode cX3_pushFrom 51 = .ok (.putfield 60, 3) := by decide +kernel
theorem dX3_pushFrom_54 : decode cX3_pushFrom 54 = .ok (.aload_n 2, 1) := by decide +kernel
theorem dX3_pushFrom_55 : decode cX3_pushFrom 55 = .ok (.iconst 0, 1) := by decide +kernel
theorem dX3_pushFrom_56 : decode cX3_pushFrom 56 = .ok (.putfield 71, 3) := by decide +kernel
theorem dX3_pushFrom_59 : decode cX3_pushFrom 59 = .ok (.aload_n 2, 1) := by decide +kernel
theorem dX3_pushFrom_60 : decode cX3_pushFrom 60 = .ok (.getfield 57, 3) := by decide +kernel
theorem dX3_pushFrom_63 : decode cX3_pushFrom 63 = .ok (.iconst 2, 1) := by decide +kernel
theorem dX3_pushFrom_64 : decode cX3_pushFrom 64 = .ok (.iaload, 1) := by decide +kernel
theorem dX3_pushFrom_65 : decode cX3_pushFrom 65 = .ok (.iload_n 3, 1) := by decide +kernel
theorem dX3_pushFrom_66 : decode cX3_pushFrom 66 = .ok (.isub, 1) := by decide +kernel
theorem dX3_pushFrom_67 : decode cX3_pushFrom 67 = .ok (.ireturn, 1) := by decide +kernel
def pg_X3_pushFrom (l : Launch) (g : EG) : List (Nat × ES) := [(0, s_ldP 0), (1, s_getP 2 2), (4, s_ldI 1), (5, s_aald), (6, s_stP 2), (7, s_ldP 2), (8, s_getP 6 4), (11, s_c (.inl 2)), (12, s_iald), (13, s_stI 3), (14, s_c (.inl 0)), (15, s_stI 4), (17, s_ldI 4), (19, s_c (.inl 8)), (21, s_icmp_ge 49), (24, s_ldP 2), (25, s_getI 6 2), (28, s_ldI 4), (30, s_callS l g sg_X3_pushFrom sg_X10_hasBit), (33, s_if_eq 43), (36, s_ldP 0), (37, s_ldI 1), (38, s_ldI 4), (40, s_callV l g sg_X3_pushFrom sg_X3_pushEvent 2), (43, s_iinc 4 1), (46, s_goto 17), (49, s_ldP 2), (50, s_c (.inl 0)), (51, s_putI 6 2), (54, s_ldP 2), (55, s_c (.inl 0)), (56, s_putI 6 3), (59, s_ldP 2), (60, s_getP 6 4), (63, s_c (.inl 2)), (64, s_iald), (65, s_ldI 3), (66, s_ii (fun x y => x - y)), (67, s_ireti)]
set_option maxRecDepth 100000 in
theorem ok_X3_pushFrom {l : Launch} {g : EG} : e_okp l g sg_X3_pushFrom "CalendarSync$Exchange" (pg_X3_pushFrom l g) := fun p e R s m args below meth c ex M0 Q X =>
    e_each_cons (r_aload_n X (k := 0) (i := 0) rfl dX3_pushFrom_0 rfl)
    (e_each_cons (r_getP X (index := 21) (ci := 2) (k := 2) dX3_pushFrom_1 (by decide) (by decide) rfl w2_49 rfl)
    (e_each_cons (r_iload_n X (k := 1) (i := 1) rfl dX3_pushFrom_4 rfl)
    (e_each_cons (r_aald X dX3_pushFrom_5 rfl)
    (e_each_cons (r_astore_n X (k := 2) (i := 2) rfl dX3_pushFrom_6 (by decide) rfl)
    (e_each_cons (r_aload_n X (k := 2) (i := 2) rfl dX3_pushFrom_7 rfl)
    (e_each_cons (r_getP X (index := 57) (ci := 6) (k := 4) dX3_pushFrom_8 (by decide) (by decide) rfl w2_32 rfl)
    (e_each_cons (r_iconst X (n := 2) (v := 2) dX3_pushFrom_11 (by decide) rfl)
    (e_each_cons (r_iald X dX3_pushFrom_12 rfl)
    (e_each_cons (r_istore_n X (k := 3) (i := 3) rfl dX3_pushFrom_13 (by decide) rfl)
    (e_each_cons (r_iconst X (n := 0) (v := 0) dX3_pushFrom_14 (by decide) rfl)
    (e_each_cons (r_istore X (i := 4) dX3_pushFrom_15 (by decide) rfl)
    (e_each_cons (r_iload X (i := 4) dX3_pushFrom_17 rfl)
    (e_each_cons (r_bipush X (n := 8) (v := 8) dX3_pushFrom_19 (by decide) rfl)
    (e_each_cons (r_icmp_ge X (off := 28) (t := 49) dX3_pushFrom_21 (by decide) rfl)
    (e_each_cons (r_aload_n X (k := 2) (i := 2) rfl dX3_pushFrom_24 rfl)
    (e_each_cons (r_getI X (index := 60) (ci := 6) (k := 2) dX3_pushFrom_25 (by decide) (by decide) rfl w2_26 rfl)
    (e_each_cons (r_iload X (i := 4) dX3_pushFrom_28 rfl)
    (e_each_cons (r_callSN X rfl (τ := sg_X10_hasBit) (index := 63) (host := "CalendarSync") dX3_pushFrom_30 wn6_107 w2_224 cs_X10_hasBit rfl ⟨by decide, by decide⟩ rfl)
    (e_each_cons (r_if_eq X (off := 10) (t := 43) dX3_pushFrom_33 (by decide) rfl)
    (e_each_cons (r_aload_n X (k := 0) (i := 0) rfl dX3_pushFrom_36 rfl)
    (e_each_cons (r_iload_n X (k := 1) (i := 1) rfl dX3_pushFrom_37 rfl)
    (e_each_cons (r_iload X (i := 4) dX3_pushFrom_38 rfl)
    (e_each_cons (r_callV X rfl (τ := sg_X3_pushEvent) (index := 67) (ci := 2) dX3_pushFrom_40 (by decide) rfl w6_108 w6_110 ws_27 cs_X3_pushEvent rfl ⟨by decide, by decide⟩ rfl)
    (e_each_cons (r_iinc X (i := 4) (n := 1) (d := 1) dX3_pushFrom_43 (by decide) (by decide) rfl)
    (e_each_cons (r_goto X (off := (-29)) (t := 17) dX3_pushFrom_46 (by decide))
    (e_each_cons (r_aload_n X (k := 2) (i := 2) rfl dX3_pushFrom_49 rfl)
    (e_each_cons (r_iconst X (n := 0) (v := 0) dX3_pushFrom_50 (by decide) rfl)
    (e_each_cons (r_putI X (index := 60) (ci := 6) (k := 2) dX3_pushFrom_51 (by decide) (by decide) rfl rfl w2_26 rfl)
    (e_each_cons (r_aload_n X (k := 2) (i := 2) rfl dX3_pushFrom_54 rfl)
    (e_each_cons (r_iconst X (n := 0) (v := 0) dX3_pushFrom_55 (by decide) rfl)
    (e_each_cons (r_putI X (index := 71) (ci := 6) (k := 3) dX3_pushFrom_56 (by decide) (by decide) rfl rfl w2_29 rfl)
    (e_each_cons (r_aload_n X (k := 2) (i := 2) rfl dX3_pushFrom_59 rfl)
    (e_each_cons (r_getP X (index := 57) (ci := 6) (k := 4) dX3_pushFrom_60 (by decide) (by decide) rfl w2_32 rfl)
    (e_each_cons (r_iconst X (n := 2) (v := 2) dX3_pushFrom_63 (by decide) rfl)
    (e_each_cons (r_iald X dX3_pushFrom_64 rfl)
    (e_each_cons (r_iload_n X (k := 3) (i := 3) rfl dX3_pushFrom_65 rfl)
    (e_each_cons (r_isub X dX3_pushFrom_66 rfl)
    (e_each_cons (r_ireti X dX3_pushFrom_67 rfl)
    (e_each_nil)))))))))))))))))))))))))))))))))))))))
theorem dX3_pullTo_0 : decode cX3_pullTo 0 = .ok (.aload_n 0, 1) := by decide +kernel
theorem dX3_pullTo_1 : decode cX3_pullTo 1 = .ok (.getfield 21, 3) := by decide +kernel
theorem dX3_pullTo_4 : decode cX3_pullTo 4 = .ok (.iload_n 1, 1) := by decide +kernel
theorem dX3_pullTo_5 : decode cX3_pullTo 5 = .ok (.aaload, 1) := by decide +kernel
theorem dX3_pullTo_6 : decode cX3_pullTo 6 = .ok (.astore_n 2, 1) := by decide +kernel
theorem dX3_pullTo_7 : decode cX3_pullTo 7 = .ok (.aload_n 0, 1) := by decide +kernel
theorem dX3_pullTo_8 : decode cX3_pullTo 8 = .ok (.aload_n 2, 1) := by decide +kernel
theorem dX3_pullTo_9 : decode cX3_pullTo 9 = .ok (.getfield 105, 3) := by decide +kernel
theorem dX3_pullTo_12 : decode cX3_pullTo 12 = .ok (.invokevirtual 108, 3) := by decide +kernel
theorem dX3_pullTo_15 : decode cX3_pullTo 15 = .ok (.invokestatic 111, 3) := by decide +kernel
theorem dX3_pullTo_18 : decode cX3_pullTo 18 = .ok (.istore_n 3, 1) := by decide +kernel
theorem dX3_pullTo_19 : decode cX3_pullTo 19 = .ok (.aload_n 2, 1) := by decide +kernel
theorem dX3_pullTo_20 : decode cX3_pullTo 20 = .ok (.getfield 57, 3) := by decide +kernel
theorem dX3_pullTo_23 : decode cX3_pullTo 23 = .ok (.iconst 3, 1) := by decide +kernel
theorem dX3_pullTo_24 : decode cX3_pullTo 24 = .ok (.dup2, 1) := by decide +kernel
theorem dX3_pullTo_25 : decode cX3_pullTo 25 = .ok (.iaload, 1) := by decide +kernel
theorem dX3_pullTo_26 : decode cX3_pullTo 26 = .ok (.iconst 1, 1) := by decide +kernel
theorem dX3_pullTo_27 : decode cX3_pullTo 27 = .ok (.iadd, 1) := by decide +kernel
theorem dX3_pullTo_28 : decode cX3_pullTo 28 = .ok (.iastore, 1) := by decide +kernel
theorem dX3_pullTo_29 : decode cX3_pullTo 29 = .ok (.aload_n 2, 1) := by decide +kernel
theorem dX3_pullTo_30 : decode cX3_pullTo 30 = .ok (.getfield 57, 3) := by decide +kernel
theorem dX3_pullTo_33 : decode cX3_pullTo 33 = .ok (.iconst 4, 1) := by decide +kernel
theorem dX3_pullTo_34 : decode cX3_pullTo 34 = .ok (.dup2, 1) := by decide +kernel
theorem dX3_pullTo_35 : decode cX3_pullTo 35 = .ok (.iaload, 1) := by decide +kernel
theorem dX3_pullTo_36 : decode cX3_pullTo 36 = .ok (.aload_n 0, 1) := by decide +kernel
theorem dX3_pullTo_37 : decode cX3_pullTo 37 = .ok (.aload_n 2, 1) := by decide +kernel
theorem dX3_pullTo_38 : decode cX3_pullTo 38 = .ok (.getfield 105, 3) := by decide +kernel
theorem dX3_pullTo_41 : decode cX3_pullTo 41 = .ok (.invokevirtual 49, 3) := by decide +kernel
theorem dX3_pullTo_44 : decode cX3_pullTo 44 = .ok (.ifCond .eq 7, 3) := by decide +kernel
theorem dX3_pullTo_47 : decode cX3_pullTo 47 = .ok (.iconst 1, 1) := by decide +kernel
theorem dX3_pullTo_48 : decode cX3_pullTo 48 = .ok (.goto 4, 3) := by decide +kernel
theorem dX3_pullTo_51 : decode cX3_pullTo 51 = .ok (.iconst 0, 1) := by decide +kernel
theorem dX3_pullTo_52 : decode cX3_pullTo 52 = .ok (.iadd, 1) := by decide +kernel
theorem dX3_pullTo_53 : decode cX3_pullTo 53 = .ok (.iastore, 1) := by decide +kernel
theorem dX3_pullTo_54 : decode cX3_pullTo 54 = .ok (.aload_n 2, 1) := by decide +kernel
theorem dX3_pullTo_55 : decode cX3_pullTo 55 = .ok (.getfield 57, 3) := by decide +kernel
theorem dX3_pullTo_58 : decode cX3_pullTo 58 = .ok (.iconst 5, 1) := by decide +kernel
theorem dX3_pullTo_59 : decode cX3_pullTo 59 = .ok (.dup2, 1) := by decide +kernel
theorem dX3_pullTo_60 : decode cX3_pullTo 60 = .ok (.iaload, 1) := by decide +kernel
theorem dX3_pullTo_61 : decode cX3_pullTo 61 = .ok (.iload_n 3, 1) := by decide +kernel
theorem dX3_pullTo_62 : decode cX3_pullTo 62 = .ok (.iadd, 1) := by decide +kernel
theorem dX3_pullTo_63 : decode cX3_pullTo 63 = .ok (.iastore, 1) := by decide +kernel
theorem dX3_pullTo_64 : decode cX3_pullTo 64 = .ok (.aload_n 2, 1) := by decide +kernel
theorem dX3_pullTo_65 : decode cX3_pullTo 65 = .ok (.getfield 74, 3) := by decide +kernel
theorem dX3_pullTo_68 : decode cX3_pullTo 68 = .ok (.aload_n 0, 1) := by decide +kernel
theorem dX3_pullTo_69 : decode cX3_pullTo 69 = .ok (.getfield 12, 3) := by decide +kernel
theorem dX3_pullTo_72 : decode cX3_pullTo 72 = .ok (.invokevirtual 116, 3) := by decide +kernel
theorem dX3_pullTo_75 : decode cX3_pullTo 75 = .ok (.iconst 0, 1) := by decide +kernel
theorem dX3_pullTo_76 : decode cX3_pullTo 76 = .ok (.istore 4, 2) := by decide +kernel
theorem dX3_pullTo_78 : decode cX3_pullTo 78 = .ok (.iload 4, 2) := by decide +kernel
theorem dX3_pullTo_80 : decode cX3_pullTo 80 = .ok (.bipush 8, 2) := by decide +kernel
theorem dX3_pullTo_82 : decode cX3_pullTo 82 = .ok (.if_icmp .ge 44, 3) := by decide +kernel
theorem dX3_pullTo_85 : decode cX3_pullTo 85 = .ok (.aload_n 2, 1) := by decide +kernel
theorem dX3_pullTo_86 : decode cX3_pullTo 86 = .ok (.getfield 60, 3) := by decide +kernel
theorem dX3_pullTo_89 : decode cX3_pullTo 89 = .ok (.iload 4, 2) := by decide +kernel
theorem dX3_pullTo_91 : decode cX3_pullTo 91 = .ok (.invokestatic 63, 3) := by decide +kernel
theorem dX3_pullTo_94 : decode cX3_pullTo 94 = .ok (.ifCond .ne 26, 3) := by decide +kernel
theorem dX3_pullTo_97 : decode cX3_pullTo 97 = .ok (.aload_n 2, 1) := by decide +kernel
theorem dX3_pullTo_98 : decode cX3_pullTo 98 = .ok (.getfield 74, 3) := by decide +kernel
theorem dX3_pullTo_101 : decode cX3_pullTo 101 = .ok (.getfield 77, 3) := by decide +kernel
theorem dX3_pullTo_104 : decode cX3_pullTo 104 = .ok (.iload 4, 2) := by decide +kernel
theorem dX3_pullTo_106 : decode cX3_pullTo 106 = .ok (.aaload, 1) := by decide +kernel
theorem dX3_pullTo_107 : decode cX3_pullTo 107 = .ok (.aload_n 0, 1) := by decide +kernel
theorem dX3_pullTo_108 : decode cX3_pullTo 108 = .ok (.getfield 12, 3) := by decide +kernel
theorem dX3_pullTo_111 : decode cX3_pullTo 111 = .ok (.getfield 77, 3) := by decide +kernel
theorem dX3_pullTo_114 : decode cX3_pullTo 114 = .ok (.iload 4, 2) := by decide +kernel
theorem dX3_pullTo_116 : decode cX3_pullTo 116 = .ok (.aaload, 1) := by decide +kernel
theorem dX3_pullTo_117 : decode cX3_pullTo 117 = .ok (.invokevirtual 102, 3) := by decide +kernel
theorem dX3_pullTo_120 : decode cX3_pullTo 120 = .ok (.iinc 4 1, 3) := by decide +kernel
theorem dX3_pullTo_123 : decode cX3_pullTo 123 = .ok (.goto (-45), 3) := by decide +kernel
theorem dX3_pullTo_126 : decode cX3_pullTo 126 = .ok (.aload_n 2, 1) := by decide +kernel
theorem dX3_pullTo_127 : decode cX3_pullTo 127 = .ok (.aload_n 0, 1) := by decide +kernel
theorem dX3_pullTo_128 : decode cX3_pullTo 128 = .ok (.getfield 29, 3) := by decide +kernel
theorem dX3_pullTo_131 : decode cX3_pullTo 131 = .ok (.putfield 105, 3) := by decide +kernel
theorem dX3_pullTo_134 : decode cX3_pullTo 134 = .ok (.iload_n 3, 1) := by decide +kernel
theorem dX3_pullTo_135 : decode cX3_pullTo 135 = .ok (.ireturn, 1) := by decide +kernel
def pg_X3_pullTo (l : Launch) (g : EG) : List (Nat × ES) := [(0, s_ldP 0), (1, s_getP 2 2), (4, s_ldI 1), (5, s_aald), (6, s_stP 2), (7, s_ldP 0), (8, s_ldP 2), (9, s_getI 6 1), (12, s_callV l g sg_X3_pullTo sg_X3_toldBehind 2), (15, s_callS l g sg_X3_pullTo sg_J6_bitCount_0f7a4), (18, s_stI 3), (19, s_ldP 2), (20, s_getP 6 4), (23, s_c (.inl 3)), (24, s_dup2), (25, s_iald), (26, s_c (.inl 1)), (27, s_ii (fun x y => x + y)), (28, s_iast), (29, s_ldP 2), (30, s_getP 6 4), (33, s_c (.inl 4)), (34, s_dup2), (35, s_iald), (36, s_ldP 0), (37, s_ldP 2), (38, s_getI 6 1), (41, s_callV l g sg_X3_pullTo sg_X3_isTooOld 2), (44, s_if_eq 51), (47, s_c (.inl 1)), (48, s_goto 52), (51, s_c (.inl 0)), (52, s_ii (fun x y => x + y)), (53, s_iast), (54, s_ldP 2), (55, s_getP 6 4), (58, s_c (.inl 5)), (59, s_dup2), (60, s_iald), (61, s_ldI 3), (62, s_ii (fun x y => x + y)), (63, s_iast), (64, s_ldP 2), (65, s_getP 6 0), (68, s_ldP 0), (69, s_getP 2 1), (72, s_callV l g sg_X3_pullTo sg_X5_becomeZones 4), (75, s_c (.inl 0)), (76, s_stI 4), (78, s_ldI 4), (80, s_c (.inl 8)), (82, s_icmp_ge 126), (85, s_ldP 2), (86, s_getI 6 2), (89, s_ldI 4), (91, s_callS l g sg_X3_pullTo sg_X10_hasBit), (94, s_if_ne 120), (97, s_ldP 2), (98, s_getP 6 0), (101, s_getP 4 2), (104, s_ldI 4), (106, s_aald), (107, s_ldP 0), (108, s_getP 2 1), (111, s_getP 4 2), (114, s_ldI 4), (116, s_aald), (117, s_callV l g sg_X3_pullTo sg_X2_become 1), (120, s_iinc 4 1), (123, s_goto 78), (126, s_ldP 2), (127, s_ldP 0), (128, s_getI 2 0), (131, s_putI 6 1), (134, s_ldI 3), (135, s_ireti)]
set_option maxRecDepth 100000 in
theorem ok_X3_pullTo {l : Launch} {g : EG} : e_okp l g sg_X3_pullTo "CalendarSync$Exchange" (pg_X3_pullTo l g) := fun p e R s m args below meth c ex M0 Q X =>
    e_each_cons (r_aload_n X (k := 0) (i := 0) rfl dX3_pullTo_0 rfl)
    (e_each_cons (r_getP X (index := 21) (ci := 2) (k := 2) dX3_pullTo_1 (by decide) (by decide) rfl w2_49 rfl)
    (e_each_cons (r_iload_n X (k := 1) (i := 1) rfl dX3_pullTo_4 rfl)
    (e_each_cons (r_aald X dX3_pullTo_5 rfl)
    (e_each_cons (r_astore_n X (k := 2) (i := 2) rfl dX3_pullTo_6 (by decide) rfl)
    (e_each_cons (r_aload_n X (k := 0) (i := 0) rfl dX3_pullTo_7 rfl)
    (e_each_cons (r_aload_n X (k := 2) (i := 2) rfl dX3_pullTo_8 rfl)
    (e_each_cons (r_getI X (index := 105) (ci := 6) (k := 1) dX3_pullTo_9 (by decide) (by decide) rfl w2_23 rfl)
    (e_each_cons (r_callV X rfl (τ := sg_X3_toldBehind) (index := 108) (ci := 2) dX3_pullTo_12 (by decide) rfl w6_133 w3_33 w3_34 cs_X3_toldBehind rfl ⟨by decide, by decide⟩ rfl)
    (e_each_cons (r_callS X rfl (τ := sg_J6_bitCount_0f7a4) (index := 111) dX3_pullTo_15 w6_134 w6_89 cs_J6_bitCount_0f7a4 rfl ⟨by decide, by decide⟩ rfl)
    (e_each_cons (r_istore_n X (k := 3) (i := 3) rfl dX3_pullTo_18 (by decide) rfl)
    (e_each_cons (r_aload_n X (k := 2) (i := 2) rfl dX3_pullTo_19 rfl)
    (e_each_cons (r_getP X (index := 57) (ci := 6) (k := 4) dX3_pullTo_20 (by decide) (by decide) rfl w2_32 rfl)
    (e_each_cons (r_iconst X (n := 3) (v := 3) dX3_pullTo_23 (by decide) rfl)
    (e_each_cons (r_dup2 X dX3_pullTo_24 rfl)
    (e_each_cons (r_iald X dX3_pullTo_25 rfl)
    (e_each_cons (r_iconst X (n := 1) (v := 1) dX3_pullTo_26 (by decide) rfl)
    (e_each_cons (r_iadd X dX3_pullTo_27 rfl)
    (e_each_cons (r_iast X dX3_pullTo_28 rfl)
    (e_each_cons (r_aload_n X (k := 2) (i := 2) rfl dX3_pullTo_29 rfl)
    (e_each_cons (r_getP X (index := 57) (ci := 6) (k := 4) dX3_pullTo_30 (by decide) (by decide) rfl w2_32 rfl)
    (e_each_cons (r_iconst X (n := 4) (v := 4) dX3_pullTo_33 (by decide) rfl)
    (e_each_cons (r_dup2 X dX3_pullTo_34 rfl)
    (e_each_cons (r_iald X dX3_pullTo_35 rfl)
    (e_each_cons (r_aload_n X (k := 0) (i := 0) rfl dX3_pullTo_36 rfl)
    (e_each_cons (r_aload_n X (k := 2) (i := 2) rfl dX3_pullTo_37 rfl)
    (e_each_cons (r_getI X (index := 105) (ci := 6) (k := 1) dX3_pullTo_38 (by decide) (by decide) rfl w2_23 rfl)
    (e_each_cons (r_callV X rfl (τ := sg_X3_isTooOld) (index := 49) (ci := 2) dX3_pullTo_41 (by decide) rfl w3_36 w3_29 w3_30 cs_X3_isTooOld rfl ⟨by decide, by decide⟩ rfl)
    (e_each_cons (r_if_eq X (off := 7) (t := 51) dX3_pullTo_44 (by decide) rfl)
    (e_each_cons (r_iconst X (n := 1) (v := 1) dX3_pullTo_47 (by decide) rfl)
    (e_each_cons (r_goto X (off := 4) (t := 52) dX3_pullTo_48 (by decide))
    (e_each_cons (r_iconst X (n := 0) (v := 0) dX3_pullTo_51 (by decide) rfl)
    (e_each_cons (r_iadd X dX3_pullTo_52 rfl)
    (e_each_cons (r_iast X dX3_pullTo_53 rfl)
    (e_each_cons (r_aload_n X (k := 2) (i := 2) rfl dX3_pullTo_54 rfl)
    (e_each_cons (r_getP X (index := 57) (ci := 6) (k := 4) dX3_pullTo_55 (by decide) (by decide) rfl w2_32 rfl)
    (e_each_cons (r_iconst X (n := 5) (v := 5) dX3_pullTo_58 (by decide) rfl)
    (e_each_cons (r_dup2 X dX3_pullTo_59 rfl)
    (e_each_cons (r_iald X dX3_pullTo_60 rfl)
    (e_each_cons (r_iload_n X (k := 3) (i := 3) rfl dX3_pullTo_61 rfl)
    (e_each_cons (r_iadd X dX3_pullTo_62 rfl)
    (e_each_cons (r_iast X dX3_pullTo_63 rfl)
    (e_each_cons (r_aload_n X (k := 2) (i := 2) rfl dX3_pullTo_64 rfl)
    (e_each_cons (r_getP X (index := 74) (ci := 6) (k := 0) dX3_pullTo_65 (by decide) (by decide) rfl w2_20 rfl)
    (e_each_cons (r_aload_n X (k := 0) (i := 0) rfl dX3_pullTo_68 rfl)
    (e_each_cons (r_getP X (index := 12) (ci := 2) (k := 1) dX3_pullTo_69 (by decide) (by decide) rfl w2_47 rfl)
    (e_each_cons (r_callV X rfl (τ := sg_X5_becomeZones) (index := 116) (ci := 4) dX3_pullTo_72 (by decide) rfl w6_135 w3_52 w3_53 cs_X5_becomeZones rfl ⟨by decide, by decide⟩ rfl)
    (e_each_cons (r_iconst X (n := 0) (v := 0) dX3_pullTo_75 (by decide) rfl)
    (e_each_cons (r_istore X (i := 4) dX3_pullTo_76 (by decide) rfl)
    (e_each_cons (r_iload X (i := 4) dX3_pullTo_78 rfl)
    (e_each_cons (r_bipush X (n := 8) (v := 8) dX3_pullTo_80 (by decide) rfl)
    (e_each_cons (r_icmp_ge X (off := 44) (t := 126) dX3_pullTo_82 (by decide) rfl)
    (e_each_cons (r_aload_n X (k := 2) (i := 2) rfl dX3_pullTo_85 rfl)
    (e_each_cons (r_getI X (index := 60) (ci := 6) (k := 2) dX3_pullTo_86 (by decide) (by decide) rfl w2_26 rfl)
    (e_each_cons (r_iload X (i := 4) dX3_pullTo_89 rfl)
    (e_each_cons (r_callSN X rfl (τ := sg_X10_hasBit) (index := 63) (host := "CalendarSync") dX3_pullTo_91 wn6_107 w2_224 cs_X10_hasBit rfl ⟨by decide, by decide⟩ rfl)
    (e_each_cons (r_if_ne X (off := 26) (t := 120) dX3_pullTo_94 (by decide) rfl)
    (e_each_cons (r_aload_n X (k := 2) (i := 2) rfl dX3_pullTo_97 rfl)
    (e_each_cons (r_getP X (index := 74) (ci := 6) (k := 0) dX3_pullTo_98 (by decide) (by decide) rfl w2_20 rfl)
    (e_each_cons (r_getP X (index := 77) (ci := 4) (k := 2) dX3_pullTo_101 (by decide) (by decide) rfl w1_169 rfl)
    (e_each_cons (r_iload X (i := 4) dX3_pullTo_104 rfl)
    (e_each_cons (r_aald X dX3_pullTo_106 rfl)
    (e_each_cons (r_aload_n X (k := 0) (i := 0) rfl dX3_pullTo_107 rfl)
    (e_each_cons (r_getP X (index := 12) (ci := 2) (k := 1) dX3_pullTo_108 (by decide) (by decide) rfl w2_47 rfl)
    (e_each_cons (r_getP X (index := 77) (ci := 4) (k := 2) dX3_pullTo_111 (by decide) (by decide) rfl w1_169 rfl)
    (e_each_cons (r_iload X (i := 4) dX3_pullTo_114 rfl)
    (e_each_cons (r_aald X dX3_pullTo_116 rfl)
    (e_each_cons (r_callV X rfl (τ := sg_X2_become) (index := 102) (ci := 1) dX3_pullTo_117 (by decide) rfl w6_120 w3_60 w3_61 cs_X2_become rfl ⟨by decide, by decide⟩ rfl)
    (e_each_cons (r_iinc X (i := 4) (n := 1) (d := 1) dX3_pullTo_120 (by decide) (by decide) rfl)
    (e_each_cons (r_goto X (off := (-45)) (t := 78) dX3_pullTo_123 (by decide))
    (e_each_cons (r_aload_n X (k := 2) (i := 2) rfl dX3_pullTo_126 rfl)
    (e_each_cons (r_aload_n X (k := 0) (i := 0) rfl dX3_pullTo_127 rfl)
    (e_each_cons (r_getI X (index := 29) (ci := 2) (k := 0) dX3_pullTo_128 (by decide) (by decide) rfl w2_45 rfl)
    (e_each_cons (r_putI X (index := 105) (ci := 6) (k := 1) dX3_pullTo_131 (by decide) (by decide) rfl rfl w2_23 rfl)
    (e_each_cons (r_iload_n X (k := 3) (i := 3) rfl dX3_pullTo_134 rfl)
    (e_each_cons (r_ireti X dX3_pullTo_135 rfl)
    (e_each_nil))))))))))))))))))))))))))))))))))))))))))))))))))))))))))))))))))))))))))))
