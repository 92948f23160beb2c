/-! TABLES (by program): the rows of X7 -/
theorem dX7_become_0 : decode cX7_become 0 = .ok (.aload_n 0, 1) := by decide +kernel
theorem dX7_become_1 : decode cX7_become 1 = .ok (.getfield 12, 3) := by decide +kernel
theorem dX7_become_4 : decode cX7_become 4 = .ok (.aload_n 1, 1) := by decide +kernel
theorem dX7_become_5 : decode cX7_become 5 = .ok (.getfield 12, 3) := by decide +kernel
theorem dX7_become_8 : decode cX7_become 8 = .ok (.invokevirtual 22, 3) := by decide +kernel
theorem dX7_become_11 : decode cX7_become 11 = .ok (.aload_n 0, 1) := by decide +kernel
theorem dX7_become_12 : decode cX7_become 12 = .ok (.aload_n 1, 1) := by decide +kernel
theorem dX7_become_13 : decode cX7_become 13 = .ok (.getfield 26, 3) := by decide +kernel
theorem dX7_become_16 : decode cX7_become 16 = .ok (.putfield 26, 3) := by decide +kernel
theorem dX7_become_19 : decode cX7_become 19 = .ok (.aload_n 0, 1) := by decide +kernel
theorem dX7_become_20 : decode cX7_become 20 = .ok (.aload_n 1, 1) := by decide +kernel
theorem dX7_become_21 : decode cX7_become 21 = .ok (.getfield 30, 3) := by decide +kernel
theorem dX7_become_24 : decode cX7_become 24 = .ok (.putfield 30, 3) := by decide +kernel
theorem dX7_become_27 : decode cX7_become 27 = .ok (.aload_n 0, 1) := by decide +kernel
theorem dX7_become_28 : decode cX7_become 28 = .ok (.aload_n 1, 1) := by decide +kernel
theorem dX7_become_29 : decode cX7_become 29 = .ok (.getfield 33, 3) := by decide +kernel
theorem dX7_become_32 : decode cX7_become 32 = .ok (.putfield 33, 3) := by decide +kernel
theorem dX7_become_35 : decode cX7_become 35 = .ok (.aload_n 1, 1) := by decide +kernel
theorem dX7_become_36 : decode cX7_become 36 = .ok (.getfield 18, 3) := by decide +kernel
theorem dX7_become_39 : decode cX7_become 39 = .ok (.iconst 0, 1) := by decide +kernel
theorem dX7_become_40 : decode cX7_become 40 = .ok (.aload_n 0, 1) := by decide +kernel
theorem dX7_become_41 : decode cX7_become 41 = .ok (.getfield 18, 3) := by decide +kernel
theorem dX7_become_44 : decode cX7_become 44 = .ok (.iconst 0, 1) := by decide +kernel
theorem dX7_become_45 : decode cX7_become 45 = .ok (.bipush 6, 2) := by decide +kernel
theorem dX7_become_47 : decode cX7_become 47 = .ok (.invokestatic 36, 3) := by decide +kernel
theorem dX7_become_50 : decode cX7_become 50 = .ok (.return_, 1) := by decide +kernel
def pg_X7_become (l : Launch) (g : EG) : List (Nat × ES) := [(0, s_ldP 0), (1, s_getP 6 0), (4, s_ldP 1), (5, s_getP 6 0), (8, s_callV l g sg_X7_become sg_X5_become 4), (11, s_ldP 0), (12, s_ldP 1), (13, s_getI 6 1), (16, s_putI 6 1), (19, s_ldP 0), (20, s_ldP 1), (21, s_getI 6 2), (24, s_putI 6 2), (27, s_ldP 0), (28, s_ldP 1), (29, s_getI 6 3), (32, s_putI 6 3), (35, s_ldP 1), (36, s_getP 6 4), (39, s_c (.inl 0)), (40, s_ldP 0), (41, s_getP 6 4), (44, s_c (.inl 0)), (45, s_c (.inl 6)), (47, s_acI), (50, s_vret)]
set_option maxRecDepth 100000 in
theorem ok_X7_become {l : Launch} {g : EG} : e_okp l g sg_X7_become "CalendarSync$Side" (pg_X7_become l g) := fun p e R s m args below meth c ex M0 Q X =>
    e_each_cons (r_aload_n X (k := 0) (i := 0) rfl dX7_become_0 rfl)
    (e_each_cons (r_getP X (index := 12) (ci := 6) (k := 0) dX7_become_1 (by decide) (by decide) rfl w2_19 rfl)
    (e_each_cons (r_aload_n X (k := 1) (i := 1) rfl dX7_become_4 rfl)
    (e_each_cons (r_getP X (index := 12) (ci := 6) (k := 0) dX7_become_5 (by decide) (by decide) rfl w2_19 rfl)
    (e_each_cons (r_callV X rfl (τ := sg_X5_become) (index := 22) (ci := 4) dX7_become_8 (by decide) rfl w3_70 w3_48 w3_49 cs_X5_become rfl ⟨by decide, by decide⟩ rfl)
    (e_each_cons (r_aload_n X (k := 0) (i := 0) rfl dX7_become_11 rfl)
    (e_each_cons (r_aload_n X (k := 1) (i := 1) rfl dX7_become_12 rfl)
    (e_each_cons (r_getI X (index := 26) (ci := 6) (k := 1) dX7_become_13 (by decide) (by decide) rfl w2_22 rfl)
    (e_each_cons (r_putI X (index := 26) (ci := 6) (k := 1) dX7_become_16 (by decide) (by decide) rfl rfl w2_22 rfl)
    (e_each_cons (r_aload_n X (k := 0) (i := 0) rfl dX7_become_19 rfl)
    (e_each_cons (r_aload_n X (k := 1) (i := 1) rfl dX7_become_20 rfl)
    (e_each_cons (r_getI X (index := 30) (ci := 6) (k := 2) dX7_become_21 (by decide) (by decide) rfl w2_25 rfl)
    (e_each_cons (r_putI X (index := 30) (ci := 6) (k := 2) dX7_become_24 (by decide) (by decide) rfl rfl w2_25 rfl)
    (e_each_cons (r_aload_n X (k := 0) (i := 0) rfl dX7_become_27 rfl)
    (e_each_cons (r_aload_n X (k := 1) (i := 1) rfl dX7_become_28 rfl)
    (e_each_cons (r_getI X (index := 33) (ci := 6) (k := 3) dX7_become_29 (by decide) (by decide) rfl w2_28 rfl)
    (e_each_cons (r_putI X (index := 33) (ci := 6) (k := 3) dX7_become_32 (by decide) (by decide) rfl rfl w2_28 rfl)
    (e_each_cons (r_aload_n X (k := 1) (i := 1) rfl dX7_become_35 rfl)
    (e_each_cons (r_getP X (index := 18) (ci := 6) (k := 4) dX7_become_36 (by decide) (by decide) rfl w2_31 rfl)
    (e_each_cons (r_iconst X (n := 0) (v := 0) dX7_become_39 (by decide) rfl)
    (e_each_cons (r_aload_n X (k := 0) (i := 0) rfl dX7_become_40 rfl)
    (e_each_cons (r_getP X (index := 18) (ci := 6) (k := 4) dX7_become_41 (by decide) (by decide) rfl w2_31 rfl)
    (e_each_cons (r_iconst X (n := 0) (v := 0) dX7_become_44 (by decide) rfl)
    (e_each_cons (r_bipush X (n := 6) (v := 6) dX7_become_45 (by decide) rfl)
    (e_each_cons (r_acI X (index := 36) dX7_become_47 w3_71 w3_65 w3_64 w1_18 ⟨by decide, by decide⟩ rfl)
    (e_each_cons (r_vret X dX7_become_50 rfl)
    (e_each_nil))))))))))))))))))))))))))
theorem dX7_beginWith_0 : decode cX7_beginWith 0 = .ok (.aload_n 0, 1) := by decide +kernel
theorem dX7_beginWith_1 : decode cX7_beginWith 1 = .ok (.getfield 12, 3) := by decide +kernel
theorem dX7_beginWith_4 : decode cX7_beginWith 4 = .ok (.aload_n 1, 1) := by decide +kernel
theorem dX7_beginWith_5 : decode cX7_beginWith 5 = .ok (.invokevirtual 22, 3) := by decide +kernel
theorem dX7_beginWith_8 : decode cX7_beginWith 8 = .ok (.aload_n 0, 1) := by decide +kernel
theorem dX7_beginWith_9 : decode cX7_beginWith 9 = .ok (.iconst 0, 1) := by decide +kernel
theorem dX7_beginWith_10 : decode cX7_beginWith 10 = .ok (.putfield 26, 3) := by decide +kernel
theorem dX7_beginWith_13 : decode cX7_beginWith 13 = .ok (.aload_n 0, 1) := by decide +kernel
theorem dX7_beginWith_14 : decode cX7_beginWith 14 = .ok (.iconst 0, 1) := by decide +kernel
theorem dX7_beginWith_15 : decode cX7_beginWith 15 = .ok (.putfield 30, 3) := by decide +kernel
theorem dX7_beginWith_18 : decode cX7_beginWith 18 = .ok (.aload_n 0, 1) := by decide +kernel
theorem dX7_beginWith_19 : decode cX7_beginWith 19 = .ok (.iconst 0, 1) := by decide +kernel
theorem dX7_beginWith_20 : decode cX7_beginWith 20 = .ok (.putfield 33, 3) := by decide +kernel
theorem dX7_beginWith_23 : decode cX7_beginWith 23 = .ok (.iconst 0, 1) := by decide +kernel
theorem dX7_beginWith_24 : decode cX7_beginWith 24 = .ok (.istore_n 2, 1) := by decide +kernel
theorem dX7_beginWith_25 : decode cX7_beginWith 25 = .ok (.iload_n 2, 1) := by decide +kernel
theorem dX7_beginWith_26 : decode cX7_beginWith 26 = .ok (.bipush 6, 2) := by decide +kernel
theorem dX7_beginWith_28 : decode cX7_beginWith 28 = .ok (.if_icmp .ge 16, 3) := by decide +kernel
theorem dX7_beginWith_31 : decode cX7_beginWith 31 = .ok (.aload_n 0, 1) := by decide +kernel
theorem dX7_beginWith_32 : decode cX7_beginWith 32 = .ok (.getfield 18, 3) := by decide +kernel
theorem dX7_beginWith_35 : decode cX7_beginWith 35 = .ok (.iload_n 2, 1) := by decide +kernel
theorem dX7_beginWith_36 : decode cX7_beginWith 36 = .ok (.iconst 0, 1) := by decide +kernel
theorem dX7_beginWith_37 : decode cX7_beginWith 37 = .ok (.iastore, 1) := by decide +kernel
theorem dX7_beginWith_38 : decode cX7_beginWith 38 = .ok (.iinc 2 1, 3) := by decide +kernel
theorem dX7_beginWith_41 : decode cX7_beginWith 41 = .ok (.goto (-16), 3) := by decide +kernel
theorem dX7_beginWith_44 : decode cX7_beginWith 44 = .ok (.return_, 1) := by decide +kernel
def pg_X7_beginWith (l : Launch) (g : EG) : List (Nat × ES) := [(0, s_ldP 0), (1, s_getP 6 0), (4, s_ldP 1), (5, s_callV l g sg_X7_beginWith sg_X5_become 4), (8, s_ldP 0), (9, s_c (.inl 0)), (10, s_putI 6 1), (13, s_ldP 0), (14, s_c (.inl 0)), (15, s_putI 6 2), (18, s_ldP 0), (19, s_c (.inl 0)), (20, s_putI 6 3), (23, s_c (.inl 0)), (24, s_stI 2), (25, s_ldI 2), (26, s_c (.inl 6)), (28, s_icmp_ge 44), (31, s_ldP 0), (32, s_getP 6 4), (35, s_ldI 2), (36, s_c (.inl 0)), (37, s_iast), (38, s_iinc 2 1), (41, s_goto 25), (44, s_vret)]
set_option maxRecDepth 100000 in
theorem ok_X7_beginWith {l : Launch} {g : EG} : e_okp l g sg_X7_beginWith "CalendarSync$Side" (pg_X7_beginWith l g) := fun p e R s m args below meth c ex M0 Q X =>
    e_each_cons (r_aload_n X (k := 0) (i := 0) rfl dX7_beginWith_0 rfl)
    (e_each_cons (r_getP X (index := 12) (ci := 6) (k := 0) dX7_beginWith_1 (by decide) (by decide) rfl w2_19 rfl)
    (e_each_cons (r_aload_n X (k := 1) (i := 1) rfl dX7_beginWith_4 rfl)
    (e_each_cons (r_callV X rfl (τ := sg_X5_become) (index := 22) (ci := 4) dX7_beginWith_5 (by decide) rfl w3_70 w3_48 w3_49 cs_X5_become rfl ⟨by decide, by decide⟩ rfl)
    (e_each_cons (r_aload_n X (k := 0) (i := 0) rfl dX7_beginWith_8 rfl)
    (e_each_cons (r_iconst X (n := 0) (v := 0) dX7_beginWith_9 (by decide) rfl)
    (e_each_cons (r_putI X (index := 26) (ci := 6) (k := 1) dX7_beginWith_10 (by decide) (by decide) rfl rfl w2_22 rfl)
    (e_each_cons (r_aload_n X (k := 0) (i := 0) rfl dX7_beginWith_13 rfl)
    (e_each_cons (r_iconst X (n := 0) (v := 0) dX7_beginWith_14 (by decide) rfl)
    (e_each_cons (r_putI X (index := 30) (ci := 6) (k := 2) dX7_beginWith_15 (by decide) (by decide) rfl rfl w2_25 rfl)
    (e_each_cons (r_aload_n X (k := 0) (i := 0) rfl dX7_beginWith_18 rfl)
    (e_each_cons (r_iconst X (n := 0) (v := 0) dX7_beginWith_19 (by decide) rfl)
    (e_each_cons (r_putI X (index := 33) (ci := 6) (k := 3) dX7_beginWith_20 (by decide) (by decide) rfl rfl w2_28 rfl)
    (e_each_cons (r_iconst X (n := 0) (v := 0) dX7_beginWith_23 (by decide) rfl)
    (e_each_cons (r_istore_n X (k := 2) (i := 2) rfl dX7_beginWith_24 (by decide) rfl)
    (e_each_cons (r_iload_n X (k := 2) (i := 2) rfl dX7_beginWith_25 rfl)
    (e_each_cons (r_bipush X (n := 6) (v := 6) dX7_beginWith_26 (by decide) rfl)
    (e_each_cons (r_icmp_ge X (off := 16) (t := 44) dX7_beginWith_28 (by decide) rfl)
    (e_each_cons (r_aload_n X (k := 0) (i := 0) rfl dX7_beginWith_31 rfl)
    (e_each_cons (r_getP X (index := 18) (ci := 6) (k := 4) dX7_beginWith_32 (by decide) (by decide) rfl w2_31 rfl)
    (e_each_cons (r_iload_n X (k := 2) (i := 2) rfl dX7_beginWith_35 rfl)
    (e_each_cons (r_iconst X (n := 0) (v := 0) dX7_beginWith_36 (by decide) rfl)
    (e_each_cons (r_iast X dX7_beginWith_37 rfl)
    (e_each_cons (r_iinc X (i := 2) (n := 1) (d := 1) dX7_beginWith_38 (by decide) (by decide) rfl)
    (e_each_cons (r_goto X (off := (-16)) (t := 25) dX7_beginWith_41 (by decide))
    (e_each_cons (r_vret X dX7_beginWith_44 rfl)
    (e_each_nil))))))))))))))))))))))))))
theorem dX7_noteContent_0 : decode cX7_noteContent 0 = .ok (.aload_n 0, 1) := by decide +kernel
theorem dX7_noteContent_1 : decode cX7_noteContent 1 = .ok (.dup, 1) := by decide +kernel
theorem dX7_noteContent_2 : decode cX7_noteContent 2 = .ok (.getfield 30, 3) := by decide +kernel
theorem dX7_noteContent_5 : decode cX7_noteContent 5 = .ok (.iconst 1, 1) := by decide +kernel
theorem dX7_noteContent_6 : decode cX7_noteContent 6 = .ok (.iload_n 1, 1) := by decide +kernel
theorem dX7_noteContent_7 : decode cX7_noteContent 7 = .ok (.ishl, 1) := by decide +kernel
theorem dX7_noteContent_8 : decode cX7_noteContent 8 = .ok (.ior, 1) := by decide +kernel
theorem dX7_noteContent_9 : decode cX7_noteContent 9 = .ok (.putfield 30, 3) := by decide +kernel
theorem dX7_noteContent_12 : decode cX7_noteContent 12 = .ok (.aload_n 0, 1) := by decide +kernel
theorem dX7_noteContent_13 : decode cX7_noteContent 13 = .ok (.dup, 1) := by decide +kernel
theorem dX7_noteContent_14 : decode cX7_noteContent 14 = .ok (.getfield 33, 3) := by decide +kernel
theorem dX7_noteContent_17 : decode cX7_noteContent 17 = .ok (.iconst 1, 1) := by decide +kernel
theorem dX7_noteContent_18 : decode cX7_noteContent 18 = .ok (.iload_n 1, 1) := by decide +kernel
theorem dX7_noteContent_19 : decode cX7_noteContent 19 = .ok (.ishl, 1) := by decide +kernel
theorem dX7_noteContent_20 : decode cX7_noteContent 20 = .ok (.ior, 1) := by decide +kernel
theorem dX7_noteContent_21 : decode cX7_noteContent 21 = .ok (.putfield 33, 3) := by decide +kernel
theorem dX7_noteContent_24 : decode cX7_noteContent 24 = .ok (.return_, 1) := by decide +kernel
def pg_X7_noteContent (l : Launch) (g : EG) : List (Nat × ES) := [(0, s_ldP 0), (1, s_dup), (2, s_getI 6 2), (5, s_c (.inl 1)), (6, s_ldI 1), (7, s_ii (fun x y => x <<< (y &&& 31))), (8, s_ii (fun x y => x ||| y)), (9, s_putI 6 2), (12, s_ldP 0), (13, s_dup), (14, s_getI 6 3), (17, s_c (.inl 1)), (18, s_ldI 1), (19, s_ii (fun x y => x <<< (y &&& 31))), (20, s_ii (fun x y => x ||| y)), (21, s_putI 6 3), (24, s_vret)]
set_option maxRecDepth 100000 in
theorem ok_X7_noteContent {l : Launch} {g : EG} : e_okp l g sg_X7_noteContent "CalendarSync$Side" (pg_X7_noteContent l g) := fun p e R s m args below meth c ex M0 Q X =>
    e_each_cons (r_aload_n X (k := 0) (i := 0) rfl dX7_noteContent_0 rfl)
    (e_each_cons (r_dup X dX7_noteContent_1 rfl)
    (e_each_cons (r_getI X (index := 30) (ci := 6) (k := 2) dX7_noteContent_2 (by decide) (by decide) rfl w2_25 rfl)
    (e_each_cons (r_iconst X (n := 1) (v := 1) dX7_noteContent_5 (by decide) rfl)
    (e_each_cons (r_iload_n X (k := 1) (i := 1) rfl dX7_noteContent_6 rfl)
    (e_each_cons (r_ishl X dX7_noteContent_7 rfl)
    (e_each_cons (r_ior X dX7_noteContent_8 rfl)
    (e_each_cons (r_putI X (index := 30) (ci := 6) (k := 2) dX7_noteContent_9 (by decide) (by decide) rfl rfl w2_25 rfl)
    (e_each_cons (r_aload_n X (k := 0) (i := 0) rfl dX7_noteContent_12 rfl)
    (e_each_cons (r_dup X dX7_noteContent_13 rfl)
    (e_each_cons (r_getI X (index := 33) (ci := 6) (k := 3) dX7_noteContent_14 (by decide) (by decide) rfl w2_28 rfl)
    (e_each_cons (r_iconst X (n := 1) (v := 1) dX7_noteContent_17 (by decide) rfl)
    (e_each_cons (r_iload_n X (k := 1) (i := 1) rfl dX7_noteContent_18 rfl)
    (e_each_cons (r_ishl X dX7_noteContent_19 rfl)
    (e_each_cons (r_ior X dX7_noteContent_20 rfl)
    (e_each_cons (r_putI X (index := 33) (ci := 6) (k := 3) dX7_noteContent_21 (by decide) (by decide) rfl rfl w2_28 rfl)
    (e_each_cons (r_vret X dX7_noteContent_24 rfl)
    (e_each_nil)))))))))))))))))
theorem dX7_noteAnswers_0 : decode cX7_noteAnswers 0 = .ok (.aload_n 0, 1) := by decide +kernel
theorem dX7_noteAnswers_1 : decode cX7_noteAnswers 1 = .ok (.dup, 1) := by decide +kernel
theorem dX7_noteAnswers_2 : decode cX7_noteAnswers 2 = .ok (.getfield 30, 3) := by decide +kernel
theorem dX7_noteAnswers_5 : decode cX7_noteAnswers 5 = .ok (.iconst 1, 1) := by decide +kernel
theorem dX7_noteAnswers_6 : decode cX7_noteAnswers 6 = .ok (.iload_n 1, 1) := by decide +kernel
theorem dX7_noteAnswers_7 : decode cX7_noteAnswers 7 = .ok (.ishl, 1) := by decide +kernel
theorem dX7_noteAnswers_8 : decode cX7_noteAnswers 8 = .ok (.ior, 1) := by decide +kernel
theorem dX7_noteAnswers_9 : decode cX7_noteAnswers 9 = .ok (.putfield 30, 3) := by decide +kernel
theorem dX7_noteAnswers_12 : decode cX7_noteAnswers 12 = .ok (.return_, 1) := by decide +kernel
def pg_X7_noteAnswers (l : Launch) (g : EG) : List (Nat × ES) := [(0, s_ldP 0), (1, s_dup), (2, s_getI 6 2), (5, s_c (.inl 1)), (6, s_ldI 1), (7, s_ii (fun x y => x <<< (y &&& 31))), (8, s_ii (fun x y => x ||| y)), (9, s_putI 6 2), (12, s_vret)]
set_option maxRecDepth 100000 in
theorem ok_X7_noteAnswers {l : Launch} {g : EG} : e_okp l g sg_X7_noteAnswers "CalendarSync$Side" (pg_X7_noteAnswers l g) := fun p e R s m args below meth c ex M0 Q X =>
    e_each_cons (r_aload_n X (k := 0) (i := 0) rfl dX7_noteAnswers_0 rfl)
    (e_each_cons (r_dup X dX7_noteAnswers_1 rfl)
    (e_each_cons (r_getI X (index := 30) (ci := 6) (k := 2) dX7_noteAnswers_2 (by decide) (by decide) rfl w2_25 rfl)
    (e_each_cons (r_iconst X (n := 1) (v := 1) dX7_noteAnswers_5 (by decide) rfl)
    (e_each_cons (r_iload_n X (k := 1) (i := 1) rfl dX7_noteAnswers_6 rfl)
    (e_each_cons (r_ishl X dX7_noteAnswers_7 rfl)
    (e_each_cons (r_ior X dX7_noteAnswers_8 rfl)
    (e_each_cons (r_putI X (index := 30) (ci := 6) (k := 2) dX7_noteAnswers_9 (by decide) (by decide) rfl rfl w2_25 rfl)
    (e_each_cons (r_vret X dX7_noteAnswers_12 rfl)
    (e_each_nil)))))))))
