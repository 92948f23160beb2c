/-! TABLES (by program): the rows of X5 -/
theorem dX5_momentOf_0 : decode cX5_momentOf 0 = .ok (.aload_n 0, 1) := by decide +kernel
theorem dX5_momentOf_1 : decode cX5_momentOf 1 = .ok (.getfield 25, 3) := by decide +kernel
theorem dX5_momentOf_4 : decode cX5_momentOf 4 = .ok (.iload_n 1, 1) := by decide +kernel
theorem dX5_momentOf_5 : decode cX5_momentOf 5 = .ok (.aaload, 1) := by decide +kernel
theorem dX5_momentOf_6 : decode cX5_momentOf 6 = .ok (.astore_n 3, 1) := by decide +kernel
theorem dX5_momentOf_7 : decode cX5_momentOf 7 = .ok (.aload_n 0, 1) := by decide +kernel
theorem dX5_momentOf_8 : decode cX5_momentOf 8 = .ok (.getfield 18, 3) := by decide +kernel
theorem dX5_momentOf_11 : decode cX5_momentOf 11 = .ok (.aload_n 3, 1) := by decide +kernel
theorem dX5_momentOf_12 : decode cX5_momentOf 12 = .ok (.getfield 55, 3) := by decide +kernel
theorem dX5_momentOf_15 : decode cX5_momentOf 15 = .ok (.aaload, 1) := by decide +kernel
theorem dX5_momentOf_16 : decode cX5_momentOf 16 = .ok (.aload_n 3, 1) := by decide +kernel
theorem dX5_momentOf_17 : decode cX5_momentOf 17 = .ok (.iload_n 2, 1) := by decide +kernel
theorem dX5_momentOf_18 : decode cX5_momentOf 18 = .ok (.invokevirtual 58, 3) := by decide +kernel
theorem dX5_momentOf_21 : decode cX5_momentOf 21 = .ok (.aload_n 3, 1) := by decide +kernel
theorem dX5_momentOf_22 : decode cX5_momentOf 22 = .ok (.iload_n 2, 1) := by decide +kernel
theorem dX5_momentOf_23 : decode cX5_momentOf 23 = .ok (.invokevirtual 62, 3) := by decide +kernel
theorem dX5_momentOf_26 : decode cX5_momentOf 26 = .ok (.invokevirtual 65, 3) := by decide +kernel
theorem dX5_momentOf_29 : decode cX5_momentOf 29 = .ok (.ireturn, 1) := by decide +kernel
def pg_X5_momentOf (l : Launch) (g : EG) : List (Nat × ES) := [(0, s_ldP 0), (1, s_getP 4 2), (4, s_ldI 1), (5, s_aald), (6, s_stP 3), (7, s_ldP 0), (8, s_getP 4 1), (11, s_ldP 3), (12, s_getI 1 4), (15, s_aald), (16, s_ldP 3), (17, s_ldI 2), (18, s_callV l g sg_X5_momentOf sg_X2_dayOf 1), (21, s_ldP 3), (22, s_ldI 2), (23, s_callV l g sg_X5_momentOf sg_X2_minuteOf 1), (26, s_callV l g sg_X5_momentOf sg_X9_momentAt 8), (29, s_ireti)]
set_option maxRecDepth 100000 in
theorem ok_X5_momentOf {l : Launch} {g : EG} : e_okp l g sg_X5_momentOf "CalendarSync$Place" (pg_X5_momentOf l g) := fun p e R s m args below meth c ex M0 Q X =>
    e_each_cons (r_aload_n X (k := 0) (i := 0) rfl dX5_momentOf_0 rfl)
    (e_each_cons (r_getP X (index := 25) (ci := 4) (k := 2) dX5_momentOf_1 (by decide) (by decide) rfl w1_167 rfl)
    (e_each_cons (r_iload_n X (k := 1) (i := 1) rfl dX5_momentOf_4 rfl)
    (e_each_cons (r_aald X dX5_momentOf_5 rfl)
    (e_each_cons (r_astore_n X (k := 3) (i := 3) rfl dX5_momentOf_6 (by decide) rfl)
    (e_each_cons (r_aload_n X (k := 0) (i := 0) rfl dX5_momentOf_7 rfl)
    (e_each_cons (r_getP X (index := 18) (ci := 4) (k := 1) dX5_momentOf_8 (by decide) (by decide) rfl w1_164 rfl)
    (e_each_cons (r_aload_n X (k := 3) (i := 3) rfl dX5_momentOf_11 rfl)
    (e_each_cons (r_getI X (index := 55) (ci := 1) (k := 4) dX5_momentOf_12 (by decide) (by decide) rfl w1_96 rfl)
    (e_each_cons (r_aald X dX5_momentOf_15 rfl)
    (e_each_cons (r_aload_n X (k := 3) (i := 3) rfl dX5_momentOf_16 rfl)
    (e_each_cons (r_iload_n X (k := 2) (i := 2) rfl dX5_momentOf_17 rfl)
    (e_each_cons (r_callV X rfl (τ := sg_X2_dayOf) (index := 58) (ci := 1) dX5_momentOf_18 (by decide) rfl w2_234 w2_235 w2_236 cs_X2_dayOf rfl ⟨by decide, by decide⟩ rfl)
    (e_each_cons (r_aload_n X (k := 3) (i := 3) rfl dX5_momentOf_21 rfl)
    (e_each_cons (r_iload_n X (k := 2) (i := 2) rfl dX5_momentOf_22 rfl)
    (e_each_cons (r_callV X rfl (τ := sg_X2_minuteOf) (index := 62) (ci := 1) dX5_momentOf_23 (by decide) rfl w2_239 w3_0 w3_1 cs_X2_minuteOf rfl ⟨by decide, by decide⟩ rfl)
    (e_each_cons (r_callV X rfl (τ := sg_X9_momentAt) (index := 65) (ci := 8) dX5_momentOf_26 (by decide) rfl w3_3 w3_4 w3_5 cs_X9_momentAt rfl ⟨by decide, by decide⟩ rfl)
    (e_each_cons (r_ireti X dX5_momentOf_29 rfl)
    (e_each_nil))))))))))))))))))
theorem dX5_becomeZones_0 : decode cX5_becomeZones 0 = .ok (.aload_n 0, 1) := by decide +kernel
theorem dX5_becomeZones_1 : decode cX5_becomeZones 1 = .ok (.aload_n 1, 1) := by decide +kernel
theorem dX5_becomeZones_2 : decode cX5_becomeZones 2 = .ok (.getfield 9, 3) := by decide +kernel
theorem dX5_becomeZones_5 : decode cX5_becomeZones 5 = .ok (.putfield 9, 3) := by decide +kernel
theorem dX5_becomeZones_8 : decode cX5_becomeZones 8 = .ok (.iconst 0, 1) := by decide +kernel
theorem dX5_becomeZones_9 : decode cX5_becomeZones 9 = .ok (.istore_n 2, 1) := by decide +kernel
theorem dX5_becomeZones_10 : decode cX5_becomeZones 10 = .ok (.iload_n 2, 1) := by decide +kernel
theorem dX5_becomeZones_11 : decode cX5_becomeZones 11 = .ok (.iconst 3, 1) := by decide +kernel
theorem dX5_becomeZones_12 : decode cX5_becomeZones 12 = .ok (.if_icmp .ge 24, 3) := by decide +kernel
theorem dX5_becomeZones_15 : decode cX5_becomeZones 15 = .ok (.aload_n 0, 1) := by decide +kernel
theorem dX5_becomeZones_16 : decode cX5_becomeZones 16 = .ok (.getfield 18, 3) := by decide +kernel
theorem dX5_becomeZones_19 : decode cX5_becomeZones 19 = .ok (.iload_n 2, 1) := by decide +kernel
theorem dX5_becomeZones_20 : decode cX5_becomeZones 20 = .ok (.aaload, 1) := by decide +kernel
theorem dX5_becomeZones_21 : decode cX5_becomeZones 21 = .ok (.aload_n 1, 1) := by decide +kernel
theorem dX5_becomeZones_22 : decode cX5_becomeZones 22 = .ok (.getfield 18, 3) := by decide +kernel
theorem dX5_becomeZones_25 : decode cX5_becomeZones 25 = .ok (.iload_n 2, 1) := by decide +kernel
theorem dX5_becomeZones_26 : decode cX5_becomeZones 26 = .ok (.aaload, 1) := by decide +kernel
theorem dX5_becomeZones_27 : decode cX5_becomeZones 27 = .ok (.invokevirtual 44, 3) := by decide +kernel
theorem dX5_becomeZones_30 : decode cX5_becomeZones 30 = .ok (.iinc 2 1, 3) := by decide +kernel
theorem dX5_becomeZones_33 : decode cX5_becomeZones 33 = .ok (.goto (-23), 3) := by decide +kernel
theorem dX5_becomeZones_36 : decode cX5_becomeZones 36 = .ok (.return_, 1) := by decide +kernel
def pg_X5_becomeZones (l : Launch) (g : EG) : List (Nat × ES) := [(0, s_ldP 0), (1, s_ldP 1), (2, s_getI 4 0), (5, s_putI 4 0), (8, s_c (.inl 0)), (9, s_stI 2), (10, s_ldI 2), (11, s_c (.inl 3)), (12, s_icmp_ge 36), (15, s_ldP 0), (16, s_getP 4 1), (19, s_ldI 2), (20, s_aald), (21, s_ldP 1), (22, s_getP 4 1), (25, s_ldI 2), (26, s_aald), (27, s_callV l g sg_X5_becomeZones sg_X9_become 8), (30, s_iinc 2 1), (33, s_goto 10), (36, s_vret)]
set_option maxRecDepth 100000 in
theorem ok_X5_becomeZones {l : Launch} {g : EG} : e_okp l g sg_X5_becomeZones "CalendarSync$Place" (pg_X5_becomeZones l g) := fun p e R s m args below meth c ex M0 Q X =>
    e_each_cons (r_aload_n X (k := 0) (i := 0) rfl dX5_becomeZones_0 rfl)
    (e_each_cons (r_aload_n X (k := 1) (i := 1) rfl dX5_becomeZones_1 rfl)
    (e_each_cons (r_getI X (index := 9) (ci := 4) (k := 0) dX5_becomeZones_2 (by decide) (by decide) rfl w1_161 rfl)
    (e_each_cons (r_putI X (index := 9) (ci := 4) (k := 0) dX5_becomeZones_5 (by decide) (by decide) rfl rfl w1_161 rfl)
    (e_each_cons (r_iconst X (n := 0) (v := 0) dX5_becomeZones_8 (by decide) rfl)
    (e_each_cons (r_istore_n X (k := 2) (i := 2) rfl dX5_becomeZones_9 (by decide) rfl)
    (e_each_cons (r_iload_n X (k := 2) (i := 2) rfl dX5_becomeZones_10 rfl)
    (e_each_cons (r_iconst X (n := 3) (v := 3) dX5_becomeZones_11 (by decide) rfl)
    (e_each_cons (r_icmp_ge X (off := 24) (t := 36) dX5_becomeZones_12 (by decide) rfl)
    (e_each_cons (r_aload_n X (k := 0) (i := 0) rfl dX5_becomeZones_15 rfl)
    (e_each_cons (r_getP X (index := 18) (ci := 4) (k := 1) dX5_becomeZones_16 (by decide) (by decide) rfl w1_164 rfl)
    (e_each_cons (r_iload_n X (k := 2) (i := 2) rfl dX5_becomeZones_19 rfl)
    (e_each_cons (r_aald X dX5_becomeZones_20 rfl)
    (e_each_cons (r_aload_n X (k := 1) (i := 1) rfl dX5_becomeZones_21 rfl)
    (e_each_cons (r_getP X (index := 18) (ci := 4) (k := 1) dX5_becomeZones_22 (by decide) (by decide) rfl w1_164 rfl)
    (e_each_cons (r_iload_n X (k := 2) (i := 2) rfl dX5_becomeZones_25 rfl)
    (e_each_cons (r_aald X dX5_becomeZones_26 rfl)
    (e_each_cons (r_callV X rfl (τ := sg_X9_become) (index := 44) (ci := 8) dX5_becomeZones_27 (by decide) rfl w3_55 w3_56 w3_57 cs_X9_become rfl ⟨by decide, by decide⟩ rfl)
    (e_each_cons (r_iinc X (i := 2) (n := 1) (d := 1) dX5_becomeZones_30 (by decide) (by decide) rfl)
    (e_each_cons (r_goto X (off := (-23)) (t := 10) dX5_becomeZones_33 (by decide))
    (e_each_cons (r_vret X dX5_becomeZones_36 rfl)
    (e_each_nil)))))))))))))))))))))
theorem dX5_become_0 : decode cX5_become 0 = .ok (.aload_n 0, 1) := by decide +kernel
theorem dX5_become_1 : decode cX5_become 1 = .ok (.aload_n 1, 1) := by decide +kernel
theorem dX5_become_2 : decode cX5_become 2 = .ok (.invokevirtual 36, 3) := by decide +kernel
theorem dX5_become_5 : decode cX5_become 5 = .ok (.iconst 0, 1) := by decide +kernel
theorem dX5_become_6 : decode cX5_become 6 = .ok (.istore_n 2, 1) := by decide +kernel
theorem dX5_become_7 : decode cX5_become 7 = .ok (.iload_n 2, 1) := by decide +kernel
theorem dX5_become_8 : decode cX5_become 8 = .ok (.bipush 8, 2) := by decide +kernel
theorem dX5_become_10 : decode cX5_become 10 = .ok (.if_icmp .ge 24, 3) := by decide +kernel
theorem dX5_become_13 : decode cX5_become 13 = .ok (.aload_n 0, 1) := by decide +kernel
theorem dX5_become_14 : decode cX5_become 14 = .ok (.getfield 25, 3) := by decide +kernel
theorem dX5_become_17 : decode cX5_become 17 = .ok (.iload_n 2, 1) := by decide +kernel
theorem dX5_become_18 : decode cX5_become 18 = .ok (.aaload, 1) := by decide +kernel
theorem dX5_become_19 : decode cX5_become 19 = .ok (.aload_n 1, 1) := by decide +kernel
theorem dX5_become_20 : decode cX5_become 20 = .ok (.getfield 25, 3) := by decide +kernel
theorem dX5_become_23 : decode cX5_become 23 = .ok (.iload_n 2, 1) := by decide +kernel
theorem dX5_become_24 : decode cX5_become 24 = .ok (.aaload, 1) := by decide +kernel
theorem dX5_become_25 : decode cX5_become 25 = .ok (.invokevirtual 40, 3) := by decide +kernel
theorem dX5_become_28 : decode cX5_become 28 = .ok (.iinc 2 1, 3) := by decide +kernel
theorem dX5_become_31 : decode cX5_become 31 = .ok (.goto (-24), 3) := by decide +kernel
theorem dX5_become_34 : decode cX5_become 34 = .ok (.return_, 1) := by decide +kernel
def pg_X5_become (l : Launch) (g : EG) : List (Nat × ES) := [(0, s_ldP 0), (1, s_ldP 1), (2, s_callV l g sg_X5_become sg_X5_becomeZones 4), (5, s_c (.inl 0)), (6, s_stI 2), (7, s_ldI 2), (8, s_c (.inl 8)), (10, s_icmp_ge 34), (13, s_ldP 0), (14, s_getP 4 2), (17, s_ldI 2), (18, s_aald), (19, s_ldP 1), (20, s_getP 4 2), (23, s_ldI 2), (24, s_aald), (25, s_callV l g sg_X5_become sg_X2_become 1), (28, s_iinc 2 1), (31, s_goto 7), (34, s_vret)]
set_option maxRecDepth 100000 in
theorem ok_X5_become {l : Launch} {g : EG} : e_okp l g sg_X5_become "CalendarSync$Place" (pg_X5_become l g) := fun p e R s m args below meth c ex M0 Q X =>
    e_each_cons (r_aload_n X (k := 0) (i := 0) rfl dX5_become_0 rfl)
    (e_each_cons (r_aload_n X (k := 1) (i := 1) rfl dX5_become_1 rfl)
    (e_each_cons (r_callV X rfl (τ := sg_X5_becomeZones) (index := 36) (ci := 4) dX5_become_2 (by decide) rfl w3_51 w3_52 w3_53 cs_X5_becomeZones rfl ⟨by decide, by decide⟩ rfl)
    (e_each_cons (r_iconst X (n := 0) (v := 0) dX5_become_5 (by decide) rfl)
    (e_each_cons (r_istore_n X (k := 2) (i := 2) rfl dX5_become_6 (by decide) rfl)
    (e_each_cons (r_iload_n X (k := 2) (i := 2) rfl dX5_become_7 rfl)
    (e_each_cons (r_bipush X (n := 8) (v := 8) dX5_become_8 (by decide) rfl)
    (e_each_cons (r_icmp_ge X (off := 24) (t := 34) dX5_become_10 (by decide) rfl)
    (e_each_cons (r_aload_n X (k := 0) (i := 0) rfl dX5_become_13 rfl)
    (e_each_cons (r_getP X (index := 25) (ci := 4) (k := 2) dX5_become_14 (by decide) (by decide) rfl w1_167 rfl)
    (e_each_cons (r_iload_n X (k := 2) (i := 2) rfl dX5_become_17 rfl)
    (e_each_cons (r_aald X dX5_become_18 rfl)
    (e_each_cons (r_aload_n X (k := 1) (i := 1) rfl dX5_become_19 rfl)
    (e_each_cons (r_getP X (index := 25) (ci := 4) (k := 2) dX5_become_20 (by decide) (by decide) rfl w1_167 rfl)
    (e_each_cons (r_iload_n X (k := 2) (i := 2) rfl dX5_become_23 rfl)
    (e_each_cons (r_aald X dX5_become_24 rfl)
    (e_each_cons (r_callV X rfl (τ := sg_X2_become) (index := 40) (ci := 1) dX5_become_25 (by decide) rfl w3_59 w3_60 w3_61 cs_X2_become rfl ⟨by decide, by decide⟩ rfl)
    (e_each_cons (r_iinc X (i := 2) (n := 1) (d := 1) dX5_become_28 (by decide) (by decide) rfl)
    (e_each_cons (r_goto X (off := (-24)) (t := 7) dX5_become_31 (by decide))
    (e_each_cons (r_vret X dX5_become_34 rfl)
    (e_each_nil))))))))))))))))))))
theorem dX5_eventBits_0 : decode cX5_eventBits 0 = .ok (.iconst 0, 1) := by decide +kernel
theorem dX5_eventBits_1 : decode cX5_eventBits 1 = .ok (.istore_n 1, 1) := by decide +kernel
theorem dX5_eventBits_2 : decode cX5_eventBits 2 = .ok (.iconst 0, 1) := by decide +kernel
theorem dX5_eventBits_3 : decode cX5_eventBits 3 = .ok (.istore_n 2, 1) := by decide +kernel
theorem dX5_eventBits_4 : decode cX5_eventBits 4 = .ok (.iload_n 2, 1) := by decide +kernel
theorem dX5_eventBits_5 : decode cX5_eventBits 5 = .ok (.bipush 8, 2) := by decide +kernel
theorem dX5_eventBits_7 : decode cX5_eventBits 7 = .ok (.if_icmp .ge 27, 3) := by decide +kernel
theorem dX5_eventBits_10 : decode cX5_eventBits 10 = .ok (.aload_n 0, 1) := by decide +kernel
theorem dX5_eventBits_11 : decode cX5_eventBits 11 = .ok (.getfield 25, 3) := by decide +kernel
theorem dX5_eventBits_14 : decode cX5_eventBits 14 = .ok (.iload_n 2, 1) := by decide +kernel
theorem dX5_eventBits_15 : decode cX5_eventBits 15 = .ok (.aaload, 1) := by decide +kernel
theorem dX5_eventBits_16 : decode cX5_eventBits 16 = .ok (.getfield 51, 3) := by decide +kernel
theorem dX5_eventBits_19 : decode cX5_eventBits 19 = .ok (.ifCond .eq 9, 3) := by decide +kernel
theorem dX5_eventBits_22 : decode cX5_eventBits 22 = .ok (.iload_n 1, 1) := by decide +kernel
theorem dX5_eventBits_23 : decode cX5_eventBits 23 = .ok (.iconst 1, 1) := by decide +kernel
theorem dX5_eventBits_24 : decode cX5_eventBits 24 = .ok (.iload_n 2, 1) := by decide +kernel
theorem dX5_eventBits_25 : decode cX5_eventBits 25 = .ok (.ishl, 1) := by decide +kernel
theorem dX5_eventBits_26 : decode cX5_eventBits 26 = .ok (.ior, 1) := by decide +kernel
theorem dX5_eventBits_27 : decode cX5_eventBits 27 = .ok (.istore_n 1, 1) := by decide +kernel
theorem dX5_eventBits_28 : decode cX5_eventBits 28 = .ok (.iinc 2 1, 3) := by decide +kernel
theorem dX5_eventBits_31 : decode cX5_eventBits 31 = .ok (.goto (-27), 3) := by decide +kernel
theorem dX5_eventBits_34 : decode cX5_eventBits 34 = .ok (.iload_n 1, 1) := by decide +kernel
theorem dX5_eventBits_35 : decode cX5_eventBits 35 = .ok (.ireturn, 1) := by decide +kernel
def pg_X5_eventBits (l : Launch) (g : EG) : List (Nat × ES) := [(0, s_c (.inl 0)), (1, s_stI 1), (2, s_c (.inl 0)), (3, s_stI 2), (4, s_ldI 2), (5, s_c (.inl 8)), (7, s_icmp_ge 34), (10, s_ldP 0), (11, s_getP 4 2), (14, s_ldI 2), (15, s_aald), (16, s_getI 1 0), (19, s_if_eq 28), (22, s_ldI 1), (23, s_c (.inl 1)), (24, s_ldI 2), (25, s_ii (fun x y => x <<< (y &&& 31))), (26, s_ii (fun x y => x ||| y)), (27, s_stI 1), (28, s_iinc 2 1), (31, s_goto 4), (34, s_ldI 1), (35, s_ireti)]
set_option maxRecDepth 100000 in
theorem ok_X5_eventBits {l : Launch} {g : EG} : e_okp l g sg_X5_eventBits "CalendarSync$Place" (pg_X5_eventBits l g) := fun p e R s m args below meth c ex M0 Q X =>
    e_each_cons (r_iconst X (n := 0) (v := 0) dX5_eventBits_0 (by decide) rfl)
    (e_each_cons (r_istore_n X (k := 1) (i := 1) rfl dX5_eventBits_1 (by decide) rfl)
    (e_each_cons (r_iconst X (n := 0) (v := 0) dX5_eventBits_2 (by decide) rfl)
    (e_each_cons (r_istore_n X (k := 2) (i := 2) rfl dX5_eventBits_3 (by decide) rfl)
    (e_each_cons (r_iload_n X (k := 2) (i := 2) rfl dX5_eventBits_4 rfl)
    (e_each_cons (r_bipush X (n := 8) (v := 8) dX5_eventBits_5 (by decide) rfl)
    (e_each_cons (r_icmp_ge X (off := 27) (t := 34) dX5_eventBits_7 (by decide) rfl)
    (e_each_cons (r_aload_n X (k := 0) (i := 0) rfl dX5_eventBits_10 rfl)
    (e_each_cons (r_getP X (index := 25) (ci := 4) (k := 2) dX5_eventBits_11 (by decide) (by decide) rfl w1_167 rfl)
    (e_each_cons (r_iload_n X (k := 2) (i := 2) rfl dX5_eventBits_14 rfl)
    (e_each_cons (r_aald X dX5_eventBits_15 rfl)
    (e_each_cons (r_getI X (index := 51) (ci := 1) (k := 0) dX5_eventBits_16 (by decide) (by decide) rfl w1_84 rfl)
    (e_each_cons (r_if_eq X (off := 9) (t := 28) dX5_eventBits_19 (by decide) rfl)
    (e_each_cons (r_iload_n X (k := 1) (i := 1) rfl dX5_eventBits_22 rfl)
    (e_each_cons (r_iconst X (n := 1) (v := 1) dX5_eventBits_23 (by decide) rfl)
    (e_each_cons (r_iload_n X (k := 2) (i := 2) rfl dX5_eventBits_24 rfl)
    (e_each_cons (r_ishl X dX5_eventBits_25 rfl)
    (e_each_cons (r_ior X dX5_eventBits_26 rfl)
    (e_each_cons (r_istore_n X (k := 1) (i := 1) rfl dX5_eventBits_27 (by decide) rfl)
    (e_each_cons (r_iinc X (i := 2) (n := 1) (d := 1) dX5_eventBits_28 (by decide) (by decide) rfl)
    (e_each_cons (r_goto X (off := (-27)) (t := 4) dX5_eventBits_31 (by decide))
    (e_each_cons (r_iload_n X (k := 1) (i := 1) rfl dX5_eventBits_34 rfl)
    (e_each_cons (r_ireti X dX5_eventBits_35 rfl)
    (e_each_nil)))))))))))))))))))))))
theorem dX5_clear_0 : decode cX5_clear 0 = .ok (.aload_n 0, 1) := by decide +kernel
theorem dX5_clear_1 : decode cX5_clear 1 = .ok (.iconst 0, 1) := by decide +kernel
theorem dX5_clear_2 : decode cX5_clear 2 = .ok (.putfield 9, 3) := by decide +kernel
theorem dX5_clear_5 : decode cX5_clear 5 = .ok (.iconst 0, 1) := by decide +kernel
theorem dX5_clear_6 : decode cX5_clear 6 = .ok (.istore_n 1, 1) := by decide +kernel
theorem dX5_clear_7 : decode cX5_clear 7 = .ok (.iload_n 1, 1) := by decide +kernel
theorem dX5_clear_8 : decode cX5_clear 8 = .ok (.iconst 3, 1) := by decide +kernel
theorem dX5_clear_9 : decode cX5_clear 9 = .ok (.if_icmp .ge 21, 3) := by decide +kernel
theorem dX5_clear_12 : decode cX5_clear 12 = .ok (.aload_n 0, 1) := by decide +kernel
theorem dX5_clear_13 : decode cX5_clear 13 = .ok (.getfield 18, 3) := by decide +kernel
theorem dX5_clear_16 : decode cX5_clear 16 = .ok (.iload_n 1, 1) := by decide +kernel
theorem dX5_clear_17 : decode cX5_clear 17 = .ok (.aaload, 1) := by decide +kernel
theorem dX5_clear_18 : decode cX5_clear 18 = .ok (.iconst 0, 1) := by decide +kernel
theorem dX5_clear_19 : decode cX5_clear 19 = .ok (.iconst (-1), 1) := by decide +kernel
theorem dX5_clear_20 : decode cX5_clear 20 = .ok (.iconst (-1), 1) := by decide +kernel
theorem dX5_clear_21 : decode cX5_clear 21 = .ok (.invokevirtual 29, 3) := by decide +kernel
theorem dX5_clear_24 : decode cX5_clear 24 = .ok (.iinc 1 1, 3) := by decide +kernel
theorem dX5_clear_27 : decode cX5_clear 27 = .ok (.goto (-20), 3) := by decide +kernel
theorem dX5_clear_30 : decode cX5_clear 30 = .ok (.iconst 0, 1) := by decide +kernel
theorem dX5_clear_31 : decode cX5_clear 31 = .ok (.istore_n 1, 1) := by decide +kernel
theorem dX5_clear_32 : decode cX5_clear 32 = .ok (.iload_n 1, 1) := by decide +kernel
theorem dX5_clear_33 : decode cX5_clear 33 = .ok (.bipush 8, 2) := by decide +kernel
theorem dX5_clear_35 : decode cX5_clear 35 = .ok (.if_icmp .ge 18, 3) := by decide +kernel
theorem dX5_clear_38 : decode cX5_clear 38 = .ok (.aload_n 0, 1) := by decide +kernel
theorem dX5_clear_39 : decode cX5_clear 39 = .ok (.getfield 25, 3) := by decide +kernel
theorem dX5_clear_42 : decode cX5_clear 42 = .ok (.iload_n 1, 1) := by decide +kernel
theorem dX5_clear_43 : decode cX5_clear 43 = .ok (.aaload, 1) := by decide +kernel
theorem dX5_clear_44 : decode cX5_clear 44 = .ok (.invokevirtual 33, 3) := by decide +kernel
theorem dX5_clear_47 : decode cX5_clear 47 = .ok (.iinc 1 1, 3) := by decide +kernel
theorem dX5_clear_50 : decode cX5_clear 50 = .ok (.goto (-18), 3) := by decide +kernel
theorem dX5_clear_53 : decode cX5_clear 53 = .ok (.return_, 1) := by decide +kernel
def pg_X5_clear (l : Launch) (g : EG) : List (Nat × ES) := [(0, s_ldP 0), (1, s_c (.inl 0)), (2, s_putI 4 0), (5, s_c (.inl 0)), (6, s_stI 1), (7, s_ldI 1), (8, s_c (.inl 3)), (9, s_icmp_ge 30), (12, s_ldP 0), (13, s_getP 4 1), (16, s_ldI 1), (17, s_aald), (18, s_c (.inl 0)), (19, s_c (.inl (-1))), (20, s_c (.inl (-1))), (21, s_callV l g sg_X5_clear sg_X9_setTo 8), (24, s_iinc 1 1), (27, s_goto 7), (30, s_c (.inl 0)), (31, s_stI 1), (32, s_ldI 1), (33, s_c (.inl 8)), (35, s_icmp_ge 53), (38, s_ldP 0), (39, s_getP 4 2), (42, s_ldI 1), (43, s_aald), (44, s_callV l g sg_X5_clear sg_X2_vanish 1), (47, s_iinc 1 1), (50, s_goto 32), (53, s_vret)]
set_option maxRecDepth 100000 in
theorem ok_X5_clear {l : Launch} {g : EG} : e_okp l g sg_X5_clear "CalendarSync$Place" (pg_X5_clear l g) := fun p e R s m args below meth c ex M0 Q X =>
    e_each_cons (r_aload_n X (k := 0) (i := 0) rfl dX5_clear_0 rfl)
    (e_each_cons (r_iconst X (n := 0) (v := 0) dX5_clear_1 (by decide) rfl)
    (e_each_cons (r_putI X (index := 9) (ci := 4) (k := 0) dX5_clear_2 (by decide) (by decide) rfl rfl w1_161 rfl)
    (e_each_cons (r_iconst X (n := 0) (v := 0) dX5_clear_5 (by decide) rfl)
    (e_each_cons (r_istore_n X (k := 1) (i := 1) rfl dX5_clear_6 (by decide) rfl)
    (e_each_cons (r_iload_n X (k := 1) (i := 1) rfl dX5_clear_7 rfl)
    (e_each_cons (r_iconst X (n := 3) (v := 3) dX5_clear_8 (by decide) rfl)
    (e_each_cons (r_icmp_ge X (off := 21) (t := 30) dX5_clear_9 (by decide) rfl)
    (e_each_cons (r_aload_n X (k := 0) (i := 0) rfl dX5_clear_12 rfl)
    (e_each_cons (r_getP X (index := 18) (ci := 4) (k := 1) dX5_clear_13 (by decide) (by decide) rfl w1_164 rfl)
    (e_each_cons (r_iload_n X (k := 1) (i := 1) rfl dX5_clear_16 rfl)
    (e_each_cons (r_aald X dX5_clear_17 rfl)
    (e_each_cons (r_iconst X (n := 0) (v := 0) dX5_clear_18 (by decide) rfl)
    (e_each_cons (r_iconst X (n := (-1)) (v := (-1)) dX5_clear_19 (by decide) rfl)
    (e_each_cons (r_iconst X (n := (-1)) (v := (-1)) dX5_clear_20 (by decide) rfl)
    (e_each_cons (r_callV X rfl (τ := sg_X9_setTo) (index := 29) (ci := 8) dX5_clear_21 (by decide) rfl w3_198 w3_199 w3_200 cs_X9_setTo rfl ⟨by decide, by decide⟩ rfl)
    (e_each_cons (r_iinc X (i := 1) (n := 1) (d := 1) dX5_clear_24 (by decide) (by decide) rfl)
    (e_each_cons (r_goto X (off := (-20)) (t := 7) dX5_clear_27 (by decide))
    (e_each_cons (r_iconst X (n := 0) (v := 0) dX5_clear_30 (by decide) rfl)
    (e_each_cons (r_istore_n X (k := 1) (i := 1) rfl dX5_clear_31 (by decide) rfl)
    (e_each_cons (r_iload_n X (k := 1) (i := 1) rfl dX5_clear_32 rfl)
    (e_each_cons (r_bipush X (n := 8) (v := 8) dX5_clear_33 (by decide) rfl)
    (e_each_cons (r_icmp_ge X (off := 18) (t := 53) dX5_clear_35 (by decide) rfl)
    (e_each_cons (r_aload_n X (k := 0) (i := 0) rfl dX5_clear_38 rfl)
    (e_each_cons (r_getP X (index := 25) (ci := 4) (k := 2) dX5_clear_39 (by decide) (by decide) rfl w1_167 rfl)
    (e_each_cons (r_iload_n X (k := 1) (i := 1) rfl dX5_clear_42 rfl)
    (e_each_cons (r_aald X dX5_clear_43 rfl)
    (e_each_cons (r_callV X rfl (τ := sg_X2_vanish) (index := 33) (ci := 1) dX5_clear_44 (by decide) rfl w3_202 w3_203 w3_204 cs_X2_vanish rfl ⟨by decide, by decide⟩ rfl)
    (e_each_cons (r_iinc X (i := 1) (n := 1) (d := 1) dX5_clear_47 (by decide) (by decide) rfl)
    (e_each_cons (r_goto X (off := (-18)) (t := 32) dX5_clear_50 (by decide))
    (e_each_cons (r_vret X dX5_clear_53 rfl)
    (e_each_nil)))))))))))))))))))))))))))))))
theorem dX5_hasZone_0 : decode cX5_hasZone 0 = .ok (.iload_n 1, 1) := by decide +kernel
theorem dX5_hasZone_1 : decode cX5_hasZone 1 = .ok (.iconst 0, 1) := by decide +kernel
theorem dX5_hasZone_2 : decode cX5_hasZone 2 = .ok (.aload_n 0, 1) := by decide +kernel
theorem dX5_hasZone_3 : decode cX5_hasZone 3 = .ok (.getfield 9, 3) := by decide +kernel
theorem dX5_hasZone_6 : decode cX5_hasZone 6 = .ok (.iconst 1, 1) := by decide +kernel
theorem dX5_hasZone_7 : decode cX5_hasZone 7 = .ok (.isub, 1) := by decide +kernel
theorem dX5_hasZone_8 : decode cX5_hasZone 8 = .ok (.invokestatic 47, 3) := by decide +kernel
theorem dX5_hasZone_11 : decode cX5_hasZone 11 = .ok (.ireturn, 1) := by decide +kernel
def pg_X5_hasZone (l : Launch) (g : EG) : List (Nat × ES) := [(0, s_ldI 1), (1, s_c (.inl 0)), (2, s_ldP 0), (3, s_getI 4 0), (6, s_c (.inl 1)), (7, s_ii (fun x y => x - y)), (8, s_callS l g sg_X5_hasZone sg_X10_isWithin), (11, s_iretz)]
set_option maxRecDepth 100000 in
theorem ok_X5_hasZone {l : Launch} {g : EG} : e_okp l g sg_X5_hasZone "CalendarSync$Place" (pg_X5_hasZone l g) := fun p e R s m args below meth c ex M0 Q X =>
    e_each_cons (r_iload_n X (k := 1) (i := 1) rfl dX5_hasZone_0 rfl)
    (e_each_cons (r_iconst X (n := 0) (v := 0) dX5_hasZone_1 (by decide) rfl)
    (e_each_cons (r_aload_n X (k := 0) (i := 0) rfl dX5_hasZone_2 rfl)
    (e_each_cons (r_getI X (index := 9) (ci := 4) (k := 0) dX5_hasZone_3 (by decide) (by decide) rfl w1_161 rfl)
    (e_each_cons (r_iconst X (n := 1) (v := 1) dX5_hasZone_6 (by decide) rfl)
    (e_each_cons (r_isub X dX5_hasZone_7 rfl)
    (e_each_cons (r_callSN X rfl (τ := sg_X10_isWithin) (index := 47) (host := "CalendarSync") dX5_hasZone_8 wn5_175 w2_127 cs_X10_isWithin rfl ⟨by decide, by decide⟩ rfl)
    (e_each_cons (r_iretz X dX5_hasZone_11 rfl)
    (e_each_nil))))))))
theorem dX5_hasEvent_0 : decode cX5_hasEvent 0 = .ok (.iload_n 1, 1) := by decide +kernel
theorem dX5_hasEvent_1 : decode cX5_hasEvent 1 = .ok (.iconst 0, 1) := by decide +kernel
theorem dX5_hasEvent_2 : decode cX5_hasEvent 2 = .ok (.bipush 7, 2) := by decide +kernel
theorem dX5_hasEvent_4 : decode cX5_hasEvent 4 = .ok (.invokestatic 47, 3) := by decide +kernel
theorem dX5_hasEvent_7 : decode cX5_hasEvent 7 = .ok (.ifCond .eq 19, 3) := by decide +kernel
theorem dX5_hasEvent_10 : decode cX5_hasEvent 10 = .ok (.aload_n 0, 1) := by decide +kernel
theorem dX5_hasEvent_11 : decode cX5_hasEvent 11 = .ok (.getfield 25, 3) := by decide +kernel
theorem dX5_hasEvent_14 : decode cX5_hasEvent 14 = .ok (.iload_n 1, 1) := by decide +kernel
theorem dX5_hasEvent_15 : decode cX5_hasEvent 15 = .ok (.aaload, 1) := by decide +kernel
theorem dX5_hasEvent_16 : decode cX5_hasEvent 16 = .ok (.getfield 51, 3) := by decide +kernel
theorem dX5_hasEvent_19 : decode cX5_hasEvent 19 = .ok (.ifCond .eq 7, 3) := by decide +kernel
theorem dX5_hasEvent_22 : decode cX5_hasEvent 22 = .ok (.iconst 1, 1) := by decide +kernel
theorem dX5_hasEvent_23 : decode cX5_hasEvent 23 = .ok (.goto 4, 3) := by decide +kernel
theorem dX5_hasEvent_26 : decode cX5_hasEvent 26 = .ok (.iconst 0, 1) := by decide +kernel
theorem dX5_hasEvent_27 : decode cX5_hasEvent 27 = .ok (.ireturn, 1) := by decide +kernel
def pg_X5_hasEvent (l : Launch) (g : EG) : List (Nat × ES) := [(0, s_ldI 1), (1, s_c (.inl 0)), (2, s_c (.inl 7)), (4, s_callS l g sg_X5_hasEvent sg_X10_isWithin), (7, s_if_eq 26), (10, s_ldP 0), (11, s_getP 4 2), (14, s_ldI 1), (15, s_aald), (16, s_getI 1 0), (19, s_if_eq 26), (22, s_c (.inl 1)), (23, s_goto 27), (26, s_c (.inl 0)), (27, s_iretz)]
set_option maxRecDepth 100000 in
theorem ok_X5_hasEvent {l : Launch} {g : EG} : e_okp l g sg_X5_hasEvent "CalendarSync$Place" (pg_X5_hasEvent l g) := fun p e R s m args below meth c ex M0 Q X =>
    e_each_cons (r_iload_n X (k := 1) (i := 1) rfl dX5_hasEvent_0 rfl)
    (e_each_cons (r_iconst X (n := 0) (v := 0) dX5_hasEvent_1 (by decide) rfl)
    (e_each_cons (r_bipush X (n := 7) (v := 7) dX5_hasEvent_2 (by decide) rfl)
    (e_each_cons (r_callSN X rfl (τ := sg_X10_isWithin) (index := 47) (host := "CalendarSync") dX5_hasEvent_4 wn5_175 w2_127 cs_X10_isWithin rfl ⟨by decide, by decide⟩ rfl)
    (e_each_cons (r_if_eq X (off := 19) (t := 26) dX5_hasEvent_7 (by decide) rfl)
    (e_each_cons (r_aload_n X (k := 0) (i := 0) rfl dX5_hasEvent_10 rfl)
    (e_each_cons (r_getP X (index := 25) (ci := 4) (k := 2) dX5_hasEvent_11 (by decide) (by decide) rfl w1_167 rfl)
    (e_each_cons (r_iload_n X (k := 1) (i := 1) rfl dX5_hasEvent_14 rfl)
    (e_each_cons (r_aald X dX5_hasEvent_15 rfl)
    (e_each_cons (r_getI X (index := 51) (ci := 1) (k := 0) dX5_hasEvent_16 (by decide) (by decide) rfl w1_84 rfl)
    (e_each_cons (r_if_eq X (off := 7) (t := 26) dX5_hasEvent_19 (by decide) rfl)
    (e_each_cons (r_iconst X (n := 1) (v := 1) dX5_hasEvent_22 (by decide) rfl)
    (e_each_cons (r_goto X (off := 4) (t := 27) dX5_hasEvent_23 (by decide))
    (e_each_cons (r_iconst X (n := 0) (v := 0) dX5_hasEvent_26 (by decide) rfl)
    (e_each_cons (r_iretz X dX5_hasEvent_27 rfl)
    (e_each_nil)))))))))))))))
theorem dX5_showsSameDate_0 : decode cX5_showsSameDate 0 = .ok (.aload_n 0, 1) := by decide +kernel
theorem dX5_showsSameDate_1 : decode cX5_showsSameDate 1 = .ok (.getfield 25, 3) := by decide +kernel
theorem dX5_showsSameDate_4 : decode cX5_showsSameDate 4 = .ok (.iload_n 2, 1) := by decide +kernel
theorem dX5_showsSameDate_5 : decode cX5_showsSameDate 5 = .ok (.aaload, 1) := by decide +kernel
theorem dX5_showsSameDate_6 : decode cX5_showsSameDate 6 = .ok (.astore 4, 2) := by decide +kernel
theorem dX5_showsSameDate_8 : decode cX5_showsSameDate 8 = .ok (.aload_n 1, 1) := by decide +kernel
theorem dX5_showsSameDate_9 : decode cX5_showsSameDate 9 = .ok (.getfield 25, 3) := by decide +kernel
theorem dX5_showsSameDate_12 : decode cX5_showsSameDate 12 = .ok (.iload_n 2, 1) := by decide +kernel
theorem dX5_showsSameDate_13 : decode cX5_showsSameDate 13 = .ok (.aaload, 1) := by decide +kernel
theorem dX5_showsSameDate_14 : decode cX5_showsSameDate 14 = .ok (.astore 5, 2) := by decide +kernel
theorem dX5_showsSameDate_16 : decode cX5_showsSameDate 16 = .ok (.aload_n 0, 1) := by decide +kernel
theorem dX5_showsSameDate_17 : decode cX5_showsSameDate 17 = .ok (.iload_n 2, 1) := by decide +kernel
theorem dX5_showsSameDate_18 : decode cX5_showsSameDate 18 = .ok (.iload_n 3, 1) := by decide +kernel
theorem dX5_showsSameDate_19 : decode cX5_showsSameDate 19 = .ok (.invokevirtual 84, 3) := by decide +kernel
theorem dX5_showsSameDate_22 : decode cX5_showsSameDate 22 = .ok (.aload_n 1, 1) := by decide +kernel
theorem dX5_showsSameDate_23 : decode cX5_showsSameDate 23 = .ok (.iload_n 2, 1) := by decide +kernel
theorem dX5_showsSameDate_24 : decode cX5_showsSameDate 24 = .ok (.iload_n 3, 1) := by decide +kernel
theorem dX5_showsSameDate_25 : decode cX5_showsSameDate 25 = .ok (.invokevirtual 84, 3) := by decide +kernel
theorem dX5_showsSameDate_28 : decode cX5_showsSameDate 28 = .ok (.if_icmp .ne 41, 3) := by decide +kernel
theorem dX5_showsSameDate_31 : decode cX5_showsSameDate 31 = .ok (.aload 4, 2) := by decide +kernel
theorem dX5_showsSameDate_33 : decode cX5_showsSameDate 33 = .ok (.iconst 0, 1) := by decide +kernel
theorem dX5_showsSameDate_34 : decode cX5_showsSameDate 34 = .ok (.iload_n 3, 1) := by decide +kernel
theorem dX5_showsSameDate_35 : decode cX5_showsSameDate 35 = .ok (.invokevirtual 87, 3) := by decide +kernel
theorem dX5_showsSameDate_38 : decode cX5_showsSameDate 38 = .ok (.aload 5, 2) := by decide +kernel
theorem dX5_showsSameDate_40 : decode cX5_showsSameDate 40 = .ok (.iconst 0, 1) := by decide +kernel
theorem dX5_showsSameDate_41 : decode cX5_showsSameDate 41 = .ok (.iload_n 3, 1) := by decide +kernel
theorem dX5_showsSameDate_42 : decode cX5_showsSameDate 42 = .ok (.invokevirtual 87, 3) := by decide +kernel
theorem dX5_showsSameDate_45 : decode cX5_showsSameDate 45 = .ok (.if_icmp .ne 24, 3) := by decide +kernel
theorem dX5_showsSameDate_48 : decode cX5_showsSameDate 48 = .ok (.aload 4, 2) := by decide +kernel
theorem dX5_showsSameDate_50 : decode cX5_showsSameDate 50 = .ok (.iconst 1, 1) := by decide +kernel
theorem dX5_showsSameDate_51 : decode cX5_showsSameDate 51 = .ok (.iload_n 3, 1) := by decide +kernel
theorem dX5_showsSameDate_52 : decode cX5_showsSameDate 52 = .ok (.invokevirtual 87, 3) := by decide +kernel
theorem dX5_showsSameDate_55 : decode cX5_showsSameDate 55 = .ok (.aload 5, 2) := by decide +kernel
theorem dX5_showsSameDate_57 : decode cX5_showsSameDate 57 = .ok (.iconst 1, 1) := by decide +kernel
theorem dX5_showsSameDate_58 : decode cX5_showsSameDate 58 = .ok (.iload_n 3, 1) := by decide +kernel
theorem dX5_showsSameDate_59 : decode cX5_showsSameDate 59 = .ok (.invokevirtual 87, 3) := by decide +kernel
theorem dX5_showsSameDate_62 : decode cX5_showsSameDate 62 = .ok (.if_icmp .ne 7, 3) := by decide +kernel
theorem dX5_showsSameDate_65 : decode cX5_showsSameDate 65 = .ok (.iconst 1, 1) := by decide +kernel
theorem dX5_showsSameDate_66 : decode cX5_showsSameDate 66 = .ok (.goto 4, 3) := by decide +kernel
theorem dX5_showsSameDate_69 : decode cX5_showsSameDate 69 = .ok (.iconst 0, 1) := by decide +kernel
theorem dX5_showsSameDate_70 : decode cX5_showsSameDate 70 = .ok (.ireturn, 1) := by decide +kernel
def pg_X5_showsSameDate (l : Launch) (g : EG) : List (Nat × ES) := [(0, s_ldP 0), (1, s_getP 4 2), (4, s_ldI 2), (5, s_aald), (6, s_stP 4), (8, s_ldP 1), (9, s_getP 4 2), (12, s_ldI 2), (13, s_aald), (14, s_stP 5), (16, s_ldP 0), (17, s_ldI 2), (18, s_ldI 3), (19, s_callV l g sg_X5_showsSameDate sg_X5_momentOf 4), (22, s_ldP 1), (23, s_ldI 2), (24, s_ldI 3), (25, s_callV l g sg_X5_showsSameDate sg_X5_momentOf 4), (28, s_icmp_ne 69), (31, s_ldP 4), (33, s_c (.inl 0)), (34, s_ldI 3), (35, s_callV l g sg_X5_showsSameDate sg_X2_answerTo 1), (38, s_ldP 5), (40, s_c (.inl 0)), (41, s_ldI 3), (42, s_callV l g sg_X5_showsSameDate sg_X2_answerTo 1), (45, s_icmp_ne 69), (48, s_ldP 4), (50, s_c (.inl 1)), (51, s_ldI 3), (52, s_callV l g sg_X5_showsSameDate sg_X2_answerTo 1), (55, s_ldP 5), (57, s_c (.inl 1)), (58, s_ldI 3), (59, s_callV l g sg_X5_showsSameDate sg_X2_answerTo 1), (62, s_icmp_ne 69), (65, s_c (.inl 1)), (66, s_goto 70), (69, s_c (.inl 0)), (70, s_iretz)]
set_option maxRecDepth 100000 in
theorem ok_X5_showsSameDate {l : Launch} {g : EG} : e_okp l g sg_X5_showsSameDate "CalendarSync$Place" (pg_X5_showsSameDate l g) := fun p e R s m args below meth c ex M0 Q X =>
    e_each_cons (r_aload_n X (k := 0) (i := 0) rfl dX5_showsSameDate_0 rfl)
    (e_each_cons (r_getP X (index := 25) (ci := 4) (k := 2) dX5_showsSameDate_1 (by decide) (by decide) rfl w1_167 rfl)
    (e_each_cons (r_iload_n X (k := 2) (i := 2) rfl dX5_showsSameDate_4 rfl)
    (e_each_cons (r_aald X dX5_showsSameDate_5 rfl)
    (e_each_cons (r_astore X (i := 4) dX5_showsSameDate_6 (by decide) rfl)
    (e_each_cons (r_aload_n X (k := 1) (i := 1) rfl dX5_showsSameDate_8 rfl)
    (e_each_cons (r_getP X (index := 25) (ci := 4) (k := 2) dX5_showsSameDate_9 (by decide) (by decide) rfl w1_167 rfl)
    (e_each_cons (r_iload_n X (k := 2) (i := 2) rfl dX5_showsSameDate_12 rfl)
    (e_each_cons (r_aald X dX5_showsSameDate_13 rfl)
    (e_each_cons (r_astore X (i := 5) dX5_showsSameDate_14 (by decide) rfl)
    (e_each_cons (r_aload_n X (k := 0) (i := 0) rfl dX5_showsSameDate_16 rfl)
    (e_each_cons (r_iload_n X (k := 2) (i := 2) rfl dX5_showsSameDate_17 rfl)
    (e_each_cons (r_iload_n X (k := 3) (i := 3) rfl dX5_showsSameDate_18 rfl)
    (e_each_cons (r_callV X rfl (τ := sg_X5_momentOf) (index := 84) (ci := 4) dX5_showsSameDate_19 (by decide) rfl w2_230 w2_231 w2_232 cs_X5_momentOf rfl ⟨by decide, by decide⟩ rfl)
    (e_each_cons (r_aload_n X (k := 1) (i := 1) rfl dX5_showsSameDate_22 rfl)
    (e_each_cons (r_iload_n X (k := 2) (i := 2) rfl dX5_showsSameDate_23 rfl)
    (e_each_cons (r_iload_n X (k := 3) (i := 3) rfl dX5_showsSameDate_24 rfl)
    (e_each_cons (r_callV X rfl (τ := sg_X5_momentOf) (index := 84) (ci := 4) dX5_showsSameDate_25 (by decide) rfl w2_230 w2_231 w2_232 cs_X5_momentOf rfl ⟨by decide, by decide⟩ rfl)
    (e_each_cons (r_icmp_ne X (off := 41) (t := 69) dX5_showsSameDate_28 (by decide) rfl)
    (e_each_cons (r_aload X (i := 4) dX5_showsSameDate_31 rfl)
    (e_each_cons (r_iconst X (n := 0) (v := 0) dX5_showsSameDate_33 (by decide) rfl)
    (e_each_cons (r_iload_n X (k := 3) (i := 3) rfl dX5_showsSameDate_34 rfl)
    (e_each_cons (r_callV X rfl (τ := sg_X2_answerTo) (index := 87) (ci := 1) dX5_showsSameDate_35 (by decide) rfl w3_12 w3_13 w3_14 cs_X2_answerTo rfl ⟨by decide, by decide⟩ rfl)
    (e_each_cons (r_aload X (i := 5) dX5_showsSameDate_38 rfl)
    (e_each_cons (r_iconst X (n := 0) (v := 0) dX5_showsSameDate_40 (by decide) rfl)
    (e_each_cons (r_iload_n X (k := 3) (i := 3) rfl dX5_showsSameDate_41 rfl)
    (e_each_cons (r_callV X rfl (τ := sg_X2_answerTo) (index := 87) (ci := 1) dX5_showsSameDate_42 (by decide) rfl w3_12 w3_13 w3_14 cs_X2_answerTo rfl ⟨by decide, by decide⟩ rfl)
    (e_each_cons (r_icmp_ne X (off := 24) (t := 69) dX5_showsSameDate_45 (by decide) rfl)
    (e_each_cons (r_aload X (i := 4) dX5_showsSameDate_48 rfl)
    (e_each_cons (r_iconst X (n := 1) (v := 1) dX5_showsSameDate_50 (by decide) rfl)
    (e_each_cons (r_iload_n X (k := 3) (i := 3) rfl dX5_showsSameDate_51 rfl)
    (e_each_cons (r_callV X rfl (τ := sg_X2_answerTo) (index := 87) (ci := 1) dX5_showsSameDate_52 (by decide) rfl w3_12 w3_13 w3_14 cs_X2_answerTo rfl ⟨by decide, by decide⟩ rfl)
    (e_each_cons (r_aload X (i := 5) dX5_showsSameDate_55 rfl)
    (e_each_cons (r_iconst X (n := 1) (v := 1) dX5_showsSameDate_57 (by decide) rfl)
    (e_each_cons (r_iload_n X (k := 3) (i := 3) rfl dX5_showsSameDate_58 rfl)
    (e_each_cons (r_callV X rfl (τ := sg_X2_answerTo) (index := 87) (ci := 1) dX5_showsSameDate_59 (by decide) rfl w3_12 w3_13 w3_14 cs_X2_answerTo rfl ⟨by decide, by decide⟩ rfl)
    (e_each_cons (r_icmp_ne X (off := 7) (t := 69) dX5_showsSameDate_62 (by decide) rfl)
    (e_each_cons (r_iconst X (n := 1) (v := 1) dX5_showsSameDate_65 (by decide) rfl)
    (e_each_cons (r_goto X (off := 4) (t := 70) dX5_showsSameDate_66 (by decide))
    (e_each_cons (r_iconst X (n := 0) (v := 0) dX5_showsSameDate_69 (by decide) rfl)
    (e_each_cons (r_iretz X dX5_showsSameDate_70 rfl)
    (e_each_nil)))))))))))))))))))))))))))))))))))))))))
theorem dX5_showsSame_0 : decode cX5_showsSame 0 = .ok (.aload_n 0, 1) := by decide +kernel
theorem dX5_showsSame_1 : decode cX5_showsSame 1 = .ok (.getfield 25, 3) := by decide +kernel
theorem dX5_showsSame_4 : decode cX5_showsSame 4 = .ok (.iload_n 2, 1) := by decide +kernel
theorem dX5_showsSame_5 : decode cX5_showsSame 5 = .ok (.aaload, 1) := by decide +kernel
theorem dX5_showsSame_6 : decode cX5_showsSame 6 = .ok (.astore_n 3, 1) := by decide +kernel
theorem dX5_showsSame_7 : decode cX5_showsSame 7 = .ok (.aload_n 1, 1) := by decide +kernel
theorem dX5_showsSame_8 : decode cX5_showsSame 8 = .ok (.getfield 25, 3) := by decide +kernel
theorem dX5_showsSame_11 : decode cX5_showsSame 11 = .ok (.iload_n 2, 1) := by decide +kernel
theorem dX5_showsSame_12 : decode cX5_showsSame 12 = .ok (.aaload, 1) := by decide +kernel
theorem dX5_showsSame_13 : decode cX5_showsSame 13 = .ok (.astore 4, 2) := by decide +kernel
theorem dX5_showsSame_15 : decode cX5_showsSame 15 = .ok (.aload_n 3, 1) := by decide +kernel
theorem dX5_showsSame_16 : decode cX5_showsSame 16 = .ok (.invokevirtual 69, 3) := by decide +kernel
theorem dX5_showsSame_19 : decode cX5_showsSame 19 = .ok (.istore 5, 2) := by decide +kernel
theorem dX5_showsSame_21 : decode cX5_showsSame 21 = .ok (.iload 5, 2) := by decide +kernel
theorem dX5_showsSame_23 : decode cX5_showsSame 23 = .ok (.aload 4, 2) := by decide +kernel
theorem dX5_showsSame_25 : decode cX5_showsSame 25 = .ok (.invokevirtual 69, 3) := by decide +kernel
theorem dX5_showsSame_28 : decode cX5_showsSame 28 = .ok (.if_icmp .eq 5, 3) := by decide +kernel
theorem dX5_showsSame_31 : decode cX5_showsSame 31 = .ok (.iconst 0, 1) := by decide +kernel
theorem dX5_showsSame_32 : decode cX5_showsSame 32 = .ok (.ireturn, 1) := by decide +kernel
theorem dX5_showsSame_33 : decode cX5_showsSame 33 = .ok (.iload 5, 2) := by decide +kernel
theorem dX5_showsSame_35 : decode cX5_showsSame 35 = .ok (.ifCond .eq 17, 3) := by decide +kernel
theorem dX5_showsSame_38 : decode cX5_showsSame 38 = .ok (.aload_n 3, 1) := by decide +kernel
theorem dX5_showsSame_39 : decode cX5_showsSame 39 = .ok (.getfield 73, 3) := by decide +kernel
theorem dX5_showsSame_42 : decode cX5_showsSame 42 = .ok (.aload 4, 2) := by decide +kernel
theorem dX5_showsSame_44 : decode cX5_showsSame 44 = .ok (.getfield 73, 3) := by decide +kernel
theorem dX5_showsSame_47 : decode cX5_showsSame 47 = .ok (.if_icmp .eq 5, 3) := by decide +kernel
theorem dX5_showsSame_50 : decode cX5_showsSame 50 = .ok (.iconst 0, 1) := by decide +kernel
theorem dX5_showsSame_51 : decode cX5_showsSame 51 = .ok (.ireturn, 1) := by decide +kernel
theorem dX5_showsSame_52 : decode cX5_showsSame 52 = .ok (.iconst 0, 1) := by decide +kernel
theorem dX5_showsSame_53 : decode cX5_showsSame 53 = .ok (.istore 6, 2) := by decide +kernel
theorem dX5_showsSame_55 : decode cX5_showsSame 55 = .ok (.iload 6, 2) := by decide +kernel
theorem dX5_showsSame_57 : decode cX5_showsSame 57 = .ok (.bipush 30, 2) := by decide +kernel
theorem dX5_showsSame_59 : decode cX5_showsSame 59 = .ok (.if_icmp .ge 32, 3) := by decide +kernel
theorem dX5_showsSame_62 : decode cX5_showsSame 62 = .ok (.iload 5, 2) := by decide +kernel
theorem dX5_showsSame_64 : decode cX5_showsSame 64 = .ok (.iload 6, 2) := by decide +kernel
theorem dX5_showsSame_66 : decode cX5_showsSame 66 = .ok (.invokestatic 76, 3) := by decide +kernel
theorem dX5_showsSame_69 : decode cX5_showsSame 69 = .ok (.ifCond .eq 16, 3) := by decide +kernel
theorem dX5_showsSame_72 : decode cX5_showsSame 72 = .ok (.aload_n 0, 1) := by decide +kernel
theorem dX5_showsSame_73 : decode cX5_showsSame 73 = .ok (.aload_n 1, 1) := by decide +kernel
theorem dX5_showsSame_74 : decode cX5_showsSame 74 = .ok (.iload_n 2, 1) := by decide +kernel
theorem dX5_showsSame_75 : decode cX5_showsSame 75 = .ok (.iload 6, 2) := by decide +kernel
theorem dX5_showsSame_77 : decode cX5_showsSame 77 = .ok (.invokevirtual 80, 3) := by decide +kernel
theorem dX5_showsSame_80 : decode cX5_showsSame 80 = .ok (.ifCond .ne 5, 3) := by decide +kernel
theorem dX5_showsSame_83 : decode cX5_showsSame 83 = .ok (.iconst 0, 1) := by decide +kernel
theorem dX5_showsSame_84 : decode cX5_showsSame 84 = .ok (.ireturn, 1) := by decide +kernel
theorem dX5_showsSame_85 : decode cX5_showsSame 85 = .ok (.iinc 6 1, 3) := by decide +kernel
theorem dX5_showsSame_88 : decode cX5_showsSame 88 = .ok (.goto (-33), 3) := by decide +kernel
theorem dX5_showsSame_91 : decode cX5_showsSame 91 = .ok (.iconst 1, 1) := by decide +kernel
theorem dX5_showsSame_92 : decode cX5_showsSame 92 = .ok (.ireturn, 1) := by decide +kernel
def pg_X5_showsSame (l : Launch) (g : EG) : List (Nat × ES) := [(0, s_ldP 0), (1, s_getP 4 2), (4, s_ldI 2), (5, s_aald), (6, s_stP 3), (7, s_ldP 1), (8, s_getP 4 2), (11, s_ldI 2), (12, s_aald), (13, s_stP 4), (15, s_ldP 3), (16, s_callV l g sg_X5_showsSame sg_X2_shownBits 1), (19, s_stI 5), (21, s_ldI 5), (23, s_ldP 4), (25, s_callV l g sg_X5_showsSame sg_X2_shownBits 1), (28, s_icmp_eq 33), (31, s_c (.inl 0)), (32, s_iretz), (33, s_ldI 5), (35, s_if_eq 52), (38, s_ldP 3), (39, s_getI 1 3), (42, s_ldP 4), (44, s_getI 1 3), (47, s_icmp_eq 52), (50, s_c (.inl 0)), (51, s_iretz), (52, s_c (.inl 0)), (53, s_stI 6), (55, s_ldI 6), (57, s_c (.inl 30)), (59, s_icmp_ge 91), (62, s_ldI 5), (64, s_ldI 6), (66, s_callS l g sg_X5_showsSame sg_X10_hasBit), (69, s_if_eq 85), (72, s_ldP 0), (73, s_ldP 1), (74, s_ldI 2), (75, s_ldI 6), (77, s_callV l g sg_X5_showsSame sg_X5_showsSameDate 4), (80, s_if_ne 85), (83, s_c (.inl 0)), (84, s_iretz), (85, s_iinc 6 1), (88, s_goto 55), (91, s_c (.inl 1)), (92, s_iretz)]
set_option maxRecDepth 100000 in
theorem ok_X5_showsSame {l : Launch} {g : EG} : e_okp l g sg_X5_showsSame "CalendarSync$Place" (pg_X5_showsSame l g) := fun p e R s m args below meth c ex M0 Q X =>
    e_each_cons (r_aload_n X (k := 0) (i := 0) rfl dX5_showsSame_0 rfl)
    (e_each_cons (r_getP X (index := 25) (ci := 4) (k := 2) dX5_showsSame_1 (by decide) (by decide) rfl w1_167 rfl)
    (e_each_cons (r_iload_n X (k := 2) (i := 2) rfl dX5_showsSame_4 rfl)
    (e_each_cons (r_aald X dX5_showsSame_5 rfl)
    (e_each_cons (r_astore_n X (k := 3) (i := 3) rfl dX5_showsSame_6 (by decide) rfl)
    (e_each_cons (r_aload_n X (k := 1) (i := 1) rfl dX5_showsSame_7 rfl)
    (e_each_cons (r_getP X (index := 25) (ci := 4) (k := 2) dX5_showsSame_8 (by decide) (by decide) rfl w1_167 rfl)
    (e_each_cons (r_iload_n X (k := 2) (i := 2) rfl dX5_showsSame_11 rfl)
    (e_each_cons (r_aald X dX5_showsSame_12 rfl)
    (e_each_cons (r_astore X (i := 4) dX5_showsSame_13 (by decide) rfl)
    (e_each_cons (r_aload_n X (k := 3) (i := 3) rfl dX5_showsSame_15 rfl)
    (e_each_cons (r_callV X rfl (τ := sg_X2_shownBits) (index := 69) (ci := 1) dX5_showsSame_16 (by decide) rfl w2_219 w2_220 w2_221 cs_X2_shownBits rfl ⟨by decide, by decide⟩ rfl)
    (e_each_cons (r_istore X (i := 5) dX5_showsSame_19 (by decide) rfl)
    (e_each_cons (r_iload X (i := 5) dX5_showsSame_21 rfl)
    (e_each_cons (r_aload X (i := 4) dX5_showsSame_23 rfl)
    (e_each_cons (r_callV X rfl (τ := sg_X2_shownBits) (index := 69) (ci := 1) dX5_showsSame_25 (by decide) rfl w2_219 w2_220 w2_221 cs_X2_shownBits rfl ⟨by decide, by decide⟩ rfl)
    (e_each_cons (r_icmp_eq X (off := 5) (t := 33) dX5_showsSame_28 (by decide) rfl)
    (e_each_cons (r_iconst X (n := 0) (v := 0) dX5_showsSame_31 (by decide) rfl)
    (e_each_cons (r_iretz X dX5_showsSame_32 rfl)
    (e_each_cons (r_iload X (i := 5) dX5_showsSame_33 rfl)
    (e_each_cons (r_if_eq X (off := 17) (t := 52) dX5_showsSame_35 (by decide) rfl)
    (e_each_cons (r_aload_n X (k := 3) (i := 3) rfl dX5_showsSame_38 rfl)
    (e_each_cons (r_getI X (index := 73) (ci := 1) (k := 3) dX5_showsSame_39 (by decide) (by decide) rfl w1_93 rfl)
    (e_each_cons (r_aload X (i := 4) dX5_showsSame_42 rfl)
    (e_each_cons (r_getI X (index := 73) (ci := 1) (k := 3) dX5_showsSame_44 (by decide) (by decide) rfl w1_93 rfl)
    (e_each_cons (r_icmp_eq X (off := 5) (t := 52) dX5_showsSame_47 (by decide) rfl)
    (e_each_cons (r_iconst X (n := 0) (v := 0) dX5_showsSame_50 (by decide) rfl)
    (e_each_cons (r_iretz X dX5_showsSame_51 rfl)
    (e_each_cons (r_iconst X (n := 0) (v := 0) dX5_showsSame_52 (by decide) rfl)
    (e_each_cons (r_istore X (i := 6) dX5_showsSame_53 (by decide) rfl)
    (e_each_cons (r_iload X (i := 6) dX5_showsSame_55 rfl)
    (e_each_cons (r_bipush X (n := 30) (v := 30) dX5_showsSame_57 (by decide) rfl)
    (e_each_cons (r_icmp_ge X (off := 32) (t := 91) dX5_showsSame_59 (by decide) rfl)
    (e_each_cons (r_iload X (i := 5) dX5_showsSame_62 rfl)
    (e_each_cons (r_iload X (i := 6) dX5_showsSame_64 rfl)
    (e_each_cons (r_callSN X rfl (τ := sg_X10_hasBit) (index := 76) (host := "CalendarSync") dX5_showsSame_66 wn2_223 w2_224 cs_X10_hasBit rfl ⟨by decide, by decide⟩ rfl)
    (e_each_cons (r_if_eq X (off := 16) (t := 85) dX5_showsSame_69 (by decide) rfl)
    (e_each_cons (r_aload_n X (k := 0) (i := 0) rfl dX5_showsSame_72 rfl)
    (e_each_cons (r_aload_n X (k := 1) (i := 1) rfl dX5_showsSame_73 rfl)
    (e_each_cons (r_iload_n X (k := 2) (i := 2) rfl dX5_showsSame_74 rfl)
    (e_each_cons (r_iload X (i := 6) dX5_showsSame_75 rfl)
    (e_each_cons (r_callV X rfl (τ := sg_X5_showsSameDate) (index := 80) (ci := 4) dX5_showsSame_77 (by decide) rfl w2_226 w2_228 ws_3 cs_X5_showsSameDate rfl ⟨by decide, by decide⟩ rfl)
    (e_each_cons (r_if_ne X (off := 5) (t := 85) dX5_showsSame_80 (by decide) rfl)
    (e_each_cons (r_iconst X (n := 0) (v := 0) dX5_showsSame_83 (by decide) rfl)
    (e_each_cons (r_iretz X dX5_showsSame_84 rfl)
    (e_each_cons (r_iinc X (i := 6) (n := 1) (d := 1) dX5_showsSame_85 (by decide) (by decide) rfl)
    (e_each_cons (r_goto X (off := (-33)) (t := 55) dX5_showsSame_88 (by decide))
    (e_each_cons (r_iconst X (n := 1) (v := 1) dX5_showsSame_91 (by decide) rfl)
    (e_each_cons (r_iretz X dX5_showsSame_92 rfl)
    (e_each_nil)))))))))))))))))))))))))))))))))))))))))))))))))
