/-! TABLES (by program): the rows of X4 -/
theorem dX4_save_0 : decode cX4_save 0 = .ok (.aload_n 0, 1) := by decide +kernel
theorem dX4_save_1 : decode cX4_save 1 = .ok (.getfield 10, 3) := by decide +kernel
theorem dX4_save_4 : decode cX4_save 4 = .ok (.aload_n 0, 1) := by decide +kernel
theorem dX4_save_5 : decode cX4_save 5 = .ok (.getfield 16, 3) := by decide +kernel
theorem dX4_save_8 : decode cX4_save 8 = .ok (.aaload, 1) := by decide +kernel
theorem dX4_save_9 : decode cX4_save 9 = .ok (.aload_n 1, 1) := by decide +kernel
theorem dX4_save_10 : decode cX4_save 10 = .ok (.invokevirtual 20, 3) := by decide +kernel
theorem dX4_save_13 : decode cX4_save 13 = .ok (.aload_n 0, 1) := by decide +kernel
theorem dX4_save_14 : decode cX4_save 14 = .ok (.aload_n 0, 1) := by decide +kernel
theorem dX4_save_15 : decode cX4_save 15 = .ok (.getfield 16, 3) := by decide +kernel
theorem dX4_save_18 : decode cX4_save 18 = .ok (.bipush 11, 2) := by decide +kernel
theorem dX4_save_20 : decode cX4_save 20 = .ok (.if_icmp .ge 12, 3) := by decide +kernel
theorem dX4_save_23 : decode cX4_save 23 = .ok (.aload_n 0, 1) := by decide +kernel
theorem dX4_save_24 : decode cX4_save 24 = .ok (.getfield 16, 3) := by decide +kernel
theorem dX4_save_27 : decode cX4_save 27 = .ok (.iconst 1, 1) := by decide +kernel
theorem dX4_save_28 : decode cX4_save 28 = .ok (.iadd, 1) := by decide +kernel
theorem dX4_save_29 : decode cX4_save 29 = .ok (.goto 4, 3) := by decide +kernel
theorem dX4_save_32 : decode cX4_save 32 = .ok (.iconst 0, 1) := by decide +kernel
theorem dX4_save_33 : decode cX4_save 33 = .ok (.putfield 16, 3) := by decide +kernel
theorem dX4_save_36 : decode cX4_save 36 = .ok (.aload_n 0, 1) := by decide +kernel
theorem dX4_save_37 : decode cX4_save 37 = .ok (.bipush 12, 2) := by decide +kernel
theorem dX4_save_39 : decode cX4_save 39 = .ok (.aload_n 0, 1) := by decide +kernel
theorem dX4_save_40 : decode cX4_save 40 = .ok (.getfield 24, 3) := by decide +kernel
theorem dX4_save_43 : decode cX4_save 43 = .ok (.iconst 1, 1) := by decide +kernel
theorem dX4_save_44 : decode cX4_save 44 = .ok (.iadd, 1) := by decide +kernel
theorem dX4_save_45 : decode cX4_save 45 = .ok (.invokestatic 27, 3) := by decide +kernel
theorem dX4_save_48 : decode cX4_save 48 = .ok (.putfield 24, 3) := by decide +kernel
theorem dX4_save_51 : decode cX4_save 51 = .ok (.return_, 1) := by decide +kernel
def pg_X4_save (l : Launch) (g : EG) : List (Nat × ES) := [(0, s_ldP 0), (1, s_getP 3 2), (4, s_ldP 0), (5, s_getI 3 1), (8, s_aald), (9, s_ldP 1), (10, s_callV l g sg_X4_save sg_X3_become 2), (13, s_ldP 0), (14, s_ldP 0), (15, s_getI 3 1), (18, s_c (.inl 11)), (20, s_icmp_ge 32), (23, s_ldP 0), (24, s_getI 3 1), (27, s_c (.inl 1)), (28, s_ii (fun x y => x + y)), (29, s_goto 33), (32, s_c (.inl 0)), (33, s_putI 3 1), (36, s_ldP 0), (37, s_c (.inl 12)), (39, s_ldP 0), (40, s_getI 3 0), (43, s_c (.inl 1)), (44, s_ii (fun x y => x + y)), (45, s_mmin sg_X4_save), (48, s_putI 3 0), (51, s_vret)]
set_option maxRecDepth 100000 in
theorem ok_X4_save {l : Launch} {g : EG} : e_okp l g sg_X4_save "CalendarSync$History" (pg_X4_save l g) := fun p e R s m args below meth c ex M0 Q X =>
    e_each_cons (r_aload_n X (k := 0) (i := 0) rfl dX4_save_0 rfl)
    (e_each_cons (r_getP X (index := 10) (ci := 3) (k := 2) dX4_save_1 (by decide) (by decide) rfl w2_73 rfl)
    (e_each_cons (r_aload_n X (k := 0) (i := 0) rfl dX4_save_4 rfl)
    (e_each_cons (r_getI X (index := 16) (ci := 3) (k := 1) dX4_save_5 (by decide) (by decide) rfl w2_72 rfl)
    (e_each_cons (r_aald X dX4_save_8 rfl)
    (e_each_cons (r_aload_n X (k := 1) (i := 1) rfl dX4_save_9 rfl)
    (e_each_cons (r_callV X rfl (τ := sg_X3_become) (index := 20) (ci := 2) dX4_save_10 (by decide) rfl w5_159 w3_44 w3_45 cs_X3_become rfl ⟨by decide, by decide⟩ rfl)
    (e_each_cons (r_aload_n X (k := 0) (i := 0) rfl dX4_save_13 rfl)
    (e_each_cons (r_aload_n X (k := 0) (i := 0) rfl dX4_save_14 rfl)
    (e_each_cons (r_getI X (index := 16) (ci := 3) (k := 1) dX4_save_15 (by decide) (by decide) rfl w2_72 rfl)
    (e_each_cons (r_bipush X (n := 11) (v := 11) dX4_save_18 (by decide) rfl)
    (e_each_cons (r_icmp_ge X (off := 12) (t := 32) dX4_save_20 (by decide) rfl)
    (e_each_cons (r_aload_n X (k := 0) (i := 0) rfl dX4_save_23 rfl)
    (e_each_cons (r_getI X (index := 16) (ci := 3) (k := 1) dX4_save_24 (by decide) (by decide) rfl w2_72 rfl)
    (e_each_cons (r_iconst X (n := 1) (v := 1) dX4_save_27 (by decide) rfl)
    (e_each_cons (r_iadd X dX4_save_28 rfl)
    (e_each_cons (r_goto X (off := 4) (t := 33) dX4_save_29 (by decide))
    (e_each_cons (r_iconst X (n := 0) (v := 0) dX4_save_32 (by decide) rfl)
    (e_each_cons (r_putI X (index := 16) (ci := 3) (k := 1) dX4_save_33 (by decide) (by decide) rfl rfl w2_72 rfl)
    (e_each_cons (r_aload_n X (k := 0) (i := 0) rfl dX4_save_36 rfl)
    (e_each_cons (r_bipush X (n := 12) (v := 12) dX4_save_37 (by decide) rfl)
    (e_each_cons (r_aload_n X (k := 0) (i := 0) rfl dX4_save_39 rfl)
    (e_each_cons (r_getI X (index := 24) (ci := 3) (k := 0) dX4_save_40 (by decide) (by decide) rfl w2_70 rfl)
    (e_each_cons (r_iconst X (n := 1) (v := 1) dX4_save_43 (by decide) rfl)
    (e_each_cons (r_iadd X dX4_save_44 rfl)
    (e_each_cons (r_mmin X (index := 27) dX4_save_45 w6_102 w3_211 w1_16 w3_212 ⟨by decide, by decide⟩ rfl)
    (e_each_cons (r_putI X (index := 24) (ci := 3) (k := 0) dX4_save_48 (by decide) (by decide) rfl rfl w2_70 rfl)
    (e_each_cons (r_vret X dX4_save_51 rfl)
    (e_each_nil))))))))))))))))))))))))))))
theorem dX4_bringBack_0 : decode cX4_bringBack 0 = .ok (.aload_n 0, 1) := by decide +kernel
theorem dX4_bringBack_1 : decode cX4_bringBack 1 = .ok (.aload_n 0, 1) := by decide +kernel
theorem dX4_bringBack_2 : decode cX4_bringBack 2 = .ok (.getfield 16, 3) := by decide +kernel
theorem dX4_bringBack_5 : decode cX4_bringBack 5 = .ok (.ifCond .le 12, 3) := by decide +kernel
theorem dX4_bringBack_8 : decode cX4_bringBack 8 = .ok (.aload_n 0, 1) := by decide +kernel
theorem dX4_bringBack_9 : decode cX4_bringBack 9 = .ok (.getfield 16, 3) := by decide +kernel
theorem dX4_bringBack_12 : decode cX4_bringBack 12 = .ok (.iconst 1, 1) := by decide +kernel
theorem dX4_bringBack_13 : decode cX4_bringBack 13 = .ok (.isub, 1) := by decide +kernel
theorem dX4_bringBack_14 : decode cX4_bringBack 14 = .ok (.goto 5, 3) := by decide +kernel
theorem dX4_bringBack_17 : decode cX4_bringBack 17 = .ok (.bipush 11, 2) := by decide +kernel
theorem dX4_bringBack_19 : decode cX4_bringBack 19 = .ok (.putfield 16, 3) := by decide +kernel
theorem dX4_bringBack_22 : decode cX4_bringBack 22 = .ok (.aload_n 0, 1) := by decide +kernel
theorem dX4_bringBack_23 : decode cX4_bringBack 23 = .ok (.dup, 1) := by decide +kernel
theorem dX4_bringBack_24 : decode cX4_bringBack 24 = .ok (.getfield 24, 3) := by decide +kernel
theorem dX4_bringBack_27 : decode cX4_bringBack 27 = .ok (.iconst 1, 1) := by decide +kernel
theorem dX4_bringBack_28 : decode cX4_bringBack 28 = .ok (.isub, 1) := by decide +kernel
theorem dX4_bringBack_29 : decode cX4_bringBack 29 = .ok (.putfield 24, 3) := by decide +kernel
theorem dX4_bringBack_32 : decode cX4_bringBack 32 = .ok (.aload_n 1, 1) := by decide +kernel
theorem dX4_bringBack_33 : decode cX4_bringBack 33 = .ok (.aload_n 0, 1) := by decide +kernel
theorem dX4_bringBack_34 : decode cX4_bringBack 34 = .ok (.getfield 10, 3) := by decide +kernel
theorem dX4_bringBack_37 : decode cX4_bringBack 37 = .ok (.aload_n 0, 1) := by decide +kernel
theorem dX4_bringBack_38 : decode cX4_bringBack 38 = .ok (.getfield 16, 3) := by decide +kernel
theorem dX4_bringBack_41 : decode cX4_bringBack 41 = .ok (.aaload, 1) := by decide +kernel
theorem dX4_bringBack_42 : decode cX4_bringBack 42 = .ok (.invokevirtual 20, 3) := by decide +kernel
theorem dX4_bringBack_45 : decode cX4_bringBack 45 = .ok (.return_, 1) := by decide +kernel
def pg_X4_bringBack (l : Launch) (g : EG) : List (Nat × ES) := [(0, s_ldP 0), (1, s_ldP 0), (2, s_getI 3 1), (5, s_if_le 17), (8, s_ldP 0), (9, s_getI 3 1), (12, s_c (.inl 1)), (13, s_ii (fun x y => x - y)), (14, s_goto 19), (17, s_c (.inl 11)), (19, s_putI 3 1), (22, s_ldP 0), (23, s_dup), (24, s_getI 3 0), (27, s_c (.inl 1)), (28, s_ii (fun x y => x - y)), (29, s_putI 3 0), (32, s_ldP 1), (33, s_ldP 0), (34, s_getP 3 2), (37, s_ldP 0), (38, s_getI 3 1), (41, s_aald), (42, s_callV l g sg_X4_bringBack sg_X3_become 2), (45, s_vret)]
set_option maxRecDepth 100000 in
theorem ok_X4_bringBack {l : Launch} {g : EG} : e_okp l g sg_X4_bringBack "CalendarSync$History" (pg_X4_bringBack l g) := fun p e R s m args below meth c ex M0 Q X =>
    e_each_cons (r_aload_n X (k := 0) (i := 0) rfl dX4_bringBack_0 rfl)
    (e_each_cons (r_aload_n X (k := 0) (i := 0) rfl dX4_bringBack_1 rfl)
    (e_each_cons (r_getI X (index := 16) (ci := 3) (k := 1) dX4_bringBack_2 (by decide) (by decide) rfl w2_72 rfl)
    (e_each_cons (r_if_le X (off := 12) (t := 17) dX4_bringBack_5 (by decide) rfl)
    (e_each_cons (r_aload_n X (k := 0) (i := 0) rfl dX4_bringBack_8 rfl)
    (e_each_cons (r_getI X (index := 16) (ci := 3) (k := 1) dX4_bringBack_9 (by decide) (by decide) rfl w2_72 rfl)
    (e_each_cons (r_iconst X (n := 1) (v := 1) dX4_bringBack_12 (by decide) rfl)
    (e_each_cons (r_isub X dX4_bringBack_13 rfl)
    (e_each_cons (r_goto X (off := 5) (t := 19) dX4_bringBack_14 (by decide))
    (e_each_cons (r_bipush X (n := 11) (v := 11) dX4_bringBack_17 (by decide) rfl)
    (e_each_cons (r_putI X (index := 16) (ci := 3) (k := 1) dX4_bringBack_19 (by decide) (by decide) rfl rfl w2_72 rfl)
    (e_each_cons (r_aload_n X (k := 0) (i := 0) rfl dX4_bringBack_22 rfl)
    (e_each_cons (r_dup X dX4_bringBack_23 rfl)
    (e_each_cons (r_getI X (index := 24) (ci := 3) (k := 0) dX4_bringBack_24 (by decide) (by decide) rfl w2_70 rfl)
    (e_each_cons (r_iconst X (n := 1) (v := 1) dX4_bringBack_27 (by decide) rfl)
    (e_each_cons (r_isub X dX4_bringBack_28 rfl)
    (e_each_cons (r_putI X (index := 24) (ci := 3) (k := 0) dX4_bringBack_29 (by decide) (by decide) rfl rfl w2_70 rfl)
    (e_each_cons (r_aload_n X (k := 1) (i := 1) rfl dX4_bringBack_32 rfl)
    (e_each_cons (r_aload_n X (k := 0) (i := 0) rfl dX4_bringBack_33 rfl)
    (e_each_cons (r_getP X (index := 10) (ci := 3) (k := 2) dX4_bringBack_34 (by decide) (by decide) rfl w2_73 rfl)
    (e_each_cons (r_aload_n X (k := 0) (i := 0) rfl dX4_bringBack_37 rfl)
    (e_each_cons (r_getI X (index := 16) (ci := 3) (k := 1) dX4_bringBack_38 (by decide) (by decide) rfl w2_72 rfl)
    (e_each_cons (r_aald X dX4_bringBack_41 rfl)
    (e_each_cons (r_callV X rfl (τ := sg_X3_become) (index := 20) (ci := 2) dX4_bringBack_42 (by decide) rfl w5_159 w3_44 w3_45 cs_X3_become rfl ⟨by decide, by decide⟩ rfl)
    (e_each_cons (r_vret X dX4_bringBack_45 rfl)
    (e_each_nil)))))))))))))))))))))))))
theorem dX4_forget_0 : decode cX4_forget 0 = .ok (.aload_n 0, 1) := by decide +kernel
theorem dX4_forget_1 : decode cX4_forget 1 = .ok (.iconst 0, 1) := by decide +kernel
theorem dX4_forget_2 : decode cX4_forget 2 = .ok (.putfield 24, 3) := by decide +kernel
theorem dX4_forget_5 : decode cX4_forget 5 = .ok (.return_, 1) := by decide +kernel
def pg_X4_forget (l : Launch) (g : EG) : List (Nat × ES) := [(0, s_ldP 0), (1, s_c (.inl 0)), (2, s_putI 3 0), (5, s_vret)]
set_option maxRecDepth 100000 in
theorem ok_X4_forget {l : Launch} {g : EG} : e_okp l g sg_X4_forget "CalendarSync$History" (pg_X4_forget l g) := fun p e R s m args below meth c ex M0 Q X =>
    e_each_cons (r_aload_n X (k := 0) (i := 0) rfl dX4_forget_0 rfl)
    (e_each_cons (r_iconst X (n := 0) (v := 0) dX4_forget_1 (by decide) rfl)
    (e_each_cons (r_putI X (index := 24) (ci := 3) (k := 0) dX4_forget_2 (by decide) (by decide) rfl rfl w2_70 rfl)
    (e_each_cons (r_vret X dX4_forget_5 rfl)
    (e_each_nil))))
