/-! TABLES (by program): the rows of the floats. -/
section RF
variable {p : Program} {l : Launch} {e : Env} {g : EG} {σ : SG} {R : Room} {s : State} {m : MethodId} {args : Array Value} {below : List Frame} {meth : Method} {c : Code} {ex : Option Nat} {M0 : EM} {Q : EO → EM → Prop} {own : String} {pc np : Nat}
/-- the raw bits of a float -/
def s_frb : ES := fun _ _ nx ls st M nc ns => match st with
  | .inr (.inr (.inl b)) :: r => match Nat.ble (e_wt r) 8 with
    | true => nx ls (.inl b.toInt32 :: r) M nc ns
    | false => False
  | _ => False
theorem r_frb (X : Cx p l g σ R s m args meth c own) {index : Nat} (hd : decode (gcc σ) pc = .ok (.invokestatic index, 3)) (hlk : Cond.methodLink own index ⟨"java/lang/Float", "floatToRawIntBits", "(F)I"⟩ ∈ e_good) (hnat : Cond.native ⟨"java/lang/Float", "floatToRawIntBits", "(F)I"⟩ ∈ e_good) (hst : Cond.static ⟨"java/lang/Float", "floatToRawIntBits", "(F)I"⟩ ∈ e_good) (hin : Cond.initialized "java/lang/Float" ∈ e_good) (hR : 1 ≤ gfr σ ∧ 23 ≤ glo σ) (hn : pc + 3 = np) : RowOk p l e g σ R s m args below meth c ex M0 Q pc np s_frb := by
  intro J hJ ls st M nc ns h
  subst hn
  unfold s_frb at h
  split at h
  · split at h
    · rename_i b r z hb
      intro H locs lsM hl ok le vl vs hS hF
      have hG := X.2.2.2.2.2.2.1
      have hRR := X.2.2.2.2.2.2.2.1
      have hw' := Nat.le_of_ble_eq_true hb
      have hw2 := e_wt_le (r := r)
      have e1 : (grm σ).locals = glo σ := rfl
      have e2 : (grm σ).frames = gfr σ := rfl
      exact vn_f2i X.1 X.2.1 (X.2.2.2.1.trans hl.1.symm) X.2.2.2.2.1 (e_wd0 hG hlk) (e_wd0 hG hnat) (e_wd0 hG hst) (e_wd0 hG hin) (by rw [hRR]; omega) (by rw [hRR]; omega) hd (hJ _ _ _ _ _ _ h H locs lsM hl ok le vl ⟨trivial, vs.2⟩ hS hF)
    · exact h.elim
  · exact h.elim
end RF
theorem w1_27 : (Jvm.Cond.initialized "java/lang/Float") ∈ e_good := List.mem_filter.mpr ⟨tm_1 _ (List.mem_of_getElem? (i := 27) rfl), rfl⟩
theorem w7_193 : (Jvm.Cond.code ({ cls := "CalendarSyncModel", name := "busyBits", desc := "(III)I" } : Jvm.MethodName) prog_13_method_85_code (4 : Nat) (Option.some Jvm.ClassFile.FieldType.int)) ∈ e_good := List.mem_filter.mpr ⟨tm_7 _ (List.mem_of_getElem? (i := 193) rfl), rfl⟩
theorem w7_196 : (Jvm.Cond.code ({ cls := "java/lang/Float", name := "floatToIntBits", desc := "(F)I" } : Jvm.MethodName) prog_18_method_24_code (1 : Nat) (Option.some Jvm.ClassFile.FieldType.int)) ∈ e_good := List.mem_filter.mpr ⟨tm_7 _ (List.mem_of_getElem? (i := 196) rfl), rfl⟩
theorem w7_197 : (Jvm.Cond.methodLink "java/lang/Float" (59 : Nat) ({ cls := "java/lang/Float", name := "isNaN", desc := "(F)Z" } : Jvm.MethodName)) ∈ e_good := List.mem_filter.mpr ⟨tm_7 _ (List.mem_of_getElem? (i := 197) rfl), rfl⟩
theorem w7_198 : (Jvm.Cond.static ({ cls := "java/lang/Float", name := "isNaN", desc := "(F)Z" } : Jvm.MethodName)) ∈ e_good := List.mem_filter.mpr ⟨tm_7 _ (List.mem_of_getElem? (i := 198) rfl), rfl⟩
theorem w7_199 : (Jvm.Cond.code ({ cls := "java/lang/Float", name := "isNaN", desc := "(F)Z" } : Jvm.MethodName) prog_18_method_6_code (1 : Nat) (Option.some Jvm.ClassFile.FieldType.boolean)) ∈ e_good := List.mem_filter.mpr ⟨tm_7 _ (List.mem_of_getElem? (i := 199) rfl), rfl⟩
theorem w7_200 : (Jvm.Cond.methodLink "java/lang/Float" (74 : Nat) ({ cls := "java/lang/Float", name := "floatToRawIntBits", desc := "(F)I" } : Jvm.MethodName)) ∈ e_good := List.mem_filter.mpr ⟨tm_7 _ (List.mem_of_getElem? (i := 200) rfl), rfl⟩
theorem w7_201 : (Jvm.Cond.static ({ cls := "java/lang/Float", name := "floatToRawIntBits", desc := "(F)I" } : Jvm.MethodName)) ∈ e_good := List.mem_filter.mpr ⟨tm_7 _ (List.mem_of_getElem? (i := 201) rfl), rfl⟩
theorem w7_202 : (Jvm.Cond.native ({ cls := "java/lang/Float", name := "floatToRawIntBits", desc := "(F)I" } : Jvm.MethodName)) ∈ e_good := List.mem_filter.mpr ⟨tm_7 _ (List.mem_of_getElem? (i := 202) rfl), rfl⟩
theorem w7_203 : (Jvm.Cond.constant "java/lang/Float" (77 : Nat) (2143289344 : Int32)) ∈ e_good := List.mem_filter.mpr ⟨tm_7 _ (List.mem_of_getElem? (i := 203) rfl), rfl⟩
def sg_Jxf58ca_isNaN_12338 : SG := (yJxf58ca_isNaN_12338, cJxf58ca_isNaN_12338, 1, (some .boolean), 0, 0, 0, 0, 1, false, [])
theorem cs_Jxf58ca_isNaN_12338 : e_cs sg_Jxf58ca_isNaN_12338 := ⟨w7_199, w1_27, ⟨by decide, by decide⟩, by decide +kernel, rfl⟩
theorem mt_Jxf58ca_isNaN_12338 : e_mtF sg_Jxf58ca_isNaN_12338 "java/lang/Float" := ⟨rfl, by decide +kernel, rfl⟩
theorem dJxf58ca_isNaN_12338_0 : decode cJxf58ca_isNaN_12338 0 = .ok (.fload_n 0, 1) := by decide +kernel
theorem dJxf58ca_isNaN_12338_1 : decode cJxf58ca_isNaN_12338 1 = .ok (.fload_n 0, 1) := by decide +kernel
theorem dJxf58ca_isNaN_12338_2 : decode cJxf58ca_isNaN_12338 2 = .ok (.fcmp .l, 1) := by decide +kernel
theorem dJxf58ca_isNaN_12338_3 : decode cJxf58ca_isNaN_12338 3 = .ok (.ifCond .eq 7, 3) := by decide +kernel
theorem dJxf58ca_isNaN_12338_6 : decode cJxf58ca_isNaN_12338 6 = .ok (.iconst 1, 1) := by decide +kernel
theorem dJxf58ca_isNaN_12338_7 : decode cJxf58ca_isNaN_12338 7 = .ok (.goto 4, 3) := by decide +kernel
theorem dJxf58ca_isNaN_12338_10 : decode cJxf58ca_isNaN_12338 10 = .ok (.iconst 0, 1) := by decide +kernel
theorem dJxf58ca_isNaN_12338_11 : decode cJxf58ca_isNaN_12338 11 = .ok (.ireturn, 1) := by decide +kernel
def pg_Jxf58ca_isNaN_12338 (l : Launch) (g : EG) : List (Nat × ES) := [(0, s_ldF 0), (1, s_ldF 0), (2, s_ffi (fun x y => Op.cmpValue (FP.fcmp x y) .l)), (3, s_if_eq 10), (6, s_c (.inl 1)), (7, s_goto 11), (10, s_c (.inl 0)), (11, s_iretz)]
set_option maxRecDepth 100000 in
theorem ok_Jxf58ca_isNaN_12338 {l : Launch} {g : EG} : e_okp l g sg_Jxf58ca_isNaN_12338 "java/lang/Float" (pg_Jxf58ca_isNaN_12338 l g) := fun p e R s m args below meth c ex M0 Q X =>
    e_each_cons (r_fload_n X (k := 0) (i := 0) rfl dJxf58ca_isNaN_12338_0 rfl)
    (e_each_cons (r_fload_n X (k := 0) (i := 0) rfl dJxf58ca_isNaN_12338_1 rfl)
    (e_each_cons (r_fcmpl X dJxf58ca_isNaN_12338_2 rfl)
    (e_each_cons (r_if_eq X (off := 7) (t := 10) dJxf58ca_isNaN_12338_3 (by decide) rfl)
    (e_each_cons (r_iconst X (n := 1) (v := 1) dJxf58ca_isNaN_12338_6 (by decide) rfl)
    (e_each_cons (r_goto X (off := 4) (t := 11) dJxf58ca_isNaN_12338_7 (by decide))
    (e_each_cons (r_iconst X (n := 0) (v := 0) dJxf58ca_isNaN_12338_10 (by decide) rfl)
    (e_each_cons (r_iretz X dJxf58ca_isNaN_12338_11 rfl)
    (e_each_nil))))))))
def sg_Jxf58ca_floatToIntBits_5c35a : SG := (yJxf58ca_floatToIntBits_5c35a, cJxf58ca_floatToIntBits_5c35a, 1, (some .int), 1, 23, 0, 0, 1, false, [])
theorem cs_Jxf58ca_floatToIntBits_5c35a : e_cs sg_Jxf58ca_floatToIntBits_5c35a := ⟨w7_196, w1_27, ⟨by decide, by decide⟩, by decide +kernel, rfl⟩
theorem mt_Jxf58ca_floatToIntBits_5c35a : e_mtF sg_Jxf58ca_floatToIntBits_5c35a "java/lang/Float" := ⟨rfl, by decide +kernel, rfl⟩
theorem dJxf58ca_floatToIntBits_5c35a_0 : decode cJxf58ca_floatToIntBits_5c35a 0 = .ok (.fload_n 0, 1) := by decide +kernel
theorem dJxf58ca_floatToIntBits_5c35a_1 : decode cJxf58ca_floatToIntBits_5c35a 1 = .ok (.invokestatic 59, 3) := by decide +kernel
theorem dJxf58ca_floatToIntBits_5c35a_4 : decode cJxf58ca_floatToIntBits_5c35a 4 = .ok (.ifCond .ne 8, 3) := by decide +kernel
theorem dJxf58ca_floatToIntBits_5c35a_7 : decode cJxf58ca_floatToIntBits_5c35a 7 = .ok (.fload_n 0, 1) := by decide +kernel
theorem dJxf58ca_floatToIntBits_5c35a_8 : decode cJxf58ca_floatToIntBits_5c35a 8 = .ok (.invokestatic 74, 3) := by decide +kernel
theorem dJxf58ca_floatToIntBits_5c35a_11 : decode cJxf58ca_floatToIntBits_5c35a 11 = .ok (.ireturn, 1) := by decide +kernel
theorem dJxf58ca_floatToIntBits_5c35a_12 : decode cJxf58ca_floatToIntBits_5c35a 12 = .ok (.ldc 77, 2) := by decide +kernel
theorem dJxf58ca_floatToIntBits_5c35a_14 : decode cJxf58ca_floatToIntBits_5c35a 14 = .ok (.ireturn, 1) := by decide +kernel
def pg_Jxf58ca_floatToIntBits_5c35a (l : Launch) (g : EG) : List (Nat × ES) := [(0, s_ldF 0), (1, s_callS l g sg_Jxf58ca_floatToIntBits_5c35a sg_Jxf58ca_isNaN_12338), (4, s_if_ne 12), (7, s_ldF 0), (8, s_frb), (11, s_ireti), (12, s_c (.inl 2143289344)), (14, s_ireti)]
set_option maxRecDepth 100000 in
theorem ok_Jxf58ca_floatToIntBits_5c35a {l : Launch} {g : EG} : e_okp l g sg_Jxf58ca_floatToIntBits_5c35a "java/lang/Float" (pg_Jxf58ca_floatToIntBits_5c35a l g) := fun p e R s m args below meth c ex M0 Q X =>
    e_each_cons (r_fload_n X (k := 0) (i := 0) rfl dJxf58ca_floatToIntBits_5c35a_0 rfl)
    (e_each_cons (r_callS X rfl (τ := sg_Jxf58ca_isNaN_12338) (index := 59) dJxf58ca_floatToIntBits_5c35a_1 w7_197 w7_198 cs_Jxf58ca_isNaN_12338 rfl ⟨by decide, by decide⟩ rfl)
    (e_each_cons (r_if_ne X (off := 8) (t := 12) dJxf58ca_floatToIntBits_5c35a_4 (by decide) rfl)
    (e_each_cons (r_fload_n X (k := 0) (i := 0) rfl dJxf58ca_floatToIntBits_5c35a_7 rfl)
    (e_each_cons (r_frb X (index := 74) dJxf58ca_floatToIntBits_5c35a_8 w7_200 w7_202 w7_201 w1_27 ⟨by decide, by decide⟩ rfl)
    (e_each_cons (r_ireti X dJxf58ca_floatToIntBits_5c35a_11 rfl)
    (e_each_cons (r_ldc X (n := 77) (v := 2143289344) dJxf58ca_floatToIntBits_5c35a_12 w7_203 rfl)
    (e_each_cons (r_ireti X dJxf58ca_floatToIntBits_5c35a_14 rfl)
    (e_each_nil))))))))
def sg_X11_busyBits : SG := (yX11_busyBits, cX11_busyBits, 4, (some .int), 8, 180, 0, 0, 3, false, [])
theorem cs_X11_busyBits : e_cs sg_X11_busyBits := ⟨w7_193, w1_11, ⟨by decide, by decide⟩, by decide +kernel, rfl⟩
theorem mt_X11_busyBits : e_mt sg_X11_busyBits "CalendarSyncModel" := ⟨rfl, by decide +kernel, rfl⟩
theorem dX11_busyBits_0 : decode cX11_busyBits 0 = .ok (.aload_n 0, 1) := by decide +kernel
theorem dX11_busyBits_1 : decode cX11_busyBits 1 = .ok (.aload_n 0, 1) := by decide +kernel
theorem dX11_busyBits_2 : decode cX11_busyBits 2 = .ok (.iload_n 1, 1) := by decide +kernel
theorem dX11_busyBits_3 : decode cX11_busyBits 3 = .ok (.iload_n 2, 1) := by decide +kernel
theorem dX11_busyBits_4 : decode cX11_busyBits 4 = .ok (.iload_n 3, 1) := by decide +kernel
theorem dX11_busyBits_5 : decode cX11_busyBits 5 = .ok (.invokevirtual 333, 3) := by decide +kernel
theorem dX11_busyBits_8 : decode cX11_busyBits 8 = .ok (.ifCond .eq 7, 3) := by decide +kernel
theorem dX11_busyBits_11 : decode cX11_busyBits 11 = .ok (.iconst 0, 1) := by decide +kernel
theorem dX11_busyBits_12 : decode cX11_busyBits 12 = .ok (.goto 4, 3) := by decide +kernel
theorem dX11_busyBits_15 : decode cX11_busyBits 15 = .ok (.iconst 1, 1) := by decide +kernel
theorem dX11_busyBits_16 : decode cX11_busyBits 16 = .ok (.invokevirtual 71, 3) := by decide +kernel
theorem dX11_busyBits_19 : decode cX11_busyBits 19 = .ok (.ifCond .eq 5, 3) := by decide +kernel
theorem dX11_busyBits_22 : decode cX11_busyBits 22 = .ok (.iconst 0, 1) := by decide +kernel
theorem dX11_busyBits_23 : decode cX11_busyBits 23 = .ok (.ireturn, 1) := by decide +kernel
theorem dX11_busyBits_24 : decode cX11_busyBits 24 = .ok (.aload_n 0, 1) := by decide +kernel
theorem dX11_busyBits_25 : decode cX11_busyBits 25 = .ok (.iload_n 1, 1) := by decide +kernel
theorem dX11_busyBits_26 : decode cX11_busyBits 26 = .ok (.iload_n 2, 1) := by decide +kernel
theorem dX11_busyBits_27 : decode cX11_busyBits 27 = .ok (.iload_n 3, 1) := by decide +kernel
theorem dX11_busyBits_28 : decode cX11_busyBits 28 = .ok (.invokevirtual 336, 3) := by decide +kernel
theorem dX11_busyBits_31 : decode cX11_busyBits 31 = .ok (.invokestatic 340, 3) := by decide +kernel
theorem dX11_busyBits_34 : decode cX11_busyBits 34 = .ok (.ireturn, 1) := by decide +kernel
def pg_X11_busyBits (l : Launch) (g : EG) : List (Nat × ES) := [(0, s_ldP 0), (1, s_ldP 0), (2, s_ldI 1), (3, s_ldI 2), (4, s_ldI 3), (5, s_callV l g sg_X11_busyBits sg_X11_isTime 10), (8, s_if_eq 15), (11, s_c (.inl 0)), (12, s_goto 16), (15, s_c (.inl 1)), (16, s_callV l g sg_X11_busyBits sg_X11_isRefused 10), (19, s_if_eq 24), (22, s_c (.inl 0)), (23, s_ireti), (24, s_ldP 0), (25, s_ldI 1), (26, s_ldI 2), (27, s_ldI 3), (28, s_callV l g sg_X11_busyBits sg_X11_busyNow 10), (31, s_callS l g sg_X11_busyBits sg_Jxf58ca_floatToIntBits_5c35a), (34, s_ireti)]
set_option maxRecDepth 100000 in
theorem ok_X11_busyBits {l : Launch} {g : EG} : e_okp l g sg_X11_busyBits "CalendarSyncModel" (pg_X11_busyBits l g) := fun p e R s m args below meth c ex M0 Q X =>
    e_each_cons (r_aload_n X (k := 0) (i := 0) rfl dX11_busyBits_0 rfl)
    (e_each_cons (r_aload_n X (k := 0) (i := 0) rfl dX11_busyBits_1 rfl)
    (e_each_cons (r_iload_n X (k := 1) (i := 1) rfl dX11_busyBits_2 rfl)
    (e_each_cons (r_iload_n X (k := 2) (i := 2) rfl dX11_busyBits_3 rfl)
    (e_each_cons (r_iload_n X (k := 3) (i := 3) rfl dX11_busyBits_4 rfl)
    (e_each_cons (r_callV X rfl (τ := sg_X11_isTime) (index := 333) (ci := 10) dX11_busyBits_5 (by decide) rfl w7_171 w7_173 ws_71 cs_X11_isTime rfl ⟨by decide, by decide⟩ rfl)
    (e_each_cons (r_if_eq X (off := 7) (t := 15) dX11_busyBits_8 (by decide) rfl)
    (e_each_cons (r_iconst X (n := 0) (v := 0) dX11_busyBits_11 (by decide) rfl)
    (e_each_cons (r_goto X (off := 4) (t := 16) dX11_busyBits_12 (by decide))
    (e_each_cons (r_iconst X (n := 1) (v := 1) dX11_busyBits_15 (by decide) rfl)
    (e_each_cons (r_callV X rfl (τ := sg_X11_isRefused) (index := 71) (ci := 10) dX11_busyBits_16 (by decide) rfl w6_119 w6_121 ws_31 cs_X11_isRefused rfl ⟨by decide, by decide⟩ rfl)
    (e_each_cons (r_if_eq X (off := 5) (t := 24) dX11_busyBits_19 (by decide) rfl)
    (e_each_cons (r_iconst X (n := 0) (v := 0) dX11_busyBits_22 (by decide) rfl)
    (e_each_cons (r_ireti X dX11_busyBits_23 rfl)
    (e_each_cons (r_aload_n X (k := 0) (i := 0) rfl dX11_busyBits_24 rfl)
    (e_each_cons (r_iload_n X (k := 1) (i := 1) rfl dX11_busyBits_25 rfl)
    (e_each_cons (r_iload_n X (k := 2) (i := 2) rfl dX11_busyBits_26 rfl)
    (e_each_cons (r_iload_n X (k := 3) (i := 3) rfl dX11_busyBits_27 rfl)
    (e_each_cons (r_callV X rfl (τ := sg_X11_busyNow) (index := 336) (ci := 10) dX11_busyBits_28 (by decide) rfl w7_176 w7_178 ws_72 cs_X11_busyNow rfl ⟨by decide, by decide⟩ rfl)
    (e_each_cons (r_callS X rfl (τ := sg_Jxf58ca_floatToIntBits_5c35a) (index := 340) dX11_busyBits_31 w7_194 w7_195 cs_Jxf58ca_floatToIntBits_5c35a rfl ⟨by decide, by decide⟩ rfl)
    (e_each_cons (r_ireti X dX11_busyBits_34 rfl)
    (e_each_nil)))))))))))))))))))))
