/-! TABLES (by program): the rows of X8 -/
theorem dX8_isBlank_0 : decode cX8_isBlank 0 = .ok (.iload_n 0, 1) := by decide +kernel
theorem dX8_isBlank_1 : decode cX8_isBlank 1 = .ok (.bipush 32, 2) := by decide +kernel
theorem dX8_isBlank_3 : decode cX8_isBlank 3 = .ok (.if_icmp .eq 9, 3) := by decide +kernel
theorem dX8_isBlank_6 : decode cX8_isBlank 6 = .ok (.iload_n 0, 1) := by decide +kernel
theorem dX8_isBlank_7 : decode cX8_isBlank 7 = .ok (.bipush 10, 2) := by decide +kernel
theorem dX8_isBlank_9 : decode cX8_isBlank 9 = .ok (.if_icmp .ne 7, 3) := by decide +kernel
theorem dX8_isBlank_12 : decode cX8_isBlank 12 = .ok (.iconst 1, 1) := by decide +kernel
theorem dX8_isBlank_13 : decode cX8_isBlank 13 = .ok (.goto 4, 3) := by decide +kernel
theorem dX8_isBlank_16 : decode cX8_isBlank 16 = .ok (.iconst 0, 1) := by decide +kernel
theorem dX8_isBlank_17 : decode cX8_isBlank 17 = .ok (.ireturn, 1) := by decide +kernel
def pg_X8_isBlank (l : Launch) (g : EG) : List (Nat × ES) := [(0, s_ldI 0), (1, s_c (.inl 32)), (3, s_icmp_eq 12), (6, s_ldI 0), (7, s_c (.inl 10)), (9, s_icmp_ne 16), (12, s_c (.inl 1)), (13, s_goto 17), (16, s_c (.inl 0)), (17, s_iretz)]
set_option maxRecDepth 100000 in
theorem ok_X8_isBlank {l : Launch} {g : EG} : e_okp l g sg_X8_isBlank "CalendarSync$Text" (pg_X8_isBlank l g) := fun p e R s m args below meth c ex M0 Q X =>
    e_each_cons (r_iload_n X (k := 0) (i := 0) rfl dX8_isBlank_0 rfl)
    (e_each_cons (r_bipush X (n := 32) (v := 32) dX8_isBlank_1 (by decide) rfl)
    (e_each_cons (r_icmp_eq X (off := 9) (t := 12) dX8_isBlank_3 (by decide) rfl)
    (e_each_cons (r_iload_n X (k := 0) (i := 0) rfl dX8_isBlank_6 rfl)
    (e_each_cons (r_bipush X (n := 10) (v := 10) dX8_isBlank_7 (by decide) rfl)
    (e_each_cons (r_icmp_ne X (off := 7) (t := 16) dX8_isBlank_9 (by decide) rfl)
    (e_each_cons (r_iconst X (n := 1) (v := 1) dX8_isBlank_12 (by decide) rfl)
    (e_each_cons (r_goto X (off := 4) (t := 17) dX8_isBlank_13 (by decide))
    (e_each_cons (r_iconst X (n := 0) (v := 0) dX8_isBlank_16 (by decide) rfl)
    (e_each_cons (r_iretz X dX8_isBlank_17 rfl)
    (e_each_nil))))))))))
theorem dX8_isLetter_0 : decode cX8_isLetter 0 = .ok (.bipush 97, 2) := by decide +kernel
theorem dX8_isLetter_2 : decode cX8_isLetter 2 = .ok (.iload_n 0, 1) := by decide +kernel
theorem dX8_isLetter_3 : decode cX8_isLetter 3 = .ok (.if_icmp .gt 13, 3) := by decide +kernel
theorem dX8_isLetter_6 : decode cX8_isLetter 6 = .ok (.iload_n 0, 1) := by decide +kernel
theorem dX8_isLetter_7 : decode cX8_isLetter 7 = .ok (.bipush 122, 2) := by decide +kernel
theorem dX8_isLetter_9 : decode cX8_isLetter 9 = .ok (.if_icmp .gt 7, 3) := by decide +kernel
theorem dX8_isLetter_12 : decode cX8_isLetter 12 = .ok (.iconst 1, 1) := by decide +kernel
theorem dX8_isLetter_13 : decode cX8_isLetter 13 = .ok (.goto 4, 3) := by decide +kernel
theorem dX8_isLetter_16 : decode cX8_isLetter 16 = .ok (.iconst 0, 1) := by decide +kernel
theorem dX8_isLetter_17 : decode cX8_isLetter 17 = .ok (.ireturn, 1) := by decide +kernel
def pg_X8_isLetter (l : Launch) (g : EG) : List (Nat × ES) := [(0, s_c (.inl 97)), (2, s_ldI 0), (3, s_icmp_gt 16), (6, s_ldI 0), (7, s_c (.inl 122)), (9, s_icmp_gt 16), (12, s_c (.inl 1)), (13, s_goto 17), (16, s_c (.inl 0)), (17, s_iretz)]
set_option maxRecDepth 100000 in
theorem ok_X8_isLetter {l : Launch} {g : EG} : e_okp l g sg_X8_isLetter "CalendarSync$Text" (pg_X8_isLetter l g) := fun p e R s m args below meth c ex M0 Q X =>
    e_each_cons (r_bipush X (n := 97) (v := 97) dX8_isLetter_0 (by decide) rfl)
    (e_each_cons (r_iload_n X (k := 0) (i := 0) rfl dX8_isLetter_2 rfl)
    (e_each_cons (r_icmp_gt X (off := 13) (t := 16) dX8_isLetter_3 (by decide) rfl)
    (e_each_cons (r_iload_n X (k := 0) (i := 0) rfl dX8_isLetter_6 rfl)
    (e_each_cons (r_bipush X (n := 122) (v := 122) dX8_isLetter_7 (by decide) rfl)
    (e_each_cons (r_icmp_gt X (off := 7) (t := 16) dX8_isLetter_9 (by decide) rfl)
    (e_each_cons (r_iconst X (n := 1) (v := 1) dX8_isLetter_12 (by decide) rfl)
    (e_each_cons (r_goto X (off := 4) (t := 17) dX8_isLetter_13 (by decide))
    (e_each_cons (r_iconst X (n := 0) (v := 0) dX8_isLetter_16 (by decide) rfl)
    (e_each_cons (r_iretz X dX8_isLetter_17 rfl)
    (e_each_nil))))))))))
theorem dX8_isDigit_0 : decode cX8_isDigit 0 = .ok (.bipush 48, 2) := by decide +kernel
theorem dX8_isDigit_2 : decode cX8_isDigit 2 = .ok (.iload_n 0, 1) := by decide +kernel
theorem dX8_isDigit_3 : decode cX8_isDigit 3 = .ok (.if_icmp .gt 13, 3) := by decide +kernel
theorem dX8_isDigit_6 : decode cX8_isDigit 6 = .ok (.iload_n 0, 1) := by decide +kernel
theorem dX8_isDigit_7 : decode cX8_isDigit 7 = .ok (.bipush 57, 2) := by decide +kernel
theorem dX8_isDigit_9 : decode cX8_isDigit 9 = .ok (.if_icmp .gt 7, 3) := by decide +kernel
theorem dX8_isDigit_12 : decode cX8_isDigit 12 = .ok (.iconst 1, 1) := by decide +kernel
theorem dX8_isDigit_13 : decode cX8_isDigit 13 = .ok (.goto 4, 3) := by decide +kernel
theorem dX8_isDigit_16 : decode cX8_isDigit 16 = .ok (.iconst 0, 1) := by decide +kernel
theorem dX8_isDigit_17 : decode cX8_isDigit 17 = .ok (.ireturn, 1) := by decide +kernel
def pg_X8_isDigit (l : Launch) (g : EG) : List (Nat × ES) := [(0, s_c (.inl 48)), (2, s_ldI 0), (3, s_icmp_gt 16), (6, s_ldI 0), (7, s_c (.inl 57)), (9, s_icmp_gt 16), (12, s_c (.inl 1)), (13, s_goto 17), (16, s_c (.inl 0)), (17, s_iretz)]
set_option maxRecDepth 100000 in
theorem ok_X8_isDigit {l : Launch} {g : EG} : e_okp l g sg_X8_isDigit "CalendarSync$Text" (pg_X8_isDigit l g) := fun p e R s m args below meth c ex M0 Q X =>
    e_each_cons (r_bipush X (n := 48) (v := 48) dX8_isDigit_0 (by decide) rfl)
    (e_each_cons (r_iload_n X (k := 0) (i := 0) rfl dX8_isDigit_2 rfl)
    (e_each_cons (r_icmp_gt X (off := 13) (t := 16) dX8_isDigit_3 (by decide) rfl)
    (e_each_cons (r_iload_n X (k := 0) (i := 0) rfl dX8_isDigit_6 rfl)
    (e_each_cons (r_bipush X (n := 57) (v := 57) dX8_isDigit_7 (by decide) rfl)
    (e_each_cons (r_icmp_gt X (off := 7) (t := 16) dX8_isDigit_9 (by decide) rfl)
    (e_each_cons (r_iconst X (n := 1) (v := 1) dX8_isDigit_12 (by decide) rfl)
    (e_each_cons (r_goto X (off := 4) (t := 17) dX8_isDigit_13 (by decide))
    (e_each_cons (r_iconst X (n := 0) (v := 0) dX8_isDigit_16 (by decide) rfl)
    (e_each_cons (r_iretz X dX8_isDigit_17 rfl)
    (e_each_nil))))))))))
theorem dX8_step_0 : decode cX8_step 0 = .ok (.aload_n 0, 1) := by decide +kernel
theorem dX8_step_1 : decode cX8_step 1 = .ok (.getfield 28, 3) := by decide +kernel
theorem dX8_step_4 : decode cX8_step 4 = .ok (.aload_n 0, 1) := by decide +kernel
theorem dX8_step_5 : decode cX8_step 5 = .ok (.getfield 25, 3) := by decide +kernel
theorem dX8_step_8 : decode cX8_step 8 = .ok (.if_icmp .ge 31, 3) := by decide +kernel
theorem dX8_step_11 : decode cX8_step 11 = .ok (.aload_n 0, 1) := by decide +kernel
theorem dX8_step_12 : decode cX8_step 12 = .ok (.getfield 9, 3) := by decide +kernel
theorem dX8_step_15 : decode cX8_step 15 = .ok (.aload_n 0, 1) := by decide +kernel
theorem dX8_step_16 : decode cX8_step 16 = .ok (.getfield 28, 3) := by decide +kernel
theorem dX8_step_19 : decode cX8_step 19 = .ok (.baload, 1) := by decide +kernel
theorem dX8_step_20 : decode cX8_step 20 = .ok (.invokestatic 34, 3) := by decide +kernel
theorem dX8_step_23 : decode cX8_step 23 = .ok (.ifCond .eq 16, 3) := by decide +kernel
theorem dX8_step_26 : decode cX8_step 26 = .ok (.aload_n 0, 1) := by decide +kernel
theorem dX8_step_27 : decode cX8_step 27 = .ok (.dup, 1) := by decide +kernel
theorem dX8_step_28 : decode cX8_step 28 = .ok (.getfield 28, 3) := by decide +kernel
theorem dX8_step_31 : decode cX8_step 31 = .ok (.iconst 1, 1) := by decide +kernel
theorem dX8_step_32 : decode cX8_step 32 = .ok (.iadd, 1) := by decide +kernel
theorem dX8_step_33 : decode cX8_step 33 = .ok (.putfield 28, 3) := by decide +kernel
theorem dX8_step_36 : decode cX8_step 36 = .ok (.goto (-36), 3) := by decide +kernel
theorem dX8_step_39 : decode cX8_step 39 = .ok (.aload_n 0, 1) := by decide +kernel
theorem dX8_step_40 : decode cX8_step 40 = .ok (.aload_n 0, 1) := by decide +kernel
theorem dX8_step_41 : decode cX8_step 41 = .ok (.getfield 28, 3) := by decide +kernel
theorem dX8_step_44 : decode cX8_step 44 = .ok (.putfield 38, 3) := by decide +kernel
theorem dX8_step_47 : decode cX8_step 47 = .ok (.aload_n 0, 1) := by decide +kernel
theorem dX8_step_48 : decode cX8_step 48 = .ok (.iconst 0, 1) := by decide +kernel
theorem dX8_step_49 : decode cX8_step 49 = .ok (.putfield 41, 3) := by decide +kernel
theorem dX8_step_52 : decode cX8_step 52 = .ok (.aload_n 0, 1) := by decide +kernel
theorem dX8_step_53 : decode cX8_step 53 = .ok (.getfield 38, 3) := by decide +kernel
theorem dX8_step_56 : decode cX8_step 56 = .ok (.aload_n 0, 1) := by decide +kernel
theorem dX8_step_57 : decode cX8_step 57 = .ok (.getfield 25, 3) := by decide +kernel
theorem dX8_step_60 : decode cX8_step 60 = .ok (.if_icmp .lt 11, 3) := by decide +kernel
theorem dX8_step_63 : decode cX8_step 63 = .ok (.aload_n 0, 1) := by decide +kernel
theorem dX8_step_64 : decode cX8_step 64 = .ok (.iconst 0, 1) := by decide +kernel
theorem dX8_step_65 : decode cX8_step 65 = .ok (.putfield 44, 3) := by decide +kernel
theorem dX8_step_68 : decode cX8_step 68 = .ok (.goto 216, 3) := by decide +kernel
theorem dX8_step_71 : decode cX8_step 71 = .ok (.aload_n 0, 1) := by decide +kernel
theorem dX8_step_72 : decode cX8_step 72 = .ok (.getfield 9, 3) := by decide +kernel
theorem dX8_step_75 : decode cX8_step 75 = .ok (.aload_n 0, 1) := by decide +kernel
theorem dX8_step_76 : decode cX8_step 76 = .ok (.getfield 38, 3) := by decide +kernel
theorem dX8_step_79 : decode cX8_step 79 = .ok (.baload, 1) := by decide +kernel
theorem dX8_step_80 : decode cX8_step 80 = .ok (.invokestatic 47, 3) := by decide +kernel
theorem dX8_step_83 : decode cX8_step 83 = .ok (.ifCond .eq 47, 3) := by decide +kernel
theorem dX8_step_86 : decode cX8_step 86 = .ok (.aload_n 0, 1) := by decide +kernel
theorem dX8_step_87 : decode cX8_step 87 = .ok (.iconst 1, 1) := by decide +kernel
theorem dX8_step_88 : decode cX8_step 88 = .ok (.putfield 44, 3) := by decide +kernel
theorem dX8_step_91 : decode cX8_step 91 = .ok (.aload_n 0, 1) := by decide +kernel
theorem dX8_step_92 : decode cX8_step 92 = .ok (.getfield 28, 3) := by decide +kernel
theorem dX8_step_95 : decode cX8_step 95 = .ok (.aload_n 0, 1) := by decide +kernel
theorem dX8_step_96 : decode cX8_step 96 = .ok (.getfield 25, 3) := by decide +kernel
theorem dX8_step_99 : decode cX8_step 99 = .ok (.if_icmp .ge 185, 3) := by decide +kernel
theorem dX8_step_102 : decode cX8_step 102 = .ok (.aload_n 0, 1) := by decide +kernel
theorem dX8_step_103 : decode cX8_step 103 = .ok (.getfield 9, 3) := by decide +kernel
theorem dX8_step_106 : decode cX8_step 106 = .ok (.aload_n 0, 1) := by decide +kernel
theorem dX8_step_107 : decode cX8_step 107 = .ok (.getfield 28, 3) := by decide +kernel
theorem dX8_step_110 : decode cX8_step 110 = .ok (.baload, 1) := by decide +kernel
theorem dX8_step_111 : decode cX8_step 111 = .ok (.invokestatic 47, 3) := by decide +kernel
theorem dX8_step_114 : decode cX8_step 114 = .ok (.ifCond .eq 170, 3) := by decide +kernel
theorem dX8_step_117 : decode cX8_step 117 = .ok (.aload_n 0, 1) := by decide +kernel
theorem dX8_step_118 : decode cX8_step 118 = .ok (.dup, 1) := by decide +kernel
theorem dX8_step_119 : decode cX8_step 119 = .ok (.getfield 28, 3) := by decide +kernel
theorem dX8_step_122 : decode cX8_step 122 = .ok (.iconst 1, 1) := by decide +kernel
theorem dX8_step_123 : decode cX8_step 123 = .ok (.iadd, 1) := by decide +kernel
theorem dX8_step_124 : decode cX8_step 124 = .ok (.putfield 28, 3) := by decide +kernel
theorem dX8_step_127 : decode cX8_step 127 = .ok (.goto (-36), 3) := by decide +kernel
theorem dX8_step_130 : decode cX8_step 130 = .ok (.aload_n 0, 1) := by decide +kernel
theorem dX8_step_131 : decode cX8_step 131 = .ok (.getfield 9, 3) := by decide +kernel
theorem dX8_step_134 : decode cX8_step 134 = .ok (.aload_n 0, 1) := by decide +kernel
theorem dX8_step_135 : decode cX8_step 135 = .ok (.getfield 38, 3) := by decide +kernel
theorem dX8_step_138 : decode cX8_step 138 = .ok (.baload, 1) := by decide +kernel
theorem dX8_step_139 : decode cX8_step 139 = .ok (.invokestatic 50, 3) := by decide +kernel
theorem dX8_step_142 : decode cX8_step 142 = .ok (.ifCond .eq 91, 3) := by decide +kernel
theorem dX8_step_145 : decode cX8_step 145 = .ok (.aload_n 0, 1) := by decide +kernel
theorem dX8_step_146 : decode cX8_step 146 = .ok (.getfield 28, 3) := by decide +kernel
theorem dX8_step_149 : decode cX8_step 149 = .ok (.aload_n 0, 1) := by decide +kernel
theorem dX8_step_150 : decode cX8_step 150 = .ok (.getfield 25, 3) := by decide +kernel
theorem dX8_step_153 : decode cX8_step 153 = .ok (.if_icmp .ge 55, 3) := by decide +kernel
theorem dX8_step_156 : decode cX8_step 156 = .ok (.aload_n 0, 1) := by decide +kernel
theorem dX8_step_157 : decode cX8_step 157 = .ok (.getfield 9, 3) := by decide +kernel
theorem dX8_step_160 : decode cX8_step 160 = .ok (.aload_n 0, 1) := by decide +kernel
theorem dX8_step_161 : decode cX8_step 161 = .ok (.getfield 28, 3) := by decide +kernel
theorem dX8_step_164 : decode cX8_step 164 = .ok (.baload, 1) := by decide +kernel
theorem dX8_step_165 : decode cX8_step 165 = .ok (.invokestatic 50, 3) := by decide +kernel
theorem dX8_step_168 : decode cX8_step 168 = .ok (.ifCond .eq 40, 3) := by decide +kernel
theorem dX8_step_171 : decode cX8_step 171 = .ok (.aload_n 0, 1) := by decide +kernel
theorem dX8_step_172 : decode cX8_step 172 = .ok (.aload_n 0, 1) := by decide +kernel
theorem dX8_step_173 : decode cX8_step 173 = .ok (.getfield 41, 3) := by decide +kernel
theorem dX8_step_176 : decode cX8_step 176 = .ok (.bipush 10, 2) := by decide +kernel
theorem dX8_step_178 : decode cX8_step 178 = .ok (.imul, 1) := by decide +kernel
theorem dX8_step_179 : decode cX8_step 179 = .ok (.aload_n 0, 1) := by decide +kernel
theorem dX8_step_180 : decode cX8_step 180 = .ok (.getfield 9, 3) := by decide +kernel
theorem dX8_step_183 : decode cX8_step 183 = .ok (.aload_n 0, 1) := by decide +kernel
theorem dX8_step_184 : decode cX8_step 184 = .ok (.getfield 28, 3) := by decide +kernel
theorem dX8_step_187 : decode cX8_step 187 = .ok (.baload, 1) := by decide +kernel
theorem dX8_step_188 : decode cX8_step 188 = .ok (.iadd, 1) := by decide +kernel
theorem dX8_step_189 : decode cX8_step 189 = .ok (.bipush 48, 2) := by decide +kernel
theorem dX8_step_191 : decode cX8_step 191 = .ok (.isub, 1) := by decide +kernel
theorem dX8_step_192 : decode cX8_step 192 = .ok (.putfield 41, 3) := by decide +kernel
theorem dX8_step_195 : decode cX8_step 195 = .ok (.aload_n 0, 1) := by decide +kernel
theorem dX8_step_196 : decode cX8_step 196 = .ok (.dup, 1) := by decide +kernel
theorem dX8_step_197 : decode cX8_step 197 = .ok (.getfield 28, 3) := by decide +kernel
theorem dX8_step_200 : decode cX8_step 200 = .ok (.iconst 1, 1) := by decide +kernel
theorem dX8_step_201 : decode cX8_step 201 = .ok (.iadd, 1) := by decide +kernel
theorem dX8_step_202 : decode cX8_step 202 = .ok (.putfield 28, 3) := by decide +kernel
theorem dX8_step_205 : decode cX8_step 205 = .ok (.goto (-60), 3) := by decide +kernel
theorem dX8_step_208 : decode cX8_step 208 = .ok (.aload_n 0, 1) := by decide +kernel
theorem dX8_step_209 : decode cX8_step 209 = .ok (.aload_n 0, 1) := by decide +kernel
theorem dX8_step_210 : decode cX8_step 210 = .ok (.getfield 28, 3) := by decide +kernel
theorem dX8_step_213 : decode cX8_step 213 = .ok (.aload_n 0, 1) := by decide +kernel
theorem dX8_step_214 : decode cX8_step 214 = .ok (.getfield 38, 3) := by decide +kernel
theorem dX8_step_217 : decode cX8_step 217 = .ok (.isub, 1) := by decide +kernel
theorem dX8_step_218 : decode cX8_step 218 = .ok (.iconst 4, 1) := by decide +kernel
theorem dX8_step_219 : decode cX8_step 219 = .ok (.if_icmp .le 7, 3) := by decide +kernel
theorem dX8_step_222 : decode cX8_step 222 = .ok (.iconst 5, 1) := by decide +kernel
theorem dX8_step_223 : decode cX8_step 223 = .ok (.goto 4, 3) := by decide +kernel
theorem dX8_step_226 : decode cX8_step 226 = .ok (.iconst 2, 1) := by decide +kernel
theorem dX8_step_227 : decode cX8_step 227 = .ok (.putfield 44, 3) := by decide +kernel
theorem dX8_step_230 : decode cX8_step 230 = .ok (.goto 54, 3) := by decide +kernel
theorem dX8_step_233 : decode cX8_step 233 = .ok (.aload_n 0, 1) := by decide +kernel
theorem dX8_step_234 : decode cX8_step 234 = .ok (.aload_n 0, 1) := by decide +kernel
theorem dX8_step_235 : decode cX8_step 235 = .ok (.getfield 9, 3) := by decide +kernel
theorem dX8_step_238 : decode cX8_step 238 = .ok (.aload_n 0, 1) := by decide +kernel
theorem dX8_step_239 : decode cX8_step 239 = .ok (.getfield 38, 3) := by decide +kernel
theorem dX8_step_242 : decode cX8_step 242 = .ok (.baload, 1) := by decide +kernel
theorem dX8_step_243 : decode cX8_step 243 = .ok (.bipush 59, 2) := by decide +kernel
theorem dX8_step_245 : decode cX8_step 245 = .ok (.if_icmp .ne 7, 3) := by decide +kernel
theorem dX8_step_248 : decode cX8_step 248 = .ok (.iconst 3, 1) := by decide +kernel
theorem dX8_step_249 : decode cX8_step 249 = .ok (.goto 22, 3) := by decide +kernel
theorem dX8_step_252 : decode cX8_step 252 = .ok (.aload_n 0, 1) := by decide +kernel
theorem dX8_step_253 : decode cX8_step 253 = .ok (.getfield 9, 3) := by decide +kernel
theorem dX8_step_256 : decode cX8_step 256 = .ok (.aload_n 0, 1) := by decide +kernel
theorem dX8_step_257 : decode cX8_step 257 = .ok (.getfield 38, 3) := by decide +kernel
theorem dX8_step_260 : decode cX8_step 260 = .ok (.baload, 1) := by decide +kernel
theorem dX8_step_261 : decode cX8_step 261 = .ok (.bipush 45, 2) := by decide +kernel
theorem dX8_step_263 : decode cX8_step 263 = .ok (.if_icmp .ne 7, 3) := by decide +kernel
theorem dX8_step_266 : decode cX8_step 266 = .ok (.iconst 4, 1) := by decide +kernel
theorem dX8_step_267 : decode cX8_step 267 = .ok (.goto 4, 3) := by decide +kernel
theorem dX8_step_270 : decode cX8_step 270 = .ok (.iconst 5, 1) := by decide +kernel
theorem dX8_step_271 : decode cX8_step 271 = .ok (.putfield 44, 3) := by decide +kernel
theorem dX8_step_274 : decode cX8_step 274 = .ok (.aload_n 0, 1) := by decide +kernel
theorem dX8_step_275 : decode cX8_step 275 = .ok (.dup, 1) := by decide +kernel
theorem dX8_step_276 : decode cX8_step 276 = .ok (.getfield 28, 3) := by decide +kernel
theorem dX8_step_279 : decode cX8_step 279 = .ok (.iconst 1, 1) := by decide +kernel
theorem dX8_step_280 : decode cX8_step 280 = .ok (.iadd, 1) := by decide +kernel
theorem dX8_step_281 : decode cX8_step 281 = .ok (.putfield 28, 3) := by decide +kernel
theorem dX8_step_284 : decode cX8_step 284 = .ok (.return_, 1) := by decide +kernel
def pg_X8_step (l : Launch) (g : EG) : List (Nat × ES) := [(0, s_ldP 0), (1, s_getI 7 6), (4, s_ldP 0), (5, s_getI 7 5), (8, s_icmp_ge 39), (11, s_ldP 0), (12, s_getP 7 4), (15, s_ldP 0), (16, s_getI 7 6), (19, s_bald), (20, s_callS l g sg_X8_step sg_X8_isBlank), (23, s_if_eq 39), (26, s_ldP 0), (27, s_dup), (28, s_getI 7 6), (31, s_c (.inl 1)), (32, s_ii (fun x y => x + y)), (33, s_putI 7 6), (36, s_goto 0), (39, s_ldP 0), (40, s_ldP 0), (41, s_getI 7 6), (44, s_putI 7 2), (47, s_ldP 0), (48, s_c (.inl 0)), (49, s_putI 7 3), (52, s_ldP 0), (53, s_getI 7 2), (56, s_ldP 0), (57, s_getI 7 5), (60, s_icmp_lt 71), (63, s_ldP 0), (64, s_c (.inl 0)), (65, s_putI 7 1), (68, s_goto 284), (71, s_ldP 0), (72, s_getP 7 4), (75, s_ldP 0), (76, s_getI 7 2), (79, s_bald), (80, s_callS l g sg_X8_step sg_X8_isLetter), (83, s_if_eq 130), (86, s_ldP 0), (87, s_c (.inl 1)), (88, s_putI 7 1), (91, s_ldP 0), (92, s_getI 7 6), (95, s_ldP 0), (96, s_getI 7 5), (99, s_icmp_ge 284), (102, s_ldP 0), (103, s_getP 7 4), (106, s_ldP 0), (107, s_getI 7 6), (110, s_bald), (111, s_callS l g sg_X8_step sg_X8_isLetter), (114, s_if_eq 284), (117, s_ldP 0), (118, s_dup), (119, s_getI 7 6), (122, s_c (.inl 1)), (123, s_ii (fun x y => x + y)), (124, s_putI 7 6), (127, s_goto 91), (130, s_ldP 0), (131, s_getP 7 4), (134, s_ldP 0), (135, s_getI 7 2), (138, s_bald), (139, s_callS l g sg_X8_step sg_X8_isDigit), (142, s_if_eq 233), (145, s_ldP 0), (146, s_getI 7 6), (149, s_ldP 0), (150, s_getI 7 5), (153, s_icmp_ge 208), (156, s_ldP 0), (157, s_getP 7 4), (160, s_ldP 0), (161, s_getI 7 6), (164, s_bald), (165, s_callS l g sg_X8_step sg_X8_isDigit), (168, s_if_eq 208), (171, s_ldP 0), (172, s_ldP 0), (173, s_getI 7 3), (176, s_c (.inl 10)), (178, s_ii (fun x y => x * y)), (179, s_ldP 0), (180, s_getP 7 4), (183, s_ldP 0), (184, s_getI 7 6), (187, s_bald), (188, s_ii (fun x y => x + y)), (189, s_c (.inl 48)), (191, s_ii (fun x y => x - y)), (192, s_putI 7 3), (195, s_ldP 0), (196, s_dup), (197, s_getI 7 6), (200, s_c (.inl 1)), (201, s_ii (fun x y => x + y)), (202, s_putI 7 6), (205, s_goto 145), (208, s_ldP 0), (209, s_ldP 0), (210, s_getI 7 6), (213, s_ldP 0), (214, s_getI 7 2), (217, s_ii (fun x y => x - y)), (218, s_c (.inl 4)), (219, s_icmp_le 226), (222, s_c (.inl 5)), (223, s_goto 227), (226, s_c (.inl 2)), (227, s_putI 7 1), (230, s_goto 284), (233, s_ldP 0), (234, s_ldP 0), (235, s_getP 7 4), (238, s_ldP 0), (239, s_getI 7 2), (242, s_bald), (243, s_c (.inl 59)), (245, s_icmp_ne 252), (248, s_c (.inl 3)), (249, s_goto 271), (252, s_ldP 0), (253, s_getP 7 4), (256, s_ldP 0), (257, s_getI 7 2), (260, s_bald), (261, s_c (.inl 45)), (263, s_icmp_ne 270), (266, s_c (.inl 4)), (267, s_goto 271), (270, s_c (.inl 5)), (271, s_putI 7 1), (274, s_ldP 0), (275, s_dup), (276, s_getI 7 6), (279, s_c (.inl 1)), (280, s_ii (fun x y => x + y)), (281, s_putI 7 6), (284, s_vret)]
set_option maxRecDepth 100000 in
theorem ok_X8_step {l : Launch} {g : EG} : e_okp l g sg_X8_step "CalendarSync$Text" (pg_X8_step l g) := fun p e R s m args below meth c ex M0 Q X =>
    e_each_cons (r_aload_n X (k := 0) (i := 0) rfl dX8_step_0 rfl)
    (e_each_cons (r_getI X (index := 28) (ci := 7) (k := 6) dX8_step_1 (by decide) (by decide) rfl w1_194 rfl)
    (e_each_cons (r_aload_n X (k := 0) (i := 0) rfl dX8_step_4 rfl)
    (e_each_cons (r_getI X (index := 25) (ci := 7) (k := 5) dX8_step_5 (by decide) (by decide) rfl w1_193 rfl)
    (e_each_cons (r_icmp_ge X (off := 31) (t := 39) dX8_step_8 (by decide) rfl)
    (e_each_cons (r_aload_n X (k := 0) (i := 0) rfl dX8_step_11 rfl)
    (e_each_cons (r_getP X (index := 9) (ci := 7) (k := 4) dX8_step_12 (by decide) (by decide) rfl w1_192 rfl)
    (e_each_cons (r_aload_n X (k := 0) (i := 0) rfl dX8_step_15 rfl)
    (e_each_cons (r_getI X (index := 28) (ci := 7) (k := 6) dX8_step_16 (by decide) (by decide) rfl w1_194 rfl)
    (e_each_cons (r_bald X dX8_step_19 rfl)
    (e_each_cons (r_callS X rfl (τ := sg_X8_isBlank) (index := 34) dX8_step_20 w3_217 w3_218 cs_X8_isBlank rfl ⟨by decide, by decide⟩ rfl)
    (e_each_cons (r_if_eq X (off := 16) (t := 39) dX8_step_23 (by decide) rfl)
    (e_each_cons (r_aload_n X (k := 0) (i := 0) rfl dX8_step_26 rfl)
    (e_each_cons (r_dup X dX8_step_27 rfl)
    (e_each_cons (r_getI X (index := 28) (ci := 7) (k := 6) dX8_step_28 (by decide) (by decide) rfl w1_194 rfl)
    (e_each_cons (r_iconst X (n := 1) (v := 1) dX8_step_31 (by decide) rfl)
    (e_each_cons (r_iadd X dX8_step_32 rfl)
    (e_each_cons (r_putI X (index := 28) (ci := 7) (k := 6) dX8_step_33 (by decide) (by decide) rfl rfl w1_194 rfl)
    (e_each_cons (r_goto X (off := (-36)) (t := 0) dX8_step_36 (by decide))
    (e_each_cons (r_aload_n X (k := 0) (i := 0) rfl dX8_step_39 rfl)
    (e_each_cons (r_aload_n X (k := 0) (i := 0) rfl dX8_step_40 rfl)
    (e_each_cons (r_getI X (index := 28) (ci := 7) (k := 6) dX8_step_41 (by decide) (by decide) rfl w1_194 rfl)
    (e_each_cons (r_putI X (index := 38) (ci := 7) (k := 2) dX8_step_44 (by decide) (by decide) rfl rfl w1_189 rfl)
    (e_each_cons (r_aload_n X (k := 0) (i := 0) rfl dX8_step_47 rfl)
    (e_each_cons (r_iconst X (n := 0) (v := 0) dX8_step_48 (by decide) rfl)
    (e_each_cons (r_putI X (index := 41) (ci := 7) (k := 3) dX8_step_49 (by decide) (by decide) rfl rfl w1_190 rfl)
    (e_each_cons (r_aload_n X (k := 0) (i := 0) rfl dX8_step_52 rfl)
    (e_each_cons (r_getI X (index := 38) (ci := 7) (k := 2) dX8_step_53 (by decide) (by decide) rfl w1_189 rfl)
    (e_each_cons (r_aload_n X (k := 0) (i := 0) rfl dX8_step_56 rfl)
    (e_each_cons (r_getI X (index := 25) (ci := 7) (k := 5) dX8_step_57 (by decide) (by decide) rfl w1_193 rfl)
    (e_each_cons (r_icmp_lt X (off := 11) (t := 71) dX8_step_60 (by decide) rfl)
    (e_each_cons (r_aload_n X (k := 0) (i := 0) rfl dX8_step_63 rfl)
    (e_each_cons (r_iconst X (n := 0) (v := 0) dX8_step_64 (by decide) rfl)
    (e_each_cons (r_putI X (index := 44) (ci := 7) (k := 1) dX8_step_65 (by decide) (by decide) rfl rfl w1_187 rfl)
    (e_each_cons (r_goto X (off := 216) (t := 284) dX8_step_68 (by decide))
    (e_each_cons (r_aload_n X (k := 0) (i := 0) rfl dX8_step_71 rfl)
    (e_each_cons (r_getP X (index := 9) (ci := 7) (k := 4) dX8_step_72 (by decide) (by decide) rfl w1_192 rfl)
    (e_each_cons (r_aload_n X (k := 0) (i := 0) rfl dX8_step_75 rfl)
    (e_each_cons (r_getI X (index := 38) (ci := 7) (k := 2) dX8_step_76 (by decide) (by decide) rfl w1_189 rfl)
    (e_each_cons (r_bald X dX8_step_79 rfl)
    (e_each_cons (r_callS X rfl (τ := sg_X8_isLetter) (index := 47) dX8_step_80 w3_220 w3_221 cs_X8_isLetter rfl ⟨by decide, by decide⟩ rfl)
    (e_each_cons (r_if_eq X (off := 47) (t := 130) dX8_step_83 (by decide) rfl)
    (e_each_cons (r_aload_n X (k := 0) (i := 0) rfl dX8_step_86 rfl)
    (e_each_cons (r_iconst X (n := 1) (v := 1) dX8_step_87 (by decide) rfl)
    (e_each_cons (r_putI X (index := 44) (ci := 7) (k := 1) dX8_step_88 (by decide) (by decide) rfl rfl w1_187 rfl)
    (e_each_cons (r_aload_n X (k := 0) (i := 0) rfl dX8_step_91 rfl)
    (e_each_cons (r_getI X (index := 28) (ci := 7) (k := 6) dX8_step_92 (by decide) (by decide) rfl w1_194 rfl)
    (e_each_cons (r_aload_n X (k := 0) (i := 0) rfl dX8_step_95 rfl)
    (e_each_cons (r_getI X (index := 25) (ci := 7) (k := 5) dX8_step_96 (by decide) (by decide) rfl w1_193 rfl)
    (e_each_cons (r_icmp_ge X (off := 185) (t := 284) dX8_step_99 (by decide) rfl)
    (e_each_cons (r_aload_n X (k := 0) (i := 0) rfl dX8_step_102 rfl)
    (e_each_cons (r_getP X (index := 9) (ci := 7) (k := 4) dX8_step_103 (by decide) (by decide) rfl w1_192 rfl)
    (e_each_cons (r_aload_n X (k := 0) (i := 0) rfl dX8_step_106 rfl)
    (e_each_cons (r_getI X (index := 28) (ci := 7) (k := 6) dX8_step_107 (by decide) (by decide) rfl w1_194 rfl)
    (e_each_cons (r_bald X dX8_step_110 rfl)
    (e_each_cons (r_callS X rfl (τ := sg_X8_isLetter) (index := 47) dX8_step_111 w3_220 w3_221 cs_X8_isLetter rfl ⟨by decide, by decide⟩ rfl)
    (e_each_cons (r_if_eq X (off := 170) (t := 284) dX8_step_114 (by decide) rfl)
    (e_each_cons (r_aload_n X (k := 0) (i := 0) rfl dX8_step_117 rfl)
    (e_each_cons (r_dup X dX8_step_118 rfl)
    (e_each_cons (r_getI X (index := 28) (ci := 7) (k := 6) dX8_step_119 (by decide) (by decide) rfl w1_194 rfl)
    (e_each_cons (r_iconst X (n := 1) (v := 1) dX8_step_122 (by decide) rfl)
    (e_each_cons (r_iadd X dX8_step_123 rfl)
    (e_each_cons (r_putI X (index := 28) (ci := 7) (k := 6) dX8_step_124 (by decide) (by decide) rfl rfl w1_194 rfl)
    (e_each_cons (r_goto X (off := (-36)) (t := 91) dX8_step_127 (by decide))
    (e_each_cons (r_aload_n X (k := 0) (i := 0) rfl dX8_step_130 rfl)
    (e_each_cons (r_getP X (index := 9) (ci := 7) (k := 4) dX8_step_131 (by decide) (by decide) rfl w1_192 rfl)
    (e_each_cons (r_aload_n X (k := 0) (i := 0) rfl dX8_step_134 rfl)
    (e_each_cons (r_getI X (index := 38) (ci := 7) (k := 2) dX8_step_135 (by decide) (by decide) rfl w1_189 rfl)
    (e_each_cons (r_bald X dX8_step_138 rfl)
    (e_each_cons (r_callS X rfl (τ := sg_X8_isDigit) (index := 50) dX8_step_139 w3_223 w3_224 cs_X8_isDigit rfl ⟨by decide, by decide⟩ rfl)
    (e_each_cons (r_if_eq X (off := 91) (t := 233) dX8_step_142 (by decide) rfl)
    (e_each_cons (r_aload_n X (k := 0) (i := 0) rfl dX8_step_145 rfl)
    (e_each_cons (r_getI X (index := 28) (ci := 7) (k := 6) dX8_step_146 (by decide) (by decide) rfl w1_194 rfl)
    (e_each_cons (r_aload_n X (k := 0) (i := 0) rfl dX8_step_149 rfl)
    (e_each_cons (r_getI X (index := 25) (ci := 7) (k := 5) dX8_step_150 (by decide) (by decide) rfl w1_193 rfl)
    (e_each_cons (r_icmp_ge X (off := 55) (t := 208) dX8_step_153 (by decide) rfl)
    (e_each_cons (r_aload_n X (k := 0) (i := 0) rfl dX8_step_156 rfl)
    (e_each_cons (r_getP X (index := 9) (ci := 7) (k := 4) dX8_step_157 (by decide) (by decide) rfl w1_192 rfl)
    (e_each_cons (r_aload_n X (k := 0) (i := 0) rfl dX8_step_160 rfl)
    (e_each_cons (r_getI X (index := 28) (ci := 7) (k := 6) dX8_step_161 (by decide) (by decide) rfl w1_194 rfl)
    (e_each_cons (r_bald X dX8_step_164 rfl)
    (e_each_cons (r_callS X rfl (τ := sg_X8_isDigit) (index := 50) dX8_step_165 w3_223 w3_224 cs_X8_isDigit rfl ⟨by decide, by decide⟩ rfl)
    (e_each_cons (r_if_eq X (off := 40) (t := 208) dX8_step_168 (by decide) rfl)
    (e_each_cons (r_aload_n X (k := 0) (i := 0) rfl dX8_step_171 rfl)
    (e_each_cons (r_aload_n X (k := 0) (i := 0) rfl dX8_step_172 rfl)
    (e_each_cons (r_getI X (index := 41) (ci := 7) (k := 3) dX8_step_173 (by decide) (by decide) rfl w1_190 rfl)
    (e_each_cons (r_bipush X (n := 10) (v := 10) dX8_step_176 (by decide) rfl)
    (e_each_cons (r_imul X dX8_step_178 rfl)
    (e_each_cons (r_aload_n X (k := 0) (i := 0) rfl dX8_step_179 rfl)
    (e_each_cons (r_getP X (index := 9) (ci := 7) (k := 4) dX8_step_180 (by decide) (by decide) rfl w1_192 rfl)
    (e_each_cons (r_aload_n X (k := 0) (i := 0) rfl dX8_step_183 rfl)
    (e_each_cons (r_getI X (index := 28) (ci := 7) (k := 6) dX8_step_184 (by decide) (by decide) rfl w1_194 rfl)
    (e_each_cons (r_bald X dX8_step_187 rfl)
    (e_each_cons (r_iadd X dX8_step_188 rfl)
    (e_each_cons (r_bipush X (n := 48) (v := 48) dX8_step_189 (by decide) rfl)
    (e_each_cons (r_isub X dX8_step_191 rfl)
    (e_each_cons (r_putI X (index := 41) (ci := 7) (k := 3) dX8_step_192 (by decide) (by decide) rfl rfl w1_190 rfl)
    (e_each_cons (r_aload_n X (k := 0) (i := 0) rfl dX8_step_195 rfl)
    (e_each_cons (r_dup X dX8_step_196 rfl)
    (e_each_cons (r_getI X (index := 28) (ci := 7) (k := 6) dX8_step_197 (by decide) (by decide) rfl w1_194 rfl)
    (e_each_cons (r_iconst X (n := 1) (v := 1) dX8_step_200 (by decide) rfl)
    (e_each_cons (r_iadd X dX8_step_201 rfl)
    (e_each_cons (r_putI X (index := 28) (ci := 7) (k := 6) dX8_step_202 (by decide) (by decide) rfl rfl w1_194 rfl)
    (e_each_cons (r_goto X (off := (-60)) (t := 145) dX8_step_205 (by decide))
    (e_each_cons (r_aload_n X (k := 0) (i := 0) rfl dX8_step_208 rfl)
    (e_each_cons (r_aload_n X (k := 0) (i := 0) rfl dX8_step_209 rfl)
    (e_each_cons (r_getI X (index := 28) (ci := 7) (k := 6) dX8_step_210 (by decide) (by decide) rfl w1_194 rfl)
    (e_each_cons (r_aload_n X (k := 0) (i := 0) rfl dX8_step_213 rfl)
    (e_each_cons (r_getI X (index := 38) (ci := 7) (k := 2) dX8_step_214 (by decide) (by decide) rfl w1_189 rfl)
    (e_each_cons (r_isub X dX8_step_217 rfl)
    (e_each_cons (r_iconst X (n := 4) (v := 4) dX8_step_218 (by decide) rfl)
    (e_each_cons (r_icmp_le X (off := 7) (t := 226) dX8_step_219 (by decide) rfl)
    (e_each_cons (r_iconst X (n := 5) (v := 5) dX8_step_222 (by decide) rfl)
    (e_each_cons (r_goto X (off := 4) (t := 227) dX8_step_223 (by decide))
    (e_each_cons (r_iconst X (n := 2) (v := 2) dX8_step_226 (by decide) rfl)
    (e_each_cons (r_putI X (index := 44) (ci := 7) (k := 1) dX8_step_227 (by decide) (by decide) rfl rfl w1_187 rfl)
    (e_each_cons (r_goto X (off := 54) (t := 284) dX8_step_230 (by decide))
    (e_each_cons (r_aload_n X (k := 0) (i := 0) rfl dX8_step_233 rfl)
    (e_each_cons (r_aload_n X (k := 0) (i := 0) rfl dX8_step_234 rfl)
    (e_each_cons (r_getP X (index := 9) (ci := 7) (k := 4) dX8_step_235 (by decide) (by decide) rfl w1_192 rfl)
    (e_each_cons (r_aload_n X (k := 0) (i := 0) rfl dX8_step_238 rfl)
    (e_each_cons (r_getI X (index := 38) (ci := 7) (k := 2) dX8_step_239 (by decide) (by decide) rfl w1_189 rfl)
    (e_each_cons (r_bald X dX8_step_242 rfl)
    (e_each_cons (r_bipush X (n := 59) (v := 59) dX8_step_243 (by decide) rfl)
    (e_each_cons (r_icmp_ne X (off := 7) (t := 252) dX8_step_245 (by decide) rfl)
    (e_each_cons (r_iconst X (n := 3) (v := 3) dX8_step_248 (by decide) rfl)
    (e_each_cons (r_goto X (off := 22) (t := 271) dX8_step_249 (by decide))
    (e_each_cons (r_aload_n X (k := 0) (i := 0) rfl dX8_step_252 rfl)
    (e_each_cons (r_getP X (index := 9) (ci := 7) (k := 4) dX8_step_253 (by decide) (by decide) rfl w1_192 rfl)
    (e_each_cons (r_aload_n X (k := 0) (i := 0) rfl dX8_step_256 rfl)
    (e_each_cons (r_getI X (index := 38) (ci := 7) (k := 2) dX8_step_257 (by decide) (by decide) rfl w1_189 rfl)
    (e_each_cons (r_bald X dX8_step_260 rfl)
    (e_each_cons (r_bipush X (n := 45) (v := 45) dX8_step_261 (by decide) rfl)
    (e_each_cons (r_icmp_ne X (off := 7) (t := 270) dX8_step_263 (by decide) rfl)
    (e_each_cons (r_iconst X (n := 4) (v := 4) dX8_step_266 (by decide) rfl)
    (e_each_cons (r_goto X (off := 4) (t := 271) dX8_step_267 (by decide))
    (e_each_cons (r_iconst X (n := 5) (v := 5) dX8_step_270 (by decide) rfl)
    (e_each_cons (r_putI X (index := 44) (ci := 7) (k := 1) dX8_step_271 (by decide) (by decide) rfl rfl w1_187 rfl)
    (e_each_cons (r_aload_n X (k := 0) (i := 0) rfl dX8_step_274 rfl)
    (e_each_cons (r_dup X dX8_step_275 rfl)
    (e_each_cons (r_getI X (index := 28) (ci := 7) (k := 6) dX8_step_276 (by decide) (by decide) rfl w1_194 rfl)
    (e_each_cons (r_iconst X (n := 1) (v := 1) dX8_step_279 (by decide) rfl)
    (e_each_cons (r_iadd X dX8_step_280 rfl)
    (e_each_cons (r_putI X (index := 28) (ci := 7) (k := 6) dX8_step_281 (by decide) (by decide) rfl rfl w1_194 rfl)
    (e_each_cons (r_vret X dX8_step_284 rfl)
    (e_each_nil)))))))))))))))))))))))))))))))))))))))))))))))))))))))))))))))))))))))))))))))))))))))))))))))))))))))))))))))))))))))))))))))))))))))))))))))))
theorem dX8_beginTokens_0 : decode cX8_beginTokens 0 = .ok (.aload_n 0, 1) := by decide +kernel
theorem dX8_beginTokens_1 : decode cX8_beginTokens 1 = .ok (.iload_n 1, 1) := by decide +kernel
theorem dX8_beginTokens_2 : decode cX8_beginTokens 2 = .ok (.sipush 800, 3) := by decide +kernel
theorem dX8_beginTokens_5 : decode cX8_beginTokens 5 = .ok (.invokestatic 19, 3) := by decide +kernel
theorem dX8_beginTokens_8 : decode cX8_beginTokens 8 = .ok (.putfield 25, 3) := by decide +kernel
theorem dX8_beginTokens_11 : decode cX8_beginTokens 11 = .ok (.aload_n 0, 1) := by decide +kernel
theorem dX8_beginTokens_12 : decode cX8_beginTokens 12 = .ok (.iconst 0, 1) := by decide +kernel
theorem dX8_beginTokens_13 : decode cX8_beginTokens 13 = .ok (.putfield 28, 3) := by decide +kernel
theorem dX8_beginTokens_16 : decode cX8_beginTokens 16 = .ok (.aload_n 0, 1) := by decide +kernel
theorem dX8_beginTokens_17 : decode cX8_beginTokens 17 = .ok (.invokevirtual 31, 3) := by decide +kernel
theorem dX8_beginTokens_20 : decode cX8_beginTokens 20 = .ok (.return_, 1) := by decide +kernel
def pg_X8_beginTokens (l : Launch) (g : EG) : List (Nat × ES) := [(0, s_ldP 0), (1, s_ldI 1), (2, s_c (.inl 800)), (5, s_mmin sg_X8_beginTokens), (8, s_putI 7 5), (11, s_ldP 0), (12, s_c (.inl 0)), (13, s_putI 7 6), (16, s_ldP 0), (17, s_callV l g sg_X8_beginTokens sg_X8_step 7), (20, s_vret)]
set_option maxRecDepth 100000 in
theorem ok_X8_beginTokens {l : Launch} {g : EG} : e_okp l g sg_X8_beginTokens "CalendarSync$Text" (pg_X8_beginTokens l g) := fun p e R s m args below meth c ex M0 Q X =>
    e_each_cons (r_aload_n X (k := 0) (i := 0) rfl dX8_beginTokens_0 rfl)
    (e_each_cons (r_iload_n X (k := 1) (i := 1) rfl dX8_beginTokens_1 rfl)
    (e_each_cons (r_sipush X (n := 800) (v := 800) dX8_beginTokens_2 (by decide) rfl)
    (e_each_cons (r_mmin X (index := 19) dX8_beginTokens_5 w3_210 w3_211 w1_16 w3_212 ⟨by decide, by decide⟩ rfl)
    (e_each_cons (r_putI X (index := 25) (ci := 7) (k := 5) dX8_beginTokens_8 (by decide) (by decide) rfl rfl w1_193 rfl)
    (e_each_cons (r_aload_n X (k := 0) (i := 0) rfl dX8_beginTokens_11 rfl)
    (e_each_cons (r_iconst X (n := 0) (v := 0) dX8_beginTokens_12 (by decide) rfl)
    (e_each_cons (r_putI X (index := 28) (ci := 7) (k := 6) dX8_beginTokens_13 (by decide) (by decide) rfl rfl w1_194 rfl)
    (e_each_cons (r_aload_n X (k := 0) (i := 0) rfl dX8_beginTokens_16 rfl)
    (e_each_cons (r_callV X rfl (τ := sg_X8_step) (index := 31) (ci := 7) dX8_beginTokens_17 (by decide) rfl w3_213 w3_214 w3_215 cs_X8_step rfl ⟨by decide, by decide⟩ rfl)
    (e_each_cons (r_vret X dX8_beginTokens_20 rfl)
    (e_each_nil)))))))))))
theorem dX8_isWord_0 : decode cX8_isWord 0 = .ok (.aload_n 0, 1) := by decide +kernel
theorem dX8_isWord_1 : decode cX8_isWord 1 = .ok (.getfield 44, 3) := by decide +kernel
theorem dX8_isWord_4 : decode cX8_isWord 4 = .ok (.iconst 1, 1) := by decide +kernel
theorem dX8_isWord_5 : decode cX8_isWord 5 = .ok (.if_icmp .ne 19, 3) := by decide +kernel
theorem dX8_isWord_8 : decode cX8_isWord 8 = .ok (.aload_n 0, 1) := by decide +kernel
theorem dX8_isWord_9 : decode cX8_isWord 9 = .ok (.getfield 28, 3) := by decide +kernel
theorem dX8_isWord_12 : decode cX8_isWord 12 = .ok (.aload_n 0, 1) := by decide +kernel
theorem dX8_isWord_13 : decode cX8_isWord 13 = .ok (.getfield 38, 3) := by decide +kernel
theorem dX8_isWord_16 : decode cX8_isWord 16 = .ok (.isub, 1) := by decide +kernel
theorem dX8_isWord_17 : decode cX8_isWord 17 = .ok (.aload_n 1, 1) := by decide +kernel
theorem dX8_isWord_18 : decode cX8_isWord 18 = .ok (.invokevirtual 53, 3) := by decide +kernel
theorem dX8_isWord_21 : decode cX8_isWord 21 = .ok (.if_icmp .eq 5, 3) := by decide +kernel
theorem dX8_isWord_24 : decode cX8_isWord 24 = .ok (.iconst 0, 1) := by decide +kernel
theorem dX8_isWord_25 : decode cX8_isWord 25 = .ok (.ireturn, 1) := by decide +kernel
theorem dX8_isWord_26 : decode cX8_isWord 26 = .ok (.iconst 0, 1) := by decide +kernel
theorem dX8_isWord_27 : decode cX8_isWord 27 = .ok (.istore_n 2, 1) := by decide +kernel
theorem dX8_isWord_28 : decode cX8_isWord 28 = .ok (.iload_n 2, 1) := by decide +kernel
theorem dX8_isWord_29 : decode cX8_isWord 29 = .ok (.aload_n 1, 1) := by decide +kernel
theorem dX8_isWord_30 : decode cX8_isWord 30 = .ok (.invokevirtual 53, 3) := by decide +kernel
theorem dX8_isWord_33 : decode cX8_isWord 33 = .ok (.if_icmp .ge 43, 3) := by decide +kernel
theorem dX8_isWord_36 : decode cX8_isWord 36 = .ok (.aload_n 0, 1) := by decide +kernel
theorem dX8_isWord_37 : decode cX8_isWord 37 = .ok (.getfield 38, 3) := by decide +kernel
theorem dX8_isWord_40 : decode cX8_isWord 40 = .ok (.iload_n 2, 1) := by decide +kernel
theorem dX8_isWord_41 : decode cX8_isWord 41 = .ok (.iadd, 1) := by decide +kernel
theorem dX8_isWord_42 : decode cX8_isWord 42 = .ok (.aload_n 0, 1) := by decide +kernel
theorem dX8_isWord_43 : decode cX8_isWord 43 = .ok (.getfield 25, 3) := by decide +kernel
theorem dX8_isWord_46 : decode cX8_isWord 46 = .ok (.if_icmp .ge 30, 3) := by decide +kernel
theorem dX8_isWord_49 : decode cX8_isWord 49 = .ok (.aload_n 0, 1) := by decide +kernel
theorem dX8_isWord_50 : decode cX8_isWord 50 = .ok (.getfield 9, 3) := by decide +kernel
theorem dX8_isWord_53 : decode cX8_isWord 53 = .ok (.aload_n 0, 1) := by decide +kernel
theorem dX8_isWord_54 : decode cX8_isWord 54 = .ok (.getfield 38, 3) := by decide +kernel
theorem dX8_isWord_57 : decode cX8_isWord 57 = .ok (.iload_n 2, 1) := by decide +kernel
theorem dX8_isWord_58 : decode cX8_isWord 58 = .ok (.iadd, 1) := by decide +kernel
theorem dX8_isWord_59 : decode cX8_isWord 59 = .ok (.baload, 1) := by decide +kernel
theorem dX8_isWord_60 : decode cX8_isWord 60 = .ok (.aload_n 1, 1) := by decide +kernel
theorem dX8_isWord_61 : decode cX8_isWord 61 = .ok (.iload_n 2, 1) := by decide +kernel
theorem dX8_isWord_62 : decode cX8_isWord 62 = .ok (.invokevirtual 58, 3) := by decide +kernel
theorem dX8_isWord_65 : decode cX8_isWord 65 = .ok (.if_icmp .eq 5, 3) := by decide +kernel
theorem dX8_isWord_68 : decode cX8_isWord 68 = .ok (.iconst 0, 1) := by decide +kernel
theorem dX8_isWord_69 : decode cX8_isWord 69 = .ok (.ireturn, 1) := by decide +kernel
theorem dX8_isWord_70 : decode cX8_isWord 70 = .ok (.iinc 2 1, 3) := by decide +kernel
theorem dX8_isWord_73 : decode cX8_isWord 73 = .ok (.goto (-45), 3) := by decide +kernel
theorem dX8_isWord_76 : decode cX8_isWord 76 = .ok (.iconst 1, 1) := by decide +kernel
theorem dX8_isWord_77 : decode cX8_isWord 77 = .ok (.ireturn, 1) := by decide +kernel
def pg_X8_isWord (l : Launch) (g : EG) : List (Nat × ES) := [(0, s_ldP 0), (1, s_getI 7 1), (4, s_c (.inl 1)), (5, s_icmp_ne 24), (8, s_ldP 0), (9, s_getI 7 6), (12, s_ldP 0), (13, s_getI 7 2), (16, s_ii (fun x y => x - y)), (17, s_ldP 1), (18, s_slen sg_X8_isWord), (21, s_icmp_eq 26), (24, s_c (.inl 0)), (25, s_iretz), (26, s_c (.inl 0)), (27, s_stI 2), (28, s_ldI 2), (29, s_ldP 1), (30, s_slen sg_X8_isWord), (33, s_icmp_ge 76), (36, s_ldP 0), (37, s_getI 7 2), (40, s_ldI 2), (41, s_ii (fun x y => x + y)), (42, s_ldP 0), (43, s_getI 7 5), (46, s_icmp_ge 76), (49, s_ldP 0), (50, s_getP 7 4), (53, s_ldP 0), (54, s_getI 7 2), (57, s_ldI 2), (58, s_ii (fun x y => x + y)), (59, s_bald), (60, s_ldP 1), (61, s_ldI 2), (62, s_schr sg_X8_isWord), (65, s_icmp_eq 70), (68, s_c (.inl 0)), (69, s_iretz), (70, s_iinc 2 1), (73, s_goto 28), (76, s_c (.inl 1)), (77, s_iretz)]
set_option maxRecDepth 100000 in
theorem ok_X8_isWord {l : Launch} {g : EG} : e_okp l g sg_X8_isWord "CalendarSync$Text" (pg_X8_isWord l g) := fun p e R s m args below meth c ex M0 Q X =>
    e_each_cons (r_aload_n X (k := 0) (i := 0) rfl dX8_isWord_0 rfl)
    (e_each_cons (r_getI X (index := 44) (ci := 7) (k := 1) dX8_isWord_1 (by decide) (by decide) rfl w1_187 rfl)
    (e_each_cons (r_iconst X (n := 1) (v := 1) dX8_isWord_4 (by decide) rfl)
    (e_each_cons (r_icmp_ne X (off := 19) (t := 24) dX8_isWord_5 (by decide) rfl)
    (e_each_cons (r_aload_n X (k := 0) (i := 0) rfl dX8_isWord_8 rfl)
    (e_each_cons (r_getI X (index := 28) (ci := 7) (k := 6) dX8_isWord_9 (by decide) (by decide) rfl w1_194 rfl)
    (e_each_cons (r_aload_n X (k := 0) (i := 0) rfl dX8_isWord_12 rfl)
    (e_each_cons (r_getI X (index := 38) (ci := 7) (k := 2) dX8_isWord_13 (by decide) (by decide) rfl w1_189 rfl)
    (e_each_cons (r_isub X dX8_isWord_16 rfl)
    (e_each_cons (r_aload_n X (k := 1) (i := 1) rfl dX8_isWord_17 rfl)
    (e_each_cons (r_slen X rfl (index := 53) dX8_isWord_18 w3_231 ⟨by decide, by decide⟩ rfl)
    (e_each_cons (r_icmp_eq X (off := 5) (t := 26) dX8_isWord_21 (by decide) rfl)
    (e_each_cons (r_iconst X (n := 0) (v := 0) dX8_isWord_24 (by decide) rfl)
    (e_each_cons (r_iretz X dX8_isWord_25 rfl)
    (e_each_cons (r_iconst X (n := 0) (v := 0) dX8_isWord_26 (by decide) rfl)
    (e_each_cons (r_istore_n X (k := 2) (i := 2) rfl dX8_isWord_27 (by decide) rfl)
    (e_each_cons (r_iload_n X (k := 2) (i := 2) rfl dX8_isWord_28 rfl)
    (e_each_cons (r_aload_n X (k := 1) (i := 1) rfl dX8_isWord_29 rfl)
    (e_each_cons (r_slen X rfl (index := 53) dX8_isWord_30 w3_231 ⟨by decide, by decide⟩ rfl)
    (e_each_cons (r_icmp_ge X (off := 43) (t := 76) dX8_isWord_33 (by decide) rfl)
    (e_each_cons (r_aload_n X (k := 0) (i := 0) rfl dX8_isWord_36 rfl)
    (e_each_cons (r_getI X (index := 38) (ci := 7) (k := 2) dX8_isWord_37 (by decide) (by decide) rfl w1_189 rfl)
    (e_each_cons (r_iload_n X (k := 2) (i := 2) rfl dX8_isWord_40 rfl)
    (e_each_cons (r_iadd X dX8_isWord_41 rfl)
    (e_each_cons (r_aload_n X (k := 0) (i := 0) rfl dX8_isWord_42 rfl)
    (e_each_cons (r_getI X (index := 25) (ci := 7) (k := 5) dX8_isWord_43 (by decide) (by decide) rfl w1_193 rfl)
    (e_each_cons (r_icmp_ge X (off := 30) (t := 76) dX8_isWord_46 (by decide) rfl)
    (e_each_cons (r_aload_n X (k := 0) (i := 0) rfl dX8_isWord_49 rfl)
    (e_each_cons (r_getP X (index := 9) (ci := 7) (k := 4) dX8_isWord_50 (by decide) (by decide) rfl w1_192 rfl)
    (e_each_cons (r_aload_n X (k := 0) (i := 0) rfl dX8_isWord_53 rfl)
    (e_each_cons (r_getI X (index := 38) (ci := 7) (k := 2) dX8_isWord_54 (by decide) (by decide) rfl w1_189 rfl)
    (e_each_cons (r_iload_n X (k := 2) (i := 2) rfl dX8_isWord_57 rfl)
    (e_each_cons (r_iadd X dX8_isWord_58 rfl)
    (e_each_cons (r_bald X dX8_isWord_59 rfl)
    (e_each_cons (r_aload_n X (k := 1) (i := 1) rfl dX8_isWord_60 rfl)
    (e_each_cons (r_iload_n X (k := 2) (i := 2) rfl dX8_isWord_61 rfl)
    (e_each_cons (r_schr X rfl (index := 58) dX8_isWord_62 w3_232 ⟨by decide, by decide⟩ rfl)
    (e_each_cons (r_icmp_eq X (off := 5) (t := 70) dX8_isWord_65 (by decide) rfl)
    (e_each_cons (r_iconst X (n := 0) (v := 0) dX8_isWord_68 (by decide) rfl)
    (e_each_cons (r_iretz X dX8_isWord_69 rfl)
    (e_each_cons (r_iinc X (i := 2) (n := 1) (d := 1) dX8_isWord_70 (by decide) (by decide) rfl)
    (e_each_cons (r_goto X (off := (-45)) (t := 28) dX8_isWord_73 (by decide))
    (e_each_cons (r_iconst X (n := 1) (v := 1) dX8_isWord_76 (by decide) rfl)
    (e_each_cons (r_iretz X dX8_isWord_77 rfl)
    (e_each_nil))))))))))))))))))))))))))))))))))))))))))))
theorem dX8_weekday_0 : decode cX8_weekday 0 = .ok (.aload_n 0, 1) := by decide +kernel
theorem dX8_weekday_1 : decode cX8_weekday 1 = .ok (.getfield 44, 3) := by decide +kernel
theorem dX8_weekday_4 : decode cX8_weekday 4 = .ok (.iconst 1, 1) := by decide +kernel
theorem dX8_weekday_5 : decode cX8_weekday 5 = .ok (.if_icmp .ne 29, 3) := by decide +kernel
theorem dX8_weekday_8 : decode cX8_weekday 8 = .ok (.aload_n 0, 1) := by decide +kernel
theorem dX8_weekday_9 : decode cX8_weekday 9 = .ok (.getfield 28, 3) := by decide +kernel
theorem dX8_weekday_12 : decode cX8_weekday 12 = .ok (.aload_n 0, 1) := by decide +kernel
theorem dX8_weekday_13 : decode cX8_weekday 13 = .ok (.getfield 38, 3) := by decide +kernel
theorem dX8_weekday_16 : decode cX8_weekday 16 = .ok (.isub, 1) := by decide +kernel
theorem dX8_weekday_17 : decode cX8_weekday 17 = .ok (.iconst 2, 1) := by decide +kernel
theorem dX8_weekday_18 : decode cX8_weekday 18 = .ok (.if_icmp .ne 16, 3) := by decide +kernel
theorem dX8_weekday_21 : decode cX8_weekday 21 = .ok (.aload_n 0, 1) := by decide +kernel
theorem dX8_weekday_22 : decode cX8_weekday 22 = .ok (.getfield 38, 3) := by decide +kernel
theorem dX8_weekday_25 : decode cX8_weekday 25 = .ok (.iconst 1, 1) := by decide +kernel
theorem dX8_weekday_26 : decode cX8_weekday 26 = .ok (.iadd, 1) := by decide +kernel
theorem dX8_weekday_27 : decode cX8_weekday 27 = .ok (.aload_n 0, 1) := by decide +kernel
theorem dX8_weekday_28 : decode cX8_weekday 28 = .ok (.getfield 25, 3) := by decide +kernel
theorem dX8_weekday_31 : decode cX8_weekday 31 = .ok (.if_icmp .lt 5, 3) := by decide +kernel
theorem dX8_weekday_34 : decode cX8_weekday 34 = .ok (.iconst (-1), 1) := by decide +kernel
theorem dX8_weekday_35 : decode cX8_weekday 35 = .ok (.ireturn, 1) := by decide +kernel
theorem dX8_weekday_36 : decode cX8_weekday 36 = .ok (.iconst 0, 1) := by decide +kernel
theorem dX8_weekday_37 : decode cX8_weekday 37 = .ok (.istore_n 1, 1) := by decide +kernel
theorem dX8_weekday_38 : decode cX8_weekday 38 = .ok (.iload_n 1, 1) := by decide +kernel
theorem dX8_weekday_39 : decode cX8_weekday 39 = .ok (.bipush 7, 2) := by decide +kernel
theorem dX8_weekday_41 : decode cX8_weekday 41 = .ok (.if_icmp .ge 65, 3) := by decide +kernel
theorem dX8_weekday_44 : decode cX8_weekday 44 = .ok (.aload_n 0, 1) := by decide +kernel
theorem dX8_weekday_45 : decode cX8_weekday 45 = .ok (.getfield 9, 3) := by decide +kernel
theorem dX8_weekday_48 : decode cX8_weekday 48 = .ok (.aload_n 0, 1) := by decide +kernel
theorem dX8_weekday_49 : decode cX8_weekday 49 = .ok (.getfield 38, 3) := by decide +kernel
theorem dX8_weekday_52 : decode cX8_weekday 52 = .ok (.baload, 1) := by decide +kernel
theorem dX8_weekday_53 : decode cX8_weekday 53 = .ok (.ldc 64, 2) := by decide +kernel
theorem dX8_weekday_55 : decode cX8_weekday 55 = .ok (.iconst 2, 1) := by decide +kernel
theorem dX8_weekday_56 : decode cX8_weekday 56 = .ok (.iload_n 1, 1) := by decide +kernel
theorem dX8_weekday_57 : decode cX8_weekday 57 = .ok (.imul, 1) := by decide +kernel
theorem dX8_weekday_58 : decode cX8_weekday 58 = .ok (.invokevirtual 58, 3) := by decide +kernel
theorem dX8_weekday_61 : decode cX8_weekday 61 = .ok (.if_icmp .ne 7, 3) := by decide +kernel
theorem dX8_weekday_64 : decode cX8_weekday 64 = .ok (.iconst 1, 1) := by decide +kernel
theorem dX8_weekday_65 : decode cX8_weekday 65 = .ok (.goto 4, 3) := by decide +kernel
theorem dX8_weekday_68 : decode cX8_weekday 68 = .ok (.iconst 0, 1) := by decide +kernel
theorem dX8_weekday_69 : decode cX8_weekday 69 = .ok (.istore_n 2, 1) := by decide +kernel
theorem dX8_weekday_70 : decode cX8_weekday 70 = .ok (.iload_n 2, 1) := by decide +kernel
theorem dX8_weekday_71 : decode cX8_weekday 71 = .ok (.ifCond .eq 29, 3) := by decide +kernel
theorem dX8_weekday_74 : decode cX8_weekday 74 = .ok (.aload_n 0, 1) := by decide +kernel
theorem dX8_weekday_75 : decode cX8_weekday 75 = .ok (.getfield 9, 3) := by decide +kernel
theorem dX8_weekday_78 : decode cX8_weekday 78 = .ok (.aload_n 0, 1) := by decide +kernel
theorem dX8_weekday_79 : decode cX8_weekday 79 = .ok (.getfield 38, 3) := by decide +kernel
theorem dX8_weekday_82 : decode cX8_weekday 82 = .ok (.iconst 1, 1) := by decide +kernel
theorem dX8_weekday_83 : decode cX8_weekday 83 = .ok (.iadd, 1) := by decide +kernel
theorem dX8_weekday_84 : decode cX8_weekday 84 = .ok (.baload, 1) := by decide +kernel
theorem dX8_weekday_85 : decode cX8_weekday 85 = .ok (.ldc 64, 2) := by decide +kernel
theorem dX8_weekday_87 : decode cX8_weekday 87 = .ok (.iconst 2, 1) := by decide +kernel
theorem dX8_weekday_88 : decode cX8_weekday 88 = .ok (.iload_n 1, 1) := by decide +kernel
theorem dX8_weekday_89 : decode cX8_weekday 89 = .ok (.imul, 1) := by decide +kernel
theorem dX8_weekday_90 : decode cX8_weekday 90 = .ok (.iconst 1, 1) := by decide +kernel
theorem dX8_weekday_91 : decode cX8_weekday 91 = .ok (.iadd, 1) := by decide +kernel
theorem dX8_weekday_92 : decode cX8_weekday 92 = .ok (.invokevirtual 58, 3) := by decide +kernel
theorem dX8_weekday_95 : decode cX8_weekday 95 = .ok (.if_icmp .ne 5, 3) := by decide +kernel
theorem dX8_weekday_98 : decode cX8_weekday 98 = .ok (.iload_n 1, 1) := by decide +kernel
theorem dX8_weekday_99 : decode cX8_weekday 99 = .ok (.ireturn, 1) := by decide +kernel
theorem dX8_weekday_100 : decode cX8_weekday 100 = .ok (.iinc 1 1, 3) := by decide +kernel
theorem dX8_weekday_103 : decode cX8_weekday 103 = .ok (.goto (-65), 3) := by decide +kernel
theorem dX8_weekday_106 : decode cX8_weekday 106 = .ok (.iconst (-1), 1) := by decide +kernel
theorem dX8_weekday_107 : decode cX8_weekday 107 = .ok (.ireturn, 1) := by decide +kernel
def pg_X8_weekday (l : Launch) (g : EG) : List (Nat × ES) := [(0, s_ldP 0), (1, s_getI 7 1), (4, s_c (.inl 1)), (5, s_icmp_ne 34), (8, s_ldP 0), (9, s_getI 7 6), (12, s_ldP 0), (13, s_getI 7 2), (16, s_ii (fun x y => x - y)), (17, s_c (.inl 2)), (18, s_icmp_ne 34), (21, s_ldP 0), (22, s_getI 7 2), (25, s_c (.inl 1)), (26, s_ii (fun x y => x + y)), (27, s_ldP 0), (28, s_getI 7 5), (31, s_icmp_lt 36), (34, s_c (.inl (-1))), (35, s_ireti), (36, s_c (.inl 0)), (37, s_stI 1), (38, s_ldI 1), (39, s_c (.inl 7)), (41, s_icmp_ge 106), (44, s_ldP 0), (45, s_getP 7 4), (48, s_ldP 0), (49, s_getI 7 2), (52, s_bald), (53, s_str 10), (55, s_c (.inl 2)), (56, s_ldI 1), (57, s_ii (fun x y => x * y)), (58, s_schr sg_X8_weekday), (61, s_icmp_ne 68), (64, s_c (.inl 1)), (65, s_goto 69), (68, s_c (.inl 0)), (69, s_stI 2), (70, s_ldI 2), (71, s_if_eq 100), (74, s_ldP 0), (75, s_getP 7 4), (78, s_ldP 0), (79, s_getI 7 2), (82, s_c (.inl 1)), (83, s_ii (fun x y => x + y)), (84, s_bald), (85, s_str 10), (87, s_c (.inl 2)), (88, s_ldI 1), (89, s_ii (fun x y => x * y)), (90, s_c (.inl 1)), (91, s_ii (fun x y => x + y)), (92, s_schr sg_X8_weekday), (95, s_icmp_ne 100), (98, s_ldI 1), (99, s_ireti), (100, s_iinc 1 1), (103, s_goto 38), (106, s_c (.inl (-1))), (107, s_ireti)]
set_option maxRecDepth 100000 in
theorem ok_X8_weekday {l : Launch} {g : EG} : e_okp l g sg_X8_weekday "CalendarSync$Text" (pg_X8_weekday l g) := fun p e R s m args below meth c ex M0 Q X =>
    e_each_cons (r_aload_n X (k := 0) (i := 0) rfl dX8_weekday_0 rfl)
    (e_each_cons (r_getI X (index := 44) (ci := 7) (k := 1) dX8_weekday_1 (by decide) (by decide) rfl w1_187 rfl)
    (e_each_cons (r_iconst X (n := 1) (v := 1) dX8_weekday_4 (by decide) rfl)
    (e_each_cons (r_icmp_ne X (off := 29) (t := 34) dX8_weekday_5 (by decide) rfl)
    (e_each_cons (r_aload_n X (k := 0) (i := 0) rfl dX8_weekday_8 rfl)
    (e_each_cons (r_getI X (index := 28) (ci := 7) (k := 6) dX8_weekday_9 (by decide) (by decide) rfl w1_194 rfl)
    (e_each_cons (r_aload_n X (k := 0) (i := 0) rfl dX8_weekday_12 rfl)
    (e_each_cons (r_getI X (index := 38) (ci := 7) (k := 2) dX8_weekday_13 (by decide) (by decide) rfl w1_189 rfl)
    (e_each_cons (r_isub X dX8_weekday_16 rfl)
    (e_each_cons (r_iconst X (n := 2) (v := 2) dX8_weekday_17 (by decide) rfl)
    (e_each_cons (r_icmp_ne X (off := 16) (t := 34) dX8_weekday_18 (by decide) rfl)
    (e_each_cons (r_aload_n X (k := 0) (i := 0) rfl dX8_weekday_21 rfl)
    (e_each_cons (r_getI X (index := 38) (ci := 7) (k := 2) dX8_weekday_22 (by decide) (by decide) rfl w1_189 rfl)
    (e_each_cons (r_iconst X (n := 1) (v := 1) dX8_weekday_25 (by decide) rfl)
    (e_each_cons (r_iadd X dX8_weekday_26 rfl)
    (e_each_cons (r_aload_n X (k := 0) (i := 0) rfl dX8_weekday_27 rfl)
    (e_each_cons (r_getI X (index := 25) (ci := 7) (k := 5) dX8_weekday_28 (by decide) (by decide) rfl w1_193 rfl)
    (e_each_cons (r_icmp_lt X (off := 5) (t := 36) dX8_weekday_31 (by decide) rfl)
    (e_each_cons (r_iconst X (n := (-1)) (v := (-1)) dX8_weekday_34 (by decide) rfl)
    (e_each_cons (r_ireti X dX8_weekday_35 rfl)
    (e_each_cons (r_iconst X (n := 0) (v := 0) dX8_weekday_36 (by decide) rfl)
    (e_each_cons (r_istore_n X (k := 1) (i := 1) rfl dX8_weekday_37 (by decide) rfl)
    (e_each_cons (r_iload_n X (k := 1) (i := 1) rfl dX8_weekday_38 rfl)
    (e_each_cons (r_bipush X (n := 7) (v := 7) dX8_weekday_39 (by decide) rfl)
    (e_each_cons (r_icmp_ge X (off := 65) (t := 106) dX8_weekday_41 (by decide) rfl)
    (e_each_cons (r_aload_n X (k := 0) (i := 0) rfl dX8_weekday_44 rfl)
    (e_each_cons (r_getP X (index := 9) (ci := 7) (k := 4) dX8_weekday_45 (by decide) (by decide) rfl w1_192 rfl)
    (e_each_cons (r_aload_n X (k := 0) (i := 0) rfl dX8_weekday_48 rfl)
    (e_each_cons (r_getI X (index := 38) (ci := 7) (k := 2) dX8_weekday_49 (by decide) (by decide) rfl w1_189 rfl)
    (e_each_cons (r_bald X dX8_weekday_52 rfl)
    (e_each_cons (r_str X (k := 10) (is := 64) dX8_weekday_53 rfl ⟨⟨rfl, rfl⟩, by decide⟩ rfl)
    (e_each_cons (r_iconst X (n := 2) (v := 2) dX8_weekday_55 (by decide) rfl)
    (e_each_cons (r_iload_n X (k := 1) (i := 1) rfl dX8_weekday_56 rfl)
    (e_each_cons (r_imul X dX8_weekday_57 rfl)
    (e_each_cons (r_schr X rfl (index := 58) dX8_weekday_58 w3_232 ⟨by decide, by decide⟩ rfl)
    (e_each_cons (r_icmp_ne X (off := 7) (t := 68) dX8_weekday_61 (by decide) rfl)
    (e_each_cons (r_iconst X (n := 1) (v := 1) dX8_weekday_64 (by decide) rfl)
    (e_each_cons (r_goto X (off := 4) (t := 69) dX8_weekday_65 (by decide))
    (e_each_cons (r_iconst X (n := 0) (v := 0) dX8_weekday_68 (by decide) rfl)
    (e_each_cons (r_istore_n X (k := 2) (i := 2) rfl dX8_weekday_69 (by decide) rfl)
    (e_each_cons (r_iload_n X (k := 2) (i := 2) rfl dX8_weekday_70 rfl)
    (e_each_cons (r_if_eq X (off := 29) (t := 100) dX8_weekday_71 (by decide) rfl)
    (e_each_cons (r_aload_n X (k := 0) (i := 0) rfl dX8_weekday_74 rfl)
    (e_each_cons (r_getP X (index := 9) (ci := 7) (k := 4) dX8_weekday_75 (by decide) (by decide) rfl w1_192 rfl)
    (e_each_cons (r_aload_n X (k := 0) (i := 0) rfl dX8_weekday_78 rfl)
    (e_each_cons (r_getI X (index := 38) (ci := 7) (k := 2) dX8_weekday_79 (by decide) (by decide) rfl w1_189 rfl)
    (e_each_cons (r_iconst X (n := 1) (v := 1) dX8_weekday_82 (by decide) rfl)
    (e_each_cons (r_iadd X dX8_weekday_83 rfl)
    (e_each_cons (r_bald X dX8_weekday_84 rfl)
    (e_each_cons (r_str X (k := 10) (is := 64) dX8_weekday_85 rfl ⟨⟨rfl, rfl⟩, by decide⟩ rfl)
    (e_each_cons (r_iconst X (n := 2) (v := 2) dX8_weekday_87 (by decide) rfl)
    (e_each_cons (r_iload_n X (k := 1) (i := 1) rfl dX8_weekday_88 rfl)
    (e_each_cons (r_imul X dX8_weekday_89 rfl)
    (e_each_cons (r_iconst X (n := 1) (v := 1) dX8_weekday_90 (by decide) rfl)
    (e_each_cons (r_iadd X dX8_weekday_91 rfl)
    (e_each_cons (r_schr X rfl (index := 58) dX8_weekday_92 w3_232 ⟨by decide, by decide⟩ rfl)
    (e_each_cons (r_icmp_ne X (off := 5) (t := 100) dX8_weekday_95 (by decide) rfl)
    (e_each_cons (r_iload_n X (k := 1) (i := 1) rfl dX8_weekday_98 rfl)
    (e_each_cons (r_ireti X dX8_weekday_99 rfl)
    (e_each_cons (r_iinc X (i := 1) (n := 1) (d := 1) dX8_weekday_100 (by decide) (by decide) rfl)
    (e_each_cons (r_goto X (off := (-65)) (t := 38) dX8_weekday_103 (by decide))
    (e_each_cons (r_iconst X (n := (-1)) (v := (-1)) dX8_weekday_106 (by decide) rfl)
    (e_each_cons (r_ireti X dX8_weekday_107 rfl)
    (e_each_nil)))))))))))))))))))))))))))))))))))))))))))))))))))))))))))))))
theorem dX8_appendBytes_0 : decode cX8_appendBytes 0 = .ok (.bipush 24, 2) := by decide +kernel
theorem dX8_appendBytes_2 : decode cX8_appendBytes 2 = .ok (.istore_n 2, 1) := by decide +kernel
theorem dX8_appendBytes_3 : decode cX8_appendBytes 3 = .ok (.iload_n 2, 1) := by decide +kernel
theorem dX8_appendBytes_4 : decode cX8_appendBytes 4 = .ok (.ifCond .lt 42, 3) := by decide +kernel
theorem dX8_appendBytes_7 : decode cX8_appendBytes 7 = .ok (.aload_n 0, 1) := by decide +kernel
theorem dX8_appendBytes_8 : decode cX8_appendBytes 8 = .ok (.getfield 15, 3) := by decide +kernel
theorem dX8_appendBytes_11 : decode cX8_appendBytes 11 = .ok (.sipush 800, 3) := by decide +kernel
theorem dX8_appendBytes_14 : decode cX8_appendBytes 14 = .ok (.if_icmp .ge 26, 3) := by decide +kernel
theorem dX8_appendBytes_17 : decode cX8_appendBytes 17 = .ok (.aload_n 0, 1) := by decide +kernel
theorem dX8_appendBytes_18 : decode cX8_appendBytes 18 = .ok (.getfield 9, 3) := by decide +kernel
theorem dX8_appendBytes_21 : decode cX8_appendBytes 21 = .ok (.aload_n 0, 1) := by decide +kernel
theorem dX8_appendBytes_22 : decode cX8_appendBytes 22 = .ok (.getfield 15, 3) := by decide +kernel
theorem dX8_appendBytes_25 : decode cX8_appendBytes 25 = .ok (.iload_n 1, 1) := by decide +kernel
theorem dX8_appendBytes_26 : decode cX8_appendBytes 26 = .ok (.iload_n 2, 1) := by decide +kernel
theorem dX8_appendBytes_27 : decode cX8_appendBytes 27 = .ok (.ishr, 1) := by decide +kernel
theorem dX8_appendBytes_28 : decode cX8_appendBytes 28 = .ok (.i2b, 1) := by decide +kernel
theorem dX8_appendBytes_29 : decode cX8_appendBytes 29 = .ok (.bastore, 1) := by decide +kernel
theorem dX8_appendBytes_30 : decode cX8_appendBytes 30 = .ok (.aload_n 0, 1) := by decide +kernel
theorem dX8_appendBytes_31 : decode cX8_appendBytes 31 = .ok (.dup, 1) := by decide +kernel
theorem dX8_appendBytes_32 : decode cX8_appendBytes 32 = .ok (.getfield 15, 3) := by decide +kernel
theorem dX8_appendBytes_35 : decode cX8_appendBytes 35 = .ok (.iconst 1, 1) := by decide +kernel
theorem dX8_appendBytes_36 : decode cX8_appendBytes 36 = .ok (.iadd, 1) := by decide +kernel
theorem dX8_appendBytes_37 : decode cX8_appendBytes 37 = .ok (.putfield 15, 3) := by decide +kernel
theorem dX8_appendBytes_40 : decode cX8_appendBytes 40 = .ok (.iinc 2 (-8), 3) := by decide +kernel
theorem dX8_appendBytes_43 : decode cX8_appendBytes 43 = .ok (.goto (-40), 3) := by decide +kernel
theorem dX8_appendBytes_46 : decode cX8_appendBytes 46 = .ok (.return_, 1) := by decide +kernel
def pg_X8_appendBytes (l : Launch) (g : EG) : List (Nat × ES) := [(0, s_c (.inl 24)), (2, s_stI 2), (3, s_ldI 2), (4, s_if_lt 46), (7, s_ldP 0), (8, s_getI 7 0), (11, s_c (.inl 800)), (14, s_icmp_ge 40), (17, s_ldP 0), (18, s_getP 7 4), (21, s_ldP 0), (22, s_getI 7 0), (25, s_ldI 1), (26, s_ldI 2), (27, s_ii (fun x y => x >>> (y &&& 31))), (28, s_i1 (fun x => x.toInt8.toInt32)), (29, s_bast), (30, s_ldP 0), (31, s_dup), (32, s_getI 7 0), (35, s_c (.inl 1)), (36, s_ii (fun x y => x + y)), (37, s_putI 7 0), (40, s_iinc 2 (-8)), (43, s_goto 3), (46, s_vret)]
set_option maxRecDepth 100000 in
theorem ok_X8_appendBytes {l : Launch} {g : EG} : e_okp l g sg_X8_appendBytes "CalendarSync$Text" (pg_X8_appendBytes l g) := fun p e R s m args below meth c ex M0 Q X =>
    e_each_cons (r_bipush X (n := 24) (v := 24) dX8_appendBytes_0 (by decide) rfl)
    (e_each_cons (r_istore_n X (k := 2) (i := 2) rfl dX8_appendBytes_2 (by decide) rfl)
    (e_each_cons (r_iload_n X (k := 2) (i := 2) rfl dX8_appendBytes_3 rfl)
    (e_each_cons (r_if_lt X (off := 42) (t := 46) dX8_appendBytes_4 (by decide) rfl)
    (e_each_cons (r_aload_n X (k := 0) (i := 0) rfl dX8_appendBytes_7 rfl)
    (e_each_cons (r_getI X (index := 15) (ci := 7) (k := 0) dX8_appendBytes_8 (by decide) (by decide) rfl w1_184 rfl)
    (e_each_cons (r_sipush X (n := 800) (v := 800) dX8_appendBytes_11 (by decide) rfl)
    (e_each_cons (r_icmp_ge X (off := 26) (t := 40) dX8_appendBytes_14 (by decide) rfl)
    (e_each_cons (r_aload_n X (k := 0) (i := 0) rfl dX8_appendBytes_17 rfl)
    (e_each_cons (r_getP X (index := 9) (ci := 7) (k := 4) dX8_appendBytes_18 (by decide) (by decide) rfl w1_192 rfl)
    (e_each_cons (r_aload_n X (k := 0) (i := 0) rfl dX8_appendBytes_21 rfl)
    (e_each_cons (r_getI X (index := 15) (ci := 7) (k := 0) dX8_appendBytes_22 (by decide) (by decide) rfl w1_184 rfl)
    (e_each_cons (r_iload_n X (k := 1) (i := 1) rfl dX8_appendBytes_25 rfl)
    (e_each_cons (r_iload_n X (k := 2) (i := 2) rfl dX8_appendBytes_26 rfl)
    (e_each_cons (r_ishr X dX8_appendBytes_27 rfl)
    (e_each_cons (r_i2b X dX8_appendBytes_28 rfl)
    (e_each_cons (r_bast X dX8_appendBytes_29 rfl)
    (e_each_cons (r_aload_n X (k := 0) (i := 0) rfl dX8_appendBytes_30 rfl)
    (e_each_cons (r_dup X dX8_appendBytes_31 rfl)
    (e_each_cons (r_getI X (index := 15) (ci := 7) (k := 0) dX8_appendBytes_32 (by decide) (by decide) rfl w1_184 rfl)
    (e_each_cons (r_iconst X (n := 1) (v := 1) dX8_appendBytes_35 (by decide) rfl)
    (e_each_cons (r_iadd X dX8_appendBytes_36 rfl)
    (e_each_cons (r_putI X (index := 15) (ci := 7) (k := 0) dX8_appendBytes_37 (by decide) (by decide) rfl rfl w1_184 rfl)
    (e_each_cons (r_iinc X (i := 2) (n := (-8)) (d := (-8)) dX8_appendBytes_40 (by decide) (by decide) rfl)
    (e_each_cons (r_goto X (off := (-40)) (t := 3) dX8_appendBytes_43 (by decide))
    (e_each_cons (r_vret X dX8_appendBytes_46 rfl)
    (e_each_nil))))))))))))))))))))))))))
