/-! THE TEXT of the class: its bytes; its first token. -/
section
variable {l : Launch} {g : EG}
set_option maxRecDepth 20000 in
theorem ct_beginTokens (hl0 : l.stackTraces = false) (M : EM) {a n : Nat} {B : Nat → Nat} (f : Nat → Int32) (hT : TB M a B n) : Ct l g sg_X8_beginTokens [.inr (.inr (.inr (.inr (3, a)))), .inl (nI n)] (tW M a f) (fun o M' => BX (∃ f', M' = tW M a f' ∧ (CK B n (tS B n 0) f' ∧ f' 0 = f 0) ∧ o = .inl none)) := by
  refine sem_of hl0 mt_X8_beginTokens ok_X8_beginTokens rfl (fun K hc hw => ?_)
  clear hw
  have n8 := hT.1
  have hm : (if (800 : Int32) < nI n then (800 : Int32) else nI n) = nI n := by
    split
    · rename_i z
      exact absurd ((nI_ltI (a := 800) (by omega) (by omega)).mp z) (by omega)
    · rfl
  have st := fun {g : EG} => ct_step (g := g) hl0 M (a := a) (n := n) (p := 0) (B := B) (wS (wS f 5 (nI n)) 6 (nI 0)) hT (by rw [wS_o (by omega), wS_e]) wS_e (Nat.zero_le _)
  have k16 : K 16 [some (.inr (.inr (.inr (.inr (3, a))))), some (.inl (nI n))] [] (tW M a (wS (wS f 5 (nI n)) 6 (nI 0))) 0 0 := by
    refine e_step rfl hc 60 [] ?_
    repeat' (first | (with_reducible (intro h9; exact absurd rfl h9)) | (with_reducible (intro h9; exact absurd h9 e_10)) | (with_reducible (intro h9; first | exact absurd e_00 h9 | exact absurd h9 e_n10 | exact absurd h9 e_n20 | exact absurd h9 e_n30)) | (with_reducible intro _) | (refine And.intro ?_ ?_) | (with_reducible refine e_sw_nil ?_) | (refine e_ctK ?_; first | (refine Ct.mono (Ct.ar (by first | rfl | (simp (disch := omega) only [mI_rM0, mI_rM1, mI_rM2, mI_rM3, mI_rM4, mI_rM5, mI_rM6, mI_rM7, mI_rM8, mI_rM9, mI_rM10, mI_rM11, mI_rM12, mI_rM13, sI_rM0, sI_rM1, sI_rM2, sI_rM3, sI_rM4, sI_rM5, sI_rM6, sI_rM7, sI_rM8, sI_rM9, sI_rM10, sI_rM11, sI_rM12, sI_rM13, n_lit, ↓pk_rem, pk_div, pk_mul, pk_sub, nI_add, nI_clamp, nmod, Nat.add_sub_cancel, eAt, zAt, e_clI, e_clP, tW_s, tW_b, sI_tW]; done) | fail) (by first | rfl | (simp (disch := omega) only [mI_rM0, mI_rM1, mI_rM2, mI_rM3, mI_rM4, mI_rM5, mI_rM6, mI_rM7, mI_rM8, mI_rM9, mI_rM10, mI_rM11, mI_rM12, mI_rM13, sI_rM0, sI_rM1, sI_rM2, sI_rM3, sI_rM4, sI_rM5, sI_rM6, sI_rM7, sI_rM8, sI_rM9, sI_rM10, sI_rM11, sI_rM12, sI_rM13, n_lit, ↓pk_rem, pk_div, pk_mul, pk_sub, nI_add, nI_clamp, nmod, Nat.add_sub_cancel, eAt, zAt, e_clI, e_clP, tW_s, tW_b, sI_tW]; done) | fail) (st)) ?_; intro o M' h8; obtain ⟨f1, rfl, q1, rfl⟩ := h8.out) | fail) | fail)
    all_goals first | (with_reducible refine e_goK ?_) | (with_reducible refine e_ctK ?_) | (with_reducible refine vp_inK ?_; (try simp (disch := omega) only [mI_rM0, mI_rM1, mI_rM2, mI_rM3, mI_rM4, mI_rM5, mI_rM6, mI_rM7, mI_rM8, mI_rM9, mI_rM10, mI_rM11, mI_rM12, mI_rM13, sI_rM0, sI_rM1, sI_rM2, sI_rM3, sI_rM4, sI_rM5, sI_rM6, sI_rM7, sI_rM8, sI_rM9, sI_rM10, sI_rM11, sI_rM12, sI_rM13, ix_0, ix_1, ix_2, ix_3, ix_4, ix_5, ix_6, ix_7, ix_8, ix_9, ix_10, ix_11, ix_12, ix_13, ix_14, ix_15, ix_16, ix_20, ix_23, ix_24, ix_30, ix_36, ix_46, ix_76, mx_4, mx_6, mx_30, mx_136, mx_1100, mx_3324, xi_1, xi_30, nI_pred, eAt, zAt, tc_0, tc_1, tc_2, tc_3, tc_7, tc_15, tc_23, tc_30, nI_add, pk_mul, nI_clamp]); exact vp_in_nI (by omega) (by omega)) | rfl | exact trivial | exact Nat.zero_le _ | exact (e_fit_01 _).1 | exact (e_fit_01 _).2 | (with_reducible refine vp_in_iff.mpr ?_; decide +kernel) | (with_reducible refine e_nz _ (by decide)) | decide | skip
    all_goals exact BX.mk ⟨f1, rfl, ⟨q1.1, by rw [q1.2, wS_o (by omega), wS_o (by omega)]⟩, rfl⟩
  refine e_step rfl hc 60 [16] ?_
  repeat' (first | (with_reducible (intro h9; exact absurd rfl h9)) | (with_reducible (intro h9; exact absurd h9 e_10)) | (with_reducible (intro h9; first | exact absurd e_00 h9 | exact absurd h9 e_n10 | exact absurd h9 e_n20 | exact absurd h9 e_n30)) | (with_reducible intro _) | (refine And.intro ?_ ?_) | (with_reducible refine e_sw_nil ?_) | fail)
  all_goals first | (with_reducible refine e_goK ?_) | (with_reducible refine e_ctK ?_) | (with_reducible refine vp_inK ?_; (try simp (disch := omega) only [mI_rM0, mI_rM1, mI_rM2, mI_rM3, mI_rM4, mI_rM5, mI_rM6, mI_rM7, mI_rM8, mI_rM9, mI_rM10, mI_rM11, mI_rM12, mI_rM13, sI_rM0, sI_rM1, sI_rM2, sI_rM3, sI_rM4, sI_rM5, sI_rM6, sI_rM7, sI_rM8, sI_rM9, sI_rM10, sI_rM11, sI_rM12, sI_rM13, ix_0, ix_1, ix_2, ix_3, ix_4, ix_5, ix_6, ix_7, ix_8, ix_9, ix_10, ix_11, ix_12, ix_13, ix_14, ix_15, ix_16, ix_20, ix_23, ix_24, ix_30, ix_36, ix_46, ix_76, mx_4, mx_6, mx_30, mx_136, mx_1100, mx_3324, xi_1, xi_30, nI_pred, eAt, zAt, tc_0, tc_1, tc_2, tc_3, tc_7, tc_15, tc_23, tc_30, nI_add, pk_mul, nI_clamp]); exact vp_in_nI (by omega) (by omega)) | rfl | exact trivial | exact Nat.zero_le _ | exact (e_fit_01 _).1 | exact (e_fit_01 _).2 | (with_reducible refine vp_in_iff.mpr ?_; decide +kernel) | (with_reducible refine e_nz _ (by decide)) | decide | skip
  refine e_kk (K := K) ?_
  refine e_kc k16 rfl rfl ?_
  rw [hm]
  simp only [tW_s, tW_b, sI_tW]
  rfl
theorem byN_s {v s : Int32} : (v >>> (s &&& 31)).toInt8.toInt32 = sB (byN v s) := by
  unfold sB
  rw [← byN_e]
  apply Int32.toBitVec_inj.mp
  show BitVec.signExtend 32 (BitVec.signExtend 8 _) = BitVec.signExtend 32 (BitVec.signExtend 8 _)
  congr 1
  apply BitVec.eq_of_getLsbD_eq
  intro i hi
  have h32 : i < 32 := by omega
  show (BitVec.signExtend 8 (v >>> (s &&& 31)).toBitVec).getLsbD i = (BitVec.signExtend 8 ((v >>> (s &&& 31)).toBitVec &&& 255#32)).getLsbD i
  rw [BitVec.getLsbD_signExtend, BitVec.getLsbD_signExtend]
  simp only [hi, h32, decide_true, if_true, Bool.true_and, BitVec.getLsbD_and]
  have : (255#32).getLsbD i = true := by
    have : ∀ i, i < 8 → (255#32).getLsbD i = true := by decide
    exact this i hi
  rw [this, Bool.and_true]
/-- the text's two cells: bytes and fields -/
def bW (M : EM) (a : Nat) (b f : Nat → Int32) : EM := tW (tW M (a + 1) b) a f
theorem bW_0 {M : EM} {a k : Nat} {b f : Nat → Int32} : mI (bW M a b f) a k = f k := tW_s
theorem bW_1 {M : EM} {a k : Nat} {b f : Nat → Int32} : mI (bW M a b f) (a + 1) k = b k := tW_b.trans tW_s
theorem sI_bW0 {M : EM} {a k : Nat} {v : Int32} {b f : Nat → Int32} : sI (bW M a b f) a k v = bW M a b (wS f k v) := sI_tW
theorem sI_bW1 {M : EM} {a k : Nat} {v : Int32} {b f : Nat → Int32} : sI (bW M a b f) (a + 1) k v = bW M a (wS b k v) f := by
  unfold bW sI tW wS e_up
  refine Prod.ext rfl (Prod.ext ?_ rfl)
  funext c j
  dsimp only
  by_cases h : c = a
  · subst h; simp
  · by_cases h2 : c = a + 1
    · subst h2; by_cases h3 : j = k
      · simp [h3]
      · simp [h3]
    · simp [h, h2]
theorem bW_id {M : EM} {a : Nat} : bW M a (mI M (a + 1)) (mI M a) = M := by
  unfold bW; rw [tW_id, tW_id]
theorem nar_b {x : Int32} : vp_nar FieldType.byte (x.toInt8.toInt32) = x.toInt8.toInt32 := by
  show x.toInt8.toInt32.toInt8.toInt32 = _
  simp
def ap4 (b : Nat → Int32) (nb : Nat) (v : Int32) : Nat → Int32 := wS (wS (wS (wS b nb (sB (byN v 24))) (nb + 1) (sB (byN v 16))) (nb + 2) (sB (byN v 8))) (nb + 3) (sB (byN v 0))
set_option maxRecDepth 20000 in
theorem ct_appendBytes (hl0 : l.stackTraces = false) (M : EM) {a nb : Nat} {v : Int32} (b f : Nat → Int32) (h0 : f 0 = nI nb) (hb : nb + 4 ≤ 800) : Ct l g sg_X8_appendBytes [.inr (.inr (.inr (.inr (3, a)))), .inl v] (bW M a b f) (fun o M' => BX (∃ f', M' = bW M a (ap4 b nb v) f' ∧ (f' 0 = nI (nb + 4) ∧ ∀ j, ¬ j = 0 → f' j = f j) ∧ o = .inl none)) := by
  refine sem_of hl0 mt_X8_appendBytes ok_X8_appendBytes rfl (fun K hc hw => ?_)
  clear hw
  have it : ∀ (b f : Nat → Int32) (nb : Nat) (s s' : Int32), f 0 = nI nb → nb < 800 → 0 ≤ s → s + (-8) = s' → K 3 [some (.inr (.inr (.inr (.inr (3, a))))), some (.inl v), some (.inl (s'))] [] (bW M a (wS b nb (sB (byN v s))) (wS f 0 (nI (nb + 1)))) 0 0 → K 3 [some (.inr (.inr (.inr (.inr (3, a))))), some (.inl v), some (.inl (s))] [] (bW M a b f) 0 0 := by
    intro b f nb s s' f0 hb hs e8 kk
    have e8' : s + -(nI 8) = s' := e8
    rw [← byN_s] at kk
    have c : ¬ 800 ≤ mI (bW M a b f) a 0 := by rw [bW_0, f0]; exact fun z => absurd ((nI_leI (a := 800) (by omega) (by omega)).mp z) (by omega)
    have vq : vp_in (mI (bW M a b f) a 0) 800 := by rw [bW_0, f0]; exact vp_in_nI (by omega) (by omega)
    refine e_step rfl hc 60 [7] ?_
    repeat' (first | (with_reducible (intro h9; exact absurd rfl h9)) | (with_reducible (intro h9; exact absurd h9 e_10)) | (with_reducible (intro h9; first | exact absurd e_00 h9 | exact absurd h9 e_n10 | exact absurd h9 e_n20 | exact absurd h9 e_n30)) | (with_reducible intro _) | (refine And.intro ?_ ?_) | (with_reducible refine e_sw_nil ?_) | fail)
    all_goals first | (with_reducible refine e_goK ?_) | (with_reducible refine e_ctK ?_) | (with_reducible refine vp_inK ?_; (try simp (disch := omega) only [mI_rM0, mI_rM1, mI_rM2, mI_rM3, mI_rM4, mI_rM5, mI_rM6, mI_rM7, mI_rM8, mI_rM9, mI_rM10, mI_rM11, mI_rM12, mI_rM13, sI_rM0, sI_rM1, sI_rM2, sI_rM3, sI_rM4, sI_rM5, sI_rM6, sI_rM7, sI_rM8, sI_rM9, sI_rM10, sI_rM11, sI_rM12, sI_rM13, ix_0, ix_1, ix_2, ix_3, ix_4, ix_5, ix_6, ix_7, ix_8, ix_9, ix_10, ix_11, ix_12, ix_13, ix_14, ix_15, ix_16, ix_20, ix_23, ix_24, ix_30, ix_36, ix_46, ix_76, mx_4, mx_6, mx_30, mx_136, mx_1100, mx_3324, xi_1, xi_30, nI_pred, eAt, zAt, tc_0, tc_1, tc_2, tc_3, tc_7, tc_15, tc_23, tc_30, nI_add, pk_mul, nI_clamp]); exact vp_in_nI (by omega) (by omega)) | rfl | exact trivial | exact Nat.zero_le _ | exact (e_fit_01 _).1 | exact (e_fit_01 _).2 | (with_reducible refine vp_in_iff.mpr ?_; decide +kernel) | (with_reducible refine e_nz _ (by decide)) | decide | skip
    all_goals first | contradiction | (exfalso; exact absurd hs (Int32.not_le.mpr (by assumption))) | skip
    refine e_kk (K := K) ?_
    refine e_step rfl hc 60 [3] ?_
    repeat' (first | (with_reducible (intro h9; exact absurd rfl h9)) | (with_reducible (intro h9; exact absurd h9 e_10)) | (with_reducible (intro h9; first | exact absurd e_00 h9 | exact absurd h9 e_n10 | exact absurd h9 e_n20 | exact absurd h9 e_n30)) | (with_reducible intro _) | (refine And.intro ?_ ?_) | (with_reducible refine e_sw_nil ?_) | fail)
    all_goals first | (exfalso; first | exact c (by assumption) | exact (by assumption : ¬ _) c | fail) | skip
    all_goals first | (with_reducible refine e_goK ?_) | (with_reducible refine e_ctK ?_) | (with_reducible refine vp_inK ?_; (try simp (disch := omega) only [mI_rM0, mI_rM1, mI_rM2, mI_rM3, mI_rM4, mI_rM5, mI_rM6, mI_rM7, mI_rM8, mI_rM9, mI_rM10, mI_rM11, mI_rM12, mI_rM13, sI_rM0, sI_rM1, sI_rM2, sI_rM3, sI_rM4, sI_rM5, sI_rM6, sI_rM7, sI_rM8, sI_rM9, sI_rM10, sI_rM11, sI_rM12, sI_rM13, ix_0, ix_1, ix_2, ix_3, ix_4, ix_5, ix_6, ix_7, ix_8, ix_9, ix_10, ix_11, ix_12, ix_13, ix_14, ix_15, ix_16, ix_20, ix_23, ix_24, ix_30, ix_36, ix_46, ix_76, mx_4, mx_6, mx_30, mx_136, mx_1100, mx_3324, xi_1, xi_30, nI_pred, eAt, zAt, tc_0, tc_1, tc_2, tc_3, tc_7, tc_15, tc_23, tc_30, nI_add, pk_mul, nI_clamp]); exact vp_in_nI (by omega) (by omega)) | rfl | exact trivial | exact Nat.zero_le _ | exact (e_fit_01 _).1 | exact (e_fit_01 _).2 | (with_reducible refine vp_in_iff.mpr ?_; decide +kernel) | (with_reducible refine e_nz _ (by decide)) | decide | exact vq | skip
    all_goals first | (exfalso; first | exact c (by assumption) | exact (by assumption : ¬ _) c | fail) | skip
    refine e_kk (K := K) ?_; refine e_kc (kk) (by (repeat' (first | (refine e_cc ?_ ?_) | (with_reducible rfl) | (simp (disch := omega) only [mI_rM0, mI_rM1, mI_rM2, mI_rM3, mI_rM4, mI_rM5, mI_rM6, mI_rM7, mI_rM8, mI_rM9, mI_rM10, mI_rM11, mI_rM12, mI_rM13, sI_rM0, sI_rM1, sI_rM2, sI_rM3, sI_rM4, sI_rM5, sI_rM6, sI_rM7, sI_rM8, sI_rM9, sI_rM10, sI_rM11, sI_rM12, sI_rM13, n_lit, ↓pk_rem, pk_div, pk_mul, pk_sub, nI_add, nI_clamp, nmod, Nat.add_sub_cancel, eAt, zAt, e_clI, e_clP, bW_0, bW_1, sI_bW0, sI_bW1, f0, e8', nar_b]; done) | ((try simp (disch := omega) only [mI_rM0, mI_rM1, mI_rM2, mI_rM3, mI_rM4, mI_rM5, mI_rM6, mI_rM7, mI_rM8, mI_rM9, mI_rM10, mI_rM11, mI_rM12, mI_rM13, sI_rM0, sI_rM1, sI_rM2, sI_rM3, sI_rM4, sI_rM5, sI_rM6, sI_rM7, sI_rM8, sI_rM9, sI_rM10, sI_rM11, sI_rM12, sI_rM13, n_lit, ↓pk_rem, pk_div, pk_mul, pk_sub, nI_add, nI_clamp, nmod, Nat.add_sub_cancel, eAt, zAt, e_clI, e_clP, bW_0, bW_1, sI_bW0, sI_bW1, f0, e8', nar_b]); exact e_cnI (by omega)) | rfl))) (by (repeat' (first | (refine e_cc ?_ ?_) | (with_reducible rfl) | (simp (disch := omega) only [mI_rM0, mI_rM1, mI_rM2, mI_rM3, mI_rM4, mI_rM5, mI_rM6, mI_rM7, mI_rM8, mI_rM9, mI_rM10, mI_rM11, mI_rM12, mI_rM13, sI_rM0, sI_rM1, sI_rM2, sI_rM3, sI_rM4, sI_rM5, sI_rM6, sI_rM7, sI_rM8, sI_rM9, sI_rM10, sI_rM11, sI_rM12, sI_rM13, n_lit, ↓pk_rem, pk_div, pk_mul, pk_sub, nI_add, nI_clamp, nmod, Nat.add_sub_cancel, eAt, zAt, e_clI, e_clP, bW_0, bW_1, sI_bW0, sI_bW1, f0, e8', nar_b]; done) | ((try simp (disch := omega) only [mI_rM0, mI_rM1, mI_rM2, mI_rM3, mI_rM4, mI_rM5, mI_rM6, mI_rM7, mI_rM8, mI_rM9, mI_rM10, mI_rM11, mI_rM12, mI_rM13, sI_rM0, sI_rM1, sI_rM2, sI_rM3, sI_rM4, sI_rM5, sI_rM6, sI_rM7, sI_rM8, sI_rM9, sI_rM10, sI_rM11, sI_rM12, sI_rM13, n_lit, ↓pk_rem, pk_div, pk_mul, pk_sub, nI_add, nI_clamp, nmod, Nat.add_sub_cancel, eAt, zAt, e_clI, e_clP, bW_0, bW_1, sI_bW0, sI_bW1, f0, e8', nar_b]); exact e_cnI (by omega)) | rfl))) (by first | (with_reducible rfl) | (simp (disch := omega) only [mI_rM0, mI_rM1, mI_rM2, mI_rM3, mI_rM4, mI_rM5, mI_rM6, mI_rM7, mI_rM8, mI_rM9, mI_rM10, mI_rM11, mI_rM12, mI_rM13, sI_rM0, sI_rM1, sI_rM2, sI_rM3, sI_rM4, sI_rM5, sI_rM6, sI_rM7, sI_rM8, sI_rM9, sI_rM10, sI_rM11, sI_rM12, sI_rM13, n_lit, ↓pk_rem, pk_div, pk_mul, pk_sub, nI_add, nI_clamp, nmod, Nat.add_sub_cancel, eAt, zAt, e_clI, e_clP, bW_0, bW_1, sI_bW0, sI_bW1, f0, e8', nar_b]; done) | rfl | fail)
  have kend : ∀ (b' f' : Nat → Int32), b' = ap4 b nb v → f' 0 = nI (nb + 4) → (∀ j, ¬ j = 0 → f' j = f j) → K 3 [some (.inr (.inr (.inr (.inr (3, a))))), some (.inl v), some (.inl (-8))] [] (bW M a b' f') 0 0 := by
    intro b' f' hb' hf hj
    refine e_step rfl hc 60 [7] ?_
    repeat' (first | (with_reducible (intro h9; exact absurd rfl h9)) | (with_reducible (intro h9; exact absurd h9 e_10)) | (with_reducible (intro h9; first | exact absurd e_00 h9 | exact absurd h9 e_n10 | exact absurd h9 e_n20 | exact absurd h9 e_n30)) | (with_reducible intro _) | (refine And.intro ?_ ?_) | (with_reducible refine e_sw_nil ?_) | fail)
    all_goals first | (with_reducible refine e_goK ?_) | (with_reducible refine e_ctK ?_) | (with_reducible refine vp_inK ?_; (try simp (disch := omega) only [mI_rM0, mI_rM1, mI_rM2, mI_rM3, mI_rM4, mI_rM5, mI_rM6, mI_rM7, mI_rM8, mI_rM9, mI_rM10, mI_rM11, mI_rM12, mI_rM13, sI_rM0, sI_rM1, sI_rM2, sI_rM3, sI_rM4, sI_rM5, sI_rM6, sI_rM7, sI_rM8, sI_rM9, sI_rM10, sI_rM11, sI_rM12, sI_rM13, ix_0, ix_1, ix_2, ix_3, ix_4, ix_5, ix_6, ix_7, ix_8, ix_9, ix_10, ix_11, ix_12, ix_13, ix_14, ix_15, ix_16, ix_20, ix_23, ix_24, ix_30, ix_36, ix_46, ix_76, mx_4, mx_6, mx_30, mx_136, mx_1100, mx_3324, xi_1, xi_30, nI_pred, eAt, zAt, tc_0, tc_1, tc_2, tc_3, tc_7, tc_15, tc_23, tc_30, nI_add, pk_mul, nI_clamp]); exact vp_in_nI (by omega) (by omega)) | rfl | exact trivial | exact Nat.zero_le _ | exact (e_fit_01 _).1 | exact (e_fit_01 _).2 | (with_reducible refine vp_in_iff.mpr ?_; decide +kernel) | (with_reducible refine e_nz _ (by decide)) | decide | skip
    all_goals first | contradiction | (exfalso; rename_i g1; exact absurd (by decide) g1) | (subst hb'; exact BX.mk ⟨f', rfl, ⟨hf, hj⟩, rfl⟩) | trace_state
  have k0 := it b f nb 24 16 h0 (by omega) (by decide) rfl (it _ (wS f 0 (nI (nb + 1))) (nb + 1) 16 8 wS_e (by omega) (by decide) rfl (it _ _ (nb + 2) 8 0 wS_e (by omega) (by decide) rfl (it _ _ (nb + 3) 0 (-8) wS_e (by omega) (by decide) rfl (kend _ _ rfl wS_e (fun j hj => by rw [wS_o hj, wS_o hj, wS_o hj, wS_o hj])))))
  refine e_step rfl hc 60 [3] ?_
  repeat' (first | (with_reducible (intro h9; exact absurd rfl h9)) | (with_reducible (intro h9; exact absurd h9 e_10)) | (with_reducible (intro h9; first | exact absurd e_00 h9 | exact absurd h9 e_n10 | exact absurd h9 e_n20 | exact absurd h9 e_n30)) | (with_reducible intro _) | (refine And.intro ?_ ?_) | (with_reducible refine e_sw_nil ?_) | fail)
  all_goals first | (with_reducible refine e_goK ?_) | (with_reducible refine e_ctK ?_) | (with_reducible refine vp_inK ?_; (try simp (disch := omega) only [mI_rM0, mI_rM1, mI_rM2, mI_rM3, mI_rM4, mI_rM5, mI_rM6, mI_rM7, mI_rM8, mI_rM9, mI_rM10, mI_rM11, mI_rM12, mI_rM13, sI_rM0, sI_rM1, sI_rM2, sI_rM3, sI_rM4, sI_rM5, sI_rM6, sI_rM7, sI_rM8, sI_rM9, sI_rM10, sI_rM11, sI_rM12, sI_rM13, ix_0, ix_1, ix_2, ix_3, ix_4, ix_5, ix_6, ix_7, ix_8, ix_9, ix_10, ix_11, ix_12, ix_13, ix_14, ix_15, ix_16, ix_20, ix_23, ix_24, ix_30, ix_36, ix_46, ix_76, mx_4, mx_6, mx_30, mx_136, mx_1100, mx_3324, xi_1, xi_30, nI_pred, eAt, zAt, tc_0, tc_1, tc_2, tc_3, tc_7, tc_15, tc_23, tc_30, nI_add, pk_mul, nI_clamp]); exact vp_in_nI (by omega) (by omega)) | rfl | exact trivial | exact Nat.zero_le _ | exact (e_fit_01 _).1 | exact (e_fit_01 _).2 | (with_reducible refine vp_in_iff.mpr ?_; decide +kernel) | (with_reducible refine e_nz _ (by decide)) | decide | skip
  exact k0
end
