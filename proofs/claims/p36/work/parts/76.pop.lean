/-! BITS: how many of a number. -/
section
variable {l : Launch} {g : EG}
def u5 (x k : Int32) : Int32 := (x.toUInt32 >>> (k.toUInt32 &&& Int32.toUInt32 31)).toInt32
def pc1 (b : Int32) : Int32 := b - (u5 b 1 &&& 1431655765)
def pc2 (b : Int32) : Int32 := (b &&& 858993459) + (u5 b 2 &&& 858993459)
def pc3 (b : Int32) : Int32 := (b + u5 b 4) &&& 252645135
def pc4 (b : Int32) : Int32 := b + u5 b 8
def pc5 (b : Int32) : Int32 := (b + u5 b 16) &&& 63
def pcn (b : Int32) : Int32 := pc5 (pc4 (pc3 (pc2 (pc1 b))))
theorem and_sp {x c m k : Nat} (hx : x < 256) (hc : c < 256) : (x + 256 * m) &&& (c + 256 * k) = (x &&& c) + 256 * (m &&& k) := by
  have hxc : x &&& c < 2 ^ 8 := Nat.and_lt_two_pow x (by omega)
  apply Nat.eq_of_testBit_eq
  intro i
  have e : ∀ (y n : Nat), y < 2 ^ 8 → (y + 256 * n).testBit i = if i < 8 then y.testBit i else n.testBit (i - 8) := by
    intro y n hy
    rw [Nat.add_comm, show 256 * n = 2 ^ 8 * n from rfl]
    exact Nat.testBit_two_pow_mul_add n hy i
  rw [Nat.testBit_and, e x m hx, e c k hc, e _ _ hxc]
  by_cases h : i < 8
  · simp [h, Nat.testBit_and]
  · simp [h, Nat.testBit_and]
theorem h1d : ∀ a, a < 256 → ∀ r, r < 2 → (a / 2 + 128 * r) &&& 0x55 = (a / 2) &&& 0x55 := by decide +kernel
theorem h2d : ∀ a, a < 256 → ∀ r, r < 4 → (a / 4 + 64 * r) &&& 0x33 = (a / 4) &&& 0x33 := by decide +kernel
theorem h3d : ∀ a, a < 128 → ∀ r, r < 5 → (a + a / 16 + 16 * r) &&& 0x0f = (a + a / 16) &&& 0x0f := by decide +kernel
theorem h1s {a m k : Nat} (ha : a < 256) : ((a + 256 * m) / 2) &&& (0x55 + 256 * k) = ((a / 2) &&& 0x55) + 256 * ((m / 2) &&& k) := by
  rw [show (a + 256 * m) / 2 = (a / 2 + 128 * (m % 2)) + 256 * (m / 2) by omega, and_sp (by omega) (by omega), h1d a ha _ (by omega)]
theorem h2s {a m k : Nat} (ha : a < 256) : ((a + 256 * m) / 4) &&& (0x33 + 256 * k) = ((a / 4) &&& 0x33) + 256 * ((m / 4) &&& k) := by
  rw [show (a + 256 * m) / 4 = (a / 4 + 64 * (m % 4)) + 256 * (m / 4) by omega, and_sp (by omega) (by omega), h2d a ha _ (by omega)]
theorem h3s {a m k : Nat} (ha : a ≤ 68) (hm : m % 16 ≤ 4) : ((a + 256 * m) + (a + 256 * m) / 16) &&& (0x0f + 256 * k) = ((a + a / 16) &&& 0x0f) + 256 * ((m + m / 16) &&& k) := by
  rw [show (a + 256 * m) + (a + 256 * m) / 16 = (a + a / 16 + 16 * (m % 16)) + 256 * (m + m / 16) by omega, and_sp (by omega) (by omega), h3d a (by omega) _ (by omega)]
def tcn (f : Nat → Bool) : Nat → Nat
  | 0 => 0
  | k + 1 => if f k then tcn f k + 1 else tcn f k
def y1 (a : Nat) : Nat := a - ((a / 2) &&& 0x55)
def y2 (a : Nat) : Nat := (a &&& 0x33) + ((a / 4) &&& 0x33)
def y3 (a : Nat) : Nat := (a + a / 16) &&& 0x0f
theorem y_d : ∀ a, a < 256 → ((a / 2) &&& 0x55) ≤ a ∧ y1 a < 256 ∧ y2 (y1 a) ≤ 68 ∧ y2 (y1 a) % 16 ≤ 4 ∧ y3 (y2 (y1 a)) = tcn a.testBit 8 ∧ y3 (y2 (y1 a)) ≤ 8 := by decide +kernel
def z1 (n : Nat) : Nat := n - ((n / 2) &&& 0x55555555)
def z2 (n : Nat) : Nat := (n &&& 0x33333333) + ((n / 4) &&& 0x33333333)
def z3 (n : Nat) : Nat := (n + n / 16) &&& 0x0f0f0f0f
def b4 (a b c d : Nat) : Nat := a + 256 * (b + 256 * (c + 256 * d))
theorem k55 : 0x55555555 = 0x55 + 256 * (0x55 + 256 * (0x55 + 256 * (0x55 + 256 * 0))) := rfl
theorem k33 : 0x33333333 = 0x33 + 256 * (0x33 + 256 * (0x33 + 256 * (0x33 + 256 * 0))) := rfl
theorem k0f : 0x0f0f0f0f = 0x0f + 256 * (0x0f + 256 * (0x0f + 256 * (0x0f + 256 * 0))) := rfl
theorem z1_4 {a b c d : Nat} (ha : a < 256) (hb : b < 256) (hc : c < 256) (hd : d < 256) : z1 (b4 a b c d) = b4 (y1 a) (y1 b) (y1 c) (y1 d) ∧ ((b4 a b c d) / 2) &&& 0x55555555 ≤ b4 a b c d := by
  have A := (y_d a ha).1
  have B := (y_d b hb).1
  have C := (y_d c hc).1
  have D := (y_d d hd).1
  have e : ((b4 a b c d) / 2) &&& 0x55555555 = b4 ((a / 2) &&& 0x55) ((b / 2) &&& 0x55) ((c / 2) &&& 0x55) ((d / 2) &&& 0x55) := by
    rw [k55]
    unfold b4
    rw [h1s ha, h1s hb, h1s hc, show d = d + 256 * 0 from rfl, h1s hd]
  unfold z1 y1
  rw [e]
  unfold b4
  omega
theorem z2_4 {a b c d : Nat} (ha : a < 256) (hb : b < 256) (hc : c < 256) (hd : d < 256) : z2 (b4 a b c d) = b4 (y2 a) (y2 b) (y2 c) (y2 d) := by
  have e : ((b4 a b c d) / 4) &&& 0x33333333 = b4 ((a / 4) &&& 0x33) ((b / 4) &&& 0x33) ((c / 4) &&& 0x33) ((d / 4) &&& 0x33) := by
    rw [k33]
    unfold b4
    rw [h2s ha, h2s hb, h2s hc, show d = d + 256 * 0 from rfl, h2s hd]
  have e2 : (b4 a b c d) &&& 0x33333333 = b4 (a &&& 0x33) (b &&& 0x33) (c &&& 0x33) (d &&& 0x33) := by
    rw [k33]
    unfold b4
    rw [and_sp ha (by omega), and_sp hb (by omega), and_sp hc (by omega), show d = d + 256 * 0 from rfl, and_sp hd (by omega)]
  unfold z2 y2
  rw [e, e2]
  unfold b4
  omega
theorem z3_4 {a b c d : Nat} (ha : a ≤ 68 ∧ a % 16 ≤ 4) (hb : b ≤ 68 ∧ b % 16 ≤ 4) (hc : c ≤ 68 ∧ c % 16 ≤ 4) (hd : d ≤ 68 ∧ d % 16 ≤ 4) : z3 (b4 a b c d) = b4 (y3 a) (y3 b) (y3 c) (y3 d) := by
  unfold z3 y3
  rw [k0f]
  unfold b4
  rw [h3s ha.1 (by omega), h3s hb.1 (by omega), h3s hc.1 (by omega), show d = d + 256 * 0 from rfl, h3s hd.1 (by omega)]
theorem u5k : ∀ k, k < 32 → (((nI k).toUInt32 &&& Int32.toUInt32 31).toBitVec % 32).toNat = k := by decide +kernel
theorem u5_n (x : Int32) {k : Nat} (hk : k < 32) : (u5 x (nI k)).toBitVec.toNat = x.toBitVec.toNat / 2 ^ k := by
  unfold u5
  have e : (UInt32.toBitVec (x.toUInt32 >>> ((nI k).toUInt32 &&& Int32.toUInt32 31))) = x.toBitVec >>> k := by
    rw [UInt32.toBitVec_shiftRight, BitVec.ushiftRight_eq', u5k k hk]; rfl
  show (UInt32.toBitVec (x.toUInt32 >>> ((nI k).toUInt32 &&& Int32.toUInt32 31))).toNat = _
  rw [e, BitVec.toNat_ushiftRight, Nat.shiftRight_eq_div_pow]
theorem tcn_add (f : Nat → Bool) (m : Nat) : ∀ n, tcn f (m + n) = tcn f m + tcn (fun j => f (m + j)) n
  | 0 => rfl
  | n + 1 => by
    have ih := tcn_add f m n
    show (if f (m + n) then tcn f (m + n) + 1 else tcn f (m + n)) = _ + (if f (m + n) then _ + 1 else _)
    split <;> omega
theorem tcn_c {f f' : Nat → Bool} : ∀ n, (∀ k, k < n → f k = f' k) → tcn f n = tcn f' n
  | 0, _ => rfl
  | n + 1, h => by
    have ih := tcn_c n (fun k hk => h k (by omega))
    unfold tcn
    rw [h n (by omega), ih]
theorem e_cnt_t (b : Int32) : ∀ n, n ≤ 32 → e_cnt b n = tcn b.toBitVec.getLsbD n
  | 0, _ => rfl
  | n + 1, h => by
    have ih := e_cnt_t b n (by omega)
    have q := e_bit_lsb b (k := n) (by omega)
    show (if e_bit b (nI n) then e_cnt b n + 1 else e_cnt b n) = (if b.toBitVec.getLsbD n = true then _ else _)
    by_cases c : e_bit b (nI n)
    · rw [if_pos c, if_pos (q.mp c), ih]
    · rw [if_neg c, if_neg (fun z => c (q.mpr z)), ih]
abbrev tn (x : Int32) : Nat := x.toBitVec.toNat
theorem tn_lt (x : Int32) : tn x < 2 ^ 32 := x.toBitVec.isLt
theorem tn_sub {x y : Int32} (h : tn y ≤ tn x) : tn (x - y) = tn x - tn y := by
  have h1 : x.toBitVec.toNat < 2 ^ 32 := tn_lt x
  replace h : y.toBitVec.toNat ≤ x.toBitVec.toNat := h
  show (x - y).toBitVec.toNat = x.toBitVec.toNat - y.toBitVec.toNat
  rw [Int32.toBitVec_sub, BitVec.toNat_sub]
  omega
theorem tn_add {x y : Int32} (h : tn x + tn y < 2 ^ 32) : tn (x + y) = tn x + tn y := by
  replace h : x.toBitVec.toNat + y.toBitVec.toNat < 2 ^ 32 := h
  show (x + y).toBitVec.toNat = x.toBitVec.toNat + y.toBitVec.toNat
  rw [Int32.toBitVec_add, BitVec.toNat_add]
  omega
theorem tn_and (x y : Int32) : tn (x &&& y) = tn x &&& tn y := by
  show (x &&& y).toBitVec.toNat = _
  rw [Int32.toBitVec_and, BitVec.toNat_and]
theorem tn_u (x : Int32) {k : Nat} (hk : k < 32) : tn (u5 x (nI k)) = tn x / 2 ^ k := u5_n x hk
theorem tn_nI {k : Nat} (hk : k < 2 ^ 31) : tn (nI k) = k := by
  show (BitVec.ofNat 32 k).toNat = k
  rw [BitVec.toNat_ofNat]; omega
theorem tn_inj {x y : Int32} (h : tn x = tn y) : x = y := Int32.toBitVec_inj.mp (BitVec.eq_of_toNat_eq h)
theorem b4_bit {a b c d : Nat} (ha : a < 256) (hb : b < 256) (hc : c < 256) : ∀ j, j < 8 → (b4 a b c d).testBit j = a.testBit j ∧ (b4 a b c d).testBit (8 + j) = b.testBit j ∧ (b4 a b c d).testBit (16 + j) = c.testBit j ∧ (b4 a b c d).testBit (24 + j) = d.testBit j := by
  intro j hj
  have e : ∀ (y n i : Nat), y < 2 ^ 8 → (y + 256 * n).testBit i = if i < 8 then y.testBit i else n.testBit (i - 8) := by
    intro y n i hy
    rw [Nat.add_comm, show 256 * n = 2 ^ 8 * n from rfl]
    exact Nat.testBit_two_pow_mul_add n hy i
  unfold b4
  refine ⟨?_, ?_, ?_, ?_⟩
  · rw [e _ _ _ ha, if_pos hj]
  · rw [e _ _ _ ha, if_neg (by omega), e _ _ _ hb, if_pos (by omega), show 8 + j - 8 = j by omega]
  · rw [e _ _ _ ha, if_neg (by omega), e _ _ _ hb, if_neg (by omega), e _ _ _ hc, if_pos (by omega), show 16 + j - 8 - 8 = j by omega]
  · rw [e _ _ _ ha, if_neg (by omega), e _ _ _ hb, if_neg (by omega), e _ _ _ hc, if_neg (by omega), show 24 + j - 8 - 8 - 8 = j by omega]
theorem tcn32 (f : Nat → Bool) : tcn f 32 = tcn f 8 + (tcn (fun j => f (8 + j)) 8 + (tcn (fun j => f (8 + (8 + j))) 8 + tcn (fun j => f (8 + (8 + (8 + j)))) 8)) := by
  rw [show (32 : Nat) = 8 + (8 + (8 + 8)) from rfl, tcn_add, tcn_add, tcn_add]
theorem b4_sum {a b c d : Nat} (ha : a ≤ 8) (hb : b ≤ 8) (hc : c ≤ 8) (hd : d ≤ 8) : (b4 a b c d + b4 a b c d / 256 + (b4 a b c d + b4 a b c d / 256) / 65536) % 64 = a + b + c + d := by
  have e1 : b4 a b c d / 256 = b + 256 * (c + 256 * d) := by unfold b4; omega
  have e2 : b4 a b c d + b4 a b c d / 256 = (a + b) + 256 * (b + c) + 65536 * (c + d + 256 * d) := by rw [e1]; unfold b4; omega
  have e3 : (b4 a b c d + b4 a b c d / 256) / 65536 = c + d + 256 * d := by rw [e2]; omega
  rw [e3, e2]
  omega
theorem pcn_cnt (b : Int32) : pcn b = nI (e_cnt b 32) := by
  have hb := tn_lt b
  obtain ⟨a0, a1, a2, a3, h0, h1, h2, h3, hn⟩ : ∃ a0 a1 a2 a3, a0 < 256 ∧ a1 < 256 ∧ a2 < 256 ∧ a3 < 256 ∧ tn b = b4 a0 a1 a2 a3 := ⟨tn b % 256, tn b / 256 % 256, tn b / 256 / 256 % 256, tn b / 256 / 256 / 256 % 256, by omega, by omega, by omega, by omega, by unfold b4; omega⟩
  obtain ⟨_, p1, q1, r1, s1, t1⟩ := y_d a0 h0
  obtain ⟨_, p2, q2, r2, s2, t2⟩ := y_d a1 h1
  obtain ⟨_, p3, q3, r3, s3, t3⟩ := y_d a2 h2
  obtain ⟨_, p4, q4, r4, s4, t4⟩ := y_d a3 h3
  have z1e := z1_4 h0 h1 h2 h3
  have z2e := z2_4 p1 p2 p3 p4
  have z3e := z3_4 ⟨q1, r1⟩ ⟨q2, r2⟩ ⟨q3, r3⟩ ⟨q4, r4⟩
  have e1 : tn (pc1 b) = z1 (tn b) := by
    have u : tn (u5 b 1 &&& 1431655765) = (tn b / 2) &&& 0x55555555 := by rw [tn_and, show (1 : Int32) = nI 1 from rfl, tn_u b (by omega)]; rfl
    unfold pc1 z1
    rw [tn_sub (by rw [u, hn]; exact z1e.2), u]
  have e2 : tn (pc2 (pc1 b)) = z2 (tn (pc1 b)) := by
    have u : tn (u5 (pc1 b) 2 &&& 858993459) = (tn (pc1 b) / 4) &&& 0x33333333 := by rw [tn_and, show (2 : Int32) = nI 2 from rfl, tn_u _ (by omega)]; rfl
    have v : tn (pc1 b &&& 858993459) = tn (pc1 b) &&& 0x33333333 := tn_and _ _
    have w : z2 (tn (pc1 b)) < 2 ^ 32 := by rw [e1, hn, z1e.1, z2e]; unfold b4; omega
    unfold pc2
    rw [tn_add (by rw [u, v]; exact w), u, v]
    rfl
  have g2 : tn (pc2 (pc1 b)) = b4 (y2 (y1 a0)) (y2 (y1 a1)) (y2 (y1 a2)) (y2 (y1 a3)) := by rw [e2, e1, hn, z1e.1, z2e]
  have e3 : tn (pc3 (pc2 (pc1 b))) = z3 (tn (pc2 (pc1 b))) := by
    have u : tn (u5 (pc2 (pc1 b)) 4) = tn (pc2 (pc1 b)) / 16 := by rw [show (4 : Int32) = nI 4 from rfl, tn_u _ (by omega)]
    unfold pc3 z3
    rw [tn_and, tn_add (by rw [u, g2]; unfold b4; omega), u]
    rfl
  have g3 : tn (pc3 (pc2 (pc1 b))) = b4 (tcn a0.testBit 8) (tcn a1.testBit 8) (tcn a2.testBit 8) (tcn a3.testBit 8) := by rw [e3, g2, z3e, s1, s2, s3, s4]
  rw [s1] at t1
  rw [s2] at t2
  rw [s3] at t3
  rw [s4] at t4
  have g4 : tn (pc4 (pc3 (pc2 (pc1 b)))) = tn (pc3 (pc2 (pc1 b))) + tn (pc3 (pc2 (pc1 b))) / 256 := by
    have u : tn (u5 (pc3 (pc2 (pc1 b))) 8) = tn (pc3 (pc2 (pc1 b))) / 256 := by rw [show (8 : Int32) = nI 8 from rfl, tn_u _ (by omega)]
    unfold pc4
    rw [tn_add (by rw [u, g3]; unfold b4; omega), u]
  have g5 : tn (pcn b) = (tn (pc4 (pc3 (pc2 (pc1 b)))) + tn (pc4 (pc3 (pc2 (pc1 b)))) / 65536) % 64 := by
    have u : tn (u5 (pc4 (pc3 (pc2 (pc1 b)))) 16) = tn (pc4 (pc3 (pc2 (pc1 b)))) / 65536 := by rw [show (16 : Int32) = nI 16 from rfl, tn_u _ (by omega)]
    unfold pcn pc5
    rw [tn_and, tn_add (by rw [u, g4, g3]; unfold b4; omega), u]
    exact Nat.and_two_pow_sub_one_eq_mod _ 6
  have hcn : e_cnt b 32 = tcn a0.testBit 8 + tcn a1.testBit 8 + tcn a2.testBit 8 + tcn a3.testBit 8 := by
    rw [e_cnt_t b 32 (by omega)]
    have hbit : ∀ j, b.toBitVec.getLsbD j = (b4 a0 a1 a2 a3).testBit j := fun j => by rw [← hn]; rfl
    have bb := b4_bit (d := a3) h0 h1 h2
    rw [tcn32]
    have w0 := tcn_c (f := b.toBitVec.getLsbD) (f' := a0.testBit) 8 (fun k hk => (hbit k).trans (bb k hk).1)
    have w1 := tcn_c (f := fun j => b.toBitVec.getLsbD (8 + j)) (f' := a1.testBit) 8 (fun k hk => (hbit _).trans (bb k hk).2.1)
    have w2 := tcn_c (f := fun j => b.toBitVec.getLsbD (8 + (8 + j))) (f' := a2.testBit) 8 (fun k hk => (hbit _).trans (by rw [show 8 + (8 + k) = 16 + k by omega]; exact (bb k hk).2.2.1))
    have w3 := tcn_c (f := fun j => b.toBitVec.getLsbD (8 + (8 + (8 + j)))) (f' := a3.testBit) 8 (fun k hk => (hbit _).trans (by rw [show 8 + (8 + (8 + k)) = 24 + k by omega]; exact (bb k hk).2.2.2))
    rw [w0, w1, w2, w3]
    omega
  apply tn_inj
  rw [g5, g4, g3, tn_nI (by omega), hcn]
  exact b4_sum t1 t2 t3 t4
set_option maxRecDepth 20000 in
theorem c_bitCount_0f7a4 (hl0 : l.stackTraces = false) (M : EM) (b : Int32) : Ct l g sg_J6_bitCount_0f7a4 [.inl b] M (fun o M' => M' = M ∧ o = .inl (some (.inl (nI (e_cnt b 32))))) := by
  refine sem_of hl0 mt_J6_bitCount_0f7a4 ok_J6_bitCount_0f7a4 rfl (fun K hc hw => e_step rfl hc 80 [] ?_)
  rw [← pcn_cnt]
  repeat' (first | (with_reducible (intro h9; exact absurd rfl h9)) | (with_reducible (intro h9; exact absurd h9 e_10)) | (with_reducible (intro h9; first | exact absurd e_00 h9 | exact absurd h9 e_n10 | exact absurd h9 e_n20 | exact absurd h9 e_n30)) | (with_reducible intro _) | (refine And.intro ?_ ?_) | (with_reducible refine e_sw_nil ?_) | fail)
  all_goals first | (with_reducible refine e_goK ?_) | (with_reducible refine e_ctK ?_) | (with_reducible refine vp_inK ?_; (try simp (disch := omega) only [mI_sI2, mI_sL, mI_sP, mI_sN, mI_sIr, mI_sLr, mL_sI, mL_sL2, mL_sP, mL_sN, mL_sIr, mL_sLr, mP_sI, mP_sL, mP_sN, mP_sIr, mP_sLr, nI_add, nI_clamp]); exact vp_in_nI (by omega) (by omega)) | rfl | exact trivial | exact Nat.zero_le _ | exact (e_fit_01 _).1 | exact (e_fit_01 _).2 | (with_reducible refine vp_in_iff.mpr ?_; decide +kernel) | (with_reducible refine e_nz _ (by decide)) | decide | skip
end
