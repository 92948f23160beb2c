/-! THE LAW, 1: what it draws; a builder in the law's hands. -/
section
variable {l : Launch} {g : EG}
/-- the letters of a text constant -/
def cT (k : Nat) : List Nat := (e_byt.getD k []).map (fun x => x.toNatClampNeg)
theorem cT_a : ∀ k, k < 35 → (∀ c ∈ cT k, c < 128) ∧ e_len.getD k 0 = (cT k).length ∧ ∀ j, j < (cT k).length → (e_byt.getD k []).getD j 0 = nI ((cT k).getD j 0) := by decide +kernel
theorem txC {M : EM} {k a b : Nat} (hk : k < 35) : Txt M (200 + k, gS g k) (cT k) a b := by
  obtain ⟨h1, h2, h3⟩ := cT_a k hk
  refine ⟨h1, Or.inr ⟨⟨by show 200 ≤ 200 + k; omega, by show 200 + k ≤ 234; omega⟩, ?_, ?_⟩⟩
  · show e_len.getD (200 + k - 200) 0 = _
    rw [Nat.add_sub_cancel_left]; exact h2
  · show ∀ j, j < (cT k).length → (e_byt.getD (200 + k - 200) []).getD j 0 = _
    rw [Nat.add_sub_cancel_left]; exact h3
theorem cT_len : ∀ k, k < 35 → (cT k).length ≤ 23 := by decide +kernel
theorem sI_sI {M : EM} {a k : Nat} {v w : Int32} : sI (sI M a k v) a k w = sI M a k w := by
  unfold sI e_up
  refine Prod.ext rfl (Prod.ext ?_ rfl)
  funext c j
  by_cases h : c = a <;> by_cases h2 : j = k <;> simp [h, h2]
theorem nI_self (x : Int32) : x = nI x.toBitVec.toNat := Int32.toBitVec_inj.mp (by show x.toBitVec = BitVec.ofNat 32 x.toBitVec.toNat; simp)
theorem nI_ush (n : Nat) (x : Int32) (h : (((nI n).toUInt32 &&& Int32.toUInt32 31).toBitVec % 32).toNat = n) : (x.toUInt32 >>> ((nI n).toUInt32 &&& Int32.toUInt32 31)).toInt32 = nI (x.toBitVec.toNat / 2 ^ n) := by
  have h1 := pk_ushr x (nI n) n h
  have h2 := nI_self ((x.toUInt32 >>> ((nI n).toUInt32 &&& Int32.toUInt32 31)).toInt32)
  rw [h1] at h2
  exact h2
/-- one number is drawn: r's cell holds a new number -/
theorem c_next (hl0 : l.stackTraces = false) {M : EM} {r : Nat} : Ct l g sg_L_next [.inr (.inr (.inr (.inr (52, r))))] M (fun o M' => BX (∃ v k, k < 8388608 ∧ M' = sI M r 0 v ∧ o = .inl (some (.inl (nI k))))) := by
  refine sem_ofF hl0 mt_L_next ok_L_next rfl (fun K hc hw => e_step rfl hc 60 [] ?_)
  have hv : vp_in (0 : Int32) 1 := show vp_in (nI 0) 1 from vp_in_nI (by decide) (by decide)
  refine ⟨hv, hv, hv, hv, hv, hv, Nat.zero_le _, Nat.zero_le _, ?_⟩
  refine ⟨⟨_, _, ?_, sI_sI, oI (nI_ush 9 _ (by decide))⟩⟩
  rw [Nat.div_lt_iff_lt_mul (by decide)]
  exact BitVec.isLt _
/-- a builder at a with the letters T; since M0 only r's cell has changed -/
def BS (M0 M : EM) (r a : Nat) (T : List Nat) : Prop := (∃ b n, SBd M a b n T ∧ mN M0 ≤ b) ∧ mN M0 ≤ a ∧ fr2 M0 M r r ∧ r < mN M0
theorem fr2.cmp {M M1 M2 : EM} {r : Nat} (h : fr2 M M1 r r) (h' : fr2 M1 M2 r r) : fr2 M M2 r r := h.tr h' (Or.inl rfl)
theorem fr2.big {M M1 M2 : EM} {r a b : Nat} (h : fr2 M M1 r r) (h' : fr2 M1 M2 a b) (ha : mN M ≤ a) (hb : mN M ≤ b) : fr2 M M2 r r :=
  ⟨Nat.le_trans h.1 h'.1, fun c hc => h'.2.1 c (h.2.1 c hc), fun c hc => ⟨(h'.2.2 c (Nat.lt_of_lt_of_le hc h.1)).1.trans (h.2.2 c hc).1, fun h1 h2 => by
    obtain ⟨x1, x2, x3⟩ := (h.2.2 c hc).2 h1 h2
    obtain ⟨y1, y2, y3⟩ := (h'.2.2 c (Nat.lt_of_lt_of_le hc h.1)).2 (by omega) (by omega)
    exact ⟨y1.trans x1, y2.trans x2, y3.trans x3⟩⟩⟩
theorem BS.ap {M0 M M' : EM} {r a b n : Nat} {T T' : List Nat} (h : BS M0 M r a T) (hS : SBd M a b n T) (hb : mN M0 ≤ b) (hA : AP M a b T' M') : BS M0 M' r a T' := by
  obtain ⟨-, h2, h3, h4⟩ := h
  obtain ⟨b', n', q1, q2, q3, q4⟩ := hA
  exact ⟨⟨b', n', q1, by have := h3.1; omega⟩, h2, h3.big q2 h2 hb, h4⟩
theorem BS.fr {M0 M M' : EM} {r a : Nat} {T : List Nat} (h : BS M0 M r a T) (f : fr2 M M' r r) : BS M0 M' r a T := by
  obtain ⟨⟨b, n, h1, h1'⟩, h2, h3, h4⟩ := h
  exact ⟨⟨b, n, h1.fr f (by omega) (by omega), h1'⟩, h2, h3.cmp f, h4⟩
theorem fr2.sI {M : EM} {r j : Nat} {v : Int32} : fr2 M (sI M r j v) r r := fr2.mk2 rfl rfl rfl (fun c h1 _ => ⟨by funext k; rw [mI_sI2, if_neg (fun z => h1 z.1)], rfl, rfl⟩)
theorem k_next (hl0 : l.stackTraces = false) {M0 M : EM} {r a : Nat} {T : List Nat} (h : BS M0 M r a T) : Ct l g sg_L_next [.inr (.inr (.inr (.inr (52, r))))] M (fun o M' => BX (mN M' = mN M ∧ BS M0 M' r a T ∧ ∃ k, k < 8388608 ∧ o = .inl (some (.inl (nI k))))) := by
  refine Ct.mono (c_next hl0) ?_
  rintro o M' ⟨⟨v, k, hk, rfl, rfl⟩⟩
  exact ⟨⟨rfl, h.fr fr2.sI, k, hk, rfl⟩⟩
theorem k_nextF (hl0 : l.stackTraces = false) {M0 M : EM} {r : Nat} (h : fr2 M0 M r r) : Ct l g sg_L_next [.inr (.inr (.inr (.inr (52, r))))] M (fun o M' => BX (mN M' = mN M ∧ fr2 M0 M' r r ∧ ∃ k, k < 8388608 ∧ o = .inl (some (.inl (nI k))))) := by
  refine Ct.mono (c_next hl0) ?_
  rintro o M' ⟨⟨v, k, hk, rfl, rfl⟩⟩
  exact ⟨⟨rfl, h.cmp fr2.sI, k, hk, rfl⟩⟩
theorem k_new (hl0 : l.stackTraces = false) {M0 M : EM} {r : Nat} (h : fr2 M0 M r r) (hr : r < mN M0) : Ct l g sg_J4_init_da8c8 [.inr (.inr (.inr (.inr (57, mN M))))] (sNew M 57) (fun o M' => BX (o = .inl none ∧ BS M0 M' r (mN M) [])) := by
  have hx : SB0 (sNew M 57) (mN M) := ⟨⟨Nat.lt_succ_self _, List.mem_append_right _ (List.mem_singleton.mpr rfl), mT_sNew_e⟩, fun j => by rw [mI_sNew, if_pos rfl]⟩
  refine Ct.mono (j_newB hl0 hx) ?_
  rintro o M' ⟨⟨rfl, b, n, h1, h2, h3, h4⟩⟩
  have hm : mN (sNew M 57) = mN M + 1 := rfl
  have h0 := h.1
  exact ⟨⟨rfl, ⟨b, n, h1, by omega⟩, h0, (h.big (fr2.new (a := mN M)) h0 h0).big h2 h0 h0, hr⟩⟩
theorem k_newS (hl0 : l.stackTraces = false) {M0 M : EM} {r k : Nat} (h : fr2 M0 M r r) (hr : r < mN M0) (hk : k < 35) : Ct l g sg_J4_init_a7421 [.inr (.inr (.inr (.inr (57, mN M)))), .inr (.inr (.inr (.inr (200 + k, gS g k))))] (sNew M 57) (fun o M' => BX (o = .inl none ∧ BS M0 M' r (mN M) (cT k))) := by
  have hx : SB0 (sNew M 57) (mN M) := ⟨⟨Nat.lt_succ_self _, List.mem_append_right _ (List.mem_singleton.mpr rfl), mT_sNew_e⟩, fun j => by rw [mI_sNew, if_pos rfl]⟩
  refine Ct.mono (j_newSB hl0 hx (txC hk) (by have := cT_len k hk; omega)) ?_
  rintro o M' ⟨⟨rfl, b, n, h1, h2, h3, h4⟩⟩
  have hm : mN (sNew M 57) = mN M + 1 := rfl
  have h0 := h.1
  exact ⟨⟨rfl, ⟨b, n, h1, by omega⟩, h0, (h.big (fr2.new (a := mN M)) h0 h0).big h2 h0 h0, hr⟩⟩
theorem k_appK (hl0 : l.stackTraces = false) {M0 M : EM} {r a k : Nat} {T : List Nat} (h : BS M0 M r a T) (hk : k < 35) (hT : T.length ≤ 900) : Ct l g sg_J4_append_15ec4 [.inr (.inr (.inr (.inr (57, a)))), .inr (.inr (.inr (.inr (200 + k, gS g k))))] M (fun o M' => BX (o = .inl (some (.inr (.inr (.inr (.inr (57, a)))))) ∧ BS M0 M' r a (T ++ cT k))) := by
  obtain ⟨⟨b, n, h1, h1'⟩, -⟩ := id h
  refine Ct.mono (j_appSB hl0 h1 (txC hk) (by have := cT_len k hk; omega)) ?_
  rintro o M' ⟨⟨rfl, hA⟩⟩
  exact ⟨⟨rfl, h.ap h1 h1' hA⟩⟩
/-- a text is appended that was made after the builder -/
theorem k_appT (hl0 : l.stackTraces = false) {M0 M M' : EM} {r a x c : Nat} {T S : List Nat} (h : BS M0 M r a T) (f : fr2 M M' r r) (hO : OT M' x c S) (hx : mN M ≤ x ∧ mN M ≤ c) (hT : T.length + S.length ≤ 1000) : Ct l g sg_J4_append_15ec4 [.inr (.inr (.inr (.inr (57, a)))), .inr (.inr (.inr (.inr (56, x))))] M' (fun o M2 => BX (o = .inl (some (.inr (.inr (.inr (.inr (57, a)))))) ∧ BS M0 M2 r a (T ++ S))) := by
  have h' := h.fr f
  obtain ⟨⟨b, n, h1, h1'⟩, h2, h3, h4⟩ := id h
  have hab := h1.2.2.2.2
  refine Ct.mono (j_appSB hl0 (h1.fr f (by omega) (by omega)) (hO.txt (a := a) (b := b) (by omega) (by omega) (by omega) (by omega)) hT) ?_
  rintro o M2 ⟨⟨rfl, hA⟩⟩
  exact ⟨⟨rfl, h'.ap (h1.fr f (by omega) (by omega)) h1' hA⟩⟩
theorem k_appI (hl0 : l.stackTraces = false) {M0 M : EM} {r a v : Nat} {T : List Nat} (h : BS M0 M r a T) (hv : v < 10000) (hT : T.length ≤ 900) : Ct l g sg_J4_append_bf812 [.inr (.inr (.inr (.inr (57, a)))), .inl (nI v)] M (fun o M' => BX (o = .inl (some (.inr (.inr (.inr (.inr (57, a)))))) ∧ BS M0 M' r a (T ++ dgs v))) := by
  obtain ⟨⟨b, n, h1, h1'⟩, -⟩ := id h
  refine Ct.mono (j_appIB hl0 h1 hv (by omega)) ?_
  rintro o M' ⟨⟨rfl, hA⟩⟩
  exact ⟨⟨rfl, h.ap h1 h1' hA⟩⟩
theorem k_appC (hl0 : l.stackTraces = false) {M0 M : EM} {r a v : Nat} {T : List Nat} (h : BS M0 M r a T) (hv : v < 128) (hT : T.length ≤ 900) : Ct l g sg_J4_append_cf468 [.inr (.inr (.inr (.inr (57, a)))), .inl (nI v)] M (fun o M' => BX (o = .inl (some (.inr (.inr (.inr (.inr (57, a)))))) ∧ BS M0 M' r a (T ++ [v]))) := by
  obtain ⟨⟨b, n, h1, h1'⟩, -⟩ := id h
  refine Ct.mono (j_appCB hl0 h1 hv (by omega)) ?_
  rintro o M' ⟨⟨rfl, hA⟩⟩
  exact ⟨⟨rfl, h.ap h1 h1' hA⟩⟩
/-- a text is the law's: since M0 only r's cell has changed -/
def TS (M0 M : EM) (r : Nat) (q : Nat × Nat) (T : List Nat) : Prop := fr2 M0 M r r ∧ q.1 = 56 ∧ ∃ c, OT M q.2 c T ∧ mN M0 ≤ q.2 ∧ mN M0 ≤ c
theorem k_toS (hl0 : l.stackTraces = false) {M0 M : EM} {r a : Nat} {T : List Nat} (h : BS M0 M r a T) : Ct l g sg_J4_toString_0e30d [.inr (.inr (.inr (.inr (57, a))))] M (fun o M' => BX (o = .inl (some (.inr (.inr (.inr (.inr (56, mN M)))))) ∧ TS M0 M' r (56, mN M) T)) := by
  obtain ⟨⟨b, n, h1, h1'⟩, h2, h3, h4⟩ := h
  refine Ct.mono (j_toS hl0 h1) ?_
  rintro o M' ⟨⟨rfl, q1, q2, q3⟩⟩
  have h0 := h3.1
  exact ⟨⟨rfl, h3.big q2 h0 h0, rfl, mN M + 1, q1, h0, by omega⟩⟩
end
