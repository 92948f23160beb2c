/-! THE ENGINE, 9: texts; the one exception whose class links its parent by another number. -/
section CJ
variable {l : Launch} {g : EG}
theorem cj_coder (hl0 : l.stackTraces = false) {k a : Nat} (hk : 200 ≤ k ∧ k ≤ 234) {M : EM} : Ct l g sg_J0_coder_7d493 [.inr (.inr (.inr (.inr (k, a))))] M (fun o M' => M' = M ∧ o = .inl (some (.inl 0))) := by
  refine sem_ofF hl0 mt_J0_coder_7d493 ok_J0_coder_7d493 rfl (fun K hc hw => e_step rfl hc 20 [] ?_)
  refine ⟨fun h => absurd h (by decide), fun _ => ⟨hk, ?_⟩⟩
  exact ⟨by decide, Nat.zero_le _, Nat.zero_le _, rfl, rfl⟩
theorem cj_lat (hl0 : l.stackTraces = false) {k a : Nat} (hk : 200 ≤ k ∧ k ≤ 234) {M : EM} : Ct l g sg_J0_isLatin1_aae02 [.inr (.inr (.inr (.inr (k, a))))] M (fun o M' => M' = M ∧ o = .inl (some (.inl 1))) := by
  refine sem_ofF hl0 mt_J0_isLatin1_aae02 ok_J0_isLatin1_aae02 rfl (fun K hc hw => e_step rfl hc 20 [] ?_)
  refine ⟨fun h => absurd h (by decide), fun _ => ⟨hk, fun h => absurd rfl h, fun _ => ?_⟩⟩
  exact ⟨⟨by decide, by decide⟩, Nat.zero_le _, Nat.zero_le _, rfl, rfl⟩
theorem cj_pre (hl0 : l.stackTraces = false) {i : Int32} {n : Nat} (hi : vp_in i n) (hn : n < 2 ^ 31) {t a : Nat} {M : EM} : Ct l g sg_J3_checkIndex_8e157 [.inl i, .inl (nI n), .inr (.inr (.inr (.inr (t, a))))] M (fun o M' => M' = M ∧ o = .inl (some (.inl i))) := by
  obtain ⟨h1, h2⟩ := vp_in_iff.mp hi
  have h0 : (0 : Int32).toInt = 0 := by decide
  refine sem_ofF hl0 mt_J3_checkIndex_8e157 ok_J3_checkIndex_8e157 rfl (fun K hc hw => e_step rfl hc 20 [] ?_)
  refine ⟨fun h => absurd h (by rw [Int32.lt_iff_toInt_lt, h0]; omega), fun _ => ⟨fun _ => ?_, fun h => absurd (show i < nI n by rw [Int32.lt_iff_toInt_lt, nI_toInt hn]; exact h2) h⟩⟩
  exact ⟨Nat.zero_le _, Nat.zero_le _, rfl, rfl⟩
theorem cj_chk (hl0 : l.stackTraces = false) {i : Int32} {n : Nat} (hi : vp_in i n) (hn : n < 2 ^ 31) {M : EM} : Ct l g sg_J0_checkIndex_df160 [.inl i, .inl (nI n)] M (fun o M' => M' = M ∧ o = .inl none) := by
  obtain ⟨h1, h2⟩ := vp_in_iff.mp hi
  have h0 : (0 : Int32).toInt = 0 := by decide
  refine sem_ofF hl0 mt_J0_checkIndex_df160 ok_J0_checkIndex_df160 rfl (fun K hc hw => e_step rfl hc 20 [] ?_)
  exact ⟨⟨fun h => absurd h (by rw [Int32.lt_iff_toInt_lt, h0]; omega), by rw [Int32.lt_iff_toInt_lt, nI_toInt hn]; exact h2⟩, Nat.zero_le _, Nat.zero_le _, rfl, rfl⟩
theorem e_lat : ∀ k, k < 35 → ∀ j, j < e_len.getD k 0 → ((((e_byt.getD k []).getD j 0) &&& 255).toUInt32 % 65536).toInt32 = (e_byt.getD k []).getD j 0 ∧ narrow FieldType.char (.int ((e_byt.getD k []).getD j 0)) = .int ((e_byt.getD k []).getD j 0) := by decide +kernel
theorem e_lens : ∀ k, k < 35 → e_len.getD k 0 < 2 ^ 31 := by decide +kernel
theorem e_lsh : ∀ k, k < 35 → nI (e_len.getD k 0) >>> ((0 : Int32) &&& 31) = nI (e_len.getD k 0) := by decide +kernel
theorem cj_lch (hl0 : l.stackTraces = false) {i : Int32} {k a : Nat} (hk : 300 ≤ k ∧ k ≤ 334) (hi : vp_in i (e_len.getD (k - 300) 0)) {M : EM} : Ct l g sg_J1_charAt_3b067 [.inr (.inr (.inr (.inr (k, a)))), .inl i] M (fun o M' => M' = M ∧ o = .inl (some (.inl ((e_byt.getD (k - 300) []).getD i.toNatClampNeg 0)))) := by
  refine sem_ofF hl0 mt_J1_charAt_3b067 ok_J1_charAt_3b067 rfl (fun K hc hw => e_step rfl hc 20 [] ?_)
  have hk9 : k - 300 < 35 := by omega
  refine ⟨hk, Ct.mono (cj_chk hl0 hi (e_lens _ hk9)) ?_⟩
  rintro o M' ⟨rfl, rfl⟩
  obtain ⟨h1, h2⟩ := e_lat (k - 300) hk9 i.toNatClampNeg (by unfold vp_in at hi; omega)
  refine ⟨⟨hk, hi⟩, ?_, Nat.zero_le _, Nat.zero_le _, rfl, ?_⟩
  · show narrow FieldType.char (.int ((((e_byt.getD (k - 300) []).getD i.toNatClampNeg 0) &&& 255).toUInt32 % 65536).toInt32) = .int ((((e_byt.getD (k - 300) []).getD i.toNatClampNeg 0) &&& 255).toUInt32 % 65536).toInt32
    rw [h1]
    exact h2
  · exact congrArg (fun z => (Sum.inl (some (Sum.inl z)) : EO)) h1
theorem cj_len (hl0 : l.stackTraces = false) {k a : Nat} (hk : 200 ≤ k ∧ k ≤ 234) {M : EM} : Ct l g sg_J0_length_8abf5 [.inr (.inr (.inr (.inr (k, a))))] M (fun o M' => M' = M ∧ o = .inl (some (.inl (nI (e_len.getD (k - 200) 0))))) := by
  refine sem_ofF hl0 mt_J0_length_8abf5 ok_J0_length_8abf5 rfl (fun K hc hw => e_step rfl hc 20 [] ?_)
  refine ⟨hk, fun a1 => ⟨⟨by show 300 ≤ k + 100; omega, by show k + 100 ≤ 334; omega⟩, hk, Ct.mono (cj_coder hl0 hk) ?_⟩⟩
  rintro o M' ⟨rfl, rfl⟩
  have e9 : k + 100 - 300 = k - 200 := by omega
  refine ⟨Nat.zero_le _, Nat.zero_le _, rfl, ?_⟩
  show (Sum.inl (some (Sum.inl (nI (e_len.getD (k + 100 - 300) 0) >>> ((0 : Int32) &&& 31)))) : EO) = _
  rw [e9, e_lsh _ (by omega)]
theorem cj_chr (hl0 : l.stackTraces = false) {i : Int32} {k a : Nat} (hk : 200 ≤ k ∧ k ≤ 234) (hi : vp_in i (e_len.getD (k - 200) 0)) {M : EM} : Ct l g sg_J0_charAt_5068e [.inr (.inr (.inr (.inr (k, a)))), .inl i] M (fun o M' => M' = M ∧ o = .inl (some (.inl ((e_byt.getD (k - 200) []).getD i.toNatClampNeg 0)))) := by
  refine sem_ofF hl0 mt_J0_charAt_5068e ok_J0_charAt_5068e rfl (fun K hc hw => e_step rfl hc 20 [] ?_)
  refine ⟨hk, Ct.mono (cj_lat hl0 hk) ?_⟩
  rintro o M' ⟨rfl, rfl⟩
  refine ⟨fun h => absurd h (by decide), fun _ => ⟨hk, fun a1 => Ct.mono (cj_lch hl0 (k := k + 100) ⟨by omega, by omega⟩ ?_) ?_⟩⟩
  · rw [show k + 100 - 300 = k - 200 by omega]; exact hi
  · rintro o M' ⟨rfl, rfl⟩
    rw [show k + 100 - 300 = k - 200 by omega]
    exact ⟨(e_lat (k - 200) (by omega) i.toNatClampNeg (by unfold vp_in at hi; omega)).2, Nat.zero_le _, Nat.zero_le _, rfl, rfl⟩
end CJ
section RS
variable {p : Program} {l : Launch} {e : Env} {g : EG} {σ : SG} {R : Room} {s : State} {m : MethodId} {args : Array Value} {below : List Frame} {meth : Method} {c : Code} {ex : Option Nat} {M0 : EM} {Q : EO → EM → Prop} {own : String} {pc np : Nat}
/-- a text constant, by its place in e_txt -/
def s_str (k : Nat) : ES := fun _ _ nx ls st M nc ns => ∀ a, nx ls (.inr (.inr (.inr (.inr (200 + k, a)))) :: st) M nc ns
theorem r_str (X : Cx p l g σ R s m args meth c own) {k is : Nat} {x : String × Nat × String} (hd : decode (gcc σ) pc = .ok (.ldc is, 2)) (hx : e_txt[k]? = some x) (hxx : (x.1 = own ∧ x.2.1 = is) ∧ k < 35) (hn : pc + 2 = np) : RowOk p l e g σ R s m args below meth c ex M0 Q pc np (s_str k) := by
  intro J hJ ls st M nc ns h
  subst hn
  obtain ⟨⟨rfl, rfl⟩, hk⟩ := hxx
  intro H locs lsM hl ok le vl vs hS hF
  have hG := X.2.2.2.2.2.2.1
  exact va_ldcS X.1 X.2.1 X.2.2.2.2.1 (hG.2.2.2.2.2.2.2.2.2.1 k x hx) hd (hJ _ _ _ _ _ _ (h (gS g k)) H locs lsM hl ok le vl ⟨Or.inr (Or.inr (Or.inl ⟨Nat.le_add_right _ _, by show 200 + k < 261; omega, by show gS g k = gS g (200 + k - 200); rw [Nat.add_sub_cancel_left]⟩)), vs⟩ hS hF)
/-- length() of a text constant -/
def s_slen (σ : SG) : ES := fun _ _ nx ls st M nc ns => match st with
  | .inr (.inr (.inr (.inr q))) :: r => match (Nat.ble 200 q.1 && Nat.ble q.1 234) && (Nat.ble (e_wt r) 8 && (Nat.ble nc (gmc σ) && Nat.ble ns (gms σ))) with
    | true => nx ls (.inl (nI (e_len.getD (q.1 - 200) 0)) :: r) M nc ns
    | false => False
  | _ => False
/-- charAt(k) of a text constant -/
def s_schr (σ : SG) : ES := fun _ _ nx ls st M nc ns => match st with
  | .inl i :: .inr (.inr (.inr (.inr q))) :: r => match (Nat.ble 200 q.1 && Nat.ble q.1 234) && (Nat.ble (e_wt r) 8 && (Nat.ble nc (gmc σ) && Nat.ble ns (gms σ))) with
    | true => vp_in i (e_len.getD (q.1 - 200) 0) ∧ nx ls (.inl ((e_byt.getD (q.1 - 200) []).getD i.toNatClampNeg 0) :: r) M nc ns
    | false => False
  | _ => False
theorem r_slen (X : Cx p l g σ R s m args meth c own) (hh : ghh σ = []) {index : Nat} (hd : decode (gcc σ) pc = .ok (.invokevirtual index, 3)) (hlk : Cond.methodLink own index ⟨"java/lang/String", "length", "()I"⟩ ∈ e_good) (hR : 6 ≤ gfr σ ∧ 120 ≤ glo σ) (hn : pc + 3 = np) : RowOk p l e g σ R s m args below meth c ex M0 Q pc np (s_slen σ) := by
  intro J hJ ls st M nc ns h
  refine r_callT X hh (τ := sg_J0_length_8abf5) (index := index) hd rfl hlk wj3_112 wj3_113 cs_J0_length_8abf5 rfl ⟨by have := hR.1; show 1 + 1 ≤ gfr σ; omega, by have := hR.2; show 8 + (1 + 11) + 20 ≤ glo σ; omega⟩ hn J hJ ls st M nc ns ?_
  unfold s_slen at h
  split at h
  · rename_i q r
    split at h
    · rename_i hb
      simp only [Bool.and_eq_true] at hb
      show (match e_rm sg_J0_length_8abf5 σ r nc ns with
        | true => (200 ≤ q.1 ∧ q.1 ≤ 234) ∧ Ct l g sg_J0_length_8abf5 [.inr (.inr (.inr (.inr q)))] M (e_aft sg_J0_length_8abf5 (e_ret σ Q) _ ls r nc ns)
        | false => False)
      have hq : 200 ≤ q.1 ∧ q.1 ≤ 234 := ⟨Nat.le_of_ble_eq_true hb.1.1, Nat.le_of_ble_eq_true hb.1.2⟩
      have hrm : e_rm sg_J0_length_8abf5 σ r nc ns = true := by
        unfold e_rm
        rw [hb.2.1]
        show (true && (Nat.ble nc (gmc σ) && Nat.ble ns (gms σ))) = true
        rw [hb.2.2.1, hb.2.2.2]
        rfl
      rw [hrm]
      refine ⟨hq, Ct.mono (cj_len X.2.2.2.2.2.2.2.2.1 hq) ?_⟩
      rintro o M' ⟨rfl, rfl⟩
      exact h
    · exact h.elim
  · exact h.elim
theorem r_schr (X : Cx p l g σ R s m args meth c own) (hh : ghh σ = []) {index : Nat} (hd : decode (gcc σ) pc = .ok (.invokevirtual index, 3)) (hlk : Cond.methodLink own index ⟨"java/lang/String", "charAt", "(I)C"⟩ ∈ e_good) (hR : 6 ≤ gfr σ ∧ 120 ≤ glo σ) (hn : pc + 3 = np) : RowOk p l e g σ R s m args below meth c ex M0 Q pc np (s_schr σ) := by
  intro J hJ ls st M nc ns h
  refine r_callT X hh (τ := sg_J0_charAt_5068e) (index := index) hd rfl hlk wj3_122 wj3_123 cs_J0_charAt_5068e rfl ⟨by have := hR.1; show 3 + 1 ≤ gfr σ; omega, by have := hR.2; show 8 + (2 + 11) + 64 ≤ glo σ; omega⟩ hn J hJ ls st M nc ns ?_
  unfold s_schr at h
  split at h
  · rename_i i q r
    split at h
    · rename_i hb
      simp only [Bool.and_eq_true] at hb
      show (match e_rm sg_J0_charAt_5068e σ r nc ns with
        | true => (200 ≤ q.1 ∧ q.1 ≤ 234) ∧ Ct l g sg_J0_charAt_5068e [.inr (.inr (.inr (.inr q))), .inl i] M (e_aft sg_J0_charAt_5068e (e_ret σ Q) _ ls r nc ns)
        | false => False)
      have hq : 200 ≤ q.1 ∧ q.1 ≤ 234 := ⟨Nat.le_of_ble_eq_true hb.1.1, Nat.le_of_ble_eq_true hb.1.2⟩
      have hrm : e_rm sg_J0_charAt_5068e σ r nc ns = true := by
        unfold e_rm
        rw [hb.2.1]
        show (true && (Nat.ble nc (gmc σ) && Nat.ble ns (gms σ))) = true
        rw [hb.2.2.1, hb.2.2.2]
        rfl
      rw [hrm]
      refine ⟨hq, Ct.mono (cj_chr X.2.2.2.2.2.2.2.2.1 hq h.1) ?_⟩
      rintro o M' ⟨rfl, rfl⟩
      exact h.2
    · exact h.elim
  · exact h.elim
def s_mmax (σ : SG) : ES := fun _ _ nx ls st M nc ns => match st with
  | .inl y :: .inl x :: r => match Nat.ble (e_wt r) 8 && (Nat.ble nc (gmc σ) && Nat.ble ns (gms σ)) with
    | true => nx ls (.inl (if x < y then y else x) :: r) M nc ns
    | false => False
  | _ => False
theorem r_mmax (X : Cx p l g σ R s m args meth c own) {index : Nat} (hd : decode (gcc σ) pc = .ok (.invokestatic index, 3)) (hlk : Cond.methodLink own index Lib.Math.max.name ∈ e_good) (hst : Cond.static Lib.Math.max.name ∈ e_good) (hin : Cond.initialized "java/lang/Math" ∈ e_good) (hco : Cond.code Lib.Math.max.name Lib.Math.max.code 2 (some .int) ∈ e_good) (hR : 1 ≤ gfr σ ∧ 22 ≤ glo σ) (hn : pc + 3 = np) : RowOk p l e g σ R s m args below meth c ex M0 Q pc np (s_mmax σ) := by
  intro J hJ ls st M nc ns h
  subst hn
  unfold s_mmax at h
  split at h
  · split at h
    · rename_i y x r z hb
      simp only [Bool.and_eq_true] at hb
      intro H locs lsM hl ok le vl vs hS hF
      have hG := X.2.2.2.2.2.2.1
      have hRR := X.2.2.2.2.2.2.2.1
      have hw' := Nat.le_of_ble_eq_true hb.1
      have hc' := Nat.le_of_ble_eq_true hb.2.1
      have hs' := Nat.le_of_ble_eq_true hb.2.2
      have hw2 := e_wt_le (r := r)
      have e1 : (grm σ).locals = glo σ := rfl
      have e2 : (grm σ).frames = gfr σ := rfl
      exact va_mmax X.1 X.2.1 (X.2.2.2.1.trans hl.1.symm) X.2.2.2.2.1 (e_wd0 hG hlk) (e_wd0 hG hst) (e_wd0 hG hin) (e_wd0 hG hco) (by rw [hRR]; omega) (by rw [hRR]; omega) (by rw [hRR]; exact hc') (by rw [hRR]; exact hs') hd (hJ _ _ _ _ _ _ h H locs lsM hl ok le vl ⟨trivial, vs.2.2⟩ hS hF)
    · exact h.elim
  · exact h.elim

def s_mmin (σ : SG) : ES := fun _ _ nx ls st M nc ns => match st with
  | .inl y :: .inl x :: r => match Nat.ble (e_wt r) 8 && (Nat.ble nc (gmc σ) && Nat.ble ns (gms σ)) with
    | true => nx ls (.inl (if y < x then y else x) :: r) M nc ns
    | false => False
  | _ => False
theorem r_mmin (X : Cx p l g σ R s m args meth c own) {index : Nat} (hd : decode (gcc σ) pc = .ok (.invokestatic index, 3)) (hlk : Cond.methodLink own index Lib.Math.min.name ∈ e_good) (hst : Cond.static Lib.Math.min.name ∈ e_good) (hin : Cond.initialized "java/lang/Math" ∈ e_good) (hco : Cond.code Lib.Math.min.name Lib.Math.min.code 2 (some .int) ∈ e_good) (hR : 1 ≤ gfr σ ∧ 22 ≤ glo σ) (hn : pc + 3 = np) : RowOk p l e g σ R s m args below meth c ex M0 Q pc np (s_mmin σ) := by
  intro J hJ ls st M nc ns h
  subst hn
  unfold s_mmin at h
  split at h
  · split at h
    · rename_i y x r z hb
      simp only [Bool.and_eq_true] at hb
      intro H locs lsM hl ok le vl vs hS hF
      have hG := X.2.2.2.2.2.2.1
      have hRR := X.2.2.2.2.2.2.2.1
      have hw' := Nat.le_of_ble_eq_true hb.1
      have hc' := Nat.le_of_ble_eq_true hb.2.1
      have hs' := Nat.le_of_ble_eq_true hb.2.2
      have hw2 := e_wt_le (r := r)
      have e1 : (grm σ).locals = glo σ := rfl
      have e2 : (grm σ).frames = gfr σ := rfl
      exact va_mmin X.1 X.2.1 (X.2.2.2.1.trans hl.1.symm) X.2.2.2.2.1 (e_wd0 hG hlk) (e_wd0 hG hst) (e_wd0 hG hin) (e_wd0 hG hco) (by rw [hRR]; omega) (by rw [hRR]; omega) (by rw [hRR]; exact hc') (by rw [hRR]; exact hs') hd (hJ _ _ _ _ _ _ h H locs lsM hl ok le vl ⟨trivial, vs.2.2⟩ hS hF)
    · exact h.elim
  · exact h.elim
end RS
