/-! THE LAW, 14: the sum over all answers. -/
section
variable {l : Launch} {g : EG}
/-- 31 times what was, and the next answer -/
def fo (f : Nat → Int64) : Nat → Int64 → Int64
  | 0, a => a
  | k + 1, a => 31 * fo f k a + f k
def zV (F : FM) (p z w : Nat) : Int64 := (F 1 (zAt p z + w)).toInt64
def znA (F : FM) (p : Nat) : Nat → Int64 → Int64
  | 0, a => a
  | z + 1, a => fo (zV F p z) 4 (znA F p z a)
def eV (F : FM) (p e w : Nat) : Int64 := (evV F (eAt p e) w).toInt64
def dV (F : FM) (p e d w : Nat) : Int64 := (dtV F p (eAt p e) d w).toInt64
def dsA (F : FM) (p e : Nat) : Nat → Int64 → Int64
  | 0, a => a
  | d + 1, a => fo (dV F p e d) 7 (dsA F p e d a)
def evA (F : FM) (p e : Nat) (a : Int64) : Int64 := if F 1 (eAt p e) = 1 then (31 * dsA F p e (rL F (eAt p e)).length (fo (eV F p e) 12 a) + (F 1 (eAt p e + 14 + 0)).toInt64) + 7 * (F 1 (eAt p e + 14 + 1)).toInt64 else 31 * a - 1
def esA (F : FM) (p : Nat) : Nat → Int64 → Int64
  | 0, a => a
  | e + 1, a => evA F p e (esA F p e a)
def plA (F : FM) : Nat → Int64 → Int64
  | 0, a => a
  | p + 1, a => esA F p 8 (znA F p 2 (plA F p a))
def siV (F : FM) (s w : Nat) : Int32 := if w < 5 then sdV F s w else 0
def siA (F : FM) (s : Nat) : Nat → Int64 → Int64
  | 0, a => a
  | w + 1, a => (31 * siA F s w a + (siV F s w).toInt64) + 3 * (F 1 (3 + 6 * s + w)).toInt64
def ssA (F : FM) : Nat → Int64 → Int64
  | 0, a => a
  | s + 1, a => siA F s 6 (ssA F s a)
def sumV (F : FM) : Int64 := ssA F 2 (plA F 3 (F 1 0).toInt64)
abbrev lvL (a : Int64) : EV := .inr (.inl a)
abbrev lvN (k : Nat) : EV := .inl (nI k)
set_option maxRecDepth 100000 in
theorem c_sum (hl0 : l.stackTraces = false) {M : EM} {x nz a c nb T : Nat} {F : FM} {B : Nat → Nat} (h : JC M x F nz a c nb T B) (hnz : nz = 2) : Ct l g sg_L_sum [lvD x] M (fun o M' => BX (mN M' = mN M ∧ JC M' x F nz a c nb T B ∧ o = .inl (some (lvL (sumV F))))) := by
  refine sem_ofF hl0 mt_L_sum ok_L_sum rfl (fun K hc hw => e_step rfl hc 60 [8] ?_)
  obtain ⟨J, hJ⟩ : ∃ J : EM → Prop, J = fun M1 => mN M1 = mN M ∧ JC M1 x F nz a c nb T B := ⟨_, rfl⟩
  have j1 : ∀ {M1}, J M1 → JC M1 x F nz a c nb T B := fun z => by rw [hJ] at z; exact z.2
  have j2 : ∀ {M1 M2 o v}, J M1 → JQ M1 x F nz a c nb T B v o M2 → mN M2 = mN M1 ∧ J M2 ∧ o = .inl (some (.inl v)) := fun z w => by
    obtain ⟨⟨w1, w2, w3⟩⟩ := w
    rw [hJ] at z
    exact ⟨w1, by rw [hJ]; exact ⟨w1.trans z.1, w2⟩, w3⟩
  have h25 : ∀ d w p z a0 M1, w + d = 4 → p < 3 → z < 2 → J M1 → (∀ M2, J M2 → K 54 [some (lvD x), some (lvL (fo (zV F p z) 4 a0)), none, some (lvN p), some (lvN z), none, none] [] M2 0 0) → K 25 [some (lvD x), some (lvL (fo (zV F p z) w a0)), none, some (lvN p), some (lvN z), some (lvN w), none] [] M1 0 0 := by
    intro d
    induction d with
    | zero =>
      intro w p z a0 M1 hd hp hz hj hk
      obtain rfl : w = 4 := by omega
      refine e_step rfl hc 60 [54] ?_
      refine ⟨fun _ => ?_, fun h9 => absurd (nI_le (Nat.le_refl 4) (by decide)) h9⟩
      refine hw _ _ _ _ _ _ _ ?_ (hk M1 hj)
      exact ⟨rfl, rfl, rfl, rfl, trivial⟩
    | succ d ih =>
      intro w p z a0 M1 hd hp hz hj hk
      refine e_step rfl hc 60 [25] ?_
      refine ⟨fun h9 => absurd h9 (nI_ge (show w < 4 by omega) (by decide)), fun _ => ⟨⟨by decide, by decide⟩, Ct.mono (jq_zone hl0 (j1 hj) hp (by omega) (by omega)) ?_⟩⟩
      intro o M2 hq
      obtain ⟨q1, q2, rfl⟩ := j2 hj hq
      refine ⟨q1, ?_⟩
      show K 25 [some (lvD x), some (lvL (31 * fo (zV F p z) w a0 + (F 1 (zAt p z + w)).toInt64)), none, some (lvN p), some (lvN z), some (.inl (nI w + 1)), none] [] M2 0 0
      rw [nI_1]
      exact ih (w + 1) p z a0 M2 (by omega) hp hz q2 hk
  have h16 : ∀ d z p a0 M1, z + d = 2 → p < 3 → J M1 → (∀ M2, J M2 → K 60 [some (lvD x), some (lvL (znA F p 2 a0)), none, some (lvN p), none, none, none] [] M2 0 0) → K 16 [some (lvD x), some (lvL (znA F p z a0)), none, some (lvN p), some (lvN z), none, none] [] M1 0 0 := by
    intro d
    induction d with
    | zero =>
      intro z p a0 M1 hd hp hj hk
      obtain rfl : z = 2 := by omega
      refine e_step rfl hc 60 [60] ?_
      refine ⟨fun _ => ?_, fun h9 => absurd (nI_le (Nat.le_refl 2) (by decide)) h9⟩
      refine hw _ _ _ _ _ _ _ ?_ (hk M1 hj)
      exact ⟨rfl, rfl, rfl, trivial⟩
    | succ d ih =>
      intro z p a0 M1 hd hp hj hk
      refine e_step rfl hc 60 [25] ?_
      refine ⟨fun h9 => absurd h9 (nI_ge (show z < 2 by omega) (by decide)), fun _ => ?_⟩
      refine h25 4 0 p z (znA F p z a0) M1 (by omega) hp (by omega) hj (fun M2 hj2 => e_step rfl hc 60 [16] ?_)
      show K 16 [some (lvD x), some (lvL (fo (zV F p z) 4 (znA F p z a0))), none, some (lvN p), some (.inl (nI z + 1)), none, none] [] M2 0 0
      rw [nI_1]
      exact ih (z + 1) p a0 M2 (by omega) hp hj2 hk
  have h97 : ∀ d w p e a0 M1, w + d = 12 → p < 3 → e < 8 → F 1 (eAt p e) = 1 → J M1 → (∀ M2, J M2 → K 127 [some (lvD x), some (lvL (fo (eV F p e) 12 a0)), none, some (lvN p), some (lvN e), none, none] [] M2 0 0) → K 97 [some (lvD x), some (lvL (fo (eV F p e) w a0)), none, some (lvN p), some (lvN e), some (lvN w), none] [] M1 0 0 := by
    intro d
    induction d with
    | zero =>
      intro w p e a0 M1 hd hp he h1 hj hk
      obtain rfl : w = 12 := by omega
      refine e_step rfl hc 60 [127] ?_
      refine ⟨fun _ => ?_, fun h9 => absurd (nI_le (Nat.le_refl 12) (by decide)) h9⟩
      refine hw _ _ _ _ _ _ _ ?_ (hk M1 hj)
      exact ⟨rfl, rfl, rfl, rfl, trivial⟩
    | succ d ih =>
      intro w p e a0 M1 hd hp he h1 hj hk
      refine e_step rfl hc 60 [97] ?_
      refine ⟨fun h9 => absurd h9 (nI_ge (show w < 12 by omega) (by decide)), fun _ => ⟨⟨by decide, by decide⟩, Ct.mono (jq_event hl0 (j1 hj) hp he h1 (by omega)) ?_⟩⟩
      intro o M2 hq
      obtain ⟨q1, q2, rfl⟩ := j2 hj hq
      refine ⟨q1, ?_⟩
      show K 97 [some (lvD x), some (lvL (31 * fo (eV F p e) w a0 + (evV F (eAt p e) w).toInt64)), none, some (lvN p), some (lvN e), some (.inl (nI w + 1)), none] [] M2 0 0
      rw [nI_1]
      exact ih (w + 1) p e a0 M2 (by omega) hp he h1 q2 hk
  have h147 : ∀ d w p e k a0 M1, w + d = 7 → p < 3 → e < 8 → F 1 (eAt p e) = 1 → k < (rL F (eAt p e)).length → J M1 → (∀ M2, J M2 → K 179 [some (lvD x), some (lvL (fo (dV F p e k) 7 a0)), none, some (lvN p), some (lvN e), some (lvN k), none] [] M2 0 0) → K 147 [some (lvD x), some (lvL (fo (dV F p e k) w a0)), none, some (lvN p), some (lvN e), some (lvN k), some (lvN w)] [] M1 0 0 := by
    intro d
    induction d with
    | zero =>
      intro w p e k a0 M1 hd hp he h1 hkl hj hk
      obtain rfl : w = 7 := by omega
      refine e_step rfl hc 60 [179] ?_
      refine ⟨fun _ => ?_, fun h9 => absurd (nI_le (Nat.le_refl 7) (by decide)) h9⟩
      refine hw _ _ _ _ _ _ _ ?_ (hk M1 hj)
      exact ⟨rfl, rfl, rfl, rfl, rfl, trivial⟩
    | succ d ih =>
      intro w p e k a0 M1 hd hp he h1 hkl hj hk
      refine e_step rfl hc 60 [147] ?_
      refine ⟨fun h9 => absurd h9 (nI_ge (show w < 7 by omega) (by decide)), fun _ => ⟨⟨by decide, by decide⟩, Ct.mono (jq_date hl0 (j1 hj) hp he h1 hkl (by omega)) ?_⟩⟩
      intro o M2 hq
      obtain ⟨q1, q2, rfl⟩ := j2 hj hq
      refine ⟨q1, ?_⟩
      show K 147 [some (lvD x), some (lvL (31 * fo (dV F p e k) w a0 + (dtV F p (eAt p e) k w).toInt64)), none, some (lvN p), some (lvN e), some (lvN k), some (.inl (nI w + 1))] [] M2 0 0
      rw [nI_1]
      exact ih (w + 1) p e k a0 M2 (by omega) hp he h1 hkl q2 hk
  have h130 : ∀ d k p e a0 M1, k + d = (rL F (eAt p e)).length → p < 3 → e < 8 → F 1 (eAt p e) = 1 → J M1 → (∀ M2, J M2 → K 185 [some (lvD x), some (lvL (dsA F p e (rL F (eAt p e)).length a0)), none, some (lvN p), some (lvN e), none, none] [] M2 0 0) → K 130 [some (lvD x), some (lvL (dsA F p e k a0)), none, some (lvN p), some (lvN e), some (lvN k), none] [] M1 0 0 := by
    intro d
    induction d with
    | zero =>
      intro k p e a0 M1 hd hp he h1 hj hk
      have hln : (rL F (eAt p e)).length ≤ 30 := rDt_le _
      refine e_step rfl hc 60 [185] ?_
      refine ⟨⟨by decide, by decide⟩, Ct.mono (jq_event (w := 9) hl0 (j1 hj) hp he h1 (by decide)) ?_⟩
      intro o M2 hq
      obtain ⟨q1, q2, rfl⟩ := j2 hj hq
      refine ⟨q1, fun _ => ?_, fun h9 => ?_⟩
      · have hk2 := hk M2 q2
        rw [← show k = (rL F (eAt p e)).length by omega] at hk2
        refine hw _ _ _ _ _ _ _ ?_ hk2
        exact ⟨rfl, rfl, rfl, rfl, trivial⟩
      · exact absurd (nI_le (show (rL F (eAt p e)).length ≤ k by omega) (by omega)) (show ¬ nI (rL F (eAt p e)).length ≤ nI k from h9)
    | succ d ih =>
      intro k p e a0 M1 hd hp he h1 hj hk
      have hln : (rL F (eAt p e)).length ≤ 30 := rDt_le _
      refine e_step rfl hc 60 [147] ?_
      refine ⟨⟨by decide, by decide⟩, Ct.mono (jq_event (w := 9) hl0 (j1 hj) hp he h1 (by decide)) ?_⟩
      intro o M2 hq
      obtain ⟨q1, q2, rfl⟩ := j2 hj hq
      refine ⟨q1, fun h9 => absurd (show nI (rL F (eAt p e)).length ≤ nI k from h9) (nI_ge (by omega) (by omega)), fun _ => ?_⟩
      refine h147 7 0 p e k (dsA F p e k a0) M2 (by omega) hp he h1 (by omega) q2 (fun M3 hj3 => e_step rfl hc 60 [130] ?_)
      show K 130 [some (lvD x), some (lvL (fo (dV F p e k) 7 (dsA F p e k a0))), none, some (lvN p), some (lvN e), some (.inl (nI k + 1)), none] [] M3 0 0
      rw [nI_1]
      exact ih (k + 1) p e a0 M3 (by omega) hp he h1 hj3 hk
  have h215 : ∀ p e a0 M1, p < 3 → e < 8 → J M1 → (∀ M2, J M2 → K 215 [some (lvD x), some (lvL (evA F p e a0)), none, some (lvN p), some (lvN e), none, none] [] M2 0 0) → K 63 [some (lvD x), some (lvL (a0)), none, some (lvN p), some (lvN e), none, none] [] M1 0 0 := by
    intro p e a0 M1 hp he hj hk
    refine e_step rfl hc 60 [97, 215] ?_
    refine ⟨fun h9 => absurd h9 (nI_ge he (by decide)), fun _ => ⟨⟨by decide, by decide⟩, Ct.mono (jq_events hl0 (j1 hj) hp) ?_⟩⟩
    intro o M2 hq
    obtain ⟨q1, q2, rfl⟩ := j2 hj hq
    refine ⟨q1, fun h9 => ?_, fun h9 => ?_⟩
    · have h1 : F 1 (eAt p e) = 1 := Decidable.byContradiction (fun z => h9 ((ev_bit he).mpr z))
      refine h97 12 0 p e a0 M2 (by omega) hp he h1 q2 (fun M3 hj3 => e_step rfl hc 60 [130] ?_)
      refine h130 _ 0 p e (fo (eV F p e) 12 a0) M3 (Nat.zero_add _) hp he h1 hj3 (fun M4 hj4 => e_step rfl hc 60 [215] ?_)
      refine ⟨⟨by decide, by decide⟩, Ct.mono (jq_answer (s := 0) hl0 (j1 hj4) hp he h1 (by decide)) ?_⟩
      intro o M5 hq
      obtain ⟨q3, q4, rfl⟩ := j2 hj4 hq
      refine ⟨q3, ⟨by decide, by decide⟩, Ct.mono (jq_answer (s := 1) hl0 (j1 q4) hp he h1 (by decide)) ?_⟩
      intro o M6 hq
      obtain ⟨q5, q6, rfl⟩ := j2 q4 hq
      refine ⟨q5, ?_⟩
      have hk6 := hk M6 q6
      unfold evA at hk6
      rw [if_pos h1] at hk6
      exact hk6
    · have h1 : ¬ F 1 (eAt p e) = 1 := (ev_bit he).mp h9
      have hk6 := hk M2 q2
      unfold evA at hk6
      rw [if_neg h1] at hk6
      exact hk6
  have h63 : ∀ d e p a0 M1, e + d = 8 → p < 3 → J M1 → (∀ M2, J M2 → K 221 [some (lvD x), some (lvL (esA F p 8 a0)), none, some (lvN p), none, none, none] [] M2 0 0) → K 63 [some (lvD x), some (lvL (esA F p e a0)), none, some (lvN p), some (lvN e), none, none] [] M1 0 0 := by
    intro d
    induction d with
    | zero =>
      intro e p a0 M1 hd hp hj hk
      obtain rfl : e = 8 := by omega
      refine e_step rfl hc 60 [221] ?_
      refine ⟨fun _ => ?_, fun h9 => absurd (nI_le (Nat.le_refl 8) (by decide)) h9⟩
      refine hw _ _ _ _ _ _ _ ?_ (hk M1 hj)
      exact ⟨rfl, rfl, rfl, trivial⟩
    | succ d ih =>
      intro e p a0 M1 hd hp hj hk
      refine h215 p e _ M1 hp (by omega) hj (fun M2 hj2 => e_step rfl hc 60 [63] ?_)
      show K 63 [some (lvD x), some (lvL (evA F p e (esA F p e a0))), none, some (lvN p), some (.inl (nI e + 1)), none, none] [] M2 0 0
      rw [nI_1]
      exact ih (e + 1) p a0 M2 (by omega) hp hj2 hk
  have h8 : ∀ d p a0 M1, p + d = 3 → J M1 → (∀ M2, J M2 → K 227 [some (lvD x), some (lvL (plA F 3 a0)), none, none, none, none, none] [] M2 0 0) → K 8 [some (lvD x), some (lvL (plA F p a0)), none, some (lvN p), none, none, none] [] M1 0 0 := by
    intro d
    induction d with
    | zero =>
      intro p a0 M1 hd hj hk
      obtain rfl : p = 3 := by omega
      refine e_step rfl hc 60 [227] ?_
      refine ⟨fun _ => ?_, fun h9 => absurd (nI_le (Nat.le_refl 3) (by decide)) h9⟩
      refine hw _ _ _ _ _ _ _ ?_ (hk M1 hj)
      exact ⟨rfl, rfl, trivial⟩
    | succ d ih =>
      intro p a0 M1 hd hj hk
      refine e_step rfl hc 60 [16] ?_
      refine ⟨fun h9 => absurd h9 (nI_ge (show p < 3 by omega) (by decide)), fun _ => ?_⟩
      refine h16 2 0 p (plA F p a0) M1 (by omega) (by omega) hj (fun M2 hj2 => e_step rfl hc 60 [63] ?_)
      refine h63 8 0 p (znA F p 2 (plA F p a0)) M2 (by omega) (by omega) hj2 (fun M3 hj3 => e_step rfl hc 60 [8] ?_)
      show K 8 [some (lvD x), some (lvL (esA F p 8 (znA F p 2 (plA F p a0)))), none, some (.inl (nI p + 1)), none, none, none] [] M3 0 0
      rw [nI_1]
      exact ih (p + 1) a0 M3 (by omega) hj3 hk
  have h266 : ∀ s w a0 M1, s < 2 → w < 6 → J M1 → (∀ M2, J M2 → K 237 [some (lvD x), some (lvL (siA F s (w + 1) a0)), none, some (lvN s), some (lvN (w + 1)), none, none] [] M2 0 0) → K 266 [some (lvD x), some (lvL (siA F s w a0)), none, some (lvN s), some (lvN w), none, none] [.inl (siV F s w), lvL (31 * siA F s w a0)] M1 0 0 := by
    intro s w a0 M1 hs hw6 hj hk
    refine e_step rfl hc 60 [237] ?_
    refine ⟨⟨by decide, by decide⟩, Ct.mono (jq_account hl0 (j1 hj) hs hw6) ?_⟩
    intro o M2 hq
    obtain ⟨q1, q2, rfl⟩ := j2 hj hq
    refine ⟨q1, ?_⟩
    have hk2 := hk M2 q2
    rw [show lvN (w + 1) = .inl (nI w + 1) from by rw [nI_1]] at hk2
    exact hk2
  have h237 : ∀ d w s a0 M1, w + d = 6 → s < 2 → J M1 → (∀ M2, J M2 → K 288 [some (lvD x), some (lvL (siA F s 6 a0)), none, some (lvN s), none, none, none] [] M2 0 0) → K 237 [some (lvD x), some (lvL (siA F s w a0)), none, some (lvN s), some (lvN w), none, none] [] M1 0 0 := by
    intro d
    induction d with
    | zero =>
      intro w s a0 M1 hd hs hj hk
      obtain rfl : w = 6 := by omega
      refine e_step rfl hc 60 [288] ?_
      refine ⟨fun _ => ?_, fun h9 => absurd (nI_le (Nat.le_refl 6) (by decide)) h9⟩
      refine hw _ _ _ _ _ _ _ ?_ (hk M1 hj)
      exact ⟨rfl, rfl, rfl, trivial⟩
    | succ d ih =>
      intro w s a0 M1 hd hs hj hk
      refine e_step rfl hc 60 [266] ?_
      refine ⟨fun h9 => absurd h9 (nI_ge (show w < 6 by omega) (by decide)), fun _ => ⟨fun h9 => ?_, fun h9 => ?_⟩⟩
      · have e5 : siV F s w = 0 := by
          unfold siV
          rw [if_neg (fun z => absurd (show nI 5 ≤ nI w from h9) (nI_ge z (by decide)))]
        have := h266 s w a0 M1 hs (by omega) hj (fun M2 hj2 => ih (w + 1) s a0 M2 (by omega) hs hj2 hk)
        rw [e5] at this
        exact this
      · have hw5 : w < 5 := Decidable.byContradiction (fun z => h9 (nI_le (show 5 ≤ w by omega) (by omega)))
        refine ⟨⟨by decide, by decide⟩, Ct.mono (jq_side hl0 (j1 hj) hs hw5) ?_⟩
        intro o M2 hq
        obtain ⟨q1, q2, rfl⟩ := j2 hj hq
        refine ⟨q1, ?_⟩
        have := h266 s w a0 M2 hs (by omega) q2 (fun M2 hj2 => ih (w + 1) s a0 M2 (by omega) hs hj2 hk)
        rw [show siV F s w = sdV F s w from if_pos hw5] at this
        exact this
  have h229 : ∀ d s a0 M1, s + d = 2 → J M1 → (∀ M2, J M2 → K 294 [some (lvD x), some (lvL (ssA F 2 a0)), none, none, none, none, none] [] M2 0 0) → K 229 [some (lvD x), some (lvL (ssA F s a0)), none, some (lvN s), none, none, none] [] M1 0 0 := by
    intro d
    induction d with
    | zero =>
      intro s a0 M1 hd hj hk
      obtain rfl : s = 2 := by omega
      refine e_step rfl hc 60 [294] ?_
      refine ⟨fun _ => ?_, fun h9 => absurd (nI_le (Nat.le_refl 2) (by decide)) h9⟩
      refine hw _ _ _ _ _ _ _ ?_ (hk M1 hj)
      exact ⟨rfl, rfl, trivial⟩
    | succ d ih =>
      intro s a0 M1 hd hj hk
      refine e_step rfl hc 60 [237] ?_
      refine ⟨fun h9 => absurd h9 (nI_ge (show s < 2 by omega) (by decide)), fun _ => ?_⟩
      refine h237 6 0 s (ssA F s a0) M1 (by omega) (by omega) hj (fun M2 hj2 => e_step rfl hc 60 [229] ?_)
      show K 229 [some (lvD x), some (lvL (siA F s 6 (ssA F s a0))), none, some (.inl (nI s + 1)), none, none, none] [] M2 0 0
      rw [nI_1]
      exact ih (s + 1) a0 M2 (by omega) hj2 hk
  have hj0 : J M := by rw [hJ]; exact ⟨rfl, h⟩
  refine ⟨⟨by decide, by decide⟩, Ct.mono (jq_clock hl0 h) ?_⟩
  intro o M2 hq
  obtain ⟨q1, q2, rfl⟩ := j2 hj0 hq
  refine ⟨q1, ?_⟩
  refine h8 3 0 (F 1 0).toInt64 M2 (by omega) q2 (fun M3 hj3 => e_step rfl hc 60 [229] ?_)
  refine h229 2 0 (plA F 3 (F 1 0).toInt64) M3 (by omega) hj3 (fun M4 hj4 => e_step rfl hc 60 [] ?_)
  rw [hJ] at hj4
  exact ⟨by decide, by decide, ⟨⟨hj4.1, hj4.2, rfl⟩⟩⟩
end
