/-! THE LAW, 13: the questions with the law's numbers. -/
section
variable {l : Launch} {g : EG}
/-- answered: v; nothing made, nothing changed -/
def JQ (M : EM) (x : Nat) (F : FM) (nz a c nb T : Nat) (B : Nat → Nat) (v : Int32) : EO → EM → Prop := fun o M' => BX (mN M' = mN M ∧ JC M' x F nz a c nb T B ∧ o = .inl (some (.inl v)))
theorem JC.qv {σ : SG} {E : Int32 → String} {av : List EV} {M : EM} {x nz a c nb T : Nat} {F : FM} {B : Nat → Nat} {sp : Int32 × Int32} {v : Int32} (h : JC M x F nz a c nb T B) (hc : Ct l g σ (lvD x :: av) M (fun o M' => BX (TQ E M x sp o M'))) (h0 : sp = (0, v)) : Ct l g σ (lvD x :: av) M (JQ M x F nz a c nb T B v) := by
  subst h0
  exact h.q hc rfl
theorem r_le {k b : Nat} (h : k ≤ b) (hb : b < 2 ^ 31) : 0 ≤ nI k ∧ nI k ≤ nI b := ⟨nI_pos' (by omega), nI_le h hb⟩
theorem r_lt {k b : Nat} (h : k < b) (hb : b < 2 ^ 31) : 0 ≤ nI k ∧ nI k ≤ nI b - 1 := by
  obtain ⟨m, rfl⟩ : ∃ m, b = m + 1 := ⟨b - 1, by omega⟩
  rw [nI_pred]
  exact r_le (by omega) (by omega)
theorem r_l1 {k : Nat} (h : k ≤ 1) : 0 ≤ nI k ∧ nI k ≤ (1 : Int32) := r_le h (by decide)
theorem r_l2 {k : Nat} (h : k ≤ 2) : 0 ≤ nI k ∧ nI k ≤ (2 : Int32) := r_le h (by decide)
theorem r_l3 {k : Nat} (h : k ≤ 3) : 0 ≤ nI k ∧ nI k ≤ (3 : Int32) := r_le h (by decide)
theorem r_l4 {k : Nat} (h : k ≤ 4) : 0 ≤ nI k ∧ nI k ≤ (4 : Int32) := r_le h (by decide)
theorem r_l5 {k : Nat} (h : k ≤ 5) : 0 ≤ nI k ∧ nI k ≤ (5 : Int32) := r_le h (by decide)
theorem r_l6 {k : Nat} (h : k ≤ 6) : 0 ≤ nI k ∧ nI k ≤ (6 : Int32) := r_le h (by decide)
theorem r_l11 {k : Nat} (h : k ≤ 11) : 0 ≤ nI k ∧ nI k ≤ (11 : Int32) := r_le h (by decide)
theorem jq_clock (hl0 : l.stackTraces = false) {M : EM} {x nz a c nb T : Nat} {F : FM} {B : Nat → Nat} (h : JC M x F nz a c nb T B) : Ct l g sg_X10_clock [lvD x] M (JQ M x F nz a c nb T B (F 1 0)) := h.qv (cq_clock hl0 M h.qh) rfl
theorem jq_zone (hl0 : l.stackTraces = false) {M : EM} {x nz a c nb T p z w : Nat} {F : FM} {B : Nat → Nat} (h : JC M x F nz a c nb T B) (hp : p < 3) (hz : z < nz) (hw : w < 4) : Ct l g sg_X10_zone [lvD x, .inl (nI p), .inl (nI z), .inl (nI w)] M (JQ M x F nz a c nb T B (F 1 (zAt p z + w))) := by
  have hnz := h.1.1.nz
  refine h.qv (cq_zone hl0 M h.qh (nI p) (nI z) (nI w)) ?_
  unfold sp_zone
  rw [if_pos (r_l2 (by omega)), h.1.2, if_pos (r_lt hz (by omega)), if_pos (r_l3 (by omega)), nI_clamp (by omega), nI_clamp (by omega), nI_clamp (by omega)]
theorem jq_events (hl0 : l.stackTraces = false) {M : EM} {x nz a c nb T p : Nat} {F : FM} {B : Nat → Nat} (h : JC M x F nz a c nb T B) (hp : p < 3) : Ct l g sg_X10_events [lvD x, .inl (nI p)] M (JQ M x F nz a c nb T B (e_bits (fun e => F 1 (eAt p e) == 1) 8)) := by
  refine h.qv (cq_events hl0 M h.qh (nI p)) ?_
  unfold sp_events
  rw [if_pos (r_l2 (by omega)), nI_clamp (by omega)]
theorem jq_event (hl0 : l.stackTraces = false) {M : EM} {x nz a c nb T p e w : Nat} {F : FM} {B : Nat → Nat} (h : JC M x F nz a c nb T B) (hp : p < 3) (he : e < 8) (h1 : F 1 (eAt p e) = 1) (hw : w < 12) : Ct l g sg_X10_event [lvD x, .inl (nI p), .inl (nI e), .inl (nI w)] M (JQ M x F nz a c nb T B (evV F (eAt p e) w)) := by
  refine h.qv (cq_event hl0 M h.qh (nI p) (nI e) (nI w)) ?_
  unfold sp_event
  rw [sp_wrong0 hp (rTh.mk he h1), if_pos (r_l11 (by omega)), nI_clamp (by omega), nI_clamp (by omega), nI_clamp (by omega)]
theorem jq_date (hl0 : l.stackTraces = false) {M : EM} {x nz a c nb T p e d w : Nat} {F : FM} {B : Nat → Nat} (h : JC M x F nz a c nb T B) (hp : p < 3) (he : e < 8) (h1 : F 1 (eAt p e) = 1) (hd : d < (rL F (eAt p e)).length) (hw : w < 7) : Ct l g sg_X10_date [lvD x, .inl (nI p), .inl (nI e), .inl (nI d), .inl (nI w)] M (JQ M x F nz a c nb T B (dtV F p (eAt p e) d w)) := by
  have hln : (rL F (eAt p e)).length ≤ 30 := rDt_le _
  refine h.qv (cq_date hl0 M h.qh (nI p) (nI e) (nI d) (nI w)) ?_
  unfold sp_date
  rw [sp_wrong0 hp (rTh.mk he h1), nI_clamp (n := p) (by omega), nI_clamp (n := e) (by omega), if_pos ⟨r_lt hd (by omega), r_l6 (by omega)⟩, nI_clamp (by omega), nI_clamp (by omega)]
theorem jq_answer (hl0 : l.stackTraces = false) {M : EM} {x nz a c nb T p e s : Nat} {F : FM} {B : Nat → Nat} (h : JC M x F nz a c nb T B) (hp : p < 3) (he : e < 8) (h1 : F 1 (eAt p e) = 1) (hs : s < 2) : Ct l g sg_X10_answer [lvD x, .inl (nI p), .inl (nI e), .inl (nI s)] M (JQ M x F nz a c nb T B (F 1 (eAt p e + 14 + s))) := by
  refine h.qv (cq_answer hl0 M h.qh (nI p) (nI e) (nI s)) ?_
  unfold sp_answer
  rw [if_pos ⟨r_l2 (by omega), r_l1 (by omega)⟩, nI_clamp (n := p) (by omega), if_pos (rTh.mk he h1), nI_clamp (by omega), nI_clamp (by omega)]
theorem jq_side (hl0 : l.stackTraces = false) {M : EM} {x nz a c nb T s w : Nat} {F : FM} {B : Nat → Nat} (h : JC M x F nz a c nb T B) (hs : s < 2) (hw : w < 5) : Ct l g sg_X10_side [lvD x, .inl (nI s), .inl (nI w)] M (JQ M x F nz a c nb T B (sdV F s w)) := by
  refine h.qv (cq_side hl0 M h.qh (nI s) (nI w)) ?_
  unfold sp_side
  rw [if_pos ⟨r_l1 (by omega), r_l4 (by omega)⟩, nI_clamp (by omega), nI_clamp (by omega)]
theorem jq_account (hl0 : l.stackTraces = false) {M : EM} {x nz a c nb T s w : Nat} {F : FM} {B : Nat → Nat} (h : JC M x F nz a c nb T B) (hs : s < 2) (hw : w < 6) : Ct l g sg_X10_account [lvD x, .inl (nI s), .inl (nI w)] M (JQ M x F nz a c nb T B (F 1 (3 + 6 * s + w))) := by
  refine h.qv (cq_account hl0 M h.qh (nI s) (nI w)) ?_
  unfold sp_account
  rw [if_pos ⟨r_l1 (by omega), r_l5 (by omega)⟩, nI_clamp (by omega), nI_clamp (by omega)]
/-- an event is there or not -/
theorem ev_bit {F : FM} {p e : Nat} (he : e < 8) : ((e_bits (fun e => F 1 (eAt p e) == 1) 8 >>> (nI e &&& 31)) &&& 1 = 0) ↔ ¬ F 1 (eAt p e) = 1 := by
  have h := e_bit_bits (f := fun e => F 1 (eAt p e) == 1) (n := 8) (k := e) (by decide) he
  have h' : ¬ ((e_bits (fun e => F 1 (eAt p e) == 1) 8 >>> (nI e &&& 31)) &&& 1 = 0) ↔ (F 1 (eAt p e) == 1) = true := h
  rw [beq_iff_eq] at h'
  exact ⟨fun z w => (h'.mpr w) z, fun z => Decidable.byContradiction (fun w => z (h'.mp w))⟩
end
