/-! THE LAW, 10: a drawn calendar is loaded. -/
section
variable {l : Launch} {g : EG}
/-- the cells after a calendar was taken -/
def fL (F : FM) (D : Nat → Int32) (z e : Nat) : FM := fun i j =>
  if i = 0 then (if j = 0 ∨ j = 10 ∨ j = 16 ∨ j = 6 then 0 else if j = 17 then -1 else if j = 1 then nI (if z = 0 then 1 else z) else F 0 j)
  else if i = 1 then sCp (F 1) (dTk D z e) 1100 j else if i = 4 then (if j = 0 ∨ j = 1 then 0 else F 4 j) else F i j
theorem fL_ok {F : FM} {D : Nat → Int32} {z e : Nat} : LYes F (fL F D z e) D z e := by
  refine ⟨rfl, rfl, rfl, rfl, rfl, rfl, rfl, rfl, rfl, fun i h0 h1 h4 _ _ => ?_, fun j h0 h1 h6 h8 h10 h19 h20 => ?_⟩
  · funext j
    show (if i = 0 then _ else if i = 1 then _ else if i = 4 then _ else F i j) = F i j
    rw [if_neg h0, if_neg h1, if_neg h4]
  · show (if j = 0 ∨ j = 10 ∨ j = 16 ∨ j = 6 then (0 : Int32) else if j = 17 then -1 else if j = 1 then _ else F 0 j) = F 0 j
    rw [if_neg (by omega), if_neg (by omega), if_neg (by omega)]
/-- the cells with another text in the buffer -/
def fB (F : FM) (B : Nat → Nat) (nb : Nat) : FM := fun i j => if i = 6 then nI (B j) else if i = 0 ∧ j = 10 then nI nb else F i j
theorem fB_r {F : FM} {B : Nat → Nat} {nb i : Nat} (h0 : ¬ i = 0) (h6 : ¬ i = 6) : fB F B nb i = F i := by
  funext j
  show (if i = 6 then _ else if i = 0 ∧ j = 10 then _ else F i j) = F i j
  rw [if_neg h6, if_neg (fun z => h0 z.1)]
theorem fB_0 {F : FM} {B : Nat → Nat} {nb j : Nat} (h : ¬ j = 10) : fB F B nb 0 j = F 0 j := by
  show (if (0 : Nat) = 6 then _ else if (0 : Nat) = 0 ∧ j = 10 then _ else F 0 j) = F 0 j
  rw [if_neg (by decide), if_neg (fun z => h z.2)]
theorem fr2.eqR {M M' : EM} {a b lo hi : Nat} (f : fr2 M M' a b) (hm : hi ≤ mN M) (ha : a < lo ∨ hi ≤ a) (hb : b < lo ∨ hi ≤ b) : eqR M M' lo hi := fun c h1 h2 j => by
  obtain ⟨-, u⟩ := f.2.2 c (by omega)
  obtain ⟨i1, l1, -⟩ := u (by omega) (by omega)
  exact ⟨by rw [i1], by rw [l1]⟩
theorem JC.bf {M M' : EM} {x nz a c nb nb' T : Nat} {F : FM} {B B' : Nat → Nat} (h : JC M x F nz a c nb T B) (f : fr2 M M' (x + 48) (x + 49)) (hm : x + 2229 ≤ mN M) (hB : BT M' (x + 48) B' nb') : JC M' x (fB F B' nb') nz a c nb' T B' := by
  obtain ⟨⟨h1, h1'⟩, ⟨h2, h2'⟩, h3, h4, ⟨h5, h5'⟩, ⟨h6, h6'⟩, h7⟩ := h
  have lo : eqR M M' x (x + 48) := f.eqR (by omega) (by omega) (by omega)
  have hi : eqR M M' (x + 50) (x + 2229) := f.eqR (by omega) (by omega) (by omega)
  have p2 : ∀ i, pS (fB F B' nb') i = pS F i := fun i => by unfold pS; rw [fB_r (by omega) (by omega)]
  have p3 : ∀ i, kS (fB F B' nb') i = kS F i := fun i => by unfold kS; rw [fB_r (by omega) (by omega)]
  refine ⟨⟨by rw [fB_r (by omega) (by omega)]; exact h1.eq hi (by omega) (by omega), (fB_0 (by omega)).trans h1'⟩, ⟨h2.eq hi (by omega) (by omega), (fB_0 (by omega)).trans h2'⟩, fun i hi' => by rw [p2]; exact (h3 i hi').eq hi (by omega) (by have := hIx_lt a c i; omega), fun t' ht => ?_, ⟨hB, rfl, hB.1.1, fun j hj => ⟨rfl, (hB.1.2 j hj).2⟩⟩, ⟨?_, ?_⟩, fun z hz => ((lo (x + 4 + z) (by omega) (by omega) 3).1).trans (h7 z hz)⟩
  · rw [fB_r (by omega) (by omega), p3]
    refine ⟨((hi (x + 2228) (by omega) (by omega) t').1).trans (h4 t' ht).1, ?_⟩
    rcases (h4 t' ht).2 with h8 | ⟨h8, h9⟩
    · exact Or.inl h8
    · exact Or.inr ⟨h8, h9.eq hi (by omega) (by omega)⟩
  · rw [fB_0 (by omega)]; exact ((lo (x + 1) (by omega) (by omega) 2).1).trans h6
  · rw [fB_0 (by omega)]; exact ((lo (x + 1) (by omega) (by omega) 3).1).trans h6'
set_option maxRecDepth 100000 in
theorem c_load (hl0 : l.stackTraces = false) {M : EM} {x q c k nz a cc Tm : Nat} {T : List Nat} {F : FM} {B0 : Nat → Nat} (h : JC M x F nz a cc 0 Tm B0) (hO : OT M q c T) (hq : x + 2229 ≤ q ∧ x + 2229 ≤ c) (hk : k ≤ 5) (hT : CalT k T) : Ct l g sg_L_load [lvD x, lvT (56, q)] M (fun o M' => BX (o = .inl (some (.inl (nI k))) ∧ ∃ F' D B, JC M' x F' 2 a 0 0 Tm B ∧ F' 1 = sLd (F 1) D 2 k ∧ gDr D 2 k ∧ ∀ e, e < 8 → D (12 + 136 * e + 13) = 0)) := by
  have hlen := hT.len
  have hmn : x + 2229 ≤ mN M := by have := hO.2.2.2.2; omega
  refine sem_ofH hl0 rfl (by decide +kernel) rfl ok_L_load rfl (fun K hc hw => e_step rfl hc 60 [] ?_)
  refine ⟨⟨by decide, by decide⟩, Ct.mono (c_type hl0 hO (by omega) ⟨by omega, by omega⟩ h.2.2.2.2.1.1) ?_⟩
  rintro o M1 ⟨⟨rfl, B, nb, hB, hnb, hBT, hf⟩⟩
  obtain ⟨D, t', hR, hmv⟩ := cal_1 (B := B) (Dx := F 7) hk hT hBT
  have h1 := h.bf hf hmn hB
  have hL := ca_load0 (l := l) (g := g) hl0 M1 (F 7) hB hnb
  rw [hR] at hL
  refine Ct.mono hL ?_
  rintro o M2 ⟨⟨hy, rfl⟩⟩
  have hg := rCal_iv hR
  have h2 := h1.ly hg hy fL_ok
  refine ⟨by decide, by decide, ⟨⟨rfl, _, D, B, h2, ?_, hg, hmv⟩⟩⟩
  show sCp (fB F B nb 1) (dTk D 2 k) 1100 = sLd (F 1) D 2 k
  rw [fB_r (by decide) (by decide)]
  rfl
end
