/-! THE REFERENCE: load. -/
section
variable {l : Launch} {g : EG}
/-- the reference's buffer holds the bytes -/
def BF (F : FM) (B : Nat → Nat) (nb : Nat) : Prop := F 0 10 = nI nb ∧ nb ≤ 800 ∧ ∀ j, j < nb → F 6 j = nI (B j) ∧ B j < 256
def lF (F : FM) (n : Nat) : FM := upF (upF (upF (upF (upF (upF F 0 0 0) 0 12 (nI n)) 0 11 0) 0 10 0) 0 16 0) 0 17 (-1)
theorem lF_f {F : FM} {n j : Nat} (h : ¬ j = 0 ∧ ¬ j = 12 ∧ ¬ j = 11 ∧ ¬ j = 10 ∧ ¬ j = 16 ∧ ¬ j = 17) : lF F n 0 j = F 0 j := by
  unfold lF; rw [upF_n (by omega), upF_n (by omega), upF_n (by omega), upF_n (by omega), upF_n (by omega), upF_n (by omega)]
theorem lF_r {F : FM} {n i : Nat} (h : ¬ i = 0) : lF F n i = F i := by
  unfold lF; rw [upF_r h, upF_r h, upF_r h, upF_r h, upF_r h, upF_r h]
theorem lF_v {F : FM} {n : Nat} : lF F n 0 0 = 0 ∧ lF F n 0 12 = nI n ∧ lF F n 0 11 = 0 ∧ lF F n 0 10 = 0 ∧ lF F n 0 16 = 0 ∧ lF F n 0 17 = -1 := by
  unfold lF
  refine ⟨?_, ?_, ?_, ?_, ?_, ?_⟩
  · rw [upF_n (by omega), upF_n (by omega), upF_n (by omega), upF_n (by omega), upF_n (by omega), upF_s]
  · rw [upF_n (by omega), upF_n (by omega), upF_n (by omega), upF_n (by omega), upF_s]
  · rw [upF_n (by omega), upF_n (by omega), upF_n (by omega), upF_s]
  · rw [upF_n (by omega), upF_n (by omega), upF_s]
  · rw [upF_n (by omega), upF_s]
  · rw [upF_s]
/-- what a load keeps of row 0 -/
def kL (F F' : FM) : Prop := ∀ j, ¬ j = 0 → ¬ j = 1 → ¬ j = 6 → ¬ j = 8 → ¬ (10 ≤ j ∧ j ≤ 17) → ¬ j = 19 → ¬ j = 20 → F' 0 j = F 0 j
/-- a load that was refused for the text -/
def LNo (F F' : FM) (c q : Nat) : Prop := F' 0 0 = 2 ∧ F' 0 10 = 0 ∧ erAt F' c q ∧ (∀ i, ¬ i = 0 → ¬ i = 5 → ¬ i = 7 → F' i = F i) ∧ F' 0 1 = F 0 1 ∧ F' 0 6 = F 0 6 ∧ kL F F'
/-- a load that was done -/
def LYes (F F' : FM) (D : Nat → Int32) (nz ne : Nat) : Prop := F' 0 0 = 0 ∧ F' 0 10 = 0 ∧ F' 0 16 = 0 ∧ F' 0 17 = -1 ∧ F' 1 = sCp (F 1) (dTk D nz ne) 1100 ∧ F' 4 0 = 0 ∧ F' 4 1 = 0 ∧ F' 0 1 = nI (if nz = 0 then 1 else nz) ∧ F' 0 6 = 0 ∧ (∀ i, ¬ i = 0 → ¬ i = 1 → ¬ i = 4 → ¬ i = 5 → ¬ i = 7 → F' i = F i) ∧ kL F F'
def rCal (B : Nat → Nat) (n : Nat) (D : Nat → Int32) : (Nat × Nat) ⊕ (((Nat → Int32) × Nat × Nat) × Nat) := pCal B n (n + 1) (zD 1100 D) 0 0 (tS B n 0)
def RLd (M : EM) (m : Nat) (F : FM) (r : (Nat × Nat) ⊕ (((Nat → Int32) × Nat × Nat) × Nat)) : EO → EM → Prop := fun o M' => match r with
  | .inl (c, q) => ∃ F', M' = rM M m F' ∧ LNo F F' c q ∧ ∃ w, o = .inl (some (.inl w))
  | .inr (d, _) => ∃ F', M' = rM M m F' ∧ LYes F F' d.1 d.2.1 d.2.2 ∧ o = .inl (some (.inl (nI d.2.2)))
theorem RLd.no {M M' : EM} {m : Nat} {F : FM} {r : (Nat × Nat) ⊕ (((Nat → Int32) × Nat × Nat) × Nat)} {c q : Nat} {o : EO} (h : r = .inl (c, q)) (hp : ∃ F', M' = rM M m F' ∧ LNo F F' c q ∧ ∃ w, o = .inl (some (.inl w))) : RLd M m F r o M' := by subst h; exact hp
theorem RLd.yes {M M' : EM} {m : Nat} {F : FM} {r : (Nat × Nat) ⊕ (((Nat → Int32) × Nat × Nat) × Nat)} {d : (Nat → Int32) × Nat × Nat} {t : Nat} {o : EO} (h : r = .inr (d, t)) (hp : ∃ F', M' = rM M m F' ∧ LYes F F' d.1 d.2.1 d.2.2 ∧ o = .inl (some (.inl (nI d.2.2)))) : RLd M m F r o M' := by subst h; exact hp
theorem fTk_0 {F : FM} {nz ne j : Nat} (h : ¬ j = 1 ∧ ¬ j = 6) : fTk F nz ne 0 j = F 0 j := by
  unfold fTk
  rw [upF_r (by decide), upF_r (by decide), upF_n (by omega), rwF_n (by decide), rwF_n (by decide), upF_n (by omega)]
theorem fTk_r {F : FM} {nz ne i : Nat} (h : ¬ i = 0 ∧ ¬ i = 1 ∧ ¬ i = 4 ∧ ¬ i = 7) : fTk F nz ne i = F i := by
  unfold fTk
  rw [upF_r (by omega), upF_r (by omega), upF_r (by omega), rwF_n (by omega), rwF_n (by omega), upF_r (by omega)]
theorem fTk_v {F : FM} {nz ne : Nat} : fTk F nz ne 1 = sCp (F 1) (dTk (F 7) nz ne) 1100 ∧ fTk F nz ne 4 0 = 0 ∧ fTk F nz ne 4 1 = 0 ∧ fTk F nz ne 0 1 = nI (if nz = 0 then 1 else nz) ∧ fTk F nz ne 0 6 = 0 := by
  unfold fTk
  refine ⟨?_, ?_, ?_, ?_, ?_⟩
  · rw [upF_r (by decide), upF_r (by decide), upF_r (by decide), rwF_s]
  · rw [upF_n (by omega), upF_s]
  · rw [upF_s]
  · rw [upF_r (by decide), upF_r (by decide), upF_n (by omega), rwF_n (by decide), rwF_n (by decide), upF_s]
  · rw [upF_r (by decide), upF_r (by decide), upF_s]
theorem LNo.mk' {F F6 : FM} {n c q : Nat} (kd : kD (lF F n) F6) (e : erAt F6 c q) : LNo F (upF F6 0 0 2) c q := by
  obtain ⟨v0, v12, v11, v10, v16, v17⟩ := lF_v (F := F) (n := n)
  refine ⟨upF_s, by rw [upF_n (by omega), kd.2 10 (by omega) (by omega) (by omega) (by omega) (by omega)]; exact v10, ⟨by rw [upF_n (by omega)]; exact e.1, by rw [upF_n (by omega)]; exact e.2⟩, fun i h1 h2 h3 => by rw [upF_r h1, kd.1 i h1 h2 h3, lF_r h1], ?_, ?_, fun j h0 h1 h6 h8 h10 h19 h20 => ?_⟩
  · rw [upF_n (by omega), kd.2 1 (by omega) (by omega) (by omega) (by omega) (by omega), lF_f (by omega)]
  · rw [upF_n (by omega), kd.2 6 (by omega) (by omega) (by omega) (by omega) (by omega), lF_f (by omega)]
  · rw [upF_n (by omega), kd.2 j (by omega) (by omega) (by omega) (by omega) (by omega), lF_f (by omega)]
theorem LYes.mk' {F F6 : FM} {n nz ne : Nat} {D : Nat → Int32} (kd : kD (lF F n) F6) (ok : okR (lF F n) F6) (h7 : F6 7 = D) : LYes F (fTk (upF F6 0 0 0) nz ne) D nz ne := by
  obtain ⟨v0, v12, v11, v10, v16, v17⟩ := lF_v (F := F) (n := n)
  obtain ⟨w1, w2, w3, w4, w5⟩ := fTk_v (F := upF F6 0 0 0) (nz := nz) (ne := ne)
  refine ⟨?_, ?_, ?_, ?_, ?_, w2, w3, w4, w5, fun i h0 h1 h4 h5 h7 => ?_, fun j h0 h1 h6 h8 h10 h19 h20 => ?_⟩
  · rw [fTk_0 (by omega), upF_s]
  · rw [fTk_0 (by omega), upF_n (by omega), kd.2 10 (by omega) (by omega) (by omega) (by omega) (by omega)]; exact v10
  · rw [fTk_0 (by omega), upF_n (by omega), ok.1]; exact v16
  · rw [fTk_0 (by omega), upF_n (by omega), ok.2]; exact v17
  · rw [w1, upF_r (by decide), upF_r (by decide), kd.1 1 (by decide) (by decide) (by decide), lF_r (by decide), h7]
  · rw [fTk_r ⟨h0, h1, h4, h7⟩, upF_r h0, kd.1 i h0 h5 h7, lF_r h0]
  · rw [fTk_0 ⟨h1, h6⟩, upF_n (by omega), kd.2 j (by omega) (by omega) (by omega) (by omega) (by omega), lF_f (by omega)]
end
