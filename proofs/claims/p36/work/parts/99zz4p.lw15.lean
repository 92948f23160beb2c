/-! THE LAW, 15: the sum reads the row alone. -/
section
variable {F F' : FM}
theorem rL_cg (h : F 1 = F' 1) (a : Nat) : rL F a = rL F' a := by unfold rL; rw [h]
theorem dF_1x {L : List Nat} : dF F L 1 = F 1 := by
  funext b
  show (if (1 : Nat) = 0 ∧ b = 8 then _ else if (1 : Nat) = 5 ∧ b < L.length then _ else F 1 b) = F 1 b
  rw [if_neg (fun z => absurd z.1 (by decide)), if_neg (fun z => absurd z.1 (by decide))]
theorem dF_5x {L : List Nat} {d : Nat} (h : d < L.length) : dF F L 5 d = nI (L.getD d 0) := by
  show (if (5 : Nat) = 0 ∧ d = 8 then _ else if (5 : Nat) = 5 ∧ d < L.length then nI (L.getD d 0) else F 5 d) = _
  rw [if_neg (fun z => absurd z.1 (by decide)), if_pos ⟨rfl, h⟩]
theorem rDy_cg (h : F 1 = F' 1) {a d : Nat} (hd : d < (rL F a).length) : rDy (dF F (rL F a)) a d = rDy (dF F' (rL F' a)) a d := by
  unfold rDy
  rw [dF_1x, dF_1x, dF_5x hd, ← rL_cg h a, dF_5x hd, h]
theorem dtV_cg (h : F 1 = F' 1) {p a d w : Nat} (hd : d < (rL F a).length) : dtV F p a d w = dtV F' p a d w := by
  match w with
  | 0 => exact rDy_cg h hd
  | 1 => show rMi F a d = rMi F' a d; unfold rMi; rw [h]
  | 2 =>
    show rMo (dF F (rL F a)) p (F 1 (a + 4)).toNatClampNeg a d = rMo (dF F' (rL F' a)) p (F' 1 (a + 4)).toNatClampNeg a d
    unfold rMo
    rw [rDy_cg h hd]
    unfold rMi
    rw [dF_1x, dF_1x, h]
  | 3 => show e_01 (¬ e_bit (F 1 (a + 12)) (nI d)) = e_01 (¬ e_bit (F' 1 (a + 12)) (nI d)); rw [h]
  | 4 => show nI ((rL F a).getD d 0) = nI ((rL F' a).getD d 0); rw [rL_cg h]
  | w + 5 => show rAn F a w d = rAn F' a w d; unfold rAn; rw [h]
theorem fo_cg {f f' : Nat → Int64} (h : ∀ k, f k = f' k) : ∀ n a, fo f n a = fo f' n a
  | 0, _ => rfl
  | n + 1, a => by show 31 * fo f n a + f n = 31 * fo f' n a + f' n; rw [fo_cg h n a, h n]
theorem znA_cg (h : F 1 = F' 1) (p : Nat) : ∀ z a, znA F p z a = znA F' p z a
  | 0, _ => rfl
  | z + 1, a => by
    show fo (zV F p z) 4 (znA F p z a) = fo (zV F' p z) 4 (znA F' p z a)
    rw [znA_cg h p z a]
    exact fo_cg (fun w => by unfold zV; rw [h]) 4 _
theorem dsA_cg (h : F 1 = F' 1) (p e : Nat) : ∀ k a, k ≤ (rL F (eAt p e)).length → dsA F p e k a = dsA F' p e k a
  | 0, _, _ => rfl
  | k + 1, a, hk => by
    show fo (dV F p e k) 7 (dsA F p e k a) = fo (dV F' p e k) 7 (dsA F' p e k a)
    rw [dsA_cg h p e k a (by omega)]
    exact fo_cg (fun w => by unfold dV; rw [dtV_cg h (by omega)]) 7 _
theorem evV_cg (h : F 1 = F' 1) (a w : Nat) : evV F a w = evV F' a w := by unfold evV; rw [rL_cg h, h]
theorem evA_cg (h : F 1 = F' 1) (p e : Nat) (a : Int64) : evA F p e a = evA F' p e a := by
  unfold evA
  rw [dsA_cg h p e _ _ (Nat.le_refl _), fo_cg (f' := eV F' p e) (fun w => by unfold eV; rw [evV_cg h]), rL_cg h, h]
theorem esA_cg (h : F 1 = F' 1) (p : Nat) : ∀ e a, esA F p e a = esA F' p e a
  | 0, _ => rfl
  | e + 1, a => by show evA F p e (esA F p e a) = evA F' p e (esA F' p e a); rw [esA_cg h p e a, evA_cg h]
theorem plA_cg (h : F 1 = F' 1) : ∀ p a, plA F p a = plA F' p a
  | 0, _ => rfl
  | p + 1, a => by show esA F p 8 (znA F p 2 (plA F p a)) = esA F' p 8 (znA F' p 2 (plA F' p a)); rw [plA_cg h p a, znA_cg h, esA_cg h]
theorem sdV_cg (h : F 1 = F' 1) (s w : Nat) : sdV F s w = sdV F' s w := by
  match w with
  | 0 => show F 1 (1 + s) = F' 1 (1 + s); rw [h]
  | 1 => exact e_bits_c 8 (fun e _ => decide_eq_decide.mpr (show (F 1 (eAt s e + 10) = 1 ∨ F 1 (eAt s e + 11) = 1) ↔ (F' 1 (eAt s e + 10) = 1 ∨ F' 1 (eAt s e + 11) = 1) from by rw [h]))
  | 2 => exact e_bits_c 8 (fun e _ => decide_eq_decide.mpr (show F 1 (eAt s e + 10) = 1 ↔ F' 1 (eAt s e + 10) = 1 from by rw [h]))
  | 3 => show e_01 (F 1 (1 + s) < F 1 0 - 8) = e_01 (F' 1 (1 + s) < F' 1 0 - 8); rw [h]
  | w + 4 => show rTold F s = rTold F' s; unfold rTold; rw [h]
theorem siA_cg (h : F 1 = F' 1) (s : Nat) : ∀ w a, siA F s w a = siA F' s w a
  | 0, _ => rfl
  | w + 1, a => by
    show (31 * siA F s w a + (siV F s w).toInt64) + 3 * (F 1 (3 + 6 * s + w)).toInt64 = (31 * siA F' s w a + (siV F' s w).toInt64) + 3 * (F' 1 (3 + 6 * s + w)).toInt64
    have e : siV F s w = siV F' s w := by unfold siV; rw [sdV_cg h]
    rw [siA_cg h s w a, e, h]
theorem ssA_cg (h : F 1 = F' 1) : ∀ s a, ssA F s a = ssA F' s a
  | 0, _ => rfl
  | s + 1, a => by show siA F s 6 (ssA F s a) = siA F' s 6 (ssA F' s a); rw [ssA_cg h s a, siA_cg h]
/-- rows that are the same have the same sum -/
theorem sumV_cg (h : F 1 = F' 1) : sumV F = sumV F' := by
  unfold sumV
  rw [ssA_cg h, plA_cg h, h]
end
