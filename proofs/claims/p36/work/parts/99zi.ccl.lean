/-! THE READER of the class: the draft is cleared. -/
section
variable {l : Launch} {g : EG}
theorem clr_dT {M M' : EM} {r : Nat} (f : e_fr M M' (r + 1) (r + 1 + 46)) (h : ∀ z, z < 3 → mI M' (r + 1 + 2 + z) 3 = mI M (r + 1 + 2 + z) 3) : dT r M M' := ⟨fun c j _ => by rw [f.p], fun c j q => f.i (by omega) j, fun c j q => f.k (by omega) j, f.i (by omega) 0, fun z hz => h z hz⟩
theorem clr_DR {M' : EM} {r : Nat} {D : Nat → Int32} (h0 : mI M' (r + 1) 0 = 0) (h1 : mI M' r 1 = 0) (he : ∀ e, e < 8 → mI M' (r + 1 + 6 + 5 * e) 0 = 0 ∧ mI M' (r + 1 + 6 + 5 * e) 9 = -1) : DR M' r D 0 0 := ⟨h0, h1, fun z hz => absurd hz (Nat.not_lt_zero _), fun e hz => absurd hz (Nat.not_lt_zero _), fun e _ h2 => he e h2⟩
/-- the three settings behind it -/
theorem set3 {M : EM} {r n : Nat} {B : Nat → Nat} : (mI (sI (sI (sI M r 1 0) r 2 0) r 3 (-1)) r 1 = 0 ∧ mI (sI (sI (sI M r 1 0) r 2 0) r 3 (-1)) r 2 = 0 ∧ mI (sI (sI (sI M r 1 0) r 2 0) r 3 (-1)) r 3 = -1) ∧ ∀ c j, ¬ c = r → mI (sI (sI (sI M r 1 0) r 2 0) r 3 (-1)) c j = mI M c j := by
  refine ⟨⟨?_, ?_, ?_⟩, fun c j hc => ?_⟩
  · rw [mI_sI2, if_neg (by omega), mI_sI2, if_neg (by omega), mI_sI2, if_pos ⟨rfl, rfl⟩]
  · rw [mI_sI2, if_neg (by omega), mI_sI2, if_pos ⟨rfl, rfl⟩]
  · rw [mI_sI2, if_pos ⟨rfl, rfl⟩]
  · rw [mI_sI2, if_neg (by omega), mI_sI2, if_neg (by omega), mI_sI2, if_neg (by omega)]
theorem ct_begin (hl0 : l.stackTraces = false) (M : EM) {r n : Nat} {B : Nat → Nat} (hT : TB M (r + 47) B n) : Ct l g sg_X8_beginTokens [.inr (.inr (.inr (.inr (3, r + 47)))), .inl (nI n)] M (fun o M' => BX ((rT r M M' ∧ CT M' r B n (tS B n 0) ∧ okC M M' r ∧ ∀ j, mI M' r j = mI M r j) ∧ o = .inl none)) := by
  have st := ct_beginTokens (g := g) hl0 M (mI M (r + 47)) hT
  rw [tW_id] at st
  refine Ct.mono st (fun o M' q => ?_)
  obtain ⟨f', rfl, ⟨q1, q2⟩, q3⟩ := q.out
  exact BX.mk ⟨⟨tW_rT q2, tW_CT hT q1, tW_ok, fun j => tW_r⟩, q3⟩
end
