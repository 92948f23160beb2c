/-! THE CONSTRUCTOR of the reference. -/
section
variable {l : Launch} {g : EG}
def mFl (t : Nat) : Nat := ([2, 3, 4, 5, 7, 9, 18, 21, 22, 23, 24, 26, 27] : List Nat).getD t 0
theorem mFl_ne : ∀ i, i < 13 → ∀ t, t < i → ¬ mFl t = mFl i := by decide
theorem mFl_pf : ∀ t, t < 13 → e_pf 30 (mFl t) = some (1 + t) := by decide
theorem pt_130 (t k : Nat) : ¬ e_pt t k = 130 := by
  unfold e_pt
  split <;> decide
theorem pf_30 {k off : Nat} (h : e_pf 30 k = some off) : ∃ t, t < 13 ∧ k = mFl t ∧ off = 1 + t := by
  rcases k with _ | _ | _ | _ | _ | _ | _ | _ | _ | _ | _ | _ | _ | _ | _ | _ | _ | _ | _ | _ | _ | _ | _ | _ | _ | _ | _ | _ | k
  all_goals first | (cases h; done) | (cases h; first | exact ⟨0, by omega, rfl, rfl⟩ | exact ⟨1, by omega, rfl, rfl⟩ | exact ⟨2, by omega, rfl, rfl⟩ | exact ⟨3, by omega, rfl, rfl⟩ | exact ⟨4, by omega, rfl, rfl⟩ | exact ⟨5, by omega, rfl, rfl⟩ | exact ⟨6, by omega, rfl, rfl⟩ | exact ⟨7, by omega, rfl, rfl⟩ | exact ⟨8, by omega, rfl, rfl⟩ | exact ⟨9, by omega, rfl, rfl⟩ | exact ⟨10, by omega, rfl, rfl⟩ | exact ⟨11, by omega, rfl, rfl⟩ | exact ⟨12, by omega, rfl, rfl⟩)
/-- while the reference is made -/
def MI (M : EM) (b : Nat) (M1 : EM) (i : Nat) (cd : Int32) : Prop := Bd M b (fun c => c = b) M1 (b + 1 + i) ∧ (∀ j, mI M1 b j = if j = 17 then cd else 0) ∧ (∀ c, 1 ≤ c → c < 1 + i → ∀ j, mI M1 (b + c) j = 0) ∧ ∀ t, t < i → mP M1 b (mFl t) = some (b + 1 + t)
theorem MI.st {M M1 : EM} {b i t : Nat} {cd : Int32} (h : MI M b M1 i cd) (lt : ∀ c ∈ mA M1, c < mN M1) (hi : i < 13) (ht : wh t = t) : MI M b (sP (sNew M1 t) b (mFl i) (b + 1 + i)) (i + 1) cd := by
  obtain ⟨B, z0, z1, pf⟩ := h
  have hm := B.1
  refine ⟨st_arr B lt (by omega) ht, fun j => ?_, fun c h1 h2 j => ?_, fun u hu => ?_⟩
  · exact ((new_il (t := t) (lo := b) (hi := b + 1) (by omega)) b (Nat.le_refl _) (by omega) j).1.trans (z0 j)
  · by_cases q : c = 1 + i
    · rw [q, ← Nat.add_assoc]; exact (new_Z0 (t := t) hm j).1
    · exact ((new_il (t := t) (lo := b) (hi := b + 1 + i) (by omega)) (b + c) (by omega) (by omega) j).1.trans (z1 c h1 (by omega) j)
  · rw [st_mP hm (by omega)]
    by_cases q : u = i
    · rw [q, if_pos rfl]
    · rw [if_neg (mFl_ne i hi u (by omega))]; exact pf u (by omega)
theorem md_ok {M M1 : EM} {b : Nat} {cd : Int32} (okM : e_ok M) (lt : ∀ c ∈ mA M, c < mN M) (hn : mN M = b + 1) (h : MI M b M1 13 cd) (ok1 : e_ok M1) (ht0 : mT M b = 130) (ht : mT M1 b = 130) : e_ok (rW M1 b) := by
  obtain ⟨⟨b1, b2, b3, b4, b5⟩, -, -, pf⟩ := h
  intro a ha
  obtain ⟨h1, h2, h3⟩ := ok1 a ha
  rw [mT_rW]
  by_cases c : b ≤ a
  · rw [if_pos c]
    refine ⟨by rw [wh_kd]; exact h1, fun k q hq => ?_, fun k off hf => ?_⟩
    · obtain ⟨q1, q2⟩ := h2 k q hq
      exact ⟨q1, by rw [mT_rW, if_pos (b5 a ha c k q hq), q2, wh_pt]⟩
    · by_cases e : a = b
      · subst e
        rw [ht] at hf
        obtain ⟨t, t1, t2, t3⟩ := pf_30 hf
        rw [t2, t3]
        show mP M1 a (mFl t) = _
        rw [pf t t1, Nat.add_assoc]
      · rw [b4 a ha c e] at hf
        exact h3 k off hf
  · rw [if_neg c]
    refine ⟨h1, fun k q hq => ?_, h3⟩
    obtain ⟨q1, q2⟩ := h2 k q hq
    have ha0 := b3 a ha (by omega)
    have hq0 : mP M a k = some q := (b2 a (by omega) k).2.2.symm.trans hq
    obtain ⟨y1, y2⟩ := (okM a ha0).2.1 k q hq0
    have hl := lt q y1
    have hne : ¬ q = b := fun z => by rw [z, ht0] at y2; exact pt_130 _ _ y2.symm
    exact ⟨q1, by rw [mT_rW, if_neg (by omega)]; exact q2⟩
theorem rM_cg {M : EM} {m : Nat} {F G : FM} (h : ∀ i, i < 14 → F i = G i) : rM M m F = rM M m G := by
  unfold rM
  congr 2
  funext c j
  by_cases q : m ≤ c ∧ c < m + 14
  · rw [if_pos q, if_pos q, h (c - m) (by omega)]
  · rw [if_neg q, if_neg q]
def F00 : FM := fun i j => if i = 0 ∧ j = 17 then -1 else 0
def F01 : FM := upF (upF (rwF F00 7 (zD 1100 (F00 7))) 0 19 0) 0 20 0
/-- the reference, new -/
def mdF : FM := fTk F01 0 0
def MD (b : Nat) (M M' : EM) : Prop := mN M' = b + 14 ∧ (∀ c, c < b → ∀ j, mI M' c j = mI M c j ∧ mL M' c j = mL M c j ∧ mP M' c j = mP M c j) ∧ (b ∈ mA M' ∧ mT M' b = 30) ∧ M' = rM M' b mdF
end
