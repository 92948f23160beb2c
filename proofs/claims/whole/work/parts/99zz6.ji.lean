/-! THE PAIR, 6: the beginning. -/
section
variable {l : Launch} {g : EG}
theorem ZPl.qP {M : EM} {a b : Nat} (h : ZPl M a) (h' : ZPl M b) : qP M a M b :=
  ⟨(h.1 0).trans (h'.1 0).symm, fun z hz j _ => (h.2.1 z hz j).trans (h'.2.1 z hz j).symm, fun e he => ⟨fun j _ => ((h.2.2 e he).1 j).trans ((h'.2.2 e he).1 j).symm, fun j _ => ((h.2.2 e he).2 1 (by omega) (by omega) j).1.trans ((h'.2.2 e he).2 1 (by omega) (by omega) j).1.symm, fun j _ => ((h.2.2 e he).2 2 (by omega) (by omega) j).1.trans ((h'.2.2 e he).2 2 (by omega) (by omega) j).1.symm, fun j _ => ((h.2.2 e he).2 3 (by omega) (by omega) j).1.trans ((h'.2.2 e he).2 3 (by omega) (by omega) j).1.symm, fun j _ => ((h.2.2 e he).2 4 (by omega) (by omega) j).2.trans ((h'.2.2 e he).2 4 (by omega) (by omega) j).2.symm⟩⟩
theorem mdF_1 : mdF 1 = sLd (F01 1) (zD 1100 (F00 7)) 0 0 := rfl
theorem JC.ini {M : EM} {x : Nat} (h : ZCs M x) (T : Nat) : JD M x mdF T := by
  obtain ⟨⟨hr, hp, ht, hb⟩, ⟨e0, eP, eS, eN⟩, ⟨hh, -⟩, -, hk⟩ := h
  have hp' : ZPl M (x + 2) := hp
  have hg : gDr (zD 1100 (F00 7)) 0 0 := gDr_0
  have hX : xBg M (x + 50) M (x + 1 + 1) := ⟨(e0 0).1, eP.qP hp', fun s hs => ⟨fun j _ _ => ((eS s hs).1 j).1, by have := (eS s hs).2.1; rw [show x + 50 + 48 + 48 * s + 1 = x + 50 + 49 + 48 * s by omega] at this; exact this.qP hp', fun j _ => ((eS s hs).2.2 j).1⟩⟩
  have hD : DRf M (x + 1) (zD 1100 (F00 7)) 0 0 := by
    refine ⟨(hp'.1 0).trans rfl, (hr 1).trans rfl, fun z hz j hj => ?_, fun e he => absurd he (by omega), fun e _ he => ⟨?_, ?_⟩, ?_, dZr_0⟩
    · rw [if_pos rfl] at hz
      obtain rfl : z = 0 := by omega
      have h9 := hp'.2.1 0 (by omega) j
      refine h9.trans ?_
      unfold dZn
      by_cases hj0 : j = 0
      · subst hj0; rfl
      · rw [if_pos (by omega), if_pos ⟨rfl, by omega⟩]
    · have := (hp'.2.2 e he).1 0
      rw [show x + 2 + 6 + 5 * e = x + 1 + 7 + 5 * e by omega] at this
      exact this.trans rfl
    · have := (hp'.2.2 e he).1 9
      rw [show x + 2 + 6 + 5 * e = x + 1 + 7 + 5 * e by omega] at this
      exact this.trans rfl
    · exact ⟨Nat.zero_le _, Nat.zero_le _, fun e _ he => if_pos (by omega)⟩
  have hv : ∀ z, z < 3 → mI M (x + 1 + 3 + z) 3 = 0 := fun z hz => by
    have := hp'.2.1 z hz 3
    rw [show x + 2 + 2 + z = x + 1 + 3 + z by omega] at this
    exact this.trans rfl
  obtain ⟨i1, i2⟩ := ld_iv (s := F01 1) hg
  refine ⟨1, 0, 0, 0, fun _ => 0, ⟨⟨?_, ?_, ?_, 0, rfl, by omega⟩, rfl⟩, ⟨⟨(hh 1).1.trans rfl, by omega, (hh 0).1.trans rfl, by omega⟩, rfl⟩, fun i hi => absurd hi (by omega), fun t ht => ?_, ⟨⟨⟨by omega, fun j hj => absurd hj (by omega)⟩, ?_⟩, rfl, by omega, fun j hj => absurd hj (by omega)⟩, ⟨(hr 2).trans rfl, (hr 3).trans rfl⟩, fun z hz => ?_⟩
  · rw [mdF_1]; exact Rx.ld hX hD hg hv
  · rw [mdF_1]; exact i1
  · rw [mdF_1]; exact i2
  · obtain rfl | rfl : t = 0 ∨ t = 1 := by omega
    · exact ⟨(hk 0).1.trans rfl, Or.inl rfl⟩
    · exact ⟨(hk 1).1.trans rfl, Or.inl rfl⟩
  · exact (ht 0).1.trans rfl
  · have := hv z hz
    rw [show x + 1 + 3 + z = x + 4 + z by omega] at this
    exact this
end
