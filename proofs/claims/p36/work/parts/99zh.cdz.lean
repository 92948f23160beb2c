/-! THE READER of the class: the draft takes a zone. -/
section
variable {l : Launch} {g : EG}
theorem DR.z {M M1 M2 : EM} {r nz ne : Nat} {D : Nat → Int32} {x y z : Int32} {ab : Int32 × Int32} (h : DR M r D nz ne) (hz : nz < 3) (he : ne ≤ 8) (q1 : zS r nz M M1 x y z) (q2 : zT r nz M1 M2 ab) : DR M2 r (dZ D nz (x, ab)) (nz + 1) ne := by
  obtain ⟨a, b, c, d, e⟩ := h
  obtain ⟨s1, s2, s3, s4, s5, s6, s7⟩ := q1
  obtain ⟨t1, t2, t3, t4, t5, t6, t7⟩ := q2
  have fr : ∀ cc j, r + 2 ≤ cc → cc < r + 47 → ¬ cc = r + 3 + nz → mI M2 cc j = mI M cc j := fun cc j h1 h2 h3 => (t6 cc j h1 h2 h3).trans (s6 cc j h1 h2 h3)
  have fl : ∀ cc j, mL M2 cc j = mL M cc j := fun cc j => (t7 cc j).trans (s7 cc j)
  refine ⟨t1.trans s1, t2.trans (s2.trans b), fun k h1 j h2 => ?_, fun k h1 => ⟨?_, ?_⟩, fun k h1 h2 => ⟨(fr _ _ (by omega) (by omega) (by omega)).trans (e k h1 h2).1, (fr _ _ (by omega) (by omega) (by omega)).trans (e k h1 h2).2⟩⟩
  · by_cases q : k = nz
    · subst q
      rcases (show j = 0 ∨ j = 1 ∨ j = 2 by omega) with rfl | rfl | rfl
      · refine (t3.trans s3).trans ?_
        unfold dZ
        rw [wS_o (by omega), wS_o (by omega), Nat.add_zero, wS_e]
      · refine t4.trans ?_
        unfold dZ
        rw [wS_o (by omega), wS_e]
      · refine t5.trans ?_
        unfold dZ
        rw [wS_e]
    · refine (fr _ _ (by omega) (by omega) (by omega)).trans ((c k (by omega) j h2).trans ?_)
      unfold dZ
      rw [wS_o (by omega), wS_o (by omega), wS_o (by omega)]
  · exact (((d k h1).1.cg (fun cc j q1 q2 => fr _ _ (by omega) (by omega) (by omega)) (fun s => fl _ _))).row (fun j _ _ => dZ_o hz (by omega))
  · exact (dZ_o hz (by omega)).trans (d k h1).2
theorem DR.e {M M' : EM} {r nz ne : Nat} {D D3 : Nat → Int32} (h : DR M r D nz ne) (hz : nz ≤ 3) (he : ne < 8) (f : evF r (r + 7 + 5 * ne) M M') (c1 : mI M' r 1 = nI (ne + 1)) (er : eR M' (r + 7 + 5 * ne) (12 + 136 * ne) D3) (hD : ∀ j, oA (12 + 136 * ne) j → D3 j = D j) : DR M' r (wS D3 (12 + 136 * ne + 0) 1) nz (ne + 1) := by
  obtain ⟨a, b, c, d, e⟩ := h
  unfold oA at hD
  refine ⟨f.1.trans a, c1, fun z h1 j h2 => ?_, fun k h1 => ?_, fun k h1 h2 => ⟨(f.2 _ _ (by omega) (by omega) (by omega)).1.trans (e k (by omega) h2).1, (f.2 _ _ (by omega) (by omega) (by omega)).1.trans (e k (by omega) h2).2⟩⟩
  · rw [wS_o (by omega), hD _ (by omega)]
    exact (f.2 _ _ (by omega) (by omega) (by omega)).1.trans (c z h1 j h2)
  · by_cases q : k = ne
    · subst q
      exact ⟨er.row (fun j h1 h2 => wS_o (by omega)), by rw [Nat.add_zero, wS_e]⟩
    · refine ⟨(((d k (by omega)).1.cg (fun cc j q1 q2 => (f.2 _ _ (by omega) (by omega) (by omega)).1) (fun s => (f.2 _ s (by omega) (by omega) (by omega)).2))).row (fun j h1 h2 => ?_), ?_⟩
      · rw [wS_o (by omega), hD _ (by omega)]
      · rw [wS_o (by omega), hD _ (by omega)]; exact (d k (by omega)).2
end
