/-! THE LAW, 6: e_GI at the law's start. -/
section
theorem e_init {s : State} {b : Nat} (hts : ∀ w ∈ lw_tbl, w.before #[Value.ref b] s = true) (hgv : (Cond.and given_1 narrow_1).before #[Value.ref b] s = true) : ∃ g : EG, e_GI g s ∧ gZ g = s.heap.size ∧ gS g 16 = b ∧ e_NC s := by
  have hq := flat_of_before _ hgv
  have hA : ∀ a : Nat, a < s.heap.size → ¬ (fun q : Nat => s.heap.size ≤ q) a := fun a h => Nat.not_le.mpr h
  have hk0 : ∀ ci : Nat, ∃ q : ClassId × (Nat → Nat), ci < 11 → u_Kn s (e_cR ci) (e_cF ci) (e_cN ci) q.1 q.2 := by
    intro ci
    by_cases h : ci < 11
    · obtain ⟨c, iS, hK⟩ := u_known (C := e_cR ci) (T := e_cF ci) (N := e_cN ci) (n := e_cN ci) hts (uwA ci h) (hts _ (wI ci h))
      exact ⟨(c, iS), fun _ => hK⟩
    · obtain ⟨c, iS, hK⟩ := u_known (C := e_cR 0) (T := e_cF 0) (N := e_cN 0) (n := e_cN 0) hts (uwA 0 (by decide)) (hts _ (wI 0 (by decide)))
      exact ⟨(c, iS), fun h9 => absurd h9 h⟩
  obtain ⟨D, hD⟩ := Classical.axiomOfChoice hk0
  have ha0 : ∀ k : Nat, ∃ cA : ClassId, ∀ ty, e_tyk[k]? = some ty → ArrOfT s cA ty ∧ va_RA s cA ty := by
    intro k
    match k with
    | 0 => obtain ⟨c, h⟩ := arr_p (ty := .int) (hts _ wA.1) (fun _ h => h); exact ⟨c, fun ty h9 => by cases h9; exact h⟩
    | 1 => obtain ⟨c, h⟩ := arr_p (ty := .byte) (hts _ wA.2.1) (fun _ h => h); exact ⟨c, fun ty h9 => by cases h9; exact h⟩
    | 2 => obtain ⟨c, h⟩ := arr_p (ty := .boolean) (hts _ wA.2.2.1) (fun _ h => h); exact ⟨c, fun ty h9 => by cases h9; exact h⟩
    | 3 => obtain ⟨c, h⟩ := arr_p (ty := .long) (hts _ wA.2.2.2.1) (fun _ h => h); exact ⟨c, fun ty h9 => by cases h9; exact h⟩
    | 4 => obtain ⟨c, h⟩ := arr_p (ty := .double) (hts _ wA.2.2.2.2) (fun _ h => h); exact ⟨c, fun ty h9 => by cases h9; exact h⟩
    | 5 => obtain ⟨c, h⟩ := arr_o (C := RX9) (hts _ (wO RX9 (by decide))); exact ⟨c, fun ty h9 => by cases h9; exact h⟩
    | 6 => obtain ⟨c, h⟩ := arr_o (C := RX2) (hts _ (wO RX2 (by decide))); exact ⟨c, fun ty h9 => by cases h9; exact h⟩
    | 7 => obtain ⟨c, h⟩ := arr_o (C := RX3) (hts _ (wO RX3 (by decide))); exact ⟨c, fun ty h9 => by cases h9; exact h⟩
    | 8 => obtain ⟨c, h⟩ := arr_o (C := RX7) (hts _ (wO RX7 (by decide))); exact ⟨c, fun ty h9 => by cases h9; exact h⟩
    | k + 9 => obtain ⟨c, h⟩ := arr_p (ty := .int) (hts _ wA.1) (fun _ h => h); exact ⟨c, fun ty h9 => by simp [e_tyk] at h9⟩
  obtain ⟨A9, hA9⟩ := Classical.axiomOfChoice ha0
  obtain ⟨tm, t1, t2⟩ := va_Tof (tm := .static "CalendarSync$Days" "MONTH_START" "[I") (ty := .int) (N := 13) (f := fun j => .int (e_month j)) (A := fun q : Nat => s.heap.size ≤ q) (by decide) (hq _ nM.1) (va_eqt (hq _ nM.2.1)) (fun j hj => va_eqt (hq _ (nM.2.2 j hj))) hA
  obtain ⟨aK, aV, hSt, hEv⟩ := vk_Sof (N := 16) (tm := e_tm) (len := e_len) (byt := e_byt) (A := fun q : Nat => s.heap.size ≤ q) (fun i h => e_lens i h) (fun i h => hq _ (nT1 i h).1) (fun i h => hq _ (nT1 i h).2.1) (fun i h => hq _ (nT1 i h).2.2.1) (fun i h => hq _ (nT1 i h).2.2.2) (fun i h j hj => hq _ (nT2 i h j hj)) (fun i j hi hj hn => (nT3 i hi j hj hn).imp (hq _) (hq _)) hA
  have hS2 : vk_S 16 e_len e_byt (fun k => if k = 16 then b else aK k) aV (fun q : Nat => s.heap.size ≤ q) s s.heap := by
    refine ⟨fun i hi => ?_, fun i j hi hj e => hSt.2 i j hi hj ?_⟩
    · have := hSt.1 i hi
      simpa [show i ≠ 16 by omega] using this
    · simpa [show i ≠ 16 by omega, show j ≠ 16 by omega] using e
  refine ⟨((fun k => (D k).1, fun k => (D k).2), (A9, (s.heap.size, (tm, (fun k => if k = 16 then b else aK k, aV))))), ⟨⟨?_, ?_⟩, fun w hw => word_at (State.WarmedH.refl s) (good_of_word (List.mem_filter.mp hw).2) (hts w (List.mem_filter.mp hw).1), fun w hw => ?_, fun w hw => ?_, Nat.le_refl _, vx_Zqof (hts _ wL.1.1) (hts _ wL.2.1) (hq _ nS.1) hA, vx_Zqof (hts _ wL.1.2.1) (hts _ wL.2.1) (hq _ nS.2.1) hA, va_Zof (hts _ wL.1.2.2.2.2) (hts _ wL.2.2.2.2) t1 hA, t2, fun k x hx => ?_, hS2, fun w hw => ?_, fun C hC => va_AO.of (hts _ (wO C hC)), va_Zof (hts _ wL.1.2.2.1) (hts _ wL.2.2.1) (va_eqt (hq _ nS.2.2.1)) hA, (vx_Zqof (hts _ wL.1.2.2.2.1) (hts _ wL.2.2.2.1) (hq _ nS.2.2.2) hA).1⟩, rfl, (show (if (16 : Nat) = 16 then b else aK 16) = b from if_pos rfl), fun q h => va_Nc.of (hq _ (nN q h))⟩
  · intro c q h
    match c, h with
    | 0, h => cases h; exact hD 0 (by decide)
    | 1, h => cases h; exact hD 1 (by decide)
    | 2, h => cases h; exact hD 2 (by decide)
    | 3, h => cases h; exact hD 3 (by decide)
    | 4, h => cases h; exact hD 4 (by decide)
    | 5, h => cases h; exact hD 5 (by decide)
    | 6, h => cases h; exact hD 6 (by decide)
    | 7, h => cases h; exact hD 7 (by decide)
    | 8, h => cases h; exact hD 8 (by decide)
    | 9, h => cases h; exact hD 9 (by decide)
    | 10, h => cases h; exact hD 10 (by decide)
    | k + 11, h => simp at h
  · intro k q h
    match k, h with
    | 0, h => cases h; exact hA9 0 _ rfl
    | 1, h => cases h; exact hA9 1 _ rfl
    | 2, h => cases h; exact hA9 2 _ rfl
    | 3, h => cases h; exact hA9 3 _ rfl
    | 4, h => cases h; exact hA9 4 _ rfl
    | 5, h => cases h; exact hA9 5 _ rfl
    | 6, h => cases h; exact hA9 6 _ rfl
    | 7, h => cases h; exact hA9 7 _ rfl
    | 8, h => cases h; exact hA9 8 _ rfl
    | k + 9, h => simp at h
  · have hn := (List.mem_filter.mp hw).2
    cases w <;> first | (cases hn; done) | exact va_Nw.of rfl (hts _ (List.mem_filter.mp hw).1)
  · have hn := (List.mem_filter.mp hw).2
    cases w <;> first | (cases hn; done) | exact va_Nw.of rfl (hts _ (List.mem_filter.mp hw).1)
  · have hk : k < 16 := (List.getElem?_eq_some_iff.mp hx).1
    have e1 : e_txt.getD k ("", 0, "") = x := by rw [List.getD_eq_getElem?_getD, hx]; rfl
    have h1 := hts _ (nT4 k hk)
    have h2 := hEv k hk
    unfold e_tm at h2
    rw [e1] at h1 h2
    show vk_R x.1 x.2.1 x.2.2 (if k = 16 then b else aK k) s
    rw [if_neg (by omega)]
    exact vk_R.of h1 h2
  · have hn := (List.mem_filter.mp hw).2
    cases w <;> first | (cases hn; done) | exact va_Nw.of rfl (hts _ (List.mem_filter.mp hw).1)
end
