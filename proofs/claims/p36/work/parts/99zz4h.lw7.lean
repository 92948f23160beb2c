/-! THE LAW, 7: the calendar that was typed is read. -/
section
variable {B : Nat → Nat} {n : Nat}
abbrev w_zone : List Nat := [122, 111, 110, 101]
abbrev w_summer : List Nat := [115, 117, 109, 109, 101, 114]
abbrev w_event : List Nat := [101, 118, 101, 110, 116]
abbrev w_every : List Nat := [101, 118, 101, 114, 121]
abbrev w_days : List Nat := [100, 97, 121, 115]
abbrev w_weeks : List Nat := [119, 101, 101, 107, 115]
abbrev w_months : List Nat := [109, 111, 110, 116, 104, 115]
abbrev w_times : List Nat := [116, 105, 109, 101, 115]
theorem w_hash : hH w_zone 4 = 867781 ∧ hH w_summer 6 = 659993778 ∧ hH w_event 5 = 5969364 ∧ hH w_every 5 = 5969497 ∧ hH w_days 4 = 132915 ∧ hH w_weeks 5 = 24286579 ∧ hH w_months 6 = 452415763 ∧ hH w_times 5 = 21279923 := by decide +kernel
theorem w_txt : cT 16 = w_zone ++ [32] ∧ cT 18 = [45] ∧ cT 19 = 32 :: (w_summer ++ (32 :: (dgs 80 ++ [32]))) ∧ cT 20 = 59 :: (w_zone ++ (32 :: (dgs 60 ++ (32 :: (w_summer ++ (32 :: (dgs 0 ++ (32 :: (dgs 100 ++ [59])))))))))
    ∧ cT 21 = w_event ++ [32] ∧ cT 29 = 32 :: (w_every ++ [32]) ∧ cT 30 = 32 :: (w_days ++ (32 :: (w_times ++ [32]))) ∧ cT 31 = 32 :: (w_weeks ++ [32]) ∧ cT 32 = [32] ∧ cT 33 = 32 :: (w_times ++ [32]) ∧ cT 34 = 32 :: (w_months ++ (32 :: (w_times ++ [32]))) := by decide +kernel
theorem noD32 {L : List Nat} : noL isDi (32 :: L) := Or.inr ⟨32, L, rfl, rfl⟩
theorem noD59 {L : List Nat} : noL isDi (59 :: L) := Or.inr ⟨59, L, rfl, rfl⟩
theorem noL32 {L : List Nat} : noL isLe (32 :: L) := Or.inr ⟨32, L, rfl, rfl⟩
theorem tS_d {p v : Nat} {L : List Nat} (hv : v < 10000) (h : SF B n p (dgs v ++ L)) (hL : noL isDi L) : tS B n p = p := (D_tok hv h hL).2.2.2.2.2.2
/-- a number behind a blank -/
theorem pN_sp {p v lo hi : Nat} {L : List Nat} (hv : v < 10000) (h : SF B n p (32 :: (dgs v ++ L))) (hL : noL isDi L) (h1 : lo ≤ v) (h2 : v ≤ hi) (h3 : hi < 2 ^ 31) : pN B n (nI lo) (nI hi) (tS B n p) = .inr (v, tS B n (p + 1 + (dgs v).length)) ∧ SF B n (p + 1 + (dgs v).length) L := by
  have h' := h.hd.2.2
  rw [tS_32 h, tS_d hv h' hL]
  exact ⟨pN_ok hv h' hL h1 h2 h3, h'.app⟩
/-- a word behind a blank -/
theorem W_b {p a : Nat} {w L : List Nat} (h : SF B n p (32 :: ((a :: w) ++ L))) (hw : ∀ c ∈ a :: w, isLe c = true) (hl : (a :: w).length ≤ 8) (hL : noL isLe L) : tH B n (tS B n p) = hH (a :: w) (a :: w).length ∧ nx B n (tS B n p) = tS B n (p + 1 + (a :: w).length) ∧ SF B n (p + 1 + (a :: w).length) L := by
  have h' := h.hd.2.2
  have h'' : SF B n (p + 1) (a :: (w ++ L)) := h'
  have ha := hw a List.mem_cons_self
  have hs : tS B n (p + 1) = p + 1 := tS_c h'' (by
    unfold isLe at ha
    rw [Bool.and_eq_true, Nat.ble_eq, Nat.ble_eq] at ha
    unfold isBl
    rw [Bool.or_eq_false_iff]
    exact ⟨by rw [beq_eq_false_iff_ne]; omega, by rw [beq_eq_false_iff_ne]; omega⟩)
  rw [tS_32 h, hs]
  obtain ⟨q1, q2, q3, -⟩ := W_tok h' hw hl hL
  exact ⟨q1, q2, q3⟩
theorem lW {w : List Nat} (h : w.all isLe = true) : ∀ c ∈ w, isLe c = true := List.all_eq_true.mp h
/-- the end of a statement -/
theorem E_tok {p : Nat} {L : List Nat} (h : SF B n p (59 :: L)) : tS B n p = p ∧ tH B n p = 0 ∧ tIs B n p 59 = true ∧ nx B n p = tS B n (p + 1) ∧ SF B n (p + 1) L := by
  obtain ⟨q1, q2, q3, q4, q5⟩ := S_tok h rfl rfl
  exact ⟨tS_c h rfl, q5, q3, q1, q2⟩
/-- summer's bounds, or none -/
def SmT (sm : List Nat) : Prop := sm = [] ∨ ∃ u w, u ≤ w ∧ w ≤ 364 ∧ sm = 32 :: (w_summer ++ (32 :: (dgs u ++ (32 :: dgs w))))
theorem pZn_1 {p s : Nat} {sg sm L : List Nat} (hsg : sg = [] ∨ sg = [45]) (hs : s ≤ 720) (hsm : SmT sm) (h : SF B n p (32 :: (sg ++ (dgs s ++ (sm ++ (59 :: L)))))) : ∃ a p', pZn B n (tS B n p) = .inr (a, tS B n p') ∧ SF B n p' (59 :: L) := by
  have hno : noL isDi (sm ++ (59 :: L)) := by
    rcases hsm with rfl | ⟨u, w, -, -, rfl⟩
    · exact noD59
    · exact noD32
  obtain ⟨b, q, hq, hb, he⟩ : ∃ b q, SF B n q (dgs s ++ (sm ++ (59 :: L))) ∧ tIs B n (tS B n p) 45 = b ∧ (if tIs B n (tS B n p) 45 = true then nx B n (tS B n p) else tS B n p) = tS B n q := by
    rcases hsg with rfl | rfl
    · have h' := h.hd.2.2
      have h'' : SF B n (p + 1) (dgs s ++ (sm ++ (59 :: L))) := h'
      obtain ⟨-, -, -, -, d5, -, d7⟩ := D_tok (by omega) h'' hno
      refine ⟨false, p + 1, h'', ?_, ?_⟩
      · rw [tS_32 h, d7]; exact d5 45 rfl
      · rw [tS_32 h, d7, d5 45 rfl, if_neg (by decide)]
    · have h' := h.hd.2.2
      have h'' : SF B n (p + 1) (45 :: (dgs s ++ (sm ++ (59 :: L)))) := h'
      obtain ⟨q1, q2, q3, -⟩ := S_tok h'' rfl rfl
      have hs2 : tS B n p = p + 1 := (tS_32 h).trans (tS_c h'' rfl)
      refine ⟨true, p + 1 + 1, q2, ?_, ?_⟩
      · rw [hs2]; exact q3
      · rw [hs2, q3, if_pos rfl]; exact q1
  have hpn : pN B n 0 720 (tS B n q) = .inr (s, tS B n (q + (dgs s).length)) := by
    rw [tS_d (by omega) hq hno]
    exact pN_ok (lo := 0) (hi := 720) (by omega) hq hno (by omega) hs (by decide)
  have h1 := hq.app
  unfold pZn
  rw [he, hpn]
  dsimp only
  rcases hsm with rfl | ⟨u, w, hu, hw, rfl⟩
  · have h1' : SF B n (q + (dgs s).length) (59 :: L) := h1
    obtain ⟨e1, e2, -⟩ := E_tok h1'
    rw [e1, e2, if_neg (by decide)]
    exact ⟨_, _, by rw [e1], h1'⟩
  · have h1' : SF B n (q + (dgs s).length) (32 :: (w_summer ++ (32 :: (dgs u ++ (32 :: (dgs w ++ (59 :: L))))))) := by
      simpa only [List.cons_append, List.append_assoc] using h1
    obtain ⟨a1, a2, a3⟩ := W_b h1' (lW (by decide)) (by decide) noL32
    rw [a1.trans w_hash.2.1, if_pos rfl, a2]
    obtain ⟨b1, b2⟩ := pN_sp (lo := 0) (hi := 364) (by omega) a3 noD32 (by omega) (by omega) (by decide)
    rw [show (0 : Int32) = nI 0 from rfl, show (364 : Int32) = nI 364 from rfl, b1]
    dsimp only
    obtain ⟨c1, c2⟩ := pN_sp (lo := u) (hi := 364) (by omega) b2 noD59 hu hw (by decide)
    rw [c1]
    exact ⟨_, _, rfl, c2⟩
theorem pWd_k {f t : Nat} {w : Int32} : pWd B n (f + 1) w t = if wdN B n t = 7 then Sum.inr (w, t) else if e_bit w (nI (wdN B n t)) then Sum.inl (3, t) else pWd B n f (w ||| (1 <<< (nI (wdN B n t) &&& 31))) (nx B n t) := rfl
theorem pCal_k {f nz ne t : Nat} {D : Nat → Int32} : pCal B n (f + 1) D nz ne t = (if t < n then
      (match pSt B n D nz ne t with
      | Sum.inl e => (Sum.inl e : (Nat × Nat) ⊕ (((Nat → Int32) × Nat × Nat) × Nat))
      | Sum.inr (d, t') => if tIs B n t' 59 = true then pCal B n f d.1 d.2.1 d.2.2 (nx B n t') else Sum.inl (1, t'))
    else Sum.inr ((D, nz, ne), t)) := rfl
theorem pCal_go {f nz ne t t' : Nat} {D : Nat → Int32} {d : (Nat → Int32) × Nat × Nat} (ht : t < n) (hs : pSt B n D nz ne t = .inr (d, t')) (h59 : tIs B n t' 59 = true) : pCal B n (f + 1) D nz ne t = pCal B n f d.1 d.2.1 d.2.2 (nx B n t') := by
  rw [pCal_k, if_pos ht, hs]
  dsimp only
  rw [if_pos h59]
theorem wl_a : ∀ d, d < 7 → cT (22 + d) = [(cT (22 + d)).getD 0 0, (cT (22 + d)).getD 1 0] ∧ (cT (22 + d)).all isLe = true := by decide +kernel
theorem wl_h : ∀ d, d < 7 → hH (cT (22 + d)) 2 = [431, 661, 741, 648, 210, 609, 629].getD d 0 := by decide +kernel
theorem wdN_v {t d : Nat} (hd : d < 7) (h : tH B n t = hH (cT (22 + d)) 2) : wdN B n t = d := by
  unfold wdN
  rw [h, wl_h d hd]
  rcases (by omega : d = 0 ∨ d = 1 ∨ d = 2 ∨ d = 3 ∨ d = 4 ∨ d = 5 ∨ d = 6) with rfl | rfl | rfl | rfl | rfl | rfl | rfl <;> rfl
theorem wdN_7 {t : Nat} (h : tH B n t = 21279923) : wdN B n t = 7 := by
  unfold wdN
  rw [h]
  rfl
/-- a weekday behind a blank -/
theorem Wd_b {p d : Nat} {L : List Nat} (hd : d < 7) (h : SF B n p (32 :: (cT (22 + d) ++ L))) (hL : noL isLe L) : wdN B n (tS B n p) = d ∧ nx B n (tS B n p) = tS B n (p + 3) ∧ SF B n (p + 3) L := by
  obtain ⟨h1, h2⟩ := wl_a d hd
  generalize hx : (cT (22 + d)).getD 0 0 = x at h1
  generalize hy : (cT (22 + d)).getD 1 0 = y at h1
  rw [h1] at h h2
  obtain ⟨a1, a2, a3⟩ := W_b (a := x) (w := [y]) h (lW h2) (show 2 ≤ 8 by decide) hL
  refine ⟨wdN_v hd ?_, a2, a3⟩
  rw [h1]; exact a1
theorem wd_bits : ∀ d, d < 6 → ¬ e_bit 0 (nI d) ∧ ¬ e_bit ((0 : Int32) ||| ((1 : Int32) <<< (nI d &&& 31))) (nI (d + 1)) := by decide +kernel
theorem times_1 {p y : Nat} {L : List Nat} (hy : 1 ≤ y ∧ y ≤ 30) (h : SF B n p (32 :: (w_times ++ (32 :: (dgs y ++ (59 :: L)))))) : ∃ p', tH B n (tS B n p) = 21279923 ∧ pN B n 1 30 (nx B n (tS B n p)) = .inr (y, tS B n p') ∧ SF B n p' (59 :: L) := by
  obtain ⟨a1, a2, a3⟩ := W_b h (lW (by decide)) (by decide) noL32
  obtain ⟨b1, b2⟩ := pN_sp (lo := 1) (hi := 30) (by omega) a3 noD59 hy.1 hy.2 (by decide)
  exact ⟨_, a1.trans w_hash.2.2.2.2.2.2.2, by rw [a2]; exact b1, b2⟩
theorem pRu_1 {p v y u : Nat} {U L : List Nat} (hv : 1 ≤ v ∧ v ≤ 9) (hy : 1 ≤ y ∧ y ≤ 30) (hU : (U = w_days ∧ u = 1) ∨ (U = w_months ∧ u = 3)) (h : SF B n p (32 :: (dgs v ++ (32 :: (U ++ (32 :: (w_times ++ (32 :: (dgs y ++ (59 :: L)))))))))) : ∃ r p', pRu B n (tS B n p) = .inr (r, tS B n p') ∧ SF B n p' (59 :: L) := by
  obtain ⟨a1, a2⟩ := pN_sp (lo := 1) (hi := 9) (by omega) h noD32 hv.1 hv.2 (by decide)
  have hu : ∃ q, unN B n (tS B n (p + 1 + (dgs v).length)) = u ∧ nx B n (tS B n (p + 1 + (dgs v).length)) = tS B n q ∧ SF B n q (32 :: (w_times ++ (32 :: (dgs y ++ (59 :: L))))) := by
    rcases hU with ⟨rfl, rfl⟩ | ⟨rfl, rfl⟩
    · obtain ⟨b1, b2, b3⟩ := W_b a2 (lW (by decide)) (by decide) noL32
      refine ⟨_, ?_, b2, b3⟩
      unfold unN
      rw [b1]
      rfl
    · obtain ⟨b1, b2, b3⟩ := W_b a2 (lW (by decide)) (by decide) noL32
      refine ⟨_, ?_, b2, b3⟩
      unfold unN
      rw [b1]
      rfl
  obtain ⟨q, c1, c2, c3⟩ := hu
  obtain ⟨p', d1, d2, d3⟩ := times_1 hy c3
  unfold pRu
  rw [show (1 : Int32) = nI 1 from rfl, show (9 : Int32) = nI 9 from rfl, a1]
  dsimp only
  rw [c1, c2, if_neg (by omega), if_neg (by omega)]
  dsimp only
  rw [d1, if_pos rfl]
  have d2' : pN B n (nI 1) 30 (nx B n (tS B n q)) = .inr (y, tS B n p') := d2
  rw [d2']
  exact ⟨_, p', rfl, d3⟩
theorem pRu_2 {p v y d : Nat} {W L : List Nat} (hv : 1 ≤ v ∧ v ≤ 9) (hy : 1 ≤ y ∧ y ≤ 30) (hd : d < 6) (hW : W = [] ∨ W = 32 :: cT (22 + (d + 1))) (h : SF B n p (32 :: (dgs v ++ (32 :: (w_weeks ++ (32 :: (cT (22 + d) ++ (W ++ (32 :: (w_times ++ (32 :: (dgs y ++ (59 :: L)))))))))))) ) : ∃ r p', pRu B n (tS B n p) = .inr (r, tS B n p') ∧ SF B n p' (59 :: L) := by
  obtain ⟨a1, a2⟩ := pN_sp (lo := 1) (hi := 9) (by omega) h noD32 hv.1 hv.2 (by decide)
  obtain ⟨b1, b2, b3⟩ := W_b a2 (lW (by decide)) (by decide) noL32
  have hu : unN B n (tS B n (p + 1 + (dgs v).length)) = 2 := by
    unfold unN
    rw [b1]
    rfl
  have hnl : noL isLe (W ++ (32 :: (w_times ++ (32 :: (dgs y ++ (59 :: L)))))) := by
    rcases hW with rfl | rfl
    · exact noL32
    · exact noL32
  obtain ⟨c1, c2, c3⟩ := Wd_b (d := d) (by omega) b3 hnl
  obtain ⟨bt1, bt2⟩ := wd_bits d hd
  obtain ⟨w, q, hw, hq⟩ : ∃ w q, pWk B n (tS B n (p + 1 + (dgs v).length + 1 + w_weeks.length)) = .inr (w, tS B n q) ∧ SF B n q (32 :: (w_times ++ (32 :: (dgs y ++ (59 :: L))))) := by
    unfold pWk
    rw [c1, if_neg (by omega)]
    rw [show n + 8 = (n + 7) + 1 from rfl]
    rw [pWd_k, c1, c2, if_neg (by omega), if_neg bt1, show n + 7 = (n + 6) + 1 from rfl]
    rcases hW with rfl | rfl
    · have c3' : SF B n (p + 1 + (dgs v).length + 1 + w_weeks.length + 3) (32 :: (w_times ++ (32 :: (dgs y ++ (59 :: L))))) := c3
      obtain ⟨p', t1, -, -⟩ := times_1 hy c3'
      refine ⟨(0 : Int32) ||| ((1 : Int32) <<< (nI d &&& 31)), _, ?_, c3'⟩
      rw [pWd_k, if_pos (wdN_7 t1)]
    · have c3' : SF B n (p + 1 + (dgs v).length + 1 + w_weeks.length + 3) (32 :: (cT (22 + (d + 1)) ++ (32 :: (w_times ++ (32 :: (dgs y ++ (59 :: L))))))) := c3
      obtain ⟨e1, e2, e3⟩ := Wd_b (d := d + 1) (by omega) c3' noL32
      obtain ⟨p', t1, -, -⟩ := times_1 hy e3
      refine ⟨((0 : Int32) ||| ((1 : Int32) <<< (nI d &&& 31))) ||| ((1 : Int32) <<< (nI (d + 1) &&& 31)), _, ?_, e3⟩
      rw [pWd_k, e1, if_neg (by omega), if_neg bt2, e2, show n + 6 = (n + 5) + 1 from rfl, pWd_k, if_pos (wdN_7 t1)]
  obtain ⟨p', d1, d2, d3⟩ := times_1 hy hq
  unfold pRu
  rw [show (1 : Int32) = nI 1 from rfl, show (9 : Int32) = nI 9 from rfl, a1]
  dsimp only
  rw [hu, b2, if_neg (by decide), if_pos rfl, hw]
  dsimp only
  rw [d1, if_pos rfl]
  have d2' : pN B n (nI 1) 30 (nx B n (tS B n q)) = .inr (y, tS B n p') := d2
  rw [d2']
  exact ⟨_, p', rfl, d3⟩
/-- a rule behind an event, or none -/
theorem pER_1 {p a : Nat} {R L : List Nat} {D : Nat → Int32} (hR : RuleT R) (h : SF B n p (R ++ (59 :: L))) : ∃ D' p', pER B n a D (tS B n p) = .inr (D', tS B n p') ∧ SF B n p' (59 :: L) ∧ ∀ j, (j < a + 5 ∨ a + 8 < j) → D' j = D j := by
  have fin : ∀ (X : List Nat), SF B n p (32 :: (w_every ++ X)) → noL isLe X → (∀ q, SF B n q X → ∃ r p', pRu B n (tS B n q) = .inr (r, tS B n p') ∧ SF B n p' (59 :: L)) → ∃ D' p', pER B n a D (tS B n p) = .inr (D', tS B n p') ∧ SF B n p' (59 :: L) ∧ ∀ j, (j < a + 5 ∨ a + 8 < j) → D' j = D j := by
    intro X h1 hX h2
    obtain ⟨a1, a2, a3⟩ := W_b h1 (lW (by decide)) (by decide) hX
    obtain ⟨r, p', r1, r2⟩ := h2 _ a3
    unfold pER
    rw [a1.trans w_hash.2.2.2.1, if_pos rfl, a2, r1]
    refine ⟨_, p', rfl, r2, fun j hj => ?_⟩
    unfold dRu
    rw [wS_o (by omega), wS_o (by omega), wS_o (by omega), wS_o (by omega)]
  obtain ⟨-, -, -, -, -, x29, x30, x31, x32, x33, x34⟩ := w_txt
  rcases hR with rfl | ⟨v, y, hv, hy, rfl⟩ | ⟨v, y, d, hv, hy, hd, rfl | rfl⟩ | ⟨v, y, hv, hy, rfl⟩
  · have h' : SF B n p (59 :: L) := h
    obtain ⟨e1, e2, -⟩ := E_tok h'
    unfold pER
    rw [e1, e2, if_neg (by decide)]
    exact ⟨D, p, by rw [e1], h', fun _ _ => rfl⟩
  · rw [x29, x30] at h
    simp only [List.nil_append, List.cons_append, List.append_assoc] at h
    exact fin _ h noL32 (fun q hq => pRu_1 (U := w_days) ⟨hv.1, hv.2⟩ ⟨hy.1, by omega⟩ (Or.inl ⟨rfl, rfl⟩) hq)
  · rw [x29, x31, x33, cT17] at h
    simp only [List.nil_append, List.cons_append, List.append_assoc] at h
    exact fin _ h noL32 (fun q hq => pRu_2 (W := []) ⟨hv.1, by omega⟩ ⟨hy.1, by omega⟩ hd (Or.inl rfl) hq)
  · rw [x29, x31, x32, x33] at h
    simp only [List.nil_append, List.cons_append, List.append_assoc] at h
    exact fin _ h noL32 (fun q hq => pRu_2 (W := 32 :: cT (22 + (d + 1))) ⟨hv.1, by omega⟩ ⟨hy.1, by omega⟩ hd (Or.inr rfl) hq)
  · rw [x29, x34] at h
    simp only [List.nil_append, List.cons_append, List.append_assoc] at h
    exact fin _ h noL32 (fun q hq => pRu_1 (U := w_months) ⟨hv.1, by omega⟩ ⟨hy.1, by omega⟩ (Or.inr ⟨rfl, rfl⟩) hq)
theorem EvT.fst {E : List Nat} (h : EvT E) (L : List Nat) : ∃ day mi le z R, day < 1095 ∧ mi < 1440 ∧ (1 ≤ le ∧ le ≤ 600) ∧ z < 2 ∧ RuleT R ∧ E ++ L = w_event ++ (32 :: (dgs day ++ (32 :: (dgs mi ++ (32 :: (dgs le ++ (32 :: (dgs z ++ (R ++ (59 :: L)))))))))) := by
  obtain ⟨day, mi, le, z, R, h1, h2, h3, h4, h5, rfl⟩ := h
  refine ⟨day, mi, le, z, R, h1, h2, h3, h4, h5, ?_⟩
  rw [w_txt.2.2.2.2.1]
  simp only [List.nil_append, List.cons_append, List.append_assoc, List.singleton_append]
theorem RuleT.nod {R L : List Nat} (hR : RuleT R) : noL isDi (R ++ (59 :: L)) := by
  have x29 := w_txt.2.2.2.2.2.1
  rcases hR with rfl | ⟨v, y, hv, hy, rfl⟩ | ⟨v, y, d, hv, hy, hd, rfl | rfl⟩ | ⟨v, y, hv, hy, rfl⟩
  · exact noD59
  all_goals
    rw [x29]
    simp only [List.nil_append, List.cons_append, List.append_assoc]
    exact noD32
theorem pEv_d {p a : Nat} {D : Nat → Int32} {day mi le z : Nat} {R L : List Nat} (h1 : day < 1095) (h2 : mi < 1440) (h3 : 1 ≤ le ∧ le ≤ 600) (h4 : z < 2) (hR : RuleT R) (h : SF B n p (32 :: (dgs day ++ (32 :: (dgs mi ++ (32 :: (dgs le ++ (32 :: (dgs z ++ (R ++ (59 :: L))))))))))) : ∃ D' p', pEv B n a 2 D (tS B n p) = .inr (D', tS B n p') ∧ SF B n p' (59 :: L) ∧ ∀ j, (j < a ∨ a + 8 < j) → D' j = D j := by
  obtain ⟨a1, a2⟩ := pN_sp (lo := 0) (hi := 1094) (by omega) h noD32 (by omega) (by omega) (by decide)
  obtain ⟨b1, b2⟩ := pN_sp (lo := 0) (hi := 1439) (by omega) a2 noD32 (by omega) (by omega) (by decide)
  obtain ⟨c1, c2⟩ := pN_sp (lo := 1) (hi := 1440) (by omega) b2 noD32 (by omega) (by omega) (by decide)
  obtain ⟨d1, d2⟩ := pN_sp (lo := 0) (hi := 1) (by omega) c2 hR.nod (by omega) (by omega) (by decide)
  obtain ⟨D2, p2, e1, e2, e3⟩ := pER_1 (a := a) (D := dE1 D a day mi le z) hR d2
  obtain ⟨f1, f2, -⟩ := E_tok e2
  have a1' : pN B n 0 1094 (tS B n p) = _ := a1
  have b1' : pN B n 0 1439 (tS B n (p + 1 + (dgs day).length)) = _ := b1
  have c1' : pN B n 1 1440 (tS B n (p + 1 + (dgs day).length + 1 + (dgs mi).length)) = _ := c1
  have d1' : pN B n 0 (nI 2 - 1) (tS B n (p + 1 + (dgs day).length + 1 + (dgs mi).length + 1 + (dgs le).length)) = _ := d1
  unfold pEv
  rw [a1']
  dsimp only
  rw [b1']
  dsimp only
  rw [c1']
  dsimp only
  rw [d1']
  dsimp only
  rw [e1]
  dsimp only
  have g1 : pEx B n a (rDt (fun j => D2 (a + j))).length (n + 1) D2 (tS B n p2) = .inr (D2, tS B n p2) := by
    show (if tH B n (tS B n p2) = 14836 then _ else if tH B n (tS B n p2) = 442053 then _ else Sum.inr (D2, tS B n p2)) = _
    rw [f1, f2, if_neg (by decide), if_neg (by decide)]
  rw [g1]
  refine ⟨_, p2, rfl, e2, fun j hj => ?_⟩
  rw [wS_o (by omega), e3 j (by omega)]
  unfold dE1
  rw [wS_o (by omega), wS_o (by omega), wS_o (by omega), wS_o (by omega), wS_o (by omega), wS_o (by omega), wS_o (by omega)]
/-- the events, the first one first -/
def EvsF : Nat → List Nat → Prop
  | 0, E => E = []
  | k + 1, E => ∃ E1 E2, EvT E1 ∧ EvsF k E2 ∧ E = E1 ++ E2
theorem EvsF.snoc : ∀ {k : Nat} {E X : List Nat}, EvsF k E → EvT X → EvsF (k + 1) (E ++ X)
  | 0, _, X, h, hX => ⟨X, [], hX, rfl, by rw [show _ = [] from h]; simp⟩
  | _ + 1, _, X, ⟨E1, E2, h1, h2, h3⟩, hX => ⟨E1, E2 ++ X, h1, h2.snoc hX, by rw [h3, List.append_assoc]⟩
theorem EvsT.fst : ∀ {k : Nat} {E : List Nat}, EvsT k E → EvsF k E
  | 0, _, h => h
  | _ + 1, _, ⟨E1, E2, h1, h2, h3⟩ => by rw [h3]; exact (EvsT.fst h1).snoc h2
theorem pCal_ev : ∀ k f D ne p E, EvsF k E → k < f → ne + k ≤ 8 → SF B n p E → ∃ D' t', pCal B n f D 2 ne (tS B n p) = .inr ((D', 2, ne + k), t') ∧ ∀ j, (j < 12 + 136 * ne ∨ ∃ e, e < 8 ∧ 12 + 136 * e + 8 < j ∧ j < 12 + 136 * (e + 1)) → D' j = D j := by
  intro k
  induction k with
  | zero =>
    intro f D ne p E hE hf hne h
    obtain rfl : E = [] := hE
    obtain ⟨f', rfl⟩ : ∃ f', f = f' + 1 := ⟨f - 1, by omega⟩
    refine ⟨D, tS B n p, ?_, fun _ _ => rfl⟩
    rw [tS_e h, pCal_k, if_neg (by have := h.nil; omega)]
    rfl
  | succ k ih =>
    intro f D ne p E hE hf hne h
    obtain ⟨E1, E2, h1, h2, rfl⟩ := hE
    obtain ⟨f', rfl⟩ : ∃ f', f = f' + 1 := ⟨f - 1, by omega⟩
    obtain ⟨day, mi, le, z, R, g1, g2, g3, g4, g5, ge⟩ := h1.fst E2
    rw [ge] at h
    have hs : tS B n p = p := tS_c (c := 101) h rfl
    have hp : p < n := SF.hd (c := 101) h |>.1
    obtain ⟨a1, a2, a3, -⟩ := W_tok (a := 101) h (lW (by decide)) (by decide) noL32
    obtain ⟨D1, p1, b1, b2, b3⟩ := pEv_d (a := 12 + 136 * ne) (D := D) g1 g2 g3 g4 g5 a3
    obtain ⟨e1, e2, e3, e4, e5⟩ := E_tok b2
    have hst : pSt B n D 2 ne p = .inr ((D1, 2, ne + 1), p1) := by
      unfold pSt
      rw [a1.trans w_hash.2.2.1, if_neg (by decide), if_pos rfl, if_neg (by omega), a2, b1, e1]
    obtain ⟨D', t', c1, c2⟩ := ih f' D1 (ne + 1) (p1 + 1) E2 h2 (by omega) (by omega) e5
    refine ⟨D', t', ?_, fun j hj => ?_⟩
    · rw [hs, pCal_go hp hst e3]
      dsimp only
      rw [e4, c1, show ne + 1 + k = ne + (k + 1) by omega]
    · rw [c2 j (by rcases hj with hj | hj; exact Or.inl (by omega); exact Or.inr hj)]
      refine b3 j ?_
      rcases hj with hj | ⟨e, he, h8, h9⟩
      · exact Or.inl (by omega)
      · by_cases hh : e < ne
        · exact Or.inl (by omega)
        · exact Or.inr (by omega)
end
