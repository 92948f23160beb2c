/-! THE LAW, 12 (by program): its calls under handlers. -/
section
variable {l : Launch} {g : EG}
theorem e_aftH_x {τ : SG} {hd : String → Option Nat} {J : Nat → EK} {nx : EK} {ls : List (Option EV)} {r : List EV} {nc ns h : Nat} {E : String} {M' : EM} (he : hd E = some h) (hh : ∀ a, J h ls [.inr (.inr (.inr (.inr (399, a))))] M' (nc + gmc τ) (ns + gms τ)) : e_aftH τ hd J nx ls r nc ns (.inr E) M' := by
  show (match hd E with
    | some h => ∀ a, J h ls [.inr (.inr (.inr (.inr (399, a))))] M' (nc + gmc τ) (ns + gms τ)
    | none => False)
  rw [he]
  exact hh
theorem cw_undone (hl0 : l.stackTraces = false) {M : EM} {x : Nat} {v : Int32} {P : EM → Prop} (h : Ct l g sg_X10_undo [lvD x] M (fun o M' => BX (o = .inl (some (.inl v)) ∧ P M'))) : Ct l g sg_L_undone [lvD x] M (fun o M' => BX (o = .inl (some (.inl v)) ∧ P M')) := by
  refine sem_ofH hl0 rfl (by decide +kernel) rfl ok_L_undone rfl (fun K hc hw => e_step rfl hc 80 [] ?_)
  refine Ct.mono h ?_
  rintro o M' ⟨⟨rfl, hP⟩⟩
  exact ⟨by decide, by decide, ⟨⟨rfl, hP⟩⟩⟩
theorem cw_undone0 (hl0 : l.stackTraces = false) {M : EM} {x : Nat} {P : EM → Prop} (h : Ct l g sg_X10_undo [lvD x] M (fun o M' => BX (o = .inr "java/lang/IllegalStateException" ∧ P M'))) : Ct l g sg_L_undone [lvD x] M (fun o M' => BX (o = .inl (some (.inl (-2))) ∧ P M')) := by
  refine sem_ofH hl0 rfl (by decide +kernel) rfl ok_L_undone rfl (fun K hc hw => e_step rfl hc 80 [] ?_)
  refine Ct.mono h ?_
  rintro o M' ⟨⟨rfl, hP⟩⟩
  refine e_aftH_x (h := 5) (show hd_L_undone "java/lang/IllegalStateException" = some 5 by decide +kernel) (fun a => ?_)
  exact ⟨by decide, by decide, ⟨⟨rfl, hP⟩⟩⟩
theorem cw_made (hl0 : l.stackTraces = false) {M : EM} {x : Nat} {v : Int32} {P : EM → Prop} (p0 p1 p2 p3 p4 p5 : Int32) (h : Ct l g sg_X10_create [lvD x, .inl p0, .inl p1, .inl p2, .inl p3, .inl p4, .inl p5] M (fun o M' => BX (o = .inl (some (.inl v)) ∧ P M'))) : Ct l g sg_L_made [lvD x, .inl p0, .inl p1, .inl p2, .inl p3, .inl p4, .inl p5] M (fun o M' => BX (o = .inl (some (.inl v)) ∧ P M')) := by
  refine sem_ofH hl0 rfl (by decide +kernel) rfl ok_L_made rfl (fun K hc hw => e_step rfl hc 80 [] ?_)
  refine Ct.mono h ?_
  rintro o M' ⟨⟨rfl, hP⟩⟩
  exact ⟨by decide, by decide, ⟨⟨rfl, hP⟩⟩⟩
theorem cw_made0 (hl0 : l.stackTraces = false) {M : EM} {x : Nat} {P : EM → Prop} (p0 p1 p2 p3 p4 p5 : Int32) (h : Ct l g sg_X10_create [lvD x, .inl p0, .inl p1, .inl p2, .inl p3, .inl p4, .inl p5] M (fun o M' => BX (o = .inr "java/lang/IllegalStateException" ∧ P M'))) : Ct l g sg_L_made [lvD x, .inl p0, .inl p1, .inl p2, .inl p3, .inl p4, .inl p5] M (fun o M' => BX (o = .inl (some (.inl (-2))) ∧ P M')) := by
  refine sem_ofH hl0 rfl (by decide +kernel) rfl ok_L_made rfl (fun K hc hw => e_step rfl hc 80 [] ?_)
  refine Ct.mono h ?_
  rintro o M' ⟨⟨rfl, hP⟩⟩
  refine e_aftH_x (h := 14) (show hd_L_made "java/lang/IllegalStateException" = some 14 by decide +kernel) (fun a => ?_)
  exact ⟨by decide, by decide, ⟨⟨rfl, hP⟩⟩⟩
theorem cw_repeated (hl0 : l.stackTraces = false) {M : EM} {x : Nat} {v : Int32} {P : EM → Prop} (p0 p1 p2 p3 p4 p5 : Int32) (h : Ct l g sg_X10_repeat [lvD x, .inl p0, .inl p1, .inl p2, .inl p3, .inl p4, .inl p5] M (fun o M' => BX (o = .inl (some (.inl v)) ∧ P M'))) : Ct l g sg_L_repeated [lvD x, .inl p0, .inl p1, .inl p2, .inl p3, .inl p4, .inl p5] M (fun o M' => BX (o = .inl (some (.inl v)) ∧ P M')) := by
  refine sem_ofH hl0 rfl (by decide +kernel) rfl ok_L_repeated rfl (fun K hc hw => e_step rfl hc 80 [] ?_)
  refine Ct.mono h ?_
  rintro o M' ⟨⟨rfl, hP⟩⟩
  exact ⟨by decide, by decide, ⟨⟨rfl, hP⟩⟩⟩
theorem cw_repeated0 (hl0 : l.stackTraces = false) {M : EM} {x : Nat} {P : EM → Prop} (p0 p1 p2 p3 p4 p5 : Int32) (h : Ct l g sg_X10_repeat [lvD x, .inl p0, .inl p1, .inl p2, .inl p3, .inl p4, .inl p5] M (fun o M' => BX (o = .inr "java/util/NoSuchElementException" ∧ P M'))) : Ct l g sg_L_repeated [lvD x, .inl p0, .inl p1, .inl p2, .inl p3, .inl p4, .inl p5] M (fun o M' => BX (o = .inl (some (.inl (-2))) ∧ P M')) := by
  refine sem_ofH hl0 rfl (by decide +kernel) rfl ok_L_repeated rfl (fun K hc hw => e_step rfl hc 80 [] ?_)
  refine Ct.mono h ?_
  rintro o M' ⟨⟨rfl, hP⟩⟩
  refine e_aftH_x (h := 14) (show hd_L_repeated "java/util/NoSuchElementException" = some 14 by decide +kernel) (fun a => ?_)
  exact ⟨by decide, by decide, ⟨⟨rfl, hP⟩⟩⟩
theorem cw_cancelled (hl0 : l.stackTraces = false) {M : EM} {x : Nat} {v : Int32} {P : EM → Prop} (p0 p1 p2 : Int32) (h : Ct l g sg_X10_cancel [lvD x, .inl p0, .inl p1, .inl p2] M (fun o M' => BX (o = .inl (some (.inl v)) ∧ P M'))) : Ct l g sg_L_cancelled [lvD x, .inl p0, .inl p1, .inl p2] M (fun o M' => BX (o = .inl (some (.inl v)) ∧ P M')) := by
  refine sem_ofH hl0 rfl (by decide +kernel) rfl ok_L_cancelled rfl (fun K hc hw => e_step rfl hc 80 [] ?_)
  refine Ct.mono h ?_
  rintro o M' ⟨⟨rfl, hP⟩⟩
  exact ⟨by decide, by decide, ⟨⟨rfl, hP⟩⟩⟩
theorem cw_cancelled0 (hl0 : l.stackTraces = false) {M : EM} {x : Nat} {P : EM → Prop} (p0 p1 p2 : Int32) (h : Ct l g sg_X10_cancel [lvD x, .inl p0, .inl p1, .inl p2] M (fun o M' => BX (o = .inr "java/util/NoSuchElementException" ∧ P M'))) : Ct l g sg_L_cancelled [lvD x, .inl p0, .inl p1, .inl p2] M (fun o M' => BX (o = .inl (some (.inl (-2))) ∧ P M')) := by
  refine sem_ofH hl0 rfl (by decide +kernel) rfl ok_L_cancelled rfl (fun K hc hw => e_step rfl hc 80 [] ?_)
  refine Ct.mono h ?_
  rintro o M' ⟨⟨rfl, hP⟩⟩
  refine e_aftH_x (h := 8) (show hd_L_cancelled "java/util/NoSuchElementException" = some 8 by decide +kernel) (fun a => ?_)
  exact ⟨by decide, by decide, ⟨⟨rfl, hP⟩⟩⟩
theorem cw_cancelled1 (hl0 : l.stackTraces = false) {M : EM} {x : Nat} {P : EM → Prop} (p0 p1 p2 : Int32) (h : Ct l g sg_X10_cancel [lvD x, .inl p0, .inl p1, .inl p2] M (fun o M' => BX (o = .inr "java/lang/IndexOutOfBoundsException" ∧ P M'))) : Ct l g sg_L_cancelled [lvD x, .inl p0, .inl p1, .inl p2] M (fun o M' => BX (o = .inl (some (.inl (-3))) ∧ P M')) := by
  refine sem_ofH hl0 rfl (by decide +kernel) rfl ok_L_cancelled rfl (fun K hc hw => e_step rfl hc 80 [] ?_)
  refine Ct.mono h ?_
  rintro o M' ⟨⟨rfl, hP⟩⟩
  refine e_aftH_x (h := 13) (show hd_L_cancelled "java/lang/IndexOutOfBoundsException" = some 13 by decide +kernel) (fun a => ?_)
  exact ⟨by decide, by decide, ⟨⟨rfl, hP⟩⟩⟩
theorem cw_moved (hl0 : l.stackTraces = false) {M : EM} {x : Nat} {v : Int32} {P : EM → Prop} (p0 p1 p2 p3 p4 : Int32) (h : Ct l g sg_X10_move [lvD x, .inl p0, .inl p1, .inl p2, .inl p3, .inl p4] M (fun o M' => BX (o = .inl (some (.inl v)) ∧ P M'))) : Ct l g sg_L_moved [lvD x, .inl p0, .inl p1, .inl p2, .inl p3, .inl p4] M (fun o M' => BX (o = .inl (some (.inl v)) ∧ P M')) := by
  refine sem_ofH hl0 rfl (by decide +kernel) rfl ok_L_moved rfl (fun K hc hw => e_step rfl hc 80 [] ?_)
  refine Ct.mono h ?_
  rintro o M' ⟨⟨rfl, hP⟩⟩
  exact ⟨by decide, by decide, ⟨⟨rfl, hP⟩⟩⟩
theorem cw_moved0 (hl0 : l.stackTraces = false) {M : EM} {x : Nat} {P : EM → Prop} (p0 p1 p2 p3 p4 : Int32) (h : Ct l g sg_X10_move [lvD x, .inl p0, .inl p1, .inl p2, .inl p3, .inl p4] M (fun o M' => BX (o = .inr "java/util/NoSuchElementException" ∧ P M'))) : Ct l g sg_L_moved [lvD x, .inl p0, .inl p1, .inl p2, .inl p3, .inl p4] M (fun o M' => BX (o = .inl (some (.inl (-2147483648))) ∧ P M')) := by
  refine sem_ofH hl0 rfl (by decide +kernel) rfl ok_L_moved rfl (fun K hc hw => e_step rfl hc 80 [] ?_)
  refine Ct.mono h ?_
  rintro o M' ⟨⟨rfl, hP⟩⟩
  refine e_aftH_x (h := 12) (show hd_L_moved "java/util/NoSuchElementException" = some 12 by decide +kernel) (fun a => ?_)
  exact ⟨by decide, by decide, ⟨⟨rfl, hP⟩⟩⟩
theorem cw_moved1 (hl0 : l.stackTraces = false) {M : EM} {x : Nat} {P : EM → Prop} (p0 p1 p2 p3 p4 : Int32) (h : Ct l g sg_X10_move [lvD x, .inl p0, .inl p1, .inl p2, .inl p3, .inl p4] M (fun o M' => BX (o = .inr "java/lang/IndexOutOfBoundsException" ∧ P M'))) : Ct l g sg_L_moved [lvD x, .inl p0, .inl p1, .inl p2, .inl p3, .inl p4] M (fun o M' => BX (o = .inl (some (.inl (-2147483648))) ∧ P M')) := by
  refine sem_ofH hl0 rfl (by decide +kernel) rfl ok_L_moved rfl (fun K hc hw => e_step rfl hc 80 [] ?_)
  refine Ct.mono h ?_
  rintro o M' ⟨⟨rfl, hP⟩⟩
  refine e_aftH_x (h := 17) (show hd_L_moved "java/lang/IndexOutOfBoundsException" = some 17 by decide +kernel) (fun a => ?_)
  exact ⟨by decide, by decide, ⟨⟨rfl, hP⟩⟩⟩
theorem cw_replied (hl0 : l.stackTraces = false) {M : EM} {x : Nat} {v : Int32} {P : EM → Prop} (p0 p1 p2 p3 : Int32) (h : Ct l g sg_X10_reply [lvD x, .inl p0, .inl p1, .inl p2, .inl p3] M (fun o M' => BX (o = .inl (some (.inl v)) ∧ P M'))) : Ct l g sg_L_replied [lvD x, .inl p0, .inl p1, .inl p2, .inl p3] M (fun o M' => BX (o = .inl (some (.inl v)) ∧ P M')) := by
  refine sem_ofH hl0 rfl (by decide +kernel) rfl ok_L_replied rfl (fun K hc hw => e_step rfl hc 80 [] ?_)
  refine Ct.mono h ?_
  rintro o M' ⟨⟨rfl, hP⟩⟩
  exact ⟨by decide, by decide, ⟨⟨rfl, hP⟩⟩⟩
theorem cw_replied0 (hl0 : l.stackTraces = false) {M : EM} {x : Nat} {P : EM → Prop} (p0 p1 p2 p3 : Int32) (h : Ct l g sg_X10_reply [lvD x, .inl p0, .inl p1, .inl p2, .inl p3] M (fun o M' => BX (o = .inr "java/util/NoSuchElementException" ∧ P M'))) : Ct l g sg_L_replied [lvD x, .inl p0, .inl p1, .inl p2, .inl p3] M (fun o M' => BX (o = .inl (some (.inl (-2))) ∧ P M')) := by
  refine sem_ofH hl0 rfl (by decide +kernel) rfl ok_L_replied rfl (fun K hc hw => e_step rfl hc 80 [] ?_)
  refine Ct.mono h ?_
  rintro o M' ⟨⟨rfl, hP⟩⟩
  refine e_aftH_x (h := 10) (show hd_L_replied "java/util/NoSuchElementException" = some 10 by decide +kernel) (fun a => ?_)
  exact ⟨by decide, by decide, ⟨⟨rfl, hP⟩⟩⟩
theorem cw_replied1 (hl0 : l.stackTraces = false) {M : EM} {x : Nat} {P : EM → Prop} (p0 p1 p2 p3 : Int32) (h : Ct l g sg_X10_reply [lvD x, .inl p0, .inl p1, .inl p2, .inl p3] M (fun o M' => BX (o = .inr "java/lang/IndexOutOfBoundsException" ∧ P M'))) : Ct l g sg_L_replied [lvD x, .inl p0, .inl p1, .inl p2, .inl p3] M (fun o M' => BX (o = .inl (some (.inl (-3))) ∧ P M')) := by
  refine sem_ofH hl0 rfl (by decide +kernel) rfl ok_L_replied rfl (fun K hc hw => e_step rfl hc 80 [] ?_)
  refine Ct.mono h ?_
  rintro o M' ⟨⟨rfl, hP⟩⟩
  refine e_aftH_x (h := 15) (show hd_L_replied "java/lang/IndexOutOfBoundsException" = some 15 by decide +kernel) (fun a => ?_)
  exact ⟨by decide, by decide, ⟨⟨rfl, hP⟩⟩⟩
theorem cw_removed (hl0 : l.stackTraces = false) {M : EM} {x : Nat} {v : Int32} {P : EM → Prop} (p0 p1 : Int32) (h : Ct l g sg_X10_remove [lvD x, .inl p0, .inl p1] M (fun o M' => BX (o = .inl (some (.inl v)) ∧ P M'))) : Ct l g sg_L_removed [lvD x, .inl p0, .inl p1] M (fun o M' => BX (o = .inl (some (.inl v)) ∧ P M')) := by
  refine sem_ofH hl0 rfl (by decide +kernel) rfl ok_L_removed rfl (fun K hc hw => e_step rfl hc 80 [] ?_)
  refine Ct.mono h ?_
  rintro o M' ⟨⟨rfl, hP⟩⟩
  exact ⟨by decide, by decide, ⟨⟨rfl, hP⟩⟩⟩
theorem cw_removed0 (hl0 : l.stackTraces = false) {M : EM} {x : Nat} {P : EM → Prop} (p0 p1 : Int32) (h : Ct l g sg_X10_remove [lvD x, .inl p0, .inl p1] M (fun o M' => BX (o = .inr "java/util/NoSuchElementException" ∧ P M'))) : Ct l g sg_L_removed [lvD x, .inl p0, .inl p1] M (fun o M' => BX (o = .inl (some (.inl (-2))) ∧ P M')) := by
  refine sem_ofH hl0 rfl (by decide +kernel) rfl ok_L_removed rfl (fun K hc hw => e_step rfl hc 80 [] ?_)
  refine Ct.mono h ?_
  rintro o M' ⟨⟨rfl, hP⟩⟩
  refine e_aftH_x (h := 7) (show hd_L_removed "java/util/NoSuchElementException" = some 7 by decide +kernel) (fun a => ?_)
  exact ⟨by decide, by decide, ⟨⟨rfl, hP⟩⟩⟩
end
