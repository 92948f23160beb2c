/-! THE ENGINE, 11: things that were made become whole. -/
section
variable {l : Launch} {g : EG}
def wh : Nat → Nat
  | 101 => 1 | 102 => 2 | 103 => 3 | 105 => 5 | 106 => 6 | 108 => 8 | 109 => 9 | 114 => 14 | 115 => 15 | 116 => 16 | 119 => 19 | 120 => 20 | 121 => 21 | 123 => 23 | t => t
theorem wh_kd (t : Nat) : e_kd (wh t) = e_kd t := by unfold wh; split <;> rfl
theorem wh_n {t : Nat} (h : ¬ (t = 101 ∨ t = 102 ∨ t = 103 ∨ t = 105 ∨ t = 106 ∨ t = 108 ∨ t = 109 ∨ t = 114 ∨ t = 115 ∨ t = 116 ∨ t = 119 ∨ t = 120 ∨ t = 121 ∨ t = 123)) : wh t = t := by
  unfold wh
  split <;> first | (exfalso; omega) | rfl
theorem wh_wh (t : Nat) : wh (wh t) = wh t := by
  by_cases h : t = 101 ∨ t = 102 ∨ t = 103 ∨ t = 105 ∨ t = 106 ∨ t = 108 ∨ t = 109 ∨ t = 114 ∨ t = 115 ∨ t = 116 ∨ t = 119 ∨ t = 120 ∨ t = 121 ∨ t = 123
  · rcases h with rfl | rfl | rfl | rfl | rfl | rfl | rfl | rfl | rfl | rfl | rfl | rfl | rfl | rfl <;> rfl
  · rw [wh_n h, wh_n h]
theorem wh_pt (t k : Nat) : e_pt (wh t) k = wh (e_pt t k) := by
  by_cases h : t = 101 ∨ t = 102 ∨ t = 103 ∨ t = 105 ∨ t = 106 ∨ t = 108 ∨ t = 109 ∨ t = 114 ∨ t = 115 ∨ t = 116 ∨ t = 119 ∨ t = 120 ∨ t = 121 ∨ t = 123
  · rcases h with rfl | rfl | rfl | rfl | rfl | rfl | rfl | rfl | rfl | rfl | rfl | rfl | rfl | rfl <;> (rcases k with _ | _ | _ | _ | _ | _ | _ | _ | _ | _ | _ | _ | _ | _ | _ | _ | _ | _ | _ | _ | _ | _ | _ | _ | _ | _ | _ | _ | k <;> rfl)
  · rw [wh_n h]
    unfold e_pt
    split <;> first | rfl | (exfalso; omega)
def rW (M : EM) (b : Nat) : EM := (fun c => if b ≤ c then wh (M.1 c) else M.1 c, M.2)
theorem mT_rW {M : EM} {b c : Nat} : mT (rW M b) c = if b ≤ c then wh (mT M c) else mT M c := rfl
theorem rW_kd {M : EM} {b : Nat} (c : Nat) : e_kd (mT (rW M b) c) = e_kd (mT M c) := by
  rw [mT_rW]
  split
  · exact wh_kd _
  · rfl
/-- a constructor's end: the block from b on is there, only its own cells are not whole -/
def CP (b sz : Nat) (M M' : EM) : Prop := mN M' = b + sz ∧ (∀ c, c < b → ∀ j, mI M' c j = mI M c j ∧ mL M' c j = mL M c j ∧ mP M' c j = mP M c j) ∧ (∀ c ∈ mA M', c < b → c ∈ mA M) ∧ e_le none M M' ∧ (∀ c ∈ mA M', b ≤ c → ∀ k off, e_pf (wh (mT M' c)) k = some off → mP M' c k = some (c + off)) ∧ ∀ c ∈ mA M', b ≤ c → ∀ k q, mP M' c k = some q → b ≤ q
theorem CP.ok {M M2 : EM} {t b sz : Nat} (okM : e_ok M) (lt : ∀ c ∈ mA M, c < mN M) (hb : mN M = b) (cp : CP b sz (sNew M t) M2) (ok2 : e_ok M2) : e_ok (rW M2 b) := by
  obtain ⟨c1, c2, c3, c4, c5, c6⟩ := cp
  intro a ha
  obtain ⟨h1, h2, h3⟩ := ok2 a ha
  rw [mT_rW]
  by_cases c : b ≤ a
  · rw [if_pos c]
    refine ⟨by rw [wh_kd]; exact h1, fun k q hq => ?_, fun k off hf => c5 a ha c k off hf⟩
    rcases h2 k q hq with z | ⟨q1, q2⟩
    · left; rw [wh_pt, z]; rfl
    · exact Or.inr ⟨q1, by rw [mT_rW, if_pos (c6 a ha c k q hq), q2, wh_pt]⟩
  · rw [if_neg c]
    refine ⟨h1, fun k q hq => ?_, h3⟩
    rcases h2 k q hq with z0 | ⟨q1, q2⟩
    · exact Or.inl z0
    have ha1 := c3 a ha (by omega)
    have ha2 : a ∈ mA M := by
      rcases List.mem_append.mp ha1 with z | z
      · exact z
      · have := List.mem_singleton.mp z; omega
    have hq1 : mP M a k = some q := by
      have e := (c2 a (by omega) k).2.2
      rw [mP_sNew, if_neg (by omega)] at e
      exact e.symm.trans hq
    rcases (okM a ha2).2.1 k q hq1 with z1 | ⟨z1, -⟩
    · have ht9 := (c4 a (List.mem_append_left _ ha2) (by simp)).2
      rw [mT_sNew (by omega)] at ht9
      exact Or.inl (by rw [ht9]; exact z1)
    have hq2 := lt q z1
    exact Or.inr ⟨q1, by rw [mT_rW, if_neg (by omega)]; exact q2⟩
def e_lt1 (b : Nat) : EV → Prop
  | .inr (.inr (.inr (.inr q))) => q.2 < b
  | _ => True
def e_lts (b : Nat) : List EV → Prop
  | [] => True
  | v :: r => e_lt1 b v ∧ e_lts b r
def e_ltL (b : Nat) : List (Option EV) → Prop
  | [] => True
  | none :: r => e_ltL b r
  | some v :: r => e_lt1 b v ∧ e_ltL b r
theorem e_vok.rW {g : EG} {M : EM} {b : Nat} : ∀ {v : EV}, e_vok g M v → e_lt1 b v → e_vok g (rW M b) v
  | .inl _, _, _ => trivial
  | .inr (.inl _), _, _ => trivial
  | .inr (.inr (.inl _)), _, _ => trivial
  | .inr (.inr (.inr (.inl _))), _, _ => trivial
  | .inr (.inr (.inr (.inr q))), h, hl => by
    have hl' : q.2 < b := hl
    rcases h with ⟨h1, h2⟩ | h
    · exact Or.inl ⟨h1, by rw [mT_rW, if_neg (by omega)]; exact h2⟩
    · exact Or.inr h
theorem e_all.rW {g : EG} {M : EM} {b : Nat} : ∀ {st : List EV}, e_all g M st → e_lts b st → e_all g (rW M b) st
  | [], _, _ => trivial
  | _ :: _, h, hl => ⟨e_vok.rW h.1 hl.1, e_all.rW h.2 hl.2⟩
theorem e_allL.rW {g : EG} {M : EM} {b : Nat} : ∀ {ls : List (Option EV)}, e_allL g M ls → e_ltL b ls → e_allL g (rW M b) ls
  | [], _, _ => trivial
  | none :: r, h, hl => e_allL.rW (ls := r) h hl
  | some _ :: _, h, hl => ⟨e_vok.rW h.1 hl.1, e_allL.rW h.2 hl.2⟩
/-- what a constructor made is whole, behind the call -/
theorem gh_new {g : EG} {ex : Option Nat} {M0 : EM} {K : Nat → EK} (hg : e_gh g ex M0 K) {M M2 : EM} {t b sz pc nc ns : Nat} {ls : List (Option EV)} {st : List EV} (okM : e_ok M) (lt : ∀ c ∈ mA M, c < mN M) (hb : mN M = b) (cp : CP b sz (sNew M t) M2) (h0 : ∀ c ∈ mA M0, c < b) (hkd : e_kd t ≠ none) (hls : e_ltL b ls) (hst : e_lts b st) (h : K pc ls (.inr (.inr (.inr (.inr (wh t, b)))) :: st) (rW M2 b) nc ns) : K pc ls (.inr (.inr (.inr (.inr (t, b)))) :: st) M2 nc ns := by
  refine hg pc ls ls (.inr (.inr (.inr (.inr (t, b)))) :: st) (.inr (.inr (.inr (.inr (wh t, b)))) :: st) M2 (rW M2 b) nc ns rfl rW_kd rfl rfl (fun lt2 ok2 le vl vs => ?_) h
  refine ⟨cp.ok okM lt hb ok2, fun a ha hx => ?_, vl.rW hls, ?_, vs.2.rW hst⟩
  · obtain ⟨h1, h2⟩ := le a ha hx
    exact ⟨h1, by rw [mT_rW, if_neg (by have := h0 a ha; omega)]; exact h2⟩
  · rcases vs.1 with ⟨h1, h2⟩ | h1
    · exact Or.inl ⟨h1, by rw [mT_rW, if_pos (Nat.le_refl _), h2]⟩
    · exact absurd (e_ro_kd h1) hkd
/-- while a block is made -/
def Bd (M0 : EM) (a : Nat) (E : Nat → Prop) (M : EM) (n : Nat) : Prop := mN M = n ∧ (∀ c, c < a → ∀ j, mI M c j = mI M0 c j ∧ mL M c j = mL M0 c j ∧ mP M c j = mP M0 c j) ∧ (∀ c ∈ mA M, c < a → c ∈ mA M0) ∧ (∀ c ∈ mA M, a ≤ c → ¬ E c → wh (mT M c) = mT M c) ∧ ∀ c ∈ mA M, a ≤ c → ∀ k q, mP M c k = some q → a ≤ q
theorem Bd.start {M0 : EM} {a : Nat} {E : Nat → Prop} (lt : ∀ c ∈ mA M0, c < mN M0) (hn : mN M0 = a + 1) (hp : ∀ k, mP M0 a k = none) (hE : E a) : Bd M0 a E M0 (a + 1) := by
  have h1 : ∀ c ∈ mA M0, a ≤ c → c = a := fun c hc h => by have := lt c hc; omega
  exact ⟨hn, fun c _ j => ⟨rfl, rfl, rfl⟩, fun c hc _ => hc, fun c hc h hn => absurd (by rw [h1 c hc h]; exact hE) hn, fun c hc h k q hq => by rw [h1 c hc h, hp k] at hq; cases hq⟩
theorem Bd.I {M0 M : EM} {a n c k : Nat} {E : Nat → Prop} {v : Int32} (h : Bd M0 a E M n) (hc : a ≤ c) : Bd M0 a E (sI M c k v) n :=
  ⟨h.1, fun b hb j => ⟨by rw [mI_sI2, if_neg (by omega)]; exact (h.2.1 b hb j).1, (h.2.1 b hb j).2⟩, h.2.2.1, h.2.2.2.1, h.2.2.2.2⟩
theorem Bd.P {M0 M : EM} {a n c k q : Nat} {E : Nat → Prop} (h : Bd M0 a E M n) (hc : a ≤ c) (hq : a ≤ q) : Bd M0 a E (sP M c k q) n :=
  ⟨h.1, fun b hb j => ⟨(h.2.1 b hb j).1, (h.2.1 b hb j).2.1, by rw [mP_sP2, if_neg (by omega)]; exact (h.2.1 b hb j).2.2⟩, h.2.2.1, h.2.2.2.1, fun b hb h1 j x hx => by
    rw [mP_sP2] at hx
    split at hx
    · cases hx; exact hq
    · exact h.2.2.2.2 b hb h1 j x hx⟩
theorem Bd.new {M0 M : EM} {a n t : Nat} {E : Nat → Prop} (h : Bd M0 a E M n) (lt : ∀ c ∈ mA M, c < mN M) (hn : a ≤ n) (ht : wh t = t ∨ E n) : Bd M0 a E (sNew M t) (n + 1) := by
  obtain ⟨h1, h2, h3, h4, h5⟩ := h
  refine ⟨by rw [mN_sNew, h1], fun c hc j => ?_, fun c hc hl => ?_, fun c hc hl hE => ?_, fun c hc hl k q hq => ?_⟩
  · have e : ¬ c = mN M := by omega
    exact ⟨by rw [mI_sNew, if_neg e]; exact (h2 c hc j).1, by rw [mL_sNew, if_neg e]; exact (h2 c hc j).2.1, by rw [mP_sNew, if_neg e]; exact (h2 c hc j).2.2⟩
  · rcases List.mem_append.mp hc with z | z
    · exact h3 c z hl
    · have := List.mem_singleton.mp z; omega
  · rcases List.mem_append.mp hc with z | z
    · rw [mT_sNew (by have := lt c z; omega)]; exact h4 c z hl hE
    · have e := List.mem_singleton.mp z
      rw [e, mT_sNew_e]
      rcases ht with ht | ht
      · exact ht
      · exact absurd (by rw [e, h1]; exact ht) hE
  · rw [mP_sNew] at hq
    split at hq
    · cases hq
    · rcases List.mem_append.mp hc with z | z
      · exact h5 c z hl k q hq
      · have := List.mem_singleton.mp z; contradiction
theorem Bd.child {M0 M M2 : EM} {a n t sz : Nat} {E : Nat → Prop} (h : Bd M0 a E M n) (hn : a ≤ n) (cp : CP n sz (sNew M t) M2) : Bd M0 a E (rW M2 n) (n + sz) := by
  obtain ⟨h1, h2, h3, h4, h5⟩ := h
  obtain ⟨c1, c2, c3, c4, c5, c6⟩ := cp
  have ol : ∀ c ∈ mA M2, c < n → c ∈ mA M := fun c hc hl => by
    rcases List.mem_append.mp (c3 c hc hl) with z | z
    · exact z
    · have := List.mem_singleton.mp z; omega
  refine ⟨c1, fun c hc j => ?_, fun c hc hl => h3 c (ol c hc (by omega)) hl, fun c hc hl hE => ?_, fun c hc hl k q hq => ?_⟩
  · have e : ¬ c = mN M := by omega
    obtain ⟨y1, y2, y3⟩ := c2 c (by omega) j
    rw [mI_sNew, if_neg e] at y1
    rw [mL_sNew, if_neg e] at y2
    rw [mP_sNew, if_neg e] at y3
    exact ⟨y1.trans (h2 c hc j).1, y2.trans (h2 c hc j).2.1, y3.trans (h2 c hc j).2.2⟩
  · rw [mT_rW]
    by_cases q : n ≤ c
    · rw [if_pos q, wh_wh]
    · rw [if_neg q]
      have hm := ol c hc (by omega)
      have e := (c4 c (List.mem_append_left _ hm) (by simp)).2
      rw [mT_sNew (by omega)] at e
      rw [e]; exact h4 c hm hl hE
  · by_cases z : n ≤ c
    · have := c6 c hc z k q hq; omega
    · have y3 := (c2 c (by omega) k).2.2
      rw [mP_sNew, if_neg (by omega)] at y3
      exact h5 c (ol c hc (by omega)) hl k q (y3.symm.trans hq)
theorem Bd.exit {M0 M : EM} {a n sz : Nat} {E : Nat → Prop} (h : Bd M0 a E M n) (hs : n = a + sz) (ok : e_ok M) (le : e_le none M0 M) (hE : ∀ c ∈ mA M, a ≤ c → E c → ∀ k off, e_pf (wh (mT M c)) k = some off → mP M c k = some (c + off)) : CP a sz M0 M :=
  ⟨h.1.trans hs, h.2.1, h.2.2.1, le, fun c hc hl k off hf => by
    by_cases q : E c
    · exact hE c hc hl q k off hf
    · rw [h.2.2.2.1 c hc hl q] at hf
      exact (ok c hc).2.2 k off hf, h.2.2.2.2⟩
/-- the cells below a child stay -/
theorem CP.fr {M M2 : EM} {n t sz c : Nat} (cp : CP n sz (sNew M t) M2) (hn : mN M = n) (hc : c < n) (j : Nat) : mI M2 c j = mI M c j ∧ mL M2 c j = mL M c j ∧ mP M2 c j = mP M c j := by
  obtain ⟨y1, y2, y3⟩ := cp.2.1 c hc j
  have e : ¬ c = mN M := by omega
  rw [mI_sNew, if_neg e] at y1
  rw [mL_sNew, if_neg e] at y2
  rw [mP_sNew, if_neg e] at y3
  exact ⟨y1, y2, y3⟩
/-- what the new things hold -/
def Z0 (M : EM) (a : Nat) : Prop := ∀ j, mI M a j = 0 ∧ mL M a j = 0
def ZEv (M : EM) (a : Nat) : Prop := (∀ j, mI M a j = if j = 9 then -1 else 0) ∧ ∀ c, 1 ≤ c → c < 5 → Z0 M (a + c)
def ZZn (M : EM) (a : Nat) : Prop := ∀ j, mI M a j = if j = 1 ∨ j = 2 then -1 else 0
def ZPl (M : EM) (a : Nat) : Prop := (∀ j, mI M a j = if j = 0 then 1 else 0) ∧ (∀ z, z < 3 → ZZn M (a + 2 + z)) ∧ ∀ e, e < 8 → ZEv M (a + 6 + 5 * e)
def ZSd (M : EM) (a : Nat) : Prop := Z0 M a ∧ ZPl M (a + 1) ∧ Z0 M (a + 47)
def ZEx (M : EM) (a : Nat) : Prop := Z0 M a ∧ ZPl M (a + 1) ∧ (∀ s, s < 2 → ZSd M (a + 48 + 48 * s)) ∧ Z0 M (a + 144)
def ZHi (M : EM) (a : Nat) : Prop := Z0 M a ∧ ∀ k, k < 12 → ZEx M (a + 2 + 145 * k)
def ZRd (M : EM) (a : Nat) : Prop := (∀ j, mI M a j = if j = 3 then -1 else 0) ∧ ZPl M (a + 1) ∧ Z0 M (a + 47) ∧ Z0 M (a + 48)
def eqIL (M M' : EM) (lo hi : Nat) : Prop := ∀ c, lo ≤ c → c < hi → ∀ j, mI M' c j = mI M c j ∧ mL M' c j = mL M c j
theorem eqIL.s {M M' : EM} {lo hi lo' hi' : Nat} (h : eqIL M M' lo hi) (h1 : lo ≤ lo') (h2 : hi' ≤ hi) : eqIL M M' lo' hi' := fun c q1 q2 j => h c (by omega) (by omega) j
theorem Z0.cg {M M' : EM} {a : Nat} (h : Z0 M a) (e : eqIL M M' a (a + 1)) : Z0 M' a := fun j => ⟨(e a (by omega) (by omega) j).1.trans (h j).1, (e a (by omega) (by omega) j).2.trans (h j).2⟩
theorem ZEv.cg {M M' : EM} {a : Nat} (h : ZEv M a) (e : eqIL M M' a (a + 5)) : ZEv M' a := ⟨fun j => (e a (by omega) (by omega) j).1.trans (h.1 j), fun c h1 h2 => (h.2 c h1 h2).cg (e.s (by omega) (by omega))⟩
theorem ZZn.cg {M M' : EM} {a : Nat} (h : ZZn M a) (e : eqIL M M' a (a + 1)) : ZZn M' a := fun j => (e a (by omega) (by omega) j).1.trans (h j)
theorem ZPl.cg {M M' : EM} {a : Nat} (h : ZPl M a) (e : eqIL M M' a (a + 46)) : ZPl M' a := ⟨fun j => (e a (by omega) (by omega) j).1.trans (h.1 j), fun z hz => (h.2.1 z hz).cg (e.s (by omega) (by omega)), fun k hk => (h.2.2 k hk).cg (e.s (by omega) (by omega))⟩
theorem ZSd.cg {M M' : EM} {a : Nat} (h : ZSd M a) (e : eqIL M M' a (a + 48)) : ZSd M' a := ⟨h.1.cg (e.s (by omega) (by omega)), h.2.1.cg (e.s (by omega) (by omega)), h.2.2.cg (e.s (by omega) (by omega))⟩
theorem ZEx.cg {M M' : EM} {a : Nat} (h : ZEx M a) (e : eqIL M M' a (a + 145)) : ZEx M' a := ⟨h.1.cg (e.s (by omega) (by omega)), h.2.1.cg (e.s (by omega) (by omega)), fun s hs => (h.2.2.1 s hs).cg (e.s (by omega) (by omega)), h.2.2.2.cg (e.s (by omega) (by omega))⟩
theorem ZHi.cg {M M' : EM} {a : Nat} (h : ZHi M a) (e : eqIL M M' a (a + 1742)) : ZHi M' a := ⟨h.1.cg (e.s (by omega) (by omega)), fun s hs => (h.2 s hs).cg (e.s (by omega) (by omega))⟩
theorem ZRd.cg {M M' : EM} {a : Nat} (h : ZRd M a) (e : eqIL M M' a (a + 49)) : ZRd M' a := ⟨fun j => (e a (by omega) (by omega) j).1.trans (h.1 j), h.2.1.cg (e.s (by omega) (by omega)), h.2.2.1.cg (e.s (by omega) (by omega)), h.2.2.2.cg (e.s (by omega) (by omega))⟩
theorem CP.il {M M2 : EM} {n t sz lo hi : Nat} (cp : CP n sz (sNew M t) M2) (hn : mN M = n) (h : hi ≤ n) : eqIL M M2 lo hi := fun c _ h2 j => ⟨(cp.fr hn (by omega) j).1, (cp.fr hn (by omega) j).2.1⟩
theorem new_il {M : EM} {t lo hi : Nat} (h : hi ≤ mN M) : eqIL M (sNew M t) lo hi := fun c _ h2 j => ⟨by rw [mI_sNew, if_neg (by omega)], by rw [mL_sNew, if_neg (by omega)]⟩
theorem new_Z0 {M : EM} {t n : Nat} (hn : mN M = n) : Z0 (sNew M t) n := fun j => ⟨by rw [mI_sNew, if_pos hn.symm], by rw [mL_sNew, if_pos hn.symm]⟩
theorem new_mP {M : EM} {t n : Nat} (hn : mN M = n) (k : Nat) : mP (sNew M t) n k = none := by rw [mP_sNew, if_pos hn.symm]
theorem new_pl {M : EM} {t n c k : Nat} (hn : mN M = n) (hc : c < n) : mP (sNew M t) c k = mP M c k := by rw [mP_sNew, if_neg (by omega)]
end
