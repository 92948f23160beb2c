/-! TABLES (by program): the rows of the constructors. -/
/-! THE ENGINE, 10: new objects, new arrays, constructors; tags that change. -/
theorem mT_sNew {M : EM} {t b : Nat} (h : ¬ b = mN M) : mT (sNew M t) b = mT M b := by show va_up M.1 (mN M) t b = _; unfold va_up; rw [if_neg h]; rfl
theorem mT_sNew_e {M : EM} {t : Nat} : mT (sNew M t) (mN M) = t := by show va_up M.1 (mN M) t (mN M) = _; unfold va_up; rw [if_pos rfl]
theorem mI_sNew {M : EM} {t b j : Nat} : mI (sNew M t) b j = if b = mN M then 0 else mI M b j := by simp only [mI, sNew, e_uprow]
theorem mL_sNew {M : EM} {t b j : Nat} : mL (sNew M t) b j = if b = mN M then 0 else mL M b j := by simp only [mL, sNew, e_uprow]
theorem mP_sNew {M : EM} {t b j : Nat} : mP (sNew M t) b j = if b = mN M then none else mP M b j := by simp only [mP, sNew, e_uprow]
theorem mN_sNew {M : EM} {t : Nat} : mN (sNew M t) = mN M + 1 := rfl
theorem mA_sNew {M : EM} {t : Nat} : mA (sNew M t) = mA M ++ [mN M] := rfl
theorem e_ent_sNew {g : EG} {M : EM} {t b : Nat} (h : ¬ b = mN M) : e_ent g (sNew M t) b = e_ent g M b := e_ent_cong (mT_sNew h) (funext fun j => by rw [mI_sNew, if_neg h]) (funext fun j => by rw [mL_sNew, if_neg h]) (funext fun j => by rw [mP_sNew, if_neg h])
theorem e_wd_sNew {g : EG} {M : EM} {t : Nat} (hl : ∀ b ∈ mA M, b < mN M) : e_wd g (sNew M t) = e_wd g M ++ [(mN M, e_ent g (sNew M t) (mN M))] := by
  unfold e_wd va_pl
  rw [mA_sNew, List.map_append]
  congr 1
  apply List.map_congr_left
  intro b hb
  rw [e_ent_sNew (by have := hl b hb; omega)]
theorem e_St_lt {g : EG} {M : EM} {H : Heap} (hS : e_St g M H) : ∀ b ∈ mA M, b < mN M := fun b hb => by
  obtain ⟨k, hk⟩ := e_wd_get (g := g) hb
  rw [← hS.1]
  exact (hS.2.1 k _ hk).lt
theorem e_ok_sNew {M : EM} {t : Nat} (h : e_ok M) (hl : ∀ b ∈ mA M, b < mN M) (hk : e_kd t ≠ none) (hp : ∀ k, e_pf t k = none) : e_ok (sNew M t) := by
  intro a ha
  rw [mA_sNew] at ha
  rcases List.mem_append.mp ha with ha | ha
  · have hn : ¬ a = mN M := by have := hl a ha; omega
    obtain ⟨h1, h2, h3⟩ := h a ha
    rw [mT_sNew hn]
    refine ⟨h1, fun k q hq => ?_, fun k off hf => ?_⟩
    · rw [mP_sNew, if_neg hn] at hq
      rcases h2 k q hq with z | ⟨q1, q2⟩
      · exact Or.inl z
      · exact Or.inr ⟨List.mem_append_left _ q1, by rw [mT_sNew (by have := hl q q1; omega)]; exact q2⟩
    · rw [mP_sNew, if_neg hn]; exact h3 k off hf
  · rw [List.mem_singleton.mp ha, mT_sNew_e]
    refine ⟨hk, fun k q hq => ?_, fun k off hf => ?_⟩
    · rw [mP_sNew, if_pos rfl] at hq; cases hq
    · rw [hp k] at hf; cases hf
theorem e_le_sNew {M : EM} {t : Nat} (hl : ∀ b ∈ mA M, b < mN M) : e_le none M (sNew M t) := fun b hb _ => ⟨List.mem_append_left _ hb, mT_sNew (by have := hl b hb; omega)⟩
/-- a field of these types is born as the memory says -/
def e_isS : FieldType → Bool
  | .float => false
  | .double => false
  | _ => true
theorem e_fv_new {M : EM} {t k : Nat} : ∀ {ty : FieldType}, e_isS ty = true → e_fv (sNew M t) ty (mN M) k = defaultValue ty := by
  intro ty h
  have h1 : mI (sNew M t) (mN M) k = 0 := by rw [mI_sNew, if_pos rfl]
  have h2 : mL (sNew M t) (mN M) k = 0 := by rw [mL_sNew, if_pos rfl]
  have h3 : mP (sNew M t) (mN M) k = none := by rw [mP_sNew, if_pos rfl]
  cases ty <;> first | (cases h; done) | (unfold e_fv; simp only [h1, h2, h3]; rfl)
theorem e_cT_s : ∀ ci, ci < 12 → ∀ k, k < e_cN ci → e_isS (e_cT ci k) = true := by
  intro ci hc
  rcases (show ci = 0 ∨ ci = 1 ∨ ci = 2 ∨ ci = 3 ∨ ci = 4 ∨ ci = 5 ∨ ci = 6 ∨ ci = 7 ∨ ci = 8 ∨ ci = 9 ∨ ci = 10 ∨ ci = 11 by omega) with rfl | rfl | rfl | rfl | rfl | rfl | rfl | rfl | rfl | rfl | rfl | rfl <;> decide
theorem nI_nn0 {n : Nat} (h : n < 2147483648) : ¬ nI n < 0 := fun z => absurd (Int32.lt_iff_toInt_lt.mp z) (by rw [nI_toInt (by omega)]; show ¬ (n : Int) < 0; omega)
section RN
variable {p : Program} {l : Launch} {e : Env} {g : EG} {σ : SG} {R : Room} {s : State} {m : MethodId} {args : Array Value} {below : List Frame} {meth : Method} {c : Code} {ex : Option Nat} {M0 : EM} {Q : EO → EM → Prop} {own : String} {pc np : Nat}
/-- the world behind a new cell -/
theorem e_St_new {M : EM} {H H1 : Heap} {t : Nat} (hz : gZ g ≤ mN M) (hS : e_St g M H) (z1 : H1.size = mN M + 1) (o1 : ∀ q : Nat, q < mN M → H1[q]? = H[q]?) (hn : va_at (gD g) vwCl (mN M, e_ent g (sNew M t) (mN M)) H1) : e_St g (sNew M t) H1 := by
  have hl := e_St_lt hS
  refine ⟨z1, ?_, ?_⟩
  · rw [e_wd_sNew hl]
    refine (hS.2.1.kept (fun k q hk => o1 q.1 (by rw [← hS.1]; exact (hS.2.1 k q hk).lt))).app (fun k x hx => ?_)
    have hz : k < 1 := (List.getElem?_eq_some_iff.mp hx).1
    rw [show k = 0 by omega] at hx
    cases hx
    exact hn
  · rw [e_wd_sNew hl]
    exact hS.2.2.push hS.2.1 hS.1.symm hz
theorem va_S_new {H0 H H1 : Heap} {locs : List Loc} {n : Nat} {A : Nat → Prop} (hF : va_S A H0 H locs) (hn : H.size = n) (z1 : H1.size = n + 1) (o1 : ∀ q : Nat, q < n → H1[q]? = H[q]?) : va_S A H0 H1 locs := ⟨by have := hF.1; omega, fun x h1 h2 => (o1 x (by have := hF.1; omega)).trans (hF.2.1 x h1 h2), hF.2.2⟩
/-- a new object -/
def s_new (σ : SG) (ci t : Nat) : ES := fun _ _ nx ls st M nc ns => match Nat.ble (nc + 1) (gmc σ) && Nat.ble (ns + e_cN ci) (gms σ) with
  | true => nx ls (.inr (.inr (.inr (.inr (t, mN M)))) :: st) (sNew M t) (nc + 1) (ns + e_cN ci)
  | false => False
theorem r_new (X : Cx p l g σ R s m args meth c own) {index ci t : Nat} (hd : decode (gcc σ) pc = .ok (.new index, 3)) (hci : ci < 12) (hk : e_kd t = some (.inl ci)) (hpf : ∀ k, e_pf t k = none) (hcl : Cond.classLink own index (e_cR ci) ∈ e_good) (hins : Cond.instantiable (e_cR ci) (e_cN ci) ∈ e_good) (hini : Cond.initialized (e_cR ci) ∈ e_good) (hws : ∀ w ∈ u_ws (e_cR ci) (e_cF ci) (e_cN ci), w ∈ e_good) (hn : pc + 3 = np) : RowOk p l e g σ R s m args below meth c ex M0 Q pc np (s_new σ ci t) := by
  intro J hJ ls st M nc ns h
  subst hn
  unfold s_new at h
  split at h
  · rename_i hb
    simp only [Bool.and_eq_true] at hb
    have hb1 := Nat.le_of_ble_eq_true hb.1
    have hb2 := Nat.le_of_ble_eq_true hb.2
    intro H locs lsM hl ok le vl vs hS hF
    have hG := X.2.2.2.2.2.2.1
    have hRR := X.2.2.2.2.2.2.2.1
    have hKn := hG.1.1 ci _ (e_cl_at ci hci)
    have hlt := e_St_lt hS
    have e1c : (grm σ).cells = gmc σ := rfl
    have e1s : (grm σ).slots = gms σ := rfl
    have hz : gZ g ≤ mN M := Nat.le_trans hG.2.2.2.2.1 (by rw [← hS.1]; exact hF.1)
    refine W.newcK (n := e_cN ci) X.1 X.2.1 X.2.2.2.2.1 (e_wd0 hG hcl) (e_wd0 hG hins) (e_wd0 hG hini) rfl hd (by rw [hRR]; omega) (by rw [hRR]; omega) hKn.2.1 hS.1 (fun H1 kC hkC e1 z1 o1 => ?_)
    have hn : va_at (gD g) vwCl (mN M, e_ent g (sNew M t) (mN M)) H1 := by
      rw [e_ent_o mT_sNew_e hk]
      refine ⟨_, e_cl_at ci hci, (u_born (args := args) (e_cT ci) (fun w hw => e_wd0 hG (hws w hw)) (fun w hw => hw) hKn hkC e1 (e_cl_ty ci hci)).to (fun j hj => ?_)⟩
      have hj' : j < e_cN ci := hj
      show _ = vp_V _ j
      unfold vp_V
      rw [List.getD_eq_getElem?_getD, List.getElem?_map, List.getElem?_range hj']
      exact (e_fv_new (e_cT_s ci hci j hj')).symm
    have le1 := e_le_sNew (t := t) hlt
    exact hJ _ _ _ _ _ _ h H1 locs lsM hl (e_ok_sNew ok hlt (by rw [hk]; exact fun z => by cases z) hpf) (le.tr le1) (vl.le le1) ⟨Or.inl ⟨List.mem_append_right _ (List.mem_singleton.mpr rfl), mT_sNew_e⟩, vs.le le1⟩ (e_St_new hz hS z1 o1 hn) (va_S_new hF hS.1 z1 o1)
  · exact h.elim
/-- the row of a new array -/
theorem e_arr_new {M : EM} {t ai : Nat} {n : Nat} {ty : FieldType} {c : ClassId} (h : (ai = 0 ∧ ty = .int) ∨ (ai = 1 ∧ ty = .byte) ∨ (ai = 2 ∧ ty = .boolean) ∨ (ai = 3 ∧ ty = .long)) : vp_cell c (n, e_arr (sNew M t) (mN M) ai) = arrV c n (fun _ => defaultValue ty) := by
  have h1 : mI (sNew M t) (mN M) = fun _ => 0 := funext fun k => by rw [mI_sNew, if_pos rfl]
  have h2 : mL (sNew M t) (mN M) = fun _ => 0 := funext fun k => by rw [mL_sNew, if_pos rfl]
  rcases h with ⟨rfl, rfl⟩ | ⟨rfl, rfl⟩ | ⟨rfl, rfl⟩ | ⟨rfl, rfl⟩ <;> (unfold e_arr; simp only [h1, h2]) <;> rfl
def s_newa (σ : SG) (t n : Nat) : ES := fun _ _ nx ls st M nc ns => match st with
  | .inl v :: r => match Nat.ble (nc + 1) (gmc σ) && Nat.ble (ns + n) (gms σ) with
    | true => (v = nI n) ∧ nx ls (.inr (.inr (.inr (.inr (t, mN M)))) :: r) (sNew M t) (nc + 1) (ns + n)
    | false => False
  | _ => False
theorem r_newa (X : Cx p l g σ R s m args meth c own) {atype : ArrayType} {ai t n : Nat} {ty : FieldType} (hd : decode (gcc σ) pc = .ok (.newarray atype, 2)) (hk : e_kd t = some (.inr (ai, n))) (hpf : ∀ k, e_pf t k = none) (hty : newarray.typeOf atype = ty) (hai : (ai = 0 ∧ ty = .int) ∨ (ai = 1 ∧ ty = .byte) ∨ (ai = 2 ∧ ty = .boolean) ∨ (ai = 3 ∧ ty = .long)) (harr : Cond.arrayClass ty ∈ e_good) (hby : n * componentBytes ty ≤ 536870912) (hn31 : n < 2147483648) (hn : pc + 2 = np) : RowOk p l e g σ R s m args below meth c ex M0 Q pc np (s_newa σ t n) := by
  intro J hJ ls st M nc ns h
  subst hn
  subst hty
  unfold s_newa at h
  split at h
  · rename_i v r
    split at h
    · rename_i hb
      obtain ⟨rfl, h⟩ := h
      simp only [Bool.and_eq_true] at hb
      have hb1 := Nat.le_of_ble_eq_true hb.1
      have hb2 := Nat.le_of_ble_eq_true hb.2
      intro H locs lsM hl ok le vl vs hS hF
      have hG := X.2.2.2.2.2.2.1
      have hRR := X.2.2.2.2.2.2.2.1
      have hlt := e_St_lt hS
      have e1c : (grm σ).cells = gmc σ := rfl
      have e1s : (grm σ).slots = gms σ := rfl
      have hz : gZ g ≤ mN M := Nat.le_trans hG.2.2.2.2.1 (by rw [← hS.1]; exact hF.1)
      have hts : (e_tys g)[ai]? = some (gC g ai, newarray.typeOf atype) := by
        rcases hai with ⟨rfl, z⟩ | ⟨rfl, z⟩ | ⟨rfl, z⟩ | ⟨rfl, z⟩ <;> rw [z] <;> rfl
      have hra : s.vm.findClass ("[" ++ (newarray.typeOf atype).toString) = some (gC g ai) := by
        have q := (hG.1.2 ai _ hts).2
        rcases hai with ⟨-, z⟩ | ⟨-, z⟩ | ⟨-, z⟩ | ⟨-, z⟩ <;> (simp only [z] at q ⊢; exact q)
      refine va_newaK (N := n) X.1 X.2.1 (e_wd0 hG harr) rfl hd rfl (nI_nn0 (by omega)) (nI_clamp (by omega)) hby (by rw [hRR]; omega) (by rw [hRR]; omega) hS.1 (fun H1 cA e1 z1 o1 hAr hNm => ?_)
      have hcA : cA = gC g ai := Option.some.inj (hNm.symm.trans hra)
      have hn : va_at (gD g) vwCl (mN M, e_ent g (sNew M t) (mN M)) H1 := by
        rw [e_ent_a mT_sNew_e hk]
        show H1[mN M]? = some (vp_cell _ _)
        rw [e_arr_new hai, e1, hcA]
      have le1 := e_le_sNew (t := t) hlt
      exact hJ _ _ _ _ _ _ h H1 locs lsM hl (e_ok_sNew ok hlt (by rw [hk]; exact fun z => by cases z) hpf) (le.tr le1) (vl.le le1) ⟨Or.inl ⟨List.mem_append_right _ (List.mem_singleton.mpr rfl), mT_sNew_e⟩, vs.2.le le1⟩ (e_St_new hz hS z1 o1 hn) (va_S_new hF hS.1 z1 o1)
    · exact h.elim
  · exact h.elim
/-- a new array of references -/
theorem r_anewa (X : Cx p l g σ R s m args meth c own) {index ai t n : Nat} {C : String} (hd : decode (gcc σ) pc = .ok (.anewarray index, 3)) (hk : e_kd t = some (.inr (ai, n))) (hpf : ∀ k, e_pf t k = none) (hai : 4 ≤ ai ∧ ai < 9) (hC : ∀ g : EG, (e_tys g)[ai]? = some (gC g ai, .object C)) (hao : C ∈ e_ao) (hcl : Cond.classLink own index C ∈ e_good) (hn31 : n < 1000) (hn : pc + 3 = np) : RowOk p l e g σ R s m args below meth c ex M0 Q pc np (s_newa σ t n) := by
  intro J hJ ls st M nc ns h
  subst hn
  unfold s_newa at h
  split at h
  · rename_i v r
    split at h
    · rename_i hb
      obtain ⟨rfl, h⟩ := h
      simp only [Bool.and_eq_true] at hb
      have hb1 := Nat.le_of_ble_eq_true hb.1
      have hb2 := Nat.le_of_ble_eq_true hb.2
      intro H locs lsM hl ok le vl vs hS hF
      have hG := X.2.2.2.2.2.2.1
      have hRR := X.2.2.2.2.2.2.2.1
      have hlt := e_St_lt hS
      have e1c : (grm σ).cells = gmc σ := rfl
      have e1s : (grm σ).slots = gms σ := rfl
      have hz : gZ g ≤ mN M := Nat.le_trans hG.2.2.2.2.1 (by rw [← hS.1]; exact hF.1)
      obtain ⟨_, _, _, _, _, hra⟩ := (hG.1.2 ai _ (hC g)).2
      have cl : (nI n).toNatClampNeg = n := nI_clamp (by omega)
      have hao' : va_AO C s := by first | exact hG.2.2.2.2.2.2.2.2.2.2.2.2.1 C hao | exact hG.2.2.2.2.2.2.2.2.2.2.2.2 C hao
      refine W.anew X.1 X.2.1 X.2.2.2.2.1 (e_wd0 hG hcl) hao'.use rfl hd rfl (nI_nn0 (by omega)) (by rw [cl]; omega) (by rw [hRR]; omega) (by rw [cl, hRR]; omega) (fun cA kA comp f1 f2 f3 f4 => ?_)
      rw [cl]
      have hcA : cA = gC g ai := Option.some.inj (f1.symm.trans hra)
      generalize hH1 : H.push ({ cls := cA, slots := Array.replicate n .null, vm := .none } : Cell) = H1
      have z1 : H1.size = mN M + 1 := by rw [← hH1, Array.size_push, hS.1]
      have e1 : H1[mN M]? = some (arrV cA n (fun _ => .null)) := by rw [← hH1, ← hS.1, Array.getElem?_push_size, ← arrV_new]
      have o1 : ∀ q : Nat, q < mN M → H1[q]? = H[q]? := fun q hq => by rw [← hH1, Array.getElem?_push, if_neg (by rw [hS.1]; omega)]
      have hn : va_at (gD g) vwCl (mN M, e_ent g (sNew M t) (mN M)) H1 := by
        rw [e_ent_a mT_sNew_e hk]
        show H1[mN M]? = some (vp_cell _ _)
        rw [e_arrR hai.1, e1, hcA]
        have h3 : mP (sNew M t) (mN M) = fun _ => none := funext fun k => by rw [mP_sNew, if_pos rfl]
        rw [h3]
        rfl
      have le1 := e_le_sNew (t := t) hlt
      rw [hS.1]
      exact hJ _ _ _ _ _ _ h H1 locs lsM hl (e_ok_sNew ok hlt (by rw [hk]; exact fun z => by cases z) hpf) (le.tr le1) (vl.le le1) ⟨Or.inl ⟨List.mem_append_right _ (List.mem_singleton.mpr rfl), mT_sNew_e⟩, vs.2.le le1⟩ (e_St_new hz hS z1 o1 hn) (va_S_new hF hS.1 z1 o1)
    · exact h.elim
  · exact h.elim
/-- a reference goes into an array that is being made -/
def e_aC : Nat → Option (Nat × Nat)
  | 106 => some (3, 5) | 108 => some (8, 6) | 115 => some (2, 8) | 120 => some (12, 7) | 121 => some (2, 7) | _ => none
def s_aast : ES := fun _ _ nx ls st M nc ns => match st with
  | .inr (.inr (.inr (.inr v))) :: .inl i :: .inr (.inr (.inr (.inr q))) :: r => match e_aC q.1, Nat.beq v.1 (e_pt q.1 0) with
    | some n, true => vp_in i n.1 ∧ nx ls r (sP M q.2 i.toNatClampNeg v.2) nc ns
    | _, _ => False
  | _ => False
theorem e_aC_kd {t : Nat} {q : Nat × Nat} (h : e_aC t = some q) : e_kd t = some (.inr (q.2, q.1)) ∧ (∀ j, e_pf t j = none) ∧ (∀ j, e_pt t j = e_pt t 0) ∧ ∃ ci, ci < 12 ∧ e_kd (e_pt t 0) = some (.inl ci) ∧ ∀ g : EG, (e_tys g)[q.2]? = some (gC g q.2, .object (e_cR ci)) := by
  unfold e_aC at h
  split at h
  · cases h; exact ⟨rfl, fun _ => rfl, fun _ => rfl, 8, by decide, rfl, fun _ => rfl⟩
  · cases h; exact ⟨rfl, fun _ => rfl, fun _ => rfl, 1, by decide, rfl, fun _ => rfl⟩
  · cases h; exact ⟨rfl, fun _ => rfl, fun _ => rfl, 6, by decide, rfl, fun _ => rfl⟩
  · cases h; exact ⟨rfl, fun _ => rfl, fun _ => rfl, 2, by decide, rfl, fun _ => rfl⟩
  · cases h; exact ⟨rfl, fun _ => rfl, fun _ => rfl, 2, by decide, rfl, fun _ => rfl⟩
  · cases h
theorem r_aast (X : Cx p l g σ R s m args meth c own) (hd : decode (gcc σ) pc = .ok (.aastore, 1)) (hn : pc + 1 = np) : RowOk p l e g σ R s m args below meth c ex M0 Q pc np s_aast := by
  intro J hJ ls st M nc ns h
  subst hn
  unfold s_aast at h
  split at h
  · split at h
    · rename_i v i q r x y n hq hv
      intro H locs lsM hl ok le vl vs hS hF
      have hG := X.2.2.2.2.2.2.1
      obtain ⟨hkd, hpf, hpt, ci, hci, hkv, hty⟩ := e_aC_kd hq
      have hv1 := Nat.eq_of_beq_eq_true hv
      obtain ⟨hm, ht⟩ := e_vok_in vs.2.2.1 hkd
      obtain ⟨hmv, htv⟩ := e_vok_in vs.1 (by rw [hv1]; exact hkv)
      obtain ⟨k0, hk0⟩ := e_wd_get (g := g) hm
      have hk1 := hk0
      have h5 : 5 ≤ n.2 := by
        unfold e_aC at hq
        split at hq <;> first | (cases hq; done) | (cases hq; decide)
      rw [e_ent_a ht hkd, e_arrR (by omega)] at hk0
      obtain ⟨k2, hk2⟩ := e_wd_get (g := g) hmv
      rw [e_ent_o (htv.trans hv1) hkv] at hk2
      have ok1 : e_ok (sP M q.2 i.toNatClampNeg v.2) := e_ok_sP ok (Or.inr ⟨hmv, by rw [ht, htv, hpt]; exact hv1⟩) (by rw [ht]; exact hpf _)
      have le1 : e_le none M (sP M q.2 i.toNatClampNeg v.2) := fun _ h9 _ => ⟨h9, rfl⟩
      obtain ⟨r', hr', cellV, g1, g2, g3, -⟩ := hS.2.1 k2 _ hk2
      have hcls := (hG.1.1 ci _ (e_cl_at ci hci)).2
      obtain ⟨kA, comp, k1, k3, k4, -⟩ := (hG.1.2 n.2 _ (hty g)).2
      have hcomp : comp = (gD g).1 ci := Option.some.inj (k4.symm.trans hcls.1)
      subst hcomp
      obtain ⟨kC, hkC, -⟩ := hcls.2
      have hlt : i.toNatClampNeg < n.1 := Nat.not_le.mp fun q => h.1 (Or.inr q)
      have h0 : ¬ i < 0 := fun q => h.1 (Or.inl q)
      refine W.aast X.1 X.2.1 (hS.2.1 k0 _ hk0) (fun q h => by cases h) (fun h => by cases h) k1 k3 rfl hkC ⟨h0, by show _ < (arrV _ _ _).slots.size; rw [arrV_size]; exact hlt⟩ g1 (fun q h => by rw [g3] at h; cases h) (by rw [g2]; exact hkC) (by rw [g2]; exact va_assign hcls) rfl rfl hd fun H1 e1 z oq => ?_
      refine hJ _ _ _ _ _ _ h.2 H1 _ lsM hl ok1 le (vl.le le1) (vs.2.2.2.le le1) ?_ (hF.put z oq (hS.2.2.2 k0 _ hk0))
      refine m_set hS hm hk1 (en := .inl (gC g n.2, n.1, .inr (.inr (.inr (.inr (mP (sP M q.2 i.toNatClampNeg v.2) q.2)))))) ?_ z oq rfl rfl ?_ (fun b hb => e_ent_sP hb)
      · show H1[q.2]? = some (vp_cell _ _)
        rw [e1]
        rw [vp_cell_q, vp_cell_q, arrV_store]
        congr 2
        funext j
        by_cases hj : j = i.toNatClampNeg
        · subst hj
          simp [updV, mP, sP, e_up, va_rf]
        · simp [updV, mP, sP, e_up, hj]
      · rw [e_ent_a (M := sP M q.2 i.toNatClampNeg v.2) ht hkd, e_arrR (by omega)]
    · exact h.elim
  · exact h.elim
/-- a constructor is called -/
def s_callI (l : Launch) (g : EG) (σ τ : SG) : ES := fun ret _ nx ls st M nc ns => match st with
  | .inr (.inr (.inr (.inr q))) :: r => match e_rm τ σ r nc ns with
    | true => Ct l g τ [.inr (.inr (.inr (.inr q)))] M (e_aft τ ret nx ls r nc ns)
    | false => False
  | _ => False
theorem r_callIN (X : Cx p l g σ R s m args meth c own) (hh : ghh σ = []) {τ : SG} {index : Nat} {host : String} (hd : decode (gcc σ) pc = .ok (.invokespecial index, 3)) (hlk : Cond.methodLinkNest own index (gy τ) host ∈ e_nest) (hin : Cond.instanceMethod (gy τ) ∈ e_good) (hc : e_cs τ) (hct : gct τ = false) (hret : grt τ = none) (hnm : (gy τ).name = "<init>") (hnp : gnp τ = 0) (hR : e_fits τ σ) (hn : pc + 3 = np) : RowOk p l e g σ R s m args below meth c ex M0 Q pc np (s_callI l g σ τ) := by
  intro J hJ ls st M nc ns h
  subst hn
  unfold s_callI at h
  split at h
  · rename_i q r
    intro H locs lsM hl ok le vl vs hS hF
    split at h
    · rename_i hrm
      obtain ⟨w1, w2, w3⟩ := e_rm_t hrm
      have hR' := X.2.2.2.2.2.2.2.1
      have cn := e_callN X hc hlk hR
      rw [hret] at cn
      exact e_after X hh hct hJ hl le vl vs.2 hF (vx_runIN (b := q.2) (As := []) (e_fix X) (h ok ⟨vs.1, trivial⟩) ⟨cn, hnm, e_wd0 X.2.2.2.2.2.2.1 hin⟩ (e_pre X hS hF [.ref q.2]) rfl (by rw [hnp]; rfl) (by rw [← X.2.2.2.1]; exact hl.1.trans X.2.2.2.1.symm) rfl (lv_room w1) hd ⟨by rw [hR']; exact w2, by rw [hR']; exact w3⟩)
    · exact h.elim
  · exact h.elim
theorem r_callI (X : Cx p l g σ R s m args meth c own) (hh : ghh σ = []) {τ : SG} {index : Nat} (hd : decode (gcc σ) pc = .ok (.invokespecial index, 3)) (hlk : Cond.methodLink own index (gy τ) ∈ e_good) (hin : Cond.instanceMethod (gy τ) ∈ e_good) (hc : e_cs τ) (hct : gct τ = false) (hret : grt τ = none) (hnm : (gy τ).name = "<init>") (hnp : gnp τ = 0) (hR : e_fits τ σ) (hn : pc + 3 = np) : RowOk p l e g σ R s m args below meth c ex M0 Q pc np (s_callI l g σ τ) := by
  intro J hJ ls st M nc ns h
  subst hn
  unfold s_callI at h
  split at h
  · rename_i q r
    intro H locs lsM hl ok le vl vs hS hF
    split at h
    · rename_i hrm
      obtain ⟨w1, w2, w3⟩ := e_rm_t hrm
      have hR' := X.2.2.2.2.2.2.2.1
      have cn := e_callB X hc hlk hR
      rw [hret] at cn
      exact e_after X hh hct hJ hl le vl vs.2 hF (vx_runI (b := q.2) (As := []) (e_fix X) (h ok ⟨vs.1, trivial⟩) ⟨cn, hnm, e_wd0 X.2.2.2.2.2.2.1 hin⟩ (e_pre X hS hF [.ref q.2]) rfl (by rw [hnp]; rfl) (by rw [← X.2.2.2.1]; exact hl.1.trans X.2.2.2.1.symm) rfl (lv_room w1) hd ⟨by rw [hR']; exact w2, by rw [hR']; exact w3⟩)
    · exact h.elim
  · exact h.elim
end RN
/-- tags may change, where the heap stays -/
def e_gh (g : EG) (ex : Option Nat) (M0 : EM) (K : Nat → EK) : Prop := ∀ t ls ls' st st' M M' nc ns, M'.2 = M.2 → (∀ b, e_kd (mT M' b) = e_kd (mT M b)) → e_asc 0 ls' = e_asc 0 ls → st'.map e_tv = st.map e_tv → ((∀ b ∈ mA M, b < mN M) → e_ok M → e_le ex M0 M → e_allL g M ls → e_all g M st → e_ok M' ∧ e_le ex M0 M' ∧ e_allL g M' ls' ∧ e_all g M' st') → K t ls' st' M' nc ns → K t ls st M nc ns
/-- what holds at every place -/
def e_kn (g : EG) (ex : Option Nat) (M0 : EM) (K : Nat → EK) : Prop := ∀ t ls st M nc ns, ((∀ b ∈ mA M, b < mN M) → e_ok M → e_le ex M0 M → e_allL g M ls → e_all g M st → K t ls st M nc ns) → K t ls st M nc ns
theorem sem_ofG {l : Launch} {g : EG} {σ : SG} {own : String} {prog : List (Nat × ES)} {av : List EV} {M : EM} {Q : EO → EM → Prop} (hl0 : l.stackTraces = false) (hm : e_mt σ own) (hp : e_okp l g σ own prog) (hw : Nat.ble (e_wt av) (gml σ) = true)
    (body : ∀ K : Nat → EK, e_clo prog (e_ret σ Q) K → e_wk K → e_gh g (e_ex σ av) M K → e_kn g (e_ex σ av) M K → K 0 (e_l0 (gml σ) av) [] M 0 0) : Ct l g σ av M Q := by
  intro ok hv
  obtain ⟨hcls, hpl, hhh⟩ := hm
  have hwd : gwd σ = Cond.code (gy σ) (gcc σ) (gml σ) (grt σ) := by unfold gwd; rw [hhh]
  refine vx_ofW (cc := gcc σ) (maxL := gml σ) (ret := grt σ) (ws' := []) hpl (by unfold gws; rw [hwd]) ?_
  intro p e s m args below meth c s₁ B hml hex hPc
  obtain ⟨rfl, hG, hS⟩ := hPc
  have X : Cx p l g σ (headSpec (gws σ) (grm σ)).room s m ((av.map e_tv).toArray) meth c own := by
    refine ⟨B.exec, B.bytes, B.returns, hml, ?_, B.notSynchronized, hG, rfl, hl0, (name_of_methodNamed B.named B.method).1, ?_⟩
    · rw [← hcls]; exact findClass_of_methodNamed B.named
    · rw [hhh]
      cases ht : c.exceptionTable.toList with
      | nil => rfl
      | cons x r => exact (hex x (by rw [ht]; exact List.mem_cons_self)).elim
  have hb := body (fun t ls st M' nc ns => Run p l e g σ (headSpec (gws σ) (grm σ)).room s m ((av.map e_tv).toArray) below meth c (e_ex σ av) M Q t ls st M' nc ns) (e_each_mono (fun pc np f h => h) (hp p e _ s m _ below meth c (e_ex σ av) M Q X)) ?_ ?_ ?_
  · have hlen : (lg_sl (av.map e_tv)).length ≤ gml σ := Nat.le_trans e_sl_le (Nat.le_of_ble_eq_true hw)
    have hl := lv_entry (av.map e_tv) (n := gml σ) hlen
    rw [lg_entry_eq]
    exact hb s.heap [] _ (e_has_sub hl (fun q hq => e_l0_in hq)) ok e_le.rf (e_l0_all hv) trivial hS va_S.rf
  · intro t ls ls' st M' nc ns hsub h H locs lsM hl ok le vl vs hS hF
    exact h H locs lsM (e_has_sub hl (fun q hq => e_asc_sub hsub hq)) ok le (e_allL_sub hsub vl) vs hS hF
  · intro t ls ls' st st' M1 M2 nc ns h2 hk hls hst hc h H locs lsM hl ok le vl vs hS hF
    have hlt := e_St_lt hS
    obtain ⟨ok', le', vl', vs'⟩ := hc hlt ok le vl vs
    have hN : mN M2 = mN M1 := congrArg (fun z => z.2.2.2.1) h2
    have hI : mI M2 = mI M1 := congrArg (fun z => z.1) h2
    have hL : mL M2 = mL M1 := congrArg (fun z => z.2.1) h2
    have hP : mP M2 = mP M1 := congrArg (fun z => z.2.2.1) h2
    have hA : mA M2 = mA M1 := congrArg (fun z => z.2.2.2.2) h2
    have he : ∀ b, e_ent g M2 b = e_ent g M1 b := fun b => by
      unfold e_ent
      rw [hk b]
      cases e_kd (mT M1 b) with
      | none => rfl
      | some q =>
        cases q with
        | inl ci =>
          simp only [Sum.inr.injEq, Prod.mk.injEq, true_and]
          apply List.map_congr_left
          intro k _
          unfold e_fv
          rw [hI, hL, hP]
        | inr q =>
          simp only [Sum.inl.injEq, Prod.mk.injEq, true_and]
          unfold e_arr
          rw [hI, hL, hP]
    have hwd2 : e_wd g M2 = e_wd g M1 := by
      unfold e_wd
      rw [hA]
      exact va_pl_congr he
    have hS2 : e_St g M2 H := ⟨hS.1.trans hN.symm, by rw [hwd2]; exact hS.2.1, by rw [hwd2]; exact hS.2.2⟩
    have r := h H locs lsM (by rw [hls]; exact hl) ok' le' vl' vs' hS2 hF
    rw [hst] at r
    exact r
  · intro t ls st M1 nc ns h H locs lsM hl ok le vl vs hS hF
    exact h (e_St_lt hS) ok le vl vs H locs lsM hl ok le vl vs hS hF
set_option maxRecDepth 100000 in
theorem uw_0a : ∀ w ∈ u_ws (e_cR 0) (e_cF 0) (e_cN 0), w ∈ e_tbl ∧ goodWord w = true := by decide +kernel
theorem uw_0 : ∀ w ∈ u_ws (e_cR 0) (e_cF 0) (e_cN 0), w ∈ e_good := fun w hw => List.mem_filter.mpr (uw_0a w hw)
set_option maxRecDepth 100000 in
theorem uw_1a : ∀ w ∈ u_ws (e_cR 1) (e_cF 1) (e_cN 1), w ∈ e_tbl ∧ goodWord w = true := by decide +kernel
theorem uw_1 : ∀ w ∈ u_ws (e_cR 1) (e_cF 1) (e_cN 1), w ∈ e_good := fun w hw => List.mem_filter.mpr (uw_1a w hw)
set_option maxRecDepth 100000 in
theorem uw_2a : ∀ w ∈ u_ws (e_cR 2) (e_cF 2) (e_cN 2), w ∈ e_tbl ∧ goodWord w = true := by decide +kernel
theorem uw_2 : ∀ w ∈ u_ws (e_cR 2) (e_cF 2) (e_cN 2), w ∈ e_good := fun w hw => List.mem_filter.mpr (uw_2a w hw)
set_option maxRecDepth 100000 in
theorem uw_3a : ∀ w ∈ u_ws (e_cR 3) (e_cF 3) (e_cN 3), w ∈ e_tbl ∧ goodWord w = true := by decide +kernel
theorem uw_3 : ∀ w ∈ u_ws (e_cR 3) (e_cF 3) (e_cN 3), w ∈ e_good := fun w hw => List.mem_filter.mpr (uw_3a w hw)
set_option maxRecDepth 100000 in
theorem uw_4a : ∀ w ∈ u_ws (e_cR 4) (e_cF 4) (e_cN 4), w ∈ e_tbl ∧ goodWord w = true := by decide +kernel
theorem uw_4 : ∀ w ∈ u_ws (e_cR 4) (e_cF 4) (e_cN 4), w ∈ e_good := fun w hw => List.mem_filter.mpr (uw_4a w hw)
set_option maxRecDepth 100000 in
theorem uw_5a : ∀ w ∈ u_ws (e_cR 5) (e_cF 5) (e_cN 5), w ∈ e_tbl ∧ goodWord w = true := by decide +kernel
theorem uw_5 : ∀ w ∈ u_ws (e_cR 5) (e_cF 5) (e_cN 5), w ∈ e_good := fun w hw => List.mem_filter.mpr (uw_5a w hw)
set_option maxRecDepth 100000 in
theorem uw_6a : ∀ w ∈ u_ws (e_cR 6) (e_cF 6) (e_cN 6), w ∈ e_tbl ∧ goodWord w = true := by decide +kernel
theorem uw_6 : ∀ w ∈ u_ws (e_cR 6) (e_cF 6) (e_cN 6), w ∈ e_good := fun w hw => List.mem_filter.mpr (uw_6a w hw)
set_option maxRecDepth 100000 in
theorem uw_7a : ∀ w ∈ u_ws (e_cR 7) (e_cF 7) (e_cN 7), w ∈ e_tbl ∧ goodWord w = true := by decide +kernel
theorem uw_7 : ∀ w ∈ u_ws (e_cR 7) (e_cF 7) (e_cN 7), w ∈ e_good := fun w hw => List.mem_filter.mpr (uw_7a w hw)
set_option maxRecDepth 100000 in
theorem uw_8a : ∀ w ∈ u_ws (e_cR 8) (e_cF 8) (e_cN 8), w ∈ e_tbl ∧ goodWord w = true := by decide +kernel
theorem uw_8 : ∀ w ∈ u_ws (e_cR 8) (e_cF 8) (e_cN 8), w ∈ e_good := fun w hw => List.mem_filter.mpr (uw_8a w hw)
set_option maxRecDepth 100000 in
theorem uw_9a : ∀ w ∈ u_ws (e_cR 9) (e_cF 9) (e_cN 9), w ∈ e_tbl ∧ goodWord w = true := by decide +kernel
theorem uw_9 : ∀ w ∈ u_ws (e_cR 9) (e_cF 9) (e_cN 9), w ∈ e_good := fun w hw => List.mem_filter.mpr (uw_9a w hw)
set_option maxRecDepth 100000 in
theorem uw_10a : ∀ w ∈ u_ws (e_cR 10) (e_cF 10) (e_cN 10), w ∈ e_tbl ∧ goodWord w = true := by decide +kernel
theorem uw_10 : ∀ w ∈ u_ws (e_cR 10) (e_cF 10) (e_cN 10), w ∈ e_good := fun w hw => List.mem_filter.mpr (uw_10a w hw)
set_option maxRecDepth 100000 in
theorem uw_11a : ∀ w ∈ u_ws (e_cR 11) (e_cF 11) (e_cN 11), w ∈ e_tbl ∧ goodWord w = true := by decide +kernel
theorem uw_11 : ∀ w ∈ u_ws (e_cR 11) (e_cF 11) (e_cN 11), w ∈ e_good := fun w hw => List.mem_filter.mpr (uw_11a w hw)
theorem w1_159 : (Jvm.Cond.arrayClass Jvm.ClassFile.FieldType.int) ∈ e_good := List.mem_filter.mpr ⟨tm_1 _ (List.mem_of_getElem? (i := 159) rfl), rfl⟩
theorem w1_160 : (Jvm.Cond.arrayClass Jvm.ClassFile.FieldType.long) ∈ e_good := List.mem_filter.mpr ⟨tm_1 _ (List.mem_of_getElem? (i := 160) rfl), rfl⟩
theorem w1_178 : (Jvm.Cond.classLink "CalendarSync$Reader" (22 : Nat) "CalendarSync$Text") ∈ e_good := List.mem_filter.mpr ⟨tm_1 _ (List.mem_of_getElem? (i := 178) rfl), rfl⟩
theorem w1_179 : (Jvm.Cond.instantiable "CalendarSync$Text" (7 : Nat)) ∈ e_good := List.mem_filter.mpr ⟨tm_1 _ (List.mem_of_getElem? (i := 179) rfl), rfl⟩
theorem w1_181 : (Jvm.Cond.instanceMethod ({ cls := "CalendarSync$Text", name := "<init>", desc := "()V" } : Jvm.MethodName)) ∈ e_good := List.mem_filter.mpr ⟨tm_1 _ (List.mem_of_getElem? (i := 181) rfl), rfl⟩
theorem w1_182 : (Jvm.Cond.code ({ cls := "CalendarSync$Text", name := "<init>", desc := "()V" } : Jvm.MethodName) prog_10_method_1_code (1 : Nat) (Option.none : Option Jvm.ClassFile.FieldType)) ∈ e_good := List.mem_filter.mpr ⟨tm_1 _ (List.mem_of_getElem? (i := 182) rfl), rfl⟩
theorem w1_183 : (Jvm.Cond.methodLink "CalendarSync$Text" (3 : Nat) ({ cls := "java/lang/Object", name := "<init>", desc := "()V" } : Jvm.MethodName)) ∈ e_good := List.mem_filter.mpr ⟨tm_1 _ (List.mem_of_getElem? (i := 183) rfl), rfl⟩
theorem w1_210 : (Jvm.Cond.arrayClass Jvm.ClassFile.FieldType.byte) ∈ e_good := List.mem_filter.mpr ⟨tm_1 _ (List.mem_of_getElem? (i := 210) rfl), rfl⟩
theorem w1_35 : (Jvm.Cond.code ({ cls := "CalendarSync", name := "<init>", desc := "()V" } : Jvm.MethodName) prog_1_method_1_code (1 : Nat) (Option.none : Option Jvm.ClassFile.FieldType)) ∈ e_good := List.mem_filter.mpr ⟨tm_1 _ (List.mem_of_getElem? (i := 35) rfl), rfl⟩
theorem w1_36 : (Jvm.Cond.methodLink "CalendarSync" (1 : Nat) ({ cls := "java/lang/Object", name := "<init>", desc := "()V" } : Jvm.MethodName)) ∈ e_good := List.mem_filter.mpr ⟨tm_1 _ (List.mem_of_getElem? (i := 36) rfl), rfl⟩
theorem w1_37 : (Jvm.Cond.instanceMethod ({ cls := "java/lang/Object", name := "<init>", desc := "()V" } : Jvm.MethodName)) ∈ e_good := List.mem_filter.mpr ⟨tm_1 _ (List.mem_of_getElem? (i := 37) rfl), rfl⟩
theorem w1_38 : (Jvm.Cond.code ({ cls := "java/lang/Object", name := "<init>", desc := "()V" } : Jvm.MethodName) object_method_1_code (1 : Nat) (Option.none : Option Jvm.ClassFile.FieldType)) ∈ e_good := List.mem_filter.mpr ⟨tm_1 _ (List.mem_of_getElem? (i := 38) rfl), rfl⟩
theorem w1_39 : (Jvm.Cond.classLink "CalendarSync" (7 : Nat) "CalendarSync$Reader") ∈ e_good := List.mem_filter.mpr ⟨tm_1 _ (List.mem_of_getElem? (i := 39) rfl), rfl⟩
theorem w1_40 : (Jvm.Cond.instantiable "CalendarSync$Reader" (9 : Nat)) ∈ e_good := List.mem_filter.mpr ⟨tm_1 _ (List.mem_of_getElem? (i := 40) rfl), rfl⟩
theorem w1_42 : (Jvm.Cond.instanceMethod ({ cls := "CalendarSync$Reader", name := "<init>", desc := "()V" } : Jvm.MethodName)) ∈ e_good := List.mem_filter.mpr ⟨tm_1 _ (List.mem_of_getElem? (i := 42) rfl), rfl⟩
theorem w1_43 : (Jvm.Cond.code ({ cls := "CalendarSync$Reader", name := "<init>", desc := "()V" } : Jvm.MethodName) prog_8_method_1_code (1 : Nat) (Option.none : Option Jvm.ClassFile.FieldType)) ∈ e_good := List.mem_filter.mpr ⟨tm_1 _ (List.mem_of_getElem? (i := 43) rfl), rfl⟩
theorem w1_44 : (Jvm.Cond.methodLink "CalendarSync$Reader" (3 : Nat) ({ cls := "java/lang/Object", name := "<init>", desc := "()V" } : Jvm.MethodName)) ∈ e_good := List.mem_filter.mpr ⟨tm_1 _ (List.mem_of_getElem? (i := 44) rfl), rfl⟩
theorem w1_45 : (Jvm.Cond.classLink "CalendarSync$Reader" (9 : Nat) "CalendarSync$Place") ∈ e_good := List.mem_filter.mpr ⟨tm_1 _ (List.mem_of_getElem? (i := 45) rfl), rfl⟩
theorem w1_46 : (Jvm.Cond.instantiable "CalendarSync$Place" (3 : Nat)) ∈ e_good := List.mem_filter.mpr ⟨tm_1 _ (List.mem_of_getElem? (i := 46) rfl), rfl⟩
theorem w1_48 : (Jvm.Cond.instanceMethod ({ cls := "CalendarSync$Place", name := "<init>", desc := "()V" } : Jvm.MethodName)) ∈ e_good := List.mem_filter.mpr ⟨tm_1 _ (List.mem_of_getElem? (i := 48) rfl), rfl⟩
theorem w1_49 : (Jvm.Cond.code ({ cls := "CalendarSync$Place", name := "<init>", desc := "()V" } : Jvm.MethodName) prog_7_method_1_code (1 : Nat) (Option.none : Option Jvm.ClassFile.FieldType)) ∈ e_good := List.mem_filter.mpr ⟨tm_1 _ (List.mem_of_getElem? (i := 49) rfl), rfl⟩
theorem w1_50 : (Jvm.Cond.methodLink "CalendarSync$Place" (3 : Nat) ({ cls := "java/lang/Object", name := "<init>", desc := "()V" } : Jvm.MethodName)) ∈ e_good := List.mem_filter.mpr ⟨tm_1 _ (List.mem_of_getElem? (i := 50) rfl), rfl⟩
theorem w1_51 : (Jvm.Cond.classLink "CalendarSync$Place" (15 : Nat) "CalendarSync$Zone") ∈ e_good := List.mem_filter.mpr ⟨tm_1 _ (List.mem_of_getElem? (i := 51) rfl), rfl⟩
theorem w1_53 : (Jvm.Cond.instantiable "CalendarSync$Zone" (4 : Nat)) ∈ e_good := List.mem_filter.mpr ⟨tm_1 _ (List.mem_of_getElem? (i := 53) rfl), rfl⟩
theorem w1_55 : (Jvm.Cond.instanceMethod ({ cls := "CalendarSync$Zone", name := "<init>", desc := "()V" } : Jvm.MethodName)) ∈ e_good := List.mem_filter.mpr ⟨tm_1 _ (List.mem_of_getElem? (i := 55) rfl), rfl⟩
theorem w1_56 : (Jvm.Cond.code ({ cls := "CalendarSync$Zone", name := "<init>", desc := "()V" } : Jvm.MethodName) prog_11_method_1_code (1 : Nat) (Option.none : Option Jvm.ClassFile.FieldType)) ∈ e_good := List.mem_filter.mpr ⟨tm_1 _ (List.mem_of_getElem? (i := 56) rfl), rfl⟩
theorem w1_57 : (Jvm.Cond.methodLink "CalendarSync$Zone" (3 : Nat) ({ cls := "java/lang/Object", name := "<init>", desc := "()V" } : Jvm.MethodName)) ∈ e_good := List.mem_filter.mpr ⟨tm_1 _ (List.mem_of_getElem? (i := 57) rfl), rfl⟩
theorem w1_76 : (Jvm.Cond.classLink "CalendarSync$Place" (22 : Nat) "CalendarSync$Event") ∈ e_good := List.mem_filter.mpr ⟨tm_1 _ (List.mem_of_getElem? (i := 76) rfl), rfl⟩
theorem w1_78 : (Jvm.Cond.instantiable "CalendarSync$Event" (17 : Nat)) ∈ e_good := List.mem_filter.mpr ⟨tm_1 _ (List.mem_of_getElem? (i := 78) rfl), rfl⟩
theorem w1_80 : (Jvm.Cond.instanceMethod ({ cls := "CalendarSync$Event", name := "<init>", desc := "()V" } : Jvm.MethodName)) ∈ e_good := List.mem_filter.mpr ⟨tm_1 _ (List.mem_of_getElem? (i := 80) rfl), rfl⟩
theorem w1_81 : (Jvm.Cond.code ({ cls := "CalendarSync$Event", name := "<init>", desc := "()V" } : Jvm.MethodName) prog_4_method_1_code (1 : Nat) (Option.none : Option Jvm.ClassFile.FieldType)) ∈ e_good := List.mem_filter.mpr ⟨tm_1 _ (List.mem_of_getElem? (i := 81) rfl), rfl⟩
theorem w1_82 : (Jvm.Cond.methodLink "CalendarSync$Event" (3 : Nat) ({ cls := "java/lang/Object", name := "<init>", desc := "()V" } : Jvm.MethodName)) ∈ e_good := List.mem_filter.mpr ⟨tm_1 _ (List.mem_of_getElem? (i := 82) rfl), rfl⟩
theorem w2_10 : (Jvm.Cond.classLink "CalendarSync$Exchange" (18 : Nat) "CalendarSync$Side") ∈ e_good := List.mem_filter.mpr ⟨tm_2 _ (List.mem_of_getElem? (i := 10) rfl), rfl⟩
theorem w2_12 : (Jvm.Cond.instantiable "CalendarSync$Side" (5 : Nat)) ∈ e_good := List.mem_filter.mpr ⟨tm_2 _ (List.mem_of_getElem? (i := 12) rfl), rfl⟩
theorem w2_14 : (Jvm.Cond.instanceMethod ({ cls := "CalendarSync$Side", name := "<init>", desc := "()V" } : Jvm.MethodName)) ∈ e_good := List.mem_filter.mpr ⟨tm_2 _ (List.mem_of_getElem? (i := 14) rfl), rfl⟩
theorem w2_15 : (Jvm.Cond.code ({ cls := "CalendarSync$Side", name := "<init>", desc := "()V" } : Jvm.MethodName) prog_9_method_1_code (1 : Nat) (Option.none : Option Jvm.ClassFile.FieldType)) ∈ e_good := List.mem_filter.mpr ⟨tm_2 _ (List.mem_of_getElem? (i := 15) rfl), rfl⟩
theorem w2_16 : (Jvm.Cond.methodLink "CalendarSync$Side" (3 : Nat) ({ cls := "java/lang/Object", name := "<init>", desc := "()V" } : Jvm.MethodName)) ∈ e_good := List.mem_filter.mpr ⟨tm_2 _ (List.mem_of_getElem? (i := 16) rfl), rfl⟩
theorem w2_17 : (Jvm.Cond.classLink "CalendarSync$Side" (9 : Nat) "CalendarSync$Place") ∈ e_good := List.mem_filter.mpr ⟨tm_2 _ (List.mem_of_getElem? (i := 17) rfl), rfl⟩
theorem w2_2 : (Jvm.Cond.classLink "CalendarSync" (16 : Nat) "CalendarSync$Exchange") ∈ e_good := List.mem_filter.mpr ⟨tm_2 _ (List.mem_of_getElem? (i := 2) rfl), rfl⟩
theorem w2_3 : (Jvm.Cond.instantiable "CalendarSync$Exchange" (4 : Nat)) ∈ e_good := List.mem_filter.mpr ⟨tm_2 _ (List.mem_of_getElem? (i := 3) rfl), rfl⟩
theorem w2_5 : (Jvm.Cond.instanceMethod ({ cls := "CalendarSync$Exchange", name := "<init>", desc := "()V" } : Jvm.MethodName)) ∈ e_good := List.mem_filter.mpr ⟨tm_2 _ (List.mem_of_getElem? (i := 5) rfl), rfl⟩
theorem w2_6 : (Jvm.Cond.code ({ cls := "CalendarSync$Exchange", name := "<init>", desc := "()V" } : Jvm.MethodName) prog_5_method_1_code (1 : Nat) (Option.none : Option Jvm.ClassFile.FieldType)) ∈ e_good := List.mem_filter.mpr ⟨tm_2 _ (List.mem_of_getElem? (i := 6) rfl), rfl⟩
theorem w2_61 : (Jvm.Cond.classLink "CalendarSync" (23 : Nat) "CalendarSync$History") ∈ e_good := List.mem_filter.mpr ⟨tm_2 _ (List.mem_of_getElem? (i := 61) rfl), rfl⟩
theorem w2_62 : (Jvm.Cond.instantiable "CalendarSync$History" (3 : Nat)) ∈ e_good := List.mem_filter.mpr ⟨tm_2 _ (List.mem_of_getElem? (i := 62) rfl), rfl⟩
theorem w2_64 : (Jvm.Cond.instanceMethod ({ cls := "CalendarSync$History", name := "<init>", desc := "()V" } : Jvm.MethodName)) ∈ e_good := List.mem_filter.mpr ⟨tm_2 _ (List.mem_of_getElem? (i := 64) rfl), rfl⟩
theorem w2_65 : (Jvm.Cond.code ({ cls := "CalendarSync$History", name := "<init>", desc := "()V" } : Jvm.MethodName) prog_6_method_1_code (1 : Nat) (Option.none : Option Jvm.ClassFile.FieldType)) ∈ e_good := List.mem_filter.mpr ⟨tm_2 _ (List.mem_of_getElem? (i := 65) rfl), rfl⟩
theorem w2_66 : (Jvm.Cond.methodLink "CalendarSync$History" (1 : Nat) ({ cls := "java/lang/Object", name := "<init>", desc := "()V" } : Jvm.MethodName)) ∈ e_good := List.mem_filter.mpr ⟨tm_2 _ (List.mem_of_getElem? (i := 66) rfl), rfl⟩
theorem w2_67 : (Jvm.Cond.classLink "CalendarSync$History" (7 : Nat) "CalendarSync$Exchange") ∈ e_good := List.mem_filter.mpr ⟨tm_2 _ (List.mem_of_getElem? (i := 67) rfl), rfl⟩
theorem w2_7 : (Jvm.Cond.methodLink "CalendarSync$Exchange" (3 : Nat) ({ cls := "java/lang/Object", name := "<init>", desc := "()V" } : Jvm.MethodName)) ∈ e_good := List.mem_filter.mpr ⟨tm_2 _ (List.mem_of_getElem? (i := 7) rfl), rfl⟩
theorem w2_8 : (Jvm.Cond.classLink "CalendarSync$Exchange" (9 : Nat) "CalendarSync$Place") ∈ e_good := List.mem_filter.mpr ⟨tm_2 _ (List.mem_of_getElem? (i := 8) rfl), rfl⟩
theorem w2_81 : (Jvm.Cond.classLink "CalendarSync" (38 : Nat) "CalendarSync$Agenda") ∈ e_good := List.mem_filter.mpr ⟨tm_2 _ (List.mem_of_getElem? (i := 81) rfl), rfl⟩
theorem w2_82 : (Jvm.Cond.instantiable "CalendarSync$Agenda" (3 : Nat)) ∈ e_good := List.mem_filter.mpr ⟨tm_2 _ (List.mem_of_getElem? (i := 82) rfl), rfl⟩
theorem w2_84 : (Jvm.Cond.instanceMethod ({ cls := "CalendarSync$Agenda", name := "<init>", desc := "()V" } : Jvm.MethodName)) ∈ e_good := List.mem_filter.mpr ⟨tm_2 _ (List.mem_of_getElem? (i := 84) rfl), rfl⟩
theorem w2_85 : (Jvm.Cond.code ({ cls := "CalendarSync$Agenda", name := "<init>", desc := "()V" } : Jvm.MethodName) prog_2_method_1_code (1 : Nat) (Option.none : Option Jvm.ClassFile.FieldType)) ∈ e_good := List.mem_filter.mpr ⟨tm_2 _ (List.mem_of_getElem? (i := 85) rfl), rfl⟩
theorem w2_86 : (Jvm.Cond.methodLink "CalendarSync$Agenda" (5 : Nat) ({ cls := "java/lang/Object", name := "<init>", desc := "()V" } : Jvm.MethodName)) ∈ e_good := List.mem_filter.mpr ⟨tm_2 _ (List.mem_of_getElem? (i := 86) rfl), rfl⟩
theorem w2_98 : (Jvm.Cond.arrayClass Jvm.ClassFile.FieldType.boolean) ∈ e_good := List.mem_filter.mpr ⟨tm_2 _ (List.mem_of_getElem? (i := 98) rfl), rfl⟩
theorem wn1_180 : (Jvm.Cond.methodLinkNest "CalendarSync$Reader" (24 : Nat) ({ cls := "CalendarSync$Text", name := "<init>", desc := "()V" } : Jvm.MethodName) "CalendarSync") ∈ e_nest := List.mem_filter.mpr ⟨tm_1 _ (List.mem_of_getElem? (i := 180) rfl), rfl⟩
theorem wn1_41 : (Jvm.Cond.methodLinkNest "CalendarSync" (9 : Nat) ({ cls := "CalendarSync$Reader", name := "<init>", desc := "()V" } : Jvm.MethodName) "CalendarSync") ∈ e_nest := List.mem_filter.mpr ⟨tm_1 _ (List.mem_of_getElem? (i := 41) rfl), rfl⟩
theorem wn1_47 : (Jvm.Cond.methodLinkNest "CalendarSync$Reader" (11 : Nat) ({ cls := "CalendarSync$Place", name := "<init>", desc := "()V" } : Jvm.MethodName) "CalendarSync") ∈ e_nest := List.mem_filter.mpr ⟨tm_1 _ (List.mem_of_getElem? (i := 47) rfl), rfl⟩
theorem wn1_54 : (Jvm.Cond.methodLinkNest "CalendarSync$Place" (17 : Nat) ({ cls := "CalendarSync$Zone", name := "<init>", desc := "()V" } : Jvm.MethodName) "CalendarSync") ∈ e_nest := List.mem_filter.mpr ⟨tm_1 _ (List.mem_of_getElem? (i := 54) rfl), rfl⟩
theorem wn1_79 : (Jvm.Cond.methodLinkNest "CalendarSync$Place" (24 : Nat) ({ cls := "CalendarSync$Event", name := "<init>", desc := "()V" } : Jvm.MethodName) "CalendarSync") ∈ e_nest := List.mem_filter.mpr ⟨tm_1 _ (List.mem_of_getElem? (i := 79) rfl), rfl⟩
theorem wn2_13 : (Jvm.Cond.methodLinkNest "CalendarSync$Exchange" (20 : Nat) ({ cls := "CalendarSync$Side", name := "<init>", desc := "()V" } : Jvm.MethodName) "CalendarSync") ∈ e_nest := List.mem_filter.mpr ⟨tm_2 _ (List.mem_of_getElem? (i := 13) rfl), rfl⟩
theorem wn2_18 : (Jvm.Cond.methodLinkNest "CalendarSync$Side" (11 : Nat) ({ cls := "CalendarSync$Place", name := "<init>", desc := "()V" } : Jvm.MethodName) "CalendarSync") ∈ e_nest := List.mem_filter.mpr ⟨tm_2 _ (List.mem_of_getElem? (i := 18) rfl), rfl⟩
theorem wn2_4 : (Jvm.Cond.methodLinkNest "CalendarSync" (18 : Nat) ({ cls := "CalendarSync$Exchange", name := "<init>", desc := "()V" } : Jvm.MethodName) "CalendarSync") ∈ e_nest := List.mem_filter.mpr ⟨tm_2 _ (List.mem_of_getElem? (i := 4) rfl), rfl⟩
theorem wn2_63 : (Jvm.Cond.methodLinkNest "CalendarSync" (25 : Nat) ({ cls := "CalendarSync$History", name := "<init>", desc := "()V" } : Jvm.MethodName) "CalendarSync") ∈ e_nest := List.mem_filter.mpr ⟨tm_2 _ (List.mem_of_getElem? (i := 63) rfl), rfl⟩
theorem wn2_69 : (Jvm.Cond.methodLinkNest "CalendarSync$History" (9 : Nat) ({ cls := "CalendarSync$Exchange", name := "<init>", desc := "()V" } : Jvm.MethodName) "CalendarSync") ∈ e_nest := List.mem_filter.mpr ⟨tm_2 _ (List.mem_of_getElem? (i := 69) rfl), rfl⟩
theorem wn2_83 : (Jvm.Cond.methodLinkNest "CalendarSync" (40 : Nat) ({ cls := "CalendarSync$Agenda", name := "<init>", desc := "()V" } : Jvm.MethodName) "CalendarSync") ∈ e_nest := List.mem_filter.mpr ⟨tm_2 _ (List.mem_of_getElem? (i := 83) rfl), rfl⟩
theorem wn2_9 : (Jvm.Cond.methodLinkNest "CalendarSync$Exchange" (11 : Nat) ({ cls := "CalendarSync$Place", name := "<init>", desc := "()V" } : Jvm.MethodName) "CalendarSync") ∈ e_nest := List.mem_filter.mpr ⟨tm_2 _ (List.mem_of_getElem? (i := 9) rfl), rfl⟩
def sg_X9_init : SG := (yX9_init, cX9_init, 1, none, 1, 20, 0, 0, 0, false, [])
theorem cs_X9_init : e_cs sg_X9_init := ⟨w1_56, w1_4, ⟨by decide, by decide⟩, by decide +kernel, rfl⟩
theorem mt_X9_init : e_mt sg_X9_init "CalendarSync$Zone" := ⟨rfl, by decide +kernel, rfl⟩
theorem dX9_init_0 : decode cX9_init 0 = .ok (.aload_n 0, 1) := by decide +kernel
theorem dX9_init_1 : decode cX9_init 1 = .ok (.invokespecial 3, 3) := by decide +kernel
theorem dX9_init_4 : decode cX9_init 4 = .ok (.aload_n 0, 1) := by decide +kernel
theorem dX9_init_5 : decode cX9_init 5 = .ok (.iconst (-1), 1) := by decide +kernel
theorem dX9_init_6 : decode cX9_init 6 = .ok (.putfield 9, 3) := by decide +kernel
theorem dX9_init_9 : decode cX9_init 9 = .ok (.aload_n 0, 1) := by decide +kernel
theorem dX9_init_10 : decode cX9_init 10 = .ok (.iconst (-1), 1) := by decide +kernel
theorem dX9_init_11 : decode cX9_init 11 = .ok (.putfield 15, 3) := by decide +kernel
theorem dX9_init_14 : decode cX9_init 14 = .ok (.return_, 1) := by decide +kernel
def pg_X9_init (l : Launch) (g : EG) : List (Nat × ES) := [(0, s_ldP 0), (1, s_oinit), (4, s_ldP 0), (5, s_c (.inl (-1))), (6, s_putI 8 1), (9, s_ldP 0), (10, s_c (.inl (-1))), (11, s_putI 8 2), (14, s_vret)]
set_option maxRecDepth 100000 in
theorem ok_X9_init {l : Launch} {g : EG} : e_okp l g sg_X9_init "CalendarSync$Zone" (pg_X9_init l g) := fun p e R s m args below meth c ex M0 Q X =>
    e_each_cons (r_aload_n X (k := 0) (i := 0) rfl dX9_init_0 rfl)
    (e_each_cons (r_oinit X (index := 3) dX9_init_1 w1_57 w1_37 w1_38 ⟨by decide, by decide⟩ rfl)
    (e_each_cons (r_aload_n X (k := 0) (i := 0) rfl dX9_init_4 rfl)
    (e_each_cons (r_iconst X (n := (-1)) (v := (-1)) dX9_init_5 (by decide) rfl)
    (e_each_cons (r_putI X (index := 9) (ci := 8) (k := 1) dX9_init_6 (by decide) (by decide) rfl rfl w1_61 rfl)
    (e_each_cons (r_aload_n X (k := 0) (i := 0) rfl dX9_init_9 rfl)
    (e_each_cons (r_iconst X (n := (-1)) (v := (-1)) dX9_init_10 (by decide) rfl)
    (e_each_cons (r_putI X (index := 15) (ci := 8) (k := 2) dX9_init_11 (by decide) (by decide) rfl rfl w1_63 rfl)
    (e_each_cons (r_vret X dX9_init_14 rfl)
    (e_each_nil)))))))))
def sg_X2_init : SG := (yX2_init, cX2_init, 1, none, 1, 20, 4, 64, 0, false, [])
theorem cs_X2_init : e_cs sg_X2_init := ⟨w1_81, w1_5, ⟨by decide, by decide⟩, by decide +kernel, rfl⟩
theorem mt_X2_init : e_mt sg_X2_init "CalendarSync$Event" := ⟨rfl, by decide +kernel, rfl⟩
theorem dX2_init_0 : decode cX2_init 0 = .ok (.aload_n 0, 1) := by decide +kernel
theorem dX2_init_1 : decode cX2_init 1 = .ok (.invokespecial 3, 3) := by decide +kernel
theorem dX2_init_4 : decode cX2_init 4 = .ok (.aload_n 0, 1) := by decide +kernel
theorem dX2_init_5 : decode cX2_init 5 = .ok (.iconst (-1), 1) := by decide +kernel
theorem dX2_init_6 : decode cX2_init 6 = .ok (.putfield 9, 3) := by decide +kernel
theorem dX2_init_9 : decode cX2_init 9 = .ok (.aload_n 0, 1) := by decide +kernel
theorem dX2_init_10 : decode cX2_init 10 = .ok (.bipush 30, 2) := by decide +kernel
theorem dX2_init_12 : decode cX2_init 12 = .ok (.newarray .int, 2) := by decide +kernel
theorem dX2_init_14 : decode cX2_init 14 = .ok (.putfield 15, 3) := by decide +kernel
theorem dX2_init_17 : decode cX2_init 17 = .ok (.aload_n 0, 1) := by decide +kernel
theorem dX2_init_18 : decode cX2_init 18 = .ok (.bipush 30, 2) := by decide +kernel
theorem dX2_init_20 : decode cX2_init 20 = .ok (.newarray .int, 2) := by decide +kernel
theorem dX2_init_22 : decode cX2_init 22 = .ok (.putfield 19, 3) := by decide +kernel
theorem dX2_init_25 : decode cX2_init 25 = .ok (.aload_n 0, 1) := by decide +kernel
theorem dX2_init_26 : decode cX2_init 26 = .ok (.iconst 2, 1) := by decide +kernel
theorem dX2_init_27 : decode cX2_init 27 = .ok (.newarray .int, 2) := by decide +kernel
theorem dX2_init_29 : decode cX2_init 29 = .ok (.putfield 22, 3) := by decide +kernel
theorem dX2_init_32 : decode cX2_init 32 = .ok (.aload_n 0, 1) := by decide +kernel
theorem dX2_init_33 : decode cX2_init 33 = .ok (.iconst 2, 1) := by decide +kernel
theorem dX2_init_34 : decode cX2_init 34 = .ok (.newarray .long, 2) := by decide +kernel
theorem dX2_init_36 : decode cX2_init 36 = .ok (.putfield 25, 3) := by decide +kernel
theorem dX2_init_39 : decode cX2_init 39 = .ok (.return_, 1) := by decide +kernel
def pg_X2_init (l : Launch) (g : EG) : List (Nat × ES) := [(0, s_ldP 0), (1, s_oinit), (4, s_ldP 0), (5, s_c (.inl (-1))), (6, s_putI 1 9), (9, s_ldP 0), (10, s_c (.inl 30)), (12, s_newa sg_X2_init 10 30), (14, s_putP 1 13), (17, s_ldP 0), (18, s_c (.inl 30)), (20, s_newa sg_X2_init 11 30), (22, s_putP 1 14), (25, s_ldP 0), (26, s_c (.inl 2)), (27, s_newa sg_X2_init 12 2), (29, s_putP 1 15), (32, s_ldP 0), (33, s_c (.inl 2)), (34, s_newa sg_X2_init 13 2), (36, s_putP 1 16), (39, s_vret)]
set_option maxRecDepth 100000 in
theorem ok_X2_init {l : Launch} {g : EG} : e_okp l g sg_X2_init "CalendarSync$Event" (pg_X2_init l g) := fun p e R s m args below meth c ex M0 Q X =>
    e_each_cons (r_aload_n X (k := 0) (i := 0) rfl dX2_init_0 rfl)
    (e_each_cons (r_oinit X (index := 3) dX2_init_1 w1_82 w1_37 w1_38 ⟨by decide, by decide⟩ rfl)
    (e_each_cons (r_aload_n X (k := 0) (i := 0) rfl dX2_init_4 rfl)
    (e_each_cons (r_iconst X (n := (-1)) (v := (-1)) dX2_init_5 (by decide) rfl)
    (e_each_cons (r_putI X (index := 9) (ci := 1) (k := 9) dX2_init_6 (by decide) (by decide) rfl rfl w1_106 rfl)
    (e_each_cons (r_aload_n X (k := 0) (i := 0) rfl dX2_init_9 rfl)
    (e_each_cons (r_bipush X (n := 30) (v := 30) dX2_init_10 (by decide) rfl)
    (e_each_cons (r_newa X (ai := 0) (t := 10) (n := 30) dX2_init_12 rfl (fun _ => rfl) rfl (Or.inl ⟨rfl, rfl⟩) w1_159 (by decide) (by decide) rfl)
    (e_each_cons (r_putP X (index := 15) (ci := 1) (k := 13) dX2_init_14 (by decide) (by decide) rfl (Or.inr ⟨rfl, rfl, rfl⟩) w1_118 rfl)
    (e_each_cons (r_aload_n X (k := 0) (i := 0) rfl dX2_init_17 rfl)
    (e_each_cons (r_bipush X (n := 30) (v := 30) dX2_init_18 (by decide) rfl)
    (e_each_cons (r_newa X (ai := 0) (t := 11) (n := 30) dX2_init_20 rfl (fun _ => rfl) rfl (Or.inl ⟨rfl, rfl⟩) w1_159 (by decide) (by decide) rfl)
    (e_each_cons (r_putP X (index := 19) (ci := 1) (k := 14) dX2_init_22 (by decide) (by decide) rfl (Or.inr ⟨rfl, rfl, rfl⟩) w1_120 rfl)
    (e_each_cons (r_aload_n X (k := 0) (i := 0) rfl dX2_init_25 rfl)
    (e_each_cons (r_iconst X (n := 2) (v := 2) dX2_init_26 (by decide) rfl)
    (e_each_cons (r_newa X (ai := 0) (t := 12) (n := 2) dX2_init_27 rfl (fun _ => rfl) rfl (Or.inl ⟨rfl, rfl⟩) w1_159 (by decide) (by decide) rfl)
    (e_each_cons (r_putP X (index := 22) (ci := 1) (k := 15) dX2_init_29 (by decide) (by decide) rfl (Or.inr ⟨rfl, rfl, rfl⟩) w1_121 rfl)
    (e_each_cons (r_aload_n X (k := 0) (i := 0) rfl dX2_init_32 rfl)
    (e_each_cons (r_iconst X (n := 2) (v := 2) dX2_init_33 (by decide) rfl)
    (e_each_cons (r_newa X (ai := 3) (t := 13) (n := 2) dX2_init_34 rfl (fun _ => rfl) rfl (Or.inr (Or.inr (Or.inr ⟨rfl, rfl⟩))) w1_160 (by decide) (by decide) rfl)
    (e_each_cons (r_putP X (index := 25) (ci := 1) (k := 16) dX2_init_36 (by decide) (by decide) rfl (Or.inr ⟨rfl, rfl, rfl⟩) w1_123 rfl)
    (e_each_cons (r_vret X dX2_init_39 rfl)
    (e_each_nil))))))))))))))))))))))
def sg_X5_init : SG := (yX5_init, cX5_init, 1, none, 2, 40, 45, 671, 0, false, [])
theorem cs_X5_init : e_cs sg_X5_init := ⟨w1_49, w1_3, ⟨by decide, by decide⟩, by decide +kernel, rfl⟩
theorem mt_X5_init : e_mt sg_X5_init "CalendarSync$Place" := ⟨rfl, by decide +kernel, rfl⟩
theorem dX5_init_0 : decode cX5_init 0 = .ok (.aload_n 0, 1) := by decide +kernel
theorem dX5_init_1 : decode cX5_init 1 = .ok (.invokespecial 3, 3) := by decide +kernel
theorem dX5_init_4 : decode cX5_init 4 = .ok (.aload_n 0, 1) := by decide +kernel
theorem dX5_init_5 : decode cX5_init 5 = .ok (.iconst 1, 1) := by decide +kernel
theorem dX5_init_6 : decode cX5_init 6 = .ok (.putfield 9, 3) := by decide +kernel
theorem dX5_init_9 : decode cX5_init 9 = .ok (.aload_n 0, 1) := by decide +kernel
theorem dX5_init_10 : decode cX5_init 10 = .ok (.iconst 3, 1) := by decide +kernel
theorem dX5_init_11 : decode cX5_init 11 = .ok (.anewarray 15, 3) := by decide +kernel
theorem dX5_init_14 : decode cX5_init 14 = .ok (.dup, 1) := by decide +kernel
theorem dX5_init_15 : decode cX5_init 15 = .ok (.iconst 0, 1) := by decide +kernel
theorem dX5_init_16 : decode cX5_init 16 = .ok (.new 15, 3) := by decide +kernel
theorem dX5_init_19 : decode cX5_init 19 = .ok (.dup, 1) := by decide +kernel
theorem dX5_init_20 : decode cX5_init 20 = .ok (.invokespecial 17, 3) := by decide +kernel
theorem dX5_init_23 : decode cX5_init 23 = .ok (.aastore, 1) := by decide +kernel
theorem dX5_init_24 : decode cX5_init 24 = .ok (.dup, 1) := by decide +kernel
theorem dX5_init_25 : decode cX5_init 25 = .ok (.iconst 1, 1) := by decide +kernel
theorem dX5_init_26 : decode cX5_init 26 = .ok (.new 15, 3) := by decide +kernel
theorem dX5_init_29 : decode cX5_init 29 = .ok (.dup, 1) := by decide +kernel
theorem dX5_init_30 : decode cX5_init 30 = .ok (.invokespecial 17, 3) := by decide +kernel
theorem dX5_init_33 : decode cX5_init 33 = .ok (.aastore, 1) := by decide +kernel
theorem dX5_init_34 : decode cX5_init 34 = .ok (.dup, 1) := by decide +kernel
theorem dX5_init_35 : decode cX5_init 35 = .ok (.iconst 2, 1) := by decide +kernel
theorem dX5_init_36 : decode cX5_init 36 = .ok (.new 15, 3) := by decide +kernel
theorem dX5_init_39 : decode cX5_init 39 = .ok (.dup, 1) := by decide +kernel
theorem dX5_init_40 : decode cX5_init 40 = .ok (.invokespecial 17, 3) := by decide +kernel
theorem dX5_init_43 : decode cX5_init 43 = .ok (.aastore, 1) := by decide +kernel
theorem dX5_init_44 : decode cX5_init 44 = .ok (.putfield 18, 3) := by decide +kernel
theorem dX5_init_47 : decode cX5_init 47 = .ok (.aload_n 0, 1) := by decide +kernel
theorem dX5_init_48 : decode cX5_init 48 = .ok (.bipush 8, 2) := by decide +kernel
theorem dX5_init_50 : decode cX5_init 50 = .ok (.anewarray 22, 3) := by decide +kernel
theorem dX5_init_53 : decode cX5_init 53 = .ok (.dup, 1) := by decide +kernel
theorem dX5_init_54 : decode cX5_init 54 = .ok (.iconst 0, 1) := by decide +kernel
theorem dX5_init_55 : decode cX5_init 55 = .ok (.new 22, 3) := by decide +kernel
theorem dX5_init_58 : decode cX5_init 58 = .ok (.dup, 1) := by decide +kernel
theorem dX5_init_59 : decode cX5_init 59 = .ok (.invokespecial 24, 3) := by decide +kernel
theorem dX5_init_62 : decode cX5_init 62 = .ok (.aastore, 1) := by decide +kernel
theorem dX5_init_63 : decode cX5_init 63 = .ok (.dup, 1) := by decide +kernel
theorem dX5_init_64 : decode cX5_init 64 = .ok (.iconst 1, 1) := by decide +kernel
theorem dX5_init_65 : decode cX5_init 65 = .ok (.new 22, 3) := by decide +kernel
theorem dX5_init_68 : decode cX5_init 68 = .ok (.dup, 1) := by decide +kernel
theorem dX5_init_69 : decode cX5_init 69 = .ok (.invokespecial 24, 3) := by decide +kernel
theorem dX5_init_72 : decode cX5_init 72 = .ok (.aastore, 1) := by decide +kernel
theorem dX5_init_73 : decode cX5_init 73 = .ok (.dup, 1) := by decide +kernel
theorem dX5_init_74 : decode cX5_init 74 = .ok (.iconst 2, 1) := by decide +kernel
theorem dX5_init_75 : decode cX5_init 75 = .ok (.new 22, 3) := by decide +kernel
theorem dX5_init_78 : decode cX5_init 78 = .ok (.dup, 1) := by decide +kernel
theorem dX5_init_79 : decode cX5_init 79 = .ok (.invokespecial 24, 3) := by decide +kernel
theorem dX5_init_82 : decode cX5_init 82 = .ok (.aastore, 1) := by decide +kernel
theorem dX5_init_83 : decode cX5_init 83 = .ok (.dup, 1) := by decide +kernel
theorem dX5_init_84 : decode cX5_init 84 = .ok (.iconst 3, 1) := by decide +kernel
theorem dX5_init_85 : decode cX5_init 85 = .ok (.new 22, 3) := by decide +kernel
theorem dX5_init_88 : decode cX5_init 88 = .ok (.dup, 1) := by decide +kernel
theorem dX5_init_89 : decode cX5_init 89 = .ok (.invokespecial 24, 3) := by decide +kernel
theorem dX5_init_92 : decode cX5_init 92 = .ok (.aastore, 1) := by decide +kernel
theorem dX5_init_93 : decode cX5_init 93 = .ok (.dup, 1) := by decide +kernel
theorem dX5_init_94 : decode cX5_init 94 = .ok (.iconst 4, 1) := by decide +kernel
theorem dX5_init_95 : decode cX5_init 95 = .ok (.new 22, 3) := by decide +kernel
theorem dX5_init_98 : decode cX5_init 98 = .ok (.dup, 1) := by decide +kernel
theorem dX5_init_99 : decode cX5_init 99 = .ok (.invokespecial 24, 3) := by decide +kernel
theorem dX5_init_102 : decode cX5_init 102 = .ok (.aastore, 1) := by decide +kernel
theorem dX5_init_103 : decode cX5_init 103 = .ok (.dup, 1) := by decide +kernel
theorem dX5_init_104 : decode cX5_init 104 = .ok (.iconst 5, 1) := by decide +kernel
theorem dX5_init_105 : decode cX5_init 105 = .ok (.new 22, 3) := by decide +kernel
theorem dX5_init_108 : decode cX5_init 108 = .ok (.dup, 1) := by decide +kernel
theorem dX5_init_109 : decode cX5_init 109 = .ok (.invokespecial 24, 3) := by decide +kernel
theorem dX5_init_112 : decode cX5_init 112 = .ok (.aastore, 1) := by decide +kernel
theorem dX5_init_113 : decode cX5_init 113 = .ok (.dup, 1) := by decide +kernel
theorem dX5_init_114 : decode cX5_init 114 = .ok (.bipush 6, 2) := by decide +kernel
theorem dX5_init_116 : decode cX5_init 116 = .ok (.new 22, 3) := by decide +kernel
theorem dX5_init_119 : decode cX5_init 119 = .ok (.dup, 1) := by decide +kernel
theorem dX5_init_120 : decode cX5_init 120 = .ok (.invokespecial 24, 3) := by decide +kernel
theorem dX5_init_123 : decode cX5_init 123 = .ok (.aastore, 1) := by decide +kernel
theorem dX5_init_124 : decode cX5_init 124 = .ok (.dup, 1) := by decide +kernel
theorem dX5_init_125 : decode cX5_init 125 = .ok (.bipush 7, 2) := by decide +kernel
theorem dX5_init_127 : decode cX5_init 127 = .ok (.new 22, 3) := by decide +kernel
theorem dX5_init_130 : decode cX5_init 130 = .ok (.dup, 1) := by decide +kernel
theorem dX5_init_131 : decode cX5_init 131 = .ok (.invokespecial 24, 3) := by decide +kernel
theorem dX5_init_134 : decode cX5_init 134 = .ok (.aastore, 1) := by decide +kernel
theorem dX5_init_135 : decode cX5_init 135 = .ok (.putfield 25, 3) := by decide +kernel
theorem dX5_init_138 : decode cX5_init 138 = .ok (.return_, 1) := by decide +kernel
def pg_X5_init (l : Launch) (g : EG) : List (Nat × ES) := [(0, s_ldP 0), (1, s_oinit), (4, s_ldP 0), (5, s_c (.inl 1)), (6, s_putI 4 0), (9, s_ldP 0), (10, s_c (.inl 3)), (11, s_newa sg_X5_init 106 3), (14, s_dup), (15, s_c (.inl 0)), (16, s_new sg_X5_init 8 7), (19, s_dup), (20, s_callI l g sg_X5_init sg_X9_init), (23, s_aast), (24, s_dup), (25, s_c (.inl 1)), (26, s_new sg_X5_init 8 7), (29, s_dup), (30, s_callI l g sg_X5_init sg_X9_init), (33, s_aast), (34, s_dup), (35, s_c (.inl 2)), (36, s_new sg_X5_init 8 7), (39, s_dup), (40, s_callI l g sg_X5_init sg_X9_init), (43, s_aast), (44, s_putP 4 1), (47, s_ldP 0), (48, s_c (.inl 8)), (50, s_newa sg_X5_init 108 8), (53, s_dup), (54, s_c (.inl 0)), (55, s_new sg_X5_init 1 109), (58, s_dup), (59, s_callI l g sg_X5_init sg_X2_init), (62, s_aast), (63, s_dup), (64, s_c (.inl 1)), (65, s_new sg_X5_init 1 109), (68, s_dup), (69, s_callI l g sg_X5_init sg_X2_init), (72, s_aast), (73, s_dup), (74, s_c (.inl 2)), (75, s_new sg_X5_init 1 109), (78, s_dup), (79, s_callI l g sg_X5_init sg_X2_init), (82, s_aast), (83, s_dup), (84, s_c (.inl 3)), (85, s_new sg_X5_init 1 109), (88, s_dup), (89, s_callI l g sg_X5_init sg_X2_init), (92, s_aast), (93, s_dup), (94, s_c (.inl 4)), (95, s_new sg_X5_init 1 109), (98, s_dup), (99, s_callI l g sg_X5_init sg_X2_init), (102, s_aast), (103, s_dup), (104, s_c (.inl 5)), (105, s_new sg_X5_init 1 109), (108, s_dup), (109, s_callI l g sg_X5_init sg_X2_init), (112, s_aast), (113, s_dup), (114, s_c (.inl 6)), (116, s_new sg_X5_init 1 109), (119, s_dup), (120, s_callI l g sg_X5_init sg_X2_init), (123, s_aast), (124, s_dup), (125, s_c (.inl 7)), (127, s_new sg_X5_init 1 109), (130, s_dup), (131, s_callI l g sg_X5_init sg_X2_init), (134, s_aast), (135, s_putP 4 2), (138, s_vret)]
set_option maxRecDepth 100000 in
theorem ok_X5_init {l : Launch} {g : EG} : e_okp l g sg_X5_init "CalendarSync$Place" (pg_X5_init l g) := fun p e R s m args below meth c ex M0 Q X =>
    e_each_cons (r_aload_n X (k := 0) (i := 0) rfl dX5_init_0 rfl)
    (e_each_cons (r_oinit X (index := 3) dX5_init_1 w1_50 w1_37 w1_38 ⟨by decide, by decide⟩ rfl)
    (e_each_cons (r_aload_n X (k := 0) (i := 0) rfl dX5_init_4 rfl)
    (e_each_cons (r_iconst X (n := 1) (v := 1) dX5_init_5 (by decide) rfl)
    (e_each_cons (r_putI X (index := 9) (ci := 4) (k := 0) dX5_init_6 (by decide) (by decide) rfl rfl w1_161 rfl)
    (e_each_cons (r_aload_n X (k := 0) (i := 0) rfl dX5_init_9 rfl)
    (e_each_cons (r_iconst X (n := 3) (v := 3) dX5_init_10 (by decide) rfl)
    (e_each_cons (r_anewa X (index := 15) (ai := 5) (t := 106) (n := 3) (C := "CalendarSync$Zone") dX5_init_11 rfl (fun _ => rfl) ⟨by decide, by decide⟩ (fun _ => rfl) (by decide) w1_51 (by decide) rfl)
    (e_each_cons (r_dup X dX5_init_14 rfl)
    (e_each_cons (r_iconst X (n := 0) (v := 0) dX5_init_15 (by decide) rfl)
    (e_each_cons (r_new X (index := 15) (ci := 8) (t := 7) dX5_init_16 (by decide) rfl (fun _ => rfl) w1_51 w1_53 w1_4 uw_8 rfl)
    (e_each_cons (r_dup X dX5_init_19 rfl)
    (e_each_cons (r_callIN X rfl (τ := sg_X9_init) (index := 17) (host := "CalendarSync") dX5_init_20 wn1_54 w1_55 cs_X9_init rfl rfl rfl rfl ⟨by decide, by decide⟩ rfl)
    (e_each_cons (r_aast X dX5_init_23 rfl)
    (e_each_cons (r_dup X dX5_init_24 rfl)
    (e_each_cons (r_iconst X (n := 1) (v := 1) dX5_init_25 (by decide) rfl)
    (e_each_cons (r_new X (index := 15) (ci := 8) (t := 7) dX5_init_26 (by decide) rfl (fun _ => rfl) w1_51 w1_53 w1_4 uw_8 rfl)
    (e_each_cons (r_dup X dX5_init_29 rfl)
    (e_each_cons (r_callIN X rfl (τ := sg_X9_init) (index := 17) (host := "CalendarSync") dX5_init_30 wn1_54 w1_55 cs_X9_init rfl rfl rfl rfl ⟨by decide, by decide⟩ rfl)
    (e_each_cons (r_aast X dX5_init_33 rfl)
    (e_each_cons (r_dup X dX5_init_34 rfl)
    (e_each_cons (r_iconst X (n := 2) (v := 2) dX5_init_35 (by decide) rfl)
    (e_each_cons (r_new X (index := 15) (ci := 8) (t := 7) dX5_init_36 (by decide) rfl (fun _ => rfl) w1_51 w1_53 w1_4 uw_8 rfl)
    (e_each_cons (r_dup X dX5_init_39 rfl)
    (e_each_cons (r_callIN X rfl (τ := sg_X9_init) (index := 17) (host := "CalendarSync") dX5_init_40 wn1_54 w1_55 cs_X9_init rfl rfl rfl rfl ⟨by decide, by decide⟩ rfl)
    (e_each_cons (r_aast X dX5_init_43 rfl)
    (e_each_cons (r_putP X (index := 18) (ci := 4) (k := 1) dX5_init_44 (by decide) (by decide) rfl (Or.inr ⟨rfl, rfl, rfl⟩) w1_164 rfl)
    (e_each_cons (r_aload_n X (k := 0) (i := 0) rfl dX5_init_47 rfl)
    (e_each_cons (r_bipush X (n := 8) (v := 8) dX5_init_48 (by decide) rfl)
    (e_each_cons (r_anewa X (index := 22) (ai := 6) (t := 108) (n := 8) (C := "CalendarSync$Event") dX5_init_50 rfl (fun _ => rfl) ⟨by decide, by decide⟩ (fun _ => rfl) (by decide) w1_76 (by decide) rfl)
    (e_each_cons (r_dup X dX5_init_53 rfl)
    (e_each_cons (r_iconst X (n := 0) (v := 0) dX5_init_54 (by decide) rfl)
    (e_each_cons (r_new X (index := 22) (ci := 1) (t := 109) dX5_init_55 (by decide) rfl (fun _ => rfl) w1_76 w1_78 w1_5 uw_1 rfl)
    (e_each_cons (r_dup X dX5_init_58 rfl)
    (e_each_cons (r_callIN X rfl (τ := sg_X2_init) (index := 24) (host := "CalendarSync") dX5_init_59 wn1_79 w1_80 cs_X2_init rfl rfl rfl rfl ⟨by decide, by decide⟩ rfl)
    (e_each_cons (r_aast X dX5_init_62 rfl)
    (e_each_cons (r_dup X dX5_init_63 rfl)
    (e_each_cons (r_iconst X (n := 1) (v := 1) dX5_init_64 (by decide) rfl)
    (e_each_cons (r_new X (index := 22) (ci := 1) (t := 109) dX5_init_65 (by decide) rfl (fun _ => rfl) w1_76 w1_78 w1_5 uw_1 rfl)
    (e_each_cons (r_dup X dX5_init_68 rfl)
    (e_each_cons (r_callIN X rfl (τ := sg_X2_init) (index := 24) (host := "CalendarSync") dX5_init_69 wn1_79 w1_80 cs_X2_init rfl rfl rfl rfl ⟨by decide, by decide⟩ rfl)
    (e_each_cons (r_aast X dX5_init_72 rfl)
    (e_each_cons (r_dup X dX5_init_73 rfl)
    (e_each_cons (r_iconst X (n := 2) (v := 2) dX5_init_74 (by decide) rfl)
    (e_each_cons (r_new X (index := 22) (ci := 1) (t := 109) dX5_init_75 (by decide) rfl (fun _ => rfl) w1_76 w1_78 w1_5 uw_1 rfl)
    (e_each_cons (r_dup X dX5_init_78 rfl)
    (e_each_cons (r_callIN X rfl (τ := sg_X2_init) (index := 24) (host := "CalendarSync") dX5_init_79 wn1_79 w1_80 cs_X2_init rfl rfl rfl rfl ⟨by decide, by decide⟩ rfl)
    (e_each_cons (r_aast X dX5_init_82 rfl)
    (e_each_cons (r_dup X dX5_init_83 rfl)
    (e_each_cons (r_iconst X (n := 3) (v := 3) dX5_init_84 (by decide) rfl)
    (e_each_cons (r_new X (index := 22) (ci := 1) (t := 109) dX5_init_85 (by decide) rfl (fun _ => rfl) w1_76 w1_78 w1_5 uw_1 rfl)
    (e_each_cons (r_dup X dX5_init_88 rfl)
    (e_each_cons (r_callIN X rfl (τ := sg_X2_init) (index := 24) (host := "CalendarSync") dX5_init_89 wn1_79 w1_80 cs_X2_init rfl rfl rfl rfl ⟨by decide, by decide⟩ rfl)
    (e_each_cons (r_aast X dX5_init_92 rfl)
    (e_each_cons (r_dup X dX5_init_93 rfl)
    (e_each_cons (r_iconst X (n := 4) (v := 4) dX5_init_94 (by decide) rfl)
    (e_each_cons (r_new X (index := 22) (ci := 1) (t := 109) dX5_init_95 (by decide) rfl (fun _ => rfl) w1_76 w1_78 w1_5 uw_1 rfl)
    (e_each_cons (r_dup X dX5_init_98 rfl)
    (e_each_cons (r_callIN X rfl (τ := sg_X2_init) (index := 24) (host := "CalendarSync") dX5_init_99 wn1_79 w1_80 cs_X2_init rfl rfl rfl rfl ⟨by decide, by decide⟩ rfl)
    (e_each_cons (r_aast X dX5_init_102 rfl)
    (e_each_cons (r_dup X dX5_init_103 rfl)
    (e_each_cons (r_iconst X (n := 5) (v := 5) dX5_init_104 (by decide) rfl)
    (e_each_cons (r_new X (index := 22) (ci := 1) (t := 109) dX5_init_105 (by decide) rfl (fun _ => rfl) w1_76 w1_78 w1_5 uw_1 rfl)
    (e_each_cons (r_dup X dX5_init_108 rfl)
    (e_each_cons (r_callIN X rfl (τ := sg_X2_init) (index := 24) (host := "CalendarSync") dX5_init_109 wn1_79 w1_80 cs_X2_init rfl rfl rfl rfl ⟨by decide, by decide⟩ rfl)
    (e_each_cons (r_aast X dX5_init_112 rfl)
    (e_each_cons (r_dup X dX5_init_113 rfl)
    (e_each_cons (r_bipush X (n := 6) (v := 6) dX5_init_114 (by decide) rfl)
    (e_each_cons (r_new X (index := 22) (ci := 1) (t := 109) dX5_init_116 (by decide) rfl (fun _ => rfl) w1_76 w1_78 w1_5 uw_1 rfl)
    (e_each_cons (r_dup X dX5_init_119 rfl)
    (e_each_cons (r_callIN X rfl (τ := sg_X2_init) (index := 24) (host := "CalendarSync") dX5_init_120 wn1_79 w1_80 cs_X2_init rfl rfl rfl rfl ⟨by decide, by decide⟩ rfl)
    (e_each_cons (r_aast X dX5_init_123 rfl)
    (e_each_cons (r_dup X dX5_init_124 rfl)
    (e_each_cons (r_bipush X (n := 7) (v := 7) dX5_init_125 (by decide) rfl)
    (e_each_cons (r_new X (index := 22) (ci := 1) (t := 109) dX5_init_127 (by decide) rfl (fun _ => rfl) w1_76 w1_78 w1_5 uw_1 rfl)
    (e_each_cons (r_dup X dX5_init_130 rfl)
    (e_each_cons (r_callIN X rfl (τ := sg_X2_init) (index := 24) (host := "CalendarSync") dX5_init_131 wn1_79 w1_80 cs_X2_init rfl rfl rfl rfl ⟨by decide, by decide⟩ rfl)
    (e_each_cons (r_aast X dX5_init_134 rfl)
    (e_each_cons (r_putP X (index := 25) (ci := 4) (k := 2) dX5_init_135 (by decide) (by decide) rfl (Or.inr ⟨rfl, rfl, rfl⟩) w1_167 rfl)
    (e_each_cons (r_vret X dX5_init_138 rfl)
    (e_each_nil))))))))))))))))))))))))))))))))))))))))))))))))))))))))))))))))))))))))))))))))
def sg_X8_init : SG := (yX8_init, cX8_init, 1, none, 1, 20, 1, 800, 0, false, [])
theorem cs_X8_init : e_cs sg_X8_init := ⟨w1_182, w1_6, ⟨by decide, by decide⟩, by decide +kernel, rfl⟩
theorem mt_X8_init : e_mt sg_X8_init "CalendarSync$Text" := ⟨rfl, by decide +kernel, rfl⟩
theorem dX8_init_0 : decode cX8_init 0 = .ok (.aload_n 0, 1) := by decide +kernel
theorem dX8_init_1 : decode cX8_init 1 = .ok (.invokespecial 3, 3) := by decide +kernel
theorem dX8_init_4 : decode cX8_init 4 = .ok (.aload_n 0, 1) := by decide +kernel
theorem dX8_init_5 : decode cX8_init 5 = .ok (.sipush 800, 3) := by decide +kernel
theorem dX8_init_8 : decode cX8_init 8 = .ok (.newarray .byte, 2) := by decide +kernel
theorem dX8_init_10 : decode cX8_init 10 = .ok (.putfield 9, 3) := by decide +kernel
theorem dX8_init_13 : decode cX8_init 13 = .ok (.return_, 1) := by decide +kernel
def pg_X8_init (l : Launch) (g : EG) : List (Nat × ES) := [(0, s_ldP 0), (1, s_oinit), (4, s_ldP 0), (5, s_c (.inl 800)), (8, s_newa sg_X8_init 4 800), (10, s_putP 7 4), (13, s_vret)]
set_option maxRecDepth 100000 in
theorem ok_X8_init {l : Launch} {g : EG} : e_okp l g sg_X8_init "CalendarSync$Text" (pg_X8_init l g) := fun p e R s m args below meth c ex M0 Q X =>
    e_each_cons (r_aload_n X (k := 0) (i := 0) rfl dX8_init_0 rfl)
    (e_each_cons (r_oinit X (index := 3) dX8_init_1 w1_183 w1_37 w1_38 ⟨by decide, by decide⟩ rfl)
    (e_each_cons (r_aload_n X (k := 0) (i := 0) rfl dX8_init_4 rfl)
    (e_each_cons (r_sipush X (n := 800) (v := 800) dX8_init_5 (by decide) rfl)
    (e_each_cons (r_newa X (ai := 1) (t := 4) (n := 800) dX8_init_8 rfl (fun _ => rfl) rfl (Or.inr (Or.inl ⟨rfl, rfl⟩)) w1_210 (by decide) (by decide) rfl)
    (e_each_cons (r_putP X (index := 9) (ci := 7) (k := 4) dX8_init_10 (by decide) (by decide) rfl (Or.inr ⟨rfl, rfl, rfl⟩) w1_192 rfl)
    (e_each_cons (r_vret X dX8_init_13 rfl)
    (e_each_nil)))))))
def sg_X6_init : SG := (yX6_init, cX6_init, 1, none, 3, 60, 48, 1481, 0, false, [])
theorem cs_X6_init : e_cs sg_X6_init := ⟨w1_43, w1_2, ⟨by decide, by decide⟩, by decide +kernel, rfl⟩
theorem mt_X6_init : e_mt sg_X6_init "CalendarSync$Reader" := ⟨rfl, by decide +kernel, rfl⟩
theorem dX6_init_0 : decode cX6_init 0 = .ok (.aload_n 0, 1) := by decide +kernel
theorem dX6_init_1 : decode cX6_init 1 = .ok (.invokespecial 3, 3) := by decide +kernel
theorem dX6_init_4 : decode cX6_init 4 = .ok (.aload_n 0, 1) := by decide +kernel
theorem dX6_init_5 : decode cX6_init 5 = .ok (.new 9, 3) := by decide +kernel
theorem dX6_init_8 : decode cX6_init 8 = .ok (.dup, 1) := by decide +kernel
theorem dX6_init_9 : decode cX6_init 9 = .ok (.invokespecial 11, 3) := by decide +kernel
theorem dX6_init_12 : decode cX6_init 12 = .ok (.putfield 12, 3) := by decide +kernel
theorem dX6_init_15 : decode cX6_init 15 = .ok (.aload_n 0, 1) := by decide +kernel
theorem dX6_init_16 : decode cX6_init 16 = .ok (.iconst (-1), 1) := by decide +kernel
theorem dX6_init_17 : decode cX6_init 17 = .ok (.putfield 18, 3) := by decide +kernel
theorem dX6_init_20 : decode cX6_init 20 = .ok (.aload_n 0, 1) := by decide +kernel
theorem dX6_init_21 : decode cX6_init 21 = .ok (.new 22, 3) := by decide +kernel
theorem dX6_init_24 : decode cX6_init 24 = .ok (.dup, 1) := by decide +kernel
theorem dX6_init_25 : decode cX6_init 25 = .ok (.invokespecial 24, 3) := by decide +kernel
theorem dX6_init_28 : decode cX6_init 28 = .ok (.putfield 25, 3) := by decide +kernel
theorem dX6_init_31 : decode cX6_init 31 = .ok (.aload_n 0, 1) := by decide +kernel
theorem dX6_init_32 : decode cX6_init 32 = .ok (.aload_n 0, 1) := by decide +kernel
theorem dX6_init_33 : decode cX6_init 33 = .ok (.getfield 12, 3) := by decide +kernel
theorem dX6_init_36 : decode cX6_init 36 = .ok (.getfield 29, 3) := by decide +kernel
theorem dX6_init_39 : decode cX6_init 39 = .ok (.iconst 0, 1) := by decide +kernel
theorem dX6_init_40 : decode cX6_init 40 = .ok (.aaload, 1) := by decide +kernel
theorem dX6_init_41 : decode cX6_init 41 = .ok (.putfield 33, 3) := by decide +kernel
theorem dX6_init_44 : decode cX6_init 44 = .ok (.aload_n 0, 1) := by decide +kernel
theorem dX6_init_45 : decode cX6_init 45 = .ok (.aload_n 0, 1) := by decide +kernel
theorem dX6_init_46 : decode cX6_init 46 = .ok (.getfield 12, 3) := by decide +kernel
theorem dX6_init_49 : decode cX6_init 49 = .ok (.getfield 37, 3) := by decide +kernel
theorem dX6_init_52 : decode cX6_init 52 = .ok (.iconst 0, 1) := by decide +kernel
theorem dX6_init_53 : decode cX6_init 53 = .ok (.aaload, 1) := by decide +kernel
theorem dX6_init_54 : decode cX6_init 54 = .ok (.putfield 41, 3) := by decide +kernel
theorem dX6_init_57 : decode cX6_init 57 = .ok (.return_, 1) := by decide +kernel
def pg_X6_init (l : Launch) (g : EG) : List (Nat × ES) := [(0, s_ldP 0), (1, s_oinit), (4, s_ldP 0), (5, s_new sg_X6_init 4 105), (8, s_dup), (9, s_callI l g sg_X6_init sg_X5_init), (12, s_putP 5 0), (15, s_ldP 0), (16, s_c (.inl (-1))), (17, s_putI 5 3), (20, s_ldP 0), (21, s_new sg_X6_init 7 103), (24, s_dup), (25, s_callI l g sg_X6_init sg_X8_init), (28, s_putP 5 4), (31, s_ldP 0), (32, s_ldP 0), (33, s_getP 5 0), (36, s_getP 4 1), (39, s_c (.inl 0)), (40, s_aald), (41, s_putP 5 7), (44, s_ldP 0), (45, s_ldP 0), (46, s_getP 5 0), (49, s_getP 4 2), (52, s_c (.inl 0)), (53, s_aald), (54, s_putP 5 8), (57, s_vret)]
set_option maxRecDepth 100000 in
theorem ok_X6_init {l : Launch} {g : EG} : e_okp l g sg_X6_init "CalendarSync$Reader" (pg_X6_init l g) := fun p e R s m args below meth c ex M0 Q X =>
    e_each_cons (r_aload_n X (k := 0) (i := 0) rfl dX6_init_0 rfl)
    (e_each_cons (r_oinit X (index := 3) dX6_init_1 w1_44 w1_37 w1_38 ⟨by decide, by decide⟩ rfl)
    (e_each_cons (r_aload_n X (k := 0) (i := 0) rfl dX6_init_4 rfl)
    (e_each_cons (r_new X (index := 9) (ci := 4) (t := 105) dX6_init_5 (by decide) rfl (fun _ => rfl) w1_45 w1_46 w1_3 uw_4 rfl)
    (e_each_cons (r_dup X dX6_init_8 rfl)
    (e_each_cons (r_callIN X rfl (τ := sg_X5_init) (index := 11) (host := "CalendarSync") dX6_init_9 wn1_47 w1_48 cs_X5_init rfl rfl rfl rfl ⟨by decide, by decide⟩ rfl)
    (e_each_cons (r_putP X (index := 12) (ci := 5) (k := 0) dX6_init_12 (by decide) (by decide) rfl (Or.inr ⟨rfl, rfl, rfl⟩) w1_211 rfl)
    (e_each_cons (r_aload_n X (k := 0) (i := 0) rfl dX6_init_15 rfl)
    (e_each_cons (r_iconst X (n := (-1)) (v := (-1)) dX6_init_16 (by decide) rfl)
    (e_each_cons (r_putI X (index := 18) (ci := 5) (k := 3) dX6_init_17 (by decide) (by decide) rfl rfl w1_216 rfl)
    (e_each_cons (r_aload_n X (k := 0) (i := 0) rfl dX6_init_20 rfl)
    (e_each_cons (r_new X (index := 22) (ci := 7) (t := 103) dX6_init_21 (by decide) rfl (fun _ => rfl) w1_178 w1_179 w1_6 uw_7 rfl)
    (e_each_cons (r_dup X dX6_init_24 rfl)
    (e_each_cons (r_callIN X rfl (τ := sg_X8_init) (index := 24) (host := "CalendarSync") dX6_init_25 wn1_180 w1_181 cs_X8_init rfl rfl rfl rfl ⟨by decide, by decide⟩ rfl)
    (e_each_cons (r_putP X (index := 25) (ci := 5) (k := 4) dX6_init_28 (by decide) (by decide) rfl (Or.inr ⟨rfl, rfl, rfl⟩) w1_217 rfl)
    (e_each_cons (r_aload_n X (k := 0) (i := 0) rfl dX6_init_31 rfl)
    (e_each_cons (r_aload_n X (k := 0) (i := 0) rfl dX6_init_32 rfl)
    (e_each_cons (r_getP X (index := 12) (ci := 5) (k := 0) dX6_init_33 (by decide) (by decide) rfl w1_211 rfl)
    (e_each_cons (r_getP X (index := 29) (ci := 4) (k := 1) dX6_init_36 (by decide) (by decide) rfl w1_163 rfl)
    (e_each_cons (r_iconst X (n := 0) (v := 0) dX6_init_39 (by decide) rfl)
    (e_each_cons (r_aald X dX6_init_40 rfl)
    (e_each_cons (r_putP X (index := 33) (ci := 5) (k := 7) dX6_init_41 (by decide) (by decide) rfl (Or.inl rfl) w1_221 rfl)
    (e_each_cons (r_aload_n X (k := 0) (i := 0) rfl dX6_init_44 rfl)
    (e_each_cons (r_aload_n X (k := 0) (i := 0) rfl dX6_init_45 rfl)
    (e_each_cons (r_getP X (index := 12) (ci := 5) (k := 0) dX6_init_46 (by decide) (by decide) rfl w1_211 rfl)
    (e_each_cons (r_getP X (index := 37) (ci := 4) (k := 2) dX6_init_49 (by decide) (by decide) rfl w1_166 rfl)
    (e_each_cons (r_iconst X (n := 0) (v := 0) dX6_init_52 (by decide) rfl)
    (e_each_cons (r_aald X dX6_init_53 rfl)
    (e_each_cons (r_putP X (index := 41) (ci := 5) (k := 8) dX6_init_54 (by decide) (by decide) rfl (Or.inl rfl) w1_222 rfl)
    (e_each_cons (r_vret X dX6_init_57 rfl)
    (e_each_nil))))))))))))))))))))))))))))))
def sg_X7_init : SG := (yX7_init, cX7_init, 1, none, 3, 60, 47, 680, 0, false, [])
theorem cs_X7_init : e_cs sg_X7_init := ⟨w2_15, w1_8, ⟨by decide, by decide⟩, by decide +kernel, rfl⟩
theorem mt_X7_init : e_mt sg_X7_init "CalendarSync$Side" := ⟨rfl, by decide +kernel, rfl⟩
theorem dX7_init_0 : decode cX7_init 0 = .ok (.aload_n 0, 1) := by decide +kernel
theorem dX7_init_1 : decode cX7_init 1 = .ok (.invokespecial 3, 3) := by decide +kernel
theorem dX7_init_4 : decode cX7_init 4 = .ok (.aload_n 0, 1) := by decide +kernel
theorem dX7_init_5 : decode cX7_init 5 = .ok (.new 9, 3) := by decide +kernel
theorem dX7_init_8 : decode cX7_init 8 = .ok (.dup, 1) := by decide +kernel
theorem dX7_init_9 : decode cX7_init 9 = .ok (.invokespecial 11, 3) := by decide +kernel
theorem dX7_init_12 : decode cX7_init 12 = .ok (.putfield 12, 3) := by decide +kernel
theorem dX7_init_15 : decode cX7_init 15 = .ok (.aload_n 0, 1) := by decide +kernel
theorem dX7_init_16 : decode cX7_init 16 = .ok (.bipush 6, 2) := by decide +kernel
theorem dX7_init_18 : decode cX7_init 18 = .ok (.newarray .int, 2) := by decide +kernel
theorem dX7_init_20 : decode cX7_init 20 = .ok (.putfield 18, 3) := by decide +kernel
theorem dX7_init_23 : decode cX7_init 23 = .ok (.return_, 1) := by decide +kernel
def pg_X7_init (l : Launch) (g : EG) : List (Nat × ES) := [(0, s_ldP 0), (1, s_oinit), (4, s_ldP 0), (5, s_new sg_X7_init 4 105), (8, s_dup), (9, s_callI l g sg_X7_init sg_X5_init), (12, s_putP 6 0), (15, s_ldP 0), (16, s_c (.inl 6)), (18, s_newa sg_X7_init 17 6), (20, s_putP 6 4), (23, s_vret)]
set_option maxRecDepth 100000 in
theorem ok_X7_init {l : Launch} {g : EG} : e_okp l g sg_X7_init "CalendarSync$Side" (pg_X7_init l g) := fun p e R s m args below meth c ex M0 Q X =>
    e_each_cons (r_aload_n X (k := 0) (i := 0) rfl dX7_init_0 rfl)
    (e_each_cons (r_oinit X (index := 3) dX7_init_1 w2_16 w1_37 w1_38 ⟨by decide, by decide⟩ rfl)
    (e_each_cons (r_aload_n X (k := 0) (i := 0) rfl dX7_init_4 rfl)
    (e_each_cons (r_new X (index := 9) (ci := 4) (t := 105) dX7_init_5 (by decide) rfl (fun _ => rfl) w2_17 w1_46 w1_3 uw_4 rfl)
    (e_each_cons (r_dup X dX7_init_8 rfl)
    (e_each_cons (r_callIN X rfl (τ := sg_X5_init) (index := 11) (host := "CalendarSync") dX7_init_9 wn2_18 w1_48 cs_X5_init rfl rfl rfl rfl ⟨by decide, by decide⟩ rfl)
    (e_each_cons (r_putP X (index := 12) (ci := 6) (k := 0) dX7_init_12 (by decide) (by decide) rfl (Or.inr ⟨rfl, rfl, rfl⟩) w2_19 rfl)
    (e_each_cons (r_aload_n X (k := 0) (i := 0) rfl dX7_init_15 rfl)
    (e_each_cons (r_bipush X (n := 6) (v := 6) dX7_init_16 (by decide) rfl)
    (e_each_cons (r_newa X (ai := 0) (t := 17) (n := 6) dX7_init_18 rfl (fun _ => rfl) rfl (Or.inl ⟨rfl, rfl⟩) w1_159 (by decide) (by decide) rfl)
    (e_each_cons (r_putP X (index := 18) (ci := 6) (k := 4) dX7_init_20 (by decide) (by decide) rfl (Or.inr ⟨rfl, rfl, rfl⟩) w2_31 rfl)
    (e_each_cons (r_vret X dX7_init_23 rfl)
    (e_each_nil))))))))))))
def sg_X3_init : SG := (yX3_init, cX3_init, 1, none, 4, 80, 144, 2054, 0, false, [])
theorem cs_X3_init : e_cs sg_X3_init := ⟨w2_6, w1_7, ⟨by decide, by decide⟩, by decide +kernel, rfl⟩
theorem mt_X3_init : e_mt sg_X3_init "CalendarSync$Exchange" := ⟨rfl, by decide +kernel, rfl⟩
theorem dX3_init_0 : decode cX3_init 0 = .ok (.aload_n 0, 1) := by decide +kernel
theorem dX3_init_1 : decode cX3_init 1 = .ok (.invokespecial 3, 3) := by decide +kernel
theorem dX3_init_4 : decode cX3_init 4 = .ok (.aload_n 0, 1) := by decide +kernel
theorem dX3_init_5 : decode cX3_init 5 = .ok (.new 9, 3) := by decide +kernel
theorem dX3_init_8 : decode cX3_init 8 = .ok (.dup, 1) := by decide +kernel
theorem dX3_init_9 : decode cX3_init 9 = .ok (.invokespecial 11, 3) := by decide +kernel
theorem dX3_init_12 : decode cX3_init 12 = .ok (.putfield 12, 3) := by decide +kernel
theorem dX3_init_15 : decode cX3_init 15 = .ok (.aload_n 0, 1) := by decide +kernel
theorem dX3_init_16 : decode cX3_init 16 = .ok (.iconst 2, 1) := by decide +kernel
theorem dX3_init_17 : decode cX3_init 17 = .ok (.anewarray 18, 3) := by decide +kernel
theorem dX3_init_20 : decode cX3_init 20 = .ok (.dup, 1) := by decide +kernel
theorem dX3_init_21 : decode cX3_init 21 = .ok (.iconst 0, 1) := by decide +kernel
theorem dX3_init_22 : decode cX3_init 22 = .ok (.new 18, 3) := by decide +kernel
theorem dX3_init_25 : decode cX3_init 25 = .ok (.dup, 1) := by decide +kernel
theorem dX3_init_26 : decode cX3_init 26 = .ok (.invokespecial 20, 3) := by decide +kernel
theorem dX3_init_29 : decode cX3_init 29 = .ok (.aastore, 1) := by decide +kernel
theorem dX3_init_30 : decode cX3_init 30 = .ok (.dup, 1) := by decide +kernel
theorem dX3_init_31 : decode cX3_init 31 = .ok (.iconst 1, 1) := by decide +kernel
theorem dX3_init_32 : decode cX3_init 32 = .ok (.new 18, 3) := by decide +kernel
theorem dX3_init_35 : decode cX3_init 35 = .ok (.dup, 1) := by decide +kernel
theorem dX3_init_36 : decode cX3_init 36 = .ok (.invokespecial 20, 3) := by decide +kernel
theorem dX3_init_39 : decode cX3_init 39 = .ok (.aastore, 1) := by decide +kernel
theorem dX3_init_40 : decode cX3_init 40 = .ok (.putfield 21, 3) := by decide +kernel
theorem dX3_init_43 : decode cX3_init 43 = .ok (.aload_n 0, 1) := by decide +kernel
theorem dX3_init_44 : decode cX3_init 44 = .ok (.bipush 8, 2) := by decide +kernel
theorem dX3_init_46 : decode cX3_init 46 = .ok (.newarray .int, 2) := by decide +kernel
theorem dX3_init_48 : decode cX3_init 48 = .ok (.putfield 25, 3) := by decide +kernel
theorem dX3_init_51 : decode cX3_init 51 = .ok (.return_, 1) := by decide +kernel
def pg_X3_init (l : Launch) (g : EG) : List (Nat × ES) := [(0, s_ldP 0), (1, s_oinit), (4, s_ldP 0), (5, s_new sg_X3_init 4 105), (8, s_dup), (9, s_callI l g sg_X3_init sg_X5_init), (12, s_putP 2 1), (15, s_ldP 0), (16, s_c (.inl 2)), (17, s_newa sg_X3_init 115 2), (20, s_dup), (21, s_c (.inl 0)), (22, s_new sg_X3_init 6 116), (25, s_dup), (26, s_callI l g sg_X3_init sg_X7_init), (29, s_aast), (30, s_dup), (31, s_c (.inl 1)), (32, s_new sg_X3_init 6 116), (35, s_dup), (36, s_callI l g sg_X3_init sg_X7_init), (39, s_aast), (40, s_putP 2 2), (43, s_ldP 0), (44, s_c (.inl 8)), (46, s_newa sg_X3_init 18 8), (48, s_putP 2 3), (51, s_vret)]
set_option maxRecDepth 100000 in
theorem ok_X3_init {l : Launch} {g : EG} : e_okp l g sg_X3_init "CalendarSync$Exchange" (pg_X3_init l g) := fun p e R s m args below meth c ex M0 Q X =>
    e_each_cons (r_aload_n X (k := 0) (i := 0) rfl dX3_init_0 rfl)
    (e_each_cons (r_oinit X (index := 3) dX3_init_1 w2_7 w1_37 w1_38 ⟨by decide, by decide⟩ rfl)
    (e_each_cons (r_aload_n X (k := 0) (i := 0) rfl dX3_init_4 rfl)
    (e_each_cons (r_new X (index := 9) (ci := 4) (t := 105) dX3_init_5 (by decide) rfl (fun _ => rfl) w2_8 w1_46 w1_3 uw_4 rfl)
    (e_each_cons (r_dup X dX3_init_8 rfl)
    (e_each_cons (r_callIN X rfl (τ := sg_X5_init) (index := 11) (host := "CalendarSync") dX3_init_9 wn2_9 w1_48 cs_X5_init rfl rfl rfl rfl ⟨by decide, by decide⟩ rfl)
    (e_each_cons (r_putP X (index := 12) (ci := 2) (k := 1) dX3_init_12 (by decide) (by decide) rfl (Or.inr ⟨rfl, rfl, rfl⟩) w2_47 rfl)
    (e_each_cons (r_aload_n X (k := 0) (i := 0) rfl dX3_init_15 rfl)
    (e_each_cons (r_iconst X (n := 2) (v := 2) dX3_init_16 (by decide) rfl)
    (e_each_cons (r_anewa X (index := 18) (ai := 8) (t := 115) (n := 2) (C := "CalendarSync$Side") dX3_init_17 rfl (fun _ => rfl) ⟨by decide, by decide⟩ (fun _ => rfl) (by decide) w2_10 (by decide) rfl)
    (e_each_cons (r_dup X dX3_init_20 rfl)
    (e_each_cons (r_iconst X (n := 0) (v := 0) dX3_init_21 (by decide) rfl)
    (e_each_cons (r_new X (index := 18) (ci := 6) (t := 116) dX3_init_22 (by decide) rfl (fun _ => rfl) w2_10 w2_12 w1_8 uw_6 rfl)
    (e_each_cons (r_dup X dX3_init_25 rfl)
    (e_each_cons (r_callIN X rfl (τ := sg_X7_init) (index := 20) (host := "CalendarSync") dX3_init_26 wn2_13 w2_14 cs_X7_init rfl rfl rfl rfl ⟨by decide, by decide⟩ rfl)
    (e_each_cons (r_aast X dX3_init_29 rfl)
    (e_each_cons (r_dup X dX3_init_30 rfl)
    (e_each_cons (r_iconst X (n := 1) (v := 1) dX3_init_31 (by decide) rfl)
    (e_each_cons (r_new X (index := 18) (ci := 6) (t := 116) dX3_init_32 (by decide) rfl (fun _ => rfl) w2_10 w2_12 w1_8 uw_6 rfl)
    (e_each_cons (r_dup X dX3_init_35 rfl)
    (e_each_cons (r_callIN X rfl (τ := sg_X7_init) (index := 20) (host := "CalendarSync") dX3_init_36 wn2_13 w2_14 cs_X7_init rfl rfl rfl rfl ⟨by decide, by decide⟩ rfl)
    (e_each_cons (r_aast X dX3_init_39 rfl)
    (e_each_cons (r_putP X (index := 21) (ci := 2) (k := 2) dX3_init_40 (by decide) (by decide) rfl (Or.inr ⟨rfl, rfl, rfl⟩) w2_49 rfl)
    (e_each_cons (r_aload_n X (k := 0) (i := 0) rfl dX3_init_43 rfl)
    (e_each_cons (r_bipush X (n := 8) (v := 8) dX3_init_44 (by decide) rfl)
    (e_each_cons (r_newa X (ai := 0) (t := 18) (n := 8) dX3_init_46 rfl (fun _ => rfl) rfl (Or.inl ⟨rfl, rfl⟩) w1_159 (by decide) (by decide) rfl)
    (e_each_cons (r_putP X (index := 25) (ci := 2) (k := 3) dX3_init_48 (by decide) (by decide) rfl (Or.inr ⟨rfl, rfl, rfl⟩) w2_51 rfl)
    (e_each_cons (r_vret X dX3_init_51 rfl)
    (e_each_nil))))))))))))))))))))))))))))
def sg_X4_init : SG := (yX4_init, cX4_init, 1, none, 5, 100, 1741, 24708, 0, false, [])
theorem cs_X4_init : e_cs sg_X4_init := ⟨w2_65, w1_9, ⟨by decide, by decide⟩, by decide +kernel, rfl⟩
theorem mt_X4_init : e_mt sg_X4_init "CalendarSync$History" := ⟨rfl, by decide +kernel, rfl⟩
theorem dX4_init_0 : decode cX4_init 0 = .ok (.aload_n 0, 1) := by decide +kernel
theorem dX4_init_1 : decode cX4_init 1 = .ok (.invokespecial 1, 3) := by decide +kernel
theorem dX4_init_4 : decode cX4_init 4 = .ok (.aload_n 0, 1) := by decide +kernel
theorem dX4_init_5 : decode cX4_init 5 = .ok (.bipush 12, 2) := by decide +kernel
theorem dX4_init_7 : decode cX4_init 7 = .ok (.anewarray 7, 3) := by decide +kernel
theorem dX4_init_10 : decode cX4_init 10 = .ok (.dup, 1) := by decide +kernel
theorem dX4_init_11 : decode cX4_init 11 = .ok (.iconst 0, 1) := by decide +kernel
theorem dX4_init_12 : decode cX4_init 12 = .ok (.new 7, 3) := by decide +kernel
theorem dX4_init_15 : decode cX4_init 15 = .ok (.dup, 1) := by decide +kernel
theorem dX4_init_16 : decode cX4_init 16 = .ok (.invokespecial 9, 3) := by decide +kernel
theorem dX4_init_19 : decode cX4_init 19 = .ok (.aastore, 1) := by decide +kernel
theorem dX4_init_20 : decode cX4_init 20 = .ok (.dup, 1) := by decide +kernel
theorem dX4_init_21 : decode cX4_init 21 = .ok (.iconst 1, 1) := by decide +kernel
theorem dX4_init_22 : decode cX4_init 22 = .ok (.new 7, 3) := by decide +kernel
theorem dX4_init_25 : decode cX4_init 25 = .ok (.dup, 1) := by decide +kernel
theorem dX4_init_26 : decode cX4_init 26 = .ok (.invokespecial 9, 3) := by decide +kernel
theorem dX4_init_29 : decode cX4_init 29 = .ok (.aastore, 1) := by decide +kernel
theorem dX4_init_30 : decode cX4_init 30 = .ok (.dup, 1) := by decide +kernel
theorem dX4_init_31 : decode cX4_init 31 = .ok (.iconst 2, 1) := by decide +kernel
theorem dX4_init_32 : decode cX4_init 32 = .ok (.new 7, 3) := by decide +kernel
theorem dX4_init_35 : decode cX4_init 35 = .ok (.dup, 1) := by decide +kernel
theorem dX4_init_36 : decode cX4_init 36 = .ok (.invokespecial 9, 3) := by decide +kernel
theorem dX4_init_39 : decode cX4_init 39 = .ok (.aastore, 1) := by decide +kernel
theorem dX4_init_40 : decode cX4_init 40 = .ok (.dup, 1) := by decide +kernel
theorem dX4_init_41 : decode cX4_init 41 = .ok (.iconst 3, 1) := by decide +kernel
theorem dX4_init_42 : decode cX4_init 42 = .ok (.new 7, 3) := by decide +kernel
theorem dX4_init_45 : decode cX4_init 45 = .ok (.dup, 1) := by decide +kernel
theorem dX4_init_46 : decode cX4_init 46 = .ok (.invokespecial 9, 3) := by decide +kernel
theorem dX4_init_49 : decode cX4_init 49 = .ok (.aastore, 1) := by decide +kernel
theorem dX4_init_50 : decode cX4_init 50 = .ok (.dup, 1) := by decide +kernel
theorem dX4_init_51 : decode cX4_init 51 = .ok (.iconst 4, 1) := by decide +kernel
theorem dX4_init_52 : decode cX4_init 52 = .ok (.new 7, 3) := by decide +kernel
theorem dX4_init_55 : decode cX4_init 55 = .ok (.dup, 1) := by decide +kernel
theorem dX4_init_56 : decode cX4_init 56 = .ok (.invokespecial 9, 3) := by decide +kernel
theorem dX4_init_59 : decode cX4_init 59 = .ok (.aastore, 1) := by decide +kernel
theorem dX4_init_60 : decode cX4_init 60 = .ok (.dup, 1) := by decide +kernel
theorem dX4_init_61 : decode cX4_init 61 = .ok (.iconst 5, 1) := by decide +kernel
theorem dX4_init_62 : decode cX4_init 62 = .ok (.new 7, 3) := by decide +kernel
theorem dX4_init_65 : decode cX4_init 65 = .ok (.dup, 1) := by decide +kernel
theorem dX4_init_66 : decode cX4_init 66 = .ok (.invokespecial 9, 3) := by decide +kernel
theorem dX4_init_69 : decode cX4_init 69 = .ok (.aastore, 1) := by decide +kernel
theorem dX4_init_70 : decode cX4_init 70 = .ok (.dup, 1) := by decide +kernel
theorem dX4_init_71 : decode cX4_init 71 = .ok (.bipush 6, 2) := by decide +kernel
theorem dX4_init_73 : decode cX4_init 73 = .ok (.new 7, 3) := by decide +kernel
theorem dX4_init_76 : decode cX4_init 76 = .ok (.dup, 1) := by decide +kernel
theorem dX4_init_77 : decode cX4_init 77 = .ok (.invokespecial 9, 3) := by decide +kernel
theorem dX4_init_80 : decode cX4_init 80 = .ok (.aastore, 1) := by decide +kernel
theorem dX4_init_81 : decode cX4_init 81 = .ok (.dup, 1) := by decide +kernel
theorem dX4_init_82 : decode cX4_init 82 = .ok (.bipush 7, 2) := by decide +kernel
theorem dX4_init_84 : decode cX4_init 84 = .ok (.new 7, 3) := by decide +kernel
theorem dX4_init_87 : decode cX4_init 87 = .ok (.dup, 1) := by decide +kernel
theorem dX4_init_88 : decode cX4_init 88 = .ok (.invokespecial 9, 3) := by decide +kernel
theorem dX4_init_91 : decode cX4_init 91 = .ok (.aastore, 1) := by decide +kernel
theorem dX4_init_92 : decode cX4_init 92 = .ok (.dup, 1) := by decide +kernel
theorem dX4_init_93 : decode cX4_init 93 = .ok (.bipush 8, 2) := by decide +kernel
theorem dX4_init_95 : decode cX4_init 95 = .ok (.new 7, 3) := by decide +kernel
theorem dX4_init_98 : decode cX4_init 98 = .ok (.dup, 1) := by decide +kernel
theorem dX4_init_99 : decode cX4_init 99 = .ok (.invokespecial 9, 3) := by decide +kernel
theorem dX4_init_102 : decode cX4_init 102 = .ok (.aastore, 1) := by decide +kernel
theorem dX4_init_103 : decode cX4_init 103 = .ok (.dup, 1) := by decide +kernel
theorem dX4_init_104 : decode cX4_init 104 = .ok (.bipush 9, 2) := by decide +kernel
theorem dX4_init_106 : decode cX4_init 106 = .ok (.new 7, 3) := by decide +kernel
theorem dX4_init_109 : decode cX4_init 109 = .ok (.dup, 1) := by decide +kernel
theorem dX4_init_110 : decode cX4_init 110 = .ok (.invokespecial 9, 3) := by decide +kernel
theorem dX4_init_113 : decode cX4_init 113 = .ok (.aastore, 1) := by decide +kernel
theorem dX4_init_114 : decode cX4_init 114 = .ok (.dup, 1) := by decide +kernel
theorem dX4_init_115 : decode cX4_init 115 = .ok (.bipush 10, 2) := by decide +kernel
theorem dX4_init_117 : decode cX4_init 117 = .ok (.new 7, 3) := by decide +kernel
theorem dX4_init_120 : decode cX4_init 120 = .ok (.dup, 1) := by decide +kernel
theorem dX4_init_121 : decode cX4_init 121 = .ok (.invokespecial 9, 3) := by decide +kernel
theorem dX4_init_124 : decode cX4_init 124 = .ok (.aastore, 1) := by decide +kernel
theorem dX4_init_125 : decode cX4_init 125 = .ok (.dup, 1) := by decide +kernel
theorem dX4_init_126 : decode cX4_init 126 = .ok (.bipush 11, 2) := by decide +kernel
theorem dX4_init_128 : decode cX4_init 128 = .ok (.new 7, 3) := by decide +kernel
theorem dX4_init_131 : decode cX4_init 131 = .ok (.dup, 1) := by decide +kernel
theorem dX4_init_132 : decode cX4_init 132 = .ok (.invokespecial 9, 3) := by decide +kernel
theorem dX4_init_135 : decode cX4_init 135 = .ok (.aastore, 1) := by decide +kernel
theorem dX4_init_136 : decode cX4_init 136 = .ok (.putfield 10, 3) := by decide +kernel
theorem dX4_init_139 : decode cX4_init 139 = .ok (.return_, 1) := by decide +kernel
def pg_X4_init (l : Launch) (g : EG) : List (Nat × ES) := [(0, s_ldP 0), (1, s_oinit), (4, s_ldP 0), (5, s_c (.inl 12)), (7, s_newa sg_X4_init 120 12), (10, s_dup), (11, s_c (.inl 0)), (12, s_new sg_X4_init 2 114), (15, s_dup), (16, s_callI l g sg_X4_init sg_X3_init), (19, s_aast), (20, s_dup), (21, s_c (.inl 1)), (22, s_new sg_X4_init 2 114), (25, s_dup), (26, s_callI l g sg_X4_init sg_X3_init), (29, s_aast), (30, s_dup), (31, s_c (.inl 2)), (32, s_new sg_X4_init 2 114), (35, s_dup), (36, s_callI l g sg_X4_init sg_X3_init), (39, s_aast), (40, s_dup), (41, s_c (.inl 3)), (42, s_new sg_X4_init 2 114), (45, s_dup), (46, s_callI l g sg_X4_init sg_X3_init), (49, s_aast), (50, s_dup), (51, s_c (.inl 4)), (52, s_new sg_X4_init 2 114), (55, s_dup), (56, s_callI l g sg_X4_init sg_X3_init), (59, s_aast), (60, s_dup), (61, s_c (.inl 5)), (62, s_new sg_X4_init 2 114), (65, s_dup), (66, s_callI l g sg_X4_init sg_X3_init), (69, s_aast), (70, s_dup), (71, s_c (.inl 6)), (73, s_new sg_X4_init 2 114), (76, s_dup), (77, s_callI l g sg_X4_init sg_X3_init), (80, s_aast), (81, s_dup), (82, s_c (.inl 7)), (84, s_new sg_X4_init 2 114), (87, s_dup), (88, s_callI l g sg_X4_init sg_X3_init), (91, s_aast), (92, s_dup), (93, s_c (.inl 8)), (95, s_new sg_X4_init 2 114), (98, s_dup), (99, s_callI l g sg_X4_init sg_X3_init), (102, s_aast), (103, s_dup), (104, s_c (.inl 9)), (106, s_new sg_X4_init 2 114), (109, s_dup), (110, s_callI l g sg_X4_init sg_X3_init), (113, s_aast), (114, s_dup), (115, s_c (.inl 10)), (117, s_new sg_X4_init 2 114), (120, s_dup), (121, s_callI l g sg_X4_init sg_X3_init), (124, s_aast), (125, s_dup), (126, s_c (.inl 11)), (128, s_new sg_X4_init 2 114), (131, s_dup), (132, s_callI l g sg_X4_init sg_X3_init), (135, s_aast), (136, s_putP 3 2), (139, s_vret)]
set_option maxRecDepth 100000 in
theorem ok_X4_init {l : Launch} {g : EG} : e_okp l g sg_X4_init "CalendarSync$History" (pg_X4_init l g) := fun p e R s m args below meth c ex M0 Q X =>
    e_each_cons (r_aload_n X (k := 0) (i := 0) rfl dX4_init_0 rfl)
    (e_each_cons (r_oinit X (index := 1) dX4_init_1 w2_66 w1_37 w1_38 ⟨by decide, by decide⟩ rfl)
    (e_each_cons (r_aload_n X (k := 0) (i := 0) rfl dX4_init_4 rfl)
    (e_each_cons (r_bipush X (n := 12) (v := 12) dX4_init_5 (by decide) rfl)
    (e_each_cons (r_anewa X (index := 7) (ai := 7) (t := 120) (n := 12) (C := "CalendarSync$Exchange") dX4_init_7 rfl (fun _ => rfl) ⟨by decide, by decide⟩ (fun _ => rfl) (by decide) w2_67 (by decide) rfl)
    (e_each_cons (r_dup X dX4_init_10 rfl)
    (e_each_cons (r_iconst X (n := 0) (v := 0) dX4_init_11 (by decide) rfl)
    (e_each_cons (r_new X (index := 7) (ci := 2) (t := 114) dX4_init_12 (by decide) rfl (fun _ => rfl) w2_67 w2_3 w1_7 uw_2 rfl)
    (e_each_cons (r_dup X dX4_init_15 rfl)
    (e_each_cons (r_callIN X rfl (τ := sg_X3_init) (index := 9) (host := "CalendarSync") dX4_init_16 wn2_69 w2_5 cs_X3_init rfl rfl rfl rfl ⟨by decide, by decide⟩ rfl)
    (e_each_cons (r_aast X dX4_init_19 rfl)
    (e_each_cons (r_dup X dX4_init_20 rfl)
    (e_each_cons (r_iconst X (n := 1) (v := 1) dX4_init_21 (by decide) rfl)
    (e_each_cons (r_new X (index := 7) (ci := 2) (t := 114) dX4_init_22 (by decide) rfl (fun _ => rfl) w2_67 w2_3 w1_7 uw_2 rfl)
    (e_each_cons (r_dup X dX4_init_25 rfl)
    (e_each_cons (r_callIN X rfl (τ := sg_X3_init) (index := 9) (host := "CalendarSync") dX4_init_26 wn2_69 w2_5 cs_X3_init rfl rfl rfl rfl ⟨by decide, by decide⟩ rfl)
    (e_each_cons (r_aast X dX4_init_29 rfl)
    (e_each_cons (r_dup X dX4_init_30 rfl)
    (e_each_cons (r_iconst X (n := 2) (v := 2) dX4_init_31 (by decide) rfl)
    (e_each_cons (r_new X (index := 7) (ci := 2) (t := 114) dX4_init_32 (by decide) rfl (fun _ => rfl) w2_67 w2_3 w1_7 uw_2 rfl)
    (e_each_cons (r_dup X dX4_init_35 rfl)
    (e_each_cons (r_callIN X rfl (τ := sg_X3_init) (index := 9) (host := "CalendarSync") dX4_init_36 wn2_69 w2_5 cs_X3_init rfl rfl rfl rfl ⟨by decide, by decide⟩ rfl)
    (e_each_cons (r_aast X dX4_init_39 rfl)
    (e_each_cons (r_dup X dX4_init_40 rfl)
    (e_each_cons (r_iconst X (n := 3) (v := 3) dX4_init_41 (by decide) rfl)
    (e_each_cons (r_new X (index := 7) (ci := 2) (t := 114) dX4_init_42 (by decide) rfl (fun _ => rfl) w2_67 w2_3 w1_7 uw_2 rfl)
    (e_each_cons (r_dup X dX4_init_45 rfl)
    (e_each_cons (r_callIN X rfl (τ := sg_X3_init) (index := 9) (host := "CalendarSync") dX4_init_46 wn2_69 w2_5 cs_X3_init rfl rfl rfl rfl ⟨by decide, by decide⟩ rfl)
    (e_each_cons (r_aast X dX4_init_49 rfl)
    (e_each_cons (r_dup X dX4_init_50 rfl)
    (e_each_cons (r_iconst X (n := 4) (v := 4) dX4_init_51 (by decide) rfl)
    (e_each_cons (r_new X (index := 7) (ci := 2) (t := 114) dX4_init_52 (by decide) rfl (fun _ => rfl) w2_67 w2_3 w1_7 uw_2 rfl)
    (e_each_cons (r_dup X dX4_init_55 rfl)
    (e_each_cons (r_callIN X rfl (τ := sg_X3_init) (index := 9) (host := "CalendarSync") dX4_init_56 wn2_69 w2_5 cs_X3_init rfl rfl rfl rfl ⟨by decide, by decide⟩ rfl)
    (e_each_cons (r_aast X dX4_init_59 rfl)
    (e_each_cons (r_dup X dX4_init_60 rfl)
    (e_each_cons (r_iconst X (n := 5) (v := 5) dX4_init_61 (by decide) rfl)
    (e_each_cons (r_new X (index := 7) (ci := 2) (t := 114) dX4_init_62 (by decide) rfl (fun _ => rfl) w2_67 w2_3 w1_7 uw_2 rfl)
    (e_each_cons (r_dup X dX4_init_65 rfl)
    (e_each_cons (r_callIN X rfl (τ := sg_X3_init) (index := 9) (host := "CalendarSync") dX4_init_66 wn2_69 w2_5 cs_X3_init rfl rfl rfl rfl ⟨by decide, by decide⟩ rfl)
    (e_each_cons (r_aast X dX4_init_69 rfl)
    (e_each_cons (r_dup X dX4_init_70 rfl)
    (e_each_cons (r_bipush X (n := 6) (v := 6) dX4_init_71 (by decide) rfl)
    (e_each_cons (r_new X (index := 7) (ci := 2) (t := 114) dX4_init_73 (by decide) rfl (fun _ => rfl) w2_67 w2_3 w1_7 uw_2 rfl)
    (e_each_cons (r_dup X dX4_init_76 rfl)
    (e_each_cons (r_callIN X rfl (τ := sg_X3_init) (index := 9) (host := "CalendarSync") dX4_init_77 wn2_69 w2_5 cs_X3_init rfl rfl rfl rfl ⟨by decide, by decide⟩ rfl)
    (e_each_cons (r_aast X dX4_init_80 rfl)
    (e_each_cons (r_dup X dX4_init_81 rfl)
    (e_each_cons (r_bipush X (n := 7) (v := 7) dX4_init_82 (by decide) rfl)
    (e_each_cons (r_new X (index := 7) (ci := 2) (t := 114) dX4_init_84 (by decide) rfl (fun _ => rfl) w2_67 w2_3 w1_7 uw_2 rfl)
    (e_each_cons (r_dup X dX4_init_87 rfl)
    (e_each_cons (r_callIN X rfl (τ := sg_X3_init) (index := 9) (host := "CalendarSync") dX4_init_88 wn2_69 w2_5 cs_X3_init rfl rfl rfl rfl ⟨by decide, by decide⟩ rfl)
    (e_each_cons (r_aast X dX4_init_91 rfl)
    (e_each_cons (r_dup X dX4_init_92 rfl)
    (e_each_cons (r_bipush X (n := 8) (v := 8) dX4_init_93 (by decide) rfl)
    (e_each_cons (r_new X (index := 7) (ci := 2) (t := 114) dX4_init_95 (by decide) rfl (fun _ => rfl) w2_67 w2_3 w1_7 uw_2 rfl)
    (e_each_cons (r_dup X dX4_init_98 rfl)
    (e_each_cons (r_callIN X rfl (τ := sg_X3_init) (index := 9) (host := "CalendarSync") dX4_init_99 wn2_69 w2_5 cs_X3_init rfl rfl rfl rfl ⟨by decide, by decide⟩ rfl)
    (e_each_cons (r_aast X dX4_init_102 rfl)
    (e_each_cons (r_dup X dX4_init_103 rfl)
    (e_each_cons (r_bipush X (n := 9) (v := 9) dX4_init_104 (by decide) rfl)
    (e_each_cons (r_new X (index := 7) (ci := 2) (t := 114) dX4_init_106 (by decide) rfl (fun _ => rfl) w2_67 w2_3 w1_7 uw_2 rfl)
    (e_each_cons (r_dup X dX4_init_109 rfl)
    (e_each_cons (r_callIN X rfl (τ := sg_X3_init) (index := 9) (host := "CalendarSync") dX4_init_110 wn2_69 w2_5 cs_X3_init rfl rfl rfl rfl ⟨by decide, by decide⟩ rfl)
    (e_each_cons (r_aast X dX4_init_113 rfl)
    (e_each_cons (r_dup X dX4_init_114 rfl)
    (e_each_cons (r_bipush X (n := 10) (v := 10) dX4_init_115 (by decide) rfl)
    (e_each_cons (r_new X (index := 7) (ci := 2) (t := 114) dX4_init_117 (by decide) rfl (fun _ => rfl) w2_67 w2_3 w1_7 uw_2 rfl)
    (e_each_cons (r_dup X dX4_init_120 rfl)
    (e_each_cons (r_callIN X rfl (τ := sg_X3_init) (index := 9) (host := "CalendarSync") dX4_init_121 wn2_69 w2_5 cs_X3_init rfl rfl rfl rfl ⟨by decide, by decide⟩ rfl)
    (e_each_cons (r_aast X dX4_init_124 rfl)
    (e_each_cons (r_dup X dX4_init_125 rfl)
    (e_each_cons (r_bipush X (n := 11) (v := 11) dX4_init_126 (by decide) rfl)
    (e_each_cons (r_new X (index := 7) (ci := 2) (t := 114) dX4_init_128 (by decide) rfl (fun _ => rfl) w2_67 w2_3 w1_7 uw_2 rfl)
    (e_each_cons (r_dup X dX4_init_131 rfl)
    (e_each_cons (r_callIN X rfl (τ := sg_X3_init) (index := 9) (host := "CalendarSync") dX4_init_132 wn2_69 w2_5 cs_X3_init rfl rfl rfl rfl ⟨by decide, by decide⟩ rfl)
    (e_each_cons (r_aast X dX4_init_135 rfl)
    (e_each_cons (r_putP X (index := 10) (ci := 3) (k := 2) dX4_init_136 (by decide) (by decide) rfl (Or.inr ⟨rfl, rfl, rfl⟩) w2_73 rfl)
    (e_each_cons (r_vret X dX4_init_139 rfl)
    (e_each_nil)))))))))))))))))))))))))))))))))))))))))))))))))))))))))))))))))))))))))))))))
def sg_X0_init : SG := (yX0_init, cX0_init, 1, none, 1, 20, 2, 248, 0, false, [])
theorem cs_X0_init : e_cs sg_X0_init := ⟨w2_85, w1_10, ⟨by decide, by decide⟩, by decide +kernel, rfl⟩
theorem mt_X0_init : e_mt sg_X0_init "CalendarSync$Agenda" := ⟨rfl, by decide +kernel, rfl⟩
theorem dX0_init_0 : decode cX0_init 0 = .ok (.aload_n 0, 1) := by decide +kernel
theorem dX0_init_1 : decode cX0_init 1 = .ok (.invokespecial 5, 3) := by decide +kernel
theorem dX0_init_4 : decode cX0_init 4 = .ok (.aload_n 0, 1) := by decide +kernel
theorem dX0_init_5 : decode cX0_init 5 = .ok (.sipush 240, 3) := by decide +kernel
theorem dX0_init_8 : decode cX0_init 8 = .ok (.newarray .int, 2) := by decide +kernel
theorem dX0_init_10 : decode cX0_init 10 = .ok (.putfield 11, 3) := by decide +kernel
theorem dX0_init_13 : decode cX0_init 13 = .ok (.aload_n 0, 1) := by decide +kernel
theorem dX0_init_14 : decode cX0_init 14 = .ok (.bipush 8, 2) := by decide +kernel
theorem dX0_init_16 : decode cX0_init 16 = .ok (.newarray .int, 2) := by decide +kernel
theorem dX0_init_18 : decode cX0_init 18 = .ok (.putfield 15, 3) := by decide +kernel
theorem dX0_init_21 : decode cX0_init 21 = .ok (.return_, 1) := by decide +kernel
def pg_X0_init (l : Launch) (g : EG) : List (Nat × ES) := [(0, s_ldP 0), (1, s_oinit), (4, s_ldP 0), (5, s_c (.inl 240)), (8, s_newa sg_X0_init 24 240), (10, s_putP 0 1), (13, s_ldP 0), (14, s_c (.inl 8)), (16, s_newa sg_X0_init 25 8), (18, s_putP 0 2), (21, s_vret)]
set_option maxRecDepth 100000 in
theorem ok_X0_init {l : Launch} {g : EG} : e_okp l g sg_X0_init "CalendarSync$Agenda" (pg_X0_init l g) := fun p e R s m args below meth c ex M0 Q X =>
    e_each_cons (r_aload_n X (k := 0) (i := 0) rfl dX0_init_0 rfl)
    (e_each_cons (r_oinit X (index := 5) dX0_init_1 w2_86 w1_37 w1_38 ⟨by decide, by decide⟩ rfl)
    (e_each_cons (r_aload_n X (k := 0) (i := 0) rfl dX0_init_4 rfl)
    (e_each_cons (r_sipush X (n := 240) (v := 240) dX0_init_5 (by decide) rfl)
    (e_each_cons (r_newa X (ai := 0) (t := 24) (n := 240) dX0_init_8 rfl (fun _ => rfl) rfl (Or.inl ⟨rfl, rfl⟩) w1_159 (by decide) (by decide) rfl)
    (e_each_cons (r_putP X (index := 11) (ci := 0) (k := 1) dX0_init_10 (by decide) (by decide) rfl (Or.inr ⟨rfl, rfl, rfl⟩) w2_89 rfl)
    (e_each_cons (r_aload_n X (k := 0) (i := 0) rfl dX0_init_13 rfl)
    (e_each_cons (r_bipush X (n := 8) (v := 8) dX0_init_14 (by decide) rfl)
    (e_each_cons (r_newa X (ai := 0) (t := 25) (n := 8) dX0_init_16 rfl (fun _ => rfl) rfl (Or.inl ⟨rfl, rfl⟩) w1_159 (by decide) (by decide) rfl)
    (e_each_cons (r_putP X (index := 15) (ci := 0) (k := 2) dX0_init_18 (by decide) (by decide) rfl (Or.inr ⟨rfl, rfl, rfl⟩) w2_90 rfl)
    (e_each_cons (r_vret X dX0_init_21 rfl)
    (e_each_nil)))))))))))
def sg_X10_init : SG := (yX10_init, cX10_init, 1, none, 6, 120, 2231, 32630, 0, false, [])
theorem cs_X10_init : e_cs sg_X10_init := ⟨w1_35, w1_1, ⟨by decide, by decide⟩, by decide +kernel, rfl⟩
theorem mt_X10_init : e_mt sg_X10_init "CalendarSync" := ⟨rfl, by decide +kernel, rfl⟩
theorem dX10_init_0 : decode cX10_init 0 = .ok (.aload_n 0, 1) := by decide +kernel
theorem dX10_init_1 : decode cX10_init 1 = .ok (.invokespecial 1, 3) := by decide +kernel
theorem dX10_init_4 : decode cX10_init 4 = .ok (.aload_n 0, 1) := by decide +kernel
theorem dX10_init_5 : decode cX10_init 5 = .ok (.new 7, 3) := by decide +kernel
theorem dX10_init_8 : decode cX10_init 8 = .ok (.dup, 1) := by decide +kernel
theorem dX10_init_9 : decode cX10_init 9 = .ok (.invokespecial 9, 3) := by decide +kernel
theorem dX10_init_12 : decode cX10_init 12 = .ok (.putfield 10, 3) := by decide +kernel
theorem dX10_init_15 : decode cX10_init 15 = .ok (.aload_n 0, 1) := by decide +kernel
theorem dX10_init_16 : decode cX10_init 16 = .ok (.new 16, 3) := by decide +kernel
theorem dX10_init_19 : decode cX10_init 19 = .ok (.dup, 1) := by decide +kernel
theorem dX10_init_20 : decode cX10_init 20 = .ok (.invokespecial 18, 3) := by decide +kernel
theorem dX10_init_23 : decode cX10_init 23 = .ok (.putfield 19, 3) := by decide +kernel
theorem dX10_init_26 : decode cX10_init 26 = .ok (.aload_n 0, 1) := by decide +kernel
theorem dX10_init_27 : decode cX10_init 27 = .ok (.new 23, 3) := by decide +kernel
theorem dX10_init_30 : decode cX10_init 30 = .ok (.dup, 1) := by decide +kernel
theorem dX10_init_31 : decode cX10_init 31 = .ok (.invokespecial 25, 3) := by decide +kernel
theorem dX10_init_34 : decode cX10_init 34 = .ok (.putfield 26, 3) := by decide +kernel
theorem dX10_init_37 : decode cX10_init 37 = .ok (.aload_n 0, 1) := by decide +kernel
theorem dX10_init_38 : decode cX10_init 38 = .ok (.iconst 2, 1) := by decide +kernel
theorem dX10_init_39 : decode cX10_init 39 = .ok (.anewarray 16, 3) := by decide +kernel
theorem dX10_init_42 : decode cX10_init 42 = .ok (.dup, 1) := by decide +kernel
theorem dX10_init_43 : decode cX10_init 43 = .ok (.iconst 0, 1) := by decide +kernel
theorem dX10_init_44 : decode cX10_init 44 = .ok (.new 16, 3) := by decide +kernel
theorem dX10_init_47 : decode cX10_init 47 = .ok (.dup, 1) := by decide +kernel
theorem dX10_init_48 : decode cX10_init 48 = .ok (.invokespecial 18, 3) := by decide +kernel
theorem dX10_init_51 : decode cX10_init 51 = .ok (.aastore, 1) := by decide +kernel
theorem dX10_init_52 : decode cX10_init 52 = .ok (.dup, 1) := by decide +kernel
theorem dX10_init_53 : decode cX10_init 53 = .ok (.iconst 1, 1) := by decide +kernel
theorem dX10_init_54 : decode cX10_init 54 = .ok (.new 16, 3) := by decide +kernel
theorem dX10_init_57 : decode cX10_init 57 = .ok (.dup, 1) := by decide +kernel
theorem dX10_init_58 : decode cX10_init 58 = .ok (.invokespecial 18, 3) := by decide +kernel
theorem dX10_init_61 : decode cX10_init 61 = .ok (.aastore, 1) := by decide +kernel
theorem dX10_init_62 : decode cX10_init 62 = .ok (.putfield 30, 3) := by decide +kernel
theorem dX10_init_65 : decode cX10_init 65 = .ok (.aload_n 0, 1) := by decide +kernel
theorem dX10_init_66 : decode cX10_init 66 = .ok (.iconst 2, 1) := by decide +kernel
theorem dX10_init_67 : decode cX10_init 67 = .ok (.newarray .boolean, 2) := by decide +kernel
theorem dX10_init_69 : decode cX10_init 69 = .ok (.putfield 34, 3) := by decide +kernel
theorem dX10_init_72 : decode cX10_init 72 = .ok (.aload_n 0, 1) := by decide +kernel
theorem dX10_init_73 : decode cX10_init 73 = .ok (.new 38, 3) := by decide +kernel
theorem dX10_init_76 : decode cX10_init 76 = .ok (.dup, 1) := by decide +kernel
theorem dX10_init_77 : decode cX10_init 77 = .ok (.invokespecial 40, 3) := by decide +kernel
theorem dX10_init_80 : decode cX10_init 80 = .ok (.putfield 41, 3) := by decide +kernel
theorem dX10_init_83 : decode cX10_init 83 = .ok (.return_, 1) := by decide +kernel
def pg_X10_init (l : Launch) (g : EG) : List (Nat × ES) := [(0, s_ldP 0), (1, s_oinit), (4, s_ldP 0), (5, s_new sg_X10_init 5 102), (8, s_dup), (9, s_callI l g sg_X10_init sg_X6_init), (12, s_putP 9 0), (15, s_ldP 0), (16, s_new sg_X10_init 2 114), (19, s_dup), (20, s_callI l g sg_X10_init sg_X3_init), (23, s_putP 9 1), (26, s_ldP 0), (27, s_new sg_X10_init 3 119), (30, s_dup), (31, s_callI l g sg_X10_init sg_X4_init), (34, s_putP 9 2), (37, s_ldP 0), (38, s_c (.inl 2)), (39, s_newa sg_X10_init 121 2), (42, s_dup), (43, s_c (.inl 0)), (44, s_new sg_X10_init 2 114), (47, s_dup), (48, s_callI l g sg_X10_init sg_X3_init), (51, s_aast), (52, s_dup), (53, s_c (.inl 1)), (54, s_new sg_X10_init 2 114), (57, s_dup), (58, s_callI l g sg_X10_init sg_X3_init), (61, s_aast), (62, s_putP 9 3), (65, s_ldP 0), (66, s_c (.inl 2)), (67, s_newa sg_X10_init 22 2), (69, s_putP 9 4), (72, s_ldP 0), (73, s_new sg_X10_init 0 123), (76, s_dup), (77, s_callI l g sg_X10_init sg_X0_init), (80, s_putP 9 5), (83, s_vret)]
set_option maxRecDepth 100000 in
theorem ok_X10_init {l : Launch} {g : EG} : e_okp l g sg_X10_init "CalendarSync" (pg_X10_init l g) := fun p e R s m args below meth c ex M0 Q X =>
    e_each_cons (r_aload_n X (k := 0) (i := 0) rfl dX10_init_0 rfl)
    (e_each_cons (r_oinit X (index := 1) dX10_init_1 w1_36 w1_37 w1_38 ⟨by decide, by decide⟩ rfl)
    (e_each_cons (r_aload_n X (k := 0) (i := 0) rfl dX10_init_4 rfl)
    (e_each_cons (r_new X (index := 7) (ci := 5) (t := 102) dX10_init_5 (by decide) rfl (fun _ => rfl) w1_39 w1_40 w1_2 uw_5 rfl)
    (e_each_cons (r_dup X dX10_init_8 rfl)
    (e_each_cons (r_callIN X rfl (τ := sg_X6_init) (index := 9) (host := "CalendarSync") dX10_init_9 wn1_41 w1_42 cs_X6_init rfl rfl rfl rfl ⟨by decide, by decide⟩ rfl)
    (e_each_cons (r_putP X (index := 10) (ci := 9) (k := 0) dX10_init_12 (by decide) (by decide) rfl (Or.inr ⟨rfl, rfl, rfl⟩) w2_99 rfl)
    (e_each_cons (r_aload_n X (k := 0) (i := 0) rfl dX10_init_15 rfl)
    (e_each_cons (r_new X (index := 16) (ci := 2) (t := 114) dX10_init_16 (by decide) rfl (fun _ => rfl) w2_2 w2_3 w1_7 uw_2 rfl)
    (e_each_cons (r_dup X dX10_init_19 rfl)
    (e_each_cons (r_callIN X rfl (τ := sg_X3_init) (index := 18) (host := "CalendarSync") dX10_init_20 wn2_4 w2_5 cs_X3_init rfl rfl rfl rfl ⟨by decide, by decide⟩ rfl)
    (e_each_cons (r_putP X (index := 19) (ci := 9) (k := 1) dX10_init_23 (by decide) (by decide) rfl (Or.inr ⟨rfl, rfl, rfl⟩) w2_100 rfl)
    (e_each_cons (r_aload_n X (k := 0) (i := 0) rfl dX10_init_26 rfl)
    (e_each_cons (r_new X (index := 23) (ci := 3) (t := 119) dX10_init_27 (by decide) rfl (fun _ => rfl) w2_61 w2_62 w1_9 uw_3 rfl)
    (e_each_cons (r_dup X dX10_init_30 rfl)
    (e_each_cons (r_callIN X rfl (τ := sg_X4_init) (index := 25) (host := "CalendarSync") dX10_init_31 wn2_63 w2_64 cs_X4_init rfl rfl rfl rfl ⟨by decide, by decide⟩ rfl)
    (e_each_cons (r_putP X (index := 26) (ci := 9) (k := 2) dX10_init_34 (by decide) (by decide) rfl (Or.inr ⟨rfl, rfl, rfl⟩) w2_101 rfl)
    (e_each_cons (r_aload_n X (k := 0) (i := 0) rfl dX10_init_37 rfl)
    (e_each_cons (r_iconst X (n := 2) (v := 2) dX10_init_38 (by decide) rfl)
    (e_each_cons (r_anewa X (index := 16) (ai := 7) (t := 121) (n := 2) (C := "CalendarSync$Exchange") dX10_init_39 rfl (fun _ => rfl) ⟨by decide, by decide⟩ (fun _ => rfl) (by decide) w2_2 (by decide) rfl)
    (e_each_cons (r_dup X dX10_init_42 rfl)
    (e_each_cons (r_iconst X (n := 0) (v := 0) dX10_init_43 (by decide) rfl)
    (e_each_cons (r_new X (index := 16) (ci := 2) (t := 114) dX10_init_44 (by decide) rfl (fun _ => rfl) w2_2 w2_3 w1_7 uw_2 rfl)
    (e_each_cons (r_dup X dX10_init_47 rfl)
    (e_each_cons (r_callIN X rfl (τ := sg_X3_init) (index := 18) (host := "CalendarSync") dX10_init_48 wn2_4 w2_5 cs_X3_init rfl rfl rfl rfl ⟨by decide, by decide⟩ rfl)
    (e_each_cons (r_aast X dX10_init_51 rfl)
    (e_each_cons (r_dup X dX10_init_52 rfl)
    (e_each_cons (r_iconst X (n := 1) (v := 1) dX10_init_53 (by decide) rfl)
    (e_each_cons (r_new X (index := 16) (ci := 2) (t := 114) dX10_init_54 (by decide) rfl (fun _ => rfl) w2_2 w2_3 w1_7 uw_2 rfl)
    (e_each_cons (r_dup X dX10_init_57 rfl)
    (e_each_cons (r_callIN X rfl (τ := sg_X3_init) (index := 18) (host := "CalendarSync") dX10_init_58 wn2_4 w2_5 cs_X3_init rfl rfl rfl rfl ⟨by decide, by decide⟩ rfl)
    (e_each_cons (r_aast X dX10_init_61 rfl)
    (e_each_cons (r_putP X (index := 30) (ci := 9) (k := 3) dX10_init_62 (by decide) (by decide) rfl (Or.inr ⟨rfl, rfl, rfl⟩) w2_102 rfl)
    (e_each_cons (r_aload_n X (k := 0) (i := 0) rfl dX10_init_65 rfl)
    (e_each_cons (r_iconst X (n := 2) (v := 2) dX10_init_66 (by decide) rfl)
    (e_each_cons (r_newa X (ai := 2) (t := 22) (n := 2) dX10_init_67 rfl (fun _ => rfl) rfl (Or.inr (Or.inr (Or.inl ⟨rfl, rfl⟩))) w2_98 (by decide) (by decide) rfl)
    (e_each_cons (r_putP X (index := 34) (ci := 9) (k := 4) dX10_init_69 (by decide) (by decide) rfl (Or.inr ⟨rfl, rfl, rfl⟩) w2_103 rfl)
    (e_each_cons (r_aload_n X (k := 0) (i := 0) rfl dX10_init_72 rfl)
    (e_each_cons (r_new X (index := 38) (ci := 0) (t := 123) dX10_init_73 (by decide) rfl (fun _ => rfl) w2_81 w2_82 w1_10 uw_0 rfl)
    (e_each_cons (r_dup X dX10_init_76 rfl)
    (e_each_cons (r_callIN X rfl (τ := sg_X0_init) (index := 40) (host := "CalendarSync") dX10_init_77 wn2_83 w2_84 cs_X0_init rfl rfl rfl rfl ⟨by decide, by decide⟩ rfl)
    (e_each_cons (r_putP X (index := 41) (ci := 9) (k := 5) dX10_init_80 (by decide) (by decide) rfl (Or.inr ⟨rfl, rfl, rfl⟩) w2_104 rfl)
    (e_each_cons (r_vret X dX10_init_83 rfl)
    (e_each_nil)))))))))))))))))))))))))))))))))))))))))))
