/-! THE ENGINE, 8: constants of floats, Object's constructor, exceptions, rows copied, new objects and arrays. -/
section RX
variable {p : Program} {l : Launch} {e : Env} {g : EG} {σ : SG} {R : Room} {s : State} {m : MethodId} {args : Array Value} {below : List Frame} {meth : Method} {c : Code} {ex : Option Nat} {M0 : EM} {Q : EO → EM → Prop} {own : String} {pc np : Nat}
theorem r_fconst0 (X : Cx p l g σ R s m args meth c own) (hd : decode (gcc σ) pc = .ok (.fconst 0, 1)) (hn : pc + 1 = np) : RowOk p l e g σ R s m args below meth c ex M0 Q pc np (s_c (.inr (.inr (.inl FP.fconst0)))) := by
  intro J hJ ls st M nc ns h
  subst hn
  intro H locs lsM hl ok le vl vs hS hF
  exact lv_fconst0 X.1 X.2.1 hd (hJ _ _ _ _ _ _ h H locs lsM hl ok le vl ⟨trivial, vs⟩ hS hF)
theorem r_fconst1 (X : Cx p l g σ R s m args meth c own) (hd : decode (gcc σ) pc = .ok (.fconst 1, 1)) (hn : pc + 1 = np) : RowOk p l e g σ R s m args below meth c ex M0 Q pc np (s_c (.inr (.inr (.inl FP.fconst1)))) := by
  intro J hJ ls st M nc ns h
  subst hn
  intro H locs lsM hl ok le vl vs hS hF
  exact lv_fconst1 X.1 X.2.1 hd (hJ _ _ _ _ _ _ h H locs lsM hl ok le vl ⟨trivial, vs⟩ hS hF)
theorem r_fconst2 (X : Cx p l g σ R s m args meth c own) (hd : decode (gcc σ) pc = .ok (.fconst 2, 1)) (hn : pc + 1 = np) : RowOk p l e g σ R s m args below meth c ex M0 Q pc np (s_c (.inr (.inr (.inl FP.fconst2)))) := by
  intro J hJ ls st M nc ns h
  subst hn
  intro H locs lsM hl ok le vl vs hS hF
  exact lv_fconst2 X.1 X.2.1 hd (hJ _ _ _ _ _ _ h H locs lsM hl ok le vl ⟨trivial, vs⟩ hS hF)
/-- Object's constructor does nothing -/
def s_oinit : ES := fun _ _ nx ls st M nc ns => match st with
  | .inr (.inr (.inr (.inr _))) :: r => match Nat.ble (e_wt r) 8 with
    | true => nx ls r M nc ns
    | false => False
  | _ => False
theorem r_oinit (X : Cx p l g σ R s m args meth c own) {index : Nat} (hd : decode (gcc σ) pc = .ok (.invokespecial index, 3)) (hlk : Cond.methodLink own index Lib.objectInit ∈ e_good) (hin : Cond.instanceMethod Lib.objectInit ∈ e_good) (hco : Cond.code Lib.objectInit ⟨#[0xb1]⟩ 1 none ∈ e_good) (hR : 1 ≤ gfr σ ∧ 20 ≤ glo σ) (hn : pc + 3 = np) : RowOk p l e g σ R s m args below meth c ex M0 Q pc np s_oinit := by
  intro J hJ ls st M nc ns h
  subst hn
  unfold s_oinit at h
  split at h
  · rename_i q r
    split at h
    · rename_i hw
      intro H locs lsM hl ok le vl vs hS hF
      have hG := X.2.2.2.2.2.2.1
      have hRR := X.2.2.2.2.2.2.2.1
      have hw' := Nat.le_of_ble_eq_true hw
      have hw2 := e_wt_le (r := r)
      refine W.objInit X.1 X.2.1 X.2.2.2.2.1 (e_wd0 hG hlk) (e_wd0 hG hin) (e_wd0 hG hco) rfl (hl.1.trans X.2.2.2.1.symm) (a := q.2) (rest := r.map e_tv) rfl hd (by rw [hRR]; exact hR.1) ?_ ?_
      · rw [hRR]
        have : (grm σ).locals = glo σ := rfl
        show 2 * 0 + _ + 12 ≤ _
        omega
      · exact hJ _ _ _ _ _ _ h H locs lsM hl ok le vl vs.2 hS hF
    · exact h.elim
  · exact h.elim
theorem e_St_sN {g : EG} {M : EM} {H H1 : Heap} (hS : e_St g M H) (hq : ∀ q : Nat, q < H.size → H1[q]? = H[q]?) : e_St g (sN M H1.size) H1 :=
  ⟨rfl, hS.2.1.kept (fun k q hk => hq q.1 ((hS.2.1 k q hk).lt)), hS.2.2⟩
/-- new X(text), thrown: the memory stays, but that the heap is larger -/
def s_throw (σ : SG) (E : String) : ES := fun ret _ _ _ st M nc ns => match Nat.ble (e_wt st) 8 && (Nat.ble (nc + 1) (gmc σ) && Nat.ble (ns + 6) (gms σ)) with
  | true => ∀ n, mN M ≤ n → ret (.inr E) (sN M n) (nc + 1) (ns + 6)
  | false => False
theorem e_throwS (X : Cx p l g σ R s m args meth c own) (hl0 : l.stackTraces = false) (hh : ghh σ = []) {cls text : String} {names : List String} {ik is ic k : Nat} {x : String × Nat × String} (hcls : Bundle.fit cls = true) (hnames : ∀ n ∈ names, Bundle.fit n = true) (hk : Cond.classLink own ik cls ∈ e_good) (hini : Cond.initialized cls ∈ e_good) (hx : e_txt[k]? = some x) (hxx : x = (own, is, text))
    (hat : ∀ w ∈ vx_atS own ic cls names, w ∈ e_tbl ∧ (goodWord w || (e_isCast w || e_isDecl w)) = true) (hgood : ∀ w ∈ Cond.classLink own ik cls :: Cond.initialized cls :: vx_atS own ic cls names, vx_ot w = true) (hot : ∀ w ∈ vx_atS own ic cls names, w.onTables = true ∨ goodWord w = true) (hlen : names.length = 2) (hR : 6 ≤ gfr σ ∧ 90 ≤ glo σ)
    (hd : (decode (gcc σ) pc = .ok (.new ik, 3) ∧ decode (gcc σ) (pc + 3) = .ok (.dup, 1)) ∧ ((decode (gcc σ) (pc + 4) = .ok (.ldc is, 2) ∧ decode (gcc σ) (pc + 6) = .ok (.invokespecial ic, 3) ∧ decode (gcc σ) (pc + 9) = .ok (.athrow, 1)) ∨ (decode (gcc σ) (pc + 4) = .ok (.ldc_w is, 3) ∧ decode (gcc σ) (pc + 7) = .ok (.invokespecial ic, 3) ∧ decode (gcc σ) (pc + 10) = .ok (.athrow, 1)))) :
    RowOk p l e g σ R s m args below meth c ex M0 Q pc np (s_throw σ cls) := by
  intro J hJ ls st M nc ns h
  unfold s_throw at h
  split at h
  · rename_i hb
    simp only [Bool.and_eq_true] at hb
    intro H locs lsM hl ok le vl vs hS hF
    have hG := X.2.2.2.2.2.2.1
    have hRR := X.2.2.2.2.2.2.2.1
    have hw' := Nat.le_of_ble_eq_true hb.1
    have hc' := Nat.le_of_ble_eq_true hb.2.1
    have hs' := Nat.le_of_ble_eq_true hb.2.2
    have hw2 := e_wt_le (r := st)
    have hstr := hG.2.2.2.2.2.2.2.2.2.1 k x hx
    rw [hxx] at hstr
    have hat' : ∀ w ∈ vx_atS own ic cls names, w.before args s = true := by
      intro w hw
      obtain ⟨h1, h2⟩ := hat w hw
      cases hg : goodWord w with
      | true => exact e_wd0 hG (List.mem_filter.mpr ⟨h1, hg⟩)
      | false =>
        rw [hg] at h2
        have hon : w.onTables = true := by
          rcases hot w hw with h | h
          · exact h
          · rw [hg] at h; cases h
        rcases Bool.or_eq_true _ _ ▸ (show (e_isCast w || e_isDecl w) = true by simpa using h2) with h3 | h3
        · exact va_Nw.use hon (hG.2.2.2.1 w (List.mem_filter.mpr ⟨h1, h3⟩))
        · exact va_Nw.use hon (hG.2.2.2.2.2.2.2.2.2.2.2.1 w (List.mem_filter.mpr ⟨h1, h3⟩))
    have hout : ∀ pc', ∀ x ∈ c.exceptionTable.toList, covers x pc' = false := by
      intro pc' x hx
      rw [X.2.2.2.2.2.2.2.2.2.2, hh] at hx
      cases hx
    have hxx : ∀ t : State, s.vm.Alike t.vm → H.size ≤ t.heap.size → (∀ q : Nat, q < H.size → t.heap[q]? = H[q]?) → e_XC g ex M0 Q cls s t := by
      intro t _ h1 h2
      refine ⟨sN M t.heap.size, ok, le, e_St_sN hS h2, ⟨Nat.le_trans hF.1 h1, fun q h3 h4 => ?_⟩, (h t.heap.size (by rw [← hS.1]; exact h1)).2.2⟩
      rw [h2 q (Nat.lt_of_lt_of_le h3 hF.1)]
      exact hF.2.1 q h3 h4
    have e1 : (grm σ).locals = glo σ := rfl
    have e2 : (grm σ).frames = gfr σ := rfl
    have e3 : (grm σ).cells = gmc σ := rfl
    have e4 : (grm σ).slots = gms σ := rfl
    obtain ⟨⟨d0, d3⟩, ⟨d4, d6, d9⟩ | ⟨d4, d7, d10⟩⟩ := hd
    · exact vx_throwS X.1 X.2.1 hl0 X.2.2.2.2.1 hcls hnames (e_wd0 hG hk) (e_wd0 hG hini) hstr hat' hgood hG.2.2.2.2.2.1 hG.2.2.2.2.2.2.1 hF (hl.1.trans X.2.2.2.1.symm) d0 d3 d4 d6 d9 (hout _) (by rw [hRR]; omega) (by rw [hRR]; omega) (by rw [hRR]; omega) (by rw [hRR]; omega) X.2.2.2.2.2.1 hxx hF.2.2 hc' hs'
    · exact vx_throwSW X.1 X.2.1 hl0 X.2.2.2.2.1 hcls hnames (e_wd0 hG hk) (e_wd0 hG hini) hstr hat' hgood hG.2.2.2.2.2.1 hG.2.2.2.2.2.2.1 hF (hl.1.trans X.2.2.2.1.symm) d0 d3 d4 d7 d10 (hout _) (by rw [hRR]; omega) (by rw [hRR]; omega) (by rw [hRR]; omega) (by rw [hRR]; omega) X.2.2.2.2.2.1 hxx hF.2.2 hc' hs'
  · exact h.elim
/-- System.arraycopy of the first places -/
def s_acI : ES := fun _ _ nx ls st M nc ns => match st with
  | .inl n :: .inl dp :: .inr (.inr (.inr (.inr q))) :: .inl sp :: .inr (.inr (.inr (.inr q0))) :: r => match e_aN q.1 0, e_aN q0.1 0, Nat.ble (e_wt r) 8 with
    | some n1, some n0, true => (sp = 0 ∧ dp = 0 ∧ ¬ n < 0 ∧ n.toNatClampNeg ≤ n0 ∧ n.toNatClampNeg ≤ n1) ∧ nx ls r (sIr M q.2 (fun j => if j < n.toNatClampNeg then mI M q0.2 j else mI M q.2 j)) nc ns
    | _, _, _ => False
  | _ => False
def s_acL : ES := fun _ _ nx ls st M nc ns => match st with
  | .inl n :: .inl dp :: .inr (.inr (.inr (.inr q))) :: .inl sp :: .inr (.inr (.inr (.inr q0))) :: r => match e_aN q.1 3, e_aN q0.1 3, Nat.ble (e_wt r) 8 with
    | some n1, some n0, true => (sp = 0 ∧ dp = 0 ∧ ¬ n < 0 ∧ n.toNatClampNeg ≤ n0 ∧ n.toNatClampNeg ≤ n1) ∧ nx ls r (sLr M q.2 (fun j => if j < n.toNatClampNeg then mL M q0.2 j else mL M q.2 j)) nc ns
    | _, _, _ => False
  | _ => False

theorem m_cpI {cc : ByteArray} {ls : Array Slot} {H : Heap} {locs : List Loc} {cells slots : Nat} {P9 : State → Prop} (hexec : p.tables.exec = Jvm.exec) (hb : c.code = cc) (hml : c.maxLocals = ls.size) {index : Nat} (hown : s.vm.findClass own = some m.cls) (hlink : (Cond.methodLink own index arraycopyName).before args s = true) (hnat : (Cond.native arraycopyName).before args s = true) (hstat : (Cond.static arraycopyName).before args s = true) (hini : (Cond.initialized "java/lang/System").before args s = true)
    {a a0 : Nat} {rest : List Value} {c0 c1 : ClassId} {n0 n1 : Nat} {f g9 : Nat → Int32} {ty : FieldType} (hc0 : H[a0]? = some (vp_cell c0 (n0, .inl f))) (hc1 : H[a]? = some (vp_cell c1 (n1, .inl g9))) (ht0 : ArrOfT s c0 ty) (ht1 : ArrOfT s c1 ty) (hprim : refKind ty = false)
    {n : Int32} (h3 : ¬ n < 0) (h4 : n.toNatClampNeg ≤ n0) (h5 : n.toNatClampNeg ≤ n1) (hfit : ∀ i, i < n.toNatClampNeg → fits ty (.int (f i)) = true)
    (hframes : 1 ≤ R.frames) (hlocals : (rest.map fun v => v.category).sum + (nativeFrameWords "java/lang/System" "arraycopy" 5 + 11) ≤ R.locals) (hdg : decode cc pc = .ok (.invokestatic index, 3))
    (kk : ∀ (H1 : Heap) (L : List Loc), H1[a]? = some (vp_cell c1 (n1, .inl (va_cpy f g9 0 0 n.toNatClampNeg))) → H1.size = H.size → (∀ q : Nat, q ≠ a → H1[q]? = H[q]?) → (∀ z ∈ L, z.base = a) → W p l e R s m args below meth c H1 (locs ++ L) cells slots P9 (F0 m (pc + 3) ls rest)) : W p l e R s m args below meth c H locs cells slots P9 (F0 m pc ls (.int n :: .int 0 :: .ref a :: .int 0 :: .ref a0 :: rest)) := by
  have nn : ∀ z : Int32, ¬ z < 0 → z.toInt = (z.toNatClampNeg : Int) := by
    intro z hz
    have hz0 : (0 : Int) ≤ z.toInt := by
      have := Int32.not_lt.mp hz
      simpa using Int32.le_iff_toInt_le.mp this
    show z.toInt = ((z.toInt.toNat : Nat) : Int)
    omega
  have z0 : (0 : Int32).toNatClampNeg = 0 := rfl
  intro T hT X
  obtain ⟨-, k0, hk0, cm0, hkk0⟩ := ht0 n0 (fun j => .int (f j))
  obtain ⟨-, k1, hk1, cm1, hkk1⟩ := ht1 n1 (fun j => .int (g9 j))
  obtain ⟨vm', X', step⟩ := X.arraycopy hexec hown hlink hnat hstat hini (src := a0) (dst := a) (cs := vp_cell c0 (n0, .inl f)) (cd := vp_cell c1 (n1, .inl g9)) (srcPos := 0) (destPos := 0) (n := n) (by rw [hT]; exact hc0) (by rw [hT]; exact hc1)
    (fun _ h => by cases h) (fun _ h => by cases h) (fun h => by cases h) (fun h => by cases h) hk0 hk1 hkk0 hkk1 (by simp [hprim]) (by decide) (by decide) h3
    (by rw [nn n h3]; show ¬ _ > ((arrV c0 n0 (fun j => .int (f j))).slots.size : Int); rw [arrV_size]; show ¬ (0 : Int) + _ > _; omega)
    (by rw [nn n h3]; show ¬ _ > ((arrV c1 n1 (fun j => .int (g9 j))).slots.size : Int); rw [arrV_size]; show ¬ (0 : Int) + _ > _; omega)
    (fun vm₁ _ i hi => by
      have e9 : (vp_cell c0 (n0, .inl f)).slots.getD ((0 : Int32).toNatClampNeg + i) .null = .int (f i) := by
        show (arrV c0 n0 (fun j => .int (f j))).slots.getD _ _ = _
        rw [z0, Nat.zero_add, Array.getD_eq_getD_getElem?, arrV_read _ _ (by omega)]
        rfl
      refine ⟨?_, ?_⟩
      · rw [e9]
        exact hfit i hi
      · rw [e9]
        exact trivial)
    (g := F0 m pc ls (.int n :: .int 0 :: .ref a :: .int 0 :: .ref a0 :: rest)) rfl (by rw [hml]) (rest := rest) rfl (by rw [hb]; exact hdg) hframes (by show 2 * 0 + _ + _ ≤ _; omega)
  have e1 : copied (vp_cell c0 (n0, .inl f)) (vp_cell c1 (n1, .inl g9)) 0 0 n = vp_cell c1 (n1, .inl (va_cpy f g9 0 0 n.toNatClampNeg)) := va_copied (fun z => .int z) c0 c1 f g9 (by rw [z0, Nat.zero_add]; exact h4)
  rw [e1] at X' step
  have hl : a < H.size := (Array.getElem?_eq_some_iff.mp hc1).1
  have hheap : ((T.setVm vm').setCell a (vp_cell c1 (n1, .inl (va_cpy f g9 0 0 n.toNatClampNeg)))).heap = H.setIfInBounds a (vp_cell c1 (n1, .inl (va_cpy f g9 0 0 n.toNatClampNeg))) := by rw [← hT]; rfl
  obtain ⟨t, a1, b1⟩ := kk _ _ (show (H.setIfInBounds a _)[a]? = some _ by simp [Array.getElem?_setIfInBounds, hl]) (by simp) (fun q hq => by simp [Array.getElem?_setIfInBounds, Ne.symm hq]) (fun z hz => by
      obtain ⟨w, -, hw⟩ := List.mem_map.mp hz
      rw [← hw]) _ hheap X'
  exact ⟨t, step t a1, b1⟩
theorem r_acI (X : Cx p l g σ R s m args meth c own) {index : Nat} (hd : decode (gcc σ) pc = .ok (.invokestatic index, 3)) (hlk : Cond.methodLink own index arraycopyName ∈ e_good) (hna : Cond.native arraycopyName ∈ e_good) (hst : Cond.static arraycopyName ∈ e_good) (hin : Cond.initialized "java/lang/System" ∈ e_good) (hR : 1 ≤ gfr σ ∧ 40 ≤ glo σ) (hn : pc + 3 = np) : RowOk p l e g σ R s m args below meth c ex M0 Q pc np s_acI := by
  intro J hJ ls st M nc ns h
  subst hn
  unfold s_acI at h
  split at h
  · split at h
    · rename_i n dp q sp q0 r x1 x2 x3 n1 n0 hq hq0 hw
      obtain ⟨⟨rfl, rfl, h3, h4, h5⟩, h⟩ := h
      intro H locs lsM hl ok le vl vs hS hF
      have hG := X.2.2.2.2.2.2.1
      have hRR := X.2.2.2.2.2.2.2.1
      have hw2 := e_wt_le (r := r)
      have hw1 := Nat.le_of_ble_eq_true hw
      obtain ⟨hm, ht⟩ := e_vok_in vs.2.2.1 (e_aN_kd hq)
      obtain ⟨hm0, ht0⟩ := e_vok_in vs.2.2.2.2.1 (e_aN_kd hq0)
      obtain ⟨k1, hk1⟩ := e_wd_get (g := g) hm
      obtain ⟨k0, hk0⟩ := e_wd_get (g := g) hm0
      have hk1' := hk1
      rw [e_ent_a ht (e_aN_kd hq)] at hk1
      rw [e_ent_a ht0 (e_aN_kd hq0)] at hk0
      have e8 : nativeFrameWords "java/lang/System" "arraycopy" 5 + 11 ≤ 32 := by decide
      have e7 : (grm σ).locals = glo σ := rfl
      have e6 : (grm σ).frames = gfr σ := rfl
      refine m_cpI (own := own) X.1 X.2.1 (X.2.2.2.1.trans hl.1.symm) X.2.2.2.2.1 (e_wd0 hG hlk) (e_wd0 hG hna) (e_wd0 hG hst) (e_wd0 hG hin) (hS.2.1 k0 _ hk0) (hS.2.1 k1 _ hk1) (hG.1.2 0 _ rfl).1 (hG.1.2 0 _ rfl).1 rfl h3 h4 h5 (fun i _ => rfl) (by rw [hRR]; omega) (by rw [hRR]; omega) hd (fun H1 L g1 g2 g3 g4 => ?_)
      have le1 : e_le none M (sIr M q.2 (fun j => if j < n.toNatClampNeg then mI M q0.2 j else mI M q.2 j)) := fun _ h9 _ => ⟨h9, rfl⟩
      refine hJ _ _ _ _ _ _ h H1 _ lsM hl ok le (vl.le le1) (vs.2.2.2.2.2.le le1) ?_ ⟨by rw [g2]; exact hF.1, fun z h1 h2 => ?_, fun z hz => ?_⟩
      · refine m_set hS hm hk1' (en := .inl (gC g 0, n1, e_arr (sIr M q.2 (fun j => if j < n.toNatClampNeg then mI M q0.2 j else mI M q.2 j)) q.2 0)) ?_ g2 g3 rfl rfl (e_ent_a (M := sIr M q.2 _) ht (e_aN_kd hq)) (fun b hb => e_ent_sIr hb)
        have e5 : va_cpy (mI M q0.2) (mI M q.2) 0 0 n.toNatClampNeg = mI (sIr M q.2 (fun j => if j < n.toNatClampNeg then mI M q0.2 j else mI M q.2 j)) q.2 := by
          funext j
          simp [va_cpy, mI, sIr, e_uprow]
        show H1[q.2]? = some (vp_cell _ _)
        rw [g1, e5]
        rfl
      · have hA : eA g q.2 := hS.2.2.2 k1 _ hk1
        rw [g3 z (fun h9 => h2 (by rw [h9]; exact hA))]
        exact hF.2.1 z h1 h2
      · rcases List.mem_append.mp hz with h9 | h9
        · exact hF.2.2 z h9
        · rw [g4 z h9]; exact hS.2.2.2 k1 _ hk1
    · exact h.elim
  · exact h.elim

theorem m_cpL {cc : ByteArray} {ls : Array Slot} {H : Heap} {locs : List Loc} {cells slots : Nat} {P9 : State → Prop} (hexec : p.tables.exec = Jvm.exec) (hb : c.code = cc) (hml : c.maxLocals = ls.size) {index : Nat} (hown : s.vm.findClass own = some m.cls) (hlink : (Cond.methodLink own index arraycopyName).before args s = true) (hnat : (Cond.native arraycopyName).before args s = true) (hstat : (Cond.static arraycopyName).before args s = true) (hini : (Cond.initialized "java/lang/System").before args s = true)
    {a a0 : Nat} {rest : List Value} {c0 c1 : ClassId} {n0 n1 : Nat} {f g9 : Nat → Int64} {ty : FieldType} (hc0 : H[a0]? = some (vp_cell c0 (n0, .inr (.inl f)))) (hc1 : H[a]? = some (vp_cell c1 (n1, .inr (.inl g9)))) (ht0 : ArrOfT s c0 ty) (ht1 : ArrOfT s c1 ty) (hprim : refKind ty = false)
    {n : Int32} (h3 : ¬ n < 0) (h4 : n.toNatClampNeg ≤ n0) (h5 : n.toNatClampNeg ≤ n1) (hfit : ∀ i, i < n.toNatClampNeg → fits ty (.long (f i)) = true)
    (hframes : 1 ≤ R.frames) (hlocals : (rest.map fun v => v.category).sum + (nativeFrameWords "java/lang/System" "arraycopy" 5 + 11) ≤ R.locals) (hdg : decode cc pc = .ok (.invokestatic index, 3))
    (kk : ∀ (H1 : Heap) (L : List Loc), H1[a]? = some (vp_cell c1 (n1, .inr (.inl (va_cpy f g9 0 0 n.toNatClampNeg)))) → H1.size = H.size → (∀ q : Nat, q ≠ a → H1[q]? = H[q]?) → (∀ z ∈ L, z.base = a) → W p l e R s m args below meth c H1 (locs ++ L) cells slots P9 (F0 m (pc + 3) ls rest)) : W p l e R s m args below meth c H locs cells slots P9 (F0 m pc ls (.int n :: .int 0 :: .ref a :: .int 0 :: .ref a0 :: rest)) := by
  have nn : ∀ z : Int32, ¬ z < 0 → z.toInt = (z.toNatClampNeg : Int) := by
    intro z hz
    have hz0 : (0 : Int) ≤ z.toInt := by
      have := Int32.not_lt.mp hz
      simpa using Int32.le_iff_toInt_le.mp this
    show z.toInt = ((z.toInt.toNat : Nat) : Int)
    omega
  have z0 : (0 : Int32).toNatClampNeg = 0 := rfl
  intro T hT X
  obtain ⟨-, k0, hk0, cm0, hkk0⟩ := ht0 n0 (fun j => .long (f j))
  obtain ⟨-, k1, hk1, cm1, hkk1⟩ := ht1 n1 (fun j => .long (g9 j))
  obtain ⟨vm', X', step⟩ := X.arraycopy hexec hown hlink hnat hstat hini (src := a0) (dst := a) (cs := vp_cell c0 (n0, .inr (.inl f))) (cd := vp_cell c1 (n1, .inr (.inl g9))) (srcPos := 0) (destPos := 0) (n := n) (by rw [hT]; exact hc0) (by rw [hT]; exact hc1)
    (fun _ h => by cases h) (fun _ h => by cases h) (fun h => by cases h) (fun h => by cases h) hk0 hk1 hkk0 hkk1 (by simp [hprim]) (by decide) (by decide) h3
    (by rw [nn n h3]; show ¬ _ > ((arrV c0 n0 (fun j => .long (f j))).slots.size : Int); rw [arrV_size]; show ¬ (0 : Int) + _ > _; omega)
    (by rw [nn n h3]; show ¬ _ > ((arrV c1 n1 (fun j => .long (g9 j))).slots.size : Int); rw [arrV_size]; show ¬ (0 : Int) + _ > _; omega)
    (fun vm₁ _ i hi => by
      have e9 : (vp_cell c0 (n0, .inr (.inl f))).slots.getD ((0 : Int32).toNatClampNeg + i) .null = .long (f i) := by
        show (arrV c0 n0 (fun j => .long (f j))).slots.getD _ _ = _
        rw [z0, Nat.zero_add, Array.getD_eq_getD_getElem?, arrV_read _ _ (by omega)]
        rfl
      refine ⟨?_, ?_⟩
      · rw [e9]
        exact hfit i hi
      · rw [e9]
        exact trivial)
    (g := F0 m pc ls (.int n :: .int 0 :: .ref a :: .int 0 :: .ref a0 :: rest)) rfl (by rw [hml]) (rest := rest) rfl (by rw [hb]; exact hdg) hframes (by show 2 * 0 + _ + _ ≤ _; omega)
  have e1 : copied (vp_cell c0 (n0, .inr (.inl f))) (vp_cell c1 (n1, .inr (.inl g9))) 0 0 n = vp_cell c1 (n1, .inr (.inl (va_cpy f g9 0 0 n.toNatClampNeg))) := va_copied (fun z => .long z) c0 c1 f g9 (by rw [z0, Nat.zero_add]; exact h4)
  rw [e1] at X' step
  have hl : a < H.size := (Array.getElem?_eq_some_iff.mp hc1).1
  have hheap : ((T.setVm vm').setCell a (vp_cell c1 (n1, .inr (.inl (va_cpy f g9 0 0 n.toNatClampNeg))))).heap = H.setIfInBounds a (vp_cell c1 (n1, .inr (.inl (va_cpy f g9 0 0 n.toNatClampNeg)))) := by rw [← hT]; rfl
  obtain ⟨t, a1, b1⟩ := kk _ _ (show (H.setIfInBounds a _)[a]? = some _ by simp [Array.getElem?_setIfInBounds, hl]) (by simp) (fun q hq => by simp [Array.getElem?_setIfInBounds, Ne.symm hq]) (fun z hz => by
      obtain ⟨w, -, hw⟩ := List.mem_map.mp hz
      rw [← hw]) _ hheap X'
  exact ⟨t, step t a1, b1⟩
theorem r_acL (X : Cx p l g σ R s m args meth c own) {index : Nat} (hd : decode (gcc σ) pc = .ok (.invokestatic index, 3)) (hlk : Cond.methodLink own index arraycopyName ∈ e_good) (hna : Cond.native arraycopyName ∈ e_good) (hst : Cond.static arraycopyName ∈ e_good) (hin : Cond.initialized "java/lang/System" ∈ e_good) (hR : 1 ≤ gfr σ ∧ 40 ≤ glo σ) (hn : pc + 3 = np) : RowOk p l e g σ R s m args below meth c ex M0 Q pc np s_acL := by
  intro J hJ ls st M nc ns h
  subst hn
  unfold s_acL at h
  split at h
  · split at h
    · rename_i n dp q sp q0 r x1 x2 x3 n1 n0 hq hq0 hw
      obtain ⟨⟨rfl, rfl, h3, h4, h5⟩, h⟩ := h
      intro H locs lsM hl ok le vl vs hS hF
      have hG := X.2.2.2.2.2.2.1
      have hRR := X.2.2.2.2.2.2.2.1
      have hw2 := e_wt_le (r := r)
      have hw1 := Nat.le_of_ble_eq_true hw
      obtain ⟨hm, ht⟩ := e_vok_in vs.2.2.1 (e_aN_kd hq)
      obtain ⟨hm0, ht0⟩ := e_vok_in vs.2.2.2.2.1 (e_aN_kd hq0)
      obtain ⟨k1, hk1⟩ := e_wd_get (g := g) hm
      obtain ⟨k0, hk0⟩ := e_wd_get (g := g) hm0
      have hk1' := hk1
      rw [e_ent_a ht (e_aN_kd hq)] at hk1
      rw [e_ent_a ht0 (e_aN_kd hq0)] at hk0
      have e8 : nativeFrameWords "java/lang/System" "arraycopy" 5 + 11 ≤ 32 := by decide
      have e7 : (grm σ).locals = glo σ := rfl
      have e6 : (grm σ).frames = gfr σ := rfl
      refine m_cpL (own := own) X.1 X.2.1 (X.2.2.2.1.trans hl.1.symm) X.2.2.2.2.1 (e_wd0 hG hlk) (e_wd0 hG hna) (e_wd0 hG hst) (e_wd0 hG hin) (hS.2.1 k0 _ hk0) (hS.2.1 k1 _ hk1) (hG.1.2 3 _ rfl).1 (hG.1.2 3 _ rfl).1 rfl h3 h4 h5 (fun i _ => rfl) (by rw [hRR]; omega) (by rw [hRR]; omega) hd (fun H1 L g1 g2 g3 g4 => ?_)
      have le1 : e_le none M (sLr M q.2 (fun j => if j < n.toNatClampNeg then mL M q0.2 j else mL M q.2 j)) := fun _ h9 _ => ⟨h9, rfl⟩
      refine hJ _ _ _ _ _ _ h H1 _ lsM hl ok le (vl.le le1) (vs.2.2.2.2.2.le le1) ?_ ⟨by rw [g2]; exact hF.1, fun z h1 h2 => ?_, fun z hz => ?_⟩
      · refine m_set hS hm hk1' (en := .inl (gC g 3, n1, e_arr (sLr M q.2 (fun j => if j < n.toNatClampNeg then mL M q0.2 j else mL M q.2 j)) q.2 3)) ?_ g2 g3 rfl rfl (e_ent_a (M := sLr M q.2 _) ht (e_aN_kd hq)) (fun b hb => e_ent_sLr hb)
        have e5 : va_cpy (mL M q0.2) (mL M q.2) 0 0 n.toNatClampNeg = mL (sLr M q.2 (fun j => if j < n.toNatClampNeg then mL M q0.2 j else mL M q.2 j)) q.2 := by
          funext j
          simp [va_cpy, mL, sLr, e_uprow]
        show H1[q.2]? = some (vp_cell _ _)
        rw [g1, e5]
        rfl
      · have hA : eA g q.2 := hS.2.2.2 k1 _ hk1
        rw [g3 z (fun h9 => h2 (by rw [h9]; exact hA))]
        exact hF.2.1 z h1 h2
      · rcases List.mem_append.mp hz with h9 | h9
        · exact hF.2.2 z h9
        · rw [g4 z h9]; exact hS.2.2.2 k1 _ hk1
    · exact h.elim
  · exact h.elim
end RX
