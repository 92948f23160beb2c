/-! THE ENGINE, 14 (p36): bytes are copied; arrays of texts; calls of a superclass's methods. -/
section RY
variable {p : Program} {l : Launch} {e : Env} {g : EG} {σ : SG} {R : Room} {s : State} {m : MethodId} {args : Array Value} {below : List Frame} {meth : Method} {c : Code} {ex : Option Nat} {M0 : EM} {Q : EO → EM → Prop} {own : String} {pc np : Nat}
theorem m_cpB {cc : ByteArray} {ls : Array Slot} {H : Heap} {locs : List Loc} {cells slots : Nat} {P9 : State → Prop} (hexec : p.tables.exec = Jvm.exec) (hb : c.code = cc) (hml : c.maxLocals = ls.size) {index : Nat} (hown : s.vm.findClass own = some m.cls) (hlink : (Cond.methodLink own index arraycopyName).before args s = true) (hnat : (Cond.native arraycopyName).before args s = true) (hstat : (Cond.static arraycopyName).before args s = true) (hini : (Cond.initialized "java/lang/System").before args s = true)
    {a a0 : Nat} {cs : Cell} {rest : List Value} {c1 : ClassId} {n0 n1 : Nat} {f g9 : Nat → Int32} (hcs : H[a0]? = some cs) (harr : s.isArrayOf cs .byte) (hnv : cs.vm ≠ .unknown) (hsz : n0 ≤ cs.slots.size) (hsl : ∀ j : Nat, j < n0 → cs.slots[j]? = some (.int (f j)))
    (hc1 : H[a]? = some (vp_cell c1 (n1, .inl g9))) (ht1 : ArrOfT s c1 .byte)
    {sp dp n : Int32} (h1 : ¬ sp < 0) (h2 : ¬ dp < 0) (h3 : ¬ n < 0) (h4 : sp.toNatClampNeg + n.toNatClampNeg ≤ n0) (h5 : dp.toNatClampNeg + n.toNatClampNeg ≤ n1) (hfit : ∀ i, i < n.toNatClampNeg → fits .byte (.int (f (sp.toNatClampNeg + i))) = true)
    (hframes : 1 ≤ R.frames) (hlocals : (rest.map fun v => v.category).sum + (nativeFrameWords "java/lang/System" "arraycopy" 5 + 11) ≤ R.locals) (hdg : decode cc pc = .ok (.invokestatic index, 3))
    (kk : ∀ (H1 : Heap) (L : List Loc), H1[a]? = some (vp_cell c1 (n1, .inl (va_cpy f g9 sp.toNatClampNeg dp.toNatClampNeg n.toNatClampNeg))) → H1.size = H.size → (∀ q : Nat, q ≠ a → H1[q]? = H[q]?) → (∀ z ∈ L, z.base = a) → W p l e R s m args below meth c H1 (locs ++ L) cells slots P9 (F0 m (pc + 3) ls rest)) : W p l e R s m args below meth c H locs cells slots P9 (F0 m pc ls (.int n :: .int dp :: .ref a :: .int sp :: .ref a0 :: rest)) := by
  have nn : ∀ z : Int32, ¬ z < 0 → z.toInt = (z.toNatClampNeg : Int) := by
    intro z hz
    have hz0 : (0 : Int) ≤ z.toInt := by
      have := Int32.not_lt.mp hz
      simpa using Int32.le_iff_toInt_le.mp this
    show z.toInt = ((z.toInt.toNat : Nat) : Int)
    omega
  intro T hT X
  obtain ⟨hs6, k0, hk0, cm0, hkk0⟩ := harr
  obtain ⟨-, k1, hk1, cm1, hkk1⟩ := ht1 n1 (fun j => .int (g9 j))
  obtain ⟨vm', X', step⟩ := X.arraycopy hexec hown hlink hnat hstat hini (src := a0) (dst := a) (cs := cs) (cd := vp_cell c1 (n1, .inl g9)) (srcPos := sp) (destPos := dp) (n := n) (by rw [hT]; exact hcs) (by rw [hT]; exact hc1)
    hs6 (fun _ h => by cases h) hnv (fun h => by cases h) hk0 hk1 hkk0 hkk1 (by simp [refKind]) h1 h2 h3
    (by rw [nn sp h1, nn n h3]; omega)
    (by rw [nn dp h2, nn n h3]; show ¬ _ > ((arrV c1 n1 (fun j => .int (g9 j))).slots.size : Int); rw [arrV_size]; omega)
    (fun vm₁ _ i hi => by
      have e9 : cs.slots.getD (sp.toNatClampNeg + i) .null = .int (f (sp.toNatClampNeg + i)) := by
        rw [Array.getD_eq_getD_getElem?, hsl _ (by omega)]
        rfl
      refine ⟨?_, ?_⟩
      · rw [e9]
        exact hfit i hi
      · rw [e9]
        exact trivial)
    (g := F0 m pc ls (.int n :: .int dp :: .ref a :: .int sp :: .ref a0 :: rest)) rfl (by rw [hml]) (rest := rest) rfl (by rw [hb]; exact hdg) hframes (by show 2 * 0 + _ + _ ≤ _; omega)
  have e1 : copied cs (vp_cell c1 (n1, .inl g9)) sp dp n = vp_cell c1 (n1, .inl (va_cpy f g9 sp.toNatClampNeg dp.toNatClampNeg n.toNatClampNeg)) := va_copiedX (fun z => .int z) cs c1 f g9 hsl h4
  rw [e1] at X' step
  have hl : a < H.size := (Array.getElem?_eq_some_iff.mp hc1).1
  have hheap : ((T.setVm vm').setCell a (vp_cell c1 (n1, .inl (va_cpy f g9 sp.toNatClampNeg dp.toNatClampNeg n.toNatClampNeg)))).heap = H.setIfInBounds a (vp_cell c1 (n1, .inl (va_cpy f g9 sp.toNatClampNeg dp.toNatClampNeg n.toNatClampNeg))) := by rw [← hT]; rfl
  obtain ⟨t, a1, b1⟩ := kk _ _ (show (H.setIfInBounds a _)[a]? = some _ by simp [Array.getElem?_setIfInBounds, hl]) (by simp) (fun q hq => by simp [Array.getElem?_setIfInBounds, Ne.symm hq]) (fun z hz => by
      obtain ⟨w, -, hw⟩ := List.mem_map.mp hz
      rw [← hw]) _ hheap X'
  exact ⟨t, step t a1, b1⟩
/-- the bytes of an array: its own, or a constant text's -/
def e_bys (M : EM) (q : Nat × Nat) : Nat → Int32 := if 2000 ≤ q.1 then mI M q.2 else fun j => (e_byt.getD (q.1 - 300) []).getD j 0
def e_byn (q : Nat × Nat) : Nat := if 2000 ≤ q.1 then q.1 - 2000 else e_len.getD (q.1 - 300) 0
/-- System.arraycopy of bytes -/
def s_acB : ES := fun _ _ nx ls st M nc ns => match st with
  | .inl n :: .inl dp :: .inr (.inr (.inr (.inr q))) :: .inl sp :: .inr (.inr (.inr (.inr q0))) :: r => match Nat.ble (e_wt r) 8 with
    | true => ((2000 ≤ q.1 ∧ (2000 ≤ q0.1 ∨ (300 ≤ q0.1 ∧ q0.1 ≤ 334))) ∧ (¬ sp < 0 ∧ ¬ dp < 0 ∧ ¬ n < 0) ∧ sp.toNatClampNeg + n.toNatClampNeg ≤ e_byn q0 ∧ dp.toNatClampNeg + n.toNatClampNeg ≤ q.1 - 2000 ∧ ∀ i, i < n.toNatClampNeg → fits .byte (.int (e_bys M q0 (sp.toNatClampNeg + i))) = true) ∧ nx ls r (sIr M q.2 (va_cpy (e_bys M q0) (mI M q.2) sp.toNatClampNeg dp.toNatClampNeg n.toNatClampNeg)) nc ns
    | false => False
  | _ => False
theorem e_kd_b' {t : Nat} (h : 2000 ≤ t) : e_kd t = some (.inr (1, t - 2000)) := by
  have := e_kd_b (t - 2000)
  rwa [show 2000 + (t - 2000) = t by omega] at this
theorem r_acB (X : Cx p l g σ R s m args meth c own) {index : Nat} (hd : decode (gcc σ) pc = .ok (.invokestatic index, 3)) (hlk : Cond.methodLink own index arraycopyName ∈ e_good) (hna : Cond.native arraycopyName ∈ e_good) (hst : Cond.static arraycopyName ∈ e_good) (hin : Cond.initialized "java/lang/System" ∈ e_good) (hR : 1 ≤ gfr σ ∧ 40 ≤ glo σ) (hn : pc + 3 = np) : RowOk p l e g σ R s m args below meth c ex M0 Q pc np s_acB := by
  intro J hJ ls st M nc ns h
  subst hn
  unfold s_acB at h
  split at h
  · split at h
    · rename_i n dp q sp q0 r x1 hw
      obtain ⟨⟨⟨hq, hq0⟩, ⟨h1, h2, h3⟩, h4, h5, hfit⟩, h⟩ := h
      intro H locs lsM hl ok le vl vs hS hF
      have hG := X.2.2.2.2.2.2.1
      have hRR := X.2.2.2.2.2.2.2.1
      have hw2 := e_wt_le (r := r)
      have hw1 := Nat.le_of_ble_eq_true hw
      have hkd := e_kd_b' hq
      obtain ⟨hm, ht⟩ := e_vok_in vs.2.2.1 hkd
      obtain ⟨k1, hk1⟩ := e_wd_get (g := g) hm
      have hk1' := hk1
      rw [e_ent_a ht hkd] at hk1
      have e8 : nativeFrameWords "java/lang/System" "arraycopy" 5 + 11 ≤ 32 := by decide
      have e7 : (grm σ).locals = glo σ := rfl
      have e6 : (grm σ).frames = gfr σ := rfl
      have src : ∃ cs : Cell, H[q0.2]? = some cs ∧ s.isArrayOf cs .byte ∧ cs.vm ≠ .unknown ∧ e_byn q0 ≤ cs.slots.size ∧ ∀ j : Nat, j < e_byn q0 → cs.slots[j]? = some (.int (e_bys M q0 j)) := by
        rcases hq0 with hq0 | hq0
        · obtain ⟨n0, hn0⟩ : ∃ n0, q0.1 = 2000 + n0 := ⟨q0.1 - 2000, by omega⟩
          have hkd0 : e_kd q0.1 = some (.inr (1, n0)) := by rw [hn0]; exact e_kd_b n0
          obtain ⟨hm0, ht0⟩ := e_vok_in vs.2.2.2.2.1 hkd0
          obtain ⟨k0, hk0⟩ := e_wd_get (g := g) hm0
          rw [e_ent_a ht0 hkd0] at hk0
          have c1 := hS.2.1 k0 _ hk0
          have eb : e_byn q0 = n0 := by unfold e_byn; rw [if_pos hq0]; omega
          have ev : e_bys M q0 = mI M q0.2 := by unfold e_bys; rw [if_pos hq0]
          refine ⟨_, c1, (hG.1.2 1 _ rfl).1 _ (fun j => .int (mI M q0.2 j)), (fun h => by cases h), ?_, fun j hj => ?_⟩
          · rw [eb]
            show _ ≤ (arrV (gC g 1) n0 (fun j => .int (mI M q0.2 j))).slots.size
            rw [arrV_size]
            exact Nat.le_refl _
          · rw [ev]
            rw [eb] at hj
            exact arrV_read _ _ hj
        · have ha := e_ro_b ok vs.2.2.2.2.1 hq0
          have hT := (hG.2.2.2.2.2.2.2.2.2.2.1.1 (q0.1 - 300) (by omega)).2.2.2
          obtain ⟨cell, c1, c2, c3, c4, c5, c6, c7⟩ := va_T.kept hT hF.2.1
          have eb : e_byn q0 = e_len.getD (q0.1 - 300) 0 := by unfold e_byn; rw [if_neg (by omega)]
          have ev : e_bys M q0 = fun j => (e_byt.getD (q0.1 - 300) []).getD j 0 := by unfold e_bys; rw [if_neg (by omega)]
          exact ⟨cell, by rw [ha]; exact c1, c2, c3, by rw [eb]; exact c4, fun j hj => by rw [ev]; rw [eb] at hj; exact c6 j hj⟩
      obtain ⟨cs, s1, s2, s3, s4, s5⟩ := src
      refine m_cpB (own := own) X.1 X.2.1 (X.2.2.2.1.trans hl.1.symm) X.2.2.2.2.1 (e_wd0 hG hlk) (e_wd0 hG hna) (e_wd0 hG hst) (e_wd0 hG hin) s1 s2 s3 s4 s5 (hS.2.1 k1 _ hk1) (hG.1.2 1 _ rfl).1 h1 h2 h3 h4 h5 hfit (by rw [hRR]; omega) (by rw [hRR]; omega) hd (fun H1 L g1 g2 g3 g4 => ?_)
      have le1 : e_le none M (sIr M q.2 (va_cpy (e_bys M q0) (mI M q.2) sp.toNatClampNeg dp.toNatClampNeg n.toNatClampNeg)) := fun _ h9 _ => ⟨h9, rfl⟩
      refine hJ _ _ _ _ _ _ h H1 _ lsM hl ok le (vl.le le1) (vs.2.2.2.2.2.le le1) ?_ ⟨by rw [g2]; exact hF.1, fun z h1 h2 => ?_, fun z hz => ?_⟩
      · refine m_set hS hm hk1' (en := .inl (gC g 1, q.1 - 2000, e_arr (sIr M q.2 (va_cpy (e_bys M q0) (mI M q.2) sp.toNatClampNeg dp.toNatClampNeg n.toNatClampNeg)) q.2 1)) ?_ g2 g3 rfl rfl (e_ent_a (M := sIr M q.2 _) ht hkd) (fun b hb => e_ent_sIr hb)
        have e5 : mI (sIr M q.2 (va_cpy (e_bys M q0) (mI M q.2) sp.toNatClampNeg dp.toNatClampNeg n.toNatClampNeg)) q.2 = va_cpy (e_bys M q0) (mI M q.2) sp.toNatClampNeg dp.toNatClampNeg n.toNatClampNeg := by
          funext j
          simp [mI, sIr, e_uprow]
        show H1[q.2]? = some (vp_cell (gC g 1) (q.1 - 2000, .inl (mI (sIr M q.2 (va_cpy (e_bys M q0) (mI M q.2) sp.toNatClampNeg dp.toNatClampNeg n.toNatClampNeg)) q.2)))
        rw [e5]
        exact g1
      · rw [g3 z (fun e9 => h2 (by rw [e9]; exact hS.2.2.2 k1 _ hk1))]
        exact hF.2.1 z h1 h2
      · rcases List.mem_append.mp hz with h9 | h9
        · exact hF.2.2 z h9
        · rw [g4 z h9]
          exact hS.2.2.2 k1 _ hk1
    · exact h.elim
  · exact h.elim
/-- a byte array's clone -/
def s_clone (σ : SG) : ES := fun _ _ nx ls st M nc ns => match st with
  | .inr (.inr (.inr (.inr q))) :: r => match Nat.ble (e_wt r) 8 with
    | true => ∃ n, q.1 = 2000 + n ∧ (nc + 1 ≤ gmc σ ∧ ns + n ≤ gms σ) ∧ (∀ i, i < n → fits .byte (.int (mI M q.2 i)) = true) ∧ nx ls (.inr (.inr (.inr (.inr (2000 + n, mN M)))) :: r) (sIr (sNew M (2000 + n)) (mN M) (mI M q.2)) (nc + 1) (ns + n)
    | false => False
  | _ => False
theorem r_clone (X : Cx p l g σ R s m args meth c own) {index : Nat} (hd : decode (gcc σ) pc = .ok (.invokevirtual index, 3)) (hlk : Cond.methodLink own index ⟨"[B", "clone", "()Ljava/lang/Object;"⟩ ∈ e_good) (hsame : Cond.sameMethod "[B" "java/lang/Object" "clone" "()Ljava/lang/Object;" ∈ e_good)
    (hna : Cond.native ⟨"java/lang/Object", "clone", "()Ljava/lang/Object;"⟩ ∈ e_good) (hin : Cond.instanceMethod ⟨"java/lang/Object", "clone", "()Ljava/lang/Object;"⟩ ∈ e_good) (hse : Cond.selects "[B" ⟨"[B", "clone", "()Ljava/lang/Object;"⟩ ⟨"java/lang/Object", "clone", "()Ljava/lang/Object;"⟩ ∈ e_good) (hca : Cond.castable "[B" "java/lang/Cloneable" ∈ e_cast)
    (hR : 1 ≤ gfr σ ∧ 22 ≤ glo σ) (hn : pc + 3 = np) : RowOk p l e g σ R s m args below meth c ex M0 Q pc np (s_clone σ) := by
  intro J hJ ls st M nc ns h
  subst hn
  unfold s_clone at h
  split at h
  · rename_i q r
    split at h
    · rename_i hw
      obtain ⟨n, hq, ⟨hc1, hc2⟩, hfit, h⟩ := h
      intro H locs lsM hl ok le vl vs hS hF
      have hG := X.2.2.2.2.2.2.1
      have hRR := X.2.2.2.2.2.2.2.1
      have hw2 := e_wt8 hw
      have hkd : e_kd q.1 = some (.inr (1, n)) := by rw [hq]; exact e_kd_b n
      obtain ⟨hm, ht⟩ := e_vok_in vs.1 hkd
      obtain ⟨k0, hk0⟩ := e_wd_get (g := g) hm
      rw [e_ent_a ht hkd] at hk0
      have hcell : H[q.2]? = some (arrV (gC g 1) n (fun j => .int (mI M q.2 j))) := hS.2.1 k0 _ hk0
      have hnm : s.vm.findClass "[B" = some (gC g 1) := va_nm_byte (hG.1.2 1 _ rfl).2
      obtain ⟨c0, t0', f1, f2, f3⟩ := Cond.castable_spec (va_Nw.use (A := args) rfl (hG.2.2.2.1 _ hca))
      cases hnm.symm.trans f1
      have e7 : (grm σ).locals = glo σ := rfl
      have e6 : (grm σ).frames = gfr σ := rfl
      have e5 : (grm σ).cells = gmc σ := rfl
      have e4 : (grm σ).slots = gms σ := rfl
      have hsz : (arrV (gC g 1) n (fun j => .int (mI M q.2 j))).slots.size = n := arrV_size _ _ _
      have hlt := e_St_lt hS
      have hz : gZ g ≤ mN M := Nat.le_trans hG.2.2.2.2.1 (by rw [← hS.1]; exact hF.1)
      intro T hT X1
      have hcellT : T.heap[q.2]? = some (arrV (gC g 1) n (fun j => .int (mI M q.2 j))) := by rw [hT]; exact hcell
      obtain ⟨-, kA, hkA, comp, hkind⟩ := State.isArrayOf_alike X1.warmed.alike ((hG.1.2 1 _ rfl).1 0 (fun _ => .null))
      obtain ⟨-, kS, hkS, compS, hkindS⟩ := (hG.1.2 1 _ rfl).1 0 (fun _ => .null)
      obtain ⟨vm', X', st⟩ := X1.cloneArray X.1 X.2.2.2.2.1 (e_wd0 hG hlk) (e_wd0 hG hsame) (e_wd0 hG hna) (e_wd0 hG hin) (e_wd0 hG hse) (a := q.2) (cell := arrV (gC g 1) n (fun j => .int (mI M q.2 j))) hcellT (fun k h => by cases h) (fun h => by cases h) hnm f2 f3
        (fun i v hv => by
          have hk' : T.vm.classes[gC g 1]? = some kA := hkA
          have hf := va_fit (ty := .byte) (F := fun j => .int (mI M q.2 j)) (n := n) (cA := gC g 1) (fun i hi => hfit i hi) i v hv
          have hcl : (arrV (gC g 1) n (fun j => .int (mI M q.2 j))).cls = gC g 1 := rfl
          rw [hcl]
          simpa [State.fitsSlot, State.slotType?, hk', hkind] using hf)
        (g := F0 m pc lsM (.ref q.2 :: r.map e_tv)) rfl (by rw [X.2.2.2.1]; exact hl.1) rfl (by rw [X.2.1]; exact hd) (by rw [hRR]; omega) (by show 2 * 0 + _ + 14 ≤ _; rw [hRR]; omega) (by rw [hRR]; omega) (by rw [hsz, hRR]; omega) (hloader := Vm.clonesLoader_of_array hkS hkindS)
      have hcE : ({ cls := (arrV (gC g 1) n (fun j => .int (mI M q.2 j))).cls, slots := (arrV (gC g 1) n (fun j => .int (mI M q.2 j))).slots } : Cell) = arrV (gC g 1) n (fun j => .int (mI M q.2 j)) := rfl
      rw [hcE, hsz] at X'
      generalize hH1 : H.push (arrV (gC g 1) n (fun j => .int (mI M q.2 j))) = H1
      have z1 : H1.size = mN M + 1 := by rw [← hH1, Array.size_push, hS.1]
      have e1 : H1[mN M]? = some (arrV (gC g 1) n (fun j => .int (mI M q.2 j))) := by rw [← hH1, ← hS.1, Array.getElem?_push_size]
      have o1 : ∀ q : Nat, q < mN M → H1[q]? = H[q]? := fun z hz => by rw [← hH1, Array.getElem?_push, if_neg (by rw [hS.1]; omega)]
      have hkt : e_kd (2000 + n) = some (.inr (1, n)) := e_kd_b n
      have le1 := e_le_sNew (t := 2000 + n) hlt
      have le2 : e_le none M (sIr (sNew M (2000 + n)) (mN M) (mI M q.2)) := fun a ha hx => le1 a ha hx
      have eT : mT (sIr (sNew M (2000 + n)) (mN M) (mI M q.2)) (mN M) = 2000 + n := mT_sNew_e
      have eI : mI (sIr (sNew M (2000 + n)) (mN M) (mI M q.2)) (mN M) = mI M q.2 := by funext j; simp [mI, sIr, e_uprow]
      have ew : e_wd g (sIr (sNew M (2000 + n)) (mN M) (mI M q.2)) = e_wd g M ++ [(mN M, e_ent g (sIr (sNew M (2000 + n)) (mN M) (mI M q.2)) (mN M))] := by
        have hA : mA (sIr (sNew M (2000 + n)) (mN M) (mI M q.2)) = mA M ++ [mN M] := rfl
        unfold e_wd va_pl
        rw [hA, List.map_append]
        congr 1
        apply List.map_congr_left
        intro b hb
        have hne : ¬ b = mN M := by have := hlt b hb; omega
        rw [e_ent_sIr hne, e_ent_sNew hne]
      have hn : va_at (gD g) vwCl (mN M, e_ent g (sIr (sNew M (2000 + n)) (mN M) (mI M q.2)) (mN M)) H1 := by
        rw [e_ent_a eT hkt]
        show H1[mN M]? = some (vp_cell (gC g 1) (n, .inl (mI (sIr (sNew M (2000 + n)) (mN M) (mI M q.2)) (mN M))))
        rw [eI]
        exact e1
      have S1 : e_St g (sIr (sNew M (2000 + n)) (mN M) (mI M q.2)) H1 := by
        refine ⟨z1, ?_, ?_⟩
        · rw [ew]
          refine (hS.2.1.kept (fun k q hk => o1 q.1 (by rw [← hS.1]; exact (hS.2.1 k q hk).lt))).app (fun k x hx => ?_)
          have hz : k < 1 := (List.getElem?_eq_some_iff.mp hx).1
          rw [show k = 0 by omega] at hx
          cases hx
          exact hn
        · rw [ew]
          exact hS.2.2.push hS.2.1 hS.1.symm hz
      have hJ' := hJ _ _ _ _ _ _ h H1 locs lsM hl (e_ok_sNew (t := 2000 + n) ok hlt (by rw [hkt]; exact fun z => by cases z) (e_pf_b n)) (le.tr le2) (vl.le le2) ⟨Or.inl ⟨List.mem_append_right _ (List.mem_singleton.mpr rfl), eT⟩, vs.2.le le2⟩ S1 (va_S_new hF hS.1 z1 o1)
      obtain ⟨t, b1, b2⟩ := hJ' ((T.setVm vm').pushCell (arrV (gC g 1) n (fun j => .int (mI M q.2 j)))) (by rw [← hH1, ← hT]; rfl) X'
      refine ⟨t, st t ?_, b2⟩
      rw [hcE, hT, hS.1]
      exact b1
    · exact h.elim
  · exact h.elim
def s_castB : ES := fun _ _ nx ls st M nc ns => match st with
  | .inr (.inr (.inr (.inr q))) :: r => (∃ n, q.1 = 2000 + n) ∧ nx ls (.inr (.inr (.inr (.inr q))) :: r) M nc ns
  | _ => False
theorem r_castB (X : Cx p l g σ R s m args meth c own) {index : Nat} (hd : decode (gcc σ) pc = .ok (.checkcast index, 3)) (hlk : Cond.classLink own index "[B" ∈ e_good) (hn : pc + 3 = np) : RowOk p l e g σ R s m args below meth c ex M0 Q pc np s_castB := by
  intro J hJ ls st M nc ns h
  subst hn
  unfold s_castB at h
  split at h
  · rename_i q r
    obtain ⟨⟨n, hq⟩, h⟩ := h
    intro H locs lsM hl ok le vl vs hS hF
    have hG := X.2.2.2.2.2.2.1
    have hkd : e_kd q.1 = some (.inr (1, n)) := by rw [hq]; exact e_kd_b n
    obtain ⟨hm, ht⟩ := e_vok_in vs.1 hkd
    obtain ⟨k0, hk0⟩ := e_wd_get (g := g) hm
    rw [e_ent_a ht hkd] at hk0
    exact va_castA X.1 X.2.1 X.2.2.2.2.1 (e_wd0 hG hlk) hS.2.1 k0 hk0 (va_nm_byte (hG.1.2 1 _ rfl).2) hd (hJ _ _ _ _ _ _ h H locs lsM hl ok le vl vs hS hF)
  · exact h.elim
/-- an array of text constants (54): one goes in, one comes out -/
def s_aastS : ES := fun _ _ nx ls st M nc ns => match st with
  | .inr (.inr (.inr (.inr v))) :: .inl i :: .inr (.inr (.inr (.inr q))) :: r => (200 ≤ v.1 ∧ v.1 ≤ 234) ∧ q.1 = 54 ∧ vp_in i 7 ∧ nx ls r (sP M q.2 i.toNatClampNeg v.2) nc ns
  | _ => False
theorem r_aastS (X : Cx p l g σ R s m args meth c own) (hd : decode (gcc σ) pc = .ok (.aastore, 1)) (hn : pc + 1 = np) : RowOk p l e g σ R s m args below meth c ex M0 Q pc np s_aastS := by
  intro J hJ ls st M nc ns h
  subst hn
  unfold s_aastS at h
  split at h
  · rename_i v i q r
    obtain ⟨hv, hq, hi, h⟩ := h
    intro H locs lsM hl ok le vl vs hS hF
    have hG := X.2.2.2.2.2.2.1
    have hkd : e_kd q.1 = some (.inr (4, 7)) := by rw [hq]; rfl
    obtain ⟨hm, ht⟩ := e_vok_in vs.2.2.1 hkd
    obtain ⟨k0, hk0⟩ := e_wd_get (g := g) hm
    have hk1 := hk0
    rw [e_ent_a ht hkd, e_arrR (by omega)] at hk0
    have hva := e_ro_t ok vs.1 hv
    obtain ⟨cellV, g1, g2, g3⟩ := vk_recv (H := H) (locs := locs) hG.2.2.2.2.2.2.2.2.2.2.1 (i := v.1 - 200) (by omega) hF
    have ok1 : e_ok (sP M q.2 i.toNatClampNeg v.2) := e_ok_sP ok (Or.inl (by rw [ht, hq]; rfl)) (by rw [ht, hq]; rfl)
    have le1 : e_le none M (sP M q.2 i.toNatClampNeg v.2) := fun _ h9 _ => ⟨h9, rfl⟩
    have hcls := (hG.1.1 11 _ (e_cl_at 11 (by decide))).2
    obtain ⟨kA, comp, k1, k3, k4, -⟩ := (hG.1.2 4 _ rfl).2
    have hcomp : comp = (gD g).1 11 := Option.some.inj (k4.symm.trans hcls.1)
    subst hcomp
    have hcv : cellV.cls = (gD g).1 11 := Option.some.inj (g3.symm.trans hcls.1)
    obtain ⟨kC, hkC, -⟩ := hcls.2
    have hlt : i.toNatClampNeg < 7 := Nat.not_le.mp fun q => hi (Or.inr q)
    have h0 : ¬ i < 0 := fun q => hi (Or.inl q)
    refine W.aast X.1 X.2.1 (hS.2.1 k0 _ hk0) (fun q h => by cases h) (fun h => by cases h) k1 k3 rfl hkC ⟨h0, by show _ < (arrV _ _ _).slots.size; rw [arrV_size]; exact hlt⟩ (by rw [hva]; exact g1) (fun q h => by rw [h] at g2; cases g2) (by rw [hcv]; exact hkC) (by rw [hcv]; exact va_assign hcls) rfl rfl hd fun H1 e1 z oq => ?_
    refine hJ _ _ _ _ _ _ h H1 _ lsM hl ok1 le (vl.le le1) (vs.2.2.2.le le1) ?_ (hF.put z oq (hS.2.2.2 k0 _ hk0))
    refine m_set hS hm hk1 (en := .inl (gC g 4, 7, .inr (.inr (.inr (.inr (mP (sP M q.2 i.toNatClampNeg v.2) q.2)))))) ?_ z oq rfl rfl ?_ (fun b hb => e_ent_sP hb)
    · show H1[q.2]? = some (vp_cell _ _)
      rw [e1]
      rw [vp_cell_q, vp_cell_q, arrV_store]
      congr 2
      funext j
      by_cases hj : j = i.toNatClampNeg
      · subst hj
        simp [updV, mP, sP, e_up, va_rf]
      · simp [updV, mP, sP, e_up, hj]
    · rw [e_ent_a (M := sP M q.2 i.toNatClampNeg v.2) ht hkd, e_arrR (by omega)]
  · exact h.elim
def s_aaldS (g : EG) : ES := fun _ _ nx ls st M nc ns => match st with
  | .inl i :: .inr (.inr (.inr (.inr q))) :: r => q.1 = 54 ∧ vp_in i 7 ∧ ∃ k, k < 35 ∧ mP M q.2 i.toNatClampNeg = some (gS g k) ∧ nx ls (.inr (.inr (.inr (.inr (200 + k, gS g k)))) :: r) M nc ns
  | _ => False
theorem r_aaldS (X : Cx p l g σ R s m args meth c own) (hd : decode (gcc σ) pc = .ok (.aaload, 1)) (hn : pc + 1 = np) : RowOk p l e g σ R s m args below meth c ex M0 Q pc np (s_aaldS g) := by
  intro J hJ ls st M nc ns h
  subst hn
  unfold s_aaldS at h
  split at h
  · rename_i i q r
    obtain ⟨hq, hi, k, hk, hp, h⟩ := h
    intro H locs lsM hl ok le vl vs hS hF
    have hG := X.2.2.2.2.2.2.1
    have hkd : e_kd q.1 = some (.inr (4, 7)) := by rw [hq]; rfl
    obtain ⟨hm, ht⟩ := e_vok_in vs.2.1 hkd
    obtain ⟨k0, hk0⟩ := e_wd_get (g := g) hm
    rw [e_ent_a ht hkd, e_arrR (by omega)] at hk0
    have row := va_aldq (D := gD g) (p := p) (l := l) (e := e) (R := R) (m := m) (meth := meth) (locs := locs) (args := args) (below := below) (cells := nc) (slots := ns) (Q := vx_MQ below (e_Qc g ex M0 Q) (e_XC g ex M0 Q) args s (gmc σ) (gms σ) (eA g)) (ls := lsM) (rest := r.map e_tv) X.1 X.2.1 X.2.2.2.2.2.2.1.1 hS.2.1 k0 4 hk0 rfl hi hd
    rw [hp] at row
    exact row (hJ _ _ _ _ _ _ h H locs lsM hl ok le vl ⟨Or.inr (Or.inr (Or.inl ⟨Nat.le_add_right _ _, by show 200 + k < 261; omega, by show gS g k = gS g (200 + k - 200); rw [Nat.add_sub_cancel_left]⟩)), vs.2.2⟩ hS hF)
  · exact h.elim
end RY
