/-! THE ENGINE, 8: constants of floats, Object's constructor, exceptions, rows copied, new objects and arrays. -/
section RX
variable {p : Program} {l : Launch} {e : Env} {g : EG} {σ : SG} {R : Room} {s : State} {m : MethodId} {args : Array Value} {below : List Frame} {meth : Method} {c : Code} {ex : Option Nat} {M0 : EM} {Q : EO → EM → Prop} {own : String} {pc np : Nat}
theorem r_fconst0 (X : Cx p l g σ R s m args meth c own) (hd : decode (gcc σ) pc = .ok (.fconst 0, 1)) (hn : pc + 1 = np) : RowOk p l e g σ R s m args below meth c ex M0 Q pc np (s_c (.inr (.inr (.inl FP.fconst0)))) := by
  intro J hJ ls st M nc ns h
  subst hn
  intro H locs lsM hl ok le vl vs hS hF
  exact lv_fconst0 X.1 X.2.1 hd (hJ _ _ _ _ _ _ h H locs lsM hl ok le vl ⟨trivial, vs⟩ hS hF)
theorem r_fconst1 (X : Cx p l g σ R s m args meth c own) (hd : decode (gcc σ) pc = .ok (.fconst 1, 1)) (hn : pc + 1 = np) : RowOk p l e g σ R s m args below meth c ex M0 Q pc np (s_c (.inr (.inr (.inl FP.fconst1)))) := by
  intro J hJ ls st M nc ns h
  subst hn
  intro H locs lsM hl ok le vl vs hS hF
  exact lv_fconst1 X.1 X.2.1 hd (hJ _ _ _ _ _ _ h H locs lsM hl ok le vl ⟨trivial, vs⟩ hS hF)
theorem r_fconst2 (X : Cx p l g σ R s m args meth c own) (hd : decode (gcc σ) pc = .ok (.fconst 2, 1)) (hn : pc + 1 = np) : RowOk p l e g σ R s m args below meth c ex M0 Q pc np (s_c (.inr (.inr (.inl FP.fconst2)))) := by
  intro J hJ ls st M nc ns h
  subst hn
  intro H locs lsM hl ok le vl vs hS hF
  exact lv_fconst2 X.1 X.2.1 hd (hJ _ _ _ _ _ _ h H locs lsM hl ok le vl ⟨trivial, vs⟩ hS hF)
/-- Object's constructor does nothing -/
def s_oinit : ES := fun _ _ nx ls st M nc ns => match st with
  | .inr (.inr (.inr (.inr _))) :: r => match Nat.ble (e_wt r) 8 with
    | true => nx ls r M nc ns
    | false => False
  | _ => False
theorem r_oinit (X : Cx p l g σ R s m args meth c own) {index : Nat} (hd : decode (gcc σ) pc = .ok (.invokespecial index, 3)) (hlk : Cond.methodLink own index Lib.objectInit ∈ e_good) (hin : Cond.instanceMethod Lib.objectInit ∈ e_good) (hco : Cond.code Lib.objectInit ⟨#[0xb1]⟩ 1 none ∈ e_good) (hR : 1 ≤ gfr σ ∧ 20 ≤ glo σ) (hn : pc + 3 = np) : RowOk p l e g σ R s m args below meth c ex M0 Q pc np s_oinit := by
  intro J hJ ls st M nc ns h
  subst hn
  unfold s_oinit at h
  split at h
  · rename_i q r
    split at h
    · rename_i hw
      intro H locs lsM hl ok le vl vs hS hF
      have hG := X.2.2.2.2.2.2.1
      have hRR := X.2.2.2.2.2.2.2.1
      have hw' := Nat.le_of_ble_eq_true hw
      have hw2 := e_wt_le (r := r)
      refine W.objInit X.1 X.2.1 X.2.2.2.2.1 (e_wd0 hG hlk) (e_wd0 hG hin) (e_wd0 hG hco) rfl (hl.1.trans X.2.2.2.1.symm) (a := q.2) (rest := r.map e_tv) rfl hd (by rw [hRR]; exact hR.1) ?_ ?_
      · rw [hRR]
        have : (grm σ).locals = glo σ := rfl
        show 2 * 0 + _ + 12 ≤ _
        omega
      · exact hJ _ _ _ _ _ _ h H locs lsM hl ok le vl vs.2 hS hF
    · exact h.elim
  · exact h.elim
theorem e_St_sN {g : EG} {M : EM} {H H1 : Heap} (hS : e_St g M H) (hq : ∀ q : Nat, q < H.size → H1[q]? = H[q]?) : e_St g (sN M H1.size) H1 :=
  ⟨rfl, hS.2.1.kept (fun k q hk => hq q.1 ((hS.2.1 k q hk).lt)), hS.2.2⟩
/-- new X(text), thrown: the memory stays, but that the heap is larger -/
def s_throw (σ : SG) (E : String) : ES := fun ret _ _ _ st M nc ns => match Nat.ble (e_wt st) 8 && (Nat.ble (nc + 1) (gmc σ) && Nat.ble (ns + 6) (gms σ)) with
  | true => ∀ n, mN M ≤ n → ret (.inr E) (sN M n) (nc + 1) (ns + 6)
  | false => False
theorem e_throwS (X : Cx p l g σ R s m args meth c own) (hl0 : l.stackTraces = false) (hh : ghh σ = []) {cls text : String} {names : List String} {ik is ic k : Nat} {x : String × Nat × String} (hcls : Bundle.fit cls = true) (hnames : ∀ n ∈ names, Bundle.fit n = true) (hk : Cond.classLink own ik cls ∈ e_good) (hini : Cond.initialized cls ∈ e_good) (hx : e_txt[k]? = some x) (hxx : x = (own, is, text))
    (hat : ∀ w ∈ vx_atS own ic cls names, w ∈ lw_tbl ∧ (goodWord w || (e_isCast w || e_isDecl w)) = true) (hgood : ∀ w ∈ Cond.classLink own ik cls :: Cond.initialized cls :: vx_atS own ic cls names, vx_ot w = true) (hot : ∀ w ∈ vx_atS own ic cls names, w.onTables = true ∨ goodWord w = true) (hlen : names.length = 2) (hR : 6 ≤ gfr σ ∧ 90 ≤ glo σ)
    (hd : (decode (gcc σ) pc = .ok (.new ik, 3) ∧ decode (gcc σ) (pc + 3) = .ok (.dup, 1)) ∧ ((decode (gcc σ) (pc + 4) = .ok (.ldc is, 2) ∧ decode (gcc σ) (pc + 6) = .ok (.invokespecial ic, 3) ∧ decode (gcc σ) (pc + 9) = .ok (.athrow, 1)) ∨ (decode (gcc σ) (pc + 4) = .ok (.ldc_w is, 3) ∧ decode (gcc σ) (pc + 7) = .ok (.invokespecial ic, 3) ∧ decode (gcc σ) (pc + 10) = .ok (.athrow, 1)))) :
    RowOk p l e g σ R s m args below meth c ex M0 Q pc np (s_throw σ cls) := by
  intro J hJ ls st M nc ns h
  unfold s_throw at h
  split at h
  · rename_i hb
    simp only [Bool.and_eq_true] at hb
    intro H locs lsM hl ok le vl vs hS hF
    have hG := X.2.2.2.2.2.2.1
    have hRR := X.2.2.2.2.2.2.2.1
    have hw' := Nat.le_of_ble_eq_true hb.1
    have hc' := Nat.le_of_ble_eq_true hb.2.1
    have hs' := Nat.le_of_ble_eq_true hb.2.2
    have hw2 := e_wt_le (r := st)
    have hstr := hG.2.2.2.2.2.2.2.2.2.1 k x hx
    rw [hxx] at hstr
    have hat' : ∀ w ∈ vx_atS own ic cls names, w.before args s = true := by
      intro w hw
      obtain ⟨h1, h2⟩ := hat w hw
      cases hg : goodWord w with
      | true => exact e_wd0 hG (List.mem_filter.mpr ⟨h1, hg⟩)
      | false =>
        rw [hg] at h2
        have hon : w.onTables = true := by
          rcases hot w hw with h | h
          · exact h
          · rw [hg] at h; cases h
        rcases Bool.or_eq_true _ _ ▸ (show (e_isCast w || e_isDecl w) = true by simpa using h2) with h3 | h3
        · exact va_Nw.use hon (hG.2.2.2.1 w (List.mem_filter.mpr ⟨h1, h3⟩))
        · exact va_Nw.use hon (hG.2.2.2.2.2.2.2.2.2.2.2.1 w (List.mem_filter.mpr ⟨h1, h3⟩))
    have hout : ∀ pc', ∀ x ∈ c.exceptionTable.toList, covers x pc' = false := by
      intro pc' x hx
      rw [X.2.2.2.2.2.2.2.2.2.2, hh] at hx
      cases hx
    have hxx : ∀ t : State, s.vm.Alike t.vm → H.size ≤ t.heap.size → (∀ q : Nat, q < H.size → t.heap[q]? = H[q]?) → e_XC g ex M0 Q cls s t := by
      intro t _ h1 h2
      refine ⟨sN M t.heap.size, ok, le, e_St_sN hS h2, ⟨Nat.le_trans hF.1 h1, fun q h3 h4 => ?_⟩, (h t.heap.size (by rw [← hS.1]; exact h1)).2.2⟩
      rw [h2 q (Nat.lt_of_lt_of_le h3 hF.1)]
      exact hF.2.1 q h3 h4
    have e1 : (grm σ).locals = glo σ := rfl
    have e2 : (grm σ).frames = gfr σ := rfl
    have e3 : (grm σ).cells = gmc σ := rfl
    have e4 : (grm σ).slots = gms σ := rfl
    obtain ⟨⟨d0, d3⟩, ⟨d4, d6, d9⟩ | ⟨d4, d7, d10⟩⟩ := hd
    · exact vx_throwS X.1 X.2.1 hl0 X.2.2.2.2.1 hcls hnames (e_wd0 hG hk) (e_wd0 hG hini) hstr hat' hgood hG.2.2.2.2.2.1 hG.2.2.2.2.2.2.1 hF (hl.1.trans X.2.2.2.1.symm) d0 d3 d4 d6 d9 (hout _) (by rw [hRR]; omega) (by rw [hRR]; omega) (by rw [hRR]; omega) (by rw [hRR]; omega) X.2.2.2.2.2.1 hxx hF.2.2 hc' hs'
    · exact vx_throwSW X.1 X.2.1 hl0 X.2.2.2.2.1 hcls hnames (e_wd0 hG hk) (e_wd0 hG hini) hstr hat' hgood hG.2.2.2.2.2.1 hG.2.2.2.2.2.2.1 hF (hl.1.trans X.2.2.2.1.symm) d0 d3 d4 d7 d10 (hout _) (by rw [hRR]; omega) (by rw [hRR]; omega) (by rw [hRR]; omega) (by rw [hRR]; omega) X.2.2.2.2.2.1 hxx hF.2.2 hc' hs'
  · exact h.elim
/-- System.arraycopy of the first places -/
def s_acI : ES := fun _ _ nx ls st M nc ns => match st with
  | .inl n :: .inl dp :: .inr (.inr (.inr (.inr q))) :: .inl sp :: .inr (.inr (.inr (.inr q0))) :: r => match e_aN q.1 0, e_aN q0.1 0, Nat.ble (e_wt r) 8 with
    | some n1, some n0, true => (sp = 0 ∧ dp = 0 ∧ ¬ n < 0 ∧ n.toNatClampNeg ≤ n0 ∧ n.toNatClampNeg ≤ n1) ∧ nx ls r (sIr M q.2 (fun j => if j < n.toNatClampNeg then mI M q0.2 j else mI M q.2 j)) nc ns
    | _, _, _ => False
  | _ => False
def s_acL : ES := fun _ _ nx ls st M nc ns => match st with
  | .inl n :: .inl dp :: .inr (.inr (.inr (.inr q))) :: .inl sp :: .inr (.inr (.inr (.inr q0))) :: r => match e_aN q.1 3, e_aN q0.1 3, Nat.ble (e_wt r) 8 with
    | some n1, some n0, true => (sp = 0 ∧ dp = 0 ∧ ¬ n < 0 ∧ n.toNatClampNeg ≤ n0 ∧ n.toNatClampNeg ≤ n1) ∧ nx ls r (sLr M q.2 (fun j => if j < n.toNatClampNeg then mL M q0.2 j else mL M q.2 j)) nc ns
    | _, _, _ => False
  | _ => False
end RX
