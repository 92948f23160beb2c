/-! THE ENGINE, 7: a method's rows; from a walk over the mathematical memory to the contract. -/
def e_npc : List (Nat × ES) → Nat
  | [] => 99999
  | q :: _ => q.1
def e_each (φ : Nat → Nat → ES → Prop) : List (Nat × ES) → Prop
  | [] => True
  | q :: r => φ q.1 (e_npc r) q.2 ∧ e_each φ r
def e_seek (t : Nat) : List (Nat × ES) → List (Nat × ES)
  | [] => []
  | q :: r => bif Nat.beq q.1 t then q :: r else e_seek t r
/-- the places ascend -/
def e_srt : Nat → List (Nat × ES) → Bool
  | _, [] => true
  | k, q :: r => Nat.ble k q.1 && (Nat.ble q.1 99998 && e_srt (q.1 + 1) r)
def e_clo (prog : List (Nat × ES)) (ret : EO → EM → Nat → Nat → Prop) (K : Nat → EK) : Prop :=
  e_each (fun pc np f => ∀ J : Nat → EK, (∀ t ls st M nc ns, J t ls st M nc ns → K t ls st M nc ns) → ∀ ls st M nc ns, f ret J (J np) ls st M nc ns → K pc ls st M nc ns) prog
def e_go (ret : EO → EM → Nat → Nat → Prop) (K : Nat → EK) (cuts : List Nat) (prog : List (Nat × ES)) : Nat → List (Nat × ES) → EK
  | 0, _ => fun _ _ _ _ _ => False
  | _ + 1, [] => fun _ _ _ _ _ => False
  | n + 1, q :: r => fun ls st M nc ns => match cuts.any (Nat.beq q.1) with
    | true => K q.1 ls st M nc ns
    | false => q.2 ret (fun t => e_go ret K cuts prog n (e_seek t prog)) (e_go ret K cuts prog n r) ls st M nc ns
/-- the walk from the place t on, till the cuts -/
def e_at (ret : EO → EM → Nat → Nat → Prop) (K : Nat → EK) (cuts : List Nat) (prog : List (Nat × ES)) (n t : Nat) : EK := fun ls st M nc ns => match e_seek t prog with
  | [] => False
  | q :: r => q.2 ret (fun t => e_go ret K cuts prog n (e_seek t prog)) (e_go ret K cuts prog n r) ls st M nc ns
theorem e_srt_seek : ∀ {pre r : List (Nat × ES)} {k : Nat}, e_srt k (pre ++ r) = true → e_seek (e_npc r) (pre ++ r) = r
  | [], [], k, _ => rfl
  | [], q :: r, k, _ => by
    have h1 : Nat.beq q.1 q.1 = true := Nat.beq_refl q.1
    simp only [List.nil_append, e_seek, e_npc, h1]
    rfl
  | p :: pre, r, k, h => by
    simp only [List.cons_append, e_srt, Bool.and_eq_true] at h
    have ih := e_srt_seek (pre := pre) (r := r) h.2.2
    have hne : Nat.beq p.1 (e_npc r) = false := by
      have hle := Nat.le_of_ble_eq_true h.2.1
      cases hb : Nat.beq p.1 (e_npc r) with
      | false => rfl
      | true =>
        exfalso
        have he := Nat.eq_of_beq_eq_true hb
        have key : ∀ {pre : List (Nat × ES)} {k : Nat}, e_srt k (pre ++ r) = true → k ≤ e_npc r ∨ e_npc r = 99999 := by
          intro pre
          induction pre with
          | nil =>
            intro k h
            cases r with
            | nil => exact Or.inr rfl
            | cons q r =>
              simp only [List.nil_append, e_srt, Bool.and_eq_true] at h
              exact Or.inl (Nat.le_of_ble_eq_true h.1)
          | cons q pre ih =>
            intro k h
            simp only [List.cons_append, e_srt, Bool.and_eq_true] at h
            have h1 := Nat.le_of_ble_eq_true h.1
            rcases ih h.2.2 with h2 | h2
            · left; omega
            · exact Or.inr h2
        rcases key h.2.2 with h5 | h5 <;> omega
    simp only [List.cons_append, e_seek, hne]
    exact ih
theorem e_each_app {φ : Nat → Nat → ES → Prop} : ∀ {pre : List (Nat × ES)} {q : Nat × ES} {r : List (Nat × ES)}, e_each φ (pre ++ q :: r) → φ q.1 (e_npc r) q.2
  | [], _, _, h => h.1
  | _ :: pre, _, _, h => e_each_app (pre := pre) h.2
theorem e_seek_suf {t : Nat} : ∀ {prog : List (Nat × ES)}, ∃ pre, prog = pre ++ e_seek t prog
  | [] => ⟨[], rfl⟩
  | q :: r => by
    simp only [e_seek]
    cases hb : Nat.beq q.1 t with
    | true => exact ⟨[], rfl⟩
    | false =>
      obtain ⟨pre, h⟩ := e_seek_suf (t := t) (prog := r)
      exact ⟨q :: pre, by simp only [cond_false, List.cons_append]; rw [← h]⟩
theorem e_seek_hd {t : Nat} : ∀ {prog r : List (Nat × ES)} {q : Nat × ES}, e_seek t prog = q :: r → q.1 = t
  | [], _, _, h => by cases h
  | p :: prog, r, q, h => by
    simp only [e_seek] at h
    cases hb : Nat.beq p.1 t with
    | true =>
      rw [hb] at h
      simp only [cond_true, List.cons.injEq] at h
      rw [← h.1]
      exact Nat.eq_of_beq_eq_true hb
    | false =>
      rw [hb] at h
      exact e_seek_hd (prog := prog) (by simpa using h)
theorem e_one {ret : EO → EM → Nat → Nat → Prop} {K : Nat → EK} {cuts : List Nat} {prog : List (Nat × ES)} (hs : e_srt 0 prog = true) (hc : e_clo prog ret K) {n : Nat} (ih : ∀ L : List (Nat × ES), (∃ pre, prog = pre ++ L) → ∀ ls st M nc ns, e_go ret K cuts prog n L ls st M nc ns → K (e_npc L) ls st M nc ns) {pre r : List (Nat × ES)} {q : Nat × ES} (hp : prog = pre ++ q :: r) {ls : List (Option EV)} {st : List EV} {M : EM} {nc ns : Nat} (h : q.2 ret (fun t => e_go ret K cuts prog n (e_seek t prog)) (e_go ret K cuts prog n r) ls st M nc ns) : K q.1 ls st M nc ns := by
  unfold e_clo at hc
  have hc' := hc
  rw [hp] at hc'
  refine e_each_app hc' (fun t => e_go ret K cuts prog n (e_seek t prog)) (fun t ls st M nc ns hk => ?_) ls st M nc ns ?_
  · have h1 := ih _ (e_seek_suf (t := t)) ls st M nc ns hk
    cases hsk : e_seek t prog with
    | nil =>
      rw [hsk] at hk
      cases n <;> exact hk.elim
    | cons q' r' =>
      rw [hsk] at h1
      have := e_seek_hd hsk
      rw [← this]
      exact h1
  · have h2 : e_seek (e_npc r) prog = r := by
      have h3 : prog = (pre ++ [q]) ++ r := by rw [hp]; simp
      rw [h3]
      exact e_srt_seek (k := 0) (by rw [← h3]; exact hs)
    show q.2 ret _ (e_go ret K cuts prog n (e_seek (e_npc r) prog)) ls st M nc ns
    rw [h2]
    exact h
theorem e_go_ok {ret : EO → EM → Nat → Nat → Prop} {K : Nat → EK} {cuts : List Nat} {prog : List (Nat × ES)} (hs : e_srt 0 prog = true) (hc : e_clo prog ret K) : ∀ (n : Nat) (L : List (Nat × ES)), (∃ pre, prog = pre ++ L) → ∀ ls st M nc ns, e_go ret K cuts prog n L ls st M nc ns → K (e_npc L) ls st M nc ns
  | 0, _, _, _, _, _, _, _, h => h.elim
  | _ + 1, [], _, _, _, _, _, _, h => h.elim
  | n + 1, q :: r, ⟨pre, hp⟩, ls, st, M, nc, ns, h => by
    simp only [e_go] at h
    split at h
    · exact h
    · exact e_one hs hc (fun L hL => e_go_ok hs hc n L hL) hp h
theorem e_step {ret : EO → EM → Nat → Nat → Prop} {K : Nat → EK} {prog : List (Nat × ES)} (hs : e_srt 0 prog = true) (hc : e_clo prog ret K) (n : Nat) (cuts : List Nat) {t : Nat} {ls : List (Option EV)} {st : List EV} {M : EM} {nc ns : Nat} (h : e_at ret K cuts prog n t ls st M nc ns) : K t ls st M nc ns := by
  unfold e_at at h
  obtain ⟨pre, hp⟩ := e_seek_suf (t := t) (prog := prog)
  cases hsk : e_seek t prog with
  | nil => rw [hsk] at h; exact h.elim
  | cons q r =>
    rw [hsk] at h hp
    have h1 := e_one hs hc (fun L hL => e_go_ok (cuts := cuts) hs hc n L hL) hp h
    rw [e_seek_hd hsk] at h1
    exact h1
/-- fewer locals -/
def e_sub : List (Option EV) → List (Option EV) → Prop
  | [], _ => True
  | none :: r, [] => e_sub r []
  | none :: r, _ :: r' => e_sub r r'
  | some v :: r, some w :: r' => v = w ∧ e_sub r r'
  | some _ :: _, _ => False
theorem e_asc_sub : ∀ {l l' : List (Option EV)} {k : Nat} {q : Nat × Value}, e_sub l l' → q ∈ e_asc k l → q ∈ e_asc k l'
  | [], _, _, _, _, h => by cases h
  | none :: r, [], k, q, h, hq => by
    have := e_asc_sub (l := r) (l' := []) (k := k + 1) h hq
    cases this
  | none :: r, none :: r', k, q, h, hq => e_asc_sub (l := r) (l' := r') h hq
  | none :: r, some w :: r', k, q, h, hq => List.mem_cons_of_mem _ (e_asc_sub (l := r) (l' := r') h hq)
  | some v :: r, some w :: r', k, q, h, hq => by
    obtain ⟨rfl, h⟩ := h
    rcases List.mem_cons.mp hq with hq | hq
    · exact List.mem_cons.mpr (Or.inl hq)
    · exact List.mem_cons_of_mem _ (e_asc_sub (l := r) (l' := r') h hq)
  | some _ :: _, none :: _, _, _, h, _ => h.elim
  | some _ :: _, [], _, _, h, _ => h.elim
theorem e_allL_sub {g : EG} {M : EM} : ∀ {l l' : List (Option EV)}, e_sub l l' → e_allL g M l' → e_allL g M l
  | [], _, _, _ => trivial
  | none :: r, [], h, hq => e_allL_sub (l := r) (l' := []) h hq
  | none :: r, none :: r', h, hq => e_allL_sub (l := r) (l' := r') h hq
  | none :: r, some w :: r', h, hq => e_allL_sub (l := r) (l' := r') h hq.2
  | some v :: r, some w :: r', h, hq => by
    obtain ⟨rfl, h⟩ := h
    exact ⟨hq.1, e_allL_sub (l := r) (l' := r') h hq.2⟩
  | some _ :: _, none :: _, h, _ => h.elim
  | some _ :: _, [], h, _ => h.elim
/-- the places' rule: fewer locals will do -/
def e_wk (K : Nat → EK) : Prop := ∀ t ls ls' st M nc ns, e_sub ls' ls → K t ls' st M nc ns → K t ls st M nc ns
def e_l0 : Nat → List EV → List (Option EV)
  | n, [] => List.replicate n none
  | 0, _ :: _ => []
  | 1, v :: r => some v :: e_l0 0 r
  | n + 2, v :: r => match e_c1 v with
    | true => some v :: e_l0 (n + 1) r
    | false => some v :: none :: e_l0 n r
theorem e_asc_none : ∀ {n k : Nat} {q : Nat × Value}, ¬ q ∈ e_asc k (List.replicate n none)
  | 0, _, _, h => by cases h
  | n + 1, k, q, h => e_asc_none (n := n) (k := k + 1) (q := q) h
theorem e_c2_cat {v : EV} (h : e_c1 v = false) : (e_tv v).category = 2 := by
  rcases v with x | x | x | x | x <;> first | rfl | (cases h; done)
theorem e_l0_in : ∀ {n : Nat} {av : List EV} {k : Nat} {q : Nat × Value}, q ∈ e_asc k (e_l0 n av) → q ∈ lv_args k (av.map e_tv)
  | n, [], k, q, h => by
    have h' : q ∈ e_asc k (List.replicate n none) := by
      cases n <;> exact h
    exact absurd h' e_asc_none
  | 0, _ :: _, k, q, h => by cases h
  | 1, v :: r, k, q, h => by
    simp only [e_l0, e_asc, List.mem_cons] at h
    rcases h with h | h
    · exact List.mem_cons.mpr (Or.inl h)
    · have h1 : ∀ {r : List EV} {k : Nat} {q : Nat × Value}, ¬ q ∈ e_asc k (e_l0 0 r) := by
        intro r k q h
        cases r <;> cases h
      exact absurd h h1
  | n + 2, v :: r, k, q, h => by
    simp only [e_l0] at h
    split at h
    · rename_i hc
      simp only [e_asc, List.mem_cons] at h
      rcases h with h | h
      · exact List.mem_cons.mpr (Or.inl h)
      · refine List.mem_cons_of_mem _ ?_
        rw [e_c1_cat hc]
        exact e_l0_in (n := n + 1) h
    · rename_i hc
      simp only [e_asc, List.mem_cons] at h
      rcases h with h | h
      · exact List.mem_cons.mpr (Or.inl h)
      · refine List.mem_cons_of_mem _ ?_
        rw [e_c2_cat hc]
        exact e_l0_in (n := n) h
theorem e_l0_all {g : EG} {M : EM} : ∀ {n : Nat} {av : List EV}, e_all g M av → e_allL g M (e_l0 n av)
  | n, [], _ => by
    have : ∀ n : Nat, e_allL g M (List.replicate n none) := by
      intro n
      induction n with
      | zero => trivial
      | succ n ih => exact ih
    cases n <;> exact this _
  | 0, _ :: _, _ => trivial
  | 1, v :: r, h => ⟨h.1, e_l0_all (n := 0) (av := r) h.2⟩
  | n + 2, v :: r, h => by
    simp only [e_l0]
    split
    · exact ⟨h.1, e_l0_all (n := n + 1) (av := r) h.2⟩
    · have h1 : e_allL g M (e_l0 n r) := e_l0_all (n := n) (av := r) h.2
      exact ⟨h.1, h1⟩
theorem e_sl_le : ∀ {av : List EV}, (lg_sl (av.map e_tv)).length ≤ e_wt av
  | [] => Nat.le_refl _
  | v :: r => by
    have h := e_sl_le (av := r)
    simp only [lg_sl, List.map_cons, List.flatMap_cons, List.length_append, e_wt] at h ⊢
    cases hc : e_c1 v with
    | true => rw [e_c1_cat hc]; simp at h ⊢; omega
    | false => rw [e_c2_cat hc]; simp at h ⊢; omega
/-- a method's rows are right, in whatever body of it -/
def e_okp (l : Launch) (g : EG) (σ : SG) (own : String) (prog : List (Nat × ES)) : Prop :=
  ∀ (p : Program) (e : Env) (R : Room) (s : State) (m : MethodId) (args : Array Value) (below : List Frame) (meth : Method) (c : Code) (ex : Option Nat) (M0 : EM) (Q : EO → EM → Prop),
    Cx p l g σ R s m args meth c own → e_each (fun pc np f => RowOk p l e g σ R s m args below meth c ex M0 Q pc np f) prog
/-- what is asked of a method once: its class, its word, no handlers -/
def e_mt (σ : SG) (own : String) : Prop := (gy σ).cls = own ∧ plainName (gy σ).cls = true ∧ ghh σ = []
theorem e_each_mono {φ ψ : Nat → Nat → ES → Prop} (h : ∀ pc np f, φ pc np f → ψ pc np f) : ∀ {L : List (Nat × ES)}, e_each φ L → e_each ψ L
  | [], _ => trivial
  | _ :: _, h1 => ⟨h _ _ _ h1.1, e_each_mono h h1.2⟩
/-- THE CONTRACT OUT OF THE WALK -/
theorem sem_of {l : Launch} {g : EG} {σ : SG} {own : String} {prog : List (Nat × ES)} {av : List EV} {M : EM} {Q : EO → EM → Prop} (hl0 : l.stackTraces = false) (hm : e_mt σ own) (hp : e_okp l g σ own prog) (hw : Nat.ble (e_wt av) (gml σ) = true)
    (body : ∀ K : Nat → EK, e_clo prog (e_ret σ Q) K → e_wk K → K 0 (e_l0 (gml σ) av) [] M 0 0) : Ct l g σ av M Q := by
  intro ok hv
  obtain ⟨hcls, hpl, hhh⟩ := hm
  have hwd : gwd σ = Cond.code (gy σ) (gcc σ) (gml σ) (grt σ) := by unfold gwd; rw [hhh]
  refine vx_ofW (cc := gcc σ) (maxL := gml σ) (ret := grt σ) (ws' := []) hpl (by unfold gws; rw [hwd]) ?_
  intro p e s m args below meth c s₁ B hml hex hPc
  obtain ⟨rfl, hG, hS⟩ := hPc
  have X : Cx p l g σ (headSpec (gws σ) (grm σ)).room s m ((av.map e_tv).toArray) meth c own := by
    refine ⟨B.exec, B.bytes, B.returns, hml, ?_, B.notSynchronized, hG, rfl, hl0, (name_of_methodNamed B.named B.method).1, ?_⟩
    · rw [← hcls]; exact findClass_of_methodNamed B.named
    · rw [hhh]
      cases ht : c.exceptionTable.toList with
      | nil => rfl
      | cons x r => exact (hex x (by rw [ht]; exact List.mem_cons_self)).elim
  have hb := body (fun t ls st M' nc ns => Run p l e g σ (headSpec (gws σ) (grm σ)).room s m ((av.map e_tv).toArray) below meth c (e_ex σ av) M Q t ls st M' nc ns) (e_each_mono (fun pc np f h => h) (hp p e _ s m _ below meth c (e_ex σ av) M Q X)) ?_
  · have hlen : (lg_sl (av.map e_tv)).length ≤ gml σ := Nat.le_trans e_sl_le (Nat.le_of_ble_eq_true hw)
    have hl := lv_entry (av.map e_tv) (n := gml σ) hlen
    rw [lg_entry_eq]
    exact hb s.heap [] _ (e_has_sub hl (fun q hq => e_l0_in hq)) ok e_le.rf (e_l0_all hv) trivial hS va_S.rf
  · intro t ls ls' st M' nc ns hsub h H locs lsM hl ok le vl vs hS hF
    exact h H locs lsM (e_has_sub hl (fun q hq => e_asc_sub hsub hq)) ok le (e_allL_sub hsub vl) vs hS hF
