/-! THE ENGINE, 2: the world in the heap; what holds at every call; a method's contract; what a place of the code comes to. -/
theorem e_wd_get {g : EG} {M : EM} {a : Nat} (h : a ∈ mA M) : ∃ k : Nat, (e_wd g M)[k]? = some (a, e_ent g M a) := by
  have := va_pl_get (X := []) (f := e_ent g M) h
  simpa [e_wd] using this
/-- one cell changes: the same list, but for its own place -/
theorem e_wd_set {g : EG} {M M' : EM} {A : Nat → Prop} {a k : Nat} (hD : va_D A (e_wd g M)) (h : a ∈ mA M) (hk : (e_wd g M)[k]? = some (a, e_ent g M a)) (hA : mA M' = mA M) (hne : ∀ b, b ≠ a → e_ent g M' b = e_ent g M b) : (e_wd g M).set k (a, e_ent g M' a) = e_wd g M' := by
  have h1 := va_pl_set (X := []) (f := e_ent g M) (e := e_ent g M' a) (A := A) (k := k) (by simpa [e_wd] using hD) h (by simpa [e_wd] using hk)
  simp only [List.nil_append] at h1
  show (va_pl (mA M) (e_ent g M)).set k (a, e_ent g M' a) = va_pl (mA M') (e_ent g M')
  rw [h1, hA]
  refine va_pl_congr fun b => ?_
  by_cases hb : b = a
  · subst hb; simp [va_up]
  · simp [va_up, hb, hne b hb]
theorem e_ent_cong {g : EG} {M M' : EM} {b : Nat} (hT : mT M' b = mT M b) (hI : mI M' b = mI M b) (hL : mL M' b = mL M b) (hP : mP M' b = mP M b) : e_ent g M' b = e_ent g M b := by
  unfold e_ent
  rw [hT]
  cases e_kd (mT M b) with
  | none => rfl
  | some q =>
    cases q with
    | inl ci =>
      simp only [Sum.inr.injEq, Prod.mk.injEq, true_and]
      apply List.map_congr_left
      intro k _
      unfold e_fv
      rw [hI, hL, hP]
    | inr q =>
      simp only [Sum.inl.injEq, Prod.mk.injEq, true_and]
      unfold e_arr
      rw [hI, hL, hP]
theorem mI_sI_ne {M : EM} {a k b : Nat} {v : Int32} (h : b ≠ a) : mI (sI M a k v) b = mI M b := by funext j; simp [mI, sI, e_up, h]
theorem mL_sL_ne {M : EM} {a k b : Nat} {v : Int64} (h : b ≠ a) : mL (sL M a k v) b = mL M b := by funext j; simp [mL, sL, e_up, h]
theorem mP_sP_ne {M : EM} {a k b : Nat} {v : Nat} (h : b ≠ a) : mP (sP M a k v) b = mP M b := by funext j; simp [mP, sP, e_up, h]
theorem e_ent_sI {g : EG} {M : EM} {a k b : Nat} {v : Int32} (h : b ≠ a) : e_ent g (sI M a k v) b = e_ent g M b := e_ent_cong rfl (mI_sI_ne h) rfl rfl
theorem e_ent_sL {g : EG} {M : EM} {a k b : Nat} {v : Int64} (h : b ≠ a) : e_ent g (sL M a k v) b = e_ent g M b := e_ent_cong rfl rfl (mL_sL_ne h) rfl
theorem e_ent_sP {g : EG} {M : EM} {a k b : Nat} {v : Nat} (h : b ≠ a) : e_ent g (sP M a k v) b = e_ent g M b := e_ent_cong rfl rfl rfl (mP_sP_ne h)
theorem e_ent_sIr {g : EG} {M : EM} {a b : Nat} {v : Nat → Int32} (h : b ≠ a) : e_ent g (sIr M a v) b = e_ent g M b := e_ent_cong rfl (by funext j; simp [mI, sIr, e_uprow, h]) rfl rfl
theorem e_ent_sLr {g : EG} {M : EM} {a b : Nat} {v : Nat → Int64} (h : b ≠ a) : e_ent g (sLr M a v) b = e_ent g M b := e_ent_cong rfl rfl (by funext j; simp [mL, sLr, e_uprow, h]) rfl
theorem e_ent_sN {g : EG} {M : EM} {n b : Nat} : e_ent g (sN M n) b = e_ent g M b := rfl
/-- a builder's private methods: found by the builder -/
def e_sbs : List Cond := [Cond.selects "java/lang/StringBuilder" ⟨"java/lang/AbstractStringBuilder", "ensureCapacityInternal", "(I)V"⟩ ⟨"java/lang/AbstractStringBuilder", "ensureCapacityInternal", "(I)V"⟩, Cond.selects "java/lang/StringBuilder" ⟨"java/lang/AbstractStringBuilder", "newCapacity", "(I)I"⟩ ⟨"java/lang/AbstractStringBuilder", "newCapacity", "(I)I"⟩, Cond.selects "java/lang/StringBuilder" ⟨"java/lang/AbstractStringBuilder", "putStringAt", "(ILjava/lang/String;)V"⟩ ⟨"java/lang/AbstractStringBuilder", "putStringAt", "(ILjava/lang/String;)V"⟩, Cond.selects "java/lang/StringBuilder" ⟨"java/lang/AbstractStringBuilder", "inflateIfNeededFor", "(Ljava/lang/String;)V"⟩ ⟨"java/lang/AbstractStringBuilder", "inflateIfNeededFor", "(Ljava/lang/String;)V"⟩]
def e_tbl : List Cond := lw_tbl ++ e_sbs
/-- what the handlers' order asks: the first class can't be cast to the second one -/
def e_nc : List (String × String) := [("java/lang/IndexOutOfBoundsException", "java/util/NoSuchElementException")]
def e_NC (U : State) : Prop := ∀ q ∈ e_nc, va_Nc q.1 q.2 U
theorem e_NC.moved {u U : State} (h : e_NC u) (hvm : u.vm.Alike U.vm) : e_NC U := fun q hq => va_Nc.moved hvm (h q hq)
def e_good : List Cond := e_tbl.filter goodWord
def e_isNest : Cond → Bool
  | .methodLinkNest .. => true
  | _ => false
def e_nest : List Cond := e_tbl.filter e_isNest
def e_isCast : Cond → Bool
  | .castable .. => true
  | _ => false
def e_cast : List Cond := e_tbl.filter e_isCast
def e_isDecl : Cond → Bool
  | .declares _ => true
  | _ => false
def e_decl : List Cond := e_tbl.filter e_isDecl
def e_ao : List String := [RX9, RX2, RX3, RX7, RJ0]
def e_tens (j : Nat) : Int32 := nI (48 + j / 10)
def e_ones (j : Nat) : Int32 := nI (48 + j % 10)
def e_month (j : Nat) : Int32 := [0, 31, 59, 90, 120, 151, 181, 212, 243, 273, 304, 334, 365].getD j 0
/-- the texts: whose, their places, their bytes -/
def e_txt : List (String × Nat × String) := [("CalendarSync$Reader", 61, "zone"), ("CalendarSync$Reader", 128, "summer"), ("CalendarSync$Reader", 76, "event"), ("CalendarSync$Reader", 144, "every"), ("CalendarSync$Reader", 161, "days"), ("CalendarSync$Reader", 163, "weeks"), ("CalendarSync$Reader", 165, "months"), ("CalendarSync$Reader", 156, "times"), ("CalendarSync$Reader", 173, "not"), ("CalendarSync$Reader", 175, "move"), ("CalendarSync$Text", 64, "motuwethfrsasu"), ("CalendarSync", 395, "not possible now"), ("CalendarSync", 384, "out of range"), ("CalendarSync", 114, "no such what"), ("CalendarSync", 388, "not there"), ("CalendarSync", 391, "no such date"), ("CalendarSyncLaw", 82, "zone "), ("CalendarSyncLaw", 74, ""), ("CalendarSyncLaw", 87, "-"), ("CalendarSyncLaw", 89, " summer 80 "), ("CalendarSyncLaw", 91, ";zone 60 summer 0 100;"), ("CalendarSyncLaw", 93, "event "), ("CalendarSyncLaw", 36, "mo"), ("CalendarSyncLaw", 38, "tu"), ("CalendarSyncLaw", 40, "we"), ("CalendarSyncLaw", 42, "th"), ("CalendarSyncLaw", 44, "fr"), ("CalendarSyncLaw", 46, "sa"), ("CalendarSyncLaw", 48, "su"), ("CalendarSyncLaw", 57, " every "), ("CalendarSyncLaw", 66, " days times "), ("CalendarSyncLaw", 72, " weeks "), ("CalendarSyncLaw", 76, " "), ("CalendarSyncLaw", 78, " times "), ("CalendarSyncLaw", 80, " months times ")]
def e_byt : List (List Int32) := e_txt.map (fun q => q.2.2.toList.map (fun ch => Int32.ofNat ch.toNat))
def e_len : List Nat := e_byt.map List.length
/-- what holds of the machine and of what nobody writes, at every call -/
def e_GI (g : EG) (U : State) : Prop :=
  va_K (gD g) vwCl (e_tys g) U ∧ (∀ w ∈ e_good, w.before #[] U = true) ∧ (∀ w ∈ e_nest, va_Nw w U) ∧ (∀ w ∈ e_cast, va_Nw w U) ∧ gZ g ≤ U.heap.size ∧
  vx_Zq Bundle.tN "UNASSIGNED_STACK" Bundle.steD (eA g) U U.heap ∧ vx_Zq Bundle.tN "SUPPRESSED_SENTINEL" Bundle.listD (eA g) U U.heap ∧
  va_Z "CalendarSync$Days" "MONTH_START" "[I" (.ref (gM g)) (eA g) U U.heap ∧ va_T .int (gM g) 13 (fun j => .int (e_month j)) (eA g) U U.heap ∧
  (∀ k x, e_txt[k]? = some x → vk_R x.1 x.2.1 x.2.2 (gS g k) U) ∧ vk_S 35 e_len e_byt (gS g) (gB g) (eA g) U U.heap ∧ (∀ w ∈ e_decl, va_Nw w U) ∧ (∀ C ∈ e_ao, va_AO C U) ∧
  va_Z "java/lang/String" "COMPACT_STRINGS" "Z" (.int 1) (eA g) U U.heap ∧ va_Zq "jdk/internal/util/Preconditions" "SIOOBE_FORMATTER" "Ljava/util/function/BiFunction;" (eA g) U U.heap ∧
  (va_Z "java/lang/Integer" "DigitTens" "[B" (.ref (gS g 58)) (eA g) U U.heap ∧ va_T .byte (gS g 58) 100 (fun j => .int (e_tens j)) (eA g) U U.heap) ∧
  va_Z "java/lang/Integer" "DigitOnes" "[B" (.ref (gS g 59)) (eA g) U U.heap ∧ va_T .byte (gS g 59) 100 (fun j => .int (e_ones j)) (eA g) U U.heap ∧ e_NC U
theorem e_GI.to {g : EG} {s U : State} (h : e_GI g s) (hW : s.WarmedH U.vm) (hz : s.heap.size ≤ U.heap.size) (hq : ∀ a : Nat, a < s.heap.size → ¬ eA g a → U.heap[a]? = s.heap[a]?) : e_GI g U := by
  obtain ⟨h1, h2, h3, h3b, h4, h5, h6, h7, h8, h9, h10, h11, h12, h13, h14, ⟨h15, h16⟩, h17, h18, h19⟩ := h
  refine ⟨va_K.moved hW.alike h1, fun w hw => word_at hW (good_of_word (List.mem_filter.mp hw).2) (h2 w hw), fun w hw => ?_, fun w hw => ?_, Nat.le_trans h4 hz, ?_, ?_, ?_, ?_, fun k x hk => (h9 k x hk).warm hW, (h10.kept hq).moved hW.alike, fun w hw => ?_, fun C hC => va_AO.moved hW.alike (h12 C hC), va_Z.moved hW.alike (va_Z.kept h13 hq), h14.imp (fun z => va_Z.moved hW.alike (va_Z.kept z hq)) (fun h => h.imp fun _ z => va_Z.moved hW.alike (va_Z.kept z hq)), ⟨va_Z.moved hW.alike (va_Z.kept h15 hq), va_T.moved hW.alike (va_T.kept h16 hq)⟩, va_Z.moved hW.alike (va_Z.kept h17 hq), va_T.moved hW.alike (va_T.kept h18 hq), h19.moved hW.alike⟩
  · have hn := (List.mem_filter.mp hw).2
    cases w <;> first | (cases hn; done) | exact va_Nw.warmM hW (h3 _ hw)
  · have hn := (List.mem_filter.mp hw).2
    cases w <;> first | (cases hn; done) | exact va_Nw.warmC hW (h3b _ hw)
  · exact vx_Zq.moved hW.alike (vx_Zq.kept h5 hq)
  · exact vx_Zq.moved hW.alike (vx_Zq.kept h6 hq)
  · exact va_Z.moved hW.alike (va_Z.kept h7 hq)
  · exact va_T.moved hW.alike (va_T.kept h8 hq)
  · have hn := (List.mem_filter.mp hw).2
    cases w <;> first | (cases hn; done) | exact va_Nw.warmD hW (h11 _ hw)
/-- the memory M lies in the heap H -/
def e_St (g : EG) (M : EM) (H : Heap) : Prop := H.size = mN M ∧ va_P (gD g) vwCl (e_wd g M) H ∧ va_D (eA g) (e_wd g M)
abbrev EO : Type := Option EV ⊕ String
def e_Pc (g : EG) (av : List Value) (M : EM) : Array Value → State → Prop := va_Pc av (fun U => e_GI g U ∧ e_St g M U.heap)
def e_vokO (g : EG) (M : EM) : Option EV → Prop
  | none => True
  | some v => e_vok g M v
def e_Qc (g : EG) (ex : Option Nat) (M : EM) (Q : EO → EM → Prop) : Array Value → State → Outcome → State → Prop := fun _ st oc t => ∃ (v : Option EV) (M' : EM), oc = .returned (v.map e_tv) ∧ e_ok M' ∧ e_le ex M M' ∧ e_St g M' t.heap ∧ va_F (eA g) st t ∧ e_vokO g M' v ∧ Q (.inl v) M'
def e_XC (g : EG) (ex : Option Nat) (M : EM) (Q : EO → EM → Prop) : String → State → State → Prop := fun E st t => ∃ M' : EM, e_ok M' ∧ e_le ex M M' ∧ e_St g M' t.heap ∧ va_F (eA g) st t ∧ Q (.inr E) M'
/-- a method: its name, code, locals, answer; frames, words, cells, slots that it needs; how many parameters; whether it makes its first one whole -/
abbrev SG : Type := MethodName × (ByteArray × (Nat × (Option FieldType × (Nat × (Nat × (Nat × (Nat × (Nat × (Bool × List (Nat × Nat × Nat × Nat))))))))))
def gy (σ : SG) : MethodName := σ.1
def gcc (σ : SG) : ByteArray := σ.2.1
def gml (σ : SG) : Nat := σ.2.2.1
def grt (σ : SG) : Option FieldType := σ.2.2.2.1
def gfr (σ : SG) : Nat := σ.2.2.2.2.1
def glo (σ : SG) : Nat := σ.2.2.2.2.2.1
def gmc (σ : SG) : Nat := σ.2.2.2.2.2.2.1
def gms (σ : SG) : Nat := σ.2.2.2.2.2.2.2.1
def gnp (σ : SG) : Nat := σ.2.2.2.2.2.2.2.2.1
def gct (σ : SG) : Bool := σ.2.2.2.2.2.2.2.2.2.1
def ghh (σ : SG) : List (Nat × Nat × Nat × Nat) := σ.2.2.2.2.2.2.2.2.2.2
def grm (σ : SG) : Room := { frames := gfr σ, cells := gmc σ, slots := gms σ, locals := glo σ }
def gwd (σ : SG) : Cond := match ghh σ with
  | [] => Cond.code (gy σ) (gcc σ) (gml σ) (grt σ)
  | h => Cond.codeWith (gy σ) (gcc σ) (gml σ) (grt σ) h
def gws (σ : SG) : List Cond := [gwd σ]
def e_fst : List EV → Option Nat
  | .inr (.inr (.inr (.inr p))) :: _ => some p.2
  | _ => none
def e_ex (σ : SG) (av : List EV) : Option Nat := bif gct σ then e_fst av else none
/-- THE CONTRACT: from every state that holds the memory M, the method σ, with these arguments, returns or throws, and Q -/
def Ct (l : Launch) (g : EG) (σ : SG) (av : List EV) (M : EM) (Q : EO → EM → Prop) : Prop :=
  e_ok M → e_all g M av → vx_Met l (gy σ) (gws σ) (grm σ) (e_Pc g (av.map e_tv) M) (e_Qc g (e_ex σ av) M Q) (e_XC g (e_ex σ av) M Q) (gmc σ) (gms σ) (eA g)
theorem Ct.mono {l : Launch} {g : EG} {σ : SG} {av : List EV} {M : EM} {Q Q' : EO → EM → Prop} (h : Ct l g σ av M Q) (hq : ∀ o M', Q o M' → Q' o M') : Ct l g σ av M Q' := by
  intro hk hv p e ha hc hkk s m args below hf happ hp hK
  obtain ⟨n, o, h1, h2, h3, h4⟩ := h hk hv p e ha hc hkk s m args below hf happ hp hK
  refine ⟨n, o, h1, h2, h3, ?_⟩
  rcases h4 with ⟨⟨v, M', q1, q2, q3, q4, q5, q6, q7⟩, hL⟩ | ⟨q, ho, E, ce, L, ⟨M', q2, q3, q4, q5, q7⟩, hr⟩
  · exact Or.inl ⟨⟨v, M', q1, q2, q3, q4, q5, q6, hq _ _ q7⟩, hL⟩
  · exact Or.inr ⟨q, ho, E, ce, L, ⟨M', q2, q3, q4, q5, hq _ _ q7⟩, hr⟩
/-- what stands fixed in a method's body -/
def Cx (p : Program) (l : Launch) (g : EG) (σ : SG) (R : Room) (s : State) (m : MethodId) (args : Array Value) (meth : Method) (c : Code) (own : String) : Prop :=
  p.tables.exec = Jvm.exec ∧ c.code = gcc σ ∧ meth.sig.returnType = grt σ ∧ c.maxLocals = gml σ ∧ s.vm.findClass own = some m.cls ∧ meth.locks = false ∧ e_GI g s ∧ R = grm σ ∧ l.stackTraces = false ∧ meth.name = (gy σ).name ∧ c.exceptionTable.toList = tableOf (ghh σ)
/-- FROM HERE the run comes to its end: at the place pc, with these locals and this stack, over this memory, having made so many cells and slots -/
def Run (p : Program) (l : Launch) (e : Env) (g : EG) (σ : SG) (R : Room) (s : State) (m : MethodId) (args : Array Value) (below : List Frame) (meth : Method) (c : Code) (ex : Option Nat) (M0 : EM) (Q : EO → EM → Prop) (pc : Nat) (ls : List (Option EV)) (st : List EV) (M : EM) (nc ns : Nat) : Prop :=
  ∀ (H : Heap) (locs : List Loc) (lsM : Array Slot), lv_has lsM (gml σ) (e_asc 0 ls) → e_ok M → e_le ex M0 M → e_allL g M ls → e_all g M st → e_St g M H → va_S (eA g) s.heap H locs →
    W p l e R s m args below meth c H locs nc ns (vx_MQ below (e_Qc g ex M0 Q) (e_XC g ex M0 Q) args s (gmc σ) (gms σ) (eA g)) (F0 m pc lsM (st.map e_tv))
abbrev EK : Type := List (Option EV) → List EV → EM → Nat → Nat → Prop
/-- what an instruction does: given what holds at the method's end, at a place of the code, at the next one -/
abbrev ES : Type := (EO → EM → Nat → Nat → Prop) → (Nat → EK) → EK → EK
def e_ret (σ : SG) (Q : EO → EM → Prop) : EO → EM → Nat → Nat → Prop := fun o M nc ns => nc ≤ gmc σ ∧ ns ≤ gms σ ∧ Q o M
