/-! THE ENGINE, 3: instructions on locals and stack. -/
section RW
variable {p : Program} {l : Launch} {e : Env} {g : EG} {σ : SG} {R : Room} {s : State} {m : MethodId} {args : Array Value} {below : List Frame} {meth : Method} {c : Code} {ex : Option Nat} {M0 : EM} {Q : EO → EM → Prop} {own : String} {pc np : Nat}
/-- a row is right: if what it asks holds, with right continuations, the run from its place comes to its end -/
def RowOk (p : Program) (l : Launch) (e : Env) (g : EG) (σ : SG) (R : Room) (s : State) (m : MethodId) (args : Array Value) (below : List Frame) (meth : Method) (c : Code) (ex : Option Nat) (M0 : EM) (Q : EO → EM → Prop) (pc np : Nat) (f : ES) : Prop :=
  ∀ J : Nat → EK, (∀ t ls st M nc ns, J t ls st M nc ns → Run p l e g σ R s m args below meth c ex M0 Q t ls st M nc ns) → ∀ ls st M nc ns, f (e_ret σ Q) J (J np) ls st M nc ns → Run p l e g σ R s m args below meth c ex M0 Q pc ls st M nc ns
def s_ii (f : Int32 → Int32 → Int32) : ES := fun _ _ nx ls st M nc ns => match st with
  | .inl y :: .inl x :: r => nx ls (.inl (f x y) :: r) M nc ns
  | _ => False
theorem i_ii {f : Int32 → Int32 → Int32} {A : EO → EM → Nat → Nat → Prop} {J : Nat → EK} {nx : EK} {ls : List (Option EV)} {st : List EV} {M : EM} {nc ns : Nat} (h : s_ii f A J nx ls st M nc ns) : ∃ (x : Int32) (y : Int32) (r : List EV), st = .inl y :: .inl x :: r ∧ nx ls (.inl (f x y) :: r) M nc ns := by
  unfold s_ii at h
  split at h
  · exact ⟨_, _, _, rfl, h⟩
  · exact h.elim
def s_iid (f : Int32 → Int32 → Int32) (d : Int32 → Int32 → Prop) : ES := fun _ _ nx ls st M nc ns => match st with
  | .inl y :: .inl x :: r => d x y ∧ nx ls (.inl (f x y) :: r) M nc ns
  | _ => False
theorem i_iid {f : Int32 → Int32 → Int32} {d : Int32 → Int32 → Prop} {A : EO → EM → Nat → Nat → Prop} {J : Nat → EK} {nx : EK} {ls : List (Option EV)} {st : List EV} {M : EM} {nc ns : Nat} (h : s_iid f d A J nx ls st M nc ns) : ∃ (x : Int32) (y : Int32) (r : List EV), st = .inl y :: .inl x :: r ∧ d x y ∧ nx ls (.inl (f x y) :: r) M nc ns := by
  unfold s_iid at h
  split at h
  · exact ⟨_, _, _, rfl, h⟩
  · exact h.elim
def s_i1 (f : Int32 → Int32) : ES := fun _ _ nx ls st M nc ns => match st with
  | .inl x :: r => nx ls (.inl (f x) :: r) M nc ns
  | _ => False
theorem i_i1 {f : Int32 → Int32} {A : EO → EM → Nat → Nat → Prop} {J : Nat → EK} {nx : EK} {ls : List (Option EV)} {st : List EV} {M : EM} {nc ns : Nat} (h : s_i1 f A J nx ls st M nc ns) : ∃ (x : Int32) (r : List EV), st = .inl x :: r ∧ nx ls (.inl (f x) :: r) M nc ns := by
  unfold s_i1 at h
  split at h
  · exact ⟨_, _, rfl, h⟩
  · exact h.elim
def s_ll (f : Int64 → Int64 → Int64) : ES := fun _ _ nx ls st M nc ns => match st with
  | .inr (.inl y) :: .inr (.inl x) :: r => nx ls (.inr (.inl (f x y)) :: r) M nc ns
  | _ => False
theorem i_ll {f : Int64 → Int64 → Int64} {A : EO → EM → Nat → Nat → Prop} {J : Nat → EK} {nx : EK} {ls : List (Option EV)} {st : List EV} {M : EM} {nc ns : Nat} (h : s_ll f A J nx ls st M nc ns) : ∃ (x : Int64) (y : Int64) (r : List EV), st = .inr (.inl y) :: .inr (.inl x) :: r ∧ nx ls (.inr (.inl (f x y)) :: r) M nc ns := by
  unfold s_ll at h
  split at h
  · exact ⟨_, _, _, rfl, h⟩
  · exact h.elim
def s_li (f : Int64 → Int32 → Int64) : ES := fun _ _ nx ls st M nc ns => match st with
  | .inl y :: .inr (.inl x) :: r => nx ls (.inr (.inl (f x y)) :: r) M nc ns
  | _ => False
theorem i_li {f : Int64 → Int32 → Int64} {A : EO → EM → Nat → Nat → Prop} {J : Nat → EK} {nx : EK} {ls : List (Option EV)} {st : List EV} {M : EM} {nc ns : Nat} (h : s_li f A J nx ls st M nc ns) : ∃ (x : Int64) (y : Int32) (r : List EV), st = .inl y :: .inr (.inl x) :: r ∧ nx ls (.inr (.inl (f x y)) :: r) M nc ns := by
  unfold s_li at h
  split at h
  · exact ⟨_, _, _, rfl, h⟩
  · exact h.elim
def s_il (f : Int32 → Int64) : ES := fun _ _ nx ls st M nc ns => match st with
  | .inl x :: r => nx ls (.inr (.inl (f x)) :: r) M nc ns
  | _ => False
theorem i_il {f : Int32 → Int64} {A : EO → EM → Nat → Nat → Prop} {J : Nat → EK} {nx : EK} {ls : List (Option EV)} {st : List EV} {M : EM} {nc ns : Nat} (h : s_il f A J nx ls st M nc ns) : ∃ (x : Int32) (r : List EV), st = .inl x :: r ∧ nx ls (.inr (.inl (f x)) :: r) M nc ns := by
  unfold s_il at h
  split at h
  · exact ⟨_, _, rfl, h⟩
  · exact h.elim
def s_lI (f : Int64 → Int32) : ES := fun _ _ nx ls st M nc ns => match st with
  | .inr (.inl x) :: r => nx ls (.inl (f x) :: r) M nc ns
  | _ => False
theorem i_lI {f : Int64 → Int32} {A : EO → EM → Nat → Nat → Prop} {J : Nat → EK} {nx : EK} {ls : List (Option EV)} {st : List EV} {M : EM} {nc ns : Nat} (h : s_lI f A J nx ls st M nc ns) : ∃ (x : Int64) (r : List EV), st = .inr (.inl x) :: r ∧ nx ls (.inl (f x) :: r) M nc ns := by
  unfold s_lI at h
  split at h
  · exact ⟨_, _, rfl, h⟩
  · exact h.elim
def s_lc (f : Int64 → Int64 → Int32) : ES := fun _ _ nx ls st M nc ns => match st with
  | .inr (.inl y) :: .inr (.inl x) :: r => nx ls (.inl (f x y) :: r) M nc ns
  | _ => False
theorem i_lc {f : Int64 → Int64 → Int32} {A : EO → EM → Nat → Nat → Prop} {J : Nat → EK} {nx : EK} {ls : List (Option EV)} {st : List EV} {M : EM} {nc ns : Nat} (h : s_lc f A J nx ls st M nc ns) : ∃ (x : Int64) (y : Int64) (r : List EV), st = .inr (.inl y) :: .inr (.inl x) :: r ∧ nx ls (.inl (f x y) :: r) M nc ns := by
  unfold s_lc at h
  split at h
  · exact ⟨_, _, _, rfl, h⟩
  · exact h.elim
def s_if (f : Int32 → UInt32) : ES := fun _ _ nx ls st M nc ns => match st with
  | .inl x :: r => nx ls (.inr (.inr (.inl (f x))) :: r) M nc ns
  | _ => False
theorem i_if {f : Int32 → UInt32} {A : EO → EM → Nat → Nat → Prop} {J : Nat → EK} {nx : EK} {ls : List (Option EV)} {st : List EV} {M : EM} {nc ns : Nat} (h : s_if f A J nx ls st M nc ns) : ∃ (x : Int32) (r : List EV), st = .inl x :: r ∧ nx ls (.inr (.inr (.inl (f x))) :: r) M nc ns := by
  unfold s_if at h
  split at h
  · exact ⟨_, _, rfl, h⟩
  · exact h.elim
def s_lf (f : Int64 → UInt32) : ES := fun _ _ nx ls st M nc ns => match st with
  | .inr (.inl x) :: r => nx ls (.inr (.inr (.inl (f x))) :: r) M nc ns
  | _ => False
theorem i_lf {f : Int64 → UInt32} {A : EO → EM → Nat → Nat → Prop} {J : Nat → EK} {nx : EK} {ls : List (Option EV)} {st : List EV} {M : EM} {nc ns : Nat} (h : s_lf f A J nx ls st M nc ns) : ∃ (x : Int64) (r : List EV), st = .inr (.inl x) :: r ∧ nx ls (.inr (.inr (.inl (f x))) :: r) M nc ns := by
  unfold s_lf at h
  split at h
  · exact ⟨_, _, rfl, h⟩
  · exact h.elim
def s_fi (f : UInt32 → Int32) : ES := fun _ _ nx ls st M nc ns => match st with
  | .inr (.inr (.inl x)) :: r => nx ls (.inl (f x) :: r) M nc ns
  | _ => False
theorem i_fi {f : UInt32 → Int32} {A : EO → EM → Nat → Nat → Prop} {J : Nat → EK} {nx : EK} {ls : List (Option EV)} {st : List EV} {M : EM} {nc ns : Nat} (h : s_fi f A J nx ls st M nc ns) : ∃ (x : UInt32) (r : List EV), st = .inr (.inr (.inl x)) :: r ∧ nx ls (.inl (f x) :: r) M nc ns := by
  unfold s_fi at h
  split at h
  · exact ⟨_, _, rfl, h⟩
  · exact h.elim
def s_ffi (f : UInt32 → UInt32 → Int32) : ES := fun _ _ nx ls st M nc ns => match st with
  | .inr (.inr (.inl y)) :: .inr (.inr (.inl x)) :: r => nx ls (.inl (f x y) :: r) M nc ns
  | _ => False
theorem i_ffi {f : UInt32 → UInt32 → Int32} {A : EO → EM → Nat → Nat → Prop} {J : Nat → EK} {nx : EK} {ls : List (Option EV)} {st : List EV} {M : EM} {nc ns : Nat} (h : s_ffi f A J nx ls st M nc ns) : ∃ (x : UInt32) (y : UInt32) (r : List EV), st = .inr (.inr (.inl y)) :: .inr (.inr (.inl x)) :: r ∧ nx ls (.inl (f x y) :: r) M nc ns := by
  unfold s_ffi at h
  split at h
  · exact ⟨_, _, _, rfl, h⟩
  · exact h.elim
def s_ddi (f : UInt64 → UInt64 → Int32) : ES := fun _ _ nx ls st M nc ns => match st with
  | .inr (.inr (.inr (.inl y))) :: .inr (.inr (.inr (.inl x))) :: r => nx ls (.inl (f x y) :: r) M nc ns
  | _ => False
theorem i_ddi {f : UInt64 → UInt64 → Int32} {A : EO → EM → Nat → Nat → Prop} {J : Nat → EK} {nx : EK} {ls : List (Option EV)} {st : List EV} {M : EM} {nc ns : Nat} (h : s_ddi f A J nx ls st M nc ns) : ∃ (x : UInt64) (y : UInt64) (r : List EV), st = .inr (.inr (.inr (.inl y))) :: .inr (.inr (.inr (.inl x))) :: r ∧ nx ls (.inl (f x y) :: r) M nc ns := by
  unfold s_ddi at h
  split at h
  · exact ⟨_, _, _, rfl, h⟩
  · exact h.elim
def s_ff (f : UInt32 → UInt32 → UInt32) (d : UInt32 → UInt32 → Prop) : ES := fun _ _ nx ls st M nc ns => match st with
  | .inr (.inr (.inl y)) :: .inr (.inr (.inl x)) :: r => d x y ∧ nx ls (.inr (.inr (.inl (f x y))) :: r) M nc ns
  | _ => False
theorem i_ff {f : UInt32 → UInt32 → UInt32} {d : UInt32 → UInt32 → Prop} {A : EO → EM → Nat → Nat → Prop} {J : Nat → EK} {nx : EK} {ls : List (Option EV)} {st : List EV} {M : EM} {nc ns : Nat} (h : s_ff f d A J nx ls st M nc ns) : ∃ (x : UInt32) (y : UInt32) (r : List EV), st = .inr (.inr (.inl y)) :: .inr (.inr (.inl x)) :: r ∧ d x y ∧ nx ls (.inr (.inr (.inl (f x y))) :: r) M nc ns := by
  unfold s_ff at h
  split at h
  · exact ⟨_, _, _, rfl, h⟩
  · exact h.elim
def s_fd (f : UInt32 → UInt64) (d : UInt32 → Prop) : ES := fun _ _ nx ls st M nc ns => match st with
  | .inr (.inr (.inl x)) :: r => d x ∧ nx ls (.inr (.inr (.inr (.inl (f x)))) :: r) M nc ns
  | _ => False
theorem i_fd {f : UInt32 → UInt64} {d : UInt32 → Prop} {A : EO → EM → Nat → Nat → Prop} {J : Nat → EK} {nx : EK} {ls : List (Option EV)} {st : List EV} {M : EM} {nc ns : Nat} (h : s_fd f d A J nx ls st M nc ns) : ∃ (x : UInt32) (r : List EV), st = .inr (.inr (.inl x)) :: r ∧ d x ∧ nx ls (.inr (.inr (.inr (.inl (f x)))) :: r) M nc ns := by
  unfold s_fd at h
  split at h
  · exact ⟨_, _, rfl, h⟩
  · exact h.elim
theorem r_iadd (X : Cx p l g σ R s m args meth c own) (hd : decode (gcc σ) pc = .ok (.iadd, 1)) (hn : pc + 1 = np) : RowOk p l e g σ R s m args below meth c ex M0 Q pc np (s_ii (fun x y => x + y)) := by
  intro J hJ ls st M nc ns h
  subst hn
  obtain ⟨x, y, r, rfl, h⟩ := i_ii h
  intro H locs lsM hl ok le vl vs hS hF
  exact lv_iadd X.1 X.2.1 hd (hJ _ _ _ _ _ _ h H locs lsM hl ok le vl ⟨trivial, vs.2.2⟩ hS hF)
theorem r_isub (X : Cx p l g σ R s m args meth c own) (hd : decode (gcc σ) pc = .ok (.isub, 1)) (hn : pc + 1 = np) : RowOk p l e g σ R s m args below meth c ex M0 Q pc np (s_ii (fun x y => x - y)) := by
  intro J hJ ls st M nc ns h
  subst hn
  obtain ⟨x, y, r, rfl, h⟩ := i_ii h
  intro H locs lsM hl ok le vl vs hS hF
  exact lv_isub X.1 X.2.1 hd (hJ _ _ _ _ _ _ h H locs lsM hl ok le vl ⟨trivial, vs.2.2⟩ hS hF)
theorem r_imul (X : Cx p l g σ R s m args meth c own) (hd : decode (gcc σ) pc = .ok (.imul, 1)) (hn : pc + 1 = np) : RowOk p l e g σ R s m args below meth c ex M0 Q pc np (s_ii (fun x y => x * y)) := by
  intro J hJ ls st M nc ns h
  subst hn
  obtain ⟨x, y, r, rfl, h⟩ := i_ii h
  intro H locs lsM hl ok le vl vs hS hF
  exact lv_imul X.1 X.2.1 hd (hJ _ _ _ _ _ _ h H locs lsM hl ok le vl ⟨trivial, vs.2.2⟩ hS hF)
theorem r_iand (X : Cx p l g σ R s m args meth c own) (hd : decode (gcc σ) pc = .ok (.iand, 1)) (hn : pc + 1 = np) : RowOk p l e g σ R s m args below meth c ex M0 Q pc np (s_ii (fun x y => x &&& y)) := by
  intro J hJ ls st M nc ns h
  subst hn
  obtain ⟨x, y, r, rfl, h⟩ := i_ii h
  intro H locs lsM hl ok le vl vs hS hF
  exact lv_iand X.1 X.2.1 hd (hJ _ _ _ _ _ _ h H locs lsM hl ok le vl ⟨trivial, vs.2.2⟩ hS hF)
theorem r_ior (X : Cx p l g σ R s m args meth c own) (hd : decode (gcc σ) pc = .ok (.ior, 1)) (hn : pc + 1 = np) : RowOk p l e g σ R s m args below meth c ex M0 Q pc np (s_ii (fun x y => x ||| y)) := by
  intro J hJ ls st M nc ns h
  subst hn
  obtain ⟨x, y, r, rfl, h⟩ := i_ii h
  intro H locs lsM hl ok le vl vs hS hF
  exact lv_ior X.1 X.2.1 hd (hJ _ _ _ _ _ _ h H locs lsM hl ok le vl ⟨trivial, vs.2.2⟩ hS hF)
theorem r_ixor (X : Cx p l g σ R s m args meth c own) (hd : decode (gcc σ) pc = .ok (.ixor, 1)) (hn : pc + 1 = np) : RowOk p l e g σ R s m args below meth c ex M0 Q pc np (s_ii (fun x y => x ^^^ y)) := by
  intro J hJ ls st M nc ns h
  subst hn
  obtain ⟨x, y, r, rfl, h⟩ := i_ii h
  intro H locs lsM hl ok le vl vs hS hF
  exact lv_ixor X.1 X.2.1 hd (hJ _ _ _ _ _ _ h H locs lsM hl ok le vl ⟨trivial, vs.2.2⟩ hS hF)
theorem r_ishl (X : Cx p l g σ R s m args meth c own) (hd : decode (gcc σ) pc = .ok (.ishl, 1)) (hn : pc + 1 = np) : RowOk p l e g σ R s m args below meth c ex M0 Q pc np (s_ii (fun x y => x <<< (y &&& 31))) := by
  intro J hJ ls st M nc ns h
  subst hn
  obtain ⟨x, y, r, rfl, h⟩ := i_ii h
  intro H locs lsM hl ok le vl vs hS hF
  exact lv_ishl X.1 X.2.1 hd (hJ _ _ _ _ _ _ h H locs lsM hl ok le vl ⟨trivial, vs.2.2⟩ hS hF)
theorem r_ishr (X : Cx p l g σ R s m args meth c own) (hd : decode (gcc σ) pc = .ok (.ishr, 1)) (hn : pc + 1 = np) : RowOk p l e g σ R s m args below meth c ex M0 Q pc np (s_ii (fun x y => x >>> (y &&& 31))) := by
  intro J hJ ls st M nc ns h
  subst hn
  obtain ⟨x, y, r, rfl, h⟩ := i_ii h
  intro H locs lsM hl ok le vl vs hS hF
  exact lv_ishr X.1 X.2.1 hd (hJ _ _ _ _ _ _ h H locs lsM hl ok le vl ⟨trivial, vs.2.2⟩ hS hF)
theorem r_iushr (X : Cx p l g σ R s m args meth c own) (hd : decode (gcc σ) pc = .ok (.iushr, 1)) (hn : pc + 1 = np) : RowOk p l e g σ R s m args below meth c ex M0 Q pc np (s_ii (fun x y => (x.toUInt32 >>> (y.toUInt32 &&& Int32.toUInt32 31)).toInt32)) := by
  intro J hJ ls st M nc ns h
  subst hn
  obtain ⟨x, y, r, rfl, h⟩ := i_ii h
  intro H locs lsM hl ok le vl vs hS hF
  exact lv_iushr X.1 X.2.1 hd rfl (hJ _ _ _ _ _ _ h H locs lsM hl ok le vl ⟨trivial, vs.2.2⟩ hS hF)
theorem r_idiv (X : Cx p l g σ R s m args meth c own) (hd : decode (gcc σ) pc = .ok (.idiv, 1)) (hn : pc + 1 = np) : RowOk p l e g σ R s m args below meth c ex M0 Q pc np (s_iid (fun x y => x / y) (fun _ y => ¬ y = 0)) := by
  intro J hJ ls st M nc ns h
  subst hn
  obtain ⟨x, y, r, rfl, ⟨hc, h⟩⟩ := i_iid h
  intro H locs lsM hl ok le vl vs hS hF
  exact lv_idiv X.1 X.2.1 hd hc (hJ _ _ _ _ _ _ h H locs lsM hl ok le vl ⟨trivial, vs.2.2⟩ hS hF)
theorem r_irem (X : Cx p l g σ R s m args meth c own) (hd : decode (gcc σ) pc = .ok (.irem, 1)) (hn : pc + 1 = np) : RowOk p l e g σ R s m args below meth c ex M0 Q pc np (s_iid (fun x y => x - x / y * y) (fun _ y => ¬ y = 0)) := by
  intro J hJ ls st M nc ns h
  subst hn
  obtain ⟨x, y, r, rfl, ⟨hc, h⟩⟩ := i_iid h
  intro H locs lsM hl ok le vl vs hS hF
  exact lv_irem X.1 X.2.1 hd hc (hJ _ _ _ _ _ _ h H locs lsM hl ok le vl ⟨trivial, vs.2.2⟩ hS hF)
theorem r_ineg (X : Cx p l g σ R s m args meth c own) (hd : decode (gcc σ) pc = .ok (.ineg, 1)) (hn : pc + 1 = np) : RowOk p l e g σ R s m args below meth c ex M0 Q pc np (s_i1 (fun x => -x)) := by
  intro J hJ ls st M nc ns h
  subst hn
  obtain ⟨x, r, rfl, h⟩ := i_i1 h
  intro H locs lsM hl ok le vl vs hS hF
  exact lv_ineg X.1 X.2.1 hd (hJ _ _ _ _ _ _ h H locs lsM hl ok le vl ⟨trivial, vs.2⟩ hS hF)
theorem r_i2b (X : Cx p l g σ R s m args meth c own) (hd : decode (gcc σ) pc = .ok (.i2b, 1)) (hn : pc + 1 = np) : RowOk p l e g σ R s m args below meth c ex M0 Q pc np (s_i1 (fun x => x.toInt8.toInt32)) := by
  intro J hJ ls st M nc ns h
  subst hn
  obtain ⟨x, r, rfl, h⟩ := i_i1 h
  intro H locs lsM hl ok le vl vs hS hF
  exact lv_i2b X.1 X.2.1 hd rfl (hJ _ _ _ _ _ _ h H locs lsM hl ok le vl ⟨trivial, vs.2⟩ hS hF)
theorem r_ladd (X : Cx p l g σ R s m args meth c own) (hd : decode (gcc σ) pc = .ok (.ladd, 1)) (hn : pc + 1 = np) : RowOk p l e g σ R s m args below meth c ex M0 Q pc np (s_ll (fun x y => x + y)) := by
  intro J hJ ls st M nc ns h
  subst hn
  obtain ⟨x, y, r, rfl, h⟩ := i_ll h
  intro H locs lsM hl ok le vl vs hS hF
  exact lv_ladd X.1 X.2.1 hd (hJ _ _ _ _ _ _ h H locs lsM hl ok le vl ⟨trivial, vs.2.2⟩ hS hF)
theorem r_lsub (X : Cx p l g σ R s m args meth c own) (hd : decode (gcc σ) pc = .ok (.lsub, 1)) (hn : pc + 1 = np) : RowOk p l e g σ R s m args below meth c ex M0 Q pc np (s_ll (fun x y => x - y)) := by
  intro J hJ ls st M nc ns h
  subst hn
  obtain ⟨x, y, r, rfl, h⟩ := i_ll h
  intro H locs lsM hl ok le vl vs hS hF
  exact lv_lsub X.1 X.2.1 hd (hJ _ _ _ _ _ _ h H locs lsM hl ok le vl ⟨trivial, vs.2.2⟩ hS hF)
theorem r_lmul (X : Cx p l g σ R s m args meth c own) (hd : decode (gcc σ) pc = .ok (.lmul, 1)) (hn : pc + 1 = np) : RowOk p l e g σ R s m args below meth c ex M0 Q pc np (s_ll (fun x y => x * y)) := by
  intro J hJ ls st M nc ns h
  subst hn
  obtain ⟨x, y, r, rfl, h⟩ := i_ll h
  intro H locs lsM hl ok le vl vs hS hF
  exact lv_lmul X.1 X.2.1 hd (hJ _ _ _ _ _ _ h H locs lsM hl ok le vl ⟨trivial, vs.2.2⟩ hS hF)
theorem r_land (X : Cx p l g σ R s m args meth c own) (hd : decode (gcc σ) pc = .ok (.land, 1)) (hn : pc + 1 = np) : RowOk p l e g σ R s m args below meth c ex M0 Q pc np (s_ll (fun x y => x &&& y)) := by
  intro J hJ ls st M nc ns h
  subst hn
  obtain ⟨x, y, r, rfl, h⟩ := i_ll h
  intro H locs lsM hl ok le vl vs hS hF
  exact lv_land X.1 X.2.1 hd (hJ _ _ _ _ _ _ h H locs lsM hl ok le vl ⟨trivial, vs.2.2⟩ hS hF)
theorem r_lor (X : Cx p l g σ R s m args meth c own) (hd : decode (gcc σ) pc = .ok (.lor, 1)) (hn : pc + 1 = np) : RowOk p l e g σ R s m args below meth c ex M0 Q pc np (s_ll (fun x y => x ||| y)) := by
  intro J hJ ls st M nc ns h
  subst hn
  obtain ⟨x, y, r, rfl, h⟩ := i_ll h
  intro H locs lsM hl ok le vl vs hS hF
  exact lv_lor X.1 X.2.1 hd (hJ _ _ _ _ _ _ h H locs lsM hl ok le vl ⟨trivial, vs.2.2⟩ hS hF)
theorem r_lxor (X : Cx p l g σ R s m args meth c own) (hd : decode (gcc σ) pc = .ok (.lxor, 1)) (hn : pc + 1 = np) : RowOk p l e g σ R s m args below meth c ex M0 Q pc np (s_ll (fun x y => x ^^^ y)) := by
  intro J hJ ls st M nc ns h
  subst hn
  obtain ⟨x, y, r, rfl, h⟩ := i_ll h
  intro H locs lsM hl ok le vl vs hS hF
  exact lv_lxor X.1 X.2.1 hd (hJ _ _ _ _ _ _ h H locs lsM hl ok le vl ⟨trivial, vs.2.2⟩ hS hF)
theorem r_lshl (X : Cx p l g σ R s m args meth c own) (hd : decode (gcc σ) pc = .ok (.lshl, 1)) (hn : pc + 1 = np) : RowOk p l e g σ R s m args below meth c ex M0 Q pc np (s_li (fun x y => x <<< (y.toInt64 &&& 63))) := by
  intro J hJ ls st M nc ns h
  subst hn
  obtain ⟨x, y, r, rfl, h⟩ := i_li h
  intro H locs lsM hl ok le vl vs hS hF
  exact lv_lshl X.1 X.2.1 hd rfl (hJ _ _ _ _ _ _ h H locs lsM hl ok le vl ⟨trivial, vs.2.2⟩ hS hF)
theorem r_lshr (X : Cx p l g σ R s m args meth c own) (hd : decode (gcc σ) pc = .ok (.lshr, 1)) (hn : pc + 1 = np) : RowOk p l e g σ R s m args below meth c ex M0 Q pc np (s_li (fun x y => x >>> (y.toInt64 &&& 63))) := by
  intro J hJ ls st M nc ns h
  subst hn
  obtain ⟨x, y, r, rfl, h⟩ := i_li h
  intro H locs lsM hl ok le vl vs hS hF
  exact lv_lshr X.1 X.2.1 hd rfl (hJ _ _ _ _ _ _ h H locs lsM hl ok le vl ⟨trivial, vs.2.2⟩ hS hF)
theorem r_i2l (X : Cx p l g σ R s m args meth c own) (hd : decode (gcc σ) pc = .ok (.i2l, 1)) (hn : pc + 1 = np) : RowOk p l e g σ R s m args below meth c ex M0 Q pc np (s_il (fun x => x.toInt64)) := by
  intro J hJ ls st M nc ns h
  subst hn
  obtain ⟨x, r, rfl, h⟩ := i_il h
  intro H locs lsM hl ok le vl vs hS hF
  exact lv_i2l X.1 X.2.1 hd rfl (hJ _ _ _ _ _ _ h H locs lsM hl ok le vl ⟨trivial, vs.2⟩ hS hF)
theorem r_l2i (X : Cx p l g σ R s m args meth c own) (hd : decode (gcc σ) pc = .ok (.l2i, 1)) (hn : pc + 1 = np) : RowOk p l e g σ R s m args below meth c ex M0 Q pc np (s_lI (fun x => x.toInt32)) := by
  intro J hJ ls st M nc ns h
  subst hn
  obtain ⟨x, r, rfl, h⟩ := i_lI h
  intro H locs lsM hl ok le vl vs hS hF
  exact lv_l2i X.1 X.2.1 hd rfl (hJ _ _ _ _ _ _ h H locs lsM hl ok le vl ⟨trivial, vs.2⟩ hS hF)
theorem r_lcmp (X : Cx p l g σ R s m args meth c own) (hd : decode (gcc σ) pc = .ok (.lcmp, 1)) (hn : pc + 1 = np) : RowOk p l e g σ R s m args below meth c ex M0 Q pc np (s_lc lg_cmp) := by
  intro J hJ ls st M nc ns h
  subst hn
  obtain ⟨x, y, r, rfl, h⟩ := i_lc h
  intro H locs lsM hl ok le vl vs hS hF
  exact W.lcmp X.1 X.2.1 hd (hJ _ _ _ _ _ _ h H locs lsM hl ok le vl ⟨trivial, vs.2.2⟩ hS hF)
theorem r_i2f (X : Cx p l g σ R s m args meth c own) (hd : decode (gcc σ) pc = .ok (.i2f, 1)) (hn : pc + 1 = np) : RowOk p l e g σ R s m args below meth c ex M0 Q pc np (s_if FP.i2f) := by
  intro J hJ ls st M nc ns h
  subst hn
  obtain ⟨x, r, rfl, h⟩ := i_if h
  intro H locs lsM hl ok le vl vs hS hF
  exact lv_i2f X.1 X.2.1 hd (hJ _ _ _ _ _ _ h H locs lsM hl ok le vl ⟨trivial, vs.2⟩ hS hF)
theorem r_l2f (X : Cx p l g σ R s m args meth c own) (hd : decode (gcc σ) pc = .ok (.l2f, 1)) (hn : pc + 1 = np) : RowOk p l e g σ R s m args below meth c ex M0 Q pc np (s_lf FP.l2f) := by
  intro J hJ ls st M nc ns h
  subst hn
  obtain ⟨x, r, rfl, h⟩ := i_lf h
  intro H locs lsM hl ok le vl vs hS hF
  exact lv_l2f X.1 X.2.1 hd (hJ _ _ _ _ _ _ h H locs lsM hl ok le vl ⟨trivial, vs.2⟩ hS hF)
theorem r_f2i (X : Cx p l g σ R s m args meth c own) (hd : decode (gcc σ) pc = .ok (.f2i, 1)) (hn : pc + 1 = np) : RowOk p l e g σ R s m args below meth c ex M0 Q pc np (s_fi FP.f2i) := by
  intro J hJ ls st M nc ns h
  subst hn
  obtain ⟨x, r, rfl, h⟩ := i_fi h
  intro H locs lsM hl ok le vl vs hS hF
  exact lv_f2i X.1 X.2.1 hd (hJ _ _ _ _ _ _ h H locs lsM hl ok le vl ⟨trivial, vs.2⟩ hS hF)
theorem r_fcmpl (X : Cx p l g σ R s m args meth c own) (hd : decode (gcc σ) pc = .ok (.fcmp .l, 1)) (hn : pc + 1 = np) : RowOk p l e g σ R s m args below meth c ex M0 Q pc np (s_ffi (fun x y => Op.cmpValue (FP.fcmp x y) .l)) := by
  intro J hJ ls st M nc ns h
  subst hn
  obtain ⟨x, y, r, rfl, h⟩ := i_ffi h
  intro H locs lsM hl ok le vl vs hS hF
  exact lv_fcmp X.1 X.2.1 hd (hJ _ _ _ _ _ _ h H locs lsM hl ok le vl ⟨trivial, vs.2.2⟩ hS hF)
theorem r_fcmpg (X : Cx p l g σ R s m args meth c own) (hd : decode (gcc σ) pc = .ok (.fcmp .g, 1)) (hn : pc + 1 = np) : RowOk p l e g σ R s m args below meth c ex M0 Q pc np (s_ffi (fun x y => Op.cmpValue (FP.fcmp x y) .g)) := by
  intro J hJ ls st M nc ns h
  subst hn
  obtain ⟨x, y, r, rfl, h⟩ := i_ffi h
  intro H locs lsM hl ok le vl vs hS hF
  exact lv_fcmp X.1 X.2.1 hd (hJ _ _ _ _ _ _ h H locs lsM hl ok le vl ⟨trivial, vs.2.2⟩ hS hF)
theorem r_dcmpl (X : Cx p l g σ R s m args meth c own) (hd : decode (gcc σ) pc = .ok (.dcmp .l, 1)) (hn : pc + 1 = np) : RowOk p l e g σ R s m args below meth c ex M0 Q pc np (s_ddi (fun x y => Op.cmpValue (FP.dcmp x y) .l)) := by
  intro J hJ ls st M nc ns h
  subst hn
  obtain ⟨x, y, r, rfl, h⟩ := i_ddi h
  intro H locs lsM hl ok le vl vs hS hF
  exact lv_dcmp X.1 X.2.1 hd (hJ _ _ _ _ _ _ h H locs lsM hl ok le vl ⟨trivial, vs.2.2⟩ hS hF)
theorem r_fsub (X : Cx p l g σ R s m args meth c own) (hd : decode (gcc σ) pc = .ok (.fsub, 1)) (hn : pc + 1 = np) : RowOk p l e g σ R s m args below meth c ex M0 Q pc np (s_ff FP.fsub (fun x y => vf_n32 (FP.fsub x y))) := by
  intro J hJ ls st M nc ns h
  subst hn
  obtain ⟨x, y, r, rfl, ⟨hc, h⟩⟩ := i_ff h
  intro H locs lsM hl ok le vl vs hS hF
  exact lv_fsub X.1 X.2.1 hd hc (hJ _ _ _ _ _ _ h H locs lsM hl ok le vl ⟨trivial, vs.2.2⟩ hS hF)
theorem r_fmul (X : Cx p l g σ R s m args meth c own) (hd : decode (gcc σ) pc = .ok (.fmul, 1)) (hn : pc + 1 = np) : RowOk p l e g σ R s m args below meth c ex M0 Q pc np (s_ff FP.fmul (fun x y => vf_n32 (FP.fmul x y))) := by
  intro J hJ ls st M nc ns h
  subst hn
  obtain ⟨x, y, r, rfl, ⟨hc, h⟩⟩ := i_ff h
  intro H locs lsM hl ok le vl vs hS hF
  exact lv_fmul X.1 X.2.1 hd hc (hJ _ _ _ _ _ _ h H locs lsM hl ok le vl ⟨trivial, vs.2.2⟩ hS hF)
theorem r_fdiv (X : Cx p l g σ R s m args meth c own) (hd : decode (gcc σ) pc = .ok (.fdiv, 1)) (hn : pc + 1 = np) : RowOk p l e g σ R s m args below meth c ex M0 Q pc np (s_ff FP.fdiv (fun x y => vf_n32 (FP.fdiv x y))) := by
  intro J hJ ls st M nc ns h
  subst hn
  obtain ⟨x, y, r, rfl, ⟨hc, h⟩⟩ := i_ff h
  intro H locs lsM hl ok le vl vs hS hF
  exact lv_fdiv X.1 X.2.1 hd hc (hJ _ _ _ _ _ _ h H locs lsM hl ok le vl ⟨trivial, vs.2.2⟩ hS hF)
theorem r_f2d (X : Cx p l g σ R s m args meth c own) (hd : decode (gcc σ) pc = .ok (.f2d, 1)) (hn : pc + 1 = np) : RowOk p l e g σ R s m args below meth c ex M0 Q pc np (s_fd FP.f2d (fun x => vf_n64 (FP.f2d x))) := by
  intro J hJ ls st M nc ns h
  subst hn
  obtain ⟨x, r, rfl, ⟨hc, h⟩⟩ := i_fd h
  intro H locs lsM hl ok le vl vs hS hF
  exact lv_f2d X.1 X.2.1 hd hc (hJ _ _ _ _ _ _ h H locs lsM hl ok le vl ⟨trivial, vs.2⟩ hS hF)
def s_c (v : EV) : ES := fun _ _ nx ls st M nc ns => nx ls (v :: st) M nc ns
theorem r_iconst (X : Cx p l g σ R s m args meth c own) {n : Int} {v : Int32} (hd : decode (gcc σ) pc = .ok (.iconst n, 1)) (hv : Int32.ofInt n = v) (hn : pc + 1 = np) : RowOk p l e g σ R s m args below meth c ex M0 Q pc np (s_c (.inl v)) := by
  intro J hJ ls st M nc ns h
  subst hn
  intro H locs lsM hl ok le vl vs hS hF
  exact lv_iconst X.1 X.2.1 hd hv (hJ _ _ _ _ _ _ h H locs lsM hl ok le vl ⟨trivial, vs⟩ hS hF)
theorem r_bipush (X : Cx p l g σ R s m args meth c own) {n : Int} {v : Int32} (hd : decode (gcc σ) pc = .ok (.bipush n, 2)) (hv : (Int8.ofInt n).toInt32 = v) (hn : pc + 2 = np) : RowOk p l e g σ R s m args below meth c ex M0 Q pc np (s_c (.inl v)) := by
  intro J hJ ls st M nc ns h
  subst hn
  intro H locs lsM hl ok le vl vs hS hF
  exact lv_bipush X.1 X.2.1 hd hv (hJ _ _ _ _ _ _ h H locs lsM hl ok le vl ⟨trivial, vs⟩ hS hF)
theorem r_sipush (X : Cx p l g σ R s m args meth c own) {n : Int} {v : Int32} (hd : decode (gcc σ) pc = .ok (.sipush n, 3)) (hv : (Int16.ofInt n).toInt32 = v) (hn : pc + 3 = np) : RowOk p l e g σ R s m args below meth c ex M0 Q pc np (s_c (.inl v)) := by
  intro J hJ ls st M nc ns h
  subst hn
  intro H locs lsM hl ok le vl vs hS hF
  exact lv_sipush X.1 X.2.1 hd hv (hJ _ _ _ _ _ _ h H locs lsM hl ok le vl ⟨trivial, vs⟩ hS hF)
theorem r_lconst (X : Cx p l g σ R s m args meth c own) {n : Fin 2} {v : Int64} (hd : decode (gcc σ) pc = .ok (.lconst n, 1)) (hv : Int64.ofNat (n : Nat) = v) (hn : pc + 1 = np) : RowOk p l e g σ R s m args below meth c ex M0 Q pc np (s_c (.inr (.inl v))) := by
  intro J hJ ls st M nc ns h
  subst hn
  intro H locs lsM hl ok le vl vs hS hF
  exact lv_lconst X.1 X.2.1 hd hv (hJ _ _ _ _ _ _ h H locs lsM hl ok le vl ⟨trivial, vs⟩ hS hF)
def e_f0 : UInt32 := 0
def e_f1 : UInt32 := 0x3f800000
def e_f2 : UInt32 := 0x40000000
theorem e_wd0 {w : Cond} (h : e_GI g s) (hw : w ∈ e_good) : w.before args s = true := word_at (State.WarmedH.refl s) (good_of_word (List.mem_filter.mp hw).2) (h.2.1 w hw)
theorem r_ldc (X : Cx p l g σ R s m args meth c own) {n : Nat} {v : Int32} (hd : decode (gcc σ) pc = .ok (.ldc n, 2)) (hv : Cond.constant own n v ∈ e_good) (hn : pc + 2 = np) : RowOk p l e g σ R s m args below meth c ex M0 Q pc np (s_c (.inl v)) := by
  intro J hJ ls st M nc ns h
  subst hn
  intro H locs lsM hl ok le vl vs hS hF
  exact lv_ldc X.1 X.2.1 X.2.2.2.2.1 (e_wd0 X.2.2.2.2.2.2.1 hv) hd (hJ _ _ _ _ _ _ h H locs lsM hl ok le vl ⟨trivial, vs⟩ hS hF)
theorem r_ldcw (X : Cx p l g σ R s m args meth c own) {n : Nat} {v : Int32} (hd : decode (gcc σ) pc = .ok (.ldc_w n, 3)) (hv : Cond.constant own n v ∈ e_good) (hn : pc + 3 = np) : RowOk p l e g σ R s m args below meth c ex M0 Q pc np (s_c (.inl v)) := by
  intro J hJ ls st M nc ns h
  subst hn
  intro H locs lsM hl ok le vl vs hS hF
  exact lv_ldcw X.1 X.2.1 X.2.2.2.2.1 (e_wd0 X.2.2.2.2.2.2.1 hv) hd (hJ _ _ _ _ _ _ h H locs lsM hl ok le vl ⟨trivial, vs⟩ hS hF)
theorem r_ldcf (X : Cx p l g σ R s m args meth c own) {n : Nat} {v : UInt32} (hd : decode (gcc σ) pc = .ok (.ldc n, 2)) (hv : Cond.constantFloat own n v ∈ e_good) (hn : pc + 2 = np) : RowOk p l e g σ R s m args below meth c ex M0 Q pc np (s_c (.inr (.inr (.inl v)))) := by
  intro J hJ ls st M nc ns h
  subst hn
  intro H locs lsM hl ok le vl vs hS hF
  exact lv_ldcf X.1 X.2.1 X.2.2.2.2.1 (e_wd0 X.2.2.2.2.2.2.1 hv) hd (hJ _ _ _ _ _ _ h H locs lsM hl ok le vl ⟨trivial, vs⟩ hS hF)
theorem r_ldc2 (X : Cx p l g σ R s m args meth c own) {n : Nat} {v : Int64} (hd : decode (gcc σ) pc = .ok (.ldc2_w n, 3)) (hv : Cond.constantLong own n v ∈ e_good) (hn : pc + 3 = np) : RowOk p l e g σ R s m args below meth c ex M0 Q pc np (s_c (.inr (.inl v))) := by
  intro J hJ ls st M nc ns h
  subst hn
  intro H locs lsM hl ok le vl vs hS hF
  exact lv_ldc2 X.1 X.2.1 X.2.2.2.2.1 (e_wd0 X.2.2.2.2.2.2.1 hv) hd (hJ _ _ _ _ _ _ h H locs lsM hl ok le vl ⟨trivial, vs⟩ hS hF)
def s_ldI (i : Nat) : ES := fun _ _ nx ls st M nc ns => match lget ls i with
  | some (.inl w) => nx ls ((.inl w) :: st) M nc ns
  | _ => False
theorem i_ldI {i : Nat} {A : EO → EM → Nat → Nat → Prop} {J : Nat → EK} {nx : EK} {ls : List (Option EV)} {st : List EV} {M : EM} {nc ns : Nat} (h : s_ldI i A J nx ls st M nc ns) : ∃ w : Int32, lget ls i = some (.inl w) ∧ nx ls ((.inl w) :: st) M nc ns := by
  unfold s_ldI at h
  split at h
  · rename_i w hw
    exact ⟨w, hw, h⟩
  · exact h.elim
theorem r_iload_n (X : Cx p l g σ R s m args meth c own) {k : Fin 4} {i : Nat} (hi : (k : Nat) = i) (hd : decode (gcc σ) pc = .ok (.iload_n k, 1)) (hn : pc + 1 = np) : RowOk p l e g σ R s m args below meth c ex M0 Q pc np (s_ldI i) := by
  intro J hJ ls st M nc ns h
  subst hn
  obtain ⟨w, hw, h⟩ := i_ldI h
  intro H locs lsM hl ok le vl vs hS hF
  exact lv_iload_n X.1 X.2.1 hd hi (e_lv hl hw) (hJ _ _ _ _ _ _ h H locs lsM hl ok le vl ⟨e_allL_get vl hw, vs⟩ hS hF)
theorem r_iload (X : Cx p l g σ R s m args meth c own) {i : Nat} (hd : decode (gcc σ) pc = .ok (.iload i, 2)) (hn : pc + 2 = np) : RowOk p l e g σ R s m args below meth c ex M0 Q pc np (s_ldI i) := by
  intro J hJ ls st M nc ns h
  subst hn
  obtain ⟨w, hw, h⟩ := i_ldI h
  intro H locs lsM hl ok le vl vs hS hF
  exact lv_iload X.1 X.2.1 hd (e_lv hl hw) (hJ _ _ _ _ _ _ h H locs lsM hl ok le vl ⟨e_allL_get vl hw, vs⟩ hS hF)
def s_ldL (i : Nat) : ES := fun _ _ nx ls st M nc ns => match lget ls i with
  | some (.inr (.inl w)) => nx ls ((.inr (.inl w)) :: st) M nc ns
  | _ => False
theorem i_ldL {i : Nat} {A : EO → EM → Nat → Nat → Prop} {J : Nat → EK} {nx : EK} {ls : List (Option EV)} {st : List EV} {M : EM} {nc ns : Nat} (h : s_ldL i A J nx ls st M nc ns) : ∃ w : Int64, lget ls i = some (.inr (.inl w)) ∧ nx ls ((.inr (.inl w)) :: st) M nc ns := by
  unfold s_ldL at h
  split at h
  · rename_i w hw
    exact ⟨w, hw, h⟩
  · exact h.elim
theorem r_lload_n (X : Cx p l g σ R s m args meth c own) {k : Fin 4} {i : Nat} (hi : (k : Nat) = i) (hd : decode (gcc σ) pc = .ok (.lload_n k, 1)) (hn : pc + 1 = np) : RowOk p l e g σ R s m args below meth c ex M0 Q pc np (s_ldL i) := by
  intro J hJ ls st M nc ns h
  subst hn
  obtain ⟨w, hw, h⟩ := i_ldL h
  intro H locs lsM hl ok le vl vs hS hF
  exact lv_lload_n X.1 X.2.1 hd hi (e_lv hl hw) (hJ _ _ _ _ _ _ h H locs lsM hl ok le vl ⟨e_allL_get vl hw, vs⟩ hS hF)
theorem r_lload (X : Cx p l g σ R s m args meth c own) {i : Nat} (hd : decode (gcc σ) pc = .ok (.lload i, 2)) (hn : pc + 2 = np) : RowOk p l e g σ R s m args below meth c ex M0 Q pc np (s_ldL i) := by
  intro J hJ ls st M nc ns h
  subst hn
  obtain ⟨w, hw, h⟩ := i_ldL h
  intro H locs lsM hl ok le vl vs hS hF
  exact lv_lload X.1 X.2.1 hd (e_lv hl hw) (hJ _ _ _ _ _ _ h H locs lsM hl ok le vl ⟨e_allL_get vl hw, vs⟩ hS hF)
def s_ldF (i : Nat) : ES := fun _ _ nx ls st M nc ns => match lget ls i with
  | some (.inr (.inr (.inl w))) => nx ls ((.inr (.inr (.inl w))) :: st) M nc ns
  | _ => False
theorem i_ldF {i : Nat} {A : EO → EM → Nat → Nat → Prop} {J : Nat → EK} {nx : EK} {ls : List (Option EV)} {st : List EV} {M : EM} {nc ns : Nat} (h : s_ldF i A J nx ls st M nc ns) : ∃ w : UInt32, lget ls i = some (.inr (.inr (.inl w))) ∧ nx ls ((.inr (.inr (.inl w))) :: st) M nc ns := by
  unfold s_ldF at h
  split at h
  · rename_i w hw
    exact ⟨w, hw, h⟩
  · exact h.elim
theorem r_fload_n (X : Cx p l g σ R s m args meth c own) {k : Fin 4} {i : Nat} (hi : (k : Nat) = i) (hd : decode (gcc σ) pc = .ok (.fload_n k, 1)) (hn : pc + 1 = np) : RowOk p l e g σ R s m args below meth c ex M0 Q pc np (s_ldF i) := by
  intro J hJ ls st M nc ns h
  subst hn
  obtain ⟨w, hw, h⟩ := i_ldF h
  intro H locs lsM hl ok le vl vs hS hF
  exact lv_fload_n X.1 X.2.1 hd hi (e_lv hl hw) (hJ _ _ _ _ _ _ h H locs lsM hl ok le vl ⟨e_allL_get vl hw, vs⟩ hS hF)
theorem r_fload (X : Cx p l g σ R s m args meth c own) {i : Nat} (hd : decode (gcc σ) pc = .ok (.fload i, 2)) (hn : pc + 2 = np) : RowOk p l e g σ R s m args below meth c ex M0 Q pc np (s_ldF i) := by
  intro J hJ ls st M nc ns h
  subst hn
  obtain ⟨w, hw, h⟩ := i_ldF h
  intro H locs lsM hl ok le vl vs hS hF
  exact lv_fload X.1 X.2.1 hd (e_lv hl hw) (hJ _ _ _ _ _ _ h H locs lsM hl ok le vl ⟨e_allL_get vl hw, vs⟩ hS hF)
def s_ldP (i : Nat) : ES := fun _ _ nx ls st M nc ns => match lget ls i with
  | some (.inr (.inr (.inr (.inr w)))) => nx ls ((.inr (.inr (.inr (.inr w)))) :: st) M nc ns
  | _ => False
theorem i_ldP {i : Nat} {A : EO → EM → Nat → Nat → Prop} {J : Nat → EK} {nx : EK} {ls : List (Option EV)} {st : List EV} {M : EM} {nc ns : Nat} (h : s_ldP i A J nx ls st M nc ns) : ∃ w : Nat × Nat, lget ls i = some (.inr (.inr (.inr (.inr w)))) ∧ nx ls ((.inr (.inr (.inr (.inr w)))) :: st) M nc ns := by
  unfold s_ldP at h
  split at h
  · rename_i w hw
    exact ⟨w, hw, h⟩
  · exact h.elim
theorem r_aload_n (X : Cx p l g σ R s m args meth c own) {k : Fin 4} {i : Nat} (hi : (k : Nat) = i) (hd : decode (gcc σ) pc = .ok (.aload_n k, 1)) (hn : pc + 1 = np) : RowOk p l e g σ R s m args below meth c ex M0 Q pc np (s_ldP i) := by
  intro J hJ ls st M nc ns h
  subst hn
  obtain ⟨w, hw, h⟩ := i_ldP h
  intro H locs lsM hl ok le vl vs hS hF
  exact lv_aload_n X.1 X.2.1 hd hi (e_lv hl hw) (hJ _ _ _ _ _ _ h H locs lsM hl ok le vl ⟨e_allL_get vl hw, vs⟩ hS hF)
theorem r_aload (X : Cx p l g σ R s m args meth c own) {i : Nat} (hd : decode (gcc σ) pc = .ok (.aload i, 2)) (hn : pc + 2 = np) : RowOk p l e g σ R s m args below meth c ex M0 Q pc np (s_ldP i) := by
  intro J hJ ls st M nc ns h
  subst hn
  obtain ⟨w, hw, h⟩ := i_ldP h
  intro H locs lsM hl ok le vl vs hS hF
  exact lv_aload X.1 X.2.1 hd (e_lv hl hw) (hJ _ _ _ _ _ _ h H locs lsM hl ok le vl ⟨e_allL_get vl hw, vs⟩ hS hF)
def s_stI (i : Nat) : ES := fun _ _ nx ls st M nc ns => match st with
  | (.inl w) :: r => nx (lset1 ls i (.inl w)) r M nc ns
  | _ => False
theorem i_stI {i : Nat} {A : EO → EM → Nat → Nat → Prop} {J : Nat → EK} {nx : EK} {ls : List (Option EV)} {st : List EV} {M : EM} {nc ns : Nat} (h : s_stI i A J nx ls st M nc ns) : ∃ (w : Int32) (r : List EV), st = (.inl w) :: r ∧ nx (lset1 ls i (.inl w)) r M nc ns := by
  unfold s_stI at h
  split at h
  · exact ⟨_, _, rfl, h⟩
  · exact h.elim
theorem r_istore_n (X : Cx p l g σ R s m args meth c own) {k : Fin 4} {i : Nat} (hi : (k : Nat) = i) (hd : decode (gcc σ) pc = .ok (.istore_n k, 1)) (hb : i < gml σ) (hn : pc + 1 = np) : RowOk p l e g σ R s m args below meth c ex M0 Q pc np (s_stI i) := by
  intro J hJ ls st M nc ns h
  subst hn
  obtain ⟨w, r, rfl, h⟩ := i_stI h
  intro H locs lsM hl ok le vl vs hS hF
  exact lv_istore_n X.1 X.2.1 hd hi hl hb rfl (fun lsM' hl' => hJ _ _ _ _ _ _ h H locs lsM' (e_has1 (v := .inl w) hl') ok le (e_allL_set1 (v := .inl w) vs.1 vl) vs.2 hS hF)
theorem r_istore (X : Cx p l g σ R s m args meth c own) {i : Nat} (hd : decode (gcc σ) pc = .ok (.istore i, 2)) (hb : i < gml σ) (hn : pc + 2 = np) : RowOk p l e g σ R s m args below meth c ex M0 Q pc np (s_stI i) := by
  intro J hJ ls st M nc ns h
  subst hn
  obtain ⟨w, r, rfl, h⟩ := i_stI h
  intro H locs lsM hl ok le vl vs hS hF
  exact lv_istore X.1 X.2.1 hd hl hb rfl (fun lsM' hl' => hJ _ _ _ _ _ _ h H locs lsM' (e_has1 (v := .inl w) hl') ok le (e_allL_set1 (v := .inl w) vs.1 vl) vs.2 hS hF)
def s_stL (i : Nat) : ES := fun _ _ nx ls st M nc ns => match st with
  | (.inr (.inl w)) :: r => nx (lset2 ls i (.inr (.inl w))) r M nc ns
  | _ => False
theorem i_stL {i : Nat} {A : EO → EM → Nat → Nat → Prop} {J : Nat → EK} {nx : EK} {ls : List (Option EV)} {st : List EV} {M : EM} {nc ns : Nat} (h : s_stL i A J nx ls st M nc ns) : ∃ (w : Int64) (r : List EV), st = (.inr (.inl w)) :: r ∧ nx (lset2 ls i (.inr (.inl w))) r M nc ns := by
  unfold s_stL at h
  split at h
  · exact ⟨_, _, rfl, h⟩
  · exact h.elim
theorem r_lstore_n (X : Cx p l g σ R s m args meth c own) {k : Fin 4} {i : Nat} (hi : (k : Nat) = i) (hd : decode (gcc σ) pc = .ok (.lstore_n k, 1)) (hb : i + 1 < gml σ) (hn : pc + 1 = np) : RowOk p l e g σ R s m args below meth c ex M0 Q pc np (s_stL i) := by
  intro J hJ ls st M nc ns h
  subst hn
  obtain ⟨w, r, rfl, h⟩ := i_stL h
  intro H locs lsM hl ok le vl vs hS hF
  exact lv_lstore_n X.1 X.2.1 hd hi hl hb rfl (fun lsM' hl' => hJ _ _ _ _ _ _ h H locs lsM' (e_has2 (v := .inr (.inl w)) hl') ok le (e_allL_set2 (v := .inr (.inl w)) vs.1 vl) vs.2 hS hF)
theorem r_lstore (X : Cx p l g σ R s m args meth c own) {i : Nat} (hd : decode (gcc σ) pc = .ok (.lstore i, 2)) (hb : i + 1 < gml σ) (hn : pc + 2 = np) : RowOk p l e g σ R s m args below meth c ex M0 Q pc np (s_stL i) := by
  intro J hJ ls st M nc ns h
  subst hn
  obtain ⟨w, r, rfl, h⟩ := i_stL h
  intro H locs lsM hl ok le vl vs hS hF
  exact lv_lstore X.1 X.2.1 hd hl hb rfl (fun lsM' hl' => hJ _ _ _ _ _ _ h H locs lsM' (e_has2 (v := .inr (.inl w)) hl') ok le (e_allL_set2 (v := .inr (.inl w)) vs.1 vl) vs.2 hS hF)
def s_stF (i : Nat) : ES := fun _ _ nx ls st M nc ns => match st with
  | (.inr (.inr (.inl w))) :: r => nx (lset1 ls i (.inr (.inr (.inl w)))) r M nc ns
  | _ => False
theorem i_stF {i : Nat} {A : EO → EM → Nat → Nat → Prop} {J : Nat → EK} {nx : EK} {ls : List (Option EV)} {st : List EV} {M : EM} {nc ns : Nat} (h : s_stF i A J nx ls st M nc ns) : ∃ (w : UInt32) (r : List EV), st = (.inr (.inr (.inl w))) :: r ∧ nx (lset1 ls i (.inr (.inr (.inl w)))) r M nc ns := by
  unfold s_stF at h
  split at h
  · exact ⟨_, _, rfl, h⟩
  · exact h.elim
theorem r_fstore_n (X : Cx p l g σ R s m args meth c own) {k : Fin 4} {i : Nat} (hi : (k : Nat) = i) (hd : decode (gcc σ) pc = .ok (.fstore_n k, 1)) (hb : i < gml σ) (hn : pc + 1 = np) : RowOk p l e g σ R s m args below meth c ex M0 Q pc np (s_stF i) := by
  intro J hJ ls st M nc ns h
  subst hn
  obtain ⟨w, r, rfl, h⟩ := i_stF h
  intro H locs lsM hl ok le vl vs hS hF
  exact lv_fstore_n X.1 X.2.1 hd hi hl hb rfl (fun lsM' hl' => hJ _ _ _ _ _ _ h H locs lsM' (e_has1 (v := .inr (.inr (.inl w))) hl') ok le (e_allL_set1 (v := .inr (.inr (.inl w))) vs.1 vl) vs.2 hS hF)
theorem r_fstore (X : Cx p l g σ R s m args meth c own) {i : Nat} (hd : decode (gcc σ) pc = .ok (.fstore i, 2)) (hb : i < gml σ) (hn : pc + 2 = np) : RowOk p l e g σ R s m args below meth c ex M0 Q pc np (s_stF i) := by
  intro J hJ ls st M nc ns h
  subst hn
  obtain ⟨w, r, rfl, h⟩ := i_stF h
  intro H locs lsM hl ok le vl vs hS hF
  exact lv_fstore X.1 X.2.1 hd hl hb rfl (fun lsM' hl' => hJ _ _ _ _ _ _ h H locs lsM' (e_has1 (v := .inr (.inr (.inl w))) hl') ok le (e_allL_set1 (v := .inr (.inr (.inl w))) vs.1 vl) vs.2 hS hF)
def s_stP (i : Nat) : ES := fun _ _ nx ls st M nc ns => match st with
  | (.inr (.inr (.inr (.inr w)))) :: r => nx (lset1 ls i (.inr (.inr (.inr (.inr w))))) r M nc ns
  | _ => False
theorem i_stP {i : Nat} {A : EO → EM → Nat → Nat → Prop} {J : Nat → EK} {nx : EK} {ls : List (Option EV)} {st : List EV} {M : EM} {nc ns : Nat} (h : s_stP i A J nx ls st M nc ns) : ∃ (w : Nat × Nat) (r : List EV), st = (.inr (.inr (.inr (.inr w)))) :: r ∧ nx (lset1 ls i (.inr (.inr (.inr (.inr w))))) r M nc ns := by
  unfold s_stP at h
  split at h
  · exact ⟨_, _, rfl, h⟩
  · exact h.elim
theorem r_astore_n (X : Cx p l g σ R s m args meth c own) {k : Fin 4} {i : Nat} (hi : (k : Nat) = i) (hd : decode (gcc σ) pc = .ok (.astore_n k, 1)) (hb : i < gml σ) (hn : pc + 1 = np) : RowOk p l e g σ R s m args below meth c ex M0 Q pc np (s_stP i) := by
  intro J hJ ls st M nc ns h
  subst hn
  obtain ⟨w, r, rfl, h⟩ := i_stP h
  intro H locs lsM hl ok le vl vs hS hF
  exact lv_astore_n X.1 X.2.1 hd hi hl hb rfl (fun lsM' hl' => hJ _ _ _ _ _ _ h H locs lsM' (e_has1 (v := .inr (.inr (.inr (.inr w)))) hl') ok le (e_allL_set1 (v := .inr (.inr (.inr (.inr w)))) vs.1 vl) vs.2 hS hF)
theorem r_astore (X : Cx p l g σ R s m args meth c own) {i : Nat} (hd : decode (gcc σ) pc = .ok (.astore i, 2)) (hb : i < gml σ) (hn : pc + 2 = np) : RowOk p l e g σ R s m args below meth c ex M0 Q pc np (s_stP i) := by
  intro J hJ ls st M nc ns h
  subst hn
  obtain ⟨w, r, rfl, h⟩ := i_stP h
  intro H locs lsM hl ok le vl vs hS hF
  exact lv_astore X.1 X.2.1 hd hl hb rfl (fun lsM' hl' => hJ _ _ _ _ _ _ h H locs lsM' (e_has1 (v := .inr (.inr (.inr (.inr w)))) hl') ok le (e_allL_set1 (v := .inr (.inr (.inr (.inr w)))) vs.1 vl) vs.2 hS hF)
def s_iinc (i : Nat) (d : Int32) : ES := fun _ _ nx ls st M nc ns => match lget ls i with
  | some (.inl x) => nx (lset1 ls i (.inl (x + d))) st M nc ns
  | _ => False
theorem i_iinc {i : Nat} {d : Int32} {A : EO → EM → Nat → Nat → Prop} {J : Nat → EK} {nx : EK} {ls : List (Option EV)} {st : List EV} {M : EM} {nc ns : Nat} (h : s_iinc i d A J nx ls st M nc ns) : ∃ x : Int32, lget ls i = some (.inl x) ∧ nx (lset1 ls i (.inl (x + d))) st M nc ns := by
  unfold s_iinc at h
  split at h
  · rename_i w hw
    exact ⟨w, hw, h⟩
  · exact h.elim
theorem r_iinc (X : Cx p l g σ R s m args meth c own) {i : Nat} {n : Int} {d : Int32} (hd : decode (gcc σ) pc = .ok (.iinc i n, 3)) (hv : Int32.ofInt n = d) (hb : i < gml σ) (hn : pc + 3 = np) : RowOk p l e g σ R s m args below meth c ex M0 Q pc np (s_iinc i d) := by
  intro J hJ ls st M nc ns h
  subst hn
  obtain ⟨x, hw, h⟩ := i_iinc h
  intro H locs lsM hl ok le vl vs hS hF
  have hm := e_asc_get (k := 0) hw
  rw [Nat.zero_add] at hm
  obtain ⟨k, hk⟩ := List.getElem?_of_mem hm
  exact lv_iinc X.1 X.2.1 hd hl hk (v := x + d) (by rw [hv]) hb rfl (fun lsM' hl' => hJ _ _ _ _ _ _ h H locs lsM' (e_has1 (v := .inl (x + d)) hl') ok le (e_allL_set1 (v := .inl (x + d)) trivial vl) vs hS hF)
def e_c1 : EV → Bool
  | .inr (.inl _) => false
  | .inr (.inr (.inr (.inl _))) => false
  | _ => true
theorem e_c1_cat {v : EV} (h : e_c1 v = true) : (e_tv v).category = 1 := by
  rcases v with x | x | x | x | x <;> first | rfl | (cases h; done)
def s_dup : ES := fun _ _ nx ls st M nc ns => match st with
  | v :: r => match e_c1 v with
    | true => nx ls (v :: v :: r) M nc ns
    | false => False
  | _ => False
def s_pop : ES := fun _ _ nx ls st M nc ns => match st with
  | v :: r => match e_c1 v with
    | true => nx ls r M nc ns
    | false => False
  | _ => False
def s_dup2 : ES := fun _ _ nx ls st M nc ns => match st with
  | v :: w :: r => match e_c1 v, e_c1 w with
    | true, true => nx ls (v :: w :: v :: w :: r) M nc ns
    | _, _ => False
  | _ => False
theorem r_dup (X : Cx p l g σ R s m args meth c own) (hd : decode (gcc σ) pc = .ok (.dup, 1)) (hn : pc + 1 = np) : RowOk p l e g σ R s m args below meth c ex M0 Q pc np s_dup := by
  intro J hJ ls st M nc ns h
  subst hn
  unfold s_dup at h
  split at h
  · split at h
    · rename_i v r hc
      intro H locs lsM hl ok le vl vs hS hF
      exact lv_dup X.1 X.2.1 hd (e_c1_cat hc) (hJ _ _ _ _ _ _ h H locs lsM hl ok le vl ⟨vs.1, vs.1, vs.2⟩ hS hF)
    · exact h.elim
  · exact h.elim
theorem r_pop (X : Cx p l g σ R s m args meth c own) (hd : decode (gcc σ) pc = .ok (.pop, 1)) (hn : pc + 1 = np) : RowOk p l e g σ R s m args below meth c ex M0 Q pc np s_pop := by
  intro J hJ ls st M nc ns h
  subst hn
  unfold s_pop at h
  split at h
  · split at h
    · rename_i v r hc
      intro H locs lsM hl ok le vl vs hS hF
      exact lv_pop X.1 X.2.1 hd (e_c1_cat hc) (hJ _ _ _ _ _ _ h H locs lsM hl ok le vl vs.2 hS hF)
    · exact h.elim
  · exact h.elim
theorem r_dup2 (X : Cx p l g σ R s m args meth c own) (hd : decode (gcc σ) pc = .ok (.dup2, 1)) (hn : pc + 1 = np) : RowOk p l e g σ R s m args below meth c ex M0 Q pc np s_dup2 := by
  intro J hJ ls st M nc ns h
  subst hn
  unfold s_dup2 at h
  split at h
  · split at h
    · rename_i v w r hc hc2
      intro H locs lsM hl ok le vl vs hS hF
      exact lv_dup2_11 X.1 X.2.1 hd (e_c1_cat hc) (e_c1_cat hc2) (hJ _ _ _ _ _ _ h H locs lsM hl ok le vl ⟨vs.1, vs.2.1, vs.1, vs.2.1, vs.2.2⟩ hS hF)
    · exact h.elim
  · exact h.elim
def s_goto (t : Nat) : ES := fun _ J _ ls st M nc ns => J t ls st M nc ns
theorem r_goto (X : Cx p l g σ R s m args meth c own) {off : Int} {t : Nat} (hd : decode (gcc σ) pc = .ok (.goto off, 3)) (ht : (pc : Int) + off = (t : Int)) : RowOk p l e g σ R s m args below meth c ex M0 Q pc np (s_goto t) := by
  intro J hJ ls st M nc ns h H locs lsM hl ok le vl vs hS hF
  exact lv_goto X.1 X.2.1 hd ht (hJ _ _ _ _ _ _ h H locs lsM hl ok le vl vs hS hF)
def s_if_eq (t : Nat) : ES := fun _ J nx ls st M nc ns => match st with
  | .inl x :: r => (x = 0 → J t ls r M nc ns) ∧ (¬ x = 0 → nx ls r M nc ns)
  | _ => False
theorem r_if_eq (X : Cx p l g σ R s m args meth c own) {off : Int} {t : Nat} (hd : decode (gcc σ) pc = .ok (.ifCond .eq off, 3)) (ht : (pc : Int) + off = (t : Int)) (hn : pc + 3 = np) : RowOk p l e g σ R s m args below meth c ex M0 Q pc np (s_if_eq t) := by
  intro J hJ ls st M nc ns h
  subst hn
  unfold s_if_eq at h
  split at h
  · intro H locs lsM hl ok le vl vs hS hF
    exact lv_if_eq X.1 X.2.1 hd ht (fun q => hJ _ _ _ _ _ _ (h.1 q) H locs lsM hl ok le vl vs.2 hS hF) (fun q => hJ _ _ _ _ _ _ (h.2 q) H locs lsM hl ok le vl vs.2 hS hF)
  · exact h.elim
def s_icmp_eq (t : Nat) : ES := fun _ J nx ls st M nc ns => match st with
  | .inl y :: .inl x :: r => (x = y → J t ls r M nc ns) ∧ (¬ x = y → nx ls r M nc ns)
  | _ => False
theorem r_icmp_eq (X : Cx p l g σ R s m args meth c own) {off : Int} {t : Nat} (hd : decode (gcc σ) pc = .ok (.if_icmp .eq off, 3)) (ht : (pc : Int) + off = (t : Int)) (hn : pc + 3 = np) : RowOk p l e g σ R s m args below meth c ex M0 Q pc np (s_icmp_eq t) := by
  intro J hJ ls st M nc ns h
  subst hn
  unfold s_icmp_eq at h
  split at h
  · intro H locs lsM hl ok le vl vs hS hF
    exact lv_icmp_eq X.1 X.2.1 hd ht (fun q => hJ _ _ _ _ _ _ (h.1 q) H locs lsM hl ok le vl vs.2.2 hS hF) (fun q => hJ _ _ _ _ _ _ (h.2 q) H locs lsM hl ok le vl vs.2.2 hS hF)
  · exact h.elim
def s_if_ne (t : Nat) : ES := fun _ J nx ls st M nc ns => match st with
  | .inl x :: r => (¬ x = 0 → J t ls r M nc ns) ∧ (x = 0 → nx ls r M nc ns)
  | _ => False
theorem r_if_ne (X : Cx p l g σ R s m args meth c own) {off : Int} {t : Nat} (hd : decode (gcc σ) pc = .ok (.ifCond .ne off, 3)) (ht : (pc : Int) + off = (t : Int)) (hn : pc + 3 = np) : RowOk p l e g σ R s m args below meth c ex M0 Q pc np (s_if_ne t) := by
  intro J hJ ls st M nc ns h
  subst hn
  unfold s_if_ne at h
  split at h
  · intro H locs lsM hl ok le vl vs hS hF
    exact lv_if_ne X.1 X.2.1 hd ht (fun q => hJ _ _ _ _ _ _ (h.1 q) H locs lsM hl ok le vl vs.2 hS hF) (fun q => hJ _ _ _ _ _ _ (h.2 q) H locs lsM hl ok le vl vs.2 hS hF)
  · exact h.elim
def s_icmp_ne (t : Nat) : ES := fun _ J nx ls st M nc ns => match st with
  | .inl y :: .inl x :: r => (¬ x = y → J t ls r M nc ns) ∧ (x = y → nx ls r M nc ns)
  | _ => False
theorem r_icmp_ne (X : Cx p l g σ R s m args meth c own) {off : Int} {t : Nat} (hd : decode (gcc σ) pc = .ok (.if_icmp .ne off, 3)) (ht : (pc : Int) + off = (t : Int)) (hn : pc + 3 = np) : RowOk p l e g σ R s m args below meth c ex M0 Q pc np (s_icmp_ne t) := by
  intro J hJ ls st M nc ns h
  subst hn
  unfold s_icmp_ne at h
  split at h
  · intro H locs lsM hl ok le vl vs hS hF
    exact lv_icmp_ne X.1 X.2.1 hd ht (fun q => hJ _ _ _ _ _ _ (h.1 q) H locs lsM hl ok le vl vs.2.2 hS hF) (fun q => hJ _ _ _ _ _ _ (h.2 q) H locs lsM hl ok le vl vs.2.2 hS hF)
  · exact h.elim
def s_if_lt (t : Nat) : ES := fun _ J nx ls st M nc ns => match st with
  | .inl x :: r => (x < 0 → J t ls r M nc ns) ∧ (¬ x < 0 → nx ls r M nc ns)
  | _ => False
theorem r_if_lt (X : Cx p l g σ R s m args meth c own) {off : Int} {t : Nat} (hd : decode (gcc σ) pc = .ok (.ifCond .lt off, 3)) (ht : (pc : Int) + off = (t : Int)) (hn : pc + 3 = np) : RowOk p l e g σ R s m args below meth c ex M0 Q pc np (s_if_lt t) := by
  intro J hJ ls st M nc ns h
  subst hn
  unfold s_if_lt at h
  split at h
  · intro H locs lsM hl ok le vl vs hS hF
    exact lv_if_lt X.1 X.2.1 hd ht (fun q => hJ _ _ _ _ _ _ (h.1 q) H locs lsM hl ok le vl vs.2 hS hF) (fun q => hJ _ _ _ _ _ _ (h.2 q) H locs lsM hl ok le vl vs.2 hS hF)
  · exact h.elim
def s_icmp_lt (t : Nat) : ES := fun _ J nx ls st M nc ns => match st with
  | .inl y :: .inl x :: r => (x < y → J t ls r M nc ns) ∧ (¬ x < y → nx ls r M nc ns)
  | _ => False
theorem r_icmp_lt (X : Cx p l g σ R s m args meth c own) {off : Int} {t : Nat} (hd : decode (gcc σ) pc = .ok (.if_icmp .lt off, 3)) (ht : (pc : Int) + off = (t : Int)) (hn : pc + 3 = np) : RowOk p l e g σ R s m args below meth c ex M0 Q pc np (s_icmp_lt t) := by
  intro J hJ ls st M nc ns h
  subst hn
  unfold s_icmp_lt at h
  split at h
  · intro H locs lsM hl ok le vl vs hS hF
    exact lv_icmp_lt X.1 X.2.1 hd ht (fun q => hJ _ _ _ _ _ _ (h.1 q) H locs lsM hl ok le vl vs.2.2 hS hF) (fun q => hJ _ _ _ _ _ _ (h.2 q) H locs lsM hl ok le vl vs.2.2 hS hF)
  · exact h.elim
def s_if_ge (t : Nat) : ES := fun _ J nx ls st M nc ns => match st with
  | .inl x :: r => (0 ≤ x → J t ls r M nc ns) ∧ (¬ 0 ≤ x → nx ls r M nc ns)
  | _ => False
theorem r_if_ge (X : Cx p l g σ R s m args meth c own) {off : Int} {t : Nat} (hd : decode (gcc σ) pc = .ok (.ifCond .ge off, 3)) (ht : (pc : Int) + off = (t : Int)) (hn : pc + 3 = np) : RowOk p l e g σ R s m args below meth c ex M0 Q pc np (s_if_ge t) := by
  intro J hJ ls st M nc ns h
  subst hn
  unfold s_if_ge at h
  split at h
  · intro H locs lsM hl ok le vl vs hS hF
    exact lv_if_ge X.1 X.2.1 hd ht (fun q => hJ _ _ _ _ _ _ (h.1 q) H locs lsM hl ok le vl vs.2 hS hF) (fun q => hJ _ _ _ _ _ _ (h.2 q) H locs lsM hl ok le vl vs.2 hS hF)
  · exact h.elim
def s_icmp_ge (t : Nat) : ES := fun _ J nx ls st M nc ns => match st with
  | .inl y :: .inl x :: r => (y ≤ x → J t ls r M nc ns) ∧ (¬ y ≤ x → nx ls r M nc ns)
  | _ => False
theorem r_icmp_ge (X : Cx p l g σ R s m args meth c own) {off : Int} {t : Nat} (hd : decode (gcc σ) pc = .ok (.if_icmp .ge off, 3)) (ht : (pc : Int) + off = (t : Int)) (hn : pc + 3 = np) : RowOk p l e g σ R s m args below meth c ex M0 Q pc np (s_icmp_ge t) := by
  intro J hJ ls st M nc ns h
  subst hn
  unfold s_icmp_ge at h
  split at h
  · intro H locs lsM hl ok le vl vs hS hF
    exact lv_icmp_ge X.1 X.2.1 hd ht (fun q => hJ _ _ _ _ _ _ (h.1 q) H locs lsM hl ok le vl vs.2.2 hS hF) (fun q => hJ _ _ _ _ _ _ (h.2 q) H locs lsM hl ok le vl vs.2.2 hS hF)
  · exact h.elim
def s_if_gt (t : Nat) : ES := fun _ J nx ls st M nc ns => match st with
  | .inl x :: r => (0 < x → J t ls r M nc ns) ∧ (¬ 0 < x → nx ls r M nc ns)
  | _ => False
theorem r_if_gt (X : Cx p l g σ R s m args meth c own) {off : Int} {t : Nat} (hd : decode (gcc σ) pc = .ok (.ifCond .gt off, 3)) (ht : (pc : Int) + off = (t : Int)) (hn : pc + 3 = np) : RowOk p l e g σ R s m args below meth c ex M0 Q pc np (s_if_gt t) := by
  intro J hJ ls st M nc ns h
  subst hn
  unfold s_if_gt at h
  split at h
  · intro H locs lsM hl ok le vl vs hS hF
    exact lv_if_gt X.1 X.2.1 hd ht (fun q => hJ _ _ _ _ _ _ (h.1 q) H locs lsM hl ok le vl vs.2 hS hF) (fun q => hJ _ _ _ _ _ _ (h.2 q) H locs lsM hl ok le vl vs.2 hS hF)
  · exact h.elim
def s_icmp_gt (t : Nat) : ES := fun _ J nx ls st M nc ns => match st with
  | .inl y :: .inl x :: r => (y < x → J t ls r M nc ns) ∧ (¬ y < x → nx ls r M nc ns)
  | _ => False
theorem r_icmp_gt (X : Cx p l g σ R s m args meth c own) {off : Int} {t : Nat} (hd : decode (gcc σ) pc = .ok (.if_icmp .gt off, 3)) (ht : (pc : Int) + off = (t : Int)) (hn : pc + 3 = np) : RowOk p l e g σ R s m args below meth c ex M0 Q pc np (s_icmp_gt t) := by
  intro J hJ ls st M nc ns h
  subst hn
  unfold s_icmp_gt at h
  split at h
  · intro H locs lsM hl ok le vl vs hS hF
    exact lv_icmp_gt X.1 X.2.1 hd ht (fun q => hJ _ _ _ _ _ _ (h.1 q) H locs lsM hl ok le vl vs.2.2 hS hF) (fun q => hJ _ _ _ _ _ _ (h.2 q) H locs lsM hl ok le vl vs.2.2 hS hF)
  · exact h.elim
def s_if_le (t : Nat) : ES := fun _ J nx ls st M nc ns => match st with
  | .inl x :: r => (x ≤ 0 → J t ls r M nc ns) ∧ (¬ x ≤ 0 → nx ls r M nc ns)
  | _ => False
theorem r_if_le (X : Cx p l g σ R s m args meth c own) {off : Int} {t : Nat} (hd : decode (gcc σ) pc = .ok (.ifCond .le off, 3)) (ht : (pc : Int) + off = (t : Int)) (hn : pc + 3 = np) : RowOk p l e g σ R s m args below meth c ex M0 Q pc np (s_if_le t) := by
  intro J hJ ls st M nc ns h
  subst hn
  unfold s_if_le at h
  split at h
  · intro H locs lsM hl ok le vl vs hS hF
    exact lv_if_le X.1 X.2.1 hd ht (fun q => hJ _ _ _ _ _ _ (h.1 q) H locs lsM hl ok le vl vs.2 hS hF) (fun q => hJ _ _ _ _ _ _ (h.2 q) H locs lsM hl ok le vl vs.2 hS hF)
  · exact h.elim
def s_icmp_le (t : Nat) : ES := fun _ J nx ls st M nc ns => match st with
  | .inl y :: .inl x :: r => (x ≤ y → J t ls r M nc ns) ∧ (¬ x ≤ y → nx ls r M nc ns)
  | _ => False
theorem r_icmp_le (X : Cx p l g σ R s m args meth c own) {off : Int} {t : Nat} (hd : decode (gcc σ) pc = .ok (.if_icmp .le off, 3)) (ht : (pc : Int) + off = (t : Int)) (hn : pc + 3 = np) : RowOk p l e g σ R s m args below meth c ex M0 Q pc np (s_icmp_le t) := by
  intro J hJ ls st M nc ns h
  subst hn
  unfold s_icmp_le at h
  split at h
  · intro H locs lsM hl ok le vl vs hS hF
    exact lv_icmp_le X.1 X.2.1 hd ht (fun q => hJ _ _ _ _ _ _ (h.1 q) H locs lsM hl ok le vl vs.2.2 hS hF) (fun q => hJ _ _ _ _ _ _ (h.2 q) H locs lsM hl ok le vl vs.2.2 hS hF)
  · exact h.elim
/-- a switch: x in order against low, low + 1 .. -/
def e_sw (J : Nat → EK) (dt : Nat) (ls : List (Option EV)) (r : List EV) (M : EM) (nc ns : Nat) (x : Int32) : Int → List Nat → Prop
  | lo, [] => (x.toInt < lo → True) → J dt ls r M nc ns
  | lo, t :: ts => (x.toInt = lo → J t ls r M nc ns) ∧ (¬ x.toInt = lo → e_sw J dt ls r M nc ns x (lo + 1) ts)
theorem e_sw_in {J : Nat → EK} {dt : Nat} {ls : List (Option EV)} {r : List EV} {M : EM} {nc ns : Nat} {x : Int32} : ∀ {ts : List Nat} {lo : Int} {i t : Nat}, e_sw J dt ls r M nc ns x lo ts → x.toInt = lo + i → ts[i]? = some t → J t ls r M nc ns
  | [], _, _, _, _, _, h => by simp at h
  | t :: ts, lo, 0, t', h, hx, ht => by
    simp at ht hx
    subst ht
    exact h.1 hx
  | t :: ts, lo, i + 1, t', h, hx, ht => by
    have h1 : ¬ x.toInt = lo := by omega
    exact e_sw_in (ts := ts) (i := i) (h.2 h1) (by omega) (by simpa using ht)
theorem e_sw_out {J : Nat → EK} {dt : Nat} {ls : List (Option EV)} {r : List EV} {M : EM} {nc ns : Nat} {x : Int32} : ∀ {ts : List Nat} {lo : Int}, e_sw J dt ls r M nc ns x lo ts → (x.toInt < lo ∨ lo + ts.length ≤ x.toInt) → J dt ls r M nc ns
  | [], _, h, _ => h (fun _ => trivial)
  | t :: ts, lo, h, hx => by
    simp only [List.length_cons] at hx
    have h1 : ¬ x.toInt = lo := by omega
    exact e_sw_out (ts := ts) (h.2 h1) (by omega)
def s_tab (lo : Int) (ts : List Nat) (dt : Nat) : ES := fun _ J _ ls st M nc ns => match st with
  | .inl x :: r => e_sw J dt ls r M nc ns x lo ts
  | _ => False
theorem r_tab (X : Cx p l g σ R s m args meth c own) {dflt lo hi : Int} {offs : Array Int} {len : Nat} {ts : List Nat} {dt : Nat} (hd : decode (gcc σ) pc = .ok (.tableswitch dflt lo hi offs, len)) (h1 : lo + ts.length = hi + 1) (h2 : offs.toList = ts.map (fun t : Nat => (t : Int) - (pc : Int))) (h3 : (pc : Int) + dflt = (dt : Int)) : RowOk p l e g σ R s m args below meth c ex M0 Q pc np (s_tab lo ts dt) := by
  intro J hJ ls st M nc ns h
  unfold s_tab at h
  split at h
  · rename_i x r
    intro H locs lsM hl ok le vl vs hS hF
    by_cases hx : x.toInt < lo ∨ hi < x.toInt
    · exact lv_tableOut X.1 X.2.1 hd hx h3 (hJ _ _ _ _ _ _ (e_sw_out h (by omega)) H locs lsM hl ok le vl vs.2 hS hF)
    · have hlt : (x.toInt - lo).toNat < ts.length := by omega
      obtain ⟨t, ht⟩ : ∃ t, ts[(x.toInt - lo).toNat]? = some t := ⟨_, List.getElem?_eq_getElem hlt⟩
      exact lv_tableIn X.1 X.2.1 hd (fun q => hx (Or.inl q)) (fun q => hx (Or.inr q)) (off := (t : Int) - (pc : Int)) (by rw [← Array.getElem?_toList, h2, List.getElem?_map, ht]; rfl) (by omega) (hJ _ _ _ _ _ _ (e_sw_in h (by omega) ht) H locs lsM hl ok le vl vs.2 hS hF)
  · exact h.elim
end RW
