/-! THE ENGINE, 9: texts; the one exception whose class links its parent by another number. -/
section RS
variable {p : Program} {l : Launch} {e : Env} {g : EG} {σ : SG} {R : Room} {s : State} {m : MethodId} {args : Array Value} {below : List Frame} {meth : Method} {c : Code} {ex : Option Nat} {M0 : EM} {Q : EO → EM → Prop} {own : String} {pc np : Nat}
/-- a text constant, by its place in e_txt -/
def s_str (k : Nat) : ES := fun _ _ nx ls st M nc ns => ∀ a, nx ls (.inr (.inr (.inr (.inr (200 + k, a)))) :: st) M nc ns
theorem r_str (X : Cx p l g σ R s m args meth c own) {k is : Nat} {x : String × Nat × String} (hd : decode (gcc σ) pc = .ok (.ldc is, 2)) (hx : e_txt[k]? = some x) (hxx : (x.1 = own ∧ x.2.1 = is) ∧ k < 16) (hn : pc + 2 = np) : RowOk p l e g σ R s m args below meth c ex M0 Q pc np (s_str k) := by
  intro J hJ ls st M nc ns h
  subst hn
  obtain ⟨⟨rfl, rfl⟩, hk⟩ := hxx
  intro H locs lsM hl ok le vl vs hS hF
  have hG := X.2.2.2.2.2.2.1
  exact va_ldcS X.1 X.2.1 X.2.2.2.2.1 (hG.2.2.2.2.2.2.2.2.2.1 k x hx) hd (hJ _ _ _ _ _ _ (h (gS g k)) H locs lsM hl ok le vl ⟨Or.inr (Or.inr (Or.inl ⟨Nat.le_add_right _ _, by show 200 + k < 217; omega, by show gS g k = gS g (200 + k - 200); rw [Nat.add_sub_cancel_left]⟩)), vs⟩ hS hF)
/-- length() of a text constant -/
def s_slen : ES := fun _ _ nx ls st M nc ns => match st with
  | .inr (.inr (.inr (.inr q))) :: r => match Nat.ble 200 q.1 && (Nat.ble q.1 215 && Nat.ble (e_wt r) 8) with
    | true => nx ls (.inl (nI (e_len.getD (q.1 - 200) 0)) :: r) M nc ns
    | false => False
  | _ => False
/-- charAt(k) of a text constant -/
def s_schr : ES := fun _ _ nx ls st M nc ns => match st with
  | .inl i :: .inr (.inr (.inr (.inr q))) :: r => match Nat.ble 200 q.1 && (Nat.ble q.1 215 && Nat.ble (e_wt r) 8) with
    | true => vp_in i (e_len.getD (q.1 - 200) 0) ∧ nx ls (.inl ((e_byt.getD (q.1 - 200) []).getD i.toNatClampNeg 0) :: r) M nc ns
    | false => False
  | _ => False
theorem r_slen (X : Cx p l g σ R s m args meth c own) {index : Nat} (hd : decode (gcc σ) pc = .ok (.invokevirtual index, 3)) (hlk : Cond.methodLink own index ⟨"java/lang/String", "length", "()I"⟩ ∈ e_good) (hR : 6 ≤ gfr σ ∧ 120 ≤ glo σ) (hn : pc + 3 = np) : RowOk p l e g σ R s m args below meth c ex M0 Q pc np s_slen := by
  sorry
theorem r_schr (X : Cx p l g σ R s m args meth c own) {index : Nat} (hd : decode (gcc σ) pc = .ok (.invokevirtual index, 3)) (hlk : Cond.methodLink own index ⟨"java/lang/String", "charAt", "(I)C"⟩ ∈ e_good) (hR : 6 ≤ gfr σ ∧ 120 ≤ glo σ) (hn : pc + 3 = np) : RowOk p l e g σ R s m args below meth c ex M0 Q pc np s_schr := by
  sorry
theorem e_throwN (X : Cx p l g σ R s m args meth c own) (hl0 : l.stackTraces = false) (hh : ghh σ = []) {text : String} {ik is ic k : Nat} {x : String × Nat × String} (hk : Cond.classLink own ik "java/util/NoSuchElementException" ∈ e_good) (hini : Cond.initialized "java/util/NoSuchElementException" ∈ e_good) (hlk : Cond.methodLink own ic ⟨"java/util/NoSuchElementException", "<init>", "(Ljava/lang/String;)V"⟩ ∈ e_good) (hx : e_txt[k]? = some x) (hxx : x = (own, is, text)) (hR : 6 ≤ gfr σ ∧ 90 ≤ glo σ)
    (hd : (decode (gcc σ) pc = .ok (.new ik, 3) ∧ decode (gcc σ) (pc + 3) = .ok (.dup, 1)) ∧ ((decode (gcc σ) (pc + 4) = .ok (.ldc is, 2) ∧ decode (gcc σ) (pc + 6) = .ok (.invokespecial ic, 3) ∧ decode (gcc σ) (pc + 9) = .ok (.athrow, 1)) ∨ (decode (gcc σ) (pc + 4) = .ok (.ldc_w is, 3) ∧ decode (gcc σ) (pc + 7) = .ok (.invokespecial ic, 3) ∧ decode (gcc σ) (pc + 10) = .ok (.athrow, 1)))) :
    RowOk p l e g σ R s m args below meth c ex M0 Q pc np (s_throw σ "java/util/NoSuchElementException") := by
  sorry

def s_mmax (σ : SG) : ES := fun _ _ nx ls st M nc ns => match st with
  | .inl y :: .inl x :: r => match Nat.ble (e_wt r) 8 && (Nat.ble nc (gmc σ) && Nat.ble ns (gms σ)) with
    | true => nx ls (.inl (if x < y then y else x) :: r) M nc ns
    | false => False
  | _ => False
theorem r_mmax (X : Cx p l g σ R s m args meth c own) {index : Nat} (hd : decode (gcc σ) pc = .ok (.invokestatic index, 3)) (hlk : Cond.methodLink own index Lib.Math.max.name ∈ e_good) (hst : Cond.static Lib.Math.max.name ∈ e_good) (hin : Cond.initialized "java/lang/Math" ∈ e_good) (hco : Cond.code Lib.Math.max.name Lib.Math.max.code 2 (some .int) ∈ e_good) (hR : 1 ≤ gfr σ ∧ 22 ≤ glo σ) (hn : pc + 3 = np) : RowOk p l e g σ R s m args below meth c ex M0 Q pc np (s_mmax σ) := by
  intro J hJ ls st M nc ns h
  subst hn
  unfold s_mmax at h
  split at h
  · split at h
    · rename_i y x r z hb
      simp only [Bool.and_eq_true] at hb
      intro H locs lsM hl ok le vl vs hS hF
      have hG := X.2.2.2.2.2.2.1
      have hRR := X.2.2.2.2.2.2.2.1
      have hw' := Nat.le_of_ble_eq_true hb.1
      have hc' := Nat.le_of_ble_eq_true hb.2.1
      have hs' := Nat.le_of_ble_eq_true hb.2.2
      have hw2 := e_wt_le (r := r)
      have e1 : (grm σ).locals = glo σ := rfl
      have e2 : (grm σ).frames = gfr σ := rfl
      exact va_mmax X.1 X.2.1 (X.2.2.2.1.trans hl.1.symm) X.2.2.2.2.1 (e_wd0 hG hlk) (e_wd0 hG hst) (e_wd0 hG hin) (e_wd0 hG hco) (by rw [hRR]; omega) (by rw [hRR]; omega) (by rw [hRR]; exact hc') (by rw [hRR]; exact hs') hd (hJ _ _ _ _ _ _ h H locs lsM hl ok le vl ⟨trivial, vs.2.2⟩ hS hF)
    · exact h.elim
  · exact h.elim

def s_mmin (σ : SG) : ES := fun _ _ nx ls st M nc ns => match st with
  | .inl y :: .inl x :: r => match Nat.ble (e_wt r) 8 && (Nat.ble nc (gmc σ) && Nat.ble ns (gms σ)) with
    | true => nx ls (.inl (if y < x then y else x) :: r) M nc ns
    | false => False
  | _ => False
theorem r_mmin (X : Cx p l g σ R s m args meth c own) {index : Nat} (hd : decode (gcc σ) pc = .ok (.invokestatic index, 3)) (hlk : Cond.methodLink own index Lib.Math.min.name ∈ e_good) (hst : Cond.static Lib.Math.min.name ∈ e_good) (hin : Cond.initialized "java/lang/Math" ∈ e_good) (hco : Cond.code Lib.Math.min.name Lib.Math.min.code 2 (some .int) ∈ e_good) (hR : 1 ≤ gfr σ ∧ 22 ≤ glo σ) (hn : pc + 3 = np) : RowOk p l e g σ R s m args below meth c ex M0 Q pc np (s_mmin σ) := by
  intro J hJ ls st M nc ns h
  subst hn
  unfold s_mmin at h
  split at h
  · split at h
    · rename_i y x r z hb
      simp only [Bool.and_eq_true] at hb
      intro H locs lsM hl ok le vl vs hS hF
      have hG := X.2.2.2.2.2.2.1
      have hRR := X.2.2.2.2.2.2.2.1
      have hw' := Nat.le_of_ble_eq_true hb.1
      have hc' := Nat.le_of_ble_eq_true hb.2.1
      have hs' := Nat.le_of_ble_eq_true hb.2.2
      have hw2 := e_wt_le (r := r)
      have e1 : (grm σ).locals = glo σ := rfl
      have e2 : (grm σ).frames = gfr σ := rfl
      exact va_mmin X.1 X.2.1 (X.2.2.2.1.trans hl.1.symm) X.2.2.2.2.1 (e_wd0 hG hlk) (e_wd0 hG hst) (e_wd0 hG hin) (e_wd0 hG hco) (by rw [hRR]; omega) (by rw [hRR]; omega) (by rw [hRR]; exact hc') (by rw [hRR]; exact hs') hd (hJ _ _ _ _ _ _ h H locs lsM hl ok le vl ⟨trivial, vs.2.2⟩ hS hF)
    · exact h.elim
  · exact h.elim
end RS
