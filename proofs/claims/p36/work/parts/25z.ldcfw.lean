section RF
variable {p : Program} {l : Launch} {e : Env} {g : EG} {σ : SG} {R : Room} {s : State} {m : MethodId} {args : Array Value} {below : List Frame} {meth : Method} {c : Code} {ex : Option Nat} {M0 : EM} {Q : EO → EM → Prop} {own : String} {pc np : Nat}
theorem e_ldcwF {T : State} {locs : List Loc} {cells slots : Nat} (X : Stand p l e R s m args below meth c T locs cells slots) (hexec : p.tables.exec = Jvm.exec) {index : Nat} {v : UInt32} (hown : s.vm.findClass own = some m.cls)
    (hconst : (Cond.constantFloat own index v).before args s = true) {g : JFrame} (hg : g.method = m) (hdg : decode c.code g.pc = .ok (.ldc_w index, 3)) :
    ∀ target, Steps p.tables e below (T.setTop { g with pc := g.pc + 3, stack := .float v :: g.stack }) target → Steps p.tables e below (T.setTop g) target := by
  obtain ⟨k, cf, hk, hcf, hcp⟩ := Cond.constantFloat_spec hown hconst
  obtain ⟨k', hk', he⟩ := X.warmed.alike.2.2 _ _ hk
  intro target hrest
  subst hg
  jvm_step X.here [hexec, hdg, ldc_w.wp_float (s := T) (f := g) X.here.top hk' (by rw [he]; exact hcf) hcp]
  exact hrest
theorem r_ldcfw (X : Cx p l g σ R s m args meth c own) {n : Nat} {v : UInt32} (hd : decode (gcc σ) pc = .ok (.ldc_w n, 3)) (hv : Cond.constantFloat own n v ∈ e_good) (hn : pc + 3 = np) : RowOk p l e g σ R s m args below meth c ex M0 Q pc np (s_c (.inr (.inr (.inl v)))) := by
  intro J hJ ls st M nc ns h
  subst hn
  intro H locs lsM hl ok le vl vs hS hF T hT X1
  obtain ⟨t, a, b⟩ := hJ _ _ _ _ _ _ h H locs lsM hl ok le vl ⟨trivial, vs⟩ hS hF T hT X1
  exact ⟨t, e_ldcwF X1 X.1 X.2.2.2.2.1 (e_wd0 X.2.2.2.2.2.2.1 hv) (g := F0 m pc lsM (st.map e_tv)) rfl (by rw [X.2.1]; exact hd) t a, b⟩
end RF
