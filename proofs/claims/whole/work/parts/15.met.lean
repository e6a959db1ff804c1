/-! EVERY RUN OF EVERY METHOD -/
/-- all rows of all methods are right -/
def qk_Rows : Prop := ∀ (M : Nat) (F : qs_E) (pc : Nat) (r : qs_Row), qm_at M = some F → qs_fetch (qe_cd F) pc = some r → qk_row F pc r = true
theorem qm_cd_at {M : Nat} {F : qs_E} (h : qm_at M = some F) : qm_cd M = qe_cd F := by unfold qm_cd; rw [h]
theorem qm_rk_at {M : Nat} {F : qs_E} (h : qm_at M = some F) : qm_rk M = qe_rk F := by unfold qm_rk; rw [h]
theorem qm_ml_at {M : Nat} {F : qs_E} (h : qm_at M = some F) : qm_ml M = qe_ml F := by unfold qm_ml; rw [h]
theorem qs_len_init (n : Nat) (as : List Value) (h : as.length ≤ n) : (qs_init n as).length = n := by simp [qs_init]; omega
theorem qs_get_app : ∀ (as : List Value) (k : Nat) (i : Nat) (v : Value), qs_get (as.map some ++ List.replicate k none) i = some v → as[i]? = some v
  | [], k, i, v, h => by
    exfalso
    have : ∀ (k i : Nat), qs_get (List.replicate k none) i = none := by
      intro k
      induction k with
      | zero => intro i; rfl
      | succ k ih =>
        intro i
        cases i with
        | zero => rfl
        | succ i => exact ih i
    rw [List.map_nil, List.nil_append, this] at h
    cases h
  | a :: as, k, 0, v, h => by simpa [qs_get] using h
  | a :: as, k, i + 1, v, h => by
    have := qs_get_app as k i v h
    simpa using this
theorem lv_args_in : ∀ (vs : List Value) (k i : Nat) (v : Value), (∀ v ∈ vs, v.category = 1) → vs[i]? = some v → (k + i, v) ∈ lv_args k vs
  | [], _, i, _, _, h => by simp at h
  | a :: vs, k, 0, v, _, h => by
    simp at h
    subst h
    exact List.mem_cons_self
  | a :: vs, k, i + 1, v, hc, h => by
    unfold lv_args
    rw [if_neg (by rw [hc a List.mem_cons_self]; decide)]
    have := lv_args_in vs (k + 1) i v (fun w hw => hc w (List.mem_cons_of_mem _ hw)) (by simpa using h)
    rw [show k + 1 + i = k + (i + 1) by omega] at this
    exact List.mem_cons_of_mem _ this
theorem lg_sl_len : ∀ (vs : List Value), (∀ v ∈ vs, v.category = 1) → (lg_sl vs).length = vs.length
  | [], _ => rfl
  | a :: vs, hc => by
    have h1 := lg_sl_len vs (fun w hw => hc w (List.mem_cons_of_mem _ hw))
    unfold lg_sl at h1 ⊢
    rw [List.flatMap_cons, if_neg (by rw [hc a List.mem_cons_self]; decide), List.length_append, h1]
    simp
    omega
theorem qs_sum_cat : ∀ (as : List Value), as.length ≤ qs_sum as
  | [] => Nat.le_refl _
  | a :: as => by
    have h1 := qs_sum_cat as
    have h2 : 1 ≤ a.category := by cases a <;> simp [Value.category]
    show as.length + 1 ≤ a.category + qs_sum as
    omega
theorem qs_sum_one : ∀ (as : List Value), qs_sum as = as.length → ∀ v ∈ as, v.category = 1
  | [], _, v, hv => by cases hv
  | a :: as, h, v, hv => by
    have h1 := qs_sum_cat as
    have h2 : 1 ≤ a.category := by cases a <;> simp [Value.category]
    have h3 : a.category + qs_sum as = as.length + 1 := h
    rcases List.mem_cons.mp hv with rfl | hv
    · omega
    · exact qs_sum_one as (by omega) v hv
def qs_Sim (l : Launch) (n : Nat) : Prop := ∀ (d M pc : Nat) (L : qs_L) (st : List Value) (m : qs_M) (r : qs_R), qs_ev n d M pc L st m = some r → ∀ (E : qs_E), qm_at M = some E →
  ∀ (p : Program) (e : Env) (R : Room) (s : State) (mid : MethodId) (args : Array Value) (below : List Frame) (meth : Method) (c : Code) (Q : State → Prop) (X : qw_X) (nL n0 z0 : Nat), qp_C p R s mid args meth c X E nL n0 →
    (d + 1 ≤ R.frames ∧ 64 * (d + 1) ≤ R.locals) → (qs_n r.2 ≤ n0 + R.cells ∧ qs_z r.2 ≤ z0 + R.slots) → qp_RT p l e R s mid args below meth c Q X E (qe_rk E) n0 z0 r → qp_At p l e R s mid args below meth c Q X nL n0 z0 pc L st m
/-- what is asked of the arguments of a call -/
def qs_Args (F : qs_E) (as : List Value) : Prop := as.length = qe_na F + (if qe_kd F = 0 then 0 else 1) ∧ ∀ v ∈ as, v.category = 1
theorem qs_met {l : Launch} {n : Nat} (hA : qk_All) (hS : qs_Sim l n) {d M : Nat} {as : List Value} {m m2 : qs_M} {v : Option Value} (h : qs_ev n d M 0 (qs_init (qm_ml M) as) [] m = some (v, m2)) {F : qs_E} (hF : qm_at M = some F) (hM : M < 224) (has : qs_Args F as) (X : qw_X) : qc_Met X l d F as m v m2 := by
  obtain ⟨f1, f2, f3, f4, f5, f6, f7, f8, f9, -, -, -⟩ := qk_ent_of (hA M F hM hF)
  have hmn := qs_ev_mn _ _ _ _ _ _ _ _ h
  unfold qc_Met
  refine Met.ofW (cc := qe_b F) (maxL := qe_ml F) (ret := qe_rt F) (by rw [f1]; exact f2) rfl ?_
  intro p e s mid args below meth c s₁ B hml hv
  obtain ⟨rfl, hAt⟩ := hv
  obtain ⟨a1, a2, a3, a4, a5, a6⟩ := hAt
  have hts := atoms_spec (ws := .code (qe_y F) (qe_b F) (qe_ml F) (qe_rt F) :: lw_gd) B.pre
  have hown : s.vm.findClass (qe_own F) = some mid.cls := by rw [← f1]; exact findClass_of_methodNamed B.named
  have hnm : meth.name = (qe_y F).name := (name_of_methodNamed B.named B.method).1
  have hlocks := B.notSynchronized
  have hcat : ∀ w ∈ as.map (qw_v X), w.category = 1 := by
    intro w hw
    obtain ⟨u, hu, rfl⟩ := List.mem_map.mp hw
    rw [qw_cat a6.cat]
    exact has.2 u hu
  have hlen : (lg_sl (as.map (qw_v X))).length ≤ qe_ml F := by
    rw [lg_sl_len _ hcat, List.length_map, has.1]
    exact f6
  rw [lg_entry_eq]
  have hl := lv_entry (as.map (qw_v X)) hlen
  generalize (lg_sl (as.map (qw_v X)) ++ List.replicate (qe_ml F - (lg_sl (as.map (qw_v X))).length) Slot.unset).toArray = ls at hl ⊢
  have hL : qw_L X ls (qe_ml F) (qs_init (qm_ml M) as) := by
    rw [qm_ml_at hF]
    refine ⟨hl.1, hl.2.1, qs_len_init _ _ (by rw [has.1]; exact f6), fun i w hw => ?_⟩
    have h1 := qs_get_app as _ i w hw
    have h2 := lv_args_in (as.map (qw_v X)) 0 i (qw_v X w) hcat (by rw [List.getElem?_map, h1]; rfl)
    rw [Nat.zero_add] at h2
    exact hl.2.2 _ h2
  have hR : (headSpec (.code (qe_y F) (qe_b F) (qe_ml F) (qe_rt F) :: lw_gd) ({ frames := d + 1, cells := qs_n m2 - qs_n m, slots := qs_z m2 - qs_z m, locals := 64 * (d + 1) } : Room)).room = { frames := d + 1, cells := qs_n m2 - qs_n m, slots := qs_z m2 - qs_z m, locals := 64 * (d + 1) } := rfl
  rw [hR]
  refine hS d M 0 (qs_init (qm_ml M) as) [] m (v, m2) h F hF p e _ s mid _ below meth c _ X (qe_ml F) (qs_n m) (qs_z m) ⟨B.exec, B.bytes, hml, hown, fun w hw => hts w (List.mem_cons_of_mem _ hw), a3, a4, a6, a1, ?_, ?_, rfl, fun q => hnm.trans q⟩ ⟨Nat.le_refl _, Nat.le_refl _⟩ ⟨?_, ?_⟩ ?_ s.heap [] 0 0 ls a2 a5 va_S.rf hL (by omega) (by omega)
  · show 1 ≤ d + 1
    omega
  · show 64 ≤ 64 * (d + 1)
    omega
  · show qs_n m2 ≤ qs_n m + (qs_n m2 - qs_n m)
    omega
  · show qs_z m2 ≤ qs_z m + (qs_z m2 - qs_z m)
    omega
  · intro H locs cells slots ls' pc hP hM2 hS2 hc hz
    obtain rfl : cells = qs_n m2 - qs_n m := by
      have : cells + qs_n m = qs_n m2 := hc
      omega
    obtain rfl : slots = qs_z m2 - qs_z m := by
      have : slots + qs_z m = qs_z m2 := hz
      omega
    refine ⟨fun hv h0 hd => ?_, fun x hv hx hd => ?_⟩
    · have hv : v = none := hv
      subst hv
      rw [h0] at f5
      have hrt : qe_rt F = none := by
        cases e9 : qe_rt F with
        | none => rfl
        | some t => rw [e9] at f5; cases f5
      exact W.vret B.exec B.bytes (B.returns.trans hrt) (fun t ht hW => ⟨rfl, by rw [ht]; exact hP, hM2, hS2.F ht⟩) hS2.2.2 hd
    · have hv : v = some (.int x) := hv
      subst hv
      have hrt : ∃ ty, qe_rt F = some ty ∧ narrow ty (.int x) = .int x := by
        rcases hx with e | ⟨e, hx⟩ | ⟨e, hx⟩ | ⟨e, hx⟩ <;> rw [e] at f5 <;> unfold qk_rt at f5 <;> split at f5 <;> first
          | (cases f5; done)
          | (rename_i e8; exact absurd e8 (by decide))
          | (rename_i e8 e7; exact ⟨_, e7, rfl⟩)
          | (rename_i e8 e7; exact ⟨_, e7, by rcases hx with rfl | rfl <;> rfl⟩)
          | (rename_i e8 e7; exact ⟨_, e7, hx⟩)
          | (rename_i e8 e7; exact absurd e8 (by decide))
      obtain ⟨ty, hrt, hnr⟩ := hrt
      exact W.zret B.exec B.bytes (B.returns.trans hrt) hnr (fun t ht hW => ⟨rfl, by rw [ht]; exact hP, hM2, hS2.F ht⟩) hS2.2.2 hd
def qs_wp (RT : qs_R → Prop) (CL : Nat → Nat → List Value → qs_M → Nat → qs_L → List Value → Prop) (K : Nat → qs_L → List Value → qs_M → Prop) : qs_A → Prop
  | none => False
  | some (.inl r) => RT r
  | some (.inr (.inl (pc, L, st, m))) => K pc L st m
  | some (.inr (.inr (e, M, as, m, pc, L, rest))) => CL e M as m pc L rest
theorem qs_wp_eq {rk : Nat} {RT : qs_R → Prop} {CL : Nat → Nat → List Value → qs_M → Nat → qs_L → List Value → Prop} {K : Nat → qs_L → List Value → qs_M → Prop} {pc : Nat} {L : qs_L} {st : List Value} {m : qs_M} {i : Instr} {a b c : Nat} {v : Int32} {sw : List (Int32 × Nat)} (h : qs_wp RT CL K (qs_act rk pc L st m i a b c v sw)) : qs_stp rk False RT CL K pc L st m i a b c v sw := by
  have h2 := qs_stp_nat (qs_wp RT CL K) (rk := rk) (fl := none) (rt := fun r => some (.inl r)) (cl := fun e M as m pc L rest => some (.inr (.inr (e, M, as, m, pc, L, rest)))) (k := fun pc L st m => some (.inr (.inl (pc, L, st, m)))) (pc := pc) (L := L) (st := st) (m := m) (i := i) (a := a) (b := b) (c := c) (v := v) (sw := sw)
  unfold qs_act at h
  rw [h2] at h
  exact h
