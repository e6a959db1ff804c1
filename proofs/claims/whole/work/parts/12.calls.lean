/-! NEW CELLS, COPIES, SWITCHES, CALLS -/
theorem qs_nw_n (m : qs_M) (t z : Nat) : qs_n (qs_nw m t z) = qs_n m + 1 := rfl
theorem qs_nw_z (m : qs_M) (t z : Nat) : qs_z (qs_nw m t z) = qs_z m + z := rfl
theorem qs_nw_kd (m : qs_M) (t z k : Nat) : qs_kd (qs_nw m t z) k = if k = qn_c (qs_n m) then t else qs_kd m k := rfl
theorem qs_nw_sz (m : qs_M) (t z k : Nat) : qs_sz (qs_nw m t z) k = if k = qn_c (qs_n m) then z else qs_sz m k := rfl
theorem qs_nw_lk (m : qs_M) (t z k j : Nat) : qs_lk (qs_nw m t z) k j = if k = qn_c (qs_n m) then qs_dl t j else qs_lk m k j := rfl
theorem qs_nw_i (m : qs_M) (t z k j : Nat) : qs_i (qs_nw m t z) k j = if k = qn_c (qs_n m) then 0 else qs_i m k j := rfl
theorem qs_nw_l (m : qs_M) (t z k j : Nat) : qs_l (qs_nw m t z) k j = if k = qn_c (qs_n m) then 0 else qs_l m k j := rfl
theorem qw_M.nw {X : qw_X} {m : qs_M} (h : qw_M X m) {t z : Nat} (ht : qw_okk t) : qw_M X (qs_nw m t z) := by
  refine ⟨h.1.moved (fun k hk => ⟨?_, ?_, fun j => ?_, fun j => ?_⟩), fun k hk hk2 => ?_, fun k h1 h2 => ?_⟩
  · rw [qs_nw_kd, if_neg (qn_lt hk)]
  · rw [qs_nw_sz, if_neg (qn_lt hk)]
  · rw [qs_nw_lk, if_neg (qn_lt hk)]
  · rw [qs_nw_i, if_neg (qn_lt hk)]
  · rw [qs_nw_n] at hk2
    rw [qs_nw_kd, if_neg (qn_ne (by omega))]
    exact h.2.1 k hk (by omega)
  · rw [qs_nw_n] at h2
    rw [qs_nw_kd]
    by_cases e : k = qn_c (qs_n m)
    · rw [if_pos e]; exact ht
    · rw [if_neg e]
      have e2 : qn_x k ≠ qs_n m := fun z => e (by rw [← z, qn_cx h1])
      exact h.2.2 k h1 (by omega)
theorem qw_nw_old {X : qw_X} (m : qs_M) (t z : Nat) (k : Nat) (h : qn_x k < qs_n m) : qw_cell X (qs_nw m t z) k = qw_cell X m k := by
  have e : k ≠ qn_c (qs_n m) := qn_ne (by omega)
  refine qw_cell_cg ?_ ?_ ?_ ?_ ?_
  · rw [qs_nw_kd, if_neg e]
  · rw [qs_nw_sz, if_neg e]
  · funext j; rw [qs_nw_lk, if_neg e]
  · funext j; rw [qs_nw_i, if_neg e]
  · funext j; rw [qs_nw_l, if_neg e]
theorem qw_fresh {X : qw_X} {m : qs_M} {D : va_G} {q1 : Nat} {e : va_E} {H1 : Heap} (hP1 : va_P D vwCl (qw_ws X m ++ [(q1, e)]) H1) (hD1 : va_D (qw_A X) (qw_ws X m ++ [(q1, e)])) (hz : H1.size ≤ qx_b X + qs_n m + 1) : q1 = qx_b X + qs_n m := by
  have hl : (qw_ws X m ++ [(q1, e)])[qs_n m]? = some (q1, e) := by
    rw [List.getElem?_append_right (by rw [qw_len]; exact Nat.le_refl _), qw_len, Nat.sub_self]
    rfl
  have h1 : q1 < H1.size := (hP1 _ _ hl).lt
  have h2 : qx_b X ≤ q1 := hD1.2 _ _ hl
  rcases Nat.lt_or_ge q1 (qx_b X + qs_n m) with q | q
  · have h3 := qw_at (X := X) (m := m) (k := qn_c (q1 - qx_b X)) ⟨qn_16 _, by rw [qn_xc]; omega⟩
    rw [qn_xc] at h3
    have h4 : (qw_ws X m ++ [(q1, e)])[q1 - qx_b X]? = some (qx_b X + (q1 - qx_b X), qw_cell X m (qn_c (q1 - qx_b X))) := by
      rw [List.getElem?_append_left (by rw [qw_len]; omega)]
      exact h3
    have h5 := hD1.1 _ _ _ _ h4 hl (by show qx_b X + (q1 - qx_b X) = q1; omega)
    omega
  · omega
theorem qs_dl_01 (t j : Nat) : qs_dl t j = 0 ∨ qs_dl t j = 1 := by
  unfold qs_dl
  split <;> (repeat' split) <;> omega
theorem qw_sum {X : qw_X} (hf : (qx_f X).category = 1) : ∀ st : List Value, ((st.map (qw_v X)).map fun v => v.category).sum = qs_sum st
  | [] => rfl
  | v :: st => by
    rw [List.map_cons, List.map_cons, List.sum_cons, qw_sum hf st, qw_cat hf]
    rfl
theorem qs_pop_eq : ∀ (k : Nat) (st acc as rest : List Value), qs_pop k st acc = some (as, rest) → ∃ l, as = l ++ acc ∧ st = l.reverse ++ rest ∧ l.length = k
  | 0, st, acc, as, rest, h => by
    cases h
    exact ⟨[], rfl, rfl, rfl⟩
  | k + 1, [], acc, as, rest, h => by cases h
  | k + 1, v :: st, acc, as, rest, h => by
    obtain ⟨l, h1, h2, h3⟩ := qs_pop_eq k st (v :: acc) as rest h
    exact ⟨l ++ [v], by simp [h1], by simp [h2], by simp [h3]⟩
def qc_Q (X : qw_X) (v : Option Value) (m2 : qs_M) : Array Value → State → Outcome → State → Prop := fun _ st o t =>
  o = .returned (v.map (qw_v X)) ∧ va_P (qx_D X) vwCl (qw_ws X m2) t.heap ∧ qw_M X m2 ∧ va_F (qw_A X) st t
/-- a method's contract, from a memory to a memory -/
def qc_Met (X : qw_X) (l : Launch) (d : Nat) (F : qs_E) (as : List Value) (m : qs_M) (v : Option Value) (m2 : qs_M) : Prop :=
  Met l (qe_y F) (.code (qe_y F) (qe_b F) (qe_ml F) (qe_rt F) :: lw_gd) { frames := d + 1, cells := qs_n m2 - qs_n m, slots := qs_z m2 - qs_z m, locals := 64 * (d + 1) } (va_Pc (as.map (qw_v X)) (qw_At X m)) (qc_Q X v m2) (qs_n m2 - qs_n m) (qs_z m2 - qs_z m) (qw_A X)
theorem qw_At.blind {X : qw_X} {m : qs_M} {av : List Value} : FrameBlind (va_Pc av (qw_At X m)) := by
  intro a U g mk q
  obtain ⟨q0, q1, q2, q3, q4, q5, q6⟩ := q
  exact ⟨q0, q1, q2, va_K.moved (u := U) (U := U.calling g mk a) (Vm.Alike.refl U.vm) q3, qw_E.same (u := U) (U := U.calling g mk a) rfl q4, q5, q6⟩
/-- what an entry of the table of methods says -/
theorem qk_ent_of {F : qs_E} (h : qk_ent F = true) : (qe_y F).cls = qe_own F ∧ plainName (qe_own F) = true ∧ (parseMethodDescriptor (qe_y F).desc).map (fun d => d.parameters.length) = some (qe_na F) ∧ Cond.code (qe_y F) (qe_b F) (qe_ml F) (qe_rt F) ∈ lw_gd ∧ qk_rt (qe_rk F) (qe_rt F) = true ∧ qe_na F + (if qe_kd F = 0 then 0 else 1) ≤ qe_ml F ∧ qe_ml F ≤ 40 ∧ ((qe_y F).cls ≠ "java/lang/invoke/MethodHandle" ∧ (qe_y F).cls ≠ "java/lang/invoke/VarHandle") ∧ Cond.initialized (qe_y F).cls ∈ lw_gd ∧ (qe_kd F = 0 → Cond.static (qe_y F) ∈ lw_gd) ∧ (qe_kd F = 1 → Cond.instanceMethod (qe_y F) ∈ lw_gd ∧ Cond.selects (qe_y F).cls (qe_y F) (qe_y F) ∈ lw_gd) ∧ (qe_kd F = 2 → Cond.instanceMethod (qe_y F) ∈ lw_gd ∧ (qe_y F).name = "<init>") := by
  unfold qk_ent at h
  simp only [Bool.and_eq_true, decide_eq_true_eq] at h
  obtain ⟨⟨⟨⟨⟨⟨⟨⟨h1, h2⟩, h3⟩, h4⟩, h5⟩, h6⟩, h7⟩, h8⟩, h9⟩ := h
  refine ⟨h1, h2, h3, qk_is_in h4, h5, h6.1, h6.2, h7, qk_is_in h8, fun e => ?_, fun e => ?_, fun e => ?_⟩
  · rw [e] at h9; exact qk_is_in h9
  · rw [e] at h9
    simp only [Bool.and_eq_true] at h9
    exact ⟨qk_is_in h9.1, qk_is_in h9.2⟩
  · rw [e] at h9
    simp only [Bool.and_eq_true, decide_eq_true_eq] at h9
    exact ⟨qk_is_in h9.1, h9.2⟩
theorem qk_goodF {F : qs_E} (h : qk_ent F = true) : GoodIn lw_gd (.code (qe_y F) (qe_b F) (qe_ml F) (qe_rt F) :: lw_gd) := by
  intro w hw
  rcases List.mem_cons.mp hw with rfl | hw
  · exact lw_gd_good _ (qk_ent_of h).2.2.2.1
  · exact lw_gd_good w hw
section QPC
variable {p : Program} {l : Launch} {e : Env} {R : Room} {s : State} {mid : MethodId} {args : Array Value} {below : List Frame} {meth : Method} {c : Code} {Q : State → Prop} {X : qw_X} {E : qs_E} {nL n0 z0 : Nat}
variable {pc : Nat} {L : qs_L} {st : List Value} {m : qs_M}
theorem qp_A (C : qp_C p R s mid args meth c X E nL n0) : ∀ q, s.heap.size ≤ q → qw_A X q := fun q h => by
  have := C.2.2.2.2.2.2.2.2.1
  show qx_b X ≤ q
  omega
theorem qp_new (C : qp_C p R s mid args meth c X E nL n0) {n a : Nat} {q : vw_C} (hq : vwCl[a]? = some q) (hw : Jvm.Cond.classLink (qe_own E) n q.1 ∈ lw_gd) (hd : decode (qe_b E) pc = .ok (.new n, 3)) (h : qp_K p l e R s mid args below meth c Q X nL n0 z0 (pc + 3) L (.ref (qn_c (qs_n m)) :: st) (qs_nw m a (qs_nf a))) : qp_At p l e R s mid args below meth c Q X nL n0 z0 pc L st m := by
  intro H locs cells slots ls hP hM hS hl hc hz
  obtain ⟨ha, hN, hin, hty, hnm, hins, hini, hdf⟩ := qk_cls hq
  have hk := h.1
  rw [qs_nw_n, qs_nw_z] at hk
  refine va_new (c0 := c) (own := qe_own E) (C := q.1) (T := q.2.1) (N := q.2.2) (ci := a) (ws := qw_ws X m) (fs := (List.range (qs_nf a)).map (fun j => if qs_dl a j = 0 then .int 0 else .null)) C.1 C.2.1 C.2.2.2.2.1 hin (qt_ty a) hty C.2.2.2.1 (C.2.2.2.2.1 _ hw) (C.2.2.2.2.1 _ hins) (C.2.2.2.2.1 _ hini) C.2.2.2.2.2.1 hP qw_D hS (qp_A C) hq ?_ (by omega) (by omega) hd (fun q1 H1 hP1 hD1 hS1 => qp_size (fun hz1 => ?_))
  · intro j hj
    rw [hdf j hj]
    unfold vp_V
    rw [List.getD_eq_getElem?_getD, List.getElem?_map, List.getElem?_range (by omega)]
    rfl
  · have hb := C.2.2.2.2.2.2.2.2.1
    have e1 := qw_fresh hP1 hD1 (by omega)
    subst e1
    rw [qw_push (X := X) (m' := qs_nw m a (qs_nf a)) (qs_nw_n _ _ _) ?_ (fun k h1 h2 => qw_nw_old m a _ k h2)] at hP1
    · have h1 := h.2 H1 locs (cells + 1) (slots + q.2.2) ls hP1 (hM.nw (Or.inl ha)) hS1 hl (by rw [qs_nw_n]; omega) (by rw [qs_nw_z]; omega)
      rw [List.map_cons, qw_vr (qn_16 _), qn_xc] at h1
      exact h1
    · rw [qw_cell_o (a := a) (by rw [qs_nw_kd, if_pos rfl]) ha]
      congr 3
      funext j
      rcases qs_dl_01 a j with e | e
      · rw [qw_sv_0 (by rw [qs_nw_lk, if_pos rfl, e]), if_pos e, qs_nw_i, if_pos rfl]
      · unfold qw_sv
        rw [qs_nw_lk, if_pos rfl, e]
        rfl
theorem qp_newa (C : qp_C p R s mid args meth c X E nL n0) {t : ArrayType} {a : Nat} {x : Int32} (ha : (t = .int ∧ a = 20) ∨ (t = .boolean ∧ a = 21) ∨ (t = .char ∧ a = 22) ∨ (t = .long ∧ a = 23)) (hx : 0 ≤ x ∧ x.toNatClampNeg ≤ 100000) (hd : decode (qe_b E) pc = .ok (.newarray t, 2)) (h : qp_K p l e R s mid args below meth c Q X nL n0 z0 (pc + 2) L (.ref (qn_c (qs_n m)) :: st) (qs_nw m a x.toNatClampNeg)) : qp_At p l e R s mid args below meth c Q X nL n0 z0 pc L (.int x :: st) m := by
  intro H locs cells slots ls hP hM hS hl hc hz
  have hk := h.1
  rw [qs_nw_n, qs_nw_z] at hk
  have hb := C.2.2.2.2.2.2.2.2.1
  have hx0 : ¬ x < 0 := Int32.not_lt.mpr hx.1
  have fin : ∀ (cA : ClassId) (a0 : vp_A) (q1 : Nat) (H1 : Heap), qw_okk a → va_P (qx_D X) vwCl (qw_ws X m ++ [(q1, .inl (cA, a0))]) H1 → va_D (qw_A X) (qw_ws X m ++ [(q1, .inl (cA, a0))]) → va_S (qw_A X) s.heap H1 locs → qw_cell X (qs_nw m a x.toNatClampNeg) (qn_c (qs_n m)) = .inl (cA, a0) → W p l e R s mid args below meth c H1 locs (cells + 1) (slots + x.toNatClampNeg) Q (F0 mid (pc + 2) ls (.ref q1 :: st.map (qw_v X))) := by
    intro cA a0 q1 H1 hok hP1 hD1 hS1 he
    refine qp_size (fun hz1 => ?_)
    have e1 := qw_fresh hP1 hD1 (by omega)
    subst e1
    rw [qw_push (X := X) (m' := qs_nw m a x.toNatClampNeg) (qs_nw_n _ _ _) he (fun k h1 h2 => qw_nw_old m a _ k h2)] at hP1
    have h1 := h.2 H1 locs (cells + 1) (slots + x.toNatClampNeg) ls hP1 (hM.nw hok) hS1 hl (by rw [qs_nw_n]; omega) (by rw [qs_nw_z]; omega)
    rw [List.map_cons, qw_vr (qn_16 _), qn_xc] at h1
    exact h1
  have zi : qs_i (qs_nw m a x.toNatClampNeg) (qn_c (qs_n m)) = fun _ => 0 := by funext j; rw [qs_nw_i, if_pos rfl]
  have zl : qs_l (qs_nw m a x.toNatClampNeg) (qn_c (qs_n m)) = fun _ => 0 := by funext j; rw [qs_nw_l, if_pos rfl]
  have zs : qs_sz (qs_nw m a x.toNatClampNeg) (qn_c (qs_n m)) = x.toNatClampNeg := by rw [qs_nw_sz, if_pos rfl]
  have zk : qs_kd (qs_nw m a x.toNatClampNeg) (qn_c (qs_n m)) = a := by rw [qs_nw_kd, if_pos rfl]
  rcases ha with ⟨rfl, rfl⟩ | ⟨rfl, rfl⟩ | ⟨rfl, rfl⟩ | ⟨rfl, rfl⟩
  · refine va_newa (atype := .int) (ty := .int) (a0 := (x.toNatClampNeg, .inl (fun _ => 0))) C.1 C.2.1 (C.2.2.2.2.1 _ qk_ac_int) rfl C.2.2.2.2.2.1 hP qw_D hS (qp_A C) (fun _ => rfl) hx0 rfl (by simp only [componentBytes]; omega) (by omega) (by omega) hd (fun q1 cA H1 hK1 hP1 hD1 hS1 => ?_)
    have e2 : cA = qx_c X 20 := Option.some.inj ((show s.vm.findClass _ = some cA from (hK1.2 8 (cA, .int) rfl).2).symm.trans (show s.vm.findClass _ = some (qx_c X 20) from (C.2.2.2.2.2.1.2 0 (qx_c X 20, .int) rfl).2))
    subst e2
    exact fin _ _ q1 H1 (by unfold qw_okk; omega) hP1 hD1 hS1 (by rw [qw_cell_i zk (Or.inl rfl), zi, zs])
  · refine va_newa (atype := .boolean) (ty := .boolean) (a0 := (x.toNatClampNeg, .inl (fun _ => 0))) C.1 C.2.1 (C.2.2.2.2.1 _ qk_ac_boolean) rfl C.2.2.2.2.2.1 hP qw_D hS (qp_A C) (fun _ => rfl) hx0 rfl (by simp only [componentBytes]; omega) (by omega) (by omega) hd (fun q1 cA H1 hK1 hP1 hD1 hS1 => ?_)
    have e2 : cA = qx_c X 21 := Option.some.inj ((show s.vm.findClass _ = some cA from (hK1.2 8 (cA, .boolean) rfl).2).symm.trans (show s.vm.findClass _ = some (qx_c X 21) from (C.2.2.2.2.2.1.2 1 (qx_c X 21, .boolean) rfl).2))
    subst e2
    exact fin _ _ q1 H1 (by unfold qw_okk; omega) hP1 hD1 hS1 (by rw [qw_cell_i zk (Or.inr (Or.inl rfl)), zi, zs])
  · refine va_newa (atype := .char) (ty := .char) (a0 := (x.toNatClampNeg, .inl (fun _ => 0))) C.1 C.2.1 (C.2.2.2.2.1 _ qk_ac_char) rfl C.2.2.2.2.2.1 hP qw_D hS (qp_A C) (fun _ => rfl) hx0 rfl (by simp only [componentBytes]; omega) (by omega) (by omega) hd (fun q1 cA H1 hK1 hP1 hD1 hS1 => ?_)
    have e2 : cA = qx_c X 22 := Option.some.inj ((show s.vm.findClass _ = some cA from (hK1.2 8 (cA, .char) rfl).2).symm.trans (show s.vm.findClass _ = some (qx_c X 22) from (C.2.2.2.2.2.1.2 2 (qx_c X 22, .char) rfl).2))
    subst e2
    exact fin _ _ q1 H1 (by unfold qw_okk; omega) hP1 hD1 hS1 (by rw [qw_cell_i zk (Or.inr (Or.inr rfl)), zi, zs])
  · refine va_newa (atype := .long) (ty := .long) (a0 := (x.toNatClampNeg, .inr (.inl (fun _ => 0)))) C.1 C.2.1 (C.2.2.2.2.1 _ qk_ac_long) rfl C.2.2.2.2.2.1 hP qw_D hS (qp_A C) (fun _ => rfl) hx0 rfl (by simp only [componentBytes]; omega) (by omega) (by omega) hd (fun q1 cA H1 hK1 hP1 hD1 hS1 => ?_)
    have e2 : cA = qx_c X 23 := Option.some.inj ((show s.vm.findClass _ = some cA from (hK1.2 8 (cA, .long) rfl).2).symm.trans (show s.vm.findClass _ = some (qx_c X 23) from (C.2.2.2.2.2.1.2 3 (qx_c X 23, .long) rfl).2))
    subst e2
    exact fin _ _ q1 H1 (by unfold qw_okk; omega) hP1 hD1 hS1 (by rw [qw_cell_l zk, zl, zs])
theorem qp_newq (C : qp_C p R s mid args meth c X E nL n0) {n a : Nat} {q : vw_C} {x : Int32} (hq : vwCl[a - 30]? = some q) (ha : a = 30 ∨ a = 34 ∨ a = 35 ∨ a = 36) (hw : Jvm.Cond.classLink (qe_own E) n q.1 ∈ lw_gd) (hx : 0 ≤ x ∧ x.toNatClampNeg ≤ 100000) (hd : decode (qe_b E) pc = .ok (.anewarray n, 3)) (h : qp_K p l e R s mid args below meth c Q X nL n0 z0 (pc + 3) L (.ref (qn_c (qs_n m)) :: st) (qs_nw m a x.toNatClampNeg)) : qp_At p l e R s mid args below meth c Q X nL n0 z0 pc L (.int x :: st) m := by
  intro H locs cells slots ls hP hM hS hl hc hz
  have hk := h.1
  rw [qs_nw_n, qs_nw_z] at hk
  have hb := C.2.2.2.2.2.2.2.2.1
  have hx0 : ¬ x < 0 := Int32.not_lt.mpr hx.1
  obtain ⟨t, q', ht, hq', hao⟩ := qw_tyq (X := X) ha
  obtain rfl : q = q' := Option.some.inj (hq.symm.trans hq')
  refine va_newq (own := qe_own E) (C := q.1) C.1 C.2.1 C.2.2.2.1 (C.2.2.2.2.1 _ hw) (hao C.2.2.2.2.2.2.1) C.2.2.2.2.2.1 hP qw_D hS (qp_A C) hx0 rfl (by omega) (by omega) (by omega) hd (fun q1 cA H1 hK1 hP1 hD1 hS1 => qp_size (fun hz1 => ?_))
  have e2 : cA = qx_c X a := by
    obtain ⟨-, -, -, -, -, g1⟩ := (hK1.2 8 (cA, .object q.1) rfl).2
    obtain ⟨-, -, -, -, -, g2⟩ := (C.2.2.2.2.2.1.2 t _ ht).2
    exact Option.some.inj (g1.symm.trans g2)
  subst e2
  have e1 := qw_fresh hP1 hD1 (by omega)
  subst e1
  rw [qw_push (X := X) (m' := qs_nw m a x.toNatClampNeg) (qs_nw_n _ _ _) ?_ (fun k h1 h2 => qw_nw_old m a _ k h2)] at hP1
  · have h1 := h.2 H1 locs (cells + 1) (slots + x.toNatClampNeg) ls hP1 (hM.nw (by unfold qw_okk; omega)) hS1 hl (by rw [qs_nw_n]; omega) (by rw [qs_nw_z]; omega)
    rw [List.map_cons, qw_vr (qn_16 _), qn_xc] at h1
    exact h1
  · rw [qw_cell_q (a := a) (by rw [qs_nw_kd, if_pos rfl]) (by omega), qs_nw_sz, if_pos rfl]
    congr 7
    funext j
    rw [qs_nw_lk, if_pos rfl]
    have : qs_dl a j = 1 := by rcases ha with rfl | rfl | rfl | rfl <;> rfl
    rw [this]
    rfl
theorem qp_copy (C : qp_C p R s mid args meth c X E nL n0) {n0' : Nat} {r1 r2 : Nat} {sp dp n : Int32} (hk : qs_kd m r1 = 20 ∧ qs_kd m r2 = 20) (hx : 0 ≤ sp ∧ 0 ≤ dp ∧ 0 ≤ n) (hz0 : sp.toNatClampNeg + n.toNatClampNeg ≤ qs_sz m r1 ∧ dp.toNatClampNeg + n.toNatClampNeg ≤ qs_sz m r2) (hs : qs_sum st ≤ 8) (hw : Jvm.Cond.methodLink (qe_own E) n0' arraycopyName ∈ lw_gd) (hd : decode (qe_b E) pc = .ok (.invokestatic n0', 3)) (h : qp_K p l e R s mid args below meth c Q X nL n0 z0 (pc + 3) L st (qs_cp m r1 r2 sp.toNatClampNeg dp.toNatClampNeg n.toNatClampNeg)) : qp_At p l e R s mid args below meth c Q X nL n0 z0 pc L (.int n :: .int dp :: .ref r2 :: .int sp :: .ref r1 :: st) m := by
  intro H locs cells slots ls hP hM hS hl hc hz
  have hi := hM.in (k := r1) (Or.inl (by omega))
  have hj := hM.in (k := r2) (Or.inl (by omega))
  have hf := C.2.2.2.2.2.2.2.1.cat
  rw [List.map_cons, List.map_cons, List.map_cons, List.map_cons, List.map_cons, qw_vr hi.1, qw_vr hj.1]
  refine va_copyi (own := qe_own E) (ws := qw_ws X m) (ty := .int) C.1 C.2.1 (C.2.2.1.trans hl.1.symm) C.2.2.2.1 (C.2.2.2.2.1 _ hw) (C.2.2.2.2.1 _ qk_cp1) (C.2.2.2.2.1 _ qk_cp2) (C.2.2.2.2.1 _ qk_cp3) C.2.2.2.2.2.1 hP qw_D hS (qn_x r1) (qn_x r2) 0 0 (by rw [qw_at hi, qw_cell_i hk.1 (Or.inl rfl)]) (by rw [qw_at hj, qw_cell_i hk.2 (Or.inl rfl)]) rfl rfl rfl (Int32.not_lt.mpr hx.1) (Int32.not_lt.mpr hx.2.1) (Int32.not_lt.mpr hx.2.2) hz0.1 hz0.2 (fun _ _ => rfl) C.2.2.2.2.2.2.2.2.2.1 ?_ hd (fun H1 locs1 hP1 hD1 hS1 => ?_)
  · rw [qw_sum hf]
    have h1 := C.2.2.2.2.2.2.2.2.2.2.1
    have h2 : nativeFrameWords "java/lang/System" "arraycopy" 5 = 7 := by decide
    omega
  · have e1 : va_cpy (qs_i m r1) (qs_i m r2) sp.toNatClampNeg dp.toNatClampNeg n.toNatClampNeg = qs_i (qs_cp m r1 r2 sp.toNatClampNeg dp.toNatClampNeg n.toNatClampNeg) r2 := by
      funext j
      show _ = if r2 = r2 ∧ dp.toNatClampNeg ≤ j ∧ j < dp.toNatClampNeg + n.toNatClampNeg then _ else _
      unfold va_cpy
      by_cases e : dp.toNatClampNeg ≤ j ∧ j < dp.toNatClampNeg + n.toNatClampNeg
      · rw [if_pos e, if_pos ⟨rfl, e⟩]; rfl
      · rw [if_neg e, if_neg (fun z => e z.2)]; rfl
    rw [e1, qw_set (X := X) (m' := qs_cp m r1 r2 sp.toNatClampNeg dp.toNatClampNeg n.toNatClampNeg) (e := .inl (qx_c X 20, qs_sz m r2, .inl (qs_i (qs_cp m r1 r2 sp.toNatClampNeg dp.toNatClampNeg n.toNatClampNeg) r2))) hj rfl (qw_cell_i hk.2 (Or.inl rfl)) (fun z hz1 hz2 => qw_cell_cg rfl rfl rfl (by funext j; exact if_neg (fun y => hz2 y.1)) rfl)] at hP1
    exact h.2 H1 locs1 cells slots ls hP1 (hM.cp hj.1) hS1 hl hc hz
theorem qp_max (C : qp_C p R s mid args meth c X E nL n0) {n : Nat} {x y : Int32} (hs : qs_sum st ≤ 8) (hw : Jvm.Cond.methodLink (qe_own E) n Lib.Math.max.name ∈ lw_gd) (hd : decode (qe_b E) pc = .ok (.invokestatic n, 3)) (h : qp_K p l e R s mid args below meth c Q X nL n0 z0 (pc + 3) L (.int (qs_max x y) :: st) m) : qp_At p l e R s mid args below meth c Q X nL n0 z0 pc L (.int y :: .int x :: st) m := by
  intro H locs cells slots ls hP hM hS hl hc hz
  have h1 := C.2.2.2.2.2.2.2.2.2.2.1
  have h2 := h.1
  exact va_mmax (own := qe_own E) (rest := st.map (qw_v X)) C.1 C.2.1 (C.2.2.1.trans hl.1.symm) C.2.2.2.1 (C.2.2.2.2.1 _ hw) (C.2.2.2.2.1 _ qk_mmax1) (C.2.2.2.2.1 _ qk_mi) (C.2.2.2.2.1 _ qk_mmax2) C.2.2.2.2.2.2.2.2.2.1 (by rw [qw_sum C.2.2.2.2.2.2.2.1.cat]; omega) (by omega) (by omega) hd (h.2 H locs cells slots ls hP hM hS hl hc hz)
theorem qp_min (C : qp_C p R s mid args meth c X E nL n0) {n : Nat} {x y : Int32} (hs : qs_sum st ≤ 8) (hw : Jvm.Cond.methodLink (qe_own E) n Lib.Math.min.name ∈ lw_gd) (hd : decode (qe_b E) pc = .ok (.invokestatic n, 3)) (h : qp_K p l e R s mid args below meth c Q X nL n0 z0 (pc + 3) L (.int (qs_min x y) :: st) m) : qp_At p l e R s mid args below meth c Q X nL n0 z0 pc L (.int y :: .int x :: st) m := by
  intro H locs cells slots ls hP hM hS hl hc hz
  have h1 := C.2.2.2.2.2.2.2.2.2.2.1
  have h2 := h.1
  exact va_mmin (own := qe_own E) (rest := st.map (qw_v X)) C.1 C.2.1 (C.2.2.1.trans hl.1.symm) C.2.2.2.1 (C.2.2.2.2.1 _ hw) (C.2.2.2.2.1 _ qk_mmin1) (C.2.2.2.2.1 _ qk_mi) (C.2.2.2.2.1 _ qk_mmin2) C.2.2.2.2.2.2.2.2.2.1 (by rw [qw_sum C.2.2.2.2.2.2.2.1.cat]; omega) (by omega) (by omega) hd (h.2 H locs cells slots ls hP hM hS hl hc hz)
theorem qp_abs (C : qp_C p R s mid args meth c X E nL n0) {n : Nat} {x : Int32} (hs : qs_sum st ≤ 8) (hw : Jvm.Cond.methodLink (qe_own E) n Lib.Math.abs.name ∈ lw_gd) (hd : decode (qe_b E) pc = .ok (.invokestatic n, 3)) (h : qp_K p l e R s mid args below meth c Q X nL n0 z0 (pc + 3) L (.int (qs_abs x) :: st) m) : qp_At p l e R s mid args below meth c Q X nL n0 z0 pc L (.int x :: st) m := by
  intro H locs cells slots ls hP hM hS hl hc hz
  have h1 := C.2.2.2.2.2.2.2.2.2.2.1
  have h2 := h.1
  exact va_mabs (own := qe_own E) (rest := st.map (qw_v X)) C.1 C.2.1 (C.2.2.1.trans hl.1.symm) C.2.2.2.1 (C.2.2.2.2.1 _ hw) (C.2.2.2.2.1 _ qk_mabs1) (C.2.2.2.2.1 _ qk_mi) (C.2.2.2.2.1 _ qk_mabs2) C.2.2.2.2.2.2.2.2.2.1 (by rw [qw_sum C.2.2.2.2.2.2.2.1.cat]; omega) (by omega) (by omega) hd (h.2 H locs cells slots ls hP hM hS hl hc hz)
theorem qp_objI (C : qp_C p R s mid args meth c X E nL n0) {n r : Nat} (hs : qs_sum st ≤ 8) (hr : 16 ≤ r) (hw : Jvm.Cond.methodLink (qe_own E) n Lib.objectInit ∈ lw_gd) (hd : decode (qe_b E) pc = .ok (.invokespecial n, 3)) (h : qp_K p l e R s mid args below meth c Q X nL n0 z0 (pc + 3) L st m) : qp_At p l e R s mid args below meth c Q X nL n0 z0 pc L (.ref r :: st) m := by
  intro H locs cells slots ls hP hM hS hl hc hz
  have h1 := C.2.2.2.2.2.2.2.2.2.2.1
  rw [List.map_cons, qw_vr hr]
  exact W.objInit (own := qe_own E) (rest := st.map (qw_v X)) C.1 C.2.1 C.2.2.2.1 (C.2.2.2.2.1 _ hw) (C.2.2.2.2.1 _ qk_oi1) (C.2.2.2.2.1 _ qk_oi2) rfl (hl.1.trans C.2.2.1.symm) rfl hd C.2.2.2.2.2.2.2.2.2.1 (by show 2 * 0 + _ + 12 ≤ _; rw [qw_sum C.2.2.2.2.2.2.2.1.cat]; omega) (h.2 H locs cells slots ls hP hM hS hl hc hz)
theorem qp_tsw {a : Nat} {x : Int32} {KK : Nat → Prop} : ∀ (sw : List (Int32 × Nat)) (offs : List Int) (lo : Int), qk_tsw pc lo sw offs = true → qs_sw x sw a KK → ((x.toInt < lo ∨ lo + (offs.length : Int) ≤ x.toInt) ∧ KK a) ∨ ∃ (j : Nat) (o : Int) (t : Nat), offs[j]? = some o ∧ x.toInt = lo + (j : Int) ∧ (pc : Int) + o = (t : Int) ∧ KK t
  | [], [], lo, _, h => Or.inl ⟨by simp; omega, h⟩
  | (v, t) :: sw, o :: offs, lo, hk, h => by
    simp only [qk_tsw, Bool.and_eq_true, decide_eq_true_eq] at hk
    unfold qs_sw at h
    by_cases e : x = v
    · rw [if_pos e] at h
      exact Or.inr ⟨0, o, t, rfl, by rw [e, hk.1.1]; simp, hk.1.2, h⟩
    · rw [if_neg e] at h
      rcases qp_tsw sw offs (lo + 1) hk.2 h with ⟨h1, h2⟩ | ⟨j, o', t', h1, h2, h3, h4⟩
      · refine Or.inl ⟨?_, h2⟩
        have : x.toInt ≠ lo := fun q => e (Int32.toInt_inj.mp (by rw [q, hk.1.1]))
        simp only [List.length_cons]
        omega
      · exact Or.inr ⟨j + 1, o', t', by simpa using h1, by rw [h2]; omega, h3, h4⟩
  | [], _ :: _, _, hk, _ => by cases hk
  | (_, _) :: _, [], _, hk, _ => by cases hk
theorem qp_table (C : qp_C p R s mid args meth c X E nL n0) {d lo hi : Int} {offs : Array Int} {a len : Nat} {x : Int32} {sw : List (Int32 × Nat)} (ht : (pc : Int) + d = (a : Int)) (hh : hi = lo + (offs.toList.length : Int) - 1) (hk : qk_tsw pc lo sw offs.toList = true) (hd : decode (qe_b E) pc = .ok (.tableswitch d lo hi offs, len)) (h : qs_sw x sw a (fun t => qp_K p l e R s mid args below meth c Q X nL n0 z0 t L st m)) : qp_At p l e R s mid args below meth c Q X nL n0 z0 pc L (.int x :: st) m := by
  intro H locs cells slots ls hP hM hS hl hc hz
  rcases qp_tsw sw offs.toList lo hk h with ⟨h1, h2⟩ | ⟨j, o, t, h1, h2, h3, h4⟩
  · exact lv_tableOut (rest := st.map (qw_v X)) C.1 C.2.1 hd (by omega) ht (h2.2 H locs cells slots ls hP hM hS hl hc hz)
  · have hj := (List.getElem?_eq_some_iff.mp h1).1
    refine lv_tableIn (rest := st.map (qw_v X)) (off := o) C.1 C.2.1 hd (by omega) (by omega) ?_ h3 (h4.2 H locs cells slots ls hP hM hS hl hc hz)
    rw [h2, show (lo + (j : Int) - lo).toNat = j by omega, ← Array.getElem?_toList]
    exact h1
theorem qp_lsw {a : Nat} {x : Int32} {d : Int} (hd : (pc : Int) + d = (a : Int)) {KK : Nat → Prop} : ∀ (sw : List (Int32 × Nat)) (ps : List (Int × Int)), qk_lsw pc sw ps = true → qs_sw x sw a KK → ∃ t : Nat, (pc : Int) + Op.lookupswitch.offset ps d x.toInt = (t : Int) ∧ KK t
  | [], [], _, h => ⟨a, hd, h⟩
  | (v, t) :: sw, (y, o) :: ps, hk, h => by
    simp only [qk_lsw, Bool.and_eq_true, decide_eq_true_eq] at hk
    unfold qs_sw at h
    rw [Op.lookupswitch.offset_cons]
    by_cases e : x = v
    · rw [if_pos e] at h
      rw [if_pos (by rw [e, hk.1.1])]
      exact ⟨t, hk.1.2, h⟩
    · rw [if_neg e] at h
      rw [if_neg (fun q => e (Int32.toInt_inj.mp (by rw [hk.1.1]; exact q.symm)))]
      exact qp_lsw hd sw ps hk.2 h
  | [], _ :: _, hk, _ => by cases hk
  | (_, _) :: _, [], hk, _ => by cases hk
theorem qp_lookup (C : qp_C p R s mid args meth c X E nL n0) {d : Int} {ps : Array (Int × Int)} {a len : Nat} {x : Int32} {sw : List (Int32 × Nat)} (ht : (pc : Int) + d = (a : Int)) (hp : (ps.toList.zip (ps.toList.drop 1)).all (fun (a, next) => a.1 < next.1) = true) (hk : qk_lsw pc sw ps.toList = true) (hd : decode (qe_b E) pc = .ok (.lookupswitch d ps, len)) (h : qs_sw x sw a (fun t => qp_K p l e R s mid args below meth c Q X nL n0 z0 t L st m)) : qp_At p l e R s mid args below meth c Q X nL n0 z0 pc L (.int x :: st) m := by
  intro H locs cells slots ls hP hM hS hl hc hz
  obtain ⟨t, h1, h2⟩ := qp_lsw ht sw ps.toList hk h
  exact lv_lookup (rest := st.map (qw_v X)) C.1 C.2.1 hd hp rfl h1 (h2.2 H locs cells slots ls hP hM hS hl hc hz)
/-- behind a call -/
theorem qp_after {v : Option Value} {m2 : qs_M} {a : Array Value} {mc ms : Nat} {H : Heap} {locs : List Loc} {cells slots : Nat} {ls : Array Slot} {st0 rest : List Value} (hr : va_Run p l e R s mid args below meth c H locs cells slots mc ms (F0 mid pc ls st0) rest (qc_Q X v m2 a) (qw_A X)) (hS : va_S (qw_A X) s.heap H locs) (kk : ∀ (H1 : Heap) (locs1 : List Loc), va_P (qx_D X) vwCl (qw_ws X m2) H1 → qw_M X m2 → va_S (qw_A X) s.heap H1 locs1 → W p l e R s mid args below meth c H1 locs1 (cells + mc) (slots + ms) Q (F0 mid (pc + 3) ls ((v.map (qw_v X)).toList ++ rest))) : W p l e R s mid args below meth c H locs cells slots Q (F0 mid pc ls st0) := by
  intro T hT XX
  obtain ⟨w, st₀, t, T', L, h0, X1, hL, e1, e2, ⟨hv, hp, hM2, hz, hk⟩, hst⟩ := hr T hT XX
  cases hv
  rw [h0] at hz hk
  obtain ⟨t2, a1, b1⟩ := kk T'.heap (locs ++ L) (by rw [e1]; exact hp) hM2 ⟨Nat.le_trans hS.1 (by rw [e1]; exact hz), fun q h1 h2 => by rw [e1, hk q (Nat.lt_of_lt_of_le h1 hS.1) h2]; exact hS.2.1 q h1 h2, fun q hq => by
    rcases List.mem_append.mp hq with h | h
    · exact hS.2.2 q h
    · exact hL q h⟩ T' rfl X1
  exact ⟨t2, hst t2 a1, b1⟩
theorem qp_at (C : qp_C p R s mid args meth c X E nL n0) {H : Heap} {locs : List Loc} {cells : Nat} (hP : va_P (qx_D X) vwCl (qw_ws X m) H) (hM : qw_M X m) (hS : va_S (qw_A X) s.heap H locs) (hc : cells + n0 = qs_n m) (hsz : H.size ≤ s.heap.size + cells) : ∀ U : State, U.heap = H → s.WarmedH U.vm → qw_At X m U := by
  intro U hU hW
  have hb := C.2.2.2.2.2.2.2.2.1
  have h1 := qw_lo (X := X) (m := m) hP (by have := hS.1; omega)
  refine ⟨by rw [hU]; omega, by rw [hU]; exact hP, va_K.moved hW.alike C.2.2.2.2.2.1, ?_, hM, C.2.2.2.2.2.2.2.1⟩
  rw [hU]
  exact (C.2.2.2.2.2.2.1.kept hS.2.1).warm hW
/-- what a call gives to its caller -/
theorem qp_go (C : qp_C p R s mid args meth c X E nL n0) {F : qs_E} {v : Option Value} {m2 : qs_M} {rest : List Value} {H : Heap} {locs : List Loc} {cells slots : Nat} {ls : Array Slot} {st0 : List Value} {a : Array Value} (hmono : qs_n m ≤ qs_n m2 ∧ qs_z m ≤ qs_z m2) (hS : va_S (qw_A X) s.heap H locs) (hl : qw_L X ls nL L) (hc : cells + n0 = qs_n m) (hz : slots + z0 = qs_z m) (h : qp_K p l e R s mid args below meth c Q X nL n0 z0 (pc + 3) L (v.toList ++ rest) m2) (hr : va_Run p l e R s mid args below meth c H locs cells slots (qs_n m2 - qs_n m) (qs_z m2 - qs_z m) (F0 mid pc ls st0) (rest.map (qw_v X)) (qc_Q X v m2 a) (qw_A X)) : W p l e R s mid args below meth c H locs cells slots Q (F0 mid pc ls st0) := by
  refine qp_after hr hS (fun H1 locs1 hP1 hM2 hS1 => ?_)
  have h1 := h.2 H1 locs1 (cells + (qs_n m2 - qs_n m)) (slots + (qs_z m2 - qs_z m)) ls hP1 hM2 hS1 hl (by omega) (by omega)
  rw [List.map_append, show v.toList.map (qw_v X) = (v.map (qw_v X)).toList by cases v <;> rfl] at h1
  exact h1
theorem qp_callS (C : qp_C p R s mid args meth c X E nL n0) {n d : Nat} {F : qs_E} {as rest : List Value} {v : Option Value} {m2 : qs_M} (hR : d + 2 ≤ R.frames ∧ 64 * (d + 2) ≤ R.locals) (hF : qk_ent F = true) (hkd : qe_kd F = 0) (hlen : as.length = qe_na F) (hsum : qs_sum rest ≤ 8) (hlk : Jvm.Cond.methodLink (qe_own E) n (qe_y F) ∈ lw_gd ∨ (qe_own E, n, qe_y F) ∈ qk_nests) (hst : st = as.reverse ++ rest) (hd : decode (qe_b E) pc = .ok (.invokestatic n, 3)) (hmono : qs_n m ≤ qs_n m2 ∧ qs_z m ≤ qs_z m2) (hMet : qc_Met X l d F as m v m2) (h : qp_K p l e R s mid args below meth c Q X nL n0 z0 (pc + 3) L (v.toList ++ rest) m2) : qp_At p l e R s mid args below meth c Q X nL n0 z0 pc L st m := by
  intro H locs cells slots ls hP hM hS hl hc hz
  obtain ⟨f1, f2, f3, f4, f5, f6, f7, f8, f9, f10, -, -⟩ := qk_ent_of hF
  have hk := h.1
  have hf := C.2.2.2.2.2.2.2.1.cat
  refine qp_size (fun hsz => ?_)
  have hAt := qp_at C hP hM hS hc hsz
  have hst' : (F0 mid pc ls (st.map (qw_v X))).stack = (as.map (qw_v X)).reverse ++ rest.map (qw_v X) := by
    show st.map (qw_v X) = _
    rw [hst, List.map_append, List.map_reverse]
  have hRR : (d + 1) + 1 ≤ R.frames ∧ 8 + (qe_ml F + 11) + 64 * (d + 1) ≤ R.locals := by omega
  have hW : 2 * (F0 mid pc ls (st.map (qw_v X))).monitorRoom + ((rest.map (qw_v X)).map fun v => v.category).sum ≤ 8 := lv_room (by rw [qw_sum hf]; exact hsum)
  rcases hlk with hlk | hlk
  · exact qp_go C (F := F) hmono hS hl hc hz h (va_runS (As := as.map (qw_v X)) (rest := rest.map (qw_v X)) ⟨C.1, C.2.1, C.2.2.1, C.2.2.2.1, C.2.2.2.2.1⟩ hMet ⟨callB_of (qe_na F) C.2.2.2.2.1 (qk_goodF hF) rfl rfl rfl (C.2.2.2.2.1 _ f9) (C.2.2.2.2.1 _ hlk) ⟨f8.1, f8.2, f3⟩ hRR, C.2.2.2.2.1 _ (f10 hkd)⟩ ⟨qw_At.blind, fun U hU hW => ⟨rfl, hAt U hU hW⟩⟩ rfl (by simp [hlen]) hl.1 hst' hW hd ⟨by omega, by omega⟩)
  · have hn := C.2.2.2.2.2.2.1.2.2.2.2.2.2.1 _ hlk
    exact qp_go C (F := F) hmono hS hl hc hz h (va_runSN (As := as.map (qw_v X)) (rest := rest.map (qw_v X)) (host := "QuarterTurn") ⟨C.1, C.2.1, C.2.2.1, C.2.2.2.1, C.2.2.2.2.1⟩ hMet ⟨va_cnB (qe_na F) C.2.2.2.2.1 (qk_goodF hF) rfl rfl rfl hn (C.2.2.2.2.1 _ f9) ⟨f8.1, f8.2, f3⟩ hRR, C.2.2.2.2.1 _ (f10 hkd), trivial⟩ ⟨qw_At.blind, fun U hU hW => ⟨rfl, hAt U hU hW⟩⟩ rfl (by simp [hlen]) hl.1 hst' hW hd ⟨by omega, by omega⟩)
theorem qp_callV (C : qp_C p R s mid args meth c X E nL n0) {n d r cl : Nat} {F : qs_E} {as rest : List Value} {v : Option Value} {m2 : qs_M} (hR : d + 2 ≤ R.frames ∧ 64 * (d + 2) ≤ R.locals) (hF : qk_ent F = true) (hkd : qe_kd F = 1) (hlen : as.length = qe_na F) (hsum : qs_sum rest ≤ 8) (hlk : Jvm.Cond.methodLink (qe_own E) n (qe_y F) ∈ lw_gd ∨ (qe_own E, n, qe_y F) ∈ qk_nests) (hst : st = as.reverse ++ .ref r :: rest) (hcl : (vwCl[cl]?).map (fun q => q.1) = some (qe_y F).cls ∨ (cl = 90 ∧ (qe_y F).cls = "java/lang/String")) (hr : qs_kd m r = cl) (hd : decode (qe_b E) pc = .ok (.invokevirtual n, 3)) (hmono : qs_n m ≤ qs_n m2 ∧ qs_z m ≤ qs_z m2) (hMet : qc_Met X l d F (.ref r :: as) m v m2) (h : qp_K p l e R s mid args below meth c Q X nL n0 z0 (pc + 3) L (v.toList ++ rest) m2) : qp_At p l e R s mid args below meth c Q X nL n0 z0 pc L st m := by
  intro H locs cells slots ls hP hM hS hl hc hz
  obtain ⟨f1, f2, f3, f4, f5, f6, f7, f8, f9, -, f10, -⟩ := qk_ent_of hF
  have hk := h.1
  have hf := C.2.2.2.2.2.2.2.1.cat
  refine qp_size (fun hsz => ?_)
  have hAt := qp_at C hP hM hS hc hsz
  have hrecv : ∃ b : Nat, qw_v X (.ref r) = .ref b ∧ ∃ cellB : Cell, H[b]? = some cellB ∧ cellB.vm.isStatics = false ∧ s.vm.findClass (qe_y F).cls = some cellB.cls := by
    rcases hcl with hcl | ⟨rfl, hcl⟩
    · cases e9 : vwCl[cl]? with
      | none => rw [e9] at hcl; cases hcl
      | some q =>
        rw [e9] at hcl
        have e8 : q.1 = (qe_y F).cls := Option.some.inj hcl
        have ha := (qk_cls e9).1
        have hi := hM.in (k := r) (Or.inl (by omega))
        rw [← e8]
        exact ⟨_, qw_vr hi.1, va_recv C.2.2.2.2.2.1 hP e9 (q0 := qn_x r) (by rw [qw_at hi, qw_cell_o hr ha])⟩
    · obtain ⟨i, hi, rfl⟩ := hM.k90 hr
      obtain ⟨cell, g1, g2, g3, -⟩ := ((C.2.2.2.2.2.2.1.2.2.2.1 i hi).1).kept hS.2.1
      rw [hcl]
      exact ⟨_, qw_ve (by omega), cell, g1, g2, g3⟩
  obtain ⟨b, eb, hrecv⟩ := hrecv
  have hst' : (F0 mid pc ls (st.map (qw_v X))).stack = (as.map (qw_v X)).reverse ++ .ref b :: rest.map (qw_v X) := by
    show st.map (qw_v X) = _
    rw [hst, List.map_append, List.map_reverse, List.map_cons, eb]
  have hMet' : Met l (qe_y F) (.code (qe_y F) (qe_b F) (qe_ml F) (qe_rt F) :: lw_gd) { frames := d + 1, cells := qs_n m2 - qs_n m, slots := qs_z m2 - qs_z m, locals := 64 * (d + 1) } (va_Pc (.ref b :: as.map (qw_v X)) (qw_At X m)) (qc_Q X v m2) (qs_n m2 - qs_n m) (qs_z m2 - qs_z m) (qw_A X) := by
    have := hMet
    unfold qc_Met at this
    rw [List.map_cons, eb] at this
    exact this
  have hRR : (d + 1) + 1 ≤ R.frames ∧ 8 + (qe_ml F + 11) + 64 * (d + 1) ≤ R.locals := by omega
  have hW : 2 * (F0 mid pc ls (st.map (qw_v X))).monitorRoom + ((rest.map (qw_v X)).map fun v => v.category).sum ≤ 8 := lv_room (by rw [qw_sum hf]; exact hsum)
  rcases hlk with hlk | hlk
  · exact qp_go C (F := F) hmono hS hl hc hz h (va_runV (As := as.map (qw_v X)) (rest := rest.map (qw_v X)) ⟨C.1, C.2.1, C.2.2.1, C.2.2.2.1, C.2.2.2.2.1⟩ hMet' ⟨callB_of (qe_na F) C.2.2.2.2.1 (qk_goodF hF) rfl rfl rfl (C.2.2.2.2.1 _ f9) (C.2.2.2.2.1 _ hlk) ⟨f8.1, f8.2, f3⟩ hRR, C.2.2.2.2.1 _ (f10 hkd).1, C.2.2.2.2.1 _ (f10 hkd).2⟩ ⟨qw_At.blind, hrecv, fun U hU hW => ⟨rfl, hAt U hU hW⟩⟩ rfl (by simp [hlen]) hl.1 hst' hW hd ⟨by omega, by omega⟩)
  · have hn := C.2.2.2.2.2.2.1.2.2.2.2.2.2.1 _ hlk
    exact qp_go C (F := F) hmono hS hl hc hz h (va_runVN (As := as.map (qw_v X)) (rest := rest.map (qw_v X)) (host := "QuarterTurn") ⟨C.1, C.2.1, C.2.2.1, C.2.2.2.1, C.2.2.2.2.1⟩ hMet' ⟨va_cnB (qe_na F) C.2.2.2.2.1 (qk_goodF hF) rfl rfl rfl hn (C.2.2.2.2.1 _ f9) ⟨f8.1, f8.2, f3⟩ hRR, C.2.2.2.2.1 _ (f10 hkd).1, C.2.2.2.2.1 _ (f10 hkd).2⟩ ⟨qw_At.blind, hrecv, fun U hU hW => ⟨rfl, hAt U hU hW⟩⟩ rfl (by simp [hlen]) hl.1 hst' hW hd ⟨by omega, by omega⟩)
theorem qp_callI (C : qp_C p R s mid args meth c X E nL n0) {n d r : Nat} {F : qs_E} {as rest : List Value} {v : Option Value} {m2 : qs_M} (hR : d + 2 ≤ R.frames ∧ 64 * (d + 2) ≤ R.locals) (hF : qk_ent F = true) (hkd : qe_kd F = 2) (hrk : qe_rk F = 0) (hlen : as.length = qe_na F) (hsum : qs_sum rest ≤ 8) (hlk : Jvm.Cond.methodLink (qe_own E) n (qe_y F) ∈ lw_gd) (hst : st = as.reverse ++ .ref r :: rest) (hr : 16 ≤ r) (hd : decode (qe_b E) pc = .ok (.invokespecial n, 3)) (hmono : qs_n m ≤ qs_n m2 ∧ qs_z m ≤ qs_z m2) (hMet : qc_Met X l d F (.ref r :: as) m v m2) (h : qp_K p l e R s mid args below meth c Q X nL n0 z0 (pc + 3) L (v.toList ++ rest) m2) : qp_At p l e R s mid args below meth c Q X nL n0 z0 pc L st m := by
  intro H locs cells slots ls hP hM hS hl hc hz
  obtain ⟨f1, f2, f3, f4, f5, f6, f7, f8, f9, -, -, f10⟩ := qk_ent_of hF
  have hk := h.1
  have hf := C.2.2.2.2.2.2.2.1.cat
  refine qp_size (fun hsz => ?_)
  have hAt := qp_at C hP hM hS hc hsz
  have eb := qw_vr (X := X) hr
  have hrt : qe_rt F = none := by
    rw [hrk] at f5
    cases e9 : qe_rt F with
    | none => rfl
    | some t => rw [e9] at f5; cases f5
  have hst' : (F0 mid pc ls (st.map (qw_v X))).stack = (as.map (qw_v X)).reverse ++ .ref (qx_b X + (qn_x r)) :: rest.map (qw_v X) := by
    show st.map (qw_v X) = _
    rw [hst, List.map_append, List.map_reverse, List.map_cons, eb]
  have hMet' : Met l (qe_y F) (.code (qe_y F) (qe_b F) (qe_ml F) none :: lw_gd) { frames := d + 1, cells := qs_n m2 - qs_n m, slots := qs_z m2 - qs_z m, locals := 64 * (d + 1) } (va_Pc (.ref (qx_b X + (qn_x r)) :: as.map (qw_v X)) (qw_At X m)) (qc_Q X v m2) (qs_n m2 - qs_n m) (qs_z m2 - qs_z m) (qw_A X) := by
    have := hMet
    unfold qc_Met at this
    rw [List.map_cons, eb, hrt] at this
    exact this
  have hRR : (d + 1) + 1 ≤ R.frames ∧ 8 + (qe_ml F + 11) + 64 * (d + 1) ≤ R.locals := by omega
  have hW : 2 * (F0 mid pc ls (st.map (qw_v X))).monitorRoom + ((rest.map (qw_v X)).map fun v => v.category).sum ≤ 8 := lv_room (by rw [qw_sum hf]; exact hsum)
  have hG := qk_goodF hF
  rw [hrt] at hG
  exact qp_go C (F := F) hmono hS hl hc hz h (va_runI (As := as.map (qw_v X)) (rest := rest.map (qw_v X)) ⟨C.1, C.2.1, C.2.2.1, C.2.2.2.1, C.2.2.2.2.1⟩ hMet' ⟨callB_of (qe_na F) C.2.2.2.2.1 hG rfl rfl rfl (C.2.2.2.2.1 _ f9) (C.2.2.2.2.1 _ hlk) ⟨f8.1, f8.2, f3⟩ hRR, (f10 hkd).2, C.2.2.2.2.1 _ (f10 hkd).1⟩ ⟨qw_At.blind, fun U hU hW => ⟨rfl, hAt U hU hW⟩⟩ rfl (by simp [hlen]) hl.1 hst' hW hd ⟨by omega, by omega⟩)
end QPC
