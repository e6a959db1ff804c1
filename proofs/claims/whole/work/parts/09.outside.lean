/-! THE OUTSIDE: what the machine holds of it -/
def qw_K (X : qw_X) (U : State) : Prop := va_K (qx_D X) vwCl (qw_tys X) U
def qw_E (X : qw_X) (U : State) (H : Heap) : Prop :=
  va_T .int (qx_e X 0) (qx_L X) (fun j => .int (qx_xs X j)) (qw_A X) U H ∧
  va_Z "QuarterTurn" "UNDER" "[I" (.ref (qx_e X 1)) (qw_A X) U H ∧ va_T .int (qx_e X 1) 6 (fun j => .int (qw_un.getD j 0)) (qw_A X) U H ∧
  (∀ i, i < 6 → va_O "java/lang/String" (qx_e X (2 + i)) (qw_A X) U H ∧ va_OF "java/lang/String" "coder" "B" (.int 0) (qx_e X (2 + i)) (qw_A X) U H ∧ va_OF "java/lang/String" "value" "[B" (.ref (qx_e X (8 + i))) (qx_e X (2 + i)) (qw_A X) U H ∧ va_T .byte (qx_e X (8 + i)) (qk_str i).2.2.length (fun j => .int ((qk_str i).2.2.getD j 0)) (qw_A X) U H ∧ vk_R RX3 (qk_str i).1 (qk_str i).2.1 (qx_e X (2 + i)) U) ∧
  va_Z "java/lang/String" "COMPACT_STRINGS" "Z" (.int 1) (qw_A X) U H ∧
  va_Z "jdk/internal/util/Preconditions" "SIOOBE_FORMATTER" "Ljava/util/function/BiFunction;" (qx_f X) (qw_A X) U H ∧
  (∀ q ∈ qk_nests, va_Nw (.methodLinkNest q.1 q.2.1 q.2.2 "QuarterTurn") U) ∧ va_AO RX0 U ∧ va_AO RX4 U ∧ va_AO RX5 U ∧ va_AO RX6 U
theorem qw_E.kept {X : qw_X} {U : State} {H H1 : Heap} (h : qw_E X U H) (hq : ∀ a : Nat, a < H.size → ¬ qw_A X a → H1[a]? = H[a]?) : qw_E X U H1 := by
  obtain ⟨h1, h2, h3, h4, h5, h6, h7, h8, h9, h10, h11⟩ := h
  exact ⟨h1.kept hq, h2.kept hq, h3.kept hq, fun i hi => ⟨(h4 i hi).1.kept hq, (h4 i hi).2.1.kept hq, (h4 i hi).2.2.1.kept hq, (h4 i hi).2.2.2.1.kept hq, (h4 i hi).2.2.2.2⟩, h5.kept hq, h6.kept hq, h7, h8, h9, h10, h11⟩
theorem qw_E.warm {X : qw_X} {s U : State} {H : Heap} (hW : s.WarmedH U.vm) (h : qw_E X s H) : qw_E X U H := by
  obtain ⟨h1, h2, h3, h4, h5, h6, h7, h8, h9, h10, h11⟩ := h
  exact ⟨va_T.moved hW.alike h1, va_Z.moved hW.alike h2, va_T.moved hW.alike h3, fun i hi => ⟨va_O.moved hW.alike (h4 i hi).1, va_OF.moved hW.alike (h4 i hi).2.1, va_OF.moved hW.alike (h4 i hi).2.2.1, va_T.moved hW.alike (h4 i hi).2.2.2.1, (h4 i hi).2.2.2.2.warm hW⟩, va_Z.moved hW.alike h5, va_Z.moved hW.alike h6, fun q hq => va_Nw.warmM hW (h7 q hq), va_AO.moved hW.alike h8, va_AO.moved hW.alike h9, va_AO.moved hW.alike h10, va_AO.moved hW.alike h11⟩
theorem qw_E.same {X : qw_X} {u U : State} {H : Heap} (hv : U.vm = u.vm) (h : qw_E X u H) : qw_E X U H := by
  have hA : u.vm.Alike U.vm := by rw [hv]; exact Vm.Alike.refl _
  obtain ⟨h1, h2, h3, h4, h5, h6, h7, h8, h9, h10, h11⟩ := h
  exact ⟨va_T.moved hA h1, va_Z.moved hA h2, va_T.moved hA h3, fun i hi => ⟨va_O.moved hA (h4 i hi).1, va_OF.moved hA (h4 i hi).2.1, va_OF.moved hA (h4 i hi).2.2.1, va_T.moved hA (h4 i hi).2.2.2.1, (h4 i hi).2.2.2.2.same hv⟩, va_Z.moved hA h5, va_Z.moved hA h6, fun q hq => va_tabs rfl hv.symm (h7 q hq), va_AO.moved hA h8, va_AO.moved hA h9, va_AO.moved hA h10, va_AO.moved hA h11⟩
def qw_F (X : qw_X) : Prop := qx_f X = .null ∨ ∃ a, qx_f X = .ref a
theorem qw_F.cat {X : qw_X} (h : qw_F X) : (qx_f X).category = 1 := by
  rcases h with h | ⟨a, h⟩ <;> rw [h] <;> rfl
/-- a method's start -/
def qw_At (X : qw_X) (m : qs_M) (U : State) : Prop := U.heap.size = qx_b X + qs_n m ∧ va_P (qx_D X) vwCl (qw_ws X m) U.heap ∧ qw_K X U ∧ qw_E X U U.heap ∧ qw_M X m ∧ qw_F X
theorem qp_size {p : Program} {l : Launch} {e : Env} {R : Room} {s : State} {mid : MethodId} {args : Array Value} {below : List Frame} {meth : Method} {c : Code} {H : Heap} {locs : List Loc} {cells slots : Nat} {Q : State → Prop} {g : JFrame} (k : H.size ≤ s.heap.size + cells → W p l e R s mid args below meth c H locs cells slots Q g) : W p l e R s mid args below meth c H locs cells slots Q g := by
  intro T hT X
  refine k ?_ T hT X
  have h := X.same.2.2.1
  rw [← hT]
  exact h
theorem qw_lo {X : qw_X} {m : qs_M} {H : Heap} {D : va_G} (h : va_P D vwCl (qw_ws X m) H) (hb : qx_b X ≤ H.size) : qx_b X + qs_n m ≤ H.size := by
  rcases Nat.eq_zero_or_pos (qs_n m) with q | q
  · omega
  · have h1 := qw_at (X := X) (m := m) (k := qn_c (qs_n m - 1)) ⟨qn_16 _, by rw [qn_xc]; omega⟩
    rw [qn_xc] at h1
    have h2 := (h _ _ h1).lt
    simp only at h2
    omega
