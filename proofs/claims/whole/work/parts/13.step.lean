/-! A RUN OF THE SMALL MACHINE IS A RUN OF THE MACHINE -/
/-- the end of a method: with an answer, in a memory -/
def qp_RT (p : Program) (l : Launch) (e : Env) (R : Room) (s : State) (mid : MethodId) (args : Array Value) (below : List Frame) (meth : Method) (c : Code) (Q : State → Prop) (X : qw_X) (E : qs_E) (rk n0 z0 : Nat) (r : qs_R) : Prop :=
  ∀ (H : Heap) (locs : List Loc) (cells slots : Nat) (ls : Array Slot) (pc : Nat), va_P (qx_D X) vwCl (qw_ws X r.2) H → qw_M X r.2 → va_S (qw_A X) s.heap H locs → cells + n0 = qs_n r.2 → slots + z0 = qs_z r.2 →
    (r.1 = none → rk = 0 → decode (qe_b E) pc = .ok (.return_, 1) → W p l e R s mid args below meth c H locs cells slots Q (F0 mid pc ls [])) ∧
    ∀ x : Int32, r.1 = some (.int x) → (rk = 1 ∨ (rk = 2 ∧ (x = 0 ∨ x = 1)) ∨ (rk = 3 ∧ narrow .char (.int x) = .int x) ∨ (rk = 4 ∧ narrow .byte (.int x) = .int x)) → decode (qe_b E) pc = .ok (.ireturn, 1) → W p l e R s mid args below meth c H locs cells slots Q (F0 mid pc ls [.int x])
/-- a call: what it gives, by its contract, and how it goes on -/
def qp_CL (p : Program) (l : Launch) (e : Env) (R : Room) (s : State) (mid : MethodId) (args : Array Value) (below : List Frame) (meth : Method) (c : Code) (Q : State → Prop) (X : qw_X) (nL n0 z0 : Nat) (_ M' : Nat) (as : List Value) (m : qs_M) (pc : Nat) (L : qs_L) (rest : List Value) : Prop :=
  ∃ (d : Nat) (v : Option Value) (m2 : qs_M), (d + 2 ≤ R.frames ∧ 64 * (d + 2) ≤ R.locals) ∧ (qs_n m ≤ qs_n m2 ∧ qs_z m ≤ qs_z m2) ∧ (∀ F, qm_at M' = some F → M' < 224 → qc_Met X l d F as m v m2) ∧ qp_K p l e R s mid args below meth c Q X nL n0 z0 pc L (v.toList ++ rest) m2
section QPD
variable {p : Program} {l : Launch} {e : Env} {R : Room} {s : State} {mid : MethodId} {args : Array Value} {below : List Frame} {meth : Method} {c : Code} {Q : State → Prop} {X : qw_X} {E : qs_E} {nL n0 z0 : Nat}
variable {pc : Nat} {L : qs_L} {st : List Value} {m : qs_M}
/-- which methods are right -/
def qk_All : Prop := ∀ (M : Nat) (F : qs_E), M < 224 → qm_at M = some F → qk_ent F = true
theorem qk_lnk_of {own : String} {i : Nat} {y : MethodName} {pl : List Nat} (h : qk_lnk own i y pl = true) : Jvm.Cond.methodLink own i y ∈ lw_gd ∨ (own, i, y) ∈ qk_nests := by
  unfold qk_lnk at h
  split at h
  · exact Or.inl (qk_is_in h)
  · exact Or.inr (of_decide_eq_true h)
  · cases h
theorem qk_ty_of {c : Nat} {ty : FieldType} (h : qk_ty c ty = true) : (c = 0 → ty = .int) ∧ (c = 2 → ty = .boolean) := by
  unfold qk_ty at h
  split at h <;> first | exact ⟨fun _ => rfl, fun q => absurd q (by decide)⟩ | exact ⟨fun q => absurd q (by decide), fun _ => rfl⟩ | exact ⟨fun q => absurd q (by decide), fun q => absurd q (by decide)⟩ | cases h
set_option maxHeartbeats 8000000 in
theorem qp_step (C : qp_C p R s mid args meth c X E nL n0) (hA : qk_All) {i : Instr} {a b cc : Nat} {v : Int32} {sw : List (Int32 × Nat)} {pl : List Nat} (hr : qk_row E pc (i, a, b, cc, v, sw, pl) = true) (h : qs_stp (qe_rk E) False (qp_RT p l e R s mid args below meth c Q X E (qe_rk E) n0 z0) (qp_CL p l e R s mid args below meth c Q X nL n0 z0) (qp_K p l e R s mid args below meth c Q X nL n0 z0) pc L st m i a b cc v sw) : qp_At p l e R s mid args below meth c Q X nL n0 z0 pc L st m := by
  unfold qk_row at hr
  simp only [Bool.and_eq_true, decide_eq_true_eq] at hr
  obtain ⟨hd, hi⟩ := hr
  unfold qs_stp at h
  unfold qk_ins at hi
  have hml := C.2.2.2.2.2.2.2.2.2.2.2.1
  cases i with
  | iconst n => exact qp_iconst C (of_decide_eq_true hi) hd h
  | bipush n => exact qp_bipush C (of_decide_eq_true hi) hd h
  | sipush n => exact qp_sipush C (of_decide_eq_true hi) hd h
  | lconst n => exact qp_lconst C (of_decide_eq_true hi) hd h
  | ldc n =>
    cases a with
    | zero => exact qp_ldc C (qk_is_in hi) hd h
    | succ a =>
      simp only [Bool.and_eq_true, decide_eq_true_eq] at hi
      obtain ⟨⟨h1, h2⟩, h3⟩ := hi
      obtain ⟨q, rfl⟩ : ∃ q, a = q + 1 := ⟨a - 1, by omega⟩
      rw [show q + 1 + 1 - 2 = q by omega] at h3
      have h' : qp_K p l e R s mid args below meth c Q X nL n0 z0 (pc + 2) L (.ref (2 + q) :: st) m := by
        rw [show 2 + q = q + 1 + 1 by omega]
        exact h
      exact qp_ldcS C (by omega) h2 h3 hd h'
  | ldc_w n => exact qp_ldc_w C (qk_is_in hi) hd h
  | iload_n n =>
    dsimp only at h
    split at h
    · rename_i x hg
      exact qp_iload_n C (of_decide_eq_true hi) hg hd h
    · exact h.elim
  | iload n =>
    dsimp only at h
    split at h
    · rename_i x hg
      exact qp_iload C (of_decide_eq_true hi) hg hd h
    · exact h.elim
  | lload n =>
    dsimp only at h
    split at h
    · rename_i x hg
      exact qp_lload C (of_decide_eq_true hi) hg hd h
    · exact h.elim
  | aload_n n =>
    dsimp only at h
    split at h
    · rename_i x hg
      exact qp_aload_n C (of_decide_eq_true hi) hg hd h
    · exact h.elim
  | aload n =>
    dsimp only at h
    split at h
    · rename_i x hg
      exact qp_aload C (of_decide_eq_true hi) hg hd h
    · exact h.elim
  | istore_n n =>
    simp only [Bool.and_eq_true, decide_eq_true_eq] at hi
    dsimp only at h
    split at h
    · exact qp_istore_n C hi.1 (by omega) hd h
    · exact h.elim
  | istore n =>
    simp only [Bool.and_eq_true, decide_eq_true_eq] at hi
    dsimp only at h
    split at h
    · exact qp_istore C hi.1 (by omega) hd h
    · exact h.elim
  | astore_n n =>
    simp only [Bool.and_eq_true, decide_eq_true_eq] at hi
    dsimp only at h
    split at h
    · exact qp_astore_n C hi.1 (by omega) hd h
    · exact h.elim
  | astore n =>
    simp only [Bool.and_eq_true, decide_eq_true_eq] at hi
    dsimp only at h
    split at h
    · exact qp_astore C hi.1 (by omega) hd h
    · exact h.elim
  | lstore n =>
    simp only [Bool.and_eq_true, decide_eq_true_eq] at hi
    dsimp only at h
    split at h
    · exact qp_lstore C hi.1 (by omega) hd h
    · exact h.elim
  | iinc n k =>
    simp only [Bool.and_eq_true, decide_eq_true_eq] at hi
    dsimp only at h
    split at h
    · rename_i x hg
      exact qp_iinc C hi.1.1 hi.1.2 (by omega) hg hd h
    · exact h.elim
  | iadd =>
    dsimp only at h
    split at h
    · exact qp_iadd C hd h
    · exact h.elim
  | isub =>
    dsimp only at h
    split at h
    · exact qp_isub C hd h
    · exact h.elim
  | imul =>
    dsimp only at h
    split at h
    · exact qp_imul C hd h
    · exact h.elim
  | iand =>
    dsimp only at h
    split at h
    · exact qp_iand C hd h
    · exact h.elim
  | ior =>
    dsimp only at h
    split at h
    · exact qp_ior C hd h
    · exact h.elim
  | ishl =>
    dsimp only at h
    split at h
    · exact qp_ishl C hd h
    · exact h.elim
  | ishr =>
    dsimp only at h
    split at h
    · exact qp_ishr C hd h
    · exact h.elim
  | iushr =>
    dsimp only at h
    split at h
    · exact qp_iushr C hd h
    · exact h.elim
  | ineg =>
    dsimp only at h
    split at h
    · exact qp_ineg C hd h
    · exact h.elim
  | i2c =>
    dsimp only at h
    split at h
    · exact qp_i2c C hd h
    · exact h.elim
  | i2s =>
    dsimp only at h
    split at h
    · exact qp_i2s C hd h
    · exact h.elim
  | i2b =>
    dsimp only at h
    split at h
    · exact qp_i2b C hd h
    · exact h.elim
  | i2l =>
    dsimp only at h
    split at h
    · exact qp_i2l C hd h
    · exact h.elim
  | l2i =>
    dsimp only at h
    split at h
    · exact qp_l2i C hd h
    · exact h.elim
  | ladd =>
    dsimp only at h
    split at h
    · exact qp_ladd C hd h
    · exact h.elim
  | lsub =>
    dsimp only at h
    split at h
    · exact qp_lsub C hd h
    · exact h.elim
  | lneg =>
    dsimp only at h
    split at h
    · exact qp_lneg C hd h
    · exact h.elim
  | lcmp =>
    dsimp only at h
    split at h
    · exact qp_lcmp C hd h
    · exact h.elim
  | idiv =>
    dsimp only at h
    split at h
    · split at h
      · exact h.elim
      · rename_i hy
        exact qp_idiv C hy hd h
    · exact h.elim
  | irem =>
    dsimp only at h
    split at h
    · split at h
      · exact h.elim
      · rename_i hy
        exact qp_irem C hy hd h
    · exact h.elim
  | dup =>
    dsimp only at h
    split at h
    · split at h
      · rename_i hy
        exact qp_dup C hy hd h
      · exact h.elim
    · exact h.elim
  | pop =>
    dsimp only at h
    split at h
    · split at h
      · rename_i hy
        exact qp_pop C hy hd h
      · exact h.elim
    · exact h.elim
  | dup2 =>
    dsimp only at h
    split at h
    · split at h
      · rename_i hy
        exact qp_dup2 C hy hd h
      · exact h.elim
    · exact h.elim
  | ifCond cd o =>
    have ht := of_decide_eq_true hi
    dsimp only at h
    split at h
    · cases cd with
      | eq => exact qp_if_eq C ht hd h
      | ne => exact qp_if_ne C ht hd h
      | lt => exact qp_if_lt C ht hd h
      | ge => exact qp_if_ge C ht hd h
      | gt => exact qp_if_gt C ht hd h
      | le => exact qp_if_le C ht hd h
    · exact h.elim
  | if_icmp cd o =>
    have ht := of_decide_eq_true hi
    dsimp only at h
    split at h
    · cases cd with
      | eq => exact qp_icmp_eq C ht hd h
      | ne => exact qp_icmp_ne C ht hd h
      | lt => exact qp_icmp_lt C ht hd h
      | ge => exact qp_icmp_ge C ht hd h
      | gt => exact qp_icmp_gt C ht hd h
      | le => exact qp_icmp_le C ht hd h
    · exact h.elim
  | goto o => exact qp_goto C (of_decide_eq_true hi) hd h
  | tableswitch d lo hi2 offs =>
    simp only [Bool.and_eq_true, decide_eq_true_eq] at hi
    dsimp only at h
    split at h
    · exact qp_table C hi.1.1 hi.1.2 hi.2 hd h
    · exact h.elim
  | lookupswitch d ps =>
    simp only [Bool.and_eq_true, decide_eq_true_eq] at hi
    dsimp only at h
    split at h
    · exact qp_lookup C hi.1.1 hi.1.2 hi.2 hd h
    · exact h.elim
  | getfield n =>
    dsimp only at h hi
    split at hi
    · rename_i q hq
      simp only [Bool.and_eq_true, decide_eq_true_eq] at hi
      obtain ⟨⟨h1, h2⟩, h3⟩ := hi
      split at h
      · split at h
        · split at h
          · rename_i hk
            exact qp_get C hq h1 (qk_is_in h2) hk.1 (qw_sv_2 (by omega)) hd h
          · exact h.elim
        · split at h
          · rename_i hk
            exact qp_get C hq h1 (qk_is_in h2) hk.1 (qw_sv_0 hk.2) hd h
          · exact h.elim
      · exact h.elim
    · simp only [Bool.and_eq_true, Bool.or_eq_true, decide_eq_true_eq] at hi
      obtain ⟨rfl, hi⟩ := hi
      split at h
      · rcases hi with ⟨⟨rfl, rfl⟩, hi⟩ | ⟨⟨rfl, rfl⟩, hi⟩
        · split at h
          · split at h
            · rename_i hk
              exact qp_getS C hk.1 (Or.inl ⟨rfl, rfl, rfl, rfl⟩) (qk_is_in hi) hd h
            · exact h.elim
          · rename_i hne
            exact absurd rfl hne
        · split at h
          · rename_i hne
            cases hne
          · split at h
            · rename_i hk
              exact qp_getS C hk.1 (Or.inr ⟨rfl, rfl, rfl, rfl⟩) (qk_is_in hi) hd h
            · exact h.elim
      · exact h.elim
  | putfield n =>
    dsimp only at h hi
    split at hi
    · rename_i q hq
      simp only [Bool.and_eq_true, decide_eq_true_eq] at hi
      obtain ⟨⟨⟨h1, h2⟩, h3⟩, h4⟩ := hi
      split at h
      · split at h
        · split at h
          · rename_i hk
            have e9 := (qk_ty_of h3).1 rfl
            exact qp_put C hq h1 (qk_is_in h2) (of_decide_eq_true h4) hk.1 hk.2 (by rw [e9]; rfl) (by rw [e9]; rfl) hd h
          · exact h.elim
        · split at h
          · rename_i hk
            have e9 := (qk_ty_of h3).2 rfl
            exact qp_put C hq h1 (qk_is_in h2) (of_decide_eq_true h4) hk.1 hk.2.1 (by rw [e9]; rcases hk.2.2 with e8 | e8 <;> rw [e8] <;> rfl) (by rw [e9]; rcases hk.2.2 with e8 | e8 <;> rw [e8] <;> rfl) hd h
          · exact h.elim
        · exact h.elim
      · split at h
        · split at h
          · rename_i hk
            simp only [beq_self_eq_true, cond_true, Bool.and_eq_true, decide_eq_true_eq] at h4
            exact qp_putR C hq h1 (qk_is_in h2) h4.1.1 h4.1.2 h4.2 hk.1 hk.2.2 h3 hd h
          · exact h.elim
        · exact h.elim
      · exact h.elim
    · cases hi
  | getstatic n =>
    dsimp only at h hi
    cases a with
    | zero =>
      simp only [Bool.and_eq_true, decide_eq_true_eq] at hi
      obtain ⟨rfl, hi⟩ := hi
      intro H locs cells slots ls hP hM hS hl hc hz
      exact va_gets (own := qe_own E) C.1 C.2.1 C.2.2.2.2.2.2.1.2.2.2.2.1 hS C.2.2.2.1 (C.2.2.2.2.1 _ (qk_is_in hi)) (fun _ z => z) hd (h.2 H locs cells slots ls hP hM hS hl hc hz)
    | succ a =>
      cases a with
      | zero =>
        intro H locs cells slots ls hP hM hS hl hc hz
        have h1 := h.2 H locs cells slots ls hP hM hS hl hc hz
        rw [List.map_cons, qw_ve (k := 0 + 1) (by omega)] at h1
        exact va_gets (own := qe_own E) C.1 C.2.1 C.2.2.2.2.2.2.1.2.1 hS C.2.2.2.1 (C.2.2.2.2.1 _ (qk_is_in hi)) (fun _ z => z) hd h1
      | succ a =>
        simp only [Bool.and_eq_true, decide_eq_true_eq] at hi
        obtain ⟨ha, hi⟩ := hi
        obtain rfl : a = 12 := by omega
        intro H locs cells slots ls hP hM hS hl hc hz
        exact va_gets (own := qe_own E) C.1 C.2.1 C.2.2.2.2.2.2.1.2.2.2.2.2.1 hS C.2.2.2.1 (C.2.2.2.2.1 _ (qk_is_in hi)) (fun _ z => z) hd (h.2 H locs cells slots ls hP hM hS hl hc hz)
  | iaload =>
    dsimp only at h
    have h1 := of_decide_eq_true hi
    split at h
    · split at h
      · rename_i hk
        rcases h1 with rfl | rfl | rfl
        · exact qp_iald C hk.1 hk.2 hd h
        · exact qp_ialdX C hk.1 hk.2 hd h
        · intro H locs cells slots ls hP hM hS hl hc hz
          exact (hM.k26 hk.1).elim
      · exact h.elim
    · exact h.elim
  | baload =>
    dsimp only at h
    have h1 := of_decide_eq_true hi
    split at h
    · split at h
      · rename_i hk
        rcases h1 with rfl | rfl
        · exact qp_zald C hk.1 hk.2 hd h
        · exact qp_baldX C hk.1 hk.2 hd h
      · exact h.elim
    · exact h.elim
  | caload =>
    dsimp only at h
    split at h
    · split at h
      · rename_i hk
        exact qp_cald C hk.1 hk.2 hd h
      · exact h.elim
    · exact h.elim
  | laload =>
    dsimp only at h
    split at h
    · split at h
      · rename_i hk
        exact qp_lald C hk.1 hk.2 hd h
      · exact h.elim
    · exact h.elim
  | aaload =>
    dsimp only at h
    split at h
    · split at h
      · rename_i hk
        exact qp_aald C hk.1 hk.2.1 hk.2.2 hd h
      · exact h.elim
    · exact h.elim
  | iastore =>
    dsimp only at h
    split at h
    · split at h
      · rename_i hk
        exact qp_iast C hk.1 hk.2 hd h
      · exact h.elim
    · exact h.elim
  | bastore =>
    dsimp only at h
    split at h
    · split at h
      · rename_i hk
        exact qp_zast C hk.1.1 hk.1.2 hk.2 hd h
      · exact h.elim
    · exact h.elim
  | castore =>
    dsimp only at h
    split at h
    · split at h
      · rename_i hk
        exact qp_cast C hk.1.1 hk.1.2 hk.2 hd h
      · exact h.elim
    · exact h.elim
  | lastore =>
    dsimp only at h
    split at h
    · split at h
      · rename_i hk
        exact qp_last C hk.1 hk.2 hd h
      · exact h.elim
    · exact h.elim
  | aastore =>
    dsimp only at h
    split at h
    · split at h
      · rename_i hk
        exact qp_aast C hk.1 hk.2 hd h
      · exact h.elim
    · exact h.elim
  | arraylength =>
    dsimp only at h
    have h1 := of_decide_eq_true hi
    split at h
    · split at h
      · rename_i hk
        rcases h1 with rfl | rfl
        · exact qp_alen C hk hd h
        · intro H locs cells slots ls hP hM hS hl hc hz
          exact (hM.k26 hk).elim
      · exact h.elim
    · exact h.elim
  | new n =>
    dsimp only at h hi
    split at hi
    · rename_i q hq
      exact qp_new C hq (qk_is_in hi) hd h
    · cases hi
  | newarray t =>
    dsimp only at h
    have h1 := of_decide_eq_true hi
    split at h
    · split at h
      · rename_i hk
        exact qp_newa C h1 hk hd h
      · exact h.elim
    · exact h.elim
  | anewarray n =>
    dsimp only at h hi
    split at hi
    · rename_i q hq
      simp only [Bool.and_eq_true, decide_eq_true_eq] at hi
      split at h
      · split at h
        · rename_i hk
          exact qp_newq C hq hi.2 (qk_is_in hi.1.2) hk hd h
        · exact h.elim
      · exact h.elim
    · cases hi
  | invokestatic n =>
    dsimp only at h hi
    cases e0 : Nat.blt a 1000 with
    | true =>
      have ha : a < 1000 := by simpa [Nat.blt_eq] using e0
      rw [e0, cond_true] at h
      rw [show (a == 1001) = false by simp; omega, cond_false, show (a == 1002) = false by simp; omega, cond_false, show (a == 1003) = false by simp; omega, cond_false, show (a == 1004) = false by simp; omega, cond_false] at hi
      split at hi
      · rename_i F hF
        simp only [Bool.and_eq_true, decide_eq_true_eq] at hi
        obtain ⟨⟨⟨⟨h1, h2⟩, h3⟩, h4⟩, h5⟩ := hi
        split at h
        · rename_i as rest hp
          obtain ⟨lst, e1, e2, e3⟩ := qs_pop_eq _ _ _ _ _ hp
          rw [List.append_nil] at e1
          subst e1
          split at h
          · rename_i hs
            obtain ⟨d, v2, m2, g1, g2, g4, g5⟩ := h
            intro H locs cells slots ls hP hM
            exact qp_callS C g1 (hA a F h5 hF) h1 (by omega) hs.1 (qk_lnk_of h4) e2 hd g2 (g4 F hF h5) g5 H locs cells slots ls hP hM
          · exact h.elim
        · exact h.elim
      · cases hi
    | false =>
      have ha : 1000 ≤ a := by
        rcases Nat.lt_or_ge a 1000 with q | q
        · have : Nat.blt a 1000 = true := by simpa [Nat.blt_eq] using q
          rw [e0] at this
          cases this
        · exact q
      rw [e0, cond_false] at h
      cases e1 : (a == 1001) with
      | true =>
        rw [e1, cond_true] at h hi
        split at h
        · split at h
          · rename_i hk
            exact qp_copy C hk.1 hk.2.1 hk.2.2.1 hk.2.2.2 (qk_is_in hi) hd h
          · exact h.elim
        · exact h.elim
      | false =>
        rw [e1, cond_false] at h hi
        cases e2 : (a == 1002) with
        | true =>
          rw [e2, cond_true] at h hi
          split at h
          · split at h
            · rename_i hk
              exact qp_max C hk (qk_is_in hi) hd h
            · exact h.elim
          · exact h.elim
        | false =>
          rw [e2, cond_false] at h hi
          cases e3 : (a == 1003) with
          | true =>
            rw [e3, cond_true] at h hi
            split at h
            · split at h
              · rename_i hk
                exact qp_min C hk (qk_is_in hi) hd h
              · exact h.elim
            · exact h.elim
          | false =>
            rw [e3, cond_false] at h hi
            cases e4 : (a == 1004) with
            | true =>
              rw [e4, cond_true] at hi
              split at h
              · split at h
                · rename_i hk
                  exact qp_abs C hk (qk_is_in hi) hd h
                · exact h.elim
              · exact h.elim
            | false =>
              rw [e4, cond_false] at hi
              split at hi
              · simp only [Bool.and_eq_true, decide_eq_true_eq] at hi
                omega
              · cases hi
  | invokevirtual n =>
    dsimp only at h hi
    split at hi
    · rename_i F hF
      simp only [Bool.and_eq_true, Bool.or_eq_true, decide_eq_true_eq] at hi
      obtain ⟨⟨⟨⟨⟨h1, h2⟩, h3⟩, h4⟩, h5⟩, h6⟩ := hi
      split at h
      · rename_i as r rest hp
        obtain ⟨lst, e1, e2, e3⟩ := qs_pop_eq _ _ _ _ _ hp
        rw [List.append_nil] at e1
        subst e1
        split at h
        · rename_i hs
          split at h
          · rename_i hk
            obtain ⟨d, v2, m2, g1, g2, g4, g5⟩ := h
            intro H locs cells slots ls hP hM
            exact qp_callV C g1 (hA a F h5 hF) h1 (by omega) hs.1 (qk_lnk_of h4) e2 h6 hk hd g2 (g4 F hF h5) g5 H locs cells slots ls hP hM
          · exact h.elim
        · exact h.elim
      · exact h.elim
    · cases hi
  | invokespecial n =>
    dsimp only at h hi
    cases e0 : (a == 1000) with
    | true =>
      rw [e0, cond_true] at h hi
      split at h
      · split at h
        · rename_i hk
          exact qp_objI C hk.1 hk.2 (qk_is_in hi) hd h
        · exact h.elim
      · exact h.elim
    | false =>
      rw [e0, cond_false] at h hi
      split at hi
      · rename_i F hF
        simp only [Bool.and_eq_true, decide_eq_true_eq] at hi
        obtain ⟨⟨⟨⟨h1, h2⟩, h3⟩, h4⟩, h5⟩ := hi
        split at h
        · rename_i as r rest hp
          obtain ⟨lst, e1, e2, e3⟩ := qs_pop_eq _ _ _ _ _ hp
          rw [List.append_nil] at e1
          subst e1
          split at h
          · rename_i hs
            split at h
            · rename_i hk
              obtain ⟨d, v2, m2, g1, g2, g4, g5⟩ := h
              intro H locs cells slots ls hP hM
              exact qp_callI C g1 (hA a F h5 hF) h1 h3 (by omega) hs.1 (qk_is_in h4) e2 hk hd g2 (g4 F hF h5) g5 H locs cells slots ls hP hM
            · exact h.elim
          · exact h.elim
        · exact h.elim
      · cases hi
  | ireturn =>
    dsimp only at h
    split at h
    · rename_i x
      intro H locs cells slots ls hP hM hS hl hc hz
      split at h
      · rename_i hk
        exact (h H locs cells slots ls pc hP hM hS hc hz).2 x rfl (Or.inl hk) hd
      · rename_i hk
        split at h
        · rename_i hk2
          exact (h H locs cells slots ls pc hP hM hS hc hz).2 x rfl (Or.inr (Or.inl ⟨hk, hk2⟩)) hd
        · exact h.elim
      · rename_i hk
        split at h
        · rename_i hk2
          exact (h H locs cells slots ls pc hP hM hS hc hz).2 x rfl (Or.inr (Or.inr (Or.inl ⟨hk, hk2⟩))) hd
        · exact h.elim
      · rename_i hk
        split at h
        · rename_i hk2
          exact (h H locs cells slots ls pc hP hM hS hc hz).2 x rfl (Or.inr (Or.inr (Or.inr ⟨hk, hk2⟩))) hd
        · exact h.elim
      · exact h.elim
    · exact h.elim
  | return_ =>
    dsimp only at h
    split at h
    · rename_i hk
      intro H locs cells slots ls hP hM hS hl hc hz
      exact (h H locs cells slots ls pc hP hM hS hc hz).1 rfl hk hd
    · exact h.elim
  | _ => exact h.elim
end QPD
