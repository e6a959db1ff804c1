/-! ONE INSTRUCTION OF THE SMALL MACHINE IS ONE OF THE MACHINE -/
def qp_At (p : Program) (l : Launch) (e : Env) (R : Room) (s : State) (mid : MethodId) (args : Array Value) (below : List Frame) (meth : Method) (c : Code) (Q : State → Prop) (X : qw_X) (nL n0 z0 : Nat) (pc : Nat) (L : qs_L) (st : List Value) (m : qs_M) : Prop :=
  ∀ (H : Heap) (locs : List Loc) (cells slots : Nat) (ls : Array Slot), va_P (qx_D X) vwCl (qw_ws X m) H → qw_M X m → va_S (qw_A X) s.heap H locs → qw_L X ls nL L → cells + n0 = qs_n m → slots + z0 = qs_z m → W p l e R s mid args below meth c H locs cells slots Q (F0 mid pc ls (st.map (qw_v X)))
def qp_K (p : Program) (l : Launch) (e : Env) (R : Room) (s : State) (mid : MethodId) (args : Array Value) (below : List Frame) (meth : Method) (c : Code) (Q : State → Prop) (X : qw_X) (nL n0 z0 : Nat) (pc : Nat) (L : qs_L) (st : List Value) (m : qs_M) : Prop :=
  (qs_n m ≤ n0 + R.cells ∧ qs_z m ≤ z0 + R.slots) ∧ qp_At p l e R s mid args below meth c Q X nL n0 z0 pc L st m
def qp_C (p : Program) (R : Room) (s : State) (mid : MethodId) (args : Array Value) (meth : Method) (c : Code) (X : qw_X) (E : qs_E) (nL n0 : Nat) : Prop :=
  p.tables.exec = Jvm.exec ∧ c.code = qe_b E ∧ c.maxLocals = nL ∧ s.vm.findClass (qe_own E) = some mid.cls ∧ (∀ w ∈ lw_gd, w.before args s = true) ∧ qw_K X s ∧ qw_E X s s.heap ∧ qw_F X ∧ s.heap.size = qx_b X + n0 ∧ 1 ≤ R.frames ∧ 64 ≤ R.locals ∧ nL = qe_ml E ∧ ((qe_y E).name = "<init>" → meth.name = "<init>")
theorem qp_in {x : Int32} {n : Nat} (h : 0 ≤ x ∧ x.toNatClampNeg < n) : vp_in x n := by
  intro h2
  rcases h2 with h2 | h2
  · exact absurd h.1 (Int32.not_le.mpr h2)
  · omega
theorem qw_rv {X : qw_X} (h : qw_F X) (k : Nat) : qw_v X (.ref k) = .null ∨ ∃ q, qw_v X (.ref k) = .ref q := by
  unfold qw_v
  simp only
  split
  · exact h
  · exact Or.inr ⟨_, rfl⟩
section QPA
variable {p : Program} {l : Launch} {e : Env} {R : Room} {s : State} {mid : MethodId} {args : Array Value} {below : List Frame} {meth : Method} {c : Code} {Q : State → Prop} {X : qw_X} {E : qs_E} {nL n0 z0 : Nat}
variable {pc : Nat} {L : qs_L} {st : List Value} {m : qs_M}
theorem qp_iconst (C : qp_C p R s mid args meth c X E nL n0) {n : Int} {v : Int32} (hv : Int32.ofInt n = v) (hd : decode (qe_b E) pc = .ok (.iconst n, 1)) (h : qp_K p l e R s mid args below meth c Q X nL n0 z0 (pc + 1) L (.int v :: st) m) : qp_At p l e R s mid args below meth c Q X nL n0 z0 pc L st m :=
  fun H locs cells slots ls hP hM hS hl hc hz => lv_iconst (rest := st.map (qw_v X)) C.1 C.2.1 hd hv (h.2 H locs cells slots ls hP hM hS hl hc hz)
theorem qp_bipush (C : qp_C p R s mid args meth c X E nL n0) {n : Int} {v : Int32} (hv : (Int8.ofInt n).toInt32 = v) (hd : decode (qe_b E) pc = .ok (.bipush n, 2)) (h : qp_K p l e R s mid args below meth c Q X nL n0 z0 (pc + 2) L (.int v :: st) m) : qp_At p l e R s mid args below meth c Q X nL n0 z0 pc L st m :=
  fun H locs cells slots ls hP hM hS hl hc hz => lv_bipush (rest := st.map (qw_v X)) C.1 C.2.1 hd hv (h.2 H locs cells slots ls hP hM hS hl hc hz)
theorem qp_sipush (C : qp_C p R s mid args meth c X E nL n0) {n : Int} {v : Int32} (hv : (Int16.ofInt n).toInt32 = v) (hd : decode (qe_b E) pc = .ok (.sipush n, 3)) (h : qp_K p l e R s mid args below meth c Q X nL n0 z0 (pc + 3) L (.int v :: st) m) : qp_At p l e R s mid args below meth c Q X nL n0 z0 pc L st m :=
  fun H locs cells slots ls hP hM hS hl hc hz => lv_sipush (rest := st.map (qw_v X)) C.1 C.2.1 hd hv (h.2 H locs cells slots ls hP hM hS hl hc hz)
theorem qp_lconst (C : qp_C p R s mid args meth c X E nL n0) {n : Fin 2} (hv : (n : Nat) = 0) (hd : decode (qe_b E) pc = .ok (.lconst n, 1)) (h : qp_K p l e R s mid args below meth c Q X nL n0 z0 (pc + 1) L (.long 0 :: st) m) : qp_At p l e R s mid args below meth c Q X nL n0 z0 pc L st m :=
  fun H locs cells slots ls hP hM hS hl hc hz => lv_lconst (v := 0) (rest := st.map (qw_v X)) C.1 C.2.1 hd (by rw [hv]; rfl) (h.2 H locs cells slots ls hP hM hS hl hc hz)
theorem qp_ldc (C : qp_C p R s mid args meth c X E nL n0) {n : Nat} {v : Int32} (hv : Jvm.Cond.constant (qe_own E) n v ∈ lw_gd) (hd : decode (qe_b E) pc = .ok (.ldc n, 2)) (h : qp_K p l e R s mid args below meth c Q X nL n0 z0 (pc + 2) L (.int v :: st) m) : qp_At p l e R s mid args below meth c Q X nL n0 z0 pc L st m :=
  fun H locs cells slots ls hP hM hS hl hc hz => lv_ldc (rest := st.map (qw_v X)) C.1 C.2.1 C.2.2.2.1 (C.2.2.2.2.1 _ hv) hd (h.2 H locs cells slots ls hP hM hS hl hc hz)
theorem qp_ldc_w (C : qp_C p R s mid args meth c X E nL n0) {n : Nat} {v : Int32} (hv : Jvm.Cond.constant (qe_own E) n v ∈ lw_gd) (hd : decode (qe_b E) pc = .ok (.ldc_w n, 3)) (h : qp_K p l e R s mid args below meth c Q X nL n0 z0 (pc + 3) L (.int v :: st) m) : qp_At p l e R s mid args below meth c Q X nL n0 z0 pc L st m :=
  fun H locs cells slots ls hP hM hS hl hc hz => lv_ldcw (rest := st.map (qw_v X)) C.1 C.2.1 C.2.2.2.1 (C.2.2.2.2.1 _ hv) hd (h.2 H locs cells slots ls hP hM hS hl hc hz)
theorem qp_ldcS (C : qp_C p R s mid args meth c X E nL n0) {n i : Nat} (hi : i < 6) (ho : qe_own E = RX3) (hn : (qk_str i).1 = n) (hd : decode (qe_b E) pc = .ok (.ldc n, 2)) (h : qp_K p l e R s mid args below meth c Q X nL n0 z0 (pc + 2) L (.ref (2 + i) :: st) m) : qp_At p l e R s mid args below meth c Q X nL n0 z0 pc L st m :=
  fun H locs cells slots ls hP hM hS hl hc hz => by
    have h1 := h.2 H locs cells slots ls hP hM hS hl hc hz
    rw [List.map_cons, qw_ve (by omega)] at h1
    subst hn
    exact va_ldcS (own := qe_own E) (rest := st.map (qw_v X)) C.1 C.2.1 C.2.2.2.1 (by rw [ho]; exact ((C.2.2.2.2.2.2.1).2.2.2.1 i hi).2.2.2.2) hd h1
theorem qp_iload (C : qp_C p R s mid args meth c X E nL n0) {n a : Nat} {x : Int32} (ha : n = a) (hg : qs_get L a = some (.int x)) (hd : decode (qe_b E) pc = .ok (.iload n, 2)) (h : qp_K p l e R s mid args below meth c Q X nL n0 z0 (pc + 2) L (.int x :: st) m) : qp_At p l e R s mid args below meth c Q X nL n0 z0 pc L st m :=
  fun H locs cells slots ls hP hM hS hl hc hz => lv_iload (rest := st.map (qw_v X)) C.1 C.2.1 hd (by rw [ha]; exact hl.2.2.2 a _ hg) (h.2 H locs cells slots ls hP hM hS hl hc hz)
theorem qp_iload_n (C : qp_C p R s mid args meth c X E nL n0) {n : Fin 4} {a : Nat} {x : Int32} (ha : (n : Nat) = a) (hg : qs_get L a = some (.int x)) (hd : decode (qe_b E) pc = .ok (.iload_n n, 1)) (h : qp_K p l e R s mid args below meth c Q X nL n0 z0 (pc + 1) L (.int x :: st) m) : qp_At p l e R s mid args below meth c Q X nL n0 z0 pc L st m :=
  fun H locs cells slots ls hP hM hS hl hc hz => lv_iload_n (rest := st.map (qw_v X)) C.1 C.2.1 hd ha (hl.2.2.2 a _ hg) (h.2 H locs cells slots ls hP hM hS hl hc hz)
theorem qp_lload (C : qp_C p R s mid args meth c X E nL n0) {n a : Nat} {x : Int64} (ha : n = a) (hg : qs_get L a = some (.long x)) (hd : decode (qe_b E) pc = .ok (.lload n, 2)) (h : qp_K p l e R s mid args below meth c Q X nL n0 z0 (pc + 2) L (.long x :: st) m) : qp_At p l e R s mid args below meth c Q X nL n0 z0 pc L st m :=
  fun H locs cells slots ls hP hM hS hl hc hz => lv_lload (rest := st.map (qw_v X)) C.1 C.2.1 hd (by rw [ha]; exact hl.2.2.2 a _ hg) (h.2 H locs cells slots ls hP hM hS hl hc hz)
theorem qp_aload (C : qp_C p R s mid args meth c X E nL n0) {n a : Nat} {x : Nat} (ha : n = a) (hg : qs_get L a = some (.ref x)) (hd : decode (qe_b E) pc = .ok (.aload n, 2)) (h : qp_K p l e R s mid args below meth c Q X nL n0 z0 (pc + 2) L (.ref x :: st) m) : qp_At p l e R s mid args below meth c Q X nL n0 z0 pc L st m :=
  fun H locs cells slots ls hP hM hS hl hc hz => by
    have h1 := h.2 H locs cells slots ls hP hM hS hl hc hz
    have h2 := hl.2.2.2 a _ hg
    rw [List.map_cons] at h1
    rcases qw_rv C.2.2.2.2.2.2.2.1 x with e | ⟨q, e⟩
    · rw [e] at h1
      exact lv_aloadN (rest := st.map (qw_v X)) C.1 C.2.1 hd (by rw [ha, ← e]; exact h2) h1
    · rw [e] at h1
      exact lv_aload (rest := st.map (qw_v X)) C.1 C.2.1 hd (by rw [ha, ← e]; exact h2) h1
theorem qp_aload_n (C : qp_C p R s mid args meth c X E nL n0) {n : Fin 4} {a : Nat} {x : Nat} (ha : (n : Nat) = a) (hg : qs_get L a = some (.ref x)) (hd : decode (qe_b E) pc = .ok (.aload_n n, 1)) (h : qp_K p l e R s mid args below meth c Q X nL n0 z0 (pc + 1) L (.ref x :: st) m) : qp_At p l e R s mid args below meth c Q X nL n0 z0 pc L st m :=
  fun H locs cells slots ls hP hM hS hl hc hz => by
    have h1 := h.2 H locs cells slots ls hP hM hS hl hc hz
    have h2 := hl.2.2.2 a _ hg
    rw [List.map_cons] at h1
    rcases qw_rv C.2.2.2.2.2.2.2.1 x with e | ⟨q, e⟩
    · rw [e] at h1
      exact lv_aload_nN (rest := st.map (qw_v X)) C.1 C.2.1 hd ha (by rw [← e]; exact h2) h1
    · rw [e] at h1
      exact lv_aload_n (rest := st.map (qw_v X)) C.1 C.2.1 hd ha (by rw [← e]; exact h2) h1
theorem qp_istore (C : qp_C p R s mid args meth c X E nL n0) {n a : Nat} {x : Int32} (ha : n = a) (hn : a < nL) (hd : decode (qe_b E) pc = .ok (.istore n, 2)) (h : qp_K p l e R s mid args below meth c Q X nL n0 z0 (pc + 2) (qs_put L a (.int x)) st m) : qp_At p l e R s mid args below meth c Q X nL n0 z0 pc L (.int x :: st) m :=
  fun H locs cells slots ls hP hM hS hl hc hz => by
    have hf := C.2.2.2.2.2.2.2.1.cat
    subst ha
    exact lv_istore (rest := st.map (qw_v X)) C.1 C.2.1 hd hl.has hn rfl (fun ls' hl' => h.2 H locs cells slots ls' hP hM hS (hl.put (v := .int x) hf hl') hc hz)
theorem qp_istore_n (C : qp_C p R s mid args meth c X E nL n0) {n : Fin 4} {a : Nat} {x : Int32} (ha : (n : Nat) = a) (hn : a < nL) (hd : decode (qe_b E) pc = .ok (.istore_n n, 1)) (h : qp_K p l e R s mid args below meth c Q X nL n0 z0 (pc + 1) (qs_put L a (.int x)) st m) : qp_At p l e R s mid args below meth c Q X nL n0 z0 pc L (.int x :: st) m :=
  fun H locs cells slots ls hP hM hS hl hc hz => by
    have hf := C.2.2.2.2.2.2.2.1.cat
    exact lv_istore_n (rest := st.map (qw_v X)) C.1 C.2.1 hd ha hl.has hn rfl (fun ls' hl' => h.2 H locs cells slots ls' hP hM hS (hl.put (v := .int x) hf hl') hc hz)
theorem qp_astore (C : qp_C p R s mid args meth c X E nL n0) {n a : Nat} {x : Nat} (ha : n = a) (hn : a < nL) (hd : decode (qe_b E) pc = .ok (.astore n, 2)) (h : qp_K p l e R s mid args below meth c Q X nL n0 z0 (pc + 2) (qs_put L a (.ref x)) st m) : qp_At p l e R s mid args below meth c Q X nL n0 z0 pc L (.ref x :: st) m :=
  fun H locs cells slots ls hP hM hS hl hc hz => by
    have hf := C.2.2.2.2.2.2.2.1.cat
    subst ha
    have hp := fun (ls' : Array Slot) hl' => h.2 H locs cells slots ls' hP hM hS (hl.put (v := .ref x) hf hl') hc hz
    rw [List.map_cons]
    rcases qw_rv C.2.2.2.2.2.2.2.1 x with e | ⟨q, e⟩
    · rw [e] at hp ⊢
      exact lv_astoreN (rest := st.map (qw_v X)) C.1 C.2.1 hd hl.has hn rfl hp
    · rw [e] at hp ⊢
      exact lv_astore (rest := st.map (qw_v X)) C.1 C.2.1 hd hl.has hn rfl hp
theorem qp_astore_n (C : qp_C p R s mid args meth c X E nL n0) {n : Fin 4} {a : Nat} {x : Nat} (ha : (n : Nat) = a) (hn : a < nL) (hd : decode (qe_b E) pc = .ok (.astore_n n, 1)) (h : qp_K p l e R s mid args below meth c Q X nL n0 z0 (pc + 1) (qs_put L a (.ref x)) st m) : qp_At p l e R s mid args below meth c Q X nL n0 z0 pc L (.ref x :: st) m :=
  fun H locs cells slots ls hP hM hS hl hc hz => by
    have hf := C.2.2.2.2.2.2.2.1.cat
    have hp := fun (ls' : Array Slot) hl' => h.2 H locs cells slots ls' hP hM hS (hl.put (v := .ref x) hf hl') hc hz
    rw [List.map_cons]
    rcases qw_rv C.2.2.2.2.2.2.2.1 x with e | ⟨q, e⟩
    · rw [e] at hp ⊢
      exact lv_astore_nN (rest := st.map (qw_v X)) C.1 C.2.1 hd ha hl.has hn rfl hp
    · rw [e] at hp ⊢
      exact lv_astore_n (rest := st.map (qw_v X)) C.1 C.2.1 hd ha hl.has hn rfl hp
theorem qp_lstore (C : qp_C p R s mid args meth c X E nL n0) {n a : Nat} {x : Int64} (ha : n = a) (hn : a + 1 < nL) (hd : decode (qe_b E) pc = .ok (.lstore n, 2)) (h : qp_K p l e R s mid args below meth c Q X nL n0 z0 (pc + 2) (qs_put2 L a (.long x)) st m) : qp_At p l e R s mid args below meth c Q X nL n0 z0 pc L (.long x :: st) m :=
  fun H locs cells slots ls hP hM hS hl hc hz => by
    have hf := C.2.2.2.2.2.2.2.1.cat
    subst ha
    exact lv_lstore (rest := st.map (qw_v X)) C.1 C.2.1 hd hl.has hn rfl (fun ls' hl' => h.2 H locs cells slots ls' hP hM hS (hl.put2 (v := .long x) hf hl') hc hz)
theorem qp_iinc (C : qp_C p R s mid args meth c X E nL n0) {n a : Nat} {k : Int} {x v : Int32} (ha : n = a) (hv : Int32.ofInt k = v) (hn : a < nL) (hg : qs_get L a = some (.int x)) (hd : decode (qe_b E) pc = .ok (.iinc n k, 3)) (h : qp_K p l e R s mid args below meth c Q X nL n0 z0 (pc + 3) (qs_put L a (.int (x + v))) st m) : qp_At p l e R s mid args below meth c Q X nL n0 z0 pc L st m :=
  fun H locs cells slots ls hP hM hS hl hc hz => by
    have hf := C.2.2.2.2.2.2.2.1.cat
    subst ha
    obtain ⟨q, hq⟩ := List.getElem?_of_mem (qw_as_in (X := X) hg)
    exact lv_iinc (rest := st.map (qw_v X)) C.1 C.2.1 hd hl.has hq (by rw [hv]) hn rfl (fun ls' hl' => h.2 H locs cells slots ls' hP hM hS (hl.put (v := .int (x + v)) hf hl') hc hz)
theorem qp_iadd (C : qp_C p R s mid args meth c X E nL n0) {x y : Int32} (hd : decode (qe_b E) pc = .ok (.iadd, 1)) (h : qp_K p l e R s mid args below meth c Q X nL n0 z0 (pc + 1) L (.int (x + y) :: st) m) : qp_At p l e R s mid args below meth c Q X nL n0 z0 pc L (.int y :: .int x :: st) m :=
  fun H locs cells slots ls hP hM hS hl hc hz => lv_iadd (x := x) (y := y) (rest := st.map (qw_v X)) C.1 C.2.1 hd (h.2 H locs cells slots ls hP hM hS hl hc hz)
theorem qp_isub (C : qp_C p R s mid args meth c X E nL n0) {x y : Int32} (hd : decode (qe_b E) pc = .ok (.isub, 1)) (h : qp_K p l e R s mid args below meth c Q X nL n0 z0 (pc + 1) L (.int (x - y) :: st) m) : qp_At p l e R s mid args below meth c Q X nL n0 z0 pc L (.int y :: .int x :: st) m :=
  fun H locs cells slots ls hP hM hS hl hc hz => lv_isub (x := x) (y := y) (rest := st.map (qw_v X)) C.1 C.2.1 hd (h.2 H locs cells slots ls hP hM hS hl hc hz)
theorem qp_imul (C : qp_C p R s mid args meth c X E nL n0) {x y : Int32} (hd : decode (qe_b E) pc = .ok (.imul, 1)) (h : qp_K p l e R s mid args below meth c Q X nL n0 z0 (pc + 1) L (.int (x * y) :: st) m) : qp_At p l e R s mid args below meth c Q X nL n0 z0 pc L (.int y :: .int x :: st) m :=
  fun H locs cells slots ls hP hM hS hl hc hz => lv_imul (x := x) (y := y) (rest := st.map (qw_v X)) C.1 C.2.1 hd (h.2 H locs cells slots ls hP hM hS hl hc hz)
theorem qp_iand (C : qp_C p R s mid args meth c X E nL n0) {x y : Int32} (hd : decode (qe_b E) pc = .ok (.iand, 1)) (h : qp_K p l e R s mid args below meth c Q X nL n0 z0 (pc + 1) L (.int (x &&& y) :: st) m) : qp_At p l e R s mid args below meth c Q X nL n0 z0 pc L (.int y :: .int x :: st) m :=
  fun H locs cells slots ls hP hM hS hl hc hz => lv_iand (x := x) (y := y) (rest := st.map (qw_v X)) C.1 C.2.1 hd (h.2 H locs cells slots ls hP hM hS hl hc hz)
theorem qp_ior (C : qp_C p R s mid args meth c X E nL n0) {x y : Int32} (hd : decode (qe_b E) pc = .ok (.ior, 1)) (h : qp_K p l e R s mid args below meth c Q X nL n0 z0 (pc + 1) L (.int (x ||| y) :: st) m) : qp_At p l e R s mid args below meth c Q X nL n0 z0 pc L (.int y :: .int x :: st) m :=
  fun H locs cells slots ls hP hM hS hl hc hz => lv_ior (x := x) (y := y) (rest := st.map (qw_v X)) C.1 C.2.1 hd (h.2 H locs cells slots ls hP hM hS hl hc hz)
theorem qp_ishl (C : qp_C p R s mid args meth c X E nL n0) {x y : Int32} (hd : decode (qe_b E) pc = .ok (.ishl, 1)) (h : qp_K p l e R s mid args below meth c Q X nL n0 z0 (pc + 1) L (.int (x <<< (y &&& 31)) :: st) m) : qp_At p l e R s mid args below meth c Q X nL n0 z0 pc L (.int y :: .int x :: st) m :=
  fun H locs cells slots ls hP hM hS hl hc hz => lv_ishl (x := x) (y := y) (rest := st.map (qw_v X)) C.1 C.2.1 hd (h.2 H locs cells slots ls hP hM hS hl hc hz)
theorem qp_ishr (C : qp_C p R s mid args meth c X E nL n0) {x y : Int32} (hd : decode (qe_b E) pc = .ok (.ishr, 1)) (h : qp_K p l e R s mid args below meth c Q X nL n0 z0 (pc + 1) L (.int (x >>> (y &&& 31)) :: st) m) : qp_At p l e R s mid args below meth c Q X nL n0 z0 pc L (.int y :: .int x :: st) m :=
  fun H locs cells slots ls hP hM hS hl hc hz => lv_ishr (x := x) (y := y) (rest := st.map (qw_v X)) C.1 C.2.1 hd (h.2 H locs cells slots ls hP hM hS hl hc hz)
theorem qp_iushr (C : qp_C p R s mid args meth c X E nL n0) {x y : Int32} (hd : decode (qe_b E) pc = .ok (.iushr, 1)) (h : qp_K p l e R s mid args below meth c Q X nL n0 z0 (pc + 1) L (.int (x.toUInt32 >>> (y.toUInt32 &&& Int32.toUInt32 31)).toInt32 :: st) m) : qp_At p l e R s mid args below meth c Q X nL n0 z0 pc L (.int y :: .int x :: st) m :=
  fun H locs cells slots ls hP hM hS hl hc hz => lv_iushr (x := x) (y := y) (rest := st.map (qw_v X)) C.1 C.2.1 hd rfl (h.2 H locs cells slots ls hP hM hS hl hc hz)
theorem qp_idiv (C : qp_C p R s mid args meth c X E nL n0) {x y : Int32} (hy : ¬ y = 0) (hd : decode (qe_b E) pc = .ok (.idiv, 1)) (h : qp_K p l e R s mid args below meth c Q X nL n0 z0 (pc + 1) L (.int (x / y) :: st) m) : qp_At p l e R s mid args below meth c Q X nL n0 z0 pc L (.int y :: .int x :: st) m :=
  fun H locs cells slots ls hP hM hS hl hc hz => lv_idiv (x := x) (y := y) (rest := st.map (qw_v X)) C.1 C.2.1 hd hy (h.2 H locs cells slots ls hP hM hS hl hc hz)
theorem qp_irem (C : qp_C p R s mid args meth c X E nL n0) {x y : Int32} (hy : ¬ y = 0) (hd : decode (qe_b E) pc = .ok (.irem, 1)) (h : qp_K p l e R s mid args below meth c Q X nL n0 z0 (pc + 1) L (.int (x - x / y * y) :: st) m) : qp_At p l e R s mid args below meth c Q X nL n0 z0 pc L (.int y :: .int x :: st) m :=
  fun H locs cells slots ls hP hM hS hl hc hz => lv_irem (x := x) (y := y) (rest := st.map (qw_v X)) C.1 C.2.1 hd hy (h.2 H locs cells slots ls hP hM hS hl hc hz)
theorem qp_ineg (C : qp_C p R s mid args meth c X E nL n0) {x : Int32} (hd : decode (qe_b E) pc = .ok (.ineg, 1)) (h : qp_K p l e R s mid args below meth c Q X nL n0 z0 (pc + 1) L (.int (-x) :: st) m) : qp_At p l e R s mid args below meth c Q X nL n0 z0 pc L (.int x :: st) m :=
  fun H locs cells slots ls hP hM hS hl hc hz => lv_ineg (x := x) (rest := st.map (qw_v X)) C.1 C.2.1 hd (h.2 H locs cells slots ls hP hM hS hl hc hz)
theorem qp_i2c (C : qp_C p R s mid args meth c X E nL n0) {x : Int32} (hd : decode (qe_b E) pc = .ok (.i2c, 1)) (h : qp_K p l e R s mid args below meth c Q X nL n0 z0 (pc + 1) L (.int (x.toUInt32 % 65536).toInt32 :: st) m) : qp_At p l e R s mid args below meth c Q X nL n0 z0 pc L (.int x :: st) m :=
  fun H locs cells slots ls hP hM hS hl hc hz => lv_i2c (x := x) (rest := st.map (qw_v X)) C.1 C.2.1 hd rfl (h.2 H locs cells slots ls hP hM hS hl hc hz)
theorem qp_i2s (C : qp_C p R s mid args meth c X E nL n0) {x : Int32} (hd : decode (qe_b E) pc = .ok (.i2s, 1)) (h : qp_K p l e R s mid args below meth c Q X nL n0 z0 (pc + 1) L (.int x.toInt16.toInt32 :: st) m) : qp_At p l e R s mid args below meth c Q X nL n0 z0 pc L (.int x :: st) m :=
  fun H locs cells slots ls hP hM hS hl hc hz => lv_i2s (x := x) (rest := st.map (qw_v X)) C.1 C.2.1 hd rfl (h.2 H locs cells slots ls hP hM hS hl hc hz)
theorem qp_i2b (C : qp_C p R s mid args meth c X E nL n0) {x : Int32} (hd : decode (qe_b E) pc = .ok (.i2b, 1)) (h : qp_K p l e R s mid args below meth c Q X nL n0 z0 (pc + 1) L (.int x.toInt8.toInt32 :: st) m) : qp_At p l e R s mid args below meth c Q X nL n0 z0 pc L (.int x :: st) m :=
  fun H locs cells slots ls hP hM hS hl hc hz => lv_i2b (x := x) (rest := st.map (qw_v X)) C.1 C.2.1 hd rfl (h.2 H locs cells slots ls hP hM hS hl hc hz)
theorem qp_i2l (C : qp_C p R s mid args meth c X E nL n0) {x : Int32} (hd : decode (qe_b E) pc = .ok (.i2l, 1)) (h : qp_K p l e R s mid args below meth c Q X nL n0 z0 (pc + 1) L (.long x.toInt64 :: st) m) : qp_At p l e R s mid args below meth c Q X nL n0 z0 pc L (.int x :: st) m :=
  fun H locs cells slots ls hP hM hS hl hc hz => lv_i2l (x := x) (rest := st.map (qw_v X)) C.1 C.2.1 hd rfl (h.2 H locs cells slots ls hP hM hS hl hc hz)
theorem qp_l2i (C : qp_C p R s mid args meth c X E nL n0) {x : Int64} (hd : decode (qe_b E) pc = .ok (.l2i, 1)) (h : qp_K p l e R s mid args below meth c Q X nL n0 z0 (pc + 1) L (.int x.toInt32 :: st) m) : qp_At p l e R s mid args below meth c Q X nL n0 z0 pc L (.long x :: st) m :=
  fun H locs cells slots ls hP hM hS hl hc hz => lv_l2i (x := x) (rest := st.map (qw_v X)) C.1 C.2.1 hd rfl (h.2 H locs cells slots ls hP hM hS hl hc hz)
theorem qp_ladd (C : qp_C p R s mid args meth c X E nL n0) {x y : Int64} (hd : decode (qe_b E) pc = .ok (.ladd, 1)) (h : qp_K p l e R s mid args below meth c Q X nL n0 z0 (pc + 1) L (.long (x + y) :: st) m) : qp_At p l e R s mid args below meth c Q X nL n0 z0 pc L (.long y :: .long x :: st) m :=
  fun H locs cells slots ls hP hM hS hl hc hz => lv_ladd (x := x) (y := y) (rest := st.map (qw_v X)) C.1 C.2.1 hd (h.2 H locs cells slots ls hP hM hS hl hc hz)
theorem qp_lsub (C : qp_C p R s mid args meth c X E nL n0) {x y : Int64} (hd : decode (qe_b E) pc = .ok (.lsub, 1)) (h : qp_K p l e R s mid args below meth c Q X nL n0 z0 (pc + 1) L (.long (x - y) :: st) m) : qp_At p l e R s mid args below meth c Q X nL n0 z0 pc L (.long y :: .long x :: st) m :=
  fun H locs cells slots ls hP hM hS hl hc hz => lv_lsub (x := x) (y := y) (rest := st.map (qw_v X)) C.1 C.2.1 hd (h.2 H locs cells slots ls hP hM hS hl hc hz)
theorem qp_lneg (C : qp_C p R s mid args meth c X E nL n0) {x : Int64} (hd : decode (qe_b E) pc = .ok (.lneg, 1)) (h : qp_K p l e R s mid args below meth c Q X nL n0 z0 (pc + 1) L (.long (-x) :: st) m) : qp_At p l e R s mid args below meth c Q X nL n0 z0 pc L (.long x :: st) m :=
  fun H locs cells slots ls hP hM hS hl hc hz => lv_lneg (x := x) (rest := st.map (qw_v X)) C.1 C.2.1 hd (h.2 H locs cells slots ls hP hM hS hl hc hz)
theorem qp_lcmp (C : qp_C p R s mid args meth c X E nL n0) {x y : Int64} (hd : decode (qe_b E) pc = .ok (.lcmp, 1)) (h : qp_K p l e R s mid args below meth c Q X nL n0 z0 (pc + 1) L (.int (lg_cmp x y) :: st) m) : qp_At p l e R s mid args below meth c Q X nL n0 z0 pc L (.long y :: .long x :: st) m :=
  fun H locs cells slots ls hP hM hS hl hc hz => W.lcmp (x := x) (y := y) (rest := st.map (qw_v X)) C.1 C.2.1 hd (h.2 H locs cells slots ls hP hM hS hl hc hz)
theorem qp_dup (C : qp_C p R s mid args meth c X E nL n0) {x : Value} (hx : x.category = 1) (hd : decode (qe_b E) pc = .ok (.dup, 1)) (h : qp_K p l e R s mid args below meth c Q X nL n0 z0 (pc + 1) L (x :: x :: st) m) : qp_At p l e R s mid args below meth c Q X nL n0 z0 pc L (x :: st) m :=
  fun H locs cells slots ls hP hM hS hl hc hz => lv_dup (va := qw_v X x) (rest := st.map (qw_v X)) C.1 C.2.1 hd (by rw [qw_cat C.2.2.2.2.2.2.2.1.cat]; exact hx) (h.2 H locs cells slots ls hP hM hS hl hc hz)
theorem qp_pop (C : qp_C p R s mid args meth c X E nL n0) {x : Value} (hx : x.category = 1) (hd : decode (qe_b E) pc = .ok (.pop, 1)) (h : qp_K p l e R s mid args below meth c Q X nL n0 z0 (pc + 1) L st m) : qp_At p l e R s mid args below meth c Q X nL n0 z0 pc L (x :: st) m :=
  fun H locs cells slots ls hP hM hS hl hc hz => lv_pop (va := qw_v X x) (rest := st.map (qw_v X)) C.1 C.2.1 hd (by rw [qw_cat C.2.2.2.2.2.2.2.1.cat]; exact hx) (h.2 H locs cells slots ls hP hM hS hl hc hz)
theorem qp_dup2 (C : qp_C p R s mid args meth c X E nL n0) {x y : Value} (hx : x.category = 1 ∧ y.category = 1) (hd : decode (qe_b E) pc = .ok (.dup2, 1)) (h : qp_K p l e R s mid args below meth c Q X nL n0 z0 (pc + 1) L (x :: y :: x :: y :: st) m) : qp_At p l e R s mid args below meth c Q X nL n0 z0 pc L (x :: y :: st) m :=
  fun H locs cells slots ls hP hM hS hl hc hz => lv_dup2_11 (va := qw_v X x) (vb := qw_v X y) (rest := st.map (qw_v X)) C.1 C.2.1 hd (by rw [qw_cat C.2.2.2.2.2.2.2.1.cat]; exact hx.1) (by rw [qw_cat C.2.2.2.2.2.2.2.1.cat]; exact hx.2) (h.2 H locs cells slots ls hP hM hS hl hc hz)
theorem qp_if_eq (C : qp_C p R s mid args meth c X E nL n0) {x : Int32} {o : Int} {a : Nat} (ht : (pc : Int) + o = (a : Int)) (hd : decode (qe_b E) pc = .ok (.ifCond .eq o, 3)) (h : if x = 0 then qp_K p l e R s mid args below meth c Q X nL n0 z0 a L st m else qp_K p l e R s mid args below meth c Q X nL n0 z0 (pc + 3) L st m) : qp_At p l e R s mid args below meth c Q X nL n0 z0 pc L (.int x :: st) m :=
  fun H locs cells slots ls hP hM hS hl hc hz => lv_if_eq (x := x) (rest := st.map (qw_v X)) C.1 C.2.1 hd ht (fun q => by rw [if_pos q] at h; exact h.2 H locs cells slots ls hP hM hS hl hc hz) (fun q => by rw [if_neg q] at h; exact h.2 H locs cells slots ls hP hM hS hl hc hz)
theorem qp_if_ne (C : qp_C p R s mid args meth c X E nL n0) {x : Int32} {o : Int} {a : Nat} (ht : (pc : Int) + o = (a : Int)) (hd : decode (qe_b E) pc = .ok (.ifCond .ne o, 3)) (h : if x = 0 then qp_K p l e R s mid args below meth c Q X nL n0 z0 (pc + 3) L st m else qp_K p l e R s mid args below meth c Q X nL n0 z0 a L st m) : qp_At p l e R s mid args below meth c Q X nL n0 z0 pc L (.int x :: st) m :=
  fun H locs cells slots ls hP hM hS hl hc hz => lv_if_ne (x := x) (rest := st.map (qw_v X)) C.1 C.2.1 hd ht (fun q => by rw [if_neg q] at h; exact h.2 H locs cells slots ls hP hM hS hl hc hz) (fun q => by rw [if_pos q] at h; exact h.2 H locs cells slots ls hP hM hS hl hc hz)
theorem qp_if_lt (C : qp_C p R s mid args meth c X E nL n0) {x : Int32} {o : Int} {a : Nat} (ht : (pc : Int) + o = (a : Int)) (hd : decode (qe_b E) pc = .ok (.ifCond .lt o, 3)) (h : if x < 0 then qp_K p l e R s mid args below meth c Q X nL n0 z0 a L st m else qp_K p l e R s mid args below meth c Q X nL n0 z0 (pc + 3) L st m) : qp_At p l e R s mid args below meth c Q X nL n0 z0 pc L (.int x :: st) m :=
  fun H locs cells slots ls hP hM hS hl hc hz => lv_if_lt (x := x) (rest := st.map (qw_v X)) C.1 C.2.1 hd ht (fun q => by rw [if_pos q] at h; exact h.2 H locs cells slots ls hP hM hS hl hc hz) (fun q => by rw [if_neg q] at h; exact h.2 H locs cells slots ls hP hM hS hl hc hz)
theorem qp_if_ge (C : qp_C p R s mid args meth c X E nL n0) {x : Int32} {o : Int} {a : Nat} (ht : (pc : Int) + o = (a : Int)) (hd : decode (qe_b E) pc = .ok (.ifCond .ge o, 3)) (h : if 0 ≤ x then qp_K p l e R s mid args below meth c Q X nL n0 z0 a L st m else qp_K p l e R s mid args below meth c Q X nL n0 z0 (pc + 3) L st m) : qp_At p l e R s mid args below meth c Q X nL n0 z0 pc L (.int x :: st) m :=
  fun H locs cells slots ls hP hM hS hl hc hz => lv_if_ge (x := x) (rest := st.map (qw_v X)) C.1 C.2.1 hd ht (fun q => by rw [if_pos q] at h; exact h.2 H locs cells slots ls hP hM hS hl hc hz) (fun q => by rw [if_neg q] at h; exact h.2 H locs cells slots ls hP hM hS hl hc hz)
theorem qp_if_gt (C : qp_C p R s mid args meth c X E nL n0) {x : Int32} {o : Int} {a : Nat} (ht : (pc : Int) + o = (a : Int)) (hd : decode (qe_b E) pc = .ok (.ifCond .gt o, 3)) (h : if 0 < x then qp_K p l e R s mid args below meth c Q X nL n0 z0 a L st m else qp_K p l e R s mid args below meth c Q X nL n0 z0 (pc + 3) L st m) : qp_At p l e R s mid args below meth c Q X nL n0 z0 pc L (.int x :: st) m :=
  fun H locs cells slots ls hP hM hS hl hc hz => lv_if_gt (x := x) (rest := st.map (qw_v X)) C.1 C.2.1 hd ht (fun q => by rw [if_pos q] at h; exact h.2 H locs cells slots ls hP hM hS hl hc hz) (fun q => by rw [if_neg q] at h; exact h.2 H locs cells slots ls hP hM hS hl hc hz)
theorem qp_if_le (C : qp_C p R s mid args meth c X E nL n0) {x : Int32} {o : Int} {a : Nat} (ht : (pc : Int) + o = (a : Int)) (hd : decode (qe_b E) pc = .ok (.ifCond .le o, 3)) (h : if x ≤ 0 then qp_K p l e R s mid args below meth c Q X nL n0 z0 a L st m else qp_K p l e R s mid args below meth c Q X nL n0 z0 (pc + 3) L st m) : qp_At p l e R s mid args below meth c Q X nL n0 z0 pc L (.int x :: st) m :=
  fun H locs cells slots ls hP hM hS hl hc hz => lv_if_le (x := x) (rest := st.map (qw_v X)) C.1 C.2.1 hd ht (fun q => by rw [if_pos q] at h; exact h.2 H locs cells slots ls hP hM hS hl hc hz) (fun q => by rw [if_neg q] at h; exact h.2 H locs cells slots ls hP hM hS hl hc hz)
theorem qp_icmp_eq (C : qp_C p R s mid args meth c X E nL n0) {x y : Int32} {o : Int} {a : Nat} (ht : (pc : Int) + o = (a : Int)) (hd : decode (qe_b E) pc = .ok (.if_icmp .eq o, 3)) (h : if x = y then qp_K p l e R s mid args below meth c Q X nL n0 z0 a L st m else qp_K p l e R s mid args below meth c Q X nL n0 z0 (pc + 3) L st m) : qp_At p l e R s mid args below meth c Q X nL n0 z0 pc L (.int y :: .int x :: st) m :=
  fun H locs cells slots ls hP hM hS hl hc hz => lv_icmp_eq (x := x) (y := y) (rest := st.map (qw_v X)) C.1 C.2.1 hd ht (fun q => by rw [if_pos q] at h; exact h.2 H locs cells slots ls hP hM hS hl hc hz) (fun q => by rw [if_neg q] at h; exact h.2 H locs cells slots ls hP hM hS hl hc hz)
theorem qp_icmp_ne (C : qp_C p R s mid args meth c X E nL n0) {x y : Int32} {o : Int} {a : Nat} (ht : (pc : Int) + o = (a : Int)) (hd : decode (qe_b E) pc = .ok (.if_icmp .ne o, 3)) (h : if x = y then qp_K p l e R s mid args below meth c Q X nL n0 z0 (pc + 3) L st m else qp_K p l e R s mid args below meth c Q X nL n0 z0 a L st m) : qp_At p l e R s mid args below meth c Q X nL n0 z0 pc L (.int y :: .int x :: st) m :=
  fun H locs cells slots ls hP hM hS hl hc hz => lv_icmp_ne (x := x) (y := y) (rest := st.map (qw_v X)) C.1 C.2.1 hd ht (fun q => by rw [if_neg q] at h; exact h.2 H locs cells slots ls hP hM hS hl hc hz) (fun q => by rw [if_pos q] at h; exact h.2 H locs cells slots ls hP hM hS hl hc hz)
theorem qp_icmp_lt (C : qp_C p R s mid args meth c X E nL n0) {x y : Int32} {o : Int} {a : Nat} (ht : (pc : Int) + o = (a : Int)) (hd : decode (qe_b E) pc = .ok (.if_icmp .lt o, 3)) (h : if x < y then qp_K p l e R s mid args below meth c Q X nL n0 z0 a L st m else qp_K p l e R s mid args below meth c Q X nL n0 z0 (pc + 3) L st m) : qp_At p l e R s mid args below meth c Q X nL n0 z0 pc L (.int y :: .int x :: st) m :=
  fun H locs cells slots ls hP hM hS hl hc hz => lv_icmp_lt (x := x) (y := y) (rest := st.map (qw_v X)) C.1 C.2.1 hd ht (fun q => by rw [if_pos q] at h; exact h.2 H locs cells slots ls hP hM hS hl hc hz) (fun q => by rw [if_neg q] at h; exact h.2 H locs cells slots ls hP hM hS hl hc hz)
theorem qp_icmp_ge (C : qp_C p R s mid args meth c X E nL n0) {x y : Int32} {o : Int} {a : Nat} (ht : (pc : Int) + o = (a : Int)) (hd : decode (qe_b E) pc = .ok (.if_icmp .ge o, 3)) (h : if y ≤ x then qp_K p l e R s mid args below meth c Q X nL n0 z0 a L st m else qp_K p l e R s mid args below meth c Q X nL n0 z0 (pc + 3) L st m) : qp_At p l e R s mid args below meth c Q X nL n0 z0 pc L (.int y :: .int x :: st) m :=
  fun H locs cells slots ls hP hM hS hl hc hz => lv_icmp_ge (x := x) (y := y) (rest := st.map (qw_v X)) C.1 C.2.1 hd ht (fun q => by rw [if_pos q] at h; exact h.2 H locs cells slots ls hP hM hS hl hc hz) (fun q => by rw [if_neg q] at h; exact h.2 H locs cells slots ls hP hM hS hl hc hz)
theorem qp_icmp_gt (C : qp_C p R s mid args meth c X E nL n0) {x y : Int32} {o : Int} {a : Nat} (ht : (pc : Int) + o = (a : Int)) (hd : decode (qe_b E) pc = .ok (.if_icmp .gt o, 3)) (h : if y < x then qp_K p l e R s mid args below meth c Q X nL n0 z0 a L st m else qp_K p l e R s mid args below meth c Q X nL n0 z0 (pc + 3) L st m) : qp_At p l e R s mid args below meth c Q X nL n0 z0 pc L (.int y :: .int x :: st) m :=
  fun H locs cells slots ls hP hM hS hl hc hz => lv_icmp_gt (x := x) (y := y) (rest := st.map (qw_v X)) C.1 C.2.1 hd ht (fun q => by rw [if_pos q] at h; exact h.2 H locs cells slots ls hP hM hS hl hc hz) (fun q => by rw [if_neg q] at h; exact h.2 H locs cells slots ls hP hM hS hl hc hz)
theorem qp_icmp_le (C : qp_C p R s mid args meth c X E nL n0) {x y : Int32} {o : Int} {a : Nat} (ht : (pc : Int) + o = (a : Int)) (hd : decode (qe_b E) pc = .ok (.if_icmp .le o, 3)) (h : if x ≤ y then qp_K p l e R s mid args below meth c Q X nL n0 z0 a L st m else qp_K p l e R s mid args below meth c Q X nL n0 z0 (pc + 3) L st m) : qp_At p l e R s mid args below meth c Q X nL n0 z0 pc L (.int y :: .int x :: st) m :=
  fun H locs cells slots ls hP hM hS hl hc hz => lv_icmp_le (x := x) (y := y) (rest := st.map (qw_v X)) C.1 C.2.1 hd ht (fun q => by rw [if_pos q] at h; exact h.2 H locs cells slots ls hP hM hS hl hc hz) (fun q => by rw [if_neg q] at h; exact h.2 H locs cells slots ls hP hM hS hl hc hz)
theorem qp_goto (C : qp_C p R s mid args meth c X E nL n0) {o : Int} {a : Nat} (ht : (pc : Int) + o = (a : Int)) (hd : decode (qe_b E) pc = .ok (.goto o, 3)) (h : qp_K p l e R s mid args below meth c Q X nL n0 z0 a L st m) : qp_At p l e R s mid args below meth c Q X nL n0 z0 pc L st m :=
  fun H locs cells slots ls hP hM hS hl hc hz => lv_goto (rest := st.map (qw_v X)) C.1 C.2.1 hd ht (h.2 H locs cells slots ls hP hM hS hl hc hz)
end QPA
