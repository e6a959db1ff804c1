/-! THE WORLD: how a small memory lies in the machine's heap -/
/-- the classes' tables, the arrays' classes, the outside cells' addresses, the first new address, the script's length and ints, the JDK's thing -/
abbrev qw_X : Type := va_G × (Nat → ClassId) × (Nat → Nat) × Nat × Nat × (Nat → Int32) × Value
def qx_D (X : qw_X) : va_G := X.1
def qx_c (X : qw_X) : Nat → ClassId := X.2.1
def qx_e (X : qw_X) : Nat → Nat := X.2.2.1
def qx_b (X : qw_X) : Nat := X.2.2.2.1
def qx_L (X : qw_X) : Nat := X.2.2.2.2.1
def qx_xs (X : qw_X) : Nat → Int32 := X.2.2.2.2.2.1
def qx_f (X : qw_X) : Value := X.2.2.2.2.2.2
def qw_ad (X : qw_X) (k : Nat) : Nat := if k < 16 then qx_e X k else qx_b X + qn_x k
def qw_v (X : qw_X) : Value → Value
  | .ref k => if k = 14 then qx_f X else .ref (qw_ad X k)
  | v => v
def qw_A (X : qw_X) : Nat → Prop := fun q => qx_b X ≤ q
def qw_sv (X : qw_X) (m : qs_M) (k j : Nat) : Value := match qs_lk m k j with
  | 0 => .int (qs_i m k j)
  | 1 => .null
  | q + 2 => qw_v X (.ref q)
def qw_rf (X : qw_X) (x : Nat) : Option Nat := match x with
  | 0 => none
  | 1 => none
  | q + 2 => some (qw_ad X q)
def qw_cell (X : qw_X) (m : qs_M) (k : Nat) : va_E :=
  if qs_kd m k < 10 then .inr (qs_kd m k, (List.range (qs_nf (qs_kd m k))).map (qw_sv X m k))
  else if qs_kd m k = 23 then .inl (qx_c X 23, qs_sz m k, .inr (.inl (qs_l m k)))
  else if qs_kd m k < 30 then .inl (qx_c X (qs_kd m k), qs_sz m k, .inl (qs_i m k))
  else .inl (qx_c X (qs_kd m k), qs_sz m k, .inr (.inr (.inr (.inr (fun j => qw_rf X (qs_lk m k j))))))
def qw_ws (X : qw_X) (m : qs_M) : va_W := (List.range (qs_n m)).map (fun i => (qx_b X + i, qw_cell X m (qn_c i)))
def qw_tys (X : qw_X) : List (ClassId × FieldType) := [(qx_c X 20, .int), (qx_c X 21, .boolean), (qx_c X 22, .char), (qx_c X 23, .long), (qx_c X 30, .object RX0), (qx_c X 34, .object RX4), (qx_c X 35, .object RX5), (qx_c X 36, .object RX6)]
def qw_un : List Int32 := [-1, 0, 0, 1, 2, 0]
/-- what the outside cells hold in the small memory -/
def qw_Mx (X : qw_X) (m : qs_M) : Prop :=
  qs_kd m 0 = 99 ∧
  (qs_kd m 1 = 25 ∧ qs_sz m 1 = 6 ∧ ∀ j, j < 6 → qs_i m 1 j = qw_un.getD j 0) ∧
  (∀ i, i < 6 → qs_kd m (2 + i) = 90 ∧ qs_lk m (2 + i) 0 = 8 + i + 2 ∧ qs_lk m (2 + i) 1 = 0 ∧ qs_i m (2 + i) 1 = 0) ∧
  (∀ i, i < 6 → qs_kd m (8 + i) = 24 ∧ qs_sz m (8 + i) = (qk_str i).2.2.length ∧ ∀ j, j < (qk_str i).2.2.length → qs_i m (8 + i) j = (qk_str i).2.2.getD j 0) ∧
  qs_kd m 14 = 99 ∧ qs_kd m 15 = 99
def qw_okk (t : Nat) : Prop := t < 10 ∨ (20 ≤ t ∧ t < 24) ∨ t = 30 ∨ t = 34 ∨ t = 35 ∨ t = 36
def qw_M (X : qw_X) (m : qs_M) : Prop := qw_Mx X m ∧ (∀ k, 16 ≤ k → qs_n m ≤ qn_x k → qs_kd m k = 100) ∧ ∀ k, 16 ≤ k → qn_x k < qs_n m → qw_okk (qs_kd m k)
theorem qw_Mx.moved {X : qw_X} {m m' : qs_M} (h : qw_Mx X m) (hk : ∀ k, k < 16 → qs_kd m' k = qs_kd m k ∧ qs_sz m' k = qs_sz m k ∧ (∀ j, qs_lk m' k j = qs_lk m k j) ∧ ∀ j, qs_i m' k j = qs_i m k j) : qw_Mx X m' := by
  obtain ⟨a1, ⟨b1, b2, b3⟩, c, d, e1, e2⟩ := h
  refine ⟨?_, ⟨?_, ?_, ?_⟩, ?_, ?_, ?_, ?_⟩
  · rw [(hk 0 (by omega)).1]; exact a1
  · rw [(hk 1 (by omega)).1]; exact b1
  · rw [(hk 1 (by omega)).2.1]; exact b2
  · intro j hj; rw [(hk 1 (by omega)).2.2.2]; exact b3 j hj
  · intro i hi
    obtain ⟨h1, h2, h3, h4⟩ := hk (2 + i) (by omega)
    rw [h1, h3, h3, h4]; exact c i hi
  · intro i hi
    obtain ⟨h1, h2, h3, h4⟩ := hk (8 + i) (by omega)
    rw [h1, h2]
    exact ⟨(d i hi).1, (d i hi).2.1, fun j hj => by rw [h4]; exact (d i hi).2.2 j hj⟩
  · rw [(hk 14 (by omega)).1]; exact e1
  · rw [(hk 15 (by omega)).1]; exact e2
theorem qw_M.ext {X : qw_X} {m : qs_M} (h : qw_M X m) {k : Nat} (hk : k < 16) : qs_kd m k = 25 ∨ qs_kd m k = 90 ∨ qs_kd m k = 24 ∨ qs_kd m k = 99 := by
  obtain ⟨⟨a1, ⟨b1, -⟩, c, d, e1, e2⟩, -⟩ := h
  rcases (by omega : k = 0 ∨ k = 1 ∨ (2 ≤ k ∧ k < 8) ∨ (8 ≤ k ∧ k < 14) ∨ k = 14 ∨ k = 15) with rfl | rfl | ⟨h1, h2⟩ | ⟨h1, h2⟩ | rfl | rfl
  · exact Or.inr (Or.inr (Or.inr a1))
  · exact Or.inl b1
  · have := (c (k - 2) (by omega)).1
    rw [show 2 + (k - 2) = k by omega] at this
    exact Or.inr (Or.inl this)
  · have := (d (k - 8) (by omega)).1
    rw [show 8 + (k - 8) = k by omega] at this
    exact Or.inr (Or.inr (Or.inl this))
  · exact Or.inr (Or.inr (Or.inr e1))
  · exact Or.inr (Or.inr (Or.inr e2))
/-- a cell of a made kind was made -/
theorem qw_M.in {X : qw_X} {m : qs_M} (h : qw_M X m) {k : Nat} (hk : qs_kd m k < 24 ∨ (30 ≤ qs_kd m k ∧ qs_kd m k < 40)) : 16 ≤ k ∧ qn_x k < qs_n m := by
  have h1 : 16 ≤ k := by
    rcases Nat.lt_or_ge k 16 with q | q
    · rcases h.ext q with e | e | e | e <;> rw [e] at hk <;> omega
    · exact q
  refine ⟨h1, ?_⟩
  rcases Nat.lt_or_ge (qn_x k) (qs_n m) with q | q
  · exact q
  · rw [h.2.1 k h1 q] at hk; omega
theorem qw_at {X : qw_X} {m : qs_M} {k : Nat} (h : 16 ≤ k ∧ qn_x k < qs_n m) : (qw_ws X m)[qn_x k]? = some (qx_b X + qn_x k, qw_cell X m k) := by
  unfold qw_ws
  rw [List.getElem?_map, List.getElem?_range h.2]
  show some (qx_b X + qn_x k, qw_cell X m (qn_c (qn_x k))) = _
  rw [qn_cx h.1]
theorem qw_vr {X : qw_X} {k : Nat} (h : 16 ≤ k) : qw_v X (.ref k) = .ref (qx_b X + qn_x k) := by
  show (if k = 14 then qx_f X else Value.ref (if k < 16 then qx_e X k else qx_b X + qn_x k)) = _
  rw [if_neg (show ¬ k = 14 by omega), if_neg (show ¬ k < 16 by omega)]
theorem qw_vi {X : qw_X} (x : Int32) : qw_v X (.int x) = .int x := rfl
theorem qw_vl {X : qw_X} (x : Int64) : qw_v X (.long x) = .long x := rfl
theorem qw_ve {X : qw_X} {k : Nat} (h : k < 14) : qw_v X (.ref k) = .ref (qx_e X k) := by
  show (if k = 14 then qx_f X else Value.ref (if k < 16 then qx_e X k else qx_b X + qn_x k)) = _
  rw [if_neg (show ¬ k = 14 by omega), if_pos (show k < 16 by omega)]
theorem qw_D {X : qw_X} {m : qs_M} : va_D (qw_A X) (qw_ws X m) := by
  have key : ∀ (k : Nat) (q : Nat × va_E), (qw_ws X m)[k]? = some q → q.1 = qx_b X + k := by
    intro k q h
    unfold qw_ws at h
    rw [List.getElem?_map] at h
    rcases Nat.lt_or_ge k (qs_n m) with hk | hk
    · rw [List.getElem?_range hk] at h
      cases h
      rfl
    · rw [List.getElem?_eq_none (by simpa using hk)] at h
      cases h
  refine ⟨fun i j p q hi hj e => ?_, fun k q hk => ?_⟩
  · rw [key i p hi, key j q hj] at e
    omega
  · show qx_b X ≤ q.1
    rw [key k q hk]
    omega
theorem qw_len {X : qw_X} {m : qs_M} : (qw_ws X m).length = qs_n m := by simp [qw_ws]
/-- one cell is another: the list is set at its place -/
theorem qw_set {X : qw_X} {m m' : qs_M} {k : Nat} {e : va_E} (hk : 16 ≤ k ∧ qn_x k < qs_n m) (hn : qs_n m' = qs_n m) (he : qw_cell X m' k = e) (ho : ∀ q, 16 ≤ q → q ≠ k → qw_cell X m' q = qw_cell X m q) : (qw_ws X m).set (qn_x k) (qx_b X + qn_x k, e) = qw_ws X m' := by
  apply List.ext_getElem?
  intro i
  by_cases hi : i = qn_x k
  · subst hi
    rw [List.getElem?_set_self (by rw [qw_len]; exact hk.2), qw_at ⟨hk.1, by rw [hn]; exact hk.2⟩, he]
  · rw [List.getElem?_set_ne (Ne.symm hi)]
    rcases Nat.lt_or_ge i (qs_n m) with q | q
    · have h1 := qw_at (X := X) (m := m) (k := qn_c i) ⟨qn_16 i, by rw [qn_xc]; exact q⟩
      have h2 := qw_at (X := X) (m := m') (k := qn_c i) ⟨qn_16 i, by rw [qn_xc, hn]; exact q⟩
      rw [qn_xc] at h1 h2
      rw [h1, h2, ho (qn_c i) (qn_16 i) (fun z => hi (by rw [← z, qn_xc]))]
    · rw [List.getElem?_eq_none (by rw [qw_len]; exact q), List.getElem?_eq_none (by rw [qw_len, hn]; exact q)]
/-- one cell more -/
theorem qw_push {X : qw_X} {m m' : qs_M} {e : va_E} (hn : qs_n m' = qs_n m + 1) (he : qw_cell X m' (qn_c (qs_n m)) = e) (ho : ∀ q, 16 ≤ q → qn_x q < qs_n m → qw_cell X m' q = qw_cell X m q) : qw_ws X m ++ [(qx_b X + qs_n m, e)] = qw_ws X m' := by
  unfold qw_ws
  rw [hn, List.range_succ, List.map_append]
  congr 1
  · apply List.map_congr_left
    intro i hi
    rw [ho (qn_c i) (qn_16 i) (by rw [qn_xc]; exact List.mem_range.mp hi)]
  · simp [he]
/-- the locals of the machine hold the small machine's -/
def qw_L (X : qw_X) (ls : Array Slot) (nL : Nat) (L : qs_L) : Prop := ls.size = nL ∧ lv_wf ls ∧ L.length = nL ∧ ∀ i v, qs_get L i = some v → ls[i]? = some (.val (qw_v X v))
def qw_as (X : qw_X) (L : qs_L) : List (Nat × Value) := (List.range L.length).filterMap (fun i => (qs_get L i).map (fun v => (i, qw_v X v)))
theorem qs_get_lt : ∀ {L : qs_L} {i : Nat} {v : Value}, qs_get L i = some v → i < L.length
  | [], _, _, h => by cases h
  | _ :: _, 0, _, _ => Nat.zero_lt_succ _
  | _ :: r, i + 1, v, h => Nat.succ_lt_succ (qs_get_lt (L := r) h)
theorem qw_as_in {X : qw_X} {L : qs_L} {i : Nat} {v : Value} (h : qs_get L i = some v) : (i, qw_v X v) ∈ qw_as X L := by
  unfold qw_as
  rw [List.mem_filterMap]
  exact ⟨i, List.mem_range.mpr (qs_get_lt h), by rw [h]; rfl⟩
theorem qw_L.has {X : qw_X} {ls : Array Slot} {nL : Nat} {L : qs_L} (h : qw_L X ls nL L) : lv_has ls nL (qw_as X L) := by
  refine ⟨h.1, h.2.1, fun q hq => ?_⟩
  unfold qw_as at hq
  obtain ⟨i, -, hi⟩ := List.mem_filterMap.mp hq
  cases e : qs_get L i with
  | none => rw [e] at hi; cases hi
  | some v =>
    rw [e] at hi
    cases hi
    exact h.2.2.2 i v e
theorem qs_put_len : ∀ (L : qs_L) (i : Nat) (v : Value), (qs_put L i v).length = L.length
  | [], _, _ => by simp [qs_put]
  | _ :: r, 0, v => by simp [qs_put]
  | h :: r, 1, v => by simp [qs_put, qs_put_len r 0 v]
  | h :: r, n + 2, v => by simp [qs_put, qs_put_len r (n + 1) v]
theorem qs_put_get : ∀ (L : qs_L) (i j : Nat) (v w : Value), qs_get (qs_put L i v) j = some w → (j = i ∧ w = v) ∨ (j ≠ i ∧ qs_get L j = some w ∧ ¬ (j + 1 = i ∧ qs_w2 (some w) = true))
  | [], i, j, v, w, h => by simp [qs_put, qs_get] at h
  | _ :: r, 0, 0, v, w, h => by simp [qs_put, qs_get] at h; exact Or.inl ⟨rfl, h.symm⟩
  | _ :: r, 0, j + 1, v, w, h => by simp [qs_put, qs_get] at h; exact Or.inr ⟨by omega, h, by omega⟩
  | h0 :: r, 1, 0, v, w, h => by
    simp [qs_put, qs_get] at h
    cases e : qs_w2 h0 with
    | true => rw [e] at h; cases h
    | false =>
      rw [e] at h
      simp at h
      subst h
      exact Or.inr ⟨by omega, rfl, by rw [e]; simp⟩
  | h0 :: r, 1, j + 1, v, w, h => by
    simp [qs_put, qs_get] at h
    rcases qs_put_get r 0 j v w h with ⟨h1, h2⟩ | ⟨h1, h2, h3⟩
    · exact Or.inl ⟨by omega, h2⟩
    · exact Or.inr ⟨by omega, h2, by omega⟩
  | h0 :: r, n + 2, 0, v, w, h => by
    simp [qs_put, qs_get] at h
    exact Or.inr ⟨by omega, h, by omega⟩
  | h0 :: r, n + 2, j + 1, v, w, h => by
    simp [qs_put, qs_get] at h
    rcases qs_put_get r (n + 1) j v w h with ⟨h1, h2⟩ | ⟨h1, h2, h3⟩
    · exact Or.inl ⟨by omega, h2⟩
    · exact Or.inr ⟨by omega, h2, fun q => h3 ⟨by omega, q.2⟩⟩
theorem qs_clr_len (L : qs_L) : (qs_clr L).length = L.length := by cases L <;> simp [qs_clr]
theorem qs_clr_get (L : qs_L) (j : Nat) (w : Value) (h : qs_get (qs_clr L) j = some w) : j ≠ 0 ∧ qs_get L j = some w := by
  cases L with
  | nil => cases h
  | cons a r =>
    cases j with
    | zero => cases h
    | succ j => exact ⟨by omega, h⟩
theorem qs_put2_len : ∀ (L : qs_L) (i : Nat) (v : Value), (qs_put2 L i v).length = L.length
  | [], _, _ => by simp [qs_put2]
  | _ :: r, 0, v => by simp [qs_put2, qs_clr_len]
  | h :: r, 1, v => by simp [qs_put2, qs_put2_len r 0 v]
  | h :: r, n + 2, v => by simp [qs_put2, qs_put2_len r (n + 1) v]
theorem qs_put2_get : ∀ (L : qs_L) (i j : Nat) (v w : Value), qs_get (qs_put2 L i v) j = some w → (j = i ∧ w = v) ∨ (j ≠ i ∧ j ≠ i + 1 ∧ qs_get L j = some w ∧ ¬ (j + 1 = i ∧ qs_w2 (some w) = true))
  | [], i, j, v, w, h => by simp [qs_put2, qs_get] at h
  | _ :: r, 0, 0, v, w, h => by simp [qs_put2, qs_get] at h; exact Or.inl ⟨rfl, h.symm⟩
  | _ :: r, 0, j + 1, v, w, h => by
    simp [qs_put2, qs_get] at h
    obtain ⟨h1, h2⟩ := qs_clr_get r j w h
    exact Or.inr ⟨by omega, by omega, h2, by omega⟩
  | h0 :: r, 1, 0, v, w, h => by
    simp [qs_put2, qs_get] at h
    cases e : qs_w2 h0 with
    | true => rw [e] at h; cases h
    | false =>
      rw [e] at h
      simp at h
      subst h
      exact Or.inr ⟨by omega, by omega, rfl, by rw [e]; simp⟩
  | h0 :: r, 1, j + 1, v, w, h => by
    simp [qs_put2, qs_get] at h
    rcases qs_put2_get r 0 j v w h with ⟨h1, h2⟩ | ⟨h1, h2, h3, h4⟩
    · exact Or.inl ⟨by omega, h2⟩
    · exact Or.inr ⟨by omega, by omega, h3, by omega⟩
  | h0 :: r, n + 2, 0, v, w, h => by
    simp [qs_put2, qs_get] at h
    exact Or.inr ⟨by omega, by omega, h, by omega⟩
  | h0 :: r, n + 2, j + 1, v, w, h => by
    simp [qs_put2, qs_get] at h
    rcases qs_put2_get r (n + 1) j v w h with ⟨h1, h2⟩ | ⟨h1, h2, h3, h4⟩
    · exact Or.inl ⟨by omega, h2⟩
    · exact Or.inr ⟨by omega, by omega, h3, fun q => h4 ⟨by omega, q.2⟩⟩
theorem qw_cat {X : qw_X} (hf : (qx_f X).category = 1) (v : Value) : (qw_v X v).category = v.category := by
  cases v <;> first | rfl | skip
  unfold qw_v
  simp only
  split
  · exact hf
  · rfl
theorem qw_w2 {v : Value} : qs_w2 (some v) = true ↔ v.category = 2 := by cases v <;> simp [qs_w2, Value.category]
theorem qw_L.put {X : qw_X} {ls ls' : Array Slot} {nL i : Nat} {L : qs_L} {v : Value} (hf : (qx_f X).category = 1) (h : qw_L X ls nL L) (h' : lv_has ls' nL ((i, qw_v X v) :: (qw_as X L).filter (fun q => !(q.1 == i) && !(q.1 + 1 == i && q.2.category == 2)))) : qw_L X ls' nL (qs_put L i v) := by
  refine ⟨h'.1, h'.2.1, by rw [qs_put_len]; exact h.2.2.1, fun j w hw => ?_⟩
  rcases qs_put_get L i j v w hw with ⟨rfl, rfl⟩ | ⟨h1, h2, h3⟩
  · exact h'.2.2 _ List.mem_cons_self
  · refine h'.2.2 (j, qw_v X w) (List.mem_cons_of_mem _ (List.mem_filter.mpr ⟨qw_as_in h2, ?_⟩))
    simp only [Bool.and_eq_true, Bool.not_eq_true', beq_eq_false_iff_ne, ne_eq, Bool.and_eq_false_iff]
    refine ⟨h1, ?_⟩
    by_cases e : j + 1 = i
    · refine Or.inr fun q => h3 ⟨e, qw_w2.mpr ?_⟩
      rw [qw_cat hf] at q
      exact q
    · exact Or.inl e
theorem qw_L.put2 {X : qw_X} {ls ls' : Array Slot} {nL i : Nat} {L : qs_L} {v : Value} (hf : (qx_f X).category = 1) (h : qw_L X ls nL L) (h' : lv_has ls' nL ((i, qw_v X v) :: (qw_as X L).filter (fun q => !(q.1 == i) && (!(q.1 == i + 1) && !(q.1 + 1 == i && q.2.category == 2))))) : qw_L X ls' nL (qs_put2 L i v) := by
  refine ⟨h'.1, h'.2.1, by rw [qs_put2_len]; exact h.2.2.1, fun j w hw => ?_⟩
  rcases qs_put2_get L i j v w hw with ⟨rfl, rfl⟩ | ⟨h1, h1', h2, h3⟩
  · exact h'.2.2 _ List.mem_cons_self
  · refine h'.2.2 (j, qw_v X w) (List.mem_cons_of_mem _ (List.mem_filter.mpr ⟨qw_as_in h2, ?_⟩))
    simp only [Bool.and_eq_true, Bool.not_eq_true', beq_eq_false_iff_ne, ne_eq, Bool.and_eq_false_iff]
    refine ⟨h1, h1', ?_⟩
    by_cases e : j + 1 = i
    · refine Or.inr fun q => h3 ⟨e, qw_w2.mpr ?_⟩
      rw [qw_cat hf] at q
      exact q
    · exact Or.inl e
