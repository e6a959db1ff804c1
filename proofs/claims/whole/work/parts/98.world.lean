/-! THE LAW, from its entry -/
theorem ws_cl {s : State} {args : Array Value} (hgd : ∀ w ∈ lw_gd, w.before args s = true) : ∃ D : va_G, ∀ (k : Nat) (q : vw_C), vwCl[k]? = some q → u_Kn s q.1 q.2.1 q.2.2 (D.1 k) (D.2 k) := by
  have h : ∀ k : Nat, ∃ ci : ClassId × (Nat → Nat), ∀ q : vw_C, vwCl[k]? = some q → u_Kn s q.1 q.2.1 q.2.2 ci.1 ci.2 := by
    intro k
    cases hq : vwCl[k]? with
    | none => exact ⟨(0, fun _ => 0), fun q h => by cases h⟩
    | some q0 =>
      have hc : qk_Cl k q0 := (qk_cls hq).2
      obtain ⟨c, i, hk⟩ := u_known hgd hc.2.1 (hgd _ hc.2.2.2.2.1)
      exact ⟨(c, i), fun q h => by cases h; exact hk⟩
  exact ⟨(fun k => (Classical.choose (h k)).1, fun k => (Classical.choose (h k)).2), fun k q hq => Classical.choose_spec (h k) q hq⟩
theorem ws_ar {s : State} {args : Array Value} {ty : FieldType} (h : (Cond.arrayClass ty).before args s = true) : ∃ cA, ArrOfT s cA ty ∧ s.vm.findClass ("[" ++ ty.toString) = some cA := by
  obtain ⟨c, k, comp, h1, h2, h3⟩ := Cond.arrayClass_spec h
  exact ⟨c, fun n z => ⟨fun k h => (by cases h), k, h2, comp, h3⟩, h1⟩
theorem ws_ao {s : State} {args : Array Value} {C : String} (h : (Cond.arrayOver (.object C)).before args s = true) : ∃ cA, ArrOfT s cA (.object C) ∧ va_RA s cA (.object C) := by
  obtain ⟨comp, c, k, h1, h2, h3, h4, h5⟩ := Cond.arrayOver_spec h
  exact ⟨c, fun n z => ⟨fun k h => (by cases h), k, h3, comp, h4⟩, k, comp, h3, h4, h1, h5⟩
theorem ws_st {s : State} {args : Array Value} {i : Nat} (hts : ∀ w ∈ lw_tbl, w.before args s = true) (hl : (qk_str i).2.2.length < 2 ^ 31) (h1 : Cond.stringRef RX3 (qk_str i).1 (qk_str i).2.1 ∈ lw_tbl) (hex : (Cond.exactly (.string RX3 (qk_str i).1) "java/lang/String").before args s = true) (hco : (Cond.eq (.field (.string RX3 (qk_str i).1) "java/lang/String" "coder" "B") (.int 0)).before args s = true) (har : (Cond.arrayOf (.field (.string RX3 (qk_str i).1) "java/lang/String" "value" "[B") .byte).before args s = true) (hle : (Cond.eq (.length (.field (.string RX3 (qk_str i).1) "java/lang/String" "value" "[B")) (.int (Int32.ofNat (qk_str i).2.2.length))).before args s = true) (hel : ∀ j, j < (qk_str i).2.2.length → (Cond.eq (.elem (.field (.string RX3 (qk_str i).1) "java/lang/String" "value" "[B") (.int (Int32.ofNat j))) (.int ((qk_str i).2.2.getD j 0))).before args s = true) {A : Nat → Prop} (hA : ∀ a : Nat, a < s.heap.size → ¬ A a) : ∃ k v, va_O "java/lang/String" k A s s.heap ∧ va_OF "java/lang/String" "coder" "B" (.int 0) k A s s.heap ∧ va_OF "java/lang/String" "value" "[B" (.ref v) k A s s.heap ∧ va_T .byte v (qk_str i).2.2.length (fun j => .int ((qk_str i).2.2.getD j 0)) A s s.heap ∧ vk_R RX3 (qk_str i).1 (qk_str i).2.1 k s := by
  have z : ∀ x : Nat, x < 1 → x = 0 := fun x hx => by omega
  obtain ⟨adK, adV, hS, hE⟩ := vk_Sof (args := args) (s := s) (N := 1) (tm := fun _ => .string RX3 (qk_str i).1) (len := [(qk_str i).2.2.length]) (byt := [(qk_str i).2.2]) (A := A) (fun x hx => by rw [z x hx]; exact hl) (fun _ _ => hex) (fun _ _ => hco) (fun _ _ => har) (fun x hx => by rw [z x hx]; exact hle) (fun x hx j hj => by rw [z x hx] at hj ⊢; exact hel j hj) (fun x y hx hy hxy => absurd (by rw [z x hx, z y hy]) hxy) hA
  obtain ⟨o1, o2, o3, o4⟩ := hS.1 0 (by omega)
  exact ⟨adK 0, adV 0, o1, o2, o3, o4, vk_R.of (hts _ h1) (hE 0 (by omega))⟩
theorem qi_M (X : qw_X) : qw_M X qi_m := by
  refine ⟨⟨rfl, ⟨rfl, rfl, fun j hj => ?_⟩, fun i hi => ?_, fun i hi => ?_, rfl, rfl⟩, fun k hk hk2 => ?_, fun k h1 h2 => ?_⟩
  · rcases (by omega : j = 0 ∨ j = 1 ∨ j = 2 ∨ j = 3 ∨ j = 4 ∨ j = 5) with rfl | rfl | rfl | rfl | rfl | rfl <;> rfl
  · rcases (by omega : i = 0 ∨ i = 1 ∨ i = 2 ∨ i = 3 ∨ i = 4 ∨ i = 5) with rfl | rfl | rfl | rfl | rfl | rfl <;> exact ⟨rfl, rfl, rfl, rfl⟩
  · rcases (by omega : i = 0 ∨ i = 1 ∨ i = 2 ∨ i = 3 ∨ i = 4 ∨ i = 5) with rfl | rfl | rfl | rfl | rfl | rfl
    · exact ⟨rfl, rfl, fun j hj => by rcases (show j = 0 ∨ j = 1 ∨ j = 2 ∨ j = 3 by have : j < 4 := hj; omega) with rfl | rfl | rfl | rfl <;> rfl⟩
    · exact ⟨rfl, rfl, fun j hj => by rcases (show j = 0 ∨ j = 1 ∨ j = 2 by have : j < 3 := hj; omega) with rfl | rfl | rfl <;> rfl⟩
    · exact ⟨rfl, rfl, fun j hj => by rcases (show j = 0 ∨ j = 1 ∨ j = 2 ∨ j = 3 by have : j < 4 := hj; omega) with rfl | rfl | rfl | rfl <;> rfl⟩
    · exact ⟨rfl, rfl, fun j hj => by rcases (show j = 0 ∨ j = 1 ∨ j = 2 by have : j < 3 := hj; omega) with rfl | rfl | rfl <;> rfl⟩
    · exact ⟨rfl, rfl, fun j hj => by rcases (show j = 0 ∨ j = 1 by have : j < 2 := hj; omega) with rfl | rfl <;> rfl⟩
    · exact ⟨rfl, rfl, fun j hj => by rcases (show j = 0 ∨ j = 1 by have : j < 2 := hj; omega) with rfl | rfl <;> rfl⟩
  · show qi_kd k = 100
    unfold qi_kd
    rw [if_neg (by omega), if_neg (by omega), if_neg (by omega), if_neg (by omega), if_neg (by omega)]
  · have h2 : qn_x k < 0 := h2
    omega
theorem ws_all {s : State} {b L : Nat} {xs : Nat → Int32} (hL : L ≤ 3072) (hts : ∀ w ∈ lw_tbl, w.before #[Value.ref b] s = true) (hgv : (Jvm.Cond.and given_1 narrow_1).before #[Value.ref b] s = true) (hX : va_X b L xs s s.heap) (hbl : b < s.heap.size) : ∃ X : qw_X, qx_b X = s.heap.size ∧ qx_e X 0 = b ∧ qx_L X = L ∧ qx_xs X = xs ∧ qw_K X s ∧ qw_E X s s.heap ∧ qw_F X := by
  have hs := flat_of_before _ hgv
  have hgd : ∀ w ∈ lw_gd, w.before #[Value.ref b] s = true := fun w hw => hts w (List.mem_filter.mp hw).1
  have hA : ∀ a : Nat, a < s.heap.size → ¬ (fun q : Nat => s.heap.size ≤ q) a := fun a ha => Nat.not_le.mpr ha
  obtain ⟨D, hD⟩ := ws_cl hgd
  obtain ⟨c20, x20, y20⟩ := ws_ar (hgd _ qk_ac_int)
  obtain ⟨c21, x21, y21⟩ := ws_ar (hgd _ qk_ac_boolean)
  obtain ⟨c22, x22, y22⟩ := ws_ar (hgd _ qk_ac_char)
  obtain ⟨c23, x23, y23⟩ := ws_ar (hgd _ qk_ac_long)
  have o0 := hts (.arrayOver (.object RX0)) (by decide +kernel)
  have o4 := hts (.arrayOver (.object RX4)) (by decide +kernel)
  have o5 := hts (.arrayOver (.object RX5)) (by decide +kernel)
  have o6 := hts (.arrayOver (.object RX6)) (by decide +kernel)
  obtain ⟨c30, x30, y30⟩ := ws_ao o0
  obtain ⟨c34, x34, y34⟩ := ws_ao o4
  obtain ⟨c35, x35, y35⟩ := ws_ao o5
  obtain ⟨c36, x36, y36⟩ := ws_ao o6
  obtain ⟨tu, hu1, hu2⟩ := va_Tof (tm := .static "QuarterTurn" "UNDER" "[I") (ty := .int) (N := 6) (f := fun j => .int (qw_un.getD j 0)) (A := fun q : Nat => s.heap.size ≤ q) (by omega) (hs _ (by decide +kernel)) (va_eqt (z := 6) (hs _ (by decide +kernel))) (fun j hj => by
    rcases (by omega : j = 0 ∨ j = 1 ∨ j = 2 ∨ j = 3 ∨ j = 4 ∨ j = 5) with rfl | rfl | rfl | rfl | rfl | rfl <;> exact va_eqt (hs _ (by decide +kernel))) hA
  have hUN := va_Zof (A := fun q : Nat => s.heap.size ≤ q) (hts (.laysStatic "QuarterTurn" "UNDER" "[I") (by decide +kernel)) (hts (.initialized "QuarterTurn") (by decide +kernel)) hu1 hA
  have hCS := va_Zof (A := fun q : Nat => s.heap.size ≤ q) (hts (.laysStatic "java/lang/String" "COMPACT_STRINGS" "Z") (by decide +kernel)) (hts (.initialized "java/lang/String") (by decide +kernel)) (va_eqi (z := 1) (hs _ (by decide +kernel))) hA
  have hSI := va_Zqof (A := fun q : Nat => s.heap.size ≤ q) (hts (.laysStatic "jdk/internal/util/Preconditions" "SIOOBE_FORMATTER" "Ljava/util/function/BiFunction;") (by decide +kernel)) (hts (.initialized "jdk/internal/util/Preconditions") (by decide +kernel)) (hs _ (by decide +kernel)) hA
  obtain ⟨f, hf, hF⟩ : ∃ f : Value, va_Z "jdk/internal/util/Preconditions" "SIOOBE_FORMATTER" "Ljava/util/function/BiFunction;" f (fun q : Nat => s.heap.size ≤ q) s s.heap ∧ (f = .null ∨ ∃ a, f = .ref a) := by
    rcases hSI with h | ⟨t, h⟩
    · exact ⟨_, h, Or.inl rfl⟩
    · exact ⟨_, h, Or.inr ⟨t, rfl⟩⟩
  have hst : ∀ i : Nat, ∃ kv : Nat × Nat, i < 6 → va_O "java/lang/String" kv.1 (fun q : Nat => s.heap.size ≤ q) s s.heap ∧ va_OF "java/lang/String" "coder" "B" (.int 0) kv.1 (fun q : Nat => s.heap.size ≤ q) s s.heap ∧ va_OF "java/lang/String" "value" "[B" (.ref kv.2) kv.1 (fun q : Nat => s.heap.size ≤ q) s s.heap ∧ va_T .byte kv.2 (qk_str i).2.2.length (fun j => .int ((qk_str i).2.2.getD j 0)) (fun q : Nat => s.heap.size ≤ q) s s.heap ∧ vk_R RX3 (qk_str i).1 (qk_str i).2.1 kv.1 s := by
    intro i
    by_cases hi : i < 6
    · suffices h : ∃ k v, va_O "java/lang/String" k (fun q : Nat => s.heap.size ≤ q) s s.heap ∧ va_OF "java/lang/String" "coder" "B" (.int 0) k (fun q : Nat => s.heap.size ≤ q) s s.heap ∧ va_OF "java/lang/String" "value" "[B" (.ref v) k (fun q : Nat => s.heap.size ≤ q) s s.heap ∧ va_T .byte v (qk_str i).2.2.length (fun j => .int ((qk_str i).2.2.getD j 0)) (fun q : Nat => s.heap.size ≤ q) s s.heap ∧ vk_R RX3 (qk_str i).1 (qk_str i).2.1 k s by
        obtain ⟨k, v, h⟩ := h
        exact ⟨(k, v), fun _ => h⟩
      rcases (by omega : i = 0 ∨ i = 1 ∨ i = 2 ∨ i = 3 ∨ i = 4 ∨ i = 5) with rfl | rfl | rfl | rfl | rfl | rfl
      · exact ws_st hts (by decide) (by decide +kernel) (hs _ (by decide +kernel)) (hs _ (by decide +kernel)) (hs _ (by decide +kernel)) (hs _ (by decide +kernel)) (fun j hj => by
          rcases (show j = 0 ∨ j = 1 ∨ j = 2 ∨ j = 3 by have : j < 4 := hj; omega) with rfl | rfl | rfl | rfl <;> exact hs _ (by decide +kernel)) hA
      · exact ws_st hts (by decide) (by decide +kernel) (hs _ (by decide +kernel)) (hs _ (by decide +kernel)) (hs _ (by decide +kernel)) (hs _ (by decide +kernel)) (fun j hj => by
          rcases (show j = 0 ∨ j = 1 ∨ j = 2 by have : j < 3 := hj; omega) with rfl | rfl | rfl <;> exact hs _ (by decide +kernel)) hA
      · exact ws_st hts (by decide) (by decide +kernel) (hs _ (by decide +kernel)) (hs _ (by decide +kernel)) (hs _ (by decide +kernel)) (hs _ (by decide +kernel)) (fun j hj => by
          rcases (show j = 0 ∨ j = 1 ∨ j = 2 ∨ j = 3 by have : j < 4 := hj; omega) with rfl | rfl | rfl | rfl <;> exact hs _ (by decide +kernel)) hA
      · exact ws_st hts (by decide) (by decide +kernel) (hs _ (by decide +kernel)) (hs _ (by decide +kernel)) (hs _ (by decide +kernel)) (hs _ (by decide +kernel)) (fun j hj => by
          rcases (show j = 0 ∨ j = 1 ∨ j = 2 by have : j < 3 := hj; omega) with rfl | rfl | rfl <;> exact hs _ (by decide +kernel)) hA
      · exact ws_st hts (by decide) (by decide +kernel) (hs _ (by decide +kernel)) (hs _ (by decide +kernel)) (hs _ (by decide +kernel)) (hs _ (by decide +kernel)) (fun j hj => by
          rcases (show j = 0 ∨ j = 1 by have : j < 2 := hj; omega) with rfl | rfl <;> exact hs _ (by decide +kernel)) hA
      · exact ws_st hts (by decide) (by decide +kernel) (hs _ (by decide +kernel)) (hs _ (by decide +kernel)) (hs _ (by decide +kernel)) (hs _ (by decide +kernel)) (fun j hj => by
          rcases (show j = 0 ∨ j = 1 by have : j < 2 := hj; omega) with rfl | rfl <;> exact hs _ (by decide +kernel)) hA
    · exact ⟨(0, 0), fun h => absurd h hi⟩
  refine ⟨(D, fun t => if t = 20 then c20 else if t = 21 then c21 else if t = 22 then c22 else if t = 23 then c23 else if t = 30 then c30 else if t = 34 then c34 else if t = 35 then c35 else c36, fun k => if k = 0 then b else if k = 1 then tu else if k < 8 then (Classical.choose (hst (k - 2))).1 else (Classical.choose (hst (k - 8))).2, s.heap.size, L, xs, f), rfl, rfl, rfl, rfl, ⟨hD, fun k q hk => ?_⟩, ⟨?_, hUN, hu2, fun i hi => ?_, hCS, hf, fun q hq => ?_, va_AO.of o0, va_AO.of o4, va_AO.of o5, va_AO.of o6⟩, hF⟩
  · rcases (by omega : k = 0 ∨ k = 1 ∨ k = 2 ∨ k = 3 ∨ k = 4 ∨ k = 5 ∨ k = 6 ∨ k = 7 ∨ 8 ≤ k) with rfl | rfl | rfl | rfl | rfl | rfl | rfl | rfl | h8
    · cases hk; exact ⟨x20, y20⟩
    · cases hk; exact ⟨x21, y21⟩
    · cases hk; exact ⟨x22, y22⟩
    · cases hk; exact ⟨x23, y23⟩
    · cases hk; exact ⟨x30, y30⟩
    · cases hk; exact ⟨x34, y34⟩
    · cases hk; exact ⟨x35, y35⟩
    · cases hk; exact ⟨x36, y36⟩
    · rw [List.getElem?_eq_none (by simp only [qw_tys, List.length_cons, List.length_nil]; omega)] at hk
      cases hk
  · obtain ⟨scr, h1, h2, h3, h4, h5⟩ := hX
    exact ⟨scr, h1, h2, h3, Nat.le_of_eq h4.symm, by rw [h4]; rfl, h5, Nat.not_le.mpr hbl⟩
  · have h := Classical.choose_spec (hst i) hi
    have e1 : 2 + i ≠ 0 ∧ 2 + i ≠ 1 ∧ 2 + i < 8 ∧ 2 + i - 2 = i := by omega
    have e2 : 8 + i ≠ 0 ∧ 8 + i ≠ 1 ∧ ¬ 8 + i < 8 ∧ 8 + i - 8 = i := by omega
    have k1 : (if 2 + i = 0 then b else if 2 + i = 1 then tu else if 2 + i < 8 then (Classical.choose (hst (2 + i - 2))).1 else (Classical.choose (hst (2 + i - 8))).2) = (Classical.choose (hst i)).1 := by
      rw [if_neg e1.1, if_neg e1.2.1, if_pos e1.2.2.1]
      simp only [e1.2.2.2]
    have k2 : (if 8 + i = 0 then b else if 8 + i = 1 then tu else if 8 + i < 8 then (Classical.choose (hst (8 + i - 2))).1 else (Classical.choose (hst (8 + i - 8))).2) = (Classical.choose (hst i)).2 := by
      rw [if_neg e2.1, if_neg e2.2.1, if_neg e2.2.2.1]
      simp only [e2.2.2.2]
    show va_O _ (if 2 + i = 0 then b else if 2 + i = 1 then tu else if 2 + i < 8 then (Classical.choose (hst (2 + i - 2))).1 else (Classical.choose (hst (2 + i - 8))).2) _ _ _ ∧ va_OF _ _ _ _ (if 2 + i = 0 then b else if 2 + i = 1 then tu else if 2 + i < 8 then (Classical.choose (hst (2 + i - 2))).1 else (Classical.choose (hst (2 + i - 8))).2) _ _ _ ∧ va_OF _ _ _ (.ref (if 8 + i = 0 then b else if 8 + i = 1 then tu else if 8 + i < 8 then (Classical.choose (hst (8 + i - 2))).1 else (Classical.choose (hst (8 + i - 8))).2)) (if 2 + i = 0 then b else if 2 + i = 1 then tu else if 2 + i < 8 then (Classical.choose (hst (2 + i - 2))).1 else (Classical.choose (hst (2 + i - 8))).2) _ _ _ ∧ va_T _ (if 8 + i = 0 then b else if 8 + i = 1 then tu else if 8 + i < 8 then (Classical.choose (hst (8 + i - 2))).1 else (Classical.choose (hst (8 + i - 8))).2) _ _ _ _ _ ∧ vk_R _ _ _ (if 2 + i = 0 then b else if 2 + i = 1 then tu else if 2 + i < 8 then (Classical.choose (hst (2 + i - 2))).1 else (Classical.choose (hst (2 + i - 8))).2) _
    rw [k1, k2]
    exact h
  · unfold qk_nests at hq
    have hn : ∀ q ∈ qk_nests, Cond.methodLinkNest q.1 q.2.1 q.2.2 "QuarterTurn" ∈ lw_tbl := by decide +kernel
    exact va_Nw.of rfl (hts _ (hn q hq))
