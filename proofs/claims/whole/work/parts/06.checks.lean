/-! THE TABLES ARE RIGHT: every row decodes, every word that it needs is in lw_tbl -/
def qk_tb (k : Nat) : List Jvm.Cond := match k with
  | 0 => k2_sels lw_privs
  | 1 => tables_1_1
  | 2 => tables_1_2
  | 3 => tables_1_3
  | 4 => tables_1_4
  | 5 => tables_1_5
  | _ => tables_1_6
/-- the words that stay as the machine runs on -/
def lw_gd : List Jvm.Cond := lw_tbl.filter goodWord
theorem lw_gd_good : GoodIn lw_gd lw_gd := fun w h => ⟨h, good_of_word (List.mem_filter.mp h).2⟩
theorem qk_tb_in {k : Nat} {w : Jvm.Cond} (h : w ∈ qk_tb k) : w ∈ lw_tbl := by
  have t : w ∈ tables_1 → w ∈ lw_tbl := fun h => List.mem_append_right _ h
  unfold qk_tb at h
  unfold tables_1 at t
  split at h
  · exact List.mem_append_left _ h
  · exact t (List.mem_append_left _ h)
  · exact t (List.mem_append_right _ (List.mem_append_left _ h))
  · exact t (List.mem_append_right _ (List.mem_append_right _ (List.mem_append_left _ h)))
  · exact t (List.mem_append_right _ (List.mem_append_right _ (List.mem_append_right _ (List.mem_append_left _ h))))
  · exact t (List.mem_append_right _ (List.mem_append_right _ (List.mem_append_right _ (List.mem_append_right _ (List.mem_append_left _ h)))))
  · exact t (List.mem_append_right _ (List.mem_append_right _ (List.mem_append_right _ (List.mem_append_right _ (List.mem_append_right _ h)))))
def qk_is (pl : List Nat) (j : Nat) (w : Jvm.Cond) : Bool := match pl[j]? with
  | some p => match (qk_tb (p / 1000))[p % 1000]? with
    | some u => decide (u = w) && goodWord u
    | none => false
  | none => false
theorem qk_is_in {pl : List Nat} {j : Nat} {w : Jvm.Cond} (h : qk_is pl j w = true) : w ∈ lw_gd := by
  unfold qk_is at h
  split at h
  · split at h
    · rename_i u e
      simp only [Bool.and_eq_true, decide_eq_true_eq] at h
      obtain ⟨rfl, h⟩ := h
      exact List.mem_filter.mpr ⟨qk_tb_in (List.mem_of_getElem? e), h⟩
    · cases h
  · cases h
def qk_len (i : Instr) (b : Nat) : Nat := match i with
  | .bipush _ => 2
  | .ldc _ => 2
  | .iload _ => 2
  | .aload _ => 2
  | .lload _ => 2
  | .istore _ => 2
  | .astore _ => 2
  | .lstore _ => 2
  | .newarray _ => 2
  | .sipush _ => 3
  | .ldc_w _ => 3
  | .iinc _ _ => 3
  | .ifCond _ _ => 3
  | .if_icmp _ _ => 3
  | .goto _ => 3
  | .getfield _ => 3
  | .putfield _ => 3
  | .getstatic _ => 3
  | .new _ => 3
  | .anewarray _ => 3
  | .invokestatic _ => 3
  | .invokevirtual _ => 3
  | .invokespecial _ => 3
  | .tableswitch _ _ _ _ => b
  | .lookupswitch _ _ => b
  | _ => 1
def qk_str (a : Nat) : Nat × String × List Int32 := match a with
  | 0 => (63, "leak", [108, 101, 97, 107])
  | 1 => (72, "fee", [102, 101, 101])
  | 2 => (74, "fine", [102, 105, 110, 101])
  | 3 => (100, "gra", [103, 114, 97])
  | 4 => (102, "df", [100, 102])
  | _ => (104, "ts", [116, 115])
def qt_ty (t : Nat) : Nat → FieldType := match t with
  | 0 => tyX0
  | 1 => tyX1
  | 2 => tyX2
  | 3 => tyX3
  | 4 => tyX4
  | 5 => tyX5
  | 6 => tyX6
  | 7 => tyX7
  | 8 => tyX8
  | _ => tyX9
def qk_tsw (pc : Nat) : Int → List (Int32 × Nat) → List Int → Bool
  | _, [], [] => true
  | lo, (v, t) :: r, o :: os => decide (v.toInt = lo) && decide ((pc : Int) + o = (t : Int)) && qk_tsw pc (lo + 1) r os
  | _, _, _ => false
def qk_lsw (pc : Nat) : List (Int32 × Nat) → List (Int × Int) → Bool
  | [], [] => true
  | (v, t) :: r, (x, o) :: os => decide (v.toInt = x) && decide ((pc : Int) + o = (t : Int)) && qk_lsw pc r os
  | _, _ => false
def qk_ty (c : Nat) (ty : FieldType) : Bool := match c, ty with
  | 0, .int => true
  | 2, .boolean => true
  | 1, .object _ => true
  | 1, .array _ => true
  | _, _ => false
/-- calls of a nest mate's private methods -/
def qk_nests : List (String × Nat × MethodName) := [(RX1, 22, yX7_within), (RX2, 111, yX7_held), (RX2, 115, yX7_isOf), (RX0, 52, yX7_isOf), (RX0, 40, yX7_held)]
def qk_lnk (own : String) (i : Nat) (y : MethodName) (pl : List Nat) : Bool := match pl[1]? with
  | some 0 => qk_is pl 0 (.methodLink own i y)
  | some 1 => decide ((own, i, y) ∈ qk_nests)
  | _ => false
def qk_ins (E : qs_E) (pc : Nat) (i : Instr) (a b c : Nat) (v : Int32) (sw : List (Int32 × Nat)) (pl : List Nat) : Bool := match i with
  | .iconst n => decide (Int32.ofInt n = v)
  | .bipush n => decide ((Int8.ofInt n).toInt32 = v)
  | .sipush n => decide ((Int16.ofInt n).toInt32 = v)
  | .lconst n => decide ((n : Nat) = 0)
  | .ldc n => match a with
    | 0 => qk_is pl 0 (.constant (qe_own E) n v)
    | _ => decide (2 ≤ a ∧ a < 8) && decide (qe_own E = RX3) && decide ((qk_str (a - 2)).1 = n)
  | .ldc_w n => qk_is pl 0 (.constant (qe_own E) n v)
  | .iload_n n => decide ((n : Nat) = a)
  | .aload_n n => decide ((n : Nat) = a)
  | .istore_n n => decide ((n : Nat) = a) && decide (a < qe_ml E)
  | .astore_n n => decide ((n : Nat) = a) && decide (a < qe_ml E)
  | .iload n => decide (n = a)
  | .aload n => decide (n = a)
  | .lload n => decide (n = a)
  | .istore n => decide (n = a) && decide (a < qe_ml E)
  | .astore n => decide (n = a) && decide (a < qe_ml E)
  | .lstore n => decide (n = a) && decide (a + 1 < qe_ml E)
  | .iinc n k => decide (n = a) && decide (Int32.ofInt k = v) && decide (a < qe_ml E)
  | .ifCond _ o => decide ((pc : Int) + o = (a : Int))
  | .if_icmp _ o => decide ((pc : Int) + o = (a : Int))
  | .goto o => decide ((pc : Int) + o = (a : Int))
  | .tableswitch d lo hi offs => decide ((pc : Int) + d = (a : Int)) && decide (hi = lo + (offs.toList.length : Int) - 1) && qk_tsw pc lo sw offs.toList
  | .lookupswitch d ps => decide ((pc : Int) + d = (a : Int)) && (ps.toList.zip (ps.toList.drop 1)).all (fun (a, next) => a.1 < next.1) && qk_lsw pc sw ps.toList
  | .getfield n => match vwCl[a]? with
    | some q => decide (b < q.2.2) && qk_is pl 0 (.fieldLink (qe_own E) n (q.2.1 b).1 (q.2.1 b).2.1 (q.2.1 b).2.2.1) && qk_ty c (qt_ty a b)
    | none => decide (a = 90) && ((decide (b = 0 ∧ c = 1) && qk_is pl 0 (.fieldLink (qe_own E) n "java/lang/String" "value" "[B")) || (decide (b = 1 ∧ c = 0) && qk_is pl 0 (.fieldLink (qe_own E) n "java/lang/String" "coder" "B")))
  | .putfield n => match vwCl[a]? with
    | some q => decide (b < q.2.2) && qk_is pl 0 (.fieldLink (qe_own E) n (q.2.1 b).1 (q.2.1 b).2.1 (q.2.1 b).2.2.1) && qk_ty c (qt_ty a b) && (bif c == 1 then (decide ((q.2.1 b).2.2.2 = true) && decide ((qe_y E).name = "<init>") && decide ((q.2.1 b).1 = qe_own E)) else decide ((q.2.1 b).2.2.2 = false))
    | none => false
  | .getstatic n => match a with
    | 0 => decide (v = 1) && qk_is pl 0 (.fieldLink (qe_own E) n "java/lang/String" "COMPACT_STRINGS" "Z")
    | 1 => qk_is pl 0 (.fieldLink (qe_own E) n "QuarterTurn" "UNDER" "[I")
    | _ => decide (a = 14) && qk_is pl 0 (.fieldLink (qe_own E) n "jdk/internal/util/Preconditions" "SIOOBE_FORMATTER" "Ljava/util/function/BiFunction;")
  | .iaload => decide (a = 20 ∨ a = 25 ∨ a = 2600)
  | .baload => decide (a = 21 ∨ a = 24)
  | .arraylength => decide (a = 24 ∨ a = 2600)
  | .new n => match vwCl[a]? with
    | some q => qk_is pl 0 (.classLink (qe_own E) n q.1)
    | none => false
  | .newarray t => decide ((t = .int ∧ a = 20) ∨ (t = .boolean ∧ a = 21) ∨ (t = .char ∧ a = 22) ∨ (t = .long ∧ a = 23))
  | .anewarray n => match vwCl[a - 30]? with
    | some q => decide (30 ≤ a) && qk_is pl 0 (.classLink (qe_own E) n q.1) && decide (a = 30 ∨ a = 34 ∨ a = 35 ∨ a = 36)
    | none => false
  | .invokestatic n => bif a == 1001 then qk_is pl 0 (.methodLink (qe_own E) n arraycopyName) else bif a == 1002 then qk_is pl 0 (.methodLink (qe_own E) n Lib.Math.max.name) else bif a == 1003 then qk_is pl 0 (.methodLink (qe_own E) n Lib.Math.min.name) else bif a == 1004 then qk_is pl 0 (.methodLink (qe_own E) n Lib.Math.abs.name) else match qm_at a with
    | some F => decide (qe_kd F = 0) && decide (b = qe_na F * 8 + qe_rk F) && decide (qe_rk F < 8) && qk_lnk (qe_own E) n (qe_y F) pl && decide (a < 224)
    | none => false
  | .invokevirtual n => match qm_at a with
    | some F => decide (qe_kd F = 1) && decide (b = qe_na F * 8 + qe_rk F) && decide (qe_rk F < 8) && qk_lnk (qe_own E) n (qe_y F) pl && decide (a < 224) && (decide ((vwCl[c]?).map (fun q => q.1) = some (qe_y F).cls) || (decide (c = 90) && decide ((qe_y F).cls = "java/lang/String")))
    | none => false
  | .invokespecial n => bif a == 1000 then qk_is pl 0 (.methodLink (qe_own E) n Lib.objectInit) else match qm_at a with
    | some F => decide (qe_kd F = 2) && decide (b = qe_na F * 8) && decide (qe_rk F = 0) && qk_is pl 0 (.methodLink (qe_own E) n (qe_y F)) && decide (a < 224)
    | none => false
  | _ => true
def qk_row (E : qs_E) (pc : Nat) (r : qs_Row) : Bool := match r with
  | (i, a, b, c, v, sw, pl) => decide (decode (qe_b E) pc = .ok (i, qk_len i b)) && qk_ins E pc i a b c v sw pl
def qk_ch (E : qs_E) : Nat → List (Option qs_Row) → Bool
  | _, [] => true
  | pc, none :: r => qk_ch E (pc + 1) r
  | pc, some q :: r => qk_row E pc q && qk_ch E (pc + 1) r
def qk_chs (E : qs_E) : Nat → List (List (Option qs_Row)) → Bool
  | _, [] => true
  | c, ch :: r => qk_ch E (16 * c) ch && qk_chs E (c + 1) r
def qk_rt (rk : Nat) (rt : Option FieldType) : Bool := match rk, rt with
  | 0, none => true
  | 1, some .int => true
  | 2, some .boolean => true
  | 3, some .char => true
  | 4, some .byte => true
  | _, _ => false
def qk_ent (E : qs_E) : Bool :=
  decide ((qe_y E).cls = qe_own E) && plainName (qe_own E) && decide ((parseMethodDescriptor (qe_y E).desc).map (fun d => d.parameters.length) = some (qe_na E)) &&
  qk_is (qe_pl E) 0 (.code (qe_y E) (qe_b E) (qe_ml E) (qe_rt E)) && qk_rt (qe_rk E) (qe_rt E) && decide (qe_na E + (if qe_kd E = 0 then 0 else 1) ≤ qe_ml E ∧ qe_ml E ≤ 40) &&
  decide ((qe_y E).cls ≠ "java/lang/invoke/MethodHandle" ∧ (qe_y E).cls ≠ "java/lang/invoke/VarHandle") &&
  qk_is (qe_pl E) 2 (.initialized (qe_y E).cls) &&
  (match qe_kd E with
  | 0 => qk_is (qe_pl E) 1 (.static (qe_y E))
  | 1 => qk_is (qe_pl E) 1 (.instanceMethod (qe_y E)) && qk_is (qe_pl E) 3 (.selects (qe_y E).cls (qe_y E) (qe_y E))
  | _ => qk_is (qe_pl E) 1 (.instanceMethod (qe_y E)) && decide ((qe_y E).name = "<init>"))
theorem qk_ch_at {E : qs_E} : ∀ (ch : List (Option qs_Row)) (pc j : Nat) (r : qs_Row), qk_ch E pc ch = true → ch[j]? = some (some r) → qk_row E (pc + j) r = true
  | [], _, j, r, _, h => by simp at h
  | none :: ch, pc, 0, r, _, h => by simp at h
  | none :: ch, pc, j + 1, r, hk, h => by
    rw [List.getElem?_cons_succ] at h
    have := qk_ch_at ch (pc + 1) j r hk h
    rwa [show pc + 1 + j = pc + (j + 1) by omega] at this
  | some q :: ch, pc, 0, r, hk, h => by
    simp only [qk_ch, Bool.and_eq_true] at hk
    simp at h
    subst h
    exact hk.1
  | some q :: ch, pc, j + 1, r, hk, h => by
    simp only [qk_ch, Bool.and_eq_true] at hk
    rw [List.getElem?_cons_succ] at h
    have := qk_ch_at ch (pc + 1) j r hk.2 h
    rwa [show pc + 1 + j = pc + (j + 1) by omega] at this
theorem qk_chs_at {E : qs_E} : ∀ (cd : List (List (Option qs_Row))) (c k j : Nat) (ch : List (Option qs_Row)) (r : qs_Row), qk_chs E c cd = true → cd[k]? = some ch → ch[j]? = some (some r) → qk_row E (16 * (c + k) + j) r = true
  | [], _, k, _, _, _, _, h, _ => by simp at h
  | h0 :: cd, c, 0, j, ch, r, hk, h, h2 => by
    simp only [qk_chs, Bool.and_eq_true] at hk
    simp at h
    subst h
    exact qk_ch_at _ _ j r hk.1 h2
  | h0 :: cd, c, k + 1, j, ch, r, hk, h, h2 => by
    simp only [qk_chs, Bool.and_eq_true] at hk
    rw [List.getElem?_cons_succ] at h
    have := qk_chs_at cd (c + 1) k j ch r hk.2 h h2
    rwa [show c + 1 + k = c + (k + 1) by omega] at this
theorem qk_chs_app {E : qs_E} : ∀ (l1 l2 : List (List (Option qs_Row))) (c : Nat), qk_chs E c l1 = true → qk_chs E (c + l1.length) l2 = true → qk_chs E c (l1 ++ l2) = true
  | [], l2, c, _, h => h
  | ch :: l1, l2, c, h1, h2 => by
    simp only [qk_chs, Bool.and_eq_true, List.cons_append] at h1 ⊢
    refine ⟨h1.1, qk_chs_app l1 l2 (c + 1) h1.2 ?_⟩
    rwa [show c + 1 + l1.length = c + (ch :: l1).length by simp; omega]
theorem qk_fetch {E : qs_E} (hk : qk_chs E 0 (qe_cd E) = true) {pc : Nat} {r : qs_Row} (h : qs_fetch (qe_cd E) pc = some r) : qk_row E pc r = true := by
  unfold qs_fetch at h
  split at h
  · rename_i ch hc
    split at h
    · rename_i q hq
      subst h
      have := qk_chs_at _ 0 _ _ _ _ hk hc hq
      rwa [show 16 * (0 + pc / 16) + pc % 16 = pc by omega] at this
    · cases h
  · cases h
def qk_E (E : qs_E) : Bool := qk_chs E 0 (qe_cd E) && qk_ent E
