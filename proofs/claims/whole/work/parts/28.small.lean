/-! SMALL THINGS -/
def qb (b : Bool) : Int32 := bif b then 1 else 0
theorem qb_01 (b : Bool) : qb b = 0 ∨ qb b = 1 := by cases b <;> first | exact Or.inl rfl | exact Or.inr rfl
theorem qb_0 (b : Bool) : (qb b = 0) = (b = false) := by cases b <;> simp [qb]
theorem nI_times (a b : Nat) : nI a * nI b = nI (a * b) := (Int32.ofNat_mul a b).symm
theorem ix_of {j c : Nat} (hj : j < 8) (hc : c < 8) : (12 + 8 * nI j + nI c).toNatClampNeg = 12 + 8 * j + c ∧ 0 ≤ 12 + 8 * nI j + nI c := by
  have e : 12 + 8 * nI j + nI c = nI (12 + 8 * j + c) := by
    rw [← nI_add, ← nI_add, ← nI_times]
    rfl
  rw [e]
  exact ⟨nI_clamp (by omega), nI_pos' (by omega)⟩
theorem zM : (qs_kd qy_m 116 = 8 ∧ qs_kd qy_m 117 = 20 ∧ qs_sz qy_m 117 = 1448 ∧ qs_lk qy_m 116 0 = 119) := ⟨zk_116, zk_117, zs_117, zl_116_0⟩
theorem mq_108 {d : Nat} {x a b : Int32} {m : qs_M} : qs_call (d + 1) 108 [.int x, .int a, .int b] m = some (some (.int (qb (decide (a ≤ x ∧ x ≤ b)))), m) := by
  refine (bq_108_0 d x a b m).trans ?_
  by_cases h1 : x < a
  · have h2 : ¬ a ≤ x := Int32.not_le.mpr h1
    simp [h1, h2, qb]
  · have h2 : a ≤ x := Int32.not_lt.mp h1
    by_cases h3 : b < x
    · have h4 : ¬ x ≤ b := Int32.not_le.mpr h3
      simp only [h1, h2, h3, h4, qb, if_true, if_false, true_or, true_and, decide_false, cond_false]
    · have h4 : x ≤ b := Int32.not_lt.mp h3
      simp only [h1, h2, h3, h4, qb, if_true, if_false, or_true, true_and, decide_true, cond_true]
theorem mq_109 {d : Nat} {x a b : Int32} {m : qs_M} : qs_call (d + 1) 109 [.int x, .int a, .int b] m = some (some (.int (if a ≤ x then if x ≤ b then x else b else a)), m) := by
  refine (bq_109_0 d x a b m).trans ?_
  (repeat' split) <;> rfl
theorem mq_112 {d : Nat} {j c : Nat} {x1 x2 : Int32} (e1 : x1 = nI j) (e2 : x2 = nI c) (hj : j < 8) (hc : c < 8) {u : Nat → Nat → Int32} {w : Nat → Nat → Int64} : qs_call (d + 1) 112 [.ref 116, .int x1, .int x2] (QM u w) = some (some (.int (u 117 (12 + 8 * j + c))), QM u w) := by
  subst e1 e2
  refine (bq_112_0 d 116 _ _ (QM u w)).trans ?_
  have h := ix_of hj hc
  simp [QM_kd, QM_sz, QM_lk, QM_i, zM, h]
  omega
theorem mq_111 {d : Nat} {x1 : Int32} {u : Nat → Nat → Int32} {w : Nat → Nat → Int64} : qs_call (d + 2) 111 [.ref 116, .int x1] (QM u w) = some (some (.int (qb (decide (0 ≤ x1 ∧ x1 ≤ u 117 1 - 1)))), QM u w) := by
  refine (bq_111_0 (d + 1) 116 x1 (QM u w)).trans ?_
  simp [QM_kd, QM_sz, QM_lk, QM_i, zM, mq_108, qs_bI, qb_01]
theorem mq_118 {d : Nat} {j : Nat} {x1 : Int32} (e1 : x1 = nI j) (hj : j < 8) {u : Nat → Nat → Int32} {w : Nat → Nat → Int64} : qs_call (d + 2) 118 [.ref 116, .int x1] (QM u w) = some (some (.int ((if 0 ≤ u 117 (12 + 8 * j + 1) - 2 * u 117 3 then if u 117 (12 + 8 * j + 1) - 2 * u 117 3 ≤ 40 then u 117 (12 + 8 * j + 1) - 2 * u 117 3 else 40 else 0) + u 117 (12 + 8 * j + 5) / 2)), QM u w) := by
  refine (bq_118_0 (d + 1) 116 x1 (QM u w)).trans ?_
  simp [QM_kd, QM_sz, QM_lk, QM_i, zM, mq_109, mq_112 e1 (show (1 : Int32) = nI 1 from rfl) hj (by decide), mq_112 e1 (show (5 : Int32) = nI 5 from rfl) hj (by decide), qs_bI]
