/-! THE REFERENCE'S ROWS, ONE BY ONE -/
theorem n_0 : (0 : Int32) = nI 0 := rfl
theorem n_1 : (1 : Int32) = nI 1 := rfl
theorem n_2 : (2 : Int32) = nI 2 := rfl
theorem n_3 : (3 : Int32) = nI 3 := rfl
theorem n_4 : (4 : Int32) = nI 4 := rfl
theorem n_5 : (5 : Int32) = nI 5 := rfl
theorem n_6 : (6 : Int32) = nI 6 := rfl
theorem n_7 : (7 : Int32) = nI 7 := rfl
theorem n_8 : (8 : Int32) = nI 8 := rfl
theorem n_9 : (9 : Int32) = nI 9 := rfl
theorem n_10 : (10 : Int32) = nI 10 := rfl
theorem n_11 : (11 : Int32) = nI 11 := rfl
theorem qu_same (u : Nat → Nat → Int32) (k j : Nat) (x : Int32) : qu u k j x k = upd (u k) j x := by
  funext b
  simp [qu, upd]
theorem qu_ne (u : Nat → Nat → Int32) {k a : Nat} (j : Nat) (x : Int32) (h : a ≠ k) : qu u k j x a = u a := by
  funext b
  simp [qu, h]
def s_cl (a b x : Int32) : Int32 := if a ≤ x then if x ≤ b then x else b else a
theorem mc_109 {d : Nat} {x a b : Int32} {m : qs_M} : qs_call (d + 1) 109 [.int x, .int a, .int b] m = some (some (.int (s_cl a b x)), m) := mq_109
theorem mq_113 {d : Nat} {j c : Nat} {x1 x2 x3 : Int32} (e1 : x1 = nI j) (e2 : x2 = nI c) (hj : j < 8) (hc : c < 8) {u : Nat → Nat → Int32} {w : Nat → Nat → Int64} : qs_call (d + 1) 113 [.ref 116, .int x1, .int x2, .int x3] (QM u w) = some (none, QM (qu u 117 (12 + 8 * j + c) x3) w) := by
  subst e1 e2
  refine (bq_113_0 d 116 _ _ _ (QM u w)).trans ?_
  have h := ix_of hj hc
  simp [QM_kd, QM_sz, QM_lk, QM_wi, zM, h]
  omega
theorem mq_114 {d : Nat} {i : Nat} {x1 x2 : Int32} (e1 : x1 = nI i) (hi : i < 1448) {u : Nat → Nat → Int32} {w : Nat → Nat → Int64} : qs_call (d + 1) 114 [.ref 116, .int x1, .int x2] (QM u w) = some (some (.int (u 117 i)), QM (qu u 117 i x2) w) := by
  subst e1
  refine (bq_114_0 d 116 _ _ (QM u w)).trans ?_
  have h1 : (nI i).toNatClampNeg = i := nI_clamp (by omega)
  have h2 : 0 ≤ nI i := nI_pos' (by omega)
  simp [QM_kd, QM_sz, QM_lk, QM_wi, QM_i, zM, h1, h2, hi]
theorem mq_116 {d : Nat} {x0 x1 : Int32} {m : qs_M} : qs_call (d + 2) 116 [.int x0, .int x1] m = some (some (.int (qb (decide (0 ≤ x1 ∧ x1 ≤ if 3 ≤ x0 then 9 else 40)))), m) := by
  refine (bq_116_0 (d + 1) x0 x1 m).trans ?_
  split <;> simp [mq_108, qs_bI, qb_01]
def s_under (k o : Int32) : Bool := decide (o = 0 ∨ k = o ∨ (o = 1 ∧ k = 3) ∨ (o = 2 ∧ k = 4))
theorem mq_126 {d : Nat} {x0 x1 : Int32} {m : qs_M} : qs_call (d + 1) 126 [.int x0, .int x1] m = some (some (.int (qb (s_under x0 x1))), m) := by
  refine (bq_126_0 d x0 x1 m).trans ?_
  by_cases h1 : x1 = 0
  · simp [h1, s_under, qb]
  · by_cases h2 : x0 = x1
    · simp [h1, h2, s_under, qb]
    · by_cases h3 : x1 = 1
      · subst h3
        by_cases h4 : x0 = 3
        · simp [h4, s_under, qb]
        · simp [h2, h4, s_under, qb]
      · by_cases h5 : x1 = 2
        · subst h5
          by_cases h4 : x0 = 4
          · simp [h4, s_under, qb]
          · simp [h2, h4, s_under, qb]
        · simp [h1, h2, h3, h5, s_under, qb]
def s_grip (J : Nat → Int32) (h : Int32) : Int32 := s_cl 0 40 (J 1 - 2 * h) + J 5 / 2
/-- a joint of a row -/
def s_jo (R : Nat → Int32) (j c : Nat) : Int32 := R (12 + 8 * j + c)
theorem mc_112 {d : Nat} {j : Nat} {x1 x2 : Int32} (c : Nat) (e1 : x1 = nI j) (hj : j < 8) (e2 : x2 = nI c) (hc : c < 8) {u : Nat → Nat → Int32} {w : Nat → Nat → Int64} : qs_call (d + 1) 112 [.ref 116, .int x1, .int x2] (QM u w) = some (some (.int (s_jo (u 117) j c)), QM u w) := mq_112 e1 e2 hj hc
theorem mc_118 {d : Nat} {j : Nat} {x1 : Int32} (e1 : x1 = nI j) (hj : j < 8) {u : Nat → Nat → Int32} {w : Nat → Nat → Int64} : qs_call (d + 2) 118 [.ref 116, .int x1] (QM u w) = some (some (.int (s_grip (s_jo (u 117) j) (u 117 3))), QM u w) := mq_118 e1 hj
def s_bears (J : Nat → Int32) : Int32 :=
  if J 0 = 1 then 25 - J 2 / 2 - 4 else if J 0 = 2 then s_cl 0 40 (25 - J 2 / 2 - J 4) else if J 0 = 3 then 25 - J 2 / 2 - 4 else if J 0 = 4 then s_cl 0 40 (25 - J 2 / 2 - J 4) else if J 0 = 5 then 40 else 25 - J 2 / 2
theorem mq_121 {d : Nat} {j : Nat} {x1 : Int32} (e1 : x1 = nI j) (hj : j < 8) {u : Nat → Nat → Int32} {w : Nat → Nat → Int64} : qs_call (d + 2) 121 [.ref 116, .int x1] (QM u w) = some (some (.int (s_bears (s_jo (u 117) j))), QM u w) := by
  refine (bq_121_0 (d + 1) 116 x1 (QM u w)).trans ?_
  simp only [QM_kd, zM, if_true, qs_bI, mc_109, mc_112 2 e1 hj n_2 (by decide), mc_112 0 e1 hj n_0 (by decide), mc_112 4 e1 hj n_4 (by decide)]
  unfold s_bears
  (repeat' split) <;> first | rfl | contradiction
def s_worth (J : Nat → Int32) : Int32 :=
  if J 0 = 1 then J 1 + 3 else if J 0 = 2 then 40 - J 1 else if J 0 = 3 then 2 * (J 1 + 3) else if J 0 = 4 then 34 - J 1 else if J 0 = 5 then 1 else J 1
theorem mq_122 {d : Nat} {j : Nat} {x1 : Int32} (e1 : x1 = nI j) (hj : j < 8) {u : Nat → Nat → Int32} {w : Nat → Nat → Int64} : qs_call (d + 2) 122 [.ref 116, .int x1] (QM u w) = some (some (.int (s_worth (s_jo (u 117) j))), QM u w) := by
  refine (bq_122_0 (d + 1) 116 x1 (QM u w)).trans ?_
  simp only [QM_kd, zM, if_true, qs_bI, mc_112 1 e1 hj n_1 (by decide), mc_112 0 e1 hj n_0 (by decide)]
  unfold s_worth
  (repeat' split) <;> first | rfl | contradiction
def s_z (z : Int32) : Int32 := z * 1103515245 + 12345
def s_dr (z : Int32) : Int32 := (z.toUInt32 >>> ((8 : Int32).toUInt32 &&& Int32.toUInt32 31)).toInt32
theorem mq_130 {d : Nat} {u : Nat → Nat → Int32} {w : Nat → Nat → Int64} : qs_call (d + 1) 130 [.ref 116] (QM u w) = some (some (.int (s_dr (s_z (u 117 0)))), QM (qu u 117 0 (s_z (u 117 0))) w) := by
  refine (bq_130_0 d 116 (QM u w)).trans ?_
  have h0 : (0 : Int32).toNatClampNeg = 0 := rfl
  simp [QM_kd, QM_sz, QM_lk, QM_wi, QM_i, zM, qu_at, s_z, s_dr]
theorem mq_131 {d : Nat} {j : Nat} {x1 x2 : Int32} (e1 : x1 = nI j) (hj : j < 8) {u : Nat → Nat → Int32} {w : Nat → Nat → Int64} : qs_call (d + 2) 131 [.ref 116, .int x1, .int x2] (QM u w) = some (none, QM (qu u 117 (12 + 8 * j + 1) (s_cl 0 40 (s_jo (u 117) j 1 + x2))) w) := by
  refine (bq_131_0 (d + 1) 116 x1 x2 (QM u w)).trans ?_
  simp only [QM_kd, zM, if_true, qs_bI, qs_bV, mc_109, mc_112 1 e1 hj n_1 (by decide), mq_113 e1 n_1 hj (by decide)]
theorem mq_157 {d : Nat} {x0 x1 : Int32} {m : qs_M} : qs_call (d + 2) 157 [.int x0, .int x1] m = some (some (.int (qb (decide ((1 ≤ x0 ∧ x0 ≤ 60) ∧ 0 ≤ x1 ∧ x1 ≤ 1)))), m) := by
  refine (bq_157_0 (d + 1) x0 x1 m).trans ?_
  simp only [mq_108, qs_bI, qb_0]
  by_cases h1 : 1 ≤ x0 ∧ x0 ≤ 60 <;> by_cases h2 : 0 ≤ x1 ∧ x1 ≤ 1 <;> simp [h1, h2, qb]
