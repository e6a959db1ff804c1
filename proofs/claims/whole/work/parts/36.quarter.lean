def s_qu (R : Nat → Int32) (j : Nat) : Nat → Int32 :=
  let R1 := upd R (12 + 8 * j + 1) (s_cl 0 40 (s_jo R j 1 + 1))
  let ab := s_jo R1 j 1 - s_bears (s_jo R1 j)
  if ab ≤ 0 then R1 else if 10 * ab ≤ s_dr (s_z (R 0)) - s_dr (s_z (R 0)) / 100 * 100 then upd R1 0 (s_z (R 0)) else upd (upd (upd R1 0 (s_z (R 0))) (12 + 8 * j + 0) 5) 9 (R 9 + 1)
theorem mq_132 {d : Nat} {u : Nat → Nat → Int32} {w : Nat → Nat → Int64} {x1 : Int32} {j : Nat} (e1 : x1 = nI j) (hj : j < 8) : ∃ v', qs_call (d + 3) 132 [.ref 116, .int x1] (QM u w) = some (none, QM v' w) ∧ v' 117 = s_qu (u 117) j ∧ ∀ a, a ≠ 117 → v' a = u a := by
  have c0 : (qu u 117 (12 + 8 * j + 1) (s_cl 0 40 (s_jo (u 117) j 1 + 1))) 117 = upd (u 117) (12 + 8 * j + 1) (s_cl 0 40 (s_jo (u 117) j 1 + 1)) := qu_same _ _ _ _
  have c1 : upd (u 117) (12 + 8 * j + 1) (s_cl 0 40 (s_jo (u 117) j 1 + 1)) 0 = u 117 0 := by
    unfold upd
    rw [if_neg (by omega)]
  generalize hR : upd (u 117) (12 + 8 * j + 1) (s_cl 0 40 (s_jo (u 117) j 1 + 1)) = R1 at c0 c1
  have c9 : R1 9 = u 117 9 := by
    rw [← hR]
    unfold upd
    rw [if_neg (by omega)]
  generalize hv : qu u 117 (12 + 8 * j + 1) (s_cl 0 40 (s_jo (u 117) j 1 + 1)) = v at c0
  have hvo : ∀ a, a ≠ 117 → v a = u a := fun a ha => by rw [← hv, qu_ne _ _ _ ha]
  have hs : s_qu (u 117) j = if s_jo R1 j 1 - s_bears (s_jo R1 j) ≤ 0 then R1 else if 10 * (s_jo R1 j 1 - s_bears (s_jo R1 j)) ≤ s_dr (s_z (u 117 0)) - s_dr (s_z (u 117 0)) / 100 * 100 then upd R1 0 (s_z (u 117 0)) else upd (upd (upd R1 0 (s_z (u 117 0))) (12 + 8 * j + 0) 5) 9 (u 117 9 + 1) := by
    unfold s_qu
    simp only [hR]
  rw [hs]
  by_cases h1 : s_jo R1 j 1 - s_bears (s_jo R1 j) ≤ 0
  · refine ⟨v, ?_, by rw [if_pos h1]; exact c0, hvo⟩
    refine (bq_132_0 (d + 2) 116 x1 (QM u w)).trans ?_
    simp only [QM_kd, zM, qs_bI, qs_bV, mq_131 e1 hj, mc_112 1 e1 hj n_1 (by decide), mq_121 e1 hj, hv, c0, h1, if_true]
  · by_cases h2 : 10 * (s_jo R1 j 1 - s_bears (s_jo R1 j)) ≤ s_dr (s_z (u 117 0)) - s_dr (s_z (u 117 0)) / 100 * 100
    · refine ⟨qu v 117 0 (s_z (u 117 0)), ?_, by rw [if_neg h1, if_pos h2, qu_same, c0], fun a ha => by rw [qu_ne _ _ _ ha, hvo a ha]⟩
      refine (bq_132_0 (d + 2) 116 x1 (QM u w)).trans ?_
      simp only [QM_kd, zM, qs_bI, qs_bV, mq_131 e1 hj, mc_112 1 e1 hj n_1 (by decide), mq_121 e1 hj, mq_130, hv, c0, c1, h1, h2, if_true, if_false]
    · have k9 : qu (qu v 117 0 (s_z (u 117 0))) 117 (12 + 8 * j + 0) 5 117 9 = u 117 9 := by
        rw [qu_at, if_neg (by omega), qu_at, if_neg (by omega), c0, c9]
      refine ⟨qu (qu (qu v 117 0 (s_z (u 117 0))) 117 (12 + 8 * j + 0) 5) 117 9 (u 117 9 + 1), ?_, by rw [if_neg h1, if_neg h2, qu_same, qu_same, qu_same, c0], fun a ha => by rw [qu_ne _ _ _ ha, qu_ne _ _ _ ha, qu_ne _ _ _ ha, hvo a ha]⟩
      refine (bq_132_0 (d + 2) 116 x1 (QM u w)).trans ?_
      simp only [QM_kd, QM_sz, QM_lk, QM_i, QM_wi, zM, zI, qs_bI, qs_bV, mq_131 e1 hj, mc_112 1 e1 hj n_1 (by decide), mq_121 e1 hj, mq_130, mq_113 e1 n_0 hj (by decide), hv, c0, c1, h1, h2, k9, Nat.reduceSub, Nat.reduceLeDiff, Nat.reduceLT, true_and, and_true, if_true, if_false]
theorem s_isj {M : Nat} (hM : M ≤ 8) {x : Int32} : (0 ≤ x ∧ x ≤ nI M - 1) ↔ ∃ j, j < M ∧ x = nI j := by
  constructor
  · intro ⟨h1, h2⟩
    rcases Nat.eq_zero_or_pos M with rfl | h0
    · have h3 : x ≤ -1 := h2
      have h4 := Int32.le_iff_toInt_le.mp h1
      have h5 := Int32.le_iff_toInt_le.mp h3
      have h6 : (0 : Int32).toInt = 0 := by decide
      have h7 : (-1 : Int32).toInt = -1 := by decide
      omega
    · obtain ⟨j, hj, rfl⟩ := nI_of (Int32.not_lt.mpr h1)
      rw [nI_sub1 h0] at h2
      have := (nI_leI hj (by omega)).mp h2
      exact ⟨j, by omega, rfl⟩
  · intro ⟨j, h1, h2⟩
    subst h2
    rw [nI_sub1 (by omega)]
    exact ⟨nI_pos' (by omega), nI_le (by omega) (by omega)⟩
theorem mc_111 {d : Nat} {j M : Nat} {x : Int32} {u : Nat → Nat → Int32} {w : Nat → Nat → Int64} (hM : M ≤ 8) (h1 : u 117 1 = nI M) (hx : x = nI j) (hj : j < 2 ^ 31) : qs_call (d + 2) 111 [.ref 116, .int x] (QM u w) = some (some (.int (qb (decide (j < M)))), QM u w) := by
  rw [mq_111, h1]
  have e : decide (0 ≤ x ∧ x ≤ nI M - 1) = decide (j < M) := by
    apply decide_eq_decide.mpr
    rw [s_isj hM]
    constructor
    · intro ⟨k, h2, h3⟩
      rw [hx] at h3
      have := (nI_eq hj (by omega)).mp h3
      omega
    · intro h2
      exact ⟨j, h2, hx⟩
  rw [e]
/-- to which one beside it a joint's drips run -/
def s_left (R : Nat → Int32) (j : Nat) : Nat := if 0 < j ∧ s_jo R (j - 1) 6 < s_jo R j 6 then j - 1 else j
def s_rn (R : Nat → Int32) (M j : Nat) : Nat := if j + 1 < M ∧ s_jo R (j + 1) 6 < s_jo R (s_left R j) 6 then j + 1 else s_left R j
theorem mq_123 {d : Nat} {j M : Nat} {x : Int32} {u : Nat → Nat → Int32} {w : Nat → Nat → Int64} (hM : M ≤ 8) (h1 : u 117 1 = nI M) (hx : x = nI j) (hj : j < M) : qs_call (d + 3) 123 [.ref 116, .int x] (QM u w) = some (some (.int (nI (s_rn (u 117) M j))), QM u w) := by
  subst hx
  refine (bq_123_0 (d + 2) 116 _ (QM u w)).trans ?_
  have e0 : (nI j + 1) = nI (j + 1) := (nI_succ j).symm
  have a1 : ∀ (h : j + 1 < M), qs_call (d + 2) 112 [.ref 116, .int (nI (j + 1)), .int 6] (QM u w) = some (some (.int (s_jo (u 117) (j + 1) 6)), QM u w) := fun h => mc_112 6 rfl (by omega) n_6 (by decide)
  have a2 : qs_call (d + 2) 112 [.ref 116, .int (nI j), .int 6] (QM u w) = some (some (.int (s_jo (u 117) j 6)), QM u w) := mc_112 6 rfl (by omega) n_6 (by decide)
  have a3 : qs_call (d + 2) 112 [.ref 116, .int (nI (j - 1)), .int 6] (QM u w) = some (some (.int (s_jo (u 117) (j - 1) 6)), QM u w) := mc_112 6 rfl (by omega) n_6 (by decide)
  have a4 : qs_call (d + 2) 111 [.ref 116, .int (nI (j + 1))] (QM u w) = some (some (.int (qb (decide (j + 1 < M)))), QM u w) := mc_111 hM h1 rfl (by omega)
  rcases Nat.eq_zero_or_pos j with h0 | h0
  · have e1 : nI j ≤ 0 := by rw [h0]; decide
    have e2 : s_left (u 117) j = j := by unfold s_left; rw [if_neg (by omega)]
    unfold s_rn
    rw [if_pos e1, e2]
    by_cases hb : j + 1 < M
    · by_cases hc : s_jo (u 117) j 6 ≤ s_jo (u 117) (j + 1) 6
      · simp only [QM_kd, zM, qs_bI, e0, a4, a1 hb, a2, hb, hc, qb_0, decide_true, if_true, if_false, true_and, Bool.true_eq_false, Int32.not_lt.mpr hc]
      · simp only [QM_kd, zM, qs_bI, e0, a4, a1 hb, a2, hb, hc, qb_0, decide_true, if_true, if_false, true_and, Bool.true_eq_false, Int32.not_le.mp hc]
    · simp only [QM_kd, zM, qs_bI, e0, a4, hb, qb_0, decide_false, if_true, if_false, false_and]
  · have e1 : ¬ nI j ≤ 0 := nI_nle h0 (by omega)
    have e3 : nI j - 1 = nI (j - 1) := nI_sub1 h0
    unfold s_rn
    rw [if_neg e1, e3]
    by_cases ha : s_jo (u 117) j 6 ≤ s_jo (u 117) (j - 1) 6
    · have e2 : s_left (u 117) j = j := by
        unfold s_left
        rw [if_neg (fun q => Int32.not_lt.mpr ha q.2)]
      rw [e2]
      by_cases hb : j + 1 < M
      · by_cases hc : s_jo (u 117) j 6 ≤ s_jo (u 117) (j + 1) 6
        · simp only [QM_kd, zM, qs_bI, e0, a4, a1 hb, a2, a3, ha, hb, hc, qb_0, decide_true, if_true, if_false, true_and, Bool.true_eq_false, Int32.not_lt.mpr hc]
        · simp only [QM_kd, zM, qs_bI, e0, a4, a1 hb, a2, a3, ha, hb, hc, qb_0, decide_true, if_true, if_false, true_and, Bool.true_eq_false, Int32.not_le.mp hc]
      · simp only [QM_kd, zM, qs_bI, e0, a4, a2, a3, ha, hb, qb_0, decide_false, if_true, if_false, false_and]
    · have e2 : s_left (u 117) j = j - 1 := by
        unfold s_left
        rw [if_pos ⟨h0, Int32.not_le.mp ha⟩]
      rw [e2]
      by_cases hb : j + 1 < M
      · by_cases hc : s_jo (u 117) (j - 1) 6 ≤ s_jo (u 117) (j + 1) 6
        · simp only [QM_kd, zM, qs_bI, e0, a4, a1 hb, a2, a3, ha, hb, hc, qb_0, decide_true, if_true, if_false, true_and, Bool.true_eq_false, Int32.not_lt.mpr hc]
        · simp only [QM_kd, zM, qs_bI, e0, a4, a1 hb, a2, a3, ha, hb, hc, qb_0, decide_true, if_true, if_false, true_and, Bool.true_eq_false, Int32.not_le.mp hc]
      · simp only [QM_kd, zM, qs_bI, e0, a4, a2, a3, ha, hb, qb_0, decide_false, if_true, if_false, false_and]
