/-! MORE PUBLIC METHODS OF THE REFERENCE -/
def s_rule (R : Nat → Int32) (x v : Int32) : Int32 × (Nat → Int32) :=
  if s_in x 0 2 = false then (sBAD, R) else if x = 0 then (if s_in v 0 1 = false then (sBAD, R) else (R 3, upd R 3 v)) else if x = 1 then (if s_in v 0 100 = false then (sBAD, R) else (R 4, upd R 4 v)) else (if s_in v 0 9999 = false then (sBAD, R) else (R 5, upd R 5 v))
theorem s_in_n {x a b : Int32} {n : Nat} (h : s_in x a b = true) (ha : 0 ≤ a) (hb : b = nI n) (hn : n < 2 ^ 31) : ∃ k, k ≤ n ∧ x = nI k := by
  unfold s_in at h
  have h1 := of_decide_eq_true h
  obtain ⟨k, h2, rfl⟩ := nI_of (Int32.not_lt.mpr (Int32.le_trans ha h1.1))
  rw [hb] at h1
  exact ⟨k, (nI_leI h2 hn).mp h1.2, rfl⟩
theorem mq_134 {d : Nat} {u : Nat → Nat → Int32} {w : Nat → Nat → Int64} {x v : Int32} : ∃ v', qs_call (d + 2) 134 [.ref 116, .int x, .int v] (QM u w) = some (some (.int (s_rule (u 117) x v).1), QM v' w) ∧ v' 117 = (s_rule (u 117) x v).2 ∧ ∀ a, a ≠ 117 → v' a = u a := by
  unfold s_rule
  by_cases g1 : s_in x 0 2 = false
  · refine ⟨u, ?_, by rw [if_pos g1], fun _ _ => rfl⟩
    refine (bq_134_0 (d + 1) 116 _ _ (QM u w)).trans ?_
    rw [if_pos g1]
    simp only [mc_108, qs_bI, qb_0, g1, if_true]
    rfl
  obtain ⟨k, hk, rfl⟩ := s_in_n (x := x) (a := 0) (b := 2) (n := 2) (by simpa using g1) (by decide) rfl (by omega)
  have z01 : ¬ (1 : Int32) = 0 := by decide
  have z20 : ¬ (2 : Int32) = 0 := by decide
  have z21 : ¬ (2 : Int32) = 1 := by decide
  rcases (by omega : k = 0 ∨ k = 1 ∨ k = 2) with rfl | rfl | rfl
  · have e : nI 0 = 0 := rfl
    rw [e] at g1 ⊢
    by_cases g2 : s_in v 0 1 = false
    · refine ⟨u, ?_, by rw [if_neg g1, if_pos rfl, if_pos g2], fun _ _ => rfl⟩
      refine (bq_134_0 (d + 1) 116 _ _ (QM u w)).trans ?_
      rw [if_neg g1, if_pos rfl, if_pos g2]
      simp only [mc_108, qs_bI, qb_0, g1, g2, Bool.true_eq_false, if_true, if_false]
      rfl
    · refine ⟨qu u 117 3 v, ?_, by rw [if_neg g1, if_pos rfl, if_neg g2, qu_same], fun a ha => by rw [qu_ne _ _ _ ha]⟩
      refine (bq_134_0 (d + 1) 116 _ _ (QM u w)).trans ?_
      rw [if_neg g1, if_pos rfl, if_neg g2]
      simp only [QM_kd, zM, mc_108, mq_114 (show (3 : Int32) + 0 = nI 3 from rfl) (show 3 < 1448 by decide), qs_bI, qb_0, g1, g2, Bool.true_eq_false, if_true, if_false]
  · have e : nI 1 = 1 := rfl
    rw [e] at g1 ⊢
    by_cases g2 : s_in v 0 100 = false
    · refine ⟨u, ?_, by rw [if_neg g1, if_neg z01, if_pos rfl, if_pos g2], fun _ _ => rfl⟩
      refine (bq_134_0 (d + 1) 116 _ _ (QM u w)).trans ?_
      rw [if_neg g1, if_neg z01, if_pos rfl, if_pos g2]
      simp only [mc_108, qs_bI, qb_0, g1, g2, z01, Bool.true_eq_false, if_true, if_false]
      rfl
    · refine ⟨qu u 117 4 v, ?_, by rw [if_neg g1, if_neg z01, if_pos rfl, if_neg g2, qu_same], fun a ha => by rw [qu_ne _ _ _ ha]⟩
      refine (bq_134_0 (d + 1) 116 _ _ (QM u w)).trans ?_
      rw [if_neg g1, if_neg z01, if_pos rfl, if_neg g2]
      simp only [QM_kd, zM, mc_108, mq_114 (show (3 : Int32) + 1 = nI 4 from rfl) (show 4 < 1448 by decide), qs_bI, qb_0, g1, g2, z01, Bool.true_eq_false, if_true, if_false]
  · have e : nI 2 = 2 := rfl
    rw [e] at g1 ⊢
    by_cases g2 : s_in v 0 9999 = false
    · refine ⟨u, ?_, by rw [if_neg g1, if_neg z20, if_neg z21, if_pos g2], fun _ _ => rfl⟩
      refine (bq_134_0 (d + 1) 116 _ _ (QM u w)).trans ?_
      rw [if_neg g1, if_neg z20, if_neg z21, if_pos g2]
      simp only [mc_108, qs_bI, qb_0, g1, g2, z20, z21, Bool.true_eq_false, if_true, if_false]
      rfl
    · refine ⟨qu u 117 5 v, ?_, by rw [if_neg g1, if_neg z20, if_neg z21, if_neg g2, qu_same], fun a ha => by rw [qu_ne _ _ _ ha]⟩
      refine (bq_134_0 (d + 1) 116 _ _ (QM u w)).trans ?_
      rw [if_neg g1, if_neg z20, if_neg z21, if_neg g2]
      simp only [QM_kd, zM, mc_108, mq_114 (show (3 : Int32) + 2 = nI 5 from rfl) (show 5 < 1448 by decide), qs_bI, qb_0, g1, g2, z20, z21, Bool.true_eq_false, if_true, if_false]
