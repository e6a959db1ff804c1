/-! MORE PUBLIC METHODS OF THE REFERENCE -/
def s_rule (R : Nat → Int32) (x v : Int32) : Int32 × (Nat → Int32) :=
  if s_in x 0 2 = false then (sBAD, R) else if x = 0 then (if s_in v 0 1 = false then (sBAD, R) else (R 3, upd R 3 v)) else if x = 1 then (if s_in v 0 100 = false then (sBAD, R) else (R 4, upd R 4 v)) else (if s_in v 0 9999 = false then (sBAD, R) else (R 5, upd R 5 v))
theorem s_in_n {x a b : Int32} {n : Nat} (h : s_in x a b = true) (ha : 0 ≤ a) (hb : b = nI n) (hn : n < 2 ^ 31) : ∃ k, k ≤ n ∧ x = nI k := by
  unfold s_in at h
  have h1 := of_decide_eq_true h
  obtain ⟨k, h2, rfl⟩ := nI_of (Int32.not_lt.mpr (Int32.le_trans ha h1.1))
  rw [hb] at h1
  exact ⟨k, (nI_leI h2 hn).mp h1.2, rfl⟩
theorem mq_134 {d : Nat} {u : Nat → Nat → Int32} {w : Nat → Nat → Int64} {x v : Int32} : ∃ v', qs_call (d + 2) 134 [.ref 116, .int x, .int v] (QM u w) = some (some (.int (s_rule (u 117) x v).1), QM v' w) ∧ v' 117 = (s_rule (u 117) x v).2 ∧ ∀ a, a ≠ 117 → v' a = u a := by
  unfold s_rule
  by_cases g1 : s_in x 0 2 = false
  · refine ⟨u, ?_, by rw [if_pos g1], fun _ _ => rfl⟩
    refine (bq_134_0 (d + 1) 116 _ _ (QM u w)).trans ?_
    rw [if_pos g1]
    simp only [mc_108, qs_bI, qb_0, g1, if_true]
    rfl
  obtain ⟨k, hk, rfl⟩ := s_in_n (x := x) (a := 0) (b := 2) (n := 2) (by simpa using g1) (by decide) rfl (by omega)
  have z01 : ¬ (1 : Int32) = 0 := by decide
  have z20 : ¬ (2 : Int32) = 0 := by decide
  have z21 : ¬ (2 : Int32) = 1 := by decide
  rcases (by omega : k = 0 ∨ k = 1 ∨ k = 2) with rfl | rfl | rfl
  · have e : nI 0 = 0 := rfl
    rw [e] at g1 ⊢
    by_cases g2 : s_in v 0 1 = false
    · refine ⟨u, ?_, by rw [if_neg g1, if_pos rfl, if_pos g2], fun _ _ => rfl⟩
      refine (bq_134_0 (d + 1) 116 _ _ (QM u w)).trans ?_
      rw [if_neg g1, if_pos rfl, if_pos g2]
      simp only [mc_108, qs_bI, qb_0, g1, g2, Bool.true_eq_false, if_true, if_false]
      rfl
    · refine ⟨qu u 117 3 v, ?_, by rw [if_neg g1, if_pos rfl, if_neg g2, qu_same], fun a ha => by rw [qu_ne _ _ _ ha]⟩
      refine (bq_134_0 (d + 1) 116 _ _ (QM u w)).trans ?_
      rw [if_neg g1, if_pos rfl, if_neg g2]
      simp only [QM_kd, zM, mc_108, mq_114 (show (3 : Int32) + 0 = nI 3 from rfl) (show 3 < 1448 by decide), qs_bI, qb_0, g1, g2, Bool.true_eq_false, if_true, if_false]
  · have e : nI 1 = 1 := rfl
    rw [e] at g1 ⊢
    by_cases g2 : s_in v 0 100 = false
    · refine ⟨u, ?_, by rw [if_neg g1, if_neg z01, if_pos rfl, if_pos g2], fun _ _ => rfl⟩
      refine (bq_134_0 (d + 1) 116 _ _ (QM u w)).trans ?_
      rw [if_neg g1, if_neg z01, if_pos rfl, if_pos g2]
      simp only [mc_108, qs_bI, qb_0, g1, g2, z01, Bool.true_eq_false, if_true, if_false]
      rfl
    · refine ⟨qu u 117 4 v, ?_, by rw [if_neg g1, if_neg z01, if_pos rfl, if_neg g2, qu_same], fun a ha => by rw [qu_ne _ _ _ ha]⟩
      refine (bq_134_0 (d + 1) 116 _ _ (QM u w)).trans ?_
      rw [if_neg g1, if_neg z01, if_pos rfl, if_neg g2]
      simp only [QM_kd, zM, mc_108, mq_114 (show (3 : Int32) + 1 = nI 4 from rfl) (show 4 < 1448 by decide), qs_bI, qb_0, g1, g2, z01, Bool.true_eq_false, if_true, if_false]
  · have e : nI 2 = 2 := rfl
    rw [e] at g1 ⊢
    by_cases g2 : s_in v 0 9999 = false
    · refine ⟨u, ?_, by rw [if_neg g1, if_neg z20, if_neg z21, if_pos g2], fun _ _ => rfl⟩
      refine (bq_134_0 (d + 1) 116 _ _ (QM u w)).trans ?_
      rw [if_neg g1, if_neg z20, if_neg z21, if_pos g2]
      simp only [mc_108, qs_bI, qb_0, g1, g2, z20, z21, Bool.true_eq_false, if_true, if_false]
      rfl
    · refine ⟨qu u 117 5 v, ?_, by rw [if_neg g1, if_neg z20, if_neg z21, if_neg g2, qu_same], fun a ha => by rw [qu_ne _ _ _ ha]⟩
      refine (bq_134_0 (d + 1) 116 _ _ (QM u w)).trans ?_
      rw [if_neg g1, if_neg z20, if_neg z21, if_neg g2]
      simp only [QM_kd, zM, mc_108, mq_114 (show (3 : Int32) + 2 = nI 5 from rfl) (show 5 < 1448 by decide), qs_bI, qb_0, g1, g2, z20, z21, Bool.true_eq_false, if_true, if_false]
def s_qs (R : Nat → Int32) (j : Nat) : Nat → Nat → Int32
  | 0 => R
  | n + 1 => s_qu (s_qs R j n) j
theorem mq_133L {d : Nat} {R : Nat → Int32} {w : Nat → Nat → Int64} {j n : Nat} (hj : j < 8) (hn : n < 2 ^ 31) (h0 : 0 < n) : ∀ (r k : Nat) (u : Nat → Nat → Int32), k + r = n → u 117 = s_qs R j k → ∃ v', qs_EV (d + 3) 133 28 [some (.ref 116), some (.int (nI j)), some (.int (nI n)), some (.int (nI k))] [] (QM u w) = some (some (.int (s_jo (s_qs R j n) j 1)), QM v' w) ∧ v' 117 = s_qs R j n ∧ ∀ a, a ≠ 117 → v' a = u a
  | 0, k, u, hk, hu => by
    obtain rfl : k = n := by omega
    refine ⟨u, ?_, hu, fun _ _ => rfl⟩
    refine (bq_133_28 (d + 3) 116 _ _ _ (QM u w)).trans ?_
    rw [if_pos (nI_le (Nat.le_refl _) hn), if_pos (nI_pos' hn)]
    simp only [QM_kd, zM, qs_bI, mc_112 1 (show nI j = nI j from rfl) hj n_1 (by decide), hu, if_true]
  | r + 1, k, u, hk, hu => by
    obtain ⟨v, k1, k2, k3⟩ := mq_132 (d := d) (u := u) (w := w) (x1 := nI j) rfl hj
    obtain ⟨v', g1, g2, g3⟩ := mq_133L (d := d) (R := R) (w := w) hj hn h0 r (k + 1) v (by omega) (by rw [k2, hu]; rfl)
    refine ⟨v', ?_, g2, fun a ha => by rw [g3 a ha, k3 a ha]⟩
    refine (bq_133_28 (d + 3) 116 _ _ _ (QM u w)).trans ?_
    rw [nI_succ] at g1
    rw [if_neg (nI_ge (by omega) hn)]
    simp only [QM_kd, zM, qs_bV, k1, g1, if_true]
def s_turn (R : Nat → Int32) (M : Nat) (x n : Int32) : Int32 × (Nat → Int32) :=
  if s_in x 0 (nI M - 1) = false then (sBAD, R) else if s_in n (-9) 9 = false then (sBAD, R) else if n = 0 then (sBAD, R) else
  if n < 0 then (s_cl 0 40 (s_jo R x.toNatClampNeg 1 + n), upd R (12 + 8 * x.toNatClampNeg + 1) (s_cl 0 40 (s_jo R x.toNatClampNeg 1 + n)))
  else (s_jo (s_qs R x.toNatClampNeg n.toNatClampNeg) x.toNatClampNeg 1, s_qs R x.toNatClampNeg n.toNatClampNeg)
theorem mq_133 {d : Nat} {u : Nat → Nat → Int32} {w : Nat → Nat → Int64} {x n : Int32} {M : Nat} (hM : M ≤ 8) (h1 : u 117 1 = nI M) : ∃ v', qs_call (d + 4) 133 [.ref 116, .int x, .int n] (QM u w) = some (some (.int (s_turn (u 117) M x n).1), QM v' w) ∧ v' 117 = (s_turn (u 117) M x n).2 ∧ ∀ a, a ≠ 117 → v' a = u a := by
  unfold s_turn
  by_cases g1 : s_in x 0 (nI M - 1) = false
  · refine ⟨u, ?_, by rw [if_pos g1], fun _ _ => rfl⟩
    refine (bq_133_0 (d + 3) 116 _ _ (QM u w)).trans ?_
    rw [if_pos g1]
    simp only [QM_kd, zM, mc_111x h1, qs_bI, qb_0, g1, if_true]
    rfl
  obtain ⟨j, hj, rfl⟩ := (s_isj_in hM).mp (by simpa using g1)
  have ej : (nI j).toNatClampNeg = j := nI_clamp (by omega)
  rw [ej]
  by_cases g2 : s_in n (-9) 9 = false
  · refine ⟨u, ?_, by rw [if_neg g1, if_pos g2], fun _ _ => rfl⟩
    refine (bq_133_0 (d + 3) 116 _ _ (QM u w)).trans ?_
    rw [if_neg g1, if_pos g2]
    simp only [QM_kd, zM, mc_111x h1, mc_108, qs_bI, qb_0, g1, g2, Bool.true_eq_false, if_true, if_false]
    rfl
  by_cases g3 : n = 0
  · refine ⟨u, ?_, by rw [if_neg g1, if_neg g2, if_pos g3], fun _ _ => rfl⟩
    refine (bq_133_0 (d + 3) 116 _ _ (QM u w)).trans ?_
    rw [if_neg g1, if_neg g2, if_pos g3]
    simp only [QM_kd, zM, mc_111x h1, mc_108, qs_bI, qb_0, g1, g2, g3, Bool.true_eq_false, if_true, if_false]
    rfl
  by_cases g4 : n < 0
  · refine ⟨qu u 117 (12 + 8 * j + 1) (s_cl 0 40 (s_jo (u 117) j 1 + n)), ?_, by rw [if_neg g1, if_neg g2, if_neg g3, if_pos g4, qu_same], fun a ha => by rw [qu_ne _ _ _ ha]⟩
    refine (bq_133_0 (d + 3) 116 _ _ (QM u w)).trans ?_
    rw [if_neg g1, if_neg g2, if_neg g3, if_pos g4]
    have e1 : n ≤ 0 := Int32.le_of_lt g4
    have e2 : ¬ 0 ≤ n := Int32.not_le.mpr g4
    have e3 : s_jo (qu u 117 (12 + 8 * j + 1) (s_cl 0 40 (s_jo (u 117) j 1 + n)) 117) j 1 = s_cl 0 40 (s_jo (u 117) j 1 + n) := by
      unfold s_jo
      rw [qu_at, if_pos ⟨rfl, rfl⟩]
    have eL : qs_EV (d + 3) 133 28 [some (.ref 116), some (.int (nI j)), some (.int n), some (.int 0)] [] (QM u w) = some (some (.int (s_cl 0 40 (s_jo (u 117) j 1 + n))), QM (qu u 117 (12 + 8 * j + 1) (s_cl 0 40 (s_jo (u 117) j 1 + n))) w) := by
      refine (bq_133_28 (d + 3) 116 _ _ _ (QM u w)).trans ?_
      rw [if_pos e1, if_neg e2]
      simp only [QM_kd, zM, qs_bI, qs_bV, mq_131 (show nI j = nI j from rfl) (show j < 8 by omega), mc_112 1 (show nI j = nI j from rfl) (show j < 8 by omega) n_1 (by decide), e3, if_true]
    simp only [QM_kd, zM, mc_111x h1, mc_108, qs_bI, qb_0, g1, g2, g3, eL, Bool.true_eq_false, if_true, if_false]
  · obtain ⟨k, hk, rfl⟩ := nI_of g4
    have h0 : 0 < k := by
      rcases Nat.eq_zero_or_pos k with rfl | q
      · exact absurd rfl g3
      · exact q
    have ek : (nI k).toNatClampNeg = k := nI_clamp hk
    rw [ek]
    obtain ⟨v', k1, k2, k3⟩ := mq_133L (d := d) (R := u 117) (w := w) (j := j) (by omega) hk h0 k 0 u (by omega) rfl
    refine ⟨v', ?_, by rw [if_neg g1, if_neg g2, if_neg g3, if_neg g4]; exact k2, k3⟩
    refine (bq_133_0 (d + 3) 116 _ _ (QM u w)).trans ?_
    rw [if_neg g1, if_neg g2, if_neg g3, if_neg g4]
    rw [nI_0] at k1
    simp only [QM_kd, zM, mc_111x h1, mc_108, qs_bI, qb_0, g1, g2, g3, k1, Bool.true_eq_false, if_true, if_false]
