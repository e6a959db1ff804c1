/-! THE CLASS'S PUBLIC METHODS: joints, hours -/
theorem s_in26 {c : Int32} (h : s_in c 2 6 = true) : ∃ k, 2 ≤ k ∧ k ≤ 6 ∧ c = nI k := by
  obtain ⟨k, hk, rfl⟩ := s_in_n (n := 6) h (by decide) rfl (by omega)
  unfold s_in at h
  have h1 := of_decide_eq_true h
  exact ⟨k, (nI_leI (a := 2) (by omega) (by omega)).mp h1.1, hk, rfl⟩
theorem s_nf {x b : Int32} {n : Nat} (h : ¬ s_in x 0 b = false) (hb : b = nI n) (hn : n < 2 ^ 31) : ∃ k, k ≤ n ∧ x = nI k := s_in_n (by simpa using h) (by decide) hb hn
theorem c_3 {d k c : Nat} {u : Nat → Nat → Int32} {w : Nat → Nat → Int64} (z : zJ k) (h2 : 2 ≤ c) (h6 : c ≤ 6) : qs_call (d + 1) 3 [.ref k, .int (nI c)] (QM u w) = some (some (.int (u k c)), QM u w) := by
  unfold zJ at z
  refine (bq_3_0 d k _ (QM u w)).trans ?_
  rcases (by omega : c = 2 ∨ c = 3 ∨ c = 4 ∨ c = 5 ∨ c = 6) with rfl | rfl | rfl | rfl | rfl
  · simp only [QM_kd, QM_sz, QM_lk, QM_i, QM_wi, zI, qs_bI, qs_bV, qb_0, z, show nI 2 = 2 from rfl, Bool.true_eq_false, Nat.reduceSub, Nat.reduceLeDiff, Nat.reduceLT, true_and, and_true, and_self, if_true, if_false]
  · simp only [QM_kd, QM_sz, QM_lk, QM_i, QM_wi, zI, qs_bI, qs_bV, qb_0, z, show nI 3 = 3 from rfl, iN, Bool.true_eq_false, Nat.reduceSub, Nat.reduceLeDiff, Nat.reduceLT, true_and, and_true, and_self, if_true, if_false]
  · simp only [QM_kd, QM_sz, QM_lk, QM_i, QM_wi, zI, qs_bI, qs_bV, qb_0, z, show nI 4 = 4 from rfl, iN, Bool.true_eq_false, Nat.reduceSub, Nat.reduceLeDiff, Nat.reduceLT, true_and, and_true, and_self, if_true, if_false]
  · simp only [QM_kd, QM_sz, QM_lk, QM_i, QM_wi, zI, qs_bI, qs_bV, qb_0, z, show nI 5 = 5 from rfl, iN, Bool.true_eq_false, Nat.reduceSub, Nat.reduceLeDiff, Nat.reduceLT, true_and, and_true, and_self, if_true, if_false]
  · simp only [QM_kd, QM_sz, QM_lk, QM_i, QM_wi, zI, qs_bI, qs_bV, qb_0, z, show nI 6 = 6 from rfl, show ¬ (6 : Int32) = 2 by decide, show ¬ (6 : Int32) = 3 by decide, show ¬ (6 : Int32) = 4 by decide, show ¬ (6 : Int32) = 5 by decide, Bool.true_eq_false, Nat.reduceSub, Nat.reduceLeDiff, Nat.reduceLT, true_and, and_true, and_self, if_true, if_false]
theorem c_4 {d k c : Nat} {x : Int32} {u : Nat → Nat → Int32} {w : Nat → Nat → Int64} (z : zJ k) (h2 : 2 ≤ c) (h6 : c ≤ 6) : qs_call (d + 1) 4 [.ref k, .int (nI c), .int x] (QM u w) = some (none, QM (qu u k c x) w) := by
  unfold zJ at z
  refine (bq_4_0 d k _ _ (QM u w)).trans ?_
  rcases (by omega : c = 2 ∨ c = 3 ∨ c = 4 ∨ c = 5 ∨ c = 6) with rfl | rfl | rfl | rfl | rfl
  · simp only [QM_kd, QM_sz, QM_lk, QM_i, QM_wi, zI, qs_bI, qs_bV, qb_0, z, show nI 2 = 2 from rfl, Bool.true_eq_false, Nat.reduceSub, Nat.reduceLeDiff, Nat.reduceLT, true_and, and_true, and_self, if_true, if_false]
  · simp only [QM_kd, QM_sz, QM_lk, QM_i, QM_wi, zI, qs_bI, qs_bV, qb_0, z, show nI 3 = 3 from rfl, iN, Bool.true_eq_false, Nat.reduceSub, Nat.reduceLeDiff, Nat.reduceLT, true_and, and_true, and_self, if_true, if_false]
  · simp only [QM_kd, QM_sz, QM_lk, QM_i, QM_wi, zI, qs_bI, qs_bV, qb_0, z, show nI 4 = 4 from rfl, iN, Bool.true_eq_false, Nat.reduceSub, Nat.reduceLeDiff, Nat.reduceLT, true_and, and_true, and_self, if_true, if_false]
  · simp only [QM_kd, QM_sz, QM_lk, QM_i, QM_wi, zI, qs_bI, qs_bV, qb_0, z, show nI 5 = 5 from rfl, iN, Bool.true_eq_false, Nat.reduceSub, Nat.reduceLeDiff, Nat.reduceLT, true_and, and_true, and_self, if_true, if_false]
  · simp only [QM_kd, QM_sz, QM_lk, QM_i, QM_wi, zI, qs_bI, qs_bV, qb_0, z, show nI 6 = 6 from rfl, show ¬ (6 : Int32) = 2 by decide, show ¬ (6 : Int32) = 3 by decide, show ¬ (6 : Int32) = 4 by decide, show ¬ (6 : Int32) = 5 by decide, Bool.true_eq_false, Nat.reduceSub, Nat.reduceLeDiff, Nat.reduceLT, true_and, and_true, and_self, if_true, if_false]
theorem d_53 {d M : Nat} {u : Nat → Nat → Int32} {w : Nat → Nat → Int64} {R : Nat → Int32} {k t r h : Int32} (hC : sC u 52 R M) : ∃ v' M', qs_call (d + 3) 53 [.ref 16, .int k, .int t, .int r, .int h] (QM u w) = some (some (.int (s_joint R M k t r h).1), QM v' w) ∧ sC v' 52 (s_joint R M k t r h).2 M' ∧ ∀ q, ¬ inP 52 q → v' q = u q := by
  obtain ⟨hM, h3, h1⟩ := sC_M hC
  have z := zP hC.1
  unfold zPp at z
  unfold s_joint
  by_cases g1 : s_in k 0 5 = false
  · refine ⟨u, M, ?_, by rw [if_pos g1]; exact hC, fun _ _ => rfl⟩
    refine (bq_53_0 (d + 2) 16 _ _ _ _ (QM u w)).trans ?_
    rw [if_pos g1]
    simp only [QM_kd, QM_sz, QM_lk, QM_i, QM_wi, zI, qs_bI, qs_bV, qb_0, c_99, g1, Bool.true_eq_false, Nat.reduceSub, Nat.reduceLeDiff, Nat.reduceLT, true_and, and_true, and_self, if_true, if_false]
    rfl
  by_cases g2 : s_in t 0 40 = false
  · refine ⟨u, M, ?_, by rw [if_neg g1, if_pos g2]; exact hC, fun _ _ => rfl⟩
    refine (bq_53_0 (d + 2) 16 _ _ _ _ (QM u w)).trans ?_
    rw [if_neg g1, if_pos g2]
    simp only [QM_kd, QM_sz, QM_lk, QM_i, QM_wi, zI, qs_bI, qs_bV, qb_0, c_99, c_97, g1, g2, Bool.true_eq_false, Nat.reduceSub, Nat.reduceLeDiff, Nat.reduceLT, true_and, and_true, and_self, if_true, if_false]
    rfl
  by_cases g3 : s_in r 0 40 = false
  · refine ⟨u, M, ?_, by rw [if_neg g1, if_neg g2, if_pos g3]; exact hC, fun _ _ => rfl⟩
    refine (bq_53_0 (d + 2) 16 _ _ _ _ (QM u w)).trans ?_
    rw [if_neg g1, if_neg g2, if_pos g3]
    simp only [QM_kd, QM_sz, QM_lk, QM_i, QM_wi, zI, qs_bI, qs_bV, qb_0, c_99, c_97, g1, g2, g3, Bool.true_eq_false, Nat.reduceSub, Nat.reduceLeDiff, Nat.reduceLT, true_and, and_true, and_self, if_true, if_false]
    rfl
  by_cases g4 : s_in h 0 9 = false
  · refine ⟨u, M, ?_, by rw [if_neg g1, if_neg g2, if_neg g3, if_pos g4]; exact hC, fun _ _ => rfl⟩
    refine (bq_53_0 (d + 2) 16 _ _ _ _ (QM u w)).trans ?_
    rw [if_neg g1, if_neg g2, if_neg g3, if_pos g4]
    simp only [QM_kd, QM_sz, QM_lk, QM_i, QM_wi, zI, qs_bI, qs_bV, qb_0, c_99, c_97, g1, g2, g3, g4, Bool.true_eq_false, Nat.reduceSub, Nat.reduceLeDiff, Nat.reduceLT, true_and, and_true, and_self, if_true, if_false]
    rfl
  by_cases g5 : M = 8
  · refine ⟨u, M, ?_, by rw [if_neg g1, if_neg g2, if_neg g3, if_neg g4, if_pos g5]; exact hC, fun _ _ => rfl⟩
    refine (bq_53_0 (d + 2) 16 _ _ _ _ (QM u w)).trans ?_
    rw [if_neg g1, if_neg g2, if_neg g3, if_neg g4, if_pos g5]
    have e8 : ¬ nI M < 8 := by rw [g5]; decide
    have k1 : qs_call (d + 2) 16 [.ref 52, .int k, .int t, .int r, .int h] (QM u w) = some (some (.int (-1000000003)), QM u w) := by
      refine (bq_16_0 (d + 1) 52 _ _ _ _ (QM u w)).trans ?_
      simp only [QM_kd, QM_sz, QM_lk, QM_i, QM_wi, zI, qs_bI, qs_bV, qb_0, z, h3, e8, Bool.true_eq_false, Nat.reduceSub, Nat.reduceLeDiff, Nat.reduceLT, true_and, and_true, and_self, if_true, if_false]
    simp only [QM_kd, QM_sz, QM_lk, QM_i, QM_wi, zI, qs_bI, qs_bV, qb_0, c_99, c_97, g1, g2, g3, g4, zQ, z, h3, e8, k1, Bool.true_eq_false, Nat.reduceSub, Nat.reduceLeDiff, Nat.reduceLT, true_and, and_true, and_self, if_true, if_false]
    rfl
  · have e8 : nI M < 8 := nI_lt (b := 8) (by omega) (by omega)
    obtain ⟨v', k1, k2, k3⟩ := c_16 (d := d) (w := w) (k := k) (t := t) (r := r) (h := h) hC (by omega) (s_nf (n := 5) g1 rfl (by omega)) (s_nf (n := 40) g2 rfl (by omega)) (s_nf (n := 40) g3 rfl (by omega)) (s_nf (n := 9) g4 rfl (by omega))
    refine ⟨v', M + 1, ?_, by rw [if_neg g1, if_neg g2, if_neg g3, if_neg g4, if_neg g5]; exact k2, k3⟩
    refine (bq_53_0 (d + 2) 16 _ _ _ _ (QM u w)).trans ?_
    rw [if_neg g1, if_neg g2, if_neg g3, if_neg g4, if_neg g5]
    simp only [QM_kd, QM_sz, QM_lk, QM_i, QM_wi, zI, qs_bI, qs_bV, qb_0, c_99, c_97, g1, g2, g3, g4, zQ, z, h3, e8, k1, Bool.true_eq_false, Nat.reduceSub, Nat.reduceLeDiff, Nat.reduceLT, true_and, and_true, and_self, if_true, if_false]
theorem zj52 {j : Nat} (hj : j < 8) : qs_lk qy_m (52 + 1) j = 52 + 3 + j + 2 ∧ 18 ≤ 52 + 3 + j + 2 ∧ qs_kd qy_m (52 + 3 + j) = 0 ∧ qs_lk qy_m (52 + 3 + j) 0 = 0 ∧ qs_lk qy_m (52 + 3 + j) 1 = 0 ∧ qs_lk qy_m (52 + 3 + j) 2 = 0 ∧ qs_lk qy_m (52 + 3 + j) 3 = 0 ∧ qs_lk qy_m (52 + 3 + j) 4 = 0 ∧ qs_lk qy_m (52 + 3 + j) 5 = 0 ∧ qs_lk qy_m (52 + 3 + j) 6 = 0 ∧ qs_lk qy_m (52 + 3 + j) 7 = 0 ∧ (nI j).toNatClampNeg = j ∧ 0 ≤ nI j ∧ j < 8 := by
  obtain ⟨z1, z2, z3⟩ := zPj (p := 52) (j := j) (Or.inl rfl) hj
  unfold zJ at z3
  exact ⟨z1, z2, z3.1, z3.2.1, z3.2.2.1, z3.2.2.2.1, z3.2.2.2.2.1, z3.2.2.2.2.2.1, z3.2.2.2.2.2.2.1, z3.2.2.2.2.2.2.2.1, z3.2.2.2.2.2.2.2.2, nI_clamp (by omega), nI_pos' (by omega), hj⟩
theorem z52 : zPp 52 := zP (Or.inl rfl)
theorem s_in_nk {c a b : Int32} {k : Nat} (hk : c = nI k) (h1 : a ≤ nI k) (h2 : nI k ≤ b) : s_in c a b = true := by
  rw [hk]
  exact decide_eq_true ⟨h1, h2⟩
theorem d_54 {d M : Nat} {u : Nat → Nat → Int32} {w : Nat → Nat → Int64} {R : Nat → Int32} {x c : Int32} (hC : sC u 52 R M) : ∃ v', qs_call (d + 4) 54 [.ref 16, .int x, .int c] (QM u w) = some (some (.int (s_told R M x c)), QM v' w) ∧ ∀ q, q ≠ 19 → v' q = u q := by
  obtain ⟨hM, h3, h1⟩ := sC_M hC
  have z := z52
  unfold zPp at z
  have b15 := c_15 (d := d + 2) (w := w) (x := x) hC
  unfold s_told
  by_cases g1 : s_in x 0 (nI M - 1) = false
  · refine ⟨u, ?_, fun _ _ => rfl⟩
    refine (bq_54_0 (d + 3) 16 _ _ (QM u w)).trans ?_
    rw [if_pos g1]
    simp only [QM_kd, QM_sz, QM_lk, QM_i, QM_wi, zI, qs_bI, qs_bV, qb_0, zQ, z, b15, g1, Bool.true_eq_false, Nat.reduceSub, Nat.reduceLeDiff, Nat.reduceLT, true_and, and_true, and_self, if_true, if_false]
    rfl
  obtain ⟨j, hj, rfl⟩ := (s_isj_in hM).mp (by simpa using g1)
  have y := zj52 (j := j) (by omega)
  have zj := (zPj (p := 52) (j := j) (Or.inl rfl) (by omega)).2.2
  rw [y.2.2.2.2.2.2.2.2.2.2.2.1, if_neg g1]
  obtain ⟨f4, -⟩ := sC_f hC
  have e := fun c hc => sJ_e (c := c) hC hj hc
  have e0 := e 0 (by omega)
  have e1 := e 1 (by omega)
  have e2 := e 2 (by omega)
  have e3 := e 3 (by omega)
  have e4 := e 4 (by omega)
  have e5 := e 5 (by omega)
  have e6 := e 6 (by omega)
  have e7 := e 7 (by omega)
  have hJ := hC.2.2.1.2.2.1 j hj
  by_cases h9 : c = 9
  · subst h9
    obtain ⟨v', k1, k2⟩ := c_19 (d := d) (w := w) hC hj
    refine ⟨v', ?_, k2⟩
    refine (bq_54_0 (d + 3) 16 _ _ (QM u w)).trans ?_
    simp only [QM_kd, QM_sz, QM_lk, QM_i, QM_wi, zI, qs_bI, qs_bV, qb_0, zQ, z, y, b15, g1, k1, show ¬ (9 : Int32) = 0 by decide, show ¬ (9 : Int32) = 1 by decide, show ¬ (9 : Int32) = 2 by decide, show ¬ (9 : Int32) = 3 by decide, show ¬ (9 : Int32) = 4 by decide, show ¬ (9 : Int32) = 5 by decide, show ¬ (9 : Int32) = 6 by decide, show ¬ (9 : Int32) = 7 by decide, show ¬ (9 : Int32) = 8 by decide, Nat.add_sub_cancel, Nat.le_add_left, Bool.true_eq_false, Nat.reduceSub, Nat.reduceLeDiff, Nat.reduceLT, true_and, and_true, and_self, if_true, if_false]
  · refine ⟨u, ?_, fun _ _ => rfl⟩
    have k2 : ∀ k, 2 ≤ k → k ≤ 6 → qs_call (d + 3) 3 [.ref (52 + 3 + j), .int (nI k)] (QM u w) = some (some (.int (u (52 + 3 + j) k)), QM u w) := fun k a b => c_3 (d := d + 2) zj a b
    have k103 : ∀ k, 2 ≤ k → k ≤ 6 → s_in (nI k) 2 6 = true := fun k a b => decide_eq_true ⟨nI_le (a := 2) a (by omega), nI_le (b := 6) b (by omega)⟩
    refine (bq_54_0 (d + 3) 16 _ _ (QM u w)).trans ?_
    simp only [QM_kd, QM_sz, QM_lk, QM_i, QM_wi, zI, qs_bI, qs_bV, qb_0, zQ, z, y, b15, g1, Nat.add_sub_cancel, Nat.le_add_left, Bool.true_eq_false, Nat.reduceSub, Nat.reduceLeDiff, Nat.reduceLT, true_and, and_true, and_self, if_true, if_false]
    by_cases h : c = 0
    · simp only [QM_kd, QM_sz, QM_lk, QM_i, QM_wi, zI, qs_bI, qs_bV, qb_0, h, e0, Bool.true_eq_false, Nat.reduceSub, Nat.reduceLeDiff, Nat.reduceLT, true_and, and_true, and_self, if_true, if_false]
    simp only [QM_kd, QM_sz, QM_lk, QM_i, QM_wi, zI, qs_bI, qs_bV, qb_0, h, Bool.true_eq_false, Nat.reduceSub, Nat.reduceLeDiff, Nat.reduceLT, true_and, and_true, and_self, if_true, if_false]
    have h0 := h
    clear h
    by_cases h : c = 1
    · simp only [QM_kd, QM_sz, QM_lk, QM_i, QM_wi, zI, qs_bI, qs_bV, qb_0, h, e1, Bool.true_eq_false, Nat.reduceSub, Nat.reduceLeDiff, Nat.reduceLT, true_and, and_true, and_self, if_true, if_false]
    simp only [QM_kd, QM_sz, QM_lk, QM_i, QM_wi, zI, qs_bI, qs_bV, qb_0, h, Bool.true_eq_false, Nat.reduceSub, Nat.reduceLeDiff, Nat.reduceLT, true_and, and_true, and_self, if_true, if_false]
    have hh1 := h
    clear h
    by_cases h : c = 2
    · have a := k2 2 (by omega) (by omega)
      have b := k103 2 (by omega) (by omega)
      rw [show nI 2 = 2 from rfl] at a b
      simp only [QM_kd, QM_sz, QM_lk, QM_i, QM_wi, zI, qs_bI, qs_bV, qb_0, h, y, c_103, b, a, e2, Bool.true_eq_false, Nat.reduceSub, Nat.reduceLeDiff, Nat.reduceLT, true_and, and_true, and_self, if_true, if_false]
    simp only [QM_kd, QM_sz, QM_lk, QM_i, QM_wi, zI, qs_bI, qs_bV, qb_0, h, Bool.true_eq_false, Nat.reduceSub, Nat.reduceLeDiff, Nat.reduceLT, true_and, and_true, and_self, if_true, if_false]
    have hh2 := h
    clear h
    by_cases h : c = 3
    · have a := k2 3 (by omega) (by omega)
      have b := k103 3 (by omega) (by omega)
      rw [show nI 3 = 3 from rfl] at a b
      simp only [QM_kd, QM_sz, QM_lk, QM_i, QM_wi, zI, qs_bI, qs_bV, qb_0, h, y, c_103, b, a, e3, Bool.true_eq_false, Nat.reduceSub, Nat.reduceLeDiff, Nat.reduceLT, true_and, and_true, and_self, if_true, if_false]
    simp only [QM_kd, QM_sz, QM_lk, QM_i, QM_wi, zI, qs_bI, qs_bV, qb_0, h, Bool.true_eq_false, Nat.reduceSub, Nat.reduceLeDiff, Nat.reduceLT, true_and, and_true, and_self, if_true, if_false]
    have hh3 := h
    clear h
    by_cases h : c = 4
    · have a := k2 4 (by omega) (by omega)
      have b := k103 4 (by omega) (by omega)
      rw [show nI 4 = 4 from rfl] at a b
      simp only [QM_kd, QM_sz, QM_lk, QM_i, QM_wi, zI, qs_bI, qs_bV, qb_0, h, y, c_103, b, a, e4, Bool.true_eq_false, Nat.reduceSub, Nat.reduceLeDiff, Nat.reduceLT, true_and, and_true, and_self, if_true, if_false]
    simp only [QM_kd, QM_sz, QM_lk, QM_i, QM_wi, zI, qs_bI, qs_bV, qb_0, h, Bool.true_eq_false, Nat.reduceSub, Nat.reduceLeDiff, Nat.reduceLT, true_and, and_true, and_self, if_true, if_false]
    have hh4 := h
    clear h
    by_cases h : c = 5
    · have a := k2 5 (by omega) (by omega)
      have b := k103 5 (by omega) (by omega)
      rw [show nI 5 = 5 from rfl] at a b
      simp only [QM_kd, QM_sz, QM_lk, QM_i, QM_wi, zI, qs_bI, qs_bV, qb_0, h, y, c_103, b, a, e5, Bool.true_eq_false, Nat.reduceSub, Nat.reduceLeDiff, Nat.reduceLT, true_and, and_true, and_self, if_true, if_false]
    simp only [QM_kd, QM_sz, QM_lk, QM_i, QM_wi, zI, qs_bI, qs_bV, qb_0, h, Bool.true_eq_false, Nat.reduceSub, Nat.reduceLeDiff, Nat.reduceLT, true_and, and_true, and_self, if_true, if_false]
    have hh5 := h
    clear h
    by_cases h : c = 6
    · have a := k2 6 (by omega) (by omega)
      have b := k103 6 (by omega) (by omega)
      rw [show nI 6 = 6 from rfl] at a b
      simp only [QM_kd, QM_sz, QM_lk, QM_i, QM_wi, zI, qs_bI, qs_bV, qb_0, h, y, c_103, b, a, e6, Bool.true_eq_false, Nat.reduceSub, Nat.reduceLeDiff, Nat.reduceLT, true_and, and_true, and_self, if_true, if_false]
    simp only [QM_kd, QM_sz, QM_lk, QM_i, QM_wi, zI, qs_bI, qs_bV, qb_0, h, Bool.true_eq_false, Nat.reduceSub, Nat.reduceLeDiff, Nat.reduceLT, true_and, and_true, and_self, if_true, if_false]
    have hh6 := h
    clear h
    have hf : s_in c 2 6 = false := by
      have : ¬ s_in c 2 6 = true := fun q => by
        obtain ⟨k, q1, q2, q3⟩ := s_in26 q
        rcases (by omega : k = 2 ∨ k = 3 ∨ k = 4 ∨ k = 5 ∨ k = 6) with rfl | rfl | rfl | rfl | rfl
        · exact hh2 q3
        · exact hh3 q3
        · exact hh4 q3
        · exact hh5 q3
        · exact hh6 q3
      simpa using this
    by_cases h : c = 7
    · simp only [QM_kd, QM_sz, QM_lk, QM_i, QM_wi, zI, qs_bI, qs_bV, qb_0, h, e7, Bool.true_eq_false, Nat.reduceSub, Nat.reduceLeDiff, Nat.reduceLT, true_and, and_true, and_self, if_true, if_false]
    simp only [QM_kd, QM_sz, QM_lk, QM_i, QM_wi, zI, qs_bI, qs_bV, qb_0, h, Bool.true_eq_false, Nat.reduceSub, Nat.reduceLeDiff, Nat.reduceLT, true_and, and_true, and_self, if_true, if_false]
    clear h
    by_cases h : c = 8
    · obtain ⟨gg, -, q2, q3⟩ := s_grip_n hJ hC.2.2.1.2.2.2.1
      simp only [QM_kd, QM_sz, QM_lk, QM_i, QM_wi, zI, qs_bI, qs_bV, qb_0, h, y, zQ, z, f4, c_7 (d := d + 2) zj, e1, e5, q3, q2, Bool.true_eq_false, Nat.reduceSub, Nat.reduceLeDiff, Nat.reduceLT, true_and, and_true, and_self, if_true, if_false]
    simp only [QM_kd, QM_sz, QM_lk, QM_i, QM_wi, zI, qs_bI, qs_bV, qb_0, h, h9, Bool.true_eq_false, Nat.reduceSub, Nat.reduceLeDiff, Nat.reduceLT, true_and, and_true, and_self, if_true, if_false]
    clear h
    by_cases h : c = 10
    · simp only [QM_kd, QM_sz, QM_lk, QM_i, QM_wi, zI, qs_bI, qs_bV, qb_0, h, y, c_8p (d := d) (w := w) hC hj, Bool.true_eq_false, Nat.reduceSub, Nat.reduceLeDiff, Nat.reduceLT, true_and, and_true, and_self, if_true, if_false]
    simp only [QM_kd, QM_sz, QM_lk, QM_i, QM_wi, zI, qs_bI, qs_bV, qb_0, h, Bool.true_eq_false, Nat.reduceSub, Nat.reduceLeDiff, Nat.reduceLT, true_and, and_true, and_self, if_true, if_false]
    clear h
    by_cases h : c = 11
    · simp only [QM_kd, QM_sz, QM_lk, QM_i, QM_wi, zI, qs_bI, qs_bV, qb_0, h, zQ, z, c_23 (d := d) (w := w) hC hj, Bool.true_eq_false, Nat.reduceSub, Nat.reduceLeDiff, Nat.reduceLT, true_and, and_true, and_self, if_true, if_false]
    simp only [QM_kd, QM_sz, QM_lk, QM_i, QM_wi, zI, qs_bI, qs_bV, qb_0, h, Bool.true_eq_false, Nat.reduceSub, Nat.reduceLeDiff, Nat.reduceLT, true_and, and_true, and_self, if_true, if_false]
    clear h
    by_cases h : c = 12
    · simp only [QM_kd, QM_sz, QM_lk, QM_i, QM_wi, zI, qs_bI, qs_bV, qb_0, h, y, c_9 (d := d + 2) zj, s_worth_cg e, Bool.true_eq_false, Nat.reduceSub, Nat.reduceLeDiff, Nat.reduceLT, true_and, and_true, and_self, if_true, if_false]
    simp only [QM_kd, QM_sz, QM_lk, QM_i, QM_wi, zI, qs_bI, qs_bV, qb_0, h, c_103, hf, Bool.true_eq_false, Nat.reduceSub, Nat.reduceLeDiff, Nat.reduceLT, true_and, and_true, and_self, if_true, if_false]
    rfl
theorem d_55 {d M : Nat} {u : Nat → Nat → Int32} {w : Nat → Nat → Int64} {R : Nat → Int32} {x k : Int32} (hC : sC u 52 R M) : qs_call (d + 4) 55 [.ref 16, .int x, .int k] (QM u w) = some (some (.int (s_as R M x k)), QM u w) := by
  obtain ⟨hM, h3, h1⟩ := sC_M hC
  have z := z52
  unfold zPp at z
  have b15 := c_15 (d := d + 2) (w := w) (x := x) hC
  refine (bq_55_0 (d + 3) 16 _ _ (QM u w)).trans ?_
  unfold s_as
  by_cases g1 : s_in x 0 (nI M - 1) = false
  · rw [if_pos g1]
    simp only [QM_kd, QM_sz, QM_lk, QM_i, QM_wi, zI, qs_bI, qs_bV, qb_0, zQ, z, b15, g1, Bool.true_eq_false, Nat.reduceSub, Nat.reduceLeDiff, Nat.reduceLT, true_and, and_true, and_self, if_true, if_false]
    rfl
  obtain ⟨j, hj, rfl⟩ := (s_isj_in hM).mp (by simpa using g1)
  have y := zj52 (j := j) (by omega)
  rw [y.2.2.2.2.2.2.2.2.2.2.2.1, if_neg g1]
  by_cases g2 : s_in k 0 5 = false
  · rw [if_pos g2]
    simp only [QM_kd, QM_sz, QM_lk, QM_i, QM_wi, zI, qs_bI, qs_bV, qb_0, zQ, z, b15, g1, c_99, g2, Bool.true_eq_false, Nat.reduceSub, Nat.reduceLeDiff, Nat.reduceLT, true_and, and_true, and_self, if_true, if_false]
    rfl
  rw [if_neg g2]
  have e0 := sJ_e (c := 0) hC hj (by omega)
  have e1 := sJ_e (c := 1) hC hj (by omega)
  have hk := sk_n (hC.2.2.1.2.2.1 j hj 0 (by omega))
  have b104 := c_isOf (d := d + 1) (w := w) (x := k) hC.2.2.2.1 hk
  by_cases g3 : s_under (s_jo R j 0) k = false
  · rw [if_pos g3]
    simp only [QM_kd, QM_sz, QM_lk, QM_i, QM_wi, zI, qs_bI, qs_bV, qb_0, zQ, z, y, b15, g1, c_99, g2, e0, b104, g3, Nat.add_sub_cancel, Nat.le_add_left, Bool.true_eq_false, Nat.reduceSub, Nat.reduceLeDiff, Nat.reduceLT, true_and, and_true, and_self, if_true, if_false]
    rfl
  · rw [if_neg g3]
    simp only [QM_kd, QM_sz, QM_lk, QM_i, QM_wi, zI, qs_bI, qs_bV, qb_0, zQ, z, y, b15, g1, c_99, g2, e0, e1, b104, g3, Nat.add_sub_cancel, Nat.le_add_left, Bool.true_eq_false, Nat.reduceSub, Nat.reduceLeDiff, Nat.reduceLT, true_and, and_true, and_self, if_true, if_false]
theorem d_56 {d M : Nat} {u : Nat → Nat → Int32} {w : Nat → Nat → Int64} {R : Nat → Int32} {x k : Int32} (hC : sC u 52 R M) : ∃ v', qs_call (d + 3) 56 [.ref 16, .int x, .int k] (QM u w) = some (some (.int (s_turns R M x k).1), QM v' w) ∧ sC v' 52 (s_turns R M x k).2 M ∧ ∀ q, ¬ inP 52 q → v' q = u q := by
  obtain ⟨hM, h3, h1⟩ := sC_M hC
  have z := z52
  unfold zPp at z
  have b15 := c_15 (d := d + 1) (w := w) (x := x) hC
  unfold s_turns
  by_cases g1 : s_in x 0 (nI M - 1) = false
  · refine ⟨u, ?_, by rw [if_pos g1]; exact hC, fun _ _ => rfl⟩
    refine (bq_56_0 (d + 2) 16 _ _ (QM u w)).trans ?_
    rw [if_pos g1]
    simp only [QM_kd, QM_sz, QM_lk, QM_i, QM_wi, zI, qs_bI, qs_bV, qb_0, zQ, z, b15, g1, Bool.true_eq_false, Nat.reduceSub, Nat.reduceLeDiff, Nat.reduceLT, true_and, and_true, and_self, if_true, if_false]
    rfl
  obtain ⟨j, hj, rfl⟩ := (s_isj_in hM).mp (by simpa using g1)
  have y := zj52 (j := j) (by omega)
  rw [y.2.2.2.2.2.2.2.2.2.2.2.1, if_neg g1]
  by_cases g2 : s_in k 0 5 = false
  · refine ⟨u, ?_, by rw [if_pos g2]; exact hC, fun _ _ => rfl⟩
    refine (bq_56_0 (d + 2) 16 _ _ (QM u w)).trans ?_
    rw [if_pos g2]
    simp only [QM_kd, QM_sz, QM_lk, QM_i, QM_wi, zI, qs_bI, qs_bV, qb_0, zQ, z, b15, g1, c_99, g2, Bool.true_eq_false, Nat.reduceSub, Nat.reduceLeDiff, Nat.reduceLT, true_and, and_true, and_self, if_true, if_false]
    rfl
  rw [if_neg g2]
  have e0 := sJ_e (c := 0) hC hj (by omega)
  refine ⟨qu u (52 + 3 + j) 0 k, ?_, sC_jo hC hj (by omega) (s_nf (n := 5) g2 rfl (by omega)), fun q hq => qu_ne _ _ _ (ne_inP hq (inP_j (by omega)))⟩
  refine (bq_56_0 (d + 2) 16 _ _ (QM u w)).trans ?_
  simp only [QM_kd, QM_sz, QM_lk, QM_i, QM_wi, zI, qs_bI, qs_bV, qb_0, zQ, z, y, b15, g1, c_99, g2, e0, Nat.add_sub_cancel, Nat.le_add_left, Bool.true_eq_false, Nat.reduceSub, Nat.reduceLeDiff, Nat.reduceLT, true_and, and_true, and_self, if_true, if_false]
theorem d_57 {d M : Nat} {u : Nat → Nat → Int32} {w : Nat → Nat → Int64} {R : Nat → Int32} {x c v : Int32} (hC : sC u 52 R M) : ∃ v', qs_call (d + 3) 57 [.ref 16, .int x, .int c, .int v] (QM u w) = some (some (.int (s_set R M x c v).1), QM v' w) ∧ sC v' 52 (s_set R M x c v).2 M ∧ ∀ q, ¬ inP 52 q → v' q = u q := by
  obtain ⟨hM, h3, h1⟩ := sC_M hC
  have z := z52
  unfold zPp at z
  have b15 := c_15 (d := d + 1) (w := w) (x := x) hC
  unfold s_set
  by_cases g1 : s_in x 0 (nI M - 1) = false
  · refine ⟨u, ?_, by rw [if_pos g1]; exact hC, fun _ _ => rfl⟩
    refine (bq_57_0 (d + 2) 16 _ _ _ (QM u w)).trans ?_
    rw [if_pos g1]
    simp only [QM_kd, QM_sz, QM_lk, QM_i, QM_wi, zI, qs_bI, qs_bV, qb_0, zQ, z, b15, g1, Bool.true_eq_false, Nat.reduceSub, Nat.reduceLeDiff, Nat.reduceLT, true_and, and_true, and_self, if_true, if_false]
    rfl
  obtain ⟨j, hj, rfl⟩ := (s_isj_in hM).mp (by simpa using g1)
  have y := zj52 (j := j) (by omega)
  have zj := (zPj (p := 52) (j := j) (Or.inl rfl) (by omega)).2.2
  rw [y.2.2.2.2.2.2.2.2.2.2.2.1, if_neg g1]
  by_cases g2 : s_in c 2 6 = false
  · refine ⟨u, ?_, by rw [if_pos g2]; exact hC, fun _ _ => rfl⟩
    refine (bq_57_0 (d + 2) 16 _ _ _ (QM u w)).trans ?_
    rw [if_pos g2]
    simp only [QM_kd, QM_sz, QM_lk, QM_i, QM_wi, zI, qs_bI, qs_bV, qb_0, zQ, z, b15, g1, c_103, g2, Bool.true_eq_false, Nat.reduceSub, Nat.reduceLeDiff, Nat.reduceLT, true_and, and_true, and_self, if_true, if_false]
    rfl
  rw [if_neg g2]
  obtain ⟨k, k2, k6, rfl⟩ := s_in26 (c := c) (by simpa using g2)
  have ek : (nI k).toNatClampNeg = k := nI_clamp (by omega)
  rw [ek]
  have ee := sJ_e (c := k) hC hj (by omega)
  have b3 := c_3 (d := d + 1) (u := u) (w := w) zj k2 k6
  have b4 := c_4 (d := d + 1) (x := v) (u := u) (w := w) zj k2 k6
  rw [ee] at b3
  by_cases hk : k = 2
  · subst hk
    have q3 : ¬ (3 : Int32) ≤ nI 2 := by decide
    rw [if_neg q3]
    by_cases g3 : s_in v 0 40 = false
    · refine ⟨u, ?_, by rw [if_pos g3]; exact hC, fun _ _ => rfl⟩
      refine (bq_57_0 (d + 2) 16 _ _ _ (QM u w)).trans ?_
      rw [if_pos g3]
      simp only [QM_kd, QM_sz, QM_lk, QM_i, QM_wi, zI, qs_bI, qs_bV, qb_0, zQ, z, b15, g1, c_103, c_97, g2, g3, show nI 2 = 2 from rfl, Bool.true_eq_false, Nat.reduceSub, Nat.reduceLeDiff, Nat.reduceLT, true_and, and_true, and_self, if_true, if_false]
      simp only [QM_kd, QM_sz, QM_lk, QM_i, QM_wi, zI, qs_bI, qs_bV, qb_0, show s_in 2 2 6 = true by decide, Bool.true_eq_false, Nat.reduceSub, Nat.reduceLeDiff, Nat.reduceLT, true_and, and_true, and_self, if_true, if_false]
      rfl
    · rw [if_neg g3]
      refine ⟨_, ?_, sC_jo (x := v) hC hj (by omega) (s_nf (n := 40) g3 rfl (by omega)), fun q hq => qu_ne _ _ _ (ne_inP hq (inP_j (by omega)))⟩
      refine (bq_57_0 (d + 2) 16 _ _ _ (QM u w)).trans ?_
      rw [show nI 2 = 2 from rfl] at b3 b4
      simp only [QM_kd, QM_sz, QM_lk, QM_i, QM_wi, zI, qs_bI, qs_bV, qb_0, zQ, z, y, b15, g1, c_103, c_97, g3, show nI 2 = 2 from rfl, show s_in 2 2 6 = true by decide, b3, b4, Nat.add_sub_cancel, Nat.le_add_left, Bool.true_eq_false, Nat.reduceSub, Nat.reduceLeDiff, Nat.reduceLT, true_and, and_true, and_self, if_true, if_false]
  · have q3 : (3 : Int32) ≤ nI k := nI_le (a := 3) (by omega) (by omega)
    have q2 : ¬ nI k = 2 := fun q => hk ((nI_eq (b := 2) (by omega) (by omega)).mp q)
    rw [if_pos q3]
    by_cases g3 : s_in v 0 9 = false
    · refine ⟨u, ?_, by rw [if_pos g3]; exact hC, fun _ _ => rfl⟩
      refine (bq_57_0 (d + 2) 16 _ _ _ (QM u w)).trans ?_
      rw [if_pos g3]
      simp only [QM_kd, QM_sz, QM_lk, QM_i, QM_wi, zI, qs_bI, qs_bV, qb_0, zQ, z, b15, g1, c_103, c_97, g2, g3, q2, Bool.true_eq_false, Nat.reduceSub, Nat.reduceLeDiff, Nat.reduceLT, true_and, and_true, and_self, if_true, if_false]
      rfl
    · rw [if_neg g3]
      have hmx : s_mx k = 9 := by
        rcases (by omega : k = 3 ∨ k = 4 ∨ k = 5 ∨ k = 6) with rfl | rfl | rfl | rfl <;> rfl
      refine ⟨_, ?_, sC_jo (x := v) hC hj (by omega) (by rw [hmx]; exact s_nf (n := 9) g3 rfl (by omega)), fun q hq => qu_ne _ _ _ (ne_inP hq (inP_j (by omega)))⟩
      refine (bq_57_0 (d + 2) 16 _ _ _ (QM u w)).trans ?_
      simp only [QM_kd, QM_sz, QM_lk, QM_i, QM_wi, zI, qs_bI, qs_bV, qb_0, zQ, z, y, b15, g1, g2, c_103, c_97, g3, q2, b3, b4, Nat.add_sub_cancel, Nat.le_add_left, Bool.true_eq_false, Nat.reduceSub, Nat.reduceLeDiff, Nat.reduceLT, true_and, and_true, and_self, if_true, if_false]
