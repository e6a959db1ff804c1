/-! THE CLASS'S PUBLIC METHODS: turn, rule, empty, deal, seed, hours, sink, seen, from -/
theorem s_range {x a b : Int32} : s_in x a b = false ↔ (x < a ∨ b < x) := by
  unfold s_in
  rw [decide_eq_false_iff_not]
  constructor
  · intro h
    by_cases h1 : a ≤ x
    · exact Or.inr (Int32.not_le.mp (fun q => h ⟨h1, q⟩))
    · exact Or.inl (Int32.not_le.mp h1)
  · intro h q
    rcases h with h | h
    · exact Int32.not_le.mpr h q.1
    · exact Int32.not_le.mpr h q.2
theorem d_58L {d j n M : Nat} {w : Nat → Nat → Int64} {R : Nat → Int32} {y : Int32} (hn : n < 2 ^ 31) (hj : j < M) : ∀ (r k : Nat) (u : Nat → Nat → Int32), sC u 52 (s_qs R j k) M → k + r = n → ∃ v', qs_EV (d + 4) 58 52 [some (.ref 16), some (.int y), some (.int (nI n)), some (.ref (52 + 3 + j)), some (.int (nI k))] [] (QM u w) = some (some (.int (s_jo (s_qs R j n) j 1)), QM v' w) ∧ sC v' 52 (s_qs R j n) M ∧ ∀ q, ¬ inP 52 q → v' q = u q
  | 0, k, u, hC, hk => by
    obtain rfl : k = n := by omega
    have hM := (sC_M hC).1
    have z := zj52 (j := j) (by omega)
    refine ⟨u, ?_, hC, fun _ _ => rfl⟩
    refine (bq_58_52 (d + 4) 16 _ _ _ _ (QM u w)).trans ?_
    rw [if_pos (nI_le (Nat.le_refl _) hn)]
    simp only [QM_kd, QM_sz, QM_lk, QM_i, QM_wi, zI, qs_bI, qs_bV, qb_0, z, sJ_e (c := 1) hC hj (by omega), Bool.true_eq_false, Nat.reduceSub, Nat.reduceLeDiff, Nat.reduceLT, true_and, and_true, and_self, if_true, if_false]
  | r + 1, k, u, hC, hk => by
    have hM := (sC_M hC).1
    obtain ⟨v, a1, a2, a3⟩ := c_18 (d := d) (w := w) hC hj
    obtain ⟨v', g1, g2, g3⟩ := d_58L (d := d) (w := w) (y := y) hn hj r (k + 1) v a2 (by omega)
    refine ⟨v', ?_, g2, fun q hq => by rw [g3 q hq, a3 q hq]⟩
    have z := z52
    unfold zPp at z
    rw [nI_succ] at g1
    refine (bq_58_52 (d + 4) 16 _ _ _ _ (QM u w)).trans ?_
    rw [if_neg (nI_ge (by omega) hn)]
    simp only [QM_kd, QM_sz, QM_lk, QM_i, QM_wi, zI, qs_bI, qs_bV, qb_0, zQ, z, a1, g1, Bool.true_eq_false, Nat.reduceSub, Nat.reduceLeDiff, Nat.reduceLT, true_and, and_true, and_self, if_true, if_false]
theorem d_58 {d M : Nat} {u : Nat → Nat → Int32} {w : Nat → Nat → Int64} {R : Nat → Int32} {x n : Int32} (hC : sC u 52 R M) : ∃ v', qs_call (d + 5) 58 [.ref 16, .int x, .int n] (QM u w) = some (some (.int (s_turn R M x n).1), QM v' w) ∧ sC v' 52 (s_turn R M x n).2 M ∧ ∀ q, ¬ inP 52 q → v' q = u q := by
  obtain ⟨hM, h3, h1⟩ := sC_M hC
  have z := z52
  unfold zPp at z
  have b15 := c_15 (d := d + 3) (w := w) (x := x) hC
  unfold s_turn
  by_cases g1 : s_in x 0 (nI M - 1) = false
  · refine ⟨u, ?_, by rw [if_pos g1]; exact hC, fun _ _ => rfl⟩
    refine (bq_58_0 (d + 4) 16 _ _ (QM u w)).trans ?_
    rw [if_pos g1]
    simp only [QM_kd, QM_sz, QM_lk, QM_i, QM_wi, zI, qs_bI, qs_bV, qb_0, zQ, z, b15, g1, Bool.true_eq_false, Nat.reduceSub, Nat.reduceLeDiff, Nat.reduceLT, true_and, and_true, and_self, if_true, if_false]
    rfl
  obtain ⟨j, hj, rfl⟩ := (s_isj_in hM).mp (by simpa using g1)
  have y := zj52 (j := j) (by omega)
  have zj := (zPj (p := 52) (j := j) (Or.inl rfl) (by omega)).2.2
  rw [y.2.2.2.2.2.2.2.2.2.2.2.1, if_neg g1]
  by_cases g2 : s_in n (-9) 9 = false
  · refine ⟨u, ?_, by rw [if_pos g2]; exact hC, fun _ _ => rfl⟩
    refine (bq_58_0 (d + 4) 16 _ _ (QM u w)).trans ?_
    rw [if_pos g2]
    by_cases g3 : n < -9
    · simp only [QM_kd, QM_sz, QM_lk, QM_i, QM_wi, zI, qs_bI, qs_bV, qb_0, zQ, z, b15, g1, g3, Bool.true_eq_false, Nat.reduceSub, Nat.reduceLeDiff, Nat.reduceLT, true_and, and_true, and_self, if_true, if_false]
      rfl
    · have g4 : 9 < n := (s_range.mp g2).resolve_left g3
      simp only [QM_kd, QM_sz, QM_lk, QM_i, QM_wi, zI, qs_bI, qs_bV, qb_0, zQ, z, b15, g1, g3, g4, Bool.true_eq_false, Nat.reduceSub, Nat.reduceLeDiff, Nat.reduceLT, true_and, and_true, and_self, if_true, if_false]
      rfl
  have g3 : ¬ n < -9 := fun q => g2 (s_range.mpr (Or.inl q))
  have g4 : ¬ 9 < n := fun q => g2 (s_range.mpr (Or.inr q))
  rw [if_neg g2]
  by_cases g5 : n = 0
  · refine ⟨u, ?_, by rw [if_pos g5]; exact hC, fun _ _ => rfl⟩
    refine (bq_58_0 (d + 4) 16 _ _ (QM u w)).trans ?_
    rw [if_pos g5]
    subst g5
    simp only [QM_kd, QM_sz, QM_lk, QM_i, QM_wi, zI, qs_bI, qs_bV, qb_0, zQ, z, b15, g1, g3, g4, Bool.true_eq_false, Nat.reduceSub, Nat.reduceLeDiff, Nat.reduceLT, true_and, and_true, and_self, if_true, if_false]
    rfl
  rw [if_neg g5]
  by_cases g6 : n < 0
  · rw [if_pos g6]
    have e1 := sJ_e (c := 1) hC hj (by omega)
    have a5 := c_5 (d := d + 2) (u := u) (w := w) (x := n) zj
    rw [e1] at a5
    have n0 : ¬ 0 ≤ n := Int32.not_le.mpr g6
    have n1 : n ≤ 0 := Int32.le_of_lt g6
    have hC1 := sC_jo (c := 1) (x := s_cl 0 40 (s_jo R j 1 + n)) hC hj (by omega) s_cl40
    refine ⟨_, ?_, hC1, fun q hq => qu_ne _ _ _ (ne_inP hq (inP_j (by omega)))⟩
    refine (bq_58_0 (d + 4) 16 _ _ (QM u w)).trans ?_
    have e2 : qu u (52 + 3 + j) 1 (s_cl 0 40 (s_jo R j 1 + n)) (52 + 3 + j) 1 = s_cl 0 40 (s_jo R j 1 + n) := by rw [qu_at, if_pos ⟨rfl, rfl⟩]
    simp only [QM_kd, QM_sz, QM_lk, QM_i, QM_wi, zI, qs_bI, qs_bV, qb_0, zQ, z, y, b15, g1, g3, g4, g5, n0, a5, Nat.add_sub_cancel, Nat.le_add_left, Bool.true_eq_false, Nat.reduceSub, Nat.reduceLeDiff, Nat.reduceLT, true_and, and_true, and_self, if_true, if_false]
    refine (bq_58_52 (d + 4) 16 _ _ _ _ _).trans ?_
    rw [if_pos n1]
    simp only [QM_kd, QM_sz, QM_lk, QM_i, QM_wi, zI, qs_bI, qs_bV, qb_0, y, e2, Bool.true_eq_false, Nat.reduceSub, Nat.reduceLeDiff, Nat.reduceLT, true_and, and_true, and_self, if_true, if_false]
  · rw [if_neg g6]
    obtain ⟨k, hk, rfl⟩ := nI_of g6
    have ek : (nI k).toNatClampNeg = k := nI_clamp hk
    rw [ek]
    have n0 : 0 ≤ nI k := nI_pos' hk
    obtain ⟨v', a1, a2, a3⟩ := d_58L (d := d) (w := w) (R := R) (y := nI j) hk hj k 0 u hC (by omega)
    refine ⟨v', ?_, a2, a3⟩
    rw [nI_0] at a1
    refine (bq_58_0 (d + 4) 16 _ _ (QM u w)).trans ?_
    simp only [QM_kd, QM_sz, QM_lk, QM_i, QM_wi, zI, qs_bI, qs_bV, qb_0, zQ, z, y, b15, g1, g3, g4, g5, n0, Nat.add_sub_cancel, Nat.le_add_left, Bool.true_eq_false, Nat.reduceSub, Nat.reduceLeDiff, Nat.reduceLT, true_and, and_true, and_self, if_true, if_false]
    exact a1
theorem d_59 {d M : Nat} {u : Nat → Nat → Int32} {w : Nat → Nat → Int64} {R : Nat → Int32} {x v : Int32} (hC : sC u 52 R M) : ∃ v', qs_call (d + 2) 59 [.ref 16, .int x, .int v] (QM u w) = some (some (.int (s_rule R x v).1), QM v' w) ∧ sC v' 52 (s_rule R x v).2 M ∧ ∀ q, ¬ inP 52 q → v' q = u q := by
  have z := z52
  unfold zPp at z
  obtain ⟨f4, f5, f6, -⟩ := sC_f hC
  unfold s_rule
  by_cases g1 : s_in x 0 2 = false
  · refine ⟨u, ?_, by rw [if_pos g1]; exact hC, fun _ _ => rfl⟩
    refine (bq_59_0 (d + 1) 16 _ _ (QM u w)).trans ?_
    rw [if_pos g1]
    simp only [QM_kd, QM_sz, QM_lk, QM_i, QM_wi, zI, qs_bI, qs_bV, qb_0, c_97, g1, Bool.true_eq_false, Nat.reduceSub, Nat.reduceLeDiff, Nat.reduceLT, true_and, and_true, and_self, if_true, if_false]
    rfl
  obtain ⟨k, hk, rfl⟩ := s_nf (n := 2) g1 rfl (by omega)
  rw [if_neg g1]
  rcases (by omega : k = 0 ∨ k = 1 ∨ k = 2) with rfl | rfl | rfl
  · rw [show nI 0 = 0 from rfl, if_pos rfl]
    have g1' : s_in 0 0 2 = true := by decide
    by_cases g2 : s_in v 0 1 = false
    · refine ⟨u, ?_, by rw [if_pos g2]; exact hC, fun _ _ => rfl⟩
      refine (bq_59_0 (d + 1) 16 _ _ (QM u w)).trans ?_
      rw [if_pos g2]
      simp only [QM_kd, QM_sz, QM_lk, QM_i, QM_wi, zI, qs_bI, qs_bV, qb_0, c_97, g1', g2, Bool.true_eq_false, Nat.reduceSub, Nat.reduceLeDiff, Nat.reduceLT, true_and, and_true, and_self, if_true, if_false]
      rfl
    · rw [if_neg g2]
      obtain ⟨k, hk, rfl⟩ := s_nf (n := 1) g2 rfl (by omega)
      refine ⟨_, ?_, sC_fld (f := 4) (i := 3) (x := nI k) hC (by unfold sPair; omega) (fun _ => ?_), fun q hq => qu_ne _ _ _ (ne_inP hq (inP_p _))⟩
      · refine (bq_59_0 (d + 1) 16 _ _ (QM u w)).trans ?_
        simp only [QM_kd, QM_sz, QM_lk, QM_i, QM_wi, zI, qs_bI, qs_bV, qb_0, c_97, g1', g2, zQ, z, f4, Bool.true_eq_false, Nat.reduceSub, Nat.reduceLeDiff, Nat.reduceLT, true_and, and_true, and_self, if_true, if_false]
      · rcases (by omega : k = 0 ∨ k = 1) with rfl | rfl
        · exact Or.inl rfl
        · exact Or.inr rfl
  · rw [show nI 1 = 1 from rfl, if_neg iN.2.2.2.2.2.1, if_pos rfl]
    have g1' : s_in 1 0 2 = true := by decide
    by_cases g2 : s_in v 0 100 = false
    · refine ⟨u, ?_, by rw [if_pos g2]; exact hC, fun _ _ => rfl⟩
      refine (bq_59_0 (d + 1) 16 _ _ (QM u w)).trans ?_
      rw [if_pos g2]
      simp only [QM_kd, QM_sz, QM_lk, QM_i, QM_wi, zI, qs_bI, qs_bV, qb_0, c_97, g1', g2, iN, Bool.true_eq_false, Nat.reduceSub, Nat.reduceLeDiff, Nat.reduceLT, true_and, and_true, and_self, if_true, if_false]
      rfl
    · rw [if_neg g2]
      refine ⟨_, ?_, sC_fld (f := 5) (i := 4) (x := v) hC (by unfold sPair; omega) (by omega), fun q hq => qu_ne _ _ _ (ne_inP hq (inP_p _))⟩
      refine (bq_59_0 (d + 1) 16 _ _ (QM u w)).trans ?_
      simp only [QM_kd, QM_sz, QM_lk, QM_i, QM_wi, zI, qs_bI, qs_bV, qb_0, c_97, g1', g2, zQ, z, f5, iN, Bool.true_eq_false, Nat.reduceSub, Nat.reduceLeDiff, Nat.reduceLT, true_and, and_true, and_self, if_true, if_false]
  · rw [show nI 2 = 2 from rfl, if_neg (show ¬ (2 : Int32) = 0 by decide), if_neg (show ¬ (2 : Int32) = 1 by decide)]
    have g1' : s_in 2 0 2 = true := by decide
    by_cases g2 : s_in v 0 9999 = false
    · refine ⟨u, ?_, by rw [if_pos g2]; exact hC, fun _ _ => rfl⟩
      refine (bq_59_0 (d + 1) 16 _ _ (QM u w)).trans ?_
      rw [if_pos g2]
      simp only [QM_kd, QM_sz, QM_lk, QM_i, QM_wi, zI, qs_bI, qs_bV, qb_0, c_97, g1', g2, iN, Bool.true_eq_false, Nat.reduceSub, Nat.reduceLeDiff, Nat.reduceLT, true_and, and_true, and_self, if_true, if_false]
      rfl
    · rw [if_neg g2]
      refine ⟨_, ?_, sC_fld (f := 6) (i := 5) (x := v) hC (by unfold sPair; omega) (by omega), fun q hq => qu_ne _ _ _ (ne_inP hq (inP_p _))⟩
      refine (bq_59_0 (d + 1) 16 _ _ (QM u w)).trans ?_
      simp only [QM_kd, QM_sz, QM_lk, QM_i, QM_wi, zI, qs_bI, qs_bV, qb_0, c_97, g1', g2, zQ, z, f6, iN, Bool.true_eq_false, Nat.reduceSub, Nat.reduceLeDiff, Nat.reduceLT, true_and, and_true, and_self, if_true, if_false]
theorem d_60 {d M : Nat} {u : Nat → Nat → Int32} {w : Nat → Nat → Int64} {R : Nat → Int32} (hC : sC u 52 R M) : ∃ v', qs_call (d + 1) 60 [.ref 16] (QM u w) = some (some (.int (R 7)), QM v' w) ∧ sC v' 52 (upd R 7 0) M ∧ ∀ q, ¬ inP 52 q → v' q = u q := by
  have z := z52
  unfold zPp at z
  obtain ⟨f4, f5, f6, f7, f8, -⟩ := sC_f hC
  refine ⟨_, ?_, sC_fld (f := 8) (i := 7) (x := 0) hC (by unfold sPair; omega) (by omega), fun q hq => qu_ne _ _ _ (ne_inP hq (inP_p _))⟩
  refine (bq_60_0 d 16 (QM u w)).trans ?_
  simp only [QM_kd, QM_sz, QM_lk, QM_i, QM_wi, zI, qs_bI, qs_bV, qb_0, zQ, z, f8, Bool.true_eq_false, Nat.reduceSub, Nat.reduceLeDiff, Nat.reduceLT, true_and, and_true, and_self, if_true, if_false]
theorem d_62 {d M : Nat} {u : Nat → Nat → Int32} {w : Nat → Nat → Int64} {R : Nat → Int32} {x : Int32} (hC : sC u 52 R M) : ∃ v', qs_call (d + 1) 62 [.ref 16, .int x] (QM u w) = some (some (.int (R 0)), QM v' w) ∧ sC v' 52 (upd R 0 x) M ∧ ∀ q, ¬ inP 52 q → v' q = u q := by
  have z := z52
  unfold zPp at z
  obtain ⟨f4, f5, f6, f7, f8, f9, f10, f11, f12, f13, f14⟩ := sC_f hC
  refine ⟨_, ?_, sC_fld (f := 13) (i := 0) (x := x) hC (by unfold sPair; omega) (by omega), fun q hq => qu_ne _ _ _ (ne_inP hq (inP_p _))⟩
  refine (bq_62_0 d 16 x (QM u w)).trans ?_
  simp only [QM_kd, QM_sz, QM_lk, QM_i, QM_wi, zI, qs_bI, qs_bV, qb_0, zQ, z, f13, Bool.true_eq_false, Nat.reduceSub, Nat.reduceLeDiff, Nat.reduceLT, true_and, and_true, and_self, if_true, if_false]
theorem s_rem_n {z : Int32} {b : Nat} (hb : 0 < b) (hb2 : b < 2 ^ 31) : ∃ n, n ≤ b - 1 ∧ s_dr z - s_dr z / nI b * nI b = nI n := by
  obtain ⟨a, ha, ea⟩ := s_dr_of z
  have := Nat.mod_lt a hb
  exact ⟨a % b, by omega, by rw [ea, nI_mod (by omega) hb2]⟩
theorem d_61L {d M n c : Nat} {w : Nat → Nat → Int64} {R : Nat → Int32} {y : Int32} (hR : R 1 = nI M) (hn : M + c ≤ 8) : ∀ (r k : Nat) (o4 o5 o6 o7 : Option Value) (u : Nat → Nat → Int32), sC u 52 (s_dl R M k) (M + k) → k + r = c → ∃ v', qs_EV (d + 2) 61 31 [some (.ref 16), some (.int y), some (.int (nI c)), some (.int (nI k)), o4, o5, o6, o7] [] (QM u w) = some (some (.int (nI c)), QM v' w) ∧ sC v' 52 (s_dl R M c) (M + c) ∧ ∀ q, ¬ inP 52 q → v' q = u q
  | 0, k, o4, o5, o6, o7, u, hC, hk => by
    obtain rfl : k = c := by omega
    refine ⟨u, ?_, hC, fun _ _ => rfl⟩
    refine (bq_61_31 (d + 2) 16 _ _ _ _ _ _ _ (QM u w)).trans ?_
    rw [if_pos (nI_le (Nat.le_refl _) (by omega))]
  | r + 1, k, o4, o5, o6, o7, u, hC, hk => by
    have z := z52
    unfold zPp at z
    have f13 : u 52 13 = s_dl R M k 0 := hC.2.1.2.2.2.2.2.2.2.2.2.2.1
    have hz := c_17 (d := d + 1) (u := u) (w := w) (p := 52) (Or.inl rfl)
    rw [f13] at hz
    have hS : s_dl R M (k + 1) = s_d1 (s_dl R M k) (M + k) := rfl
    generalize s_dl R M k = S at hC f13 hz hS
    generalize hz1 : s_z (S 0) = z1 at hz
    generalize hz2 : s_z z1 = z2
    generalize hz3 : s_z z2 = z3
    generalize hz4 : s_z z3 = z4
    have c0 : ∀ v x, qu v 52 13 x 52 13 = x := fun v x => by rw [qu_at, if_pos ⟨rfl, rfl⟩]
    have q2 := c_17 (d := d + 1) (u := qu u 52 13 z1) (w := w) (p := 52) (Or.inl rfl)
    rw [c0, hz2] at q2
    have q3 := c_17 (d := d + 1) (u := qu (qu u 52 13 z1) 52 13 z2) (w := w) (p := 52) (Or.inl rfl)
    rw [c0, hz3] at q3
    have q4 := c_17 (d := d + 1) (u := qu (qu (qu u 52 13 z1) 52 13 z2) 52 13 z3) (w := w) (p := 52) (Or.inl rfl)
    rw [c0, hz4] at q4
    have hC4 := sC_fld (f := 13) (i := 0) (x := z4) (sC_fld (f := 13) (i := 0) (x := z3) (sC_fld (f := 13) (i := 0) (x := z2) (sC_fld (f := 13) (i := 0) (x := z1) hC (by unfold sPair; omega) (by omega)) (by unfold sPair; omega) (by omega)) (by unfold sPair; omega) (by omega)) (by unfold sPair; omega) (by omega)
    rw [upd_upd, upd_upd, upd_upd] at hC4
    obtain ⟨v, a1, a2, a3⟩ := c_16 (d := d) (w := w) (k := s_dr z1 - s_dr z1 / 6 * 6) (t := s_dr z2 - s_dr z2 / 20 * 20) (r := s_dr z3 - s_dr z3 / 30 * 30) (h := s_dr z4 - s_dr z4 / 10 * 10) hC4 (by omega) (s_rem_n (b := 6) (by omega) (by omega)) (by
      obtain ⟨n, h1, h2⟩ := s_rem_n (z := z2) (b := 20) (by omega) (by omega)
      exact ⟨n, by omega, h2⟩) (by
      obtain ⟨n, h1, h2⟩ := s_rem_n (z := z3) (b := 30) (by omega) (by omega)
      exact ⟨n, by omega, h2⟩) (s_rem_n (b := 10) (by omega) (by omega))
    have hS2 : s_d1 S (M + k) = s_jnew (upd (upd S 0 z4) 1 (nI (M + k + 1))) (M + k) (s_dr z1 - s_dr z1 / 6 * 6) (s_dr z2 - s_dr z2 / 20 * 20) (s_dr z3 - s_dr z3 / 30 * 30) (s_dr z4 - s_dr z4 / 10 * 10) := by
      unfold s_d1
      rw [hz1]
      dsimp only
      rw [hz2, hz3, hz4]
    rw [← hS2, ← hS] at a2
    obtain ⟨v', g1, g2, g3⟩ := d_61L (d := d) (w := w) (n := n) (y := y) hR hn r (k + 1) (some (.int (s_dr z1 - s_dr z1 / 6 * 6))) (some (.int (s_dr z2 - s_dr z2 / 20 * 20))) (some (.int (s_dr z3 - s_dr z3 / 30 * 30))) (some (.int (s_dr z4 - s_dr z4 / 10 * 10))) v a2 (by omega)
    refine ⟨v', ?_, g2, fun q hq => by rw [g3 q hq, a3 q hq, qu_ne _ _ _ (ne_inP hq (inP_p _)), qu_ne _ _ _ (ne_inP hq (inP_p _)), qu_ne _ _ _ (ne_inP hq (inP_p _)), qu_ne _ _ _ (ne_inP hq (inP_p _))]⟩
    rw [nI_succ] at g1
    refine (bq_61_31 (d + 2) 16 _ _ _ _ _ _ _ (QM u w)).trans ?_
    rw [if_neg (nI_ge (by omega) (by omega))]
    simp only [QM_kd, QM_sz, QM_lk, QM_i, QM_wi, zI, qs_bI, qs_bV, qb_0, zQ, z, hz, q2, q3, q4, a1, g1, Bool.true_eq_false, Nat.reduceSub, Nat.reduceLeDiff, Nat.reduceLT, true_and, and_true, and_self, if_true, if_false]
theorem qmin_n {a b : Nat} (ha : a < 2 ^ 31) (hb : b < 2 ^ 31) : qs_min (nI a) (nI b) = nI (min a b) := by
  unfold qs_min
  by_cases h : b < a
  · rw [if_pos (nI_lt h ha), Nat.min_eq_right (by omega)]
  · rw [if_neg (nI_nlt (by omega) hb), Nat.min_eq_left (by omega)]
theorem d_61 {d M : Nat} {u : Nat → Nat → Int32} {w : Nat → Nat → Int64} {R : Nat → Int32} {n : Int32} (hC : sC u 52 R M) : ∃ v' M', qs_call (d + 3) 61 [.ref 16, .int n] (QM u w) = some (some (.int (s_deal R M n).1), QM v' w) ∧ sC v' 52 (s_deal R M n).2 M' ∧ ∀ q, ¬ inP 52 q → v' q = u q := by
  obtain ⟨hM, h3, h1⟩ := sC_M hC
  have z := z52
  unfold zPp at z
  unfold s_deal
  by_cases g1 : s_in n 1 8 = false
  · refine ⟨u, M, ?_, by rw [if_pos g1]; exact hC, fun _ _ => rfl⟩
    refine (bq_61_0 (d + 2) 16 _ (QM u w)).trans ?_
    rw [if_pos g1]
    by_cases g3 : n < 1
    · rw [if_pos g3]
      rfl
    · have g4 : ¬ n ≤ 8 := Int32.not_le.mpr ((s_range.mp g1).resolve_left g3)
      rw [if_neg g3, if_neg g4]
      rfl
  have g3 : ¬ n < 1 := fun q => g1 (s_range.mpr (Or.inl q))
  have g4 : n ≤ 8 := Int32.not_lt.mp (fun q => g1 (s_range.mpr (Or.inr q)))
  obtain ⟨k, hk, rfl⟩ := s_in_n (x := n) (a := 1) (b := 8) (n := 8) (by simpa using g1) (by decide) rfl (by omega)
  have ek : (nI k).toNatClampNeg = k := nI_clamp (by omega)
  rw [if_neg g1, ek]
  have e8 : (8 : Int32) - nI M = nI (8 - M) := nI_sub (a := 8) hM
  obtain ⟨v', a1, a2, a3⟩ := d_61L (d := d) (w := w) (n := 0) (y := nI k) (c := min k (8 - M)) h1 (by omega) (min k (8 - M)) 0 none none none none u hC (by omega)
  refine ⟨v', _, ?_, a2, a3⟩
  rw [nI_0] at a1
  refine (bq_61_0 (d + 2) 16 _ (QM u w)).trans ?_
  simp only [QM_kd, QM_sz, QM_lk, QM_i, QM_wi, zI, qs_bI, qs_bV, qb_0, zQ, z, g3, g4, h3, e8, qmin_n (a := k) (b := 8 - M) (by omega) (by omega), a1, Bool.true_eq_false, Nat.reduceSub, Nat.reduceLeDiff, Nat.reduceLT, true_and, and_true, and_self, if_true, if_false]
/-- THE HOUR of a row is in its bounds -/
def sHr (R : Nat → Int32) : Prop := ∃ H, H ≤ 9999 ∧ R 2 = nI H
theorem d_63 {d M : Nat} {u : Nat → Nat → Int32} {w : Nat → Nat → Int64} {R : Nat → Int32} {x : Int32} (hC : sC u 52 R M) (hH : sHr R) : ∃ v', qs_call (d + 8) 63 [.ref 16, .int x] (QM u w) = some (some (.int (s_hours R x).1), QM v' w) ∧ sC v' 52 (s_hours R x).2 M ∧ ∀ q, ¬ inP 52 q → q ≠ 19 → v' q = u q := by
  obtain ⟨H, hH1, hH2⟩ := hH
  have z := z52
  unfold zPp at z
  obtain ⟨f4, f5, f6, f7, f8, f9, f10, f11, f12, f13, f14⟩ := sC_f hC
  unfold s_hours
  by_cases g1 : s_in x 1 100 = false
  · refine ⟨u, ?_, by rw [if_pos g1]; exact hC, fun _ _ _ => rfl⟩
    refine (bq_63_0 (d + 7) 16 _ (QM u w)).trans ?_
    rw [if_pos g1]
    by_cases g3 : x < 1
    · rw [if_pos g3]
      rfl
    · have g4 : ¬ x ≤ 100 := Int32.not_le.mpr ((s_range.mp g1).resolve_left g3)
      rw [if_neg g3, if_neg g4]
      rfl
  have g3 : ¬ x < 1 := fun q => g1 (s_range.mpr (Or.inl q))
  have g4 : x ≤ 100 := Int32.not_lt.mp (fun q => g1 (s_range.mpr (Or.inr q)))
  obtain ⟨k, hk, rfl⟩ := s_in_n (x := x) (a := 1) (b := 100) (n := 100) (by simpa using g1) (by decide) rfl (by omega)
  have e2 : s_hn R (nI k) = min k (9999 - H) := by
    unfold s_hn
    rw [s_hn_eq hH2 hH1 (by omega)]
    exact nI_clamp (by omega)
  have e3 : (9999 : Int32) - nI H = nI (9999 - H) := nI_sub (a := 9999) hH1
  rw [if_neg g1, e2]
  obtain ⟨v', a1, a2, a3⟩ := c_25 (d := d) (w := w) (n := min k (9999 - H)) hC (by omega)
  refine ⟨v', ?_, a2, a3⟩
  have v7 : v' 52 7 = s_go R (min k (9999 - H)) 6 := a2.2.1.2.2.2.2.1
  refine (bq_63_0 (d + 7) 16 _ (QM u w)).trans ?_
  simp only [QM_kd, QM_sz, QM_lk, QM_i, QM_wi, zI, qs_bI, qs_bV, qb_0, zQ, z, g3, g4, f7, f12, hH2, e3, qmin_n (a := k) (b := 9999 - H) (by omega) (by omega), a1, v7, Bool.true_eq_false, Nat.reduceSub, Nat.reduceLeDiff, Nat.reduceLT, true_and, and_true, and_self, if_true, if_false]
theorem d_64 {d M : Nat} {u : Nat → Nat → Int32} {w : Nat → Nat → Int64} {R : Nat → Int32} {x : Int32} (hC : sC u 52 R M) : ∃ v', qs_call (d + 5) 64 [.ref 16, .int x] (QM u w) = some (some (.int (s_sink R M x)), QM v' w) ∧ ∀ q, q ≠ 19 → v' q = u q := by
  have z := z52
  unfold zPp at z
  obtain ⟨f4, f5, f6, f7, f8, f9, f10, f11, f12, f13, f14⟩ := sC_f hC
  unfold s_sink
  by_cases h6 : x = 6
  · obtain ⟨v', a1, a2⟩ := c_20 (d := d) (w := w) hC
    refine ⟨v', ?_, a2⟩
    refine (bq_64_0 (d + 4) 16 _ (QM u w)).trans ?_
    subst h6
    simp only [QM_kd, QM_sz, QM_lk, QM_i, QM_wi, zI, qs_bI, qs_bV, qb_0, zQ, z, a1, show ¬ (6 : Int32) = 0 by decide, show ¬ (6 : Int32) = 1 by decide, show ¬ (6 : Int32) = 2 by decide, show ¬ (6 : Int32) = 3 by decide, show ¬ (6 : Int32) = 4 by decide, show ¬ (6 : Int32) = 5 by decide, Bool.true_eq_false, Nat.reduceSub, Nat.reduceLeDiff, Nat.reduceLT, true_and, and_true, and_self, if_true, if_false]
  · refine ⟨u, ?_, fun _ _ => rfl⟩
    refine (bq_64_0 (d + 4) 16 _ (QM u w)).trans ?_
    by_cases h : x = 0
    · simp only [QM_kd, QM_sz, QM_lk, QM_i, QM_wi, zI, qs_bI, qs_bV, qb_0, h, zQ, z, f7, Bool.true_eq_false, Nat.reduceSub, Nat.reduceLeDiff, Nat.reduceLT, true_and, and_true, and_self, if_true, if_false]
    simp only [QM_kd, QM_sz, QM_lk, QM_i, QM_wi, zI, qs_bI, qs_bV, qb_0, h, Bool.true_eq_false, Nat.reduceSub, Nat.reduceLeDiff, Nat.reduceLT, true_and, and_true, and_self, if_true, if_false]
    clear h
    by_cases h : x = 1
    · simp only [QM_kd, QM_sz, QM_lk, QM_i, QM_wi, zI, qs_bI, qs_bV, qb_0, h, zQ, z, f8, Bool.true_eq_false, Nat.reduceSub, Nat.reduceLeDiff, Nat.reduceLT, true_and, and_true, and_self, if_true, if_false]
    simp only [QM_kd, QM_sz, QM_lk, QM_i, QM_wi, zI, qs_bI, qs_bV, qb_0, h, Bool.true_eq_false, Nat.reduceSub, Nat.reduceLeDiff, Nat.reduceLT, true_and, and_true, and_self, if_true, if_false]
    clear h
    by_cases h : x = 2
    · simp only [QM_kd, QM_sz, QM_lk, QM_i, QM_wi, zI, qs_bI, qs_bV, qb_0, h, zQ, z, f9, Bool.true_eq_false, Nat.reduceSub, Nat.reduceLeDiff, Nat.reduceLT, true_and, and_true, and_self, if_true, if_false]
    simp only [QM_kd, QM_sz, QM_lk, QM_i, QM_wi, zI, qs_bI, qs_bV, qb_0, h, Bool.true_eq_false, Nat.reduceSub, Nat.reduceLeDiff, Nat.reduceLT, true_and, and_true, and_self, if_true, if_false]
    clear h
    by_cases h : x = 3
    · simp only [QM_kd, QM_sz, QM_lk, QM_i, QM_wi, zI, qs_bI, qs_bV, qb_0, h, zQ, z, f10, Bool.true_eq_false, Nat.reduceSub, Nat.reduceLeDiff, Nat.reduceLT, true_and, and_true, and_self, if_true, if_false]
    simp only [QM_kd, QM_sz, QM_lk, QM_i, QM_wi, zI, qs_bI, qs_bV, qb_0, h, Bool.true_eq_false, Nat.reduceSub, Nat.reduceLeDiff, Nat.reduceLT, true_and, and_true, and_self, if_true, if_false]
    clear h
    by_cases h : x = 4
    · simp only [QM_kd, QM_sz, QM_lk, QM_i, QM_wi, zI, qs_bI, qs_bV, qb_0, h, zQ, z, f11, Bool.true_eq_false, Nat.reduceSub, Nat.reduceLeDiff, Nat.reduceLT, true_and, and_true, and_self, if_true, if_false]
    simp only [QM_kd, QM_sz, QM_lk, QM_i, QM_wi, zI, qs_bI, qs_bV, qb_0, h, Bool.true_eq_false, Nat.reduceSub, Nat.reduceLeDiff, Nat.reduceLT, true_and, and_true, and_self, if_true, if_false]
    clear h
    by_cases h : x = 5
    · simp only [QM_kd, QM_sz, QM_lk, QM_i, QM_wi, zI, qs_bI, qs_bV, qb_0, h, zQ, z, f4, Bool.true_eq_false, Nat.reduceSub, Nat.reduceLeDiff, Nat.reduceLT, true_and, and_true, and_self, if_true, if_false]
    simp only [QM_kd, QM_sz, QM_lk, QM_i, QM_wi, zI, qs_bI, qs_bV, qb_0, h, h6, Bool.true_eq_false, Nat.reduceSub, Nat.reduceLeDiff, Nat.reduceLT, true_and, and_true, and_self, if_true, if_false]
    clear h
    by_cases h : x = 7
    · simp only [QM_kd, QM_sz, QM_lk, QM_i, QM_wi, zI, qs_bI, qs_bV, qb_0, h, zQ, z, c_22 (d := d + 3) (w := w) hC, Bool.true_eq_false, Nat.reduceSub, Nat.reduceLeDiff, Nat.reduceLT, true_and, and_true, and_self, if_true, if_false]
    simp only [QM_kd, QM_sz, QM_lk, QM_i, QM_wi, zI, qs_bI, qs_bV, qb_0, h, Bool.true_eq_false, Nat.reduceSub, Nat.reduceLeDiff, Nat.reduceLT, true_and, and_true, and_self, if_true, if_false]
    clear h
    by_cases h : x = 8
    · simp only [QM_kd, QM_sz, QM_lk, QM_i, QM_wi, zI, qs_bI, qs_bV, qb_0, h, zQ, z, c_21 (d := d + 3) (w := w) hC, Bool.true_eq_false, Nat.reduceSub, Nat.reduceLeDiff, Nat.reduceLT, true_and, and_true, and_self, if_true, if_false]
    simp only [QM_kd, QM_sz, QM_lk, QM_i, QM_wi, zI, qs_bI, qs_bV, qb_0, h, Bool.true_eq_false, Nat.reduceSub, Nat.reduceLeDiff, Nat.reduceLT, true_and, and_true, and_self, if_true, if_false]
    rfl
theorem d_65L {d M : Nat} {w : Nat → Nat → Int64} {R : Nat → Int32} {x : Int32} : ∀ (r k : Nat) (u : Nat → Nat → Int32), sC u 52 R M → k + r = M → ∃ v', qs_EV (d + 3) 65 18 [some (.ref 16), some (.int x), some (.int (s_seen R M x k)), some (.int (nI k))] [] (QM u w) = some (some (.int (s_seen R M x M)), QM v' w) ∧ ∀ q, q ≠ 19 → v' q = u q
  | 0, k, u, hC, hk => by
    obtain rfl : k = M := by omega
    obtain ⟨hM, h3, -⟩ := sC_M hC
    have z := z52
    unfold zPp at z
    have e2 : nI k ≤ nI k := nI_le (Nat.le_refl _) (by omega)
    refine ⟨u, ?_, fun _ _ => rfl⟩
    refine (bq_65_18 (d + 3) 16 _ _ _ (QM u w)).trans ?_
    simp only [QM_kd, QM_sz, QM_lk, QM_i, QM_wi, zI, qs_bI, qs_bV, qb_0, zQ, z, h3, e2, Bool.true_eq_false, Nat.reduceSub, Nat.reduceLeDiff, Nat.reduceLT, true_and, and_true, and_self, if_true, if_false]
  | r + 1, k, u, hC, hk => by
    obtain ⟨hM, h3, -⟩ := sC_M hC
    have z := z52
    unfold zPp at z
    have y := zj52 (j := k) (by omega)
    have e2 : ¬ nI M ≤ nI k := nI_ge (by omega) (by omega)
    have b23 := c_23 (d := d) (w := w) hC (show k < M by omega)
    by_cases hx : nI (s_it R M M k) = x
    · obtain ⟨v, a1, a2⟩ := c_19 (d := d) (j := k) (w := w) hC (by omega)
      obtain ⟨v', g1, g2⟩ := d_65L (d := d) (w := w) (x := x) r (k + 1) v (sC_19 hC a2) (by omega)
      refine ⟨v', ?_, fun q hq => by rw [g2 q hq, a2 q hq]⟩
      rw [nI_succ, s_seen, if_pos hx] at g1
      refine (bq_65_18 (d + 3) 16 _ _ _ (QM u w)).trans ?_
      simp only [QM_kd, QM_sz, QM_lk, QM_i, QM_wi, zI, qs_bI, qs_bV, qb_0, zQ, z, y, h3, e2, b23, hx, a1, g1, Nat.add_sub_cancel, Nat.le_add_left, Bool.true_eq_false, Nat.reduceSub, Nat.reduceLeDiff, Nat.reduceLT, true_and, and_true, and_self, if_true, if_false]
    · obtain ⟨v', g1, g2⟩ := d_65L (d := d) (w := w) (x := x) r (k + 1) u hC (by omega)
      refine ⟨v', ?_, g2⟩
      rw [nI_succ, s_seen, if_neg hx, Int32.add_zero] at g1
      refine (bq_65_18 (d + 3) 16 _ _ _ (QM u w)).trans ?_
      simp only [QM_kd, QM_sz, QM_lk, QM_i, QM_wi, zI, qs_bI, qs_bV, qb_0, zQ, z, y, h3, e2, b23, hx, g1, Nat.add_sub_cancel, Nat.le_add_left, Bool.true_eq_false, Nat.reduceSub, Nat.reduceLeDiff, Nat.reduceLT, true_and, and_true, and_self, if_true, if_false]
def s_seenA (R : Nat → Int32) (M : Nat) (x : Int32) : Int32 := if s_in x 0 (nI M - 1) = false then sBAD else s_seen R M x M
theorem d_65 {d M : Nat} {u : Nat → Nat → Int32} {w : Nat → Nat → Int64} {R : Nat → Int32} {x : Int32} (hC : sC u 52 R M) : ∃ v', qs_call (d + 4) 65 [.ref 16, .int x] (QM u w) = some (some (.int (s_seenA R M x)), QM v' w) ∧ ∀ q, q ≠ 19 → v' q = u q := by
  have z := z52
  unfold zPp at z
  have b15 := c_15 (d := d + 2) (w := w) (x := x) hC
  unfold s_seenA
  by_cases g1 : s_in x 0 (nI M - 1) = false
  · refine ⟨u, ?_, fun _ _ => rfl⟩
    refine (bq_65_0 (d + 3) 16 _ (QM u w)).trans ?_
    rw [if_pos g1]
    simp only [QM_kd, QM_sz, QM_lk, QM_i, QM_wi, zI, qs_bI, qs_bV, qb_0, zQ, z, b15, g1, Bool.true_eq_false, Nat.reduceSub, Nat.reduceLeDiff, Nat.reduceLT, true_and, and_true, and_self, if_true, if_false]
    rfl
  · obtain ⟨v', a1, a2⟩ := d_65L (d := d) (w := w) (x := x) M 0 u hC (by omega)
    refine ⟨v', ?_, a2⟩
    rw [nI_0] at a1
    simp only [s_seen] at a1
    refine (bq_65_0 (d + 3) 16 _ (QM u w)).trans ?_
    rw [if_neg g1]
    simp only [QM_kd, QM_sz, QM_lk, QM_i, QM_wi, zI, qs_bI, qs_bV, qb_0, zQ, z, b15, g1, a1, Bool.true_eq_false, Nat.reduceSub, Nat.reduceLeDiff, Nat.reduceLT, true_and, and_true, and_self, if_true, if_false]
theorem d_66L {d M : Nat} {u : Nat → Nat → Int32} {w : Nat → Nat → Int64} {R : Nat → Int32} {x : Int32} (hC : sC u 52 R M) : ∀ (r k : Nat), k + r = M → qs_EV (d + 3) 66 18 [some (.ref 16), some (.int x), some (.int (s_from R M x k)), some (.int (nI k))] [] (QM u w) = some (some (.int (s_from R M x M)), QM u w)
  | 0, k, hk => by
    obtain rfl : k = M := by omega
    obtain ⟨hM, h3, -⟩ := sC_M hC
    have z := z52
    unfold zPp at z
    have e2 : nI k ≤ nI k := nI_le (Nat.le_refl _) (by omega)
    refine (bq_66_18 (d + 3) 16 _ _ _ (QM u w)).trans ?_
    simp only [QM_kd, QM_sz, QM_lk, QM_i, QM_wi, zI, qs_bI, qs_bV, qb_0, zQ, z, h3, e2, Bool.true_eq_false, Nat.reduceSub, Nat.reduceLeDiff, Nat.reduceLT, true_and, and_true, and_self, if_true, if_false]
  | r + 1, k, hk => by
    obtain ⟨hM, h3, -⟩ := sC_M hC
    have z := z52
    unfold zPp at z
    have e2 : ¬ nI M ≤ nI k := nI_ge (by omega) (by omega)
    have b23 := c_23 (d := d) (w := w) hC (show k < M by omega)
    have g1 := d_66L (d := d) (w := w) (x := x) hC r (k + 1) (by omega)
    refine (bq_66_18 (d + 3) 16 _ _ _ (QM u w)).trans ?_
    by_cases hx : nI (s_it R M M k) = x
    · rw [nI_succ, s_from, if_pos hx] at g1
      simp only [QM_kd, QM_sz, QM_lk, QM_i, QM_wi, zI, qs_bI, qs_bV, qb_0, zQ, z, h3, e2, b23, hx, g1, Bool.true_eq_false, Nat.reduceSub, Nat.reduceLeDiff, Nat.reduceLT, true_and, and_true, and_self, if_true, if_false]
    · rw [nI_succ, s_from, if_neg hx, i_or0] at g1
      simp only [QM_kd, QM_sz, QM_lk, QM_i, QM_wi, zI, qs_bI, qs_bV, qb_0, zQ, z, h3, e2, b23, hx, g1, Bool.true_eq_false, Nat.reduceSub, Nat.reduceLeDiff, Nat.reduceLT, true_and, and_true, and_self, if_true, if_false]
def s_fromA (R : Nat → Int32) (M : Nat) (x : Int32) : Int32 := if s_in x 0 (nI M - 1) = false then sBAD else s_from R M x M
theorem d_66 {d M : Nat} {u : Nat → Nat → Int32} {w : Nat → Nat → Int64} {R : Nat → Int32} {x : Int32} (hC : sC u 52 R M) : qs_call (d + 4) 66 [.ref 16, .int x] (QM u w) = some (some (.int (s_fromA R M x)), QM u w) := by
  have z := z52
  unfold zPp at z
  have b15 := c_15 (d := d + 2) (w := w) (x := x) hC
  unfold s_fromA
  refine (bq_66_0 (d + 3) 16 _ (QM u w)).trans ?_
  by_cases g1 : s_in x 0 (nI M - 1) = false
  · rw [if_pos g1]
    simp only [QM_kd, QM_sz, QM_lk, QM_i, QM_wi, zI, qs_bI, qs_bV, qb_0, zQ, z, b15, g1, Bool.true_eq_false, Nat.reduceSub, Nat.reduceLeDiff, Nat.reduceLT, true_and, and_true, and_self, if_true, if_false]
    rfl
  · have a1 := d_66L (d := d) (w := w) (x := x) hC M 0 (by omega)
    rw [nI_0] at a1
    simp only [s_from] at a1
    rw [if_neg g1]
    simp only [QM_kd, QM_sz, QM_lk, QM_i, QM_wi, zI, qs_bI, qs_bV, qb_0, zQ, z, b15, g1, a1, Bool.true_eq_false, Nat.reduceSub, Nat.reduceLeDiff, Nat.reduceLT, true_and, and_true, and_self, if_true, if_false]
