/-! WHAT IS ONLY THOUGHT, in the class: the public methods -/
theorem s_asked_in {x y : Int32} : s_asked x y = (s_in x 1 60 && s_in y 0 1) := by
  unfold s_asked s_in
  by_cases h1 : 1 ≤ x ∧ x ≤ 60 <;> by_cases h2 : 0 ≤ y ∧ y ≤ 1 <;> simp [h1, h2]
theorem d_67 {d M : Nat} {u : Nat → Nat → Int32} {w : Nat → Nat → Int64} {R : Nat → Int32} {x c : Int32} (hC : sC u 52 R M) : ∃ v', qs_call (d + 6) 67 [.ref 16, .int x, .int c] (QM u w) = some (some (.int (s_quarter R M x c)), QM v' w) ∧ fthL u v' := by
  obtain ⟨hM, h3, h1⟩ := sC_M hC
  have z := z52
  unfold zPp at z
  have b15 := c_15 (d := d + 4) (w := w) (x := x) hC
  unfold s_quarter
  by_cases g1 : s_in x 0 (nI M - 1) = false
  · refine ⟨u, ?_, fthL_r u⟩
    refine (bq_67_0 (d + 5) 16 _ _ (QM u w)).trans ?_
    rw [if_pos g1]
    simp only [QM_kd, QM_sz, QM_lk, QM_i, QM_wi, zI, qs_bI, qs_bV, qb_0, zQ, z, b15, g1, Bool.true_eq_false, Nat.reduceSub, Nat.reduceLeDiff, Nat.reduceLT, true_and, and_true, and_self, if_true, if_false]
    rfl
  obtain ⟨j, hj, rfl⟩ := (s_isj_in hM).mp (by simpa using g1)
  have ej : (nI j).toNatClampNeg = j := nI_clamp (by omega)
  rw [if_neg g1, ej]
  by_cases g2 : s_in c 0 1 = false
  · refine ⟨u, ?_, fthL_r u⟩
    refine (bq_67_0 (d + 5) 16 _ _ (QM u w)).trans ?_
    rw [if_pos g2]
    simp only [QM_kd, QM_sz, QM_lk, QM_i, QM_wi, zI, qs_bI, qs_bV, qb_0, zQ, z, b15, g1, c_97, g2, Bool.true_eq_false, Nat.reduceSub, Nat.reduceLeDiff, Nat.reduceLT, true_and, and_true, and_self, if_true, if_false]
    rfl
  · obtain ⟨v0, c1, c2, c3⟩ := c_213 (d := d + 4) (u := u) (w := w)
    obtain ⟨v', a1, a2⟩ := d_67_L (d := d) (w := w) (u0 := u) (x := c) hj 19 0 v0 (by omega) (sC_52L hC (fthL_1 c3)) (fthL_1 c3) c2
    refine ⟨v', ?_, a2⟩
    have e0 : nI 0 - 9 = -9 := by decide
    rw [e0] at a1
    refine (bq_67_0 (d + 5) 16 _ _ (QM u w)).trans ?_
    rw [if_neg g2]
    simp only [QM_kd, QM_sz, QM_lk, QM_i, QM_wi, zI, qs_bI, qs_bV, qb_0, zQ, zLe, z, b15, g1, c_97, g2, c1, Bool.true_eq_false, Nat.reduceSub, Nat.reduceLeDiff, Nat.reduceLT, true_and, and_true, and_self, if_true, if_false]
    exact a1
theorem d_71 {d M : Nat} {u : Nat → Nat → Int32} {w : Nat → Nat → Int64} {R : Nat → Int32} {x c n : Int32} (hC : sC u 52 R M) : ∃ v', qs_call (d + 8) 71 [.ref 16, .int x, .int n, .int c] (QM u w) = some (some (.int (s_mend R M x n c)), QM v' w) ∧ fthL u v' := by
  obtain ⟨hM, h3, h1⟩ := sC_M hC
  have z := z52
  unfold zPp at z
  unfold s_mend
  rw [s_asked_in]
  have b15 := c_15 (d := d + 6) (w := w) (x := x) hC
  by_cases g1 : s_in x 0 (nI M - 1) = false
  · refine ⟨u, ?_, fthL_r u⟩
    refine (bq_71_0 (d + 7) 16 _ _ _ (QM u w)).trans ?_
    rw [if_pos g1]
    simp only [QM_kd, QM_sz, QM_lk, QM_i, QM_wi, zI, qs_bI, qs_bV, qb_0, zQ, z, b15, g1, Bool.true_eq_false, Nat.reduceSub, Nat.reduceLeDiff, Nat.reduceLT, true_and, and_true, and_self, if_true, if_false]
    rfl
  obtain ⟨j, hj, rfl⟩ := (s_isj_in hM).mp (by simpa using g1)
  have ej : (nI j).toNatClampNeg = j := nI_clamp (by omega)
  rw [if_neg g1, ej]
  by_cases g2 : s_in n 1 60 = false
  · refine ⟨u, ?_, fthL_r u⟩
    refine (bq_71_0 (d + 7) 16 _ _ _ (QM u w)).trans ?_
    rw [g2]
    simp only [QM_kd, QM_sz, QM_lk, QM_i, QM_wi, zI, qs_bI, qs_bV, qb_0, zQ, z, b15, g1, c_102, g2, Bool.false_and, Bool.true_eq_false, Nat.reduceSub, Nat.reduceLeDiff, Nat.reduceLT, true_and, and_true, and_self, if_true, if_false]
    rfl
  have g2' : s_in n 1 60 = true := by simpa using g2
  by_cases g3 : s_in c 0 1 = false
  · refine ⟨u, ?_, fthL_r u⟩
    refine (bq_71_0 (d + 7) 16 _ _ _ (QM u w)).trans ?_
    rw [g3]
    simp only [QM_kd, QM_sz, QM_lk, QM_i, QM_wi, zI, qs_bI, qs_bV, qb_0, zQ, z, b15, g1, c_102, c_97, g2', g3, Bool.and_false, Bool.true_eq_false, Nat.reduceSub, Nat.reduceLeDiff, Nat.reduceLT, true_and, and_true, and_self, if_true, if_false]
    rfl
  have g3' : s_in c 0 1 = true := by simpa using g3
  obtain ⟨n', hn, rfl⟩ := s_in_n (x := n) (a := 1) (b := 60) (n := 60) g2' (by decide) rfl (by omega)
  have en : (nI n').toNatClampNeg = n' := nI_clamp (by omega)
  rw [en, g2', g3']
  obtain ⟨v0, c1, c2, c3⟩ := c_213 (d := d + 6) (u := u) (w := w)
  obtain ⟨v', a1, a2⟩ := d_71_L (d := d) (w := w) (u0 := u) (x := c) hj (n := n') (by omega) 4 0 v0 (by omega) (sC_52L hC (fthL_1 c3)) (fthL_1 c3) c2
  refine ⟨v', ?_, a2⟩
  rw [nI_0] at a1
  refine (bq_71_0 (d + 7) 16 _ _ _ (QM u w)).trans ?_
  simp only [QM_kd, QM_sz, QM_lk, QM_i, QM_wi, zI, qs_bI, qs_bV, qb_0, zQ, zLe, z, b15, g1, c_102, c_97, g2', g3', Bool.and_self, c1, Bool.true_eq_false, Nat.reduceSub, Nat.reduceLeDiff, Nat.reduceLT, true_and, and_true, and_self, if_true, if_false]
  exact a1
theorem d_73 {d M : Nat} {u : Nat → Nat → Int32} {w : Nat → Nat → Int64} {R : Nat → Int32} {x c n : Int32} (hC : sC u 52 R M) : ∃ v', qs_call (d + 8) 73 [.ref 16, .int x, .int n, .int c] (QM u w) = some (some (.int (s_becomes R M x n c)), QM v' w) ∧ fthL u v' := by
  obtain ⟨hM, h3, h1⟩ := sC_M hC
  have z := z52
  unfold zPp at z
  unfold s_becomes
  rw [s_asked_in]
  have b15 := c_15 (d := d + 6) (w := w) (x := x) hC
  by_cases g1 : s_in x 0 (nI M - 1) = false
  · refine ⟨u, ?_, fthL_r u⟩
    refine (bq_73_0 (d + 7) 16 _ _ _ (QM u w)).trans ?_
    rw [if_pos g1]
    simp only [QM_kd, QM_sz, QM_lk, QM_i, QM_wi, zI, qs_bI, qs_bV, qb_0, zQ, z, b15, g1, Bool.true_eq_false, Nat.reduceSub, Nat.reduceLeDiff, Nat.reduceLT, true_and, and_true, and_self, if_true, if_false]
    rfl
  obtain ⟨j, hj, rfl⟩ := (s_isj_in hM).mp (by simpa using g1)
  have ej : (nI j).toNatClampNeg = j := nI_clamp (by omega)
  rw [if_neg g1, ej]
  by_cases g2 : s_in n 1 60 = false
  · refine ⟨u, ?_, fthL_r u⟩
    refine (bq_73_0 (d + 7) 16 _ _ _ (QM u w)).trans ?_
    rw [g2]
    simp only [QM_kd, QM_sz, QM_lk, QM_i, QM_wi, zI, qs_bI, qs_bV, qb_0, zQ, z, b15, g1, c_102, g2, Bool.false_and, Bool.true_eq_false, Nat.reduceSub, Nat.reduceLeDiff, Nat.reduceLT, true_and, and_true, and_self, if_true, if_false]
    rfl
  have g2' : s_in n 1 60 = true := by simpa using g2
  by_cases g3 : s_in c 0 1 = false
  · refine ⟨u, ?_, fthL_r u⟩
    refine (bq_73_0 (d + 7) 16 _ _ _ (QM u w)).trans ?_
    rw [g3]
    simp only [QM_kd, QM_sz, QM_lk, QM_i, QM_wi, zI, qs_bI, qs_bV, qb_0, zQ, z, b15, g1, c_102, c_97, g2', g3, Bool.and_false, Bool.true_eq_false, Nat.reduceSub, Nat.reduceLeDiff, Nat.reduceLT, true_and, and_true, and_self, if_true, if_false]
    rfl
  have g3' : s_in c 0 1 = true := by simpa using g3
  obtain ⟨n', hn, rfl⟩ := s_in_n (x := n) (a := 1) (b := 60) (n := 60) g2' (by decide) rfl (by omega)
  have en : (nI n').toNatClampNeg = n' := nI_clamp (by omega)
  rw [en, g2', g3']
  obtain ⟨v0, c1, c2, c3⟩ := c_213 (d := d + 6) (u := u) (w := w)
  obtain ⟨v', a1, a2⟩ := d_73_L (d := d) (w := w) (u0 := u) (x := c) hj (n := n') (by omega) 6 0 v0 (by omega) (sC_52L hC (fthL_1 c3)) (fthL_1 c3) c2
  refine ⟨v', ?_, a2⟩
  rw [nI_0] at a1
  refine (bq_73_0 (d + 7) 16 _ _ _ (QM u w)).trans ?_
  simp only [QM_kd, QM_sz, QM_lk, QM_i, QM_wi, zI, qs_bI, qs_bV, qb_0, zQ, zLe, z, b15, g1, c_102, c_97, g2', g3', Bool.and_self, c1, Bool.true_eq_false, Nat.reduceSub, Nat.reduceLeDiff, Nat.reduceLT, true_and, and_true, and_self, if_true, if_false]
  exact a1
theorem d_72 {d M : Nat} {u : Nat → Nat → Int32} {w : Nat → Nat → Int64} {R : Nat → Int32} {c n : Int32} (hC : sC u 52 R M) : ∃ v', qs_call (d + 8) 72 [.ref 16, .int n, .int c] (QM u w) = some (some (.int (s_first R M n c)), QM v' w) ∧ fthL u v' := by
  obtain ⟨hM, h3, h1⟩ := sC_M hC
  have z := z52
  unfold zPp at z
  unfold s_first
  rw [s_asked_in]
  by_cases g2 : s_in n 1 60 = false
  · refine ⟨u, ?_, fthL_r u⟩
    refine (bq_72_0 (d + 7) 16 _ _ (QM u w)).trans ?_
    rw [g2]
    simp only [QM_kd, QM_sz, QM_lk, QM_i, QM_wi, zI, qs_bI, qs_bV, qb_0, zQ, z, c_102, g2, Bool.false_and, Bool.true_eq_false, Nat.reduceSub, Nat.reduceLeDiff, Nat.reduceLT, true_and, and_true, and_self, if_true, if_false]
    rfl
  have g2' : s_in n 1 60 = true := by simpa using g2
  by_cases g3 : s_in c 0 1 = false
  · refine ⟨u, ?_, fthL_r u⟩
    refine (bq_72_0 (d + 7) 16 _ _ (QM u w)).trans ?_
    rw [g3]
    simp only [QM_kd, QM_sz, QM_lk, QM_i, QM_wi, zI, qs_bI, qs_bV, qb_0, zQ, z, c_102, c_97, g2', g3, Bool.and_false, Bool.true_eq_false, Nat.reduceSub, Nat.reduceLeDiff, Nat.reduceLT, true_and, and_true, and_self, if_true, if_false]
    rfl
  have g3' : s_in c 0 1 = true := by simpa using g3
  obtain ⟨n', hn, rfl⟩ := s_in_n (x := n) (a := 1) (b := 60) (n := 60) g2' (by decide) rfl (by omega)
  have en : (nI n').toNatClampNeg = n' := nI_clamp (by omega)
  rw [en, g2', g3']
  obtain ⟨v0, c1, c2, c3⟩ := c_213 (d := d + 6) (u := u) (w := w)
  obtain ⟨v', a1, a2⟩ := d_72_L (d := d) (w := w) (u0 := u) (x := c) (n := n') (by omega) M 0 v0 (by omega) (sC_52L hC (fthL_1 c3)) (fthL_1 c3) c2
  refine ⟨v', ?_, a2⟩
  rw [nI_0] at a1
  refine (bq_72_0 (d + 7) 16 _ _ (QM u w)).trans ?_
  simp only [QM_kd, QM_sz, QM_lk, QM_i, QM_wi, zI, qs_bI, qs_bV, qb_0, zQ, zLe, z, c_102, c_97, g2', g3', Bool.and_self, c1, Bool.true_eq_false, Nat.reduceSub, Nat.reduceLeDiff, Nat.reduceLT, true_and, and_true, and_self, if_true, if_false]
  exact a1
theorem d_74 {d M : Nat} {u : Nat → Nat → Int32} {w : Nat → Nat → Int64} {R : Nat → Int32} {c n : Int32} (hC : sC u 52 R M) : ∃ v', qs_call (d + 8) 74 [.ref 16, .int n, .int c] (QM u w) = some (some (.int (s_loose R M n c)), QM v' w) ∧ fthL u v' := by
  obtain ⟨hM, h3, h1⟩ := sC_M hC
  have z := z52
  unfold zPp at z
  unfold s_loose
  rw [s_asked_in]
  by_cases g2 : s_in n 1 60 = false
  · refine ⟨u, ?_, fthL_r u⟩
    refine (bq_74_0 (d + 7) 16 _ _ (QM u w)).trans ?_
    rw [g2]
    simp only [QM_kd, QM_sz, QM_lk, QM_i, QM_wi, zI, qs_bI, qs_bV, qb_0, zQ, z, c_102, g2, Bool.false_and, Bool.true_eq_false, Nat.reduceSub, Nat.reduceLeDiff, Nat.reduceLT, true_and, and_true, and_self, if_true, if_false]
    rfl
  have g2' : s_in n 1 60 = true := by simpa using g2
  by_cases g3 : s_in c 0 1 = false
  · refine ⟨u, ?_, fthL_r u⟩
    refine (bq_74_0 (d + 7) 16 _ _ (QM u w)).trans ?_
    rw [g3]
    simp only [QM_kd, QM_sz, QM_lk, QM_i, QM_wi, zI, qs_bI, qs_bV, qb_0, zQ, z, c_102, c_97, g2', g3, Bool.and_false, Bool.true_eq_false, Nat.reduceSub, Nat.reduceLeDiff, Nat.reduceLT, true_and, and_true, and_self, if_true, if_false]
    rfl
  have g3' : s_in c 0 1 = true := by simpa using g3
  obtain ⟨n', hn, rfl⟩ := s_in_n (x := n) (a := 1) (b := 60) (n := 60) g2' (by decide) rfl (by omega)
  have en : (nI n').toNatClampNeg = n' := nI_clamp (by omega)
  rw [en, g2', g3']
  obtain ⟨v0, c1, c2, c3⟩ := c_213 (d := d + 6) (u := u) (w := w)
  obtain ⟨v', a1, a2⟩ := d_74_L (d := d) (w := w) (u0 := u) (x := c) (n := n') (by omega) M 0 v0 (by omega) (sC_52L hC (fthL_1 c3)) (fthL_1 c3) c2
  refine ⟨v', ?_, a2⟩
  rw [nI_0] at a1
  refine (bq_74_0 (d + 7) 16 _ _ (QM u w)).trans ?_
  simp only [QM_kd, QM_sz, QM_lk, QM_i, QM_wi, zI, qs_bI, qs_bV, qb_0, zQ, zLe, z, c_102, c_97, g2', g3', Bool.and_self, c1, Bool.true_eq_false, Nat.reduceSub, Nat.reduceLeDiff, Nat.reduceLT, true_and, and_true, and_self, if_true, if_false]
  exact a1
theorem d_68 {d M : Nat} {u : Nat → Nat → Int32} {w : Nat → Nat → Int64} {R : Nat → Int32} {n c : Int32} (hC : sC u 52 R M) : ∃ v', qs_call (d + 8) 68 [.ref 16, .int n, .int c] (QM u w) = some (some (.int (s_behind R M n c)), QM v' w) ∧ fth u v' := by
  obtain ⟨hM, h3, h1⟩ := sC_M hC
  have z := z52
  unfold zPp at z
  have zt := z74
  unfold zPp at zt
  unfold s_behind
  by_cases g1 : s_in n 0 100 = false
  · refine ⟨u, ?_, fth_r u⟩
    refine (bq_68_0 (d + 7) 16 _ _ (QM u w)).trans ?_
    rw [if_pos g1]
    simp only [QM_kd, QM_sz, QM_lk, QM_i, QM_wi, zI, qs_bI, qs_bV, qb_0, c_97, g1, Bool.true_eq_false, Nat.reduceSub, Nat.reduceLeDiff, Nat.reduceLT, true_and, and_true, and_self, if_true, if_false]
    rfl
  obtain ⟨n', hn, rfl⟩ := s_nf (n := 100) g1 rfl (by omega)
  have en : (nI n').toNatClampNeg = n' := nI_clamp (by omega)
  rw [en, if_neg g1]
  by_cases g2 : c < 0
  · refine ⟨u, ?_, fth_r u⟩
    refine (bq_68_0 (d + 7) 16 _ _ (QM u w)).trans ?_
    rw [if_pos g2]
    simp only [QM_kd, QM_sz, QM_lk, QM_i, QM_wi, zI, qs_bI, qs_bV, qb_0, c_97, g1, g2, Bool.true_eq_false, Nat.reduceSub, Nat.reduceLeDiff, Nat.reduceLT, true_and, and_true, and_self, if_true, if_false]
    rfl
  rw [if_neg g2]
  obtain ⟨v1, a1, a2, a3⟩ := th_take (d := d + 4) (w := w) hC
  obtain ⟨v2, b1, b2, b3⟩ := c_25 (d := d) (w := w) (n := n') a2 (by omega)
  obtain ⟨f4, f5, f6, f7, f8, f9, -⟩ := sC_f b2
  have b3 : fth v1 v2 := fun q h h19 => b3 q h h19
  by_cases g3 : c ≤ 2
  · rw [if_pos g3]
    refine ⟨v2, ?_, fth_t a3 b3⟩
    refine (bq_68_0 (d + 7) 16 _ _ (QM u w)).trans ?_
    by_cases c0 : c = 0
    · subst c0
      simp only [QM_kd, QM_sz, QM_lk, QM_i, QM_wi, zI, qs_bI, qs_bV, qb_0, zQ, z, zt, c_97, g1, g2, g3, a1, b1, f7, Bool.true_eq_false, Nat.reduceSub, Nat.reduceLeDiff, Nat.reduceLT, true_and, and_true, and_self, if_true, if_false]
    by_cases c1 : c = 1
    · subst c1
      simp only [QM_kd, QM_sz, QM_lk, QM_i, QM_wi, zI, qs_bI, qs_bV, qb_0, zQ, z, zt, c_97, g1, g2, g3, a1, b1, f9, show ¬ (1 : Int32) = 0 by decide, Bool.true_eq_false, Nat.reduceSub, Nat.reduceLeDiff, Nat.reduceLT, true_and, and_true, and_self, if_true, if_false]
    obtain ⟨k, hk, rfl⟩ := nI_of g2
    have hk2 : k ≤ 2 := (nI_leI (b := 2) hk (by omega)).mp g3
    have k0 : k ≠ 0 := fun q => c0 (by rw [q]; rfl)
    have k1 : k ≠ 1 := fun q => c1 (by rw [q]; rfl)
    have k2 : nI k = 2 := by rw [show k = 2 by omega]; rfl
    rw [k2]
    simp only [QM_kd, QM_sz, QM_lk, QM_i, QM_wi, zI, qs_bI, qs_bV, qb_0, zQ, z, zt, c_97, g1, a1, b1, f8, show ¬ (2 : Int32) < 0 by decide, show (2 : Int32) ≤ 2 by decide, show ¬ (2 : Int32) = 0 by decide, show ¬ (2 : Int32) = 1 by decide, Bool.true_eq_false, Nat.reduceSub, Nat.reduceLeDiff, Nat.reduceLT, true_and, and_true, and_self, if_true, if_false]
  rw [if_neg g3]
  have b15 := c_15 (d := d + 6) (w := w) (x := c - 3) hC
  by_cases g4 : s_in (c - 3) 0 (nI M - 1) = false
  · refine ⟨u, ?_, fth_r u⟩
    refine (bq_68_0 (d + 7) 16 _ _ (QM u w)).trans ?_
    rw [if_pos g4]
    simp only [QM_kd, QM_sz, QM_lk, QM_i, QM_wi, zI, qs_bI, qs_bV, qb_0, zQ, z, zt, c_97, g1, g2, g3, b15, g4, Bool.true_eq_false, Nat.reduceSub, Nat.reduceLeDiff, Nat.reduceLT, true_and, and_true, and_self, if_true, if_false]
    rfl
  rw [if_neg g4]
  obtain ⟨j, hj, ej⟩ := (s_isj_in hM).mp (show s_in (c - 3) 0 (nI M - 1) = true by simpa using g4)
  have y := zj74 (j := j) (by omega)
  obtain ⟨v3, c1, c2⟩ := c_19 (d := d + 4) (j := j) (w := w) b2 hj
  refine ⟨v3, ?_, fth_t (fth_t a3 b3) (fun q _ h => c2 q h)⟩
  refine (bq_68_0 (d + 7) 16 _ _ (QM u w)).trans ?_
  have n0 : ¬ c = 0 := fun q => g3 (by rw [q]; decide)
  have n1 : ¬ c = 1 := fun q => g3 (by rw [q]; decide)
  have n2 : ¬ c = 2 := fun q => g3 (by rw [q]; decide)
  rw [ej] at g4 b15
  simp only [QM_kd, QM_sz, QM_lk, QM_i, QM_wi, zI, qs_bI, qs_bV, qb_0, zQ, z, zt, y, c_97, g1, g2, g3, n0, n1, n2, ej, b15, g4, a1, b1, Nat.add_sub_cancel, Nat.le_add_left, Bool.true_eq_false, Nat.reduceSub, Nat.reduceLeDiff, Nat.reduceLT, true_and, and_true, and_self, if_true, if_false]
  rw [c1]
theorem d_69L {d M : Nat} {u0 : Nat → Nat → Int32} {w : Nat → Nat → Int64} {R : Nat → Int32} : ∀ (r k : Nat) (u : Nat → Nat → Int32), k + r = 201 → sC u 74 (s_go R k) M → fth u0 u → ∃ v', qs_EV (d + 6) 69 13 [some (.ref 16), some (.int (nI k))] [] (QM u w) = some (some (.int (s_find (s_fullP R) r k)), QM v' w) ∧ fth u0 v'
  | 0, k, u, hk, hC, hf => by
    obtain rfl : k = 201 := by omega
    refine ⟨u, ?_, hf⟩
    refine (bq_69_13 (d + 6) 16 _ (QM u w)).trans ?_
    rw [if_pos (by decide)]
    rfl
  | r + 1, k, u, hk, hC, hf => by
    have zt := z74
    unfold zPp at zt
    obtain ⟨f4, f5, f6, f7, f8, -⟩ := sC_f hC
    have g200 : ¬ (200 : Int32) < nI k := nI_nlt (a := 200) (by omega) (by omega)
    unfold s_find
    by_cases hp : s_go R k 5 ≤ s_go R k 7
    · refine ⟨u, ?_, hf⟩
      refine (bq_69_13 (d + 6) 16 _ (QM u w)).trans ?_
      rw [if_pos (show s_fullP R k = true from decide_eq_true hp)]
      simp only [QM_kd, QM_sz, QM_lk, QM_i, QM_wi, zI, qs_bI, qs_bV, qb_0, zQ, zt, g200, f6, f8, Int32.not_lt.mpr hp, Bool.true_eq_false, Nat.reduceSub, Nat.reduceLeDiff, Nat.reduceLT, true_and, and_true, and_self, if_true, if_false]
    · obtain ⟨v1, a1, a2, a3⟩ := c_26 (d := d) (w := w) hC
      obtain ⟨v', g1, g2⟩ := d_69L (d := d) (w := w) (u0 := u0) (R := R) r (k + 1) v1 (by omega) a2 (fth_t hf (fun q h h19 => a3 q h h19))
      refine ⟨v', ?_, g2⟩
      rw [nI_succ] at g1
      refine (bq_69_13 (d + 6) 16 _ (QM u w)).trans ?_
      rw [if_neg (show ¬ s_fullP R k = true from fun q => hp (of_decide_eq_true q))]
      simp only [QM_kd, QM_sz, QM_lk, QM_i, QM_wi, zI, qs_bI, qs_bV, qb_0, zQ, zt, g200, f6, f8, Int32.not_le.mp hp, a1, g1, Bool.true_eq_false, Nat.reduceSub, Nat.reduceLeDiff, Nat.reduceLT, true_and, and_true, and_self, if_true, if_false]
theorem d_69 {d M : Nat} {u : Nat → Nat → Int32} {w : Nat → Nat → Int64} {R : Nat → Int32} (hC : sC u 52 R M) : ∃ v', qs_call (d + 7) 69 [.ref 16] (QM u w) = some (some (.int (s_full R)), QM v' w) ∧ fth u v' := by
  obtain ⟨v1, a1, a2, a3⟩ := th_take (d := d + 3) (w := w) hC
  obtain ⟨v', g1, g2⟩ := d_69L (d := d) (w := w) (u0 := u) (R := R) 201 0 v1 (by omega) a2 a3
  refine ⟨v', ?_, g2⟩
  have zt := z74
  unfold zPp at zt
  rw [nI_0] at g1
  refine (bq_69_0 (d + 6) 16 (QM u w)).trans ?_
  simp only [QM_kd, QM_sz, QM_lk, QM_i, QM_wi, zI, qs_bI, qs_bV, qb_0, zQ, zt, a1, Bool.true_eq_false, Nat.reduceSub, Nat.reduceLeDiff, Nat.reduceLT, true_and, and_true, and_self, if_true, if_false]
  exact g1
theorem d_70L {d M j : Nat} {u0 : Nat → Nat → Int32} {w : Nat → Nat → Int64} {R : Nat → Int32} (hj : j < M) : ∀ (r k : Nat) (u : Nat → Nat → Int32), k + r = 201 → sC u 74 (s_go R k) M → fth u0 u → ∃ v', qs_EV (d + 6) 70 27 [some (.ref 16), some (.int (nI j)), some (.int (nI k))] [] (QM u w) = some (some (.int (s_find (s_shutP R j) r k)), QM v' w) ∧ fth u0 v'
  | 0, k, u, hk, hC, hf => by
    obtain rfl : k = 201 := by omega
    refine ⟨u, ?_, hf⟩
    refine (bq_70_27 (d + 6) 16 _ _ (QM u w)).trans ?_
    rw [if_pos (by decide)]
    rfl
  | r + 1, k, u, hk, hC, hf => by
    obtain ⟨hM, h3, -⟩ := sC_M hC
    have zt := z74
    unfold zPp at zt
    have y := zj74 (j := j) (by omega)
    have g200 : ¬ (200 : Int32) < nI k := nI_nlt (a := 200) (by omega) (by omega)
    obtain ⟨v0, b1, b2⟩ := c_19 (d := d + 3) (w := w) hC hj
    have hC0 := sC_19 hC b2
    have hf0 : fth u v0 := fun q _ h => b2 q h
    obtain ⟨l, l1, l2⟩ := s_leak_n (s_go R k) (s_jo (s_go R k) j)
    unfold s_find
    by_cases hp : s_leak (s_go R k) (s_jo (s_go R k) j) ≤ 0
    · have h0 : s_leak (s_go R k) (s_jo (s_go R k) j) = 0 := by
        rw [l2] at hp ⊢
        have := (nI_leI (b := 0) (by omega) (by omega)).mp hp
        rw [show l = 0 by omega]
        rfl
      refine ⟨v0, ?_, fth_t hf hf0⟩
      refine (bq_70_27 (d + 6) 16 _ _ (QM u w)).trans ?_
      rw [if_pos (show s_shutP R j k = true from decide_eq_true hp)]
      rw [h0] at b1
      simp only [QM_kd, QM_sz, QM_lk, QM_i, QM_wi, zI, qs_bI, qs_bV, qb_0, zQ, zt, y, g200, b1, Nat.add_sub_cancel, Nat.le_add_left, Bool.true_eq_false, Nat.reduceSub, Nat.reduceLeDiff, Nat.reduceLT, true_and, and_true, and_self, if_true, if_false]
    · have h0 : ¬ s_leak (s_go R k) (s_jo (s_go R k) j) = 0 := fun q => hp (by rw [q]; decide)
      obtain ⟨v1, a1, a2, a3⟩ := c_26 (d := d) (w := w) hC0
      obtain ⟨v', g1, g2⟩ := d_70L (d := d) (w := w) (u0 := u0) (R := R) hj r (k + 1) v1 (by omega) a2 (fth_t (fth_t hf hf0) (fun q h h19 => a3 q h h19))
      refine ⟨v', ?_, g2⟩
      rw [nI_succ] at g1
      refine (bq_70_27 (d + 6) 16 _ _ (QM u w)).trans ?_
      rw [if_neg (show ¬ s_shutP R j k = true from fun q => hp (of_decide_eq_true q))]
      simp only [QM_kd, QM_sz, QM_lk, QM_i, QM_wi, zI, qs_bI, qs_bV, qb_0, zQ, zt, y, g200, b1, h0, a1, g1, Nat.add_sub_cancel, Nat.le_add_left, Bool.true_eq_false, Nat.reduceSub, Nat.reduceLeDiff, Nat.reduceLT, true_and, and_true, and_self, if_true, if_false]
theorem d_70 {d M : Nat} {u : Nat → Nat → Int32} {w : Nat → Nat → Int64} {R : Nat → Int32} {x : Int32} (hC : sC u 52 R M) : ∃ v', qs_call (d + 7) 70 [.ref 16, .int x] (QM u w) = some (some (.int (s_shut R M x)), QM v' w) ∧ fth u v' := by
  obtain ⟨hM, h3, h1⟩ := sC_M hC
  have z := z52
  unfold zPp at z
  have zt := z74
  unfold zPp at zt
  have b15 := c_15 (d := d + 5) (w := w) (x := x) hC
  unfold s_shut
  by_cases g1 : s_in x 0 (nI M - 1) = false
  · refine ⟨u, ?_, fth_r u⟩
    refine (bq_70_0 (d + 6) 16 _ (QM u w)).trans ?_
    rw [if_pos g1]
    simp only [QM_kd, QM_sz, QM_lk, QM_i, QM_wi, zI, qs_bI, qs_bV, qb_0, zQ, z, b15, g1, Bool.true_eq_false, Nat.reduceSub, Nat.reduceLeDiff, Nat.reduceLT, true_and, and_true, and_self, if_true, if_false]
    rfl
  obtain ⟨j, hj, rfl⟩ := (s_isj_in hM).mp (by simpa using g1)
  have ej : (nI j).toNatClampNeg = j := nI_clamp (by omega)
  rw [if_neg g1, ej]
  obtain ⟨v1, a1, a2, a3⟩ := th_take (d := d + 3) (w := w) hC
  obtain ⟨v', k1, k2⟩ := d_70L (d := d) (w := w) (u0 := u) (R := R) hj 201 0 v1 (by omega) a2 a3
  refine ⟨v', ?_, k2⟩
  rw [nI_0] at k1
  refine (bq_70_0 (d + 6) 16 _ (QM u w)).trans ?_
  simp only [QM_kd, QM_sz, QM_lk, QM_i, QM_wi, zI, qs_bI, qs_bV, qb_0, zQ, z, zt, b15, g1, a1, Bool.true_eq_false, Nat.reduceSub, Nat.reduceLeDiff, Nat.reduceLT, true_and, and_true, and_self, if_true, if_false]
  exact k1
theorem d_76 {d M : Nat} {u : Nat → Nat → Int32} {w : Nat → Nat → Int64} {R : Nat → Int32} (hC : sC u 52 R M) : ∃ v', qs_call (d + 3) 76 [.ref 16] (QM u w) = some (some (.int (s_fee R)), QM v' w) ∧ ∀ q, q ≠ 19 → v' q = u q := by
  have z := z52
  unfold zPp at z
  obtain ⟨f4, f5, f6, f7, f8, f9, -⟩ := sC_f hC
  have t1 : u (52 + 2) 1 = s_t R 1 := hC.2.1.2.2.2.2.2.2.2.2.2.2.2.2.2 1 (by omega)
  unfold s_fee
  by_cases g : 0 ≤ s_t R 1
  · obtain ⟨v', a1, a2⟩ := c_give (d := d) (u := u) (w := w) (a := R 6) (b := R 8) (c := 0) hC.2.2.2.2 hC.2.2.1.2.2.2.2.1 g
    refine ⟨v', ?_, a2⟩
    refine (bq_76_0 (d + 2) 16 (QM u w)).trans ?_
    rw [if_pos g]
    simp only [QM_kd, QM_sz, QM_lk, QM_i, QM_wi, zI, qs_bI, qs_bV, qb_0, zQ, z, t1, f7, f9, g, a1, Nat.add_sub_cancel, Nat.le_add_left, Bool.true_eq_false, Nat.reduceSub, Nat.reduceLeDiff, Nat.reduceLT, true_and, and_true, and_self, if_true, if_false]
  · refine ⟨u, ?_, fun _ _ => rfl⟩
    refine (bq_76_0 (d + 2) 16 (QM u w)).trans ?_
    rw [if_neg g]
    simp only [QM_kd, QM_sz, QM_lk, QM_i, QM_wi, zI, qs_bI, qs_bV, qb_0, zQ, z, t1, f7, f9, g, Nat.add_sub_cancel, Nat.le_add_left, Bool.true_eq_false, Nat.reduceSub, Nat.reduceLeDiff, Nat.reduceLT, true_and, and_true, and_self, if_true, if_false]
theorem d_77 {d M : Nat} {u : Nat → Nat → Int32} {w : Nat → Nat → Int64} {R : Nat → Int32} {x : Int32} (hC : sC u 52 R M) : ∃ v', qs_call (d + 3) 77 [.ref 16, .int x] (QM u w) = some (some (.int (s_fine R M x)), QM v' w) ∧ ∀ q, q ≠ 19 → v' q = u q := by
  obtain ⟨hM, h3, h1⟩ := sC_M hC
  have z := z52
  unfold zPp at z
  have b15 := c_15 (d := d + 1) (w := w) (x := x) hC
  have t1 : u (52 + 2) 2 = s_t R 2 := hC.2.1.2.2.2.2.2.2.2.2.2.2.2.2.2 2 (by omega)
  unfold s_fine
  by_cases g1 : s_in x 0 (nI M - 1) = false
  · refine ⟨u, ?_, fun _ _ => rfl⟩
    refine (bq_77_0 (d + 2) 16 _ (QM u w)).trans ?_
    rw [if_pos g1]
    simp only [QM_kd, QM_sz, QM_lk, QM_i, QM_wi, zI, qs_bI, qs_bV, qb_0, zQ, z, b15, g1, Bool.true_eq_false, Nat.reduceSub, Nat.reduceLeDiff, Nat.reduceLT, true_and, and_true, and_self, if_true, if_false]
    rfl
  obtain ⟨j, hj, rfl⟩ := (s_isj_in hM).mp (by simpa using g1)
  have y := zj52 (j := j) (by omega)
  have e1 := sJ_e (c := 1) hC hj (by omega)
  have e7 := sJ_e (c := 7) hC hj (by omega)
  rw [if_neg g1, y.2.2.2.2.2.2.2.2.2.2.2.1]
  by_cases g : 0 ≤ s_t R 2
  · obtain ⟨v', a1, a2⟩ := c_give (d := d) (u := u) (w := w) (a := s_jo R j 1) (b := s_jo R j 7) (c := 0) hC.2.2.2.2 hC.2.2.1.2.2.2.2.1 g
    refine ⟨v', ?_, a2⟩
    refine (bq_77_0 (d + 2) 16 _ (QM u w)).trans ?_
    rw [if_pos g]
    simp only [QM_kd, QM_sz, QM_lk, QM_i, QM_wi, zI, qs_bI, qs_bV, qb_0, zQ, z, y, b15, g1, t1, e1, e7, g, a1, Nat.add_sub_cancel, Nat.le_add_left, Bool.true_eq_false, Nat.reduceSub, Nat.reduceLeDiff, Nat.reduceLT, true_and, and_true, and_self, if_true, if_false]
  · refine ⟨u, ?_, fun _ _ => rfl⟩
    refine (bq_77_0 (d + 2) 16 _ (QM u w)).trans ?_
    rw [if_neg g]
    simp only [QM_kd, QM_sz, QM_lk, QM_i, QM_wi, zI, qs_bI, qs_bV, qb_0, zQ, z, y, b15, g1, t1, e1, e7, g, Nat.add_sub_cancel, Nat.le_add_left, Bool.true_eq_false, Nat.reduceSub, Nat.reduceLeDiff, Nat.reduceLT, true_and, and_true, and_self, if_true, if_false]
