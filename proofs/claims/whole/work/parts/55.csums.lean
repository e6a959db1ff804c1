/-! SUMS, AND WHERE DRIPS HANG, in the class -/
theorem sJ_e {u : Nat → Nat → Int32} {p j M c : Nat} {R : Nat → Int32} (hC : sC u p R M) (hj : j < M) (hc : c < 8) : u (p + 3 + j) c = s_jo R j c := hC.2.1.2.2.2.2.2.2.2.2.2.2.2.2.1 j hj c hc
theorem sC_M {u : Nat → Nat → Int32} {p M : Nat} {R : Nat → Int32} (hC : sC u p R M) : M ≤ 8 ∧ u p 3 = nI M ∧ R 1 = nI M := ⟨hC.2.2.1.1, hC.2.1.1, hC.2.2.1.2.1⟩
theorem c_20L {d p M : Nat} {w : Nat → Nat → Int64} {R : Nat → Int32} : ∀ (r k : Nat) (u : Nat → Nat → Int32), sC u p R M → k + r = M → ∃ v', qs_EV (d + 3) 20 4 [some (.ref p), some (.int (s_sum R k)), some (.int (nI k))] [] (QM u w) = some (some (.int (s_sum R M)), QM v' w) ∧ ∀ q, q ≠ 19 → v' q = u q
  | 0, k, u, hC, hk => by
    obtain rfl : k = M := by omega
    obtain ⟨hM, h3, -⟩ := sC_M hC
    have z := zP hC.1
    unfold zPp at z
    have e2 : nI k ≤ nI k := nI_le (Nat.le_refl _) (by omega)
    refine ⟨u, ?_, fun _ _ => rfl⟩
    refine (bq_20_4 (d + 3) p _ _ (QM u w)).trans ?_
    simp only [QM_kd, QM_sz, QM_lk, QM_i, QM_wi, zI, qs_bI, qs_bV, qb_0, z, h3, e2, Bool.true_eq_false, Nat.reduceSub, Nat.reduceLeDiff, Nat.reduceLT, true_and, and_true, and_self, if_true, if_false]
  | r + 1, k, u, hC, hk => by
    obtain ⟨hM, h3, -⟩ := sC_M hC
    obtain ⟨v, a1, a2⟩ := c_19 (d := d) (j := k) (w := w) hC (by omega)
    obtain ⟨v', g1, g2⟩ := c_20L (d := d) (w := w) r (k + 1) v (sC_19 hC a2) (by omega)
    refine ⟨v', ?_, fun q hq => by rw [g2 q hq, a2 q hq]⟩
    have z := zP hC.1
    unfold zPp at z
    obtain ⟨z1, z2, zj⟩ := zPj (j := k) hC.1 (by omega)
    unfold zJ at zj
    have e2 : ¬ nI M ≤ nI k := nI_ge (by omega) (by omega)
    have e7 : (nI k).toNatClampNeg = k := nI_clamp (by omega)
    have e8 : 0 ≤ nI k := nI_pos' (by omega)
    have e9 : k < 8 := by omega
    rw [nI_succ] at g1
    refine (bq_20_4 (d + 3) p _ _ (QM u w)).trans ?_
    simp only [QM_kd, QM_sz, QM_lk, QM_i, QM_wi, zI, qs_bI, qs_bV, qb_0, z, z1, z2, zj, h3, e2, e7, e8, e9, Nat.add_sub_cancel, Nat.le_add_left, Bool.true_eq_false, Nat.reduceSub, Nat.reduceLeDiff, Nat.reduceLT, true_and, and_true, and_self, if_true, if_false]
    rw [a1]
    exact g1
theorem c_20 {d p M : Nat} {u : Nat → Nat → Int32} {w : Nat → Nat → Int64} {R : Nat → Int32} (hC : sC u p R M) : ∃ v', qs_call (d + 4) 20 [.ref p] (QM u w) = some (some (.int (s_sum R M)), QM v' w) ∧ ∀ q, q ≠ 19 → v' q = u q := by
  obtain ⟨v', g1, g2⟩ := c_20L (d := d) (w := w) M 0 u hC (by omega)
  exact ⟨v', (bq_20_0 (d + 3) p (QM u w)).trans g1, g2⟩
theorem c_21L {d p M : Nat} {u : Nat → Nat → Int32} {w : Nat → Nat → Int64} {R : Nat → Int32} (hC : sC u p R M) : ∀ (r k : Nat), k + r = M → qs_EV d 21 4 [some (.ref p), some (.int (s_ts R k)), some (.int (nI k))] [] (QM u w) = some (some (.int (s_ts R M)), QM u w)
  | 0, k, hk => by
    obtain rfl : k = M := by omega
    obtain ⟨hM, h3, -⟩ := sC_M hC
    have z := zP hC.1
    unfold zPp at z
    have e2 : nI k ≤ nI k := nI_le (Nat.le_refl _) (by omega)
    refine (bq_21_4 d p _ _ (QM u w)).trans ?_
    simp only [QM_kd, QM_sz, QM_lk, QM_i, QM_wi, zI, qs_bI, qs_bV, qb_0, z, h3, e2, Bool.true_eq_false, Nat.reduceSub, Nat.reduceLeDiff, Nat.reduceLT, true_and, and_true, and_self, if_true, if_false]
  | r + 1, k, hk => by
    obtain ⟨hM, h3, -⟩ := sC_M hC
    have g1 := c_21L (d := d) (w := w) hC r (k + 1) (by omega)
    have z := zP hC.1
    unfold zPp at z
    obtain ⟨z1, z2, zj⟩ := zPj (j := k) hC.1 (by omega)
    unfold zJ at zj
    have e2 : ¬ nI M ≤ nI k := nI_ge (by omega) (by omega)
    have e7 : (nI k).toNatClampNeg = k := nI_clamp (by omega)
    have e8 : 0 ≤ nI k := nI_pos' (by omega)
    have e9 : k < 8 := by omega
    rw [nI_succ] at g1
    have j1 := sJ_e (c := 1) hC (show k < M by omega) (by omega)
    refine (bq_21_4 d p _ _ (QM u w)).trans ?_
    simp only [QM_kd, QM_sz, QM_lk, QM_i, QM_wi, zI, qs_bI, qs_bV, qb_0, z, z1, z2, zj, h3, e2, e7, e8, e9, j1, Nat.add_sub_cancel, Nat.le_add_left, Bool.true_eq_false, Nat.reduceSub, Nat.reduceLeDiff, Nat.reduceLT, true_and, and_true, and_self, if_true, if_false]
    exact g1
theorem c_21 {d p M : Nat} {u : Nat → Nat → Int32} {w : Nat → Nat → Int64} {R : Nat → Int32} (hC : sC u p R M) : qs_call (d + 1) 21 [.ref p] (QM u w) = some (some (.int (s_ts R M)), QM u w) :=
  (bq_21_0 d p (QM u w)).trans (c_21L hC M 0 (by omega))
theorem i_or0 (x : Int32) : x ||| 0 = x := Int32.or_zero
theorem c_22L {d p M : Nat} {u : Nat → Nat → Int32} {w : Nat → Nat → Int64} {R : Nat → Int32} (hC : sC u p R M) : ∀ (r k : Nat), k + r = M → qs_EV d 22 4 [some (.ref p), some (.int (s_ck R k)), some (.int (nI k))] [] (QM u w) = some (some (.int (s_ck R M)), QM u w)
  | 0, k, hk => by
    obtain rfl : k = M := by omega
    obtain ⟨hM, h3, -⟩ := sC_M hC
    have z := zP hC.1
    unfold zPp at z
    have e2 : nI k ≤ nI k := nI_le (Nat.le_refl _) (by omega)
    refine (bq_22_4 d p _ _ (QM u w)).trans ?_
    simp only [QM_kd, QM_sz, QM_lk, QM_i, QM_wi, zI, qs_bI, qs_bV, qb_0, z, h3, e2, Bool.true_eq_false, Nat.reduceSub, Nat.reduceLeDiff, Nat.reduceLT, true_and, and_true, and_self, if_true, if_false]
  | r + 1, k, hk => by
    obtain ⟨hM, h3, -⟩ := sC_M hC
    have g1 := c_22L (d := d) (w := w) hC r (k + 1) (by omega)
    have z := zP hC.1
    unfold zPp at z
    obtain ⟨z1, z2, zj⟩ := zPj (j := k) hC.1 (by omega)
    unfold zJ at zj
    have e2 : ¬ nI M ≤ nI k := nI_ge (by omega) (by omega)
    have e7 : (nI k).toNatClampNeg = k := nI_clamp (by omega)
    have e8 : 0 ≤ nI k := nI_pos' (by omega)
    have e9 : k < 8 := by omega
    rw [nI_succ, s_ck] at g1
    have j0 := sJ_e (c := 0) hC (show k < M by omega) (by omega)
    refine (bq_22_4 d p _ _ (QM u w)).trans ?_
    by_cases h5 : s_jo R k 0 = 5
    · rw [if_pos h5] at g1
      simp only [QM_kd, QM_sz, QM_lk, QM_i, QM_wi, zI, qs_bI, qs_bV, qb_0, z, z1, z2, zj, h3, e2, e7, e8, e9, j0, h5, Nat.add_sub_cancel, Nat.le_add_left, Bool.true_eq_false, Nat.reduceSub, Nat.reduceLeDiff, Nat.reduceLT, true_and, and_true, and_self, if_true, if_false]
      exact g1
    · rw [if_neg h5, i_or0] at g1
      simp only [QM_kd, QM_sz, QM_lk, QM_i, QM_wi, zI, qs_bI, qs_bV, qb_0, z, z1, z2, zj, h3, e2, e7, e8, e9, j0, h5, Nat.add_sub_cancel, Nat.le_add_left, Bool.true_eq_false, Nat.reduceSub, Nat.reduceLeDiff, Nat.reduceLT, true_and, and_true, and_self, if_true, if_false]
      exact g1
theorem c_22 {d p M : Nat} {u : Nat → Nat → Int32} {w : Nat → Nat → Int64} {R : Nat → Int32} (hC : sC u p R M) : qs_call (d + 1) 22 [.ref p] (QM u w) = some (some (.int (s_ck R M)), QM u w) :=
  (bq_22_0 d p (QM u w)).trans (c_22L hC M 0 (by omega))
theorem c_15 {d p M : Nat} {u : Nat → Nat → Int32} {w : Nat → Nat → Int64} {R : Nat → Int32} {x : Int32} (hC : sC u p R M) : qs_call (d + 1) 15 [.ref p, .int x] (QM u w) = some (some (.int (qb (s_in x 0 (nI M - 1)))), QM u w) := by
  obtain ⟨hM, h3, -⟩ := sC_M hC
  have z := zP hC.1
  unfold zPp at z
  refine (bq_15_0 d p x (QM u w)).trans ?_
  by_cases h : s_in x 0 (nI M - 1) = true
  · obtain ⟨j, hj, rfl⟩ := (s_isj_in hM).mp h
    have e1 : ¬ nI j < 0 := nI_pos (by omega)
    have e2 : ¬ nI M ≤ nI j := nI_ge hj (by omega)
    rw [h]
    simp only [QM_kd, QM_sz, QM_lk, QM_i, QM_wi, zI, qs_bI, qs_bV, qb_0, z, h3, e1, e2, Bool.true_eq_false, Nat.reduceSub, Nat.reduceLeDiff, Nat.reduceLT, true_and, and_true, and_self, if_true, if_false]
    simp [qb]
  · have h' : s_in x 0 (nI M - 1) = false := by simpa using h
    rw [h']
    by_cases h0 : x < 0
    · simp only [QM_kd, QM_sz, QM_lk, QM_i, QM_wi, zI, qs_bI, qs_bV, qb_0, h0, Bool.true_eq_false, Nat.reduceSub, Nat.reduceLeDiff, Nat.reduceLT, true_and, and_true, and_self, if_true, if_false]
      simp [qb]
    · obtain ⟨k, hk, rfl⟩ := nI_of h0
      have h1 : nI M ≤ nI k := by
        apply Decidable.byContradiction
        intro q
        apply h
        apply (s_isj_in hM).mpr
        exact ⟨k, Nat.lt_of_not_le (fun q2 => q ((nI_leI (a := M) (b := k) (by omega) hk).mpr q2)), rfl⟩
      simp only [QM_kd, QM_sz, QM_lk, QM_i, QM_wi, zI, qs_bI, qs_bV, qb_0, z, h3, h0, h1, Bool.true_eq_false, Nat.reduceSub, Nat.reduceLeDiff, Nat.reduceLT, true_and, and_true, and_self, if_true, if_false]
      simp [qb]
theorem s_in_j {j M : Nat} (hM : M ≤ 8) (h : j < M) : s_in (nI j) 0 (nI M - 1) = true := (s_isj_in hM).mpr ⟨j, h, rfl⟩
theorem s_in_nj {j M : Nat} (hM : M ≤ 8) (hj : j < 2 ^ 31) (h : ¬ j < M) : s_in (nI j) 0 (nI M - 1) = false := by
  have : ¬ s_in (nI j) 0 (nI M - 1) = true := fun q => by
    obtain ⟨k, h1, h2⟩ := (s_isj_in hM).mp q
    exact h (by rw [(nI_eq hj (by omega)).mp h2]; exact h1)
  simpa using this
theorem c_24 {d p j M : Nat} {u : Nat → Nat → Int32} {w : Nat → Nat → Int64} {R : Nat → Int32} (hC : sC u p R M) (hj : j < M) : qs_call (d + 2) 24 [.ref p, .int (nI j)] (QM u w) = some (some (.int (nI (s_rn R M j))), QM u w) := by
  obtain ⟨hM, h3, -⟩ := sC_M hC
  have z := zP hC.1
  unfold zPp at z
  obtain ⟨z1, z2, zj⟩ := zPj (j := j) hC.1 (by omega)
  unfold zJ at zj
  have j6 := sJ_e (c := 6) hC hj (by omega)
  have e0 : (nI j + 1) = nI (j + 1) := (nI_succ j).symm
  have e7 : (nI j).toNatClampNeg = j := nI_clamp (by omega)
  have e8 : 0 ≤ nI j := nI_pos' (by omega)
  have e9 : j < 8 := by omega
  have f7 : (nI (j + 1)).toNatClampNeg = j + 1 := nI_clamp (by omega)
  have f8 : 0 ≤ nI (j + 1) := nI_pos' (by omega)
  refine (bq_24_0 (d + 1) p _ (QM u w)).trans ?_
  have right : ∀ (i : Nat), i < M → u (p + 3 + i) 6 = s_jo R i 6 := fun i hi => sJ_e hC hi (by omega)
  have bR := c_15 (d := d) (w := w) (x := nI (j + 1)) hC
  have bL := c_15 (d := d) (w := w) (x := nI j - 1) hC
  unfold s_rn
  rcases Nat.eq_zero_or_pos j with h0 | h0
  · have e2 : s_left R j = j := by unfold s_left; rw [if_neg (by omega)]
    have sL : s_in (nI j - 1) 0 (nI M - 1) = false := by
      rw [h0]
      unfold s_in
      rw [decide_eq_false_iff_not]
      intro q
      exact absurd q.1 (by decide)
    rw [e2]
    by_cases hb : j + 1 < M
    · obtain ⟨y1, y2, yj⟩ := zPj (j := j + 1) hC.1 (by omega)
      unfold zJ at yj
      have k6 := right (j + 1) hb
      have f9 : j + 1 < 8 := by omega
      have sR := s_in_j hM hb
      by_cases hc : s_jo R j 6 ≤ s_jo R (j + 1) 6
      · simp only [QM_kd, QM_sz, QM_lk, QM_i, QM_wi, zI, qs_bI, qs_bV, qb_0, z, z1, z2, zj, y1, y2, yj, j6, k6, e0, e7, e8, e9, f7, f8, f9, bL, bR, sL, sR, hb, hc, Int32.not_lt.mpr hc, Nat.add_sub_cancel, Nat.le_add_left, Bool.true_eq_false, Nat.reduceSub, Nat.reduceLeDiff, Nat.reduceLT, true_and, and_true, and_self, if_true, if_false]
      · simp only [QM_kd, QM_sz, QM_lk, QM_i, QM_wi, zI, qs_bI, qs_bV, qb_0, z, z1, z2, zj, y1, y2, yj, j6, k6, e0, e7, e8, e9, f7, f8, f9, bL, bR, sL, sR, hb, hc, Int32.not_le.mp hc, Nat.add_sub_cancel, Nat.le_add_left, Bool.true_eq_false, Nat.reduceSub, Nat.reduceLeDiff, Nat.reduceLT, true_and, and_true, and_self, if_true, if_false]
    · have sR := s_in_nj hM (by omega) hb
      simp only [QM_kd, QM_sz, QM_lk, QM_i, QM_wi, zI, qs_bI, qs_bV, qb_0, z, e0, bL, bR, sL, sR, hb, false_and, Bool.true_eq_false, Nat.reduceSub, Nat.reduceLeDiff, Nat.reduceLT, true_and, and_true, and_self, if_true, if_false]
  · have e3 : nI j - 1 = nI (j - 1) := nI_sub1 h0
    rw [e3] at bL ⊢
    have sL := s_in_j (j := j - 1) hM (by omega)
    obtain ⟨x1, x2, xj⟩ := zPj (j := j - 1) hC.1 (by omega)
    unfold zJ at xj
    have i6 := right (j - 1) (by omega)
    have g7 : (nI (j - 1)).toNatClampNeg = j - 1 := nI_clamp (by omega)
    have g8 : 0 ≤ nI (j - 1) := nI_pos' (by omega)
    have g9 : j - 1 < 8 := by omega
    by_cases ha : s_jo R j 6 ≤ s_jo R (j - 1) 6
    · have e2 : s_left R j = j := by
        unfold s_left
        rw [if_neg (fun q => Int32.not_lt.mpr ha q.2)]
      rw [e2]
      by_cases hb : j + 1 < M
      · obtain ⟨y1, y2, yj⟩ := zPj (j := j + 1) hC.1 (by omega)
        unfold zJ at yj
        have k6 := right (j + 1) hb
        have f9 : j + 1 < 8 := by omega
        have sR := s_in_j hM hb
        by_cases hc : s_jo R j 6 ≤ s_jo R (j + 1) 6
        · simp only [QM_kd, QM_sz, QM_lk, QM_i, QM_wi, zI, qs_bI, qs_bV, qb_0, z, z1, z2, zj, x1, x2, xj, y1, y2, yj, i6, j6, k6, e0, e3, e7, e8, e9, f7, f8, f9, g7, g8, g9, bL, bR, sL, sR, ha, hb, hc, Int32.not_lt.mpr hc, Nat.add_sub_cancel, Nat.le_add_left, Bool.true_eq_false, Nat.reduceSub, Nat.reduceLeDiff, Nat.reduceLT, true_and, and_true, and_self, if_true, if_false]
        · simp only [QM_kd, QM_sz, QM_lk, QM_i, QM_wi, zI, qs_bI, qs_bV, qb_0, z, z1, z2, zj, x1, x2, xj, y1, y2, yj, i6, j6, k6, e0, e3, e7, e8, e9, f7, f8, f9, g7, g8, g9, bL, bR, sL, sR, ha, hb, hc, Int32.not_le.mp hc, Nat.add_sub_cancel, Nat.le_add_left, Bool.true_eq_false, Nat.reduceSub, Nat.reduceLeDiff, Nat.reduceLT, true_and, and_true, and_self, if_true, if_false]
      · have sR := s_in_nj hM (by omega) hb
        simp only [QM_kd, QM_sz, QM_lk, QM_i, QM_wi, zI, qs_bI, qs_bV, qb_0, z, z1, z2, zj, x1, x2, xj, i6, j6, e0, e3, e7, e8, e9, g7, g8, g9, bL, bR, sL, sR, ha, hb, false_and, Nat.add_sub_cancel, Nat.le_add_left, Bool.true_eq_false, Nat.reduceSub, Nat.reduceLeDiff, Nat.reduceLT, true_and, and_true, and_self, if_true, if_false]
    · have e2 : s_left R j = j - 1 := by
        unfold s_left
        rw [if_pos ⟨h0, Int32.not_le.mp ha⟩]
      rw [e2]
      by_cases hb : j + 1 < M
      · obtain ⟨y1, y2, yj⟩ := zPj (j := j + 1) hC.1 (by omega)
        unfold zJ at yj
        have k6 := right (j + 1) hb
        have f9 : j + 1 < 8 := by omega
        have sR := s_in_j hM hb
        by_cases hc : s_jo R (j - 1) 6 ≤ s_jo R (j + 1) 6
        · simp only [QM_kd, QM_sz, QM_lk, QM_i, QM_wi, zI, qs_bI, qs_bV, qb_0, z, z1, z2, zj, x1, x2, xj, y1, y2, yj, i6, j6, k6, e0, e3, e7, e8, e9, f7, f8, f9, g7, g8, g9, bL, bR, sL, sR, ha, hb, hc, Int32.not_lt.mpr hc, Nat.add_sub_cancel, Nat.le_add_left, Bool.true_eq_false, Nat.reduceSub, Nat.reduceLeDiff, Nat.reduceLT, true_and, and_true, and_self, if_true, if_false]
        · simp only [QM_kd, QM_sz, QM_lk, QM_i, QM_wi, zI, qs_bI, qs_bV, qb_0, z, z1, z2, zj, x1, x2, xj, y1, y2, yj, i6, j6, k6, e0, e3, e7, e8, e9, f7, f8, f9, g7, g8, g9, bL, bR, sL, sR, ha, hb, hc, Int32.not_le.mp hc, Nat.add_sub_cancel, Nat.le_add_left, Bool.true_eq_false, Nat.reduceSub, Nat.reduceLeDiff, Nat.reduceLT, true_and, and_true, and_self, if_true, if_false]
      · have sR := s_in_nj hM (by omega) hb
        simp only [QM_kd, QM_sz, QM_lk, QM_i, QM_wi, zI, qs_bI, qs_bV, qb_0, z, z1, z2, zj, x1, x2, xj, i6, j6, e0, e3, e7, e8, e9, g7, g8, g9, bL, bR, sL, sR, ha, hb, false_and, Nat.add_sub_cancel, Nat.le_add_left, Bool.true_eq_false, Nat.reduceSub, Nat.reduceLeDiff, Nat.reduceLT, true_and, and_true, and_self, if_true, if_false]
theorem c_23L {d p M : Nat} {u : Nat → Nat → Int32} {w : Nat → Nat → Int64} {R : Nat → Int32} (hC : sC u p R M) : ∀ (r k a : Nat) (y : Int32), k + r = M → a < M → qs_EV (d + 2) 23 4 [some (.ref p), some (.int y), some (.int (nI a)), some (.int (nI k))] [] (QM u w) = some (some (.int (nI (s_it R M r a))), QM u w)
  | 0, k, a, y, hk, ha => by
    obtain rfl : k = M := by omega
    obtain ⟨hM, h3, -⟩ := sC_M hC
    have z := zP hC.1
    unfold zPp at z
    have e2 : nI k ≤ nI k := nI_le (Nat.le_refl _) (by omega)
    refine (bq_23_4 (d + 2) p _ _ _ (QM u w)).trans ?_
    simp only [QM_kd, QM_sz, QM_lk, QM_i, QM_wi, zI, qs_bI, qs_bV, qb_0, z, h3, e2, Bool.true_eq_false, Nat.reduceSub, Nat.reduceLeDiff, Nat.reduceLT, true_and, and_true, and_self, if_true, if_false]
    rfl
  | r + 1, k, a, y, hk, ha => by
    obtain ⟨hM, h3, -⟩ := sC_M hC
    have g1 := c_23L (d := d) (w := w) hC r (k + 1) (s_rn R M a) y (by omega) (s_rn_lt R ha)
    have z := zP hC.1
    unfold zPp at z
    have e2 : ¬ nI M ≤ nI k := nI_ge (by omega) (by omega)
    rw [nI_succ] at g1
    refine (bq_23_4 (d + 2) p _ _ _ (QM u w)).trans ?_
    simp only [QM_kd, QM_sz, QM_lk, QM_i, QM_wi, zI, qs_bI, qs_bV, qb_0, z, h3, e2, c_24 (d := d) (w := w) hC ha, Bool.true_eq_false, Nat.reduceSub, Nat.reduceLeDiff, Nat.reduceLT, true_and, and_true, and_self, if_true, if_false]
    exact g1
theorem c_23 {d p j M : Nat} {u : Nat → Nat → Int32} {w : Nat → Nat → Int64} {R : Nat → Int32} (hC : sC u p R M) (hj : j < M) : qs_call (d + 3) 23 [.ref p, .int (nI j)] (QM u w) = some (some (.int (nI (s_it R M M j))), QM u w) :=
  (bq_23_0 (d + 2) p _ (QM u w)).trans (c_23L hC M 0 j _ (by omega) hj)
