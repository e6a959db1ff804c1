/-! ASK, ITEM, REST, TELL, COUNT, TEXTTOLD, WHY, TRIM, call by call -/
theorem k_ask (x k : Int32) : sOK 89 192 [.int x, .int k] := by
  intro d u w h
  by_cases g1 : s_in x 0 4 = false
  · refine ⟨sBAD, u, u, w, ?_, ?_, h⟩
    · refine (bq_89_0 (d + 119) 16 _ _ (QM u w)).trans ?_
      simp only [QM_kd, QM_sz, QM_lk, QM_i, QM_wi, zI, qs_bI, qs_bV, qb_0, c_101, g1, Bool.true_eq_false, Nat.reduceSub, Nat.reduceLeDiff, Nat.reduceLT, true_and, and_true, and_self, if_true, if_false]
      rfl
    · refine (bq_192_0 (d + 119) 116 _ _ (QM u w)).trans ?_
      simp only [QM_kd, QM_sz, QM_lk, QM_i, QM_wi, zM, zI, qs_bI, qs_bV, qb_0, mc_185, g1, Bool.true_eq_false, Nat.reduceSub, Nat.reduceLeDiff, Nat.reduceLT, true_and, and_true, and_self, if_true, if_false]
      rfl
  obtain ⟨i, hi, rfl⟩ := s_nf (n := 4) g1 rfl (by omega)
  by_cases g2 : s_in k 0 5 = false
  · refine ⟨sBAD, u, u, w, ?_, ?_, h⟩
    · refine (bq_89_0 (d + 119) 16 _ _ (QM u w)).trans ?_
      simp only [QM_kd, QM_sz, QM_lk, QM_i, QM_wi, zI, qs_bI, qs_bV, qb_0, c_101, c_99, g1, g2, Bool.true_eq_false, Nat.reduceSub, Nat.reduceLeDiff, Nat.reduceLT, true_and, and_true, and_self, if_true, if_false]
      rfl
    · refine (bq_192_0 (d + 119) 116 _ _ (QM u w)).trans ?_
      simp only [QM_kd, QM_sz, QM_lk, QM_i, QM_wi, zM, zI, qs_bI, qs_bV, qb_0, mc_185, mc_108, g1, g2, Bool.true_eq_false, Nat.reduceSub, Nat.reduceLeDiff, Nat.reduceLT, true_and, and_true, and_self, if_true, if_false]
      rfl
  have ei : (nI i).toNatClampNeg = i ∧ 0 ≤ nI i ∧ i < 5 := ⟨nI_clamp (by omega), nI_pos' (by omega), by omega⟩
  have zl := zL ei.2.2
  have zj := zl.2.2.2.2.2.2.2.1
  have zk := zj
  unfold zJ at zk
  unfold zL1 at zl
  obtain ⟨e1, e2⟩ := h.2.2.2.1 i ei.2.2
  have hU : sU u := by
    obtain ⟨M, hC, -⟩ := h.1
    exact hC.2.2.2.1
  rcases e2 with q | ⟨q1, ⟨n, q2, q3⟩, q4, q5⟩ | ⟨q1, -⟩ | ⟨q1, -⟩
  · refine ⟨sNOTH, u, u, w, ?_, ?_, h⟩
    · refine (bq_89_0 (d + 119) 16 _ _ (QM u w)).trans ?_
      simp only [QM_kd, QM_sz, QM_lk, QM_i, QM_wi, zI, qs_bI, qs_bV, qb_0, c_101, c_99, g1, g2, zQ, zl, ei, e1, q, Nat.add_sub_cancel, Nat.le_add_left, Bool.true_eq_false, Nat.reduceSub, Nat.reduceLeDiff, Nat.reduceLT, true_and, and_true, and_self, if_true, if_false]
      rfl
    · refine (bq_192_0 (d + 119) 116 _ _ (QM u w)).trans ?_
      simp only [QM_kd, QM_sz, QM_lk, QM_i, QM_wi, zM, zI, qs_bI, qs_bV, qb_0, mc_185, mc_108, g1, g2, ei, q, Bool.true_eq_false, Nat.reduceSub, Nat.reduceLeDiff, Nat.reduceLT, true_and, and_true, and_self, if_true, if_false]
      rfl
  · have b104 := c_104 (d := d + 117) (u := u) (w := w) (k := u (97 + 4 * i) 0) (x := k) hU ⟨n, q2, q3⟩
    rw [q4] at b104
    by_cases g3 : s_under (u 134 i) k = false
    · refine ⟨sKIND, u, u, w, ?_, ?_, h⟩
      · refine (bq_89_0 (d + 119) 16 _ _ (QM u w)).trans ?_
        simp only [QM_kd, QM_sz, QM_lk, QM_i, QM_wi, zI, qs_bI, qs_bV, qb_0, c_101, c_99, g1, g2, zQ, zl, zk, ei, e1, q1, q4, b104, g3, iN, Nat.add_sub_cancel, Nat.le_add_left, Bool.true_eq_false, Nat.reduceSub, Nat.reduceLeDiff, Nat.reduceLT, true_and, and_true, and_self, if_true, if_false]
        rfl
      · refine (bq_192_0 (d + 119) 116 _ _ (QM u w)).trans ?_
        simp only [QM_kd, QM_sz, QM_lk, QM_i, QM_wi, zM, zI, qs_bI, qs_bV, qb_0, mc_185, mc_108, g1, g2, ei, q1, mq_126, g3, iN, Bool.true_eq_false, Nat.reduceSub, Nat.reduceLeDiff, Nat.reduceLT, true_and, and_true, and_self, if_true, if_false]
        rfl
    · refine ⟨u 135 i, u, u, w, ?_, ?_, h⟩
      · refine (bq_89_0 (d + 119) 16 _ _ (QM u w)).trans ?_
        simp only [QM_kd, QM_sz, QM_lk, QM_i, QM_wi, zI, qs_bI, qs_bV, qb_0, c_101, c_99, g1, g2, zQ, zl, zk, ei, e1, q1, q4, b104, g3, iN, c_9 (d := d + 118) zj, q5, Nat.add_sub_cancel, Nat.le_add_left, Bool.true_eq_false, Nat.reduceSub, Nat.reduceLeDiff, Nat.reduceLT, true_and, and_true, and_self, if_true, if_false]
      · refine (bq_192_0 (d + 119) 116 _ _ (QM u w)).trans ?_
        simp only [QM_kd, QM_sz, QM_lk, QM_i, QM_wi, zM, zI, qs_bI, qs_bV, qb_0, mc_185, mc_108, g1, g2, ei, q1, mq_126, g3, iN, Bool.true_eq_false, Nat.reduceSub, Nat.reduceLeDiff, Nat.reduceLT, true_and, and_true, and_self, if_true, if_false]
  · refine ⟨sKIND, u, u, w, ?_, ?_, h⟩
    · refine (bq_89_0 (d + 119) 16 _ _ (QM u w)).trans ?_
      simp only [QM_kd, QM_sz, QM_lk, QM_i, QM_wi, zI, qs_bI, qs_bV, qb_0, c_101, c_99, g1, g2, zQ, zl, ei, e1, q1, iN, Nat.add_sub_cancel, Nat.le_add_left, Bool.true_eq_false, Nat.reduceSub, Nat.reduceLeDiff, Nat.reduceLT, true_and, and_true, and_self, if_true, if_false]
      rfl
    · refine (bq_192_0 (d + 119) 116 _ _ (QM u w)).trans ?_
      simp only [QM_kd, QM_sz, QM_lk, QM_i, QM_wi, zM, zI, qs_bI, qs_bV, qb_0, mc_185, mc_108, g1, g2, ei, q1, iN, Bool.true_eq_false, Nat.reduceSub, Nat.reduceLeDiff, Nat.reduceLT, true_and, and_true, and_self, if_true, if_false]
      rfl
  · refine ⟨sKIND, u, u, w, ?_, ?_, h⟩
    · refine (bq_89_0 (d + 119) 16 _ _ (QM u w)).trans ?_
      simp only [QM_kd, QM_sz, QM_lk, QM_i, QM_wi, zI, qs_bI, qs_bV, qb_0, c_101, c_99, g1, g2, zQ, zl, ei, e1, q1, iN, Nat.add_sub_cancel, Nat.le_add_left, Bool.true_eq_false, Nat.reduceSub, Nat.reduceLeDiff, Nat.reduceLT, true_and, and_true, and_self, if_true, if_false]
      rfl
    · refine (bq_192_0 (d + 119) 116 _ _ (QM u w)).trans ?_
      simp only [QM_kd, QM_sz, QM_lk, QM_i, QM_wi, zM, zI, qs_bI, qs_bV, qb_0, mc_185, mc_108, g1, g2, ei, q1, iN, Bool.true_eq_false, Nat.reduceSub, Nat.reduceLeDiff, Nat.reduceLT, true_and, and_true, and_self, if_true, if_false]
      rfl
theorem k_item (x p : Int32) : sOK 90 193 [.int x, .int p] := by
  intro d u w h
  by_cases g1 : s_in x 0 4 = false
  · refine ⟨sBAD, u, u, w, ?_, ?_, h⟩
    · refine (bq_90_0 (d + 119) 16 _ _ (QM u w)).trans ?_
      simp only [QM_kd, QM_sz, QM_lk, QM_i, QM_wi, zI, qs_bI, qs_bV, qb_0, c_101, g1, Bool.true_eq_false, Nat.reduceSub, Nat.reduceLeDiff, Nat.reduceLT, true_and, and_true, and_self, if_true, if_false]
      rfl
    · refine (bq_193_0 (d + 119) 116 _ _ (QM u w)).trans ?_
      simp only [QM_kd, QM_sz, QM_lk, QM_i, QM_wi, zM, zI, qs_bI, qs_bV, qb_0, mc_185, g1, Bool.true_eq_false, Nat.reduceSub, Nat.reduceLeDiff, Nat.reduceLT, true_and, and_true, and_self, if_true, if_false]
      rfl
  obtain ⟨i, hi, rfl⟩ := s_nf (n := 4) g1 rfl (by omega)
  have ei : (nI i).toNatClampNeg = i ∧ 0 ≤ nI i ∧ i < 5 := ⟨nI_clamp (by omega), nI_pos' (by omega), by omega⟩
  have zl := zL ei.2.2
  have zh := zl.2.2.2.2.2.2.2.2
  have z4 := zh
  unfold zSh at z4
  unfold zL1 at zl
  obtain ⟨e1, e2⟩ := h.2.2.2.1 i ei.2.2
  rcases e2 with q | ⟨q1, -⟩ | ⟨q1, q2, ⟨n, q3, q4⟩, q5⟩ | ⟨q1, -⟩
  · refine ⟨sNOTH, u, u, w, ?_, ?_, h⟩
    · refine (bq_90_0 (d + 119) 16 _ _ (QM u w)).trans ?_
      simp only [QM_kd, QM_sz, QM_lk, QM_i, QM_wi, zI, qs_bI, qs_bV, qb_0, c_101, g1, zQ, zl, ei, e1, q, Nat.add_sub_cancel, Nat.le_add_left, Bool.true_eq_false, Nat.reduceSub, Nat.reduceLeDiff, Nat.reduceLT, true_and, and_true, and_self, if_true, if_false]
      rfl
    · refine (bq_193_0 (d + 119) 116 _ _ (QM u w)).trans ?_
      simp only [QM_kd, QM_sz, QM_lk, QM_i, QM_wi, zM, zI, qs_bI, qs_bV, qb_0, mc_185, g1, ei, q, Bool.true_eq_false, Nat.reduceSub, Nat.reduceLeDiff, Nat.reduceLT, true_and, and_true, and_self, if_true, if_false]
      rfl
  · refine ⟨sKIND, u, u, w, ?_, ?_, h⟩
    · refine (bq_90_0 (d + 119) 16 _ _ (QM u w)).trans ?_
      simp only [QM_kd, QM_sz, QM_lk, QM_i, QM_wi, zI, qs_bI, qs_bV, qb_0, c_101, g1, zQ, zl, ei, e1, q1, iN, Nat.add_sub_cancel, Nat.le_add_left, Bool.true_eq_false, Nat.reduceSub, Nat.reduceLeDiff, Nat.reduceLT, true_and, and_true, and_self, if_true, if_false]
      rfl
    · refine (bq_193_0 (d + 119) 116 _ _ (QM u w)).trans ?_
      simp only [QM_kd, QM_sz, QM_lk, QM_i, QM_wi, zM, zI, qs_bI, qs_bV, qb_0, mc_185, g1, ei, q1, iN, Bool.true_eq_false, Nat.reduceSub, Nat.reduceLeDiff, Nat.reduceLT, true_and, and_true, and_self, if_true, if_false]
      rfl
  · have hs : u (98 + 4 * i) 2 = nI n := by rw [q2, q4]
    have b45 := c_45 (d := d + 118) (u := u) (w := w) (x := p) zh (show n ≤ 96 by omega) hs
    have b47 := c_47 (d := d + 117) (u := u) (w := w) (x := p) zh q3 hs
    by_cases g2 : s_in p 0 (nI n - 1) = false
    · refine ⟨-1000000013, u, u, w, ?_, ?_, h⟩
      · refine (bq_90_0 (d + 119) 16 _ _ (QM u w)).trans ?_
        simp only [QM_kd, QM_sz, QM_lk, QM_i, QM_wi, zI, qs_bI, qs_bV, qb_0, c_101, g1, zQ, zl, z4, ei, e1, q1, iN, b45, g2, Nat.add_sub_cancel, Nat.le_add_left, Bool.true_eq_false, Nat.reduceSub, Nat.reduceLeDiff, Nat.reduceLT, true_and, and_true, and_self, if_true, if_false]
      · refine (bq_193_0 (d + 119) 116 _ _ (QM u w)).trans ?_
        simp only [QM_kd, QM_sz, QM_lk, QM_i, QM_wi, zM, zI, qs_bI, qs_bV, qb_0, mc_185, mc_108, g1, ei, q1, iN, q4, g2, Bool.true_eq_false, Nat.reduceSub, Nat.reduceLeDiff, Nat.reduceLT, true_and, and_true, and_self, if_true, if_false]
    obtain ⟨k, hk, rfl⟩ := (s_isN (show n ≤ 96 by omega)).mp (by simpa using g2)
    have ek : (nI k).toNatClampNeg = k ∧ 0 ≤ nI k ∧ k < 24 := ⟨nI_clamp (by omega), nI_pos' (by omega), by omega⟩
    have q6 := q5 k ek.2.2
    have g2' : s_in (nI k) 0 (nI n - 1) = true := by simpa using g2
    rw [ek.1, q6] at b47
    have ix : (24 * nI i + nI k).toNatClampNeg = 24 * i + k ∧ 0 ≤ 24 * nI i + nI k ∧ 24 * i + k < 120 := by
      have e : 24 * nI i + nI k = nI (24 * i + k) := by
        rw [← nI_add, ← nI_times]
        rfl
      rw [e]
      exact ⟨nI_clamp (by omega), nI_pos' (by omega), by omega⟩
    by_cases g3 : u 136 (24 * i + k) = sNO
    · have hb : s_isnum (nI k) n (u 136 (24 * i + k)) = false := by
        unfold s_isnum
        rw [g2', decide_eq_true g3]
        rfl
      refine ⟨sKIND, u, u, w, ?_, ?_, h⟩
      · refine (bq_90_0 (d + 119) 16 _ _ (QM u w)).trans ?_
        simp only [QM_kd, QM_sz, QM_lk, QM_i, QM_wi, zI, qs_bI, qs_bV, qb_0, c_101, g1, zQ, zl, z4, ei, e1, q1, iN, b45, g2, b47, hb, Nat.add_sub_cancel, Nat.le_add_left, Bool.true_eq_false, Nat.reduceSub, Nat.reduceLeDiff, Nat.reduceLT, true_and, and_true, and_self, if_true, if_false]
        rfl
      · refine (bq_193_0 (d + 119) 116 _ _ (QM u w)).trans ?_
        simp only [QM_kd, QM_sz, QM_lk, QM_i, QM_wi, zM, zI, qs_bI, qs_bV, qb_0, mc_185, mc_108, g1, ei, q1, iN, q4, g2, ix, show u 136 (24 * i + k) = -1000000005 from g3, Bool.true_eq_false, Nat.reduceSub, Nat.reduceLeDiff, Nat.reduceLT, true_and, and_true, and_self, if_true, if_false]
        rfl
    · have hb : s_isnum (nI k) n (u 136 (24 * i + k)) = true := by
        unfold s_isnum
        rw [g2', decide_eq_false g3]
        rfl
      refine ⟨u 136 (24 * i + k), u, u, w, ?_, ?_, h⟩
      · refine (bq_90_0 (d + 119) 16 _ _ (QM u w)).trans ?_
        simp only [QM_kd, QM_sz, QM_lk, QM_i, QM_wi, zI, qs_bI, qs_bV, qb_0, c_101, g1, zQ, zl, z4, ei, ek, e1, q1, iN, b45, g2, b47, hb, q6, Nat.add_sub_cancel, Nat.le_add_left, Bool.true_eq_false, Nat.reduceSub, Nat.reduceLeDiff, Nat.reduceLT, true_and, and_true, and_self, if_true, if_false]
      · refine (bq_193_0 (d + 119) 116 _ _ (QM u w)).trans ?_
        simp only [QM_kd, QM_sz, QM_lk, QM_i, QM_wi, zM, zI, qs_bI, qs_bV, qb_0, mc_185, mc_108, g1, ei, q1, iN, q4, g2, ix, show ¬ u 136 (24 * i + k) = -1000000005 from g3, Bool.true_eq_false, Nat.reduceSub, Nat.reduceLeDiff, Nat.reduceLT, true_and, and_true, and_self, if_true, if_false]
  · refine ⟨sKIND, u, u, w, ?_, ?_, h⟩
    · refine (bq_90_0 (d + 119) 16 _ _ (QM u w)).trans ?_
      simp only [QM_kd, QM_sz, QM_lk, QM_i, QM_wi, zI, qs_bI, qs_bV, qb_0, c_101, g1, zQ, zl, ei, e1, q1, iN, Nat.add_sub_cancel, Nat.le_add_left, Bool.true_eq_false, Nat.reduceSub, Nat.reduceLeDiff, Nat.reduceLT, true_and, and_true, and_self, if_true, if_false]
      rfl
    · refine (bq_193_0 (d + 119) 116 _ _ (QM u w)).trans ?_
      simp only [QM_kd, QM_sz, QM_lk, QM_i, QM_wi, zM, zI, qs_bI, qs_bV, qb_0, mc_185, g1, ei, q1, iN, Bool.true_eq_false, Nat.reduceSub, Nat.reduceLeDiff, Nat.reduceLT, true_and, and_true, and_self, if_true, if_false]
      rfl
theorem i_rem_m1 (x : Int32) : x - x / -1 * -1 = 0 := by
  apply Int32.toInt_inj.mp
  have e : (-1 : Int32).toInt = -1 := by decide
  have e0 : (0 : Int32).toInt = 0 := by decide
  rw [Int32.toInt_sub, Int32.toInt_mul, Int32.toInt_div, e, e0, Int.tdiv_neg, Int.tdiv_one, Int.bmod_mul_bmod, Int.sub_bmod_bmod]
  have e2 : x.toInt - -x.toInt * -1 = 0 := by omega
  rw [e2]
  rfl
theorem k_rest (x n : Int32) : sOK 91 194 [.int x, .int n] := by
  intro d u w h
  by_cases g1 : s_in x 0 4 = false
  · refine ⟨sBAD, u, u, w, ?_, ?_, h⟩
    · refine (bq_91_0 (d + 119) 16 _ _ (QM u w)).trans ?_
      simp only [QM_kd, QM_sz, QM_lk, QM_i, QM_wi, zI, qs_bI, qs_bV, qb_0, c_101, g1, Bool.true_eq_false, Nat.reduceSub, Nat.reduceLeDiff, Nat.reduceLT, true_and, and_true, and_self, if_true, if_false]
      rfl
    · refine (bq_194_0 (d + 119) 116 _ _ (QM u w)).trans ?_
      simp only [QM_kd, QM_sz, QM_lk, QM_i, QM_wi, zM, zI, qs_bI, qs_bV, qb_0, mc_185, g1, Bool.true_eq_false, Nat.reduceSub, Nat.reduceLeDiff, Nat.reduceLT, true_and, and_true, and_self, if_true, if_false]
      rfl
  obtain ⟨i, hi, rfl⟩ := s_nf (n := 4) g1 rfl (by omega)
  have ei : (nI i).toNatClampNeg = i ∧ 0 ≤ nI i ∧ i < 5 := ⟨nI_clamp (by omega), nI_pos' (by omega), by omega⟩
  have zl := zL ei.2.2
  unfold zL1 at zl
  obtain ⟨e1, e2⟩ := h.2.2.2.1 i ei.2.2
  have i3 : (¬ (0 : Int32) = 3) ∧ (¬ (1 : Int32) = 3) ∧ (¬ (2 : Int32) = 3) := by decide
  rcases e2 with q | ⟨q1, -⟩ | ⟨q1, -⟩ | ⟨q1, q2⟩
  · refine ⟨sNOTH, u, u, w, ?_, ?_, h⟩
    · refine (bq_91_0 (d + 119) 16 _ _ (QM u w)).trans ?_
      simp only [QM_kd, QM_sz, QM_lk, QM_i, QM_wi, zI, qs_bI, qs_bV, qb_0, c_101, g1, zQ, zl, ei, e1, q, Nat.add_sub_cancel, Nat.le_add_left, Bool.true_eq_false, Nat.reduceSub, Nat.reduceLeDiff, Nat.reduceLT, true_and, and_true, and_self, if_true, if_false]
      rfl
    · refine (bq_194_0 (d + 119) 116 _ _ (QM u w)).trans ?_
      simp only [QM_kd, QM_sz, QM_lk, QM_i, QM_wi, zM, zI, qs_bI, qs_bV, qb_0, mc_185, g1, ei, q, Bool.true_eq_false, Nat.reduceSub, Nat.reduceLeDiff, Nat.reduceLT, true_and, and_true, and_self, if_true, if_false]
      rfl
  · refine ⟨sKIND, u, u, w, ?_, ?_, h⟩
    · refine (bq_91_0 (d + 119) 16 _ _ (QM u w)).trans ?_
      simp only [QM_kd, QM_sz, QM_lk, QM_i, QM_wi, zI, qs_bI, qs_bV, qb_0, c_101, g1, zQ, zl, ei, e1, q1, iN, i3, Nat.add_sub_cancel, Nat.le_add_left, Bool.true_eq_false, Nat.reduceSub, Nat.reduceLeDiff, Nat.reduceLT, true_and, and_true, and_self, if_true, if_false]
      rfl
    · refine (bq_194_0 (d + 119) 116 _ _ (QM u w)).trans ?_
      simp only [QM_kd, QM_sz, QM_lk, QM_i, QM_wi, zM, zI, qs_bI, qs_bV, qb_0, mc_185, g1, ei, q1, iN, i3, Bool.true_eq_false, Nat.reduceSub, Nat.reduceLeDiff, Nat.reduceLT, true_and, and_true, and_self, if_true, if_false]
      rfl
  · refine ⟨sKIND, u, u, w, ?_, ?_, h⟩
    · refine (bq_91_0 (d + 119) 16 _ _ (QM u w)).trans ?_
      simp only [QM_kd, QM_sz, QM_lk, QM_i, QM_wi, zI, qs_bI, qs_bV, qb_0, c_101, g1, zQ, zl, ei, e1, q1, iN, i3, Nat.add_sub_cancel, Nat.le_add_left, Bool.true_eq_false, Nat.reduceSub, Nat.reduceLeDiff, Nat.reduceLT, true_and, and_true, and_self, if_true, if_false]
      rfl
    · refine (bq_194_0 (d + 119) 116 _ _ (QM u w)).trans ?_
      simp only [QM_kd, QM_sz, QM_lk, QM_i, QM_wi, zM, zI, qs_bI, qs_bV, qb_0, mc_185, g1, ei, q1, iN, i3, Bool.true_eq_false, Nat.reduceSub, Nat.reduceLeDiff, Nat.reduceLT, true_and, and_true, and_self, if_true, if_false]
      rfl
  · by_cases g2 : n = 0
    · refine ⟨-1000000002, u, u, w, ?_, ?_, h⟩
      · refine (bq_91_0 (d + 119) 16 _ _ (QM u w)).trans ?_
        simp only [QM_kd, QM_sz, QM_lk, QM_i, QM_wi, zI, qs_bI, qs_bV, qb_0, c_101, g1, zQ, zl, ei, e1, q1, iN, g2, Nat.add_sub_cancel, Nat.le_add_left, Bool.true_eq_false, Nat.reduceSub, Nat.reduceLeDiff, Nat.reduceLT, true_and, and_true, and_self, if_true, if_false]
      · refine (bq_194_0 (d + 119) 116 _ _ (QM u w)).trans ?_
        simp only [QM_kd, QM_sz, QM_lk, QM_i, QM_wi, zM, zI, qs_bI, qs_bV, qb_0, mc_185, g1, ei, q1, iN, g2, Bool.true_eq_false, Nat.reduceSub, Nat.reduceLeDiff, Nat.reduceLT, true_and, and_true, and_self, if_true, if_false]
    · refine ⟨u 134 i - u 134 i / n * n, u, u, w, ?_, ?_, h⟩
      · refine (bq_91_0 (d + 119) 16 _ _ (QM u w)).trans ?_
        simp only [QM_kd, QM_sz, QM_lk, QM_i, QM_wi, zI, qs_bI, qs_bV, qb_0, c_101, g1, zQ, zl, ei, e1, q1, q2, iN, g2, Nat.add_sub_cancel, Nat.le_add_left, Bool.true_eq_false, Nat.reduceSub, Nat.reduceLeDiff, Nat.reduceLT, true_and, and_true, and_self, if_true, if_false]
      · refine (bq_194_0 (d + 119) 116 _ _ (QM u w)).trans ?_
        by_cases g3 : n = -1
        · subst g3
          simp only [QM_kd, QM_sz, QM_lk, QM_i, QM_wi, zM, zI, qs_bI, qs_bV, qb_0, mc_185, g1, ei, q1, iN, g2, i_rem_m1, Bool.true_eq_false, Nat.reduceSub, Nat.reduceLeDiff, Nat.reduceLT, true_and, and_true, and_self, if_true, if_false]
        · simp only [QM_kd, QM_sz, QM_lk, QM_i, QM_wi, zM, zI, qs_bI, qs_bV, qb_0, mc_185, g1, ei, q1, iN, g2, g3, Bool.true_eq_false, Nat.reduceSub, Nat.reduceLeDiff, Nat.reduceLT, true_and, and_true, and_self, if_true, if_false]
theorem k_tell (x : Int32) : sOK 92 195 [.int x] := by
  intro d u w h
  obtain ⟨e1, n, n1, n2, n3⟩ := h.2.2.2.2.1
  have hw : u 16 9 = nI n := by rw [e1, n2]
  by_cases g : n = 60
  · refine ⟨sFULL, u, u, w, ?_, ?_, h⟩
    · refine (bq_92_0 (d + 119) 16 _ (QM u w)).trans ?_
      simp only [QM_kd, QM_sz, QM_lk, QM_i, QM_wi, zI, qs_bI, qs_bV, qb_0, zQ, hw, show ¬ nI n < 60 by rw [g]; decide, Bool.true_eq_false, Nat.reduceSub, Nat.reduceLeDiff, Nat.reduceLT, true_and, and_true, and_self, if_true, if_false]
      rfl
    · refine (bq_195_0 (d + 119) 116 _ (QM u w)).trans ?_
      simp only [QM_kd, QM_sz, QM_lk, QM_i, QM_wi, zM, zI, qs_bI, qs_bV, qb_0, n2, show nI n = 60 by rw [g]; rfl, Bool.true_eq_false, Nat.reduceSub, Nat.reduceLeDiff, Nat.reduceLT, true_and, and_true, and_self, if_true, if_false]
      rfl
  · have g1 : nI n < 60 := nI_lt (b := 60) (by omega) (by omega)
    have g2 : ¬ nI n = 60 := fun q => g ((nI_eq (b := 60) (by omega) (by omega)).mp q)
    have g3 : (nI n).toNatClampNeg = n ∧ 0 ≤ nI n ∧ n < 60 := ⟨nI_clamp (by omega), nI_pos' (by omega), by omega⟩
    have k1 : qu u 87 n x 16 9 = nI n := by rw [qu_ne _ _ _ (by omega), hw]
    have k2 : qu (qu u 87 n x) 16 9 (nI n + 1) 16 9 = nI n + 1 := by simp [qu]
    have k3 : ∀ y, qu (qu u 87 n x) 16 9 y 116 35 = nI n := fun y => by rw [qu_ne _ _ _ (by omega), qu_ne _ _ _ (by omega), n2]
    have k4 : ∀ y, qu (qu (qu u 87 n x) 16 9 y) 138 n x 116 35 = nI n := fun y => by rw [qu_ne _ _ _ (by omega), k3]
    have k5 : ∀ v, qu v 116 35 (nI n + 1) 116 35 = nI n + 1 := fun v => by rw [qu_at, if_pos ⟨rfl, rfl⟩]
    refine ⟨nI n + 1, qu (qu u 87 n x) 16 9 (nI n + 1), qu (qu (qu (qu u 87 n x) 16 9 (nI n + 1)) 138 n x) 116 35 (nI n + 1), w, ?_, ?_, inv_wt h (fun q q1 q2 q3 q4 => by rw [qu_ne _ _ _ q3, qu_ne _ _ _ q4, qu_ne _ _ _ q1, qu_ne _ _ _ q2]) (fun f hf => by rw [qu_ne _ _ _ (by omega), qu_ne _ _ _ (by omega), qu_at, if_neg (by omega), qu_ne _ _ _ (by omega)]) (fun f hf => by rw [qu_at, if_neg (by omega), qu_ne _ _ _ (by omega), qu_ne _ _ _ (by omega), qu_ne _ _ _ (by omega)]) ⟨?_, n + 1, by omega, ?_, fun k hk => ?_⟩⟩
    · refine (bq_92_0 (d + 119) 16 _ (QM u w)).trans ?_
      simp only [QM_kd, QM_sz, QM_lk, QM_i, QM_wi, zI, qs_bI, qs_bV, qb_0, zQ, hw, g1, g3, k1, k2, Bool.true_eq_false, Nat.reduceSub, Nat.reduceLeDiff, Nat.reduceLT, true_and, and_true, and_self, if_true, if_false]
    · refine (bq_195_0 (d + 119) 116 _ (QM _ w)).trans ?_
      simp only [QM_kd, QM_sz, QM_lk, QM_i, QM_wi, zM, zI, qs_bI, qs_bV, qb_0, k3, k4, k5, g2, g3, Bool.true_eq_false, Nat.reduceSub, Nat.reduceLeDiff, Nat.reduceLT, true_and, and_true, and_self, if_true, if_false]
    · rw [k5, qu_ne _ _ _ (by omega), qu_ne _ _ _ (by omega), k2]
    · rw [k5, nI_succ]
    · rw [qu_ne _ (a := 87) _ _ (by omega), qu_ne _ (a := 87) _ _ (by omega), qu_ne _ (a := 87) _ _ (by omega), qu_ne _ (a := 138) _ _ (by omega), qu_at, qu_at]
      by_cases e : k = n
      · rw [if_pos ⟨rfl, e⟩, if_pos ⟨rfl, e⟩]
      · rw [if_neg (by omega), if_neg (by omega), qu_ne _ (a := 138) _ _ (by omega), qu_ne _ (a := 138) _ _ (by omega)]
        exact n3 k (by omega)
theorem k_count (x : Int32) : sOK 96 199 [.int x] := by
  intro d u w h
  obtain ⟨M, hC, hH⟩ := h.1
  obtain ⟨hM, h3, hr1⟩ := sC_M hC
  obtain ⟨f4, f5, f6, f7, f8, f9, f10, f11, f12, f13, f14⟩ := sC_f hC
  have z := z52
  unfold zPp at z
  have e1 := h.2.2.2.2.1.1
  have e2 := h.2.2.2.2.2.1.1
  have cls := bq_96_0 (d + 119) 16 x (QM u w)
  have ref := bq_199_0 (d + 119) 116 x (QM u w)
  by_cases c : x = 0
  · exact ⟨nI M, u, u, w, cls.trans (by simp only [QM_kd, QM_sz, QM_lk, QM_i, QM_wi, zI, qs_bI, qs_bV, qb_0, c, zQ, z, h3, Bool.true_eq_false, Nat.reduceSub, Nat.reduceLeDiff, Nat.reduceLT, true_and, and_true, and_self, if_true, if_false]), ref.trans (by simp only [QM_kd, QM_sz, QM_lk, QM_i, QM_wi, zM, zI, qs_bI, qs_bV, qb_0, c, hr1, Bool.true_eq_false, Nat.reduceSub, Nat.reduceLeDiff, Nat.reduceLT, true_and, and_true, and_self, if_true, if_false]), h⟩
  rw [if_neg c] at cls ref
  clear c
  by_cases c : x = 1
  · exact ⟨u 117 2, u, u, w, cls.trans (by simp only [QM_kd, QM_sz, QM_lk, QM_i, QM_wi, zI, qs_bI, qs_bV, qb_0, c, zQ, z, f12, Bool.true_eq_false, Nat.reduceSub, Nat.reduceLeDiff, Nat.reduceLT, true_and, and_true, and_self, if_true, if_false]), ref.trans (by simp only [QM_kd, QM_sz, QM_lk, QM_i, QM_wi, zM, zI, qs_bI, qs_bV, qb_0, c, Bool.true_eq_false, Nat.reduceSub, Nat.reduceLeDiff, Nat.reduceLT, true_and, and_true, and_self, if_true, if_false]), h⟩
  rw [if_neg c] at cls ref
  clear c
  by_cases c : x = 2
  · exact ⟨u 117 4, u, u, w, cls.trans (by simp only [QM_kd, QM_sz, QM_lk, QM_i, QM_wi, zI, qs_bI, qs_bV, qb_0, c, zQ, z, f5, Bool.true_eq_false, Nat.reduceSub, Nat.reduceLeDiff, Nat.reduceLT, true_and, and_true, and_self, if_true, if_false]), ref.trans (by simp only [QM_kd, QM_sz, QM_lk, QM_i, QM_wi, zM, zI, qs_bI, qs_bV, qb_0, c, Bool.true_eq_false, Nat.reduceSub, Nat.reduceLeDiff, Nat.reduceLT, true_and, and_true, and_self, if_true, if_false]), h⟩
  rw [if_neg c] at cls ref
  clear c
  by_cases c : x = 3
  · exact ⟨u 117 5, u, u, w, cls.trans (by simp only [QM_kd, QM_sz, QM_lk, QM_i, QM_wi, zI, qs_bI, qs_bV, qb_0, c, zQ, z, f6, Bool.true_eq_false, Nat.reduceSub, Nat.reduceLeDiff, Nat.reduceLT, true_and, and_true, and_self, if_true, if_false]), ref.trans (by simp only [QM_kd, QM_sz, QM_lk, QM_i, QM_wi, zM, zI, qs_bI, qs_bV, qb_0, c, Bool.true_eq_false, Nat.reduceSub, Nat.reduceLeDiff, Nat.reduceLT, true_and, and_true, and_self, if_true, if_false]), h⟩
  rw [if_neg c] at cls ref
  clear c
  by_cases c : x = 4
  · exact ⟨u 117 11, u, u, w, cls.trans (by simp only [QM_kd, QM_sz, QM_lk, QM_i, QM_wi, zI, qs_bI, qs_bV, qb_0, c, zQ, z, f14, Bool.true_eq_false, Nat.reduceSub, Nat.reduceLeDiff, Nat.reduceLT, true_and, and_true, and_self, if_true, if_false]), ref.trans (by simp only [QM_kd, QM_sz, QM_lk, QM_i, QM_wi, zM, zI, qs_bI, qs_bV, qb_0, c, Bool.true_eq_false, Nat.reduceSub, Nat.reduceLeDiff, Nat.reduceLT, true_and, and_true, and_self, if_true, if_false]), h⟩
  rw [if_neg c] at cls ref
  clear c
  by_cases c : x = 5
  · exact ⟨u 116 35, u, u, w, cls.trans (by simp only [QM_kd, QM_sz, QM_lk, QM_i, QM_wi, zI, qs_bI, qs_bV, qb_0, c, zQ, z, e1, Bool.true_eq_false, Nat.reduceSub, Nat.reduceLeDiff, Nat.reduceLT, true_and, and_true, and_self, if_true, if_false]), ref.trans (by simp only [QM_kd, QM_sz, QM_lk, QM_i, QM_wi, zM, zI, qs_bI, qs_bV, qb_0, c, Bool.true_eq_false, Nat.reduceSub, Nat.reduceLeDiff, Nat.reduceLT, true_and, and_true, and_self, if_true, if_false]), h⟩
  rw [if_neg c] at cls ref
  clear c
  by_cases c : x = 6
  · exact ⟨u 116 9, u, u, w, cls.trans (by simp only [QM_kd, QM_sz, QM_lk, QM_i, QM_wi, zI, qs_bI, qs_bV, qb_0, c, zQ, z, e2, Bool.true_eq_false, Nat.reduceSub, Nat.reduceLeDiff, Nat.reduceLT, true_and, and_true, and_self, if_true, if_false]), ref.trans (by simp only [QM_kd, QM_sz, QM_lk, QM_i, QM_wi, zM, zI, qs_bI, qs_bV, qb_0, c, Bool.true_eq_false, Nat.reduceSub, Nat.reduceLeDiff, Nat.reduceLT, true_and, and_true, and_self, if_true, if_false]), h⟩
  rw [if_neg c] at cls ref
  clear c
  by_cases c : x = 7
  · exact ⟨u 117 0, u, u, w, cls.trans (by simp only [QM_kd, QM_sz, QM_lk, QM_i, QM_wi, zI, qs_bI, qs_bV, qb_0, c, zQ, z, f13, Bool.true_eq_false, Nat.reduceSub, Nat.reduceLeDiff, Nat.reduceLT, true_and, and_true, and_self, if_true, if_false]), ref.trans (by simp only [QM_kd, QM_sz, QM_lk, QM_i, QM_wi, zM, zI, qs_bI, qs_bV, qb_0, c, Bool.true_eq_false, Nat.reduceSub, Nat.reduceLeDiff, Nat.reduceLT, true_and, and_true, and_self, if_true, if_false]), h⟩
  rw [if_neg c] at cls ref
  exact ⟨_, u, u, w, cls, ref, h⟩
theorem k_why (x : Int32) : sOK 82 181 [.int x] := by
  intro d u w h
  obtain ⟨M, hC, hH⟩ := h.1
  have z := z52
  unfold zPp at z
  by_cases g1 : s_in x 0 2 = false
  · refine ⟨sBAD, u, u, w, ?_, ?_, h⟩
    · refine (bq_82_0 (d + 119) 16 _ (QM u w)).trans ?_
      by_cases g3 : x < 0
      · rw [if_pos g3]
        rfl
      · have g4 : ¬ x < 3 := by
          have := (s_range.mp g1).resolve_left g3
          intro q
          have h5 := Int32.lt_iff_toInt_lt.mp this
          have h6 := Int32.lt_iff_toInt_lt.mp q
          have i2 : (2 : Int32).toInt = 2 := by decide
          have i3 : (3 : Int32).toInt = 3 := by decide
          omega
        rw [if_neg g3, if_neg g4]
        rfl
    · refine (bq_181_0 (d + 119) 116 _ (QM u w)).trans ?_
      simp only [QM_kd, QM_sz, QM_lk, QM_i, QM_wi, zM, zI, qs_bI, qs_bV, qb_0, mc_108, g1, Bool.true_eq_false, Nat.reduceSub, Nat.reduceLeDiff, Nat.reduceLT, true_and, and_true, and_self, if_true, if_false]
      rfl
  obtain ⟨k, hk, rfl⟩ := s_nf (n := 2) g1 rfl (by omega)
  have ek : (nI k).toNatClampNeg = k ∧ 0 ≤ nI k ∧ k < 3 := ⟨nI_clamp (by omega), nI_pos' (by omega), by omega⟩
  have q1 : ¬ nI k < 0 := nI_pos (by omega)
  have q2 : nI k < 3 := nI_lt (b := 3) (by omega) (by omega)
  have t : u (52 + 2) k = s_t (u 117) (nI k) := hC.2.1.2.2.2.2.2.2.2.2.2.2.2.2.2 k ek.2.2
  have b180 := mc_180 (d := d + 118) (key := nI k) (u := u) (w := w) hC.2.2.1.2.2.2.2.1
  by_cases g : 0 ≤ s_t (u 117) (nI k)
  · refine ⟨s_t (u 117) (nI k), u, u, w, ?_, ?_, h⟩
    · refine (bq_82_0 (d + 119) 16 _ (QM u w)).trans ?_
      simp only [QM_kd, QM_sz, QM_lk, QM_i, QM_wi, zI, qs_bI, qs_bV, qb_0, zQ, z, q1, q2, ek, t, g, Nat.add_sub_cancel, Nat.le_add_left, Bool.true_eq_false, Nat.reduceSub, Nat.reduceLeDiff, Nat.reduceLT, true_and, and_true, and_self, if_true, if_false]
    · refine (bq_181_0 (d + 119) 116 _ (QM u w)).trans ?_
      simp only [QM_kd, QM_sz, QM_lk, QM_i, QM_wi, zM, zI, qs_bI, qs_bV, qb_0, mc_108, g1, b180, g, Bool.true_eq_false, Nat.reduceSub, Nat.reduceLeDiff, Nat.reduceLT, true_and, and_true, and_self, if_true, if_false]
  · refine ⟨sNO, u, u, w, ?_, ?_, h⟩
    · refine (bq_82_0 (d + 119) 16 _ (QM u w)).trans ?_
      simp only [QM_kd, QM_sz, QM_lk, QM_i, QM_wi, zI, qs_bI, qs_bV, qb_0, zQ, z, q1, q2, ek, t, g, Nat.add_sub_cancel, Nat.le_add_left, Bool.true_eq_false, Nat.reduceSub, Nat.reduceLeDiff, Nat.reduceLT, true_and, and_true, and_self, if_true, if_false]
      rfl
    · refine (bq_181_0 (d + 119) 116 _ (QM u w)).trans ?_
      simp only [QM_kd, QM_sz, QM_lk, QM_i, QM_wi, zM, zI, qs_bI, qs_bV, qb_0, mc_108, g1, b180, g, Bool.true_eq_false, Nat.reduceSub, Nat.reduceLeDiff, Nat.reduceLT, true_and, and_true, and_self, if_true, if_false]
      rfl
theorem k_textTold (x c : Int32) : sOK 81 179 [.int x, .int c] := by
  intro d u w h
  obtain ⟨M, hC, hH⟩ := h.1
  have z := z52
  unfold zPp at z
  obtain ⟨f4, f5, f6, f7, f8, f9, f10, f11, f12, f13, f14⟩ := sC_f hC
  obtain ⟨T, t1, t2, -⟩ := hC.2.2.1.2.2.2.2.1
  rw [t1] at f14
  by_cases g1 : s_in x 0 (nI T - 1) = false
  · refine ⟨sBAD, u, u, w, ?_, ?_, h⟩
    · refine (bq_81_0 (d + 119) 16 _ _ (QM u w)).trans ?_
      by_cases g3 : x < 0
      · rw [if_pos g3]
        rfl
      · obtain ⟨k, hk, rfl⟩ := nI_of g3
        have g4 : nI T ≤ nI k := by
          apply Decidable.byContradiction
          intro q
          have hq : k < T := Nat.lt_of_not_le (fun q2 => q (nI_le q2 hk))
          rw [s_isN_j (by omega) hq] at g1
          exact absurd g1 (by decide)
        simp only [QM_kd, QM_sz, QM_lk, QM_i, QM_wi, zI, qs_bI, qs_bV, qb_0, zQ, z, g3, f14, g4, Bool.true_eq_false, Nat.reduceSub, Nat.reduceLeDiff, Nat.reduceLT, true_and, and_true, and_self, if_true, if_false]
        rfl
    · refine (bq_179_0 (d + 119) 116 _ _ (QM u w)).trans ?_
      simp only [QM_kd, QM_sz, QM_lk, QM_i, QM_wi, zM, zI, qs_bI, qs_bV, qb_0, t1, mc_108, g1, Bool.true_eq_false, Nat.reduceSub, Nat.reduceLeDiff, Nat.reduceLT, true_and, and_true, and_self, if_true, if_false]
      rfl
  obtain ⟨k, hk, rfl⟩ := (s_isN (show T ≤ 96 by omega)).mp (by simpa using g1)
  have q1 : ¬ nI k < 0 := nI_pos (by omega)
  have q2 : ¬ nI T ≤ nI k := nI_ge (by omega) (by omega)
  by_cases g2 : s_in c 0 1 = false
  · refine ⟨sBAD, u, u, w, ?_, ?_, h⟩
    · refine (bq_81_0 (d + 119) 16 _ _ (QM u w)).trans ?_
      simp only [QM_kd, QM_sz, QM_lk, QM_i, QM_wi, zI, qs_bI, qs_bV, qb_0, zQ, z, q1, f14, q2, c_97, g2, Bool.true_eq_false, Nat.reduceSub, Nat.reduceLeDiff, Nat.reduceLT, true_and, and_true, and_self, if_true, if_false]
      rfl
    · refine (bq_179_0 (d + 119) 116 _ _ (QM u w)).trans ?_
      simp only [QM_kd, QM_sz, QM_lk, QM_i, QM_wi, zM, zI, qs_bI, qs_bV, qb_0, t1, mc_108, g1, g2, Bool.true_eq_false, Nat.reduceSub, Nat.reduceLeDiff, Nat.reduceLT, true_and, and_true, and_self, if_true, if_false]
      rfl
  have zt := zT (show k < 14 by omega)
  unfold zTt at zt
  have ek : (nI k).toNatClampNeg = k ∧ 0 ≤ nI k ∧ k < 14 ∧ 18 ≤ 20 + 2 * k + 2 := ⟨nI_clamp (by omega), nI_pos' (by omega), by omega, by omega⟩
  have hT := hC.2.2.2.2 k (by rw [t1, nI_clamp (by omega)]; exact hk)
  have ix := ix_hd (t := k) (by omega)
  have ix2 : 76 + 2 * k < 1448 := by omega
  have ixb : 76 + 2 * nI k + 1 = nI (77 + 2 * k) := by
    rw [show (76 : Int32) + 2 * nI k = nI (76 + 2 * k) from (by rw [← nI_add, ← nI_times]; rfl), nI_1]
    congr 1
    omega
  have ix3 : (nI (77 + 2 * k)).toNatClampNeg = 77 + 2 * k ∧ 0 ≤ nI (77 + 2 * k) ∧ 77 + 2 * k < 1448 := ⟨nI_clamp (by omega), nI_pos' (by omega), by omega⟩
  by_cases c0 : c = 0
  · refine ⟨u 117 (76 + 2 * k) / 1000, u, u, w, ?_, ?_, h⟩
    · refine (bq_81_0 (d + 119) 16 _ _ (QM u w)).trans ?_
      simp only [QM_kd, QM_sz, QM_lk, QM_i, QM_wi, zI, qs_bI, qs_bV, qb_0, zQ, z, zt, q1, f14, q2, c_97, g2, ek, c0, hT.2.1, show s_in 0 0 1 = true by decide, Nat.add_sub_cancel, Nat.le_add_left, Bool.true_eq_false, Nat.reduceSub, Nat.reduceLeDiff, Nat.reduceLT, true_and, and_true, and_self, if_true, if_false]
    · refine (bq_179_0 (d + 119) 116 _ _ (QM u w)).trans ?_
      simp only [QM_kd, QM_sz, QM_lk, QM_i, QM_wi, zM, zI, qs_bI, qs_bV, qb_0, t1, mc_108, g1, g2, c0, ix, ix2, show s_in 0 0 1 = true by decide, Bool.true_eq_false, Nat.reduceSub, Nat.reduceLeDiff, Nat.reduceLT, true_and, and_true, and_self, if_true, if_false]
  · refine ⟨u 117 (77 + 2 * k), u, u, w, ?_, ?_, h⟩
    · refine (bq_81_0 (d + 119) 16 _ _ (QM u w)).trans ?_
      simp only [QM_kd, QM_sz, QM_lk, QM_i, QM_wi, zI, qs_bI, qs_bV, qb_0, zQ, z, zt, q1, f14, q2, c_97, g2, ek, c0, hT.2.2, Nat.add_sub_cancel, Nat.le_add_left, Bool.true_eq_false, Nat.reduceSub, Nat.reduceLeDiff, Nat.reduceLT, true_and, and_true, and_self, if_true, if_false]
    · refine (bq_179_0 (d + 119) 116 _ _ (QM u w)).trans ?_
      simp only [QM_kd, QM_sz, QM_lk, QM_i, QM_wi, zM, zI, qs_bI, qs_bV, qb_0, t1, mc_108, g1, g2, c0, ixb, ix3, Bool.true_eq_false, Nat.reduceSub, Nat.reduceLeDiff, Nat.reduceLT, true_and, and_true, and_self, if_true, if_false]
theorem k_trim (x : Int32) : sOK 79 166 [.int x] := by
  intro d u w h
  obtain ⟨e1, n, n1, n2, n3⟩ := h.2.2.2.2.2.1
  have hw : u 48 2 = nI n := by rw [e1, n2]
  by_cases g1 : s_in x 0 (nI n) = false
  · refine ⟨sBAD, u, u, w, ?_, ?_, h⟩
    · refine (bq_79_0 (d + 119) 16 _ (QM u w)).trans ?_
      simp only [QM_kd, QM_sz, QM_lk, QM_i, QM_wi, zI, qs_bI, qs_bV, qb_0, zQ, hw, c_97, g1, Bool.true_eq_false, Nat.reduceSub, Nat.reduceLeDiff, Nat.reduceLT, true_and, and_true, and_self, if_true, if_false]
      rfl
    · refine (bq_166_0 (d + 119) 116 _ (QM u w)).trans ?_
      simp only [QM_kd, QM_sz, QM_lk, QM_i, QM_wi, zM, zI, qs_bI, qs_bV, qb_0, n2, mc_108, g1, Bool.true_eq_false, Nat.reduceSub, Nat.reduceLeDiff, Nat.reduceLT, true_and, and_true, and_self, if_true, if_false]
      rfl
  · obtain ⟨k, hk, rfl⟩ := s_nf g1 rfl (by omega)
    refine ⟨nI k, qu u 48 2 (nI k), qu (qu u 48 2 (nI k)) 116 9 (nI k), w, ?_, ?_, inv_tp h (fun q q1 q2 q3 q4 => by rw [qu_ne _ _ _ q3, qu_ne _ _ _ q1]) (fun f hf => by rw [qu_at, if_neg (by omega), qu_ne _ _ _ (by omega)]) ⟨?_, k, by omega, ?_, fun i hi => ?_⟩⟩
    · refine (bq_79_0 (d + 119) 16 _ (QM u w)).trans ?_
      simp only [QM_kd, QM_sz, QM_lk, QM_i, QM_wi, zI, qs_bI, qs_bV, qb_0, zQ, hw, c_97, g1, Bool.true_eq_false, Nat.reduceSub, Nat.reduceLeDiff, Nat.reduceLT, true_and, and_true, and_self, if_true, if_false]
    · refine (bq_166_0 (d + 119) 116 _ (QM _ w)).trans ?_
      have k1 : qu u 48 2 (nI k) 116 9 = nI n := by rw [qu_ne _ _ _ (by omega), n2]
      simp only [QM_kd, QM_sz, QM_lk, QM_i, QM_wi, zM, zI, qs_bI, qs_bV, qb_0, k1, mc_108, g1, Bool.true_eq_false, Nat.reduceSub, Nat.reduceLeDiff, Nat.reduceLT, true_and, and_true, and_self, if_true, if_false]
    · simp [qu]
    · simp [qu]
    · rw [qu_ne _ (a := 49) _ _ (by omega), qu_ne _ (a := 49) _ _ (by omega), qu_ne _ (a := 122) _ _ (by omega), qu_ne _ (a := 122) _ _ (by omega)]
      exact n3 i (by omega)
