/-! COPY; SLOTS, call by call -/
theorem iSh_cp {u v : Nat → Nat → Int32} {f p t a m : Nat} (h : iSh u) (hf : f < 4) (ht : t < 4) (hp : p + m ≤ 24) (ha : a + m ≤ 24) (c0 : ∀ q, 88 ≤ q → q < 96 → v q = quc u (88 + 2 * f + 1) (88 + 2 * t + 1) p a m q) (m0 : v 130 = u 130) (m1 : v 131 = u 131) (m2 : ∀ i, i < m → v 132 (24 * t + a + i) = u 132 (24 * f + p + i)) (m3 : ∀ i, ¬ (24 * t + a ≤ i ∧ i < 24 * t + a + m) → v 132 i = u 132 i) : iSh v := by
  intro x hx
  obtain ⟨h1, h2, h3, h4, h5⟩ := h x hx
  have e1 : v (88 + 2 * x) = u (88 + 2 * x) := by
    rw [c0 _ (by omega) (by omega)]
    funext b
    unfold quc
    rw [if_neg (by omega)]
  rw [e1, m0, m1]
  refine ⟨h1, h2, h3, h4, fun k hk => ?_⟩
  rw [c0 _ (by omega) (by omega)]
  unfold quc
  by_cases e : x = t ∧ a ≤ k ∧ k < a + m
  · obtain ⟨g1, g2⟩ := (h f hf).2.2.2.2 (p + (k - a)) (by omega)
    rw [if_pos ⟨by omega, e.2.1, e.2.2⟩, g1]
    have q := m2 (k - a) (by omega)
    rw [show 24 * t + a + (k - a) = 24 * x + k by omega, show 24 * f + p + (k - a) = 24 * f + (p + (k - a)) by omega] at q
    rw [q]
    exact ⟨rfl, g2⟩
  · rw [if_neg (by omega), m3 _ (by omega)]
    exact h5 k hk
theorem k_copy (x p y a m : Int32) : sOK 87 190 [.int x, .int p, .int y, .int a, .int m] := by
  intro d u w h
  by_cases g1 : s_in x 0 3 = false
  · refine ⟨sBAD, u, u, w, ?_, ?_, h⟩
    · refine (bq_87_0 (d + 119) 16 _ _ _ _ _ (QM u w)).trans ?_
      simp only [QM_kd, QM_sz, QM_lk, QM_i, QM_wi, zI, qs_bI, qs_bV, qb_0, c_100, g1, Bool.true_eq_false, Nat.reduceSub, Nat.reduceLeDiff, Nat.reduceLT, true_and, and_true, and_self, if_true, if_false]
      rfl
    · refine (bq_190_0 (d + 119) 116 _ _ _ _ _ (QM u w)).trans ?_
      simp only [QM_kd, QM_sz, QM_lk, QM_i, QM_wi, zM, zI, qs_bI, qs_bV, qb_0, mc_184, g1, Bool.true_eq_false, Nat.reduceSub, Nat.reduceLeDiff, Nat.reduceLT, true_and, and_true, and_self, if_true, if_false]
      rfl
  obtain ⟨s, hs, rfl⟩ := s_nf (n := 3) g1 rfl (by omega)
  by_cases g2 : s_in y 0 3 = false
  · refine ⟨sBAD, u, u, w, ?_, ?_, h⟩
    · refine (bq_87_0 (d + 119) 16 _ _ _ _ _ (QM u w)).trans ?_
      simp only [QM_kd, QM_sz, QM_lk, QM_i, QM_wi, zI, qs_bI, qs_bV, qb_0, c_100, g1, g2, Bool.true_eq_false, Nat.reduceSub, Nat.reduceLeDiff, Nat.reduceLT, true_and, and_true, and_self, if_true, if_false]
      rfl
    · refine (bq_190_0 (d + 119) 116 _ _ _ _ _ (QM u w)).trans ?_
      simp only [QM_kd, QM_sz, QM_lk, QM_i, QM_wi, zM, zI, qs_bI, qs_bV, qb_0, mc_184, g1, g2, Bool.true_eq_false, Nat.reduceSub, Nat.reduceLeDiff, Nat.reduceLT, true_and, and_true, and_self, if_true, if_false]
      rfl
  obtain ⟨t, ht, rfl⟩ := s_nf (n := 3) g2 rfl (by omega)
  have es : (nI s).toNatClampNeg = s ∧ 0 ≤ nI s ∧ s < 4 := ⟨nI_clamp (by omega), nI_pos' (by omega), by omega⟩
  have et : (nI t).toNatClampNeg = t ∧ 0 ≤ nI t ∧ t < 4 := ⟨nI_clamp (by omega), nI_pos' (by omega), by omega⟩
  have zs := zS es.2.2
  have zq := zs.2.2
  have z4 := zq
  unfold zS1 at zs
  unfold zSh at z4
  have ys := zS et.2.2
  have yq := ys.2.2
  have y4 := yq
  unfold zS1 at ys
  unfold zSh at y4
  obtain ⟨e1, e2, e3, ⟨n, n1, n2⟩, e5⟩ := h.2.2.1 s es.2.2
  obtain ⟨f1, f2, f3, ⟨k, k1, k2⟩, f5⟩ := h.2.2.1 t et.2.2
  have b44 := c_44 (d := d + 118) (u := u) (w := w) zq
  have c44 := c_44 (d := d + 118) (u := u) (w := w) yq
  rw [e1] at b44
  rw [f1] at c44
  by_cases g3 : u 130 s = -1
  · rw [decide_eq_true g3] at b44
    refine ⟨sNOTH, u, u, w, ?_, ?_, h⟩
    · refine (bq_87_0 (d + 119) 16 _ _ _ _ _ (QM u w)).trans ?_
      simp only [QM_kd, QM_sz, QM_lk, QM_i, QM_wi, zI, qs_bI, qs_bV, qb_0, c_100, g1, g2, zQ, zs, z4, ys, y4, es, et, b44, Nat.add_sub_cancel, Nat.le_add_left, Bool.true_eq_false, Nat.reduceSub, Nat.reduceLeDiff, Nat.reduceLT, true_and, and_true, and_self, if_true, if_false]
      rfl
    · refine (bq_190_0 (d + 119) 116 _ _ _ _ _ (QM u w)).trans ?_
      simp only [QM_kd, QM_sz, QM_lk, QM_i, QM_wi, zM, zI, qs_bI, qs_bV, qb_0, mc_184, g1, g2, es, et, g3, show (-1 : Int32) < 0 by decide, Bool.true_eq_false, Nat.reduceSub, Nat.reduceLeDiff, Nat.reduceLT, true_and, and_true, and_self, if_true, if_false]
      rfl
  have g3' : ¬ u 130 s < 0 := by rcases e3 with q | q | q
                                 · exact absurd q g3
                                 · rw [q]; decide
                                 · rw [q]; decide
  rw [decide_eq_false g3] at b44
  by_cases g4 : u 130 t = -1
  · rw [decide_eq_true g4] at c44
    refine ⟨sNOTH, u, u, w, ?_, ?_, h⟩
    · refine (bq_87_0 (d + 119) 16 _ _ _ _ _ (QM u w)).trans ?_
      simp only [QM_kd, QM_sz, QM_lk, QM_i, QM_wi, zI, qs_bI, qs_bV, qb_0, c_100, g1, g2, zQ, zs, z4, ys, y4, es, et, b44, c44, Nat.add_sub_cancel, Nat.le_add_left, Bool.true_eq_false, Nat.reduceSub, Nat.reduceLeDiff, Nat.reduceLT, true_and, and_true, and_self, if_true, if_false]
      rfl
    · refine (bq_190_0 (d + 119) 116 _ _ _ _ _ (QM u w)).trans ?_
      simp only [QM_kd, QM_sz, QM_lk, QM_i, QM_wi, zM, zI, qs_bI, qs_bV, qb_0, mc_184, g1, g2, es, et, g3', g4, show ¬ (0 : Int32) ≤ -1 by decide, Bool.true_eq_false, Nat.reduceSub, Nat.reduceLeDiff, Nat.reduceLT, true_and, and_true, and_self, if_true, if_false]
      rfl
  have g4' : 0 ≤ u 130 t := by rcases f3 with q | q | q
                               · exact absurd q g4
                               · rw [q]; decide
                               · rw [q]; decide
  rw [decide_eq_false g4] at c44
  by_cases g5 : u 130 s = u 130 t
  · have b46 := c_46 (d := d + 118) (u := u) (w := w) (p := p) (m := m) zq (by rw [e2, n2])
    have c46 := c_46 (d := d + 118) (u := u) (w := w) (p := a) (m := m) yq (by rw [f2, k2])
    have g3n : 0 ≤ u 130 s := Int32.not_lt.mp g3'
    by_cases hok : s_row p m n = true ∧ s_row a m k = true
    · obtain ⟨p', m', rfl, rfl, hp⟩ := s_row_n n1 hok.1
      obtain ⟨a', m2, rfl, hm2, ha⟩ := s_row_n k1 hok.2
      rw [hok.1] at b46
      rw [hok.2] at c46
      have hmm : m' = m2 := (nI_eq (by omega) (by omega)).mp hm2
      subst hmm
      have q1 : ¬ nI p' < 0 := nI_pos (by omega)
      have q2 : ¬ nI a' < 0 := nI_pos (by omega)
      have q3 : ¬ nI m' < 0 := nI_pos (by omega)
      have q4 : ¬ nI n - nI m' < nI p' := fun q => by
        have := (s_sub_lt n1 (by omega) (by omega)).mp q
        omega
      have q5 : nI a' ≤ nI k - nI m' := (s_le_sub k1 (by omega) (by omega)).mpr (by omega)
      have r1 : (nI p').toNatClampNeg = p' ∧ 0 ≤ nI p' := ⟨nI_clamp (by omega), nI_pos' (by omega)⟩
      have r2 : (nI a').toNatClampNeg = a' ∧ 0 ≤ nI a' := ⟨nI_clamp (by omega), nI_pos' (by omega)⟩
      have r3 : (nI m').toNatClampNeg = m' ∧ 0 ≤ nI m' := ⟨nI_clamp (by omega), nI_pos' (by omega)⟩
      have r4 : p' + m' ≤ 24 := by omega
      have r5 : a' + m' ≤ 24 := by omega
      have c30 : ∀ q, q ≠ 88 + 2 * t + 1 → quc u (88 + 2 * s + 1) (88 + 2 * t + 1) p' a' m' q = u q := fun q hq => by
        funext b
        unfold quc
        rw [if_neg (by omega)]
      have d130 := c30 130 (by omega)
      have d131 := c30 131 (by omega)
      obtain ⟨v1, a1, a2, a3⟩ := mq_190A (d := d + 119) (f := s) (p := p') (t := t) (a := a') (m := m') (w := w) es.2.2 et.2.2 r4 m' 0 (quc u (88 + 2 * s + 1) (88 + 2 * t + 1) p' a' m') (by omega) (fun i hi => by omega)
      obtain ⟨v2, b1, b2, b3, b4⟩ := mq_190B (d := d + 119) (t := t) (a := a') (m := m') (C := fun i => u 132 (24 * s + p' + i)) (o1 := some (.int (nI s))) (o2 := some (.int (nI p'))) (w := w) et.2.2 r5 m' 0 v1 (by omega) (fun i hi => by rw [a2 i hi, c30 132 (by omega)]) (fun i hi => by omega)
      refine ⟨nI m', quc u (88 + 2 * s + 1) (88 + 2 * t + 1) p' a' m', v2, w, ?_, ?_, inv_sh h (fun q h1 h2 h3 => by rw [b4 q (by omega), a3 q (by omega), c30 q (by omega)]) (iSh_cp h.2.2.1 es.2.2 et.2.2 r4 r5 (fun q h1 h2 => by rw [b4 q (by omega), a3 q (by omega)]) (by rw [b4 130 (by omega), a3 130 (by omega), c30 130 (by omega)]) (by rw [b4 131 (by omega), a3 131 (by omega), c30 131 (by omega)]) b2 (fun i hi => by rw [b3 i hi, a3 132 (by omega), c30 132 (by omega)]))⟩
      · refine (bq_87_0 (d + 119) 16 _ _ _ _ _ (QM u w)).trans ?_
        simp only [QM_kd, QM_sz, QM_lk, QM_i, QM_wi, zI, qs_bI, qs_bV, qb_0, c_100, g1, g2, zQ, zs, z4, ys, y4, es, et, b44, c44, e1, f1, g5, b46, c46, QM_cp, r1, r2, r3, r4, r5, qs_sum, Nat.zero_le, Nat.add_sub_cancel, Nat.le_add_left, Bool.true_eq_false, Nat.reduceSub, Nat.reduceLeDiff, Nat.reduceLT, true_and, and_true, and_self, if_true, if_false]
      · refine (bq_190_0 (d + 119) 116 _ _ _ _ _ (QM _ w)).trans ?_
        rw [nI_0] at a1 b1
        simp only [QM_kd, QM_sz, QM_lk, QM_i, QM_wi, zM, zI, qs_bI, qs_bV, qb_0, mc_184, g1, g2, es, et, d130, d131, g3', g4', g5, n2, k2, q1, q2, q3, q4, q5, show ¬ u 130 t < 0 from Int32.not_lt.mpr g4', Bool.true_eq_false, Nat.reduceSub, Nat.reduceLeDiff, Nat.reduceLT, true_and, and_true, and_self, if_true, if_false]
        rw [a1, b1]
    · have hcls : qs_call (d + 120) 87 [.ref 16, .int (nI s), .int p, .int (nI t), .int a, .int m] (QM u w) = some (some (.int (-1000000013)), QM u w) := by
        refine (bq_87_0 (d + 119) 16 _ _ _ _ _ (QM u w)).trans ?_
        by_cases r1 : s_row p m n = true
        · have r2 : s_row a m k = false := by simpa using fun q => hok ⟨r1, q⟩
          simp only [QM_kd, QM_sz, QM_lk, QM_i, QM_wi, zI, qs_bI, qs_bV, qb_0, c_100, g1, g2, zQ, zs, z4, ys, y4, es, et, b44, c44, e1, f1, g5, b46, c46, r1, r2, Nat.add_sub_cancel, Nat.le_add_left, Bool.true_eq_false, Nat.reduceSub, Nat.reduceLeDiff, Nat.reduceLT, true_and, and_true, and_self, if_true, if_false]
        · have r1' : s_row p m n = false := by simpa using r1
          simp only [QM_kd, QM_sz, QM_lk, QM_i, QM_wi, zI, qs_bI, qs_bV, qb_0, c_100, g1, g2, zQ, zs, z4, ys, y4, es, et, b44, c44, e1, f1, g5, b46, r1', Nat.add_sub_cancel, Nat.le_add_left, Bool.true_eq_false, Nat.reduceSub, Nat.reduceLeDiff, Nat.reduceLT, true_and, and_true, and_self, if_true, if_false]
      refine ⟨-1000000013, u, u, w, hcls, ?_, h⟩
      refine (bq_190_0 (d + 119) 116 _ _ _ _ _ (QM u w)).trans ?_
      by_cases q1 : p < 0
      · simp only [QM_kd, QM_sz, QM_lk, QM_i, QM_wi, zM, zI, qs_bI, qs_bV, qb_0, mc_184, g1, g2, es, et, g4', g5, q1, show ¬ u 130 t < 0 from Int32.not_lt.mpr g4', Bool.true_eq_false, Nat.reduceSub, Nat.reduceLeDiff, Nat.reduceLT, true_and, and_true, and_self, if_true, if_false]
      by_cases q2 : a < 0
      · simp only [QM_kd, QM_sz, QM_lk, QM_i, QM_wi, zM, zI, qs_bI, qs_bV, qb_0, mc_184, g1, g2, es, et, g4', g5, q1, q2, show ¬ u 130 t < 0 from Int32.not_lt.mpr g4', Bool.true_eq_false, Nat.reduceSub, Nat.reduceLeDiff, Nat.reduceLT, true_and, and_true, and_self, if_true, if_false]
      by_cases q3 : m < 0
      · simp only [QM_kd, QM_sz, QM_lk, QM_i, QM_wi, zM, zI, qs_bI, qs_bV, qb_0, mc_184, g1, g2, es, et, g4', g5, q1, q2, q3, show ¬ u 130 t < 0 from Int32.not_lt.mpr g4', Bool.true_eq_false, Nat.reduceSub, Nat.reduceLeDiff, Nat.reduceLT, true_and, and_true, and_self, if_true, if_false]
      obtain ⟨p', hp', rfl⟩ := nI_of q1
      obtain ⟨a', ha', rfl⟩ := nI_of q2
      obtain ⟨m', hm', rfl⟩ := nI_of q3
      by_cases q4 : nI n - nI m' < nI p'
      · simp only [QM_kd, QM_sz, QM_lk, QM_i, QM_wi, zM, zI, qs_bI, qs_bV, qb_0, mc_184, g1, g2, es, et, g4', g5, q1, q2, q3, n2, q4, show ¬ u 130 t < 0 from Int32.not_lt.mpr g4', Bool.true_eq_false, Nat.reduceSub, Nat.reduceLeDiff, Nat.reduceLT, true_and, and_true, and_self, if_true, if_false]
      by_cases q5 : nI a' ≤ nI k - nI m'
      · exfalso
        apply hok
        have q4' : ¬ n < m' + p' := fun q => q4 ((s_sub_lt n1 hm' hp').mpr q)
        have q5' := (s_le_sub k1 hm' ha').mp q5
        exact ⟨s_row_of n1 hp' hm' (by omega), s_row_of k1 ha' hm' (by omega)⟩
      · simp only [QM_kd, QM_sz, QM_lk, QM_i, QM_wi, zM, zI, qs_bI, qs_bV, qb_0, mc_184, g1, g2, es, et, g4', g5, q1, q2, q3, n2, k2, q4, q5, show ¬ u 130 t < 0 from Int32.not_lt.mpr g4', Bool.true_eq_false, Nat.reduceSub, Nat.reduceLeDiff, Nat.reduceLT, true_and, and_true, and_self, if_true, if_false]
  · refine ⟨sKIND, u, u, w, ?_, ?_, h⟩
    · refine (bq_87_0 (d + 119) 16 _ _ _ _ _ (QM u w)).trans ?_
      simp only [QM_kd, QM_sz, QM_lk, QM_i, QM_wi, zI, qs_bI, qs_bV, qb_0, c_100, g1, g2, zQ, zs, z4, ys, y4, es, et, b44, c44, e1, f1, g5, Nat.add_sub_cancel, Nat.le_add_left, Bool.true_eq_false, Nat.reduceSub, Nat.reduceLeDiff, Nat.reduceLT, true_and, and_true, and_self, if_true, if_false]
      rfl
    · refine (bq_190_0 (d + 119) 116 _ _ _ _ _ (QM u w)).trans ?_
      simp only [QM_kd, QM_sz, QM_lk, QM_i, QM_wi, zM, zI, qs_bI, qs_bV, qb_0, mc_184, g1, g2, es, et, g3', g4', g5, Bool.true_eq_false, Nat.reduceSub, Nat.reduceLeDiff, Nat.reduceLT, true_and, and_true, and_self, if_true, if_false]
      rfl
