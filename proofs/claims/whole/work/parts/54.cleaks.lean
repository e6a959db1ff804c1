/-! A JOINT OF THE CLASS: what it leaks, bears, is worth -/
theorem c_7 {d k : Nat} {h : Int32} {u : Nat → Nat → Int32} {w : Nat → Nat → Int64} (z : zJ k) : qs_call (d + 1) 7 [.ref k, .int h] (QM u w) = some (some (.int (qs_max 0 (u k 1 - 2 * h) + u k 5 / 2)), QM u w) := by
  refine (bq_7_0 d k h (QM u w)).trans ?_
  unfold zJ at z
  simp only [QM_kd, QM_sz, QM_lk, QM_i, QM_wi, zI, qs_bI, qs_bV, qb_0, z, Bool.true_eq_false, Nat.reduceSub, Nat.reduceLeDiff, Nat.reduceLT, true_and, and_true, and_self, if_true, if_false]
theorem i_sub_sub (x : Int32) : 40 - x - 6 = 34 - x := by
  rw [Int32.sub_eq_add_neg, Int32.sub_eq_add_neg, Int32.sub_eq_add_neg, Int32.add_assoc, Int32.add_comm (-x), ← Int32.add_assoc]
  rfl
theorem c_9 {d k : Nat} {u : Nat → Nat → Int32} {w : Nat → Nat → Int64} (z : zJ k) : qs_call (d + 1) 9 [.ref k] (QM u w) = some (some (.int (s_worth (u k))), QM u w) := by
  refine (bq_9_0 d k (QM u w)).trans ?_
  unfold zJ at z
  simp only [QM_kd, QM_sz, QM_lk, QM_i, QM_wi, zI, qs_bI, qs_bV, qb_0, z, i_sub_sub, Bool.true_eq_false, Nat.reduceSub, Nat.reduceLeDiff, Nat.reduceLT, true_and, and_true, and_self, if_true, if_false]
  unfold s_worth
  (repeat' split) <;> rfl
theorem sk_n {k : Int32} (h : ∃ n, n ≤ s_mx 0 ∧ k = nI n) : k = 0 ∨ k = 1 ∨ k = 2 ∨ k = 3 ∨ k = 4 ∨ k = 5 := by
  obtain ⟨n, h1, rfl⟩ := h
  have h1 : n ≤ 5 := h1
  rcases (by omega : n = 0 ∨ n = 1 ∨ n = 2 ∨ n = 3 ∨ n = 4 ∨ n = 5) with rfl | rfl | rfl | rfl | rfl | rfl
  · exact Or.inl rfl
  · exact Or.inr (Or.inl rfl)
  · exact Or.inr (Or.inr (Or.inl rfl))
  · exact Or.inr (Or.inr (Or.inr (Or.inl rfl)))
  · exact Or.inr (Or.inr (Or.inr (Or.inr (Or.inl rfl))))
  · exact Or.inr (Or.inr (Or.inr (Or.inr (Or.inr rfl))))
theorem u12 : s_under 0 1 = false ∧ s_under 1 1 = true ∧ s_under 2 1 = false ∧ s_under 3 1 = true ∧ s_under 4 1 = false ∧ s_under 5 1 = false ∧ s_under 0 2 = false ∧ s_under 1 2 = false ∧ s_under 2 2 = true ∧ s_under 3 2 = false ∧ s_under 4 2 = true ∧ s_under 5 2 = false := by decide
theorem iN : (¬ (0 : Int32) = 1) ∧ (¬ (0 : Int32) = 2) ∧ (¬ (0 : Int32) = 3) ∧ (¬ (0 : Int32) = 4) ∧ (¬ (0 : Int32) = 5) ∧ (¬ (1 : Int32) = 0) ∧ (¬ (1 : Int32) = 2) ∧ (¬ (1 : Int32) = 3) ∧ (¬ (1 : Int32) = 4) ∧ (¬ (1 : Int32) = 5) ∧ (¬ (2 : Int32) = 0) ∧ (¬ (2 : Int32) = 1) ∧ (¬ (2 : Int32) = 3) ∧ (¬ (2 : Int32) = 4) ∧ (¬ (2 : Int32) = 5) ∧ (¬ (3 : Int32) = 0) ∧ (¬ (3 : Int32) = 1) ∧ (¬ (3 : Int32) = 2) ∧ (¬ (3 : Int32) = 4) ∧ (¬ (3 : Int32) = 5) ∧ (¬ (4 : Int32) = 0) ∧ (¬ (4 : Int32) = 1) ∧ (¬ (4 : Int32) = 2) ∧ (¬ (4 : Int32) = 3) ∧ (¬ (4 : Int32) = 5) ∧ (¬ (5 : Int32) = 0) ∧ (¬ (5 : Int32) = 1) ∧ (¬ (5 : Int32) = 2) ∧ (¬ (5 : Int32) = 3) ∧ (¬ (5 : Int32) = 4) := by decide
theorem c_isOf {d : Nat} {u : Nat → Nat → Int32} {w : Nat → Nat → Int64} {k x : Int32} (hU : sU u) (hk : k = 0 ∨ k = 1 ∨ k = 2 ∨ k = 3 ∨ k = 4 ∨ k = 5) : qs_call (d + 2) 104 [.int k, .int x] (QM u w) = some (some (.int (qb (s_under k x))), QM u w) := c_104 hU (by
  rcases hk with rfl | rfl | rfl | rfl | rfl | rfl
  · exact ⟨0, by omega, rfl⟩
  · exact ⟨1, by omega, rfl⟩
  · exact ⟨2, by omega, rfl⟩
  · exact ⟨3, by omega, rfl⟩
  · exact ⟨4, by omega, rfl⟩
  · exact ⟨5, by omega, rfl⟩)
theorem s_bears_c {J : Nat → Int32} (hJ : sJb J) : qs_max 0 (25 - J 2 / 2 - J 4) = s_cl 0 40 (25 - J 2 / 2 - J 4) := by
  obtain ⟨r, r1, r2⟩ := hJ 2 (by omega)
  obtain ⟨a, a1, a2⟩ := hJ 4 (by omega)
  have r1 : r ≤ 40 := r1
  have a1 : a ≤ 9 := a1
  have r3 : nI r / 2 = nI (r / 2) := nI_div (b := 2) (by omega) (by omega)
  have r4 : (25 : Int32) - nI (r / 2) = nI (25 - r / 2) := nI_sub (a := 25) (by omega)
  rw [r2, a2, r3, r4]
  obtain ⟨q1, q2⟩ := qmax_cl (a := 25 - r / 2) (b := a) (n := 40) (by omega) (by omega) (by omega)
  rw [q1]
  exact q2.symm
theorem c_8 {d k : Nat} {u : Nat → Nat → Int32} {w : Nat → Nat → Int64} (z : zJ k) (hU : sU u) (hJ : sJb (u k)) : qs_call (d + 3) 8 [.ref k] (QM u w) = some (some (.int (s_bears (u k))), QM u w) := by
  refine (bq_8_0 (d + 2) k (QM u w)).trans ?_
  unfold zJ at z
  have hk := sk_n (hJ 0 (by omega))
  have i1 := c_isOf (d := d) (w := w) (x := 1) hU hk
  have i2 := c_isOf (d := d) (w := w) (x := 2) hU hk
  have hb := s_bears_c hJ
  unfold s_bears
  rcases hk with e | e | e | e | e | e <;> rw [e] at i1 i2 <;> simp only [QM_kd, QM_sz, QM_lk, QM_i, QM_wi, zI, qs_bI, qs_bV, qb_0, z, e, i1, i2, u12, iN, hb, Bool.true_eq_false, Nat.reduceSub, Nat.reduceLeDiff, Nat.reduceLT, true_and, and_true, and_self, if_true, if_false]
theorem s_leak_cg {R J K : Nat → Int32} (h : ∀ c, c < 8 → J c = K c) : s_leak R J = s_leak R K := by
  unfold s_leak s_drips s_plain s_grip
  rw [h 0 (by omega), h 1 (by omega), h 2 (by omega), h 3 (by omega), h 4 (by omega), h 5 (by omega), h 7 (by omega)]
theorem s_drips_k {R J : Nat → Int32} : (J 0 = 0 → s_drips R J = s_plain R J) ∧ (J 0 = 1 → s_drips R J = s_plain R J + J 2 / 5) ∧ (J 0 = 2 → s_drips R J = s_plain R J + J 4) ∧ (J 0 = 3 → s_drips R J = if s_grip J (R 3) ≤ 12 then s_plain R J + J 2 / 5 + 0 else s_plain R J + J 2 / 5 + 2 * (s_grip J (R 3) - 12)) ∧ (J 0 = 4 → s_drips R J = s_plain R J + J 4 + J 3) := by
  unfold s_drips
  refine ⟨fun h => ?_, fun h => ?_, fun h => ?_, fun h => ?_, fun h => ?_⟩ <;> simp only [h, iN, if_true, if_false]
theorem c_19 {d p j M : Nat} {u : Nat → Nat → Int32} {w : Nat → Nat → Int64} {R : Nat → Int32} (hC : sC u p R M) (hj : j < M) : ∃ v', qs_call (d + 3) 19 [.ref p, .ref (p + 3 + j)] (QM u w) = some (some (.int (s_leak R (s_jo R j))), QM v' w) ∧ ∀ q, q ≠ 19 → v' q = u q := by
  obtain ⟨hp, hP, hG, hU, hT⟩ := hC
  have hM := hG.1
  have hb := isP_lo hp
  have z := zP hp
  obtain ⟨-, -, zj⟩ := zPj (j := j) hp (by omega)
  have zj0 := zj
  unfold zPp at z
  unfold zJ at zj
  have hJ := hG.2.2.1 j hj
  have hh := hG.2.2.2.1
  obtain ⟨-, h4, -, -, -, -, -, -, -, -, -, -, h13, h14⟩ := hP
  have j0 := h13 j hj 0 (by omega)
  have j1 := h13 j hj 1 (by omega)
  have j2 := h13 j hj 2 (by omega)
  have j3 := h13 j hj 3 (by omega)
  have j4 := h13 j hj 4 (by omega)
  have j5 := h13 j hj 5 (by omega)
  have j7 := h13 j hj 7 (by omega)
  have t0 : u (p + 2) 0 = s_t R 0 := h14 0 (by omega)
  generalize hK : s_jo R j = J at hJ j0 j1 j2 j3 j4 j5 j7 ⊢
  have hk := sk_n (hJ 0 (by omega))
  by_cases k5 : J 0 = 5
  · refine ⟨u, ?_, fun _ _ => rfl⟩
    refine (bq_19_0 (d + 2) p (p + 3 + j) (QM u w)).trans ?_
    unfold s_leak
    rw [if_pos k5]
    rw [k5] at j0
    simp only [QM_kd, QM_sz, QM_lk, QM_i, QM_wi, zI, qs_bI, qs_bV, qb_0, z, zj, j0, Bool.true_eq_false, Nat.reduceSub, Nat.reduceLeDiff, Nat.reduceLT, true_and, and_true, and_self, if_true, if_false]
  obtain ⟨g, -, g1, g2⟩ := s_grip_n hJ hh
  have e7 : ∀ v : Nat → Nat → Int32, qs_call (d + 2) 7 [.ref (p + 3 + j), .int (R 3)] (QM u w) = some (some (.int (s_grip J (R 3))), QM u w) := fun v => by
    rw [c_7 zj0, j1, j5, g2, g1]
  have e7 := e7 u
  have hpin : ∀ x, x + 2 * qs_max 0 (s_grip J (R 3) - 12) = if s_grip J (R 3) ≤ 12 then x + 0 else x + 2 * (s_grip J (R 3) - 12) := fun x => s_pin hJ hh
  rw [s_leak_c hJ hh k5]
  obtain ⟨d0, d1, d2, d3, d4⟩ := s_drips_k (R := R) (J := J)
  by_cases h0 : 0 ≤ s_t R 0
  · obtain ⟨v, a1, a2⟩ := c_give (d := d) (u := u) (w := w) (R := R) (key := 0) (a := s_grip J (R 3)) (b := J 2) (c := J 5) hT hG.2.2.2.2.1 h0
    refine ⟨v, ?_, a2⟩
    have hpl : s_cl 0 99 (s_give R (s_t R 0) (s_grip J (R 3)) (J 2) (J 5)) = s_plain R J := by
      unfold s_plain
      rw [if_pos h0]
    have vk : v (p + 3 + j) = u (p + 3 + j) := a2 _ (by omega)
    have i1 := c_isOf (d := d) (u := v) (w := w) (x := 1) (sU_same hU (a2 1 (by omega))) hk
    have i2 := c_isOf (d := d) (u := v) (w := w) (x := 2) (sU_same hU (a2 1 (by omega))) hk
    refine (bq_19_0 (d + 2) p (p + 3 + j) (QM u w)).trans ?_
    rcases hk with e | e | e | e | e | e
    · rw [e] at i1 i2 j0
      rw [d0 e]
      simp only [QM_kd, QM_sz, QM_lk, QM_i, QM_wi, zI, qs_bI, qs_bV, qb_0, z, zj, zQ, vk, j0, j2, j3, j4, j5, j7, h4, t0, h0, e7, a1, c_98, hpl, i1, i2, u12, iN, bq_19_114, hpin, Nat.add_sub_cancel, Nat.le_add_left, Bool.true_eq_false, Nat.reduceSub, Nat.reduceLeDiff, Nat.reduceLT, true_and, and_true, and_self, if_true, if_false]
    · rw [e] at i1 i2 j0
      rw [d1 e]
      simp only [QM_kd, QM_sz, QM_lk, QM_i, QM_wi, zI, qs_bI, qs_bV, qb_0, z, zj, zQ, vk, j0, j2, j3, j4, j5, j7, h4, t0, h0, e7, a1, c_98, hpl, i1, i2, u12, iN, bq_19_114, hpin, Nat.add_sub_cancel, Nat.le_add_left, Bool.true_eq_false, Nat.reduceSub, Nat.reduceLeDiff, Nat.reduceLT, true_and, and_true, and_self, if_true, if_false]
    · rw [e] at i1 i2 j0
      rw [d2 e]
      simp only [QM_kd, QM_sz, QM_lk, QM_i, QM_wi, zI, qs_bI, qs_bV, qb_0, z, zj, zQ, vk, j0, j2, j3, j4, j5, j7, h4, t0, h0, e7, a1, c_98, hpl, i1, i2, u12, iN, bq_19_114, hpin, Nat.add_sub_cancel, Nat.le_add_left, Bool.true_eq_false, Nat.reduceSub, Nat.reduceLeDiff, Nat.reduceLT, true_and, and_true, and_self, if_true, if_false]
    · rw [e] at i1 i2 j0
      rw [d3 e]
      simp only [QM_kd, QM_sz, QM_lk, QM_i, QM_wi, zI, qs_bI, qs_bV, qb_0, z, zj, zQ, vk, j0, j2, j3, j4, j5, j7, h4, t0, h0, e7, a1, c_98, hpl, i1, i2, u12, iN, bq_19_114, hpin, Nat.add_sub_cancel, Nat.le_add_left, Bool.true_eq_false, Nat.reduceSub, Nat.reduceLeDiff, Nat.reduceLT, true_and, and_true, and_self, if_true, if_false]
    · rw [e] at i1 i2 j0
      rw [d4 e]
      simp only [QM_kd, QM_sz, QM_lk, QM_i, QM_wi, zI, qs_bI, qs_bV, qb_0, z, zj, zQ, vk, j0, j2, j3, j4, j5, j7, h4, t0, h0, e7, a1, c_98, hpl, i1, i2, u12, iN, bq_19_114, hpin, Nat.add_sub_cancel, Nat.le_add_left, Bool.true_eq_false, Nat.reduceSub, Nat.reduceLeDiff, Nat.reduceLT, true_and, and_true, and_self, if_true, if_false]
    · exact absurd e k5
  · refine ⟨u, ?_, fun _ _ => rfl⟩
    have hpl : s_cl 0 99 (qs_abs (s_grip J (R 3) - 10)) = s_plain R J := (s_plain_c hJ hh h0).symm
    have i1 := c_isOf (d := d) (u := u) (w := w) (x := 1) hU hk
    have i2 := c_isOf (d := d) (u := u) (w := w) (x := 2) hU hk
    refine (bq_19_0 (d + 2) p (p + 3 + j) (QM u w)).trans ?_
    rcases hk with e | e | e | e | e | e
    · rw [e] at i1 i2 j0
      rw [d0 e]
      simp only [QM_kd, QM_sz, QM_lk, QM_i, QM_wi, zI, qs_bI, qs_bV, qb_0, z, zj, zQ, j0, j2, j3, j4, j5, j7, h4, t0, h0, e7, c_98, hpl, i1, i2, u12, iN, bq_19_114, hpin, Nat.add_sub_cancel, Nat.le_add_left, Bool.true_eq_false, Nat.reduceSub, Nat.reduceLeDiff, Nat.reduceLT, true_and, and_true, and_self, if_true, if_false]
    · rw [e] at i1 i2 j0
      rw [d1 e]
      simp only [QM_kd, QM_sz, QM_lk, QM_i, QM_wi, zI, qs_bI, qs_bV, qb_0, z, zj, zQ, j0, j2, j3, j4, j5, j7, h4, t0, h0, e7, c_98, hpl, i1, i2, u12, iN, bq_19_114, hpin, Nat.add_sub_cancel, Nat.le_add_left, Bool.true_eq_false, Nat.reduceSub, Nat.reduceLeDiff, Nat.reduceLT, true_and, and_true, and_self, if_true, if_false]
    · rw [e] at i1 i2 j0
      rw [d2 e]
      simp only [QM_kd, QM_sz, QM_lk, QM_i, QM_wi, zI, qs_bI, qs_bV, qb_0, z, zj, zQ, j0, j2, j3, j4, j5, j7, h4, t0, h0, e7, c_98, hpl, i1, i2, u12, iN, bq_19_114, hpin, Nat.add_sub_cancel, Nat.le_add_left, Bool.true_eq_false, Nat.reduceSub, Nat.reduceLeDiff, Nat.reduceLT, true_and, and_true, and_self, if_true, if_false]
    · rw [e] at i1 i2 j0
      rw [d3 e]
      simp only [QM_kd, QM_sz, QM_lk, QM_i, QM_wi, zI, qs_bI, qs_bV, qb_0, z, zj, zQ, j0, j2, j3, j4, j5, j7, h4, t0, h0, e7, c_98, hpl, i1, i2, u12, iN, bq_19_114, hpin, Nat.add_sub_cancel, Nat.le_add_left, Bool.true_eq_false, Nat.reduceSub, Nat.reduceLeDiff, Nat.reduceLT, true_and, and_true, and_self, if_true, if_false]
    · rw [e] at i1 i2 j0
      rw [d4 e]
      simp only [QM_kd, QM_sz, QM_lk, QM_i, QM_wi, zI, qs_bI, qs_bV, qb_0, z, zj, zQ, j0, j2, j3, j4, j5, j7, h4, t0, h0, e7, c_98, hpl, i1, i2, u12, iN, bq_19_114, hpin, Nat.add_sub_cancel, Nat.le_add_left, Bool.true_eq_false, Nat.reduceSub, Nat.reduceLeDiff, Nat.reduceLT, true_and, and_true, and_self, if_true, if_false]
    · exact absurd e k5
