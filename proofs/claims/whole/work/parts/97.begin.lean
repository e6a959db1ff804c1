/-! THE START -/
theorem i0_ok : (qs_i qz_m 52 3 = 0 ∧ qs_i qz_m 52 4 = qs_i qz_m 117 3 ∧ qs_i qz_m 52 5 = qs_i qz_m 117 4 ∧ qs_i qz_m 52 6 = qs_i qz_m 117 5 ∧ qs_i qz_m 52 7 = qs_i qz_m 117 6 ∧ qs_i qz_m 52 8 = qs_i qz_m 117 7 ∧ qs_i qz_m 52 9 = qs_i qz_m 117 8 ∧ qs_i qz_m 52 10 = qs_i qz_m 117 9 ∧ qs_i qz_m 52 11 = qs_i qz_m 117 10 ∧ qs_i qz_m 52 12 = qs_i qz_m 117 2 ∧ qs_i qz_m 52 13 = qs_i qz_m 117 0 ∧ qs_i qz_m 52 14 = qs_i qz_m 117 11) ∧ (∀ k, k < 3 → qs_i qz_m 54 k = -1) ∧ (qs_i qz_m 117 1 = 0 ∧ qs_i qz_m 117 3 = 0 ∧ qs_i qz_m 117 11 = 0 ∧ qs_i qz_m 117 2 = 0) ∧ (qs_i qz_m 1 0 = -1 ∧ qs_i qz_m 1 1 = 0 ∧ qs_i qz_m 1 2 = 0 ∧ qs_i qz_m 1 3 = 1 ∧ qs_i qz_m 1 4 = 2 ∧ qs_i qz_m 1 5 = 0) := by decide +kernel
theorem i0_ok2 : (qs_i qz_m 16 5 = 0 ∧ qs_i qz_m 116 3 = 0) ∧ (∀ s, s < 4 → qs_i qz_m (88 + 2 * s) 1 = -1 ∧ qs_i qz_m 130 s = -1 ∧ qs_i qz_m (88 + 2 * s) 2 = 0 ∧ qs_i qz_m 131 s = 0 ∧ ∀ k, k < 24 → qs_i qz_m (88 + 2 * s + 1) k = 0 ∧ qs_i qz_m 132 (24 * s + k) = 0) ∧ (∀ i, i < 5 → qs_i qz_m (96 + 4 * i) 2 = 0 ∧ qs_i qz_m 133 i = 0) ∧ (qs_i qz_m 16 9 = 0 ∧ qs_i qz_m 116 35 = 0 ∧ qs_i qz_m 48 2 = 0 ∧ qs_i qz_m 116 9 = 0) := by decide +kernel
theorem i0_ok3 : (qs_i qz_m 8 0 = 108 ∧ qs_i qz_m 8 1 = 101 ∧ qs_i qz_m 8 2 = 97 ∧ qs_i qz_m 8 3 = 107) ∧ (qs_i qz_m 9 0 = 102 ∧ qs_i qz_m 9 1 = 101 ∧ qs_i qz_m 9 2 = 101) ∧ (qs_i qz_m 10 0 = 102 ∧ qs_i qz_m 10 1 = 105 ∧ qs_i qz_m 10 2 = 110 ∧ qs_i qz_m 10 3 = 101) ∧ (qs_i qz_m 11 0 = 103 ∧ qs_i qz_m 11 1 = 114 ∧ qs_i qz_m 11 2 = 97) ∧ (qs_i qz_m 12 0 = 100 ∧ qs_i qz_m 12 1 = 102) ∧ (qs_i qz_m 13 0 = 116 ∧ qs_i qz_m 13 1 = 115) ∧ (qs_i qz_m 123 0 = 108 ∧ qs_i qz_m 123 1 = 101 ∧ qs_i qz_m 123 2 = 97 ∧ qs_i qz_m 123 3 = 107 ∧ qs_i qz_m 123 4 = 102 ∧ qs_i qz_m 123 5 = 101 ∧ qs_i qz_m 123 6 = 101 ∧ qs_i qz_m 123 7 = 102 ∧ qs_i qz_m 123 8 = 105 ∧ qs_i qz_m 123 9 = 110 ∧ qs_i qz_m 123 10 = 101) ∧ qs_i qz_m 124 0 = 0 ∧ qs_i qz_m 124 1 = 4 ∧ qs_i qz_m 124 2 = 7 ∧ qs_i qz_m 124 3 = 11 ∧ qs_i qz_m 2 1 = 0 ∧ qs_i qz_m 3 1 = 0 ∧ qs_i qz_m 4 1 = 0 ∧ qs_i qz_m 5 1 = 0 ∧ qs_i qz_m 6 1 = 0 ∧ qs_i qz_m 7 1 = 0 ∧ ∀ i, i < 9 → qs_i qz_m 127 i = 0 := by decide +kernel
theorem i0_inv : ∀ U : Nat → Nat → Int32, U = qs_i qz_m → sINV U := by
  intro U hU
  have a := i0_ok
  have b := i0_ok2
  have c := i0_ok3
  rw [← hU] at a b c
  clear hU
  obtain ⟨⟨p0, p1, p2, p3, p4, p5, p6, p7, p8, p9, p10, p11⟩, p12, ⟨r1, r3, r11, r2⟩, hU⟩ := a
  obtain ⟨⟨m1, m2⟩, s1, l1, ⟨w1, w2, t1, t2⟩⟩ := b
  obtain ⟨k1, k2, k3, k4, k5, k6, k7, q0, q1, q2, q3, j2, j3, j4, j5, j6, j7, k127⟩ := c
  have z0 : nI 0 = 0 := rfl
  have e11 : (U 117 11).toNatClampNeg = 0 := by rw [r11]; rfl
  have hG : sG (U 117) 0 := ⟨by omega, r1, fun j hj => absurd hj (by omega), Or.inl r3, ⟨0, r11, by omega, fun t ht => absurd ht (by omega)⟩, fun T e1 e2 t ht => by
    rw [r11] at e1
    have := (nI_eq (a := 0) (by omega) (by omega)).mp e1
    omega⟩
  refine ⟨⟨0, ⟨Or.inl rfl, ⟨p0, p1, p2, p3, p4, p5, p6, p7, p8, p9, p10, p11, fun j hj => absurd hj (by omega), fun k hk => ?_⟩, hG, hU, fun t ht => by rw [e11] at ht; omega⟩, 0, by omega, r2⟩, ⟨by rw [m1, m2], Or.inl m2⟩, fun s hs => ?_, fun i hi => ?_, ⟨by rw [w1, w2], 0, by omega, w2, fun k hk => absurd hk (by omega)⟩, ⟨by rw [t1, t2], 0, by omega, t2, fun k hk => absurd hk (by omega)⟩, ⟨k1, k2, k3, k4, k5, k6, k7, q0, q1, q2, q3, j2, j3, j4, j5, j6, j7, fun i hi => Or.inl (k127 i (by omega))⟩⟩
  · unfold s_t
    rw [e11, show 52 + 2 = 54 from rfl, p12 k hk]
    rfl
  · obtain ⟨x1, x2, x3, x4, x5⟩ := s1 s hs
    refine ⟨by rw [x1, x2], by rw [x3, x4], Or.inl x2, ⟨0, by omega, x4⟩, fun k hk => ?_⟩
    obtain ⟨y1, y2⟩ := x5 k hk
    refine ⟨by rw [y1, y2], ?_⟩
    rw [y2]
    unfold s_cz
    decide
  · obtain ⟨x1, x2⟩ := l1 i hi
    exact ⟨by rw [x1, x2], Or.inl x2⟩
theorem law_all {lx : Nat} {xs : Nat → Int32} (hl : lx ≤ 3072) : ∃ r, qs_LW lx xs 1000 0 [some (.ref 0), none, none, none] [] qi_m = some (some (.int 1), r) ∧ qs_n r = 124 ∧ qs_z r = 7570 := by
  obtain ⟨u2, w2, e⟩ := law_loop (xs := xs) (d := 880) hl (lx + 6) 0 (qs_i qz_m) (qs_l qz_m) (by omega) (by omega) (i0_inv _ rfl)
  refine ⟨QM u2 w2, ?_, ?_⟩
  · rw [qz_start (by omega), QM_z]
    exact e
  · have h := qi_ok2
    simp only [Bool.and_eq_true, decide_eq_true_eq] at h
    have a : qs_n (QM u2 w2) = qs_n qz_m ∧ qs_z (QM u2 w2) = qs_z qz_m := by
      rw [← qy_eq]
      exact qQ_n qy_m u2 w2
    rw [a.1, a.2]
    exact ⟨h.1.2, h.2⟩
