/-! AN HOUR, SEVERAL HOURS, in the class -/
theorem upd_self (R : Nat → Int32) (i : Nat) : upd R i (R i) = R := by
  funext k
  unfold upd
  by_cases h : k = i
  · rw [if_pos h, h]
  · rw [if_neg h]
theorem c_26A {p M : Nat} {v : Nat → Nat → Int32} {S : Nat → Int32} (hC : sC v p S M) (h : S 2 - S 2 / 6 * 6 = 5) : sC (qu (qu v p 4 (1 - S 3)) p 12 (S 2 + 1)) p (s_95 S) M := by
  unfold s_95
  rw [if_pos h]
  refine sC_fld (sC_fld hC (by unfold sPair; omega) (fun _ => ?_)) (by unfold sPair; omega) (by omega)
  rcases hC.2.2.1.2.2.2.1 with e | e <;> rw [e]
  · exact Or.inr (by decide)
  · exact Or.inl (by decide)
theorem c_26B {p M : Nat} {v : Nat → Nat → Int32} {S : Nat → Int32} (hC : sC v p S M) (h : ¬ S 2 - S 2 / 6 * 6 = 5) : sC (qu v p 12 (S 2 + 1)) p (s_95 S) M := by
  unfold s_95
  rw [if_neg h, upd_self]
  exact sC_fld hC (by unfold sPair; omega) (by omega)
theorem sC_f {u : Nat → Nat → Int32} {p M : Nat} {R : Nat → Int32} (hC : sC u p R M) : u p 4 = R 3 ∧ u p 5 = R 4 ∧ u p 6 = R 5 ∧ u p 7 = R 6 ∧ u p 8 = R 7 ∧ u p 9 = R 8 ∧ u p 10 = R 9 ∧ u p 11 = R 10 ∧ u p 12 = R 2 ∧ u p 13 = R 0 ∧ u p 14 = R 11 := by
  obtain ⟨-, ⟨-, h2, h3, h4, h5, h6, h7, h8, h9, h10, h11, h12, -, -⟩, -, -, -⟩ := hC
  exact ⟨h2, h3, h4, h5, h6, h7, h8, h9, h10, h11, h12⟩
theorem c_26T {d p M : Nat} {u : Nat → Nat → Int32} {w : Nat → Nat → Int64} {R : Nat → Int32} (hC : sC u p R M) : ∃ v', qs_EV (d + 5) 26 2 [some (.ref p), some (.int (nI M))] [] (QM u w) = some (none, QM v' w) ∧ sC v' p (s_95 (s_sh R)) M ∧ ∀ q, ¬ inP p q → v' q = u q := by
  have hp := hC.1
  obtain ⟨hM, h3, hr1⟩ := sC_M hC
  have z := zP hp
  unfold zPp at z
  have hle : nI M ≤ nI M := nI_le (Nat.le_refl _) (by omega)
  obtain ⟨f4, f5, -, -, -, -, -, f11, f12, f13, -⟩ := sC_f hC
  have a17 := c_17 (d := d + 4) (u := u) (w := w) hp
  rw [f13] at a17
  have hC1 := sC_fld (f := 13) (i := 0) (x := s_z (R 0)) hC (by unfold sPair; omega) (by omega)
  have o1 : ∀ f, f ≠ 13 → qu u p 13 (s_z (R 0)) p f = u p f := fun f hf => by rw [qu_at, if_neg (by omega)]
  have o3 := o1 3 (by omega)
  have o4 := o1 4 (by omega)
  have o5 := o1 5 (by omega)
  have o12 := o1 12 (by omega)
  have q12 : ∀ (v : Nat → Nat → Int32) x, qu v p 4 x p 12 = v p 12 := fun v x => by rw [qu_at, if_neg (by omega)]
  have n1 : ∀ q, ¬ inP p q → qu u p 13 (s_z (R 0)) q = u q := fun q hq => qu_ne _ _ _ (ne_inP hq (inP_p p))
  have R2 : upd R 0 (s_z (R 0)) 2 = R 2 := by simp [upd]
  have R3 : upd R 0 (s_z (R 0)) 3 = R 3 := by simp [upd]
  have fin : ∀ (v : Nat → Nat → Int32) (S : Nat → Int32), sC v p S M → (∀ q, ¬ inP p q → v q = u q) → (S 2 - S 2 / 6 * 6 = 5 → ∃ v', v' = qu (qu v p 4 (1 - S 3)) p 12 (S 2 + 1) ∧ sC v' p (s_95 S) M ∧ ∀ q, ¬ inP p q → v' q = u q) ∧ (¬ S 2 - S 2 / 6 * 6 = 5 → ∃ v', v' = qu v p 12 (S 2 + 1) ∧ sC v' p (s_95 S) M ∧ ∀ q, ¬ inP p q → v' q = u q) := by
    intro v S hv hn
    refine ⟨fun h => ⟨_, rfl, c_26A hv h, fun q hq => ?_⟩, fun h => ⟨_, rfl, c_26B hv h, fun q hq => ?_⟩⟩
    · rw [qu_ne _ _ _ (ne_inP hq (inP_p p)), qu_ne _ _ _ (ne_inP hq (inP_p p)), hn q hq]
    · rw [qu_ne _ _ _ (ne_inP hq (inP_p p)), hn q hq]
  by_cases h4 : R 4 ≤ s_dr (s_z (R 0)) - s_dr (s_z (R 0)) / 100 * 100
  · have hs : s_sh R = upd R 0 (s_z (R 0)) := by unfold s_sh; rw [if_pos h4]
    rw [hs]
    obtain ⟨fa, fb⟩ := fin _ _ hC1 n1
    rw [R2, R3] at fa
    rw [R2] at fb
    by_cases h6 : R 2 - R 2 / 6 * 6 = 5
    · obtain ⟨v', e1, e2, e3⟩ := fa h6
      refine ⟨v', ?_, e2, e3⟩
      rw [e1]
      refine (bq_26_2 (d + 5) p _ (QM u w)).trans ?_
      simp only [QM_kd, QM_sz, QM_lk, QM_i, QM_wi, zI, qs_bI, qs_bV, qb_0, z, h3, hle, a17, o4, o5, o12, f4, f5, f12, h4, h6, q12, Bool.true_eq_false, Nat.reduceSub, Nat.reduceLeDiff, Nat.reduceLT, true_and, and_true, and_self, if_true, if_false]
    · obtain ⟨v', e1, e2, e3⟩ := fb h6
      refine ⟨v', ?_, e2, e3⟩
      rw [e1]
      refine (bq_26_2 (d + 5) p _ (QM u w)).trans ?_
      simp only [QM_kd, QM_sz, QM_lk, QM_i, QM_wi, zI, qs_bI, qs_bV, qb_0, z, h3, hle, a17, o4, o5, o12, f4, f5, f12, h4, h6, q12, Bool.true_eq_false, Nat.reduceSub, Nat.reduceLeDiff, Nat.reduceLT, true_and, and_true, and_self, if_true, if_false]
  · rcases Nat.eq_zero_or_pos M with hM0 | hM0
    · have hz : R 1 ≤ 0 := by rw [hr1, hM0]; decide
      have hz2 : nI M ≤ 0 := by rw [hM0]; decide
      have hs : s_sh R = upd R 0 (s_z (R 0)) := by unfold s_sh; rw [if_neg h4, if_pos hz]
      rw [hs]
      obtain ⟨fa, fb⟩ := fin _ _ hC1 n1
      rw [R2, R3] at fa
      rw [R2] at fb
      by_cases h6 : R 2 - R 2 / 6 * 6 = 5
      · obtain ⟨v', e1, e2, e3⟩ := fa h6
        refine ⟨v', ?_, e2, e3⟩
        rw [e1]
        refine (bq_26_2 (d + 5) p _ (QM u w)).trans ?_
        simp only [QM_kd, QM_sz, QM_lk, QM_i, QM_wi, zI, qs_bI, qs_bV, qb_0, z, h3, hle, hz2, a17, o3, o4, o5, o12, f4, f5, f12, h4, h6, q12, Bool.true_eq_false, Nat.reduceSub, Nat.reduceLeDiff, Nat.reduceLT, true_and, and_true, and_self, if_true, if_false]
      · obtain ⟨v', e1, e2, e3⟩ := fb h6
        refine ⟨v', ?_, e2, e3⟩
        rw [e1]
        refine (bq_26_2 (d + 5) p _ (QM u w)).trans ?_
        simp only [QM_kd, QM_sz, QM_lk, QM_i, QM_wi, zI, qs_bI, qs_bV, qb_0, z, h3, hle, hz2, a17, o3, o4, o5, o12, f4, f5, f12, h4, h6, q12, Bool.true_eq_false, Nat.reduceSub, Nat.reduceLeDiff, Nat.reduceLT, true_and, and_true, and_self, if_true, if_false]
    · have hz : ¬ nI M ≤ 0 := nI_nle hM0 (by omega)
      have hz2 : ¬ nI M = 0 := nI_ne0 hM0 (by omega)
      have hwh := s_wh_lt hr1 hM0 hM
      have ej : s_dr (s_z (s_z (R 0))) - s_dr (s_z (s_z (R 0))) / nI M * nI M = nI (s_wh R) := by
        obtain ⟨a, ha, ea⟩ := s_dr_of (s_z (s_z (R 0)))
        unfold s_wh
        rw [hr1, ea, nI_mod (by omega) (by omega)]
        have : a % M < M := Nat.mod_lt _ hM0
        rw [nI_clamp (by omega)]
      have hs : s_sh R = s_shj R (s_wh R) := by unfold s_sh; rw [if_neg h4, if_neg (by rw [hr1]; exact hz)]
      rw [hs]
      unfold s_shj
      generalize s_wh R = j at hwh ej
      obtain ⟨z1, z2, zj⟩ := zPj (j := j) hp (by omega)
      have k13 : qu u p 13 (s_z (R 0)) p 13 = s_z (R 0) := by simp [qu]
      have b17 := c_17 (d := d + 4) (u := qu u p 13 (s_z (R 0))) (w := w) hp
      rw [k13] at b17
      have hC2 := sC_fld (f := 13) (i := 0) (x := s_z (s_z (R 0))) hC1 (by unfold sPair; omega) (by omega)
      have b28 := c_28 (d := d + 2) (k := p + 3 + j) (u := qu (qu u p 13 (s_z (R 0))) p 13 (s_z (s_z (R 0)))) (w := w) hp zj (by omega)
      have zk := zj.1
      have j1 : qu (qu u p 13 (s_z (R 0))) p 13 (s_z (s_z (R 0))) (p + 3 + j) 1 = s_jo R j 1 := by
        rw [qu_ne _ _ _ (by omega), qu_ne _ _ _ (by omega)]
        exact sJ_e hC hwh (by omega)
      have f11' : qu (qu u p 13 (s_z (R 0))) p 13 (s_z (s_z (R 0))) p 11 = R 10 := by
        rw [qu_at, if_neg (by omega), qu_at, if_neg (by omega), f11]
      rw [j1, f11'] at b28
      have hC3 := sC_fld (f := 11) (i := 10) (x := R 10 + 1) (sC_jo (c := 7) (x := 0) (sC_jo (c := 1) (x := s_cl 0 40 (s_jo R j 1 + -1)) hC2 hwh (by omega) s_cl40) hwh (by omega) ⟨0, by omega, rfl⟩) (by unfold sPair; omega) (by omega)
      have n3 : ∀ q, ¬ inP p q → qu (qu (qu (qu (qu u p 13 (s_z (R 0))) p 13 (s_z (s_z (R 0)))) (p + 3 + j) 1 (s_cl 0 40 (s_jo R j 1 + -1))) (p + 3 + j) 7 0) p 11 (R 10 + 1) q = u q := fun q hq => by
        rw [qu_ne _ _ _ (ne_inP hq (inP_p p)), qu_ne _ _ _ (ne_inP hq (inP_j (by omega))), qu_ne _ _ _ (ne_inP hq (inP_j (by omega))), qu_ne _ _ _ (ne_inP hq (inP_p p)), n1 q hq]
      obtain ⟨fa, fb⟩ := fin _ _ hC3 n3
      have hjn : p + 3 + j ≠ p := by omega
      have T2 : upd (upd (upd (upd (upd R 0 (s_z (R 0))) 0 (s_z (s_z (R 0)))) (12 + 8 * j + 1) (s_cl 0 40 (s_jo R j 1 + -1))) (12 + 8 * j + 7) 0) 10 (R 10 + 1) 2 = R 2 := by
        unfold upd
        rw [if_neg (by omega), if_neg (by omega), if_neg (by omega), if_neg (by omega), if_neg (by omega)]
      have T3 : upd (upd (upd (upd (upd R 0 (s_z (R 0))) 0 (s_z (s_z (R 0)))) (12 + 8 * j + 1) (s_cl 0 40 (s_jo R j 1 + -1))) (12 + 8 * j + 7) 0) 10 (R 10 + 1) 3 = R 3 := by
        unfold upd
        rw [if_neg (by omega), if_neg (by omega), if_neg (by omega), if_neg (by omega), if_neg (by omega)]
      have w4 : ∀ f, f ≠ 13 → f ≠ 11 → qu (qu (qu (qu (qu u p 13 (s_z (R 0))) p 13 (s_z (s_z (R 0)))) (p + 3 + j) 1 (s_cl 0 40 (s_jo R j 1 + -1))) (p + 3 + j) 7 0) p 11 (R 10 + 1) p f = u p f := fun f h13 h11 => by
        rw [qu_at, if_neg (by omega), qu_at, if_neg (by omega), qu_at, if_neg (by omega), qu_at, if_neg (by omega), qu_at, if_neg (by omega)]
      have w40 := w4 4 (by omega) (by omega)
      have w12 := w4 12 (by omega) (by omega)
      have o33 : qu (qu u p 13 (s_z (R 0))) p 13 (s_z (s_z (R 0))) p 3 = nI M := by rw [qu_at, if_neg (by omega), o3, h3]
      have y1 : (nI j).toNatClampNeg = j := nI_clamp (by omega)
      have y2 : 0 ≤ nI j := nI_pos' (by omega)
      have y3 : j < 8 := by omega
      rw [T2, T3] at fa
      rw [T2] at fb
      by_cases h6 : R 2 - R 2 / 6 * 6 = 5
      · obtain ⟨v', e1, e2, e3⟩ := fa h6
        refine ⟨v', ?_, e2, e3⟩
        rw [e1]
        refine (bq_26_2 (d + 5) p _ (QM u w)).trans ?_
        simp only [QM_kd, QM_sz, QM_lk, QM_i, QM_wi, zI, qs_bI, qs_bV, qb_0, z, z1, z2, zk, h3, hle, hz, hz2, a17, b17, b28, o3, o4, o5, o12, o33, f4, f5, f12, h4, h6, q12, ej, y1, y2, y3, w40, w12, Nat.add_sub_cancel, Nat.le_add_left, Bool.true_eq_false, Nat.reduceSub, Nat.reduceLeDiff, Nat.reduceLT, true_and, and_true, and_self, if_true, if_false]
      · obtain ⟨v', e1, e2, e3⟩ := fb h6
        refine ⟨v', ?_, e2, e3⟩
        rw [e1]
        refine (bq_26_2 (d + 5) p _ (QM u w)).trans ?_
        simp only [QM_kd, QM_sz, QM_lk, QM_i, QM_wi, zI, qs_bI, qs_bV, qb_0, z, z1, z2, zk, h3, hle, hz, hz2, a17, b17, b28, o3, o4, o5, o12, o33, f4, f5, f12, h4, h6, q12, ej, y1, y2, y3, w40, w12, Nat.add_sub_cancel, Nat.le_add_left, Bool.true_eq_false, Nat.reduceSub, Nat.reduceLeDiff, Nat.reduceLT, true_and, and_true, and_self, if_true, if_false]
theorem c_26L {d p M : Nat} {w : Nat → Nat → Int64} {R : Nat → Int32} : ∀ (r k : Nat) (u : Nat → Nat → Int32), sC u p (s_drs R k) M → k + r = M → ∃ v', qs_EV (d + 5) 26 2 [some (.ref p), some (.int (nI k))] [] (QM u w) = some (none, QM v' w) ∧ sC v' p (s_95 (s_sh (s_drs R M))) M ∧ ∀ q, ¬ inP p q → q ≠ 19 → v' q = u q
  | 0, k, u, hC, hk => by
    obtain rfl : k = M := by omega
    obtain ⟨v', g1, g2, g3⟩ := c_26T (d := d) (w := w) hC
    exact ⟨v', g1, g2, fun q h1 _ => g3 q h1⟩
  | r + 1, k, u, hC, hk => by
    obtain ⟨hM, h3, -⟩ := sC_M hC
    obtain ⟨v, a1, a2, a3⟩ := c_27 (d := d + 1) (j := k) (w := w) hC (by omega)
    obtain ⟨v', g1, g2, g3⟩ := c_26L (d := d) (w := w) r (k + 1) v a2 (by omega)
    refine ⟨v', ?_, g2, fun q h1 h2 => by rw [g3 q h1 h2, a3 q h1 h2]⟩
    have z := zP hC.1
    unfold zPp at z
    obtain ⟨z1, z2, zj⟩ := zPj (j := k) hC.1 (by omega)
    have e2 : ¬ nI M ≤ nI k := nI_ge (by omega) (by omega)
    have e7 : (nI k).toNatClampNeg = k := nI_clamp (by omega)
    have e8 : 0 ≤ nI k := nI_pos' (by omega)
    have e9 : k < 8 := by omega
    rw [nI_succ] at g1
    refine (bq_26_2 (d + 5) p _ (QM u w)).trans ?_
    simp only [QM_kd, QM_sz, QM_lk, QM_i, QM_wi, zI, qs_bI, qs_bV, qb_0, z, z1, z2, h3, e2, e7, e8, e9, a1, Nat.add_sub_cancel, Nat.le_add_left, Bool.true_eq_false, Nat.reduceSub, Nat.reduceLeDiff, Nat.reduceLT, true_and, and_true, and_self, if_true, if_false]
    exact g1
theorem c_26 {d p M : Nat} {u : Nat → Nat → Int32} {w : Nat → Nat → Int64} {R : Nat → Int32} (hC : sC u p R M) : ∃ v', qs_call (d + 6) 26 [.ref p] (QM u w) = some (none, QM v' w) ∧ sC v' p (s_hour R) M ∧ ∀ q, ¬ inP p q → q ≠ 19 → v' q = u q := by
  obtain ⟨v', g1, g2, g3⟩ := c_26L (d := d) (w := w) (R := R) M 0 u hC (by omega)
  obtain ⟨hM, -, h1⟩ := sC_M hC
  refine ⟨v', (bq_26_0 (d + 5) p (QM u w)).trans g1, ?_, g3⟩
  unfold s_hour
  rw [h1, nI_clamp (by omega)]
  exact g2
theorem c_25L {d p M n : Nat} {w : Nat → Nat → Int64} {R : Nat → Int32} (hn : n < 2 ^ 31) : ∀ (r k : Nat) (u : Nat → Nat → Int32), sC u p (s_go R k) M → k + r = n → ∃ v', qs_EV (d + 6) 25 2 [some (.ref p), some (.int (nI n)), some (.int (nI k))] [] (QM u w) = some (none, QM v' w) ∧ sC v' p (s_go R n) M ∧ ∀ q, ¬ inP p q → q ≠ 19 → v' q = u q
  | 0, k, u, hC, hk => by
    obtain rfl : k = n := by omega
    refine ⟨u, ?_, hC, fun _ _ _ => rfl⟩
    refine (bq_25_2 (d + 6) p _ _ (QM u w)).trans ?_
    rw [if_pos (nI_le (Nat.le_refl _) hn)]
  | r + 1, k, u, hC, hk => by
    obtain ⟨v, a1, a2, a3⟩ := c_26 (d := d) (w := w) hC
    obtain ⟨v', g1, g2, g3⟩ := c_25L (d := d) (w := w) hn r (k + 1) v a2 (by omega)
    refine ⟨v', ?_, g2, fun q h1 h2 => by rw [g3 q h1 h2, a3 q h1 h2]⟩
    have z := zP hC.1
    unfold zPp at z
    rw [nI_succ] at g1
    refine (bq_25_2 (d + 6) p _ _ (QM u w)).trans ?_
    rw [if_neg (nI_ge (by omega) hn)]
    simp only [QM_kd, QM_sz, QM_lk, QM_i, QM_wi, zI, qs_bI, qs_bV, qb_0, z, a1, g1, Bool.true_eq_false, Nat.reduceSub, Nat.reduceLeDiff, Nat.reduceLT, true_and, and_true, and_self, if_true, if_false]
theorem c_25 {d p M n : Nat} {u : Nat → Nat → Int32} {w : Nat → Nat → Int64} {R : Nat → Int32} (hC : sC u p R M) (hn : n < 2 ^ 31) : ∃ v', qs_call (d + 7) 25 [.ref p, .int (nI n)] (QM u w) = some (none, QM v' w) ∧ sC v' p (s_go R n) M ∧ ∀ q, ¬ inP p q → q ≠ 19 → v' q = u q := by
  obtain ⟨v', g1, g2, g3⟩ := c_25L (d := d) (w := w) (R := R) hn n 0 u hC (by omega)
  exact ⟨v', (bq_25_0 (d + 6) p _ (QM u w)).trans g1, g2, g3⟩
