/-! WHAT IS ONLY THOUGHT, in the class -/
def fth (u v : Nat → Nat → Int32) : Prop := ∀ q, ¬ inP 74 q → q ≠ 19 → v q = u q
theorem fth_r (u : Nat → Nat → Int32) : fth u u := fun _ _ _ => rfl
theorem fth_t {u v x : Nat → Nat → Int32} (h : fth u v) (g : fth v x) : fth u x := fun q h1 h2 => (g q h1 h2).trans (h q h1 h2)
theorem sC_52 {u v : Nat → Nat → Int32} {R : Nat → Int32} {M : Nat} (h : sC u 52 R M) (g : fth u v) : sC v 52 R M := sC_same h (fun q hq => g q (by unfold inP at *; omega) (by unfold inP at *; omega))
theorem isP74 : isP 74 := Or.inr (Or.inr rfl)
theorem z74 : zPp 74 := zP isP74
theorem zj74 {j : Nat} (hj : j < 8) : qs_lk qy_m (74 + 1) j = 74 + 3 + j + 2 ∧ 18 ≤ 74 + 3 + j + 2 ∧ qs_kd qy_m (74 + 3 + j) = 0 ∧ qs_lk qy_m (74 + 3 + j) 0 = 0 ∧ qs_lk qy_m (74 + 3 + j) 1 = 0 ∧ qs_lk qy_m (74 + 3 + j) 2 = 0 ∧ qs_lk qy_m (74 + 3 + j) 3 = 0 ∧ qs_lk qy_m (74 + 3 + j) 4 = 0 ∧ qs_lk qy_m (74 + 3 + j) 5 = 0 ∧ qs_lk qy_m (74 + 3 + j) 6 = 0 ∧ qs_lk qy_m (74 + 3 + j) 7 = 0 ∧ (nI j).toNatClampNeg = j ∧ 0 ≤ nI j ∧ j < 8 := by
  obtain ⟨z1, z2, z3⟩ := zPj (p := 74) (j := j) isP74 hj
  unfold zJ at z3
  exact ⟨z1, z2, z3.1, z3.2.1, z3.2.2.1, z3.2.2.2.1, z3.2.2.2.2.1, z3.2.2.2.2.2.1, z3.2.2.2.2.2.2.1, z3.2.2.2.2.2.2.2.1, z3.2.2.2.2.2.2.2.2, nI_clamp (by omega), nI_pos' (by omega), hj⟩
theorem th_take {d M : Nat} {u : Nat → Nat → Int32} {w : Nat → Nat → Int64} {R : Nat → Int32} (hC : sC u 52 R M) : ∃ v, qs_call (d + 3) 14 [.ref 74, .ref 52] (QM u w) = some (none, QM v w) ∧ sC v 74 R M ∧ fth u v := by
  obtain ⟨v, a1, a2, a3⟩ := c_14 (d := d) (w := w) hC isP74 (by omega)
  exact ⟨v, a1, a2, fun q h1 _ => a3 q h1⟩
theorem fth_jo {u : Nat → Nat → Int32} {j c : Nat} {x : Int32} (hj : j < 8) : fth u (qu u (74 + 3 + j) c x) := fun q h1 _ => qu_ne _ _ _ (ne_inP h1 (inP_j hj))
/-- the same but for the cell of the least -/
def fthL (u v : Nat → Nat → Int32) : Prop := ∀ q, ¬ inP 74 q → q ≠ 19 → q ≠ 139 → v q = u q
theorem fthL_r (u : Nat → Nat → Int32) : fthL u u := fun _ _ _ _ => rfl
theorem fthL_t {u v x : Nat → Nat → Int32} (h : fthL u v) (g : fthL v x) : fthL u x := fun q h1 h2 h3 => (g q h1 h2 h3).trans (h q h1 h2 h3)
theorem fth.L {u v : Nat → Nat → Int32} (h : fth u v) : fthL u v := fun q h1 h2 _ => h q h1 h2
theorem fthL_1 {u v : Nat → Nat → Int32} (h : ∀ q, q ≠ 139 → v q = u q) : fthL u v := fun q _ _ h3 => h q h3
theorem fth_139 {u v : Nat → Nat → Int32} (h : fth u v) : v 139 = u 139 := h 139 (by unfold inP; omega) (by omega)
theorem sC_52L {u v : Nat → Nat → Int32} {R : Nat → Int32} {M : Nat} (h : sC u 52 R M) (g : fthL u v) : sC v 52 R M := sC_same h (fun q hq => g q (by unfold inP at *; omega) (by unfold inP at *; omega) (by unfold inP at *; omega))
theorem zLe : qs_lk qy_m 16 10 = 141 ∧ qs_kd qy_m 139 = 9 ∧ qs_lk qy_m 139 0 = 0 ∧ qs_lk qy_m 139 1 = 0 := ⟨zl_16_10, zk_139, zl_139_0, zl_139_1⟩
/-- the least: begun, looked, found -/
theorem c_213 {d : Nat} {u : Nat → Nat → Int32} {w : Nat → Nat → Int64} : ∃ v, qs_call (d + 1) 213 [.ref 139] (QM u w) = some (none, QM v w) ∧ (v 139 0, v 139 1) = (sNO, sNO) ∧ ∀ a, a ≠ 139 → v a = u a := by
  refine ⟨qu (qu u 139 0 sNO) 139 1 sNO, ?_, by simp [qu], fun a ha => by rw [qu_ne _ _ _ ha, qu_ne _ _ _ ha]⟩
  refine (bq_213_0 d 139 (QM u w)).trans ?_
  simp only [QM_kd, QM_lk, QM_wi, zLe, and_self, if_true]
  rfl
theorem c_214 {d : Nat} {u : Nat → Nat → Int32} {w : Nat → Nat → Int64} {b : Int32 × Int32} {x y : Int32} (hb : (u 139 0, u 139 1) = b) : ∃ v, qs_call (d + 1) 214 [.ref 139, .int x, .int y] (QM u w) = some (none, QM v w) ∧ (v 139 0, v 139 1) = s_see b x y ∧ ∀ a, a ≠ 139 → v a = u a := by
  subst hb
  have hq : ((qu (qu u 139 0 x) 139 1 y) 139 0, (qu (qu u 139 0 x) 139 1 y) 139 1) = (x, y) := by simp [qu]
  unfold s_see
  by_cases h1 : u 139 0 = sNO
  · refine ⟨qu (qu u 139 0 x) 139 1 y, ?_, by rw [hq, if_pos h1], fun a ha => by rw [qu_ne _ _ _ ha, qu_ne _ _ _ ha]⟩
    refine (bq_214_0 d 139 x y (QM u w)).trans ?_
    unfold sNO at h1
    simp only [QM_kd, QM_lk, QM_i, QM_wi, zLe, h1, and_self, if_true]
  · by_cases h2 : u 139 1 ≤ y
    · refine ⟨u, ?_, by rw [if_neg h1, if_pos h2], fun _ _ => rfl⟩
      refine (bq_214_0 d 139 x y (QM u w)).trans ?_
      unfold sNO at h1
      have h3 : ¬ y < u 139 1 := Int32.not_lt.mpr h2
      simp only [QM_kd, QM_lk, QM_i, QM_wi, zLe, h1, h3, and_self, if_true, if_false]
    · refine ⟨qu (qu u 139 0 x) 139 1 y, ?_, by rw [hq, if_neg h1, if_neg h2], fun a ha => by rw [qu_ne _ _ _ ha, qu_ne _ _ _ ha]⟩
      refine (bq_214_0 d 139 x y (QM u w)).trans ?_
      unfold sNO at h1
      have h3 : y < u 139 1 := Int32.not_le.mp h2
      simp only [QM_kd, QM_lk, QM_i, QM_wi, zLe, h1, h3, and_self, if_true, if_false]
theorem c_215 {d : Nat} {u : Nat → Nat → Int32} {w : Nat → Nat → Int64} {b : Int32 × Int32} {x : Int32} (hb : (u 139 0, u 139 1) = b) : qs_call (d + 1) 215 [.ref 139, .int x] (QM u w) = some (some (.int (s_pick b x)), QM u w) := by
  subst hb
  unfold s_pick
  refine (bq_215_0 d 139 x (QM u w)).trans ?_
  by_cases h : x = 0
  · simp only [QM_kd, QM_lk, QM_i, zLe, h, and_self, if_true]
  · simp only [QM_kd, QM_lk, QM_i, zLe, h, and_self, if_true, if_false]
theorem c_6 {d k a : Nat} {u : Nat → Nat → Int32} {w : Nat → Nat → Int64} (z : zJ k) (ha : a ≤ 3) : qs_call (d + 1) 6 [.ref k, .int (nI a)] (QM u w) = some (none, QM (if a = 3 then qu u k 5 (qs_min 9 (u k 5 + 1)) else qu u k (2 + a) 0) w) := by
  unfold zJ at z
  refine (bq_6_0 d k _ (QM u w)).trans ?_
  rcases (by omega : a = 0 ∨ a = 1 ∨ a = 2 ∨ a = 3) with rfl | rfl | rfl | rfl
  · simp only [QM_kd, QM_sz, QM_lk, QM_i, QM_wi, zI, qs_bI, qs_bV, qb_0, z, show nI 0 = 0 from rfl, Bool.true_eq_false, Nat.reduceSub, Nat.reduceLeDiff, Nat.reduceLT, true_and, and_true, and_self, if_true, if_false]
    rfl
  · simp only [QM_kd, QM_sz, QM_lk, QM_i, QM_wi, zI, qs_bI, qs_bV, qb_0, z, show nI 1 = 1 from rfl, iN, Bool.true_eq_false, Nat.reduceSub, Nat.reduceLeDiff, Nat.reduceLT, true_and, and_true, and_self, if_true, if_false]
    rfl
  · simp only [QM_kd, QM_sz, QM_lk, QM_i, QM_wi, zI, qs_bI, qs_bV, qb_0, z, show nI 2 = 2 from rfl, iN, Bool.true_eq_false, Nat.reduceSub, Nat.reduceLeDiff, Nat.reduceLT, true_and, and_true, and_self, if_true, if_false]
    rfl
  · simp only [QM_kd, QM_sz, QM_lk, QM_i, QM_wi, zI, qs_bI, qs_bV, qb_0, z, show nI 3 = 3 from rfl, iN, Bool.true_eq_false, Nat.reduceSub, Nat.reduceLeDiff, Nat.reduceLT, true_and, and_true, and_self, if_true, if_false]
theorem mend_C {v : Nat → Nat → Int32} {R : Nat → Int32} {j a M : Nat} (hC : sC v 74 R M) (hj : j < M) (ha : a ≤ 3) : sC (if a = 3 then qu v (74 + 3 + j) 5 (qs_min 9 (v (74 + 3 + j) 5 + 1)) else qu v (74 + 3 + j) (2 + a) 0) 74 (s_mS R j a) M := by
  unfold s_mS
  by_cases h : a = 3
  · rw [if_pos h, if_pos h]
    have e5 := sJ_e (c := 5) hC hj (by omega)
    obtain ⟨s, s1, s2⟩ := hC.2.2.1.2.2.1 j hj 5 (by omega)
    rw [e5, s2, qmin9 s1]
    exact sC_jo hC hj (by omega) (s_cl9 (by omega))
  · rw [if_neg h, if_neg h]
    exact sC_jo hC hj (by omega) ⟨0, by omega, rfl⟩
theorem mend_f {v : Nat → Nat → Int32} {j a : Nat} {x : Int32} (hj : j < 8) : fth v (if a = 3 then qu v (74 + 3 + j) 5 x else qu v (74 + 3 + j) (2 + a) 0) := by
  split <;> exact fth_jo hj
theorem d_67_L {d M : Nat} {u0 : Nat → Nat → Int32} {w : Nat → Nat → Int64} {R : Nat → Int32} {x : Int32} {j : Nat} (hj : j < M) : ∀ (r k : Nat) (u : Nat → Nat → Int32), k + r = 19 → sC u 52 R M → fthL u0 u → (u 139 0, u 139 1) = s_best (s_qF R M j) k → ∃ v', qs_EV (d + 5) 67 32 [some (.ref 16), some (.int (nI j)), some (.int x), some (.int (nI k - 9))] [] (QM u w) = some (some (.int (s_pick (s_best (s_qF R M j) 19) x)), QM v' w) ∧ fthL u0 v'
  | 0, k, u, hk, hC, hf, hb => by
    obtain rfl : k = 19 := by omega
    obtain ⟨hM, h3, hr1⟩ := sC_M hC
    have z := z52
    unfold zPp at z
    refine ⟨u, ?_, hf⟩
    refine (bq_67_32 (d + 5) 16 _ _ _ (QM u w)).trans ?_
    have b215 := c_215 (d := d + 4) (w := w) (x := x) hb
    have he : (9 : Int32) < nI 19 - 9 := by decide
    simp only [QM_kd, QM_sz, QM_lk, QM_i, QM_wi, zI, qs_bI, qs_bV, qb_0, zQ, zLe, z, h3, he, b215, Bool.true_eq_false, Nat.reduceSub, Nat.reduceLeDiff, Nat.reduceLT, true_and, and_true, and_self, if_true, if_false]
  | r + 1, k, u, hk, hC, hf, hb => by
    obtain ⟨hM, h3, hr1⟩ := sC_M hC
    have z := z52
    unfold zPp at z
    have zt := z74
    unfold zPp at zt
    have he2 : k < 19 := by omega
    have he : ¬ (9 : Int32) < nI k - 9 := by
      rcases (by omega : k = 0 ∨ k = 1 ∨ k = 2 ∨ k = 3 ∨ k = 4 ∨ k = 5 ∨ k = 6 ∨ k = 7 ∨ k = 8 ∨ k = 9 ∨ k = 10 ∨ k = 11 ∨ k = 12 ∨ k = 13 ∨ k = 14 ∨ k = 15 ∨ k = 16 ∨ k = 17 ∨ k = 18) with rfl | rfl | rfl | rfl | rfl | rfl | rfl | rfl | rfl | rfl | rfl | rfl | rfl | rfl | rfl | rfl | rfl | rfl | rfl <;> decide
    obtain ⟨v1, a1, a2, a3⟩ := th_take (d := d + 2) (w := w) hC
    have y := zj74 (j := j) (by omega)
    have zj := (zPj (p := 74) (j := j) isP74 (by omega)).2.2
    have e1 := sJ_e (c := 1) a2 hj (by omega)
    have b5 := c_5 (d := d + 3) (u := v1) (w := w) (x := nI k - 9) zj
    rw [e1] at b5
    have hC2 := sC_jo (c := 1) (x := s_cl 0 40 (s_jo R j 1 + (nI k - 9))) a2 hj (by omega) s_cl40
    have hf2 : fth v1 (qu v1 (74 + 3 + j) 1 (s_cl 0 40 (s_jo R j 1 + (nI k - 9)))) := fth_jo (by omega)
    obtain ⟨v3, c1, b3⟩ := c_20 (d := d + 1) (w := w) hC2
    have b3 : fth (qu v1 (74 + 3 + j) 1 (s_cl 0 40 (s_jo R j 1 + (nI k - 9)))) v3 := fun q _ h => b3 q h
    have hf3 : fth u v3 := fth_t a3 (fth_t hf2 b3)
    obtain ⟨v4, e4, e5, e6⟩ := c_214 (d := d + 4) (u := v3) (w := w) (b := s_best (s_qF R M j) k) (x := nI k - 9) (y := s_sum (upd R (12 + 8 * j + 1) (s_cl 0 40 (s_jo R j 1 + (nI k - 9)))) M) (by rw [fth_139 hf3]; exact hb)
    have hf4 : fthL u v4 := fthL_t hf3.L (fthL_1 e6)
    have es : nI (k + 1) - 9 = nI k - 9 + 1 := by rw [nI_succ, Int32.sub_eq_add_neg, Int32.sub_eq_add_neg, Int32.add_assoc, Int32.add_assoc]; rfl
    obtain ⟨v', g, g2⟩ := d_67_L (d := d) (w := w) (x := x) hj r (k + 1) v4 (by omega) (sC_52L hC hf4) (fthL_t hf hf4) e5
    refine ⟨v', ?_, g2⟩
    rw [es] at g
    refine (bq_67_32 (d + 5) 16 _ _ _ (QM u w)).trans ?_
    simp only [QM_kd, QM_sz, QM_lk, QM_i, QM_wi, zI, qs_bI, qs_bV, qb_0, zQ, zLe, z, zt, y, h3, he, a1, b5, c1, e4, Nat.add_sub_cancel, Nat.le_add_left, Bool.true_eq_false, Nat.reduceSub, Nat.reduceLeDiff, Nat.reduceLT, true_and, and_true, and_self, if_true, if_false]
    exact g
theorem d_71_L {d M : Nat} {u0 : Nat → Nat → Int32} {w : Nat → Nat → Int64} {R : Nat → Int32} {x : Int32} {j : Nat} (hj : j < M) {n : Nat} (hn : n < 2 ^ 31) : ∀ (r k : Nat) (u : Nat → Nat → Int32), k + r = 4 → sC u 52 R M → fthL u0 u → (u 139 0, u 139 1) = s_best (s_mF R j n) k → ∃ v', qs_EV (d + 7) 71 39 [some (.ref 16), some (.int (nI j)), some (.int (nI n)), some (.int x), some (.int (nI k))] [] (QM u w) = some (some (.int (s_pick (s_best (s_mF R j n) 4) x)), QM v' w) ∧ fthL u0 v'
  | 0, k, u, hk, hC, hf, hb => by
    obtain rfl : k = 4 := by omega
    obtain ⟨hM, h3, hr1⟩ := sC_M hC
    have z := z52
    unfold zPp at z
    refine ⟨u, ?_, hf⟩
    refine (bq_71_39 (d + 7) 16 _ _ _ _ (QM u w)).trans ?_
    have b215 := c_215 (d := d + 6) (w := w) (x := x) hb
    have he : (3 : Int32) < nI 4 := by decide
    simp only [QM_kd, QM_sz, QM_lk, QM_i, QM_wi, zI, qs_bI, qs_bV, qb_0, zQ, zLe, z, h3, he, b215, Bool.true_eq_false, Nat.reduceSub, Nat.reduceLeDiff, Nat.reduceLT, true_and, and_true, and_self, if_true, if_false]
  | r + 1, k, u, hk, hC, hf, hb => by
    obtain ⟨hM, h3, hr1⟩ := sC_M hC
    have z := z52
    unfold zPp at z
    have zt := z74
    unfold zPp at zt
    have he2 : k < 4 := by omega
    have he : ¬ (3 : Int32) < nI k := nI_nlt (a := 3) (by omega) (by omega)
    obtain ⟨v1, a1, a2, a3⟩ := th_take (d := d + 4) (w := w) hC
    have y := zj74 (j := j) (by omega)
    have zj := (zPj (p := 74) (j := j) isP74 (by omega)).2.2
    have b6 := c_6 (d := d + 6) (u := v1) (w := w) zj (show k ≤ 3 by omega)
    have hC2 := mend_C a2 hj (show k ≤ 3 by omega)
    have hf2 : fth v1 (if k = 3 then qu v1 (74 + 3 + j) 5 (qs_min 9 (v1 (74 + 3 + j) 5 + 1)) else qu v1 (74 + 3 + j) (2 + k) 0) := mend_f (by omega)
    obtain ⟨v3, c1, c2, b3⟩ := c_25 (d := d) (w := w) (n := n) hC2 hn
    have c7 : v3 74 7 = s_go (s_mS R j k) n 6 := c2.2.1.2.2.2.2.1
    have b3 : fth (if k = 3 then qu v1 (74 + 3 + j) 5 (qs_min 9 (v1 (74 + 3 + j) 5 + 1)) else qu v1 (74 + 3 + j) (2 + k) 0) v3 := fun q h h19 => b3 q h h19
    have hf3 : fth u v3 := fth_t a3 (fth_t hf2 b3)
    obtain ⟨v4, e4, e5, e6⟩ := c_214 (d := d + 6) (u := v3) (w := w) (b := s_best (s_mF R j n) k) (x := nI k) (y := s_go (s_mS R j k) n 6) (by rw [fth_139 hf3]; exact hb)
    have hf4 : fthL u v4 := fthL_t hf3.L (fthL_1 e6)
    have es : nI (k + 1) = nI k + 1 := nI_succ k
    obtain ⟨v', g, g2⟩ := d_71_L (d := d) (w := w) (x := x) hj hn r (k + 1) v4 (by omega) (sC_52L hC hf4) (fthL_t hf hf4) e5
    refine ⟨v', ?_, g2⟩
    rw [es] at g
    refine (bq_71_39 (d + 7) 16 _ _ _ _ (QM u w)).trans ?_
    simp only [QM_kd, QM_sz, QM_lk, QM_i, QM_wi, zI, qs_bI, qs_bV, qb_0, zQ, zLe, z, zt, y, h3, he, a1, b6, c1, c7, e4, Nat.add_sub_cancel, Nat.le_add_left, Bool.true_eq_false, Nat.reduceSub, Nat.reduceLeDiff, Nat.reduceLT, true_and, and_true, and_self, if_true, if_false]
    exact g
theorem d_73_L {d M : Nat} {u0 : Nat → Nat → Int32} {w : Nat → Nat → Int64} {R : Nat → Int32} {x : Int32} {j : Nat} (hj : j < M) {n : Nat} (hn : n < 2 ^ 31) : ∀ (r k : Nat) (u : Nat → Nat → Int32), k + r = 6 → sC u 52 R M → fthL u0 u → (u 139 0, u 139 1) = s_best (s_bF R j n) k → ∃ v', qs_EV (d + 7) 73 39 [some (.ref 16), some (.int (nI j)), some (.int (nI n)), some (.int x), some (.int (nI k))] [] (QM u w) = some (some (.int (s_pick (s_best (s_bF R j n) 6) x)), QM v' w) ∧ fthL u0 v'
  | 0, k, u, hk, hC, hf, hb => by
    obtain rfl : k = 6 := by omega
    obtain ⟨hM, h3, hr1⟩ := sC_M hC
    have z := z52
    unfold zPp at z
    refine ⟨u, ?_, hf⟩
    refine (bq_73_39 (d + 7) 16 _ _ _ _ (QM u w)).trans ?_
    have b215 := c_215 (d := d + 6) (w := w) (x := x) hb
    have he : (6 : Int32) ≤ nI 6 := by decide
    simp only [QM_kd, QM_sz, QM_lk, QM_i, QM_wi, zI, qs_bI, qs_bV, qb_0, zQ, zLe, z, h3, he, b215, Bool.true_eq_false, Nat.reduceSub, Nat.reduceLeDiff, Nat.reduceLT, true_and, and_true, and_self, if_true, if_false]
  | r + 1, k, u, hk, hC, hf, hb => by
    obtain ⟨hM, h3, hr1⟩ := sC_M hC
    have z := z52
    unfold zPp at z
    have zt := z74
    unfold zPp at zt
    have he2 : k < 6 := by omega
    have he : ¬ (6 : Int32) ≤ nI k := nI_ge (b := 6) (by omega) (by omega)
    obtain ⟨v1, a1, a2, a3⟩ := th_take (d := d + 4) (w := w) hC
    have y := zj74 (j := j) (by omega)
    have zj := (zPj (p := 74) (j := j) isP74 (by omega)).2.2
    have hC2 := sC_jo (c := 0) (x := nI k) a2 hj (by omega) ⟨k, (by show k ≤ 5; omega), rfl⟩
    have hf2 : fth v1 (qu v1 (74 + 3 + j) 0 (nI k)) := fth_jo (by omega)
    obtain ⟨v3, c1, c2, b3⟩ := c_25 (d := d) (w := w) (n := n) hC2 hn
    have c7 : v3 74 7 = s_go (upd R (12 + 8 * j + 0) (nI k)) n 6 := c2.2.1.2.2.2.2.1
    have b3 : fth (qu v1 (74 + 3 + j) 0 (nI k)) v3 := fun q h h19 => b3 q h h19
    have hf3 : fth u v3 := fth_t a3 (fth_t hf2 b3)
    obtain ⟨v4, e4, e5, e6⟩ := c_214 (d := d + 6) (u := v3) (w := w) (b := s_best (s_bF R j n) k) (x := nI k) (y := s_go (upd R (12 + 8 * j + 0) (nI k)) n 6) (by rw [fth_139 hf3]; exact hb)
    have hf4 : fthL u v4 := fthL_t hf3.L (fthL_1 e6)
    have es : nI (k + 1) = nI k + 1 := nI_succ k
    obtain ⟨v', g, g2⟩ := d_73_L (d := d) (w := w) (x := x) hj hn r (k + 1) v4 (by omega) (sC_52L hC hf4) (fthL_t hf hf4) e5
    refine ⟨v', ?_, g2⟩
    rw [es] at g
    refine (bq_73_39 (d + 7) 16 _ _ _ _ (QM u w)).trans ?_
    simp only [QM_kd, QM_sz, QM_lk, QM_i, QM_wi, zI, qs_bI, qs_bV, qb_0, zQ, zLe, z, zt, y, h3, he, a1, c1, c7, e4, Nat.add_sub_cancel, Nat.le_add_left, Bool.true_eq_false, Nat.reduceSub, Nat.reduceLeDiff, Nat.reduceLT, true_and, and_true, and_self, if_true, if_false]
    exact g
theorem d_72_L {d M : Nat} {u0 : Nat → Nat → Int32} {w : Nat → Nat → Int64} {R : Nat → Int32} {x : Int32} {n : Nat} (hn : n < 2 ^ 31) : ∀ (r k : Nat) (u : Nat → Nat → Int32), k + r = M → sC u 52 R M → fthL u0 u → (u 139 0, u 139 1) = s_best (s_fF R n) k → ∃ v', qs_EV (d + 7) 72 27 [some (.ref 16), some (.int (nI n)), some (.int x), some (.int (nI k))] [] (QM u w) = some (some (.int (s_pick (s_best (s_fF R n) M) x)), QM v' w) ∧ fthL u0 v'
  | 0, k, u, hk, hC, hf, hb => by
    obtain rfl : k = M := by omega
    obtain ⟨hM, h3, hr1⟩ := sC_M hC
    have z := z52
    unfold zPp at z
    refine ⟨u, ?_, hf⟩
    refine (bq_72_27 (d + 7) 16 _ _ _ (QM u w)).trans ?_
    have b215 := c_215 (d := d + 6) (w := w) (x := x) hb
    have he : nI k ≤ nI k := nI_le (Nat.le_refl _) (by omega)
    simp only [QM_kd, QM_sz, QM_lk, QM_i, QM_wi, zI, qs_bI, qs_bV, qb_0, zQ, zLe, z, h3, he, b215, Bool.true_eq_false, Nat.reduceSub, Nat.reduceLeDiff, Nat.reduceLT, true_and, and_true, and_self, if_true, if_false]
  | r + 1, k, u, hk, hC, hf, hb => by
    obtain ⟨hM, h3, hr1⟩ := sC_M hC
    have z := z52
    unfold zPp at z
    have zt := z74
    unfold zPp at zt
    have he2 : k < M := by omega
    have he : ¬ nI M ≤ nI k := nI_ge (by omega) (by omega)
    obtain ⟨v1, a1, a2, a3⟩ := th_take (d := d + 4) (w := w) hC
    have y := zj74 (j := k) (by omega)
    have zj := (zPj (p := 74) (j := k) isP74 (by omega)).2.2
    have e1 := sJ_e (c := 1) a2 he2 (by omega)
    have b5 := c_5 (d := d + 5) (u := v1) (w := w) (x := 1) zj
    rw [e1] at b5
    have hC2 := sC_jo (c := 1) (x := s_cl 0 40 (s_jo R k 1 + 1)) a2 he2 (by omega) s_cl40
    have hf2 : fth v1 (qu v1 (74 + 3 + k) 1 (s_cl 0 40 (s_jo R k 1 + 1))) := fth_jo (by omega)
    obtain ⟨v3, c1, c2, b3⟩ := c_25 (d := d) (w := w) (n := n) hC2 hn
    have c7 : v3 74 7 = s_go (upd R (12 + 8 * k + 1) (s_cl 0 40 (s_jo R k 1 + 1))) n 6 := c2.2.1.2.2.2.2.1
    have b3 : fth (qu v1 (74 + 3 + k) 1 (s_cl 0 40 (s_jo R k 1 + 1))) v3 := fun q h h19 => b3 q h h19
    have hf3 : fth u v3 := fth_t a3 (fth_t hf2 b3)
    obtain ⟨v4, e4, e5, e6⟩ := c_214 (d := d + 6) (u := v3) (w := w) (b := s_best (s_fF R n) k) (x := nI k) (y := s_go (upd R (12 + 8 * k + 1) (s_cl 0 40 (s_jo R k 1 + 1))) n 6) (by rw [fth_139 hf3]; exact hb)
    have hf4 : fthL u v4 := fthL_t hf3.L (fthL_1 e6)
    have es : nI (k + 1) = nI k + 1 := nI_succ k
    obtain ⟨v', g, g2⟩ := d_72_L (d := d) (w := w) (x := x) hn r (k + 1) v4 (by omega) (sC_52L hC hf4) (fthL_t hf hf4) e5
    refine ⟨v', ?_, g2⟩
    rw [es] at g
    refine (bq_72_27 (d + 7) 16 _ _ _ (QM u w)).trans ?_
    simp only [QM_kd, QM_sz, QM_lk, QM_i, QM_wi, zI, qs_bI, qs_bV, qb_0, zQ, zLe, z, zt, y, h3, he, a1, b5, c1, c7, e4, Nat.add_sub_cancel, Nat.le_add_left, Bool.true_eq_false, Nat.reduceSub, Nat.reduceLeDiff, Nat.reduceLT, true_and, and_true, and_self, if_true, if_false]
    exact g
theorem d_74_L {d M : Nat} {u0 : Nat → Nat → Int32} {w : Nat → Nat → Int64} {R : Nat → Int32} {x : Int32} {n : Nat} (hn : n < 2 ^ 31) : ∀ (r k : Nat) (u : Nat → Nat → Int32), k + r = M → sC u 52 R M → fthL u0 u → (u 139 0, u 139 1) = s_best (s_lF R M n) k → ∃ v', qs_EV (d + 7) 74 27 [some (.ref 16), some (.int (nI n)), some (.int x), some (.int (nI k))] [] (QM u w) = some (some (.int (s_pick (s_best (s_lF R M n) M) x)), QM v' w) ∧ fthL u0 v'
  | 0, k, u, hk, hC, hf, hb => by
    obtain rfl : k = M := by omega
    obtain ⟨hM, h3, hr1⟩ := sC_M hC
    have z := z52
    unfold zPp at z
    refine ⟨u, ?_, hf⟩
    refine (bq_74_27 (d + 7) 16 _ _ _ (QM u w)).trans ?_
    have b215 := c_215 (d := d + 6) (w := w) (x := x) hb
    have he : nI k ≤ nI k := nI_le (Nat.le_refl _) (by omega)
    simp only [QM_kd, QM_sz, QM_lk, QM_i, QM_wi, zI, qs_bI, qs_bV, qb_0, zQ, zLe, z, h3, he, b215, Bool.true_eq_false, Nat.reduceSub, Nat.reduceLeDiff, Nat.reduceLT, true_and, and_true, and_self, if_true, if_false]
  | r + 1, k, u, hk, hC, hf, hb => by
    obtain ⟨hM, h3, hr1⟩ := sC_M hC
    have z := z52
    unfold zPp at z
    have zt := z74
    unfold zPp at zt
    have he2 : k < M := by omega
    have he : ¬ nI M ≤ nI k := nI_ge (by omega) (by omega)
    obtain ⟨v1, a1, a2, a3⟩ := th_take (d := d + 4) (w := w) hC
    have y := zj74 (j := k) (by omega)
    have zj := (zPj (p := 74) (j := k) isP74 (by omega)).2.2
    have e1 := sJ_e (c := 1) a2 he2 (by omega)
    have b5 := c_5 (d := d + 5) (u := v1) (w := w) (x := -1) zj
    rw [e1] at b5
    have hC2 : sC (qu v1 (74 + 3 + k) 1 (s_cl 0 40 (s_jo R k 1 + -1))) 74 (s_lS R k) M := sC_jo (c := 1) (x := s_cl 0 40 (s_jo R k 1 + -1)) a2 he2 (by omega) s_cl40
    have hf2 : fth v1 (qu v1 (74 + 3 + k) 1 (s_cl 0 40 (s_jo R k 1 + -1))) := fth_jo (by omega)
    obtain ⟨v3, c1, c2, b3⟩ := c_25 (d := d) (w := w) (n := n) hC2 hn
    have c21 := c_21 (d := d + 6) (w := w) c2
    have b3 : fth (qu v1 (74 + 3 + k) 1 (s_cl 0 40 (s_jo R k 1 + -1))) v3 := fun q h h19 => b3 q h h19
    have hf3 : fth u v3 := fth_t a3 (fth_t hf2 b3)
    obtain ⟨v4, e4, e5, e6⟩ := c_214 (d := d + 6) (u := v3) (w := w) (b := s_best (s_lF R M n) k) (x := nI k) (y := s_ts (s_go (s_lS R k) n) M) (by rw [fth_139 hf3]; exact hb)
    have hf4 : fthL u v4 := fthL_t hf3.L (fthL_1 e6)
    have es : nI (k + 1) = nI k + 1 := nI_succ k
    obtain ⟨v', g, g2⟩ := d_74_L (d := d) (w := w) (x := x) hn r (k + 1) v4 (by omega) (sC_52L hC hf4) (fthL_t hf hf4) e5
    refine ⟨v', ?_, g2⟩
    rw [es] at g
    refine (bq_74_27 (d + 7) 16 _ _ _ (QM u w)).trans ?_
    simp only [QM_kd, QM_sz, QM_lk, QM_i, QM_wi, zI, qs_bI, qs_bV, qb_0, zQ, zLe, z, zt, y, h3, he, a1, b5, c1, c21, e4, Nat.add_sub_cancel, Nat.le_add_left, Bool.true_eq_false, Nat.reduceSub, Nat.reduceLeDiff, Nat.reduceLT, true_and, and_true, and_self, if_true, if_false]
    exact g
