/-! TURNING, AN HOUR, in the class -/
theorem c_17 {d p : Nat} {u : Nat → Nat → Int32} {w : Nat → Nat → Int64} (hp : isP p) : qs_call (d + 1) 17 [.ref p] (QM u w) = some (some (.int (s_dr (s_z (u p 13)))), QM (qu u p 13 (s_z (u p 13))) w) := by
  have z := zP hp
  unfold zPp at z
  refine (bq_17_0 d p (QM u w)).trans ?_
  have e : qu u p 13 (u p 13 * 1103515245 + 12345) p 13 = u p 13 * 1103515245 + 12345 := by simp [qu]
  simp only [QM_kd, QM_sz, QM_lk, QM_i, QM_wi, zI, qs_bI, qs_bV, qb_0, z, e, Bool.true_eq_false, Nat.reduceSub, Nat.reduceLeDiff, Nat.reduceLT, true_and, and_true, and_self, if_true, if_false]
  rfl
theorem c_5 {d k : Nat} {u : Nat → Nat → Int32} {w : Nat → Nat → Int64} {x : Int32} (z : zJ k) : qs_call (d + 2) 5 [.ref k, .int x] (QM u w) = some (none, QM (qu u k 1 (s_cl 0 40 (u k 1 + x))) w) := by
  unfold zJ at z
  refine (bq_5_0 (d + 1) k x (QM u w)).trans ?_
  simp only [QM_kd, QM_sz, QM_lk, QM_i, QM_wi, zI, qs_bI, qs_bV, qb_0, z, c_98, Bool.true_eq_false, Nat.reduceSub, Nat.reduceLeDiff, Nat.reduceLT, true_and, and_true, and_self, if_true, if_false]
theorem s_bears_cg {J K : Nat → Int32} (h : ∀ c, c < 8 → J c = K c) : s_bears J = s_bears K := by
  unfold s_bears
  rw [h 0 (by omega), h 2 (by omega), h 4 (by omega)]
theorem s_worth_cg {J K : Nat → Int32} (h : ∀ c, c < 8 → J c = K c) : s_worth J = s_worth K := by
  unfold s_worth
  rw [h 0 (by omega), h 1 (by omega)]
theorem sJb_cg {J K : Nat → Int32} (h : ∀ c, c < 8 → J c = K c) (hK : sJb K) : sJb J := fun c hc => by
  rw [h c hc]
  exact hK c hc
theorem c_8p {d p j M : Nat} {u : Nat → Nat → Int32} {w : Nat → Nat → Int64} {R : Nat → Int32} (hC : sC u p R M) (hj : j < M) : qs_call (d + 3) 8 [.ref (p + 3 + j)] (QM u w) = some (some (.int (s_bears (s_jo R j))), QM u w) := by
  have hM := (sC_M hC).1
  have h := fun c hc => sJ_e (c := c) hC hj hc
  rw [c_8 (zPj hC.1 (by omega)).2.2 hC.2.2.2.1 (sJb_cg h (hC.2.2.1.2.2.1 j hj)), s_bears_cg h]
theorem s_cl40 {x : Int32} : ∃ n, n ≤ s_mx 1 ∧ s_cl 0 40 x = nI n := s_cl_n (n := 40) x (by omega)
theorem s_cl9 {x : Int32} {c : Nat} (hc : 3 ≤ c) : ∃ n, n ≤ s_mx c ∧ s_cl 0 9 x = nI n := by
  have : s_mx c = 9 := by
    unfold s_mx
    split <;> first | omega | rfl
  rw [this]
  exact s_cl_n (n := 9) x (by omega)
theorem inP_p (p : Nat) : inP p p := ⟨by omega, by omega⟩
theorem inP_j {p j : Nat} (h : j < 8) : inP p (p + 3 + j) := ⟨by omega, by omega⟩
theorem ne_inP {p q r : Nat} (h : ¬ inP p q) (g : inP p r) : q ≠ r := fun e => h (by rw [e]; exact g)
theorem c_18 {d p j M : Nat} {u : Nat → Nat → Int32} {w : Nat → Nat → Int64} {R : Nat → Int32} (hC : sC u p R M) (hj : j < M) : ∃ v', qs_call (d + 4) 18 [.ref p, .ref (p + 3 + j)] (QM u w) = some (none, QM v' w) ∧ sC v' p (s_qu R j) M ∧ ∀ q, ¬ inP p q → v' q = u q := by
  have hp := hC.1
  obtain ⟨hM, h3, -⟩ := sC_M hC
  have zj := (zPj (j := j) hp (by omega)).2.2
  have zj0 := zj
  have z := zP hp
  unfold zPp at z
  unfold zJ at zj
  have j1 := sJ_e (c := 1) hC hj (by omega)
  have hC1 := sC_jo (c := 1) (x := s_cl 0 40 (s_jo R j 1 + 1)) hC hj (by omega) s_cl40
  have a5 := c_5 (d := d + 1) (u := u) (w := w) (x := 1) zj0
  rw [j1] at a5
  have n1 : ∀ q, ¬ inP p q → qu u (p + 3 + j) 1 (s_cl 0 40 (s_jo R j 1 + 1)) q = u q := fun q hq => qu_ne _ _ _ (ne_inP hq (inP_j (by omega)))
  have hs : s_qu R j = if s_jo (upd R (12 + 8 * j + 1) (s_cl 0 40 (s_jo R j 1 + 1))) j 1 - s_bears (s_jo (upd R (12 + 8 * j + 1) (s_cl 0 40 (s_jo R j 1 + 1))) j) ≤ 0 then upd R (12 + 8 * j + 1) (s_cl 0 40 (s_jo R j 1 + 1)) else if 10 * (s_jo (upd R (12 + 8 * j + 1) (s_cl 0 40 (s_jo R j 1 + 1))) j 1 - s_bears (s_jo (upd R (12 + 8 * j + 1) (s_cl 0 40 (s_jo R j 1 + 1))) j)) ≤ s_dr (s_z (R 0)) - s_dr (s_z (R 0)) / 100 * 100 then upd (upd R (12 + 8 * j + 1) (s_cl 0 40 (s_jo R j 1 + 1))) 0 (s_z (R 0)) else upd (upd (upd (upd R (12 + 8 * j + 1) (s_cl 0 40 (s_jo R j 1 + 1))) 0 (s_z (R 0))) (12 + 8 * j + 0) 5) 9 (R 9 + 1) := rfl
  rw [hs]
  clear hs
  have r0 : upd R (12 + 8 * j + 1) (s_cl 0 40 (s_jo R j 1 + 1)) 0 = R 0 := by
    unfold upd
    rw [if_neg (by omega)]
  have r9 : upd R (12 + 8 * j + 1) (s_cl 0 40 (s_jo R j 1 + 1)) 9 = R 9 := by
    unfold upd
    rw [if_neg (by omega)]
  generalize hR : upd R (12 + 8 * j + 1) (s_cl 0 40 (s_jo R j 1 + 1)) = R1 at hC1 r0 r9 ⊢
  generalize hv : qu u (p + 3 + j) 1 (s_cl 0 40 (s_jo R j 1 + 1)) = v at hC1 a5 n1
  have a8 := c_8p (d := d) (w := w) hC1 hj
  have k1 := sJ_e (c := 1) hC1 hj (by omega)
  have k13 : v p 13 = R1 0 := hC1.2.1.2.2.2.2.2.2.2.2.2.2.1
  by_cases h1 : s_jo R1 j 1 - s_bears (s_jo R1 j) ≤ 0
  · refine ⟨v, ?_, by rw [if_pos h1]; exact hC1, n1⟩
    refine (bq_18_0 (d + 3) p (p + 3 + j) (QM u w)).trans ?_
    simp only [QM_kd, QM_sz, QM_lk, QM_i, QM_wi, zI, qs_bI, qs_bV, qb_0, z, zj, a5, a8, k1, h1, Bool.true_eq_false, Nat.reduceSub, Nat.reduceLeDiff, Nat.reduceLT, true_and, and_true, and_self, if_true, if_false]
  have hC2 := sC_fld (f := 13) (i := 0) (x := s_z (R 0)) hC1 (by unfold sPair; omega) (by omega)
  have a17 := c_17 (d := d + 2) (u := v) (w := w) hp
  rw [k13, r0] at a17
  by_cases h2 : 10 * (s_jo R1 j 1 - s_bears (s_jo R1 j)) ≤ s_dr (s_z (R 0)) - s_dr (s_z (R 0)) / 100 * 100
  · refine ⟨_, ?_, by rw [if_neg h1, if_pos h2]; exact hC2, fun q hq => by rw [qu_ne _ _ _ (ne_inP hq (inP_p p)), n1 q hq]⟩
    refine (bq_18_0 (d + 3) p (p + 3 + j) (QM u w)).trans ?_
    simp only [QM_kd, QM_sz, QM_lk, QM_i, QM_wi, zI, qs_bI, qs_bV, qb_0, z, zj, a5, a8, k1, h1, a17, h2, Bool.true_eq_false, Nat.reduceSub, Nat.reduceLeDiff, Nat.reduceLT, true_and, and_true, and_self, if_true, if_false]
  · have hC3 := sC_jo (c := 0) (x := 5) hC2 hj (by omega) ⟨5, by decide, rfl⟩
    have hC4 := sC_fld (f := 10) (i := 9) (x := R 9 + 1) hC3 (by unfold sPair; omega) (by omega)
    have k10 : qu (qu v p 13 (s_z (R 0))) (p + 3 + j) 0 5 p 10 = R 9 := by
      rw [qu_at, if_neg (by omega), qu_at, if_neg (by omega)]
      have : v p 10 = R1 9 := hC1.2.1.2.2.2.2.2.2.2.1
      rw [this, r9]
    refine ⟨_, ?_, by rw [if_neg h1, if_neg h2]; exact hC4, fun q hq => by rw [qu_ne _ _ _ (ne_inP hq (inP_p p)), qu_ne _ _ _ (ne_inP hq (inP_j (by omega))), qu_ne _ _ _ (ne_inP hq (inP_p p)), n1 q hq]⟩
    refine (bq_18_0 (d + 3) p (p + 3 + j) (QM u w)).trans ?_
    simp only [QM_kd, QM_sz, QM_lk, QM_i, QM_wi, zI, qs_bI, qs_bV, qb_0, z, zj, a5, a8, k1, h1, a17, h2, k10, Bool.true_eq_false, Nat.reduceSub, Nat.reduceLeDiff, Nat.reduceLT, true_and, and_true, and_self, if_true, if_false]
theorem qmin_cl {l : Nat} (x : Int32) (hl : l < 2 ^ 31) : qs_min (nI l) (qs_max 0 x) = s_cl 0 (nI l) x := by
  unfold qs_min qs_max s_cl
  by_cases h : (0 : Int32) < x
  · rw [if_pos h, if_pos (Int32.le_of_lt h)]
    by_cases h2 : x < nI l
    · rw [if_pos h2, if_pos (Int32.le_of_lt h2)]
    · rw [if_neg h2]
      by_cases h3 : x ≤ nI l
      · rw [if_pos h3]
        exact Int32.le_antisymm (Int32.not_lt.mp h2) h3
      · rw [if_neg h3]
  · rw [if_neg h]
    have h1 : x ≤ 0 := Int32.not_lt.mp h
    by_cases h0 : 0 ≤ x
    · have e : x = 0 := Int32.le_antisymm h1 h0
      subst e
      rw [if_pos h0, if_pos (nI_pos' hl)]
      by_cases h2 : (0 : Int32) < nI l
      · rw [if_pos h2]
      · rw [if_neg h2]
        exact Int32.le_antisymm (Int32.not_lt.mp h2) (nI_pos' hl)
    · rw [if_neg h0]
      by_cases h2 : (0 : Int32) < nI l
      · rw [if_pos h2]
      · rw [if_neg h2]
        exact Int32.le_antisymm (Int32.not_lt.mp h2) (nI_pos' hl)
theorem qmin9 {s : Nat} (h : s ≤ 9) : qs_min 9 (nI s + 1) = s_cl 0 9 (nI s + 1) := by
  rcases (by omega : s = 0 ∨ s = 1 ∨ s = 2 ∨ s = 3 ∨ s = 4 ∨ s = 5 ∨ s = 6 ∨ s = 7 ∨ s = 8 ∨ s = 9) with rfl | rfl | rfl | rfl | rfl | rfl | rfl | rfl | rfl | rfl <;> decide
theorem c_27 {d p j M : Nat} {u : Nat → Nat → Int32} {w : Nat → Nat → Int64} {R : Nat → Int32} (hC : sC u p R M) (hj : j < M) : ∃ v', qs_call (d + 4) 27 [.ref p, .ref (p + 3 + j)] (QM u w) = some (none, QM v' w) ∧ sC v' p (s_drip R j) M ∧ ∀ q, ¬ inP p q → q ≠ 19 → v' q = u q := by
  have hp := hC.1
  obtain ⟨hM, h3, -⟩ := sC_M hC
  have zj := (zPj (j := j) hp (by omega)).2.2
  have z := zP hp
  unfold zPp at z
  unfold zJ at zj
  obtain ⟨v, a1, a2⟩ := c_19 (d := d) (w := w) hC hj
  have hV := sC_19 hC a2
  have j7 := sJ_e (c := 7) hV hj (by omega)
  obtain ⟨s, s1, s2⟩ := hC.2.2.1.2.2.1 j hj 7 (by omega)
  have s1 : s ≤ 9 := s1
  obtain ⟨l, l1, l2⟩ := s_leak_n R (s_jo R j)
  have p6 : v p 6 = R 5 := hV.2.1.2.2.2.1
  have p7 : v p 7 = R 6 := hV.2.1.2.2.2.2.1
  have p8 : v p 8 = R 7 := hV.2.1.2.2.2.2.2.1
  have p9 : v p 9 = R 8 := hV.2.1.2.2.2.2.2.2.1
  have hq := qmin_cl (l := l) (R 5 - R 7) (by omega)
  unfold s_drip
  rw [l2] at a1 ⊢
  generalize ht : s_cl 0 (nI l) (R 5 - R 7) = t at hq
  have hC1 := sC_fld (f := 7) (i := 6) (x := R 6 + nI l) hV (by unfold sPair; omega) (by omega)
  have hC2 := sC_fld (f := 8) (i := 7) (x := R 7 + t) hC1 (by unfold sPair; omega) (by omega)
  have hC3 := sC_fld (f := 9) (i := 8) (x := R 8 + (nI l - t)) hC2 (by unfold sPair; omega) (by omega)
  have c8 : ∀ x, qu v p 7 x p 8 = R 7 := fun x => by rw [qu_at, if_neg (by omega), p8]
  have c9 : ∀ x y, qu (qu v p 7 x) p 8 y p 9 = R 8 := fun x y => by rw [qu_at, if_neg (by omega), qu_at, if_neg (by omega), p9]
  have c7 : ∀ x y a, qu (qu (qu v p 7 x) p 8 y) p 9 a (p + 3 + j) 7 = nI s := fun x y a => by rw [qu_at, if_neg (by omega), qu_at, if_neg (by omega), qu_at, if_neg (by omega), j7, s2]
  have n1 : ∀ q, ¬ inP p q → q ≠ 19 → qu (qu (qu v p 7 (R 6 + nI l)) p 8 (R 7 + t)) p 9 (R 8 + (nI l - t)) q = u q := fun q hq h19 => by rw [qu_ne _ _ _ (ne_inP hq (inP_p p)), qu_ne _ _ _ (ne_inP hq (inP_p p)), qu_ne _ _ _ (ne_inP hq (inP_p p)), a2 q h19]
  dsimp only
  rw [ht]
  by_cases h1 : (1 : Int32) ≤ nI l
  · have g1 : ¬ nI l < 1 := Int32.not_lt.mpr h1
    by_cases h2 : nI l ≤ 3
    · have g2 : ¬ 3 < nI l := Int32.not_lt.mpr h2
      have hC4 := sC_jo (c := 7) (x := s_cl 0 9 (s_jo R j 7 + 1)) hC3 hj (by omega) (s_cl9 (by omega))
      refine ⟨_, ?_, by rw [if_pos ⟨h1, h2⟩]; exact hC4, fun q hq h19 => by rw [qu_ne _ _ _ (ne_inP hq (inP_j (by omega))), n1 q hq h19]⟩
      refine (bq_27_0 (d + 3) p (p + 3 + j) (QM u w)).trans ?_
      simp only [QM_kd, QM_sz, QM_lk, QM_i, QM_wi, zI, qs_bI, qs_bV, qb_0, z, zj, a1, p6, p7, p8, c7, c8, c9, hq, g1, g2, qmin9 s1, s2, Bool.true_eq_false, Nat.reduceSub, Nat.reduceLeDiff, Nat.reduceLT, true_and, and_true, and_self, if_true, if_false]
    · have g2 : 3 < nI l := Int32.not_le.mp h2
      refine ⟨_, ?_, by rw [if_neg (fun q => h2 q.2)]; exact hC3, n1⟩
      refine (bq_27_0 (d + 3) p (p + 3 + j) (QM u w)).trans ?_
      simp only [QM_kd, QM_sz, QM_lk, QM_i, QM_wi, zI, qs_bI, qs_bV, qb_0, z, zj, a1, p6, p7, p8, c7, c8, c9, hq, g1, g2, Bool.true_eq_false, Nat.reduceSub, Nat.reduceLeDiff, Nat.reduceLT, true_and, and_true, and_self, if_true, if_false]
  · have g1 : nI l < 1 := Int32.not_le.mp h1
    refine ⟨_, ?_, by rw [if_neg (fun q => h1 q.1)]; exact hC3, n1⟩
    refine (bq_27_0 (d + 3) p (p + 3 + j) (QM u w)).trans ?_
    simp only [QM_kd, QM_sz, QM_lk, QM_i, QM_wi, zI, qs_bI, qs_bV, qb_0, z, zj, a1, p6, p7, p8, c7, c8, c9, hq, g1, Bool.true_eq_false, Nat.reduceSub, Nat.reduceLeDiff, Nat.reduceLT, true_and, and_true, and_self, if_true, if_false]
theorem c_28 {d p k : Nat} {u : Nat → Nat → Int32} {w : Nat → Nat → Int64} (hp : isP p) (zj : zJ k) (hk : p ≠ k) : qs_call (d + 3) 28 [.ref p, .ref k] (QM u w) = some (none, QM (qu (qu (qu u k 1 (s_cl 0 40 (u k 1 + -1))) k 7 0) p 11 (u p 11 + 1)) w) := by
  have z := zP hp
  unfold zPp at z
  have zj0 := zj
  unfold zJ at zj
  refine (bq_28_0 (d + 2) p k (QM u w)).trans ?_
  have e : ∀ x y, qu (qu u k 1 x) k 7 y p 11 = u p 11 := fun x y => by rw [qu_at, if_neg (by omega), qu_at, if_neg (by omega)]
  simp only [QM_kd, QM_sz, QM_lk, QM_i, QM_wi, zI, qs_bI, qs_bV, qb_0, z, zj, c_5 (d := d) zj0, e, Bool.true_eq_false, Nat.reduceSub, Nat.reduceLeDiff, Nat.reduceLT, true_and, and_true, and_self, if_true, if_false]
