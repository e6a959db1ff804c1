/-! TEXT, call by call -/
theorem c_50L {d T N : Nat} {w : Nat → Nat → Int64} (hT : T < 14) (hN : N ≤ 96) : ∀ (r k : Nat) (u : Nat → Nat → Int32), k + r = N → u (20 + 2 * T) 2 = nI N → (∀ j, j < k → u (21 + 2 * T) j = u 51 j) → ∃ v, qs_EV d 50 26 [some (.ref (20 + 2 * T)), some (.ref 50), some (.int (nI k))] [] (QM u w) = some (none, QM v w) ∧ (∀ j, j < N → v (21 + 2 * T) j = u 51 j) ∧ ∀ x, x ≠ 21 + 2 * T → v x = u x
  | 0, k, u, hk, h2, hj => by
    obtain rfl : k = N := by omega
    refine ⟨u, ?_, hj, fun _ _ => rfl⟩
    have z := zT hT
    unfold zTt at z
    have e : nI k ≤ nI k := nI_le (Nat.le_refl _) (by omega)
    refine (bq_50_26 d _ 50 _ (QM u w)).trans ?_
    simp only [QM_kd, QM_sz, QM_lk, QM_i, QM_wi, zI, qs_bI, qs_bV, qb_0, zQ, z, h2, e, Bool.true_eq_false, Nat.reduceSub, Nat.reduceLeDiff, Nat.reduceLT, true_and, and_true, and_self, if_true, if_false]
  | r + 1, k, u, hk, h2, hj => by
    obtain ⟨v, i1, i2, i3⟩ := c_50L (d := d) (w := w) hT hN r (k + 1) (qu u (21 + 2 * T) k (u 51 k)) (by omega) (by rw [qu_ne _ _ _ (by omega)]; exact h2) (fun j hj2 => by
      rw [qu_ne u (a := 51) _ _ (by omega), qu_at]
      by_cases e : j = k
      · rw [if_pos ⟨rfl, e⟩, e]
      · rw [if_neg (by omega)]
        exact hj j (by omega))
    refine ⟨v, ?_, fun j hj2 => by rw [i2 j hj2, qu_ne u (a := 51) _ _ (by omega)], fun x hx => by rw [i3 x hx, qu_ne _ _ _ hx]⟩
    have z := zT hT
    unfold zTt at z
    have e : ¬ nI N ≤ nI k := nI_ge (by omega) (by omega)
    have e2 : ¬ (96 : Int32) ≤ nI k := nI_ge (b := 96) (by omega) (by omega)
    have e3 : (nI k).toNatClampNeg = k ∧ 0 ≤ nI k ∧ k < 96 := ⟨nI_clamp (by omega), nI_pos' (by omega), by omega⟩
    have z2 : qs_lk qy_m 50 0 = 53 := qy_lk (by decide) (by decide)
    rw [nI_succ] at i1
    refine (bq_50_26 d _ 50 _ (QM u w)).trans ?_
    simp only [QM_kd, QM_sz, QM_lk, QM_i, QM_wi, zI, qs_bI, qs_bV, qb_0, zQ, z, z2, h2, e, e2, e3, Nat.add_sub_cancel, Nat.le_add_left, Bool.true_eq_false, Nat.reduceSub, Nat.reduceLeDiff, Nat.reduceLT, true_and, and_true, and_self, if_true, if_false]
    exact i1
theorem c_50 {d T N : Nat} {u : Nat → Nat → Int32} {w : Nat → Nat → Int64} (hT : T < 14) (hN : N ≤ 96) (h2 : u 50 2 = nI N) : ∃ v, qs_call (d + 1) 50 [.ref (20 + 2 * T), .ref 50] (QM u w) = some (none, QM v w) ∧ v (20 + 2 * T) 1 = u 50 1 ∧ v (20 + 2 * T) 2 = nI N ∧ v (20 + 2 * T) 3 = u 50 3 ∧ (∀ j, j < N → v (21 + 2 * T) j = u 51 j) ∧ ∀ x, x ≠ 20 + 2 * T → x ≠ 21 + 2 * T → v x = u x := by
  obtain ⟨v, i1, i2, i3⟩ := c_50L (d := d) (w := w) hT hN N 0 (qu (qu (qu u (20 + 2 * T) 1 (u 50 1)) (20 + 2 * T) 2 (u 50 2)) (20 + 2 * T) 3 (u 50 3)) (by omega) (by rw [qu_at, if_neg (by omega), qu_at, if_pos ⟨rfl, rfl⟩, h2]) (fun j hj => by omega)
  have n50 : ∀ y, qu u (20 + 2 * T) 1 y 50 = u 50 := fun y => qu_ne _ _ _ (by omega)
  have n50' : ∀ y x, qu (qu u (20 + 2 * T) 1 y) (20 + 2 * T) 2 x 50 = u 50 := fun y x => by rw [qu_ne _ _ _ (by omega), n50]
  refine ⟨v, ?_, by rw [i3 _ (by omega), qu_at, if_neg (by omega), qu_at, if_neg (by omega), qu_at, if_pos ⟨rfl, rfl⟩], by rw [i3 _ (by omega), qu_at, if_neg (by omega), qu_at, if_pos ⟨rfl, rfl⟩, h2], by rw [i3 _ (by omega), qu_at, if_pos ⟨rfl, rfl⟩], fun j hj => by rw [i2 j hj, qu_ne _ _ _ (by omega), qu_ne _ _ _ (by omega), qu_ne _ _ _ (by omega)], fun x x1 x2 => by rw [i3 x x2, qu_ne _ _ _ x1, qu_ne _ _ _ x1, qu_ne _ _ _ x1]⟩
  have z := zT hT
  unfold zTt at z
  refine (bq_50_0 d _ 50 (QM u w)).trans ?_
  simp only [QM_kd, QM_sz, QM_lk, QM_i, QM_wi, zI, qs_bI, qs_bV, qb_0, zQ, z, n50, n50', Nat.add_sub_cancel, Nat.le_add_left, Bool.true_eq_false, Nat.reduceSub, Nat.reduceLeDiff, Nat.reduceLT, true_and, and_true, and_self, if_true, if_false]
  rw [nI_0] at i1
  exact i1
theorem m_178L {d T N : Nat} {o : Option Value} {w : Nat → Nat → Int64} (hT : T < 14) (hN : N ≤ 96) : ∀ (r k : Nat) (u : Nat → Nat → Int32), k + r = N → u 116 19 = nI N → u 117 11 = nI T → (∀ j, j < k → u 117 (104 + 96 * T + j) = u 125 j) → ∃ v, qs_EV d 178 117 [some (.ref 116), o, some (.int (nI T)), some (.int (nI k))] [] (QM u w) = some (some (.int (nI T)), QM v w) ∧ (∀ j, j < N → v 117 (104 + 96 * T + j) = u 125 j) ∧ v 117 11 = nI (T + 1) ∧ (∀ i, i ≠ 11 → ¬ (104 + 96 * T ≤ i ∧ i < 104 + 96 * T + 96) → v 117 i = u 117 i) ∧ ∀ x, x ≠ 117 → v x = u x
  | 0, k, u, hk, h2, h11, hj => by
    obtain rfl : k = N := by omega
    refine ⟨qu u 117 11 (nI (T + 1)), ?_, fun j hj2 => by rw [qu_at, if_neg (by omega)]; exact hj j hj2, by simp [qu], fun i i1 i2 => by rw [qu_at, if_neg (by omega)], fun x hx => qu_ne _ _ _ hx⟩
    have e : nI k ≤ nI k := nI_le (Nat.le_refl _) (by omega)
    rw [nI_succ]
    refine (bq_178_117 d 116 _ _ _ (QM u w)).trans ?_
    simp only [QM_kd, QM_sz, QM_lk, QM_i, QM_wi, zM, zI, qs_bI, qs_bV, qb_0, h2, h11, e, Bool.true_eq_false, Nat.reduceSub, Nat.reduceLeDiff, Nat.reduceLT, true_and, and_true, and_self, if_true, if_false]
  | r + 1, k, u, hk, h2, h11, hj => by
    obtain ⟨v, i1, i2, i3, i4, i5⟩ := m_178L (d := d) (o := o) (w := w) hT hN r (k + 1) (qu u 117 (104 + 96 * T + k) (u 125 k)) (by omega) (by rw [qu_ne _ _ _ (by omega)]; exact h2) (by rw [qu_at, if_neg (by omega)]; exact h11) (fun j hj2 => by
      rw [qu_ne u (a := 125) _ _ (by omega), qu_at]
      by_cases e : j = k
      · rw [if_pos ⟨rfl, by omega⟩, e]
      · rw [if_neg (by omega)]
        exact hj j (by omega))
    refine ⟨v, ?_, fun j hj2 => by rw [i2 j hj2, qu_ne u (a := 125) _ _ (by omega)], i3, fun i j1 j2 => by rw [i4 i j1 j2, qu_at, if_neg (by omega)], fun x hx => by rw [i5 x hx, qu_ne _ _ _ hx]⟩
    have e : ¬ nI N ≤ nI k := nI_ge (by omega) (by omega)
    have e3 : (nI k).toNatClampNeg = k ∧ 0 ≤ nI k ∧ k < 96 := ⟨nI_clamp (by omega), nI_pos' (by omega), by omega⟩
    have x1 := ix_cd (t := T) (k := k) (by omega) (by omega)
    have x3 : 104 + 96 * T + k < 1448 := by omega
    rw [nI_succ] at i1
    refine (bq_178_117 d 116 _ _ _ (QM u w)).trans ?_
    simp only [QM_kd, QM_sz, QM_lk, QM_i, QM_wi, zM, zI, qs_bI, qs_bV, qb_0, h2, h11, e, e3, x1, x3, Bool.true_eq_false, Nat.reduceSub, Nat.reduceLeDiff, Nat.reduceLT, true_and, and_true, and_self, if_true, if_false]
    exact i1
