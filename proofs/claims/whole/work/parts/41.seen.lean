/-! SEEN, FROM, in the reference -/
def s_seen (R : Nat → Int32) (M : Nat) (x : Int32) : Nat → Int32
  | 0 => 0
  | n + 1 => if nI (s_it R M M n) = x then s_seen R M x n + s_leak R (s_jo R n) else s_seen R M x n + 0
theorem mq_146L {d : Nat} {R : Nat → Int32} {w : Nat → Nat → Int64} {x : Int32} {M : Nat} (hM : M ≤ 8) (h1 : R 1 = nI M) (h : s_tx R) : ∀ (r k : Nat) (u : Nat → Nat → Int32), k + r = M → u 117 = R → ∃ v', qs_EV (d + 5) 146 15 [some (.ref 116), some (.int x), some (.int (s_seen R M x k)), some (.int (nI k))] [] (QM u w) = some (some (.int (s_seen R M x M)), QM v' w) ∧ ∀ a, a ≠ 128 → a ≠ 129 → v' a = u a
  | 0, k, u, hk, hu => by
    obtain rfl : k = M := by omega
    refine ⟨u, ?_, fun _ _ _ => rfl⟩
    refine (bq_146_15 (d + 5) 116 _ _ _ (QM u w)).trans ?_
    have e2 : nI k ≤ nI k := nI_le (Nat.le_refl _) (by omega)
    simp only [QM_kd, QM_sz, QM_lk, QM_i, zM, zI, hu, h1, e2, Nat.reduceSub, Nat.reduceLeDiff, Nat.reduceLT, true_and, and_true, if_true]
  | r + 1, k, u, hk, hu => by
    have hu1 : u 117 1 = nI M := by rw [hu, h1]
    have g0 := mq_124 (d := d + 1) (x := nI k) (u := u) (w := w) hM hu1 rfl (show k < M by omega)
    rw [hu] at g0
    have e2 : ¬ nI M ≤ nI k := nI_ge (by omega) (by omega)
    by_cases hx : nI (s_it R M M k) = x
    · obtain ⟨v, k1, k2⟩ := mq_120 (d := d + 1) (j := k) (x1 := nI k) rfl (by omega) (u := u) (w := w) (by rw [hu]; exact h)
      rw [hu] at k1
      obtain ⟨v', g1, g2⟩ := mq_146L (d := d) (w := w) (x := x) hM h1 h r (k + 1) v (by omega) (by rw [k2 117 (by decide) (by decide), hu])
      refine ⟨v', ?_, fun a h2 h3 => by rw [g2 a h2 h3, k2 a h2 h3]⟩
      refine (bq_146_15 (d + 5) 116 _ _ _ (QM u w)).trans ?_
      rw [nI_succ, s_seen, if_pos hx] at g1
      simp only [QM_kd, QM_sz, QM_lk, QM_i, zM, zI, hu, h1, e2, qs_bI, g0, hx, k1, g1, Nat.reduceSub, Nat.reduceLeDiff, Nat.reduceLT, true_and, and_true, if_true, if_false]
    · obtain ⟨v', g1, g2⟩ := mq_146L (d := d) (w := w) (x := x) hM h1 h r (k + 1) u (by omega) hu
      refine ⟨v', ?_, g2⟩
      refine (bq_146_15 (d + 5) 116 _ _ _ (QM u w)).trans ?_
      rw [nI_succ, s_seen, if_neg hx] at g1
      simp only [QM_kd, QM_sz, QM_lk, QM_i, zM, zI, hu, h1, e2, qs_bI, g0, hx, g1, Nat.reduceSub, Nat.reduceLeDiff, Nat.reduceLT, true_and, and_true, if_true, if_false]
theorem mq_146 {d : Nat} {u : Nat → Nat → Int32} {w : Nat → Nat → Int64} {x : Int32} {M : Nat} (hM : M ≤ 8) (h1 : u 117 1 = nI M) (h : s_tx (u 117)) : ∃ v', qs_call (d + 6) 146 [.ref 116, .int x] (QM u w) = some (some (.int (if s_in x 0 (nI M - 1) = false then sBAD else s_seen (u 117) M x M)), QM v' w) ∧ ∀ a, a ≠ 128 → a ≠ 129 → v' a = u a := by
  by_cases g1 : s_in x 0 (nI M - 1) = false
  · refine ⟨u, ?_, fun _ _ _ => rfl⟩
    refine (bq_146_0 (d + 5) 116 _ (QM u w)).trans ?_
    rw [if_pos g1]
    simp only [QM_kd, zM, mc_111x h1, qs_bI, qb_0, g1, if_true]
    rfl
  · obtain ⟨v', k1, k2⟩ := mq_146L (d := d) (w := w) (x := x) hM h1 h M 0 u (by omega) rfl
    refine ⟨v', ?_, k2⟩
    refine (bq_146_0 (d + 5) 116 _ (QM u w)).trans ?_
    rw [if_neg g1]
    rw [nI_0] at k1
    simp only [s_seen] at k1
    simp only [QM_kd, zM, mc_111x h1, qs_bI, qb_0, g1, k1, Bool.true_eq_false, if_true, if_false]
def s_from (R : Nat → Int32) (M : Nat) (x : Int32) : Nat → Int32
  | 0 => 0
  | n + 1 => if nI (s_it R M M n) = x then s_from R M x n ||| (1 <<< (nI n &&& 31)) else s_from R M x n ||| 0
theorem mq_147L {d : Nat} {u : Nat → Nat → Int32} {w : Nat → Nat → Int64} {x : Int32} {M : Nat} (hM : M ≤ 8) (h1 : u 117 1 = nI M) : ∀ (r k : Nat), k + r = M → qs_EV (d + 5) 147 15 [some (.ref 116), some (.int x), some (.int (s_from (u 117) M x k)), some (.int (nI k))] [] (QM u w) = some (some (.int (s_from (u 117) M x M)), QM u w)
  | 0, k, hk => by
    obtain rfl : k = M := by omega
    refine (bq_147_15 (d + 5) 116 _ _ _ (QM u w)).trans ?_
    have e2 : nI k ≤ nI k := nI_le (Nat.le_refl _) (by omega)
    simp only [QM_kd, QM_sz, QM_lk, QM_i, zM, zI, h1, e2, Nat.reduceSub, Nat.reduceLeDiff, Nat.reduceLT, true_and, and_true, if_true]
  | r + 1, k, hk => by
    have g0 := mq_124 (d := d + 1) (x := nI k) (u := u) (w := w) hM h1 rfl (show k < M by omega)
    have e2 : ¬ nI M ≤ nI k := nI_ge (by omega) (by omega)
    have g1 := mq_147L (d := d) (u := u) (w := w) (x := x) hM h1 r (k + 1) (by omega)
    refine (bq_147_15 (d + 5) 116 _ _ _ (QM u w)).trans ?_
    by_cases hx : nI (s_it (u 117) M M k) = x
    · rw [nI_succ, s_from, if_pos hx] at g1
      simp only [QM_kd, QM_sz, QM_lk, QM_i, zM, zI, h1, e2, qs_bI, g0, hx, g1, Nat.reduceSub, Nat.reduceLeDiff, Nat.reduceLT, true_and, and_true, if_true, if_false]
    · rw [nI_succ, s_from, if_neg hx] at g1
      simp only [QM_kd, QM_sz, QM_lk, QM_i, zM, zI, h1, e2, qs_bI, g0, hx, g1, Nat.reduceSub, Nat.reduceLeDiff, Nat.reduceLT, true_and, and_true, if_true, if_false]
theorem mq_147 {d : Nat} {u : Nat → Nat → Int32} {w : Nat → Nat → Int64} {x : Int32} {M : Nat} (hM : M ≤ 8) (h1 : u 117 1 = nI M) : qs_call (d + 6) 147 [.ref 116, .int x] (QM u w) = some (some (.int (if s_in x 0 (nI M - 1) = false then sBAD else s_from (u 117) M x M)), QM u w) := by
  refine (bq_147_0 (d + 5) 116 _ (QM u w)).trans ?_
  by_cases g1 : s_in x 0 (nI M - 1) = false
  · rw [if_pos g1]
    simp only [QM_kd, zM, mc_111x h1, qs_bI, qb_0, g1, if_true]
    rfl
  · have k1 := mq_147L (d := d) (w := w) (x := x) hM h1 M 0 (by omega)
    rw [if_neg g1]
    rw [nI_0] at k1
    simp only [s_from] at k1
    simp only [QM_kd, zM, mc_111x h1, qs_bI, qb_0, g1, k1, Bool.true_eq_false, if_true, if_false]
