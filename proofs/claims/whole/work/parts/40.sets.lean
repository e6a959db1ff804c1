/-! SUMS AND SETS OVER JOINTS, in the reference -/
def s_ck (R : Nat → Int32) : Nat → Int32
  | 0 => 0
  | n + 1 => if s_jo R n 0 = 5 then s_ck R n ||| (1 <<< (nI n &&& 31)) else s_ck R n ||| 0
theorem mq_144L {d : Nat} {u : Nat → Nat → Int32} {w : Nat → Nat → Int64} {M : Nat} (hM : M ≤ 8) (h1 : u 117 1 = nI M) : ∀ (r k : Nat), k + r = M → qs_EV (d + 1) 144 4 [some (.ref 116), some (.int (s_ck (u 117) k)), some (.int (nI k))] [] (QM u w) = some (some (.int (s_ck (u 117) M)), QM u w)
  | 0, k, hk => by
    obtain rfl : k = M := by omega
    refine (bq_144_4 (d + 1) 116 _ _ (QM u w)).trans ?_
    have e2 : nI k ≤ nI k := nI_le (Nat.le_refl _) (by omega)
    simp only [QM_kd, QM_sz, QM_lk, QM_i, zM, zI, h1, e2, Nat.reduceSub, Nat.reduceLeDiff, Nat.reduceLT, true_and, and_true, if_true]
  | r + 1, k, hk => by
    have g1 := mq_144L (d := d) (u := u) (w := w) hM h1 r (k + 1) (by omega)
    refine (bq_144_4 (d + 1) 116 _ _ (QM u w)).trans ?_
    rw [nI_succ, s_ck] at g1
    have e2 : ¬ nI M ≤ nI k := nI_ge (by omega) (by omega)
    by_cases h5 : s_jo (u 117) k 0 = 5
    · rw [if_pos h5] at g1
      simp only [QM_kd, QM_sz, QM_lk, QM_i, zM, zI, h1, e2, h5, qs_bI, mc_112 0 (show nI k = nI k from rfl) (show k < 8 by omega) n_0 (by decide), g1, Nat.reduceSub, Nat.reduceLeDiff, Nat.reduceLT, true_and, and_true, if_true, if_false]
    · rw [if_neg h5] at g1
      simp only [QM_kd, QM_sz, QM_lk, QM_i, zM, zI, h1, e2, h5, qs_bI, mc_112 0 (show nI k = nI k from rfl) (show k < 8 by omega) n_0 (by decide), g1, Nat.reduceSub, Nat.reduceLeDiff, Nat.reduceLT, true_and, and_true, if_true, if_false]
theorem mq_144 {d : Nat} {u : Nat → Nat → Int32} {w : Nat → Nat → Int64} {M : Nat} (hM : M ≤ 8) (h1 : u 117 1 = nI M) : qs_call (d + 2) 144 [.ref 116] (QM u w) = some (some (.int (s_ck (u 117) M)), QM u w) :=
  (bq_144_0 (d + 1) 116 (QM u w)).trans (mq_144L hM h1 M 0 (by omega))
def s_sink (R : Nat → Int32) (M : Nat) (x : Int32) : Int32 :=
  if x = 0 then R 6 else if x = 1 then R 7 else if x = 2 then R 8 else if x = 3 then R 9 else if x = 4 then R 10 else if x = 5 then R 3 else if x = 6 then s_sum R M else if x = 7 then s_ck R M else if x = 8 then s_ts R M else sBAD
theorem mq_145 {d : Nat} {u : Nat → Nat → Int32} {w : Nat → Nat → Int64} {x : Int32} {M : Nat} (hM : M ≤ 8) (h1 : u 117 1 = nI M) (h : s_tx (u 117)) : ∃ v', qs_call (d + 7) 145 [.ref 116, .int x] (QM u w) = some (some (.int (s_sink (u 117) M x)), QM v' w) ∧ ∀ a, a ≠ 128 → a ≠ 129 → v' a = u a := by
  have i6 : ((6 : Int32) + 0).toNatClampNeg = 6 ∧ ((6 : Int32) + 1).toNatClampNeg = 7 ∧ ((6 : Int32) + 2).toNatClampNeg = 8 ∧ ((6 : Int32) + 3).toNatClampNeg = 9 ∧ ((6 : Int32) + 4).toNatClampNeg = 10 ∧ ((0 : Int32) ≤ 6 + 0) ∧ ((0 : Int32) ≤ 6 + 1) ∧ ((0 : Int32) ≤ 6 + 2) ∧ ((0 : Int32) ≤ 6 + 3) ∧ ((0 : Int32) ≤ 6 + 4) := by decide
  have base : ∀ (c : Int32) (y : Int32), x = c → qs_call (d + 7) 145 [.ref 116, .int c] (QM u w) = some (some (.int y), QM u w) → s_sink (u 117) M c = y → ∃ v', qs_call (d + 7) 145 [.ref 116, .int x] (QM u w) = some (some (.int (s_sink (u 117) M x)), QM v' w) ∧ ∀ a, a ≠ 128 → a ≠ 129 → v' a = u a := by
    intro c y e g1 g2
    subst e
    exact ⟨u, by rw [g1, g2], fun _ _ _ => rfl⟩
  by_cases h0 : x = 0
  · exact base 0 (u 117 6) h0 ((bq_145_0 (d + 6) 116 _ (QM u w)).trans (by simp only [QM_kd, QM_sz, QM_lk, QM_i, zM, i6, Nat.reduceSub, Nat.reduceLeDiff, Nat.reduceLT, true_and, and_true, if_true])) rfl
  by_cases h2 : x = 1
  · exact base 1 (u 117 7) h2 ((bq_145_0 (d + 6) 116 _ (QM u w)).trans (by simp only [QM_kd, QM_sz, QM_lk, QM_i, zM, i6, show ¬ (1 : Int32) = 0 by decide, Nat.reduceSub, Nat.reduceLeDiff, Nat.reduceLT, true_and, and_true, if_true, if_false])) rfl
  by_cases h3 : x = 2
  · exact base 2 (u 117 8) h3 ((bq_145_0 (d + 6) 116 _ (QM u w)).trans (by simp only [QM_kd, QM_sz, QM_lk, QM_i, zM, i6, show ¬ (2 : Int32) = 0 by decide, show ¬ (2 : Int32) = 1 by decide, Nat.reduceSub, Nat.reduceLeDiff, Nat.reduceLT, true_and, and_true, if_true, if_false])) rfl
  by_cases h4 : x = 3
  · exact base 3 (u 117 9) h4 ((bq_145_0 (d + 6) 116 _ (QM u w)).trans (by simp only [QM_kd, QM_sz, QM_lk, QM_i, zM, i6, show ¬ (3 : Int32) = 0 by decide, show ¬ (3 : Int32) = 1 by decide, show ¬ (3 : Int32) = 2 by decide, Nat.reduceSub, Nat.reduceLeDiff, Nat.reduceLT, true_and, and_true, if_true, if_false])) rfl
  by_cases h5 : x = 4
  · exact base 4 (u 117 10) h5 ((bq_145_0 (d + 6) 116 _ (QM u w)).trans (by simp only [QM_kd, QM_sz, QM_lk, QM_i, zM, i6, show ¬ (4 : Int32) = 0 by decide, show ¬ (4 : Int32) = 1 by decide, show ¬ (4 : Int32) = 2 by decide, show ¬ (4 : Int32) = 3 by decide, Nat.reduceSub, Nat.reduceLeDiff, Nat.reduceLT, true_and, and_true, if_true, if_false])) rfl
  have hs : s_sink (u 117) M x = if x = 5 then u 117 3 else if x = 6 then s_sum (u 117) M else if x = 7 then s_ck (u 117) M else if x = 8 then s_ts (u 117) M else sBAD := by
    unfold s_sink
    rw [if_neg h0, if_neg h2, if_neg h3, if_neg h4, if_neg h5]
  rw [hs]
  by_cases h6 : x = 6
  · obtain ⟨v', k1, k2⟩ := mq_142 (d := d) (w := w) hM h1 h
    refine ⟨v', ?_, k2⟩
    refine (bq_145_0 (d + 6) 116 _ (QM u w)).trans ?_
    have h7 : ¬ x = 5 := by rw [h6]; decide
    rw [if_neg h0, if_neg h2, if_neg h3, if_neg h4, if_neg h5, if_neg h7, if_pos h6, if_neg h7, if_pos h6]
    simp only [QM_kd, zM, qs_bI, k1, if_true]
  · refine ⟨u, ?_, fun _ _ _ => rfl⟩
    refine (bq_145_0 (d + 6) 116 _ (QM u w)).trans ?_
    rw [if_neg h0, if_neg h2, if_neg h3, if_neg h4, if_neg h5]
    by_cases h7 : x = 5
    · rw [if_pos h7, if_pos h7]
      simp only [QM_kd, QM_sz, QM_lk, QM_i, zM, zI, Nat.reduceSub, Nat.reduceLeDiff, Nat.reduceLT, true_and, and_true, if_true]
    rw [if_neg h7, if_neg h7, if_neg h6, if_neg h6]
    by_cases h8 : x = 7
    · rw [if_pos h8, if_pos h8]
      simp only [QM_kd, zM, qs_bI, mq_144 hM h1, if_true]
    rw [if_neg h8, if_neg h8]
    by_cases h9 : x = 8
    · rw [if_pos h9, if_pos h9]
      simp only [QM_kd, zM, qs_bI, mq_143 hM h1, if_true]
    rw [if_neg h9, if_neg h9]
    rfl
