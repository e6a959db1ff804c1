/-! WHERE DRIPS HANG, in the reference -/
theorem s_rn_lt (R : Nat → Int32) {M j : Nat} (hj : j < M) : s_rn R M j < M := by
  unfold s_rn s_left
  (repeat' split) <;> omega
theorem s_rn_low (R : Nat → Int32) (M j : Nat) : s_rn R M j = j ∨ s_jo R (s_rn R M j) 6 < s_jo R j 6 := by
  unfold s_rn
  have hl : s_left R j = j ∨ s_jo R (s_left R j) 6 < s_jo R j 6 := by
    unfold s_left
    split
    · rename_i h
      exact Or.inr h.2
    · exact Or.inl rfl
  split
  · rename_i h
    rcases hl with e | e
    · rw [e] at h
      exact Or.inr h.2
    · exact Or.inr (Int32.lt_trans h.2 e)
  · exact hl
def s_cn (R : Nat → Int32) (x : Int32) : Nat → Nat
  | 0 => 0
  | n + 1 => s_cn R x n + if s_jo R n 6 < x then 1 else 0
theorem s_cn_le (R : Nat → Int32) {x y : Int32} (h : x < y) : ∀ n, s_cn R x n ≤ s_cn R y n
  | 0 => Nat.le_refl _
  | n + 1 => by
    have ih := s_cn_le R h n
    unfold s_cn
    by_cases h1 : s_jo R n 6 < x
    · rw [if_pos h1, if_pos (Int32.lt_trans h1 h)]
      omega
    · rw [if_neg h1]
      omega
theorem s_cn_lt (R : Nat → Int32) {x y : Int32} {k : Nat} (h : x < y) (hx : s_jo R k 6 = x) : ∀ n, k < n → s_cn R x n < s_cn R y n
  | 0, hk => by omega
  | n + 1, hk => by
    unfold s_cn
    by_cases e : k = n
    · subst e
      have ih := s_cn_le R h k
      rw [hx, if_pos h, if_neg (fun q : x < x => Int32.lt_irrefl q)]
      omega
    · have ih := s_cn_lt R h hx n (by omega)
      by_cases h1 : s_jo R n 6 < x
      · rw [if_pos h1, if_pos (Int32.lt_trans h1 h)]
        omega
      · rw [if_neg h1]
        omega
theorem s_cn_M (R : Nat → Int32) (x : Int32) : ∀ n, s_cn R x n ≤ n
  | 0 => Nat.le_refl _
  | n + 1 => by
    have ih := s_cn_M R x n
    unfold s_cn
    split <;> omega
def s_it (R : Nat → Int32) (M : Nat) : Nat → Nat → Nat
  | 0, a => a
  | n + 1, a => s_it R M n (s_rn R M a)
theorem s_it_fix (R : Nat → Int32) (M : Nat) {a : Nat} (h : s_rn R M a = a) : ∀ n, s_it R M n a = a
  | 0 => rfl
  | n + 1 => by
    show s_it R M n (s_rn R M a) = a
    rw [h, s_it_fix R M h n]
theorem mq_124L {d : Nat} {M : Nat} {u : Nat → Nat → Int32} {w : Nat → Nat → Int64} (hM : M ≤ 8) (h1 : u 117 1 = nI M) : ∀ (f a : Nat) (o : Option Value), a < M → s_cn (u 117) (s_jo (u 117) a 6) M ≤ f → qs_EV (d + 3) 124 2 [some (.ref 116), o, some (.int (nI a))] [] (QM u w) = some (some (.int (nI (s_it (u 117) M f a))), QM u w) := by
  intro f
  induction f with
  | zero =>
    intro a o ha hf
    have e : s_rn (u 117) M a = a := by
      rcases s_rn_low (u 117) M a with e | e
      · exact e
      · have := s_cn_lt (u 117) e rfl M (s_rn_lt _ ha)
        omega
    refine (bq_124_2 (d + 3) 116 o _ (QM u w)).trans ?_
    simp only [QM_kd, zM, qs_bI, mq_123 hM h1 rfl ha, e, if_true]
    rfl
  | succ f ih =>
    intro a o ha hf
    refine (bq_124_2 (d + 3) 116 o _ (QM u w)).trans ?_
    rcases s_rn_low (u 117) M a with e | e
    · rw [s_it_fix _ _ e]
      simp only [QM_kd, zM, qs_bI, mq_123 hM h1 rfl ha, e, if_true]
    · have h2 := s_cn_lt (u 117) e rfl M (s_rn_lt _ ha)
      have h3 := s_rn_lt (u 117) ha
      have hne : ¬ nI (s_rn (u 117) M a) = nI a := by
        intro q
        have q2 := (nI_eq (by omega) (by omega)).mp q
        rw [q2] at e
        exact Int32.lt_irrefl e
      simp only [QM_kd, zM, qs_bI, mq_123 hM h1 rfl ha, hne, if_true, if_false]
      exact ih _ _ h3 (by omega)
theorem mq_124 {d : Nat} {j M : Nat} {x : Int32} {u : Nat → Nat → Int32} {w : Nat → Nat → Int64} (hM : M ≤ 8) (h1 : u 117 1 = nI M) (hx : x = nI j) (hj : j < M) : qs_call (d + 4) 124 [.ref 116, .int x] (QM u w) = some (some (.int (nI (s_it (u 117) M M j))), QM u w) := by
  subst hx
  exact (bq_124_0 (d + 3) 116 _ (QM u w)).trans (mq_124L hM h1 M j _ hj (s_cn_M _ _ M))
