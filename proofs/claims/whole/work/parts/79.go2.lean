/-! TEXT: the reference's next, whole -/
theorem m_169 {d : Nat} {b : Nat → Nat} {n : Nat} {u : Nat → Nat → Int32} {w : Nat → Nat → Int64} {t : s_Tk} (h : s_tp b n) (hu : tpR u b n) (h5 : u 116 10 = nI t.2.2.1) (hE : tE (u 116 14) t) (ht : t.2.2.1 ≤ n) : ∃ v, qs_call (d + 3) 169 [.ref 116] (QM u w) = some (none, QM v w) ∧ frR u v ∧ tR v (s_nx b n t) := by
  have hn : n ≤ 96 := h.1
  obtain ⟨v1, b1, k2, b3, b4, b5⟩ := m_169b (d := d + 2) (w := w) h (n - t.2.2.1) t.2.2.1 u (by omega) hu h5
  have a0 : qs_call (d + 3) 169 [.ref 116] (QM u w) = qs_EV (d + 2) 169 62 [some (.ref 116), none] [.int (if nI (s_bl b n t.2.2.1) = u 116 14 then 1 else 0)] (QM v1 w) := b1
  rw [a0]
  have j4 : v1 116 10 = nI (s_bl b n t.2.2.1) := b4
  have j5 : v1 116 11 = nI (s_bl b n t.2.2.1) := b5
  clear b4 b5
  have c2 : t.2.2.1 ≤ s_bl b n t.2.2.1 ∧ s_bl b n t.2.2.1 ≤ n := by
    have := s_run_le (fun i => decide (b i = 32)) (n - t.2.2.1) t.2.2.1
    have := s_run_ge (fun i => decide (b i = 32)) (n - t.2.2.1) t.2.2.1
    unfold s_bl
    omega
  unfold s_nx
  generalize s_bl b n t.2.2.1 = q at *
  simp only
  have hcl : (nI q = u 116 14) = ((t.1 = 1 ∨ t.1 = 2) ∧ q = t.2.2.1) := by
    rw [eq_comm (a := nI q)]
    exact propext (hE q c2.1 (by omega))
  have hq := s_so_4 b n q
  have hv1 := tpR_f hu k2
  have f9 : v1 116 9 = nI n := hv1.1
  have k67 := m_167 (d := d + 1) (w := w) (p := q) h hv1 (by omega)
  have k68 := m_168 (d := d + 1) (w := w) (p := q) h hv1 (by omega)
  by_cases g0 : s_so b n q = 0
  · rw [if_pos g0]
    have := s_so_0.mp g0
    obtain rfl : q = n := by omega
    refine ⟨qu v1 116 12 0, ?_, frR_t k2 (frR_q (by omega) _), by simp [qu]; rfl, by simp [qu, j5], by simp [qu, j4], fun c => by simp at c, fun c => by simp at c⟩
    refine (bq_169_62 (d + 2) 116 _ _ (QM v1 w)).trans ?_
    simp only [QM_kd, QM_sz, QM_lk, QM_i, QM_wi, zM, zI, qs_bI, qs_bV, qb_0, j5, f9, Bool.true_eq_false, Nat.reduceSub, Nat.reduceLeDiff, Nat.reduceLT, true_and, and_true, and_self, if_true, if_false]
  rw [if_neg g0]
  have hqn : q < n := by
    have := mt (s_so_0 (b := b) (n := n) (p := q)).mpr g0
    omega
  have hnq : ¬ nI q = nI n := fun c => by
    have := (nI_eq (by omega) (by omega)).mp c
    omega
  have e3 : (nI q).toNatClampNeg = q ∧ 0 ≤ nI q ∧ q < 96 := ⟨nI_clamp (by omega), nI_pos' (by omega), by omega⟩
  have e4 : v1 122 q = nI (b q) := hv1.2 q hqn
  by_cases g3 : s_so b n q = 3
  · rw [if_pos g3]
    have s1 : s_is b n 1 q = false := by unfold s_is; simp [g3]
    have s2 : s_is b n 2 q = false := by unfold s_is; simp [g3]
    rw [s1] at k67
    rw [s2] at k68
    refine ⟨qu (qu (qu v1 116 12 3) 116 13 (nI (b q))) 116 10 (nI (q + 1)), ?_, frR_t (frR_t (frR_t k2 (frR_q (by omega) _)) (frR_q (by omega) _)) (frR_q (by omega) _), by simp [qu]; rfl, by simp [qu, j5], by simp [qu], fun _ => by simp [qu], fun _ _ => ?_⟩
    · refine (bq_169_62 (d + 2) 116 _ _ (QM v1 w)).trans ?_
      have f1 : ∀ y, qu v1 116 12 y 116 11 = nI q := fun y => by simp [qu, j5]
      have f2 : ∀ y, qu v1 116 12 y 122 q = nI (b q) := fun y => by simp [qu, e4]
      have f3 : ∀ y z, qu (qu v1 116 12 y) 116 13 z 116 10 = nI q := fun y z => by simp [qu, j4]
      rw [nI_succ]
      simp only [QM_kd, QM_sz, QM_lk, QM_i, QM_wi, zM, zI, qs_bI, qs_bV, qb_0, j4, j5, f9, hnq, k67, k68, e3, e4, f1, f2, f3, show qb false = 0 from rfl, Bool.true_eq_false, Nat.reduceSub, Nat.reduceLeDiff, Nat.reduceLT, true_and, and_true, and_self, if_true, if_false]
    · intro p hp hp96
      have e14 : qu (qu (qu v1 116 12 3) 116 13 (nI (b q))) 116 10 (nI (q + 1)) 116 14 = u 116 14 := by simp [qu, b3]
      rw [e14]
      simp only at hp
      constructor
      · intro c
        have := (hE p (by omega) hp96).mp c
        omega
      · intro c
        simp at c
  rw [if_neg g3]
  by_cases g1 : s_so b n q = 1
  · have s1 : s_is b n 1 q = true := by unfold s_is; simp [g1]
    rw [s1] at k67
    rw [g1]
    obtain ⟨v2, d1, d2, d3, d4, d5, d6, d7⟩ := m_169l (d := d + 1) (q := q) (x := if nI q = u 116 14 then 1 else 0) (w := w) h hqn (n - q) q v1 (by omega) hv1 j4 j5
    have f0 : q ≤ s_run (s_is b n 1) (n - q) q ∧ s_run (s_is b n 1) (n - q) q ≤ n := by
      have := s_run_le (s_is b n 1) (n - q) q
      have := s_run_ge (s_is b n 1) (n - q) q
      omega
    generalize s_run (s_is b n 1) (n - q) q = e at *
    have m1 : qs_EV (d + 2) 169 62 [some (.ref 116), none] [.int (if nI q = u 116 14 then 1 else 0)] (QM v1 w) = some (none, QM v2 w) := by
      refine (bq_169_62 (d + 2) 116 _ _ (QM v1 w)).trans ?_
      have r1 : ¬ qb true = 0 := by decide
      simp only [QM_kd, QM_sz, QM_lk, QM_i, QM_wi, zM, zI, qs_bI, qs_bV, qb_0, j4, j5, f9, hnq, k67, r1, Bool.true_eq_false, Nat.reduceSub, Nat.reduceLeDiff, Nat.reduceLT, true_and, and_true, and_self, if_true, if_false]
      exact d1
    refine ⟨v2, m1, frR_t k2 d2, ?_, d4, d5, ?_, ?_⟩
    · rw [d3]
      by_cases c : nI q = u 116 14
      · rw [if_pos c, if_neg (by decide)]
        rw [hcl] at c
        simp only
        rw [if_pos (Or.inr c)]
        rfl
      · rw [if_neg c, if_pos rfl]
        rw [hcl] at c
        simp only
        rw [if_neg (fun h => h.elim (fun h => by omega) c)]
        rfl
    · simp only
      intro c
      have hv : s_val 1 b q (q + 1 - q) = nI (b q) := by
        rw [show q + 1 - q = 0 + 1 by omega]
        rfl
      by_cases cc : ((1 = 2 ∧ 4 < e - q) ∨ ((t.1 = 1 ∨ t.1 = 2) ∧ q = t.2.2.1))
      · rw [if_pos cc] at c
        omega
      · rw [if_neg cc] at c
        have : e = q + 1 := by omega
        rw [this, hv, d6]
    · simp only
      intro _ c p hp hp96
      simp only at hp ⊢
      rw [d7]
      by_cases cc : ((1 = 2 ∧ 4 < e - q) ∨ ((t.1 = 1 ∨ t.1 = 2) ∧ q = t.2.2.1))
      · rw [if_pos cc] at c
        omega
      · rw [if_neg cc]
        constructor
        · intro i
          exact ⟨Or.inl rfl, ((nI_eq (by omega) (by omega)).mp i).symm⟩
        · intro i
          rw [i.2]
  · have g2 : s_so b n q = 2 := by omega
    have s1 : s_is b n 1 q = false := by unfold s_is; simp [g1]
    have s2 : s_is b n 2 q = true := by unfold s_is; simp [g2]
    rw [s1] at k67
    rw [s2] at k68
    rw [g2]
    obtain ⟨v2, d1, d2, d3, d4, d5, d6, d7⟩ := m_169d (d := d + 1) (q := q) (x := if nI q = u 116 14 then 1 else 0) (w := w) h (n - q) q (qu v1 116 13 0) (by omega) (by omega) (tpR_f hv1 (frR_q (by omega) _)) (by simp [qu, j4]) (by simp [qu, j5]) (fun _ => by rw [Nat.sub_self]; simp [qu, s_val])
    have f0 : q ≤ s_run (s_is b n 2) (n - q) q ∧ s_run (s_is b n 2) (n - q) q ≤ n := by
      have := s_run_le (s_is b n 2) (n - q) q
      have := s_run_ge (s_is b n 2) (n - q) q
      omega
    generalize s_run (s_is b n 2) (n - q) q = e at *
    have m1 : qs_EV (d + 2) 169 62 [some (.ref 116), none] [.int (if nI q = u 116 14 then 1 else 0)] (QM v1 w) = some (none, QM v2 w) := by
      refine (bq_169_62 (d + 2) 116 _ _ (QM v1 w)).trans ?_
      have r1 : ¬ qb true = 0 := by decide
      simp only [QM_kd, QM_sz, QM_lk, QM_i, QM_wi, zM, zI, qs_bI, qs_bV, qb_0, j4, j5, f9, hnq, k67, k68, r1, show qb false = 0 from rfl, Bool.true_eq_false, Nat.reduceSub, Nat.reduceLeDiff, Nat.reduceLT, true_and, and_true, and_self, if_true, if_false]
      exact d1
    refine ⟨v2, m1, frR_t (frR_t k2 (frR_q (by omega) _)) d2, ?_, d4, d5, ?_, ?_⟩
    · rw [d3]
      by_cases c : nI q = u 116 14
      · rw [if_pos c, if_neg (by decide)]
        rw [hcl] at c
        simp only
        rw [if_pos (Or.inr c)]
        rfl
      · rw [if_neg c, if_pos rfl]
        rw [hcl] at c
        simp only
        by_cases c4 : 4 < e - q
        · rw [if_pos c4, if_pos (Or.inl ⟨trivial, c4⟩)]
          rfl
        · rw [if_neg c4, if_neg (fun h => h.elim (fun h => c4 h.2) c)]
          rfl
    · simp only
      intro c
      by_cases cc : ((True ∧ 4 < e - q) ∨ ((t.1 = 1 ∨ t.1 = 2) ∧ q = t.2.2.1))
      · rw [if_pos cc] at c
        omega
      · exact d6 (Nat.not_lt.mp fun c4 => cc (Or.inl ⟨trivial, c4⟩))
    · simp only
      intro _ c p hp hp96
      simp only at hp ⊢
      rw [d7]
      by_cases cc : ((True ∧ 4 < e - q) ∨ ((t.1 = 1 ∨ t.1 = 2) ∧ q = t.2.2.1))
      · rw [if_pos cc] at c
        omega
      · rw [if_neg cc]
        constructor
        · intro i
          exact ⟨Or.inr rfl, ((nI_eq (by omega) (by omega)).mp i).symm⟩
        · intro i
          rw [i.2]
