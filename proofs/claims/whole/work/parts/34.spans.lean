/-! SEVERAL HOURS, SUMS, WHAT IS PUT ASIDE, in the reference -/
theorem s_95_at (R : Nat → Int32) (i : Nat) (h : i ≠ 2 ∧ i ≠ 3) : s_95 R i = R i := by
  unfold s_95
  split <;> simp [upd, h]
theorem s_95_tx {R : Nat → Int32} (h : s_tx R) : s_tx (s_95 R) := by
  unfold s_95
  split <;> exact s_tx_upd (s_tx_upd h (by omega) (by omega)) (by omega) (by omega)
theorem s_sh_1 (R : Nat → Int32) : s_sh R 1 = R 1 := by
  unfold s_sh
  split
  · simp [upd]
  · split
    · simp [upd]
    · unfold s_shj upd
      rw [if_neg (by omega), if_neg (by omega), if_neg (by omega), if_neg (by omega), if_neg (by omega)]
theorem s_wh_lt {R : Nat → Int32} {M : Nat} (h : R 1 = nI M) (hM : 0 < M) (hM8 : M ≤ 8) : s_wh R < M := by
  obtain ⟨a, ha, ea⟩ := s_dr_of (s_z (s_z (R 0)))
  have hj : a % M < M := Nat.mod_lt _ hM
  unfold s_wh
  rw [h, ea, nI_mod (by omega) (by omega), nI_clamp (by omega)]
  exact hj
theorem s_sh_tx {R : Nat → Int32} {M : Nat} (h1 : R 1 = nI M) (hM : M ≤ 8) (h : s_tx R) : s_tx (s_sh R) := by
  unfold s_sh
  split
  · exact s_tx_upd h (by omega) (by omega)
  · split
    · exact s_tx_upd h (by omega) (by omega)
    · rename_i h2
      have h0 : 0 < M := by
        rcases Nat.eq_zero_or_pos M with rfl | q
        · rw [h1] at h2
          exact absurd (by decide) h2
        · exact q
      have h3 := s_wh_lt h1 h0 hM
      exact s_tx_upd (s_tx_upd (s_tx_upd (s_tx_upd (s_tx_upd h (by omega) (by omega)) (by omega) (by omega)) (by omega) (by omega)) (by omega) (by omega)) (by omega) (by omega)
theorem s_hour_1 (R : Nat → Int32) : s_hour R 1 = R 1 := by
  unfold s_hour
  rw [s_95_at _ _ (by omega), s_sh_1, s_drs_at _ _ (by omega)]
theorem s_hour_tx {R : Nat → Int32} {M : Nat} (h1 : R 1 = nI M) (hM : M ≤ 8) (h : s_tx R) : s_tx (s_hour R) := by
  unfold s_hour
  rw [h1, nI_clamp (by omega)]
  refine s_95_tx (s_sh_tx (M := M) ?_ hM (s_drs_tx h M hM))
  rw [s_drs_at _ _ (by omega), h1]
def s_go (R : Nat → Int32) : Nat → Nat → Int32
  | 0 => R
  | n + 1 => s_hour (s_go R n)
theorem s_go_1 (R : Nat → Int32) : ∀ n, s_go R n 1 = R 1
  | 0 => rfl
  | n + 1 => by
    show s_hour (s_go R n) 1 = R 1
    rw [s_hour_1, s_go_1 R n]
theorem s_go_tx {R : Nat → Int32} {M : Nat} (h1 : R 1 = nI M) (hM : M ≤ 8) (h : s_tx R) : ∀ n, s_tx (s_go R n)
  | 0 => h
  | n + 1 => s_hour_tx (M := M) (by rw [s_go_1, h1]) hM (s_go_tx h1 hM h n)
theorem mq_140L {d : Nat} {R : Nat → Int32} {w : Nat → Nat → Int64} {M n : Nat} (hM : M ≤ 8) (h1 : R 1 = nI M) (h : s_tx R) (hn : n < 2 ^ 31) : ∀ (r k : Nat) (u : Nat → Nat → Int32), k + r = n → u 117 = s_go R k → ∃ v', qs_EV (d + 6) 140 2 [some (.ref 116), some (.int (nI n)), some (.int (nI k))] [] (QM u w) = some (none, QM v' w) ∧ v' 117 = s_go R n ∧ ∀ a, a ≠ 117 → a ≠ 128 → a ≠ 129 → v' a = u a
  | 0, k, u, hk, hu => by
    obtain rfl : k = n := by omega
    refine ⟨u, ?_, hu, fun _ _ _ _ => rfl⟩
    refine (bq_140_2 (d + 6) 116 _ _ (QM u w)).trans ?_
    rw [if_pos (nI_le (Nat.le_refl _) hn)]
  | r + 1, k, u, hk, hu => by
    obtain ⟨v, k1, k2, k3⟩ := mq_139 (d := d) (u := u) (w := w) hM (by rw [hu, s_go_1, h1]) (by rw [hu]; exact s_go_tx h1 hM h k)
    obtain ⟨v', g1, g2, g3⟩ := mq_140L (d := d) (w := w) hM h1 h hn r (k + 1) v (by omega) (by rw [k2, hu]; rfl)
    refine ⟨v', ?_, g2, fun a h1 h2 h3 => by rw [g3 a h1 h2 h3, k3 a h1 h2 h3]⟩
    refine (bq_140_2 (d + 6) 116 _ _ (QM u w)).trans ?_
    rw [nI_succ] at g1
    rw [if_neg (nI_ge (by omega) hn)]
    simp only [QM_kd, zM, qs_bV, k1, g1, if_true]
theorem mq_140 {d : Nat} {u : Nat → Nat → Int32} {w : Nat → Nat → Int64} {M n : Nat} {x : Int32} (hM : M ≤ 8) (h1 : u 117 1 = nI M) (h : s_tx (u 117)) (hx : x = nI n) (hn : n < 2 ^ 31) : ∃ v', qs_call (d + 7) 140 [.ref 116, .int x] (QM u w) = some (none, QM v' w) ∧ v' 117 = s_go (u 117) n ∧ ∀ a, a ≠ 117 → a ≠ 128 → a ≠ 129 → v' a = u a := by
  subst hx
  obtain ⟨v', g1, g2, g3⟩ := mq_140L (d := d) (w := w) hM h1 h hn n 0 u (by omega) rfl
  exact ⟨v', (bq_140_0 (d + 6) 116 _ (QM u w)).trans g1, g2, g3⟩
def s_sum (R : Nat → Int32) : Nat → Int32
  | 0 => 0
  | n + 1 => s_sum R n + s_leak R (s_jo R n)
theorem mq_142L {d : Nat} {R : Nat → Int32} {w : Nat → Nat → Int64} {M : Nat} (hM : M ≤ 8) (h1 : R 1 = nI M) (h : s_tx R) : ∀ (r k : Nat) (u : Nat → Nat → Int32), k + r = M → u 117 = R → ∃ v', qs_EV (d + 5) 142 4 [some (.ref 116), some (.int (s_sum R k)), some (.int (nI k))] [] (QM u w) = some (some (.int (s_sum R M)), QM v' w) ∧ ∀ a, a ≠ 128 → a ≠ 129 → v' a = u a
  | 0, k, u, hk, hu => by
    obtain rfl : k = M := by omega
    refine ⟨u, ?_, fun _ _ _ => rfl⟩
    refine (bq_142_4 (d + 5) 116 _ _ (QM u w)).trans ?_
    have e2 : nI k ≤ nI k := nI_le (Nat.le_refl _) (by omega)
    simp only [QM_kd, QM_sz, QM_lk, QM_i, zM, zI, hu, h1, e2, Nat.reduceSub, Nat.reduceLeDiff, Nat.reduceLT, true_and, and_true, if_true]
  | r + 1, k, u, hk, hu => by
    obtain ⟨v, k1, k2⟩ := mq_120 (d := d + 1) (j := k) (x1 := nI k) rfl (by omega) (u := u) (w := w) (by rw [hu]; exact h)
    rw [hu] at k1
    obtain ⟨v', g1, g2⟩ := mq_142L (d := d) (w := w) hM h1 h r (k + 1) v (by omega) (by rw [k2 117 (by decide) (by decide), hu])
    refine ⟨v', ?_, fun a h2 h3 => by rw [g2 a h2 h3, k2 a h2 h3]⟩
    refine (bq_142_4 (d + 5) 116 _ _ (QM u w)).trans ?_
    rw [nI_succ, s_sum] at g1
    have e2 : ¬ nI M ≤ nI k := nI_ge (by omega) (by omega)
    simp only [QM_kd, QM_sz, QM_lk, QM_i, zM, zI, hu, h1, e2, qs_bI, k1, g1, Nat.reduceSub, Nat.reduceLeDiff, Nat.reduceLT, true_and, and_true, if_true, if_false]
theorem mq_142 {d : Nat} {u : Nat → Nat → Int32} {w : Nat → Nat → Int64} {M : Nat} (hM : M ≤ 8) (h1 : u 117 1 = nI M) (h : s_tx (u 117)) : ∃ v', qs_call (d + 6) 142 [.ref 116] (QM u w) = some (some (.int (s_sum (u 117) M)), QM v' w) ∧ ∀ a, a ≠ 128 → a ≠ 129 → v' a = u a := by
  obtain ⟨v', g1, g2⟩ := mq_142L (d := d) (w := w) hM h1 h M 0 u (by omega) rfl
  exact ⟨v', (bq_142_0 (d + 5) 116 (QM u w)).trans g1, g2⟩
def s_ts (R : Nat → Int32) : Nat → Int32
  | 0 => 0
  | n + 1 => s_ts R n + s_jo R n 1
theorem mq_143L {d : Nat} {u : Nat → Nat → Int32} {w : Nat → Nat → Int64} {M : Nat} (hM : M ≤ 8) (h1 : u 117 1 = nI M) : ∀ (r k : Nat), k + r = M → qs_EV (d + 1) 143 4 [some (.ref 116), some (.int (s_ts (u 117) k)), some (.int (nI k))] [] (QM u w) = some (some (.int (s_ts (u 117) M)), QM u w)
  | 0, k, hk => by
    obtain rfl : k = M := by omega
    refine (bq_143_4 (d + 1) 116 _ _ (QM u w)).trans ?_
    have e2 : nI k ≤ nI k := nI_le (Nat.le_refl _) (by omega)
    simp only [QM_kd, QM_sz, QM_lk, QM_i, zM, zI, h1, e2, Nat.reduceSub, Nat.reduceLeDiff, Nat.reduceLT, true_and, and_true, if_true]
  | r + 1, k, hk => by
    have g1 := mq_143L (d := d) (u := u) (w := w) hM h1 r (k + 1) (by omega)
    refine (bq_143_4 (d + 1) 116 _ _ (QM u w)).trans ?_
    rw [nI_succ, s_ts] at g1
    have e2 : ¬ nI M ≤ nI k := nI_ge (by omega) (by omega)
    simp only [QM_kd, QM_sz, QM_lk, QM_i, zM, zI, h1, e2, qs_bI, mc_112 1 (show nI k = nI k from rfl) (show k < 8 by omega) n_1 (by decide), g1, Nat.reduceSub, Nat.reduceLeDiff, Nat.reduceLT, true_and, and_true, if_true, if_false]
theorem mq_143 {d : Nat} {u : Nat → Nat → Int32} {w : Nat → Nat → Int64} {M : Nat} (hM : M ≤ 8) (h1 : u 117 1 = nI M) : qs_call (d + 2) 143 [.ref 116] (QM u w) = some (some (.int (s_ts (u 117) M)), QM u w) :=
  (bq_143_0 (d + 1) 116 (QM u w)).trans (mq_143L hM h1 M 0 (by omega))
/-- the first 76 of a row are another's -/
def s_cp (R S : Nat → Int32) (n : Nat) : Nat → Int32 := fun i => if i < n then S i else R i
theorem s_cp_succ (R S : Nat → Int32) (n : Nat) : upd (s_cp R S n) n (S n) = s_cp R S (n + 1) := by
  funext i
  unfold upd s_cp
  by_cases h : i = n
  · simp [h]
  · rw [if_neg h]
    by_cases h2 : i < n
    · rw [if_pos h2, if_pos (by omega)]
    · rw [if_neg h2, if_neg (by omega)]
theorem mq_148L {d : Nat} {u0 : Nat → Nat → Int32} {w : Nat → Nat → Int64} : ∀ (r k : Nat) (u : Nat → Nat → Int32), k + r = 76 → u 120 = s_cp (u0 120) (u0 117) k → (∀ a, a ≠ 120 → u a = u0 a) → ∃ v', qs_EV d 148 2 [some (.ref 116), some (.int (nI k))] [] (QM u w) = some (none, QM v' w) ∧ v' 120 = s_cp (u0 120) (u0 117) 76 ∧ ∀ a, a ≠ 120 → v' a = u0 a
  | 0, k, u, hk, hu, ho => by
    obtain rfl : k = 76 := by omega
    refine ⟨u, ?_, hu, ho⟩
    refine (bq_148_2 d 116 _ (QM u w)).trans ?_
    rw [if_pos (by decide)]
  | r + 1, k, u, hk, hu, ho => by
    obtain ⟨v', g1, g2, g3⟩ := mq_148L (d := d) (u0 := u0) (w := w) r (k + 1) (qu u 120 k (u 117 k)) (by omega) (by rw [qu_same, hu, ho 117 (by decide), s_cp_succ]) (fun a ha => by rw [qu_ne _ _ _ ha, ho a ha])
    refine ⟨v', ?_, g2, g3⟩
    refine (bq_148_2 d 116 _ (QM u w)).trans ?_
    rw [nI_succ] at g1
    have e1 : ¬ (76 : Int32) ≤ nI k := nI_ge (b := 76) (by omega) (by omega)
    have e2 : (nI k).toNatClampNeg = k := nI_clamp (by omega)
    have e3 : 0 ≤ nI k := nI_pos' (by omega)
    have e4 : k < 76 := by omega
    have e5 : k < 1448 := by omega
    simp only [QM_kd, QM_sz, QM_lk, QM_i, QM_wi, zM, e1, e2, e3, e4, e5, g1, Nat.reduceSub, Nat.reduceLeDiff, Nat.reduceLT, true_and, and_true, and_self, if_true, if_false]
theorem mq_148 {d : Nat} {u : Nat → Nat → Int32} {w : Nat → Nat → Int64} : ∃ v', qs_call (d + 1) 148 [.ref 116] (QM u w) = some (none, QM v' w) ∧ v' 120 = s_cp (u 120) (u 117) 76 ∧ ∀ a, a ≠ 120 → v' a = u a := by
  obtain ⟨v', g1, g2, g3⟩ := mq_148L (d := d) (u0 := u) (w := w) 76 0 u (by omega) (by funext i; simp [s_cp]) (fun _ _ => rfl)
  exact ⟨v', (bq_148_0 d 116 (QM u w)).trans g1, g2, g3⟩
theorem mq_149L {d : Nat} {u0 : Nat → Nat → Int32} {w : Nat → Nat → Int64} : ∀ (r k : Nat) (u : Nat → Nat → Int32), k + r = 76 → u 117 = s_cp (u0 117) (u0 120) k → (∀ a, a ≠ 117 → u a = u0 a) → ∃ v', qs_EV d 149 2 [some (.ref 116), some (.int (nI k))] [] (QM u w) = some (none, QM v' w) ∧ v' 117 = s_cp (u0 117) (u0 120) 76 ∧ ∀ a, a ≠ 117 → v' a = u0 a
  | 0, k, u, hk, hu, ho => by
    obtain rfl : k = 76 := by omega
    refine ⟨u, ?_, hu, ho⟩
    refine (bq_149_2 d 116 _ (QM u w)).trans ?_
    rw [if_pos (by decide)]
  | r + 1, k, u, hk, hu, ho => by
    obtain ⟨v', g1, g2, g3⟩ := mq_149L (d := d) (u0 := u0) (w := w) r (k + 1) (qu u 117 k (u 120 k)) (by omega) (by rw [qu_same, hu, ho 120 (by decide), s_cp_succ]) (fun a ha => by rw [qu_ne _ _ _ ha, ho a ha])
    refine ⟨v', ?_, g2, g3⟩
    refine (bq_149_2 d 116 _ (QM u w)).trans ?_
    rw [nI_succ] at g1
    have e1 : ¬ (76 : Int32) ≤ nI k := nI_ge (b := 76) (by omega) (by omega)
    have e2 : (nI k).toNatClampNeg = k := nI_clamp (by omega)
    have e3 : 0 ≤ nI k := nI_pos' (by omega)
    have e4 : k < 76 := by omega
    have e5 : k < 1448 := by omega
    simp only [QM_kd, QM_sz, QM_lk, QM_i, QM_wi, zM, e1, e2, e3, e4, e5, g1, Nat.reduceSub, Nat.reduceLeDiff, Nat.reduceLT, true_and, and_true, and_self, if_true, if_false]
theorem mq_149 {d : Nat} {u : Nat → Nat → Int32} {w : Nat → Nat → Int64} : ∃ v', qs_call (d + 1) 149 [.ref 116] (QM u w) = some (none, QM v' w) ∧ v' 117 = s_cp (u 117) (u 120) 76 ∧ ∀ a, a ≠ 117 → v' a = u a := by
  obtain ⟨v', g1, g2, g3⟩ := mq_149L (d := d) (u0 := u) (w := w) 76 0 u (by omega) (by funext i; simp [s_cp]) (fun _ _ => rfl)
  exact ⟨v', (bq_149_0 d 116 (QM u w)).trans g1, g2, g3⟩
