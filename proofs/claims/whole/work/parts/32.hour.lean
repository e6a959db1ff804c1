/-! AN HOUR, in the reference -/
theorem s_tx_upd {R : Nat → Int32} {i : Nat} {x : Int32} (h : s_tx R) (hi : i < 76) (hi2 : i ≠ 11) : s_tx (upd R i x) := by
  obtain ⟨T, h1, h2, h3⟩ := h
  have e : ∀ k, k = 11 ∨ 76 ≤ k → upd R i x k = R k := by
    intro k hk
    unfold upd
    rw [if_neg (by omega)]
  refine ⟨T, by rw [e 11 (Or.inl rfl)]; exact h1, h2, fun t ht => ?_⟩
  obtain ⟨N, g1, g2, g3, g4⟩ := h3 t ht
  have e1 : s_N (upd R i x) t = s_N R t := by
    unfold s_N
    rw [e _ (Or.inr (by omega))]
  have e2 : s_C (upd R i x) t = s_C R t := by
    funext k
    unfold s_C
    rw [e _ (Or.inr (by omega))]
  exact ⟨N, g1, by rw [e1]; exact g2, by rw [e2]; exact g3, by rw [e2]; exact g4⟩
/-- one joint's drips, in an hour -/
def s_drip (R : Nat → Int32) (j : Nat) : Nat → Int32 :=
  let l := s_leak R (s_jo R j)
  let t := s_cl 0 l (R 5 - R 7)
  let R1 := upd (upd (upd R 6 (R 6 + l)) 7 (R 7 + t)) 8 (R 8 + (l - t))
  if 1 ≤ l ∧ l ≤ 3 then upd R1 (12 + 8 * j + 7) (s_cl 0 9 (s_jo R j 7 + 1)) else R1
theorem mq_138 {d : Nat} {j : Nat} {x1 : Int32} (e1 : x1 = nI j) (hj : j < 8) {u : Nat → Nat → Int32} {w : Nat → Nat → Int64} (h : s_tx (u 117)) : ∃ v', qs_call (d + 5) 138 [.ref 116, .int x1] (QM u w) = some (none, QM v' w) ∧ v' 117 = s_drip (u 117) j ∧ ∀ a, a ≠ 117 → a ≠ 128 → a ≠ 129 → v' a = u a := by
  obtain ⟨v, k1, k2⟩ := mq_120 (d := d) e1 hj (w := w) h
  have k3 := k2 117 (by decide) (by decide)
  generalize hl : s_leak (u 117) (s_jo (u 117) j) = l at k1
  generalize ht : s_cl 0 l (u 117 5 - u 117 7) = t
  have c6 : ∀ (a b : Int32), qu (qu v 117 6 a) 117 7 b 117 8 = u 117 8 := by
    intro a b
    rw [qu_at, if_neg (by omega), qu_at, if_neg (by omega), k3]
  have c7 : ∀ (a : Int32), qu v 117 6 a 117 7 = u 117 7 := by
    intro a
    rw [qu_at, if_neg (by omega), k3]
  have c8 : qu (qu (qu v 117 6 (u 117 6 + l)) 117 7 (u 117 7 + t)) 117 8 (u 117 8 + (l - t)) 117 = upd (upd (upd (u 117) 6 (u 117 6 + l)) 7 (u 117 7 + t)) 8 (u 117 8 + (l - t)) := by
    rw [qu_same, qu_same, qu_same, k3]
  have c9 : s_jo (upd (upd (upd (u 117) 6 (u 117 6 + l)) 7 (u 117 7 + t)) 8 (u 117 8 + (l - t))) j 7 = s_jo (u 117) j 7 := by
    unfold s_jo upd
    rw [if_neg (by omega), if_neg (by omega), if_neg (by omega)]
  by_cases h13 : 1 ≤ l ∧ l ≤ 3
  · refine ⟨qu (qu (qu (qu v 117 6 (u 117 6 + l)) 117 7 (u 117 7 + t)) 117 8 (u 117 8 + (l - t))) 117 (12 + 8 * j + 7) (s_cl 0 9 (s_jo (u 117) j 7 + 1)), ?_, ?_, fun a h1 h2 h3 => by rw [qu_ne _ _ _ h1, qu_ne _ _ _ h1, qu_ne _ _ _ h1, qu_ne _ _ _ h1, k2 a h2 h3]⟩
    · refine (bq_138_0 (d + 4) 116 x1 (QM u w)).trans ?_
      simp only [QM_kd, QM_sz, QM_lk, QM_i, QM_wi, zM, zI, qs_bI, qs_bV, k1, k3, mc_109, ht, mq_108, qb_0, c6, c7, h13, mc_112 7 e1 hj n_7 (by decide), c8, c9, mq_113 e1 n_7 hj (by decide), Nat.reduceSub, Nat.reduceLeDiff, Nat.reduceLT, true_and, and_true, and_self, decide_true, if_true, if_false, Bool.true_eq_false]
    · rw [qu_same, c8]
      unfold s_drip
      simp only [hl, ht, h13, and_self, if_true]
  · refine ⟨qu (qu (qu v 117 6 (u 117 6 + l)) 117 7 (u 117 7 + t)) 117 8 (u 117 8 + (l - t)), ?_, ?_, fun a h1 h2 h3 => by rw [qu_ne _ _ _ h1, qu_ne _ _ _ h1, qu_ne _ _ _ h1, k2 a h2 h3]⟩
    · refine (bq_138_0 (d + 4) 116 x1 (QM u w)).trans ?_
      simp only [QM_kd, QM_sz, QM_lk, QM_i, QM_wi, zM, zI, qs_bI, qs_bV, k1, k3, mc_109, ht, mq_108, qb_0, c6, c7, h13, Nat.reduceSub, Nat.reduceLeDiff, Nat.reduceLT, true_and, and_true, decide_false, if_true, if_false]
    · rw [c8]
      unfold s_drip
      simp only [hl, ht, h13, if_false]
theorem s_drip_at (R : Nat → Int32) (j i : Nat) (h : i ≠ 6 ∧ i ≠ 7 ∧ i ≠ 8 ∧ i ≠ 12 + 8 * j + 7) : s_drip R j i = R i := by
  unfold s_drip
  split <;> simp [upd, h]
theorem s_drip_tx {R : Nat → Int32} {j : Nat} (hj : j < 8) (h : s_tx R) : s_tx (s_drip R j) := by
  unfold s_drip
  dsimp only
  split
  · exact s_tx_upd (s_tx_upd (s_tx_upd (s_tx_upd h (by omega) (by omega)) (by omega) (by omega)) (by omega) (by omega)) (by omega) (by omega)
  · exact s_tx_upd (s_tx_upd (s_tx_upd h (by omega) (by omega)) (by omega) (by omega)) (by omega) (by omega)
def s_drs (R : Nat → Int32) : Nat → Nat → Int32
  | 0 => R
  | n + 1 => s_drip (s_drs R n) n
theorem s_drs_tx {R : Nat → Int32} (h : s_tx R) : ∀ n, n ≤ 8 → s_tx (s_drs R n)
  | 0, _ => h
  | n + 1, hn => s_drip_tx (by omega) (s_drs_tx h n (by omega))
theorem s_drs_at (R : Nat → Int32) (i : Nat) (h : i < 12 ∧ i ≠ 6 ∧ i ≠ 7 ∧ i ≠ 8) : ∀ n, s_drs R n i = R i
  | 0 => rfl
  | n + 1 => by
    show s_drip (s_drs R n) n i = R i
    rw [s_drip_at _ _ _ ⟨h.2.1, h.2.2.1, h.2.2.2, by omega⟩, s_drs_at R i h n]
theorem mq_139L {d : Nat} {R : Nat → Int32} {w : Nat → Nat → Int64} {M : Nat} (hM : M ≤ 8) (h1 : R 1 = nI M) (h : s_tx R) : ∀ (r k : Nat) (o : Option Value) (u : Nat → Nat → Int32), k + r = M → u 117 = s_drs R k → ∃ v', qs_EV (d + 5) 139 2 [some (.ref 116), some (.int (nI k)), o] [] (QM u w) = qs_EV (d + 5) 139 2 [some (.ref 116), some (.int (nI M)), o] [] (QM v' w) ∧ v' 117 = s_drs R M ∧ ∀ a, a ≠ 117 → a ≠ 128 → a ≠ 129 → v' a = u a
  | 0, k, o, u, hk, hu => by
    obtain rfl : k = M := by omega
    exact ⟨u, rfl, hu, fun _ _ _ _ => rfl⟩
  | r + 1, k, o, u, hk, hu => by
    obtain ⟨v, k1, k2, k3⟩ := mq_138 (d := d) (j := k) (x1 := nI k) rfl (by omega) (u := u) (w := w) (by rw [hu]; exact s_drs_tx h k (by omega))
    obtain ⟨v', g1, g2, g3⟩ := mq_139L (d := d) (w := w) hM h1 h r (k + 1) o v (by omega) (by rw [k2, hu]; rfl)
    refine ⟨v', ?_, g2, fun a h1 h2 h3 => by rw [g3 a h1 h2 h3, k3 a h1 h2 h3]⟩
    have e1 : u 117 1 = nI M := by rw [hu, s_drs_at R 1 (by omega), h1]
    have e2 : ¬ nI M ≤ nI k := nI_ge (by omega) (by omega)
    rw [← g1, nI_succ]
    refine (bq_139_2 (d + 5) 116 (nI k) o (QM u w)).trans ?_
    simp only [QM_kd, QM_sz, QM_lk, QM_i, QM_wi, zM, zI, e1, e2, qs_bV, k1, Nat.reduceSub, Nat.reduceLeDiff, Nat.reduceLT, true_and, and_true, if_true, if_false]
