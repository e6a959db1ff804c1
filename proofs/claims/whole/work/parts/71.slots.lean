/-! SLOTS, call by call -/
theorem iSl_upd {u v : Nat → Nat → Int32} {i : Nat} (h : iSl u) (co : ∀ t, t < 5 → t ≠ i → v (96 + 4 * t) = u (96 + 4 * t) ∧ v (97 + 4 * t) = u (97 + 4 * t) ∧ v (98 + 4 * t) = u (98 + 4 * t) ∧ v (98 + 4 * t + 1) = u (98 + 4 * t + 1) ∧ v 133 t = u 133 t ∧ v 134 t = u 134 t ∧ v 135 t = u 135 t ∧ ∀ k, k < 24 → v 136 (24 * t + k) = u 136 (24 * t + k)) (hn : v (96 + 4 * i) 2 = v 133 i ∧ (v 133 i = 0 ∨ (v 133 i = 1 ∧ (∃ n, n ≤ 5 ∧ v (97 + 4 * i) 0 = nI n) ∧ v (97 + 4 * i) 0 = v 134 i ∧ s_worth (v (97 + 4 * i)) = v 135 i) ∨ (v 133 i = 2 ∧ v (98 + 4 * i) 2 = v 134 i ∧ (∃ n, n ≤ 24 ∧ v 134 i = nI n) ∧ ∀ k, k < 24 → v (98 + 4 * i + 1) k = v 136 (24 * i + k)) ∨ (v 133 i = 3 ∧ v (96 + 4 * i) 3 = v 134 i))) : iSl v := by
  intro t ht
  by_cases e : t = i
  · subst e
    exact hn
  · obtain ⟨c1, c2, c3, c4, c5, c6, c7, c8⟩ := co t ht e
    rw [c1, c2, c3, c4, c5, c6, c7]
    obtain ⟨h1, h2⟩ := h t ht
    refine ⟨h1, ?_⟩
    rcases h2 with q | q | ⟨q1, q2, q3, q4⟩ | q
    · exact Or.inl q
    · exact Or.inr (Or.inl q)
    · exact Or.inr (Or.inr (Or.inl ⟨q1, q2, q3, fun k hk => by rw [c8 k hk]; exact q4 k hk⟩))
    · exact Or.inr (Or.inr (Or.inr q))
theorem c_43L {d a b : Nat} {w : Nat → Nat → Int64} (z : zSh a) (y : zSh b) (hab : b + 1 ≠ a + 1) : ∀ (r k : Nat) (u : Nat → Nat → Int32), k + r = 24 → (∀ i, i < k → u (a + 1) i = u (b + 1) i) → ∃ v', qs_EV d 43 18 [some (.ref a), some (.ref b), some (.int (nI k))] [] (QM u w) = some (none, QM v' w) ∧ (∀ i, i < 24 → v' (a + 1) i = u (b + 1) i) ∧ ∀ q, q ≠ a + 1 → v' q = u q
  | 0, k, u, hk, h0 => by
    obtain rfl : k = 24 := by omega
    refine ⟨u, ?_, h0, fun _ _ => rfl⟩
    refine (bq_43_18 d a b _ (QM u w)).trans ?_
    rw [if_pos (by decide)]
  | r + 1, k, u, hk, h0 => by
    obtain ⟨v', g1, g2, g3⟩ := c_43L (d := d) (w := w) z y hab r (k + 1) (qu u (a + 1) k (u (b + 1) k)) (by omega) (fun i hi => by
      rw [qu_ne u (a := b + 1) _ _ hab, qu_at]
      by_cases e : i = k
      · rw [if_pos ⟨rfl, e⟩, e]
      · rw [if_neg (by omega), h0 i (by omega)])
    refine ⟨v', ?_, fun i hi => by rw [g2 i hi, qu_ne _ _ _ hab], fun q hq => by rw [g3 q hq, qu_ne _ _ _ hq]⟩
    unfold zSh at z y
    have e2 : ¬ (24 : Int32) ≤ nI k := nI_ge (b := 24) (by omega) (by omega)
    have e7 : (nI k).toNatClampNeg = k := nI_clamp (by omega)
    have e8 : 0 ≤ nI k := nI_pos' (by omega)
    have e9 : k < 24 := by omega
    rw [nI_succ] at g1
    refine (bq_43_18 d a b _ (QM u w)).trans ?_
    simp only [QM_kd, QM_sz, QM_lk, QM_i, QM_wi, zI, qs_bI, qs_bV, qb_0, z, y, e2, e7, e8, e9, Nat.add_sub_cancel, Nat.le_add_left, Bool.true_eq_false, Nat.reduceSub, Nat.reduceLeDiff, Nat.reduceLT, true_and, and_true, and_self, if_true, if_false]
    exact g1
theorem c_43 {d a b : Nat} {u : Nat → Nat → Int32} {w : Nat → Nat → Int64} (z : zSh a) (y : zSh b) (hab : b ≠ a) (hab2 : b + 1 ≠ a) (hab3 : a + 1 ≠ b) : ∃ v', qs_call (d + 1) 43 [.ref a, .ref b] (QM u w) = some (none, QM v' w) ∧ v' a 2 = u b 2 ∧ (∀ i, i < 24 → v' (a + 1) i = u (b + 1) i) ∧ ∀ q, q ≠ a → q ≠ a + 1 → v' q = u q := by
  obtain ⟨v', g1, g2, g3⟩ := c_43L (d := d) (w := w) z y (by omega) 24 0 (qu (qu u a 1 (u b 1)) a 2 (u b 2)) (by omega) (fun i hi => by omega)
  refine ⟨v', ?_, ?_, fun i hi => by rw [g2 i hi, qu_ne _ _ _ hab2, qu_ne _ _ _ hab2], fun q h1 h2 => by rw [g3 q h2, qu_ne _ _ _ h1, qu_ne _ _ _ h1]⟩
  · unfold zSh at z y
    rw [nI_0] at g1
    refine (bq_43_0 d a b (QM u w)).trans ?_
    have e : qu u a 1 (u b 1) b 2 = u b 2 := by rw [qu_ne _ _ _ hab]
    simp only [QM_kd, QM_sz, QM_lk, QM_i, QM_wi, zI, qs_bI, qs_bV, qb_0, z, y, e, Bool.true_eq_false, Nat.reduceSub, Nat.reduceLeDiff, Nat.reduceLT, true_and, and_true, and_self, if_true, if_false]
    exact g1
  · rw [g3 a (by omega)]
    simp [qu]
theorem mc_185 {d : Nat} {x0 : Int32} {m : qs_M} : qs_call (d + 2) 185 [.int x0] m = some (some (.int (qb (s_in x0 0 4))), m) := by
  refine (bq_185_0 (d + 1) x0 m).trans ?_
  simp only [mc_108, qs_bI, qb_01, if_true]
theorem mq_191L {d i s : Nat} {x4 : Int32} {w : Nat → Nat → Int64} (hi : i < 5) (hs : s < 4) : ∀ (r k : Nat) (u : Nat → Nat → Int32), k + r = 24 → (∀ c, c < k → u 136 (24 * i + c) = u 132 (24 * s + c)) → ∃ v', qs_EV d 191 134 [some (.ref 116), some (.int (nI i)), some (.int 2), some (.int (nI s)), some (.int x4), some (.int (nI k))] [] (QM u w) = some (some (.int x4), QM v' w) ∧ (∀ c, c < 24 → v' 136 (24 * i + c) = u 132 (24 * s + c)) ∧ (∀ c, ¬ (24 * i ≤ c ∧ c < 24 * i + 24) → v' 136 c = u 136 c) ∧ ∀ q, q ≠ 136 → v' q = u q
  | 0, k, u, hk, h0 => by
    obtain rfl : k = 24 := by omega
    refine ⟨u, ?_, h0, fun _ _ => rfl, fun _ _ => rfl⟩
    refine (bq_191_134 d 116 _ _ _ _ _ (QM u w)).trans ?_
    rw [if_pos (by decide)]
  | r + 1, k, u, hk, h0 => by
    obtain ⟨v', g1, g2, g3, g4⟩ := mq_191L (d := d) (x4 := x4) (w := w) hi hs r (k + 1) (qu u 136 (24 * i + k) (u 132 (24 * s + k))) (by omega) (fun c hc => by
      rw [qu_ne u (a := 132) _ _ (by omega), qu_at]
      by_cases e : c = k
      · rw [if_pos ⟨rfl, by omega⟩, e]
      · rw [if_neg (by omega), h0 c (by omega)])
    refine ⟨v', ?_, fun c hc => by rw [g2 c hc, qu_ne _ _ _ (by omega)], fun c hc => by rw [g3 c hc, qu_at, if_neg (by omega)], fun q hq => by rw [g4 q hq, qu_ne _ _ _ hq]⟩
    have e2 : ¬ (24 : Int32) ≤ nI k := nI_ge (b := 24) (by omega) (by omega)
    have ix := ix_cl (s := s) (k := k) hs (by omega)
    have ix2 : 24 * s + k < 96 := by omega
    have iy : (24 * nI i + nI k).toNatClampNeg = 24 * i + k ∧ 0 ≤ 24 * nI i + nI k := by
      have e : 24 * nI i + nI k = nI (24 * i + k) := by
        rw [← nI_add, ← nI_times]
        rfl
      rw [e]
      exact ⟨nI_clamp (by omega), nI_pos' (by omega)⟩
    have iy2 : 24 * i + k < 120 := by omega
    rw [nI_succ] at g1
    refine (bq_191_134 d 116 _ _ _ _ _ (QM u w)).trans ?_
    simp only [QM_kd, QM_sz, QM_lk, QM_i, QM_wi, zM, zI, qs_bI, qs_bV, qb_0, e2, ix, ix2, iy, iy2, Bool.true_eq_false, Nat.reduceSub, Nat.reduceLeDiff, Nat.reduceLT, true_and, and_true, and_self, if_true, if_false]
    exact g1
theorem s_in03 {x : Int32} (h : ¬ s_in x 0 3 = false) : x = 0 ∨ x = 1 ∨ x = 2 ∨ x = 3 := by
  obtain ⟨k, hk, rfl⟩ := s_nf (n := 3) h rfl (by omega)
  rcases (by omega : k = 0 ∨ k = 1 ∨ k = 2 ∨ k = 3) with rfl | rfl | rfl | rfl
  · exact Or.inl rfl
  · exact Or.inr (Or.inl rfl)
  · exact Or.inr (Or.inr (Or.inl rfl))
  · exact Or.inr (Or.inr (Or.inr rfl))
/-- four writes in the slots' rows of the reference -/
def s_w3 (u : Nat → Nat → Int32) (i : Nat) (a b c : Int32) : Nat → Nat → Int32 := qu (qu (qu u 133 i a) 134 i b) 135 i c
theorem s_w3_o (u : Nat → Nat → Int32) (i : Nat) (a b c : Int32) {q : Nat} (h1 : q ≠ 133) (h2 : q ≠ 134) (h3 : q ≠ 135) : s_w3 u i a b c q = u q := by
  unfold s_w3
  rw [qu_ne _ _ _ h3, qu_ne _ _ _ h2, qu_ne _ _ _ h1]
theorem s_w3_i (u : Nat → Nat → Int32) (i : Nat) (a b c : Int32) : s_w3 u i a b c 133 i = a ∧ s_w3 u i a b c 134 i = b ∧ s_w3 u i a b c 135 i = c := by
  unfold s_w3
  refine ⟨?_, ?_, ?_⟩ <;> simp [qu]
theorem s_w3_t (u : Nat → Nat → Int32) (i : Nat) (a b c : Int32) {t : Nat} (h : t ≠ i) : s_w3 u i a b c 133 t = u 133 t ∧ s_w3 u i a b c 134 t = u 134 t ∧ s_w3 u i a b c 135 t = u 135 t := by
  unfold s_w3
  refine ⟨?_, ?_, ?_⟩ <;> simp [qu, h]
theorem k_lay (x th k : Int32) : sOK 88 191 [.int x, .int th, .int k] := by
  intro d u w h
  by_cases g1 : s_in x 0 4 = false
  · refine ⟨sBAD, u, u, w, ?_, ?_, h⟩
    · refine (bq_88_0 (d + 119) 16 _ _ _ (QM u w)).trans ?_
      simp only [QM_kd, QM_sz, QM_lk, QM_i, QM_wi, zI, qs_bI, qs_bV, qb_0, c_101, g1, Bool.true_eq_false, Nat.reduceSub, Nat.reduceLeDiff, Nat.reduceLT, true_and, and_true, and_self, if_true, if_false]
      rfl
    · refine (bq_191_0 (d + 119) 116 _ _ _ (QM u w)).trans ?_
      simp only [QM_kd, QM_sz, QM_lk, QM_i, QM_wi, zM, zI, qs_bI, qs_bV, qb_0, mc_185, g1, Bool.true_eq_false, Nat.reduceSub, Nat.reduceLeDiff, Nat.reduceLT, true_and, and_true, and_self, if_true, if_false]
      rfl
  obtain ⟨i, hi, rfl⟩ := s_nf (n := 4) g1 rfl (by omega)
  by_cases g2 : s_in th 0 3 = false
  · refine ⟨sBAD, u, u, w, ?_, ?_, h⟩
    · refine (bq_88_0 (d + 119) 16 _ _ _ (QM u w)).trans ?_
      simp only [QM_kd, QM_sz, QM_lk, QM_i, QM_wi, zI, qs_bI, qs_bV, qb_0, c_101, c_97, g1, g2, Bool.true_eq_false, Nat.reduceSub, Nat.reduceLeDiff, Nat.reduceLT, true_and, and_true, and_self, if_true, if_false]
      rfl
    · refine (bq_191_0 (d + 119) 116 _ _ _ (QM u w)).trans ?_
      simp only [QM_kd, QM_sz, QM_lk, QM_i, QM_wi, zM, zI, qs_bI, qs_bV, qb_0, mc_185, mc_108, g1, g2, Bool.true_eq_false, Nat.reduceSub, Nat.reduceLeDiff, Nat.reduceLT, true_and, and_true, and_self, if_true, if_false]
      rfl
  have ei : (nI i).toNatClampNeg = i ∧ 0 ≤ nI i ∧ i < 5 := ⟨nI_clamp (by omega), nI_pos' (by omega), by omega⟩
  have zl := zL ei.2.2
  have zj := zl.2.2.2.2.2.2.2.1
  have zh := zl.2.2.2.2.2.2.2.2
  have zk := zj.1
  have z4 := zh.1
  unfold zL1 at zl
  have z := z52
  unfold zPp at z
  obtain ⟨e1, e2⟩ := h.2.2.2.1 i ei.2.2
  obtain ⟨M, hC, hH⟩ := h.1
  obtain ⟨hM, h3, hr1⟩ := sC_M hC
  have iT : (¬ (3 : Int32) = 1) ∧ (¬ (3 : Int32) = 2) := by decide
  have fin : ∀ v, (∀ q, q ≠ 96 + 4 * i → q ≠ 97 + 4 * i → q ≠ 98 + 4 * i → q ≠ 98 + 4 * i + 1 → q ≠ 133 → q ≠ 134 → q ≠ 135 → q ≠ 136 → v q = u q) → (∀ t, t ≠ i → v 133 t = u 133 t ∧ v 134 t = u 134 t ∧ v 135 t = u 135 t) → (∀ c, ¬ (24 * i ≤ c ∧ c < 24 * i + 24) → v 136 c = u 136 c) → (v (96 + 4 * i) 2 = v 133 i ∧ (v 133 i = 0 ∨ (v 133 i = 1 ∧ (∃ n, n ≤ 5 ∧ v (97 + 4 * i) 0 = nI n) ∧ v (97 + 4 * i) 0 = v 134 i ∧ s_worth (v (97 + 4 * i)) = v 135 i) ∨ (v 133 i = 2 ∧ v (98 + 4 * i) 2 = v 134 i ∧ (∃ n, n ≤ 24 ∧ v 134 i = nI n) ∧ ∀ k, k < 24 → v (98 + 4 * i + 1) k = v 136 (24 * i + k)) ∨ (v 133 i = 3 ∧ v (96 + 4 * i) 3 = v 134 i))) → sINV v := by
    intro v p1 p2 p3 p4
    refine inv_sl h (fun q q1 q2 => p1 q (by omega) (by omega) (by omega) (by omega) (by omega) (by omega) (by omega) (by omega)) (iSl_upd h.2.2.2.1 (fun t ht hti => ?_) p4)
    exact ⟨p1 _ (by omega) (by omega) (by omega) (by omega) (by omega) (by omega) (by omega) (by omega), p1 _ (by omega) (by omega) (by omega) (by omega) (by omega) (by omega) (by omega) (by omega), p1 _ (by omega) (by omega) (by omega) (by omega) (by omega) (by omega) (by omega) (by omega), p1 _ (by omega) (by omega) (by omega) (by omega) (by omega) (by omega) (by omega) (by omega), (p2 t hti).1, (p2 t hti).2.1, (p2 t hti).2.2, fun c hc => p3 _ (by omega)⟩
  rcases s_in03 g2 with rfl | rfl | rfl | rfl
  · -- nothing
    have g2' : s_in 0 0 3 = true := by decide
    have c133 : ∀ (q : Nat) (y : Int32), q ≠ 96 + 4 * i → qu u (96 + 4 * i) 2 y q = u q := fun q y hq => qu_ne _ _ _ hq
    refine ⟨u 133 i, qu u (96 + 4 * i) 2 0, s_w3 (qu u (96 + 4 * i) 2 0) i 0 k 0, w, ?_, ?_, fin _ ?_ ?_ ?_ ?_⟩
    · refine (bq_88_0 (d + 119) 16 _ _ _ (QM u w)).trans ?_
      simp only [QM_kd, QM_sz, QM_lk, QM_i, QM_wi, zI, qs_bI, qs_bV, qb_0, c_101, c_97, g1, g2', iN, Bool.true_eq_false, Nat.reduceSub, Nat.reduceLeDiff, Nat.reduceLT, true_and, and_true, and_self, if_true, if_false]
      refine (bq_88_69 (d + 119) 16 _ _ _ _ _ (QM u w)).trans ?_
      simp only [QM_kd, QM_sz, QM_lk, QM_i, QM_wi, zI, qs_bI, qs_bV, qb_0, zQ, z, zl, zk, z4, ei, e1, iN, show ¬ (0 : Int32) = 3 by decide, Nat.add_sub_cancel, Nat.le_add_left, Bool.true_eq_false, Nat.reduceSub, Nat.reduceLeDiff, Nat.reduceLT, true_and, and_true, and_self, if_true, if_false]
    · refine (bq_191_0 (d + 119) 116 _ _ _ (QM _ w)).trans ?_
      simp only [QM_kd, QM_sz, QM_lk, QM_i, QM_wi, zM, zI, qs_bI, qs_bV, qb_0, mc_185, mc_108, g1, g2', iN, Bool.true_eq_false, Nat.reduceSub, Nat.reduceLeDiff, Nat.reduceLT, true_and, and_true, and_self, if_true, if_false]
      refine (bq_191_61 (d + 119) 116 _ _ _ _ _ (QM _ w)).trans ?_
      simp only [QM_kd, QM_sz, QM_lk, QM_i, QM_wi, zM, zI, qs_bI, qs_bV, qb_0, ei, iN, c133 133 0 (by omega), Bool.true_eq_false, Nat.reduceSub, Nat.reduceLeDiff, Nat.reduceLT, true_and, and_true, and_self, if_true, if_false]
      refine (bq_191_134 (d + 119) 116 _ _ _ _ _ (QM _ w)).trans ?_
      simp only [QM_kd, QM_sz, QM_lk, QM_i, QM_wi, zM, zI, qs_bI, qs_bV, qb_0, iN, show ¬ (24 : Int32) ≤ 0 by decide, Bool.true_eq_false, Nat.reduceSub, Nat.reduceLeDiff, Nat.reduceLT, true_and, and_true, and_self, if_true, if_false]
      rfl
    · intro q q1 q2 q3 q4 q5 q6 q7 q8
      rw [s_w3_o _ _ _ _ _ q5 q6 q7, qu_ne _ _ _ q1]
    · intro t ht
      obtain ⟨r1, r2, r3⟩ := s_w3_t (qu u (96 + 4 * i) 2 0) i 0 k 0 ht
      rw [r1, r2, r3, c133 133 0 (by omega), c133 134 0 (by omega), c133 135 0 (by omega)]
      exact ⟨rfl, rfl, rfl⟩
    · intro c hc
      rw [s_w3_o _ _ _ _ _ (by omega) (by omega) (by omega), qu_ne _ _ _ (by omega)]
    · obtain ⟨r1, r2, r3⟩ := s_w3_i (qu u (96 + 4 * i) 2 0) i 0 k 0
      rw [r1, s_w3_o _ _ _ _ _ (by omega) (by omega) (by omega)]
      exact ⟨by simp [qu], Or.inl rfl⟩
  · -- a joint
    have g2' : s_in 1 0 3 = true := by decide
    have b15 := c_15 (d := d + 118) (w := w) (x := k) hC
    by_cases g3 : s_in k 0 (nI M - 1) = false
    · refine ⟨sBAD, u, u, w, ?_, ?_, h⟩
      · refine (bq_88_0 (d + 119) 16 _ _ _ (QM u w)).trans ?_
        simp only [QM_kd, QM_sz, QM_lk, QM_i, QM_wi, zI, qs_bI, qs_bV, qb_0, c_101, c_97, g1, g2', zQ, z, b15, g3, Bool.true_eq_false, Nat.reduceSub, Nat.reduceLeDiff, Nat.reduceLT, true_and, and_true, and_self, if_true, if_false]
        rfl
      · refine (bq_191_0 (d + 119) 116 _ _ _ (QM u w)).trans ?_
        simp only [QM_kd, QM_sz, QM_lk, QM_i, QM_wi, zM, zI, qs_bI, qs_bV, qb_0, mc_185, mc_108, g1, g2', mc_111x hr1, g3, Bool.true_eq_false, Nat.reduceSub, Nat.reduceLeDiff, Nat.reduceLT, true_and, and_true, and_self, if_true, if_false]
        rfl
    obtain ⟨j, hj, rfl⟩ := (s_isj_in hM).mp (by simpa using g3)
    have y := zj52 (j := j) (by omega)
    have yj := (zPj (p := 52) (j := j) (Or.inl rfl) (by omega)).2.2
    obtain ⟨v1, a1, a2, a3⟩ := c_2 (d := d + 117) (u := qu u (96 + 4 * i) 2 1) (w := w) zj yj (by omega)
    have aj : ∀ c, c < 8 → v1 (97 + 4 * i) c = s_jo (u 117) j c := fun c hc => by
      rw [a2 c hc, qu_ne _ _ _ (by omega)]
      exact sJ_e hC hj hc
    have f : ∀ q, q ≠ 96 + 4 * i → q ≠ 97 + 4 * i → v1 q = u q := fun q q1 q2 => by rw [a3 q q2, qu_ne _ _ _ q1]
    have f117 := f 117 (by omega) (by omega)
    have f133 := f 133 (by omega) (by omega)
    have o112 := mc_112 (d := d + 118) (j := j) (x1 := nI j) (x2 := 0) 0 rfl (by omega) n_0 (by decide) (u := qu v1 133 i 1) (w := w)
    have o122 := mq_122 (d := d + 117) (j := j) (x1 := nI j) rfl (by omega) (u := qu (qu v1 133 i 1) 134 i (s_jo (u 117) j 0)) (w := w)
    rw [qu_ne v1 (a := 117) _ _ (by omega), f117] at o112
    rw [qu_ne _ (a := 117) _ _ (by omega), qu_ne _ (a := 117) _ _ (by omega), f117] at o122
    refine ⟨u 133 i, v1, s_w3 v1 i 1 (s_jo (u 117) j 0) (s_worth (s_jo (u 117) j)), w, ?_, ?_, fin _ ?_ ?_ ?_ ?_⟩
    · refine (bq_88_0 (d + 119) 16 _ _ _ (QM u w)).trans ?_
      simp only [QM_kd, QM_sz, QM_lk, QM_i, QM_wi, zI, qs_bI, qs_bV, qb_0, c_101, c_97, g1, g2', zQ, z, b15, g3, iN, Bool.true_eq_false, Nat.reduceSub, Nat.reduceLeDiff, Nat.reduceLT, true_and, and_true, and_self, if_true, if_false]
      refine (bq_88_69 (d + 119) 16 _ _ _ _ _ (QM u w)).trans ?_
      simp only [QM_kd, QM_sz, QM_lk, QM_i, QM_wi, zI, qs_bI, qs_bV, qb_0, zQ, z, zl, zk, z4, y, ei, e1, iN, a1, show ¬ (1 : Int32) = 3 by decide, Nat.add_sub_cancel, Nat.le_add_left, Bool.true_eq_false, Nat.reduceSub, Nat.reduceLeDiff, Nat.reduceLT, true_and, and_true, and_self, if_true, if_false]
    · refine (bq_191_0 (d + 119) 116 _ _ _ (QM _ w)).trans ?_
      have hr1' : v1 117 1 = nI M := by rw [f117, hr1]
      simp only [QM_kd, QM_sz, QM_lk, QM_i, QM_wi, zM, zI, qs_bI, qs_bV, qb_0, mc_185, mc_108, g1, g2', mc_111x hr1', g3, iN, Bool.true_eq_false, Nat.reduceSub, Nat.reduceLeDiff, Nat.reduceLT, true_and, and_true, and_self, if_true, if_false]
      refine (bq_191_61 (d + 119) 116 _ _ _ _ _ (QM _ w)).trans ?_
      simp only [QM_kd, QM_sz, QM_lk, QM_i, QM_wi, zM, zI, qs_bI, qs_bV, qb_0, ei, iN, f133, o112, o122, Bool.true_eq_false, Nat.reduceSub, Nat.reduceLeDiff, Nat.reduceLT, true_and, and_true, and_self, if_true, if_false]
      refine (bq_191_134 (d + 119) 116 _ _ _ _ _ (QM _ w)).trans ?_
      simp only [QM_kd, QM_sz, QM_lk, QM_i, QM_wi, zM, zI, qs_bI, qs_bV, qb_0, iN, show ¬ (24 : Int32) ≤ 0 by decide, Bool.true_eq_false, Nat.reduceSub, Nat.reduceLeDiff, Nat.reduceLT, true_and, and_true, and_self, if_true, if_false]
      rfl
    · intro q q1 q2 q3 q4 q5 q6 q7 q8
      rw [s_w3_o _ _ _ _ _ q5 q6 q7, f q q1 q2]
    · intro t ht
      obtain ⟨r1, r2, r3⟩ := s_w3_t v1 i 1 (s_jo (u 117) j 0) (s_worth (s_jo (u 117) j)) ht
      rw [r1, r2, r3, f133, f 134 (by omega) (by omega), f 135 (by omega) (by omega)]
      exact ⟨rfl, rfl, rfl⟩
    · intro c hc
      rw [s_w3_o _ _ _ _ _ (by omega) (by omega) (by omega), f 136 (by omega) (by omega)]
    · obtain ⟨r1, r2, r3⟩ := s_w3_i v1 i 1 (s_jo (u 117) j 0) (s_worth (s_jo (u 117) j))
      rw [r1, r2, r3, s_w3_o _ _ _ _ _ (by omega) (by omega) (by omega), s_w3_o _ _ _ _ _ (by omega) (by omega) (by omega), a3 _ (by omega), aj 0 (by omega)]
      exact ⟨by simp [qu], Or.inr (Or.inl ⟨rfl, hC.2.2.1.2.2.1 j hj 0 (by omega), rfl, s_worth_cg aj⟩)⟩
  · -- a sheet
    have g2' : s_in 2 0 3 = true := by decide
    by_cases g3 : s_in k 0 3 = false
    · refine ⟨sBAD, u, u, w, ?_, ?_, h⟩
      · refine (bq_88_0 (d + 119) 16 _ _ _ (QM u w)).trans ?_
        simp only [QM_kd, QM_sz, QM_lk, QM_i, QM_wi, zI, qs_bI, qs_bV, qb_0, c_101, c_97, c_100, g1, g2', g3, iN, Bool.true_eq_false, Nat.reduceSub, Nat.reduceLeDiff, Nat.reduceLT, true_and, and_true, and_self, if_true, if_false]
        rfl
      · refine (bq_191_0 (d + 119) 116 _ _ _ (QM u w)).trans ?_
        simp only [QM_kd, QM_sz, QM_lk, QM_i, QM_wi, zM, zI, qs_bI, qs_bV, qb_0, mc_185, mc_184, mc_108, g1, g2', g3, iN, Bool.true_eq_false, Nat.reduceSub, Nat.reduceLeDiff, Nat.reduceLT, true_and, and_true, and_self, if_true, if_false]
        rfl
    obtain ⟨s, hs, rfl⟩ := s_nf (n := 3) g3 rfl (by omega)
    have es : (nI s).toNatClampNeg = s ∧ 0 ≤ nI s ∧ s < 4 := ⟨nI_clamp (by omega), nI_pos' (by omega), by omega⟩
    have zs := zS es.2.2
    have zq := zs.2.2
    have y4 := zq.1
    unfold zS1 at zs
    obtain ⟨f1, f2, f3, ⟨n, n1, n2⟩, f5⟩ := h.2.2.1 s es.2.2
    have b44 := c_44 (d := d + 118) (u := u) (w := w) zq
    rw [f1] at b44
    by_cases g4 : u 130 s = -1
    · rw [decide_eq_true g4] at b44
      refine ⟨sNOTH, u, u, w, ?_, ?_, h⟩
      · refine (bq_88_0 (d + 119) 16 _ _ _ (QM u w)).trans ?_
        simp only [QM_kd, QM_sz, QM_lk, QM_i, QM_wi, zI, qs_bI, qs_bV, qb_0, c_101, c_97, c_100, g1, g2', g3, iN, zQ, zs, y4, es, b44, Nat.add_sub_cancel, Nat.le_add_left, Bool.true_eq_false, Nat.reduceSub, Nat.reduceLeDiff, Nat.reduceLT, true_and, and_true, and_self, if_true, if_false]
        rfl
      · refine (bq_191_0 (d + 119) 116 _ _ _ (QM u w)).trans ?_
        simp only [QM_kd, QM_sz, QM_lk, QM_i, QM_wi, zM, zI, qs_bI, qs_bV, qb_0, mc_185, mc_184, mc_108, g1, g2', g3, iN, es, g4, show ¬ (0 : Int32) ≤ -1 by decide, Bool.true_eq_false, Nat.reduceSub, Nat.reduceLeDiff, Nat.reduceLT, true_and, and_true, and_self, if_true, if_false]
        rfl
    have g4' : 0 ≤ u 130 s := by rcases f3 with q | q | q
                                 · exact absurd q g4
                                 · rw [q]; decide
                                 · rw [q]; decide
    rw [decide_eq_false g4] at b44
    obtain ⟨v1, a1, a2, a3, a4⟩ := c_43 (d := d + 118) (u := qu u (96 + 4 * i) 2 2) (w := w) zh zq (by omega) (by omega) (by omega)
    have f : ∀ q, q ≠ 96 + 4 * i → q ≠ 98 + 4 * i → q ≠ 98 + 4 * i + 1 → v1 q = u q := fun q q1 q2 q3 => by rw [a4 q q2 q3, qu_ne _ _ _ q1]
    have f130 := f 130 (by omega) (by omega) (by omega)
    have f131 : ∀ y, qu v1 133 i y 131 s = nI n := fun y => by rw [qu_ne _ _ _ (by omega), f 131 (by omega) (by omega) (by omega), n2]
    have f133 := f 133 (by omega) (by omega) (by omega)
    obtain ⟨v2, b1, b2, b3, b4⟩ := mq_191L (d := d + 119) (i := i) (s := s) (x4 := u 133 i) (w := w) ei.2.2 es.2.2 24 0 (s_w3 v1 i 2 (nI n) 0) (by omega) (fun c hc => by omega)
    refine ⟨u 133 i, v1, v2, w, ?_, ?_, fin _ ?_ ?_ ?_ ?_⟩
    · refine (bq_88_0 (d + 119) 16 _ _ _ (QM u w)).trans ?_
      simp only [QM_kd, QM_sz, QM_lk, QM_i, QM_wi, zI, qs_bI, qs_bV, qb_0, c_101, c_97, c_100, g1, g2', g3, iN, zQ, zs, y4, es, b44, Nat.add_sub_cancel, Nat.le_add_left, Bool.true_eq_false, Nat.reduceSub, Nat.reduceLeDiff, Nat.reduceLT, true_and, and_true, and_self, if_true, if_false]
      refine (bq_88_69 (d + 119) 16 _ _ _ _ _ (QM u w)).trans ?_
      simp only [QM_kd, QM_sz, QM_lk, QM_i, QM_wi, zI, qs_bI, qs_bV, qb_0, zQ, zl, zs, zk, z4, ei, es, e1, iN, a1, show ¬ (2 : Int32) = 3 by decide, Nat.add_sub_cancel, Nat.le_add_left, Bool.true_eq_false, Nat.reduceSub, Nat.reduceLeDiff, Nat.reduceLT, true_and, and_true, and_self, if_true, if_false]
    · refine (bq_191_0 (d + 119) 116 _ _ _ (QM _ w)).trans ?_
      simp only [QM_kd, QM_sz, QM_lk, QM_i, QM_wi, zM, zI, qs_bI, qs_bV, qb_0, mc_185, mc_184, mc_108, g1, g2', g3, iN, es, f130, g4', Bool.true_eq_false, Nat.reduceSub, Nat.reduceLeDiff, Nat.reduceLT, true_and, and_true, and_self, if_true, if_false]
      refine (bq_191_61 (d + 119) 116 _ _ _ _ _ (QM _ w)).trans ?_
      rw [nI_0] at b1
      simp only [QM_kd, QM_sz, QM_lk, QM_i, QM_wi, zM, zI, qs_bI, qs_bV, qb_0, ei, es, iN, f133, f131, Bool.true_eq_false, Nat.reduceSub, Nat.reduceLeDiff, Nat.reduceLT, true_and, and_true, and_self, if_true, if_false]
      exact b1
    · intro q q1 q2 q3 q4 q5 q6 q7 q8
      rw [b4 q q8, s_w3_o _ _ _ _ _ q5 q6 q7, f q q1 q3 q4]
    · intro t ht
      obtain ⟨r1, r2, r3⟩ := s_w3_t v1 i 2 (nI n) 0 ht
      rw [b4 133 (by omega), b4 134 (by omega), b4 135 (by omega), r1, r2, r3, f133, f 134 (by omega) (by omega) (by omega), f 135 (by omega) (by omega) (by omega)]
      exact ⟨rfl, rfl, rfl⟩
    · intro c hc
      rw [b3 c hc, s_w3_o _ _ _ _ _ (by omega) (by omega) (by omega), f 136 (by omega) (by omega) (by omega)]
    · obtain ⟨r1, r2, r3⟩ := s_w3_i v1 i 2 (nI n) 0
      have cc : ∀ q, q ≠ 133 → q ≠ 134 → q ≠ 135 → q ≠ 136 → v2 q = v1 q := fun q q1 q2 q3 q4 => by rw [b4 q q4, s_w3_o _ _ _ _ _ q1 q2 q3]
      rw [cc (96 + 4 * i) (by omega) (by omega) (by omega) (by omega), b4 133 (by omega), b4 134 (by omega), r1, r2]
      refine ⟨by rw [a4 _ (by omega) (by omega)]; simp [qu], Or.inr (Or.inr (Or.inl ⟨rfl, ?_, ⟨n, n1, rfl⟩, fun c hc => ?_⟩))⟩
      · rw [cc (98 + 4 * i) (by omega) (by omega) (by omega) (by omega), a2, qu_ne _ _ _ (by omega), f2, n2]
      · rw [cc (98 + 4 * i + 1) (by omega) (by omega) (by omega) (by omega), a3 c hc, b2 c hc, s_w3_o _ _ _ _ _ (by omega) (by omega) (by omega), f 132 (by omega) (by omega) (by omega), qu_ne _ _ _ (by omega)]
        exact (f5 c hc).1
  · -- a number
    have g2' : s_in 3 0 3 = true := by decide
    have c133 : ∀ (q : Nat) (y x : Int32), q ≠ 96 + 4 * i → qu (qu u (96 + 4 * i) 2 y) (96 + 4 * i) 3 x q = u q := fun q y x hq => by rw [qu_ne _ _ _ hq, qu_ne _ _ _ hq]
    refine ⟨u 133 i, qu (qu u (96 + 4 * i) 2 3) (96 + 4 * i) 3 k, s_w3 (qu (qu u (96 + 4 * i) 2 3) (96 + 4 * i) 3 k) i 3 k 0, w, ?_, ?_, fin _ ?_ ?_ ?_ ?_⟩
    · refine (bq_88_0 (d + 119) 16 _ _ _ (QM u w)).trans ?_
      simp only [QM_kd, QM_sz, QM_lk, QM_i, QM_wi, zI, qs_bI, qs_bV, qb_0, c_101, c_97, g1, g2', iN, iT, Bool.true_eq_false, Nat.reduceSub, Nat.reduceLeDiff, Nat.reduceLT, true_and, and_true, and_self, if_true, if_false]
      refine (bq_88_69 (d + 119) 16 _ _ _ _ _ (QM u w)).trans ?_
      simp only [QM_kd, QM_sz, QM_lk, QM_i, QM_wi, zI, qs_bI, qs_bV, qb_0, zQ, z, zl, zk, z4, ei, e1, iN, iT, Nat.add_sub_cancel, Nat.le_add_left, Bool.true_eq_false, Nat.reduceSub, Nat.reduceLeDiff, Nat.reduceLT, true_and, and_true, and_self, if_true, if_false]
    · refine (bq_191_0 (d + 119) 116 _ _ _ (QM _ w)).trans ?_
      simp only [QM_kd, QM_sz, QM_lk, QM_i, QM_wi, zM, zI, qs_bI, qs_bV, qb_0, mc_185, mc_108, g1, g2', iN, iT, Bool.true_eq_false, Nat.reduceSub, Nat.reduceLeDiff, Nat.reduceLT, true_and, and_true, and_self, if_true, if_false]
      refine (bq_191_61 (d + 119) 116 _ _ _ _ _ (QM _ w)).trans ?_
      simp only [QM_kd, QM_sz, QM_lk, QM_i, QM_wi, zM, zI, qs_bI, qs_bV, qb_0, ei, iN, iT, c133 133 3 k (by omega), Bool.true_eq_false, Nat.reduceSub, Nat.reduceLeDiff, Nat.reduceLT, true_and, and_true, and_self, if_true, if_false]
      refine (bq_191_134 (d + 119) 116 _ _ _ _ _ (QM _ w)).trans ?_
      simp only [QM_kd, QM_sz, QM_lk, QM_i, QM_wi, zM, zI, qs_bI, qs_bV, qb_0, iN, iT, show ¬ (24 : Int32) ≤ 0 by decide, Bool.true_eq_false, Nat.reduceSub, Nat.reduceLeDiff, Nat.reduceLT, true_and, and_true, and_self, if_true, if_false]
      rfl
    · intro q q1 q2 q3 q4 q5 q6 q7 q8
      rw [s_w3_o _ _ _ _ _ q5 q6 q7, c133 q 3 k q1]
    · intro t ht
      obtain ⟨r1, r2, r3⟩ := s_w3_t (qu (qu u (96 + 4 * i) 2 3) (96 + 4 * i) 3 k) i 3 k 0 ht
      rw [r1, r2, r3, c133 133 3 k (by omega), c133 134 3 k (by omega), c133 135 3 k (by omega)]
      exact ⟨rfl, rfl, rfl⟩
    · intro c hc
      rw [s_w3_o _ _ _ _ _ (by omega) (by omega) (by omega), c133 136 3 k (by omega)]
    · obtain ⟨r1, r2, r3⟩ := s_w3_i (qu (qu u (96 + 4 * i) 2 3) (96 + 4 * i) 3 k) i 3 k 0
      rw [r1, r2, s_w3_o _ _ _ _ _ (by omega) (by omega) (by omega)]
      exact ⟨by simp [qu], Or.inr (Or.inr (Or.inr ⟨rfl, by simp [qu]⟩))⟩
