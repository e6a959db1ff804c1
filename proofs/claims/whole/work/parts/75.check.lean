/-! CHECK, call by call -/
theorem s_cnt_2 (T E : Nat → Int32) (had r k : Nat) : s_cnt T E had (2 * (r + 1)) k = if k < had ∧ T k = E k then (if k + 1 < had ∧ T (k + 1) = E (k + 1) then s_cnt T E had (2 * r) (k + 2) else k + 1) else k := rfl
theorem i_2k (k : Nat) : (2 : Int32) * nI k = nI (2 * k) := nI_times 2 k
theorem i_1n (k : Nat) : (1 : Int32) + nI k = nI (1 + k) := nI_add 1 k
theorem i_2n (k : Nat) : (2 : Int32) + nI k = nI (2 + k) := nI_add 2 k
theorem d_93L {d M n had : Nat} {u0 : Nat → Nat → Int32} {w : Nat → Nat → Int64} {S : Nat → Int32} {o1 : Option Value} (hh : had ≤ 60) (hn : n ≤ 30) : ∀ (r k : Nat) (u : Nat → Nat → Int32), k + r = n → sC u 74 (s_go S k) M → fth u0 u → 2 * k ≤ had → ∃ v', qs_EV (d + 6) 93 65 [some (.ref 16), o1, some (.int (nI had)), some (.int (nI n)), some (.int (nI k))] [] (QM u w) = some (some (.int (s_chk had (2 * n) (s_cnt (u0 87) (s_E S M) had (2 * r) (2 * k)))), QM v' w) ∧ fth u0 v'
  | 0, k, u, hk, hC, hf, h2 => by
    obtain rfl : k = n := by omega
    refine ⟨u, ?_, hf⟩
    refine (bq_93_65 (d + 6) 16 _ _ _ _ (QM u w)).trans ?_
    rw [if_pos (nI_le (Nat.le_refl _) (by omega)), i_2k, i_1n]
    unfold s_chk s_cnt
    by_cases e : had ≤ 2 * k
    · rw [if_pos (nI_le e (by omega)), if_pos ⟨by omega, rfl⟩]
    · rw [if_neg (nI_ge (by omega) (by omega)), if_neg (by omega)]
  | r + 1, k, u, hk, hC, hf, h2 => by
    obtain ⟨v1, a1, a2, a3⟩ := c_26 (d := d) (w := w) hC
    have a2 : sC v1 74 (s_go S (k + 1)) M := a2
    have hf1 : fth u0 v1 := fth_t hf (fun q h h19 => a3 q h h19)
    have f7 : v1 74 7 = s_go S (k + 1) 6 := a2.2.1.2.2.2.2.1
    have t87 : v1 87 = u0 87 := hf1 87 (by unfold inP; omega) (by omega)
    have b1 := c_106 (d := d + 5) (had := had) (i := 2 * k) (u := v1) (w := w) (x := s_go S (k + 1) 6) hh (by omega)
    have b2 := c_106 (d := d + 5) (had := had) (i := 2 * k + 1) (u := v1) (w := w) (x := s_ts (s_go S (k + 1)) M) hh (by omega)
    have b21 := c_21 (d := d + 5) (w := w) a2
    rw [t87] at b1 b2
    have z := z74
    unfold zPp at z
    have e1 : ¬ nI n ≤ nI k := nI_ge (by omega) (by omega)
    rw [s_cnt_2, s_E_0, s_E_1]
    by_cases c1 : 2 * k < had ∧ u0 87 (2 * k) = s_go S (k + 1) 6
    · rw [decide_eq_true c1] at b1
      rw [if_pos c1]
      by_cases c2 : 2 * k + 1 < had ∧ u0 87 (2 * k + 1) = s_ts (s_go S (k + 1)) M
      · rw [decide_eq_true c2] at b2
        rw [if_pos c2]
        obtain ⟨v', g1, g2⟩ := d_93L (d := d) (M := M) (n := n) (had := had) (u0 := u0) (w := w) (S := S) (o1 := o1) hh hn r (k + 1) v1 (by omega) a2 hf1 (by omega)
        refine ⟨v', ?_, g2⟩
        refine (bq_93_65 (d + 6) 16 _ _ _ _ (QM u w)).trans ?_
        simp only [QM_kd, QM_sz, QM_lk, QM_i, QM_wi, zI, qs_bI, qs_bV, qb_0, zQ, z, e1, a1, f7, i_2k, b1, b21, nI_1, b2, Bool.true_eq_false, Nat.reduceSub, Nat.reduceLeDiff, Nat.reduceLT, true_and, and_true, and_self, if_true, if_false]
        exact g1
      · rw [decide_eq_false c2] at b2
        rw [if_neg c2]
        refine ⟨v1, ?_, hf1⟩
        refine (bq_93_65 (d + 6) 16 _ _ _ _ (QM u w)).trans ?_
        simp only [QM_kd, QM_sz, QM_lk, QM_i, QM_wi, zI, qs_bI, qs_bV, qb_0, zQ, z, e1, a1, f7, i_2k, b1, b21, nI_1, b2, i_2n, Bool.true_eq_false, Nat.reduceSub, Nat.reduceLeDiff, Nat.reduceLT, true_and, and_true, and_self, if_true, if_false]
        unfold s_chk
        rw [if_neg (by omega), show 1 + (2 * k + 1) = 2 + 2 * k by omega]
    · rw [decide_eq_false c1] at b1
      rw [if_neg c1]
      refine ⟨v1, ?_, hf1⟩
      refine (bq_93_65 (d + 6) 16 _ _ _ _ (QM u w)).trans ?_
      simp only [QM_kd, QM_sz, QM_lk, QM_i, QM_wi, zI, qs_bI, qs_bV, qb_0, zQ, z, e1, a1, f7, i_2k, b1, i_1n, Bool.true_eq_false, Nat.reduceSub, Nat.reduceLeDiff, Nat.reduceLT, true_and, and_true, and_self, if_true, if_false]
      unfold s_chk
      rw [if_neg (by omega)]
theorem s_chk_if {had due c : Nat} (hh : had < 2 ^ 31) (hd : due < 2 ^ 31) (hc : c < 2 ^ 31) (m : qs_M) : (if nI c = nI had then if nI c = nI due then (some (some (.int 0), m) : Option qs_R) else some (some (.int (nI (1 + c))), m) else some (some (.int (nI (1 + c))), m)) = some (some (.int (s_chk had due c)), m) := by
  unfold s_chk
  by_cases h1 : c = had
  · rw [if_pos (by rw [h1])]
    by_cases h2 : c = due
    · rw [if_pos (by rw [h2]), if_pos ⟨h1, h2⟩]
    · rw [if_neg (fun q => h2 ((nI_eq hc hd).mp q)), if_neg (fun q => h2 q.2)]
  · rw [if_neg (fun q => h1 ((nI_eq hc hh).mp q)), if_neg (fun q => h1 q.1)]
theorem mq_196F {d had due c k : Nat} {u : Nat → Nat → Int32} {w : Nat → Nat → Int64} {o1 : Option Value} (hh : had ≤ 60) (hd : due ≤ 60) (hc : c ≤ 62) (hk : k ≤ 31) (he : due ≤ 2 * k ∨ c ≠ 2 * k) : ∃ v', qs_EV (d + 1) 196 80 [some (.ref 116), o1, some (.int (nI had)), some (.int (nI due)), some (.int (nI c)), some (.int (nI k))] [] (QM u w) = some (some (.int (s_chk had due c)), QM v' w) ∧ v' 117 = s_over (u 119) (u 117) ∧ ∀ q, q ≠ 117 → v' q = u q := by
  obtain ⟨v', a1, a2, a3⟩ := mq_110 (d := d) (a := 119) (b := 117) (u := u) (w := w) z119 z117 (by omega)
  refine ⟨v', ?_, a2, a3⟩
  refine (bq_196_80 (d + 1) 116 _ _ _ _ _ (QM u w)).trans ?_
  rw [i_2k]
  by_cases h1 : due ≤ 2 * k
  · rw [if_pos (nI_le h1 (by omega))]
    simp only [QM_kd, QM_sz, QM_lk, QM_i, QM_wi, zM, zI, qs_bI, qs_bV, qb_0, a1, i_1n, Bool.true_eq_false, Nat.reduceSub, Nat.reduceLeDiff, Nat.reduceLT, true_and, and_true, and_self, if_true, if_false]
    exact s_chk_if (by omega) (by omega) (by omega) _
  · have h2 : ¬ nI c = nI (2 * k) := fun q => he.resolve_left h1 ((nI_eq (by omega) (by omega)).mp q)
    rw [if_neg (nI_ge (by omega) (by omega)), if_neg h2]
    simp only [QM_kd, QM_sz, QM_lk, QM_i, QM_wi, zM, zI, qs_bI, qs_bV, qb_0, a1, i_1n, Bool.true_eq_false, Nat.reduceSub, Nat.reduceLeDiff, Nat.reduceLT, true_and, and_true, and_self, if_true, if_false]
    exact s_chk_if (by omega) (by omega) (by omega) _
theorem mq_196L {d M n had : Nat} {u0 : Nat → Nat → Int32} {w : Nat → Nat → Int64} {S : Nat → Int32} {o1 : Option Value} (hM : M ≤ 8) (h1 : S 1 = nI M) (ht : s_tx S) (hh : had ≤ 60) (hn : n ≤ 30) : ∀ (r k : Nat) (u : Nat → Nat → Int32), k + r = n → u 117 = s_go S k → (∀ q, q ≠ 117 → q ≠ 128 → q ≠ 129 → u q = u0 q) → ∃ v' j, qs_EV (d + 6) 196 80 [some (.ref 116), o1, some (.int (nI had)), some (.int (nI (2 * n))), some (.int (nI (2 * k))), some (.int (nI k))] [] (QM u w) = some (some (.int (s_chk had (2 * n) (s_cnt (u0 138) (s_E S M) had (2 * r) (2 * k)))), QM v' w) ∧ v' 117 = s_over (u0 119) (s_go S j) ∧ ∀ q, q ≠ 117 → q ≠ 128 → q ≠ 129 → v' q = u0 q
  | 0, k, u, hk, hu, ho => by
    obtain rfl : k = n := by omega
    obtain ⟨v', a1, a2, a3⟩ := mq_196F (d := d + 5) (had := had) (due := 2 * k) (c := 2 * k) (k := k) (u := u) (w := w) (o1 := o1) hh (by omega) (by omega) (by omega) (Or.inl (Nat.le_refl _))
    refine ⟨v', k, a1, by rw [a2, ho 119 (by omega) (by omega) (by omega), hu], fun q q1 q2 q3 => by rw [a3 q q1, ho q q1 q2 q3]⟩
  | r + 1, k, u, hk, hu, ho => by
    obtain ⟨v1, a1, a2, a3⟩ := mq_139 (d := d) (u := u) (w := w) hM (by rw [hu, s_go_1, h1]) (by rw [hu]; exact s_go_tx h1 hM ht k)
    have v117 : v1 117 = s_go S (k + 1) := by rw [a2, hu]; rfl
    have vo : ∀ q, q ≠ 117 → q ≠ 128 → q ≠ 129 → v1 q = u0 q := fun q q1 q2 q3 => by rw [a3 q q1 q2 q3, ho q q1 q2 q3]
    have f6 : v1 117 6 = s_go S (k + 1) 6 := by rw [v117]
    have v138 : v1 138 = u0 138 := vo 138 (by omega) (by omega) (by omega)
    have b143 := mq_143 (d := d + 4) (u := v1) (w := w) hM (by rw [v117, s_go_1, h1])
    rw [v117] at b143
    have e1 : ¬ nI (2 * n) ≤ nI (2 * k) := nI_ge (by omega) (by omega)
    have e2 : (nI (2 * k)).toNatClampNeg = 2 * k ∧ 0 ≤ nI (2 * k) := ⟨nI_clamp (by omega), nI_pos' (by omega)⟩
    have e3 : (nI (2 * k + 1)).toNatClampNeg = 2 * k + 1 ∧ 0 ≤ nI (2 * k + 1) := ⟨nI_clamp (by omega), nI_pos' (by omega)⟩
    have n01 : ¬ nI (2 * k) = nI (2 * k + 1) := fun q => by
      have := (nI_eq (by omega) (by omega)).mp q
      omega
    rw [s_cnt_2, s_E_0, s_E_1]
    have fin : ∀ c, c ≤ 62 → c ≠ 2 * (k + 1) → ∃ v' j, qs_EV (d + 6) 196 80 [some (.ref 116), o1, some (.int (nI had)), some (.int (nI (2 * n))), some (.int (nI c)), some (.int (nI (k + 1)))] [] (QM v1 w) = some (some (.int (s_chk had (2 * n) c)), QM v' w) ∧ v' 117 = s_over (u0 119) (s_go S j) ∧ ∀ q, q ≠ 117 → q ≠ 128 → q ≠ 129 → v' q = u0 q := fun c hc1 hc2 => by
      obtain ⟨v', g1, g2, g3⟩ := mq_196F (d := d + 5) (had := had) (due := 2 * n) (c := c) (k := k + 1) (u := v1) (w := w) (o1 := o1) hh (by omega) hc1 (by omega) (Or.inr hc2)
      exact ⟨v', k + 1, g1, by rw [g2, vo 119 (by omega) (by omega) (by omega), v117], fun q q1 q2 q3 => by rw [g3 q q1, vo q q1 q2 q3]⟩
    by_cases c1 : 2 * k < had ∧ u0 138 (2 * k) = s_go S (k + 1) 6
    · rw [if_pos c1]
      have g1 : ¬ nI had ≤ nI (2 * k) := nI_ge c1.1 (by omega)
      have g4 : 2 * k < 60 := by omega
      by_cases c2 : 2 * k + 1 < had ∧ u0 138 (2 * k + 1) = s_ts (s_go S (k + 1)) M
      · rw [if_pos c2]
        have g2 : ¬ nI had ≤ nI (2 * k + 1) := nI_ge c2.1 (by omega)
        have g5 : 2 * k + 1 < 60 := by omega
        obtain ⟨v', j, k1, k2, k3⟩ := mq_196L (d := d) (M := M) (n := n) (had := had) (u0 := u0) (w := w) (S := S) (o1 := o1) hM h1 ht hh hn r (k + 1) v1 (by omega) v117 vo
        refine ⟨v', j, ?_, k2, k3⟩
        refine (bq_196_80 (d + 6) 116 _ _ _ _ _ (QM u w)).trans ?_
        simp only [QM_kd, QM_sz, QM_lk, QM_i, QM_wi, zM, zI, qs_bI, qs_bV, qb_0, i_2k, e1, a1, g1, e2, g4, v138, f6, c1.2, nI_1, g2, e3, g5, b143, c2.2, Bool.true_eq_false, Nat.reduceSub, Nat.reduceLeDiff, Nat.reduceLT, true_and, and_true, and_self, if_true, if_false]
        exact k1
      · rw [if_neg c2]
        obtain ⟨v', j, k1, k2, k3⟩ := fin (2 * k + 1) (by omega) (by omega)
        refine ⟨v', j, ?_, k2, k3⟩
        refine (bq_196_80 (d + 6) 116 _ _ _ _ _ (QM u w)).trans ?_
        by_cases c3 : 2 * k + 1 < had
        · have g2 : ¬ nI had ≤ nI (2 * k + 1) := nI_ge c3 (by omega)
          have g5 : 2 * k + 1 < 60 := by omega
          have g6 : ¬ u0 138 (2 * k + 1) = s_ts (s_go S (k + 1)) M := fun q => c2 ⟨c3, q⟩
          simp only [QM_kd, QM_sz, QM_lk, QM_i, QM_wi, zM, zI, qs_bI, qs_bV, qb_0, i_2k, e1, a1, g1, e2, g4, v138, f6, c1.2, nI_1, g2, e3, g5, b143, g6, Int32.add_zero, Bool.true_eq_false, Nat.reduceSub, Nat.reduceLeDiff, Nat.reduceLT, true_and, and_true, and_self, if_true, if_false]
          exact k1
        · have g2 : nI had ≤ nI (2 * k + 1) := nI_le (by omega) (by omega)
          simp only [QM_kd, QM_sz, QM_lk, QM_i, QM_wi, zM, zI, qs_bI, qs_bV, qb_0, i_2k, e1, a1, g1, e2, g4, v138, f6, c1.2, nI_1, g2, Int32.add_zero, Bool.true_eq_false, Nat.reduceSub, Nat.reduceLeDiff, Nat.reduceLT, true_and, and_true, and_self, if_true, if_false]
          exact k1
    · rw [if_neg c1]
      obtain ⟨v', j, k1, k2, k3⟩ := fin (2 * k) (by omega) (by omega)
      refine ⟨v', j, ?_, k2, k3⟩
      refine (bq_196_80 (d + 6) 116 _ _ _ _ _ (QM u w)).trans ?_
      by_cases c3 : 2 * k < had
      · have g1 : ¬ nI had ≤ nI (2 * k) := nI_ge c3 (by omega)
        have g4 : 2 * k < 60 := by omega
        have g6 : ¬ u0 138 (2 * k) = s_go S (k + 1) 6 := fun q => c1 ⟨c3, q⟩
        simp only [QM_kd, QM_sz, QM_lk, QM_i, QM_wi, zM, zI, qs_bI, qs_bV, qb_0, i_2k, e1, a1, g1, e2, g4, v138, f6, g6, nI_1, n01, Int32.add_zero, Bool.true_eq_false, Nat.reduceSub, Nat.reduceLeDiff, Nat.reduceLT, true_and, and_true, and_self, if_true, if_false]
        exact k1
      · have g1 : nI had ≤ nI (2 * k) := nI_le (by omega) (by omega)
        simp only [QM_kd, QM_sz, QM_lk, QM_i, QM_wi, zM, zI, qs_bI, qs_bV, qb_0, i_2k, e1, a1, g1, nI_1, n01, Int32.add_zero, Bool.true_eq_false, Nat.reduceSub, Nat.reduceLeDiff, Nat.reduceLT, true_and, and_true, and_self, if_true, if_false]
        exact k1
theorem k_check (x : Int32) : sOK 93 196 [.int x] := by
  intro d u w h
  obtain ⟨e1, had, n1, n2, n3⟩ := h.2.2.2.2.1
  have hw : u 16 9 = nI had := by rw [e1, n2]
  have iv : ∀ v, (∀ q, q ≠ 16 → q ≠ 116 → v q = u q) → (∀ f, f ≠ 9 → v 16 f = u 16 f) → (∀ f, f ≠ 35 → v 116 f = u 116 f) → v 16 9 = 0 → v 116 35 = 0 → sINV v := fun v p1 p2 p3 p4 p5 =>
    inv_wt h (fun q q1 q2 q3 q4 => p1 q q1 q3) p2 p3 ⟨by rw [p4, p5], 0, by omega, p5, fun k hk => by omega⟩
  by_cases g1 : s_in x 1 30 = false
  · refine ⟨sBAD, qu u 16 9 0, qu (qu u 16 9 0) 116 35 0, w, ?_, ?_, iv _ (fun q q1 q2 => by rw [qu_ne _ _ _ q2, qu_ne _ _ _ q1]) (fun f hf => by rw [qu_ne _ _ _ (by omega), qu_at, if_neg (by omega)]) (fun f hf => by rw [qu_at, if_neg (by omega), qu_ne _ _ _ (by omega)]) (by simp [qu]) (by simp [qu])⟩
    · refine (bq_93_0 (d + 119) 16 _ (QM u w)).trans ?_
      by_cases g3 : x < 1
      · simp only [QM_kd, QM_sz, QM_lk, QM_i, QM_wi, zI, qs_bI, qs_bV, qb_0, zQ, hw, g3, Bool.true_eq_false, Nat.reduceSub, Nat.reduceLeDiff, Nat.reduceLT, true_and, and_true, and_self, if_true, if_false]
        rfl
      · have g4 : ¬ x ≤ 30 := Int32.not_le.mpr ((s_range.mp g1).resolve_left g3)
        simp only [QM_kd, QM_sz, QM_lk, QM_i, QM_wi, zI, qs_bI, qs_bV, qb_0, zQ, hw, g3, g4, Bool.true_eq_false, Nat.reduceSub, Nat.reduceLeDiff, Nat.reduceLT, true_and, and_true, and_self, if_true, if_false]
        rfl
    · refine (bq_196_0 (d + 119) 116 _ (QM _ w)).trans ?_
      have k1 : qu u 16 9 0 116 35 = nI had := by rw [qu_ne _ _ _ (by omega), n2]
      simp only [QM_kd, QM_sz, QM_lk, QM_i, QM_wi, zM, zI, qs_bI, qs_bV, qb_0, k1, mc_108, g1, Bool.true_eq_false, Nat.reduceSub, Nat.reduceLeDiff, Nat.reduceLT, true_and, and_true, and_self, if_true, if_false]
      rfl
  have g3 : ¬ x < 1 := fun q => g1 (s_range.mpr (Or.inl q))
  have g4 : x ≤ 30 := Int32.not_lt.mp (fun q => g1 (s_range.mpr (Or.inr q)))
  obtain ⟨n, hn, rfl⟩ := s_in_n (x := x) (a := 1) (b := 30) (n := 30) (by simpa using g1) (by decide) rfl (by omega)
  have k1 : qu u 16 9 0 116 35 = nI had := by rw [qu_ne _ _ _ (by omega), n2]
  obtain ⟨i1, i2⟩ := h.2.1
  rcases i2 with i2 | ⟨i2, ⟨MI, iC, iH⟩, -⟩
  · refine ⟨-1000000002, qu u 16 9 0, qu (qu u 16 9 0) 116 35 0, w, ?_, ?_, iv _ (fun q q1 q2 => by rw [qu_ne _ _ _ q2, qu_ne _ _ _ q1]) (fun f hf => by rw [qu_ne _ _ _ (by omega), qu_at, if_neg (by omega)]) (fun f hf => by rw [qu_at, if_neg (by omega), qu_ne _ _ _ (by omega)]) (by simp [qu]) (by simp [qu])⟩
    · refine (bq_93_0 (d + 119) 16 _ (QM u w)).trans ?_
      have k2 : qu u 16 9 0 16 5 = 0 := by rw [qu_at, if_neg (by omega), i1, i2]
      simp only [QM_kd, QM_sz, QM_lk, QM_i, QM_wi, zI, qs_bI, qs_bV, qb_0, zQ, hw, g3, g4, k2, Bool.true_eq_false, Nat.reduceSub, Nat.reduceLeDiff, Nat.reduceLT, true_and, and_true, and_self, if_true, if_false]
    · refine (bq_196_0 (d + 119) 116 _ (QM _ w)).trans ?_
      have k3 : qu (qu u 16 9 0) 116 35 0 116 3 = 0 := by rw [qu_at, if_neg (by omega), qu_ne _ _ _ (by omega), i2]
      simp only [QM_kd, QM_sz, QM_lk, QM_i, QM_wi, zM, zI, qs_bI, qs_bV, qb_0, k1, mc_108, g1, k3, Bool.true_eq_false, Nat.reduceSub, Nat.reduceLeDiff, Nat.reduceLT, true_and, and_true, and_self, if_true, if_false]
  obtain ⟨hM, h3, hr1⟩ := sC_M iC
  obtain ⟨H, H1, H2⟩ := iH
  have hov := s_over_eq (u 118) (u 117)
  generalize hS : s_over (u 118) (u 117) = S at hov
  have iC' : sC u 63 S MI := sC_cg iC hov
  have S1 : S 1 = nI MI := (sC_M iC').2.2
  have S2 : S 2 = nI H := by rw [hov 2 (by omega), H2]
  have Stx : s_tx S := iC'.2.2.1.2.2.2.2.1
  have ne1 : ¬ (1 : Int32) = 0 := by decide
  have e9 : (9999 : Int32) - nI H = nI (9999 - H) := nI_sub (a := 9999) H1
  have iC2 : sC (qu u 16 9 0) 63 S MI := sC_same iC' (fun q hq => qu_ne _ _ _ (by unfold inP at hq; omega))
  obtain ⟨v1, a1, a2, a3⟩ := c_14 (d := d + 116) (p := 74) (w := w) iC2 isP74 (by omega)
  have f1 : ∀ q, ¬ inP 74 q → v1 q = qu u 16 9 0 q := a3
  have v12 : v1 63 12 = nI H := by
    rw [f1 63 (by unfold inP; omega), qu_ne _ _ _ (by omega)]
    have : u 63 12 = S 2 := (sC_f iC').2.2.2.2.2.2.2.2.1
    rw [this, S2]
  obtain ⟨u1, b1, b2⟩ := d_93L (d := d + 113) (M := MI) (n := min n (9999 - H)) (had := had) (u0 := v1) (w := w) (S := S) (o1 := some (.int (nI n))) n1 (by omega) (min n (9999 - H)) 0 v1 (by omega) a2 (fth_r v1) (by omega)
  have F : ∀ q, ¬ inP 74 q → q ≠ 19 → u1 q = qu u 16 9 0 q := fun q q1 q2 => by rw [b2 q q1 q2, f1 q q1]
  have F85 : ∀ q, 85 ≤ q → u1 q = u q := fun q hq => by rw [F q (by unfold inP; omega) (by omega), qu_ne _ _ _ (by omega)]
  obtain ⟨w1, c1, c2, c3⟩ := mq_110 (d := d + 118) (a := 117) (b := 119) (u := qu u1 116 35 0) (w := w) z117 z119 (by omega)
  obtain ⟨w2, d1, d2, d3⟩ := mq_110 (d := d + 118) (a := 118) (b := 117) (u := w1) (w := w) z118 z117 (by omega)
  have p117 : qu u1 116 35 0 117 = u 117 := by rw [qu_ne _ _ _ (by omega), F85 117 (by omega)]
  have p118 : w1 118 = u 118 := by rw [c3 118 (by omega), qu_ne _ _ _ (by omega), F85 118 (by omega)]
  have q117 : w1 117 = u 117 := by rw [c3 117 (by omega), p117]
  rw [p118, q117, hS] at d2
  have w22 : w2 117 2 = nI H := by rw [d2, S2]
  have ecl : s_cl 0 (nI n) (9999 - nI H) = nI (min n (9999 - H)) := by
    have := s_hn_eq (R := S) (H := H) (n := n) S2 H1 (by omega)
    rw [S2] at this
    exact this
  obtain ⟨u2, j, x1, x2, x3⟩ := mq_196L (d := d + 113) (M := MI) (n := min n (9999 - H)) (had := had) (u0 := w2) (w := w) (S := S) (o1 := some (.int (nI n))) hM S1 Stx n1 (by omega) (min n (9999 - H)) 0 w2 (by omega) d2 (fun _ _ _ _ => rfl)
  have r138 : w2 138 = u 138 := by rw [d3 138 (by omega), c3 138 (by omega), qu_ne _ _ _ (by omega), F85 138 (by omega)]
  have r87 : v1 87 = u 87 := by rw [f1 87 (by unfold inP; omega), qu_ne _ _ _ (by omega)]
  have hcnt : ∀ r k, s_cnt (u 87) (s_E S MI) had r k = s_cnt (u 138) (s_E S MI) had r k := by
    intro r
    induction r with
    | zero => intro k; rfl
    | succ r ih =>
      intro k
      unfold s_cnt
      rw [ih (k + 1)]
      by_cases hk : k < had
      · rw [n3 k hk]
      · rw [if_neg (fun q => hk q.1), if_neg (fun q => hk q.1)]
  rw [r87] at b1
  rw [r138] at x1
  rw [hcnt] at b1
  have u2117 : u2 117 = u 117 := by
    rw [x2, d3 119 (by omega), c2, p117]
    funext i
    unfold s_over s_cp
    by_cases hi : i < 1448
    · rw [if_pos hi, if_pos hi]
    · rw [if_neg hi, s_go_hi S1 hM j i (by omega), ← hS]
      unfold s_over s_cp
      rw [if_neg hi]
  have u2o : ∀ q, q ≠ 117 → q ≠ 119 → q ≠ 128 → q ≠ 129 → u2 q = qu u1 116 35 0 q := fun q q1 q2 q3 q4 => by rw [x3 q q1 q3 q4, d3 q q1, c3 q q2]
  have b1' := b1
  have z := z74
  unfold zPp at z
  have z6 : zPp 63 := zP (Or.inr (Or.inl rfl))
  unfold zPp at z6
  have k5 : qu u 16 9 0 16 5 = 1 := by rw [qu_at, if_neg (by omega), i1, i2]
  have k6 : u1 116 35 = nI had := by rw [F85 116 (by omega), n2]
  have k7 : qu u1 116 35 0 116 3 = 1 := by rw [qu_at, if_neg (by omega), F85 116 (by omega), i2]
  rw [Nat.mul_zero, nI_0] at b1 x1
  obtain ⟨j1, j2, j3, j4, j5, j6, j7⟩ := h
  have g : ∀ q, ¬ inP 74 q → q ≠ 19 → q ≠ 16 → q ≠ 116 → q ≠ 119 → q ≠ 128 → q ≠ 129 → u2 q = u q := fun q q1 q2 q3 q4 q5 q6 q7 => by
    by_cases e : q = 117
    · rw [e, u2117]
    · rw [u2o q e q5 q6 q7, qu_ne _ _ _ q4, F q q1 q2, qu_ne _ _ _ q3]
  have g16 : ∀ f, f ≠ 9 → u2 16 f = u 16 f := fun f hf => by
    rw [u2o 16 (by omega) (by omega) (by omega) (by omega), qu_ne _ _ _ (by omega), F 16 (by unfold inP; omega) (by omega), qu_at, if_neg (by omega)]
  have g116 : ∀ f, f ≠ 35 → u2 116 f = u 116 f := fun f hf => by
    rw [u2o 116 (by omega) (by omega) (by omega) (by omega), qu_at, if_neg (by omega), F85 116 (by omega)]
  have g169 : u2 16 9 = 0 := by
    rw [u2o 16 (by omega) (by omega) (by omega) (by omega), qu_ne _ _ _ (by omega), F 16 (by unfold inP; omega) (by omega)]
    simp [qu]
  have g11635 : u2 116 35 = 0 := by
    rw [u2o 116 (by omega) (by omega) (by omega) (by omega)]
    simp [qu]
  have G : ∀ q, (q < 74 ∨ 85 ≤ q) → q ≠ 19 → q ≠ 16 → q ≠ 116 → q ≠ 119 → q ≠ 128 → q ≠ 129 → u2 q = u q := fun q q1 => g q (by unfold inP; omega)
  refine ⟨s_chk had (2 * min n (9999 - H)) (s_cnt (u 138) (s_E S MI) had (2 * min n (9999 - H)) 0), u1, u2, w, ?_, ?_, iNw_f j1 u2117 (fun q hq => G q (by unfold inP at hq; omega) (by unfold inP at hq; omega) (by unfold inP at hq; omega) (by unfold inP at hq; omega) (by unfold inP at hq; omega) (by unfold inP at hq; omega) (by unfold inP at hq; omega)), iIm_f j2 (g16 5 (by omega)) (g116 3 (by omega)) (G 118 (by omega) (by omega) (by omega) (by omega) (by omega) (by omega) (by omega)) (by rw [u2117]) (fun q hq => G q (by unfold inP at hq; omega) (by unfold inP at hq; omega) (by unfold inP at hq; omega) (by unfold inP at hq; omega) (by unfold inP at hq; omega) (by unfold inP at hq; omega) (by unfold inP at hq; omega)), iSh_f j3 (fun q hq => G q (by omega) (by omega) (by omega) (by omega) (by omega) (by omega) (by omega)), iSl_f j4 (fun q hq => G q (by omega) (by omega) (by omega) (by omega) (by omega) (by omega) (by omega)), ⟨by rw [g169, g11635], 0, by omega, g11635, fun k hk => by omega⟩, iTp_f j6 (by rw [G 48 (by omega) (by omega) (by omega) (by omega) (by omega) (by omega) (by omega)]) (g116 9 (by omega)) (G 49 (by omega) (by omega) (by omega) (by omega) (by omega) (by omega) (by omega)) (G 122 (by omega) (by omega) (by omega) (by omega) (by omega) (by omega) (by omega)), iKs_f j7 (fun q hq => G q (by omega) (by omega) (by omega) (by omega) (by omega) (by omega) (by omega))⟩
  · refine (bq_93_0 (d + 119) 16 _ (QM u w)).trans ?_
    simp only [QM_kd, QM_sz, QM_lk, QM_i, QM_wi, zI, qs_bI, qs_bV, qb_0, zQ, z, z6, hw, g3, g4, k5, ne1, a1, v12, e9, qmin_n (a := n) (b := 9999 - H) (by omega) (by omega), Bool.true_eq_false, Nat.reduceSub, Nat.reduceLeDiff, Nat.reduceLT, true_and, and_true, and_self, if_true, if_false]
    exact b1
  · refine (bq_196_0 (d + 119) 116 _ (QM u1 w)).trans ?_
    simp only [QM_kd, QM_sz, QM_lk, QM_i, QM_wi, zM, zI, qs_bI, qs_bV, qb_0, k6, mc_108, g1, k7, ne1, c1, d1, w22, mc_109, ecl, i_2k, Bool.true_eq_false, Nat.reduceSub, Nat.reduceLeDiff, Nat.reduceLT, true_and, and_true, and_self, if_true, if_false]
    exact x1
