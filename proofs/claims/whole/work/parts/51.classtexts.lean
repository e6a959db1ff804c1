/-! WHAT A TEXT GIVES, in the class -/
/-- a step of the class for a code of the reference -/
def s_tr (c : Int32) : Int32 := if 10000 ≤ c then 9999 - c else if 0 ≤ c then c else if c = -1 then -124 else if c = -2 then -38 else if c = -3 then -60 else if c = -4 then -61 else if c = -5 then -62 else if c = -6 then -43 else if c = -7 then -45 else if c = -8 then -42 else if c = -10 then -33 else -47
theorem s_tr_neg {c : Int32} (h : ¬ 0 ≤ c) : s_tr c < -3 ∧ (s_tr c = -33 ↔ c = -10) := by
  have h2 : ¬ 10000 ≤ c := fun q => h (Int32.le_trans (by decide) q)
  unfold s_tr
  rw [if_neg h2, if_neg h]
  (repeat' split) <;> (first | (subst_vars; decide) | (constructor; decide; constructor; intro q; exact absurd q (by decide); intro q; contradiction))
theorem c_12 {d : Nat} {a b c : Int32} {m : qs_M} (h : ¬ 0 ≤ c) (h10 : c ≠ -10) : qs_call (d + 1) 12 [.int a, .int (-(s_tr c)), .int b] m = some (some (.int (s_two c a b)), m) := by
  have h2 : ¬ 10000 ≤ c := fun q => h (Int32.le_trans (by decide) q)
  refine (bq_12_0 d a _ b m).trans ?_
  unfold s_two s_tr
  rw [if_neg h2, if_neg h]
  by_cases h8 : c = -8
  · subst h8
    simp
  by_cases h7 : c = -7
  · subst h7
    simp
  by_cases h6 : c = -6
  · subst h6
    simp
  by_cases h5 : c = -5
  · subst h5
    simp
    (repeat' split) <;> rfl
  by_cases h4 : c = -4
  · subst h4
    simp
    (repeat' split) <;> rfl
  by_cases h3 : c = -3
  · subst h3
    simp
    (repeat' split) <;> rfl
  by_cases h2 : c = -2
  · subst h2
    simp
    (repeat' split) <;> rfl
  by_cases h1 : c = -1
  · subst h1
    simp
    (repeat' split) <;> rfl
  simp only [h1, h2, h3, h4, h5, h6, h7, h8, h10, if_false]
  simp
  by_cases hb : b = 0
  · simp [hb]
  · simp [hb]
/-- text t of the class is the codes C -/
def cT1 (u : Nat → Nat → Int32) (t N : Nat) (C : Nat → Int32) : Prop := u (20 + 2 * t) 2 = nI N ∧ ∀ k, k < N → u (21 + 2 * t) k = s_tr (C k)
theorem c_11L {d : Nat} {u : Nat → Nat → Int32} {w : Nat → Nat → Int64} {x1 a b c : Int32} {t N : Nat} (ht : t < 14) (hN : N ≤ 96) {C A : Nat → Int32} (hT : cT1 u t N C) (hw : s_wf C N 3) : ∀ (r k : Nat) (o1 o : Option Value) (v : Nat → Nat → Int32), k + r = N → v 19 = s_st (s_F a b c) C A k → (∀ q, q ≠ 19 → v q = u q) → ∃ v', qs_EV (d + 1) 11 25 [some (.ref 17), o1, some (.int a), some (.int b), some (.int c), some (.ref (20 + 2 * t)), some (.int (nI (s_dp C k))), some (.int (nI k)), o] [] (QM v w) = some (some (.int (s_st (s_F a b c) C A N 0)), QM v' w) ∧ ∀ q, q ≠ 19 → v' q = u q
  | 0, k, o1, o, v, hk, h1, h2 => by
    obtain rfl : k = N := by omega
    refine ⟨v, ?_, h2⟩
    have z := zT ht
    unfold zTt at z
    have e1 : v (20 + 2 * t) 2 = nI k := by rw [h2 _ (by omega)]; exact hT.1
    have e2 : nI k ≤ nI k := nI_le (Nat.le_refl _) (by omega)
    refine (bq_11_25 (d + 1) 17 _ _ _ _ _ _ _ _ (QM v w)).trans ?_
    simp only [QM_kd, QM_sz, QM_lk, QM_i, QM_wi, zI, qs_bI, qs_bV, qb_0, zQ, z, e1, e2, h1, Bool.true_eq_false, Nat.reduceSub, Nat.reduceLeDiff, Nat.reduceLT, true_and, and_true, and_self, if_true, if_false]
  | r + 1, k, o1, o, v, hk, h1, h2 => by
    have ih := c_11L (d := d) (u := u) (w := w) (x1 := x1) (a := a) (b := b) (c := c) (A := A) ht hN hT hw r (k + 1)
    have z := zT ht
    unfold zTt at z
    have e1 : v (20 + 2 * t) 2 = nI N := by rw [h2 _ (by omega)]; exact hT.1
    have e2 : ¬ nI N ≤ nI k := nI_ge (by omega) (by omega)
    have e3 : v (21 + 2 * t) k = s_tr (C k) := by rw [h2 _ (by omega)]; exact hT.2 k (by omega)
    have e4 : ¬ (96 : Int32) ≤ nI k := nI_ge (b := 96) (by omega) (by omega)
    have e5 := s_dp_le C k
    have e6 : ¬ (96 : Int32) ≤ nI (s_dp C k) := nI_ge (b := 96) (by omega) (by omega)
    have e7 : (nI k).toNatClampNeg = k := nI_clamp (by omega)
    have e8 : 0 ≤ nI k := nI_pos' (by omega)
    have e9 : k < 96 := by omega
    have f1 : (nI (s_dp C k)).toNatClampNeg = s_dp C k := nI_clamp (by omega)
    have f2 : 0 ≤ nI (s_dp C k) := nI_pos' (by omega)
    have f3 : s_dp C k < 96 := by omega
    rcases hw k (by omega) with ⟨g1, g2⟩ | ⟨g1, g2⟩ | ⟨g1, g2, g3⟩
    · rcases g2 with g2 | ⟨f, g2, g3⟩
      · have et : s_tr (C k) = C k := by unfold s_tr; rw [if_neg g2, if_pos g1]
        have n3 : ¬ C k < -3 := Int32.not_lt.mpr (Int32.le_trans (by decide) g1)
        have n0 : ¬ C k < 0 := Int32.not_lt.mpr g1
        obtain ⟨v', h3, h4⟩ := ih o1 (some (.int (C k))) (qu v 19 (s_dp C k) (C k)) (by omega) (by rw [qu_same, h1, s_st, if_pos g1, if_neg g2]) (fun a ha => by rw [qu_ne _ _ _ ha, h2 a ha])
        refine ⟨v', ?_, h4⟩
        refine (bq_11_25 (d + 1) 17 _ _ _ _ _ _ _ _ (QM v w)).trans ?_
        rw [s_dp, if_pos g1, nI_succ, nI_succ] at h3
        simp only [QM_kd, QM_sz, QM_lk, QM_i, QM_wi, zI, qs_bI, qs_bV, qb_0, zQ, z, e1, e2, e3, e4, e6, e7, e8, e9, f1, f2, f3, et, n3, n0, Nat.add_sub_cancel, Nat.le_add_left, h3, Bool.true_eq_false, Nat.reduceSub, Nat.reduceLeDiff, Nat.reduceLT, true_and, and_true, and_self, if_true, if_false]
      · have g4 : (C k - 10000).toNatClampNeg = f := by
          have : C k - 10000 = nI f := by
            rw [g3, ← nI_add]
            show (nI 10000 + nI f) - nI 10000 = nI f
            rw [Int32.add_comm, Int32.add_sub_cancel]
          rw [this]
          exact nI_clamp (by omega)
        have g5 : 10000 ≤ C k := by
          rw [g3]
          exact nI_le (a := 10000) (by omega) (by omega)
        have et0 : s_tr (C k) = 9999 - C k := by unfold s_tr; rw [if_pos g5]
        have et : s_tr (C k) = (if f = 0 then -1 else if f = 1 then -2 else -3) := by
          rw [et0, g3]
          rcases (by omega : f = 0 ∨ f = 1 ∨ f = 2) with rfl | rfl | rfl <;> decide
        rcases (by omega : f = 0 ∨ f = 1 ∨ f = 2) with rfl | rfl | rfl
        · have et2 : s_tr (C k) = -1 := et
          obtain ⟨v', h3, h4⟩ := ih o1 (some (.int (-1))) (qu v 19 (s_dp C k) a) (by omega) (by rw [qu_same, h1, s_st, if_pos g1, if_pos g5, g4]; rfl) (fun a ha => by rw [qu_ne _ _ _ ha, h2 a ha])
          refine ⟨v', ?_, h4⟩
          refine (bq_11_25 (d + 1) 17 _ _ _ _ _ _ _ _ (QM v w)).trans ?_
          rw [s_dp, if_pos g1, nI_succ, nI_succ] at h3
          simp only [QM_kd, QM_sz, QM_lk, QM_i, QM_wi, zI, qs_bI, qs_bV, qb_0, zQ, z, e1, e2, e3, e4, e6, e7, e8, e9, f1, f2, f3, et2, show ¬ (-1 : Int32) < -3 by decide, show (-1 : Int32) < 0 by decide, Nat.add_sub_cancel, Nat.le_add_left, h3, Bool.true_eq_false, Nat.reduceSub, Nat.reduceLeDiff, Nat.reduceLT, true_and, and_true, and_self, if_true, if_false]
        · have et2 : s_tr (C k) = -2 := et
          obtain ⟨v', h3, h4⟩ := ih o1 (some (.int (-2))) (qu v 19 (s_dp C k) b) (by omega) (by rw [qu_same, h1, s_st, if_pos g1, if_pos g5, g4]; rfl) (fun a ha => by rw [qu_ne _ _ _ ha, h2 a ha])
          refine ⟨v', ?_, h4⟩
          refine (bq_11_25 (d + 1) 17 _ _ _ _ _ _ _ _ (QM v w)).trans ?_
          rw [s_dp, if_pos g1, nI_succ, nI_succ] at h3
          simp only [QM_kd, QM_sz, QM_lk, QM_i, QM_wi, zI, qs_bI, qs_bV, qb_0, zQ, z, e1, e2, e3, e4, e6, e7, e8, e9, f1, f2, f3, et2, show ¬ (-2 : Int32) < -3 by decide, show (-2 : Int32) < 0 by decide, show ¬ (-2 : Int32) = -1 by decide, Nat.add_sub_cancel, Nat.le_add_left, h3, Bool.true_eq_false, Nat.reduceSub, Nat.reduceLeDiff, Nat.reduceLT, true_and, and_true, and_self, if_true, if_false]
        · have et2 : s_tr (C k) = -3 := et
          obtain ⟨v', h3, h4⟩ := ih o1 (some (.int (-3))) (qu v 19 (s_dp C k) c) (by omega) (by rw [qu_same, h1, s_st, if_pos g1, if_pos g5, g4]; rfl) (fun a ha => by rw [qu_ne _ _ _ ha, h2 a ha])
          refine ⟨v', ?_, h4⟩
          refine (bq_11_25 (d + 1) 17 _ _ _ _ _ _ _ _ (QM v w)).trans ?_
          rw [s_dp, if_pos g1, nI_succ, nI_succ] at h3
          simp only [QM_kd, QM_sz, QM_lk, QM_i, QM_wi, zI, qs_bI, qs_bV, qb_0, zQ, z, e1, e2, e3, e4, e6, e7, e8, e9, f1, f2, f3, et2, show ¬ (-3 : Int32) < -3 by decide, show (-3 : Int32) < 0 by decide, show ¬ (-3 : Int32) = -1 by decide, show ¬ (-3 : Int32) = -2 by decide, Nat.add_sub_cancel, Nat.le_add_left, h3, Bool.true_eq_false, Nat.reduceSub, Nat.reduceLeDiff, Nat.reduceLT, true_and, and_true, and_self, if_true, if_false]
    · have n2 : ¬ 0 ≤ C k := by rw [g1]; decide
      have et : s_tr (C k) = -33 := by rw [g1]; decide
      have d1 : ¬ nI (s_dp C k) < 1 := nI_nlt (b := 1) g2 (by omega)
      have d2 : (nI (s_dp C k) - 1).toNatClampNeg = s_dp C k - 1 ∧ 0 ≤ nI (s_dp C k) - 1 := by
        rw [nI_sub1 g2]
        exact ⟨nI_clamp (by omega), nI_pos' (by omega)⟩
      have d3 : s_dp C k - 1 < 96 := by omega
      obtain ⟨v', h3, h4⟩ := ih o1 (some (.int (-33))) (qu v 19 (s_dp C k - 1) (if v 19 (s_dp C k - 1) = 0 then 1 else 0)) (by omega) (by rw [qu_same, h1, s_st, if_neg n2, if_pos g1]) (fun a ha => by rw [qu_ne _ _ _ ha, h2 a ha])
      refine ⟨v', ?_, h4⟩
      refine (bq_11_25 (d + 1) 17 _ _ _ _ _ _ _ _ (QM v w)).trans ?_
      rw [s_dp, if_neg n2, if_pos g1, nI_succ] at h3
      by_cases g6 : v 19 (s_dp C k - 1) = 0
      · rw [if_pos g6] at h3
        simp only [QM_kd, QM_sz, QM_lk, QM_i, QM_wi, zI, qs_bI, qs_bV, qb_0, zQ, z, e1, e2, e3, e4, e6, e7, e8, e9, et, d1, d2, d3, g6, show (-33 : Int32) < -3 by decide, Nat.add_sub_cancel, Nat.le_add_left, h3, Bool.true_eq_false, Nat.reduceSub, Nat.reduceLeDiff, Nat.reduceLT, true_and, and_true, and_self, if_true, if_false]
      · rw [if_neg g6] at h3
        simp only [QM_kd, QM_sz, QM_lk, QM_i, QM_wi, zI, qs_bI, qs_bV, qb_0, zQ, z, e1, e2, e3, e4, e6, e7, e8, e9, et, d1, d2, d3, g6, show (-33 : Int32) < -3 by decide, Nat.add_sub_cancel, Nat.le_add_left, h3, Bool.true_eq_false, Nat.reduceSub, Nat.reduceLeDiff, Nat.reduceLT, true_and, and_true, and_self, if_true, if_false]
    · obtain ⟨t1, t2⟩ := s_tr_neg g1
      have t3 : ¬ s_tr (C k) = -33 := fun q => g2 (t2.mp q)
      have d1 : ¬ nI (s_dp C k) < 2 := nI_nlt (b := 2) g3 (by omega)
      have d2 : (nI (s_dp C k) - 1).toNatClampNeg = s_dp C k - 1 ∧ 0 ≤ nI (s_dp C k) - 1 := by
        rw [nI_sub1 (by omega)]
        exact ⟨nI_clamp (by omega), nI_pos' (by omega)⟩
      have d4 : (nI (s_dp C k) - 2).toNatClampNeg = s_dp C k - 2 ∧ 0 ≤ nI (s_dp C k) - 2 := by
        have e : nI (s_dp C k) - 2 = nI (s_dp C k - 2) := nI_sub (b := 2) g3
        rw [e]
        exact ⟨nI_clamp (by omega), nI_pos' (by omega)⟩
      have d3 : s_dp C k - 1 < 96 := by omega
      have d5 : s_dp C k - 2 < 96 := by omega
      have d6 : nI (s_dp C k) + (-1) = nI (s_dp C k - 1) := by rw [nI_m1, nI_sub1 (by omega)]
      obtain ⟨v', h3, h4⟩ := ih o1 (some (.int (s_tr (C k)))) (qu v 19 (s_dp C k - 2) (s_two (C k) (v 19 (s_dp C k - 2)) (v 19 (s_dp C k - 1)))) (by omega) (by rw [qu_same, h1, s_st, if_neg g1, if_neg g2]) (fun a ha => by rw [qu_ne _ _ _ ha, h2 a ha])
      refine ⟨v', ?_, h4⟩
      refine (bq_11_25 (d + 1) 17 _ _ _ _ _ _ _ _ (QM v w)).trans ?_
      rw [s_dp, if_neg g1, if_neg g2, nI_succ] at h3
      simp only [QM_kd, QM_sz, QM_lk, QM_i, QM_wi, zI, qs_bI, qs_bV, qb_0, zQ, z, e1, e2, e3, e4, e6, e7, e8, e9, t1, t3, d1, d2, d3, d4, d5, d6, c_12 g1 g2, Nat.add_sub_cancel, Nat.le_add_left, h3, Bool.true_eq_false, Nat.reduceSub, Nat.reduceLeDiff, Nat.reduceLT, true_and, and_true, and_self, if_true, if_false]
theorem c_11 {d : Nat} {u : Nat → Nat → Int32} {w : Nat → Nat → Int64} {a b c : Int32} {t N : Nat} (ht : t < 14) (hN : N ≤ 96) {C : Nat → Int32} (hT : cT1 u t N C) (hw : s_wf C N 3) (h1 : 1 ≤ s_dp C N) : ∃ v', qs_call (d + 2) 11 [.ref 17, .int (nI t), .int a, .int b, .int c] (QM u w) = some (some (.int (s_st (s_F a b c) C (fun _ => 0) N 0)), QM v' w) ∧ ∀ q, q ≠ 19 → v' q = u q := by
  obtain ⟨v', k1, k2⟩ := c_11L (d := d) (u := u) (w := w) (x1 := 0) (a := a) (b := b) (c := c) (A := u 19) ht hN hT hw N 0 (some (.int (nI t))) none u (by omega) rfl (fun _ _ => rfl)
  refine ⟨v', ?_, k2⟩
  refine (bq_11_0 (d + 1) 17 _ _ _ _ (QM u w)).trans ?_
  have z := zT ht
  unfold zTt at z
  have e1 : s_in (nI t) 0 13 = true := decide_eq_true ⟨nI_pos' (by omega), nI_le (b := 13) (by omega) (by omega)⟩
  have e2 : (nI t).toNatClampNeg = t := nI_clamp (by omega)
  have e3 : 0 ≤ nI t := nI_pos' (by omega)
  have e4 : 18 ≤ 20 + 2 * t + 2 := by omega
  rw [s_st_A (B := fun _ => 0) hw N (Nat.le_refl _) 0 (by omega)] at k1
  have k3 : nI (s_dp C 0) = 0 := rfl
  have k4 : nI 0 = 0 := rfl
  rw [k3, k4] at k1
  simp only [QM_kd, QM_sz, QM_lk, QM_i, QM_wi, zI, qs_bI, qs_bV, qb_0, zQ, z, c_97, e1, e2, e3, e4, ht, Nat.add_sub_cancel, Nat.le_add_left, k1, Bool.true_eq_false, Nat.reduceSub, Nat.reduceLeDiff, Nat.reduceLT, true_and, and_true, and_self, if_true, if_false]
