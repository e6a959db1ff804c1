/-! WHAT A JOINT LEAKS, in the reference -/
theorem s_st_A {F C A B : Nat → Int32} {N q : Nat} (hw : s_wf C N q) : ∀ n, n ≤ N → ∀ i, i < s_dp C n → s_st F C A n i = s_st F C B n i
  | 0, _, i, hi => by simp [s_dp] at hi
  | n + 1, h, i, hi => by
    have ih := s_st_A (F := F) (A := A) (B := B) hw n (by omega)
    unfold s_dp at hi
    unfold s_st
    rcases hw n (by omega) with ⟨g1, g2⟩ | ⟨g1, g2⟩ | ⟨g1, g2, g3⟩
    · rw [if_pos g1] at hi
      rw [if_pos g1, if_pos g1]
      unfold upd
      split
      · rfl
      · exact ih i (by omega)
    · have n2 : ¬ 0 ≤ C n := by rw [g1]; decide
      rw [if_neg n2, if_pos g1] at hi
      rw [if_neg n2, if_neg n2, if_pos g1, if_pos g1, ih (s_dp C n - 1) (by omega)]
      unfold upd
      split
      · rfl
      · exact ih i (by omega)
    · rw [if_neg g1, if_neg g2] at hi
      rw [if_neg g1, if_neg g1, if_neg g2, if_neg g2, ih (s_dp C n - 1) (by omega), ih (s_dp C n - 2) (by omega)]
      unfold upd
      split
      · rfl
      · exact ih i (by omega)
theorem s_st_F {F G C A : Nat → Int32} {N q : Nat} (hw : s_wf C N q) (hF : ∀ f, f < q → F f = G f) (hq : q ≤ 3) : ∀ n, n ≤ N → s_st F C A n = s_st G C A n
  | 0, _ => rfl
  | n + 1, h => by
    have ih := s_st_F (A := A) hw hF hq n (by omega)
    unfold s_st
    rw [ih]
    rcases hw n (by omega) with ⟨g1, g2⟩ | ⟨g1, g2⟩ | ⟨g1, g2, g3⟩
    · rw [if_pos g1, if_pos g1]
      rcases g2 with g2 | ⟨f, g2, g3⟩
      · rw [if_neg g2, if_neg g2]
      · have g4 : (C n - 10000).toNatClampNeg = f := by
          have : C n - 10000 = nI f := by
            rw [g3, ← nI_add]
            show (nI 10000 + nI f) - nI 10000 = nI f
            rw [Int32.add_comm, Int32.add_sub_cancel]
          rw [this]
          exact nI_clamp (by omega)
        rw [g4, hF f g2]
    · have n2 : ¬ 0 ≤ C n := by rw [g1]; decide
      rw [if_neg n2, if_neg n2]
    · rw [if_neg g1, if_neg g1]
theorem s_ct_of (R : Nat → Int32) (key : Int32) : ∀ n, s_ct R key n = -1 ∨ ∃ t, t < n ∧ s_ct R key n = nI t ∧ R (76 + 2 * t) / 1000 = key
  | 0 => Or.inl rfl
  | n + 1 => by
    unfold s_ct
    by_cases h : R (76 + 2 * n) / 1000 = key
    · rw [if_pos h]
      exact Or.inr ⟨n, by omega, rfl, h⟩
    · rw [if_neg h]
      rcases s_ct_of R key n with h1 | ⟨t, h1, h2, h3⟩
      · exact Or.inl h1
      · exact Or.inr ⟨t, by omega, h2, h3⟩
def s_F (a b c : Int32) : Nat → Int32
  | 0 => a
  | 1 => b
  | _ => c
/-- the texts of a row are right -/
def s_tx (R : Nat → Int32) : Prop := ∃ T, R 11 = nI T ∧ T ≤ 14 ∧ ∀ t, t < T → ∃ N, N ≤ 96 ∧ s_N R t = nI N ∧ s_wf (s_C R t) N 3 ∧ 1 ≤ s_dp (s_C R t) N
def s_t (R : Nat → Int32) (key : Int32) : Int32 := s_ct R key (R 11).toNatClampNeg
def s_give (R : Nat → Int32) (t a b c : Int32) : Int32 := s_st (s_F a b c) (s_C R t.toNatClampNeg) (fun _ => 0) (s_N R t.toNatClampNeg).toNatClampNeg 0
theorem mc_180 {d : Nat} {key : Int32} {u : Nat → Nat → Int32} {w : Nat → Nat → Int64} (h : s_tx (u 117)) : qs_call (d + 1) 180 [.ref 116, .int key] (QM u w) = some (some (.int (s_t (u 117) key)), QM u w) := by
  obtain ⟨T, h1, h2, -⟩ := h
  have h3 : (u 117 11).toNatClampNeg = T := by rw [h1]; exact nI_clamp (by omega)
  unfold s_t
  rw [h3]
  exact mq_180 h1 h2
theorem mc_183 {d : Nat} {key : Int32} {u v : Nat → Nat → Int32} {w : Nat → Nat → Int64} (h : s_tx (u 117)) (hv : v 117 = u 117) (ht : 0 ≤ s_t (u 117) key) : ∃ v', qs_call (d + 2) 183 [.ref 116, .int (s_t (u 117) key)] (QM v w) = some (some (.int (s_give (u 117) (s_t (u 117) key) (v 129 0) (v 129 1) (v 129 2))), QM v' w) ∧ ∀ a, a ≠ 128 → v' a = v a := by
  obtain ⟨T, h1, h2, h3⟩ := h
  have h4 : (u 117 11).toNatClampNeg = T := by rw [h1]; exact nI_clamp (by omega)
  unfold s_t at ht ⊢
  rw [h4] at ht ⊢
  rcases s_ct_of (u 117) key T with h5 | ⟨t, h5, h6, -⟩
  · rw [h5] at ht
    exact absurd ht (by decide)
  · obtain ⟨N, g1, g2, g3, g4⟩ := h3 t h5
    have e1 : (nI t).toNatClampNeg = t := nI_clamp (by omega)
    have e2 : (nI N).toNatClampNeg = N := nI_clamp (by omega)
    obtain ⟨v', k1, k2⟩ := mq_183 (d := d) (x1 := nI t) (u := v) (w := w) (t := t) (N := N) rfl (by omega) g1 (by rw [hv]; exact g2) (by rw [hv]; exact g3)
    refine ⟨v', ?_, k2⟩
    rw [h6, k1, hv]
    unfold s_give
    rw [e1, g2, e2, s_st_A (B := fun _ => 0) g3 N (Nat.le_refl _) 0 (by omega), s_st_F (G := s_F (v 129 0) (v 129 1) (v 129 2)) g3 (fun f hf => by
      rcases (by omega : f = 0 ∨ f = 1 ∨ f = 2) with rfl | rfl | rfl <;> rfl) (by omega) N (Nat.le_refl _)]
def s_plain (R J : Nat → Int32) : Int32 := if 0 ≤ s_t R 0 then s_cl 0 99 (s_give R (s_t R 0) (s_grip J (R 3)) (J 2) (J 5)) else if s_grip J (R 3) ≤ 10 then 10 - s_grip J (R 3) else s_grip J (R 3) - 10
def s_drips (R J : Nat → Int32) : Int32 :=
  if J 0 = 1 then s_plain R J + J 2 / 5 else if J 0 = 2 then s_plain R J + J 4 else if J 0 = 3 then (if s_grip J (R 3) ≤ 12 then s_plain R J + J 2 / 5 + 0 else s_plain R J + J 2 / 5 + 2 * (s_grip J (R 3) - 12)) else if J 0 = 4 then s_plain R J + J 4 + J 3 else s_plain R J
def s_leak (R J : Nat → Int32) : Int32 := if J 0 = 5 then 60 else s_cl 0 9999 (s_drips R J - J 7)
theorem zI : ((0 : Int32) ≤ 0) ∧ ((0 : Int32) ≤ 1) ∧ ((0 : Int32) ≤ 2) ∧ ((0 : Int32) ≤ 3) ∧ ((0 : Int32) ≤ 4) ∧ ((0 : Int32) ≤ 5) ∧ ((0 : Int32) ≤ 6) ∧ ((0 : Int32) ≤ 7) ∧ ((0 : Int32) ≤ 8) ∧ ((0 : Int32) ≤ 9) ∧ ((0 : Int32) ≤ 10) ∧ ((0 : Int32) ≤ 11) ∧ ((0 : Int32) ≤ 12) ∧ ((0 : Int32) ≤ 13) ∧ ((0 : Int32) ≤ 14) ∧ ((0 : Int32) ≤ 15) ∧ (0 : Int32).toNatClampNeg = 0 ∧ (1 : Int32).toNatClampNeg = 1 ∧ (2 : Int32).toNatClampNeg = 2 ∧ (3 : Int32).toNatClampNeg = 3 ∧ (4 : Int32).toNatClampNeg = 4 ∧ (5 : Int32).toNatClampNeg = 5 ∧ (6 : Int32).toNatClampNeg = 6 ∧ (7 : Int32).toNatClampNeg = 7 ∧ (8 : Int32).toNatClampNeg = 8 ∧ (9 : Int32).toNatClampNeg = 9 ∧ (10 : Int32).toNatClampNeg = 10 ∧ (11 : Int32).toNatClampNeg = 11 ∧ (12 : Int32).toNatClampNeg = 12 ∧ (13 : Int32).toNatClampNeg = 13 ∧ (14 : Int32).toNatClampNeg = 14 ∧ (15 : Int32).toNatClampNeg = 15 := by decide
theorem qu_129 (u : Nat → Nat → Int32) (i : Nat) (x : Int32) : qu u 129 i x 117 = u 117 := qu_ne u i x (by decide)
theorem mq_119 {d : Nat} {j : Nat} {x1 : Int32} (e1 : x1 = nI j) (hj : j < 8) {u : Nat → Nat → Int32} {w : Nat → Nat → Int64} (h : s_tx (u 117)) : ∃ v', qs_call (d + 3) 119 [.ref 116, .int x1] (QM u w) = some (some (.int (s_drips (u 117) (s_jo (u 117) j))), QM v' w) ∧ ∀ a, a ≠ 128 → a ≠ 129 → v' a = u a := by
  have f0 : ∀ a, a ≠ 129 → qu (qu (qu u 129 0 (s_grip (s_jo (u 117) j) (u 117 3))) 129 1 (s_jo (u 117) j 2)) 129 2 (s_jo (u 117) j 5) a = u a := fun a ha => by rw [qu_ne _ _ _ ha, qu_ne _ _ _ ha, qu_ne _ _ _ ha]
  by_cases ht : 0 ≤ s_t (u 117) 0
  · generalize hg : s_grip (s_jo (u 117) j) (u 117 3) = g at f0
    obtain ⟨v', k1, k2⟩ := mc_183 (d := d) (w := w) (v := qu (qu (qu u 129 0 g) 129 1 (s_jo (u 117) j 2)) 129 2 (s_jo (u 117) j 5)) h (f0 117 (by decide)) ht
    have k3 : v' 117 = u 117 := by rw [k2 117 (by decide), f0 117 (by decide)]
    have e0 : qu (qu (qu u 129 0 g) 129 1 (s_jo (u 117) j 2)) 129 2 (s_jo (u 117) j 5) 129 0 = g := by simp [qu]
    have e2 : qu (qu (qu u 129 0 g) 129 1 (s_jo (u 117) j 2)) 129 2 (s_jo (u 117) j 5) 129 1 = s_jo (u 117) j 2 := by simp [qu]
    have e3 : qu (qu (qu u 129 0 g) 129 1 (s_jo (u 117) j 2)) 129 2 (s_jo (u 117) j 5) 129 2 = s_jo (u 117) j 5 := by simp [qu]
    rw [e0, e2, e3] at k1
    refine ⟨v', ?_, fun a h1 h2 => by rw [k2 a h1, f0 a h2]⟩
    refine (bq_119_0 (d + 2) 116 x1 (QM u w)).trans ?_
    simp only [QM_kd, QM_sz, QM_lk, QM_i, QM_wi, zM, zI, qs_bI, mc_118 e1 hj, mc_180 h, hg, mc_112 2 e1 hj n_2 (by decide), mc_112 5 e1 hj n_5 (by decide), qu_129, ht, if_true, k1, mc_109, mc_112 0 e1 hj n_0 (by decide), mc_112 4 e1 hj n_4 (by decide), mc_112 3 e1 hj n_3 (by decide), k3, Nat.reduceSub, Nat.reduceLeDiff, Nat.reduceLT, true_and, and_true]
    unfold s_drips s_plain
    rw [if_pos ht, hg]
    (repeat' split) <;> first | rfl | contradiction
  · generalize hg : s_grip (s_jo (u 117) j) (u 117 3) = g at f0
    refine ⟨qu (qu (qu u 129 0 g) 129 1 (s_jo (u 117) j 2)) 129 2 (s_jo (u 117) j 5), ?_, fun a h1 h2 => f0 a h2⟩
    refine (bq_119_0 (d + 2) 116 x1 (QM u w)).trans ?_
    simp only [QM_kd, QM_sz, QM_lk, QM_i, QM_wi, zM, zI, qs_bI, mc_118 e1 hj, mc_180 h, hg, mc_112 2 e1 hj n_2 (by decide), mc_112 5 e1 hj n_5 (by decide), qu_129, ht, if_true, if_false, mc_109, mc_112 0 e1 hj n_0 (by decide), mc_112 4 e1 hj n_4 (by decide), mc_112 3 e1 hj n_3 (by decide), Nat.reduceSub, Nat.reduceLeDiff, Nat.reduceLT, true_and, and_true]
    unfold s_drips s_plain
    rw [if_neg ht, hg]
    by_cases h10 : g ≤ 10
    · simp only [h10, if_true]
      (repeat' split) <;> first | rfl | contradiction
    · simp only [h10, if_false]
      (repeat' split) <;> first | rfl | contradiction
theorem mq_120 {d : Nat} {j : Nat} {x1 : Int32} (e1 : x1 = nI j) (hj : j < 8) {u : Nat → Nat → Int32} {w : Nat → Nat → Int64} (h : s_tx (u 117)) : ∃ v', qs_call (d + 4) 120 [.ref 116, .int x1] (QM u w) = some (some (.int (s_leak (u 117) (s_jo (u 117) j))), QM v' w) ∧ ∀ a, a ≠ 128 → a ≠ 129 → v' a = u a := by
  obtain ⟨v', k1, k2⟩ := mq_119 (d := d) e1 hj (w := w) h
  have k3 := k2 117 (by decide) (by decide)
  by_cases h5 : s_jo (u 117) j 0 = 5
  · refine ⟨u, ?_, fun a _ _ => rfl⟩
    refine (bq_120_0 (d + 3) 116 x1 (QM u w)).trans ?_
    unfold s_leak
    simp only [QM_kd, zM, qs_bI, mc_112 0 e1 hj n_0 (by decide), h5, if_true]
  · refine ⟨v', ?_, k2⟩
    refine (bq_120_0 (d + 3) 116 x1 (QM u w)).trans ?_
    unfold s_leak
    simp only [QM_kd, zM, qs_bI, mc_112 0 e1 hj n_0 (by decide), mc_112 7 e1 hj n_7 (by decide), h5, if_true, if_false, k1, k3, mc_109]
