/-! TEXT: class and reference find the same -/
def fr48 (u v : Nat → Nat → Int32) : Prop := (∀ x, x ≠ 48 → v x = u x) ∧ ∀ j, ¬ (3 ≤ j ∧ j ≤ 6) → v 48 j = u 48 j
theorem fr48_t {u v x : Nat → Nat → Int32} (h : fr48 u v) (g : fr48 v x) : fr48 u x := ⟨fun q hq => by rw [g.1 q hq, h.1 q hq], fun j hj => by rw [g.2 j hj, h.2 j hj]⟩
theorem fr48_r (u : Nat → Nat → Int32) : fr48 u u := ⟨fun _ _ => rfl, fun _ _ => rfl⟩
theorem fr48_q {u : Nat → Nat → Int32} {j : Nat} (hj : 3 ≤ j ∧ j ≤ 6) (x : Int32) : fr48 u (qu u 48 j x) := ⟨fun q hq => qu_ne _ _ _ hq, fun i hi => by rw [qu_at, if_neg (by omega)]⟩
theorem tpC_f {u v : Nat → Nat → Int32} {b : Nat → Nat} {n : Nat} (h : tpC u b n) (g : fr48 u v) : tpC v b n := ⟨by rw [g.2 2 (by omega)]; exact h.1, by rw [g.1 49 (by omega)]; exact h.2⟩
def tC (u : Nat → Nat → Int32) (t : s_Tk) : Prop := u 48 3 = nI t.1 ∧ u 48 4 = nI t.2.1 ∧ u 48 5 = nI t.2.2.1 ∧ u 48 6 = t.2.2.2
theorem c_33L {d : Nat} {b : Nat → Nat} {n s q : Nat} {w : Nat → Nat → Int64} (h : s_tp b n) (hs : s = 1 ∨ s = 2) : ∀ (r p : Nat) (u : Nat → Nat → Int32), p + r = n → q ≤ p → tpC u b n → u 48 3 = nI s → u 48 5 = nI p → u 48 6 = s_val s b q (p - q) → ∃ v, qs_EV (d + 1) 33 0 [some (.ref 48)] [] (QM u w) = some (none, QM v w) ∧ fr48 u v ∧ v 48 3 = nI s ∧ v 48 4 = u 48 4 ∧ v 48 5 = nI (s_run (s_is b n s) r p) ∧ v 48 6 = s_val s b q (s_run (s_is b n s) r p - q)
  | 0, p, u, hp, hq, hu, h3, h5, h6 => by
    refine ⟨u, ?_, fr48_r u, h3, rfl, h5, h6⟩
    obtain ⟨hu1, hu2⟩ := hu
    have e : nI n ≤ nI p := nI_le (by omega) (by have := h.1; omega)
    refine (bq_33_0 (d + 1) 48 (QM u w)).trans ?_
    have z := zQ
    simp only [QM_kd, QM_sz, QM_lk, QM_i, QM_wi, zI, qs_bI, qs_bV, qb_0, z, hu1, h5, e, Bool.true_eq_false, Nat.reduceSub, Nat.reduceLeDiff, Nat.reduceLT, true_and, and_true, and_self, if_true, if_false]
  | r + 1, p, u, hp, hq, hu, h3, h5, h6 => by
    have hn : n ≤ 96 := h.1
    have hu0 := hu
    obtain ⟨hu1, hu2⟩ := hu
    have e : ¬ nI n ≤ nI p := nI_ge (by omega) (by omega)
    have e2 : ¬ (96 : Int32) ≤ nI p := nI_ge (b := 96) (by omega) (by omega)
    have e3 : (nI p).toNatClampNeg = p ∧ 0 ≤ nI p ∧ p < 96 := ⟨nI_clamp (by omega), nI_pos' (by omega), by omega⟩
    have e4 := hu2 p (by omega)
    have a34 := c_34 (d := d) (u := u) (w := w) (p := p) h hu0 (by omega)
    have hso := s_so_4 b n p
    have z := zQ
    by_cases g : s_so b n p = s
    · have gs : s_is b n s p = true := by unfold s_is; simp [g]
      rw [g] at a34
      rcases hs with rfl | rfl
      · obtain ⟨v, i1, i2, i3, i4, i5, i6⟩ := c_33L (d := d) (q := q) (w := w) h (Or.inl rfl) r (p + 1) (qu (qu u 48 6 (nI (b p))) 48 5 (nI (p + 1))) (by omega) (by omega) (tpC_f hu0 (fr48_t (fr48_q (by omega) _) (fr48_q (by omega) _))) (by simp [qu, h3]) (by simp [qu]) (by
          rw [show p + 1 - q = (p - q) + 1 by omega]
          simp [qu, s_val, show q + (p - q) = p by omega])
        refine ⟨v, ?_, fr48_t (fr48_t (fr48_q (by omega) _) (fr48_q (by omega) _)) i2, i3, by rw [i4]; simp [qu], ?_, ?_⟩
        · rw [nI_succ] at i1
          refine (bq_33_0 (d + 1) 48 (QM u w)).trans ?_
          have r1 : ¬ nI 1 = 2 := by decide
          have e5 : ∀ y, qu u 48 6 y 48 5 = nI p := fun y => by simp [qu, h5]
          simp only [QM_kd, QM_sz, QM_lk, QM_i, QM_wi, zI, qs_bI, qs_bV, qb_0, z, hu1, h3, h5, e, e2, e3, e4, a34, r1, e5, Bool.true_eq_false, Nat.reduceSub, Nat.reduceLeDiff, Nat.reduceLT, true_and, and_true, and_self, if_true, if_false]
          exact i1
        · rw [i5]; conv => rhs; unfold s_run; rw [if_pos gs]
        · rw [i6]; conv => rhs; unfold s_run; rw [if_pos gs]
      · obtain ⟨v, i1, i2, i3, i4, i5, i6⟩ := c_33L (d := d) (q := q) (w := w) h (Or.inr rfl) r (p + 1) (qu (qu u 48 6 (s_val 2 b q (p - q) * 10 + (nI (b p) - 48))) 48 5 (nI (p + 1))) (by omega) (by omega) (tpC_f hu0 (fr48_t (fr48_q (by omega) _) (fr48_q (by omega) _))) (by simp [qu, h3]) (by simp [qu]) (by
          rw [show p + 1 - q = (p - q) + 1 by omega]
          simp [qu, s_val, show q + (p - q) = p by omega])
        refine ⟨v, ?_, fr48_t (fr48_t (fr48_q (by omega) _) (fr48_q (by omega) _)) i2, i3, by rw [i4]; simp [qu], ?_, ?_⟩
        · rw [nI_succ] at i1
          refine (bq_33_0 (d + 1) 48 (QM u w)).trans ?_
          have r1 : nI 2 = 2 := by decide
          have e5 : ∀ y, qu u 48 6 y 48 5 = nI p := fun y => by simp [qu, h5]
          simp only [QM_kd, QM_sz, QM_lk, QM_i, QM_wi, zI, qs_bI, qs_bV, qb_0, z, hu1, h3, h5, h6, e, e2, e3, e4, a34, r1, e5, Bool.true_eq_false, Nat.reduceSub, Nat.reduceLeDiff, Nat.reduceLT, true_and, and_true, and_self, if_true, if_false]
          exact i1
        · rw [i5]; conv => rhs; unfold s_run; rw [if_pos gs]
        · rw [i6]; conv => rhs; unfold s_run; rw [if_pos gs]
    · have gs : ¬ s_is b n s p = true := by unfold s_is; simp [g]
      refine ⟨u, ?_, fr48_r u, h3, rfl, by unfold s_run; rw [if_neg gs, h5], by unfold s_run; rw [if_neg gs, h6]⟩
      have g2 : ¬ nI (s_so b n p) = nI s := fun c => g ((nI_eq (by omega) (by omega)).mp c)
      refine (bq_33_0 (d + 1) 48 (QM u w)).trans ?_
      simp only [QM_kd, QM_sz, QM_lk, QM_i, QM_wi, zI, qs_bI, qs_bV, qb_0, z, hu1, h3, h5, h6, e, e2, e3, e4, a34, g2, Bool.true_eq_false, Nat.reduceSub, Nat.reduceLeDiff, Nat.reduceLT, true_and, and_true, and_self, if_true, if_false]
theorem c_32b {d : Nat} {b : Nat → Nat} {n : Nat} {w : Nat → Nat → Int64} {x1 x2 : Int32} (h : s_tp b n) : ∀ (r p : Nat) (u : Nat → Nat → Int32), p + r = n → tpC u b n → u 48 4 = nI p → ∃ v, qs_EV d 32 32 [some (.ref 48), some (.int x1), some (.int x2), none] [] (QM u w) = qs_EV d 32 79 [some (.ref 48), some (.int x1), some (.int x2), none] [] (QM v w) ∧ fr48 u v ∧ v 48 3 = u 48 3 ∧ v 48 5 = u 48 5 ∧ v 48 4 = nI (s_run (fun i => decide (b i = 32)) r p)
  | 0, p, u, hp, hu, h4 => by
    refine ⟨u, ?_, fr48_r u, rfl, rfl, h4⟩
    obtain ⟨hu1, hu2⟩ := hu
    have e : nI n ≤ nI p := nI_le (by omega) (by have := h.1; omega)
    refine (bq_32_32 d 48 _ _ _ (QM u w)).trans ?_
    have z := zQ
    simp only [QM_kd, QM_sz, QM_lk, QM_i, QM_wi, zI, qs_bI, qs_bV, qb_0, z, hu1, h4, e, Bool.true_eq_false, Nat.reduceSub, Nat.reduceLeDiff, Nat.reduceLT, true_and, and_true, and_self, if_true, if_false]
  | r + 1, p, u, hp, hu, h4 => by
    have hn : n ≤ 96 := h.1
    have hu0 := hu
    obtain ⟨hu1, hu2⟩ := hu
    have e : ¬ nI n ≤ nI p := nI_ge (by omega) (by omega)
    have e2 : ¬ (96 : Int32) ≤ nI p := nI_ge (b := 96) (by omega) (by omega)
    have e3 : (nI p).toNatClampNeg = p ∧ 0 ≤ nI p ∧ p < 96 := ⟨nI_clamp (by omega), nI_pos' (by omega), by omega⟩
    have e4 := hu2 p (by omega)
    have hB := h.2 p (by omega)
    have z := zQ
    by_cases g : b p = 32
    · have gs : decide (b p = 32) = true := by simp [g]
      obtain ⟨v, i1, i2, i3, i4, i5⟩ := c_32b (d := d) (w := w) (x1 := x1) (x2 := x2) h r (p + 1) (qu u 48 4 (nI (p + 1))) (by omega) (tpC_f hu0 (fr48_q (by omega) _)) (by simp [qu])
      refine ⟨v, ?_, fr48_t (fr48_q (by omega) _) i2, by rw [i3]; simp [qu], by rw [i4]; simp [qu], by rw [i5]; conv => rhs; unfold s_run; rw [if_pos gs]⟩
      rw [nI_succ] at i1
      refine (bq_32_32 d 48 _ _ _ (QM u w)).trans ?_
      have g2 : nI (b p) = 32 := by rw [g]; rfl
      simp only [QM_kd, QM_sz, QM_lk, QM_i, QM_wi, zI, qs_bI, qs_bV, qb_0, z, hu1, h4, e, e2, e3, e4, g2, Bool.true_eq_false, Nat.reduceSub, Nat.reduceLeDiff, Nat.reduceLT, true_and, and_true, and_self, if_true, if_false]
      exact i1
    · have gs : ¬ decide (b p = 32) = true := by simp [g]
      refine ⟨u, ?_, fr48_r u, rfl, rfl, by unfold s_run; rw [if_neg gs, h4]⟩
      have g2 : ¬ nI (b p) = 32 := fun c => g ((nI_eq (b := 32) (by omega) (by omega)).mp c)
      refine (bq_32_32 d 48 _ _ _ (QM u w)).trans ?_
      simp only [QM_kd, QM_sz, QM_lk, QM_i, QM_wi, zI, qs_bI, qs_bV, qb_0, z, hu1, h4, e, e2, e3, e4, g2, Bool.true_eq_false, Nat.reduceSub, Nat.reduceLeDiff, Nat.reduceLT, true_and, and_true, and_self, if_true, if_false]
theorem c_32 {d : Nat} {b : Nat → Nat} {n : Nat} {u : Nat → Nat → Int32} {w : Nat → Nat → Int64} {t : s_Tk} (h : s_tp b n) (hu : tpC u b n) (h3 : u 48 3 = nI t.1) (h1 : t.1 ≤ 4) (h5 : u 48 5 = nI t.2.2.1) (ht : t.2.2.1 ≤ n) : ∃ v, qs_call (d + 3) 32 [.ref 48] (QM u w) = some (none, QM v w) ∧ fr48 u v ∧ tC v (s_nx b n t) := by
  have hn : n ≤ 96 := h.1
  have z := zQ
  have a0 : qs_call (d + 3) 32 [.ref 48] (QM u w) = qs_EV (d + 2) 32 32 [some (.ref 48), some (.int (if t.1 = 1 ∨ t.1 = 2 then 1 else 0)), some (.int (nI t.2.2.1)), none] [] (QM (qu u 48 4 (nI t.2.2.1)) w) := by
    refine (bq_32_0 (d + 2) 48 (QM u w)).trans ?_
    rcases (by omega : t.1 = 0 ∨ t.1 = 1 ∨ t.1 = 2 ∨ t.1 = 3 ∨ t.1 = 4) with q | q | q | q | q
    · have r1 : ¬ nI 0 = 1 := by decide
      have r2 : ¬ nI 0 = 2 := by decide
      simp only [QM_kd, QM_sz, QM_lk, QM_i, QM_wi, zI, qs_bI, qs_bV, qb_0, z, h3, h5, q, r1, r2, Bool.true_eq_false, Nat.reduceSub, Nat.reduceLeDiff, Nat.reduceLT, true_and, and_true, and_self, if_true, if_false]
      rfl
    · have r1 : nI 1 = 1 := by decide
      simp only [QM_kd, QM_sz, QM_lk, QM_i, QM_wi, zI, qs_bI, qs_bV, qb_0, z, h3, h5, q, r1, Bool.true_eq_false, Nat.reduceSub, Nat.reduceLeDiff, Nat.reduceLT, true_and, and_true, and_self, if_true, if_false]
      rfl
    · have r1 : ¬ nI 2 = 1 := by decide
      have r2 : nI 2 = 2 := by decide
      simp only [QM_kd, QM_sz, QM_lk, QM_i, QM_wi, zI, qs_bI, qs_bV, qb_0, z, h3, h5, q, r1, r2, Bool.true_eq_false, Nat.reduceSub, Nat.reduceLeDiff, Nat.reduceLT, true_and, and_true, and_self, if_true, if_false]
      rfl
    · have r1 : ¬ nI 3 = 1 := by decide
      have r2 : ¬ nI 3 = 2 := by decide
      simp only [QM_kd, QM_sz, QM_lk, QM_i, QM_wi, zI, qs_bI, qs_bV, qb_0, z, h3, h5, q, r1, r2, Bool.true_eq_false, Nat.reduceSub, Nat.reduceLeDiff, Nat.reduceLT, true_and, and_true, and_self, if_true, if_false]
      rfl
    · have r1 : ¬ nI 4 = 1 := by decide
      have r2 : ¬ nI 4 = 2 := by decide
      simp only [QM_kd, QM_sz, QM_lk, QM_i, QM_wi, zI, qs_bI, qs_bV, qb_0, z, h3, h5, q, r1, r2, Bool.true_eq_false, Nat.reduceSub, Nat.reduceLeDiff, Nat.reduceLT, true_and, and_true, and_self, if_true, if_false]
      rfl
  obtain ⟨v1, b1, b2, b3, b4, b5⟩ := c_32b (d := d + 2) (w := w) (x1 := if t.1 = 1 ∨ t.1 = 2 then 1 else 0) (x2 := nI t.2.2.1) h (n - t.2.2.1) t.2.2.1 (qu u 48 4 (nI t.2.2.1)) (by omega) (tpC_f hu (fr48_q (by omega) _)) (by simp [qu])
  rw [b1] at a0
  rw [a0]
  have k2 : fr48 u v1 := fr48_t (fr48_q (by omega) _) b2
  have c2 : t.2.2.1 ≤ s_bl b n t.2.2.1 ∧ s_bl b n t.2.2.1 ≤ n := by
    have := s_run_le (fun i => decide (b i = 32)) (n - t.2.2.1) t.2.2.1
    have := s_run_ge (fun i => decide (b i = 32)) (n - t.2.2.1) t.2.2.1
    unfold s_bl
    omega
  unfold s_nx
  have b5 : v1 48 4 = nI (s_bl b n t.2.2.1) := b5
  generalize s_bl b n t.2.2.1 = q at *
  simp only
  have k34 := c_34 (d := d + 1) (w := w) (p := q) h (tpC_f hu k2) (by omega)
  have hq := s_so_4 b n q
  by_cases g0 : s_so b n q = 0
  · rw [if_pos g0]
    rw [g0] at k34
    refine ⟨qu (qu (qu v1 48 3 0) 48 6 0) 48 5 (nI q), ?_, fr48_t (fr48_t (fr48_t k2 (fr48_q (by omega) _)) (fr48_q (by omega) _)) (fr48_q (by omega) _), by simp [qu]; rfl, by simp [qu, b5], by simp [qu], by simp [qu]⟩
    refine (bq_32_79 (d + 2) 48 _ _ _ (QM v1 w)).trans ?_
    have r0 : nI 0 = 0 := by decide
    have r1 : ¬ (0 : Int32) = 3 := by decide
    have f1 : ∀ y z, qu (qu v1 48 3 y) 48 6 z 48 4 = nI q := fun y z => by simp [qu, b5]
    have f2 : ∀ y z x, qu (qu (qu v1 48 3 y) 48 6 z) 48 5 x 48 3 = y := fun y z x => by simp [qu]
    simp only [QM_kd, QM_sz, QM_lk, QM_i, QM_wi, zI, qs_bI, qs_bV, qb_0, z, b5, k34, r0, r1, f1, f2, bq_32_197, Bool.true_eq_false, Nat.reduceSub, Nat.reduceLeDiff, Nat.reduceLT, true_and, and_true, and_self, if_true, if_false]
  rw [if_neg g0]
  have hqn : q < n := by
    have := mt (s_so_0 (b := b) (n := n) (p := q)).mpr g0
    omega
  have e3 : (nI q).toNatClampNeg = q ∧ 0 ≤ nI q ∧ q < 96 := ⟨nI_clamp (by omega), nI_pos' (by omega), by omega⟩
  have e4 : v1 49 q = nI (b q) := (tpC_f hu k2).2 q hqn
  by_cases g3 : s_so b n q = 3
  · rw [if_pos g3]
    rw [g3] at k34
    refine ⟨qu (qu (qu (qu (qu v1 48 3 3) 48 6 0) 48 5 (nI q)) 48 6 (nI (b q))) 48 5 (nI (q + 1)), ?_, fr48_t (fr48_t (fr48_t (fr48_t (fr48_t k2 (fr48_q (by omega) _)) (fr48_q (by omega) _)) (fr48_q (by omega) _)) (fr48_q (by omega) _)) (fr48_q (by omega) _), by simp [qu]; rfl, by simp [qu, b5], by simp [qu], by simp [qu]⟩
    refine (bq_32_79 (d + 2) 48 _ _ _ (QM v1 w)).trans ?_
    have r0 : nI 3 = 3 := by decide
    have f1 : ∀ y z, qu (qu v1 48 3 y) 48 6 z 48 4 = nI q := fun y z => by simp [qu, b5]
    have f2 : ∀ y z x, qu (qu (qu v1 48 3 y) 48 6 z) 48 5 x 48 3 = y := fun y z x => by simp [qu]
    have f3 : ∀ y z x, qu (qu (qu v1 48 3 y) 48 6 z) 48 5 x 48 4 = nI q := fun y z x => by simp [qu, b5]
    have f4 : ∀ y z x, qu (qu (qu v1 48 3 y) 48 6 z) 48 5 x 49 q = nI (b q) := fun y z x => by simp [qu, e4]
    have f5 : ∀ y z x a, qu (qu (qu (qu v1 48 3 y) 48 6 z) 48 5 x) 48 6 a 48 4 = nI q := fun y z x a => by simp [qu, b5]
    rw [nI_succ]
    simp only [QM_kd, QM_sz, QM_lk, QM_i, QM_wi, zI, qs_bI, qs_bV, qb_0, z, b5, k34, r0, f1, f2, f3, f4, f5, e3, bq_32_197, Bool.true_eq_false, Nat.reduceSub, Nat.reduceLeDiff, Nat.reduceLT, true_and, and_true, and_self, if_true, if_false]
  rw [if_neg g3]
  have hs : s_so b n q = 1 ∨ s_so b n q = 2 := by omega
  generalize s_so b n q = s at *
  obtain ⟨v2, d1, d2, d3, d4, d5, d6⟩ := c_33L (d := d) (q := q) (w := w) h hs (n - q) q (qu (qu (qu v1 48 3 (nI s)) 48 6 0) 48 5 (nI q)) (by omega) (by omega) (tpC_f hu (fr48_t (fr48_t (fr48_t k2 (fr48_q (by omega) _)) (fr48_q (by omega) _)) (fr48_q (by omega) _))) (by simp [qu]) (by simp [qu]) (by rw [Nat.sub_self]; simp [qu, s_val])
  have dd : v2 48 4 = nI q := by rw [d4]; simp [qu, b5]
  have k3 : fr48 u v2 := fr48_t (fr48_t (fr48_t (fr48_t k2 (fr48_q (by omega) _)) (fr48_q (by omega) _)) (fr48_q (by omega) _)) d2
  have f0 : q ≤ s_run (s_is b n s) (n - q) q ∧ s_run (s_is b n s) (n - q) q ≤ n := by
    have := s_run_le (s_is b n s) (n - q) q
    have := s_run_ge (s_is b n s) (n - q) q
    omega
  generalize s_run (s_is b n s) (n - q) q = e at *
  have f1 : ∀ y z, qu (qu v1 48 3 y) 48 6 z 48 4 = nI q := fun y z => by simp [qu, b5]
  have f2 : ∀ y z x, qu (qu (qu v1 48 3 y) 48 6 z) 48 5 x 48 3 = y := fun y z x => by simp [qu]
  have d1' : qs_call (d + 2) 33 [.ref 48] (QM (qu (qu (qu v1 48 3 (nI s)) 48 6 0) 48 5 (nI q)) w) = some (none, QM v2 w) := d1
  have m1 : qs_EV (d + 2) 32 79 [some (.ref 48), some (.int (if t.1 = 1 ∨ t.1 = 2 then 1 else 0)), some (.int (nI t.2.2.1)), none] [] (QM v1 w) = qs_EV (d + 2) 32 175 [some (.ref 48), some (.int (if t.1 = 1 ∨ t.1 = 2 then 1 else 0)), some (.int (nI t.2.2.1)), none] [.int (if s = 2 ∧ 4 < e - q then 1 else 0)] (QM v2 w) := by
    refine (bq_32_79 (d + 2) 48 _ _ _ (QM v1 w)).trans ?_
    rcases hs with rfl | rfl
    · have r0 : ¬ nI 1 = 3 := by decide
      have r1 : ¬ nI 1 = 0 := by decide
      have r2 : ¬ nI 1 = 2 := by decide
      simp only [QM_kd, QM_sz, QM_lk, QM_i, QM_wi, zI, qs_bI, qs_bV, qb_0, z, b5, k34, r0, r1, r2, f1, f2, d1', d3, bq_32_174, Bool.true_eq_false, Nat.reduceSub, Nat.reduceLeDiff, Nat.reduceLT, true_and, and_true, and_self, if_true, if_false]
      rfl
    · have r0 : ¬ nI 2 = 3 := by decide
      have r1 : ¬ nI 2 = 0 := by decide
      have r2 : nI 2 = 2 := by decide
      rw [r2] at r0 r1 k34 d1' d3
      have r3 : nI e - nI q = nI (e - q) := nI_sub f0.1
      by_cases g4 : 4 < e - q
      · have r4 : ¬ nI (e - q) ≤ 4 := nI_ge (a := 4) g4 (by omega)
        simp only [QM_kd, QM_sz, QM_lk, QM_i, QM_wi, zI, qs_bI, qs_bV, qb_0, z, b5, k34, r0, r1, r2, f1, f2, d1', d3, dd, d5, r3, r4, bq_32_174, g4, Bool.true_eq_false, Nat.reduceSub, Nat.reduceLeDiff, Nat.reduceLT, true_and, and_true, and_self, if_true, if_false]
      · have r4 : nI (e - q) ≤ 4 := nI_le (b := 4) (by omega) (by omega)
        simp only [QM_kd, QM_sz, QM_lk, QM_i, QM_wi, zI, qs_bI, qs_bV, qb_0, z, b5, k34, r0, r1, r2, f1, f2, d1', d3, dd, d5, r3, r4, bq_32_174, g4, Bool.true_eq_false, Nat.reduceSub, Nat.reduceLeDiff, Nat.reduceLT, true_and, and_true, and_self, if_true, if_false]
  rw [m1]
  by_cases g5 : s = 2 ∧ 4 < e - q
  · rw [if_pos g5, if_pos (show (s = 2 ∧ 4 < e - q ∨ (t.1 = 1 ∨ t.1 = 2) ∧ q = t.2.2.1) from Or.inl g5)]
    refine ⟨qu v2 48 3 4, ?_, fr48_t k3 (fr48_q (by omega) _), by simp [qu]; rfl, by simp [qu, dd], by simp [qu, d5], by simp [qu, d6]⟩
    refine (bq_32_175 (d + 2) 48 _ _ _ _ (QM v2 w)).trans ?_
    rw [if_neg (by decide)]
    simp only [QM_kd, QM_sz, QM_lk, QM_i, QM_wi, zI, qs_bI, qs_bV, qb_0, z, bq_32_197, Bool.true_eq_false, Nat.reduceSub, Nat.reduceLeDiff, Nat.reduceLT, true_and, and_true, and_self, if_true, if_false]
  · rw [if_neg g5]
    by_cases g6 : t.1 = 1 ∨ t.1 = 2
    · by_cases g7 : q = t.2.2.1
      · rw [if_pos (show (s = 2 ∧ 4 < e - q ∨ (t.1 = 1 ∨ t.1 = 2) ∧ q = t.2.2.1) from Or.inr ⟨g6, g7⟩)]
        refine ⟨qu v2 48 3 4, ?_, fr48_t k3 (fr48_q (by omega) _), by simp [qu]; rfl, by simp [qu, dd], by simp [qu, d5], by simp [qu, d6]⟩
        refine (bq_32_175 (d + 2) 48 _ _ _ _ (QM v2 w)).trans ?_
        rw [if_pos rfl, if_pos g6, if_neg (by decide)]
        rw [g7] at dd
        simp only [QM_kd, QM_sz, QM_lk, QM_i, QM_wi, zI, qs_bI, qs_bV, qb_0, z, dd, bq_32_197, Bool.true_eq_false, Nat.reduceSub, Nat.reduceLeDiff, Nat.reduceLT, true_and, and_true, and_self, if_true, if_false]
      · rw [if_neg (show ¬ (s = 2 ∧ 4 < e - q ∨ (t.1 = 1 ∨ t.1 = 2) ∧ q = t.2.2.1) from fun c => c.elim g5 (fun c => g7 c.2))]
        refine ⟨v2, ?_, k3, d3, dd, d5, d6⟩
        refine (bq_32_175 (d + 2) 48 _ _ _ _ (QM v2 w)).trans ?_
        rw [if_pos rfl, if_pos g6, if_neg (by decide)]
        have r5 : ¬ nI q = nI t.2.2.1 := fun c => g7 ((nI_eq (by omega) (by omega)).mp c)
        simp only [QM_kd, QM_sz, QM_lk, QM_i, QM_wi, zI, qs_bI, qs_bV, qb_0, z, dd, r5, bq_32_197, Bool.true_eq_false, Nat.reduceSub, Nat.reduceLeDiff, Nat.reduceLT, true_and, and_true, and_self, if_true, if_false]
    · rw [if_neg (show ¬ (s = 2 ∧ 4 < e - q ∨ (t.1 = 1 ∨ t.1 = 2) ∧ q = t.2.2.1) from fun c => c.elim g5 (fun c => g6 c.1))]
      refine ⟨v2, ?_, k3, d3, dd, d5, d6⟩
      refine (bq_32_175 (d + 2) 48 _ _ _ _ (QM v2 w)).trans ?_
      rw [if_pos rfl, if_neg g6, if_pos rfl]
      simp only [QM_kd, QM_sz, QM_lk, QM_i, QM_wi, zI, qs_bI, qs_bV, qb_0, z, bq_32_197, Bool.true_eq_false, Nat.reduceSub, Nat.reduceLeDiff, Nat.reduceLT, true_and, and_true, and_self, if_true, if_false]
