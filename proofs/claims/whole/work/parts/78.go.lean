/-! TEXT: the reference's next -/
def frR (u v : Nat → Nat → Int32) : Prop := (∀ x, x ≠ 116 → v x = u x) ∧ ∀ j, ¬ (10 ≤ j ∧ j ≤ 14) → v 116 j = u 116 j
theorem frR_t {u v x : Nat → Nat → Int32} (h : frR u v) (g : frR v x) : frR u x := ⟨fun q hq => by rw [g.1 q hq, h.1 q hq], fun j hj => by rw [g.2 j hj, h.2 j hj]⟩
theorem frR_r (u : Nat → Nat → Int32) : frR u u := ⟨fun _ _ => rfl, fun _ _ => rfl⟩
theorem frR_q {u : Nat → Nat → Int32} {j : Nat} (hj : 10 ≤ j ∧ j ≤ 14) (x : Int32) : frR u (qu u 116 j x) := ⟨fun q hq => qu_ne _ _ _ hq, fun i hi => by rw [qu_at, if_neg (by omega)]⟩
theorem tpR_f {u v : Nat → Nat → Int32} {b : Nat → Nat} {n : Nat} (h : tpR u b n) (g : frR u v) : tpR v b n := ⟨by rw [g.2 9 (by omega)]; exact h.1, by rw [g.1 122 (by omega)]; exact h.2⟩
def tE (E : Int32) (t : s_Tk) : Prop := ∀ q, t.2.2.1 ≤ q → q ≤ 96 → (E = nI q ↔ ((t.1 = 1 ∨ t.1 = 2) ∧ q = t.2.2.1))
def tR (v : Nat → Nat → Int32) (t : s_Tk) : Prop := v 116 12 = nI t.1 ∧ v 116 11 = nI t.2.1 ∧ v 116 10 = nI t.2.2.1 ∧ ((t.1 = 3 ∨ t.1 = 2 ∨ (t.1 = 1 ∧ t.2.2.1 = t.2.1 + 1)) → v 116 13 = t.2.2.2) ∧ (t.1 ≠ 0 → t.1 ≠ 4 → tE (v 116 14) t)
theorem m_169b {d : Nat} {b : Nat → Nat} {n : Nat} {w : Nat → Nat → Int64} (h : s_tp b n) : ∀ (r p : Nat) (u : Nat → Nat → Int32), p + r = n → tpR u b n → u 116 10 = nI p → ∃ v, qs_EV d 169 0 [some (.ref 116), none] [] (QM u w) = qs_EV d 169 62 [some (.ref 116), none] [.int (if nI (s_run (fun i => decide (b i = 32)) r p) = u 116 14 then 1 else 0)] (QM v w) ∧ frR u v ∧ v 116 14 = u 116 14 ∧ v 116 10 = nI (s_run (fun i => decide (b i = 32)) r p) ∧ v 116 11 = nI (s_run (fun i => decide (b i = 32)) r p)
  | 0, p, u, hp, hu, h4 => by
    refine ⟨qu u 116 11 (nI p), ?_, frR_q (by omega) _, by simp [qu], by simp [qu, h4, s_run], by simp [qu, s_run]⟩
    obtain ⟨hu1, hu2⟩ := hu
    have e : nI n ≤ nI p := nI_le (by omega) (by have := h.1; omega)
    refine (bq_169_0 d 116 (QM u w)).trans ?_
    have e2 : ∀ y, qu u 116 11 y 116 11 = y := fun y => by simp [qu]
    have e3 : ∀ y, qu u 116 11 y 116 14 = u 116 14 := fun y => by simp [qu]
    show _ = qs_EV d 169 62 [some (.ref 116), none] [.int (if nI p = u 116 14 then 1 else 0)] _
    simp only [QM_kd, QM_sz, QM_lk, QM_i, QM_wi, zM, zI, qs_bI, qs_bV, qb_0, hu1, h4, e, e2, e3, Bool.true_eq_false, Nat.reduceSub, Nat.reduceLeDiff, Nat.reduceLT, true_and, and_true, and_self, if_true, if_false]
    split <;> rfl
  | r + 1, p, u, hp, hu, h4 => by
    have hn : n ≤ 96 := h.1
    have hu0 := hu
    obtain ⟨hu1, hu2⟩ := hu
    have e : ¬ nI n ≤ nI p := nI_ge (by omega) (by omega)
    have e3 : (nI p).toNatClampNeg = p ∧ 0 ≤ nI p ∧ p < 96 := ⟨nI_clamp (by omega), nI_pos' (by omega), by omega⟩
    have e4 := hu2 p (by omega)
    have hB := h.2 p (by omega)
    by_cases g : b p = 32
    · have gs : decide (b p = 32) = true := by simp [g]
      obtain ⟨v, i1, i2, i3, i4, i5⟩ := m_169b (d := d) (w := w) h r (p + 1) (qu u 116 10 (nI (p + 1))) (by omega) (tpR_f hu0 (frR_q (by omega) _)) (by simp [qu])
      have ex : s_run (fun i => decide (b i = 32)) (r + 1) p = s_run (fun i => decide (b i = 32)) r (p + 1) := by conv => lhs; unfold s_run; rw [if_pos gs]
      rw [ex]
      have ey : qu u 116 10 (nI (p + 1)) 116 14 = u 116 14 := by simp [qu]
      rw [ey] at i1 i3
      refine ⟨v, ?_, frR_t (frR_q (by omega) _) i2, i3, i4, i5⟩
      rw [nI_succ] at i1
      refine (bq_169_0 d 116 (QM u w)).trans ?_
      have g2 : nI (b p) = 32 := by rw [g]; rfl
      simp only [QM_kd, QM_sz, QM_lk, QM_i, QM_wi, zM, zI, qs_bI, qs_bV, qb_0, hu1, h4, e, e3, e4, g2, Bool.true_eq_false, Nat.reduceSub, Nat.reduceLeDiff, Nat.reduceLT, true_and, and_true, and_self, if_true, if_false]
      exact i1
    · have gs : ¬ decide (b p = 32) = true := by simp [g]
      have ex : s_run (fun i => decide (b i = 32)) (r + 1) p = p := by unfold s_run; rw [if_neg gs]
      rw [ex]
      refine ⟨qu u 116 11 (nI p), ?_, frR_q (by omega) _, by simp [qu], by simp [qu, h4], by simp [qu]⟩
      have g2 : ¬ nI (b p) = 32 := fun c => g ((nI_eq (b := 32) (by omega) (by omega)).mp c)
      refine (bq_169_0 d 116 (QM u w)).trans ?_
      have e5 : ∀ y, qu u 116 11 y 116 11 = y := fun y => by simp [qu]
      have e6 : ∀ y, qu u 116 11 y 116 14 = u 116 14 := fun y => by simp [qu]
      simp only [QM_kd, QM_sz, QM_lk, QM_i, QM_wi, zM, zI, qs_bI, qs_bV, qb_0, hu1, h4, e, e3, e4, g2, e5, e6, Bool.true_eq_false, Nat.reduceSub, Nat.reduceLeDiff, Nat.reduceLT, true_and, and_true, and_self, if_true, if_false]
      split <;> rfl
theorem m_169l {d : Nat} {b : Nat → Nat} {n q : Nat} {x : Int32} {w : Nat → Nat → Int64} (h : s_tp b n) (hq : q < n) : ∀ (r p : Nat) (u : Nat → Nat → Int32), p + r = n → tpR u b n → u 116 10 = nI p → u 116 11 = nI q → ∃ v, qs_EV (d + 1) 169 93 [some (.ref 116), some (.int x)] [] (QM u w) = some (none, QM v w) ∧ frR u v ∧ v 116 12 = (if x = 0 then 1 else 4) ∧ v 116 11 = nI q ∧ v 116 10 = nI (s_run (s_is b n 1) r p) ∧ v 116 13 = nI (b q) ∧ v 116 14 = nI (s_run (s_is b n 1) r p)
  | 0, p, u, hp, hu, h4, h5 => by
    have hn : n ≤ 96 := h.1
    have a1 := m_167 (d := d) (u := u) (w := w) (p := p) h hu (by omega)
    have g : s_is b n 1 p = false := by
      unfold s_is
      rw [s_so_0.mpr (by omega)]
      rfl
    rw [g] at a1
    obtain ⟨hu1, hu2⟩ := hu
    have e3 : (nI q).toNatClampNeg = q ∧ 0 ≤ nI q ∧ q < 96 := ⟨nI_clamp (by omega), nI_pos' (by omega), by omega⟩
    have e4 := hu2 q (by omega)
    have f1 : ∀ y, qu u 116 12 y 116 11 = nI q := fun y => by simp [qu, h5]
    have f2 : ∀ y, qu u 116 12 y 122 q = nI (b q) := fun y => by simp [qu, e4]
    have f3 : ∀ y z, qu (qu u 116 12 y) 116 13 z 116 10 = nI p := fun y z => by simp [qu, h4]
    refine ⟨qu (qu (qu u 116 12 (if x = 0 then 1 else 4)) 116 13 (nI (b q))) 116 14 (nI p), ?_, frR_t (frR_t (frR_q (by omega) _) (frR_q (by omega) _)) (frR_q (by omega) _), by simp [qu], by simp [qu, h5], by simp [qu, h4, s_run], by simp [qu], by simp [qu, s_run]⟩
    refine (bq_169_93 (d + 1) 116 _ (QM u w)).trans ?_
    by_cases c : x = 0
    · simp only [QM_kd, QM_sz, QM_lk, QM_i, QM_wi, zM, zI, qs_bI, qs_bV, qb_0, h4, h5, a1, c, e3, f1, f2, f3, show qb false = 0 from rfl, Bool.true_eq_false, Nat.reduceSub, Nat.reduceLeDiff, Nat.reduceLT, true_and, and_true, and_self, if_true, if_false]
    · simp only [QM_kd, QM_sz, QM_lk, QM_i, QM_wi, zM, zI, qs_bI, qs_bV, qb_0, h4, h5, a1, c, e3, f1, f2, f3, show qb false = 0 from rfl, Bool.true_eq_false, Nat.reduceSub, Nat.reduceLeDiff, Nat.reduceLT, true_and, and_true, and_self, if_true, if_false]
  | r + 1, p, u, hp, hu, h4, h5 => by
    have hn : n ≤ 96 := h.1
    have a1 := m_167 (d := d) (u := u) (w := w) (p := p) h hu (by omega)
    by_cases g : s_is b n 1 p = true
    · obtain ⟨v, i1, i2, i3, i4, i5, i6, i7⟩ := m_169l (d := d) (x := x) (w := w) h hq r (p + 1) (qu u 116 10 (nI (p + 1))) (by omega) (tpR_f hu (frR_q (by omega) _)) (by simp [qu]) (by simp [qu, h5])
      have ex : s_run (s_is b n 1) (r + 1) p = s_run (s_is b n 1) r (p + 1) := by conv => lhs; unfold s_run; rw [if_pos g]
      rw [ex]
      refine ⟨v, ?_, frR_t (frR_q (by omega) _) i2, i3, i4, i5, i6, i7⟩
      rw [nI_succ] at i1
      rw [g] at a1
      refine (bq_169_93 (d + 1) 116 _ (QM u w)).trans ?_
      have r1 : ¬ qb true = 0 := by decide
      simp only [QM_kd, QM_sz, QM_lk, QM_i, QM_wi, zM, zI, qs_bI, qs_bV, qb_0, h4, a1, r1, Bool.true_eq_false, Nat.reduceSub, Nat.reduceLeDiff, Nat.reduceLT, true_and, and_true, and_self, if_true, if_false]
      exact i1
    · have ex : s_run (s_is b n 1) (r + 1) p = p := by unfold s_run; rw [if_neg g]
      rw [ex]
      have g : s_is b n 1 p = false := by simpa using g
      rw [g] at a1
      obtain ⟨hu1, hu2⟩ := hu
      have e3 : (nI q).toNatClampNeg = q ∧ 0 ≤ nI q ∧ q < 96 := ⟨nI_clamp (by omega), nI_pos' (by omega), by omega⟩
      have e4 := hu2 q (by omega)
      have f1 : ∀ y, qu u 116 12 y 116 11 = nI q := fun y => by simp [qu, h5]
      have f2 : ∀ y, qu u 116 12 y 122 q = nI (b q) := fun y => by simp [qu, e4]
      have f3 : ∀ y z, qu (qu u 116 12 y) 116 13 z 116 10 = nI p := fun y z => by simp [qu, h4]
      refine ⟨qu (qu (qu u 116 12 (if x = 0 then 1 else 4)) 116 13 (nI (b q))) 116 14 (nI p), ?_, frR_t (frR_t (frR_q (by omega) _) (frR_q (by omega) _)) (frR_q (by omega) _), by simp [qu], by simp [qu, h5], by simp [qu, h4], by simp [qu], by simp [qu]⟩
      refine (bq_169_93 (d + 1) 116 _ (QM u w)).trans ?_
      by_cases c : x = 0
      · simp only [QM_kd, QM_sz, QM_lk, QM_i, QM_wi, zM, zI, qs_bI, qs_bV, qb_0, h4, h5, a1, c, e3, f1, f2, f3, show qb false = 0 from rfl, Bool.true_eq_false, Nat.reduceSub, Nat.reduceLeDiff, Nat.reduceLT, true_and, and_true, and_self, if_true, if_false]
      · simp only [QM_kd, QM_sz, QM_lk, QM_i, QM_wi, zM, zI, qs_bI, qs_bV, qb_0, h4, h5, a1, c, e3, f1, f2, f3, show qb false = 0 from rfl, Bool.true_eq_false, Nat.reduceSub, Nat.reduceLeDiff, Nat.reduceLT, true_and, and_true, and_self, if_true, if_false]
theorem i_dig (x y : Int32) : 10 * x + y - 48 = x * 10 + (y - 48) := by
  rw [Int32.mul_comm, Int32.sub_eq_add_neg, Int32.sub_eq_add_neg, Int32.add_assoc]
theorem m_169d {d : Nat} {b : Nat → Nat} {n q : Nat} {x : Int32} {w : Nat → Nat → Int64} (h : s_tp b n) : ∀ (r p : Nat) (u : Nat → Nat → Int32), p + r = n → q ≤ p → tpR u b n → u 116 10 = nI p → u 116 11 = nI q → (p - q ≤ 4 → u 116 13 = s_val 2 b q (p - q)) → ∃ v, qs_EV (d + 1) 169 170 [some (.ref 116), some (.int x)] [] (QM u w) = some (none, QM v w) ∧ frR u v ∧ v 116 12 = (if x = 0 then if 4 < s_run (s_is b n 2) r p - q then 4 else 2 else 4) ∧ v 116 11 = nI q ∧ v 116 10 = nI (s_run (s_is b n 2) r p) ∧ (s_run (s_is b n 2) r p - q ≤ 4 → v 116 13 = s_val 2 b q (s_run (s_is b n 2) r p - q)) ∧ v 116 14 = nI (s_run (s_is b n 2) r p) := by
  have last : ∀ (p : Nat) (u : Nat → Nat → Int32), p ≤ n → q ≤ p → tpR u b n → u 116 10 = nI p → u 116 11 = nI q → (p - q ≤ 4 → u 116 13 = s_val 2 b q (p - q)) → s_is b n 2 p = false → ∃ v, qs_EV (d + 1) 169 170 [some (.ref 116), some (.int x)] [] (QM u w) = some (none, QM v w) ∧ frR u v ∧ v 116 12 = (if x = 0 then if 4 < p - q then 4 else 2 else 4) ∧ v 116 11 = nI q ∧ v 116 10 = nI p ∧ (p - q ≤ 4 → v 116 13 = s_val 2 b q (p - q)) ∧ v 116 14 = nI p := by
    intro p u hp hq hu h4 h5 h6 g
    have hn : n ≤ 96 := h.1
    have a1 := m_168 (d := d) (u := u) (w := w) (p := p) h hu (by omega)
    rw [g] at a1
    have r3 : nI p - nI q = nI (p - q) := nI_sub hq
    refine ⟨qu (qu u 116 12 (if x = 0 then if 4 < p - q then 4 else 2 else 4)) 116 14 (nI p), ?_, frR_t (frR_q (by omega) _) (frR_q (by omega) _), by simp [qu], by simp [qu, h5], by simp [qu, h4], fun c => by simp [qu, h6 c], by simp [qu]⟩
    have f3 : ∀ y, qu u 116 12 y 116 10 = nI p := fun y => by simp [qu, h4]
    refine (bq_169_170 (d + 1) 116 _ (QM u w)).trans ?_
    by_cases c : x = 0
    · by_cases g4 : 4 < p - q
      · have r4 : ¬ nI (p - q) ≤ 4 := nI_ge (a := 4) g4 (by omega)
        simp only [QM_kd, QM_sz, QM_lk, QM_i, QM_wi, zM, zI, qs_bI, qs_bV, qb_0, h4, h5, a1, c, r3, r4, f3, g4, show qb false = 0 from rfl, Bool.true_eq_false, Nat.reduceSub, Nat.reduceLeDiff, Nat.reduceLT, true_and, and_true, and_self, if_true, if_false]
      · have r4 : nI (p - q) ≤ 4 := nI_le (b := 4) (by omega) (by omega)
        simp only [QM_kd, QM_sz, QM_lk, QM_i, QM_wi, zM, zI, qs_bI, qs_bV, qb_0, h4, h5, a1, c, r3, r4, f3, g4, show qb false = 0 from rfl, Bool.true_eq_false, Nat.reduceSub, Nat.reduceLeDiff, Nat.reduceLT, true_and, and_true, and_self, if_true, if_false]
    · simp only [QM_kd, QM_sz, QM_lk, QM_i, QM_wi, zM, zI, qs_bI, qs_bV, qb_0, h4, h5, a1, c, f3, show qb false = 0 from rfl, Bool.true_eq_false, Nat.reduceSub, Nat.reduceLeDiff, Nat.reduceLT, true_and, and_true, and_self, if_true, if_false]
  intro r
  induction r with
  | zero =>
    intro p u hp hq hu h4 h5 h6
    have g : s_is b n 2 p = false := by
      unfold s_is
      rw [s_so_0.mpr (by omega)]
      rfl
    exact last p u (by omega) hq hu h4 h5 h6 g
  | succ r ih =>
    intro p u hp hq hu h4 h5 h6
    have hn : n ≤ 96 := h.1
    by_cases g : s_is b n 2 p = true
    · have a1 := m_168 (d := d) (u := u) (w := w) (p := p) h hu (by omega)
      rw [g] at a1
      have r1 : ¬ qb true = 0 := by decide
      have ex : s_run (s_is b n 2) (r + 1) p = s_run (s_is b n 2) r (p + 1) := by conv => lhs; unfold s_run; rw [if_pos g]
      rw [ex]
      have r3 : nI p - nI q = nI (p - q) := nI_sub hq
      have hu0 := hu
      obtain ⟨hu1, hu2⟩ := hu
      have e3 : (nI p).toNatClampNeg = p ∧ 0 ≤ nI p ∧ p < 96 := ⟨nI_clamp (by omega), nI_pos' (by omega), by omega⟩
      have e4 := hu2 p (by omega)
      have f3 : ∀ y, qu u 116 13 y 116 10 = nI p := fun y => by simp [qu, h4]
      by_cases g4 : p - q < 4
      · have r4 : ¬ (4 : Int32) ≤ nI (p - q) := nI_ge (b := 4) g4 (by omega)
        obtain ⟨v, i1, i2, i3, i4, i5, i6, i7⟩ := ih (p + 1) (qu (qu u 116 13 (10 * s_val 2 b q (p - q) + nI (b p) - 48)) 116 10 (nI (p + 1))) (by omega) (by omega) (tpR_f hu0 (frR_t (frR_q (by omega) _) (frR_q (by omega) _))) (by simp [qu]) (by simp [qu, h5]) (fun _ => by
          rw [show p + 1 - q = (p - q) + 1 by omega]
          simp [qu, s_val, i_dig, show q + (p - q) = p by omega])
        refine ⟨v, ?_, frR_t (frR_t (frR_q (by omega) _) (frR_q (by omega) _)) i2, i3, i4, i5, i6, i7⟩
        rw [nI_succ] at i1
        have h6 := h6 (by omega)
        refine (bq_169_170 (d + 1) 116 _ (QM u w)).trans ?_
        simp only [QM_kd, QM_sz, QM_lk, QM_i, QM_wi, zM, zI, qs_bI, qs_bV, qb_0, h4, h5, h6, a1, r1, r3, r4, e3, e4, f3, Bool.true_eq_false, Nat.reduceSub, Nat.reduceLeDiff, Nat.reduceLT, true_and, and_true, and_self, if_true, if_false]
        exact i1
      · have r4 : (4 : Int32) ≤ nI (p - q) := nI_le (a := 4) (by omega) (by omega)
        obtain ⟨v, i1, i2, i3, i4, i5, i6, i7⟩ := ih (p + 1) (qu (qu u 116 13 (u 116 13)) 116 10 (nI (p + 1))) (by omega) (by omega) (tpR_f hu0 (frR_t (frR_q (by omega) _) (frR_q (by omega) _))) (by simp [qu]) (by simp [qu, h5]) (fun c => by omega)
        refine ⟨v, ?_, frR_t (frR_t (frR_q (by omega) _) (frR_q (by omega) _)) i2, i3, i4, i5, i6, i7⟩
        rw [nI_succ] at i1
        refine (bq_169_170 (d + 1) 116 _ (QM u w)).trans ?_
        simp only [QM_kd, QM_sz, QM_lk, QM_i, QM_wi, zM, zI, qs_bI, qs_bV, qb_0, h4, h5, a1, r1, r3, r4, e3, e4, f3, Bool.true_eq_false, Nat.reduceSub, Nat.reduceLeDiff, Nat.reduceLT, true_and, and_true, and_self, if_true, if_false]
        exact i1
    · have ex : s_run (s_is b n 2) (r + 1) p = p := by unfold s_run; rw [if_neg g]
      rw [ex]
      exact last p u (by omega) hq hu h4 h5 h6 (by simpa using g)
