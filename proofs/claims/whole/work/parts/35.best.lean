/-! WHAT IS BEST; JOINTS THAT COME; QUARTER TURNS, in the reference -/
def sNO : Int32 := -1000000005
theorem mq_150 {d : Nat} {u : Nat → Nat → Int32} {w : Nat → Nat → Int64} : qs_call (d + 1) 150 [.ref 116] (QM u w) = some (none, QM (qu (qu u 116 5 sNO) 116 6 sNO) w) := by
  refine (bq_150_0 d 116 (QM u w)).trans ?_
  simp only [QM_kd, QM_lk, QM_wi, zM, and_self, if_true]
  rfl
/-- the best so far and its worth -/
def s_see (b : Int32 × Int32) (x v : Int32) : Int32 × Int32 := if b.1 = sNO then (x, v) else if b.2 ≤ v then b else (x, v)
theorem mq_151 {d : Nat} {u : Nat → Nat → Int32} {w : Nat → Nat → Int64} {x v : Int32} : ∃ u', qs_call (d + 1) 151 [.ref 116, .int x, .int v] (QM u w) = some (none, QM u' w) ∧ (u' 116 5, u' 116 6) = s_see (u 116 5, u 116 6) x v ∧ ∀ a, a ≠ 116 → u' a = u a := by
  have hq : ((qu (qu u 116 5 x) 116 6 v) 116 5, (qu (qu u 116 5 x) 116 6 v) 116 6) = (x, v) := by simp [qu]
  by_cases h1 : u 116 5 = sNO
  · refine ⟨qu (qu u 116 5 x) 116 6 v, ?_, ?_, fun a ha => by rw [qu_ne _ _ _ ha, qu_ne _ _ _ ha]⟩
    · refine (bq_151_0 d 116 x v (QM u w)).trans ?_
      unfold sNO at h1
      simp only [QM_kd, QM_lk, QM_i, QM_wi, zM, h1, and_self, if_true]
    · rw [hq]
      unfold s_see
      rw [if_pos h1]
  · by_cases h2 : u 116 6 ≤ v
    · refine ⟨u, ?_, ?_, fun _ _ => rfl⟩
      · refine (bq_151_0 d 116 x v (QM u w)).trans ?_
        unfold sNO at h1
        simp only [QM_kd, QM_lk, QM_i, QM_wi, zM, h1, h2, and_self, if_true, if_false]
      · unfold s_see
        rw [if_neg h1, if_pos h2]
    · refine ⟨qu (qu u 116 5 x) 116 6 v, ?_, ?_, fun a ha => by rw [qu_ne _ _ _ ha, qu_ne _ _ _ ha]⟩
      · refine (bq_151_0 d 116 x v (QM u w)).trans ?_
        unfold sNO at h1
        simp only [QM_kd, QM_lk, QM_i, QM_wi, zM, h1, h2, and_self, if_true, if_false]
      · rw [hq]
        unfold s_see
        rw [if_neg h1, if_neg h2]
/-- a joint is put there anew -/
def s_jnew (R : Nat → Int32) (j : Nat) (k t r h : Int32) : Nat → Int32 := fun i => if 12 + 8 * j ≤ i ∧ i < 12 + 8 * j + 8 then (if i = 12 + 8 * j then k else if i = 12 + 8 * j + 1 then t else if i = 12 + 8 * j + 2 then r else if i = 12 + 8 * j + 6 then h else 0) else R i
def s_jz (R : Nat → Int32) (j n : Nat) : Nat → Int32 := fun i => if 12 + 8 * j ≤ i ∧ i < 12 + 8 * j + n then 0 else R i
theorem s_jz_succ (R : Nat → Int32) (j n : Nat) : upd (s_jz R j n) (12 + 8 * j + n) 0 = s_jz R j (n + 1) := by
  funext i
  unfold upd s_jz
  by_cases h : i = 12 + 8 * j + n
  · rw [if_pos h, if_pos (by omega)]
  · rw [if_neg h]
    by_cases h2 : 12 + 8 * j ≤ i ∧ i < 12 + 8 * j + n
    · rw [if_pos h2, if_pos (by omega)]
    · rw [if_neg h2, if_neg (by omega)]
theorem s_jnew_eq (R : Nat → Int32) (j : Nat) (k t r h : Int32) : upd (upd (upd (upd (s_jz R j 8) (12 + 8 * j + 0) k) (12 + 8 * j + 1) t) (12 + 8 * j + 2) r) (12 + 8 * j + 6) h = s_jnew R j k t r h := by
  funext i
  unfold upd s_jz s_jnew
  by_cases h8 : 12 + 8 * j ≤ i ∧ i < 12 + 8 * j + 8
  · rw [if_pos h8, if_pos h8]
    (repeat' split) <;> first | rfl | omega
  · rw [if_neg h8, if_neg h8, if_neg (by omega), if_neg (by omega), if_neg (by omega), if_neg (by omega)]
theorem mq_115L {d : Nat} {u0 : Nat → Nat → Int32} {w : Nat → Nat → Int64} {x1 x2 x3 x4 : Int32} {j : Nat} (hj : j < 8) : ∀ (r k : Nat) (u : Nat → Nat → Int32), k + r = 8 → u 117 = s_jz (u0 117) j k → (∀ a, a ≠ 117 → u a = u0 a) → ∃ v', qs_EV (d + 1) 115 21 [some (.ref 116), some (.int x1), some (.int x2), some (.int x3), some (.int x4), some (.int (nI j)), some (.int (nI k))] [] (QM u w) = some (some (.int (nI j)), QM v' w) ∧ v' 117 = s_jnew (u0 117) j x1 x2 x3 x4 ∧ ∀ a, a ≠ 117 → v' a = u0 a
  | 0, k, u, hk, hu, ho => by
    obtain rfl : k = 8 := by omega
    refine ⟨qu (qu (qu (qu u 117 (12 + 8 * j + 0) x1) 117 (12 + 8 * j + 1) x2) 117 (12 + 8 * j + 2) x3) 117 (12 + 8 * j + 6) x4, ?_, ?_, fun a ha => by rw [qu_ne _ _ _ ha, qu_ne _ _ _ ha, qu_ne _ _ _ ha, qu_ne _ _ _ ha, ho a ha]⟩
    · refine (bq_115_21 (d + 1) 116 _ _ _ _ _ _ (QM u w)).trans ?_
      rw [if_pos (by decide)]
      simp only [QM_kd, zM, qs_bV, mq_113 (show nI j = nI j from rfl) n_0 hj (by decide), mq_113 (show nI j = nI j from rfl) n_1 hj (by decide), mq_113 (show nI j = nI j from rfl) n_2 hj (by decide), mq_113 (show nI j = nI j from rfl) n_6 hj (by decide), if_true]
    · rw [qu_same, qu_same, qu_same, qu_same, hu, s_jnew_eq]
  | r + 1, k, u, hk, hu, ho => by
    obtain ⟨v', g1, g2, g3⟩ := mq_115L (d := d) (u0 := u0) (w := w) (x1 := x1) (x2 := x2) (x3 := x3) (x4 := x4) hj r (k + 1) (qu u 117 (12 + 8 * j + k) 0) (by omega) (by rw [qu_same, hu, s_jz_succ]) (fun a ha => by rw [qu_ne _ _ _ ha, ho a ha])
    refine ⟨v', ?_, g2, g3⟩
    refine (bq_115_21 (d + 1) 116 _ _ _ _ _ _ (QM u w)).trans ?_
    rw [nI_succ] at g1
    have e1 : ¬ (8 : Int32) ≤ nI k := nI_ge (b := 8) (by omega) (by omega)
    simp only [QM_kd, zM, qs_bV, e1, mq_113 (show nI j = nI j from rfl) (show nI k = nI k from rfl) hj (show k < 8 by omega), g1, if_true, if_false]
theorem mq_115 {d : Nat} {u : Nat → Nat → Int32} {w : Nat → Nat → Int64} {x1 x2 x3 x4 : Int32} {j : Nat} (hj : j < 8) (h1 : u 117 1 = nI j) : ∃ v', qs_call (d + 2) 115 [.ref 116, .int x1, .int x2, .int x3, .int x4] (QM u w) = some (some (.int (nI j)), QM v' w) ∧ v' 117 = s_jnew (upd (u 117) 1 (nI (j + 1))) j x1 x2 x3 x4 ∧ ∀ a, a ≠ 117 → v' a = u a := by
  obtain ⟨v', g1, g2, g3⟩ := mq_115L (d := d) (u0 := qu u 117 1 (nI (j + 1))) (w := w) (x1 := x1) (x2 := x2) (x3 := x3) (x4 := x4) hj 8 0 (qu u 117 1 (nI (j + 1))) (by omega) (by funext i; simp [s_jz]; omega) (fun _ _ => rfl)
  refine ⟨v', ?_, by rw [g2, qu_same], fun a ha => by rw [g3 a ha, qu_ne _ _ _ ha]⟩
  refine (bq_115_0 (d + 1) 116 _ _ _ _ (QM u w)).trans ?_
  rw [nI_succ] at g1
  have h0 : (0 : Int32) = nI 0 := rfl
  simp only [QM_kd, QM_sz, QM_lk, QM_i, QM_wi, zM, zI, h1, Nat.reduceSub, Nat.reduceLeDiff, Nat.reduceLT, true_and, and_true, if_true]
  exact g1
