/-! PUBLIC METHODS OF THE REFERENCE -/
def sBAD : Int32 := -1000000001
def sFULL : Int32 := -1000000003
def s_in (x a b : Int32) : Bool := decide (a ≤ x ∧ x ≤ b)
theorem mc_108 {d : Nat} {x a b : Int32} {m : qs_M} : qs_call (d + 1) 108 [.int x, .int a, .int b] m = some (some (.int (qb (s_in x a b))), m) := mq_108
theorem mc_116 {d : Nat} {x0 x1 : Int32} {m : qs_M} : qs_call (d + 2) 116 [.int x0, .int x1] m = some (some (.int (qb (s_in x1 0 (if 3 ≤ x0 then 9 else 40)))), m) := mq_116
def s_joint (R : Nat → Int32) (M : Nat) (k t r h : Int32) : Int32 × (Nat → Int32) :=
  if s_in k 0 5 = false then (sBAD, R) else if s_in t 0 40 = false then (sBAD, R) else if s_in r 0 40 = false then (sBAD, R) else if s_in h 0 9 = false then (sBAD, R) else if M = 8 then (sFULL, R) else (nI M, s_jnew (upd R 1 (nI (M + 1))) M k t r h)
theorem mq_117 {d : Nat} {u : Nat → Nat → Int32} {w : Nat → Nat → Int64} {k t r h : Int32} {M : Nat} (hM : M ≤ 8) (h1 : u 117 1 = nI M) : ∃ v', qs_call (d + 3) 117 [.ref 116, .int k, .int t, .int r, .int h] (QM u w) = some (some (.int (s_joint (u 117) M k t r h).1), QM v' w) ∧ v' 117 = (s_joint (u 117) M k t r h).2 ∧ ∀ a, a ≠ 117 → v' a = u a := by
  have i1 : ¬ (3 : Int32) ≤ 1 := by decide
  have i2 : ¬ (3 : Int32) ≤ 2 := by decide
  have i6 : (3 : Int32) ≤ 6 := by decide
  by_cases g1 : s_in k 0 5 = false
  · refine ⟨u, ?_, by unfold s_joint; rw [if_pos g1], fun _ _ => rfl⟩
    refine (bq_117_0 (d + 2) 116 _ _ _ _ (QM u w)).trans ?_
    unfold s_joint
    rw [if_pos g1]
    simp only [mc_108, qs_bI, qb_0, g1, if_true]
    rfl
  by_cases g2 : s_in t 0 40 = false
  · refine ⟨u, ?_, by unfold s_joint; rw [if_neg g1, if_pos g2], fun _ _ => rfl⟩
    refine (bq_117_0 (d + 2) 116 _ _ _ _ (QM u w)).trans ?_
    unfold s_joint
    rw [if_neg g1, if_pos g2]
    simp only [mc_108, mc_116, qs_bI, qb_0, i1, g1, g2, if_true, if_false]
    rfl
  by_cases g3 : s_in r 0 40 = false
  · refine ⟨u, ?_, by unfold s_joint; rw [if_neg g1, if_neg g2, if_pos g3], fun _ _ => rfl⟩
    refine (bq_117_0 (d + 2) 116 _ _ _ _ (QM u w)).trans ?_
    unfold s_joint
    rw [if_neg g1, if_neg g2, if_pos g3]
    simp only [mc_108, mc_116, qs_bI, qb_0, i1, i2, g1, g2, g3, if_true, if_false]
    rfl
  by_cases g4 : s_in h 0 9 = false
  · refine ⟨u, ?_, by unfold s_joint; rw [if_neg g1, if_neg g2, if_neg g3, if_pos g4], fun _ _ => rfl⟩
    refine (bq_117_0 (d + 2) 116 _ _ _ _ (QM u w)).trans ?_
    unfold s_joint
    rw [if_neg g1, if_neg g2, if_neg g3, if_pos g4]
    simp only [mc_108, mc_116, qs_bI, qb_0, i1, i2, i6, g1, g2, g3, g4, if_true, if_false]
    rfl
  have e8 : (8 : Int32) = nI 8 := rfl
  by_cases g5 : M = 8
  · refine ⟨u, ?_, by unfold s_joint; rw [if_neg g1, if_neg g2, if_neg g3, if_neg g4, if_pos g5], fun _ _ => rfl⟩
    refine (bq_117_0 (d + 2) 116 _ _ _ _ (QM u w)).trans ?_
    unfold s_joint
    rw [if_neg g1, if_neg g2, if_neg g3, if_neg g4, if_pos g5]
    have g6 : nI M = 8 := by rw [g5]; rfl
    simp only [QM_kd, QM_sz, QM_lk, QM_i, zM, zI, mc_108, mc_116, qs_bI, qb_0, i1, i2, i6, g1, g2, g3, g4, h1, g6, Nat.reduceSub, Nat.reduceLeDiff, Nat.reduceLT, true_and, and_true, if_true, if_false]
    rfl
  · obtain ⟨v', k1, k2, k3⟩ := mq_115 (d := d) (u := u) (w := w) (x1 := k) (x2 := t) (x3 := r) (x4 := h) (show M < 8 by omega) h1
    refine ⟨v', ?_, by unfold s_joint; rw [if_neg g1, if_neg g2, if_neg g3, if_neg g4, if_neg g5, k2], k3⟩
    refine (bq_117_0 (d + 2) 116 _ _ _ _ (QM u w)).trans ?_
    unfold s_joint
    rw [if_neg g1, if_neg g2, if_neg g3, if_neg g4, if_neg g5]
    have g6 : ¬ nI M = 8 := by
      rw [e8]
      intro q
      exact g5 ((nI_eq (by omega) (by omega)).mp q)
    simp only [QM_kd, QM_sz, QM_lk, QM_i, zM, zI, mc_108, mc_116, qs_bI, qb_0, i1, i2, i6, g1, g2, g3, g4, h1, g6, k1, Bool.true_eq_false, Nat.reduceSub, Nat.reduceLeDiff, Nat.reduceLT, true_and, and_true, if_true, if_false]
theorem mq_135 {d : Nat} {u : Nat → Nat → Int32} {w : Nat → Nat → Int64} : qs_call (d + 2) 135 [.ref 116] (QM u w) = some (some (.int (u 117 7)), QM (qu u 117 7 0) w) := by
  refine (bq_135_0 (d + 1) 116 (QM u w)).trans ?_
  simp only [QM_kd, zM, qs_bI, mq_114 n_7 (show 7 < 1448 by decide), if_true]
theorem mq_137 {d : Nat} {u : Nat → Nat → Int32} {w : Nat → Nat → Int64} {v : Int32} : qs_call (d + 2) 137 [.ref 116, .int v] (QM u w) = some (some (.int (u 117 0)), QM (qu u 117 0 v) w) := by
  refine (bq_137_0 (d + 1) 116 v (QM u w)).trans ?_
  simp only [QM_kd, zM, qs_bI, mq_114 n_0 (show 0 < 1448 by decide), if_true]
def sKIND : Int32 := -1000000012
theorem s_isj_in {M : Nat} (hM : M ≤ 8) {x : Int32} : s_in x 0 (nI M - 1) = true ↔ ∃ j, j < M ∧ x = nI j := by
  unfold s_in
  rw [decide_eq_true_eq]
  exact s_isj hM
theorem mc_111x {d : Nat} {M : Nat} {x : Int32} {u : Nat → Nat → Int32} {w : Nat → Nat → Int64} (h1 : u 117 1 = nI M) : qs_call (d + 2) 111 [.ref 116, .int x] (QM u w) = some (some (.int (qb (s_in x 0 (nI M - 1)))), QM u w) := by
  rw [mq_111, h1]
  rfl
def s_as (R : Nat → Int32) (M : Nat) (x k : Int32) : Int32 :=
  if s_in x 0 (nI M - 1) = false then sBAD else if s_in k 0 5 = false then sBAD else if s_under (s_jo R x.toNatClampNeg 0) k = false then sKIND else s_jo R x.toNatClampNeg 1
theorem mq_127 {d : Nat} {u : Nat → Nat → Int32} {w : Nat → Nat → Int64} {x k : Int32} {M : Nat} (hM : M ≤ 8) (h1 : u 117 1 = nI M) : qs_call (d + 3) 127 [.ref 116, .int x, .int k] (QM u w) = some (some (.int (s_as (u 117) M x k)), QM u w) := by
  refine (bq_127_0 (d + 2) 116 _ _ (QM u w)).trans ?_
  unfold s_as
  by_cases g1 : s_in x 0 (nI M - 1) = false
  · rw [if_pos g1]
    simp only [QM_kd, zM, mc_111x h1, qs_bI, qb_0, g1, if_true]
    rfl
  rw [if_neg g1]
  obtain ⟨j, hj, rfl⟩ := (s_isj_in hM).mp (by simpa using g1)
  have ej : (nI j).toNatClampNeg = j := nI_clamp (by omega)
  rw [ej]
  by_cases g2 : s_in k 0 5 = false
  · rw [if_pos g2]
    simp only [QM_kd, zM, mc_111x h1, mc_108, qs_bI, qb_0, g1, g2, Bool.true_eq_false, if_true, if_false]
    rfl
  rw [if_neg g2]
  by_cases g3 : s_under (s_jo (u 117) j 0) k = false
  · rw [if_pos g3]
    simp only [QM_kd, zM, mc_111x h1, mc_108, mc_112 0 (show nI j = nI j from rfl) (show j < 8 by omega) n_0 (by decide), mq_126, qs_bI, qb_0, g1, g2, g3, Bool.true_eq_false, if_true, if_false]
    rfl
  rw [if_neg g3]
  simp only [QM_kd, zM, mc_111x h1, mc_108, mc_112 0 (show nI j = nI j from rfl) (show j < 8 by omega) n_0 (by decide), mc_112 1 (show nI j = nI j from rfl) (show j < 8 by omega) n_1 (by decide), mq_126, qs_bI, qb_0, g1, g2, g3, Bool.true_eq_false, if_true, if_false]
def s_turns (R : Nat → Int32) (M : Nat) (x k : Int32) : Int32 × (Nat → Int32) :=
  if s_in x 0 (nI M - 1) = false then (sBAD, R) else if s_in k 0 5 = false then (sBAD, R) else (s_jo R x.toNatClampNeg 0, upd R (12 + 8 * x.toNatClampNeg + 0) k)
theorem ix_jo {j : Nat} : 12 + 8 * nI j = nI (12 + 8 * j + 0) := by
  rw [Nat.add_zero, ← nI_add, ← nI_times]
  rfl
theorem ix_jc {j c : Nat} : 12 + 8 * nI j + nI c = nI (12 + 8 * j + c) := by
  rw [← nI_add, ← nI_add, ← nI_times]
  rfl
theorem mq_128 {d : Nat} {u : Nat → Nat → Int32} {w : Nat → Nat → Int64} {x k : Int32} {M : Nat} (hM : M ≤ 8) (h1 : u 117 1 = nI M) : ∃ v', qs_call (d + 3) 128 [.ref 116, .int x, .int k] (QM u w) = some (some (.int (s_turns (u 117) M x k).1), QM v' w) ∧ v' 117 = (s_turns (u 117) M x k).2 ∧ ∀ a, a ≠ 117 → v' a = u a := by
  unfold s_turns
  by_cases g1 : s_in x 0 (nI M - 1) = false
  · refine ⟨u, ?_, by rw [if_pos g1], fun _ _ => rfl⟩
    refine (bq_128_0 (d + 2) 116 _ _ (QM u w)).trans ?_
    rw [if_pos g1]
    simp only [QM_kd, zM, mc_111x h1, qs_bI, qb_0, g1, if_true]
    rfl
  obtain ⟨j, hj, rfl⟩ := (s_isj_in hM).mp (by simpa using g1)
  have ej : (nI j).toNatClampNeg = j := nI_clamp (by omega)
  rw [ej]
  by_cases g2 : s_in k 0 5 = false
  · refine ⟨u, ?_, by rw [if_neg g1, if_pos g2], fun _ _ => rfl⟩
    refine (bq_128_0 (d + 2) 116 _ _ (QM u w)).trans ?_
    rw [if_neg g1, if_pos g2]
    simp only [QM_kd, zM, mc_111x h1, mc_108, qs_bI, qb_0, g1, g2, Bool.true_eq_false, if_true, if_false]
    rfl
  refine ⟨qu u 117 (12 + 8 * j + 0) k, ?_, by rw [if_neg g1, if_neg g2, qu_same], fun a ha => by rw [qu_ne _ _ _ ha]⟩
  refine (bq_128_0 (d + 2) 116 _ _ (QM u w)).trans ?_
  rw [if_neg g1, if_neg g2]
  simp only [QM_kd, zM, mc_111x h1, mc_108, mq_114 ix_jo (show 12 + 8 * j + 0 < 1448 by omega), qs_bI, qb_0, g1, g2, Bool.true_eq_false, if_true, if_false]
  rfl
def s_set (R : Nat → Int32) (M : Nat) (x c v : Int32) : Int32 × (Nat → Int32) :=
  if s_in x 0 (nI M - 1) = false then (sBAD, R) else if s_in c 2 6 = false then (sBAD, R) else if s_in v 0 (if 3 ≤ c then 9 else 40) = false then (sBAD, R) else (s_jo R x.toNatClampNeg c.toNatClampNeg, upd R (12 + 8 * x.toNatClampNeg + c.toNatClampNeg) v)
theorem mq_129 {d : Nat} {u : Nat → Nat → Int32} {w : Nat → Nat → Int64} {x c v : Int32} {M : Nat} (hM : M ≤ 8) (h1 : u 117 1 = nI M) : ∃ v', qs_call (d + 3) 129 [.ref 116, .int x, .int c, .int v] (QM u w) = some (some (.int (s_set (u 117) M x c v).1), QM v' w) ∧ v' 117 = (s_set (u 117) M x c v).2 ∧ ∀ a, a ≠ 117 → v' a = u a := by
  unfold s_set
  by_cases g1 : s_in x 0 (nI M - 1) = false
  · refine ⟨u, ?_, by rw [if_pos g1], fun _ _ => rfl⟩
    refine (bq_129_0 (d + 2) 116 _ _ _ (QM u w)).trans ?_
    rw [if_pos g1]
    simp only [QM_kd, zM, mc_111x h1, qs_bI, qb_0, g1, if_true]
    rfl
  obtain ⟨j, hj, rfl⟩ := (s_isj_in hM).mp (by simpa using g1)
  have ej : (nI j).toNatClampNeg = j := nI_clamp (by omega)
  rw [ej]
  by_cases g2 : s_in c 2 6 = false
  · refine ⟨u, ?_, by rw [if_neg g1, if_pos g2], fun _ _ => rfl⟩
    refine (bq_129_0 (d + 2) 116 _ _ _ (QM u w)).trans ?_
    rw [if_neg g1, if_pos g2]
    simp only [QM_kd, zM, mc_111x h1, mc_108, qs_bI, qb_0, g1, g2, Bool.true_eq_false, if_true, if_false]
    rfl
  by_cases g3 : s_in v 0 (if 3 ≤ c then 9 else 40) = false
  · refine ⟨u, ?_, by rw [if_neg g1, if_neg g2, if_pos g3], fun _ _ => rfl⟩
    refine (bq_129_0 (d + 2) 116 _ _ _ (QM u w)).trans ?_
    rw [if_neg g1, if_neg g2, if_pos g3]
    simp only [QM_kd, zM, mc_111x h1, mc_108, mc_116, qs_bI, qb_0, g1, g2, g3, Bool.true_eq_false, if_true, if_false]
    rfl
  obtain ⟨c', hc, ec⟩ : ∃ c', c' ≤ 6 ∧ c = nI c' := by
    have g4 : s_in c 2 6 = true := by simpa using g2
    unfold s_in at g4
    have g5 := of_decide_eq_true g4
    obtain ⟨c', h2, h3⟩ := nI_of (x := c) (fun q => by
      have := Int32.lt_iff_toInt_lt.mp q
      have h7 := Int32.le_iff_toInt_le.mp g5.1
      have h8 : (0 : Int32).toInt = 0 := by decide
      have h9 : (2 : Int32).toInt = 2 := by decide
      omega)
    refine ⟨c', ?_, h3⟩
    rw [h3] at g5
    exact (nI_leI (b := 6) h2 (by omega)).mp g5.2
  subst ec
  have ec : (nI c').toNatClampNeg = c' := nI_clamp (by omega)
  rw [ec]
  refine ⟨qu u 117 (12 + 8 * j + c') v, ?_, by rw [if_neg g1, if_neg g2, if_neg g3, qu_same], fun a ha => by rw [qu_ne _ _ _ ha]⟩
  refine (bq_129_0 (d + 2) 116 _ _ _ (QM u w)).trans ?_
  rw [if_neg g1, if_neg g2, if_neg g3]
  simp only [QM_kd, zM, mc_111x h1, mc_108, mc_116, mq_114 ix_jc (show 12 + 8 * j + c' < 1448 by omega), qs_bI, qb_0, g1, g2, g3, Bool.true_eq_false, if_true, if_false]
  rfl
/-- how many hours may still go by -/
def s_hn (R : Nat → Int32) (x : Int32) : Nat := (s_cl 0 x (9999 - R 2)).toNatClampNeg
theorem s_hn_eq {R : Nat → Int32} {H n : Nat} (h : R 2 = nI H) (hH : H ≤ 9999) (hn : n < 2 ^ 31) : s_cl 0 (nI n) (9999 - R 2) = nI (min n (9999 - H)) := by
  have e : (9999 : Int32) - R 2 = nI (9999 - H) := by
    rw [h]
    exact nI_sub (a := 9999) hH
  rw [e]
  unfold s_cl
  rw [if_pos (nI_pos' (by omega))]
  by_cases h1 : 9999 - H ≤ n
  · rw [if_pos (nI_le h1 hn), Nat.min_eq_right h1]
  · rw [if_neg (nI_ge (by omega) (by omega)), Nat.min_eq_left (by omega)]
def s_hours (R : Nat → Int32) (x : Int32) : Int32 × (Nat → Int32) :=
  if s_in x 1 100 = false then (sBAD, R) else (s_go R (s_hn R x) 6 - R 6, s_go R (s_hn R x))
theorem mq_141 {d : Nat} {u : Nat → Nat → Int32} {w : Nat → Nat → Int64} {x : Int32} {M H : Nat} (hM : M ≤ 8) (h1 : u 117 1 = nI M) (h2 : u 117 2 = nI H) (hH : H ≤ 9999) (h : s_tx (u 117)) : ∃ v', qs_call (d + 8) 141 [.ref 116, .int x] (QM u w) = some (some (.int (s_hours (u 117) x).1), QM v' w) ∧ v' 117 = (s_hours (u 117) x).2 ∧ ∀ a, a ≠ 117 → a ≠ 128 → a ≠ 129 → v' a = u a := by
  unfold s_hours
  by_cases g1 : s_in x 1 100 = false
  · refine ⟨u, ?_, by rw [if_pos g1], fun _ _ _ _ => rfl⟩
    refine (bq_141_0 (d + 7) 116 _ (QM u w)).trans ?_
    rw [if_pos g1]
    simp only [mc_108, qs_bI, qb_0, g1, if_true]
    rfl
  obtain ⟨n, hn, rfl⟩ : ∃ n, n < 2 ^ 31 ∧ x = nI n := by
    have g4 : s_in x 1 100 = true := by simpa using g1
    unfold s_in at g4
    have g5 := of_decide_eq_true g4
    refine nI_of (fun q => ?_)
    have := Int32.lt_iff_toInt_lt.mp q
    have h7 := Int32.le_iff_toInt_le.mp g5.1
    have h8 : (0 : Int32).toInt = 0 := by decide
    have h9 : (1 : Int32).toInt = 1 := by decide
    omega
  have e1 := s_hn_eq h2 hH hn
  have e2 : s_hn (u 117) (nI n) = min n (9999 - H) := by
    unfold s_hn
    rw [e1]
    exact nI_clamp (by omega)
  rw [e2]
  obtain ⟨v', k1, k2, k3⟩ := mq_140 (d := d) (u := u) (w := w) (n := min n (9999 - H)) hM h1 h rfl (by omega)
  refine ⟨v', ?_, by rw [if_neg g1, k2], k3⟩
  refine (bq_141_0 (d + 7) 116 _ (QM u w)).trans ?_
  rw [if_neg g1]
  simp only [QM_kd, QM_sz, QM_lk, QM_i, zM, zI, mc_108, mc_109, qs_bI, qs_bV, qb_0, g1, e1, k1, k2, Bool.true_eq_false, Nat.reduceSub, Nat.reduceLeDiff, Nat.reduceLT, true_and, and_true, if_true, if_false]
