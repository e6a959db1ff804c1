/-! BEHIND, FULL, SHUT, MEND, FIRST, BECOMES, LOOSE, in the reference -/
theorem mb_156 {d : Nat} {u0 u : Nat → Nat → Int32} {w : Nat → Nat → Int64} {S : Nat → Int32} {M n : Nat} (hM : M ≤ 8) (h1 : S 1 = nI M) (ht : s_tx S) (hh : s_hi (u0 117) S) (hS : u 117 = S) (hb : ∀ i, i < 76 → u 120 i = u0 117 i) (hn : n < 2 ^ 31) : ∃ v', qs_call (d + 8) 156 [.ref 116, .int (nI n)] (QM u w) = some (some (.int (s_go S n 6)), QM v' w) ∧ v' 117 = u0 117 ∧ ∀ a, a ≠ 117 → a ≠ 128 → a ≠ 129 → v' a = u a := by
  obtain ⟨v1, k1, k2, k3⟩ := mq_140 (d := d) (u := u) (w := w) (n := n) hM (by rw [hS, h1]) (by rw [hS]; exact ht) rfl hn
  rw [hS] at k2
  obtain ⟨v2, g1, g2, g3⟩ := mb_149 (d := d + 6) (u := v1) (w := w) (R := u0 117) (by rw [k2]; exact s_hi_t hh (s_go_hi h1 hM n)) (fun i hi => by rw [k3 120 (by decide) (by decide) (by decide), hb i hi])
  refine ⟨v2, ?_, g2, fun a p1 p2 p3 => by rw [g3 a p1, k3 a p1 p2 p3]⟩
  refine (bq_156_0 (d + 7) 116 _ (QM u w)).trans ?_
  simp only [QM_kd, QM_sz, QM_lk, QM_i, QM_wi, zM, zI, qs_bI, qs_bV, qb_0, k1, g1, k2, Bool.true_eq_false, Nat.reduceSub, Nat.reduceLeDiff, Nat.reduceLT, true_and, and_true, and_self, if_true, if_false]
theorem mb_step {d : Nat} {u0 u u1 : Nat → Nat → Int32} {w : Nat → Nat → Int64} {S : Nat → Int32} {M n : Nat} {b : Int32 × Int32} (y : Int32) (hM : M ≤ 8) (h1 : S 1 = nI M) (ht : s_tx S) (hh : s_hi (u0 117) S) (hS : u1 117 = S) (hu : sTh u0 u b) (ho : ∀ a, a ≠ 117 → u1 a = u a) (hn : n < 2 ^ 31) : ∃ v1 v2, qs_call (d + 8) 156 [.ref 116, .int (nI n)] (QM u1 w) = some (some (.int (s_go S n 6)), QM v1 w) ∧ qs_call (d + 8) 151 [.ref 116, .int y, .int (s_go S n 6)] (QM v1 w) = some (none, QM v2 w) ∧ sTh u0 v2 (s_see b y (s_go S n 6)) := by
  obtain ⟨c1, c2, c3, c4, c5⟩ := hu
  obtain ⟨v1, g1, g2, g3⟩ := mb_156 (d := d) (u0 := u0) (u := u1) (w := w) hM h1 ht hh hS (fun i hi => by rw [ho 120 (by decide), c2 i hi]) hn
  obtain ⟨v2, k1, k2, k3, k4⟩ := mb_151 (d := d + 7) (u := v1) (w := w) (x := y) (v := s_go S n 6)
  refine ⟨v1, v2, g1, k1, ?_, ?_, ?_, ?_, ?_⟩
  · rw [k4 117 (by decide), g2]
  · intro i hi
    rw [k4 120 (by decide), g3 120 (by decide) (by decide) (by decide), ho 120 (by decide), c2 i hi]
  · rw [k2, g3 116 (by decide) (by decide) (by decide), ho 116 (by decide), c3]
  · intro f p5 p6
    rw [k3 f p5 p6, g3 116 (by decide) (by decide) (by decide), ho 116 (by decide), c4 f p5 p6]
  · intro a p1 p2 p3 p4 p5
    rw [k4 a p1, g3 a p2 p4 p5, ho a p2, c5 a p1 p2 p3 p4 p5]
def s_asked (x y : Int32) : Bool := decide ((1 ≤ x ∧ x ≤ 60) ∧ 0 ≤ y ∧ y ≤ 1)
theorem mc_157 {d : Nat} {x0 x1 : Int32} {m : qs_M} : qs_call (d + 2) 157 [.int x0, .int x1] m = some (some (.int (qb (s_asked x0 x1))), m) := mq_157
theorem s_asked_n {x y : Int32} (h : s_asked x y = true) : ∃ n, n ≤ 60 ∧ x = nI n := by
  unfold s_asked at h
  have h1 := of_decide_eq_true h
  exact s_in_n (x := x) (a := 0) (b := 60) (n := 60) (by
    unfold s_in
    exact decide_eq_true ⟨Int32.le_trans (by decide) h1.1.1, h1.1.2⟩) (by decide) rfl (by omega)
def s_bF (R : Nat → Int32) (j n : Nat) (k : Nat) : Int32 × Int32 := (nI k, s_go (upd R (12 + 8 * j + 0) (nI k)) n 6)
theorem mq_160_L {d : Nat} {u0 : Nat → Nat → Int32} {w : Nat → Nat → Int64} {x : Int32} {M n j : Nat} (hM : M ≤ 8) (h1 : u0 117 1 = nI M) (hj : j < M) (ht : s_tx (u0 117)) (hn : n < 2 ^ 31) : ∀ (r k : Nat) (u : Nat → Nat → Int32), k + r = 6 → sTh u0 u (s_best (s_bF (u0 117) j n) k) → ∃ v', qs_EV (d + 8) 160 30 [some (.ref 116), some (.int (nI j)), some (.int (nI n)), some (.int x), some (.int (nI k))] [] (QM u w) = some (some (.int (s_pick (s_best (s_bF (u0 117) j n) 6) x)), QM v' w) ∧ fT u0 v'
  | 0, k, u, hk, hu => by
    obtain rfl : k = 6 := by omega
    refine ⟨u, ?_, sTh_f hu⟩
    refine (bq_160_30 (d + 8) 116 _ _ _ _ (QM u w)).trans ?_
    have e1 : u 116 5 = (s_best (s_bF (u0 117) j n) 6).1 := congrArg Prod.fst hu.2.2.1
    have e3 : u 116 6 = (s_best (s_bF (u0 117) j n) 6).2 := congrArg Prod.snd hu.2.2.1
    have u1 := hu.1
    unfold s_pick
    have e2 : (6 : Int32) ≤ nI 6 := nI_le (a := 6) (Nat.le_refl _) (by omega)
    rw [if_pos e2]
    by_cases hx : x = 0
    · simp only [QM_kd, QM_sz, QM_lk, QM_i, QM_wi, zM, zI, qs_bI, qs_bV, qb_0, hx, e1, Bool.true_eq_false, Nat.reduceSub, Nat.reduceLeDiff, Nat.reduceLT, true_and, and_true, and_self, if_true, if_false]
    · simp only [QM_kd, QM_sz, QM_lk, QM_i, QM_wi, zM, zI, qs_bI, qs_bV, qb_0, hx, e3, Bool.true_eq_false, Nat.reduceSub, Nat.reduceLeDiff, Nat.reduceLT, true_and, and_true, and_self, if_true, if_false]
  | r + 1, k, u, hk, hu => by
    have c1 := hu.1
    have hk2 : k < 6 := by omega
    obtain ⟨v1, v2, a1, a2, a3⟩ := mb_step (d := d) (u0 := u0) (u := u) (u1 := qu u 117 (12 + 8 * j + 0) (nI k)) (w := w) (S := upd (u0 117) (12 + 8 * j + 0) (nI k)) (n := n) (nI k) hM (by rw [upd_j1, h1]) (upd_tx ht (by omega) (by omega)) (s_hi_upd (s_hi_r _) (by omega)) (by rw [qu_same, c1]) hu (fun a ha => by rw [qu_ne _ _ _ ha]) hn
    obtain ⟨v', g1, g2⟩ := mq_160_L (d := d) (u0 := u0) (w := w) (x := x) hM h1 hj ht hn r (k + 1) v2 (by omega) a3
    refine ⟨v', ?_, g2⟩
    refine (bq_160_30 (d + 8) 116 _ _ _ _ (QM u w)).trans ?_
    have e2 : ¬ (6 : Int32) ≤ nI k := nI_ge (b := 6) (by omega) (by omega)
    rw [if_neg e2]
    rw [nI_succ] at g1
    simp only [QM_kd, QM_sz, QM_lk, QM_i, QM_wi, zM, zI, qs_bI, qs_bV, qb_0, mq_113 (show nI j = nI j from rfl) n_0 (show j < 8 by omega) (by decide), a1, a2, g1, Bool.true_eq_false, Nat.reduceSub, Nat.reduceLeDiff, Nat.reduceLT, true_and, and_true, and_self, if_true, if_false]
def s_fF (R : Nat → Int32) (n : Nat) (k : Nat) : Int32 × Int32 := (nI k, s_go (upd R (12 + 8 * k + 1) (s_cl 0 40 (s_jo R k 1 + 1))) n 6)
theorem mq_159_L {d : Nat} {u0 : Nat → Nat → Int32} {w : Nat → Nat → Int64} {x : Int32} {M n : Nat} (hM : M ≤ 8) (h1 : u0 117 1 = nI M) (ht : s_tx (u0 117)) (hn : n < 2 ^ 31) : ∀ (r k : Nat) (u : Nat → Nat → Int32), k + r = M → sTh u0 u (s_best (s_fF (u0 117) n) k) → ∃ v', qs_EV (d + 8) 159 21 [some (.ref 116), some (.int (nI n)), some (.int x), some (.int (nI k))] [] (QM u w) = some (some (.int (s_pick (s_best (s_fF (u0 117) n) M) x)), QM v' w) ∧ fT u0 v'
  | 0, k, u, hk, hu => by
    obtain rfl : k = M := by omega
    refine ⟨u, ?_, sTh_f hu⟩
    refine (bq_159_21 (d + 8) 116 _ _ _ (QM u w)).trans ?_
    have e1 : u 116 5 = (s_best (s_fF (u0 117) n) k).1 := congrArg Prod.fst hu.2.2.1
    have e3 : u 116 6 = (s_best (s_fF (u0 117) n) k).2 := congrArg Prod.snd hu.2.2.1
    have u1 := hu.1
    unfold s_pick
    have e2 : nI k ≤ nI k := nI_le (Nat.le_refl _) (by omega)
    by_cases hx : x = 0
    · simp only [QM_kd, QM_sz, QM_lk, QM_i, QM_wi, zM, zI, qs_bI, qs_bV, qb_0, u1, h1, e2, hx, e1, Bool.true_eq_false, Nat.reduceSub, Nat.reduceLeDiff, Nat.reduceLT, true_and, and_true, and_self, if_true, if_false]
    · simp only [QM_kd, QM_sz, QM_lk, QM_i, QM_wi, zM, zI, qs_bI, qs_bV, qb_0, u1, h1, e2, hx, e3, Bool.true_eq_false, Nat.reduceSub, Nat.reduceLeDiff, Nat.reduceLT, true_and, and_true, and_self, if_true, if_false]
  | r + 1, k, u, hk, hu => by
    have c1 := hu.1
    have hk2 : k < M := by omega
    obtain ⟨v1, v2, a1, a2, a3⟩ := mb_step (d := d) (u0 := u0) (u := u) (u1 := qu u 117 (12 + 8 * k + 1) (s_cl 0 40 (s_jo (u 117) k 1 + 1))) (w := w) (S := upd (u0 117) (12 + 8 * k + 1) (s_cl 0 40 (s_jo (u0 117) k 1 + 1))) (n := n) (nI k) hM (by rw [upd_j1, h1]) (upd_tx ht (by omega) (by omega)) (s_hi_upd (s_hi_r _) (by omega)) (by rw [qu_same, c1]) hu (fun a ha => by rw [qu_ne _ _ _ ha]) hn
    obtain ⟨v', g1, g2⟩ := mq_159_L (d := d) (u0 := u0) (w := w) (x := x) hM h1  ht hn r (k + 1) v2 (by omega) a3
    refine ⟨v', ?_, g2⟩
    refine (bq_159_21 (d + 8) 116 _ _ _ (QM u w)).trans ?_
    have e2 : ¬ nI M ≤ nI k := nI_ge (by omega) (by omega)
    rw [c1] at a1
    rw [nI_succ] at g1
    simp only [QM_kd, QM_sz, QM_lk, QM_i, QM_wi, zM, zI, qs_bI, qs_bV, qb_0, c1, h1, e2, mq_131 (show nI k = nI k from rfl) (show k < 8 by omega), a1, a2, g1, Bool.true_eq_false, Nat.reduceSub, Nat.reduceLeDiff, Nat.reduceLT, true_and, and_true, and_self, if_true, if_false]
def s_becomes (R : Nat → Int32) (M : Nat) (x : Int32) (n c : Int32) : Int32 :=
  if s_in x 0 (nI M - 1) = false then sBAD else if s_asked n c = false then sBAD else s_pick (s_best (s_bF R x.toNatClampNeg n.toNatClampNeg) 6) c
theorem mq_160 {d : Nat} {u : Nat → Nat → Int32} {w : Nat → Nat → Int64} {x c n : Int32} {M : Nat} (hM : M ≤ 8) (h1 : u 117 1 = nI M) (ht : s_tx (u 117)) : ∃ v', qs_call (d + 9) 160 [.ref 116, .int x, .int n, .int c] (QM u w) = some (some (.int (s_becomes (u 117) M x n c)), QM v' w) ∧ fT u v' := by
  unfold s_becomes
  by_cases g1 : s_in x 0 (nI M - 1) = false
  · refine ⟨u, ?_, fT_r u⟩
    refine (bq_160_0 (d + 8) 116 _ _ _ (QM u w)).trans ?_
    rw [if_pos g1]
    simp only [QM_kd, QM_sz, QM_lk, QM_i, QM_wi, zM, zI, qs_bI, qs_bV, qb_0, mc_111x h1, g1, Bool.true_eq_false, Nat.reduceSub, Nat.reduceLeDiff, Nat.reduceLT, true_and, and_true, and_self, if_true, if_false]
    rfl
  obtain ⟨j, hj, rfl⟩ := (s_isj_in hM).mp (by simpa using g1)
  have ej : (nI j).toNatClampNeg = j := nI_clamp (by omega)
  rw [ej]
  by_cases g2 : s_asked n c = false
  · refine ⟨u, ?_, fT_r u⟩
    refine (bq_160_0 (d + 8) 116 _ _ _ (QM u w)).trans ?_
    rw [if_neg g1, if_pos g2]
    simp only [QM_kd, QM_sz, QM_lk, QM_i, QM_wi, zM, zI, qs_bI, qs_bV, qb_0, mc_111x h1, g1, mc_157, g2, Bool.true_eq_false, Nat.reduceSub, Nat.reduceLeDiff, Nat.reduceLT, true_and, and_true, and_self, if_true, if_false]
    rfl
  · obtain ⟨n', hn, rfl⟩ := s_asked_n (x := n) (y := c) (by simpa using g2)
    have en : (nI n').toNatClampNeg = n' := nI_clamp (by omega)
    rw [en]
    obtain ⟨v1, v2, k1, k2, k3⟩ := mb_beg (d := d + 7) (u := u) (w := w)
    obtain ⟨v', k4, k5⟩ := mq_160_L (d := d) (u0 := u) (w := w) (x := c) hM h1 hj ht (show n' < 2 ^ 31 by omega) 6 0 v2 (by omega) k3
    refine ⟨v', ?_, k5⟩
    refine (bq_160_0 (d + 8) 116 _ _ _ (QM u w)).trans ?_
    rw [if_neg g1, if_neg g2]
    rw [nI_0] at k4
    simp only [QM_kd, QM_sz, QM_lk, QM_i, QM_wi, zM, zI, qs_bI, qs_bV, qb_0, mc_111x h1, g1, mc_157, g2, k1, k2, k4, Bool.true_eq_false, Nat.reduceSub, Nat.reduceLeDiff, Nat.reduceLT, true_and, and_true, and_self, if_true, if_false]
def s_first (R : Nat → Int32) (M : Nat) (n c : Int32) : Int32 :=
  if s_asked n c = false then sBAD else s_pick (s_best (s_fF R n.toNatClampNeg) M) c
theorem mq_159 {d : Nat} {u : Nat → Nat → Int32} {w : Nat → Nat → Int64} {c n : Int32} {M : Nat} (hM : M ≤ 8) (h1 : u 117 1 = nI M) (ht : s_tx (u 117)) : ∃ v', qs_call (d + 9) 159 [.ref 116, .int n, .int c] (QM u w) = some (some (.int (s_first (u 117) M n c)), QM v' w) ∧ fT u v' := by
  unfold s_first
  by_cases g2 : s_asked n c = false
  · refine ⟨u, ?_, fT_r u⟩
    refine (bq_159_0 (d + 8) 116 _ _ (QM u w)).trans ?_
    rw [if_pos g2]
    simp only [QM_kd, QM_sz, QM_lk, QM_i, QM_wi, zM, zI, qs_bI, qs_bV, qb_0, mc_157, g2, Bool.true_eq_false, Nat.reduceSub, Nat.reduceLeDiff, Nat.reduceLT, true_and, and_true, and_self, if_true, if_false]
    rfl
  · obtain ⟨n', hn, rfl⟩ := s_asked_n (x := n) (y := c) (by simpa using g2)
    have en : (nI n').toNatClampNeg = n' := nI_clamp (by omega)
    rw [en]
    obtain ⟨v1, v2, k1, k2, k3⟩ := mb_beg (d := d + 7) (u := u) (w := w)
    obtain ⟨v', k4, k5⟩ := mq_159_L (d := d) (u0 := u) (w := w) (x := c) hM h1 ht (show n' < 2 ^ 31 by omega) M 0 v2 (by omega) k3
    refine ⟨v', ?_, k5⟩
    refine (bq_159_0 (d + 8) 116 _ _ (QM u w)).trans ?_
    rw [if_neg g2]
    rw [nI_0] at k4
    simp only [QM_kd, QM_sz, QM_lk, QM_i, QM_wi, zM, zI, qs_bI, qs_bV, qb_0, mc_157, g2, k1, k2, k4, Bool.true_eq_false, Nat.reduceSub, Nat.reduceLeDiff, Nat.reduceLT, true_and, and_true, and_self, if_true, if_false]
def s_mS (R : Nat → Int32) (j k : Nat) : Nat → Int32 := if k = 3 then upd R (12 + 8 * j + 5) (s_cl 0 9 (s_jo R j 5 + 1)) else upd R (12 + 8 * j + (2 + k)) 0
def s_mF (R : Nat → Int32) (j n : Nat) (k : Nat) : Int32 × Int32 := (nI k, s_go (s_mS R j k) n 6)
theorem mq_158_L {d : Nat} {u0 : Nat → Nat → Int32} {w : Nat → Nat → Int64} {x : Int32} {M n j : Nat} (hM : M ≤ 8) (h1 : u0 117 1 = nI M) (hj : j < M) (ht : s_tx (u0 117)) (hn : n < 2 ^ 31) : ∀ (r k : Nat) (u : Nat → Nat → Int32), k + r = 4 → sTh u0 u (s_best (s_mF (u0 117) j n) k) → ∃ v', qs_EV (d + 8) 158 30 [some (.ref 116), some (.int (nI j)), some (.int (nI n)), some (.int x), some (.int (nI k))] [] (QM u w) = some (some (.int (s_pick (s_best (s_mF (u0 117) j n) 4) x)), QM v' w) ∧ fT u0 v'
  | 0, k, u, hk, hu => by
    obtain rfl : k = 4 := by omega
    refine ⟨u, ?_, sTh_f hu⟩
    refine (bq_158_30 (d + 8) 116 _ _ _ _ (QM u w)).trans ?_
    have e1 : u 116 5 = (s_best (s_mF (u0 117) j n) 4).1 := congrArg Prod.fst hu.2.2.1
    have e3 : u 116 6 = (s_best (s_mF (u0 117) j n) 4).2 := congrArg Prod.snd hu.2.2.1
    unfold s_pick
    have e2 : (4 : Int32) ≤ nI 4 := nI_le (a := 4) (Nat.le_refl _) (by omega)
    rw [if_pos e2]
    by_cases hx : x = 0
    · simp only [QM_kd, QM_sz, QM_lk, QM_i, QM_wi, zM, zI, qs_bI, qs_bV, qb_0, hx, e1, Bool.true_eq_false, Nat.reduceSub, Nat.reduceLeDiff, Nat.reduceLT, true_and, and_true, and_self, if_true, if_false]
    · simp only [QM_kd, QM_sz, QM_lk, QM_i, QM_wi, zM, zI, qs_bI, qs_bV, qb_0, hx, e3, Bool.true_eq_false, Nat.reduceSub, Nat.reduceLeDiff, Nat.reduceLT, true_and, and_true, and_self, if_true, if_false]
  | r + 1, k, u, hk, hu => by
    have c1 := hu.1
    have e2 : ¬ (4 : Int32) ≤ nI k := nI_ge (b := 4) (by omega) (by omega)
    by_cases k3 : k = 3
    · have hS : s_mS (u0 117) j k = upd (u0 117) (12 + 8 * j + 5) (s_cl 0 9 (s_jo (u0 117) j 5 + 1)) := if_pos k3
      obtain ⟨v1, v2, a1, a2, a3⟩ := mb_step (d := d) (u0 := u0) (u := u) (u1 := qu u 117 (12 + 8 * j + 5) (s_cl 0 9 (s_jo (u 117) j 5 + 1))) (w := w) (S := s_mS (u0 117) j k) (n := n) (nI k) hM (by rw [hS, upd_j1, h1]) (by rw [hS]; exact upd_tx ht (by omega) (by omega)) (by rw [hS]; exact s_hi_upd (s_hi_r _) (by omega)) (by rw [hS, qu_same, c1]) hu (fun a ha => by rw [qu_ne _ _ _ ha]) hn
      obtain ⟨v', g1, g2⟩ := mq_158_L (d := d) (u0 := u0) (w := w) (x := x) hM h1 hj ht hn r (k + 1) v2 (by omega) a3
      refine ⟨v', ?_, g2⟩
      refine (bq_158_30 (d + 8) 116 _ _ _ _ (QM u w)).trans ?_
      rw [if_neg e2, if_pos (show nI k = 3 by rw [k3]; rfl)]
      rw [nI_succ] at g1
      simp only [QM_kd, QM_sz, QM_lk, QM_i, QM_wi, zM, zI, qs_bI, qs_bV, qb_0, mc_112 5 (show nI j = nI j from rfl) (show j < 8 by omega) n_5 (by decide), mc_109, mq_113 (show nI j = nI j from rfl) n_5 (show j < 8 by omega) (by decide), a1, a2, g1, Bool.true_eq_false, Nat.reduceSub, Nat.reduceLeDiff, Nat.reduceLT, true_and, and_true, and_self, if_true, if_false]
    · have hS : s_mS (u0 117) j k = upd (u0 117) (12 + 8 * j + (2 + k)) 0 := if_neg k3
      obtain ⟨v1, v2, a1, a2, a3⟩ := mb_step (d := d) (u0 := u0) (u := u) (u1 := qu u 117 (12 + 8 * j + (2 + k)) 0) (w := w) (S := s_mS (u0 117) j k) (n := n) (nI k) hM (by rw [hS, upd_j1, h1]) (by rw [hS]; exact upd_tx ht (by omega) (by omega)) (by rw [hS]; exact s_hi_upd (s_hi_r _) (by omega)) (by rw [hS, qu_same, c1]) hu (fun a ha => by rw [qu_ne _ _ _ ha]) hn
      obtain ⟨v', g1, g2⟩ := mq_158_L (d := d) (u0 := u0) (w := w) (x := x) hM h1 hj ht hn r (k + 1) v2 (by omega) a3
      refine ⟨v', ?_, g2⟩
      refine (bq_158_30 (d + 8) 116 _ _ _ _ (QM u w)).trans ?_
      have k4 : ¬ nI k = 3 := fun q => k3 ((nI_eq (b := 3) (by omega) (by omega)).mp q)
      rw [if_neg e2, if_neg k4]
      rw [nI_succ] at g1
      have e4 : (2 : Int32) + nI k = nI (2 + k) := nI_add 2 k
      simp only [QM_kd, QM_sz, QM_lk, QM_i, QM_wi, zM, zI, qs_bI, qs_bV, qb_0, mq_113 (show nI j = nI j from rfl) e4 (show j < 8 by omega) (show 2 + k < 8 by omega), a1, a2, g1, Bool.true_eq_false, Nat.reduceSub, Nat.reduceLeDiff, Nat.reduceLT, true_and, and_true, and_self, if_true, if_false]
def s_mend (R : Nat → Int32) (M : Nat) (x : Int32) (n c : Int32) : Int32 :=
  if s_in x 0 (nI M - 1) = false then sBAD else if s_asked n c = false then sBAD else s_pick (s_best (s_mF R x.toNatClampNeg n.toNatClampNeg) 4) c
theorem mq_158 {d : Nat} {u : Nat → Nat → Int32} {w : Nat → Nat → Int64} {x c n : Int32} {M : Nat} (hM : M ≤ 8) (h1 : u 117 1 = nI M) (ht : s_tx (u 117)) : ∃ v', qs_call (d + 9) 158 [.ref 116, .int x, .int n, .int c] (QM u w) = some (some (.int (s_mend (u 117) M x n c)), QM v' w) ∧ fT u v' := by
  unfold s_mend
  by_cases g1 : s_in x 0 (nI M - 1) = false
  · refine ⟨u, ?_, fT_r u⟩
    refine (bq_158_0 (d + 8) 116 _ _ _ (QM u w)).trans ?_
    rw [if_pos g1]
    simp only [QM_kd, QM_sz, QM_lk, QM_i, QM_wi, zM, zI, qs_bI, qs_bV, qb_0, mc_111x h1, g1, Bool.true_eq_false, Nat.reduceSub, Nat.reduceLeDiff, Nat.reduceLT, true_and, and_true, and_self, if_true, if_false]
    rfl
  obtain ⟨j, hj, rfl⟩ := (s_isj_in hM).mp (by simpa using g1)
  have ej : (nI j).toNatClampNeg = j := nI_clamp (by omega)
  rw [ej]
  by_cases g2 : s_asked n c = false
  · refine ⟨u, ?_, fT_r u⟩
    refine (bq_158_0 (d + 8) 116 _ _ _ (QM u w)).trans ?_
    rw [if_neg g1, if_pos g2]
    simp only [QM_kd, QM_sz, QM_lk, QM_i, QM_wi, zM, zI, qs_bI, qs_bV, qb_0, mc_111x h1, g1, mc_157, g2, Bool.true_eq_false, Nat.reduceSub, Nat.reduceLeDiff, Nat.reduceLT, true_and, and_true, and_self, if_true, if_false]
    rfl
  · obtain ⟨n', hn, rfl⟩ := s_asked_n (x := n) (y := c) (by simpa using g2)
    have en : (nI n').toNatClampNeg = n' := nI_clamp (by omega)
    rw [en]
    obtain ⟨v1, v2, k1, k2, k3⟩ := mb_beg (d := d + 7) (u := u) (w := w)
    obtain ⟨v', k4, k5⟩ := mq_158_L (d := d) (u0 := u) (w := w) (x := c) hM h1 hj ht (show n' < 2 ^ 31 by omega) 4 0 v2 (by omega) k3
    refine ⟨v', ?_, k5⟩
    refine (bq_158_0 (d + 8) 116 _ _ _ (QM u w)).trans ?_
    rw [if_neg g1, if_neg g2]
    rw [nI_0] at k4
    simp only [QM_kd, QM_sz, QM_lk, QM_i, QM_wi, zM, zI, qs_bI, qs_bV, qb_0, mc_111x h1, g1, mc_157, g2, k1, k2, k4, Bool.true_eq_false, Nat.reduceSub, Nat.reduceLeDiff, Nat.reduceLT, true_and, and_true, and_self, if_true, if_false]
def s_lS (R : Nat → Int32) (k : Nat) : Nat → Int32 := upd R (12 + 8 * k + 1) (s_cl 0 40 (s_jo R k 1 + -1))
def s_lF (R : Nat → Int32) (M n : Nat) (k : Nat) : Int32 × Int32 := (nI k, s_ts (s_go (s_lS R k) n) M)
theorem mq_161_L {d : Nat} {u0 : Nat → Nat → Int32} {w : Nat → Nat → Int64} {x : Int32} {M n : Nat} (hM : M ≤ 8) (h1 : u0 117 1 = nI M) (ht : s_tx (u0 117)) (hn : n < 2 ^ 31) : ∀ (r k : Nat) (o : Option Value) (u : Nat → Nat → Int32), k + r = M → sTh u0 u (s_best (s_lF (u0 117) M n) k) → ∃ v', qs_EV (d + 8) 161 21 [some (.ref 116), some (.int (nI n)), some (.int x), some (.int (nI k)), o] [] (QM u w) = some (some (.int (s_pick (s_best (s_lF (u0 117) M n) M) x)), QM v' w) ∧ fT u0 v'
  | 0, k, o, u, hk, hu => by
    obtain rfl : k = M := by omega
    refine ⟨u, ?_, sTh_f hu⟩
    refine (bq_161_21 (d + 8) 116 _ _ _ _ (QM u w)).trans ?_
    have e1 : u 116 5 = (s_best (s_lF (u0 117) k n) k).1 := congrArg Prod.fst hu.2.2.1
    have e3 : u 116 6 = (s_best (s_lF (u0 117) k n) k).2 := congrArg Prod.snd hu.2.2.1
    have u1 := hu.1
    unfold s_pick
    have e2 : nI k ≤ nI k := nI_le (Nat.le_refl _) (by omega)
    by_cases hx : x = 0
    · simp only [QM_kd, QM_sz, QM_lk, QM_i, QM_wi, zM, zI, qs_bI, qs_bV, qb_0, u1, h1, e2, hx, e1, Bool.true_eq_false, Nat.reduceSub, Nat.reduceLeDiff, Nat.reduceLT, true_and, and_true, and_self, if_true, if_false]
    · simp only [QM_kd, QM_sz, QM_lk, QM_i, QM_wi, zM, zI, qs_bI, qs_bV, qb_0, u1, h1, e2, hx, e3, Bool.true_eq_false, Nat.reduceSub, Nat.reduceLeDiff, Nat.reduceLT, true_and, and_true, and_self, if_true, if_false]
  | r + 1, k, o, u, hk, hu => by
    obtain ⟨c1, c2, c3, c4, c5⟩ := hu
    have e2 : ¬ nI M ≤ nI k := nI_ge (by omega) (by omega)
    have hk2 : k < 8 := by omega
    have hS : qu u 117 (12 + 8 * k + 1) (s_cl 0 40 (s_jo (u 117) k 1 + -1)) 117 = s_lS (u0 117) k := by rw [qu_same, c1]; rfl
    have hS1 : s_lS (u0 117) k 1 = nI M := by unfold s_lS; rw [upd_j1, h1]
    have hSt : s_tx (s_lS (u0 117) k) := upd_tx ht hk2 (by omega)
    have hSh : s_hi (u0 117) (s_lS (u0 117) k) := s_hi_upd (s_hi_r _) (by omega)
    obtain ⟨v1, a1, a2, a3⟩ := mq_140 (d := d + 1) (u := qu u 117 (12 + 8 * k + 1) (s_cl 0 40 (s_jo (u 117) k 1 + -1))) (w := w) (n := n) hM (by rw [hS, hS1]) (by rw [hS]; exact hSt) rfl hn
    rw [hS] at a2
    have a4 := mq_143 (d := d + 6) (u := v1) (w := w) hM (by rw [a2, s_go_1, hS1])
    rw [a2] at a4
    have bo : ∀ a, a ≠ 117 → a ≠ 128 → a ≠ 129 → v1 a = u a := fun a p1 p2 p3 => by rw [a3 a p1 p2 p3, qu_ne _ _ _ p1]
    obtain ⟨v2, v3, e4, e5, e6⟩ := mb_end (d := d + 7) (u0 := u0) (u := v1) (w := w) (b := s_best (s_lF (u0 117) M n) k) (x := nI k) (v := s_ts (s_go (s_lS (u0 117) k) n) M) (by rw [a2]; exact s_hi_t hSh (s_go_hi hS1 hM n)) (fun i hi => by rw [bo 120 (by decide) (by decide) (by decide), c2 i hi]) (by rw [bo 116 (by decide) (by decide) (by decide), c3]) (fun f p5 p6 => by rw [bo 116 (by decide) (by decide) (by decide), c4 f p5 p6]) (fun a p1 p2 p3 p4 p5 => by rw [bo a p2 p4 p5, c5 a p1 p2 p3 p4 p5])
    obtain ⟨v', g1, g2⟩ := mq_161_L (d := d) (u0 := u0) (w := w) (x := x) hM h1 ht hn r (k + 1) (some (.int (s_ts (s_go (s_lS (u0 117) k) n) M))) v3 (by omega) e6
    refine ⟨v', ?_, g2⟩
    refine (bq_161_21 (d + 8) 116 _ _ _ _ (QM u w)).trans ?_
    rw [nI_succ] at g1
    rw [c1] at a1
    simp only [QM_kd, QM_sz, QM_lk, QM_i, QM_wi, zM, zI, qs_bI, qs_bV, qb_0, c1, h1, e2, mq_131 (show nI k = nI k from rfl) hk2, a1, a4, e4, e5, g1, Bool.true_eq_false, Nat.reduceSub, Nat.reduceLeDiff, Nat.reduceLT, true_and, and_true, and_self, if_true, if_false]
def s_loose (R : Nat → Int32) (M : Nat) (n c : Int32) : Int32 :=
  if s_asked n c = false then sBAD else s_pick (s_best (s_lF R M n.toNatClampNeg) M) c
theorem mq_161 {d : Nat} {u : Nat → Nat → Int32} {w : Nat → Nat → Int64} {c n : Int32} {M : Nat} (hM : M ≤ 8) (h1 : u 117 1 = nI M) (ht : s_tx (u 117)) : ∃ v', qs_call (d + 9) 161 [.ref 116, .int n, .int c] (QM u w) = some (some (.int (s_loose (u 117) M n c)), QM v' w) ∧ fT u v' := by
  unfold s_loose
  by_cases g2 : s_asked n c = false
  · refine ⟨u, ?_, fT_r u⟩
    refine (bq_161_0 (d + 8) 116 _ _ (QM u w)).trans ?_
    rw [if_pos g2]
    simp only [QM_kd, QM_sz, QM_lk, QM_i, QM_wi, zM, zI, qs_bI, qs_bV, qb_0, mc_157, g2, Bool.true_eq_false, Nat.reduceSub, Nat.reduceLeDiff, Nat.reduceLT, true_and, and_true, and_self, if_true, if_false]
    rfl
  · obtain ⟨n', hn, rfl⟩ := s_asked_n (x := n) (y := c) (by simpa using g2)
    have en : (nI n').toNatClampNeg = n' := nI_clamp (by omega)
    rw [en]
    obtain ⟨v1, v2, k1, k2, k3⟩ := mb_beg (d := d + 7) (u := u) (w := w)
    obtain ⟨v', k4, k5⟩ := mq_161_L (d := d) (u0 := u) (w := w) (x := c) hM h1 ht (show n' < 2 ^ 31 by omega) M 0 none v2 (by omega) k3
    refine ⟨v', ?_, k5⟩
    refine (bq_161_0 (d + 8) 116 _ _ (QM u w)).trans ?_
    rw [if_neg g2]
    rw [nI_0] at k4
    simp only [QM_kd, QM_sz, QM_lk, QM_i, QM_wi, zM, zI, qs_bI, qs_bV, qb_0, mc_157, g2, k1, k2, k4, Bool.true_eq_false, Nat.reduceSub, Nat.reduceLeDiff, Nat.reduceLT, true_and, and_true, and_self, if_true, if_false]
