/-! WHAT IS ONLY THOUGHT, in the reference -/
def s_hi (R S : Nat → Int32) : Prop := ∀ i, 76 ≤ i → S i = R i
theorem s_hi_r (R : Nat → Int32) : s_hi R R := fun _ _ => rfl
theorem s_hi_upd {R S : Nat → Int32} {i : Nat} {x : Int32} (h : s_hi R S) (hi : i < 76) : s_hi R (upd S i x) := fun k hk => by
  unfold upd
  rw [if_neg (by omega)]
  exact h k hk
theorem s_hi_t {R S T : Nat → Int32} (h : s_hi R S) (g : s_hi S T) : s_hi R T := fun k hk => (g k hk).trans (h k hk)
theorem s_drip_hi (R : Nat → Int32) {j : Nat} (hj : j < 8) : s_hi R (s_drip R j) := by
  unfold s_drip
  dsimp only
  split
  · exact s_hi_upd (s_hi_upd (s_hi_upd (s_hi_upd (s_hi_r R) (by omega)) (by omega)) (by omega)) (by omega)
  · exact s_hi_upd (s_hi_upd (s_hi_upd (s_hi_r R) (by omega)) (by omega)) (by omega)
theorem s_drs_hi (R : Nat → Int32) : ∀ n, n ≤ 8 → s_hi R (s_drs R n)
  | 0, _ => s_hi_r R
  | n + 1, h => s_hi_t (s_drs_hi R n (by omega)) (s_drip_hi _ (by omega))
theorem s_95_hi (R : Nat → Int32) : s_hi R (s_95 R) := by
  unfold s_95
  split <;> exact s_hi_upd (s_hi_upd (s_hi_r R) (by omega)) (by omega)
theorem s_sh_hi {R : Nat → Int32} {M : Nat} (h1 : R 1 = nI M) (hM : M ≤ 8) : s_hi R (s_sh R) := by
  unfold s_sh
  split
  · exact s_hi_upd (s_hi_r R) (by omega)
  · split
    · exact s_hi_upd (s_hi_r R) (by omega)
    · rename_i h2
      have h0 : 0 < M := by
        rcases Nat.eq_zero_or_pos M with rfl | q
        · rw [h1] at h2
          exact absurd (by decide) h2
        · exact q
      have h3 := s_wh_lt h1 h0 hM
      unfold s_shj
      exact s_hi_upd (s_hi_upd (s_hi_upd (s_hi_upd (s_hi_upd (s_hi_r R) (by omega)) (by omega)) (by omega)) (by omega)) (by omega)
theorem s_hour_hi {R : Nat → Int32} {M : Nat} (h1 : R 1 = nI M) (hM : M ≤ 8) : s_hi R (s_hour R) := by
  unfold s_hour
  rw [h1, nI_clamp (by omega)]
  exact s_hi_t (s_drs_hi R M hM) (s_hi_t (s_sh_hi (M := M) (by rw [s_drs_at _ _ (by omega), h1]) hM) (s_95_hi _))
theorem s_go_hi {R : Nat → Int32} {M : Nat} (h1 : R 1 = nI M) (hM : M ≤ 8) : ∀ n, s_hi R (s_go R n)
  | 0 => s_hi_r R
  | n + 1 => s_hi_t (s_go_hi h1 hM n) (s_hour_hi (M := M) (by rw [s_go_1, h1]) hM)
/-- thinking leaves all as it is -/
def fT (u v : Nat → Nat → Int32) : Prop := v 117 = u 117 ∧ (∀ f, f ≠ 5 → f ≠ 6 → v 116 f = u 116 f) ∧ ∀ a, a ≠ 116 → a ≠ 117 → a ≠ 120 → a ≠ 128 → a ≠ 129 → v a = u a
theorem mb_148 {d : Nat} {u : Nat → Nat → Int32} {w : Nat → Nat → Int64} : ∃ v', qs_call (d + 1) 148 [.ref 116] (QM u w) = some (none, QM v' w) ∧ (∀ i, i < 76 → v' 120 i = u 117 i) ∧ ∀ a, a ≠ 120 → v' a = u a := by
  obtain ⟨v', g1, g2, g3⟩ := mq_148 (d := d) (u := u) (w := w)
  refine ⟨v', g1, fun i hi => ?_, g3⟩
  rw [g2]
  unfold s_cp
  rw [if_pos hi]
theorem mb_149 {d : Nat} {u : Nat → Nat → Int32} {w : Nat → Nat → Int64} {R : Nat → Int32} (h1 : s_hi R (u 117)) (h2 : ∀ i, i < 76 → u 120 i = R i) : ∃ v', qs_call (d + 1) 149 [.ref 116] (QM u w) = some (none, QM v' w) ∧ v' 117 = R ∧ ∀ a, a ≠ 117 → v' a = u a := by
  obtain ⟨v', g1, g2, g3⟩ := mq_149 (d := d) (u := u) (w := w)
  refine ⟨v', g1, ?_, g3⟩
  rw [g2]
  funext i
  unfold s_cp
  by_cases hi : i < 76
  · rw [if_pos hi, h2 i hi]
  · rw [if_neg hi, h1 i (by omega)]
theorem mb_151 {d : Nat} {u : Nat → Nat → Int32} {w : Nat → Nat → Int64} {x v : Int32} : ∃ u', qs_call (d + 1) 151 [.ref 116, .int x, .int v] (QM u w) = some (none, QM u' w) ∧ (u' 116 5, u' 116 6) = s_see (u 116 5, u 116 6) x v ∧ (∀ f, f ≠ 5 → f ≠ 6 → u' 116 f = u 116 f) ∧ ∀ a, a ≠ 116 → u' a = u a := by
  have hq : ((qu (qu u 116 5 x) 116 6 v) 116 5, (qu (qu u 116 5 x) 116 6 v) 116 6) = (x, v) := by simp [qu]
  have hf : ∀ f, f ≠ 5 → f ≠ 6 → (qu (qu u 116 5 x) 116 6 v) 116 f = u 116 f := fun f h5 h6 => by
    rw [qu_at, if_neg (by omega), qu_at, if_neg (by omega)]
  by_cases h1 : u 116 5 = sNO
  · refine ⟨qu (qu u 116 5 x) 116 6 v, ?_, ?_, hf, fun a ha => by rw [qu_ne _ _ _ ha, qu_ne _ _ _ ha]⟩
    · refine (bq_151_0 d 116 x v (QM u w)).trans ?_
      unfold sNO at h1
      simp only [QM_kd, QM_lk, QM_i, QM_wi, zM, h1, and_self, if_true]
    · rw [hq]
      unfold s_see
      rw [if_pos h1]
  · by_cases h2 : u 116 6 ≤ v
    · refine ⟨u, ?_, ?_, fun _ _ _ => rfl, fun _ _ => rfl⟩
      · refine (bq_151_0 d 116 x v (QM u w)).trans ?_
        unfold sNO at h1
        simp only [QM_kd, QM_lk, QM_i, QM_wi, zM, h1, h2, and_self, if_true, if_false]
      · unfold s_see
        rw [if_neg h1, if_pos h2]
    · refine ⟨qu (qu u 116 5 x) 116 6 v, ?_, ?_, hf, fun a ha => by rw [qu_ne _ _ _ ha, qu_ne _ _ _ ha]⟩
      · refine (bq_151_0 d 116 x v (QM u w)).trans ?_
        unfold sNO at h1
        simp only [QM_kd, QM_lk, QM_i, QM_wi, zM, h1, h2, and_self, if_true, if_false]
      · rw [hq]
        unfold s_see
        rw [if_neg h1, if_neg h2]
/-- the best of many -/
def s_best (F : Nat → Int32 × Int32) : Nat → Int32 × Int32
  | 0 => (sNO, sNO)
  | n + 1 => s_see (s_best F n) (F n).1 (F n).2
/-- the state of a thought: the row, what is put aside, the best -/
def sTh (u0 u : Nat → Nat → Int32) (b : Int32 × Int32) : Prop := u 117 = u0 117 ∧ (∀ i, i < 76 → u 120 i = u0 117 i) ∧ (u 116 5, u 116 6) = b ∧ (∀ f, f ≠ 5 → f ≠ 6 → u 116 f = u0 116 f) ∧ ∀ a, a ≠ 116 → a ≠ 117 → a ≠ 120 → a ≠ 128 → a ≠ 129 → u a = u0 a
theorem sTh_f {u0 u : Nat → Nat → Int32} {b : Int32 × Int32} (h : sTh u0 u b) : fT u0 u := ⟨h.1, h.2.2.2.1, h.2.2.2.2⟩
/-- thinking begins -/
theorem mb_beg {d : Nat} {u : Nat → Nat → Int32} {w : Nat → Nat → Int64} : ∃ v1 v2, qs_call (d + 1) 148 [.ref 116] (QM u w) = some (none, QM v1 w) ∧ qs_call (d + 1) 150 [.ref 116] (QM v1 w) = some (none, QM v2 w) ∧ sTh u v2 (sNO, sNO) := by
  obtain ⟨v1, g1, g2, g3⟩ := mb_148 (d := d) (u := u) (w := w)
  refine ⟨v1, _, g1, mq_150, ?_, ?_, ?_, ?_, ?_⟩
  · rw [qu_ne _ _ _ (by decide), qu_ne _ _ _ (by decide), g3 117 (by decide)]
  · intro i hi
    rw [qu_ne _ _ _ (by decide), qu_ne _ _ _ (by decide), g2 i hi]
  · simp [qu]
  · intro f h5 h6
    rw [qu_at, if_neg (by omega), qu_at, if_neg (by omega), g3 116 (by decide)]
  · intro a h1 h2 h3 h4 h5
    rw [qu_ne _ _ _ h1, qu_ne _ _ _ h1, g3 a h3]
/-- a thought ends: all is put back, and it is seen -/
theorem mb_end {d : Nat} {u0 u : Nat → Nat → Int32} {w : Nat → Nat → Int64} {b : Int32 × Int32} {x v : Int32} (h1 : s_hi (u0 117) (u 117)) (h2 : ∀ i, i < 76 → u 120 i = u0 117 i) (h3 : (u 116 5, u 116 6) = b) (h4 : ∀ f, f ≠ 5 → f ≠ 6 → u 116 f = u0 116 f) (h5 : ∀ a, a ≠ 116 → a ≠ 117 → a ≠ 120 → a ≠ 128 → a ≠ 129 → u a = u0 a) : ∃ v1 v2, qs_call (d + 1) 149 [.ref 116] (QM u w) = some (none, QM v1 w) ∧ qs_call (d + 1) 151 [.ref 116, .int x, .int v] (QM v1 w) = some (none, QM v2 w) ∧ sTh u0 v2 (s_see b x v) := by
  obtain ⟨v1, g1, g2, g3⟩ := mb_149 (d := d) (u := u) (w := w) h1 h2
  obtain ⟨v2, k1, k2, k3, k4⟩ := mb_151 (d := d) (u := v1) (w := w) (x := x) (v := v)
  refine ⟨v1, v2, g1, k1, ?_, ?_, ?_, ?_, ?_⟩
  · rw [k4 117 (by decide), g2]
  · intro i hi
    rw [k4 120 (by decide), g3 120 (by decide), h2 i hi]
  · rw [k2, g3 116 (by decide), h3]
  · intro f h5 h6
    rw [k3 f h5 h6, g3 116 (by decide), h4 f h5 h6]
  · intro a c1 c2 c3 c4 c5
    rw [k4 a c1, g3 a c2, h5 a c1 c2 c3 c4 c5]
def s_pick (b : Int32 × Int32) (x : Int32) : Int32 := if x = 0 then b.1 else b.2
theorem upd_tx {R : Nat → Int32} {j c : Nat} {x : Int32} (h : s_tx R) (hj : j < 8) (hc : c < 8) : s_tx (upd R (12 + 8 * j + c) x) := s_tx_upd h (by omega) (by omega)
theorem upd_1 (R : Nat → Int32) (i : Nat) (x : Int32) : upd R (12 + i) x 1 = R 1 := by
  unfold upd
  rw [if_neg (by omega)]
theorem upd_j1 (R : Nat → Int32) (j c : Nat) (x : Int32) : upd R (12 + 8 * j + c) x 1 = R 1 := by
  unfold upd
  rw [if_neg (by omega)]
/-- QUARTER: the nth number and what all leak with it -/
def s_qF (R : Nat → Int32) (M j : Nat) (n : Nat) : Int32 × Int32 := (nI n - 9, s_sum (upd R (12 + 8 * j + 1) (s_cl 0 40 (s_jo R j 1 + (nI n - 9)))) M)
theorem mq_152L {d : Nat} {u0 : Nat → Nat → Int32} {w : Nat → Nat → Int64} {x : Int32} {M j : Nat} (hM : M ≤ 8) (h1 : u0 117 1 = nI M) (hj : j < M) (ht : s_tx (u0 117)) : ∀ (r k : Nat) (o : Option Value) (u : Nat → Nat → Int32), k + r = 19 → sTh u0 u (s_best (s_qF (u0 117) M j) k) → ∃ v', qs_EV (d + 7) 152 31 [some (.ref 116), some (.int (nI j)), some (.int x), some (.int (nI k - 9)), o] [] (QM u w) = some (some (.int (s_pick (s_best (s_qF (u0 117) M j) 19) x)), QM v' w) ∧ fT u0 v'
  | 0, k, o, u, hk, hu => by
    obtain rfl : k = 19 := by omega
    refine ⟨u, ?_, sTh_f hu⟩
    refine (bq_152_31 (d + 7) 116 _ _ _ _ (QM u w)).trans ?_
    rw [if_pos (by decide)]
    have e1 : u 116 5 = (s_best (s_qF (u0 117) M j) 19).1 := congrArg Prod.fst hu.2.2.1
    have e2 : u 116 6 = (s_best (s_qF (u0 117) M j) 19).2 := congrArg Prod.snd hu.2.2.1
    unfold s_pick
    by_cases hx : x = 0
    · simp only [QM_kd, QM_sz, QM_lk, QM_i, QM_wi, zM, zI, qs_bI, qs_bV, qb_0, hx, e1, Bool.true_eq_false, Nat.reduceSub, Nat.reduceLeDiff, Nat.reduceLT, true_and, and_true, and_self, if_true, if_false]
    · simp only [QM_kd, QM_sz, QM_lk, QM_i, QM_wi, zM, zI, qs_bI, qs_bV, qb_0, hx, e2, Bool.true_eq_false, Nat.reduceSub, Nat.reduceLeDiff, Nat.reduceLT, true_and, and_true, and_self, if_true, if_false]
  | r + 1, k, o, u, hk, hu => by
    obtain ⟨c1, c2, c3, c4, c5⟩ := hu
    have hR : qu u 117 (12 + 8 * j + 1) (s_cl 0 40 (s_jo (u 117) j 1 + (nI k - 9))) 117 = upd (u0 117) (12 + 8 * j + 1) (s_cl 0 40 (s_jo (u0 117) j 1 + (nI k - 9))) := by rw [qu_same, c1]
    obtain ⟨v1, a1, a2⟩ := mq_142 (d := d + 1) (u := qu u 117 (12 + 8 * j + 1) (s_cl 0 40 (s_jo (u 117) j 1 + (nI k - 9)))) (w := w) hM (by rw [hR, upd_j1, h1]) (by rw [hR]; exact upd_tx ht (by omega) (by omega))
    rw [hR] at a1
    have b1 : v1 117 = upd (u0 117) (12 + 8 * j + 1) (s_cl 0 40 (s_jo (u0 117) j 1 + (nI k - 9))) := by rw [a2 117 (by decide) (by decide), hR]
    have bo : ∀ a, a ≠ 117 → a ≠ 128 → a ≠ 129 → v1 a = u a := fun a p1 p2 p3 => by rw [a2 a p2 p3, qu_ne _ _ _ p1]
    obtain ⟨v2, v3, e1, e2, e3⟩ := mb_end (d := d + 6) (u0 := u0) (u := v1) (w := w) (b := s_best (s_qF (u0 117) M j) k) (x := nI k - 9) (v := s_sum (upd (u0 117) (12 + 8 * j + 1) (s_cl 0 40 (s_jo (u0 117) j 1 + (nI k - 9)))) M) (by rw [b1]; exact s_hi_upd (s_hi_r _) (by omega)) (fun i hi => by rw [bo 120 (by decide) (by decide) (by decide), c2 i hi]) (by rw [bo 116 (by decide) (by decide) (by decide), c3]) (fun f p5 p6 => by rw [bo 116 (by decide) (by decide) (by decide), c4 f p5 p6]) (fun a p1 p2 p3 p4 p5 => by rw [bo a p2 p4 p5, c5 a p1 p2 p3 p4 p5])
    obtain ⟨v', g1, g2⟩ := mq_152L (d := d) (u0 := u0) (w := w) (x := x) hM h1 hj ht r (k + 1) (some (.int (s_sum (upd (u0 117) (12 + 8 * j + 1) (s_cl 0 40 (s_jo (u0 117) j 1 + (nI k - 9)))) M))) v3 (by omega) e3
    refine ⟨v', ?_, g2⟩
    refine (bq_152_31 (d + 7) 116 _ _ _ _ (QM u w)).trans ?_
    have hle : ¬ (10 : Int32) ≤ nI k - 9 := by
      rcases (by omega : k = 0 ∨ k = 1 ∨ k = 2 ∨ k = 3 ∨ k = 4 ∨ k = 5 ∨ k = 6 ∨ k = 7 ∨ k = 8 ∨ k = 9 ∨ k = 10 ∨ k = 11 ∨ k = 12 ∨ k = 13 ∨ k = 14 ∨ k = 15 ∨ k = 16 ∨ k = 17 ∨ k = 18) with rfl | rfl | rfl | rfl | rfl | rfl | rfl | rfl | rfl | rfl | rfl | rfl | rfl | rfl | rfl | rfl | rfl | rfl | rfl <;> decide
    have es : nI (k + 1) - 9 = nI k - 9 + 1 := by
      rw [nI_succ, Int32.sub_eq_add_neg, Int32.sub_eq_add_neg, Int32.add_assoc, Int32.add_assoc]
      congr 1
    rw [es] at g1
    rw [if_neg hle]
    simp only [QM_kd, QM_sz, QM_lk, QM_i, QM_wi, zM, zI, qs_bI, qs_bV, qb_0, mq_131 (show nI j = nI j from rfl) (show j < 8 by omega), a1, e1, e2, g1, Bool.true_eq_false, Nat.reduceSub, Nat.reduceLeDiff, Nat.reduceLT, true_and, and_true, and_self, if_true, if_false]
def s_quarter (R : Nat → Int32) (M : Nat) (x c : Int32) : Int32 :=
  if s_in x 0 (nI M - 1) = false then sBAD else if s_in c 0 1 = false then sBAD else s_pick (s_best (s_qF R M x.toNatClampNeg) 19) c
theorem fT_r (u : Nat → Nat → Int32) : fT u u := ⟨rfl, fun _ _ _ => rfl, fun _ _ _ _ _ _ => rfl⟩
theorem mq_152 {d : Nat} {u : Nat → Nat → Int32} {w : Nat → Nat → Int64} {x c : Int32} {M : Nat} (hM : M ≤ 8) (h1 : u 117 1 = nI M) (ht : s_tx (u 117)) : ∃ v', qs_call (d + 8) 152 [.ref 116, .int x, .int c] (QM u w) = some (some (.int (s_quarter (u 117) M x c)), QM v' w) ∧ fT u v' := by
  unfold s_quarter
  by_cases g1 : s_in x 0 (nI M - 1) = false
  · refine ⟨u, ?_, fT_r u⟩
    refine (bq_152_0 (d + 7) 116 _ _ (QM u w)).trans ?_
    rw [if_pos g1]
    simp only [QM_kd, QM_sz, QM_lk, QM_i, QM_wi, zM, zI, qs_bI, qs_bV, qb_0, mc_111x h1, g1, Bool.true_eq_false, Nat.reduceSub, Nat.reduceLeDiff, Nat.reduceLT, true_and, and_true, and_self, if_true, if_false]
    rfl
  obtain ⟨j, hj, rfl⟩ := (s_isj_in hM).mp (by simpa using g1)
  have ej : (nI j).toNatClampNeg = j := nI_clamp (by omega)
  rw [ej]
  by_cases g2 : s_in c 0 1 = false
  · refine ⟨u, ?_, fT_r u⟩
    refine (bq_152_0 (d + 7) 116 _ _ (QM u w)).trans ?_
    rw [if_neg g1, if_pos g2]
    simp only [QM_kd, QM_sz, QM_lk, QM_i, QM_wi, zM, zI, qs_bI, qs_bV, qb_0, mc_111x h1, mc_108, g1, g2, Bool.true_eq_false, Nat.reduceSub, Nat.reduceLeDiff, Nat.reduceLT, true_and, and_true, and_self, if_true, if_false]
    rfl
  · obtain ⟨v1, v2, k1, k2, k3⟩ := mb_beg (d := d + 6) (u := u) (w := w)
    obtain ⟨v', k4, k5⟩ := mq_152L (d := d) (u0 := u) (w := w) (x := c) hM h1 hj ht 19 0 none v2 (by omega) k3
    refine ⟨v', ?_, k5⟩
    refine (bq_152_0 (d + 7) 116 _ _ (QM u w)).trans ?_
    rw [if_neg g1, if_neg g2]
    have e0 : nI 0 - 9 = -9 := by decide
    rw [e0] at k4
    simp only [QM_kd, QM_sz, QM_lk, QM_i, QM_wi, zM, zI, qs_bI, qs_bV, qb_0, mc_111x h1, mc_108, g1, g2, k1, k2, k4, Bool.true_eq_false, Nat.reduceSub, Nat.reduceLeDiff, Nat.reduceLT, true_and, and_true, and_self, if_true, if_false]
