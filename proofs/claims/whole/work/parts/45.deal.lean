/-! DEAL, FEE, FINE, WHOSE, in the reference -/
def s_d1 (R : Nat → Int32) (M : Nat) : Nat → Int32 :=
  let z1 := s_z (R 0)
  let z2 := s_z z1
  let z3 := s_z z2
  let z4 := s_z z3
  s_jnew (upd (upd R 0 z4) 1 (nI (M + 1))) M (s_dr z1 - s_dr z1 / 6 * 6) (s_dr z2 - s_dr z2 / 20 * 20) (s_dr z3 - s_dr z3 / 30 * 30) (s_dr z4 - s_dr z4 / 10 * 10)
def s_dl (R : Nat → Int32) (M : Nat) : Nat → Nat → Int32
  | 0 => R
  | n + 1 => s_d1 (s_dl R M n) (M + n)
theorem s_dl_1 {R : Nat → Int32} {M : Nat} (h1 : R 1 = nI M) : ∀ n, s_dl R M n 1 = nI (M + n)
  | 0 => h1
  | n + 1 => by
    show s_d1 (s_dl R M n) (M + n) 1 = _
    unfold s_d1 s_jnew upd
    rw [if_neg (by omega)]
    rfl
theorem upd_upd (R : Nat → Int32) (i : Nat) (x y : Int32) : upd (upd R i x) i y = upd R i y := by
  funext k
  unfold upd
  by_cases h : k = i
  · rw [if_pos h, if_pos h]
  · rw [if_neg h, if_neg h, if_neg h]
theorem mq_136L {d : Nat} {u0 : Nat → Nat → Int32} {w : Nat → Nat → Int64} {M n c : Nat} (hM : M ≤ 8) (h1 : u0 117 1 = nI M) (hn : n < 2 ^ 31) (hc : c = min n (8 - M)) : ∀ (r k : Nat) (o3 o4 o5 o6 : Option Value) (u : Nat → Nat → Int32), k + r = c → u 117 = s_dl (u0 117) M k → (∀ a, a ≠ 117 → u a = u0 a) → ∃ v', qs_EV (d + 2) 136 15 [some (.ref 116), some (.int (nI n)), some (.int (nI k)), o3, o4, o5, o6] [] (QM u w) = some (some (.int (nI c)), QM v' w) ∧ v' 117 = s_dl (u0 117) M c ∧ ∀ a, a ≠ 117 → v' a = u0 a
  | 0, k, o3, o4, o5, o6, u, hk, hu, ho => by
    obtain rfl : k = c := by omega
    refine ⟨u, ?_, hu, ho⟩
    refine (bq_136_15 (d + 2) 116 _ _ _ _ _ _ (QM u w)).trans ?_
    by_cases h : n ≤ k
    · rw [if_pos (nI_le h (by omega))]
    · rw [if_neg (nI_ge (by omega) hn)]
      have h8 : M + k = 8 := by omega
      have e1 : u 117 1 = 8 := by rw [hu, s_dl_1 h1, h8]; rfl
      simp only [QM_kd, QM_sz, QM_lk, QM_i, QM_wi, zM, zI, qs_bI, qs_bV, qb_0, e1, show (8 : Int32) ≤ 8 by decide, Bool.true_eq_false, Nat.reduceSub, Nat.reduceLeDiff, Nat.reduceLT, true_and, and_true, and_self, if_true, if_false]
  | r + 1, k, o3, o4, o5, o6, u, hk, hu, ho => by
    have hMk : M + k < 8 := by omega
    have e1 : u 117 1 = nI (M + k) := by rw [hu, s_dl_1 h1]
    have e8 : ¬ (8 : Int32) ≤ nI (M + k) := nI_ge (b := 8) hMk (by omega)
    have c0 : ∀ v x, qu v 117 0 x 117 0 = x := fun v x => by rw [qu_at, if_pos ⟨rfl, rfl⟩]
    generalize hz1 : s_z (u 117 0) = z1
    generalize hz2 : s_z z1 = z2
    generalize hz3 : s_z z2 = z3
    generalize hz4 : s_z z3 = z4
    obtain ⟨v1, a1, a2, a3⟩ := mq_115 (d := d) (u := qu (qu (qu (qu u 117 0 z1) 117 0 z2) 117 0 z3) 117 0 z4) (w := w) (x1 := s_dr z1 - s_dr z1 / 6 * 6) (x2 := s_dr z2 - s_dr z2 / 20 * 20) (x3 := s_dr z3 - s_dr z3 / 30 * 30) (x4 := s_dr z4 - s_dr z4 / 10 * 10) hMk (by rw [qu_at, if_neg (by omega), qu_at, if_neg (by omega), qu_at, if_neg (by omega), qu_at, if_neg (by omega), e1])
    have a4 : v1 117 = s_dl (u0 117) M (k + 1) := by
      rw [a2, qu_same, qu_same, qu_same, qu_same, upd_upd, upd_upd, upd_upd, hu]
      show _ = s_d1 (s_dl (u0 117) M k) (M + k)
      unfold s_d1
      rw [← hu, hz1]
      dsimp only
      rw [hz2, hz3, hz4]
    obtain ⟨v', g1, g2, g3⟩ := mq_136L (d := d) (u0 := u0) (w := w) hM h1 hn hc r (k + 1) (some (.int (s_dr z1 - s_dr z1 / 6 * 6))) (some (.int (s_dr z2 - s_dr z2 / 20 * 20))) (some (.int (s_dr z3 - s_dr z3 / 30 * 30))) (some (.int (nI (M + k)))) v1 (by omega) a4 (fun a ha => by rw [a3 a ha, qu_ne _ _ _ ha, qu_ne _ _ _ ha, qu_ne _ _ _ ha, qu_ne _ _ _ ha, ho a ha])
    refine ⟨v', ?_, g2, g3⟩
    refine (bq_136_15 (d + 2) 116 _ _ _ _ _ _ (QM u w)).trans ?_
    rw [if_neg (nI_ge (by omega) hn)]
    rw [nI_succ] at g1
    simp only [QM_kd, QM_sz, QM_lk, QM_i, QM_wi, zM, zI, qs_bI, qs_bV, qb_0, e1, e8, mq_130, hz1, hz2, hz3, hz4, c0, a1, g1, Bool.true_eq_false, Nat.reduceSub, Nat.reduceLeDiff, Nat.reduceLT, true_and, and_true, and_self, if_true, if_false]
def s_deal (R : Nat → Int32) (M : Nat) (n : Int32) : Int32 × (Nat → Int32) :=
  if s_in n 1 8 = false then (sBAD, R) else (nI (min n.toNatClampNeg (8 - M)), s_dl R M (min n.toNatClampNeg (8 - M)))
theorem s_in_m {x a b : Int32} {n : Nat} (h : s_in x a b = true) (ha : 0 ≤ a) (hb : b = nI n) (hn : n < 2 ^ 31) : ∃ k, k ≤ n ∧ x = nI k := s_in_n h ha hb hn
theorem mq_136 {d : Nat} {u : Nat → Nat → Int32} {w : Nat → Nat → Int64} {n : Int32} {M : Nat} (hM : M ≤ 8) (h1 : u 117 1 = nI M) : ∃ v', qs_call (d + 3) 136 [.ref 116, .int n] (QM u w) = some (some (.int (s_deal (u 117) M n).1), QM v' w) ∧ v' 117 = (s_deal (u 117) M n).2 ∧ ∀ a, a ≠ 117 → v' a = u a := by
  unfold s_deal
  by_cases g1 : s_in n 1 8 = false
  · refine ⟨u, ?_, by rw [if_pos g1], fun _ _ => rfl⟩
    refine (bq_136_0 (d + 2) 116 _ (QM u w)).trans ?_
    rw [if_pos g1]
    simp only [QM_kd, QM_sz, QM_lk, QM_i, QM_wi, zM, zI, qs_bI, qs_bV, qb_0, mc_108, g1, Bool.true_eq_false, Nat.reduceSub, Nat.reduceLeDiff, Nat.reduceLT, true_and, and_true, and_self, if_true, if_false]
    rfl
  obtain ⟨n', hn, rfl⟩ := s_in_n (x := n) (a := 1) (b := 8) (n := 8) (by simpa using g1) (by decide) rfl (by omega)
  have en : (nI n').toNatClampNeg = n' := nI_clamp (by omega)
  rw [en, if_neg g1]
  obtain ⟨v', k1, k2, k3⟩ := mq_136L (d := d) (u0 := u) (w := w) (n := n') hM h1 (by omega) rfl (min n' (8 - M)) 0 none none none none u (by omega) rfl (fun _ _ => rfl)
  refine ⟨v', ?_, k2, k3⟩
  refine (bq_136_0 (d + 2) 116 _ (QM u w)).trans ?_
  rw [nI_0] at k1
  simp only [QM_kd, QM_sz, QM_lk, QM_i, QM_wi, zM, zI, qs_bI, qs_bV, qb_0, mc_108, g1, k1, Bool.true_eq_false, Nat.reduceSub, Nat.reduceLeDiff, Nat.reduceLT, true_and, and_true, and_self, if_true, if_false]
/-- texts of FEE and FINE have two names -/
def s_t2 (R : Nat → Int32) : Prop := ∀ T, R 11 = nI T → T ≤ 14 → ∀ t, t < T → R (76 + 2 * t) / 1000 ≠ 0 → ∀ N, s_N R t = nI N → N ≤ 96 → s_wf (s_C R t) N 2
theorem s_give_c {R : Nat → Int32} {key a b c : Int32} (h : s_tx R) (h2 : s_t2 R) (hk : key ≠ 0) (ht : 0 ≤ s_t R key) : s_give R (s_t R key) a b c = s_give R (s_t R key) a b 0 := by
  obtain ⟨T, e1, e2, e3⟩ := h
  have e4 : (R 11).toNatClampNeg = T := by rw [e1]; exact nI_clamp (by omega)
  unfold s_t at ht ⊢
  rw [e4] at ht ⊢
  rcases s_ct_of R key T with h5 | ⟨t, h5, h6, h7⟩
  · rw [h5] at ht
    exact absurd ht (by decide)
  · obtain ⟨N, g1, g2, g3, g4⟩ := e3 t h5
    have f1 : (nI t).toNatClampNeg = t := nI_clamp (by omega)
    have f2 : (nI N).toNatClampNeg = N := nI_clamp (by omega)
    rw [h6]
    unfold s_give
    rw [f1, g2, f2]
    exact congrFun (s_st_F (h2 T e1 e2 t h5 (by rw [h7]; exact hk) N g2 g1) (fun f hf => by
      rcases (by omega : f = 0 ∨ f = 1) with rfl | rfl <;> rfl) (by omega) N (Nat.le_refl _)) 0
def s_fee (R : Nat → Int32) : Int32 := if 0 ≤ s_t R 1 then s_give R (s_t R 1) (R 6) (R 8) 0 else R 6
theorem mq_163 {d : Nat} {u : Nat → Nat → Int32} {w : Nat → Nat → Int64} (ht : s_tx (u 117)) (h2 : s_t2 (u 117)) : ∃ v', qs_call (d + 3) 163 [.ref 116] (QM u w) = some (some (.int (s_fee (u 117))), QM v' w) ∧ ∀ a, a ≠ 128 → a ≠ 129 → v' a = u a := by
  unfold s_fee
  by_cases g : 0 ≤ s_t (u 117) 1
  · obtain ⟨v', k1, k2⟩ := mc_183 (d := d) (key := 1) (u := u) (v := qu (qu u 129 0 (u 117 6)) 129 1 (u 117 8)) (w := w) ht (by rw [qu_ne _ _ _ (by decide), qu_ne _ _ _ (by decide)]) g
    have e0 : qu (qu u 129 0 (u 117 6)) 129 1 (u 117 8) 129 0 = u 117 6 := by simp [qu]
    have e1 : qu (qu u 129 0 (u 117 6)) 129 1 (u 117 8) 129 1 = u 117 8 := by simp [qu]
    rw [s_give_c ht h2 (by decide) g, e0, e1] at k1
    refine ⟨v', ?_, fun a p1 p2 => by rw [k2 a p1, qu_ne _ _ _ p2, qu_ne _ _ _ p2]⟩
    refine (bq_163_0 (d + 2) 116 (QM u w)).trans ?_
    rw [if_pos g]
    have e3 : ∀ x, qu u 129 0 x 117 8 = u 117 8 := fun x => by rw [qu_at, if_neg (by omega)]
    simp only [QM_kd, QM_sz, QM_lk, QM_i, QM_wi, zM, zI, qs_bI, qs_bV, qb_0, mc_180 ht, e3, g, k1, Bool.true_eq_false, Nat.reduceSub, Nat.reduceLeDiff, Nat.reduceLT, true_and, and_true, and_self, if_true, if_false]
  · refine ⟨qu (qu u 129 0 (u 117 6)) 129 1 (u 117 8), ?_, fun a p1 p2 => by rw [qu_ne _ _ _ p2, qu_ne _ _ _ p2]⟩
    refine (bq_163_0 (d + 2) 116 (QM u w)).trans ?_
    rw [if_neg g]
    have e3 : ∀ x, qu u 129 0 x 117 8 = u 117 8 := fun x => by rw [qu_at, if_neg (by omega)]
    have e4 : ∀ x y, qu (qu u 129 0 x) 129 1 y 117 6 = u 117 6 := fun x y => by rw [qu_at, if_neg (by omega), qu_at, if_neg (by omega)]
    simp only [QM_kd, QM_sz, QM_lk, QM_i, QM_wi, zM, zI, qs_bI, qs_bV, qb_0, mc_180 ht, e3, e4, g, Bool.true_eq_false, Nat.reduceSub, Nat.reduceLeDiff, Nat.reduceLT, true_and, and_true, and_self, if_true, if_false]
def s_fine (R : Nat → Int32) (M : Nat) (x : Int32) : Int32 := if s_in x 0 (nI M - 1) = false then sBAD else if 0 ≤ s_t R 2 then s_give R (s_t R 2) (s_jo R x.toNatClampNeg 1) (s_jo R x.toNatClampNeg 7) 0 else s_jo R x.toNatClampNeg 1
theorem mq_164 {d : Nat} {u : Nat → Nat → Int32} {w : Nat → Nat → Int64} {x : Int32} {M : Nat} (hM : M ≤ 8) (h1 : u 117 1 = nI M) (ht : s_tx (u 117)) (h2 : s_t2 (u 117)) : ∃ v', qs_call (d + 3) 164 [.ref 116, .int x] (QM u w) = some (some (.int (s_fine (u 117) M x)), QM v' w) ∧ ∀ a, a ≠ 128 → a ≠ 129 → v' a = u a := by
  unfold s_fine
  by_cases g1 : s_in x 0 (nI M - 1) = false
  · refine ⟨u, ?_, fun _ _ _ => rfl⟩
    refine (bq_164_0 (d + 2) 116 _ (QM u w)).trans ?_
    rw [if_pos g1]
    simp only [QM_kd, QM_sz, QM_lk, QM_i, QM_wi, zM, zI, qs_bI, qs_bV, qb_0, mc_111x h1, g1, Bool.true_eq_false, Nat.reduceSub, Nat.reduceLeDiff, Nat.reduceLT, true_and, and_true, and_self, if_true, if_false]
    rfl
  obtain ⟨j, hj, rfl⟩ := (s_isj_in hM).mp (by simpa using g1)
  have ej : (nI j).toNatClampNeg = j := nI_clamp (by omega)
  have hj8 : j < 8 := by omega
  rw [ej, if_neg g1]
  have e5 : ∀ x, s_jo (qu u 129 0 x 117) j 7 = s_jo (u 117) j 7 := fun x => by rw [qu_ne _ _ _ (by decide)]
  by_cases g : 0 ≤ s_t (u 117) 2
  · obtain ⟨v', k1, k2⟩ := mc_183 (d := d) (key := 2) (u := u) (v := qu (qu u 129 0 (s_jo (u 117) j 1)) 129 1 (s_jo (u 117) j 7)) (w := w) ht (by rw [qu_ne _ _ _ (by decide), qu_ne _ _ _ (by decide)]) g
    have e0 : qu (qu u 129 0 (s_jo (u 117) j 1)) 129 1 (s_jo (u 117) j 7) 129 0 = s_jo (u 117) j 1 := by simp [qu]
    have e1 : qu (qu u 129 0 (s_jo (u 117) j 1)) 129 1 (s_jo (u 117) j 7) 129 1 = s_jo (u 117) j 7 := by simp [qu]
    rw [s_give_c ht h2 (by decide) g, e0, e1] at k1
    refine ⟨v', ?_, fun a p1 p2 => by rw [k2 a p1, qu_ne _ _ _ p2, qu_ne _ _ _ p2]⟩
    refine (bq_164_0 (d + 2) 116 _ (QM u w)).trans ?_
    rw [if_pos g]
    simp only [QM_kd, QM_sz, QM_lk, QM_i, QM_wi, zM, zI, qs_bI, qs_bV, qb_0, mc_111x h1, g1, mc_180 ht, mc_112 1 (show nI j = nI j from rfl) hj8 n_1 (by decide), mc_112 7 (show nI j = nI j from rfl) hj8 n_7 (by decide), e5, g, k1, Bool.true_eq_false, Nat.reduceSub, Nat.reduceLeDiff, Nat.reduceLT, true_and, and_true, and_self, if_true, if_false]
  · refine ⟨qu (qu u 129 0 (s_jo (u 117) j 1)) 129 1 (s_jo (u 117) j 7), ?_, fun a p1 p2 => by rw [qu_ne _ _ _ p2, qu_ne _ _ _ p2]⟩
    refine (bq_164_0 (d + 2) 116 _ (QM u w)).trans ?_
    rw [if_neg g]
    have e6 : ∀ x y, s_jo (qu (qu u 129 0 x) 129 1 y 117) j 1 = s_jo (u 117) j 1 := fun x y => by rw [qu_ne _ _ _ (by decide), qu_ne _ _ _ (by decide)]
    simp only [QM_kd, QM_sz, QM_lk, QM_i, QM_wi, zM, zI, qs_bI, qs_bV, qb_0, mc_111x h1, g1, mc_180 ht, mc_112 1 (show nI j = nI j from rfl) hj8 n_1 (by decide), mc_112 7 (show nI j = nI j from rfl) hj8 n_7 (by decide), e5, e6, g, Bool.true_eq_false, Nat.reduceSub, Nat.reduceLeDiff, Nat.reduceLT, true_and, and_true, and_self, if_true, if_false]
