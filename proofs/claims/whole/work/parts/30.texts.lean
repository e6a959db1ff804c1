/-! TEXTS IN THE REFERENCE'S ROW: which counts, what one gives -/
def s_ct (R : Nat → Int32) (key : Int32) : Nat → Int32
  | 0 => -1
  | n + 1 => if R (76 + 2 * n) / 1000 = key then nI n else s_ct R key n
theorem ix_hd {t : Nat} (ht : t < 14) : (76 + 2 * nI t).toNatClampNeg = 76 + 2 * t ∧ 0 ≤ 76 + 2 * nI t := by
  have e : 76 + 2 * nI t = nI (76 + 2 * t) := by
    rw [← nI_add, ← nI_times]
    rfl
  rw [e]
  exact ⟨nI_clamp (by omega), nI_pos' (by omega)⟩
theorem ix_cd {t k : Nat} (ht : t < 14) (hk : k < 96) : (104 + 96 * nI t + nI k).toNatClampNeg = 104 + 96 * t + k ∧ 0 ≤ 104 + 96 * nI t + nI k := by
  have e : 104 + 96 * nI t + nI k = nI (104 + 96 * t + k) := by
    rw [← nI_add, ← nI_add, ← nI_times]
    rfl
  rw [e]
  exact ⟨nI_clamp (by omega), nI_pos' (by omega)⟩
theorem nI_m1 (x : Int32) : x + (-1) = x - 1 := (Int32.sub_eq_add_neg x 1).symm
theorem mq_180L {d : Nat} {key : Int32} {u : Nat → Nat → Int32} {w : Nat → Nat → Int64} : ∀ (n : Nat), n ≤ 14 → qs_EV d 180 10 [some (.ref 116), some (.int key), some (.int (nI n - 1))] [] (QM u w) = some (some (.int (s_ct (u 117) key n)), QM u w)
  | 0, _ => by
    rw [bq_180_10, if_pos (by decide)]
    rfl
  | n + 1, h => by
    have ih := mq_180L (d := d) (key := key) (u := u) (w := w) n (by omega)
    rw [nI_pred, bq_180_10, if_neg (nI_pos (by omega))]
    have h1 := ix_hd (t := n) (by omega)
    have h2 : 76 + 2 * n < 1448 := by omega
    simp only [QM_kd, QM_sz, QM_lk, QM_i, zM, h1, h2, nI_m1, ih, s_ct]
    by_cases h3 : u 117 (76 + 2 * n) / 1000 = key
    · simp [h3, zM, h2]
    · simp [h3, zM, h2]
theorem mq_180 {d : Nat} {key : Int32} {u : Nat → Nat → Int32} {w : Nat → Nat → Int64} {T : Nat} (hT : u 117 11 = nI T) (h : T ≤ 14) : qs_call (d + 1) 180 [.ref 116, .int key] (QM u w) = some (some (.int (s_ct (u 117) key T)), QM u w) := by
  refine (bq_180_0 d 116 key (QM u w)).trans ?_
  have ih := mq_180L (d := d) (key := key) (u := u) (w := w) T h
  have h0 : (11 : Int32).toNatClampNeg = 11 := rfl
  simp [QM_kd, QM_sz, QM_lk, QM_i, zM, hT, ih]
def s_two (s a b : Int32) : Int32 := if s = -8 then a * b else if s = -7 then a - b else if s = -6 then a + b else if s = -5 then (if a ≤ b then 0 else 1) else if s = -4 then (if a = b then 1 else 0) else if s = -3 then (if b ≤ a then 0 else 1) else if s = -2 then (if a = 0 then 0 else if b = 0 then 0 else 1) else if s = -1 then (if a = 0 then if b = 0 then 0 else 1 else 1) else if b = 0 then 0 else a / b
theorem mq_182 {d : Nat} {x0 x1 x2 : Int32} {m : qs_M} : qs_call (d + 1) 182 [.int x0, .int x1, .int x2] m = some (some (.int (s_two x0 x1 x2)), m) := by
  refine (bq_182_0 d x0 x1 x2 m).trans ?_
  unfold s_two
  by_cases h : x0 = -8
  · rw [if_pos h, if_pos h]
  rw [if_neg h, if_neg h]
  clear h
  by_cases h : x0 = -7
  · rw [if_pos h, if_pos h]
  rw [if_neg h, if_neg h]
  clear h
  by_cases h : x0 = -6
  · rw [if_pos h, if_pos h]
  rw [if_neg h, if_neg h]
  clear h
  by_cases h : x0 = -5
  · rw [if_pos h, if_pos h]
    by_cases g : x1 ≤ x2
    · rw [if_pos g, if_pos g]
    · rw [if_neg g, if_neg g]
  rw [if_neg h, if_neg h]
  clear h
  by_cases h : x0 = -4
  · rw [if_pos h, if_pos h]
    by_cases g : x1 = x2
    · rw [if_pos g, if_pos g]
    · rw [if_neg g, if_neg g]
  rw [if_neg h, if_neg h]
  clear h
  by_cases h : x0 = -3
  · rw [if_pos h, if_pos h]
    by_cases g : x2 ≤ x1
    · rw [if_pos g, if_pos g]
    · rw [if_neg g, if_neg g]
  rw [if_neg h, if_neg h]
  clear h
  by_cases h : x0 = -2
  · rw [if_pos h, if_pos h]
    by_cases g : x1 = 0
    · rw [if_pos g, if_pos g]
    · rw [if_neg g, if_neg g]
      by_cases g2 : x2 = 0
      · rw [if_pos g2, if_pos g2]
      · rw [if_neg g2, if_neg g2]
  rw [if_neg h, if_neg h]
  clear h
  by_cases h : x0 = -1
  · rw [if_pos h, if_pos h]
    by_cases g : x1 = 0
    · rw [if_pos g, if_pos g]
      by_cases g2 : x2 = 0
      · rw [if_pos g2, if_pos g2]
      · rw [if_neg g2, if_neg g2]
    · rw [if_neg g, if_neg g]
  rw [if_neg h, if_neg h]
  clear h
  by_cases g : x2 = 0
  · rw [if_pos g, if_pos g]
  · rw [if_neg g, if_neg g, if_neg g]
def s_dp (C : Nat → Int32) : Nat → Nat
  | 0 => 0
  | n + 1 => if 0 ≤ C n then s_dp C n + 1 else if C n = -10 then s_dp C n else s_dp C n - 1
theorem s_dp_le (C : Nat → Int32) : ∀ n, s_dp C n ≤ n
  | 0 => Nat.le_refl _
  | n + 1 => by
    have := s_dp_le C n
    unfold s_dp
    (repeat' split) <;> omega
def s_st (F C A : Nat → Int32) : Nat → Nat → Int32
  | 0 => A
  | n + 1 => if 0 ≤ C n then upd (s_st F C A n) (s_dp C n) (if 10000 ≤ C n then F (C n - 10000).toNatClampNeg else C n) else if C n = -10 then upd (s_st F C A n) (s_dp C n - 1) (if s_st F C A n (s_dp C n - 1) = 0 then 1 else 0) else upd (s_st F C A n) (s_dp C n - 2) (s_two (C n) (s_st F C A n (s_dp C n - 2)) (s_st F C A n (s_dp C n - 1)))
/-- the codes of a text: each finds what it works on -/
def s_wf (C : Nat → Int32) (N q : Nat) : Prop := ∀ k, k < N → (0 ≤ C k ∧ (¬ 10000 ≤ C k ∨ ∃ f, f < q ∧ C k = nI (10000 + f))) ∨ (C k = -10 ∧ 1 ≤ s_dp C k) ∨ (¬ 0 ≤ C k ∧ C k ≠ -10 ∧ 2 ≤ s_dp C k)
theorem nI_sub1 {n : Nat} (h : 1 ≤ n) : nI n - 1 = nI (n - 1) := by
  obtain ⟨k, rfl⟩ : ∃ k, n = k + 1 := ⟨n - 1, by omega⟩
  exact nI_pred k
theorem mq_183L {d : Nat} {u : Nat → Nat → Int32} {w : Nat → Nat → Int64} {t N : Nat} (ht : t < 14) (hN : N ≤ 96) {C A : Nat → Int32} (hC : ∀ k, k < N → u 117 (104 + 96 * t + k) = C k) (hw : s_wf C N 3) : ∀ (r k : Nat) (o : Option Value) (v : Nat → Nat → Int32), k + r = N → v 128 = s_st (u 129) C A k → (∀ a, a ≠ 128 → v a = u a) → ∃ v', qs_EV (d + 1) 183 21 [some (.ref 116), some (.int (nI t)), some (.int (nI (s_dp C k))), some (.int (nI N)), some (.int (nI k)), o] [] (QM v w) = some (some (.int (s_st (u 129) C A N 0)), QM v' w) ∧ ∀ a, a ≠ 128 → v' a = u a
  | 0, k, o, v, hk, h1, h2 => by
    obtain rfl : k = N := by omega
    refine ⟨v, ?_, h2⟩
    rw [bq_183_21, if_pos (nI_le (Nat.le_refl _) (by omega))]
    have h0 : (0 : Int32).toNatClampNeg = 0 := rfl
    simp [QM_kd, QM_sz, QM_lk, QM_i, zM, h1]
  | r + 1, k, o, v, hk, h1, h2 => by
    have ih := mq_183L (d := d) (u := u) (w := w) (A := A) ht hN hC hw r (k + 1)
    have e1 := ix_cd (t := t) (k := k) ht (by omega)
    have e2 : v 117 (104 + 96 * t + k) = C k := by rw [h2 117 (by decide), hC k (by omega)]
    have e3 : 104 + 96 * t + k < 1448 := by omega
    have e4 := s_dp_le C k
    have e5 : (nI (s_dp C k)).toNatClampNeg = s_dp C k := nI_clamp (by omega)
    have e6 : 0 ≤ nI (s_dp C k) := nI_pos' (by omega)
    rw [bq_183_21, if_neg (nI_ge (by omega) (by omega))]
    simp only [QM_kd, QM_sz, QM_lk, QM_i, zM, e1, e2, e3]
    rcases hw k (by omega) with ⟨g1, g2⟩ | ⟨g1, g2⟩ | ⟨g1, g2, g3⟩
    · have n1 : ¬ C k < 0 := Int32.not_lt.mpr g1
      rcases g2 with g2 | ⟨f, g2, g3⟩
      · obtain ⟨v', h3, h4⟩ := ih (some (.int (C k))) (qu v 128 (s_dp C k) (C k)) (by omega) (by rw [qu_same, h1, s_st, if_pos g1, if_neg g2]) (fun a ha => by rw [qu_ne _ _ _ ha, h2 a ha])
        refine ⟨v', ?_, h4⟩
        rw [s_dp, if_pos g1, nI_succ, nI_succ] at h3
        rw [← h3]
        have e7 : s_dp C k < 96 := by omega
        simp [n1, g2, QM_wi, e5, e6, e7, zM, e3]
      · have g4 : (C k - 10000).toNatClampNeg = f ∧ 0 ≤ C k - 10000 := by
          have : C k - 10000 = nI f := by
            rw [g3, ← nI_add]
            show (nI 10000 + nI f) - nI 10000 = nI f
            rw [Int32.add_comm, Int32.add_sub_cancel]
          rw [this]
          exact ⟨nI_clamp (by omega), nI_pos' (by omega)⟩
        have g5 : 10000 ≤ C k := by
          rw [g3]
          exact nI_le (a := 10000) (by omega) (by omega)
        obtain ⟨v', h3, h4⟩ := ih (some (.int (C k))) (qu v 128 (s_dp C k) (v 129 f)) (by omega) (by rw [qu_same, h1, s_st, if_pos g1, if_pos g5, g4.1, h2 129 (by decide)]) (fun a ha => by rw [qu_ne _ _ _ ha, h2 a ha])
        refine ⟨v', ?_, h4⟩
        rw [s_dp, if_pos g1, nI_succ, nI_succ] at h3
        rw [← h3]
        have e7 : s_dp C k < 96 := by omega
        have e8 : f < 4 := by omega
        simp [n1, g5, QM_wi, QM_kd, QM_sz, e5, e6, e7, e8, g4, zM, e3]
    · have n1 : C k < 0 := by rw [g1]; decide
      have n2 : ¬ 0 ≤ C k := by rw [g1]; decide
      obtain ⟨v', h3, h4⟩ := ih (some (.int (C k))) (qu v 128 (s_dp C k - 1) (if v 128 (s_dp C k - 1) = 0 then 1 else 0)) (by omega) (by rw [qu_same, h1, s_st, if_neg n2, if_pos g1]) (fun a ha => by rw [qu_ne _ _ _ ha, h2 a ha])
      refine ⟨v', ?_, h4⟩
      rw [s_dp, if_neg n2, if_pos g1, nI_succ] at h3
      rw [← h3]
      have e7 : (nI (s_dp C k) - 1).toNatClampNeg = s_dp C k - 1 ∧ 0 ≤ nI (s_dp C k) - 1 := by
        rw [nI_sub1 g2]
        exact ⟨nI_clamp (by omega), nI_pos' (by omega)⟩
      have e8 : s_dp C k - 1 < 96 := by omega
      by_cases g6 : v 128 (s_dp C k - 1) = 0
      · simp [n1, g1, QM_wi, QM_i, e7, e8, g6, zM, e3]
      · simp [n1, g1, QM_wi, QM_i, e7, e8, g6, zM, e3]
    · have n1 : C k < 0 := Int32.not_le.mp g1
      obtain ⟨v', h3, h4⟩ := ih (some (.int (C k))) (qu v 128 (s_dp C k - 2) (s_two (C k) (v 128 (s_dp C k - 2)) (v 128 (s_dp C k - 1)))) (by omega) (by rw [qu_same, h1, s_st, if_neg g1, if_neg g2]) (fun a ha => by rw [qu_ne _ _ _ ha, h2 a ha])
      refine ⟨v', ?_, h4⟩
      rw [s_dp, if_neg g1, if_neg g2, nI_succ] at h3
      rw [← h3]
      have e7 : (nI (s_dp C k) + (-1)) = nI (s_dp C k - 1) := by rw [nI_m1, nI_sub1 (by omega)]
      have e9 : nI (s_dp C k - 1) - 1 = nI (s_dp C k - 2) := by rw [nI_sub1 (by omega)]; rfl
      have f1 : (nI (s_dp C k - 1)).toNatClampNeg = s_dp C k - 1 := nI_clamp (by omega)
      have f2 : 0 ≤ nI (s_dp C k - 1) := nI_pos' (by omega)
      have f3 : (nI (s_dp C k - 2)).toNatClampNeg = s_dp C k - 2 := nI_clamp (by omega)
      have f4 : 0 ≤ nI (s_dp C k - 2) := nI_pos' (by omega)
      have e8 : s_dp C k - 1 < 96 := by omega
      have e10 : s_dp C k - 2 < 96 := by omega
      simp [n1, g2, QM_wi, QM_i, QM_kd, QM_sz, e7, e9, e8, e10, f1, f2, f3, f4, mq_182, qs_bI, zM, e3]
/-- what text t of the row gives where its names are F -/
def s_N (R : Nat → Int32) (t : Nat) : Int32 := R (76 + 2 * t) - R (76 + 2 * t) / 1000 * 1000
def s_C (R : Nat → Int32) (t : Nat) : Nat → Int32 := fun k => R (104 + 96 * t + k)
theorem mq_183 {d : Nat} {x1 : Int32} {u : Nat → Nat → Int32} {w : Nat → Nat → Int64} {t N : Nat} (e : x1 = nI t) (ht : t < 14) (hN : N ≤ 96) (hn : s_N (u 117) t = nI N) (hw : s_wf (s_C (u 117) t) N 3) : ∃ v', qs_call (d + 2) 183 [.ref 116, .int x1] (QM u w) = some (some (.int (s_st (u 129) (s_C (u 117) t) (u 128) N 0)), QM v' w) ∧ ∀ a, a ≠ 128 → v' a = u a := by
  subst e
  obtain ⟨v', h1, h2⟩ := mq_183L (d := d) (u := u) (w := w) (C := s_C (u 117) t) (A := u 128) ht hN (fun k _ => rfl) hw N 0 none u (by omega) rfl (fun _ _ => rfl)
  refine ⟨v', ?_, h2⟩
  refine (bq_183_0 (d + 1) 116 _ (QM u w)).trans ?_
  have e1 := ix_hd ht
  have e2 : 76 + 2 * t < 1448 := by omega
  rw [← h1]
  simp only [QM_kd, QM_sz, QM_lk, QM_i, zM, e1]
  unfold s_N at hn
  simp [e2, hn, zM, s_dp, nI_0]
