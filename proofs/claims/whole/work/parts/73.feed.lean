/-! FEED, call by call -/
def s_by (x : Int32) (s : Nat) : Int32 := (x >>> (nI s &&& 31)) &&& 255
theorem s_by_n (x : Int32) (s : Nat) : ∃ b, b ≤ 255 ∧ s_by x s = nI b := by
  unfold s_by
  generalize x >>> (nI s &&& 31) = y
  have e : (y &&& 255).toInt = ((y.toBitVec.toNat &&& 255 : Nat) : Int) := by
    show (y.toBitVec &&& (255 : Int32).toBitVec).toInt = _
    have h255 : (255 : Int32).toBitVec = BitVec.ofNat 32 255 := rfl
    rw [h255, BitVec.toInt_eq_toNat_of_lt, BitVec.toNat_and]
    · rfl
    · rw [BitVec.toNat_and]
      have : y.toBitVec.toNat &&& (BitVec.ofNat 32 255).toNat ≤ 255 := Nat.and_le_right
      omega
  have hle : y.toBitVec.toNat &&& 255 ≤ 255 := Nat.and_le_right
  refine ⟨y.toBitVec.toNat &&& 255, hle, ?_⟩
  apply Int32.toInt_inj.mp
  rw [e, nI_toInt (by omega)]
theorem s_by_eq (x : Int32) {s : Nat} (hs : s = 24 ∨ s = 16 ∨ s = 8 ∨ s = 0) : (x.toUInt32 >>> ((nI s : Int32).toUInt32 &&& Int32.toUInt32 31)).toInt32 &&& 255 = s_by x s := by
  unfold s_by
  have key : ∀ (b : BitVec 32) (k : Nat), k ≤ 24 → (b >>> k) &&& 255#32 = (b.sshiftRight k) &&& 255#32 := by
    intro b k hk
    apply BitVec.eq_of_getLsbD_eq
    intro i hi
    rw [BitVec.getLsbD_and, BitVec.getLsbD_and, BitVec.getLsbD_ushiftRight, BitVec.getLsbD_sshiftRight]
    by_cases h8 : i < 8
    · have h1 : k + i < 32 := by omega
      have h9 : ¬ 32 ≤ i := by omega
      simp [hi, h1, h9]
    · have : (255#32).getLsbD i = false := by
        rw [BitVec.getLsbD_ofNat]
        have : Nat.testBit 255 i = false := by
          have h2 : (255 : Nat) = 2 ^ 8 - 1 := rfl
          rw [h2, Nat.testBit_two_pow_sub_one]
          simp [h8]
        rw [this]
        simp
      rw [this]
      simp
  apply Int32.toBitVec_inj.mp
  rcases hs with rfl | rfl | rfl | rfl
  · exact key x.toBitVec 24 (by omega)
  · exact key x.toBitVec 16 (by omega)
  · exact key x.toBitVec 8 (by omega)
  · exact key x.toBitVec 0 (by omega)
theorem c_30s {d n : Nat} {u : Nat → Nat → Int32} {w : Nat → Nat → Int64} {x s t : Int32} {k : Nat} (hn : u 48 2 = nI n) (h96 : n < 96) (hs : s = nI k) (hk : k = 24 ∨ k = 16 ∨ k = 8 ∨ k = 0) (ht : s + (-8) = t) : qs_EV d 30 3 [some (.ref 48), some (.int x), some (.int s)] [] (QM u w) = qs_EV d 30 3 [some (.ref 48), some (.int x), some (.int t)] [] (QM (qu (qu u 49 n (s_by x k)) 48 2 (nI (n + 1))) w) := by
  refine (bq_30_3 d 48 _ _ (QM u w)).trans ?_
  subst hs
  have e1 : ¬ nI k < 0 := nI_pos (by omega)
  have e2 : ¬ (96 : Int32) ≤ nI n := nI_ge (b := 96) h96 (by omega)
  have e3 : (nI n).toNatClampNeg = n ∧ 0 ≤ nI n := ⟨nI_clamp (by omega), nI_pos' (by omega)⟩
  have e4 : ∀ y, qu u 49 n y 48 2 = nI n := fun y => by rw [qu_ne _ _ _ (by omega), hn]
  rw [nI_succ]
  simp only [QM_kd, QM_sz, QM_lk, QM_i, QM_wi, zI, qs_bI, qs_bV, qb_0, zQ, hn, e1, e2, e3, h96, e4, s_by_eq x hk, ht, Bool.true_eq_false, Nat.reduceSub, Nat.reduceLeDiff, Nat.reduceLT, true_and, and_true, and_self, if_true, if_false]
theorem c_30 {d n : Nat} {u : Nat → Nat → Int32} {w : Nat → Nat → Int64} {x : Int32} (hn : u 48 2 = nI n) (h96 : n + 4 ≤ 96) : ∃ v', qs_call (d + 1) 30 [.ref 48, .int x] (QM u w) = some (none, QM v' w) ∧ v' 48 2 = nI (n + 4) ∧ (∀ q, q < 4 → v' 49 (n + q) = s_by x (24 - 8 * q)) ∧ (∀ k, ¬ (n ≤ k ∧ k < n + 4) → v' 49 k = u 49 k) ∧ ∀ a, a ≠ 48 → a ≠ 49 → v' a = u a := by
  have a1 := c_30s (d := d) (u := u) (w := w) (x := x) (s := 24) (t := 16) (k := 24) hn (by omega) rfl (by omega) rfl
  have a2 := c_30s (d := d) (n := n + 1) (u := qu (qu u 49 n (s_by x 24)) 48 2 (nI (n + 1))) (w := w) (x := x) (s := 16) (t := 8) (k := 16) (by simp [qu]) (by omega) rfl (by omega) rfl
  have a3 := c_30s (d := d) (n := n + 2) (u := qu (qu (qu (qu u 49 n (s_by x 24)) 48 2 (nI (n + 1))) 49 (n + 1) (s_by x 16)) 48 2 (nI (n + 2))) (w := w) (x := x) (s := 8) (t := 0) (k := 8) (by simp [qu]) (by omega) rfl (by omega) rfl
  have a4 := c_30s (d := d) (n := n + 3) (u := qu (qu (qu (qu (qu (qu u 49 n (s_by x 24)) 48 2 (nI (n + 1))) 49 (n + 1) (s_by x 16)) 48 2 (nI (n + 2))) 49 (n + 2) (s_by x 8)) 48 2 (nI (n + 3))) (w := w) (x := x) (s := 0) (t := -8) (k := 0) (by simp [qu]) (by omega) rfl (by omega) rfl
  refine ⟨_, (bq_30_0 d 48 x (QM u w)).trans (a1.trans (a2.trans (a3.trans (a4.trans ((bq_30_3 d 48 _ _ _).trans (if_pos (by decide))))))), ?_, fun q hq => ?_, fun k hk => ?_, fun a h1 h2 => ?_⟩
  · simp [qu]
  · rcases (by omega : q = 0 ∨ q = 1 ∨ q = 2 ∨ q = 3) with rfl | rfl | rfl | rfl <;> simp [qu]
  · have h0 : ¬ k = n := by omega
    have h1 : ¬ k = n + 1 := by omega
    have h2 : ¬ k = n + 2 := by omega
    have h3 : ¬ k = n + 3 := by omega
    simp [qu, h0, h1, h2, h3]
  · rw [qu_ne _ _ _ h1, qu_ne _ _ _ h2, qu_ne _ _ _ h1, qu_ne _ _ _ h2, qu_ne _ _ _ h1, qu_ne _ _ _ h2, qu_ne _ _ _ h1, qu_ne _ _ _ h2]
def s_b12 (a b c : Int32) (k : Nat) : Int32 := if k < 4 then s_by a (24 - 8 * (k % 4)) else if k < 8 then s_by b (24 - 8 * (k % 4)) else s_by c (24 - 8 * (k % 4))
theorem mq_165L {d n : Nat} {w : Nat → Nat → Int64} {a b c : Int32} (h84 : n + 12 ≤ 96) : ∀ (r k : Nat) (o : Option Value) (u : Nat → Nat → Int32), k + r = 12 → u 116 9 = nI n → (∀ q, q < k → u 122 (n + q) = s_b12 a b c q) → ∃ v', qs_EV d 165 18 [some (.ref 116), some (.int a), some (.int b), some (.int c), some (.int (nI k)), o] [] (QM u w) = some (some (.int (nI (n + 12))), QM v' w) ∧ v' 116 9 = nI (n + 12) ∧ (∀ q, q < 12 → v' 122 (n + q) = s_b12 a b c q) ∧ (∀ q, ¬ (n ≤ q ∧ q < n + 12) → v' 122 q = u 122 q) ∧ (∀ f, f ≠ 9 → v' 116 f = u 116 f) ∧ ∀ q, q ≠ 116 → q ≠ 122 → v' q = u q
  | 0, k, o, u, hk, hn, hq => by
    obtain rfl : k = 12 := by omega
    refine ⟨qu u 116 9 (nI (n + 12)), ?_, by simp [qu], fun q hq2 => by rw [qu_ne _ _ _ (by omega), hq q hq2], fun q _ => by rw [qu_ne _ _ _ (by omega)], fun f hf => by rw [qu_at, if_neg (by omega)], fun q h1 h2 => qu_ne _ _ _ h1⟩
    refine (bq_165_18 d 116 _ _ _ _ _ (QM u w)).trans ?_
    rw [if_pos (by decide)]
    have e : nI n + 12 = nI (n + 12) := nI_add n 12
    have e2 : ∀ y, qu u 116 9 y 116 9 = y := fun y => by simp [qu]
    simp only [QM_kd, QM_sz, QM_lk, QM_i, QM_wi, zM, zI, qs_bI, qs_bV, qb_0, hn, e, e2, Bool.true_eq_false, Nat.reduceSub, Nat.reduceLeDiff, Nat.reduceLT, true_and, and_true, and_self, if_true, if_false]
  | r + 1, k, o, u, hk, hn, hq => by
    obtain ⟨v', g1, g2, g3, g4, g5, g6⟩ := mq_165L (d := d) (n := n) (w := w) (a := a) (b := b) (c := c) h84 r (k + 1) (some (.int (if k < 4 then a else if k < 8 then b else c))) (qu u 122 (n + k) (s_b12 a b c k)) (by omega) (by rw [qu_ne _ _ _ (by omega), hn]) (fun q hq2 => by
      rw [qu_at]
      by_cases e : q = k
      · rw [if_pos ⟨rfl, by omega⟩, e]
      · rw [if_neg (by omega), hq q (by omega)])
    refine ⟨v', ?_, g2, g3, fun q hq2 => by rw [g4 q hq2, qu_at, if_neg (by omega)], fun f hf => by rw [g5 f hf, qu_ne _ _ _ (by omega)], fun q h1 h2 => by rw [g6 q h1 h2, qu_ne _ _ _ h2]⟩
    have e1 : ¬ (12 : Int32) ≤ nI k := nI_ge (b := 12) (by omega) (by omega)
    have e2 : (nI n + nI k).toNatClampNeg = n + k ∧ 0 ≤ nI n + nI k ∧ n + k < 96 := by
      rw [nI_add]
      exact ⟨nI_clamp (by omega), nI_pos' (by omega), by omega⟩
    have e3 : (24 : Int32) - 8 * (nI k - nI k / 4 * 4) = nI (24 - 8 * (k % 4)) := by
      have h1 : nI k - nI k / 4 * 4 = nI (k % 4) := nI_mod (b := 4) (by omega) (by omega)
      have h2 : (8 : Int32) * nI (k % 4) = nI (8 * (k % 4)) := nI_times 8 _
      rw [h1, h2]
      exact nI_sub (a := 24) (by omega)
    rw [nI_succ] at g1
    refine (bq_165_18 d 116 _ _ _ _ _ (QM u w)).trans ?_
    rw [if_neg e1]
    unfold s_b12 s_by at g1
    by_cases h4 : k < 4
    · have f4 : ¬ (4 : Int32) ≤ nI k := nI_ge (b := 4) h4 (by omega)
      rw [if_pos h4, if_pos h4] at g1
      simp only [QM_kd, QM_sz, QM_lk, QM_i, QM_wi, zM, zI, qs_bI, qs_bV, qb_0, hn, f4, e2, e3, Bool.true_eq_false, Nat.reduceSub, Nat.reduceLeDiff, Nat.reduceLT, true_and, and_true, and_self, if_true, if_false]
      exact g1
    · have f4 : (4 : Int32) ≤ nI k := nI_le (a := 4) (by omega) (by omega)
      rw [if_neg h4, if_neg h4] at g1
      by_cases h8 : k < 8
      · have f8 : ¬ (8 : Int32) ≤ nI k := nI_ge (b := 8) h8 (by omega)
        rw [if_pos h8, if_pos h8] at g1
        simp only [QM_kd, QM_sz, QM_lk, QM_i, QM_wi, zM, zI, qs_bI, qs_bV, qb_0, hn, f4, f8, e2, e3, Bool.true_eq_false, Nat.reduceSub, Nat.reduceLeDiff, Nat.reduceLT, true_and, and_true, and_self, if_true, if_false]
        exact g1
      · have f8 : (8 : Int32) ≤ nI k := nI_le (a := 8) (by omega) (by omega)
        rw [if_neg h8, if_neg h8] at g1
        simp only [QM_kd, QM_sz, QM_lk, QM_i, QM_wi, zM, zI, qs_bI, qs_bV, qb_0, hn, f4, f8, e2, e3, Bool.true_eq_false, Nat.reduceSub, Nat.reduceLeDiff, Nat.reduceLT, true_and, and_true, and_self, if_true, if_false]
        exact g1
theorem k_feed (a b c : Int32) : sOK 78 165 [.int a, .int b, .int c] := by
  intro d u w h
  obtain ⟨e1, n, n1, n2, n3⟩ := h.2.2.2.2.2.1
  have hw : u 48 2 = nI n := by rw [e1, n2]
  by_cases g : n ≤ 84
  · have g1 : nI n ≤ 84 := nI_le (b := 84) g (by omega)
    have g2 : nI n + 12 ≤ 96 := by
      rw [show nI n + 12 = nI (n + 12) from nI_add n 12]
      exact nI_le (b := 96) (by omega) (by omega)
    obtain ⟨v1, a1, a2, a3, a4, a5⟩ := c_30 (d := d + 118) (u := u) (w := w) (x := a) hw (by omega)
    obtain ⟨v2, b1, b2, b3, b4, b5⟩ := c_30 (d := d + 118) (u := v1) (w := w) (x := b) a2 (by omega)
    obtain ⟨v3, c1, c2, c3, c4, c5⟩ := c_30 (d := d + 118) (u := v2) (w := w) (x := c) b2 (by omega)
    have o3 : ∀ q, q ≠ 48 → q ≠ 49 → v3 q = u q := fun q h1 h2 => by rw [c5 q h1 h2, b5 q h1 h2, a5 q h1 h2]
    have p3 : ∀ k, k < n → v3 49 k = u 49 k := fun k hk => by rw [c4 k (by omega), b4 k (by omega), a4 k (by omega)]
    have r3 : ∀ q, q < 12 → v3 49 (n + q) = s_b12 a b c q := fun q hq => by
      unfold s_b12
      by_cases h4 : q < 4
      · rw [if_pos h4, c4 _ (by omega), b4 _ (by omega), a3 q h4, Nat.mod_eq_of_lt h4]
      · rw [if_neg h4]
        by_cases h8 : q < 8
        · rw [if_pos h8, c4 _ (by omega)]
          have := b3 (q - 4) (by omega)
          rw [show n + 4 + (q - 4) = n + q by omega] at this
          rw [this, show q % 4 = q - 4 by omega]
        · rw [if_neg h8]
          have := c3 (q - 8) (by omega)
          rw [show n + 4 + 4 + (q - 8) = n + q by omega] at this
          rw [this, show q % 4 = q - 8 by omega]
    obtain ⟨v4, d1, d2, d3, d4, d5, d6⟩ := mq_165L (d := d + 119) (n := n) (w := w) (a := a) (b := b) (c := c) (by omega) 12 0 none v3 (by omega) (by rw [o3 116 (by omega) (by omega), n2]) (fun q hq => by omega)
    refine ⟨nI (n + 12), v3, v4, w, ?_, ?_, inv_tp h (fun q q1 q2 q3 q4 => by rw [d6 q q3 q4, o3 q q1 q2]) (fun f hf => by rw [d5 f hf, o3 116 (by omega) (by omega)]) ⟨?_, n + 12, by omega, d2, fun k hk => ?_⟩⟩
    · refine (bq_78_0 (d + 119) 16 _ _ _ (QM u w)).trans ?_
      simp only [QM_kd, QM_sz, QM_lk, QM_i, QM_wi, zI, qs_bI, qs_bV, qb_0, zQ, hw, g1, a1, b1, c1, c2, Bool.true_eq_false, Nat.reduceSub, Nat.reduceLeDiff, Nat.reduceLT, true_and, and_true, and_self, if_true, if_false]
    · refine (bq_165_0 (d + 119) 116 _ _ _ (QM v3 w)).trans ?_
      have k1 : v3 116 9 = nI n := by rw [o3 116 (by omega) (by omega), n2]
      rw [nI_0] at d1
      simp only [QM_kd, QM_sz, QM_lk, QM_i, QM_wi, zM, zI, qs_bI, qs_bV, qb_0, k1, g2, d1, Bool.true_eq_false, Nat.reduceSub, Nat.reduceLeDiff, Nat.reduceLT, true_and, and_true, and_self, if_true, if_false]
    · rw [d6 48 (by omega) (by omega), c2, d2]
    · rw [d6 49 (by omega) (by omega)]
      by_cases hkn : k < n
      · rw [p3 k hkn, d4 k (by omega), o3 122 (by omega) (by omega)]
        exact n3 k hkn
      · have e := r3 (k - n) (by omega)
        have e2 := d3 (k - n) (by omega)
        rw [show n + (k - n) = k by omega] at e e2
        rw [e, e2]
        refine ⟨rfl, ?_⟩
        unfold s_b12
        (repeat' split) <;> exact s_by_n _ _
  · have g1 : ¬ nI n ≤ 84 := nI_ge (a := 84) (by omega) (by omega)
    have g2 : ¬ nI n + 12 ≤ 96 := by
      rw [show nI n + 12 = nI (n + 12) from nI_add n 12]
      exact nI_ge (a := 96) (by omega) (by omega)
    refine ⟨sFULL, u, u, w, ?_, ?_, h⟩
    · refine (bq_78_0 (d + 119) 16 _ _ _ (QM u w)).trans ?_
      simp only [QM_kd, QM_sz, QM_lk, QM_i, QM_wi, zI, qs_bI, qs_bV, qb_0, zQ, hw, g1, Bool.true_eq_false, Nat.reduceSub, Nat.reduceLeDiff, Nat.reduceLT, true_and, and_true, and_self, if_true, if_false]
      rfl
    · refine (bq_165_0 (d + 119) 116 _ _ _ (QM u w)).trans ?_
      simp only [QM_kd, QM_sz, QM_lk, QM_i, QM_wi, zM, zI, qs_bI, qs_bV, qb_0, n2, g2, Bool.true_eq_false, Nat.reduceSub, Nat.reduceLeDiff, Nat.reduceLT, true_and, and_true, and_self, if_true, if_false]
      rfl
