/-! SHEETS: reads, copy, call by call -/
def s_rdP (R C : Nat → Int32) (M : Nat) (k : Nat) : Bool := !decide (C k = sNO) && (decide (M ≤ k) || !decide (C k = s_leak R (s_jo R k)))
theorem d_86L {d M s n : Nat} {R C : Nat → Int32} {w : Nat → Nat → Int64} {o1 : Option Value} (hs : s < 4) (hn : n ≤ 24) : ∀ (r k : Nat) (u : Nat → Nat → Int32), k + r = n → sC u 52 R M → u (88 + 2 * s) 2 = nI n → (∀ i, i < n → u (88 + 2 * s + 1) i = C i) → ∃ v', qs_EV (d + 3) 86 29 [some (.ref 16), o1, some (.ref (88 + 2 * s)), some (.int (nI k))] [] (QM u w) = some (some (.int (s_find (s_rdP R C M) r k)), QM v' w) ∧ ∀ q, q ≠ 19 → v' q = u q
  | 0, k, u, hk, hC, hz, hc => by
    obtain rfl : k = n := by omega
    have zs := (zS hs).2.2
    unfold zSh at zs
    refine ⟨u, ?_, fun _ _ => rfl⟩
    refine (bq_86_29 (d + 3) 16 _ _ _ (QM u w)).trans ?_
    simp only [QM_kd, QM_sz, QM_lk, QM_i, QM_wi, zI, qs_bI, qs_bV, qb_0, zs, hz, show nI k ≤ nI k from nI_le (Nat.le_refl _) (by omega), Bool.true_eq_false, Nat.reduceSub, Nat.reduceLeDiff, Nat.reduceLT, true_and, and_true, and_self, if_true, if_false]
    rfl
  | r + 1, k, u, hk, hC, hz, hc => by
    obtain ⟨hM, h3, -⟩ := sC_M hC
    have z := z52
    unfold zPp at z
    have zq := (zS hs).2.2
    have zs := zq
    unfold zSh at zs
    have f2 : ¬ nI n ≤ nI k := nI_ge (by omega) (by omega)
    have ek : (nI k).toNatClampNeg = k := nI_clamp (by omega)
    have ek2 : 0 ≤ nI k := nI_pos' (by omega)
    have ek3 : k < 24 := by omega
    have b47 := c_47 (d := d + 1) (w := w) (x := nI k) zq hn hz
    rw [ek, hc k (by omega)] at b47
    have hin := s_isN_j (n := n) (j := k) (by omega) (by omega)
    have vc := hc k (by omega)
    have b15 := c_15 (d := d + 2) (w := w) (x := nI k) hC
    unfold s_find
    by_cases hno : C k = sNO
    · have hb : s_isnum (nI k) n (C k) = false := by
        unfold s_isnum
        rw [hin, decide_eq_true hno]
        rfl
      have hp : s_rdP R C M k = false := by
        unfold s_rdP
        rw [decide_eq_true hno]
        rfl
      obtain ⟨v', g1, g2⟩ := d_86L (d := d) (w := w) (o1 := o1) (R := R) (M := M) (C := C) (n := n) hs hn r (k + 1) u (by omega) hC hz hc
      refine ⟨v', ?_, g2⟩
      rw [nI_succ] at g1
      refine (bq_86_29 (d + 3) 16 _ _ _ (QM u w)).trans ?_
      simp only [QM_kd, QM_sz, QM_lk, QM_i, QM_wi, zI, qs_bI, qs_bV, qb_0, zQ, z, zs, hz, f2, b47, hb, hp, Bool.false_eq_true, g1, Bool.true_eq_false, Nat.reduceSub, Nat.reduceLeDiff, Nat.reduceLT, true_and, and_true, and_self, if_true, if_false]
    · have hb : s_isnum (nI k) n (C k) = true := by
        unfold s_isnum
        rw [hin, decide_eq_false hno]
        rfl
      by_cases hj : k < M
      · have y := zj52 (j := k) (by omega)
        obtain ⟨v, a1, a2⟩ := c_19 (d := d) (j := k) (w := w) hC hj
        have hs1 := s_in_j hM hj
        by_cases he : C k = s_leak R (s_jo R k)
        · have hp : s_rdP R C M k = false := by
            unfold s_rdP
            rw [decide_eq_false hno, decide_eq_true he, decide_eq_false (by omega)]
            rfl
          obtain ⟨v', g1, g2⟩ := d_86L (d := d) (w := w) (o1 := o1) (R := R) (M := M) (C := C) (n := n) hs hn r (k + 1) v (by omega) (sC_19 hC a2) (by rw [a2 _ (by omega), hz]) (fun i hi => by rw [a2 _ (by omega), hc i hi])
          refine ⟨v', ?_, fun q hq => by rw [g2 q hq, a2 q hq]⟩
          rw [nI_succ] at g1
          refine (bq_86_29 (d + 3) 16 _ _ _ (QM u w)).trans ?_
          rw [← he] at a1
          simp only [QM_kd, QM_sz, QM_lk, QM_i, QM_wi, zI, qs_bI, qs_bV, qb_0, zQ, z, zs, y, hz, f2, b47, hb, hp, b15, hs1, vc, ek3, a1, Bool.false_eq_true, g1, Nat.add_sub_cancel, Nat.le_add_left, Bool.true_eq_false, Nat.reduceSub, Nat.reduceLeDiff, Nat.reduceLT, true_and, and_true, and_self, if_true, if_false]
        · have hp : s_rdP R C M k = true := by
            unfold s_rdP
            rw [decide_eq_false hno, decide_eq_false he]
            simp
          refine ⟨v, ?_, a2⟩
          refine (bq_86_29 (d + 3) 16 _ _ _ (QM u w)).trans ?_
          simp only [QM_kd, QM_sz, QM_lk, QM_i, QM_wi, zI, qs_bI, qs_bV, qb_0, zQ, z, zs, y, hz, f2, b47, hb, hp, b15, hs1, vc, ek3, a1, he, Nat.add_sub_cancel, Nat.le_add_left, Bool.true_eq_false, Nat.reduceSub, Nat.reduceLeDiff, Nat.reduceLT, true_and, and_true, and_self, if_true, if_false]
      · have hs1 := s_in_nj hM (show k < 2 ^ 31 by omega) hj
        have hp : s_rdP R C M k = true := by
          unfold s_rdP
          rw [decide_eq_false hno, decide_eq_true (show M ≤ k by omega)]
          rfl
        refine ⟨u, ?_, fun _ _ => rfl⟩
        refine (bq_86_29 (d + 3) 16 _ _ _ (QM u w)).trans ?_
        simp only [QM_kd, QM_sz, QM_lk, QM_i, QM_wi, zI, qs_bI, qs_bV, qb_0, zQ, z, zs, hz, f2, b47, hb, hp, b15, hs1, Nat.add_sub_cancel, Nat.le_add_left, Bool.true_eq_false, Nat.reduceSub, Nat.reduceLeDiff, Nat.reduceLT, true_and, and_true, and_self, if_true, if_false]
theorem mq_189L {d M s n : Nat} {R C : Nat → Int32} {w : Nat → Nat → Int64} (hs : s < 4) (hn : n ≤ 24) (hM : M ≤ 8) (h1 : R 1 = nI M) (ht : s_tx R) : ∀ (r k : Nat) (o3 : Option Value) (u : Nat → Nat → Int32), k + r = n → u 117 = R → u 131 s = nI n → (∀ i, i < n → u 132 (24 * s + i) = C i) → ∃ v', qs_EV (d + 4) 189 24 [some (.ref 116), some (.int (nI s)), some (.int (nI k)), o3] [] (QM u w) = some (some (.int (s_find (s_rdP R C M) r k)), QM v' w) ∧ ∀ a, a ≠ 128 → a ≠ 129 → v' a = u a
  | 0, k, o3, u, hk, hu, hz, hc => by
    obtain rfl : k = n := by omega
    have es : (nI s).toNatClampNeg = s := nI_clamp (by omega)
    have es2 : 0 ≤ nI s := nI_pos' (by omega)
    refine ⟨u, ?_, fun _ _ _ => rfl⟩
    refine (bq_189_24 (d + 4) 116 _ _ _ (QM u w)).trans ?_
    simp only [QM_kd, QM_sz, QM_lk, QM_i, QM_wi, zM, zI, qs_bI, qs_bV, qb_0, es, es2, hs, hz, show nI k ≤ nI k from nI_le (Nat.le_refl _) (by omega), Bool.true_eq_false, Nat.reduceSub, Nat.reduceLeDiff, Nat.reduceLT, true_and, and_true, and_self, if_true, if_false]
    rfl
  | r + 1, k, o3, u, hk, hu, hz, hc => by
    have es : (nI s).toNatClampNeg = s := nI_clamp (by omega)
    have es2 : 0 ≤ nI s := nI_pos' (by omega)
    have f2 : ¬ nI n ≤ nI k := nI_ge (by omega) (by omega)
    have ix := ix_cl (s := s) (k := k) hs (by omega)
    have ix2 : 24 * s + k < 96 := by omega
    have vc := hc k (by omega)
    have hu1 : u 117 1 = nI M := by rw [hu, h1]
    unfold s_find
    by_cases hno : C k = sNO
    · have hp : s_rdP R C M k = false := by
        unfold s_rdP
        rw [decide_eq_true hno]
        rfl
      obtain ⟨v', g1, g2⟩ := mq_189L (d := d) (w := w) (R := R) (M := M) (C := C) (n := n) hs hn hM h1 ht r (k + 1) (some (.int (C k))) u (by omega) hu hz hc
      refine ⟨v', ?_, g2⟩
      rw [nI_succ] at g1
      refine (bq_189_24 (d + 4) 116 _ _ _ (QM u w)).trans ?_
      rw [hno] at g1
      simp only [QM_kd, QM_sz, QM_lk, QM_i, QM_wi, zM, zI, qs_bI, qs_bV, qb_0, es, es2, hs, hz, f2, ix, ix2, vc, show C k = -1000000005 from hno, hp, Bool.false_eq_true, Bool.true_eq_false, Nat.reduceSub, Nat.reduceLeDiff, Nat.reduceLT, true_and, and_true, and_self, if_true, if_false]
      exact g1
    · by_cases hj : k < M
      · obtain ⟨v, a1, a2⟩ := mq_120 (d := d) (j := k) (x1 := nI k) rfl (by omega) (u := u) (w := w) (by rw [hu]; exact ht)
        rw [hu] at a1
        have hs1 := s_in_j hM hj
        by_cases he : C k = s_leak R (s_jo R k)
        · have hp : s_rdP R C M k = false := by
            unfold s_rdP
            rw [decide_eq_false hno, decide_eq_true he, decide_eq_false (by omega)]
            rfl
          obtain ⟨v', g1, g2⟩ := mq_189L (d := d) (w := w) (R := R) (M := M) (C := C) (n := n) hs hn hM h1 ht r (k + 1) (some (.int (C k))) v (by omega) (by rw [a2 117 (by omega) (by omega), hu]) (by rw [a2 131 (by omega) (by omega), hz]) (fun i hi => by rw [a2 132 (by omega) (by omega), hc i hi])
          refine ⟨v', ?_, fun q p1 p2 => by rw [g2 q p1 p2, a2 q p1 p2]⟩
          rw [nI_succ] at g1
          refine (bq_189_24 (d + 4) 116 _ _ _ (QM u w)).trans ?_
          rw [← he] at a1
          simp only [QM_kd, QM_sz, QM_lk, QM_i, QM_wi, zM, zI, qs_bI, qs_bV, qb_0, es, es2, hs, hz, f2, ix, ix2, vc, show ¬ C k = -1000000005 from hno, hp, mc_111x hu1, hs1, a1, Bool.false_eq_true, g1, Bool.true_eq_false, Nat.reduceSub, Nat.reduceLeDiff, Nat.reduceLT, true_and, and_true, and_self, if_true, if_false]
        · have hp : s_rdP R C M k = true := by
            unfold s_rdP
            rw [decide_eq_false hno, decide_eq_false he]
            simp
          refine ⟨v, ?_, a2⟩
          refine (bq_189_24 (d + 4) 116 _ _ _ (QM u w)).trans ?_
          simp only [QM_kd, QM_sz, QM_lk, QM_i, QM_wi, zM, zI, qs_bI, qs_bV, qb_0, es, es2, hs, hz, f2, ix, ix2, vc, show ¬ C k = -1000000005 from hno, hp, mc_111x hu1, hs1, a1, he, Bool.true_eq_false, Nat.reduceSub, Nat.reduceLeDiff, Nat.reduceLT, true_and, and_true, and_self, if_true, if_false]
      · have hs1 := s_in_nj hM (show k < 2 ^ 31 by omega) hj
        have hp : s_rdP R C M k = true := by
          unfold s_rdP
          rw [decide_eq_false hno, decide_eq_true (show M ≤ k by omega)]
          rfl
        refine ⟨u, ?_, fun _ _ _ => rfl⟩
        refine (bq_189_24 (d + 4) 116 _ _ _ (QM u w)).trans ?_
        simp only [QM_kd, QM_sz, QM_lk, QM_i, QM_wi, zM, zI, qs_bI, qs_bV, qb_0, es, es2, hs, hz, f2, ix, ix2, vc, show ¬ C k = -1000000005 from hno, hp, mc_111x hu1, hs1, Bool.true_eq_false, Nat.reduceSub, Nat.reduceLeDiff, Nat.reduceLT, true_and, and_true, and_self, if_true, if_false]
theorem k_reads (x : Int32) : sOK 86 189 [.int x] := by
  intro d u w h
  by_cases g1 : s_in x 0 3 = false
  · refine ⟨sBAD, u, u, w, ?_, ?_, h⟩
    · refine (bq_86_0 (d + 119) 16 _ (QM u w)).trans ?_
      simp only [QM_kd, QM_sz, QM_lk, QM_i, QM_wi, zI, qs_bI, qs_bV, qb_0, c_100, g1, Bool.true_eq_false, Nat.reduceSub, Nat.reduceLeDiff, Nat.reduceLT, true_and, and_true, and_self, if_true, if_false]
      rfl
    · refine (bq_189_0 (d + 119) 116 _ (QM u w)).trans ?_
      simp only [QM_kd, QM_sz, QM_lk, QM_i, QM_wi, zM, zI, qs_bI, qs_bV, qb_0, mc_184, g1, Bool.true_eq_false, Nat.reduceSub, Nat.reduceLeDiff, Nat.reduceLT, true_and, and_true, and_self, if_true, if_false]
      rfl
  obtain ⟨s, hs, rfl⟩ := s_nf (n := 3) g1 rfl (by omega)
  have es : (nI s).toNatClampNeg = s := nI_clamp (by omega)
  have es2 : 0 ≤ nI s := nI_pos' (by omega)
  have es3 : s < 4 := by omega
  have zs := zS es3
  have zq := zs.2.2
  have z4 := zq.1
  unfold zS1 at zs
  obtain ⟨e1, e2, e3, ⟨n, n1, n2⟩, e5⟩ := h.2.2.1 s es3
  have b44 := c_44 (d := d + 118) (u := u) (w := w) zq
  rw [e1] at b44
  by_cases g2 : u 130 s = -1
  · rw [decide_eq_true g2] at b44
    refine ⟨sNOTH, u, u, w, ?_, ?_, h⟩
    · refine (bq_86_0 (d + 119) 16 _ (QM u w)).trans ?_
      simp only [QM_kd, QM_sz, QM_lk, QM_i, QM_wi, zI, qs_bI, qs_bV, qb_0, c_100, g1, zQ, zs, z4, es, es2, es3, b44, Nat.add_sub_cancel, Nat.le_add_left, Bool.true_eq_false, Nat.reduceSub, Nat.reduceLeDiff, Nat.reduceLT, true_and, and_true, and_self, if_true, if_false]
      rfl
    · refine (bq_189_0 (d + 119) 116 _ (QM u w)).trans ?_
      simp only [QM_kd, QM_sz, QM_lk, QM_i, QM_wi, zM, zI, qs_bI, qs_bV, qb_0, mc_184, g1, es, es2, es3, g2, show ¬ (0 : Int32) ≤ -1 by decide, Bool.true_eq_false, Nat.reduceSub, Nat.reduceLeDiff, Nat.reduceLT, true_and, and_true, and_self, if_true, if_false]
      rfl
  have g3 : 0 ≤ u 130 s := by rcases e3 with q | q | q
                              · exact absurd q g2
                              · rw [q]; decide
                              · rw [q]; decide
  rw [decide_eq_false g2] at b44
  obtain ⟨M, hC, hH⟩ := h.1
  obtain ⟨hM, h3, hr1⟩ := sC_M hC
  obtain ⟨u1, a1, a2⟩ := d_86L (d := d + 116) (M := M) (n := n) (w := w) (o1 := some (.int (nI s))) (R := u 117) (C := fun i => u 132 (24 * s + i)) es3 n1 n 0 u (by omega) hC (by rw [e2, n2]) (fun i hi => (e5 i (by omega)).1)
  have f : ∀ q, 63 ≤ q → u1 q = u q := fun q hq => a2 q (by omega)
  obtain ⟨u2, b1, b2⟩ := mq_189L (d := d + 115) (M := M) (n := n) (w := w) (R := u 117) (C := fun i => u 132 (24 * s + i)) es3 n1 hM hr1 hC.2.2.1.2.2.2.2.1 n 0 none u1 (by omega) (f 117 (by omega)) (by rw [f 131 (by omega), n2]) (fun i hi => by rw [f 132 (by omega)])
  rw [nI_0] at a1 b1
  refine ⟨s_find (s_rdP (u 117) (fun i => u 132 (24 * s + i)) M) n 0, u1, u2, w, ?_, ?_, inv_th h (fth_of a2) (fT_of b2)⟩
  · refine (bq_86_0 (d + 119) 16 _ (QM u w)).trans ?_
    simp only [QM_kd, QM_sz, QM_lk, QM_i, QM_wi, zI, qs_bI, qs_bV, qb_0, c_100, g1, zQ, zs, z4, es, es2, es3, b44, Nat.add_sub_cancel, Nat.le_add_left, Bool.true_eq_false, Nat.reduceSub, Nat.reduceLeDiff, Nat.reduceLT, true_and, and_true, and_self, if_true, if_false]
    exact a1
  · refine (bq_189_0 (d + 119) 116 _ (QM u1 w)).trans ?_
    simp only [QM_kd, QM_sz, QM_lk, QM_i, QM_wi, zM, zI, qs_bI, qs_bV, qb_0, mc_184, g1, es, es2, es3, f 130 (by omega), g3, Bool.true_eq_false, Nat.reduceSub, Nat.reduceLeDiff, Nat.reduceLT, true_and, and_true, and_self, if_true, if_false]
    exact b1
/-- so many places from one on are in a row of n -/
def s_row (p m : Int32) (n : Nat) : Bool := decide (0 ≤ p) && decide (0 ≤ m) && !decide (nI n - p < m)
theorem c_46 {d q n : Nat} {p m : Int32} {u : Nat → Nat → Int32} {w : Nat → Nat → Int64} (z : zSh q) (hs : u q 2 = nI n) : qs_call (d + 1) 46 [.ref q, .int p, .int m] (QM u w) = some (some (.int (qb (s_row p m n))), QM u w) := by
  unfold zSh at z
  refine (bq_46_0 d q p m (QM u w)).trans ?_
  unfold s_row
  by_cases h1 : p < 0
  · have h2 : ¬ 0 ≤ p := Int32.not_le.mpr h1
    simp [h1, h2, qb]
  · have h2 : 0 ≤ p := Int32.not_lt.mp h1
    by_cases h3 : m < 0
    · have h4 : ¬ 0 ≤ m := Int32.not_le.mpr h3
      simp [h1, h3, h4, qb]
    · have h4 : 0 ≤ m := Int32.not_lt.mp h3
      by_cases h5 : nI n - p < m
      · simp only [QM_kd, QM_sz, QM_lk, QM_i, QM_wi, zI, qs_bI, qs_bV, qb_0, z, hs, h1, h3, h5, Bool.true_eq_false, Nat.reduceSub, Nat.reduceLeDiff, Nat.reduceLT, true_and, and_true, and_self, if_true, if_false]
        simp [h2, h4, qb]
      · simp only [QM_kd, QM_sz, QM_lk, QM_i, QM_wi, zI, qs_bI, qs_bV, qb_0, z, hs, h1, h3, h5, Bool.true_eq_false, Nat.reduceSub, Nat.reduceLeDiff, Nat.reduceLT, true_and, and_true, and_self, if_true, if_false]
        simp [h2, h4, qb]
theorem s_row_n {p m : Int32} {n : Nat} (hn : n ≤ 24) (h : s_row p m n = true) : ∃ a b, p = nI a ∧ m = nI b ∧ a + b ≤ n := by
  unfold s_row at h
  simp only [Bool.and_eq_true, decide_eq_true_eq, Bool.not_eq_true', decide_eq_false_iff_not] at h
  obtain ⟨⟨h1, h2⟩, h3⟩ := h
  obtain ⟨a, ha, rfl⟩ := nI_of (Int32.not_lt.mpr h1)
  obtain ⟨b, hb, rfl⟩ := nI_of (Int32.not_lt.mpr h2)
  refine ⟨a, b, rfl, rfl, ?_⟩
  have e : (nI n - nI a).toInt = (n : Int) - a := by
    rw [Int32.toInt_sub, nI_toInt (by omega), nI_toInt ha, Int.bmod_eq_of_le] <;> omega
  have h4 : ¬ (nI n - nI a).toInt < (nI b).toInt := fun q => h3 (Int32.lt_iff_toInt_lt.mpr q)
  rw [e, nI_toInt hb] at h4
  omega
theorem s_sub_lt {n a b : Nat} (hn : n ≤ 24) (ha : a < 2 ^ 31) (hb : b < 2 ^ 31) : nI n - nI a < nI b ↔ n < a + b := by
  have e : (nI n - nI a).toInt = (n : Int) - a := by
    rw [Int32.toInt_sub, nI_toInt (by omega), nI_toInt ha, Int.bmod_eq_of_le] <;> omega
  rw [Int32.lt_iff_toInt_lt, e, nI_toInt hb]
  omega
theorem s_le_sub {n a b : Nat} (hn : n ≤ 24) (ha : a < 2 ^ 31) (hb : b < 2 ^ 31) : nI b ≤ nI n - nI a ↔ a + b ≤ n := by
  have e : (nI n - nI a).toInt = (n : Int) - a := by
    rw [Int32.toInt_sub, nI_toInt (by omega), nI_toInt ha, Int.bmod_eq_of_le] <;> omega
  rw [Int32.le_iff_toInt_le, e, nI_toInt hb]
  omega
theorem s_row_of {n a b : Nat} (hn : n ≤ 24) (ha : a < 2 ^ 31) (hb : b < 2 ^ 31) (h : a + b ≤ n) : s_row (nI a) (nI b) n = true := by
  unfold s_row
  have h3 : ¬ nI n - nI a < nI b := fun q => by
    have := (s_sub_lt hn ha hb).mp q
    omega
  rw [decide_eq_true (nI_pos' ha), decide_eq_true (nI_pos' hb), decide_eq_false h3]
  rfl
theorem ix_cm {s p k : Nat} (hs : s < 4) (hk : p + k < 24) : (24 * nI s + nI p + nI k).toNatClampNeg = 24 * s + p + k ∧ 0 ≤ 24 * nI s + nI p + nI k := by
  have e : 24 * nI s + nI p + nI k = nI (24 * s + p + k) := by
    rw [← nI_add, ← nI_add, ← nI_times]
    rfl
  rw [e]
  exact ⟨nI_clamp (by omega), nI_pos' (by omega)⟩
theorem mq_190A {d f p t a m : Nat} {w : Nat → Nat → Int64} (hf : f < 4) (ht : t < 4) (hp : p + m ≤ 24) : ∀ (r k : Nat) (u : Nat → Nat → Int32), k + r = m → (∀ i, i < k → u 137 i = u 132 (24 * f + p + i)) → ∃ v', qs_EV d 190 104 [some (.ref 116), some (.int (nI f)), some (.int (nI p)), some (.int (nI t)), some (.int (nI a)), some (.int (nI m)), some (.int (nI k))] [] (QM u w) = qs_EV d 190 141 [some (.ref 116), some (.int (nI f)), some (.int (nI p)), some (.int (nI t)), some (.int (nI a)), some (.int (nI m)), some (.int 0)] [] (QM v' w) ∧ (∀ i, i < m → v' 137 i = u 132 (24 * f + p + i)) ∧ ∀ q, q ≠ 137 → v' q = u q
  | 0, k, u, hk, hi => by
    obtain rfl : k = m := by omega
    refine ⟨u, ?_, hi, fun _ _ => rfl⟩
    refine (bq_190_104 d 116 _ _ _ _ _ _ (QM u w)).trans ?_
    rw [if_pos (nI_le (Nat.le_refl _) (by omega))]
  | r + 1, k, u, hk, hi => by
    obtain ⟨v', g1, g2, g3⟩ := mq_190A (d := d) (f := f) (p := p) (t := t) (a := a) (m := m) (w := w) hf ht hp r (k + 1) (qu u 137 k (u 132 (24 * f + p + k))) (by omega) (fun i hi2 => by
      rw [qu_ne u (a := 132) _ _ (by omega), qu_at]
      by_cases e : i = k
      · rw [if_pos ⟨rfl, e⟩, e]
      · rw [if_neg (by omega), hi i (by omega)])
    refine ⟨v', ?_, fun i hi2 => by rw [g2 i hi2, qu_ne u (a := 132) _ _ (by omega)], fun q hq => by rw [g3 q hq, qu_ne _ _ _ hq]⟩
    have ix := ix_cm (s := f) (p := p) (k := k) hf (by omega)
    have ix2 : 24 * f + p + k < 96 := by omega
    have e7 : (nI k).toNatClampNeg = k := nI_clamp (by omega)
    have e8 : 0 ≤ nI k := nI_pos' (by omega)
    have e9 : k < 24 := by omega
    rw [nI_succ] at g1
    refine (bq_190_104 d 116 _ _ _ _ _ _ (QM u w)).trans ?_
    rw [if_neg (nI_ge (by omega) (by omega))]
    simp only [QM_kd, QM_sz, QM_lk, QM_i, QM_wi, zM, zI, qs_bI, qs_bV, qb_0, ix, ix2, e7, e8, e9, Bool.true_eq_false, Nat.reduceSub, Nat.reduceLeDiff, Nat.reduceLT, true_and, and_true, and_self, if_true, if_false]
    exact g1
theorem mq_190B {d t a m : Nat} {C : Nat → Int32} {o1 o2 : Option Value} {w : Nat → Nat → Int64} (ht : t < 4) (ha : a + m ≤ 24) : ∀ (r k : Nat) (u : Nat → Nat → Int32), k + r = m → (∀ i, i < m → u 137 i = C i) → (∀ i, i < k → u 132 (24 * t + a + i) = C i) → ∃ v', qs_EV d 190 141 [some (.ref 116), o1, o2, some (.int (nI t)), some (.int (nI a)), some (.int (nI m)), some (.int (nI k))] [] (QM u w) = some (some (.int (nI m)), QM v' w) ∧ (∀ i, i < m → v' 132 (24 * t + a + i) = C i) ∧ (∀ i, ¬ (24 * t + a ≤ i ∧ i < 24 * t + a + m) → v' 132 i = u 132 i) ∧ ∀ q, q ≠ 132 → v' q = u q
  | 0, k, u, hk, hc, hi => by
    obtain rfl : k = m := by omega
    refine ⟨u, ?_, hi, fun _ _ => rfl, fun _ _ => rfl⟩
    refine (bq_190_141 d 116 _ _ _ _ _ _ (QM u w)).trans ?_
    rw [if_pos (nI_le (Nat.le_refl _) (by omega))]
  | r + 1, k, u, hk, hc, hi => by
    obtain ⟨v', g1, g2, g3, g4⟩ := mq_190B (d := d) (t := t) (a := a) (m := m) (C := C) (o1 := o1) (o2 := o2) (w := w) ht ha r (k + 1) (qu u 132 (24 * t + a + k) (u 137 k)) (by omega) (fun i hi2 => by rw [qu_ne _ _ _ (by omega), hc i hi2]) (fun i hi2 => by
      rw [qu_at]
      by_cases e : i = k
      · rw [if_pos ⟨rfl, by omega⟩, e, hc k (by omega)]
      · rw [if_neg (by omega), hi i (by omega)])
    refine ⟨v', ?_, g2, fun i hi2 => by rw [g3 i hi2, qu_at, if_neg (by omega)], fun q hq => by rw [g4 q hq, qu_ne _ _ _ hq]⟩
    have ix := ix_cm (s := t) (p := a) (k := k) ht (by omega)
    have ix2 : 24 * t + a + k < 96 := by omega
    have e7 : (nI k).toNatClampNeg = k := nI_clamp (by omega)
    have e8 : 0 ≤ nI k := nI_pos' (by omega)
    have e9 : k < 24 := by omega
    rw [nI_succ] at g1
    refine (bq_190_141 d 116 _ _ _ _ _ _ (QM u w)).trans ?_
    rw [if_neg (nI_ge (by omega) (by omega))]
    simp only [QM_kd, QM_sz, QM_lk, QM_i, QM_wi, zM, zI, qs_bI, qs_bV, qb_0, ix, ix2, e7, e8, e9, Bool.true_eq_false, Nat.reduceSub, Nat.reduceLeDiff, Nat.reduceLT, true_and, and_true, and_self, if_true, if_false]
    exact g1
