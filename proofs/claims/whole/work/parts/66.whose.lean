/-! SHEETS in the class: small methods; WHOSE -/
theorem s_isN {n : Nat} (hn : n ≤ 96) {x : Int32} : s_in x 0 (nI n - 1) = true ↔ ∃ j, j < n ∧ x = nI j := by
  unfold s_in
  rw [decide_eq_true_eq]
  constructor
  · intro ⟨h1, h2⟩
    rcases Nat.eq_zero_or_pos n with rfl | h0
    · have h3 : x ≤ -1 := h2
      have h4 := Int32.le_iff_toInt_le.mp h1
      have h5 := Int32.le_iff_toInt_le.mp h3
      have h6 : (0 : Int32).toInt = 0 := by decide
      have h7 : (-1 : Int32).toInt = -1 := by decide
      omega
    · obtain ⟨j, hj, rfl⟩ := nI_of (Int32.not_lt.mpr h1)
      rw [nI_sub1 h0] at h2
      have := (nI_leI hj (by omega)).mp h2
      exact ⟨j, by omega, rfl⟩
  · intro ⟨j, h1, h2⟩
    subst h2
    rw [nI_sub1 (by omega)]
    exact ⟨nI_pos' (by omega), nI_le (by omega) (by omega)⟩
theorem s_isN_j {n j : Nat} (hn : n ≤ 96) (h : j < n) : s_in (nI j) 0 (nI n - 1) = true := (s_isN hn).mpr ⟨j, h, rfl⟩
theorem c_44 {d q : Nat} {u : Nat → Nat → Int32} {w : Nat → Nat → Int64} (z : zSh q) : qs_call (d + 1) 44 [.ref q] (QM u w) = some (some (.int (qb (decide (u q 1 = -1)))), QM u w) := by
  unfold zSh at z
  refine (bq_44_0 d q (QM u w)).trans ?_
  by_cases h : u q 1 = -1
  · simp only [QM_kd, QM_sz, QM_lk, QM_i, QM_wi, zI, qs_bI, qs_bV, qb_0, z, h, Bool.true_eq_false, Nat.reduceSub, Nat.reduceLeDiff, Nat.reduceLT, true_and, and_true, and_self, if_true, if_false]
    simp [qb]
  · simp only [QM_kd, QM_sz, QM_lk, QM_i, QM_wi, zI, qs_bI, qs_bV, qb_0, z, h, Bool.true_eq_false, Nat.reduceSub, Nat.reduceLeDiff, Nat.reduceLT, true_and, and_true, and_self, if_true, if_false]
    simp [qb]
theorem c_45 {d q n : Nat} {x : Int32} {u : Nat → Nat → Int32} {w : Nat → Nat → Int64} (z : zSh q) (hn : n ≤ 96) (hs : u q 2 = nI n) : qs_call (d + 1) 45 [.ref q, .int x] (QM u w) = some (some (.int (qb (s_in x 0 (nI n - 1)))), QM u w) := by
  unfold zSh at z
  refine (bq_45_0 d q x (QM u w)).trans ?_
  by_cases h : s_in x 0 (nI n - 1) = true
  · obtain ⟨j, hj, rfl⟩ := (s_isN hn).mp h
    have e1 : ¬ nI j < 0 := nI_pos (by omega)
    have e2 : ¬ nI n ≤ nI j := nI_ge hj (by omega)
    rw [h]
    simp only [QM_kd, QM_sz, QM_lk, QM_i, QM_wi, zI, qs_bI, qs_bV, qb_0, z, hs, e1, e2, Bool.true_eq_false, Nat.reduceSub, Nat.reduceLeDiff, Nat.reduceLT, true_and, and_true, and_self, if_true, if_false]
    simp [qb]
  · have h' : s_in x 0 (nI n - 1) = false := by simpa using h
    rw [h']
    by_cases h0 : x < 0
    · simp only [QM_kd, QM_sz, QM_lk, QM_i, QM_wi, zI, qs_bI, qs_bV, qb_0, h0, Bool.true_eq_false, Nat.reduceSub, Nat.reduceLeDiff, Nat.reduceLT, true_and, and_true, and_self, if_true, if_false]
      simp [qb]
    · obtain ⟨k, hk, rfl⟩ := nI_of h0
      have h1 : nI n ≤ nI k := by
        apply Decidable.byContradiction
        intro g
        apply h
        apply (s_isN hn).mpr
        exact ⟨k, Nat.lt_of_not_le (fun g2 => g ((nI_leI (a := n) (b := k) (by omega) hk).mpr g2)), rfl⟩
      simp only [QM_kd, QM_sz, QM_lk, QM_i, QM_wi, zI, qs_bI, qs_bV, qb_0, z, hs, h0, h1, Bool.true_eq_false, Nat.reduceSub, Nat.reduceLeDiff, Nat.reduceLT, true_and, and_true, and_self, if_true, if_false]
      simp [qb]
/-- a place of a sheet is a number -/
def s_isnum (x : Int32) (n : Nat) (v : Int32) : Bool := s_in x 0 (nI n - 1) && !decide (v = sNO)
theorem c_47 {d q n : Nat} {x : Int32} {u : Nat → Nat → Int32} {w : Nat → Nat → Int64} (z : zSh q) (hn : n ≤ 24) (hs : u q 2 = nI n) : qs_call (d + 2) 47 [.ref q, .int x] (QM u w) = some (some (.int (qb (s_isnum x n (u (q + 1) x.toNatClampNeg)))), QM u w) := by
  have b45 := c_45 (d := d) (w := w) (x := x) z (by omega) hs
  unfold zSh at z
  refine (bq_47_0 (d + 1) q x (QM u w)).trans ?_
  unfold s_isnum
  by_cases h : s_in x 0 (nI n - 1) = true
  · obtain ⟨j, hj, rfl⟩ := (s_isN (by omega)).mp h
    have e3 : (nI j).toNatClampNeg = j := nI_clamp (by omega)
    have e4 : 0 ≤ nI j := nI_pos' (by omega)
    have e5 : j < 24 := by omega
    by_cases hv : u (q + 1) j = sNO
    · simp only [QM_kd, QM_sz, QM_lk, QM_i, QM_wi, zI, qs_bI, qs_bV, qb_0, z, b45, h, e3, e4, e5, show u (q + 1) j = -1000000005 from hv, Nat.add_sub_cancel, Nat.le_add_left, Bool.true_eq_false, Nat.reduceSub, Nat.reduceLeDiff, Nat.reduceLT, true_and, and_true, and_self, if_true, if_false]
      simp [qb, sNO]
    · simp only [QM_kd, QM_sz, QM_lk, QM_i, QM_wi, zI, qs_bI, qs_bV, qb_0, z, b45, h, e3, e4, e5, show ¬ u (q + 1) j = -1000000005 from hv, Nat.add_sub_cancel, Nat.le_add_left, Bool.true_eq_false, Nat.reduceSub, Nat.reduceLeDiff, Nat.reduceLT, true_and, and_true, and_self, if_true, if_false]
      have hv' : ¬ u (q + 1) j = sNO := hv
      simp [qb, hv']
  · have h' : s_in x 0 (nI n - 1) = false := by simpa using h
    simp only [QM_kd, QM_sz, QM_lk, QM_i, QM_wi, zI, qs_bI, qs_bV, qb_0, z, b45, h', Bool.true_eq_false, Nat.reduceSub, Nat.reduceLeDiff, Nat.reduceLT, true_and, and_true, and_self, if_true, if_false]
    simp [qb]
theorem qabs_an {v : Int32} {l : Nat} (h : s_cz v) (hv : ¬ v = sNO) (hl : l ≤ 9999) : qs_abs (nI l - v) = nI (s_an v (nI l)) := by
  have hb : -99999 ≤ v.toInt ∧ v.toInt ≤ 99999 := by
    rcases h with q | q
    · exact absurd q hv
    · exact q
  have hl2 : (nI l).toInt = (l : Int) := nI_toInt (by omega)
  have e : (nI l - v).toInt = l - v.toInt := by
    rw [Int32.toInt_sub, hl2]
    rw [Int.bmod_eq_of_le] <;> omega
  have i0 : (0 : Int32).toInt = 0 := by decide
  unfold s_an
  rw [if_neg hv, hl2]
  apply Int32.toInt_inj.mp
  rw [nI_toInt (by omega)]
  unfold qs_abs
  by_cases h0 : 0 ≤ nI l - v
  · rw [if_pos h0, e]
    have := Int32.le_iff_toInt_le.mp h0
    omega
  · rw [if_neg h0, Int32.toInt_sub, e, i0]
    have : ¬ (0 : Int32).toInt ≤ (nI l - v).toInt := fun q => h0 (Int32.le_iff_toInt_le.mpr q)
    rw [Int.bmod_eq_of_le] <;> omega
theorem c_105L {d j M q n : Nat} {u0 : Nat → Nat → Int32} {w : Nat → Nat → Int64} {R C : Nat → Int32} (z : zSh q) (hq : ¬ inP 74 q ∧ q ≠ 19 ∧ ¬ inP 74 (q + 1) ∧ q + 1 ≠ 19) (hn : n ≤ 24) (hs : u0 q 2 = nI n) (hc : ∀ k, k < n → u0 (q + 1) k = C k ∧ s_cz (C k)) (hj : j < M) : ∀ (r k : Nat) (u : Nat → Nat → Int32), k + r = n → sC u 74 (s_go R k) M → fth u0 u → ∃ v', qs_EV (d + 6) 105 16 [some (.ref 16), some (.ref q), some (.int (nI j)), some (.int (nI (s_dn R C j k))), some (.int (nI k))] [] (QM u w) = some (some (.int (nI (s_dn R C j n))), QM v' w) ∧ fth u0 v'
  | 0, k, u, hk, hC, hf => by
    obtain rfl : k = n := by omega
    have hs' : u q 2 = nI k := by rw [hf q hq.1 hq.2.1, hs]
    unfold zSh at z
    refine ⟨u, ?_, hf⟩
    refine (bq_105_16 (d + 6) 16 q _ _ _ (QM u w)).trans ?_
    simp only [QM_kd, QM_sz, QM_lk, QM_i, QM_wi, zI, qs_bI, qs_bV, qb_0, z, hs', show nI k ≤ nI k from nI_le (Nat.le_refl _) (by omega), Bool.true_eq_false, Nat.reduceSub, Nat.reduceLeDiff, Nat.reduceLT, true_and, and_true, and_self, if_true, if_false]
  | r + 1, k, u, hk, hC, hf => by
    obtain ⟨hM, h3, -⟩ := sC_M hC
    have hs' : u q 2 = nI n := by rw [hf q hq.1 hq.2.1, hs]
    have hv : u (q + 1) k = C k := by rw [hf (q + 1) hq.2.2.1 hq.2.2.2]; exact (hc k (by omega)).1
    have zt := z74
    unfold zPp at zt
    have y := zj74 (j := j) (by omega)
    have b47 := c_47 (d := d + 4) (w := w) (x := nI k) z hn hs'
    have ek : (nI k).toNatClampNeg = k := nI_clamp (by omega)
    have ek2 : 0 ≤ nI k := nI_pos' (by omega)
    have ek3 : k < 24 := by omega
    rw [ek, hv] at b47
    unfold zSh at z
    have he : ¬ nI n ≤ nI k := nI_ge (by omega) (by omega)
    have hin := s_isN_j (n := n) (j := k) (by omega) (by omega)
    by_cases hno : C k = sNO
    · have hb : s_isnum (nI k) n (C k) = false := by
        unfold s_isnum
        rw [hin, decide_eq_true hno]
        rfl
      obtain ⟨v1, a1, a2, a3⟩ := c_26 (d := d) (w := w) hC
      obtain ⟨v', g1, g2⟩ := c_105L (d := d) (w := w) (R := R) z hq hn hs hc hj r (k + 1) v1 (by omega) a2 (fth_t hf (fun q h h19 => a3 q h h19))
      refine ⟨v', ?_, g2⟩
      have hd : s_dn R C j (k + 1) = s_dn R C j k := by
        show s_dn R C j k + s_an (C k) _ = _
        unfold s_an
        rw [if_pos hno]
        rfl
      rw [hd, nI_succ] at g1
      refine (bq_105_16 (d + 6) 16 q _ _ _ (QM u w)).trans ?_
      simp only [QM_kd, QM_sz, QM_lk, QM_i, QM_wi, zI, qs_bI, qs_bV, qb_0, zQ, z, zt, hs', he, b47, hb, a1, g1, Bool.true_eq_false, Nat.reduceSub, Nat.reduceLeDiff, Nat.reduceLT, true_and, and_true, and_self, if_true, if_false]
    · have hb : s_isnum (nI k) n (C k) = true := by
        unfold s_isnum
        rw [hin, decide_eq_false hno]
        rfl
      obtain ⟨v0, b1, b2⟩ := c_19 (d := d + 3) (w := w) hC hj
      have hC0 := sC_19 hC b2
      obtain ⟨l, l1, l2⟩ := s_leak_n (s_go R k) (s_jo (s_go R k) j)
      rw [l2] at b1
      have hv0 : v0 (q + 1) k = C k := by rw [b2 _ hq.2.2.2, hv]
      obtain ⟨v1, a1, a2, a3⟩ := c_26 (d := d) (w := w) hC0
      obtain ⟨v', g1, g2⟩ := c_105L (d := d) (w := w) (R := R) z hq hn hs hc hj r (k + 1) v1 (by omega) a2 (fth_t (fth_t hf (fun q _ h => b2 q h)) (fun q h h19 => a3 q h h19))
      refine ⟨v', ?_, g2⟩
      have hd : nI (s_dn R C j (k + 1)) = nI (s_dn R C j k) + qs_abs (nI l - C k) := by
        rw [qabs_an (hc k (by omega)).2 hno l1, nI_add]
        show nI (s_dn R C j k + s_an (C k) _) = _
        rw [l2]
      rw [hd, nI_succ] at g1
      refine (bq_105_16 (d + 6) 16 q _ _ _ (QM u w)).trans ?_
      simp only [QM_kd, QM_sz, QM_lk, QM_i, QM_wi, zI, qs_bI, qs_bV, qb_0, zQ, z, zt, y, hs', he, b47, hb, b1, hv0, ek, ek2, ek3, a1, g1, Nat.add_sub_cancel, Nat.le_add_left, Bool.true_eq_false, Nat.reduceSub, Nat.reduceLeDiff, Nat.reduceLT, true_and, and_true, and_self, if_true, if_false]
theorem c_105 {d j M q n : Nat} {u : Nat → Nat → Int32} {w : Nat → Nat → Int64} {R C : Nat → Int32} (hC : sC u 52 R M) (z : zSh q) (hq : ¬ inP 74 q ∧ q ≠ 19 ∧ ¬ inP 74 (q + 1) ∧ q + 1 ≠ 19) (hn : n ≤ 24) (hs : u q 2 = nI n) (hc : ∀ k, k < n → u (q + 1) k = C k ∧ s_cz (C k)) (hj : j < M) : ∃ v', qs_call (d + 7) 105 [.ref 16, .ref q, .int (nI j)] (QM u w) = some (some (.int (nI (s_dn R C j n))), QM v' w) ∧ fth u v' := by
  obtain ⟨v1, a1, a2, a3⟩ := th_take (d := d + 3) (w := w) hC
  obtain ⟨v', g1, g2⟩ := c_105L (d := d) (u0 := u) (w := w) (R := R) (C := C) z hq hn hs hc hj n 0 v1 (by omega) a2 a3
  refine ⟨v', ?_, g2⟩
  have zt := z74
  unfold zPp at zt
  have e0 : nI (s_dn R C j 0) = 0 := rfl
  rw [e0, nI_0] at g1
  refine (bq_105_0 (d + 6) 16 q _ (QM u w)).trans ?_
  simp only [QM_kd, QM_sz, QM_lk, QM_i, QM_wi, zI, qs_bI, qs_bV, qb_0, zQ, zt, a1, Bool.true_eq_false, Nat.reduceSub, Nat.reduceLeDiff, Nat.reduceLT, true_and, and_true, and_self, if_true, if_false]
  exact g1
theorem d_75L {d M q n : Nat} {u0 : Nat → Nat → Int32} {w : Nat → Nat → Int64} {R C : Nat → Int32} {x : Int32} {o1 : Option Value} (z : zSh q) (hq : ¬ inP 74 q ∧ q ≠ 19 ∧ ¬ inP 74 (q + 1) ∧ q + 1 ≠ 19 ∧ q ≠ 139 ∧ q + 1 ≠ 139) (hn : n ≤ 24) (hs : u0 q 2 = nI n) (hc : ∀ k, k < n → u0 (q + 1) k = C k ∧ s_cz (C k)) : ∀ (r k : Nat) (u : Nat → Nat → Int32), k + r = M → sC u 52 R M → fthL u0 u → (u 139 0, u 139 1) = s_best (s_dF R C n) k → ∃ v', qs_EV (d + 7) 75 45 [some (.ref 16), o1, some (.int x), some (.ref q), some (.int (nI k))] [] (QM u w) = some (some (.int (s_pick (s_best (s_dF R C n) M) x)), QM v' w) ∧ fthL u0 v'
  | 0, k, u, hk, hC, hf, hb => by
    obtain rfl : k = M := by omega
    obtain ⟨hM, h3, hr1⟩ := sC_M hC
    have zz := z52
    unfold zPp at zz
    have he : nI k ≤ nI k := nI_le (Nat.le_refl _) (by omega)
    have b215 := c_215 (d := d + 6) (w := w) (x := x) hb
    refine ⟨u, ?_, hf⟩
    refine (bq_75_45 (d + 7) 16 _ _ _ _ (QM u w)).trans ?_
    simp only [QM_kd, QM_sz, QM_lk, QM_i, QM_wi, zI, qs_bI, qs_bV, qb_0, zQ, zLe, zz, h3, he, b215, Bool.true_eq_false, Nat.reduceSub, Nat.reduceLeDiff, Nat.reduceLT, true_and, and_true, and_self, if_true, if_false]
  | r + 1, k, u, hk, hC, hf, hb => by
    obtain ⟨hM, h3, hr1⟩ := sC_M hC
    have zz := z52
    unfold zPp at zz
    have he : ¬ nI M ≤ nI k := nI_ge (by omega) (by omega)
    obtain ⟨v1, a1, a2⟩ := c_105 (d := d) (w := w) (j := k) (C := C) hC z ⟨hq.1, hq.2.1, hq.2.2.1, hq.2.2.2.1⟩ hn (by rw [hf q hq.1 hq.2.1 hq.2.2.2.2.1, hs]) (fun i hi => by rw [hf _ hq.2.2.1 hq.2.2.2.1 hq.2.2.2.2.2]; exact hc i hi) (by omega)
    obtain ⟨v4, e4, e5, e6⟩ := c_214 (d := d + 6) (u := v1) (w := w) (b := s_best (s_dF R C n) k) (x := nI k) (y := nI (s_dn R C k n)) (by rw [fth_139 a2]; exact hb)
    have hf4 : fthL u v4 := fthL_t a2.L (fthL_1 e6)
    obtain ⟨v', g, g2⟩ := d_75L (d := d) (w := w) (x := x) (o1 := o1) z hq hn hs hc r (k + 1) v4 (by omega) (sC_52L hC hf4) (fthL_t hf hf4) e5
    refine ⟨v', ?_, g2⟩
    rw [nI_succ] at g
    refine (bq_75_45 (d + 7) 16 _ _ _ _ (QM u w)).trans ?_
    simp only [QM_kd, QM_sz, QM_lk, QM_i, QM_wi, zI, qs_bI, qs_bV, qb_0, zQ, zLe, zz, h3, he, a1, e4, Bool.true_eq_false, Nat.reduceSub, Nat.reduceLeDiff, Nat.reduceLT, true_and, and_true, and_self, if_true, if_false]
    exact g
theorem k_whose (x c : Int32) : sOK 75 162 [.int x, .int c] := by
  intro d u w h
  obtain ⟨M, hC, hH⟩ := h.1
  obtain ⟨hM, h3, hr1⟩ := sC_M hC
  have hSh := h.2.2.1
  have hS : ∀ s, s < 4 → 0 ≤ u 130 s → ∃ n, n ≤ 24 ∧ u 131 s = nI n ∧ ∀ k, k < n → s_cz (u 132 (24 * s + k)) := fun s hs _ => by
    obtain ⟨-, -, -, ⟨n, n1, n2⟩, h5⟩ := hSh s hs
    exact ⟨n, n1, n2, fun k hk => (h5 k (by omega)).2⟩
  have cls : ∃ u1, qs_call (d + 120) 75 [.ref 16, .int x, .int c] (QM u w) = some (some (.int (s_whose (u 117) (u 130) (u 131) (u 132) M x c)), QM u1 w) ∧ fthL u u1 := by
    unfold s_whose
    by_cases g1 : s_in x 0 3 = false
    · refine ⟨u, ?_, fthL_r u⟩
      refine (bq_75_0 (d + 119) 16 _ _ (QM u w)).trans ?_
      rw [if_pos g1]
      simp only [QM_kd, QM_sz, QM_lk, QM_i, QM_wi, zI, qs_bI, qs_bV, qb_0, c_100, g1, Bool.true_eq_false, Nat.reduceSub, Nat.reduceLeDiff, Nat.reduceLT, true_and, and_true, and_self, if_true, if_false]
      rfl
    obtain ⟨s, hs, rfl⟩ := s_nf (n := 3) g1 rfl (by omega)
    have es : (nI s).toNatClampNeg = s := nI_clamp (by omega)
    have es2 : 0 ≤ nI s := nI_pos' (by omega)
    have es3 : s < 4 := by omega
    rw [es, if_neg g1]
    by_cases g2 : s_in c 0 1 = false
    · refine ⟨u, ?_, fthL_r u⟩
      refine (bq_75_0 (d + 119) 16 _ _ (QM u w)).trans ?_
      rw [if_pos g2]
      simp only [QM_kd, QM_sz, QM_lk, QM_i, QM_wi, zI, qs_bI, qs_bV, qb_0, c_100, c_97, g1, g2, Bool.true_eq_false, Nat.reduceSub, Nat.reduceLeDiff, Nat.reduceLT, true_and, and_true, and_self, if_true, if_false]
      rfl
    rw [if_neg g2]
    obtain ⟨e1, e2, e3, ⟨n, n1, n2⟩, e5⟩ := hSh s es3
    have zs := zS es3
    have zq := zs.2.2
    unfold zS1 at zs
    have z4 := zq.1
    have b44 := c_44 (d := d + 118) (u := u) (w := w) zq
    rw [e1] at b44
    by_cases g3 : 0 ≤ u 130 s
    · rw [if_pos g3]
      have g4 : ¬ u 130 s = -1 := fun q => absurd g3 (by rw [q]; decide)
      have en : (u 131 s).toNatClampNeg = n := by rw [n2]; exact nI_clamp (by omega)
      rw [en]
      rw [decide_eq_false g4] at b44
      obtain ⟨v0, c1, c2, c3⟩ := c_213 (d := d + 118) (u := u) (w := w)
      obtain ⟨v', k1, k2⟩ := d_75L (d := d + 112) (u0 := u) (w := w) (R := u 117) (C := fun k => u 132 (24 * s + k)) (x := c) (o1 := some (.int (nI s))) zq (by unfold inP; omega) n1 (by rw [e2, n2]) (fun k hk => e5 k (by omega)) M 0 v0 (by omega) (sC_52L hC (fthL_1 c3)) (fthL_1 c3) c2
      refine ⟨v', ?_, k2⟩
      rw [nI_0] at k1
      refine (bq_75_0 (d + 119) 16 _ _ (QM u w)).trans ?_
      simp only [QM_kd, QM_sz, QM_lk, QM_i, QM_wi, zI, qs_bI, qs_bV, qb_0, c_100, c_97, g1, g2, zQ, zLe, zs, z4, es, es2, es3, b44, c1, Nat.add_sub_cancel, Nat.le_add_left, Bool.true_eq_false, Nat.reduceSub, Nat.reduceLeDiff, Nat.reduceLT, true_and, and_true, and_self, if_true, if_false]
      exact k1
    · rw [if_neg g3]
      have g4 : u 130 s = -1 := by
        rcases e3 with q | q | q
        · exact q
        · exact absurd (by rw [q]; decide) g3
        · exact absurd (by rw [q]; decide) g3
      rw [decide_eq_true g4] at b44
      refine ⟨u, ?_, fthL_r u⟩
      refine (bq_75_0 (d + 119) 16 _ _ (QM u w)).trans ?_
      simp only [QM_kd, QM_sz, QM_lk, QM_i, QM_wi, zI, qs_bI, qs_bV, qb_0, c_100, c_97, g1, g2, zQ, zs, z4, es, es2, es3, b44, Nat.add_sub_cancel, Nat.le_add_left, Bool.true_eq_false, Nat.reduceSub, Nat.reduceLeDiff, Nat.reduceLT, true_and, and_true, and_self, if_true, if_false]
      rfl
  obtain ⟨u1, a1, a2⟩ := cls
  have f : ∀ q, 85 ≤ q → q < 139 → u1 q = u q := fun q hq hq2 => a2 q (by unfold inP; omega) (by omega) (by omega)
  obtain ⟨u2, w2, b1, b2⟩ := mq_162 (d := d + 113) (u := u1) (w := w) (x := x) (c := c) hM (by rw [f 117 (by omega) (by omega)]; exact hr1) (by rw [f 117 (by omega) (by omega)]; exact hC.2.2.1.2.2.2.2.1) (by rw [f 130 (by omega) (by omega), f 131 (by omega) (by omega), f 132 (by omega) (by omega)]; exact hS)
  rw [f 117 (by omega) (by omega), f 130 (by omega) (by omega), f 131 (by omega) (by omega), f 132 (by omega) (by omega)] at b1
  exact ⟨_, u1, u2, w2, a1, b1, inv_thL h a2 b2⟩
