/-! WHOSE, in the reference -/
theorem s_cl_n {n : Nat} (x : Int32) (hn : n < 2 ^ 31) : ∃ k, k ≤ n ∧ s_cl 0 (nI n) x = nI k := by
  unfold s_cl
  by_cases h1 : 0 ≤ x
  · rw [if_pos h1]
    by_cases h2 : x ≤ nI n
    · rw [if_pos h2]
      obtain ⟨k, hk, rfl⟩ := nI_of (Int32.not_lt.mpr h1)
      exact ⟨k, (nI_leI hk hn).mp h2, rfl⟩
    · rw [if_neg h2]
      exact ⟨n, Nat.le_refl _, rfl⟩
  · rw [if_neg h1]
    exact ⟨0, Nat.zero_le _, rfl⟩
theorem s_leak_n (R J : Nat → Int32) : ∃ l, l ≤ 9999 ∧ s_leak R J = nI l := by
  unfold s_leak
  by_cases h : J 0 = 5
  · rw [if_pos h]
    exact ⟨60, by omega, rfl⟩
  · rw [if_neg h]
    exact s_cl_n (n := 9999) _ (by omega)
/-- how far two numbers are apart -/
def s_an (v l : Int32) : Nat := if v = sNO then 0 else (v.toInt - l.toInt).natAbs
def s_off (v l : Int32) : Int64 := if v = sNO then 0 else if 0 ≤ lg_cmp (v.toInt64 - l.toInt64) 0 then v.toInt64 - l.toInt64 else -(v.toInt64 - l.toInt64)
/-- a place of a row: no number, or not too far out -/
def s_cz (v : Int32) : Prop := v = sNO ∨ (-99999 ≤ v.toInt ∧ v.toInt ≤ 99999)
theorem i64_0 : (0 : Int64).toInt = 0 := by decide
theorem lg_0 (x : Int64) : 0 ≤ lg_cmp x 0 ↔ 0 ≤ x.toInt := by
  unfold lg_cmp
  by_cases h : x > 0
  · have h2 : (0 : Int64) < x := h
    have h3 := Int64.lt_iff_toInt_lt.mp h2
    rw [i64_0] at h3
    rw [if_pos h]
    constructor
    · intro _
      omega
    · intro _
      decide
  · have h2 : ¬ (0 : Int64) < x := h
    rw [if_neg h]
    have h3 : ¬ (0 : Int64).toInt < x.toInt := fun q => h2 (Int64.lt_iff_toInt_lt.mpr q)
    rw [i64_0] at h3
    by_cases h4 : x = 0
    · rw [if_pos h4]
      subst h4
      rw [i64_0]
      constructor
      · intro _
        omega
      · intro _
        decide
    · rw [if_neg h4]
      have h5 : x.toInt ≠ 0 := fun q => h4 (Int64.toInt_inj.mp (by rw [q, i64_0]))
      constructor
      · intro q
        exact absurd q (by decide)
      · intro q
        omega
theorem s_off_eq {v : Int32} {l : Nat} (h : s_cz v) (hl : l ≤ 9999) : s_off v (nI l) = lN (s_an v (nI l)) := by
  unfold s_off s_an
  by_cases hv : v = sNO
  · rw [if_pos hv, if_pos hv]
    rfl
  · rw [if_neg hv, if_neg hv]
    have hb : -99999 ≤ v.toInt ∧ v.toInt ≤ 99999 := by
      rcases h with q | q
      · exact absurd q hv
      · exact q
    have hl2 : (nI l).toInt = (l : Int) := nI_toInt (by omega)
    have e : (v.toInt64 - (nI l).toInt64).toInt = v.toInt - l := by
      rw [Int64.toInt_sub, Int32.toInt_toInt64, Int32.toInt_toInt64, hl2]
      rw [Int.bmod_eq_of_le] <;> omega
    have e2 : (-(v.toInt64 - (nI l).toInt64)).toInt = -(v.toInt - l) := by
      rw [Int64.toInt_neg, e]
      rw [Int.bmod_eq_of_le] <;> omega
    apply Int64.toInt_inj.mp
    rw [lN_toInt (by rw [hl2]; omega), hl2]
    by_cases h0 : 0 ≤ lg_cmp (v.toInt64 - (nI l).toInt64) 0
    · rw [if_pos h0, e]
      have := (lg_0 _).mp h0
      omega
    · rw [if_neg h0, e2]
      have : ¬ 0 ≤ (v.toInt64 - (nI l).toInt64).toInt := fun q => h0 ((lg_0 _).mpr q)
      omega
/-- how far apart, together, a joint is behind k hours and k places -/
def s_dn (R C : Nat → Int32) (j : Nat) : Nat → Nat
  | 0 => 0
  | k + 1 => s_dn R C j k + s_an (C k) (s_leak (s_go R k) (s_jo (s_go R k) j))
theorem s_an_le {v : Int32} {l : Nat} (h : s_cz v) (hl : l ≤ 9999) : s_an v (nI l) ≤ 109998 := by
  unfold s_an
  by_cases hv : v = sNO
  · rw [if_pos hv]
    omega
  · rw [if_neg hv, nI_toInt (by omega)]
    rcases h with q | q
    · exact absurd q hv
    · omega
theorem s_dn_le {R C : Nat → Int32} {j : Nat} : ∀ n, (∀ k, k < n → s_cz (C k)) → s_dn R C j n ≤ n * 109998
  | 0, _ => by simp [s_dn]
  | n + 1, h => by
    have ih := s_dn_le (R := R) (C := C) (j := j) n (fun k hk => h k (by omega))
    obtain ⟨l, hl, e⟩ := s_leak_n (s_go R n) (s_jo (s_go R n) j)
    have h2 := s_an_le (h n (by omega)) hl
    unfold s_dn
    rw [e]
    omega
theorem qv_at2 (w : Nat → Nat → Int64) (k j : Nat) (x : Int64) (a b : Nat) (h : ¬ (a = k ∧ b = j)) : qv w k j x a b = w a b := by
  rw [qv_at, if_neg h]
theorem ix_cl {s k : Nat} (hs : s < 4) (hk : k < 24) : (24 * nI s + nI k).toNatClampNeg = 24 * s + k ∧ 0 ≤ 24 * nI s + nI k := by
  have e : 24 * nI s + nI k = nI (24 * s + k) := by
    rw [← nI_add, ← nI_times]
    rfl
  rw [e]
  exact ⟨nI_clamp (by omega), nI_pos' (by omega)⟩
/-- all joints' differences are 0 first -/
theorem mq_162A {d : Nat} {u : Nat → Nat → Int32} {x1 x2 : Int32} {M : Nat} (hM : M ≤ 8) (o5 o6 o7 o8 : Option Value) : ∀ (r k : Nat) (w : Nat → Nat → Int64), k + r = M → (∀ j, j < k → w 121 j = lN 0) → ∃ w', qs_EV d 162 45 [some (.ref 116), some (.int x1), some (.int x2), some (.int (nI M)), some (.int (nI k)), o5, o6, o7, o8] [] (QM u w) = qs_EV d 162 68 [some (.ref 116), some (.int x1), some (.int x2), some (.int (nI M)), some (.int (nI 0)), o5, o6, o7, o8] [] (QM u w') ∧ (∀ j, j < M → w' 121 j = lN 0)
  | 0, k, w, hk, hw => by
    obtain rfl : k = M := by omega
    refine ⟨w, ?_, hw⟩
    refine (bq_162_45 d 116 _ _ _ _ _ _ _ _ (QM u w)).trans ?_
    rw [if_pos (nI_le (Nat.le_refl _) (by omega))]
    rfl
  | r + 1, k, w, hk, hw => by
    obtain ⟨w', g1, g2⟩ := mq_162A (d := d) (u := u) (x1 := x1) (x2 := x2) hM o5 o6 o7 o8 r (k + 1) (qv w 121 k 0) (by omega) (fun j hj => by
      rw [qv_at]
      by_cases e : j = k
      · rw [if_pos ⟨rfl, e⟩]
        rfl
      · rw [if_neg (by omega)]
        exact hw j (by omega))
    refine ⟨w', ?_, g2⟩
    refine (bq_162_45 d 116 _ _ _ _ _ _ _ _ (QM u w)).trans ?_
    rw [if_neg (nI_ge (by omega) (by omega))]
    have e2 : (nI k).toNatClampNeg = k := nI_clamp (by omega)
    have e3 : 0 ≤ nI k := nI_pos' (by omega)
    have e4 : k < 8 := by omega
    rw [nI_succ] at g1
    simp only [QM_kd, QM_sz, QM_lk, QM_i, QM_wi, zM, zI, qs_bI, qs_bV, qb_0, QM_wj, e2, e3, e4, g1, Bool.true_eq_false, Nat.reduceSub, Nat.reduceLeDiff, Nat.reduceLT, true_and, and_true, and_self, if_true, if_false]
/-- one hour: all joints' differences -/
theorem mq_162B {d : Nat} {R C : Nat → Int32} {x1 x2 : Int32} {M k : Nat} {v : Int32} (hM : M ≤ 8) (h1 : R 1 = nI M) (ht : s_tx R) (hv : v = C k) (hz : s_cz v) (x4 : Int32) : ∀ (r j : Nat) (o7 o8 : Option Value) (u : Nat → Nat → Int32) (w : Nat → Nat → Int64), j + r = M → u 117 = s_go R k → (∀ i, i < j → w 121 i = lN (s_dn R C i (k + 1))) → (∀ i, j ≤ i → i < M → w 121 i = lN (s_dn R C i k)) → ∃ u' w' o7' o8', qs_EV (d + 5) 162 96 [some (.ref 116), some (.int x1), some (.int x2), some (.int (nI M)), some (.int x4), some (.int v), some (.int (nI j)), o7, o8] [] (QM u w) = qs_EV (d + 5) 162 96 [some (.ref 116), some (.int x1), some (.int x2), some (.int (nI M)), some (.int x4), some (.int v), some (.int (nI M)), o7', o8'] [] (QM u' w') ∧ (∀ i, i < M → w' 121 i = lN (s_dn R C i (k + 1))) ∧ ∀ a, a ≠ 128 → a ≠ 129 → u' a = u a
  | 0, j, o7, o8, u, w, hj, hu, hw1, hw2 => by
    obtain rfl : j = M := by omega
    exact ⟨u, w, o7, o8, rfl, hw1, fun _ _ _ => rfl⟩
  | r + 1, j, o7, o8, u, w, hj, hu, hw1, hw2 => by
    obtain ⟨l, hl, el⟩ := s_leak_n (s_go R k) (s_jo (s_go R k) j)
    obtain ⟨v1, a1, a2⟩ := mq_120 (d := d + 1) (j := j) (x1 := nI j) rfl (by omega) (u := u) (w := w) (by rw [hu]; exact s_go_tx h1 hM ht k)
    rw [hu, el] at a1
    have e7 : w 121 j + s_off v (nI l) = lN (s_dn R C j (k + 1)) := by
      rw [hw2 j (Nat.le_refl _) (by omega), s_off_eq hz hl, lN_add]
      show _ = lN (s_dn R C j k + s_an (C k) (s_leak (s_go R k) (s_jo (s_go R k) j)))
      rw [el, hv]
    obtain ⟨u', w', o7', o8', g1, g2, g3⟩ := mq_162B (d := d) (x1 := x1) (x2 := x2) hM h1 ht hv hz x4 r (j + 1) (some (.long (v.toInt64 - (nI l).toInt64))) none v1 (qv w 121 j (w 121 j + s_off v (nI l))) (by omega) (by rw [a2 117 (by decide) (by decide), hu]) (fun i hi => by
      rw [qv_at]
      by_cases e : i = j
      · rw [if_pos ⟨rfl, e⟩, e7, e]
      · rw [if_neg (by omega)]
        exact hw1 i (by omega)) (fun i hi1 hi2 => by
      rw [qv_at, if_neg (by omega)]
      exact hw2 i (by omega) hi2)
    refine ⟨u', w', o7', o8', ?_, g2, fun a p1 p2 => by rw [g3 a p1 p2, a2 a p1 p2]⟩
    rw [← g1]
    refine (bq_162_96 (d + 5) 116 _ _ _ _ _ _ _ _ (QM u w)).trans ?_
    rw [if_neg (nI_ge (by omega) (by omega))]
    have e2 : (nI j).toNatClampNeg = j := nI_clamp (by omega)
    have e3 : 0 ≤ nI j := nI_pos' (by omega)
    have e4 : j < 8 := by omega
    rw [nI_succ]
    unfold s_off
    by_cases hn : v = sNO
    · rw [if_pos hn]
      simp only [QM_kd, QM_sz, QM_lk, QM_i, QM_wi, zM, zI, qs_bI, qs_bV, qb_0, QM_wj, QM_l, a1, e2, e3, e4, show v = -1000000005 from hn, Bool.true_eq_false, Nat.reduceSub, Nat.reduceLeDiff, Nat.reduceLT, true_and, and_true, and_self, if_true, if_false]
    · rw [if_neg hn]
      by_cases h0 : 0 ≤ lg_cmp (v.toInt64 - (nI l).toInt64) 0
      · rw [if_pos h0]
        simp only [QM_kd, QM_sz, QM_lk, QM_i, QM_wi, zM, zI, qs_bI, qs_bV, qb_0, QM_wj, QM_l, a1, e2, e3, e4, show ¬ v = -1000000005 from hn, h0, Bool.true_eq_false, Nat.reduceSub, Nat.reduceLeDiff, Nat.reduceLT, true_and, and_true, and_self, if_true, if_false]
      · rw [if_neg h0]
        simp only [QM_kd, QM_sz, QM_lk, QM_i, QM_wi, zM, zI, qs_bI, qs_bV, qb_0, QM_wj, QM_l, a1, e2, e3, e4, show ¬ v = -1000000005 from hn, h0, Bool.true_eq_false, Nat.reduceSub, Nat.reduceLeDiff, Nat.reduceLT, true_and, and_true, and_self, if_true, if_false]
/-- hour by hour -/
theorem mq_162C {d : Nat} {u0 : Nat → Nat → Int32} {x2 : Int32} {M s n : Nat} (hM : M ≤ 8) (h1 : u0 117 1 = nI M) (ht : s_tx (u0 117)) (hs : s < 4) (hn : n ≤ 24) (hsz : u0 131 s = nI n) (hz : ∀ k, k < n → s_cz (u0 132 (24 * s + k))) : ∀ (r k : Nat) (o5 o6 o7 o8 : Option Value) (u : Nat → Nat → Int32) (w : Nat → Nat → Int64), k + r = n → u 117 = s_go (u0 117) k → (∀ i, i < 76 → u 120 i = u0 117 i) → (∀ a, a ≠ 117 → a ≠ 120 → a ≠ 128 → a ≠ 129 → u a = u0 a) → (∀ i, i < M → w 121 i = lN (s_dn (u0 117) (fun k => u0 132 (24 * s + k)) i k)) → ∃ u' w' p6 p7 p8, qs_EV (d + 6) 162 68 [some (.ref 116), some (.int (nI s)), some (.int x2), some (.int (nI M)), some (.int (nI k)), o5, o6, o7, o8] [] (QM u w) = qs_EV (d + 6) 162 177 [some (.ref 116), some (.int (nI s)), some (.int x2), some (.int (nI M)), some (.int 0), some (.int 1), p6, p7, p8] [] (QM u' w') ∧ fT u0 u' ∧ (∀ i, i < M → w' 121 i = lN (s_dn (u0 117) (fun k => u0 132 (24 * s + k)) i n))
  | 0, k, o5, o6, o7, o8, u, w, hk, hu, h2, h3, hw => by
    obtain rfl : k = n := by omega
    obtain ⟨v1, e1, e2⟩ := mb_fin (d := d + 5) (u0 := u0) (u := u) (w := w) (by rw [hu]; exact s_go_hi h1 hM _) h2 h3
    refine ⟨v1, w, o6, o7, o8, ?_, e2, hw⟩
    refine (bq_162_68 (d + 6) 116 _ _ _ _ _ _ _ _ (QM u w)).trans ?_
    have f1 : (nI s).toNatClampNeg = s := nI_clamp (by omega)
    have f2 : 0 ≤ nI s := nI_pos' (by omega)
    have f3 : u 131 s = nI k := by rw [h3 131 (by decide) (by decide) (by decide) (by decide), hsz]
    have f4 : nI k ≤ nI k := nI_le (Nat.le_refl _) (by omega)
    simp only [QM_kd, QM_sz, QM_lk, QM_i, QM_wi, zM, zI, qs_bI, qs_bV, qb_0, f1, f2, f3, f4, hs, e1, Bool.true_eq_false, Nat.reduceSub, Nat.reduceLeDiff, Nat.reduceLT, true_and, and_true, and_self, if_true, if_false]
  | r + 1, k, o5, o6, o7, o8, u, w, hk, hu, h2, h3, hw => by
    have c132 : u 132 (24 * s + k) = u0 132 (24 * s + k) := by rw [h3 132 (by decide) (by decide) (by decide) (by decide)]
    obtain ⟨v1, w1, o7', o8', b1, b2, b3⟩ := mq_162B (d := d + 1) (R := u0 117) (C := fun k => u0 132 (24 * s + k)) (x1 := nI s) (x2 := x2) (k := k) (v := u0 132 (24 * s + k)) hM h1 ht rfl (hz k (by omega)) (nI k) M 0 o7 o8 u w (by omega) hu (fun i hi => by omega) (fun i _ hi => hw i hi)
    obtain ⟨v2, c1, c2, c3⟩ := mq_139 (d := d) (u := v1) (w := w1) hM (by rw [b3 117 (by decide) (by decide), hu, s_go_1, h1]) (by rw [b3 117 (by decide) (by decide), hu]; exact s_go_tx h1 hM ht k)
    obtain ⟨u', w', p6, p7, p8, g1, g2, g3⟩ := mq_162C (d := d) (u0 := u0) (x2 := x2) hM h1 ht hs hn hsz hz r (k + 1) (some (.int (u0 132 (24 * s + k)))) (some (.int (nI M))) o7' o8' v2 w1 (by omega) (by rw [c2, b3 117 (by decide) (by decide), hu]; rfl) (fun i hi => by rw [c3 120 (by decide) (by decide) (by decide), b3 120 (by decide) (by decide), h2 i hi]) (fun a p1 p2 p3 p4 => by rw [c3 a p1 p3 p4, b3 a p3 p4, h3 a p1 p2 p3 p4]) b2
    refine ⟨u', w', p6, p7, p8, ?_, g2, g3⟩
    rw [← g1]
    refine (bq_162_68 (d + 6) 116 _ _ _ _ _ _ _ _ (QM u w)).trans ?_
    have f1 : (nI s).toNatClampNeg = s := nI_clamp (by omega)
    have f2 : 0 ≤ nI s := nI_pos' (by omega)
    have f3 : u 131 s = nI n := by rw [h3 131 (by decide) (by decide) (by decide) (by decide), hsz]
    have f4 : ¬ nI n ≤ nI k := nI_ge (by omega) (by omega)
    have f5 := ix_cl (s := s) (k := k) hs (by omega)
    have f6 : 24 * s + k < 96 := by omega
    have f7 : nI M ≤ nI M := nI_le (Nat.le_refl _) (by omega)
    rw [nI_0] at b1
    simp only [QM_kd, QM_sz, QM_lk, QM_i, QM_wi, zM, zI, qs_bI, qs_bV, qb_0, f1, f2, f3, f4, hs, f5, f6, c132, b1, Bool.true_eq_false, Nat.reduceSub, Nat.reduceLeDiff, Nat.reduceLT, true_and, and_true, and_self, if_true, if_false]
    refine (bq_162_96 (d + 6) 116 _ _ _ _ _ _ _ _ (QM v1 w1)).trans ?_
    rw [nI_succ]
    simp only [QM_kd, QM_sz, QM_lk, QM_i, QM_wi, zM, zI, qs_bI, qs_bV, qb_0, f7, c1, Bool.true_eq_false, Nat.reduceSub, Nat.reduceLeDiff, Nat.reduceLT, true_and, and_true, and_self, if_true, if_false]
def s_dF (R C : Nat → Int32) (n k : Nat) : Int32 × Int32 := (nI k, nI (s_dn R C k n))
theorem lg_le {a b : Nat} (ha : a < 2 ^ 31) (hb : b < 2 ^ 31) : 0 ≤ lg_cmp (lN a) (lN b) ↔ b ≤ a := by
  unfold lg_cmp
  by_cases h : lN a > lN b
  · rw [if_pos h]
    have h2 : lN b < lN a := h
    have h3 := (lN_lt hb ha).mp h2
    constructor
    · intro _
      omega
    · intro _
      decide
  · rw [if_neg h]
    have h3 : ¬ b < a := fun q => h ((lN_lt hb ha).mpr q)
    by_cases h4 : lN a = lN b
    · rw [if_pos h4]
      have := (lN_eq ha hb).mp h4
      constructor
      · intro _
        omega
      · intro _
        decide
    · rw [if_neg h4]
      constructor
      · intro q
        exact absurd q (by decide)
      · intro q
        exact absurd (by rw [show a = b by omega]) h4
theorem nI_sNO {k : Nat} (h : k < 2 ^ 31) : ¬ nI k = sNO := by
  intro q
  have h1 : (nI k).toInt = (k : Int) := nI_toInt h
  have h2 : sNO.toInt = -1000000005 := by decide
  rw [q, h2] at h1
  omega
/-- who it is, so far -/
theorem mq_162D {d : Nat} {u : Nat → Nat → Int32} {w : Nat → Nat → Int64} {x2 : Int32} {M n : Nat} {R C : Nat → Int32} (o1 o6 o7 o8 : Option Value) (hM : M ≤ 8) (h0 : 0 < M) (hD : ∀ i, i < M → s_dn R C i n < 2 ^ 31) (hw : ∀ i, i < M → w 121 i = lN (s_dn R C i n)) : ∀ (r k b : Nat), k + r = M → 1 ≤ k → b < M → s_best (s_dF R C n) k = (nI b, nI (s_dn R C b n)) → qs_EV d 162 177 [some (.ref 116), o1, some (.int x2), some (.int (nI M)), some (.int (nI b)), some (.int (nI k)), o6, o7, o8] [] (QM u w) = some (some (.int (s_pick (s_best (s_dF R C n) M) x2)), QM u w)
  | 0, k, b, hk, h1, hb, he => by
    obtain rfl : k = M := by omega
    refine (bq_162_177 d 116 _ _ _ _ _ _ _ _ (QM u w)).trans ?_
    have f0 : ¬ nI k = 0 := nI_ne0 h0 (by omega)
    have f1 : nI k ≤ nI k := nI_le (Nat.le_refl _) (by omega)
    have f2 : (nI b).toNatClampNeg = b := nI_clamp (by omega)
    have f3 : 0 ≤ nI b := nI_pos' (by omega)
    have f4 : b < 8 := by omega
    rw [he]
    unfold s_pick
    by_cases hx : x2 = 0
    · simp only [QM_kd, QM_sz, QM_lk, QM_i, QM_wi, zM, zI, qs_bI, qs_bV, qb_0, f0, f1, hx, Bool.true_eq_false, Nat.reduceSub, Nat.reduceLeDiff, Nat.reduceLT, true_and, and_true, and_self, if_true, if_false]
    · simp only [QM_kd, QM_sz, QM_lk, QM_i, QM_wi, zM, zI, qs_bI, qs_bV, qb_0, QM_l, f0, f1, f2, f3, f4, hx, hw b hb, lN_i, Bool.true_eq_false, Nat.reduceSub, Nat.reduceLeDiff, Nat.reduceLT, true_and, and_true, and_self, if_true, if_false]
  | r + 1, k, b, hk, h1, hb, he => by
    have ih := mq_162D (d := d) (u := u) (w := w) (x2 := x2) o1 o6 o7 o8 hM h0 hD hw r (k + 1)
    have f1 : ¬ nI M ≤ nI k := nI_ge (by omega) (by omega)
    have f2 : (nI b).toNatClampNeg = b := nI_clamp (by omega)
    have f3 : 0 ≤ nI b := nI_pos' (by omega)
    have f4 : b < 8 := by omega
    have f5 : (nI k).toNatClampNeg = k := nI_clamp (by omega)
    have f6 : 0 ≤ nI k := nI_pos' (by omega)
    have f7 : k < 8 := by omega
    have hs : s_best (s_dF R C n) (k + 1) = s_see (nI b, nI (s_dn R C b n)) (nI k) (nI (s_dn R C k n)) := by
      show s_see (s_best (s_dF R C n) k) _ _ = _
      rw [he]
      rfl
    refine (bq_162_177 d 116 _ _ _ _ _ _ _ _ (QM u w)).trans ?_
    by_cases hc : s_dn R C b n ≤ s_dn R C k n
    · have h2 := (lg_le (hD k (by omega)) (hD b hb)).mpr hc
      have h3 := ih b (by omega) (by omega) hb (by
        rw [hs]
        unfold s_see
        rw [if_neg (nI_sNO (by omega)), if_pos (nI_le hc (hD k (by omega)))])
      rw [nI_succ] at h3
      simp only [QM_kd, QM_sz, QM_lk, QM_i, QM_wi, zM, zI, qs_bI, qs_bV, qb_0, QM_l, f1, f2, f3, f4, f5, f6, f7, hw b hb, hw k (by omega), h2, h3, Bool.true_eq_false, Nat.reduceSub, Nat.reduceLeDiff, Nat.reduceLT, true_and, and_true, and_self, if_true, if_false]
    · have h2 : ¬ 0 ≤ lg_cmp (lN (s_dn R C k n)) (lN (s_dn R C b n)) := fun q => hc ((lg_le (hD k (by omega)) (hD b hb)).mp q)
      have h3 := ih k (by omega) (by omega) (by omega) (by
        rw [hs]
        unfold s_see
        rw [if_neg (nI_sNO (by omega)), if_neg (nI_ge (by omega) (hD b hb))])
      rw [nI_succ] at h3
      simp only [QM_kd, QM_sz, QM_lk, QM_i, QM_wi, zM, zI, qs_bI, qs_bV, qb_0, QM_l, f1, f2, f3, f4, f5, f6, f7, hw b hb, hw k (by omega), h2, h3, Bool.true_eq_false, Nat.reduceSub, Nat.reduceLeDiff, Nat.reduceLT, true_and, and_true, and_self, if_true, if_false]
def sNOTH : Int32 := -1000000011
def s_whose (R S Z C : Nat → Int32) (M : Nat) (x c : Int32) : Int32 :=
  if s_in x 0 3 = false then sBAD else if s_in c 0 1 = false then sBAD else if 0 ≤ S x.toNatClampNeg then s_pick (s_best (s_dF R (fun k => C (24 * x.toNatClampNeg + k)) (Z x.toNatClampNeg).toNatClampNeg) M) c else sNOTH
theorem mc_184 {d : Nat} {x0 : Int32} {m : qs_M} : qs_call (d + 2) 184 [.int x0] m = some (some (.int (qb (s_in x0 0 3))), m) := by
  refine (bq_184_0 (d + 1) x0 m).trans ?_
  simp only [mc_108, qs_bI, qb_01, if_true]
theorem mq_162 {d : Nat} {u : Nat → Nat → Int32} {w : Nat → Nat → Int64} {x c : Int32} {M : Nat} (hM : M ≤ 8) (h1 : u 117 1 = nI M) (ht : s_tx (u 117)) (hS : ∀ s, s < 4 → 0 ≤ u 130 s → ∃ n, n ≤ 24 ∧ u 131 s = nI n ∧ ∀ k, k < n → s_cz (u 132 (24 * s + k))) : ∃ v' w', qs_call (d + 7) 162 [.ref 116, .int x, .int c] (QM u w) = some (some (.int (s_whose (u 117) (u 130) (u 131) (u 132) M x c)), QM v' w') ∧ fT u v' := by
  unfold s_whose
  by_cases g1 : s_in x 0 3 = false
  · refine ⟨u, w, ?_, fT_r u⟩
    refine (bq_162_0 (d + 6) 116 _ _ (QM u w)).trans ?_
    rw [if_pos g1]
    simp only [QM_kd, QM_sz, QM_lk, QM_i, QM_wi, zM, zI, qs_bI, qs_bV, qb_0, mc_184, g1, Bool.true_eq_false, Nat.reduceSub, Nat.reduceLeDiff, Nat.reduceLT, true_and, and_true, and_self, if_true, if_false]
    rfl
  obtain ⟨s, hs, rfl⟩ := s_in_n (x := x) (a := 0) (b := 3) (n := 3) (by simpa using g1) (by decide) rfl (by omega)
  have es : (nI s).toNatClampNeg = s := nI_clamp (by omega)
  have es2 : 0 ≤ nI s := nI_pos' (by omega)
  have es3 : s < 4 := by omega
  rw [es, if_neg g1]
  by_cases g2 : s_in c 0 1 = false
  · refine ⟨u, w, ?_, fT_r u⟩
    refine (bq_162_0 (d + 6) 116 _ _ (QM u w)).trans ?_
    rw [if_pos g2]
    simp only [QM_kd, QM_sz, QM_lk, QM_i, QM_wi, zM, zI, qs_bI, qs_bV, qb_0, mc_184, mc_108, g1, g2, Bool.true_eq_false, Nat.reduceSub, Nat.reduceLeDiff, Nat.reduceLT, true_and, and_true, and_self, if_true, if_false]
    rfl
  rw [if_neg g2]
  by_cases g3 : 0 ≤ u 130 s
  · rw [if_pos g3]
    obtain ⟨n, hn, hsz, hz⟩ := hS s es3 g3
    have en : (u 131 s).toNatClampNeg = n := by rw [hsz]; exact nI_clamp (by omega)
    rw [en]
    obtain ⟨v1, a1, a2, a3⟩ := mb_148 (d := d + 5) (u := u) (w := w)
    obtain ⟨w1, b1, b2⟩ := mq_162A (d := d + 6) (u := v1) (x1 := nI s) (x2 := c) hM none none none none M 0 w (by omega) (fun j hj => by omega)
    obtain ⟨u', w', p6, p7, p8, c1, c2, c3⟩ := mq_162C (d := d) (u0 := u) (x2 := c) hM h1 ht es3 hn hsz hz n 0 none none none none v1 w1 (by omega) (by rw [a3 117 (by decide)]; rfl) a2 (fun a p1 p2 p3 p4 => a3 a p2) b2
    have hD : ∀ i, i < M → s_dn (u 117) (fun k => u 132 (24 * s + k)) i n < 2 ^ 31 := fun i _ => by
      have := s_dn_le (R := u 117) (C := fun k => u 132 (24 * s + k)) (j := i) n hz
      omega
    have hfin : qs_EV (d + 6) 162 177 [some (.ref 116), some (.int (nI s)), some (.int c), some (.int (nI M)), some (.int 0), some (.int 1), p6, p7, p8] [] (QM u' w') = some (some (.int (s_pick (s_best (s_dF (u 117) (fun k => u 132 (24 * s + k)) n) M) c)), QM u' w') := by
      rcases Nat.eq_zero_or_pos M with rfl | h0
      · refine (bq_162_177 (d + 6) 116 _ _ _ _ _ _ _ _ (QM u' w')).trans ?_
        rw [if_pos (by decide), if_pos (show nI 0 = 0 from rfl)]
        unfold s_pick
        split <;> rfl
      · exact mq_162D (d := d + 6) (u := u') (w := w') (x2 := c) _ p6 p7 p8 hM h0 hD c3 (M - 1) 1 0 (by omega) (by omega) h0 rfl
    refine ⟨u', w', ?_, c2⟩
    refine (bq_162_0 (d + 6) 116 _ _ (QM u w)).trans ?_
    rw [nI_0] at b1
    simp only [QM_kd, QM_sz, QM_lk, QM_i, QM_wi, zM, zI, qs_bI, qs_bV, qb_0, mc_184, mc_108, g1, g2, es, es2, es3, g3, a1, a3 117 (by decide), h1, Bool.true_eq_false, Nat.reduceSub, Nat.reduceLeDiff, Nat.reduceLT, true_and, and_true, and_self, if_true, if_false]
    rw [b1]
    rw [nI_0] at c1
    rw [c1, hfin]
  · rw [if_neg g3]
    refine ⟨u, w, ?_, fT_r u⟩
    refine (bq_162_0 (d + 6) 116 _ _ (QM u w)).trans ?_
    simp only [QM_kd, QM_sz, QM_lk, QM_i, QM_wi, zM, zI, qs_bI, qs_bV, qb_0, mc_184, mc_108, g1, g2, es, es2, es3, g3, Bool.true_eq_false, Nat.reduceSub, Nat.reduceLeDiff, Nat.reduceLT, true_and, and_true, and_self, if_true, if_false]
    rfl
