/-! SHEETS: mark, pour, reads, call by call -/
theorem i_s16 (v : Int32) : s_cz v.toInt16.toInt32 := by
  right
  have h := v.toInt16.toInt_lt
  have h2 := v.toInt16.le_toInt
  rw [Int16.toInt_toInt32]
  omega
theorem s_cz_in {v : Int32} (h : s_in v (-99999) 99999 = true) : s_cz v := by
  right
  unfold s_in at h
  have h2 := of_decide_eq_true h
  have h3 := Int32.le_iff_toInt_le.mp h2.1
  have h4 := Int32.le_iff_toInt_le.mp h2.2
  have i1 : (99999 : Int32).toInt = 99999 := by decide
  have i2 : (-99999 : Int32).toInt = -99999 := by decide
  omega
theorem iSh_set {u v : Nat → Nat → Int32} {s k : Nat} {x : Int32} (h : iSh u) (hs : s < 4) (hk : k < 24) (hx : s_cz x) (e1 : v = qu (qu u (88 + 2 * s + 1) k x) 132 (24 * s + k) x) : iSh v := by
  intro t ht
  obtain ⟨h1, h2, h3, h4, h5⟩ := h t ht
  have o : ∀ a, a ≠ 88 + 2 * s + 1 → a ≠ 132 → v a = u a := fun a p q => by rw [e1, qu_ne _ _ _ q, qu_ne _ _ _ p]
  rw [o (88 + 2 * t) (by omega) (by omega), o 130 (by omega) (by omega), o 131 (by omega) (by omega)]
  refine ⟨h1, h2, h3, h4, fun i hi => ?_⟩
  have f1 : v (88 + 2 * t + 1) i = if t = s ∧ i = k then x else u (88 + 2 * t + 1) i := by
    rw [e1, qu_ne _ _ _ (by omega), qu_at]
    by_cases e : t = s ∧ i = k
    · rw [if_pos (by omega), if_pos e]
    · rw [if_neg (by omega), if_neg e]
  have f2 : v 132 (24 * t + i) = if t = s ∧ i = k then x else u 132 (24 * t + i) := by
    rw [e1, qu_at, qu_ne _ _ _ (by omega)]
    by_cases e : t = s ∧ i = k
    · rw [if_pos (by omega), if_pos e]
    · rw [if_neg (by omega), if_neg e]
  rw [f1, f2]
  by_cases e : t = s ∧ i = k
  · rw [if_pos e, if_pos e]
    exact ⟨rfl, hx⟩
  · rw [if_neg e, if_neg e]
    exact h5 i hi
theorem k_mark (x p v : Int32) : sOK 84 187 [.int x, .int p, .int v] := by
  intro d u w h
  by_cases g1 : s_in x 0 3 = false
  · refine ⟨sBAD, u, u, w, ?_, ?_, h⟩
    · refine (bq_84_0 (d + 119) 16 _ _ _ (QM u w)).trans ?_
      simp only [QM_kd, QM_sz, QM_lk, QM_i, QM_wi, zI, qs_bI, qs_bV, qb_0, c_100, g1, Bool.true_eq_false, Nat.reduceSub, Nat.reduceLeDiff, Nat.reduceLT, true_and, and_true, and_self, if_true, if_false]
      rfl
    · refine (bq_187_0 (d + 119) 116 _ _ _ (QM u w)).trans ?_
      simp only [QM_kd, QM_sz, QM_lk, QM_i, QM_wi, zM, zI, qs_bI, qs_bV, qb_0, mc_184, g1, Bool.true_eq_false, Nat.reduceSub, Nat.reduceLeDiff, Nat.reduceLT, true_and, and_true, and_self, if_true, if_false]
      rfl
  obtain ⟨s, hs, rfl⟩ := s_nf (n := 3) g1 rfl (by omega)
  have es : (nI s).toNatClampNeg = s := nI_clamp (by omega)
  have es2 : 0 ≤ nI s := nI_pos' (by omega)
  have es3 : s < 4 := by omega
  have zs := zS es3
  have zq := zs.2.2
  unfold zS1 at zs
  obtain ⟨e1, e2, e3, ⟨n, n1, n2⟩, e5⟩ := h.2.2.1 s es3
  have b44 := c_44 (d := d + 118) (u := u) (w := w) zq
  rw [e1] at b44
  have b45 := c_45 (d := d + 118) (u := u) (w := w) (x := p) zq (show n ≤ 96 by omega) (by rw [e2, n2])
  have z4 := zq
  unfold zSh at z4
  by_cases g2 : u 130 s = -1
  · rw [decide_eq_true g2] at b44
    refine ⟨sNOTH, u, u, w, ?_, ?_, h⟩
    · refine (bq_84_0 (d + 119) 16 _ _ _ (QM u w)).trans ?_
      simp only [QM_kd, QM_sz, QM_lk, QM_i, QM_wi, zI, qs_bI, qs_bV, qb_0, c_100, g1, zQ, zs, z4, es, es2, es3, b44, Nat.add_sub_cancel, Nat.le_add_left, Bool.true_eq_false, Nat.reduceSub, Nat.reduceLeDiff, Nat.reduceLT, true_and, and_true, and_self, if_true, if_false]
      rfl
    · refine (bq_187_0 (d + 119) 116 _ _ _ (QM u w)).trans ?_
      simp only [QM_kd, QM_sz, QM_lk, QM_i, QM_wi, zM, zI, qs_bI, qs_bV, qb_0, mc_184, g1, es, es2, es3, g2, show ¬ (0 : Int32) ≤ -1 by decide, Bool.true_eq_false, Nat.reduceSub, Nat.reduceLeDiff, Nat.reduceLT, true_and, and_true, and_self, if_true, if_false]
      rfl
  have g3 : 0 ≤ u 130 s := by rcases e3 with q | q | q
                              · exact absurd q g2
                              · rw [q]; decide
                              · rw [q]; decide
  rw [decide_eq_false g2] at b44
  by_cases g4 : s_in p 0 (nI n - 1) = false
  · refine ⟨-1000000013, u, u, w, ?_, ?_, h⟩
    · refine (bq_84_0 (d + 119) 16 _ _ _ (QM u w)).trans ?_
      simp only [QM_kd, QM_sz, QM_lk, QM_i, QM_wi, zI, qs_bI, qs_bV, qb_0, c_100, g1, zQ, zs, z4, es, es2, es3, b44, b45, g4, Nat.add_sub_cancel, Nat.le_add_left, Bool.true_eq_false, Nat.reduceSub, Nat.reduceLeDiff, Nat.reduceLT, true_and, and_true, and_self, if_true, if_false]
    · refine (bq_187_0 (d + 119) 116 _ _ _ (QM u w)).trans ?_
      simp only [QM_kd, QM_sz, QM_lk, QM_i, QM_wi, zM, zI, qs_bI, qs_bV, qb_0, mc_184, mc_108, g1, es, es2, es3, g3, n2, g4, Bool.true_eq_false, Nat.reduceSub, Nat.reduceLeDiff, Nat.reduceLT, true_and, and_true, and_self, if_true, if_false]
  obtain ⟨k, hk, rfl⟩ := (s_isN (show n ≤ 96 by omega)).mp (by simpa using g4)
  have ek : (nI k).toNatClampNeg = k := nI_clamp (by omega)
  have ek2 : 0 ≤ nI k := nI_pos' (by omega)
  have ek3 : k < 24 := by omega
  have ix := ix_cl (s := s) (k := k) es3 ek3
  have ix2 : 24 * s + k < 96 := by omega
  have fin : ∀ y, s_cz y → sINV (qu (qu u (88 + 2 * s + 1) k y) 132 (24 * s + k) y) := fun y hy =>
    inv_sh h (fun q h1 h2 h3 => by rw [qu_ne _ _ _ (by omega), qu_ne _ _ _ (by omega)]) (iSh_set h.2.2.1 es3 ek3 hy rfl)
  have c131 : ∀ (a j : Nat) (y : Int32), a ≠ 88 + 2 * s + 1 → qu u (88 + 2 * s + 1) j y a = u a := fun a j y q => qu_ne _ _ _ q
  have c30 := fun j y => c131 130 j y (by omega)
  have c31 := fun j y => c131 131 j y (by omega)
  by_cases g5 : u 130 s = 0
  · by_cases g6 : v = -1000000005
    · refine ⟨sKIND, u, u, w, ?_, ?_, h⟩
      · refine (bq_84_0 (d + 119) 16 _ _ _ (QM u w)).trans ?_
        simp only [QM_kd, QM_sz, QM_lk, QM_i, QM_wi, zI, qs_bI, qs_bV, qb_0, c_100, g1, zQ, zs, z4, es, es2, es3, b44, b45, g4, e1, g5, g6, Nat.add_sub_cancel, Nat.le_add_left, Bool.true_eq_false, Nat.reduceSub, Nat.reduceLeDiff, Nat.reduceLT, true_and, and_true, and_self, if_true, if_false]
        rfl
      · refine (bq_187_0 (d + 119) 116 _ _ _ (QM u w)).trans ?_
        simp only [QM_kd, QM_sz, QM_lk, QM_i, QM_wi, zM, zI, qs_bI, qs_bV, qb_0, mc_184, mc_108, g1, es, es2, es3, g3, n2, g4, g5, g6, Bool.true_eq_false, Nat.reduceSub, Nat.reduceLeDiff, Nat.reduceLT, true_and, and_true, and_self, if_true, if_false]
        rfl
    · refine ⟨1, qu u (88 + 2 * s + 1) k v.toInt16.toInt32, _, w, ?_, ?_, fin v.toInt16.toInt32 (i_s16 v)⟩
      · refine (bq_84_0 (d + 119) 16 _ _ _ (QM u w)).trans ?_
        simp only [QM_kd, QM_sz, QM_lk, QM_i, QM_wi, zI, qs_bI, qs_bV, qb_0, c_100, g1, zQ, zs, z4, es, es2, es3, b44, b45, g4, e1, g5, g6, ek, ek2, ek3, Nat.add_sub_cancel, Nat.le_add_left, Bool.true_eq_false, Nat.reduceSub, Nat.reduceLeDiff, Nat.reduceLT, true_and, and_true, and_self, if_true, if_false]
      · refine (bq_187_0 (d + 119) 116 _ _ _ (QM _ w)).trans ?_
        simp only [QM_kd, QM_sz, QM_lk, QM_i, QM_wi, zM, zI, qs_bI, qs_bV, qb_0, mc_184, mc_108, g1, es, es2, es3, c30, c31, n2, g4, g5, g6, ix, ix2, show ¬ (0 : Int32) = 1 by decide, Bool.true_eq_false, Nat.reduceSub, Nat.reduceLeDiff, Nat.reduceLT, true_and, and_true, and_self, if_true, if_false]
  have g5' : u 130 s = 1 := by rcases e3 with q | q | q
                               · exact absurd q g2
                               · exact absurd q g5
                               · exact q
  by_cases g6 : v = -1000000005
  · refine ⟨1, qu u (88 + 2 * s + 1) k v, _, w, ?_, ?_, fin v (Or.inl g6)⟩
    · refine (bq_84_0 (d + 119) 16 _ _ _ (QM u w)).trans ?_
      simp only [QM_kd, QM_sz, QM_lk, QM_i, QM_wi, zI, qs_bI, qs_bV, qb_0, c_100, g1, zQ, zs, z4, es, es2, es3, b44, b45, g4, e1, g5', g6, ek, ek2, ek3, show ¬ (1 : Int32) = 0 by decide, Nat.add_sub_cancel, Nat.le_add_left, Bool.true_eq_false, Nat.reduceSub, Nat.reduceLeDiff, Nat.reduceLT, true_and, and_true, and_self, if_true, if_false]
    · refine (bq_187_0 (d + 119) 116 _ _ _ (QM _ w)).trans ?_
      simp only [QM_kd, QM_sz, QM_lk, QM_i, QM_wi, zM, zI, qs_bI, qs_bV, qb_0, mc_184, mc_108, g1, es, es2, es3, c30, c31, n2, g4, g5', g6, ix, ix2, show ¬ (1 : Int32) = 0 by decide, Bool.true_eq_false, Nat.reduceSub, Nat.reduceLeDiff, Nat.reduceLT, true_and, and_true, and_self, if_true, if_false]
  by_cases g7 : s_in v (-99999) 99999 = false
  · refine ⟨sBAD, u, u, w, ?_, ?_, h⟩
    · refine (bq_84_0 (d + 119) 16 _ _ _ (QM u w)).trans ?_
      by_cases g8 : v < -99999
      · simp only [QM_kd, QM_sz, QM_lk, QM_i, QM_wi, zI, qs_bI, qs_bV, qb_0, c_100, g1, zQ, zs, z4, es, es2, es3, b44, b45, g4, e1, g5', g6, g8, show ¬ (1 : Int32) = 0 by decide, Nat.add_sub_cancel, Nat.le_add_left, Bool.true_eq_false, Nat.reduceSub, Nat.reduceLeDiff, Nat.reduceLT, true_and, and_true, and_self, if_true, if_false]
        rfl
      · have g9 : ¬ v ≤ 99999 := Int32.not_le.mpr ((s_range.mp g7).resolve_left g8)
        simp only [QM_kd, QM_sz, QM_lk, QM_i, QM_wi, zI, qs_bI, qs_bV, qb_0, c_100, g1, zQ, zs, z4, es, es2, es3, b44, b45, g4, e1, g5', g6, g8, g9, show ¬ (1 : Int32) = 0 by decide, Nat.add_sub_cancel, Nat.le_add_left, Bool.true_eq_false, Nat.reduceSub, Nat.reduceLeDiff, Nat.reduceLT, true_and, and_true, and_self, if_true, if_false]
        rfl
    · refine (bq_187_0 (d + 119) 116 _ _ _ (QM u w)).trans ?_
      simp only [QM_kd, QM_sz, QM_lk, QM_i, QM_wi, zM, zI, qs_bI, qs_bV, qb_0, mc_184, mc_108, g1, es, es2, es3, g3, n2, g4, g5', g6, g7, show ¬ (1 : Int32) = 0 by decide, Bool.true_eq_false, Nat.reduceSub, Nat.reduceLeDiff, Nat.reduceLT, true_and, and_true, and_self, if_true, if_false]
      rfl
  have g8 : ¬ v < -99999 := fun q => g7 (s_range.mpr (Or.inl q))
  have g9 : v ≤ 99999 := Int32.not_lt.mp (fun q => g7 (s_range.mpr (Or.inr q)))
  refine ⟨1, qu u (88 + 2 * s + 1) k v, _, w, ?_, ?_, fin v (s_cz_in (by simpa using g7))⟩
  · refine (bq_84_0 (d + 119) 16 _ _ _ (QM u w)).trans ?_
    simp only [QM_kd, QM_sz, QM_lk, QM_i, QM_wi, zI, qs_bI, qs_bV, qb_0, c_100, g1, zQ, zs, z4, es, es2, es3, b44, b45, g4, e1, g5', g6, g8, g9, ek, ek2, ek3, show ¬ (1 : Int32) = 0 by decide, Nat.add_sub_cancel, Nat.le_add_left, Bool.true_eq_false, Nat.reduceSub, Nat.reduceLeDiff, Nat.reduceLT, true_and, and_true, and_self, if_true, if_false]
  · refine (bq_187_0 (d + 119) 116 _ _ _ (QM _ w)).trans ?_
    simp only [QM_kd, QM_sz, QM_lk, QM_i, QM_wi, zM, zI, qs_bI, qs_bV, qb_0, mc_184, mc_108, g1, es, es2, es3, c30, c31, n2, g4, g5', g6, g7, ix, ix2, show ¬ (1 : Int32) = 0 by decide, Bool.true_eq_false, Nat.reduceSub, Nat.reduceLeDiff, Nat.reduceLT, true_and, and_true, and_self, if_true, if_false]
/-- what pour does: how many are otherwise, the row then -/
def s_po (R C : Nat → Int32) : Nat → Nat × (Nat → Int32)
  | 0 => (0, R)
  | k + 1 => if C k = sNO then s_po R C k else if s_jo (s_po R C k).2 k 1 = s_cl 0 40 (C k) then s_po R C k else ((s_po R C k).1 + 1, upd (s_po R C k).2 (12 + 8 * k + 1) (s_cl 0 40 (C k)))
theorem s_po_le (R C : Nat → Int32) : ∀ k, (s_po R C k).1 ≤ k
  | 0 => Nat.le_refl _
  | k + 1 => by
    have ih := s_po_le R C k
    unfold s_po
    (repeat' split) <;> first | omega | (show (s_po R C k).1 + 1 ≤ k + 1; omega)
theorem s_po_at (R C : Nat → Int32) {i : Nat} (hi : i < 12 ∨ 76 ≤ i) : ∀ k, k ≤ 8 → (s_po R C k).2 i = R i
  | 0, _ => rfl
  | k + 1, hk => by
    have ih := s_po_at R C hi k (by omega)
    unfold s_po
    split
    · exact ih
    · split
      · exact ih
      · show upd (s_po R C k).2 _ _ i = R i
        rw [upd_lo _ _ (by omega), ih]
theorem d_85L {d M s n : Nat} {R C : Nat → Int32} {w : Nat → Nat → Int64} {o1 : Option Value} (hs : s < 4) (hn : n ≤ 24) : ∀ (r k : Nat) (o5 : Option Value) (u : Nat → Nat → Int32), k + r = min M n → sC u 52 (s_po R C k).2 M → u (88 + 2 * s) 2 = nI n → (∀ i, i < n → u (88 + 2 * s + 1) i = C i) → ∃ v', qs_EV (d + 2) 85 32 [some (.ref 16), o1, some (.ref (88 + 2 * s)), some (.int (nI (s_po R C k).1)), some (.int (nI k)), o5] [] (QM u w) = some (some (.int (nI (s_po R C (min M n)).1)), QM v' w) ∧ sC v' 52 (s_po R C (min M n)).2 M ∧ ∀ q, ¬ inP 52 q → v' q = u q
  | 0, k, o5, u, hk, hC, hz, hc => by
    obtain rfl : k = min M n := by omega
    obtain ⟨hM, h3, -⟩ := sC_M hC
    have z := z52
    unfold zPp at z
    have zs := (zS hs).2.2
    unfold zSh at zs
    refine ⟨u, ?_, hC, fun _ _ => rfl⟩
    refine (bq_85_32 (d + 2) 16 _ _ _ _ _ (QM u w)).trans ?_
    by_cases hm : M ≤ n
    · rw [Nat.min_eq_left hm]
      simp only [QM_kd, QM_sz, QM_lk, QM_i, QM_wi, zI, qs_bI, qs_bV, qb_0, zQ, z, h3, show nI M ≤ nI M from nI_le (Nat.le_refl _) (by omega), Bool.true_eq_false, Nat.reduceSub, Nat.reduceLeDiff, Nat.reduceLT, true_and, and_true, and_self, if_true, if_false]
    · rw [Nat.min_eq_right (by omega)]
      simp only [QM_kd, QM_sz, QM_lk, QM_i, QM_wi, zI, qs_bI, qs_bV, qb_0, zQ, z, zs, h3, hz, show ¬ nI M ≤ nI n from nI_ge (by omega) (by omega), show nI n ≤ nI n from nI_le (Nat.le_refl _) (by omega), Bool.true_eq_false, Nat.reduceSub, Nat.reduceLeDiff, Nat.reduceLT, true_and, and_true, and_self, if_true, if_false]
  | r + 1, k, o5, u, hk, hC, hz, hc => by
    obtain ⟨hM, h3, -⟩ := sC_M hC
    have z := z52
    unfold zPp at z
    have zq := (zS hs).2.2
    have zs := zq
    unfold zSh at zs
    have y := zj52 (j := k) (by omega)
    have f1 : ¬ nI M ≤ nI k := nI_ge (by omega) (by omega)
    have f2 : ¬ nI n ≤ nI k := nI_ge (by omega) (by omega)
    have f3 : k < 24 := by omega
    have e1 := sJ_e (c := 1) hC (show k < M by omega) (by omega)
    have b47 := c_47 (d := d) (w := w) (x := nI k) zq hn hz
    rw [y.2.2.2.2.2.2.2.2.2.2.2.1, hc k (by omega)] at b47
    have hin := s_isN_j (n := n) (j := k) (by omega) (by omega)
    have vc := hc k (by omega)
    by_cases hno : C k = sNO
    · have hb : s_isnum (nI k) n (C k) = false := by
        unfold s_isnum
        rw [hin, decide_eq_true hno]
        rfl
      have hS : s_po R C (k + 1) = s_po R C k := if_pos hno
      obtain ⟨v', g1, g2, g3⟩ := d_85L (d := d) (M := M) (n := n) (w := w) (o1 := o1) (R := R) (C := C) hs hn r (k + 1) (some (.int (s_cl 0 40 (C k)))) u (by omega) (by rw [hS]; exact hC) hz hc
      refine ⟨v', ?_, g2, g3⟩
      rw [hS, nI_succ] at g1
      refine (bq_85_32 (d + 2) 16 _ _ _ _ _ (QM u w)).trans ?_
      simp only [QM_kd, QM_sz, QM_lk, QM_i, QM_wi, zI, qs_bI, qs_bV, qb_0, zQ, z, zs, y, h3, hz, f1, f2, f3, vc, c_98, b47, hb, g1, Nat.add_sub_cancel, Nat.le_add_left, Bool.true_eq_false, Nat.reduceSub, Nat.reduceLeDiff, Nat.reduceLT, true_and, and_true, and_self, if_true, if_false]
    · have hb : s_isnum (nI k) n (C k) = true := by
        unfold s_isnum
        rw [hin, decide_eq_false hno]
        rfl
      by_cases ht : s_jo (s_po R C k).2 k 1 = s_cl 0 40 (C k)
      · have hS : s_po R C (k + 1) = s_po R C k := (if_neg hno).trans (if_pos ht)
        obtain ⟨v', g1, g2, g3⟩ := d_85L (d := d) (M := M) (n := n) (w := w) (o1 := o1) (R := R) (C := C) hs hn r (k + 1) (some (.int (s_cl 0 40 (C k)))) u (by omega) (by rw [hS]; exact hC) hz hc
        refine ⟨v', ?_, g2, g3⟩
        rw [hS, nI_succ] at g1
        refine (bq_85_32 (d + 2) 16 _ _ _ _ _ (QM u w)).trans ?_
        simp only [QM_kd, QM_sz, QM_lk, QM_i, QM_wi, zI, qs_bI, qs_bV, qb_0, zQ, z, zs, y, h3, hz, f1, f2, f3, vc, c_98, b47, hb, e1, ht, g1, Nat.add_sub_cancel, Nat.le_add_left, Bool.true_eq_false, Nat.reduceSub, Nat.reduceLeDiff, Nat.reduceLT, true_and, and_true, and_self, if_true, if_false]
      · have hS : s_po R C (k + 1) = ((s_po R C k).1 + 1, upd (s_po R C k).2 (12 + 8 * k + 1) (s_cl 0 40 (C k))) := (if_neg hno).trans (if_neg ht)
        have hC2 := sC_jo (c := 1) (x := s_cl 0 40 (C k)) hC (show k < M by omega) (by omega) s_cl40
        obtain ⟨v', g1, g2, g3⟩ := d_85L (d := d) (M := M) (n := n) (w := w) (o1 := o1) (R := R) (C := C) hs hn r (k + 1) (some (.int (s_cl 0 40 (C k)))) (qu u (52 + 3 + k) 1 (s_cl 0 40 (C k))) (by omega) (by rw [hS]; exact hC2) (by rw [qu_ne _ _ _ (by omega), hz]) (fun i hi => by rw [qu_ne _ _ _ (by omega), hc i hi])
        refine ⟨v', ?_, g2, fun q hq => by rw [g3 q hq, qu_ne _ _ _ (ne_inP hq (inP_j (by omega)))]⟩
        rw [hS] at g1
        dsimp only at g1
        rw [nI_succ, nI_succ] at g1
        refine (bq_85_32 (d + 2) 16 _ _ _ _ _ (QM u w)).trans ?_
        simp only [QM_kd, QM_sz, QM_lk, QM_i, QM_wi, zI, qs_bI, qs_bV, qb_0, zQ, z, zs, y, h3, hz, f1, f2, f3, vc, c_98, b47, hb, e1, ht, g1, Nat.add_sub_cancel, Nat.le_add_left, Bool.true_eq_false, Nat.reduceSub, Nat.reduceLeDiff, Nat.reduceLT, true_and, and_true, and_self, if_true, if_false]
theorem mq_188L {d M s n : Nat} {R C : Nat → Int32} {w : Nat → Nat → Int64} (hs : s < 4) (hn : n ≤ 24) (hM : M ≤ 8) (h1 : R 1 = nI M) : ∀ (r k : Nat) (o4 o5 : Option Value) (u : Nat → Nat → Int32), k + r = min M n → u 117 = (s_po R C k).2 → u 131 s = nI n → (∀ i, i < n → u 132 (24 * s + i) = C i) → ∃ v', qs_EV (d + 1) 188 26 [some (.ref 116), some (.int (nI s)), some (.int (nI (s_po R C k).1)), some (.int (nI k)), o4, o5] [] (QM u w) = some (some (.int (nI (s_po R C (min M n)).1)), QM v' w) ∧ v' 117 = (s_po R C (min M n)).2 ∧ ∀ q, q ≠ 117 → v' q = u q
  | 0, k, o4, o5, u, hk, hu, hz, hc => by
    obtain rfl : k = min M n := by omega
    have es : (nI s).toNatClampNeg = s := nI_clamp (by omega)
    have es2 : 0 ≤ nI s := nI_pos' (by omega)
    have e1 : u 117 1 = nI M := by rw [hu, s_po_at _ _ (by omega) _ (by omega), h1]
    refine ⟨u, ?_, hu, fun _ _ => rfl⟩
    refine (bq_188_26 (d + 1) 116 _ _ _ _ _ (QM u w)).trans ?_
    by_cases hm : M < n
    · rw [Nat.min_eq_left (by omega)]
      simp only [QM_kd, QM_sz, QM_lk, QM_i, QM_wi, zM, zI, qs_bI, qs_bV, qb_0, es, es2, hs, hz, e1, show nI M ≤ nI M from nI_le (Nat.le_refl _) (by omega), show ¬ nI n ≤ nI M from nI_ge (by omega) (by omega), Bool.true_eq_false, Nat.reduceSub, Nat.reduceLeDiff, Nat.reduceLT, true_and, and_true, and_self, if_true, if_false]
    · rw [Nat.min_eq_right (by omega)]
      simp only [QM_kd, QM_sz, QM_lk, QM_i, QM_wi, zM, zI, qs_bI, qs_bV, qb_0, es, es2, hs, hz, e1, show nI n ≤ nI n from nI_le (Nat.le_refl _) (by omega), Bool.true_eq_false, Nat.reduceSub, Nat.reduceLeDiff, Nat.reduceLT, true_and, and_true, and_self, if_true, if_false]
  | r + 1, k, o4, o5, u, hk, hu, hz, hc => by
    have es : (nI s).toNatClampNeg = s := nI_clamp (by omega)
    have es2 : 0 ≤ nI s := nI_pos' (by omega)
    have e1 : u 117 1 = nI M := by rw [hu, s_po_at _ _ (by omega) _ (by omega), h1]
    have f1 : ¬ nI M ≤ nI k := nI_ge (by omega) (by omega)
    have f2 : ¬ nI n ≤ nI k := nI_ge (by omega) (by omega)
    have ix := ix_cl (s := s) (k := k) hs (by omega)
    have ix2 : 24 * s + k < 96 := by omega
    have vc := hc k (by omega)
    have ixj : 12 + 8 * nI k + 1 = nI (12 + 8 * k + 1) := ix_jc (j := k) (c := 1)
    have b114 := fun y => mq_114 (d := d) (i := 12 + 8 * k + 1) (x2 := y) (u := u) (w := w) ixj (by omega)
    by_cases hno : C k = sNO
    · have hS : s_po R C (k + 1) = s_po R C k := if_pos hno
      have hself : qu u 117 (12 + 8 * k + 1) (s_jo (u 117) k 1) = u := by
        funext a
        by_cases ha : a = 117
        · subst ha
          rw [qu_same]
          exact upd_self _ _
        · exact qu_ne _ _ _ ha
      obtain ⟨v', g1, g2, g3⟩ := mq_188L (d := d) (M := M) (n := n) (w := w) (R := R) (C := C) hs hn hM h1 r (k + 1) (some (.int (C k))) (some (.int (s_jo (u 117) k 1))) u (by omega) (by rw [hS]; exact hu) hz hc
      refine ⟨v', ?_, g2, g3⟩
      rw [hS, nI_succ] at g1
      refine (bq_188_26 (d + 1) 116 _ _ _ _ _ (QM u w)).trans ?_
      have b114' := b114 (s_jo (u 117) k 1)
      rw [hself] at b114'
      simp only [QM_kd, QM_sz, QM_lk, QM_i, QM_wi, zM, zI, qs_bI, qs_bV, qb_0, es, es2, hs, hz, e1, f1, f2, ix, ix2, vc, show C k = -1000000005 from hno, mc_112 1 (show nI k = nI k from rfl) (show k < 8 by omega) n_1 (by decide), b114', show u 117 (12 + 8 * k + 1) = s_jo (u 117) k 1 from rfl, Int32.add_zero, Bool.true_eq_false, Nat.reduceSub, Nat.reduceLeDiff, Nat.reduceLT, true_and, and_true, and_self, if_true, if_false]
      rw [show (-1000000005 : Int32) = C k from hno.symm]
      exact g1
    · by_cases ht : s_jo (s_po R C k).2 k 1 = s_cl 0 40 (C k)
      · have hS : s_po R C (k + 1) = s_po R C k := (if_neg hno).trans (if_pos ht)
        have hj : u 117 (12 + 8 * k + 1) = s_cl 0 40 (C k) := by rw [hu]; exact ht
        have hself : qu u 117 (12 + 8 * k + 1) (s_cl 0 40 (C k)) = u := by
          funext a
          by_cases ha : a = 117
          · subst ha
            rw [qu_same, ← hj]
            exact upd_self _ _
          · exact qu_ne _ _ _ ha
        obtain ⟨v', g1, g2, g3⟩ := mq_188L (d := d) (M := M) (n := n) (w := w) (R := R) (C := C) hs hn hM h1 r (k + 1) (some (.int (C k))) (some (.int (s_cl 0 40 (C k)))) u (by omega) (by rw [hS]; exact hu) hz hc
        refine ⟨v', ?_, g2, g3⟩
        rw [hS, nI_succ] at g1
        refine (bq_188_26 (d + 1) 116 _ _ _ _ _ (QM u w)).trans ?_
        have b114' := b114 (s_cl 0 40 (C k))
        rw [hself, hj] at b114'
        simp only [QM_kd, QM_sz, QM_lk, QM_i, QM_wi, zM, zI, qs_bI, qs_bV, qb_0, es, es2, hs, hz, e1, f1, f2, ix, ix2, vc, show ¬ C k = -1000000005 from hno, mc_109, b114', Int32.add_zero, Bool.true_eq_false, Nat.reduceSub, Nat.reduceLeDiff, Nat.reduceLT, true_and, and_true, and_self, if_true, if_false]
        exact g1
      · have hS : s_po R C (k + 1) = ((s_po R C k).1 + 1, upd (s_po R C k).2 (12 + 8 * k + 1) (s_cl 0 40 (C k))) := (if_neg hno).trans (if_neg ht)
        have hj : ¬ u 117 (12 + 8 * k + 1) = s_cl 0 40 (C k) := by rw [hu]; exact ht
        obtain ⟨v', g1, g2, g3⟩ := mq_188L (d := d) (M := M) (n := n) (w := w) (R := R) (C := C) hs hn hM h1 r (k + 1) (some (.int (C k))) (some (.int (s_cl 0 40 (C k)))) (qu u 117 (12 + 8 * k + 1) (s_cl 0 40 (C k))) (by omega) (by rw [qu_same, hu, hS]) (by rw [qu_ne _ _ _ (by omega), hz]) (fun i hi => by rw [qu_ne _ _ _ (by omega), hc i hi])
        refine ⟨v', ?_, g2, fun q hq => by rw [g3 q hq, qu_ne _ _ _ hq]⟩
        rw [hS] at g1
        dsimp only at g1
        rw [nI_succ, nI_succ] at g1
        refine (bq_188_26 (d + 1) 116 _ _ _ _ _ (QM u w)).trans ?_
        simp only [QM_kd, QM_sz, QM_lk, QM_i, QM_wi, zM, zI, qs_bI, qs_bV, qb_0, es, es2, hs, hz, e1, f1, f2, ix, ix2, vc, show ¬ C k = -1000000005 from hno, mc_109, b114, hj, Bool.true_eq_false, Nat.reduceSub, Nat.reduceLeDiff, Nat.reduceLT, true_and, and_true, and_self, if_true, if_false]
        exact g1
theorem k_pour (x : Int32) : sOK 85 188 [.int x] := by
  intro d u w h
  by_cases g1 : s_in x 0 3 = false
  · refine ⟨sBAD, u, u, w, ?_, ?_, h⟩
    · refine (bq_85_0 (d + 119) 16 _ (QM u w)).trans ?_
      simp only [QM_kd, QM_sz, QM_lk, QM_i, QM_wi, zI, qs_bI, qs_bV, qb_0, c_100, g1, Bool.true_eq_false, Nat.reduceSub, Nat.reduceLeDiff, Nat.reduceLT, true_and, and_true, and_self, if_true, if_false]
      rfl
    · refine (bq_188_0 (d + 119) 116 _ (QM u w)).trans ?_
      simp only [QM_kd, QM_sz, QM_lk, QM_i, QM_wi, zM, zI, qs_bI, qs_bV, qb_0, mc_184, g1, Bool.true_eq_false, Nat.reduceSub, Nat.reduceLeDiff, Nat.reduceLT, true_and, and_true, and_self, if_true, if_false]
      rfl
  obtain ⟨s, hs, rfl⟩ := s_nf (n := 3) g1 rfl (by omega)
  have es : (nI s).toNatClampNeg = s := nI_clamp (by omega)
  have es2 : 0 ≤ nI s := nI_pos' (by omega)
  have es3 : s < 4 := by omega
  have zs := zS es3
  have zq := zs.2.2
  have z4 := zq.1
  unfold zS1 at zs
  obtain ⟨e1, e2, e3, ⟨n, n1, n2⟩, e5⟩ := h.2.2.1 s es3
  have b44 := c_44 (d := d + 118) (u := u) (w := w) zq
  rw [e1] at b44
  by_cases g2 : u 130 s = -1
  · rw [decide_eq_true g2] at b44
    refine ⟨sNOTH, u, u, w, ?_, ?_, h⟩
    · refine (bq_85_0 (d + 119) 16 _ (QM u w)).trans ?_
      simp only [QM_kd, QM_sz, QM_lk, QM_i, QM_wi, zI, qs_bI, qs_bV, qb_0, c_100, g1, zQ, zs, z4, es, es2, es3, b44, Nat.add_sub_cancel, Nat.le_add_left, Bool.true_eq_false, Nat.reduceSub, Nat.reduceLeDiff, Nat.reduceLT, true_and, and_true, and_self, if_true, if_false]
      rfl
    · refine (bq_188_0 (d + 119) 116 _ (QM u w)).trans ?_
      simp only [QM_kd, QM_sz, QM_lk, QM_i, QM_wi, zM, zI, qs_bI, qs_bV, qb_0, mc_184, g1, es, es2, es3, g2, show ¬ (0 : Int32) ≤ -1 by decide, Bool.true_eq_false, Nat.reduceSub, Nat.reduceLeDiff, Nat.reduceLT, true_and, and_true, and_self, if_true, if_false]
      rfl
  have g3 : 0 ≤ u 130 s := by rcases e3 with q | q | q
                              · exact absurd q g2
                              · rw [q]; decide
                              · rw [q]; decide
  rw [decide_eq_false g2] at b44
  obtain ⟨M, hC, hH⟩ := h.1
  obtain ⟨hM, h3, hr1⟩ := sC_M hC
  obtain ⟨u1, a1, a2, a3⟩ := d_85L (d := d + 117) (M := M) (n := n) (w := w) (o1 := some (.int (nI s))) (R := u 117) (C := fun i => u 132 (24 * s + i)) es3 n1 (min M n) 0 none u (by omega) hC (by rw [e2, n2]) (fun i hi => (e5 i (by omega)).1)
  have f : ∀ q, 63 ≤ q → u1 q = u q := fun q hq => a3 q (by unfold inP; omega)
  obtain ⟨u2, b1, b2, b3⟩ := mq_188L (d := d + 118) (M := M) (n := n) (w := w) (R := u 117) (C := fun i => u 132 (24 * s + i)) es3 n1 hM hr1 (min M n) 0 none none u1 (by omega) (by rw [f 117 (by omega)]; rfl) (by rw [f 131 (by omega), n2]) (fun i hi => by rw [f 132 (by omega)])
  have p0 : nI (s_po (u 117) (fun i => u 132 (24 * s + i)) 0).1 = 0 := rfl
  rw [p0, nI_0] at a1 b1
  refine ⟨nI (s_po (u 117) (fun i => u 132 (24 * s + i)) (min M n)).1, u1, u2, w, ?_, ?_, inv_now h (fun q h1 _ => a3 q h1) a2 (sHr_of hH (s_po_at _ _ (by omega) _ (by omega))) (s_po_at _ _ (by omega) _ (by omega)) b2 (fun a h1 _ _ => b3 a h1)⟩
  · refine (bq_85_0 (d + 119) 16 _ (QM u w)).trans ?_
    simp only [QM_kd, QM_sz, QM_lk, QM_i, QM_wi, zI, qs_bI, qs_bV, qb_0, c_100, g1, zQ, zs, z4, es, es2, es3, b44, Nat.add_sub_cancel, Nat.le_add_left, Bool.true_eq_false, Nat.reduceSub, Nat.reduceLeDiff, Nat.reduceLT, true_and, and_true, and_self, if_true, if_false]
    exact a1
  · refine (bq_188_0 (d + 119) 116 _ (QM u1 w)).trans ?_
    simp only [QM_kd, QM_sz, QM_lk, QM_i, QM_wi, zM, zI, qs_bI, qs_bV, qb_0, mc_184, g1, es, es2, es3, f 130 (by omega), g3, Bool.true_eq_false, Nat.reduceSub, Nat.reduceLeDiff, Nat.reduceLT, true_and, and_true, and_self, if_true, if_false]
    exact b1
