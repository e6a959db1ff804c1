/-! TOLD, BEHIND, FULL, SHUT, DEAL, FEE, FINE, in the reference -/
def s_told (R : Nat → Int32) (M : Nat) (x c : Int32) : Int32 :=
  if s_in x 0 (nI M - 1) = false then sBAD else
  if c = 0 then s_jo R x.toNatClampNeg 0 else if c = 1 then s_jo R x.toNatClampNeg 1 else if c = 2 then s_jo R x.toNatClampNeg 2 else if c = 3 then s_jo R x.toNatClampNeg 3 else if c = 4 then s_jo R x.toNatClampNeg 4 else if c = 5 then s_jo R x.toNatClampNeg 5 else if c = 6 then s_jo R x.toNatClampNeg 6 else if c = 7 then s_jo R x.toNatClampNeg 7 else if c = 8 then s_grip (s_jo R x.toNatClampNeg) (R 3) else if c = 9 then s_leak R (s_jo R x.toNatClampNeg) else if c = 10 then s_bears (s_jo R x.toNatClampNeg) else if c = 11 then nI (s_it R M M x.toNatClampNeg) else if c = 12 then s_worth (s_jo R x.toNatClampNeg) else sBAD
theorem mq_125 {d : Nat} {u : Nat → Nat → Int32} {w : Nat → Nat → Int64} {x c : Int32} {M : Nat} (hM : M ≤ 8) (h1 : u 117 1 = nI M) (ht : s_tx (u 117)) : ∃ v', qs_call (d + 5) 125 [.ref 116, .int x, .int c] (QM u w) = some (some (.int (s_told (u 117) M x c)), QM v' w) ∧ ∀ a, a ≠ 128 → a ≠ 129 → v' a = u a := by
  unfold s_told
  by_cases g1 : s_in x 0 (nI M - 1) = false
  · refine ⟨u, ?_, fun _ _ _ => rfl⟩
    refine (bq_125_0 (d + 4) 116 _ _ (QM u w)).trans ?_
    rw [if_pos g1]
    simp only [QM_kd, QM_sz, QM_lk, QM_i, QM_wi, zM, zI, qs_bI, qs_bV, qb_0, mc_111x h1, g1, Bool.true_eq_false, Nat.reduceSub, Nat.reduceLeDiff, Nat.reduceLT, true_and, and_true, and_self, if_true, if_false]
    rfl
  obtain ⟨j, hj, rfl⟩ := (s_isj_in hM).mp (by simpa using g1)
  have ej : (nI j).toNatClampNeg = j := nI_clamp (by omega)
  have hj8 : j < 8 := by omega
  rw [ej, if_neg g1]
  by_cases h9 : c = 9
  · subst h9
    obtain ⟨v', k1, k2⟩ := mq_120 (d := d) (j := j) (x1 := nI j) rfl hj8 (u := u) (w := w) ht
    refine ⟨v', ?_, k2⟩
    refine (bq_125_0 (d + 4) 116 _ _ (QM u w)).trans ?_
    simp only [QM_kd, QM_sz, QM_lk, QM_i, QM_wi, zM, zI, qs_bI, qs_bV, qb_0, mc_111x h1, g1, k1, show ¬ (9 : Int32) = 0 by decide, show ¬ (9 : Int32) = 1 by decide, show ¬ (9 : Int32) = 2 by decide, show ¬ (9 : Int32) = 3 by decide, show ¬ (9 : Int32) = 4 by decide, show ¬ (9 : Int32) = 5 by decide, show ¬ (9 : Int32) = 6 by decide, show ¬ (9 : Int32) = 7 by decide, show ¬ (9 : Int32) = 8 by decide, Bool.true_eq_false, Nat.reduceSub, Nat.reduceLeDiff, Nat.reduceLT, true_and, and_true, and_self, if_true, if_false]
  · refine ⟨u, ?_, fun _ _ _ => rfl⟩
    refine (bq_125_0 (d + 4) 116 _ _ (QM u w)).trans ?_
    simp only [QM_kd, QM_sz, QM_lk, QM_i, QM_wi, zM, zI, qs_bI, qs_bV, qb_0, mc_111x h1, g1, Bool.true_eq_false, Nat.reduceSub, Nat.reduceLeDiff, Nat.reduceLT, true_and, and_true, and_self, if_true, if_false]
    by_cases h : c = 0
    · simp only [QM_kd, QM_sz, QM_lk, QM_i, QM_wi, zM, zI, qs_bI, qs_bV, qb_0, h, mc_112 0 (show nI j = nI j from rfl) hj8 n_0 (by decide), Bool.true_eq_false, Nat.reduceSub, Nat.reduceLeDiff, Nat.reduceLT, true_and, and_true, and_self, if_true, if_false]
    simp only [QM_kd, QM_sz, QM_lk, QM_i, QM_wi, zM, zI, qs_bI, qs_bV, qb_0, h, Bool.true_eq_false, Nat.reduceSub, Nat.reduceLeDiff, Nat.reduceLT, true_and, and_true, and_self, if_true, if_false]
    clear h
    by_cases h : c = 1
    · simp only [QM_kd, QM_sz, QM_lk, QM_i, QM_wi, zM, zI, qs_bI, qs_bV, qb_0, h, mc_112 1 (show nI j = nI j from rfl) hj8 n_1 (by decide), Bool.true_eq_false, Nat.reduceSub, Nat.reduceLeDiff, Nat.reduceLT, true_and, and_true, and_self, if_true, if_false]
    simp only [QM_kd, QM_sz, QM_lk, QM_i, QM_wi, zM, zI, qs_bI, qs_bV, qb_0, h, Bool.true_eq_false, Nat.reduceSub, Nat.reduceLeDiff, Nat.reduceLT, true_and, and_true, and_self, if_true, if_false]
    clear h
    by_cases h : c = 2
    · simp only [QM_kd, QM_sz, QM_lk, QM_i, QM_wi, zM, zI, qs_bI, qs_bV, qb_0, h, mc_112 2 (show nI j = nI j from rfl) hj8 n_2 (by decide), Bool.true_eq_false, Nat.reduceSub, Nat.reduceLeDiff, Nat.reduceLT, true_and, and_true, and_self, if_true, if_false]
    simp only [QM_kd, QM_sz, QM_lk, QM_i, QM_wi, zM, zI, qs_bI, qs_bV, qb_0, h, Bool.true_eq_false, Nat.reduceSub, Nat.reduceLeDiff, Nat.reduceLT, true_and, and_true, and_self, if_true, if_false]
    clear h
    by_cases h : c = 3
    · simp only [QM_kd, QM_sz, QM_lk, QM_i, QM_wi, zM, zI, qs_bI, qs_bV, qb_0, h, mc_112 3 (show nI j = nI j from rfl) hj8 n_3 (by decide), Bool.true_eq_false, Nat.reduceSub, Nat.reduceLeDiff, Nat.reduceLT, true_and, and_true, and_self, if_true, if_false]
    simp only [QM_kd, QM_sz, QM_lk, QM_i, QM_wi, zM, zI, qs_bI, qs_bV, qb_0, h, Bool.true_eq_false, Nat.reduceSub, Nat.reduceLeDiff, Nat.reduceLT, true_and, and_true, and_self, if_true, if_false]
    clear h
    by_cases h : c = 4
    · simp only [QM_kd, QM_sz, QM_lk, QM_i, QM_wi, zM, zI, qs_bI, qs_bV, qb_0, h, mc_112 4 (show nI j = nI j from rfl) hj8 n_4 (by decide), Bool.true_eq_false, Nat.reduceSub, Nat.reduceLeDiff, Nat.reduceLT, true_and, and_true, and_self, if_true, if_false]
    simp only [QM_kd, QM_sz, QM_lk, QM_i, QM_wi, zM, zI, qs_bI, qs_bV, qb_0, h, Bool.true_eq_false, Nat.reduceSub, Nat.reduceLeDiff, Nat.reduceLT, true_and, and_true, and_self, if_true, if_false]
    clear h
    by_cases h : c = 5
    · simp only [QM_kd, QM_sz, QM_lk, QM_i, QM_wi, zM, zI, qs_bI, qs_bV, qb_0, h, mc_112 5 (show nI j = nI j from rfl) hj8 n_5 (by decide), Bool.true_eq_false, Nat.reduceSub, Nat.reduceLeDiff, Nat.reduceLT, true_and, and_true, and_self, if_true, if_false]
    simp only [QM_kd, QM_sz, QM_lk, QM_i, QM_wi, zM, zI, qs_bI, qs_bV, qb_0, h, Bool.true_eq_false, Nat.reduceSub, Nat.reduceLeDiff, Nat.reduceLT, true_and, and_true, and_self, if_true, if_false]
    clear h
    by_cases h : c = 6
    · simp only [QM_kd, QM_sz, QM_lk, QM_i, QM_wi, zM, zI, qs_bI, qs_bV, qb_0, h, mc_112 6 (show nI j = nI j from rfl) hj8 n_6 (by decide), Bool.true_eq_false, Nat.reduceSub, Nat.reduceLeDiff, Nat.reduceLT, true_and, and_true, and_self, if_true, if_false]
    simp only [QM_kd, QM_sz, QM_lk, QM_i, QM_wi, zM, zI, qs_bI, qs_bV, qb_0, h, Bool.true_eq_false, Nat.reduceSub, Nat.reduceLeDiff, Nat.reduceLT, true_and, and_true, and_self, if_true, if_false]
    clear h
    by_cases h : c = 7
    · simp only [QM_kd, QM_sz, QM_lk, QM_i, QM_wi, zM, zI, qs_bI, qs_bV, qb_0, h, mc_112 7 (show nI j = nI j from rfl) hj8 n_7 (by decide), Bool.true_eq_false, Nat.reduceSub, Nat.reduceLeDiff, Nat.reduceLT, true_and, and_true, and_self, if_true, if_false]
    simp only [QM_kd, QM_sz, QM_lk, QM_i, QM_wi, zM, zI, qs_bI, qs_bV, qb_0, h, Bool.true_eq_false, Nat.reduceSub, Nat.reduceLeDiff, Nat.reduceLT, true_and, and_true, and_self, if_true, if_false]
    clear h
    by_cases h : c = 8
    · simp only [QM_kd, QM_sz, QM_lk, QM_i, QM_wi, zM, zI, qs_bI, qs_bV, qb_0, h, mc_118 (d := d + 2) (show nI j = nI j from rfl) hj8, Bool.true_eq_false, Nat.reduceSub, Nat.reduceLeDiff, Nat.reduceLT, true_and, and_true, and_self, if_true, if_false]
    simp only [QM_kd, QM_sz, QM_lk, QM_i, QM_wi, zM, zI, qs_bI, qs_bV, qb_0, h, h9, Bool.true_eq_false, Nat.reduceSub, Nat.reduceLeDiff, Nat.reduceLT, true_and, and_true, and_self, if_true, if_false]
    clear h
    by_cases h : c = 10
    · simp only [QM_kd, QM_sz, QM_lk, QM_i, QM_wi, zM, zI, qs_bI, qs_bV, qb_0, h, mq_121 (d := d + 2) (show nI j = nI j from rfl) hj8, Bool.true_eq_false, Nat.reduceSub, Nat.reduceLeDiff, Nat.reduceLT, true_and, and_true, and_self, if_true, if_false]
    simp only [QM_kd, QM_sz, QM_lk, QM_i, QM_wi, zM, zI, qs_bI, qs_bV, qb_0, h, Bool.true_eq_false, Nat.reduceSub, Nat.reduceLeDiff, Nat.reduceLT, true_and, and_true, and_self, if_true, if_false]
    clear h
    by_cases h : c = 11
    · simp only [QM_kd, QM_sz, QM_lk, QM_i, QM_wi, zM, zI, qs_bI, qs_bV, qb_0, h, mq_124 (d := d) hM h1 (show nI j = nI j from rfl) hj, Bool.true_eq_false, Nat.reduceSub, Nat.reduceLeDiff, Nat.reduceLT, true_and, and_true, and_self, if_true, if_false]
    simp only [QM_kd, QM_sz, QM_lk, QM_i, QM_wi, zM, zI, qs_bI, qs_bV, qb_0, h, Bool.true_eq_false, Nat.reduceSub, Nat.reduceLeDiff, Nat.reduceLT, true_and, and_true, and_self, if_true, if_false]
    clear h
    by_cases h : c = 12
    · simp only [QM_kd, QM_sz, QM_lk, QM_i, QM_wi, zM, zI, qs_bI, qs_bV, qb_0, h, mq_122 (d := d + 2) (show nI j = nI j from rfl) hj8, Bool.true_eq_false, Nat.reduceSub, Nat.reduceLeDiff, Nat.reduceLT, true_and, and_true, and_self, if_true, if_false]
    simp only [QM_kd, QM_sz, QM_lk, QM_i, QM_wi, zM, zI, qs_bI, qs_bV, qb_0, h, Bool.true_eq_false, Nat.reduceSub, Nat.reduceLeDiff, Nat.reduceLT, true_and, and_true, and_self, if_true, if_false]
    rfl
def s_behind (R : Nat → Int32) (M : Nat) (n c : Int32) : Int32 :=
  if s_in n 0 100 = false then sBAD else if c < 0 then sBAD else if c ≤ 2 then (if c = 0 then s_go R n.toNatClampNeg 6 else if c = 1 then s_go R n.toNatClampNeg 8 else s_go R n.toNatClampNeg 7) else if s_in (c - 3) 0 (nI M - 1) = false then sBAD else s_leak (s_go R n.toNatClampNeg) (s_jo (s_go R n.toNatClampNeg) (c - 3).toNatClampNeg)
theorem mq_153 {d : Nat} {u : Nat → Nat → Int32} {w : Nat → Nat → Int64} {n c : Int32} {M : Nat} (hM : M ≤ 8) (h1 : u 117 1 = nI M) (ht : s_tx (u 117)) : ∃ v', qs_call (d + 8) 153 [.ref 116, .int n, .int c] (QM u w) = some (some (.int (s_behind (u 117) M n c)), QM v' w) ∧ fT u v' := by
  unfold s_behind
  by_cases g1 : s_in n 0 100 = false
  · refine ⟨u, ?_, fT_r u⟩
    refine (bq_153_0 (d + 7) 116 _ _ (QM u w)).trans ?_
    rw [if_pos g1]
    simp only [QM_kd, QM_sz, QM_lk, QM_i, QM_wi, zM, zI, qs_bI, qs_bV, qb_0, mc_108, g1, Bool.true_eq_false, Nat.reduceSub, Nat.reduceLeDiff, Nat.reduceLT, true_and, and_true, and_self, if_true, if_false]
    rfl
  obtain ⟨n', hn, rfl⟩ := s_in_n (x := n) (a := 0) (b := 100) (n := 100) (by simpa using g1) (by decide) rfl (by omega)
  have en : (nI n').toNatClampNeg = n' := nI_clamp (by omega)
  rw [en, if_neg g1]
  by_cases g2 : c < 0
  · refine ⟨u, ?_, fT_r u⟩
    refine (bq_153_0 (d + 7) 116 _ _ (QM u w)).trans ?_
    rw [if_pos g2]
    simp only [QM_kd, QM_sz, QM_lk, QM_i, QM_wi, zM, zI, qs_bI, qs_bV, qb_0, mc_108, g1, g2, Bool.true_eq_false, Nat.reduceSub, Nat.reduceLeDiff, Nat.reduceLT, true_and, and_true, and_self, if_true, if_false]
    rfl
  rw [if_neg g2]
  obtain ⟨v1, a1, a2, a3⟩ := mb_148 (d := d + 6) (u := u) (w := w)
  obtain ⟨v2, b1, b2, b3⟩ := mq_140 (d := d) (u := v1) (w := w) (n := n') hM (by rw [a3 117 (by decide), h1]) (by rw [a3 117 (by decide)]; exact ht) rfl (by omega)
  rw [a3 117 (by decide)] at b2
  have h2 : s_hi (u 117) (s_go (u 117) n') := s_go_hi h1 hM n'
  have fin : ∀ v3, v3 117 = s_go (u 117) n' → (∀ a, a ≠ 117 → a ≠ 128 → a ≠ 129 → v3 a = v1 a) → ∃ v4, qs_call (d + 7) 149 [.ref 116] (QM v3 w) = some (none, QM v4 w) ∧ fT u v4 := by
    intro v3 c1 c2
    obtain ⟨v4, e1, e2, e3⟩ := mb_149 (d := d + 6) (u := v3) (w := w) (R := u 117) (by rw [c1]; exact h2) (fun i hi => by rw [c2 120 (by decide) (by decide) (by decide), a2 i hi])
    refine ⟨v4, e1, e2, fun f _ _ => ?_, fun a p1 p2 p3 p4 p5 => ?_⟩
    · rw [e3 116 (by decide), c2 116 (by decide) (by decide) (by decide), a3 116 (by decide)]
    · rw [e3 a p2, c2 a p2 p4 p5, a3 a p3]
  by_cases g3 : c ≤ 2
  · rw [if_pos g3]
    obtain ⟨v4, e1, e2⟩ := fin v2 b2 b3
    refine ⟨v4, ?_, e2⟩
    refine (bq_153_0 (d + 7) 116 _ _ (QM u w)).trans ?_
    by_cases c0 : c = 0
    · subst c0
      simp only [QM_kd, QM_sz, QM_lk, QM_i, QM_wi, zM, zI, qs_bI, qs_bV, qb_0, mc_108, g1, g2, g3, a1, b1, e1, b2, Bool.true_eq_false, Nat.reduceSub, Nat.reduceLeDiff, Nat.reduceLT, true_and, and_true, and_self, if_true, if_false]
    by_cases c1 : c = 1
    · subst c1
      simp only [QM_kd, QM_sz, QM_lk, QM_i, QM_wi, zM, zI, qs_bI, qs_bV, qb_0, mc_108, g1, g2, g3, a1, b1, e1, b2, show ¬ (1 : Int32) = 0 by decide, Bool.true_eq_false, Nat.reduceSub, Nat.reduceLeDiff, Nat.reduceLT, true_and, and_true, and_self, if_true, if_false]
    obtain ⟨k, hk, rfl⟩ := nI_of g2
    have hk2 : k ≤ 2 := (nI_leI (b := 2) hk (by omega)).mp g3
    have k0 : k ≠ 0 := fun q => c0 (by rw [q]; rfl)
    have k1 : k ≠ 1 := fun q => c1 (by rw [q]; rfl)
    have k2 : nI k = 2 := by rw [show k = 2 by omega]; rfl
    rw [k2]
    simp only [QM_kd, QM_sz, QM_lk, QM_i, QM_wi, zM, zI, qs_bI, qs_bV, qb_0, mc_108, g1, a1, b1, e1, b2, show ¬ (2 : Int32) < 0 by decide, show (2 : Int32) ≤ 2 by decide, show ¬ (2 : Int32) = 0 by decide, show ¬ (2 : Int32) = 1 by decide, Bool.true_eq_false, Nat.reduceSub, Nat.reduceLeDiff, Nat.reduceLT, true_and, and_true, and_self, if_true, if_false]
  rw [if_neg g3]
  by_cases g4 : s_in (c - 3) 0 (nI M - 1) = false
  · refine ⟨u, ?_, fT_r u⟩
    refine (bq_153_0 (d + 7) 116 _ _ (QM u w)).trans ?_
    rw [if_pos g4]
    simp only [QM_kd, QM_sz, QM_lk, QM_i, QM_wi, zM, zI, qs_bI, qs_bV, qb_0, mc_108, g1, g2, g3, mc_111x h1, g4, Bool.true_eq_false, Nat.reduceSub, Nat.reduceLeDiff, Nat.reduceLT, true_and, and_true, and_self, if_true, if_false]
    rfl
  rw [if_neg g4]
  obtain ⟨j, hj, ej⟩ := (s_isj_in hM).mp (show s_in (c - 3) 0 (nI M - 1) = true by simpa using g4)
  have ej2 : (nI j).toNatClampNeg = j := nI_clamp (by omega)
  obtain ⟨v3, c1, c2⟩ := mq_120 (d := d + 3) (j := j) (x1 := nI j) rfl (by omega) (u := v2) (w := w) (by rw [b2]; exact s_go_tx h1 hM ht n')
  rw [b2] at c1
  obtain ⟨v4, e1, e2⟩ := fin v3 (by rw [c2 117 (by decide) (by decide), b2]) (fun a p1 p2 p3 => by rw [c2 a p2 p3, b3 a p1 p2 p3])
  refine ⟨v4, ?_, e2⟩
  refine (bq_153_0 (d + 7) 116 _ _ (QM u w)).trans ?_
  have n0 : ¬ c = 0 := fun q => g3 (by rw [q]; decide)
  have n1 : ¬ c = 1 := fun q => g3 (by rw [q]; decide)
  have n2 : ¬ c = 2 := fun q => g3 (by rw [q]; decide)
  rw [ej] at g4
  simp only [QM_kd, QM_sz, QM_lk, QM_i, QM_wi, zM, zI, qs_bI, qs_bV, qb_0, mc_108, g1, g2, g3, n0, n1, n2, mc_111x h1, ej, g4, ej2, a1, b1, c1, e1, Bool.true_eq_false, Nat.reduceSub, Nat.reduceLeDiff, Nat.reduceLT, true_and, and_true, and_self, if_true, if_false]
/-- the first of so many that is so -/
def s_find (P : Nat → Bool) : Nat → Nat → Int32
  | 0, _ => sNO
  | f + 1, k => if P k = true then nI k else s_find P f (k + 1)
def s_fullP (R : Nat → Int32) (k : Nat) : Bool := decide (s_go R k 5 ≤ s_go R k 7)
theorem mb_fin {d : Nat} {u0 u : Nat → Nat → Int32} {w : Nat → Nat → Int64} (h1 : s_hi (u0 117) (u 117)) (h2 : ∀ i, i < 76 → u 120 i = u0 117 i) (h5 : ∀ a, a ≠ 117 → a ≠ 120 → a ≠ 128 → a ≠ 129 → u a = u0 a) : ∃ v1, qs_call (d + 1) 149 [.ref 116] (QM u w) = some (none, QM v1 w) ∧ fT u0 v1 := by
  obtain ⟨v4, e1, e2, e3⟩ := mb_149 (d := d) (u := u) (w := w) (R := u0 117) h1 h2
  refine ⟨v4, e1, e2, fun f _ _ => ?_, fun a p1 p2 p3 p4 p5 => ?_⟩
  · rw [e3 116 (by decide), h5 116 (by decide) (by decide) (by decide) (by decide)]
  · rw [e3 a p2, h5 a p2 p3 p4 p5]
theorem mq_154L {d : Nat} {u0 : Nat → Nat → Int32} {w : Nat → Nat → Int64} {M : Nat} (hM : M ≤ 8) (h1 : u0 117 1 = nI M) (ht : s_tx (u0 117)) : ∀ (r k : Nat) (u : Nat → Nat → Int32), k + r = 201 → u 117 = s_go (u0 117) k → (∀ i, i < 76 → u 120 i = u0 117 i) → (∀ a, a ≠ 117 → a ≠ 120 → a ≠ 128 → a ≠ 129 → u a = u0 a) → ∃ v', qs_EV (d + 6) 154 6 [some (.ref 116), some (.int (nI k))] [] (QM u w) = some (some (.int (s_find (s_fullP (u0 117)) r k)), QM v' w) ∧ fT u0 v'
  | 0, k, u, hk, hu, h2, h3 => by
    obtain rfl : k = 201 := by omega
    obtain ⟨v1, e1, e2⟩ := mb_fin (d := d + 5) (u0 := u0) (u := u) (w := w) (by rw [hu]; exact s_go_hi h1 hM _) h2 h3
    refine ⟨v1, ?_, e2⟩
    refine (bq_154_6 (d + 6) 116 _ (QM u w)).trans ?_
    rw [if_pos (by decide)]
    simp only [QM_kd, QM_sz, QM_lk, QM_i, QM_wi, zM, zI, qs_bI, qs_bV, qb_0, e1, show ¬ nI 201 ≤ 200 by decide, Bool.true_eq_false, Nat.reduceSub, Nat.reduceLeDiff, Nat.reduceLT, true_and, and_true, and_self, if_true, if_false]
    rfl
  | r + 1, k, u, hk, hu, h2, h3 => by
    have g200 : ¬ (200 : Int32) < nI k := nI_nlt (a := 200) (by omega) (by omega)
    have l200 : nI k ≤ 200 := nI_le (b := 200) (by omega) (by omega)
    unfold s_find
    by_cases hp : s_go (u0 117) k 5 ≤ s_go (u0 117) k 7
    · obtain ⟨v1, e1, e2⟩ := mb_fin (d := d + 5) (u0 := u0) (u := u) (w := w) (by rw [hu]; exact s_go_hi h1 hM _) h2 h3
      refine ⟨v1, ?_, e2⟩
      refine (bq_154_6 (d + 6) 116 _ (QM u w)).trans ?_
      rw [if_pos (show s_fullP (u0 117) k = true from decide_eq_true hp)]
      simp only [QM_kd, QM_sz, QM_lk, QM_i, QM_wi, zM, zI, qs_bI, qs_bV, qb_0, g200, l200, hu, hp, e1, Bool.true_eq_false, Nat.reduceSub, Nat.reduceLeDiff, Nat.reduceLT, true_and, and_true, and_self, if_true, if_false]
    · obtain ⟨v1, k1, k2, k3⟩ := mq_139 (d := d) (u := u) (w := w) hM (by rw [hu, s_go_1, h1]) (by rw [hu]; exact s_go_tx h1 hM ht k)
      obtain ⟨v', g1, g2⟩ := mq_154L (d := d) (u0 := u0) (w := w) hM h1 ht r (k + 1) v1 (by omega) (by rw [k2, hu]; rfl) (fun i hi => by rw [k3 120 (by decide) (by decide) (by decide), h2 i hi]) (fun a p1 p2 p3 p4 => by rw [k3 a p1 p3 p4, h3 a p1 p2 p3 p4])
      refine ⟨v', ?_, g2⟩
      refine (bq_154_6 (d + 6) 116 _ (QM u w)).trans ?_
      rw [if_neg (show ¬ s_fullP (u0 117) k = true from fun q => hp (of_decide_eq_true q))]
      rw [nI_succ] at g1
      simp only [QM_kd, QM_sz, QM_lk, QM_i, QM_wi, zM, zI, qs_bI, qs_bV, qb_0, g200, hu, hp, k1, g1, Bool.true_eq_false, Nat.reduceSub, Nat.reduceLeDiff, Nat.reduceLT, true_and, and_true, and_self, if_true, if_false]
def s_full (R : Nat → Int32) : Int32 := s_find (s_fullP R) 201 0
theorem mq_154 {d : Nat} {u : Nat → Nat → Int32} {w : Nat → Nat → Int64} {M : Nat} (hM : M ≤ 8) (h1 : u 117 1 = nI M) (ht : s_tx (u 117)) : ∃ v', qs_call (d + 7) 154 [.ref 116] (QM u w) = some (some (.int (s_full (u 117))), QM v' w) ∧ fT u v' := by
  obtain ⟨v1, a1, a2, a3⟩ := mb_148 (d := d + 5) (u := u) (w := w)
  obtain ⟨v', g1, g2⟩ := mq_154L (d := d) (u0 := u) (w := w) hM h1 ht 201 0 v1 (by omega) (by rw [a3 117 (by decide)]; rfl) a2 (fun a p1 p2 p3 p4 => a3 a p2)
  refine ⟨v', ?_, g2⟩
  refine (bq_154_0 (d + 6) 116 (QM u w)).trans ?_
  rw [nI_0] at g1
  simp only [QM_kd, QM_sz, QM_lk, QM_i, QM_wi, zM, zI, qs_bI, qs_bV, qb_0, a1, g1, Bool.true_eq_false, Nat.reduceSub, Nat.reduceLeDiff, Nat.reduceLT, true_and, and_true, and_self, if_true, if_false]
  rfl
def s_shutP (R : Nat → Int32) (j k : Nat) : Bool := decide (s_leak (s_go R k) (s_jo (s_go R k) j) ≤ 0)
theorem mq_155L {d : Nat} {u0 : Nat → Nat → Int32} {w : Nat → Nat → Int64} {M j : Nat} (hM : M ≤ 8) (h1 : u0 117 1 = nI M) (hj : j < M) (ht : s_tx (u0 117)) : ∀ (r k : Nat) (u : Nat → Nat → Int32), k + r = 201 → u 117 = s_go (u0 117) k → (∀ i, i < 76 → u 120 i = u0 117 i) → (∀ a, a ≠ 117 → a ≠ 120 → a ≠ 128 → a ≠ 129 → u a = u0 a) → ∃ v', qs_EV (d + 6) 155 17 [some (.ref 116), some (.int (nI j)), some (.int (nI k))] [] (QM u w) = some (some (.int (s_find (s_shutP (u0 117) j) r k)), QM v' w) ∧ fT u0 v'
  | 0, k, u, hk, hu, h2, h3 => by
    obtain rfl : k = 201 := by omega
    obtain ⟨v1, e1, e2⟩ := mb_fin (d := d + 5) (u0 := u0) (u := u) (w := w) (by rw [hu]; exact s_go_hi h1 hM _) h2 h3
    refine ⟨v1, ?_, e2⟩
    refine (bq_155_17 (d + 6) 116 _ _ (QM u w)).trans ?_
    rw [if_pos (by decide)]
    simp only [QM_kd, QM_sz, QM_lk, QM_i, QM_wi, zM, zI, qs_bI, qs_bV, qb_0, e1, show ¬ nI 201 ≤ 200 by decide, Bool.true_eq_false, Nat.reduceSub, Nat.reduceLeDiff, Nat.reduceLT, true_and, and_true, and_self, if_true, if_false]
    rfl
  | r + 1, k, u, hk, hu, h2, h3 => by
    have g200 : ¬ (200 : Int32) < nI k := nI_nlt (a := 200) (by omega) (by omega)
    have l200 : nI k ≤ 200 := nI_le (b := 200) (by omega) (by omega)
    obtain ⟨v0, b1, b2⟩ := mq_120 (d := d + 2) (j := j) (x1 := nI j) rfl (by omega) (u := u) (w := w) (by rw [hu]; exact s_go_tx h1 hM ht k)
    have b3 : v0 117 = s_go (u0 117) k := by rw [b2 117 (by decide) (by decide), hu]
    rw [hu] at b1
    have h2' : ∀ i, i < 76 → v0 120 i = u0 117 i := fun i hi => by rw [b2 120 (by decide) (by decide), h2 i hi]
    have h3' : ∀ a, a ≠ 117 → a ≠ 120 → a ≠ 128 → a ≠ 129 → v0 a = u0 a := fun a p1 p2 p3 p4 => by rw [b2 a p3 p4, h3 a p1 p2 p3 p4]
    unfold s_find
    by_cases hp : s_leak (s_go (u0 117) k) (s_jo (s_go (u0 117) k) j) ≤ 0
    · obtain ⟨v1, e1, e2⟩ := mb_fin (d := d + 5) (u0 := u0) (u := v0) (w := w) (by rw [b3]; exact s_go_hi h1 hM _) h2' h3'
      refine ⟨v1, ?_, e2⟩
      refine (bq_155_17 (d + 6) 116 _ _ (QM u w)).trans ?_
      rw [if_pos (show s_shutP (u0 117) j k = true from decide_eq_true hp)]
      simp only [QM_kd, QM_sz, QM_lk, QM_i, QM_wi, zM, zI, qs_bI, qs_bV, qb_0, g200, l200, b1, hp, e1, Bool.true_eq_false, Nat.reduceSub, Nat.reduceLeDiff, Nat.reduceLT, true_and, and_true, and_self, if_true, if_false]
    · obtain ⟨v1, k1, k2, k3⟩ := mq_139 (d := d) (u := v0) (w := w) hM (by rw [b3, s_go_1, h1]) (by rw [b3]; exact s_go_tx h1 hM ht k)
      obtain ⟨v', g1, g2⟩ := mq_155L (d := d) (u0 := u0) (w := w) hM h1 hj ht r (k + 1) v1 (by omega) (by rw [k2, b3]; rfl) (fun i hi => by rw [k3 120 (by decide) (by decide) (by decide), h2' i hi]) (fun a p1 p2 p3 p4 => by rw [k3 a p1 p3 p4, h3' a p1 p2 p3 p4])
      refine ⟨v', ?_, g2⟩
      refine (bq_155_17 (d + 6) 116 _ _ (QM u w)).trans ?_
      rw [if_neg (show ¬ s_shutP (u0 117) j k = true from fun q => hp (of_decide_eq_true q))]
      rw [nI_succ] at g1
      simp only [QM_kd, QM_sz, QM_lk, QM_i, QM_wi, zM, zI, qs_bI, qs_bV, qb_0, g200, b1, hp, k1, g1, Bool.true_eq_false, Nat.reduceSub, Nat.reduceLeDiff, Nat.reduceLT, true_and, and_true, and_self, if_true, if_false]
def s_shut (R : Nat → Int32) (M : Nat) (x : Int32) : Int32 := if s_in x 0 (nI M - 1) = false then sBAD else s_find (s_shutP R x.toNatClampNeg) 201 0
theorem mq_155 {d : Nat} {u : Nat → Nat → Int32} {w : Nat → Nat → Int64} {x : Int32} {M : Nat} (hM : M ≤ 8) (h1 : u 117 1 = nI M) (ht : s_tx (u 117)) : ∃ v', qs_call (d + 7) 155 [.ref 116, .int x] (QM u w) = some (some (.int (s_shut (u 117) M x)), QM v' w) ∧ fT u v' := by
  unfold s_shut
  by_cases g1 : s_in x 0 (nI M - 1) = false
  · refine ⟨u, ?_, fT_r u⟩
    refine (bq_155_0 (d + 6) 116 _ (QM u w)).trans ?_
    rw [if_pos g1]
    simp only [QM_kd, QM_sz, QM_lk, QM_i, QM_wi, zM, zI, qs_bI, qs_bV, qb_0, mc_111x h1, g1, Bool.true_eq_false, Nat.reduceSub, Nat.reduceLeDiff, Nat.reduceLT, true_and, and_true, and_self, if_true, if_false]
    rfl
  obtain ⟨j, hj, rfl⟩ := (s_isj_in hM).mp (by simpa using g1)
  have ej : (nI j).toNatClampNeg = j := nI_clamp (by omega)
  rw [ej, if_neg g1]
  obtain ⟨v1, a1, a2, a3⟩ := mb_148 (d := d + 5) (u := u) (w := w)
  obtain ⟨v', k1, k2⟩ := mq_155L (d := d) (u0 := u) (w := w) hM h1 hj ht 201 0 v1 (by omega) (by rw [a3 117 (by decide)]; rfl) a2 (fun a p1 p2 p3 p4 => a3 a p2)
  refine ⟨v', ?_, k2⟩
  refine (bq_155_0 (d + 6) 116 _ (QM u w)).trans ?_
  rw [nI_0] at k1
  simp only [QM_kd, QM_sz, QM_lk, QM_i, QM_wi, zM, zI, qs_bI, qs_bV, qb_0, mc_111x h1, g1, a1, k1, Bool.true_eq_false, Nat.reduceSub, Nat.reduceLeDiff, Nat.reduceLT, true_and, and_true, and_self, if_true, if_false]
