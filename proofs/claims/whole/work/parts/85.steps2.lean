/-! TEXT: the steps of the reference's reading, where something was read -/
theorem m_end {d p k : Nat} {o4 : Option Value} {u v : Nat → Nat → Int32} {w : Nat → Nat → Int64} {t : s_Tk} {W C : List Int32} {a : Nat} {ts : Nat → Bool} (hS : rS u v t W C a ts) (hl : W.length + C.length ≤ 96) (g0 : t.1 = 0) (hp : p ≤ 8) : ∃ v', qs_EV (d + 4) 176 28 [some (.ref 116), some (.int (nI p)), some (.int (nI k)), some (.int 0), o4] [] (QM v w) = some (some (.int (if p = 0 then 1 else 0)), QM v' w) ∧ rS u v' t (s_pop 0 W C).1 (s_pop 0 W C).2 a ts := by
  obtain ⟨v1, i1, i2⟩ := m_173 (d := d + 2) (w := w) (k := 0) (by omega) hl hS
  refine ⟨v1, ?_, i2⟩
  have r1 := hS.2.1.1
  rw [g0, nI_0] at r1
  rw [nI_0] at i1
  refine (bq_176_28 (d + 4) 116 _ _ _ _ (QM v w)).trans ?_
  by_cases c : p = 0
  · have c1 : nI p = 0 := by rw [c]; rfl
    simp only [QM_kd, QM_sz, QM_lk, QM_i, QM_wi, zM, zI, qs_bI, qs_bV, qb_0, r1, i1, c1, c, Bool.true_eq_false, Nat.reduceSub, Nat.reduceLeDiff, Nat.reduceLT, true_and, and_true, and_self, if_true, if_false]
    rfl
  · have c1 : ¬ nI p = 0 := fun q => c ((nI_eq (b := 0) (by omega) (by omega)).mp q)
    simp only [QM_kd, QM_sz, QM_lk, QM_i, QM_wi, zM, zI, qs_bI, qs_bV, qb_0, r1, i1, c1, c, Bool.true_eq_false, Nat.reduceSub, Nat.reduceLeDiff, Nat.reduceLT, true_and, and_true, and_self, if_true, if_false]
    rfl
theorem m_clo {d n p k : Nat} {b : Nat → Nat} {o4 : Option Value} {u v : Nat → Nat → Int32} {w : Nat → Nat → Int64} {t : s_Tk} {W C W2 C1 : List Int32} {a : Nat} {ts : Nat → Bool} (h : s_tp b n) (hu : tpR u b n) (hS : rS u v t W C a ts) (ok : tOK t n) (hl : W.length + C.length ≤ 96) (g3 : t.1 = 3) (gv : t.2.2.2 = 41) (hp : p < 8) (hpop : s_pop 0 W C = (-11 :: W2, C1)) : ∃ v', qs_EV (d + 4) 176 28 [some (.ref 116), some (.int (nI (p + 1))), some (.int (nI k)), some (.int 0), o4] [] (QM v w) = qs_EV (d + 4) 176 28 [some (.ref 116), some (.int (nI p)), some (.int (nI (s_nn (s_pop 6 W2 C1).1))), some (.int 0), o4] [] (QM v' w) ∧ rS u v' (s_nx b n t) (s_pop 6 W2 C1).1 (s_pop 6 W2 C1).2 a ts := by
  have hlen := s_pop_len 0 W C
  obtain ⟨v1, i1, i2⟩ := m_173 (d := d + 2) (w := w) (k := 0) (by omega) hl hS
  rw [hpop] at i2 hlen
  simp only [List.length_cons] at i2 hlen
  obtain ⟨v2, j1, j2⟩ := m_173 (d := d + 2) (w := w) (k := 6) (by omega) (by omega) (rS_u i2)
  have hlen2 := s_pop_len 6 W2 C1
  have a7 := m_177 (d := d + 3) (w := w) j2 (by omega)
  obtain ⟨v3, k1, k2⟩ := m_go (d := d + 1) (w := w) h hu j2 ok (by omega) (by omega)
  refine ⟨v3, ?_, k2⟩
  have r1 := hS.2.1.1
  have r4 := hS.2.1.2.2.2.1 (Or.inl g3)
  have h22 : v1 116 22 = nI (W2.length + 1) := i2.2.2.2.2.2.1
  have c3' : nI t.1 = 3 := by rw [g3]; rfl
  rw [c3'] at r1
  rw [gv] at r4
  have n30 : ¬ (3 : Int32) = 0 := by decide
  have np : ¬ nI (p + 1) ≤ 0 := nI_ge (a := 0) (by omega) (by omega)
  have e2 : nI (W2.length + 1) - 1 = nI W2.length := nI_pred _
  have e3 : nI (p + 1) + -1 = nI p := by rw [nI_m1]; exact nI_pred p
  rw [nI_0] at i1
  rw [show nI 6 = 6 from rfl] at j1
  refine (bq_176_28 (d + 4) 116 _ _ _ _ (QM v w)).trans ?_
  simp only [QM_kd, QM_sz, QM_lk, QM_i, QM_wi, zM, zI, qs_bI, qs_bV, qb_0, n30, r1, r4, np, h22, e2, e3, i1, j1, a7, k1, Bool.true_eq_false, Nat.reduceSub, Nat.reduceLeDiff, Nat.reduceLT, true_and, and_true, and_self, if_true, if_false]
def s_tst (s : Int32) (x : Bool) : Bool := decide (s_rk s = 3) || (decide (3 < s_rk s) && x)
theorem m_sgn {d n p k : Nat} {b : Nat → Nat} {o4 : Option Value} {u v : Nat → Nat → Int32} {w : Nat → Nat → Int64} {t : s_Tk} {W C : List Int32} {a : Nat} {ts : Nat → Bool} (h : s_tp b n) (hu : tpR u b n) (hS : rS u v t W C a ts) (ok : tOK t n) (hl : W.length + C.length < 96) (g : s_si t ≠ 0) (hts : ¬ (s_rk (s_si t) = 3 ∧ ts p = true)) (hp : p ≤ 8) : ∃ v', qs_EV (d + 4) 176 28 [some (.ref 116), some (.int (nI p)), some (.int (nI k)), some (.int 0), o4] [] (QM v w) = qs_EV (d + 4) 176 28 [some (.ref 116), some (.int (nI p)), some (.int (nI k)), some (.int 1), some (.int (s_si t))] [] (QM v' w) ∧ rS u v' (s_nx b n t) (s_si t :: (s_pop (s_rk (s_si t)) W C).1) (s_pop (s_rk (s_si t)) W C).2 a (updB ts p (s_tst (s_si t) (ts p))) := by
  have g3 : t.1 = 3 := Decidable.byContradiction fun c => by
    unfold s_si at g
    rw [if_neg c] at g
    exact g rfl
  have gv : ¬ t.2.2.2 = 41 := fun c => by
    unfold s_si at g
    rw [if_pos g3, c] at g
    exact g rfl
  have a4 := fun d => m_174 (d := d) (w := w) hS.2.1 ok.2.1
  have r6 := s_rk_6 (s_si t)
  have hS1 := rS_t (b := p) (x := s_tst (s_si t) (ts p)) hS
  obtain ⟨v1, i1, i2⟩ := m_173 (d := d + 2) (w := w) (k := s_rk (s_si t)) (by omega) (by omega) hS1
  have hlen := s_pop_len (s_rk (s_si t)) W C
  obtain ⟨v2, j1, j2⟩ := m_go (d := d + 1) (w := w) h hu (rS_w (x := s_si t) i2) ok (by omega) (by omega)
  refine ⟨v2, ?_, j2⟩
  have r1 := hS.2.1.1
  have r4 := hS.2.1.2.2.2.1 (Or.inl g3)
  have h22 := i2.2.2.2.2.2.1
  have h127 := hS.2.2.2.2.2.2.2 p hp
  have c3' : nI t.1 = 3 := by rw [g3]; rfl
  rw [c3'] at r1
  have n30 : ¬ (3 : Int32) = 0 := by decide
  have e4 : (nI (s_pop (s_rk (s_si t)) W C).1.length).toNatClampNeg = (s_pop (s_rk (s_si t)) W C).1.length ∧ 0 ≤ nI (s_pop (s_rk (s_si t)) W C).1.length ∧ (s_pop (s_rk (s_si t)) W C).1.length < 96 := ⟨nI_clamp (by omega), nI_pos' (by omega), by omega⟩
  have e5 : (nI p).toNatClampNeg = p ∧ 0 ≤ nI p ∧ p < 10 := ⟨nI_clamp (by omega), nI_pos' (by omega), by omega⟩
  have p1 : ∀ y, qu v1 126 (s_pop (s_rk (s_si t)) W C).1.length y 116 22 = nI (s_pop (s_rk (s_si t)) W C).1.length := fun y => by simp [qu, h22]
  rw [nI_succ] at j1
  refine (bq_176_28 (d + 4) 116 _ _ _ _ (QM v w)).trans ?_
  simp only [QM_kd, QM_sz, QM_lk, QM_i, QM_wi, zM, zI, qs_bI, qs_bV, qb_0, n30, r1, r4, gv, Bool.true_eq_false, Nat.reduceSub, Nat.reduceLeDiff, Nat.reduceLT, true_and, and_true, and_self, if_true, if_false]
  refine (bq_176_237 (d + 4) 116 _ _ _ _ (QM v w)).trans ?_
  have w2 : (bif qs_w2 (some (Value.int 0)) then none else some (Value.int 0)) = some (Value.int 0) := rfl
  have m268 : qs_EV (d + 4) 176 268 [some (.ref 116), some (.int (nI p)), some (.int (nI k)), some (.int 0), some (.int (s_si t))] [] (QM v w) = qs_EV (d + 4) 176 28 [some (.ref 116), some (.int (nI p)), some (.int (nI k)), some (.int 1), some (.int (s_si t))] [] (QM v2 w) := by
    refine (bq_176_268 (d + 4) 116 _ _ _ _ (QM v w)).trans ?_
    by_cases c3 : s_rk (s_si t) = 3
    · have hx : s_tst (s_si t) (ts p) = true := by unfold s_tst; simp [c3]
      rw [hx, c3, show qb true = 1 from rfl, show nI 3 = 3 from rfl] at i1
      have q3 : nI 3 = 3 := rfl
      have r10 : ¬ (1 : Int32) = 0 := by decide
      have z1 : ((1 : Int32) = 0 ∨ (1 : Int32) = 1) = True := by simp
      simp only [QM_kd, QM_sz, QM_lk, QM_i, QM_wi, zM, zI, qs_bI, qs_bV, qb_0, m_172, c3, q3, e5, or_true, i1, Bool.true_eq_false, Nat.reduceSub, Nat.reduceLeDiff, Nat.reduceLT, true_and, and_true, and_self, if_true, if_false]
      rw [c3] at j1 h22 e4 p1
      simp only [QM_kd, QM_sz, QM_lk, QM_i, QM_wi, zM, zI, qs_bI, qs_bV, qb_0, h22, e4, p1, j1, Bool.true_eq_false, Nat.reduceSub, Nat.reduceLeDiff, Nat.reduceLT, true_and, and_true, and_self, if_true, if_false]
    · have n3 : ¬ nI (s_rk (s_si t)) = 3 := fun q => c3 ((nI_eq (b := 3) (by omega) (by omega)).mp q)
      by_cases c4 : s_rk (s_si t) < 3
      · have hx : s_tst (s_si t) (ts p) = false := by
          unfold s_tst
          rw [decide_eq_false c3, decide_eq_false (by omega)]
          rfl
        rw [hx, show qb false = 0 from rfl] at i1
        have l3 : nI (s_rk (s_si t)) ≤ 3 := nI_le (b := 3) (by omega) (by omega)
        simp only [QM_kd, QM_sz, QM_lk, QM_i, QM_wi, zM, zI, qs_bI, qs_bV, qb_0, m_172, n3, l3, e5, true_or, i1, h22, e4, p1, j1, Bool.true_eq_false, Nat.reduceSub, Nat.reduceLeDiff, Nat.reduceLT, true_and, and_true, and_self, if_true, if_false]
      · have l3 : ¬ nI (s_rk (s_si t)) ≤ 3 := nI_ge (a := 3) (by omega) (by omega)
        have hx : s_tst (s_si t) (ts p) = ts p := by
          unfold s_tst
          rw [decide_eq_false c3, decide_eq_true (by omega)]
          simp
        rw [hx] at i1
        cases hb : ts p with
        | false =>
          rw [hb, show qb false = 0 from rfl] at i1
          rw [hb, show qb false = 0 from rfl] at h127
          simp only [QM_kd, QM_sz, QM_lk, QM_i, QM_wi, zM, zI, qs_bI, qs_bV, qb_0, m_172, n3, l3, e5, h127, true_or, i1, h22, e4, p1, j1, Bool.true_eq_false, Nat.reduceSub, Nat.reduceLeDiff, Nat.reduceLT, true_and, and_true, and_self, if_true, if_false]
        | true =>
          rw [hb, show qb true = 1 from rfl] at i1
          rw [hb, show qb true = 1 from rfl] at h127
          have r10 : ¬ (1 : Int32) = 0 := by decide
          have z1 : ((1 : Int32) = 0 ∨ (1 : Int32) = 1) = True := by simp
          simp only [QM_kd, QM_sz, QM_lk, QM_i, QM_wi, zM, zI, qs_bI, qs_bV, qb_0, m_172, n3, l3, e5, h127, r10, or_true, i1, h22, e4, p1, j1, Bool.true_eq_false, Nat.reduceSub, Nat.reduceLeDiff, Nat.reduceLT, true_and, and_true, and_self, if_true, if_false]
  by_cases c3 : s_rk (s_si t) = 3
  · have hb : ts p = false := by
      cases hb : ts p with
      | false => rfl
      | true => exact absurd ⟨c3, hb⟩ hts
    rw [hb, show qb false = 0 from rfl] at h127
    have q3 : nI 3 = 3 := rfl
    simp only [QM_kd, QM_sz, QM_lk, QM_i, QM_wi, zM, zI, qs_bI, qs_bV, qb_0, a4, g, m_172, c3, q3, e5, h127, w2, Bool.true_eq_false, Nat.reduceSub, Nat.reduceLeDiff, Nat.reduceLT, true_and, and_true, and_self, if_true, if_false]
    exact m268
  · have n3 : ¬ nI (s_rk (s_si t)) = 3 := fun q => c3 ((nI_eq (b := 3) (by omega) (by omega)).mp q)
    simp only [QM_kd, QM_sz, QM_lk, QM_i, QM_wi, zM, zI, qs_bI, qs_bV, qb_0, a4, g, m_172, n3, w2, Bool.true_eq_false, Nat.reduceSub, Nat.reduceLeDiff, Nat.reduceLT, true_and, and_true, and_self, if_true, if_false]
    exact m268
theorem m_gno {d n p k : Nat} {o4 : Option Value} {u v : Nat → Nat → Int32} {w : Nat → Nat → Int64} {t : s_Tk} {W C : List Int32} {a : Nat} {ts : Nat → Bool} (hn : n ≤ 96) (hS : rS u v t W C a ts) (ok : tOK t n) (g0 : t.1 ≠ 0) (g1 : ¬ (t.1 = 3 ∧ t.2.2.2 = 41 ∧ 0 < p)) (g : s_si t = 0 ∨ (s_rk (s_si t) = 3 ∧ ts p = true)) (hp : p ≤ 8) : qs_EV (d + 4) 176 28 [some (.ref 116), some (.int (nI p)), some (.int (nI k)), some (.int 0), o4] [] (QM v w) = some (some (.int 0), QM v w) := by
  have a4 := fun d => m_174 (d := d) (w := w) hS.2.1 ok.2.1
  have r1 := hS.2.1.1
  have o2 := ok.2.1
  have h127 := hS.2.2.2.2.2.2.2 p hp
  have e5 : (nI p).toNatClampNeg = p ∧ 0 ≤ nI p ∧ p < 10 := ⟨nI_clamp (by omega), nI_pos' (by omega), by omega⟩
  have w2 : (bif qs_w2 (some (Value.int 0)) then none else some (Value.int 0)) = some (Value.int 0) := rfl
  have m237 : qs_EV (d + 4) 176 237 [some (.ref 116), some (.int (nI p)), some (.int (nI k)), some (.int 0), o4] [] (QM v w) = some (some (.int 0), QM v w) := by
    refine (bq_176_237 (d + 4) 116 _ _ _ _ (QM v w)).trans ?_
    rcases g with g | ⟨c3, hb⟩
    · simp only [QM_kd, QM_sz, QM_lk, QM_i, QM_wi, zM, zI, qs_bI, qs_bV, qb_0, a4, g, bq_176_266, true_or, Bool.true_eq_false, Nat.reduceSub, Nat.reduceLeDiff, Nat.reduceLT, true_and, and_true, and_self, if_true, if_false]
    · have q3 : nI 3 = 3 := rfl
      have r10 : ¬ (1 : Int32) = 0 := by decide
      rw [hb, show qb true = 1 from rfl] at h127
      by_cases gs : s_si t = 0
      · simp only [QM_kd, QM_sz, QM_lk, QM_i, QM_wi, zM, zI, qs_bI, qs_bV, qb_0, a4, gs, bq_176_266, true_or, Bool.true_eq_false, Nat.reduceSub, Nat.reduceLeDiff, Nat.reduceLT, true_and, and_true, and_self, if_true, if_false]
      · simp only [QM_kd, QM_sz, QM_lk, QM_i, QM_wi, zM, zI, qs_bI, qs_bV, qb_0, a4, gs, m_172, c3, q3, e5, h127, r10, w2, bq_176_266, true_or, Bool.true_eq_false, Nat.reduceSub, Nat.reduceLeDiff, Nat.reduceLT, true_and, and_true, and_self, if_true, if_false]
  have n0 : ¬ nI t.1 = 0 := fun q => g0 ((nI_eq (b := 0) (by omega) (by omega)).mp q)
  refine (bq_176_28 (d + 4) 116 _ _ _ _ (QM v w)).trans ?_
  by_cases g3 : t.1 = 3
  · have r4 := hS.2.1.2.2.2.1 (Or.inl g3)
    have c3' : nI t.1 = 3 := by rw [g3]; rfl
    rw [c3'] at r1 n0
    by_cases gv : t.2.2.2 = 41
    · obtain rfl : p = 0 := Decidable.byContradiction fun c => g1 ⟨g3, gv, by omega⟩
      rw [gv] at r4
      have l0 : nI 0 ≤ 0 := by decide
      simp only [QM_kd, QM_sz, QM_lk, QM_i, QM_wi, zM, zI, qs_bI, qs_bV, qb_0, r1, n0, r4, l0, Bool.true_eq_false, Nat.reduceSub, Nat.reduceLeDiff, Nat.reduceLT, true_and, and_true, and_self, if_true, if_false]
      exact m237
    · simp only [QM_kd, QM_sz, QM_lk, QM_i, QM_wi, zM, zI, qs_bI, qs_bV, qb_0, r1, n0, r4, gv, Bool.true_eq_false, Nat.reduceSub, Nat.reduceLeDiff, Nat.reduceLT, true_and, and_true, and_self, if_true, if_false]
      exact m237
  · have n3 : ¬ nI t.1 = 3 := fun q => g3 ((nI_eq (b := 3) (by omega) (by omega)).mp q)
    simp only [QM_kd, QM_sz, QM_lk, QM_i, QM_wi, zM, zI, qs_bI, qs_bV, qb_0, r1, n0, n3, Bool.true_eq_false, Nat.reduceSub, Nat.reduceLeDiff, Nat.reduceLT, true_and, and_true, and_self, if_true, if_false]
    exact m237
