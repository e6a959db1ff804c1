/-! TEXT: the key, in the reference -/
theorem m_170L {d n wi S L : Nat} {b : Nat → Nat} {l : Nat → Nat} {v : Nat → Nat → Int32} {w : Nat → Nat → Int64} {t : s_Tk} (h : s_tp b n) (hv : tpR v b n) (hw : wi ≤ 2) (hS : v 124 wi = nI S) (hSL : S + L ≤ 11) (hl : ∀ i, i < L → l i ≤ 122 ∧ v 123 (S + i) = nI (l i)) (h11 : v 116 11 = nI t.2.1) (hp : t.2.1 + L ≤ n) : ∀ r k, k + r = L → (s_all (fun i => decide (b (t.2.1 + i) = l i)) r k = true → qs_EV d 170 55 [some (.ref 116), some (.int (nI wi)), some (.int (nI L)), some (.int 1), some (.int (nI k))] [] (QM v w) = qs_EV d 170 55 [some (.ref 116), some (.int (nI wi)), some (.int (nI L)), some (.int 1), some (.int (nI L))] [] (QM v w)) ∧ (s_all (fun i => decide (b (t.2.1 + i) = l i)) r k = false → ∃ o2 o3 o4, qs_EV d 170 55 [some (.ref 116), some (.int (nI wi)), some (.int (nI L)), some (.int 1), some (.int (nI k))] [] (QM v w) = qs_EV d 170 12 [some (.ref 116), some (.int (nI (wi + 1))), o2, o3, o4] [] (QM v w))
  | 0, k, e => by
    obtain rfl : k = L := by omega
    exact ⟨fun _ => rfl, fun c => by cases c⟩
  | r + 1, k, e => by
    have ih := m_170L (d := d) (w := w) (t := t) h hv hw hS hSL hl h11 hp r (k + 1) (by omega)
    have hn96 : n ≤ 96 := h.1
    have e1 : ¬ nI L ≤ nI k := nI_ge (by omega) (by omega)
    have n10 : ¬ (1 : Int32) = 0 := by decide
    have e2 : nI t.2.1 + nI k = nI (t.2.1 + k) := nI_add _ _
    have e3 : (nI (t.2.1 + k)).toNatClampNeg = t.2.1 + k ∧ 0 ≤ nI (t.2.1 + k) ∧ t.2.1 + k < 96 := ⟨nI_clamp (by omega), nI_pos' (by omega), by omega⟩
    have e4 : (nI wi).toNatClampNeg = wi ∧ 0 ≤ nI wi ∧ wi < 4 := ⟨nI_clamp (by omega), nI_pos' (by omega), by omega⟩
    have e5 : nI S + nI k = nI (S + k) := nI_add _ _
    have e6 : (nI (S + k)).toNatClampNeg = S + k ∧ 0 ≤ nI (S + k) ∧ S + k < 11 := ⟨nI_clamp (by omega), nI_pos' (by omega), by omega⟩
    have e7 := hv.2 (t.2.1 + k) (by omega)
    have hB := h.2 (t.2.1 + k) (by omega)
    obtain ⟨l1, l2⟩ := hl k (by omega)
    have step : ∀ x : Int32, (x = (if b (t.2.1 + k) = l k then 1 else 0)) → qs_EV d 170 55 [some (.ref 116), some (.int (nI wi)), some (.int (nI L)), some (.int 1), some (.int (nI k))] [] (QM v w) = qs_EV d 170 55 [some (.ref 116), some (.int (nI wi)), some (.int (nI L)), some (.int x), some (.int (nI (k + 1)))] [] (QM v w) := fun x hx => by
      refine (bq_170_55 d 116 _ _ _ _ (QM v w)).trans ?_
      rw [nI_succ]
      by_cases g : b (t.2.1 + k) = l k
      · rw [if_pos g] at hx
        subst hx
        have g2 : nI (b (t.2.1 + k)) = nI (l k) := by rw [g]
        simp only [QM_kd, QM_sz, QM_lk, QM_i, QM_wi, zM, zI, qs_bI, qs_bV, qb_0, e1, n10, h11, e2, e3, hS, e4, e5, e6, e7, l2, g2, Bool.true_eq_false, Nat.reduceSub, Nat.reduceLeDiff, Nat.reduceLT, true_and, and_true, and_self, if_true, if_false]
      · rw [if_neg g] at hx
        subst hx
        have g2 : ¬ nI (b (t.2.1 + k)) = nI (l k) := fun c => g ((nI_eq (by omega) (by omega)).mp c)
        simp only [QM_kd, QM_sz, QM_lk, QM_i, QM_wi, zM, zI, qs_bI, qs_bV, qb_0, e1, n10, h11, e2, e3, hS, e4, e5, e6, e7, l2, g2, Bool.true_eq_false, Nat.reduceSub, Nat.reduceLeDiff, Nat.reduceLT, true_and, and_true, and_self, if_true, if_false]
    by_cases g : b (t.2.1 + k) = l k
    · have s1 := step 1 (by rw [if_pos g])
      have ea : s_all (fun i => decide (b (t.2.1 + i) = l i)) (r + 1) k = s_all (fun i => decide (b (t.2.1 + i) = l i)) r (k + 1) := by
        conv => lhs; unfold s_all
        rw [if_pos (show decide (b (t.2.1 + k) = l k) = true from decide_eq_true g)]
      rw [ea, s1]
      exact ih
    · have s1 := step 0 (by rw [if_neg g])
      have ea : s_all (fun i => decide (b (t.2.1 + i) = l i)) (r + 1) k = false := by
        unfold s_all
        rw [if_neg (show ¬ decide (b (t.2.1 + k) = l k) = true by simpa using g)]
      rw [ea, s1]
      refine ⟨fun c => (by cases c), fun _ => ⟨some (.int (nI L)), some (.int 0), some (.int (nI (k + 1))), ?_⟩⟩
      refine (bq_170_55 d 116 _ _ _ _ (QM v w)).trans ?_
      rw [nI_succ wi]
      by_cases g3 : nI L ≤ nI (k + 1)
      · rw [if_pos g3, if_pos rfl]
      · rw [if_neg g3, if_pos rfl, if_pos rfl]
theorem m_170w {d n wi S L : Nat} {b : Nat → Nat} {l : Nat → Nat} {v : Nat → Nat → Int32} {w : Nat → Nat → Int64} {t : s_Tk} {o2 o3 o4 : Option Value} (h : s_tp b n) (hv : tpR v b n) (hw : wi ≤ 2) (hS : v 124 wi = nI S) (hS2 : v 124 (wi + 1) = nI (S + L)) (hSL : S + L ≤ 11) (hl : ∀ i, i < L → l i ≤ 122 ∧ v 123 (S + i) = nI (l i)) (ht : tR v t) (ok : tOK t n) (g1 : t.1 = 1) : (s_wd b t L l = true → ∃ v', qs_EV (d + 3) 170 12 [some (.ref 116), some (.int (nI wi)), o2, o3, o4] [] (QM v w) = some (some (.int 1), QM v' w) ∧ frR (qu v 116 15 (nI wi)) v' ∧ tR v' (s_nx b n t)) ∧ (s_wd b t L l = false → ∃ o2' o3' o4', qs_EV (d + 3) 170 12 [some (.ref 116), some (.int (nI wi)), o2, o3, o4] [] (QM v w) = qs_EV (d + 3) 170 12 [some (.ref 116), some (.int (nI (wi + 1))), o2', o3', o4'] [] (QM v w)) := by
  have ht0 := ht
  obtain ⟨h12, h11, h10, -, hE⟩ := ht
  have hE := hE (by omega) (by omega)
  have hn96 : n ≤ 96 := h.1
  obtain ⟨p1, p2⟩ := ok.2.2.2.1 (by omega)
  have e4 : (nI wi).toNatClampNeg = wi ∧ 0 ≤ nI wi ∧ wi < 4 := ⟨nI_clamp (by omega), nI_pos' (by omega), by omega⟩
  have e5 : (nI wi + 1).toNatClampNeg = wi + 1 ∧ 0 ≤ nI wi + 1 ∧ wi + 1 < 4 := by
    rw [← nI_succ]
    exact ⟨nI_clamp (by omega), nI_pos' (by omega), by omega⟩
  have e6 : nI (S + L) - nI S = nI L := by rw [nI_sub (by omega), Nat.add_sub_cancel_left]
  have e7 : nI t.2.2.1 - nI t.2.1 = nI (t.2.2.1 - t.2.1) := nI_sub (by omega)
  have n3 : ¬ (3 : Int32) ≤ nI wi := nI_ge (b := 3) (by omega) (by omega)
  by_cases gl : t.2.2.1 - t.2.1 = L
  · have st : qs_EV (d + 3) 170 12 [some (.ref 116), some (.int (nI wi)), o2, o3, o4] [] (QM v w) = qs_EV (d + 3) 170 55 [some (.ref 116), some (.int (nI wi)), some (.int (nI L)), some (.int 1), some (.int (nI 0))] [] (QM v w) := by
      refine (bq_170_12 (d + 3) 116 _ _ _ _ (QM v w)).trans ?_
      rw [nI_0]
      simp only [QM_kd, QM_sz, QM_lk, QM_i, QM_wi, zM, zI, qs_bI, qs_bV, qb_0, n3, e4, e5, hS, hS2, e6, h10, h11, e7, gl, Bool.true_eq_false, Nat.reduceSub, Nat.reduceLeDiff, Nat.reduceLT, true_and, and_true, and_self, if_true, if_false]
    obtain ⟨i1, i2⟩ := m_170L (d := d + 3) (w := w) (t := t) h hv hw hS hSL hl h11 (by omega) L 0 (by omega)
    have ew : s_wd b t L l = s_all (fun i => decide (b (t.2.1 + i) = l i)) L 0 := by
      unfold s_wd
      rw [decide_eq_true (⟨g1, gl⟩ : t.1 = 1 ∧ t.2.2.1 - t.2.1 = L), Bool.true_and]
    rw [ew, st]
    refine ⟨fun c => ?_, i2⟩
    rw [i1 c]
    obtain ⟨v', j1, j2, j3⟩ := m_169 (d := d) (u := qu v 116 15 (nI wi)) (w := w) (t := t) h ⟨by rw [qu_at, if_neg (by omega)]; exact hv.1, by rw [qu_ne _ _ _ (by omega)]; exact hv.2⟩ (by rw [qu_at, if_neg (by omega)]; exact h10) (by rw [qu_at, if_neg (by omega)]; exact hE) ok.2.2.2.2.2.2.2
    refine ⟨v', ?_, j2, j3⟩
    have e1 : nI L ≤ nI L := nI_le (Nat.le_refl _) (by omega)
    have n10 : ¬ (1 : Int32) = 0 := by decide
    refine (bq_170_55 (d + 3) 116 _ _ _ _ (QM v w)).trans ?_
    simp only [QM_kd, QM_sz, QM_lk, QM_i, QM_wi, zM, zI, qs_bI, qs_bV, qb_0, e1, n10, j1, Bool.true_eq_false, Nat.reduceSub, Nat.reduceLeDiff, Nat.reduceLT, true_and, and_true, and_self, if_true, if_false]
    rw [if_pos (by decide)]
  · have ew : s_wd b t L l = false := by
      unfold s_wd
      rw [decide_eq_false (fun c => gl c.2 : ¬ (t.1 = 1 ∧ t.2.2.1 - t.2.1 = L)), Bool.false_and]
    rw [ew]
    refine ⟨fun c => (by cases c), fun _ => ⟨some (.int (nI L)), some (.int 0), some (.int 0), ?_⟩⟩
    have gl2 : ¬ nI L = nI (t.2.2.1 - t.2.1) := fun c => gl ((nI_eq (by omega) (by omega)).mp c).symm
    refine (bq_170_12 (d + 3) 116 _ _ _ _ (QM v w)).trans ?_
    simp only [QM_kd, QM_sz, QM_lk, QM_i, QM_wi, zM, zI, qs_bI, qs_bV, qb_0, n3, e4, e5, hS, hS2, e6, h10, h11, e7, gl2, Bool.true_eq_false, Nat.reduceSub, Nat.reduceLeDiff, Nat.reduceLT, true_and, and_true, and_self, if_true, if_false]
    refine (bq_170_55 (d + 3) 116 _ _ _ _ (QM v w)).trans ?_
    rw [nI_succ wi]
    by_cases g3 : nI L ≤ 0
    · rw [if_pos g3, if_pos rfl]
    · rw [if_neg g3, if_pos rfl, if_pos rfl]
theorem m_170 {d n : Nat} {b : Nat → Nat} {v : Nat → Nat → Int32} {w : Nat → Nat → Int64} {t : s_Tk} (h : s_tp b n) (hv : tpR v b n) (hK : iKs v) (ht : tR v t) (ok : tOK t n) : ∃ v', qs_call (d + 4) 170 [.ref 116] (QM v w) = some (some (.int (if s_key b t = 3 then 0 else 1)), QM v' w) ∧ (s_key b t = 3 → v' = v) ∧ (s_key b t ≠ 3 → frR (qu v 116 15 (nI (s_key b t))) v' ∧ tR v' (s_nx b n t)) := by
  have r1 := ht.1
  have o2 := ok.2.1
  by_cases g1 : t.1 = 1
  · have c1 : nI t.1 = 1 := by rw [g1]; rfl
    rw [c1] at r1
    obtain ⟨-, -, -, -, -, -, ⟨k0, k1, k2, k3, k4, k5, k6, k7, k8, k9, k10⟩, a0, a1, a2, a3, -⟩ := hK
    have st : qs_call (d + 4) 170 [.ref 116] (QM v w) = qs_EV (d + 3) 170 12 [some (.ref 116), some (.int (nI 0)), none, none, none] [] (QM v w) := by
      refine (bq_170_0 (d + 3) 116 (QM v w)).trans ?_
      simp only [QM_kd, QM_sz, QM_lk, QM_i, QM_wi, zM, zI, qs_bI, qs_bV, qb_0, r1, Bool.true_eq_false, Nat.reduceSub, Nat.reduceLeDiff, Nat.reduceLT, true_and, and_true, and_self, if_true, if_false]
      rfl
    rw [st]
    obtain ⟨p1, p2⟩ := m_170w (d := d) (w := w) (wi := 0) (S := 0) (L := 4) (l := s_w0) (o2 := none) (o3 := none) (o4 := none) h hv (by omega) a0 a1 (by omega) (fun i hi => by
      rcases (by omega : i = 0 ∨ i = 1 ∨ i = 2 ∨ i = 3) with rfl | rfl | rfl | rfl
      · exact ⟨by decide, k0⟩
      · exact ⟨by decide, k1⟩
      · exact ⟨by decide, k2⟩
      · exact ⟨by decide, k3⟩) ht ok g1
    unfold s_key
    cases g0 : s_wd b t 4 s_w0 with
    | true =>
      obtain ⟨v', j1, j2, j3⟩ := p1 g0
      exact ⟨v', j1, fun c => by simp at c, fun _ => ⟨j2, j3⟩⟩
    | false =>
      obtain ⟨x2, x3, x4, j1⟩ := p2 g0
      rw [j1]
      obtain ⟨p1, p2⟩ := m_170w (d := d) (w := w) (wi := 1) (S := 4) (L := 3) (l := s_w1) (o2 := x2) (o3 := x3) (o4 := x4) h hv (by omega) a1 a2 (by omega) (fun i hi => by
        rcases (by omega : i = 0 ∨ i = 1 ∨ i = 2) with rfl | rfl | rfl
        · exact ⟨by decide, k4⟩
        · exact ⟨by decide, k5⟩
        · exact ⟨by decide, k6⟩) ht ok g1
      cases g2 : s_wd b t 3 s_w1 with
      | true =>
        obtain ⟨v', j1, j2, j3⟩ := p1 g2
        exact ⟨v', j1, fun c => by simp at c, fun _ => ⟨j2, j3⟩⟩
      | false =>
        obtain ⟨x2, x3, x4, j1⟩ := p2 g2
        rw [j1]
        obtain ⟨p1, p2⟩ := m_170w (d := d) (w := w) (wi := 2) (S := 7) (L := 4) (l := s_w2) (o2 := x2) (o3 := x3) (o4 := x4) h hv (by omega) a2 a3 (by omega) (fun i hi => by
          rcases (by omega : i = 0 ∨ i = 1 ∨ i = 2 ∨ i = 3) with rfl | rfl | rfl | rfl
          · exact ⟨by decide, k7⟩
          · exact ⟨by decide, k8⟩
          · exact ⟨by decide, k9⟩
          · exact ⟨by decide, k10⟩) ht ok g1
        cases g3 : s_wd b t 4 s_w2 with
        | true =>
          obtain ⟨v', j1, j2, j3⟩ := p1 g3
          exact ⟨v', j1, fun c => by simp at c, fun _ => ⟨j2, j3⟩⟩
        | false =>
          obtain ⟨x2, x3, x4, j1⟩ := p2 g3
          rw [j1]
          refine ⟨v, ?_, fun _ => rfl, fun c => absurd rfl c⟩
          refine (bq_170_12 (d + 3) 116 _ _ _ _ (QM v w)).trans ?_
          rw [if_pos (by decide), if_pos (by decide)]
          rfl
  · have n1 : ¬ nI t.1 = 1 := fun q => g1 ((nI_eq (b := 1) (by omega) (by omega)).mp q)
    have e3 : s_key b t = 3 := by
      unfold s_key s_wd
      have e : ∀ L, decide (t.1 = 1 ∧ t.2.2.1 - t.2.1 = L) = false := fun L => decide_eq_false (fun c => g1 c.1)
      rw [e, e]
      rfl
    rw [e3]
    refine ⟨v, ?_, fun _ => rfl, fun c => absurd rfl c⟩
    refine (bq_170_0 (d + 3) 116 (QM v w)).trans ?_
    simp only [QM_kd, QM_sz, QM_lk, QM_i, QM_wi, zM, zI, qs_bI, qs_bV, qb_0, r1, n1, Bool.true_eq_false, Nat.reduceSub, Nat.reduceLeDiff, Nat.reduceLT, true_and, and_true, and_self, if_true, if_false]
    rfl
