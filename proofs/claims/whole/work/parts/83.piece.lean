/-! TEXT: a piece, in the reference -/
theorem tOK_nx {b : Nat → Nat} {n : Nat} {t : s_Tk} (h : s_tp b n) (ht : t.2.2.1 ≤ n) : tOK (s_nx b n t) n ∧ t.2.2.1 ≤ (s_nx b n t).2.1 := by
  obtain ⟨h1, h2⟩ := s_nx_ok h.2 ht rfl
  exact ⟨h2, h1⟩
theorem m_go {d n : Nat} {b : Nat → Nat} {u v : Nat → Nat → Int32} {w : Nat → Nat → Int64} {t : s_Tk} {W C : List Int32} {a : Nat} {ts : Nat → Bool} (h : s_tp b n) (hu : tpR u b n) (hS : rS u v t W C a ts) (ok : tOK t n) (g0 : t.1 ≠ 0) (g4 : t.1 ≠ 4) : ∃ v', qs_call (d + 3) 169 [.ref 116] (QM v w) = some (none, QM v' w) ∧ rS u v' (s_nx b n t) W C a ts := by
  obtain ⟨⟨f1, f2⟩, h1, h2, h3, h4, h5, h6, h7⟩ := hS
  obtain ⟨v', i1, ⟨j1, j2⟩, i3⟩ := m_169 (d := d) (u := v) (w := w) (t := t) h ⟨by rw [f2 9 (by omega) (by omega) (by omega) (by omega)]; exact hu.1, by rw [f1 122 (by omega) (by omega) (by omega) (by omega)]; exact hu.2⟩ h1.2.2.1 (h1.2.2.2.2 g0 g4) ok.2.2.2.2.2.2.2
  refine ⟨v', i1, ⟨fun x x1 x2 x3 x4 => by rw [j1 x x1, f1 x x1 x2 x3 x4], fun j k1 k2 k3 k4 => by rw [j2 j k1, f2 j k1 k2 k3 k4]⟩, i3, by rw [j2 19 (by omega), h2], by rw [j1 125 (by omega)]; exact h3, by rw [j2 20 (by omega), h4], by rw [j2 22 (by omega), h5], by rw [j1 126 (by omega)]; exact h6, fun i hi => by rw [j1 127 (by omega)]; exact h7 i hi⟩
theorem rS_p {u v : Nat → Nat → Int32} {t : s_Tk} {c : Int32} {W C : List Int32} {a : Nat} {ts : Nat → Bool} (h : rS u v t W C a ts) : rS u (qu (qu (qu v 125 C.length c) 116 19 (nI (C.length + 1))) 116 20 (nI (a + 1))) t W (c :: C) (a + 1) ts := by
  obtain ⟨⟨f1, f2⟩, h1, h2, h3, h4, h5, h6, h7⟩ := h
  refine ⟨⟨fun y y1 y2 y3 y4 => by rw [qu_ne _ _ _ y1, qu_ne _ _ _ y1, qu_ne _ _ _ y2, f1 y y1 y2 y3 y4], fun j j1 j2 j3 j4 => ?_⟩, tR_f h1 (fun j j1 j2 => ?_), by simp [qu], ⟨by simp [qu], lst_f h3 (fun i hi => ?_)⟩, by simp [qu], by simp [qu, h5], lst_f h6 (fun i hi => by simp [qu]), fun i hi => by simp [qu, h7 i hi]⟩
  · rw [qu_at, if_neg (by omega), qu_at, if_neg (by omega), qu_at, if_neg (by omega), f2 j j1 j2 j3 j4]
  · rw [qu_at, if_neg (by omega), qu_at, if_neg (by omega), qu_at, if_neg (by omega)]
  · rw [qu_at, if_neg (by omega), qu_at, if_neg (by omega), qu_at, if_neg (by omega)]
def s_pt (key : Nat) (t : s_Tk) : Option Int32 := if t.1 = 2 then some t.2.2.2 else if t.1 = 1 ∧ t.2.2.1 = t.2.1 + 1 ∧ s_nm key t.2.2.2.toNatClampNeg ≠ 9 then some (nI (10000 + s_nm key t.2.2.2.toNatClampNeg)) else none
theorem m_175_no {d n key : Nat} {u v : Nat → Nat → Int32} {w : Nat → Nat → Int64} {t : s_Tk} {W C : List Int32} {a : Nat} {ts : Nat → Bool} (hn : n ≤ 96) (hS : rS u v t W C a ts) (ok : tOK t n) (hk : u 116 15 = nI key) (hk2 : key < 3) (g : s_pt key t = none) : qs_call (d + 2) 175 [.ref 116] (QM v w) = some (some (.int 0), QM v w) := by
  obtain ⟨⟨f1, f2⟩, h1, -⟩ := hS
  obtain ⟨r1, r2, r3, r4, -⟩ := h1
  have hk : v 116 15 = nI key := by rw [f2 15 (by omega) (by omega) (by omega) (by omega), hk]
  obtain ⟨o1, o2, o3, o4, o5, o6, o7, o8⟩ := ok
  unfold s_pt at g
  by_cases c2 : t.1 = 2
  · rw [if_pos c2] at g
    cases g
  rw [if_neg c2] at g
  refine (bq_175_0 (d + 1) 116 (QM v w)).trans ?_
  by_cases c1 : t.1 = 1
  · have c1' : nI t.1 = 1 := by rw [c1]; rfl
    rw [c1'] at r1
    have n12 : ¬ (1 : Int32) = 2 := by decide
    have e1 : nI t.2.2.1 - nI t.2.1 = nI (t.2.2.1 - t.2.1) := nI_sub (by have := o4 (by omega); omega)
    by_cases c3 : t.2.2.1 = t.2.1 + 1
    · have e2 : nI (t.2.2.1 - t.2.1) = 1 := by rw [c3, Nat.add_sub_cancel_left]; rfl
      rw [e2] at e1
      have r4 := r4 (Or.inr (Or.inr ⟨c1, c3⟩))
      obtain ⟨B, hB, hv⟩ := o7 c1 c3
      have hcl : (nI B).toNatClampNeg = B := nI_clamp (by omega)
      rw [hv] at r4 g
      rw [hcl] at g
      have c4 : s_nm key B = 9 := Decidable.byContradiction fun c => by
        rw [if_pos ⟨c1, c3, c⟩] at g
        cases g
      have a1 := m_171 (d := d) (u := v) (w := w) hk hk2 hB
      rw [if_pos c4] at a1
      have lt : (-1 : Int32) < 0 := by decide
      simp only [QM_kd, QM_sz, QM_lk, QM_i, QM_wi, zM, zI, qs_bI, qs_bV, qb_0, r1, r2, r3, r4, e1, n12, a1, lt, Bool.true_eq_false, Nat.reduceSub, Nat.reduceLeDiff, Nat.reduceLT, true_and, and_true, and_self, if_true, if_false]
      rfl
    · have e2 : ¬ nI (t.2.2.1 - t.2.1) = 1 := fun q => c3 (by have := (nI_eq (b := 1) (by omega) (by omega)).mp q; omega)
      simp only [QM_kd, QM_sz, QM_lk, QM_i, QM_wi, zM, zI, qs_bI, qs_bV, qb_0, r1, r2, r3, e1, e2, n12, Bool.true_eq_false, Nat.reduceSub, Nat.reduceLeDiff, Nat.reduceLT, true_and, and_true, and_self, if_true, if_false]
      rfl
  · have n1 : ¬ nI t.1 = 1 := fun q => c1 ((nI_eq (b := 1) (by omega) (by omega)).mp q)
    have n2 : ¬ nI t.1 = 2 := fun q => c2 ((nI_eq (b := 2) (by omega) (by omega)).mp q)
    simp only [QM_kd, QM_sz, QM_lk, QM_i, QM_wi, zM, zI, qs_bI, qs_bV, qb_0, r1, n1, n2, Bool.true_eq_false, Nat.reduceSub, Nat.reduceLeDiff, Nat.reduceLT, true_and, and_true, and_self, if_true, if_false]
    rfl
theorem m_175_ok {d n key : Nat} {b : Nat → Nat} {u v : Nat → Nat → Int32} {w : Nat → Nat → Int64} {t : s_Tk} {W C : List Int32} {a : Nat} {ts : Nat → Bool} {c : Int32} (h : s_tp b n) (hu : tpR u b n) (hS : rS u v t W C a ts) (ok : tOK t n) (hk : u 116 15 = nI key) (hk2 : key < 3) (hl : W.length + C.length < 96) (g : s_pt key t = some c) : ∃ v', qs_call (d + 4) 175 [.ref 116] (QM v w) = some (some (.int 1), QM v' w) ∧ rS u v' (s_nx b n t) (s_pop 6 W (c :: C)).1 (s_pop 6 W (c :: C)).2 (a + 1) ts := by
  have hS0 := hS
  obtain ⟨⟨f1, f2⟩, h1, h19, -, h20, -⟩ := hS
  obtain ⟨r1, r2, r3, r4, -⟩ := h1
  have hk : v 116 15 = nI key := by rw [f2 15 (by omega) (by omega) (by omega) (by omega), hk]
  have ok0 := ok
  obtain ⟨o1, o2, o3, o4, o5, o6, o7, o8⟩ := ok
  obtain ⟨v1, i1, i2⟩ := m_173 (d := d + 1) (w := w) (k := 6) (by omega) (by simp only [List.length_cons]; omega) (rS_p (c := c) hS0)
  have hn : n ≤ 96 := h.1
  have e4 : (nI C.length).toNatClampNeg = C.length ∧ 0 ≤ nI C.length ∧ C.length < 96 := ⟨nI_clamp (by omega), nI_pos' (by omega), by omega⟩
  have p1 : ∀ y, qu v 125 C.length y 116 19 = nI C.length := fun y => by simp [qu, h19]
  have p2 : ∀ y z, qu (qu v 125 C.length y) 116 19 z 116 20 = nI a := fun y z => by simp [qu, h20]
  rw [nI_succ C.length, nI_succ a, show nI 6 = 6 from rfl] at i1
  unfold s_pt at g
  by_cases c2 : t.1 = 2
  · rw [if_pos c2] at g
    cases g
    obtain ⟨v2, k1, k2⟩ := m_go (d := d) (w := w) h hu i2 ok0 (by omega) (by omega)
    refine ⟨v2, ?_, k2⟩
    have r4 := r4 (Or.inr (Or.inl c2))
    have c2' : nI t.1 = 2 := by rw [c2]; rfl
    rw [c2'] at r1
    have n21 : ¬ (2 : Int32) = 1 := by decide
    refine (bq_175_0 (d + 3) 116 (QM v w)).trans ?_
    simp only [QM_kd, QM_sz, QM_lk, QM_i, QM_wi, zM, zI, qs_bI, qs_bV, qb_0, r1, n21, bq_175_52, h19, r4, e4, p1, p2, i1, k1, Bool.true_eq_false, Nat.reduceSub, Nat.reduceLeDiff, Nat.reduceLT, true_and, and_true, and_self, if_true, if_false]
    rw [if_pos (by decide)]
  rw [if_neg c2] at g
  by_cases cc : t.1 = 1 ∧ t.2.2.1 = t.2.1 + 1 ∧ s_nm key t.2.2.2.toNatClampNeg ≠ 9
  · rw [if_pos cc] at g
    cases g
    obtain ⟨c1, c3, c4⟩ := cc
    obtain ⟨v2, k1, k2⟩ := m_go (d := d) (w := w) h hu i2 ok0 (by omega) (by omega)
    refine ⟨v2, ?_, k2⟩
    have c1' : nI t.1 = 1 := by rw [c1]; rfl
    rw [c1'] at r1
    have n12 : ¬ (1 : Int32) = 2 := by decide
    have e1 : nI t.2.2.1 - nI t.2.1 = nI (t.2.2.1 - t.2.1) := nI_sub (by have := o4 (by omega); omega)
    have e2 : nI (t.2.2.1 - t.2.1) = 1 := by rw [c3, Nat.add_sub_cancel_left]; rfl
    rw [e2] at e1
    have r4 := r4 (Or.inr (Or.inr ⟨c1, c3⟩))
    obtain ⟨B, hB, hv⟩ := o7 c1 c3
    have hcl : (nI B).toNatClampNeg = B := nI_clamp (by omega)
    rw [hv, hcl] at c4 i1
    rw [hv] at r4
    have a1 := m_171 (d := d + 2) (u := v) (w := w) hk hk2 hB
    rw [if_neg c4] at a1
    have hnm : s_nm key B ≤ 9 := by
      unfold s_nm
      (repeat' split) <;> omega
    have lt : ¬ nI (s_nm key B) < 0 := nI_pos (by omega)
    have e5 : (10000 : Int32) + nI (s_nm key B) = nI (10000 + s_nm key B) := nI_add 10000 _
    have n10 : ¬ (1 : Int32) = 0 := by decide
    refine (bq_175_0 (d + 3) 116 (QM v w)).trans ?_
    simp only [QM_kd, QM_sz, QM_lk, QM_i, QM_wi, zM, zI, qs_bI, qs_bV, qb_0, r1, r2, r3, n12, bq_175_52, h19, r4, e1, e4, p1, p2, a1, lt, n10, e5, i1, k1, Bool.true_eq_false, Nat.reduceSub, Nat.reduceLeDiff, Nat.reduceLT, true_and, and_true, and_self, if_true, if_false]
    rw [if_pos (by decide)]
  · rw [if_neg cc] at g
    cases g
