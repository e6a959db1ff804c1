/-! TEXT: the steps of the reference's reading -/
def updB (ts : Nat → Bool) (i : Nat) (x : Bool) : Nat → Bool := fun j => if j = i then x else ts j
theorem rS_w {u v : Nat → Nat → Int32} {t : s_Tk} {x : Int32} {W C : List Int32} {a : Nat} {ts : Nat → Bool} (h : rS u v t W C a ts) : rS u (qu (qu v 126 W.length x) 116 22 (nI (W.length + 1))) t (x :: W) C a ts := by
  obtain ⟨⟨f1, f2⟩, h1, h2, h3, h4, h5, h6, h7⟩ := h
  refine ⟨⟨fun y y1 y2 y3 y4 => by rw [qu_ne _ _ _ y1, qu_ne _ _ _ y3, f1 y y1 y2 y3 y4], fun j j1 j2 j3 j4 => ?_⟩, tR_f h1 (fun j j1 j2 => ?_), by simp [qu, h2], lst_f h3 (fun i hi => by simp [qu]), by simp [qu, h4], by simp [qu], ⟨by simp [qu], lst_f h6 (fun i hi => ?_)⟩, fun i hi => by simp [qu, h7 i hi]⟩
  · rw [qu_at, if_neg (by omega), qu_at, if_neg (by omega), f2 j j1 j2 j3 j4]
  · rw [qu_at, if_neg (by omega), qu_at, if_neg (by omega)]
  · rw [qu_at, if_neg (by omega), qu_at, if_neg (by omega)]
theorem rS_u {u v : Nat → Nat → Int32} {t : s_Tk} {W : List Int32} {y : Int32} {C : List Int32} {a : Nat} {ts : Nat → Bool} (h : rS u v t (y :: W) C a ts) : rS u (qu v 116 22 (nI W.length)) t W C a ts := by
  obtain ⟨⟨f1, f2⟩, h1, h2, h3, h4, h5, h6, h7⟩ := h
  refine ⟨⟨fun y y1 y2 y3 y4 => by rw [qu_ne _ _ _ y1, f1 y y1 y2 y3 y4], fun j j1 j2 j3 j4 => ?_⟩, tR_f h1 (fun j j1 j2 => ?_), by simp [qu, h2], lst_f h3 (fun i hi => by simp [qu]), by simp [qu, h4], by simp [qu], lst_f h6.2 (fun i hi => by simp [qu]), fun i hi => by simp [qu, h7 i hi]⟩
  · rw [qu_at, if_neg (by omega), f2 j j1 j2 j3 j4]
  · rw [qu_at, if_neg (by omega)]
theorem rS_t {u v : Nat → Nat → Int32} {t : s_Tk} {W C : List Int32} {a b : Nat} {ts : Nat → Bool} {x : Bool} (h : rS u v t W C a ts) : rS u (qu v 127 b (qb x)) t W C a (updB ts b x) := by
  obtain ⟨⟨f1, f2⟩, h1, h2, h3, h4, h5, h6, h7⟩ := h
  refine ⟨⟨fun y y1 y2 y3 y4 => by rw [qu_ne _ _ _ y4, f1 y y1 y2 y3 y4], fun j j1 j2 j3 j4 => by rw [qu_ne _ _ _ (by omega), f2 j j1 j2 j3 j4]⟩, tR_f h1 (fun j j1 j2 => by rw [qu_ne _ _ _ (by omega)]), by simp [qu, h2], by rw [qu_ne _ _ _ (by omega)]; exact h3, by simp [qu, h4], by simp [qu, h5], by rw [qu_ne _ _ _ (by omega)]; exact h6, fun i hi => ?_⟩
  rw [qu_at]
  unfold updB
  by_cases e : i = b
  · rw [if_pos ⟨rfl, e⟩, if_pos e]
  · rw [if_neg (by omega), if_neg e, h7 i hi]
theorem m_176_172 {d b : Nat} {x3 : Int32} {o4 : Option Value} {u v : Nat → Nat → Int32} {w : Nat → Nat → Int64} {t : s_Tk} {W C : List Int32} {a : Nat} {ts : Nat → Bool} {o : Option Value} (h : rS u v t W C a ts) (hl : W.length ≤ 96) : qs_EV (d + 1) 176 172 [some (.ref 116), some (.int (nI b)), o, some (.int x3), o4] [] (QM v w) = qs_EV (d + 1) 176 28 [some (.ref 116), some (.int (nI b)), some (.int (nI (s_nn W))), some (.int x3), o4] [] (QM v w) := by
  have a1 := m_177 (d := d) (w := w) h hl
  refine (bq_176_172 (d + 1) 116 _ _ _ _ (QM v w)).trans ?_
  simp only [QM_kd, QM_sz, QM_lk, QM_i, QM_wi, zM, zI, qs_bI, qs_bV, qb_0, a1, Bool.true_eq_false, Nat.reduceSub, Nat.reduceLeDiff, Nat.reduceLT, true_and, and_true, and_self, if_true, if_false]
theorem s_nn_le : ∀ l : List Int32, s_nn l ≤ l.length
  | [] => Nat.le_refl _
  | x :: l => by
    have := s_nn_le l
    unfold s_nn
    simp only [List.length_cons]
    split <;> omega
theorem m_not {d n p k : Nat} {b : Nat → Nat} {o4 : Option Value} {u v : Nat → Nat → Int32} {w : Nat → Nat → Int64} {t : s_Tk} {W C : List Int32} {a : Nat} {ts : Nat → Bool} (h : s_tp b n) (hu : tpR u b n) (hS : rS u v t W C a ts) (ok : tOK t n) (hl : W.length + C.length < 96) (g3 : t.1 = 3) (gv : t.2.2.2 = 33) (hk : k < 8) : ∃ v', qs_EV (d + 4) 176 28 [some (.ref 116), some (.int (nI p)), some (.int (nI k)), some (.int 1), o4] [] (QM v w) = qs_EV (d + 4) 176 28 [some (.ref 116), some (.int (nI p)), some (.int (nI (s_nn (-10 :: W)))), some (.int 1), o4] [] (QM v' w) ∧ rS u v' (s_nx b n t) (-10 :: W) C a ts := by
  obtain ⟨v1, i1, i2⟩ := m_go (d := d + 1) (w := w) h hu (rS_w (x := -10) hS) ok (by omega) (by omega)
  refine ⟨v1, ?_, i2⟩
  have r1 := hS.2.1.1
  have r4 := hS.2.1.2.2.2.1 (Or.inl g3)
  have h22 := hS.2.2.2.2.2.1
  have c3' : nI t.1 = 3 := by rw [g3]; rfl
  rw [c3'] at r1
  rw [gv] at r4
  have n10 : ¬ (1 : Int32) = 0 := by decide
  have n8 : ¬ (8 : Int32) ≤ nI k := nI_ge (b := 8) hk (by omega)
  have e4 : (nI W.length).toNatClampNeg = W.length ∧ 0 ≤ nI W.length ∧ W.length < 96 := ⟨nI_clamp (by omega), nI_pos' (by omega), by omega⟩
  have p1 : ∀ y, qu v 126 W.length y 116 22 = nI W.length := fun y => by simp [qu, h22]
  rw [← m_176_172 (o := some (.int (nI k + 1))) i2 (by simp only [List.length_cons]; omega)]
  rw [nI_succ] at i1
  refine (bq_176_28 (d + 4) 116 _ _ _ _ (QM v w)).trans ?_
  simp only [QM_kd, QM_sz, QM_lk, QM_i, QM_wi, zM, zI, qs_bI, qs_bV, qb_0, n10, r1, r4, n8, h22, e4, p1, i1, Bool.true_eq_false, Nat.reduceSub, Nat.reduceLeDiff, Nat.reduceLT, true_and, and_true, and_self, if_true, if_false]
theorem m_par {d n p k : Nat} {b : Nat → Nat} {o4 : Option Value} {u v : Nat → Nat → Int32} {w : Nat → Nat → Int64} {t : s_Tk} {W C : List Int32} {a : Nat} {ts : Nat → Bool} (h : s_tp b n) (hu : tpR u b n) (hS : rS u v t W C a ts) (ok : tOK t n) (hl : W.length + C.length < 96) (g3 : t.1 = 3) (gv : t.2.2.2 = 40) (hp : p < 8) : ∃ v', qs_EV (d + 4) 176 28 [some (.ref 116), some (.int (nI p)), some (.int (nI k)), some (.int 1), o4] [] (QM v w) = qs_EV (d + 4) 176 28 [some (.ref 116), some (.int (nI (p + 1))), some (.int (nI (s_nn (-11 :: W)))), some (.int 1), o4] [] (QM v' w) ∧ rS u v' (s_nx b n t) (-11 :: W) C a (updB ts (p + 1) false) := by
  obtain ⟨v1, i1, i2⟩ := m_go (d := d + 1) (w := w) h hu (rS_t (b := p + 1) (x := false) (rS_w (x := -11) hS)) ok (by omega) (by omega)
  refine ⟨v1, ?_, i2⟩
  have r1 := hS.2.1.1
  have r4 := hS.2.1.2.2.2.1 (Or.inl g3)
  have h22 := hS.2.2.2.2.2.1
  have c3' : nI t.1 = 3 := by rw [g3]; rfl
  rw [c3'] at r1
  rw [gv] at r4
  have n10 : ¬ (1 : Int32) = 0 := by decide
  have n40 : ¬ (40 : Int32) = 33 := by decide
  have n8 : ¬ (8 : Int32) ≤ nI p := nI_ge (b := 8) hp (by omega)
  have e4 : (nI W.length).toNatClampNeg = W.length ∧ 0 ≤ nI W.length ∧ W.length < 96 := ⟨nI_clamp (by omega), nI_pos' (by omega), by omega⟩
  have p1 : ∀ y, qu v 126 W.length y 116 22 = nI W.length := fun y => by simp [qu, h22]
  have e5 : (nI p + 1).toNatClampNeg = p + 1 ∧ 0 ≤ nI p + 1 ∧ p + 1 < 10 := by
    rw [← nI_succ]
    exact ⟨nI_clamp (by omega), nI_pos' (by omega), by omega⟩
  rw [← m_176_172 (o := some (.int (nI k))) i2 (by simp only [List.length_cons]; omega)]
  rw [nI_succ W.length] at i1
  rw [show qb false = 0 from rfl] at i1
  rw [nI_succ p]
  refine (bq_176_28 (d + 4) 116 _ _ _ _ (QM v w)).trans ?_
  simp only [QM_kd, QM_sz, QM_lk, QM_i, QM_wi, zM, zI, qs_bI, qs_bV, qb_0, n10, n40, r1, r4, bq_176_97, n8, h22, e4, e5, p1, true_or, i1, Bool.true_eq_false, Nat.reduceSub, Nat.reduceLeDiff, Nat.reduceLT, true_and, and_true, and_self, if_true, if_false]
theorem m_pie {d n p k key : Nat} {b : Nat → Nat} {o4 : Option Value} {u v : Nat → Nat → Int32} {w : Nat → Nat → Int64} {t : s_Tk} {W C : List Int32} {a : Nat} {ts : Nat → Bool} {c : Int32} (h : s_tp b n) (hu : tpR u b n) (hS : rS u v t W C a ts) (ok : tOK t n) (hk : u 116 15 = nI key) (hk2 : key < 3) (hl : W.length + C.length < 96) (g : s_pt key t = some c) : ∃ v', qs_EV (d + 5) 176 28 [some (.ref 116), some (.int (nI p)), some (.int (nI k)), some (.int 1), o4] [] (QM v w) = qs_EV (d + 5) 176 28 [some (.ref 116), some (.int (nI p)), some (.int (nI (s_nn (s_pop 6 W (c :: C)).1))), some (.int 0), o4] [] (QM v' w) ∧ rS u v' (s_nx b n t) (s_pop 6 W (c :: C)).1 (s_pop 6 W (c :: C)).2 (a + 1) ts := by
  obtain ⟨v1, i1, i2⟩ := m_175_ok (d := d + 1) (w := w) h hu hS ok hk hk2 hl g
  refine ⟨v1, ?_, i2⟩
  have r1 := hS.2.1.1
  have o2 := ok.2.1
  have g3 : ¬ t.1 = 3 := fun c3 => by
    unfold s_pt at g
    rw [if_neg (by omega), if_neg (by omega)] at g
    cases g
  have n3 : ¬ nI t.1 = 3 := fun q => g3 ((nI_eq (b := 3) (by omega) (by omega)).mp q)
  have n10 : ¬ (1 : Int32) = 0 := by decide
  have hlen := s_pop_len 6 W (c :: C)
  simp only [List.length_cons] at hlen
  rw [← m_176_172 (o := some (.int (nI k))) i2 (by omega)]
  refine (bq_176_28 (d + 5) 116 _ _ _ _ (QM v w)).trans ?_
  have w2 : (bif qs_w2 (some (Value.int (nI k))) then none else some (Value.int (nI k))) = some (Value.int (nI k)) := rfl
  simp only [QM_kd, QM_sz, QM_lk, QM_i, QM_wi, zM, zI, qs_bI, qs_bV, qb_0, n10, r1, n3, bq_176_97, bq_176_158, i1, w2, Bool.true_eq_false, Nat.reduceSub, Nat.reduceLeDiff, Nat.reduceLT, true_and, and_true, and_self, if_true, if_false]
theorem m_wno {d n p k key : Nat} {b : Nat → Nat} {o4 : Option Value} {u v : Nat → Nat → Int32} {w : Nat → Nat → Int64} {t : s_Tk} {W C : List Int32} {a : Nat} {ts : Nat → Bool} (hn : n ≤ 96) (hS : rS u v t W C a ts) (ok : tOK t n) (hk : u 116 15 = nI key) (hk2 : key < 3) (hp : p ≤ 8) (hk8 : k ≤ 8) (g1 : ¬ (t.1 = 3 ∧ t.2.2.2 = 33 ∧ k < 8)) (g2 : ¬ (t.1 = 3 ∧ t.2.2.2 = 40 ∧ p < 8)) (g : s_pt key t = none) : qs_EV (d + 3) 176 28 [some (.ref 116), some (.int (nI p)), some (.int (nI k)), some (.int 1), o4] [] (QM v w) = some (some (.int 0), QM v w) := by
  have i1 := m_175_no (d := d + 1) (w := w) hn hS ok hk hk2 g
  have r1 := hS.2.1.1
  have o2 := ok.2.1
  have n10 : ¬ (1 : Int32) = 0 := by decide
  have n40 : ¬ (33 : Int32) = 40 := by decide
  refine (bq_176_28 (d + 3) 116 _ _ _ _ (QM v w)).trans ?_
  by_cases g3 : t.1 = 3
  · have r4 := hS.2.1.2.2.2.1 (Or.inl g3)
    have c3' : nI t.1 = 3 := by rw [g3]; rfl
    rw [c3'] at r1
    by_cases gv : t.2.2.2 = 33
    · have n8 : (8 : Int32) ≤ nI k := nI_le (a := 8) (Decidable.byContradiction fun c => g1 ⟨g3, gv, by omega⟩) (by omega)
      rw [gv] at r4
      simp only [QM_kd, QM_sz, QM_lk, QM_i, QM_wi, zM, zI, qs_bI, qs_bV, qb_0, n10, n40, r1, r4, n8, bq_176_97, bq_176_158, i1, true_or, Bool.true_eq_false, Nat.reduceSub, Nat.reduceLeDiff, Nat.reduceLT, true_and, and_true, and_self, if_true, if_false]
    by_cases gw : t.2.2.2 = 40
    · have n8 : (8 : Int32) ≤ nI p := nI_le (a := 8) (Decidable.byContradiction fun c => g2 ⟨g3, gw, by omega⟩) (by omega)
      have n33 : ¬ (40 : Int32) = 33 := by decide
      rw [gw] at r4
      simp only [QM_kd, QM_sz, QM_lk, QM_i, QM_wi, zM, zI, qs_bI, qs_bV, qb_0, n10, n33, r1, r4, n8, bq_176_97, bq_176_158, i1, true_or, Bool.true_eq_false, Nat.reduceSub, Nat.reduceLeDiff, Nat.reduceLT, true_and, and_true, and_self, if_true, if_false]
    · simp only [QM_kd, QM_sz, QM_lk, QM_i, QM_wi, zM, zI, qs_bI, qs_bV, qb_0, n10, r1, r4, gv, gw, bq_176_97, bq_176_158, i1, true_or, Bool.true_eq_false, Nat.reduceSub, Nat.reduceLeDiff, Nat.reduceLT, true_and, and_true, and_self, if_true, if_false]
  · have n3 : ¬ nI t.1 = 3 := fun q => g3 ((nI_eq (b := 3) (by omega) (by omega)).mp q)
    simp only [QM_kd, QM_sz, QM_lk, QM_i, QM_wi, zM, zI, qs_bI, qs_bV, qb_0, n10, r1, n3, bq_176_97, bq_176_158, i1, true_or, Bool.true_eq_false, Nat.reduceSub, Nat.reduceLeDiff, Nat.reduceLT, true_and, and_true, and_self, if_true, if_false]
