/-! TEXT: the state of the reference's reading -/
def lst (a : Nat → Int32) : List Int32 → Prop
  | [] => True
  | x :: l => a l.length = x ∧ lst a l
theorem lst_f {a a' : Nat → Int32} : ∀ {l : List Int32}, lst a l → (∀ i, i < l.length → a' i = a i) → lst a' l
  | [], _, _ => trivial
  | x :: l, h, g => ⟨by rw [g _ (by simp)]; exact h.1, lst_f h.2 (fun i hi => g i (by simp; omega))⟩
def s_rk (x : Int32) : Nat := if x = -1 then 1 else if x = -2 then 2 else if x < -5 then if x < -7 then if x < -9 then 6 else 5 else 4 else 3
theorem s_rk_6 (x : Int32) : 1 ≤ s_rk x ∧ s_rk x ≤ 6 := by
  unfold s_rk
  (repeat' split) <;> omega
theorem m_172 {d : Nat} {x : Int32} {m : qs_M} : qs_call (d + 1) 172 [.int x] m = some (some (.int (nI (s_rk x))), m) := by
  refine (bq_172_0 d x m).trans ?_
  unfold s_rk
  (repeat' split) <;> rfl
def s_pop (k : Nat) : List Int32 → List Int32 → List Int32 × List Int32
  | [], C => ([], C)
  | x :: W, C => if x = -11 ∨ s_rk x < k then (x :: W, C) else s_pop k W (x :: C)
theorem s_pop_len (k : Nat) : ∀ W C, (s_pop k W C).1.length + (s_pop k W C).2.length = W.length + C.length
  | [], C => rfl
  | x :: W, C => by
    have ih := s_pop_len k W (x :: C)
    unfold s_pop
    split
    · rfl
    · rw [ih]
      simp
      omega
def fRR (u v : Nat → Nat → Int32) : Prop := (∀ x, x ≠ 116 → x ≠ 125 → x ≠ 126 → x ≠ 127 → v x = u x) ∧ ∀ j, ¬ (10 ≤ j ∧ j ≤ 14) → j ≠ 19 → j ≠ 20 → j ≠ 22 → v 116 j = u 116 j
/-- the state: what stands here, what waits, what is put, how many pieces, what was tested -/
def rS (u v : Nat → Nat → Int32) (t : s_Tk) (W C : List Int32) (a : Nat) (ts : Nat → Bool) : Prop := fRR u v ∧ tR v t ∧ v 116 19 = nI C.length ∧ lst (v 125) C ∧ v 116 20 = nI a ∧ v 116 22 = nI W.length ∧ lst (v 126) W ∧ ∀ i, i ≤ 8 → v 127 i = qb (ts i)
theorem tR_f {v x : Nat → Nat → Int32} {t : s_Tk} (h : tR v t) (g : ∀ j, 10 ≤ j → j ≤ 14 → x 116 j = v 116 j) : tR x t := by
  unfold tR
  rw [g 12 (by omega) (by omega), g 11 (by omega) (by omega), g 10 (by omega) (by omega), g 13 (by omega) (by omega), g 14 (by omega) (by omega)]
  exact h
/-- one that waits is put -/
theorem rS_1 {u v : Nat → Nat → Int32} {t : s_Tk} {x : Int32} {W C : List Int32} {a : Nat} {ts : Nat → Bool} (h : rS u v t (x :: W) C a ts) : rS u (qu (qu (qu v 116 22 (nI W.length)) 125 C.length x) 116 19 (nI (C.length + 1))) t W (x :: C) a ts := by
  obtain ⟨⟨f1, f2⟩, h1, h2, h3, h4, h5, h6, h7⟩ := h
  refine ⟨⟨fun y y1 y2 y3 y4 => by rw [qu_ne _ _ _ y1, qu_ne _ _ _ y2, qu_ne _ _ _ y1, f1 y y1 y2 y3 y4], fun j j1 j2 j3 j4 => ?_⟩, tR_f h1 (fun j j1 j2 => ?_), by simp [qu], ⟨by simp [qu], lst_f h3 (fun i hi => ?_)⟩, by simp [qu, h4], by simp [qu], lst_f h6.2 (fun i hi => by simp [qu]), fun i hi => by simp [qu, h7 i hi]⟩
  · rw [qu_at, if_neg (by omega), qu_at, if_neg (by omega), qu_at, if_neg (by omega), f2 j j1 j2 j3 j4]
  · rw [qu_at, if_neg (by omega), qu_at, if_neg (by omega), qu_at, if_neg (by omega)]
  · rw [qu_at, if_neg (by omega), qu_at, if_neg (by omega), qu_at, if_neg (by omega)]
theorem m_173L {d k : Nat} {u : Nat → Nat → Int32} {w : Nat → Nat → Int64} {t : s_Tk} {a : Nat} {ts : Nat → Bool} (hk : k ≤ 6) : ∀ (W C : List Int32) (v : Nat → Nat → Int32), W.length + C.length ≤ 96 → rS u v t W C a ts → ∃ v', qs_EV (d + 1) 173 0 [some (.ref 116), some (.int (nI k))] [] (QM v w) = some (none, QM v' w) ∧ rS u v' t (s_pop k W C).1 (s_pop k W C).2 a ts
  | [], C, v, hl, h => by
    refine ⟨v, ?_, h⟩
    have h5 : v 116 22 = 0 := h.2.2.2.2.2.1
    refine (bq_173_0 (d + 1) 116 _ (QM v w)).trans ?_
    simp only [QM_kd, QM_sz, QM_lk, QM_i, QM_wi, zM, zI, qs_bI, qs_bV, qb_0, h5, Bool.true_eq_false, Nat.reduceSub, Nat.reduceLeDiff, Nat.reduceLT, true_and, and_true, and_self, if_true, if_false]
  | x :: W, C, v, hl, h => by
    simp only [List.length_cons] at hl
    have h2 := h.2.2.1
    have h5 : v 116 22 = nI (W.length + 1) := h.2.2.2.2.2.1
    have h6 : v 126 W.length = x := h.2.2.2.2.2.2.1.1
    have e1 : ¬ nI (W.length + 1) ≤ 0 := nI_ge (a := 0) (by omega) (by omega)
    have e2 : nI (W.length + 1) - 1 = nI W.length := nI_pred _
    have e3 : (nI W.length).toNatClampNeg = W.length ∧ 0 ≤ nI W.length ∧ W.length < 96 := ⟨nI_clamp (by omega), nI_pos' (by omega), by omega⟩
    have e4 : (nI C.length).toNatClampNeg = C.length ∧ 0 ≤ nI C.length ∧ C.length < 96 := ⟨nI_clamp (by omega), nI_pos' (by omega), by omega⟩
    have r6 := s_rk_6 x
    unfold s_pop
    by_cases g : x = -11
    · rw [if_pos (Or.inl g)]
      refine ⟨v, ?_, h⟩
      refine (bq_173_0 (d + 1) 116 _ (QM v w)).trans ?_
      simp only [QM_kd, QM_sz, QM_lk, QM_i, QM_wi, zM, zI, qs_bI, qs_bV, qb_0, h5, e1, e2, e3, h6, g, Bool.true_eq_false, Nat.reduceSub, Nat.reduceLeDiff, Nat.reduceLT, true_and, and_true, and_self, if_true, if_false]
    by_cases g2 : s_rk x < k
    · rw [if_pos (Or.inr g2)]
      refine ⟨v, ?_, h⟩
      have e5 : nI (s_rk x) < nI k := nI_lt g2 (by omega)
      refine (bq_173_0 (d + 1) 116 _ (QM v w)).trans ?_
      simp only [QM_kd, QM_sz, QM_lk, QM_i, QM_wi, zM, zI, qs_bI, qs_bV, qb_0, h5, e1, e2, e3, h6, g, m_172, e5, Bool.true_eq_false, Nat.reduceSub, Nat.reduceLeDiff, Nat.reduceLT, true_and, and_true, and_self, if_true, if_false]
    · rw [if_neg (fun c => c.elim g g2)]
      have e5 : ¬ nI (s_rk x) < nI k := Int32.not_lt.mpr (nI_le (by omega) (by omega))
      obtain ⟨v', i1, i2⟩ := m_173L (d := d) (k := k) (w := w) hk W (x :: C) _ (by simp only [List.length_cons]; omega) (rS_1 h)
      refine ⟨v', ?_, i2⟩
      refine (bq_173_0 (d + 1) 116 _ (QM v w)).trans ?_
      have f1 : ∀ y, qu v 116 22 y 116 22 = y := fun y => by simp [qu]
      have f2 : ∀ y, qu v 116 22 y 116 19 = nI C.length := fun y => by simp [qu, h2]
      have f3 : ∀ y, qu v 116 22 y 126 W.length = x := fun y => by simp [qu, h6]
      have f4 : ∀ y z, qu (qu v 116 22 y) 125 C.length z 116 19 = nI C.length := fun y z => by simp [qu, h2]
      rw [nI_succ] at i1
      simp only [QM_kd, QM_sz, QM_lk, QM_i, QM_wi, zM, zI, qs_bI, qs_bV, qb_0, h5, e1, e2, e3, e4, h6, g, m_172, e5, f1, f2, f3, f4, Bool.true_eq_false, Nat.reduceSub, Nat.reduceLeDiff, Nat.reduceLT, true_and, and_true, and_self, if_true, if_false]
      exact i1
theorem m_173 {d k : Nat} {u : Nat → Nat → Int32} {w : Nat → Nat → Int64} {t : s_Tk} {a : Nat} {ts : Nat → Bool} (hk : k ≤ 6) {W C : List Int32} {v : Nat → Nat → Int32} (hl : W.length + C.length ≤ 96) (h : rS u v t W C a ts) : ∃ v', qs_call (d + 2) 173 [.ref 116, .int (nI k)] (QM v w) = some (none, QM v' w) ∧ rS u v' t (s_pop k W C).1 (s_pop k W C).2 a ts := m_173L hk W C v hl h
def s_cf (a : Nat → Int32) : Nat → Nat
  | 0 => 0
  | n + 1 => s_cf a n + if a n = -10 then 1 else 0
def s_nn : List Int32 → Nat
  | [] => 0
  | x :: l => s_nn l + if x = -10 then 1 else 0
theorem s_cf_cn {a : Nat → Int32} : ∀ {l : List Int32}, lst a l → s_cf a l.length = s_nn l
  | [], _ => rfl
  | x :: l, h => by
    have ih := s_cf_cn h.2
    show s_cf a l.length + (if a l.length = -10 then 1 else 0) = _
    rw [ih, h.1]
    rfl
theorem s_cf_le (a : Nat → Int32) : ∀ n, s_cf a n ≤ n
  | 0 => Nat.le_refl _
  | n + 1 => by
    have := s_cf_le a n
    unfold s_cf
    split <;> omega
theorem m_177L {d n : Nat} {v : Nat → Nat → Int32} {w : Nat → Nat → Int64} (hn : n ≤ 96) (h : v 116 22 = nI n) : ∀ (r k : Nat), k + r = n → qs_EV d 177 4 [some (.ref 116), some (.int (nI (s_cf (v 126) k))), some (.int (nI k))] [] (QM v w) = some (some (.int (nI (s_cf (v 126) n))), QM v w)
  | 0, k, e => by
    obtain rfl : k = n := by omega
    refine (bq_177_4 d 116 _ _ (QM v w)).trans ?_
    have e1 : nI k ≤ nI k := nI_le (Nat.le_refl _) (by omega)
    simp only [QM_kd, QM_sz, QM_lk, QM_i, QM_wi, zM, zI, qs_bI, qs_bV, qb_0, h, e1, Bool.true_eq_false, Nat.reduceSub, Nat.reduceLeDiff, Nat.reduceLT, true_and, and_true, and_self, if_true, if_false]
  | r + 1, k, e => by
    have ih := m_177L (d := d) (w := w) hn h r (k + 1) (by omega)
    have e1 : ¬ nI n ≤ nI k := nI_ge (by omega) (by omega)
    have e3 : (nI k).toNatClampNeg = k ∧ 0 ≤ nI k ∧ k < 96 := ⟨nI_clamp (by omega), nI_pos' (by omega), by omega⟩
    refine (bq_177_4 d 116 _ _ (QM v w)).trans ?_
    rw [nI_succ] at ih
    rw [show s_cf (v 126) (k + 1) = s_cf (v 126) k + (if v 126 k = -10 then 1 else 0) from rfl] at ih
    by_cases g : v 126 k = -10
    · rw [if_pos g, nI_succ] at ih
      simp only [QM_kd, QM_sz, QM_lk, QM_i, QM_wi, zM, zI, qs_bI, qs_bV, qb_0, h, e1, e3, g, Bool.true_eq_false, Nat.reduceSub, Nat.reduceLeDiff, Nat.reduceLT, true_and, and_true, and_self, if_true, if_false]
      exact ih
    · rw [if_neg g] at ih
      have r0 : ∀ x, nI x + 0 = nI x := fun x => nI_add x 0
      simp only [QM_kd, QM_sz, QM_lk, QM_i, QM_wi, zM, zI, qs_bI, qs_bV, qb_0, h, e1, e3, g, r0, Bool.true_eq_false, Nat.reduceSub, Nat.reduceLeDiff, Nat.reduceLT, true_and, and_true, and_self, if_true, if_false]
      exact ih
theorem m_177 {d : Nat} {u v : Nat → Nat → Int32} {w : Nat → Nat → Int64} {t : s_Tk} {W C : List Int32} {a : Nat} {ts : Nat → Bool} (h : rS u v t W C a ts) (hl : W.length ≤ 96) : qs_call (d + 1) 177 [.ref 116] (QM v w) = some (some (.int (nI (s_nn W))), QM v w) := by
  have h5 := h.2.2.2.2.2.1
  have h6 := h.2.2.2.2.2.2.1
  have := m_177L (d := d) (w := w) hl h5 W.length 0 (by omega)
  rw [s_cf_cn h6] at this
  exact (bq_177_0 d 116 (QM v w)).trans this
/-- the sign that stands here -/
def s_sg (x : Int32) : Int32 := if x = 38 then -2 else if x = 42 then -8 else if x = 43 then -6 else if x = 45 then -7 else if x = 47 then -9 else if x = 60 then -3 else if x = 61 then -4 else if x = 62 then -5 else if x = 124 then -1 else 0
def s_si (t : s_Tk) : Int32 := if t.1 = 3 then s_sg t.2.2.2 else 0
theorem m_174 {d : Nat} {v : Nat → Nat → Int32} {w : Nat → Nat → Int64} {t : s_Tk} (h : tR v t) (h4 : t.1 ≤ 4) : qs_call (d + 1) 174 [.ref 116] (QM v w) = some (some (.int (s_si t)), QM v w) := by
  obtain ⟨h1, h2, h3, h5, -⟩ := h
  refine (bq_174_0 d 116 (QM v w)).trans ?_
  unfold s_si
  by_cases g : t.1 = 3
  · rw [if_pos g]
    have h5 := h5 (Or.inl g)
    have r : nI 3 = 3 := rfl
    simp only [QM_kd, QM_sz, QM_lk, QM_i, QM_wi, zM, zI, qs_bI, qs_bV, qb_0, h1, g, r, h5, Bool.true_eq_false, Nat.reduceSub, Nat.reduceLeDiff, Nat.reduceLT, true_and, and_true, and_self, if_true, if_false]
    unfold s_sg
    (repeat' split) <;> rfl
  · rw [if_neg g]
    have r : ¬ nI t.1 = 3 := fun c => g ((nI_eq (b := 3) (by omega) (by omega)).mp c)
    simp only [QM_kd, QM_sz, QM_lk, QM_i, QM_wi, zM, zI, qs_bI, qs_bV, qb_0, h1, r, Bool.true_eq_false, Nat.reduceSub, Nat.reduceLeDiff, Nat.reduceLT, true_and, and_true, and_self, if_true, if_false]
