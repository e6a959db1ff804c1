/-! TEXT: the reading of the other side, its small steps -/
def fCC (u v : Nat → Nat → Int32) : Prop := (∀ x, x ≠ 48 → x ≠ 50 → x ≠ 51 → v x = u x) ∧ (∀ j, ¬ (3 ≤ j ∧ j ≤ 6) → v 48 j = u 48 j) ∧ ∀ j, j ≠ 2 → j ≠ 3 → v 50 j = u 50 j
def cS (u v : Nat → Nat → Int32) (t : s_Tk) (D : List Int32) (a : Nat) : Prop := fCC u v ∧ tC v t ∧ v 50 2 = nI D.length ∧ lst (v 51) D ∧ v 50 3 = nI a
theorem c_adv {d n : Nat} {b : Nat → Nat} {u v : Nat → Nat → Int32} {w : Nat → Nat → Int64} {t : s_Tk} {D : List Int32} {a : Nat} (h : s_tp b n) (hu : tpC u b n) (hS : cS u v t D a) (ok : tOK t n) : ∃ v', qs_call (d + 3) 32 [.ref 48] (QM v w) = some (none, QM v' w) ∧ cS u v' (s_nx b n t) D a := by
  obtain ⟨⟨f1, f2, f3⟩, h1, h2, h3, h4⟩ := hS
  obtain ⟨v', i1, ⟨j1, j2⟩, i3⟩ := c_32 (d := d) (u := v) (w := w) (t := t) h ⟨by rw [f2 2 (by omega)]; exact hu.1, by rw [f1 49 (by omega) (by omega) (by omega)]; exact hu.2⟩ h1.1 ok.2.1 h1.2.2.1 ok.2.2.2.2.2.2.2
  exact ⟨v', i1, ⟨fun x x1 x2 x3 => by rw [j1 x x1, f1 x x1 x2 x3], fun j hj => by rw [j2 j hj, f2 j hj], fun j k1 k2 => by rw [j1 50 (by omega), f3 j k1 k2]⟩, i3, by rw [j1 50 (by omega), h2], by rw [j1 51 (by omega)]; exact h3, by rw [j1 50 (by omega), h4]⟩
theorem tC_f {v x : Nat → Nat → Int32} {t : s_Tk} (h : tC v t) (g : x 48 = v 48) : tC x t := by
  unfold tC
  rw [g]
  exact h
theorem c_put {d : Nat} {u v : Nat → Nat → Int32} {w : Nat → Nat → Int64} {t : s_Tk} {D : List Int32} {a : Nat} {x : Int32} (hS : cS u v t D a) (hD : D.length < 96) : ∃ v', qs_call (d + 1) 51 [.ref 50, .int x] (QM v w) = some (none, QM v' w) ∧ cS u v' t (x :: D) a := by
  obtain ⟨⟨f1, f2, f3⟩, h1, h2, h3, h4⟩ := hS
  refine ⟨qu (qu v 51 D.length x) 50 2 (nI (D.length + 1)), ?_, ⟨fun y y1 y2 y3 => by rw [qu_ne _ _ _ y2, qu_ne _ _ _ y3, f1 y y1 y2 y3], fun j hj => by rw [qu_ne _ _ _ (by omega), qu_ne _ _ _ (by omega), f2 j hj], fun j k1 k2 => ?_⟩, tC_f h1 (by rw [qu_ne _ _ _ (by omega), qu_ne _ _ _ (by omega)]), by simp [qu], ⟨by simp [qu], lst_f h3 (fun i hi => ?_)⟩, by simp [qu, h4]⟩
  · have z := zQ
    have e4 : (nI D.length).toNatClampNeg = D.length ∧ 0 ≤ nI D.length ∧ D.length < 96 := ⟨nI_clamp (by omega), nI_pos' (by omega), by omega⟩
    have e5 : nI D.length < 96 := nI_lt (b := 96) hD (by omega)
    have p1 : ∀ y, qu v 51 D.length y 50 2 = nI D.length := fun y => by simp [qu, h2]
    rw [nI_succ]
    refine (bq_51_0 d 50 _ (QM v w)).trans ?_
    simp only [QM_kd, QM_sz, QM_lk, QM_i, QM_wi, zI, qs_bI, qs_bV, qb_0, z, h2, e4, e5, p1, Bool.true_eq_false, Nat.reduceSub, Nat.reduceLeDiff, Nat.reduceLT, true_and, and_true, and_self, if_true, if_false]
  · rw [qu_at, if_neg (by omega), qu_ne _ _ _ (by omega), f3 j k1 k2]
  · rw [qu_ne _ _ _ (by omega), qu_at, if_neg (by omega)]
theorem s_sg_0 {x : Int32} (h : s_sg x ≠ 0) : (x = 38 ∧ s_sg x = -2) ∨ (x = 42 ∧ s_sg x = -8) ∨ (x = 43 ∧ s_sg x = -6) ∨ (x = 45 ∧ s_sg x = -7) ∨ (x = 47 ∧ s_sg x = -9) ∨ (x = 60 ∧ s_sg x = -3) ∨ (x = 61 ∧ s_sg x = -4) ∨ (x = 62 ∧ s_sg x = -5) ∨ (x = 124 ∧ s_sg x = -1) := by
  by_cases c1 : x = 38
  · subst c1; exact Or.inl ⟨rfl, rfl⟩
  by_cases c2 : x = 42
  · subst c2; exact Or.inr (Or.inl ⟨rfl, rfl⟩)
  by_cases c3 : x = 43
  · subst c3; exact Or.inr (Or.inr (Or.inl ⟨rfl, rfl⟩))
  by_cases c4 : x = 45
  · subst c4; exact Or.inr (Or.inr (Or.inr (Or.inl ⟨rfl, rfl⟩)))
  by_cases c5 : x = 47
  · subst c5; exact Or.inr (Or.inr (Or.inr (Or.inr (Or.inl ⟨rfl, rfl⟩))))
  by_cases c6 : x = 60
  · subst c6; exact Or.inr (Or.inr (Or.inr (Or.inr (Or.inr (Or.inl ⟨rfl, rfl⟩)))))
  by_cases c7 : x = 61
  · subst c7; exact Or.inr (Or.inr (Or.inr (Or.inr (Or.inr (Or.inr (Or.inl ⟨rfl, rfl⟩))))))
  by_cases c8 : x = 62
  · subst c8; exact Or.inr (Or.inr (Or.inr (Or.inr (Or.inr (Or.inr (Or.inr (Or.inl ⟨rfl, rfl⟩)))))))
  by_cases c9 : x = 124
  · subst c9; exact Or.inr (Or.inr (Or.inr (Or.inr (Or.inr (Or.inr (Or.inr (Or.inr ⟨rfl, rfl⟩)))))))
  · exact absurd (by unfold s_sg; rw [if_neg c1, if_neg c2, if_neg c3, if_neg c4, if_neg c5, if_neg c6, if_neg c7, if_neg c8, if_neg c9]) h
theorem s_sg_n {x : Int32} (h : s_sg x = 0) : x ≠ 38 ∧ x ≠ 42 ∧ x ≠ 43 ∧ x ≠ 45 ∧ x ≠ 47 ∧ x ≠ 60 ∧ x ≠ 61 ∧ x ≠ 62 ∧ x ≠ 124 := by
  refine ⟨?_, ?_, ?_, ?_, ?_, ?_, ?_, ?_, ?_⟩ <;> (intro c; subst c; exact absurd h (by decide))
def s_bn (x : Int32) : Prop := x ≠ -10 ∧ x ≠ -11 ∧ ¬ 0 ≤ x
theorem s_si_bn {t : s_Tk} (h : s_si t ≠ 0) : s_bn (s_si t) ∧ s_rk (s_si t) ≤ 5 ∧ t.1 = 3 ∧ s_tr (s_si t) = -t.2.2.2 := by
  have g3 : t.1 = 3 := Decidable.byContradiction fun c => by
    unfold s_si at h
    rw [if_neg c] at h
    exact h rfl
  unfold s_si at h ⊢
  rw [if_pos g3] at h ⊢
  rcases s_sg_0 h with ⟨c, e⟩ | ⟨c, e⟩ | ⟨c, e⟩ | ⟨c, e⟩ | ⟨c, e⟩ | ⟨c, e⟩ | ⟨c, e⟩ | ⟨c, e⟩ | ⟨c, e⟩ <;> (rw [e, c]; exact ⟨⟨by decide, by decide, by decide⟩, by decide, g3, by decide⟩)
theorem c_38 {d L : Nat} {v : Nat → Nat → Int32} {w : Nat → Nat → Int64} {t : s_Tk} (hL : L ≤ 4) (h : tC v t) (h4 : t.1 ≤ 4) : qs_call (d + 1) 38 [.ref 48, .int (nI L)] (QM v w) = some (some (.int (if s_si t ≠ 0 ∧ s_rk (s_si t) = L + 1 then 1 else 0)), QM v w) := by
  obtain ⟨h1, h2, h3, h5⟩ := h
  have z := zQ
  refine (bq_38_0 d 48 _ (QM v w)).trans ?_
  unfold s_si
  by_cases g : t.1 = 3
  · rw [if_pos g]
    have r : nI t.1 = 3 := by rw [g]; rfl
    rw [r] at h1
    have m1 : ((1 : Int32) = 0 ∨ (1 : Int32) = 1) = True := by simp
    by_cases gs : s_sg t.2.2.2 = 0
    · obtain ⟨n1, n2, n3, n4, n5, n6, n7, n8, n9⟩ := s_sg_n gs
      rw [if_neg (fun c : (s_sg t.2.2.2 ≠ 0 ∧ s_rk (s_sg t.2.2.2) = L + 1) => c.1 gs)]
      rcases (by omega : L = 0 ∨ L = 1 ∨ L = 2 ∨ L = 3 ∨ L = 4) with rfl | rfl | rfl | rfl | rfl
      · have l0 : nI 0 = 0 := rfl
        simp only [QM_kd, QM_sz, QM_lk, QM_i, QM_wi, zI, qs_bI, qs_bV, qb_0, z, h1, h5, l0, n9, true_or, Bool.true_eq_false, Nat.reduceSub, Nat.reduceLeDiff, Nat.reduceLT, true_and, and_true, and_self, if_true, if_false]
      · have l0 : nI 1 = 1 := rfl
        have k0 : ¬ (1 : Int32) = 0 := by decide
        simp only [QM_kd, QM_sz, QM_lk, QM_i, QM_wi, zI, qs_bI, qs_bV, qb_0, z, h1, h5, l0, k0, n1, true_or, Bool.true_eq_false, Nat.reduceSub, Nat.reduceLeDiff, Nat.reduceLT, true_and, and_true, and_self, if_true, if_false]
      · have l0 : nI 2 = 2 := rfl
        have k0 : ¬ (2 : Int32) = 0 := by decide
        have k1 : ¬ (2 : Int32) = 1 := by decide
        simp only [QM_kd, QM_sz, QM_lk, QM_i, QM_wi, zI, qs_bI, qs_bV, qb_0, z, h1, h5, l0, k0, k1, n6, n7, n8, true_or, Bool.true_eq_false, Nat.reduceSub, Nat.reduceLeDiff, Nat.reduceLT, true_and, and_true, and_self, if_true, if_false]
      · have l0 : nI 3 = 3 := rfl
        have k0 : ¬ (3 : Int32) = 0 := by decide
        have k1 : ¬ (3 : Int32) = 1 := by decide
        have k2 : ¬ (3 : Int32) = 2 := by decide
        simp only [QM_kd, QM_sz, QM_lk, QM_i, QM_wi, zI, qs_bI, qs_bV, qb_0, z, h1, h5, l0, k0, k1, k2, n3, n4, true_or, Bool.true_eq_false, Nat.reduceSub, Nat.reduceLeDiff, Nat.reduceLT, true_and, and_true, and_self, if_true, if_false]
      · have l0 : nI 4 = 4 := rfl
        have k0 : ¬ (4 : Int32) = 0 := by decide
        have k1 : ¬ (4 : Int32) = 1 := by decide
        have k2 : ¬ (4 : Int32) = 2 := by decide
        have k3 : ¬ (4 : Int32) = 3 := by decide
        simp only [QM_kd, QM_sz, QM_lk, QM_i, QM_wi, zI, qs_bI, qs_bV, qb_0, z, h1, h5, l0, k0, k1, k2, k3, n2, n5, true_or, Bool.true_eq_false, Nat.reduceSub, Nat.reduceLeDiff, Nat.reduceLT, true_and, and_true, and_self, if_true, if_false]
    · rcases (by omega : L = 0 ∨ L = 1 ∨ L = 2 ∨ L = 3 ∨ L = 4) with rfl | rfl | rfl | rfl | rfl <;> rcases s_sg_0 gs with ⟨c, e⟩ | ⟨c, e⟩ | ⟨c, e⟩ | ⟨c, e⟩ | ⟨c, e⟩ | ⟨c, e⟩ | ⟨c, e⟩ | ⟨c, e⟩ | ⟨c, e⟩ <;> (rw [e]; simp only [QM_kd, QM_sz, QM_lk, QM_i, QM_wi, zI, qs_bI, qs_bV, qb_0, z, h1, h5, c, Bool.true_eq_false, Nat.reduceSub, Nat.reduceLeDiff, Nat.reduceLT, true_and, and_true, and_self, if_true, if_false]; rfl)
  · rw [if_neg g, if_neg (fun c : ((0 : Int32) ≠ 0 ∧ s_rk 0 = L + 1) => c.1 rfl)]
    have r : ¬ nI t.1 = 3 := fun c => g ((nI_eq (b := 3) (by omega) (by omega)).mp c)
    simp only [QM_kd, QM_sz, QM_lk, QM_i, QM_wi, zI, qs_bI, qs_bV, qb_0, z, h1, r, true_or, Bool.true_eq_false, Nat.reduceSub, Nat.reduceLeDiff, Nat.reduceLT, true_and, and_true, and_self, if_true, if_false]
