/-! THE CLASS: facts on its cells -/
def isP (p : Nat) : Prop := p = 52 ∨ p = 63 ∨ p = 74
def zJ (k : Nat) : Prop := qs_kd qy_m k = 0 ∧ qs_lk qy_m k 0 = 0 ∧ qs_lk qy_m k 1 = 0 ∧ qs_lk qy_m k 2 = 0 ∧ qs_lk qy_m k 3 = 0 ∧ qs_lk qy_m k 4 = 0 ∧ qs_lk qy_m k 5 = 0 ∧ qs_lk qy_m k 6 = 0 ∧ qs_lk qy_m k 7 = 0
theorem zJ_of {k : Nat} (h : k < 140) (h0 : qz_K.getD k 0 = 0) (h1 : qz_LK.getD k [] = [0, 0, 0, 0, 0, 0, 0, 0]) : zJ k := by
  have g : ∀ c, c < 8 → qs_lk qy_m k c = 0 := fun c hc => by
    rw [qy_lk h (by rw [h1]; exact hc), h1]
    rcases (by omega : c = 0 ∨ c = 1 ∨ c = 2 ∨ c = 3 ∨ c = 4 ∨ c = 5 ∨ c = 6 ∨ c = 7) with rfl | rfl | rfl | rfl | rfl | rfl | rfl | rfl <;> rfl
  exact ⟨by rw [(qy_kd h).1, h0], g 0 (by omega), g 1 (by omega), g 2 (by omega), g 3 (by omega), g 4 (by omega), g 5 (by omega), g 6 (by omega), g 7 (by omega)⟩
def zPp (p : Nat) : Prop := qs_kd qy_m p = 2 ∧ qs_lk qy_m p 0 = 19 ∧ qs_lk qy_m p 1 = p + 1 + 2 ∧ qs_lk qy_m p 2 = p + 2 + 2 ∧ qs_lk qy_m p 3 = 0 ∧ qs_lk qy_m p 4 = 0 ∧ qs_lk qy_m p 5 = 0 ∧ qs_lk qy_m p 6 = 0 ∧ qs_lk qy_m p 7 = 0 ∧ qs_lk qy_m p 8 = 0 ∧ qs_lk qy_m p 9 = 0 ∧ qs_lk qy_m p 10 = 0 ∧ qs_lk qy_m p 11 = 0 ∧ qs_lk qy_m p 12 = 0 ∧ qs_lk qy_m p 13 = 0 ∧ qs_lk qy_m p 14 = 0 ∧ qs_kd qy_m (p + 1) = 30 ∧ qs_sz qy_m (p + 1) = 8 ∧ qs_kd qy_m (p + 2) = 20 ∧ qs_sz qy_m (p + 2) = 3
theorem zP_52 : zPp 52 := ⟨(qy_kd (by decide)).1, qy_lk (by decide) (by decide), qy_lk (by decide) (by decide), qy_lk (by decide) (by decide), qy_lk (by decide) (by decide), qy_lk (by decide) (by decide), qy_lk (by decide) (by decide), qy_lk (by decide) (by decide), qy_lk (by decide) (by decide), qy_lk (by decide) (by decide), qy_lk (by decide) (by decide), qy_lk (by decide) (by decide), qy_lk (by decide) (by decide), qy_lk (by decide) (by decide), qy_lk (by decide) (by decide), qy_lk (by decide) (by decide), (qy_kd (by decide)).1, (qy_kd (by decide)).2, (qy_kd (by decide)).1, (qy_kd (by decide)).2⟩
theorem zP_63 : zPp 63 := ⟨(qy_kd (by decide)).1, qy_lk (by decide) (by decide), qy_lk (by decide) (by decide), qy_lk (by decide) (by decide), qy_lk (by decide) (by decide), qy_lk (by decide) (by decide), qy_lk (by decide) (by decide), qy_lk (by decide) (by decide), qy_lk (by decide) (by decide), qy_lk (by decide) (by decide), qy_lk (by decide) (by decide), qy_lk (by decide) (by decide), qy_lk (by decide) (by decide), qy_lk (by decide) (by decide), qy_lk (by decide) (by decide), qy_lk (by decide) (by decide), (qy_kd (by decide)).1, (qy_kd (by decide)).2, (qy_kd (by decide)).1, (qy_kd (by decide)).2⟩
theorem zP_74 : zPp 74 := ⟨(qy_kd (by decide)).1, qy_lk (by decide) (by decide), qy_lk (by decide) (by decide), qy_lk (by decide) (by decide), qy_lk (by decide) (by decide), qy_lk (by decide) (by decide), qy_lk (by decide) (by decide), qy_lk (by decide) (by decide), qy_lk (by decide) (by decide), qy_lk (by decide) (by decide), qy_lk (by decide) (by decide), qy_lk (by decide) (by decide), qy_lk (by decide) (by decide), qy_lk (by decide) (by decide), qy_lk (by decide) (by decide), qy_lk (by decide) (by decide), (qy_kd (by decide)).1, (qy_kd (by decide)).2, (qy_kd (by decide)).1, (qy_kd (by decide)).2⟩
theorem zP {p : Nat} (h : isP p) : zPp p := by
  rcases h with rfl | rfl | rfl
  · exact zP_52
  · exact zP_63
  · exact zP_74
def zPq (p j : Nat) : Prop := qs_lk qy_m (p + 1) j = p + 3 + j + 2 ∧ 18 ≤ p + 3 + j + 2 ∧ zJ (p + 3 + j)
theorem zP_52_0 : zPq 52 0 := ⟨qy_lk (by decide) (by decide), by decide, zJ_of (by decide) (by decide) (by decide)⟩
theorem zP_52_1 : zPq 52 1 := ⟨qy_lk (by decide) (by decide), by decide, zJ_of (by decide) (by decide) (by decide)⟩
theorem zP_52_2 : zPq 52 2 := ⟨qy_lk (by decide) (by decide), by decide, zJ_of (by decide) (by decide) (by decide)⟩
theorem zP_52_3 : zPq 52 3 := ⟨qy_lk (by decide) (by decide), by decide, zJ_of (by decide) (by decide) (by decide)⟩
theorem zP_52_4 : zPq 52 4 := ⟨qy_lk (by decide) (by decide), by decide, zJ_of (by decide) (by decide) (by decide)⟩
theorem zP_52_5 : zPq 52 5 := ⟨qy_lk (by decide) (by decide), by decide, zJ_of (by decide) (by decide) (by decide)⟩
theorem zP_52_6 : zPq 52 6 := ⟨qy_lk (by decide) (by decide), by decide, zJ_of (by decide) (by decide) (by decide)⟩
theorem zP_52_7 : zPq 52 7 := ⟨qy_lk (by decide) (by decide), by decide, zJ_of (by decide) (by decide) (by decide)⟩
theorem zP_63_0 : zPq 63 0 := ⟨qy_lk (by decide) (by decide), by decide, zJ_of (by decide) (by decide) (by decide)⟩
theorem zP_63_1 : zPq 63 1 := ⟨qy_lk (by decide) (by decide), by decide, zJ_of (by decide) (by decide) (by decide)⟩
theorem zP_63_2 : zPq 63 2 := ⟨qy_lk (by decide) (by decide), by decide, zJ_of (by decide) (by decide) (by decide)⟩
theorem zP_63_3 : zPq 63 3 := ⟨qy_lk (by decide) (by decide), by decide, zJ_of (by decide) (by decide) (by decide)⟩
theorem zP_63_4 : zPq 63 4 := ⟨qy_lk (by decide) (by decide), by decide, zJ_of (by decide) (by decide) (by decide)⟩
theorem zP_63_5 : zPq 63 5 := ⟨qy_lk (by decide) (by decide), by decide, zJ_of (by decide) (by decide) (by decide)⟩
theorem zP_63_6 : zPq 63 6 := ⟨qy_lk (by decide) (by decide), by decide, zJ_of (by decide) (by decide) (by decide)⟩
theorem zP_63_7 : zPq 63 7 := ⟨qy_lk (by decide) (by decide), by decide, zJ_of (by decide) (by decide) (by decide)⟩
theorem zP_74_0 : zPq 74 0 := ⟨qy_lk (by decide) (by decide), by decide, zJ_of (by decide) (by decide) (by decide)⟩
theorem zP_74_1 : zPq 74 1 := ⟨qy_lk (by decide) (by decide), by decide, zJ_of (by decide) (by decide) (by decide)⟩
theorem zP_74_2 : zPq 74 2 := ⟨qy_lk (by decide) (by decide), by decide, zJ_of (by decide) (by decide) (by decide)⟩
theorem zP_74_3 : zPq 74 3 := ⟨qy_lk (by decide) (by decide), by decide, zJ_of (by decide) (by decide) (by decide)⟩
theorem zP_74_4 : zPq 74 4 := ⟨qy_lk (by decide) (by decide), by decide, zJ_of (by decide) (by decide) (by decide)⟩
theorem zP_74_5 : zPq 74 5 := ⟨qy_lk (by decide) (by decide), by decide, zJ_of (by decide) (by decide) (by decide)⟩
theorem zP_74_6 : zPq 74 6 := ⟨qy_lk (by decide) (by decide), by decide, zJ_of (by decide) (by decide) (by decide)⟩
theorem zP_74_7 : zPq 74 7 := ⟨qy_lk (by decide) (by decide), by decide, zJ_of (by decide) (by decide) (by decide)⟩
theorem zPj {p j : Nat} (h : isP p) (hj : j < 8) : zPq p j := by
  rcases h with rfl | rfl | rfl
  · rcases (by omega : j = 0 ∨ j = 1 ∨ j = 2 ∨ j = 3 ∨ j = 4 ∨ j = 5 ∨ j = 6 ∨ j = 7) with rfl | rfl | rfl | rfl | rfl | rfl | rfl | rfl
    · exact zP_52_0
    · exact zP_52_1
    · exact zP_52_2
    · exact zP_52_3
    · exact zP_52_4
    · exact zP_52_5
    · exact zP_52_6
    · exact zP_52_7
  · rcases (by omega : j = 0 ∨ j = 1 ∨ j = 2 ∨ j = 3 ∨ j = 4 ∨ j = 5 ∨ j = 6 ∨ j = 7) with rfl | rfl | rfl | rfl | rfl | rfl | rfl | rfl
    · exact zP_63_0
    · exact zP_63_1
    · exact zP_63_2
    · exact zP_63_3
    · exact zP_63_4
    · exact zP_63_5
    · exact zP_63_6
    · exact zP_63_7
  · rcases (by omega : j = 0 ∨ j = 1 ∨ j = 2 ∨ j = 3 ∨ j = 4 ∨ j = 5 ∨ j = 6 ∨ j = 7) with rfl | rfl | rfl | rfl | rfl | rfl | rfl | rfl
    · exact zP_74_0
    · exact zP_74_1
    · exact zP_74_2
    · exact zP_74_3
    · exact zP_74_4
    · exact zP_74_5
    · exact zP_74_6
    · exact zP_74_7
def zTt (t : Nat) : Prop := qs_lk qy_m 18 t = 20 + 2 * t + 2 ∧ qs_kd qy_m (20 + 2 * t) = 6 ∧ qs_lk qy_m (20 + 2 * t) 0 = 21 + 2 * t + 2 ∧ qs_lk qy_m (20 + 2 * t) 1 = 0 ∧ qs_lk qy_m (20 + 2 * t) 2 = 0 ∧ qs_lk qy_m (20 + 2 * t) 3 = 0 ∧ qs_kd qy_m (21 + 2 * t) = 20 ∧ qs_sz qy_m (21 + 2 * t) = 96
theorem zT_0 : zTt 0 := ⟨qy_lk (by decide) (by decide), (qy_kd (by decide)).1, qy_lk (by decide) (by decide), qy_lk (by decide) (by decide), qy_lk (by decide) (by decide), qy_lk (by decide) (by decide), (qy_kd (by decide)).1, (qy_kd (by decide)).2⟩
theorem zT_1 : zTt 1 := ⟨qy_lk (by decide) (by decide), (qy_kd (by decide)).1, qy_lk (by decide) (by decide), qy_lk (by decide) (by decide), qy_lk (by decide) (by decide), qy_lk (by decide) (by decide), (qy_kd (by decide)).1, (qy_kd (by decide)).2⟩
theorem zT_2 : zTt 2 := ⟨qy_lk (by decide) (by decide), (qy_kd (by decide)).1, qy_lk (by decide) (by decide), qy_lk (by decide) (by decide), qy_lk (by decide) (by decide), qy_lk (by decide) (by decide), (qy_kd (by decide)).1, (qy_kd (by decide)).2⟩
theorem zT_3 : zTt 3 := ⟨qy_lk (by decide) (by decide), (qy_kd (by decide)).1, qy_lk (by decide) (by decide), qy_lk (by decide) (by decide), qy_lk (by decide) (by decide), qy_lk (by decide) (by decide), (qy_kd (by decide)).1, (qy_kd (by decide)).2⟩
theorem zT_4 : zTt 4 := ⟨qy_lk (by decide) (by decide), (qy_kd (by decide)).1, qy_lk (by decide) (by decide), qy_lk (by decide) (by decide), qy_lk (by decide) (by decide), qy_lk (by decide) (by decide), (qy_kd (by decide)).1, (qy_kd (by decide)).2⟩
theorem zT_5 : zTt 5 := ⟨qy_lk (by decide) (by decide), (qy_kd (by decide)).1, qy_lk (by decide) (by decide), qy_lk (by decide) (by decide), qy_lk (by decide) (by decide), qy_lk (by decide) (by decide), (qy_kd (by decide)).1, (qy_kd (by decide)).2⟩
theorem zT_6 : zTt 6 := ⟨qy_lk (by decide) (by decide), (qy_kd (by decide)).1, qy_lk (by decide) (by decide), qy_lk (by decide) (by decide), qy_lk (by decide) (by decide), qy_lk (by decide) (by decide), (qy_kd (by decide)).1, (qy_kd (by decide)).2⟩
theorem zT_7 : zTt 7 := ⟨qy_lk (by decide) (by decide), (qy_kd (by decide)).1, qy_lk (by decide) (by decide), qy_lk (by decide) (by decide), qy_lk (by decide) (by decide), qy_lk (by decide) (by decide), (qy_kd (by decide)).1, (qy_kd (by decide)).2⟩
theorem zT_8 : zTt 8 := ⟨qy_lk (by decide) (by decide), (qy_kd (by decide)).1, qy_lk (by decide) (by decide), qy_lk (by decide) (by decide), qy_lk (by decide) (by decide), qy_lk (by decide) (by decide), (qy_kd (by decide)).1, (qy_kd (by decide)).2⟩
theorem zT_9 : zTt 9 := ⟨qy_lk (by decide) (by decide), (qy_kd (by decide)).1, qy_lk (by decide) (by decide), qy_lk (by decide) (by decide), qy_lk (by decide) (by decide), qy_lk (by decide) (by decide), (qy_kd (by decide)).1, (qy_kd (by decide)).2⟩
theorem zT_10 : zTt 10 := ⟨qy_lk (by decide) (by decide), (qy_kd (by decide)).1, qy_lk (by decide) (by decide), qy_lk (by decide) (by decide), qy_lk (by decide) (by decide), qy_lk (by decide) (by decide), (qy_kd (by decide)).1, (qy_kd (by decide)).2⟩
theorem zT_11 : zTt 11 := ⟨qy_lk (by decide) (by decide), (qy_kd (by decide)).1, qy_lk (by decide) (by decide), qy_lk (by decide) (by decide), qy_lk (by decide) (by decide), qy_lk (by decide) (by decide), (qy_kd (by decide)).1, (qy_kd (by decide)).2⟩
theorem zT_12 : zTt 12 := ⟨qy_lk (by decide) (by decide), (qy_kd (by decide)).1, qy_lk (by decide) (by decide), qy_lk (by decide) (by decide), qy_lk (by decide) (by decide), qy_lk (by decide) (by decide), (qy_kd (by decide)).1, (qy_kd (by decide)).2⟩
theorem zT_13 : zTt 13 := ⟨qy_lk (by decide) (by decide), (qy_kd (by decide)).1, qy_lk (by decide) (by decide), qy_lk (by decide) (by decide), qy_lk (by decide) (by decide), qy_lk (by decide) (by decide), (qy_kd (by decide)).1, (qy_kd (by decide)).2⟩
theorem zT {t : Nat} (h : t < 14) : zTt t := by
  rcases (by omega : t = 0 ∨ t = 1 ∨ t = 2 ∨ t = 3 ∨ t = 4 ∨ t = 5 ∨ t = 6 ∨ t = 7 ∨ t = 8 ∨ t = 9 ∨ t = 10 ∨ t = 11 ∨ t = 12 ∨ t = 13) with rfl | rfl | rfl | rfl | rfl | rfl | rfl | rfl | rfl | rfl | rfl | rfl | rfl | rfl
  · exact zT_0
  · exact zT_1
  · exact zT_2
  · exact zT_3
  · exact zT_4
  · exact zT_5
  · exact zT_6
  · exact zT_7
  · exact zT_8
  · exact zT_9
  · exact zT_10
  · exact zT_11
  · exact zT_12
  · exact zT_13
theorem c_97 {d : Nat} {x b : Int32} {m : qs_M} : qs_call (d + 1) 97 [.int x, .int b] m = some (some (.int (qb (s_in x 0 b))), m) := by
  refine (bq_97_0 d x b m).trans ?_
  unfold s_in
  by_cases h1 : x < 0
  · have h2 : ¬ 0 ≤ x := Int32.not_le.mpr h1
    simp [h1, h2, qb]
  · have h2 : 0 ≤ x := Int32.not_lt.mp h1
    by_cases h3 : b < x
    · have h4 : ¬ x ≤ b := Int32.not_le.mpr h3
      simp [h1, h3, h4, qb]
    · have h4 : x ≤ b := Int32.not_lt.mp h3
      simp [h1, h2, h3, h4, qb]
theorem c_98 {d : Nat} {x b : Int32} {m : qs_M} : qs_call (d + 1) 98 [.int x, .int b] m = some (some (.int (s_cl 0 b x)), m) := by
  refine (bq_98_0 d x b m).trans ?_
  unfold s_cl
  (repeat' split) <;> rfl
theorem i_lt_succ {x : Int32} {a : Nat} (ha : a + 1 < 2 ^ 31) (h0 : 0 ≤ x) : nI (a + 1) ≤ x ↔ ¬ x ≤ nI a := by
  obtain ⟨k, hk, rfl⟩ := nI_of (Int32.not_lt.mpr h0)
  rw [nI_leI ha hk, nI_leI hk (by omega)]
  omega
theorem c_99 {d : Nat} {x : Int32} {m : qs_M} : qs_call (d + 1) 99 [.int x] m = some (some (.int (qb (s_in x 0 5))), m) := by
  refine (bq_99_0 d x m).trans ?_
  unfold s_in
  by_cases h1 : x < 0
  · have h2 : ¬ 0 ≤ x := Int32.not_le.mpr h1
    simp [h1, h2, qb]
  · have h2 : 0 ≤ x := Int32.not_lt.mp h1
    by_cases h3 : (6 : Int32) ≤ x
    · have h4 : ¬ x ≤ 5 := (i_lt_succ (a := 5) (by omega) h2).mp h3
      simp [h1, h3, h4, qb]
    · have h4 : x ≤ 5 := Decidable.byContradiction (fun q => h3 ((i_lt_succ (a := 5) (by omega) h2).mpr q))
      simp [h1, h2, h3, h4, qb]
theorem c_100 {d : Nat} {x : Int32} {m : qs_M} : qs_call (d + 1) 100 [.int x] m = some (some (.int (qb (s_in x 0 3))), m) := by
  refine (bq_100_0 d x m).trans ?_
  unfold s_in
  by_cases h1 : x < 0
  · have h2 : ¬ 0 ≤ x := Int32.not_le.mpr h1
    simp [h1, h2, qb]
  · have h2 : 0 ≤ x := Int32.not_lt.mp h1
    by_cases h3 : (4 : Int32) ≤ x
    · have h4 : ¬ x ≤ 3 := (i_lt_succ (a := 3) (by omega) h2).mp h3
      simp [h1, h3, h4, qb]
    · have h4 : x ≤ 3 := Decidable.byContradiction (fun q => h3 ((i_lt_succ (a := 3) (by omega) h2).mpr q))
      simp [h1, h2, h3, h4, qb]
theorem c_101 {d : Nat} {x : Int32} {m : qs_M} : qs_call (d + 1) 101 [.int x] m = some (some (.int (qb (s_in x 0 4))), m) := by
  refine (bq_101_0 d x m).trans ?_
  unfold s_in
  by_cases h1 : x < 0
  · have h2 : ¬ 0 ≤ x := Int32.not_le.mpr h1
    simp [h1, h2, qb]
  · have h2 : 0 ≤ x := Int32.not_lt.mp h1
    by_cases h3 : (5 : Int32) ≤ x
    · have h4 : ¬ x ≤ 4 := (i_lt_succ (a := 4) (by omega) h2).mp h3
      simp [h1, h3, h4, qb]
    · have h4 : x ≤ 4 := Decidable.byContradiction (fun q => h3 ((i_lt_succ (a := 4) (by omega) h2).mpr q))
      simp [h1, h2, h3, h4, qb]
theorem c_102 {d : Nat} {x : Int32} {m : qs_M} : qs_call (d + 1) 102 [.int x] m = some (some (.int (qb (s_in x 1 60))), m) := by
  refine (bq_102_0 d x m).trans ?_
  unfold s_in
  by_cases h1 : x < 1
  · have h2 : ¬ 1 ≤ x := Int32.not_le.mpr h1
    simp [h1, h2, qb]
  · have h2 : 1 ≤ x := Int32.not_lt.mp h1
    by_cases h3 : (60 : Int32) < x
    · have h4 : ¬ x ≤ 60 := Int32.not_le.mpr h3
      simp [h1, h3, h4, qb]
    · have h4 : x ≤ 60 := Int32.not_lt.mp h3
      simp [h1, h2, h3, h4, qb]
theorem c_103 {d : Nat} {x : Int32} {m : qs_M} : qs_call (d + 1) 103 [.int x] m = some (some (.int (qb (s_in x 2 6))), m) := by
  refine (bq_103_0 d x m).trans ?_
  unfold s_in
  by_cases h1 : x < 2
  · have h2 : ¬ 2 ≤ x := Int32.not_le.mpr h1
    simp [h1, h2, qb]
  · have h2 : 2 ≤ x := Int32.not_lt.mp h1
    by_cases h3 : (6 : Int32) < x
    · have h4 : ¬ x ≤ 6 := Int32.not_le.mpr h3
      simp [h1, h3, h4, qb]
    · have h4 : x ≤ 6 := Int32.not_lt.mp h3
      simp [h1, h2, h3, h4, qb]
/-- what each KIND stands under -/
def sU (u : Nat → Nat → Int32) : Prop := u 1 0 = -1 ∧ u 1 1 = 0 ∧ u 1 2 = 0 ∧ u 1 3 = 1 ∧ u 1 4 = 2 ∧ u 1 5 = 0
theorem c_104a {d : Nat} {u : Nat → Nat → Int32} {w : Nat → Nat → Int64} {x : Int32} {n i : Nat} (o : Option Value) (hn : n ≤ 5) (hi : i < 6) : qs_EV (d + 1) 104 4 [o, some (.int x), some (.int (nI n)), some (.int (nI i))] [] (QM u w) = if nI n = x then some (some (.int 1), QM u w) else qs_EV (d + 1) 104 4 [o, some (.int x), some (.int (u 1 n)), some (.int (nI i + 1))] [] (QM u w) := by
  refine (bq_104_4 (d + 1) o _ _ _ (QM u w)).trans ?_
  have e1 : ¬ (6 : Int32) ≤ nI i := nI_ge (b := 6) hi (by omega)
  have e2 : s_in (nI n) 0 5 = true := decide_eq_true ⟨nI_pos' (by omega), nI_le (b := 5) hn (by omega)⟩
  have e3 : (nI n).toNatClampNeg = n := nI_clamp (by omega)
  have e4 : 0 ≤ nI n := nI_pos' (by omega)
  have e5 : n < 6 := by omega
  simp only [c_99, qs_bI, qb_0, e1, e2, e3, e4, e5, QM_kd, QM_sz, QM_i, zk_1, zs_1, true_and, and_true, if_true, if_false, Bool.true_eq_false]
  simp
theorem c_104b {d : Nat} {u : Nat → Nat → Int32} {w : Nat → Nat → Int64} {x x3 : Int32} (o : Option Value) : qs_EV (d + 1) 104 4 [o, some (.int x), some (.int (-1)), some (.int x3)] [] (QM u w) = some (some (.int 0), QM u w) := by
  refine (bq_104_4 (d + 1) o _ _ _ (QM u w)).trans ?_
  have e2 : s_in (-1) 0 5 = false := by decide
  simp only [c_99, qs_bI, qb_0, e2, if_true]
  simp
theorem c_104 {d : Nat} {u : Nat → Nat → Int32} {w : Nat → Nat → Int64} {k x : Int32} (hU : sU u) (hk : ∃ n, n ≤ 5 ∧ k = nI n) : qs_call (d + 2) 104 [.int k, .int x] (QM u w) = some (some (.int (qb (s_under k x))), QM u w) := by
  obtain ⟨n, hn, rfl⟩ := hk
  obtain ⟨u0, u1, u2, u3, u4, u5⟩ := hU
  refine (bq_104_0 (d + 1) _ _ (QM u w)).trans ?_
  have s0 : ∀ (i : Nat) (o : Option Value), i < 6 → qs_EV (d + 1) 104 4 [o, some (.int x), some (.int 0), some (.int (nI i))] [] (QM u w) = if (0 : Int32) = x then some (some (.int 1), QM u w) else some (some (.int 0), QM u w) := fun i o hi => by
    have h := c_104a (d := d) (u := u) (w := w) (x := x) (n := 0) (i := i) o (by omega) hi
    rw [nI_0] at h
    rw [h, u0, c_104b]
  have z : (0 : Int32) = nI 0 := rfl
  have z1 : ∀ i, nI i + 1 = nI (i + 1) := fun i => (nI_succ i).symm
  rw [show some (Value.int 0) = some (Value.int (nI 0)) from rfl, c_104a _ hn (by omega), z1]
  rcases (by omega : n = 0 ∨ n = 1 ∨ n = 2 ∨ n = 3 ∨ n = 4 ∨ n = 5) with rfl | rfl | rfl | rfl | rfl | rfl
  · rw [u0, c_104b, show nI 0 = 0 from rfl]
    by_cases h : (0 : Int32) = x
    · subst h
      simp [s_under, qb]
    · have h' : ¬ x = 0 := fun q => h q.symm
      have : s_under 0 x = false := by unfold s_under; simp [h, h']
      simp [h, this, qb]
  · rw [u1, s0 1 _ (by omega), show nI 1 = 1 from rfl]
    by_cases h1 : (1 : Int32) = x
    · subst h1
      simp [s_under, qb]
    · by_cases h : (0 : Int32) = x
      · subst h
        simp [s_under, qb]
      · have h' : ¬ x = 0 := fun q => h q.symm
        have : s_under 1 x = false := by unfold s_under; simp [h1, h']
        simp [h, h1, this, qb]
  · rw [u2, s0 1 _ (by omega), show nI 2 = 2 from rfl]
    by_cases h1 : (2 : Int32) = x
    · subst h1
      simp [s_under, qb]
    · by_cases h : (0 : Int32) = x
      · subst h
        simp [s_under, qb]
      · have h' : ¬ x = 0 := fun q => h q.symm
        have : s_under 2 x = false := by unfold s_under; simp [h1, h']
        simp [h, h1, this, qb]
  · rw [u3, show some (Value.int 1) = some (Value.int (nI 1)) from rfl, c_104a _ (by omega) (by omega), z1, u1, s0 2 _ (by omega), show nI 3 = 3 from rfl, show nI 1 = 1 from rfl]
    by_cases h1 : (3 : Int32) = x
    · subst h1
      simp [s_under, qb]
    · by_cases h2 : (1 : Int32) = x
      · subst h2
        simp [s_under, qb]
      · by_cases h : (0 : Int32) = x
        · subst h
          simp [s_under, qb]
        · have h' : ¬ x = 0 := fun q => h q.symm
          have h2' : ¬ x = 1 := fun q => h2 q.symm
          have : s_under 3 x = false := by unfold s_under; simp [h1, h', h2']
          simp [h, h1, h2, this, qb]
  · rw [u4, show some (Value.int 2) = some (Value.int (nI 2)) from rfl, c_104a _ (by omega) (by omega), z1, u2, s0 2 _ (by omega), show nI 4 = 4 from rfl, show nI 2 = 2 from rfl]
    by_cases h1 : (4 : Int32) = x
    · subst h1
      simp [s_under, qb]
    · by_cases h2 : (2 : Int32) = x
      · subst h2
        simp [s_under, qb]
      · by_cases h : (0 : Int32) = x
        · subst h
          simp [s_under, qb]
        · have h' : ¬ x = 0 := fun q => h q.symm
          have h2' : ¬ x = 2 := fun q => h2 q.symm
          have : s_under 4 x = false := by unfold s_under; simp [h1, h', h2']
          simp [h, h1, h2, this, qb]
  · rw [u5, s0 1 _ (by omega), show nI 5 = 5 from rfl]
    by_cases h1 : (5 : Int32) = x
    · subst h1
      simp [s_under, qb]
    · by_cases h : (0 : Int32) = x
      · subst h
        simp [s_under, qb]
      · have h' : ¬ x = 0 := fun q => h q.symm
        have : s_under 5 x = false := by unfold s_under; simp [h1, h']
        simp [h, h1, this, qb]
