/-! A PIPE OF THE CLASS HOLDS A ROW OF THE REFERENCE -/
def s_mx (c : Nat) : Nat := match c with
  | 0 => 5
  | 1 => 40
  | 2 => 40
  | _ => 9
/-- a joint's numbers are in their bounds -/
def sJb (J : Nat → Int32) : Prop := ∀ c, c < 8 → ∃ n, n ≤ s_mx c ∧ J c = nI n
/-- a row is good -/
def sG (R : Nat → Int32) (M : Nat) : Prop := M ≤ 8 ∧ R 1 = nI M ∧ (∀ j, j < M → sJb (s_jo R j)) ∧ (R 3 = 0 ∨ R 3 = 1) ∧ s_tx R ∧ s_t2 R
/-- a pipe of the class holds a row -/
def cP (u : Nat → Nat → Int32) (p : Nat) (R : Nat → Int32) (M : Nat) : Prop := u p 3 = nI M ∧ u p 4 = R 3 ∧ u p 5 = R 4 ∧ u p 6 = R 5 ∧ u p 7 = R 6 ∧ u p 8 = R 7 ∧ u p 9 = R 8 ∧ u p 10 = R 9 ∧ u p 11 = R 10 ∧ u p 12 = R 2 ∧ u p 13 = R 0 ∧ u p 14 = R 11 ∧ (∀ j, j < M → ∀ c, c < 8 → u (p + 3 + j) c = s_jo R j c) ∧ ∀ k, k < 3 → u (p + 2) k = s_t R (nI k)
/-- the class's texts are the row's -/
def cT (u : Nat → Nat → Int32) (R : Nat → Int32) : Prop := ∀ t, t < (R 11).toNatClampNeg → cT1 u t (s_N R t).toNatClampNeg (s_C R t) ∧ u (20 + 2 * t) 1 = R (76 + 2 * t) / 1000 ∧ u (20 + 2 * t) 3 = R (77 + 2 * t)
theorem cT_same {u v : Nat → Nat → Int32} {R : Nat → Int32} (h : cT u R) (g : ∀ q, 20 ≤ q → q < 48 → v q = u q) (ht : s_tx R) : cT v R := by
  intro t hT
  obtain ⟨h1, h2, h3⟩ := h t hT
  obtain ⟨T, e1, e2, -⟩ := ht
  have e3 : (R 11).toNatClampNeg = T := by rw [e1]; exact nI_clamp (by omega)
  refine ⟨⟨by rw [g _ (by omega) (by omega)]; exact h1.1, fun k hk => by rw [g _ (by omega) (by omega)]; exact h1.2 k hk⟩, by rw [g _ (by omega) (by omega)]; exact h2, by rw [g _ (by omega) (by omega)]; exact h3⟩
theorem c_give {d : Nat} {u : Nat → Nat → Int32} {w : Nat → Nat → Int64} {R : Nat → Int32} {key a b c : Int32} (hT : cT u R) (ht : s_tx R) (h0 : 0 ≤ s_t R key) : ∃ v', qs_call (d + 2) 11 [.ref 17, .int (s_t R key), .int a, .int b, .int c] (QM u w) = some (some (.int (s_give R (s_t R key) a b c)), QM v' w) ∧ ∀ q, q ≠ 19 → v' q = u q := by
  obtain ⟨T, e1, e2, e3⟩ := ht
  have e4 : (R 11).toNatClampNeg = T := by rw [e1]; exact nI_clamp (by omega)
  unfold s_t at h0 ⊢
  rw [e4] at h0 ⊢
  rcases s_ct_of R key T with h5 | ⟨t, h5, h6, h7⟩
  · rw [h5] at h0
    exact absurd h0 (by decide)
  · obtain ⟨N, g1, g2, g3, g4⟩ := e3 t h5
    have f1 : (nI t).toNatClampNeg = t := nI_clamp (by omega)
    have f2 : (nI N).toNatClampNeg = N := nI_clamp (by omega)
    have f3 := (hT t (by rw [e4]; exact h5)).1
    rw [g2, f2] at f3
    rw [h6]
    unfold s_give
    rw [f1, g2, f2]
    exact c_11 (by omega) g1 f3 g3 g4
theorem qmax_cl {a b n : Nat} (ha : a ≤ n) (hn : n < 2 ^ 31) (hb : b < 2 ^ 31) : qs_max 0 (nI a - nI b) = nI (a - b) ∧ s_cl 0 (nI n) (nI a - nI b) = nI (a - b) := by
  have ea : (nI a).toInt = a := nI_toInt (by omega)
  have eb : (nI b).toInt = b := nI_toInt hb
  have es : (nI a - nI b).toInt = (a : Int) - b := by
    rw [Int32.toInt_sub, ea, eb, Int.bmod_eq_of_le] <;> omega
  by_cases h : b ≤ a
  · have e : nI a - nI b = nI (a - b) := nI_sub h
    rw [e]
    constructor
    · unfold qs_max
      by_cases h0 : (0 : Int32) < nI (a - b)
      · rw [if_pos h0]
      · rw [if_neg h0]
        have h1 : nI (a - b) ≤ 0 := Int32.not_lt.mp h0
        have h2 : a - b ≤ 0 := (nI_leI (b := 0) (by omega) (by omega)).mp h1
        rw [show a - b = 0 by omega]
        rfl
    · unfold s_cl
      rw [if_pos (nI_pos' (by omega)), if_pos (nI_le (by omega) hn)]
  · have h0 : ¬ (0 : Int32) ≤ nI a - nI b := by
      intro q
      have := Int32.le_iff_toInt_le.mp q
      have h7 : (0 : Int32).toInt = 0 := by decide
      omega
    have h1 : ¬ (0 : Int32) < nI a - nI b := by
      intro q
      have := Int32.lt_iff_toInt_lt.mp q
      have h7 : (0 : Int32).toInt = 0 := by decide
      omega
    rw [show a - b = 0 by omega]
    constructor
    · unfold qs_max
      rw [if_neg h1]
      rfl
    · unfold s_cl
      rw [if_neg h0]
      rfl
theorem s_grip_n {J : Nat → Int32} {h : Int32} (hJ : sJb J) (hh : h = 0 ∨ h = 1) : ∃ g, g ≤ 44 ∧ s_grip J h = nI g ∧ qs_max 0 (J 1 - 2 * h) + J 5 / 2 = nI g := by
  obtain ⟨t, t1, t2⟩ := hJ 1 (by omega)
  obtain ⟨s, s1, s2⟩ := hJ 5 (by omega)
  have t1 : t ≤ 40 := t1
  have s1 : s ≤ 9 := s1
  obtain ⟨b, b1, b2⟩ : ∃ b, b ≤ 2 ∧ 2 * h = nI b := by
    rcases hh with rfl | rfl
    · exact ⟨0, by omega, rfl⟩
    · exact ⟨2, by omega, rfl⟩
  obtain ⟨q1, q2⟩ := qmax_cl (a := t) (b := b) (n := 40) t1 (by omega) (by omega)
  have q3 : nI s / 2 = nI (s / 2) := nI_div (b := 2) (by omega) (by omega)
  refine ⟨t - b + s / 2, by omega, ?_, ?_⟩
  · unfold s_grip
    rw [t2, s2, b2, show (40 : Int32) = nI 40 from rfl, q2, q3, nI_add]
  · rw [t2, s2, b2, q1, q3, nI_add]
theorem s_plain_n {R J : Nat → Int32} (hJ : sJb J) (hh : R 3 = 0 ∨ R 3 = 1) : ∃ n, n ≤ 99 ∧ s_plain R J = nI n := by
  unfold s_plain
  by_cases h : 0 ≤ s_t R 0
  · rw [if_pos h]
    exact s_cl_n (n := 99) _ (by omega)
  · rw [if_neg h]
    obtain ⟨g, g1, g2, -⟩ := s_grip_n hJ hh
    rw [g2]
    by_cases h10 : g ≤ 10
    · rw [if_pos (show nI g ≤ 10 from nI_le (b := 10) h10 (by omega)), show (10 : Int32) = nI 10 from rfl, nI_sub h10]
      exact ⟨_, by omega, rfl⟩
    · rw [if_neg (show ¬ nI g ≤ 10 from nI_ge (a := 10) (by omega) (by omega)), show (10 : Int32) = nI 10 from rfl, nI_sub (by omega)]
      exact ⟨_, by omega, rfl⟩
theorem s_drips_n {R J : Nat → Int32} (hJ : sJb J) (hh : R 3 = 0 ∨ R 3 = 1) : ∃ n, n ≤ 9999 ∧ s_drips R J = nI n := by
  obtain ⟨n, n1, n2⟩ := s_plain_n hJ hh
  obtain ⟨g, g1, g2, -⟩ := s_grip_n hJ hh
  obtain ⟨r, r1, r2⟩ := hJ 2 (by omega)
  obtain ⟨a, a1, a2⟩ := hJ 4 (by omega)
  obtain ⟨b, b1, b2⟩ := hJ 3 (by omega)
  have r1 : r ≤ 40 := r1
  have a1 : a ≤ 9 := a1
  have b1 : b ≤ 9 := b1
  have r3 : nI r / 5 = nI (r / 5) := nI_div (b := 5) (by omega) (by omega)
  unfold s_drips
  rw [n2, g2, r2, a2, b2, r3]
  by_cases h1 : J 0 = 1
  · rw [if_pos h1, nI_add]
    exact ⟨_, by omega, rfl⟩
  rw [if_neg h1]
  by_cases h2 : J 0 = 2
  · rw [if_pos h2, nI_add]
    exact ⟨_, by omega, rfl⟩
  rw [if_neg h2]
  by_cases h3 : J 0 = 3
  · rw [if_pos h3]
    by_cases h12 : g ≤ 12
    · rw [if_pos (show nI g ≤ 12 from nI_le (b := 12) h12 (by omega)), show (0 : Int32) = nI 0 from rfl, nI_add, nI_add]
      exact ⟨_, by omega, rfl⟩
    · rw [if_neg (show ¬ nI g ≤ 12 from nI_ge (a := 12) (by omega) (by omega)), show (12 : Int32) = nI 12 from rfl, nI_sub (by omega), show (2 : Int32) = nI 2 from rfl, nI_times, nI_add, nI_add]
      exact ⟨_, by omega, rfl⟩
  rw [if_neg h3]
  by_cases h4 : J 0 = 4
  · rw [if_pos h4, nI_add, nI_add]
    exact ⟨_, by omega, rfl⟩
  rw [if_neg h4]
  exact ⟨_, by omega, rfl⟩
theorem s_leak_c {R J : Nat → Int32} (hJ : sJb J) (hh : R 3 = 0 ∨ R 3 = 1) (h5 : ¬ J 0 = 5) : s_leak R J = qs_max 0 (s_drips R J - J 7) := by
  obtain ⟨n, n1, n2⟩ := s_drips_n hJ hh
  obtain ⟨s, s1, s2⟩ := hJ 7 (by omega)
  have s1 : s ≤ 9 := s1
  unfold s_leak
  rw [if_neg h5, n2, s2]
  obtain ⟨q1, q2⟩ := qmax_cl (a := n) (b := s) (n := 9999) n1 (by omega) (by omega)
  rw [q1]
  exact q2
theorem s_plain_c {R J : Nat → Int32} (hJ : sJb J) (hh : R 3 = 0 ∨ R 3 = 1) (h0 : ¬ 0 ≤ s_t R 0) : s_plain R J = s_cl 0 99 (qs_abs (s_grip J (R 3) - 10)) := by
  obtain ⟨g, g1, g2, -⟩ := s_grip_n hJ hh
  unfold s_plain
  rw [if_neg h0, g2]
  by_cases h10 : g ≤ 10
  · rw [if_pos (show nI g ≤ 10 from nI_le (b := 10) h10 (by omega)), show (10 : Int32) = nI 10 from rfl, nI_sub h10]
    rcases (by omega : g = 0 ∨ g = 1 ∨ g = 2 ∨ g = 3 ∨ g = 4 ∨ g = 5 ∨ g = 6 ∨ g = 7 ∨ g = 8 ∨ g = 9 ∨ g = 10) with rfl | rfl | rfl | rfl | rfl | rfl | rfl | rfl | rfl | rfl | rfl <;> decide
  · rw [if_neg (show ¬ nI g ≤ 10 from nI_ge (a := 10) (by omega) (by omega)), show (10 : Int32) = nI 10 from rfl, nI_sub (by omega)]
    unfold qs_abs s_cl
    rw [if_pos (nI_pos' (by omega)), if_pos (nI_pos' (by omega)), if_pos (show nI (g - 10) ≤ 99 from nI_le (b := 99) (by omega) (by omega))]
theorem s_pin {J : Nat → Int32} {h x : Int32} (hJ : sJb J) (hh : h = 0 ∨ h = 1) : x + 2 * qs_max 0 (s_grip J h - 12) = if s_grip J h ≤ 12 then x + 0 else x + 2 * (s_grip J h - 12) := by
  obtain ⟨g, g1, g2, -⟩ := s_grip_n hJ hh
  rw [g2]
  obtain ⟨q1, -⟩ := qmax_cl (a := g) (b := 12) (n := 44) g1 (by omega) (by omega)
  rw [show (12 : Int32) = nI 12 from rfl, q1]
  by_cases h12 : g ≤ 12
  · rw [if_pos (nI_le h12 (by omega)), show g - 12 = 0 by omega]
    rfl
  · rw [if_neg (nI_ge (by omega) (by omega)), nI_sub (by omega)]
