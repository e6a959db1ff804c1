/-! TEXT: what stands at a place of the tape -/
def s_run (f : Nat → Bool) : Nat → Nat → Nat
  | 0, p => p
  | k + 1, p => if f p = true then s_run f k (p + 1) else p
theorem s_run_ge (f : Nat → Bool) : ∀ k p, p ≤ s_run f k p
  | 0, p => Nat.le_refl _
  | k + 1, p => by
    have := s_run_ge f k (p + 1)
    unfold s_run
    split <;> omega
theorem s_run_le (f : Nat → Bool) : ∀ k p, s_run f k p ≤ p + k
  | 0, p => Nat.le_refl _
  | k + 1, p => by
    have := s_run_le f k (p + 1)
    unfold s_run
    split <;> omega
theorem s_run_in (f : Nat → Bool) : ∀ k p i, p ≤ i → i < s_run f k p → f i = true
  | 0, p, i, h1, h2 => by unfold s_run at h2; omega
  | k + 1, p, i, h1, h2 => by
    unfold s_run at h2
    by_cases h : f p = true
    · rw [if_pos h] at h2
      by_cases e : i = p
      · rw [e, h]
      · exact s_run_in f k (p + 1) i (by omega) h2
    · rw [if_neg h] at h2
      omega
def s_so (b : Nat → Nat) (n p : Nat) : Nat := if n ≤ p then 0 else if 97 ≤ b p ∧ b p ≤ 122 then 1 else if 48 ≤ b p ∧ b p ≤ 57 then 2 else 3
def s_is (b : Nat → Nat) (n s p : Nat) : Bool := decide (s_so b n p = s)
def s_val (s : Nat) (b : Nat → Nat) (q : Nat) : Nat → Int32
  | 0 => 0
  | i + 1 => if s = 2 then s_val s b q i * 10 + (nI (b (q + i)) - 48) else nI (b (q + i))
/-- what stands at a place: its sort, its place, where it ends, its value -/
abbrev s_Tk := Nat × Nat × Nat × Int32
def s_bl (b : Nat → Nat) (n p : Nat) : Nat := s_run (fun i => decide (b i = 32)) (n - p) p
def s_nx (b : Nat → Nat) (n : Nat) (t : s_Tk) : s_Tk :=
  let q := s_bl b n t.2.2.1
  let s := s_so b n q
  if s = 0 then (0, q, q, 0) else if s = 3 then (3, q, q + 1, nI (b q)) else
    let e := s_run (s_is b n s) (n - q) q
    (if (s = 2 ∧ 4 < e - q) ∨ ((t.1 = 1 ∨ t.1 = 2) ∧ q = t.2.2.1) then 4 else s, q, e, s_val s b q (e - q))
theorem s_so_4 (b : Nat → Nat) (n p : Nat) : s_so b n p ≤ 3 := by
  unfold s_so
  (repeat' split) <;> omega
theorem s_so_0 {b : Nat → Nat} {n p : Nat} : s_so b n p = 0 ↔ n ≤ p := by
  unfold s_so
  by_cases h : n ≤ p
  · simp [h]
  · simp only [h, if_false, iff_false]
    (repeat' split) <;> omega
theorem s_val_2 {b : Nat → Nat} {q : Nat} : ∀ i, i ≤ 4 → (∀ j, j < i → 48 ≤ b (q + j) ∧ b (q + j) ≤ 57) → ∃ N, N + 1 ≤ 10 ^ i ∧ s_val 2 b q i = nI N
  | 0, _, _ => ⟨0, by decide, rfl⟩
  | i + 1, h, g => by
    obtain ⟨N, h1, h2⟩ := s_val_2 i (by omega) (fun j hj => g j (by omega))
    have g1 := g i (by omega)
    refine ⟨N * 10 + (b (q + i) - 48), by rw [Nat.pow_succ]; omega, ?_⟩
    unfold s_val
    rw [if_pos rfl, h2, show (48 : Int32) = nI 48 from rfl, show (10 : Int32) = nI 10 from rfl, nI_sub g1.1, nI_times, nI_add]
/-- what holds of what stands at a place -/
theorem s_nx_ok {b : Nat → Nat} {n : Nat} (hb : ∀ k, k < n → b k ≤ 255) {t : s_Tk} (ht : t.2.2.1 ≤ n) {t' : s_Tk} (e : s_nx b n t = t') : t.2.2.1 ≤ t'.2.1 ∧ t'.2.1 ≤ n ∧ t'.1 ≤ 4 ∧ (t'.1 = 0 → t'.2.1 = n) ∧ (t'.1 ≠ 0 → t'.2.1 < t'.2.2.1 ∧ t'.2.2.1 ≤ n) ∧ (t'.1 = 2 → ∃ N, N ≤ 9999 ∧ t'.2.2.2 = nI N) ∧ (t'.1 = 3 → ∃ B, B ≤ 255 ∧ t'.2.2.2 = nI B) ∧ (t'.1 = 1 → t'.2.2.1 = t'.2.1 + 1 → ∃ B, B ≤ 255 ∧ t'.2.2.2 = nI B) ∧ t'.2.2.1 ≤ n := by
  have h1 : t.2.2.1 ≤ s_bl b n t.2.2.1 := s_run_ge _ _ _
  have h2 : s_bl b n t.2.2.1 ≤ n := by
    have := s_run_le (fun i => decide (b i = 32)) (n - t.2.2.1) t.2.2.1
    unfold s_bl
    omega
  unfold s_nx at e
  generalize s_bl b n t.2.2.1 = q at *
  simp only at e
  by_cases h0 : s_so b n q = 0
  · rw [if_pos h0] at e
    subst e
    have := s_so_0.mp h0
    refine ⟨h1, h2, by simp, fun _ => by simp only; omega, fun h => absurd rfl h, fun h => by simp at h, fun h => by simp at h, fun h => by simp at h, h2⟩
  rw [if_neg h0] at e
  have hq : q < n := by
    have := mt (s_so_0 (b := b) (n := n) (p := q)).mpr h0
    omega
  by_cases h3 : s_so b n q = 3
  · rw [if_pos h3] at e
    subst e
    refine ⟨h1, h2, by simp, fun h => by simp at h, fun _ => ⟨by simp only; omega, hq⟩, fun h => by simp at h, fun _ => ⟨b q, hb q hq, rfl⟩, fun h => by simp at h, hq⟩
  rw [if_neg h3] at e
  have hs := s_so_4 b n q
  have e1 : q < s_run (s_is b n (s_so b n q)) (n - q) q := by
    obtain ⟨k, hk⟩ : ∃ k, n - q = k + 1 := ⟨n - q - 1, by omega⟩
    rw [hk]
    unfold s_run
    rw [if_pos (by unfold s_is; simp)]
    exact s_run_ge _ _ _
  have e2 : s_run (s_is b n (s_so b n q)) (n - q) q ≤ n := by
    have := s_run_le (s_is b n (s_so b n q)) (n - q) q
    omega
  have e3 : ∀ i, q ≤ i → i < s_run (s_is b n (s_so b n q)) (n - q) q → s_so b n i = s_so b n q := fun i i1 i2 => by
    have := s_run_in _ _ _ i i1 i2
    unfold s_is at this
    simpa using this
  generalize s_run (s_is b n (s_so b n q)) (n - q) q = f at *
  subst e
  refine ⟨h1, h2, ?_, ?_, fun _ => ⟨e1, e2⟩, ?_, ?_, ?_, e2⟩
  · simp only
    split <;> omega
  · simp only
    split <;> intro h <;> omega
  · simp only
    intro h
    split at h
    · omega
    · rename_i g
      rw [h] at g ⊢
      obtain ⟨N, n1, n2⟩ := s_val_2 (b := b) (q := q) (f - q) (by omega) (fun j hj => by
        have := e3 (q + j) (by omega) (by omega)
        rw [h] at this
        unfold s_so at this
        (repeat' split at this) <;> omega)
      refine ⟨N, ?_, n2⟩
      have : 10 ^ (f - q) ≤ 10 ^ 4 := Nat.pow_le_pow_right (by omega) (by omega)
      omega
  · simp only
    intro h
    split at h <;> omega
  · simp only
    intro h i
    refine ⟨b q, hb q hq, ?_⟩
    rw [i, show q + 1 - q = 0 + 1 by omega]
    have : s_so b n q = 1 := by
      split at h <;> omega
    rw [this]
    rfl
/-- the tape -/
def s_tp (b : Nat → Nat) (n : Nat) : Prop := n ≤ 96 ∧ ∀ k, k < n → b k ≤ 255
def tpC (u : Nat → Nat → Int32) (b : Nat → Nat) (n : Nat) : Prop := u 48 2 = nI n ∧ ∀ k, k < n → u 49 k = nI (b k)
def tpR (u : Nat → Nat → Int32) (b : Nat → Nat) (n : Nat) : Prop := u 116 9 = nI n ∧ ∀ k, k < n → u 122 k = nI (b k)
theorem n_so {b : Nat → Nat} {n p : Nat} {x : Int32} (h : s_tp b n) (hp : p < n) (hx : x = nI (b p)) : (s_so b n p = 1 ∧ ¬ x < 97 ∧ ¬ 122 < x) ∨ (s_so b n p = 2 ∧ (x < 97) ∧ ¬ x < 48 ∧ ¬ 57 < x) ∨ (s_so b n p = 3 ∧ ((x < 97 ∧ x < 48) ∨ (x < 97 ∧ ¬ x < 48 ∧ 57 < x) ∨ (¬ x < 97 ∧ 122 < x ∧ ¬ x < 48 ∧ 57 < x))) := by
  subst hx
  have hB := h.2 p hp
  have n1 : ∀ a, a ≤ b p → ¬ nI (b p) < nI a := fun a ha => Int32.not_lt.mpr (nI_le ha (by omega))
  have n2 : ∀ a, a < 256 → b p < a → nI (b p) < nI a := fun a h9 ha => nI_lt ha (by omega)
  have n3 : ∀ a, b p ≤ a → a < 256 → ¬ nI a < nI (b p) := fun a ha h9 => Int32.not_lt.mpr (nI_le ha (by omega))
  have n4 : ∀ a, a < b p → nI a < nI (b p) := fun a ha => nI_lt ha (by omega)
  unfold s_so
  rw [if_neg (by omega)]
  by_cases c1 : 97 ≤ b p ∧ b p ≤ 122
  · rw [if_pos c1]
    exact Or.inl ⟨rfl, n1 97 c1.1, n3 122 c1.2 (by omega)⟩
  rw [if_neg c1]
  by_cases c2 : 48 ≤ b p ∧ b p ≤ 57
  · rw [if_pos c2]
    exact Or.inr (Or.inl ⟨rfl, n2 97 (by omega) (by omega), n1 48 c2.1, n3 57 c2.2 (by omega)⟩)
  rw [if_neg c2]
  refine Or.inr (Or.inr ⟨rfl, ?_⟩)
  by_cases c3 : b p < 48
  · exact Or.inl ⟨n2 97 (by omega) (by omega), n2 48 (by omega) c3⟩
  by_cases c4 : b p < 97
  · exact Or.inr (Or.inl ⟨n2 97 (by omega) c4, n1 48 (by omega), n4 57 (by omega)⟩)
  · exact Or.inr (Or.inr ⟨n1 97 (by omega), n4 122 (by omega), n1 48 (by omega), n4 57 (by omega)⟩)
theorem c_34 {d : Nat} {b : Nat → Nat} {n p : Nat} {u : Nat → Nat → Int32} {w : Nat → Nat → Int64} (h : s_tp b n) (hu : tpC u b n) (hp : p ≤ 96) : qs_call (d + 1) 34 [.ref 48, .int (nI p)] (QM u w) = some (some (.int (nI (s_so b n p))), QM u w) := by
  refine (bq_34_0 d 48 _ (QM u w)).trans ?_
  rw [if_neg (nI_pos (by omega))]
  have z := zQ
  have hn : n ≤ 96 := h.1
  obtain ⟨hu1, hu2⟩ := hu
  by_cases g : n ≤ p
  · rw [s_so_0.mpr g]
    have e : nI n ≤ nI p := nI_le g (by omega)
    simp only [QM_kd, QM_sz, QM_lk, QM_i, QM_wi, zI, qs_bI, qs_bV, qb_0, z, hu1, e, Bool.true_eq_false, Nat.reduceSub, Nat.reduceLeDiff, Nat.reduceLT, true_and, and_true, and_self, if_true, if_false]
    rfl
  · have e : ¬ nI n ≤ nI p := nI_ge (by omega) (by omega)
    have e2 : nI p < 96 := nI_lt (b := 96) (by have := h.1; omega) (by omega)
    have e3 : (nI p).toNatClampNeg = p ∧ 0 ≤ nI p ∧ p < 96 := ⟨nI_clamp (by omega), nI_pos' (by omega), by have := h.1; omega⟩
    have e4 := hu2 p (by omega)
    have r1 : nI 1 = 1 := rfl
    have r2 : nI 2 = 2 := rfl
    have r3 : nI 3 = 3 := rfl
    rcases n_so (p := p) h (by omega) rfl with ⟨q1, q2, q3⟩ | ⟨q1, q2, q3, q4⟩ | ⟨q1, ⟨q2, q3⟩ | ⟨q2, q3, q4⟩ | ⟨q2, q3, q4, q5⟩⟩
    · simp only [QM_kd, QM_sz, QM_lk, QM_i, QM_wi, zI, qs_bI, qs_bV, qb_0, z, hu1, e, e2, e3, e4, q1, q2, q3, r1, Bool.true_eq_false, Nat.reduceSub, Nat.reduceLeDiff, Nat.reduceLT, true_and, and_true, and_self, if_true, if_false]
    · simp only [QM_kd, QM_sz, QM_lk, QM_i, QM_wi, zI, qs_bI, qs_bV, qb_0, z, hu1, e, e2, e3, e4, q1, q2, q3, q4, r2, Bool.true_eq_false, Nat.reduceSub, Nat.reduceLeDiff, Nat.reduceLT, true_and, and_true, and_self, if_true, if_false]
    · simp only [QM_kd, QM_sz, QM_lk, QM_i, QM_wi, zI, qs_bI, qs_bV, qb_0, z, hu1, e, e2, e3, e4, q1, q2, q3, r3, Bool.true_eq_false, Nat.reduceSub, Nat.reduceLeDiff, Nat.reduceLT, true_and, and_true, and_self, if_true, if_false]
    · simp only [QM_kd, QM_sz, QM_lk, QM_i, QM_wi, zI, qs_bI, qs_bV, qb_0, z, hu1, e, e2, e3, e4, q1, q2, q3, q4, r3, Bool.true_eq_false, Nat.reduceSub, Nat.reduceLeDiff, Nat.reduceLT, true_and, and_true, and_self, if_true, if_false]
    · simp only [QM_kd, QM_sz, QM_lk, QM_i, QM_wi, zI, qs_bI, qs_bV, qb_0, z, hu1, e, e2, e3, e4, q1, q2, q3, q4, q5, r3, Bool.true_eq_false, Nat.reduceSub, Nat.reduceLeDiff, Nat.reduceLT, true_and, and_true, and_self, if_true, if_false]
theorem m_167 {d : Nat} {b : Nat → Nat} {n p : Nat} {u : Nat → Nat → Int32} {w : Nat → Nat → Int64} (h : s_tp b n) (hu : tpR u b n) (hp : p ≤ 96) : qs_call (d + 1) 167 [.ref 116, .int (nI p)] (QM u w) = some (some (.int (qb (s_is b n 1 p))), QM u w) := by
  refine (bq_167_0 d 116 _ (QM u w)).trans ?_
  unfold s_is
  have hn : n ≤ 96 := h.1
  obtain ⟨hu1, hu2⟩ := hu
  by_cases g : n ≤ p
  · rw [s_so_0.mpr g]
    have e : nI n ≤ nI p := nI_le g (by omega)
    simp only [QM_kd, QM_sz, QM_lk, QM_i, QM_wi, zM, zI, qs_bI, qs_bV, qb_0, hu1, e, Bool.true_eq_false, Nat.reduceSub, Nat.reduceLeDiff, Nat.reduceLT, true_and, and_true, and_self, if_true, if_false]
    rfl
  · have e : ¬ nI n ≤ nI p := nI_ge (by omega) (by omega)
    have e3 : (nI p).toNatClampNeg = p ∧ 0 ≤ nI p ∧ p < 96 := ⟨nI_clamp (by omega), nI_pos' (by omega), by have := h.1; omega⟩
    have e4 := hu2 p (by omega)
    rcases n_so (p := p) h (by omega) rfl with ⟨q1, q2, q3⟩ | ⟨q1, q2, q3, q4⟩ | ⟨q1, ⟨q2, q3⟩ | ⟨q2, q3, q4⟩ | ⟨q2, q3, q4, q5⟩⟩
    · simp only [QM_kd, QM_sz, QM_lk, QM_i, QM_wi, zM, zI, qs_bI, qs_bV, qb_0, hu1, e, e3, e4, q1, q2, q3, Bool.true_eq_false, Nat.reduceSub, Nat.reduceLeDiff, Nat.reduceLT, true_and, and_true, and_self, if_true, if_false]
      rfl
    · simp only [QM_kd, QM_sz, QM_lk, QM_i, QM_wi, zM, zI, qs_bI, qs_bV, qb_0, hu1, e, e3, e4, q1, q2, q3, q4, Bool.true_eq_false, Nat.reduceSub, Nat.reduceLeDiff, Nat.reduceLT, true_and, and_true, and_self, if_true, if_false]
      rfl
    · simp only [QM_kd, QM_sz, QM_lk, QM_i, QM_wi, zM, zI, qs_bI, qs_bV, qb_0, hu1, e, e3, e4, q1, q2, q3, Bool.true_eq_false, Nat.reduceSub, Nat.reduceLeDiff, Nat.reduceLT, true_and, and_true, and_self, if_true, if_false]
      rfl
    · simp only [QM_kd, QM_sz, QM_lk, QM_i, QM_wi, zM, zI, qs_bI, qs_bV, qb_0, hu1, e, e3, e4, q1, q2, q3, q4, Bool.true_eq_false, Nat.reduceSub, Nat.reduceLeDiff, Nat.reduceLT, true_and, and_true, and_self, if_true, if_false]
      rfl
    · simp only [QM_kd, QM_sz, QM_lk, QM_i, QM_wi, zM, zI, qs_bI, qs_bV, qb_0, hu1, e, e3, e4, q1, q2, q3, q4, q5, Bool.true_eq_false, Nat.reduceSub, Nat.reduceLeDiff, Nat.reduceLT, true_and, and_true, and_self, if_true, if_false]
      rfl
theorem m_168 {d : Nat} {b : Nat → Nat} {n p : Nat} {u : Nat → Nat → Int32} {w : Nat → Nat → Int64} (h : s_tp b n) (hu : tpR u b n) (hp : p ≤ 96) : qs_call (d + 1) 168 [.ref 116, .int (nI p)] (QM u w) = some (some (.int (qb (s_is b n 2 p))), QM u w) := by
  refine (bq_168_0 d 116 _ (QM u w)).trans ?_
  unfold s_is
  have hn : n ≤ 96 := h.1
  obtain ⟨hu1, hu2⟩ := hu
  by_cases g : n ≤ p
  · rw [s_so_0.mpr g]
    have e : nI n ≤ nI p := nI_le g (by omega)
    simp only [QM_kd, QM_sz, QM_lk, QM_i, QM_wi, zM, zI, qs_bI, qs_bV, qb_0, hu1, e, Bool.true_eq_false, Nat.reduceSub, Nat.reduceLeDiff, Nat.reduceLT, true_and, and_true, and_self, if_true, if_false]
    rfl
  · have e : ¬ nI n ≤ nI p := nI_ge (by omega) (by omega)
    have e3 : (nI p).toNatClampNeg = p ∧ 0 ≤ nI p ∧ p < 96 := ⟨nI_clamp (by omega), nI_pos' (by omega), by have := h.1; omega⟩
    have e4 := hu2 p (by omega)
    rcases n_so (p := p) h (by omega) rfl with ⟨q1, q2, q3⟩ | ⟨q1, q2, q3, q4⟩ | ⟨q1, ⟨q2, q3⟩ | ⟨q2, q3, q4⟩ | ⟨q2, q3, q4, q5⟩⟩
    · have q5 : ¬ nI (b p) < 48 := fun c => q2 (Int32.lt_trans c (by decide))
      have q6 : 57 < nI (b p) := Int32.lt_of_lt_of_le (by decide) (Int32.not_lt.mp q2)
      simp only [QM_kd, QM_sz, QM_lk, QM_i, QM_wi, zM, zI, qs_bI, qs_bV, qb_0, hu1, e, e3, e4, q1, q5, q6, Bool.true_eq_false, Nat.reduceSub, Nat.reduceLeDiff, Nat.reduceLT, true_and, and_true, and_self, if_true, if_false]
      rfl
    · simp only [QM_kd, QM_sz, QM_lk, QM_i, QM_wi, zM, zI, qs_bI, qs_bV, qb_0, hu1, e, e3, e4, q1, q2, q3, q4, Bool.true_eq_false, Nat.reduceSub, Nat.reduceLeDiff, Nat.reduceLT, true_and, and_true, and_self, if_true, if_false]
      rfl
    · simp only [QM_kd, QM_sz, QM_lk, QM_i, QM_wi, zM, zI, qs_bI, qs_bV, qb_0, hu1, e, e3, e4, q1, q2, q3, Bool.true_eq_false, Nat.reduceSub, Nat.reduceLeDiff, Nat.reduceLT, true_and, and_true, and_self, if_true, if_false]
      rfl
    · simp only [QM_kd, QM_sz, QM_lk, QM_i, QM_wi, zM, zI, qs_bI, qs_bV, qb_0, hu1, e, e3, e4, q1, q2, q3, q4, Bool.true_eq_false, Nat.reduceSub, Nat.reduceLeDiff, Nat.reduceLT, true_and, and_true, and_self, if_true, if_false]
      rfl
    · simp only [QM_kd, QM_sz, QM_lk, QM_i, QM_wi, zM, zI, qs_bI, qs_bV, qb_0, hu1, e, e3, e4, q1, q2, q3, q4, q5, Bool.true_eq_false, Nat.reduceSub, Nat.reduceLeDiff, Nat.reduceLT, true_and, and_true, and_self, if_true, if_false]
      rfl
