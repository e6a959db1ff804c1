/-! WRITES TO A PIPE -/
def inP (p q : Nat) : Prop := p ≤ q ∧ q < p + 11
theorem s_ct_upd (R : Nat → Int32) {i : Nat} (x key : Int32) (hi : i < 76) : ∀ n, s_ct (upd R i x) key n = s_ct R key n
  | 0 => rfl
  | n + 1 => by
    unfold s_ct
    rw [s_ct_upd R x key hi n]
    have e : upd R i x (76 + 2 * n) = R (76 + 2 * n) := by
      unfold upd
      rw [if_neg (by omega)]
    rw [e]
theorem s_t_upd (R : Nat → Int32) {i : Nat} (x key : Int32) (hi : i < 76) (h11 : i ≠ 11) : s_t (upd R i x) key = s_t R key := by
  unfold s_t
  have e : upd R i x 11 = R 11 := by
    unfold upd
    rw [if_neg (by omega)]
  rw [e, s_ct_upd R x key hi]
theorem s_NC_upd (R : Nat → Int32) {i : Nat} (x : Int32) (hi : i < 76) (t : Nat) : s_N (upd R i x) t = s_N R t ∧ s_C (upd R i x) t = s_C R t ∧ upd R i x (76 + 2 * t) = R (76 + 2 * t) ∧ upd R i x (77 + 2 * t) = R (77 + 2 * t) := by
  have e : ∀ k, 76 ≤ k → upd R i x k = R k := by
    intro k hk
    unfold upd
    rw [if_neg (by omega)]
  refine ⟨?_, ?_, e _ (by omega), e _ (by omega)⟩
  · unfold s_N
    rw [e _ (by omega)]
  · funext k
    unfold s_C
    rw [e _ (by omega)]
theorem s_t2_upd {R : Nat → Int32} {i : Nat} {x : Int32} (h : s_t2 R) (hi : i < 76) (h11 : i ≠ 11) : s_t2 (upd R i x) := by
  intro T h1 h2 t h3 h4 N h5 h6
  obtain ⟨e1, e2, e3, -⟩ := s_NC_upd R x hi t
  have e : upd R i x 11 = R 11 := by
    unfold upd
    rw [if_neg (by omega)]
  rw [e] at h1
  rw [e3] at h4
  rw [e1] at h5
  rw [e2]
  exact h T h1 h2 t h3 h4 N h5 h6
theorem cT_upd {u : Nat → Nat → Int32} {R : Nat → Int32} {i : Nat} {x : Int32} (h : cT u R) (hi : i < 76) (h11 : i ≠ 11) : cT u (upd R i x) := by
  intro t ht
  have e : upd R i x 11 = R 11 := by
    unfold upd
    rw [if_neg (by omega)]
  rw [e] at ht
  obtain ⟨e1, e2, e3, e4⟩ := s_NC_upd R x hi t
  rw [e1, e2, e3, e4]
  exact h t ht
theorem s_jo_upd (R : Nat → Int32) {i : Nat} (x : Int32) (hi : i < 12) (j : Nat) : s_jo (upd R i x) j = s_jo R j := by
  funext c
  unfold s_jo upd
  rw [if_neg (by omega)]
theorem s_jo_at (R : Nat → Int32) (x : Int32) {j k c e : Nat} (hc : c < 8) (he : e < 8) : s_jo (upd R (12 + 8 * j + c) x) k e = if k = j ∧ e = c then x else s_jo R k e := by
  unfold s_jo upd
  by_cases h : k = j ∧ e = c
  · rw [if_pos (by omega), if_pos h]
  · rw [if_neg (by omega), if_neg h]
theorem sG_fld {R : Nat → Int32} {M i : Nat} {x : Int32} (h : sG R M) (hi : i < 12) (h1 : i ≠ 1) (h11 : i ≠ 11) (h3 : i = 3 → x = 0 ∨ x = 1) : sG (upd R i x) M := by
  obtain ⟨g1, g2, g3, g4, g5, g6⟩ := h
  refine ⟨g1, ?_, ?_, ?_, s_tx_upd g5 (by omega) h11, s_t2_upd g6 (by omega) h11⟩
  · unfold upd
    rw [if_neg (by omega), g2]
  · intro j hj
    rw [s_jo_upd R x hi j]
    exact g3 j hj
  · unfold upd
    by_cases e : 3 = i
    · rw [if_pos e]
      exact h3 e.symm
    · rw [if_neg e]
      exact g4
theorem sG_jo {R : Nat → Int32} {M j c : Nat} {x : Int32} (h : sG R M) (hj : j < M) (hc : c < 8) (hx : ∃ n, n ≤ s_mx c ∧ x = nI n) : sG (upd R (12 + 8 * j + c) x) M := by
  obtain ⟨g1, g2, g3, g4, g5, g6⟩ := h
  refine ⟨g1, ?_, ?_, ?_, s_tx_upd g5 (by omega) (by omega), s_t2_upd g6 (by omega) (by omega)⟩
  · unfold upd
    rw [if_neg (by omega), g2]
  · intro k hk e he
    rw [s_jo_at R x hc he]
    by_cases q : k = j ∧ e = c
    · rw [if_pos q, q.2]
      exact hx
    · rw [if_neg q]
      exact g3 k hk e he
  · unfold upd
    rw [if_neg (by omega)]
    exact g4
theorem cP_same {u v : Nat → Nat → Int32} {p : Nat} {R : Nat → Int32} {M : Nat} (h : cP u p R M) (hM : M ≤ 8) (g : ∀ q, inP p q → v q = u q) : cP v p R M := by
  obtain ⟨h1, h2, h3, h4, h5, h6, h7, h8, h9, h10, h11, h12, h13, h14⟩ := h
  have e := g p ⟨by omega, by omega⟩
  have e2 := g (p + 2) ⟨by omega, by omega⟩
  refine ⟨by rw [e, h1], by rw [e, h2], by rw [e, h3], by rw [e, h4], by rw [e, h5], by rw [e, h6], by rw [e, h7], by rw [e, h8], by rw [e, h9], by rw [e, h10], by rw [e, h11], by rw [e, h12], fun j hj c hc => ?_, fun k hk => by rw [e2, h14 k hk]⟩
  rw [g (p + 3 + j) ⟨by omega, by omega⟩, h13 j hj c hc]
def sPair (f i : Nat) : Prop := (f = 4 ∧ i = 3) ∨ (f = 5 ∧ i = 4) ∨ (f = 6 ∧ i = 5) ∨ (f = 7 ∧ i = 6) ∨ (f = 8 ∧ i = 7) ∨ (f = 9 ∧ i = 8) ∨ (f = 10 ∧ i = 9) ∨ (f = 11 ∧ i = 10) ∨ (f = 12 ∧ i = 2) ∨ (f = 13 ∧ i = 0)
theorem sPair_i {f i : Nat} (h : sPair f i) : i < 12 ∧ i ≠ 1 ∧ i ≠ 11 := by
  unfold sPair at h
  omega
theorem cP_fld {u : Nat → Nat → Int32} {p : Nat} {R : Nat → Int32} {M f i : Nat} {x : Int32} (h : cP u p R M) (hfi : sPair f i) : cP (qu u p f x) p (upd R i x) M := by
  obtain ⟨h1, h2, h3, h4, h5, h6, h7, h8, h9, h10, h11, h12, h13, h14⟩ := h
  obtain ⟨i1, i2, i3⟩ := sPair_i hfi
  have jj : ∀ j, j < M → ∀ c, c < 8 → qu u p f x (p + 3 + j) c = s_jo (upd R i x) j c := fun j hj c hc => by
    rw [qu_ne _ _ _ (by omega), s_jo_upd R x i1 j, h13 j hj c hc]
  have kk : ∀ k, k < 3 → qu u p f x (p + 2) k = s_t (upd R i x) (nI k) := fun k hk => by
    rw [qu_ne _ _ _ (by omega), s_t_upd R x _ (by omega) i3, h14 k hk]
  rcases hfi with ⟨rfl, rfl⟩ | ⟨rfl, rfl⟩ | ⟨rfl, rfl⟩ | ⟨rfl, rfl⟩ | ⟨rfl, rfl⟩ | ⟨rfl, rfl⟩ | ⟨rfl, rfl⟩ | ⟨rfl, rfl⟩ | ⟨rfl, rfl⟩ | ⟨rfl, rfl⟩ <;>
  exact ⟨by simp [qu, upd, h1], by simp [qu, upd, h2], by simp [qu, upd, h3], by simp [qu, upd, h4], by simp [qu, upd, h5], by simp [qu, upd, h6], by simp [qu, upd, h7], by simp [qu, upd, h8], by simp [qu, upd, h9], by simp [qu, upd, h10], by simp [qu, upd, h11], by simp [qu, upd, h12], jj, kk⟩
theorem cP_jo {u : Nat → Nat → Int32} {p : Nat} {R : Nat → Int32} {M j c : Nat} {x : Int32} (h : cP u p R M) (hj : j < M) (hM : M ≤ 8) (hc : c < 8) : cP (qu u (p + 3 + j) c x) p (upd R (12 + 8 * j + c) x) M := by
  obtain ⟨h1, h2, h3, h4, h5, h6, h7, h8, h9, h10, h11, h12, h13, h14⟩ := h
  have e : ∀ f, qu u (p + 3 + j) c x p f = u p f := fun f => by rw [qu_ne _ _ _ (by omega)]
  have g : ∀ i, i < 12 → upd R (12 + 8 * j + c) x i = R i := fun i hi => by
    unfold upd
    rw [if_neg (by omega)]
  refine ⟨by rw [e, h1], by rw [e, h2, g 3 (by omega)], by rw [e, h3, g 4 (by omega)], by rw [e, h4, g 5 (by omega)], by rw [e, h5, g 6 (by omega)], by rw [e, h6, g 7 (by omega)], by rw [e, h7, g 8 (by omega)], by rw [e, h8, g 9 (by omega)], by rw [e, h9, g 10 (by omega)], by rw [e, h10, g 2 (by omega)], by rw [e, h11, g 0 (by omega)], by rw [e, h12, g 11 (by omega)], fun k hk e he => ?_, fun k hk => ?_⟩
  · rw [s_jo_at R x hc he, qu_at]
    by_cases q : k = j ∧ e = c
    · rw [if_pos (by omega), if_pos q]
    · rw [if_neg (by omega), if_neg q, h13 k hk e he]
  · rw [qu_ne _ _ _ (by omega), s_t_upd R x _ (by omega) (by omega), h14 k hk]
/-- a pipe and a good row that it holds, with the texts -/
def sC (u : Nat → Nat → Int32) (p : Nat) (R : Nat → Int32) (M : Nat) : Prop := isP p ∧ cP u p R M ∧ sG R M ∧ sU u ∧ cT u R
theorem isP_lo {p : Nat} (h : isP p) : 52 ≤ p ∧ p ≤ 74 := by
  unfold isP at h
  omega
theorem sU_same {u v : Nat → Nat → Int32} (h : sU u) (g : v 1 = u 1) : sU v := by
  unfold sU
  rw [g]
  exact h
theorem sC_same {u v : Nat → Nat → Int32} {p : Nat} {R : Nat → Int32} {M : Nat} (h : sC u p R M) (g : ∀ q, q = 1 ∨ (20 ≤ q ∧ q < 48) ∨ inP p q → v q = u q) : sC v p R M := by
  obtain ⟨h1, h2, h3, h4, h5⟩ := h
  exact ⟨h1, cP_same h2 h3.1 (fun q hq => g q (Or.inr (Or.inr hq))), h3, sU_same h4 (g 1 (Or.inl rfl)), cT_same h5 (fun q q1 q2 => g q (Or.inr (Or.inl ⟨q1, q2⟩))) h3.2.2.2.2.1⟩
theorem sC_19 {u v : Nat → Nat → Int32} {p : Nat} {R : Nat → Int32} {M : Nat} (h : sC u p R M) (g : ∀ q, q ≠ 19 → v q = u q) : sC v p R M :=
  sC_same h (fun q hq => g q (by
    have := isP_lo h.1
    unfold inP at hq
    omega))
theorem sC_fld {u : Nat → Nat → Int32} {p : Nat} {R : Nat → Int32} {M f i : Nat} {x : Int32} (h : sC u p R M) (hfi : sPair f i) (h3 : i = 3 → x = 0 ∨ x = 1) : sC (qu u p f x) p (upd R i x) M := by
  obtain ⟨h1, h2, h4, h5, h6⟩ := h
  obtain ⟨i1, i2, i3⟩ := sPair_i hfi
  have := isP_lo h1
  exact ⟨h1, cP_fld h2 hfi, sG_fld h4 i1 i2 i3 h3, sU_same h5 (qu_ne _ _ _ (by omega)), cT_upd (cT_same h6 (fun q q1 q2 => qu_ne _ _ _ (by omega)) h4.2.2.2.2.1) (by omega) i3⟩
theorem sC_jo {u : Nat → Nat → Int32} {p : Nat} {R : Nat → Int32} {M j c : Nat} {x : Int32} (h : sC u p R M) (hj : j < M) (hc : c < 8) (hx : ∃ n, n ≤ s_mx c ∧ x = nI n) : sC (qu u (p + 3 + j) c x) p (upd R (12 + 8 * j + c) x) M := by
  obtain ⟨h1, h2, h4, h5, h6⟩ := h
  have := isP_lo h1
  have hM := h4.1
  exact ⟨h1, cP_jo h2 hj hM hc, sG_jo h4 hj hc hx, sU_same h5 (qu_ne _ _ _ (by omega)), cT_upd (cT_same h6 (fun q q1 q2 => qu_ne _ _ _ (by omega)) h4.2.2.2.2.1) (by omega) (by omega)⟩
