/-! SHEETS AND SLOTS: facts on their cells; WHAT HOLDS BETWEEN CALLS -/
def zSh (q : Nat) : Prop := qs_kd qy_m q = 4 ∧ qs_lk qy_m q 0 = q + 1 + 2 ∧ qs_lk qy_m q 1 = 0 ∧ qs_lk qy_m q 2 = 0 ∧ qs_kd qy_m (q + 1) = 20 ∧ qs_sz qy_m (q + 1) = 24
theorem zSh_of {q : Nat} (h : q + 1 < 140) (h0 : qz_K.getD q 0 = 4) (h1 : qz_LK.getD q [] = [q + 1 + 2, 0, 0]) (h2 : qz_K.getD (q + 1) 0 = 20) (h3 : qz_S.getD (q + 1) 0 = 24) : zSh q :=
  ⟨by rw [(qy_kd (by omega)).1, h0], by rw [qy_lk (by omega) (by rw [h1]; exact (by omega : 0 < 3)), h1]; rfl, by rw [qy_lk (by omega) (by rw [h1]; exact (by omega : 1 < 3)), h1]; rfl, by rw [qy_lk (by omega) (by rw [h1]; exact (by omega : 2 < 3)), h1]; rfl, by rw [(qy_kd h).1, h2], by rw [(qy_kd h).2, h3]⟩
def zS1 (s : Nat) : Prop := qs_lk qy_m 85 s = 88 + 2 * s + 2 ∧ 18 ≤ 88 + 2 * s + 2 ∧ zSh (88 + 2 * s)
theorem zS_0 : zS1 0 := ⟨qy_lk (by decide) (by decide), by decide, zSh_of (by decide) (by decide) (by decide) (by decide) (by decide)⟩
theorem zS_1 : zS1 1 := ⟨qy_lk (by decide) (by decide), by decide, zSh_of (by decide) (by decide) (by decide) (by decide) (by decide)⟩
theorem zS_2 : zS1 2 := ⟨qy_lk (by decide) (by decide), by decide, zSh_of (by decide) (by decide) (by decide) (by decide) (by decide)⟩
theorem zS_3 : zS1 3 := ⟨qy_lk (by decide) (by decide), by decide, zSh_of (by decide) (by decide) (by decide) (by decide) (by decide)⟩
theorem zS {s : Nat} (h : s < 4) : zS1 s := by
  rcases (by omega : s = 0 ∨ s = 1 ∨ s = 2 ∨ s = 3) with rfl | rfl | rfl | rfl
  · exact zS_0
  · exact zS_1
  · exact zS_2
  · exact zS_3
def zL1 (i : Nat) : Prop := qs_lk qy_m 86 i = 96 + 4 * i + 2 ∧ 18 ≤ 96 + 4 * i + 2 ∧ qs_kd qy_m (96 + 4 * i) = 5 ∧ qs_lk qy_m (96 + 4 * i) 0 = 97 + 4 * i + 2 ∧ qs_lk qy_m (96 + 4 * i) 1 = 98 + 4 * i + 2 ∧ qs_lk qy_m (96 + 4 * i) 2 = 0 ∧ qs_lk qy_m (96 + 4 * i) 3 = 0 ∧ zJ (97 + 4 * i) ∧ zSh (98 + 4 * i)
theorem zL_0 : zL1 0 := ⟨qy_lk (by decide) (by decide), by decide, (qy_kd (by decide)).1, qy_lk (by decide) (by decide), qy_lk (by decide) (by decide), qy_lk (by decide) (by decide), qy_lk (by decide) (by decide), zJ_of (by decide) (by decide) (by decide), zSh_of (by decide) (by decide) (by decide) (by decide) (by decide)⟩
theorem zL_1 : zL1 1 := ⟨qy_lk (by decide) (by decide), by decide, (qy_kd (by decide)).1, qy_lk (by decide) (by decide), qy_lk (by decide) (by decide), qy_lk (by decide) (by decide), qy_lk (by decide) (by decide), zJ_of (by decide) (by decide) (by decide), zSh_of (by decide) (by decide) (by decide) (by decide) (by decide)⟩
theorem zL_2 : zL1 2 := ⟨qy_lk (by decide) (by decide), by decide, (qy_kd (by decide)).1, qy_lk (by decide) (by decide), qy_lk (by decide) (by decide), qy_lk (by decide) (by decide), qy_lk (by decide) (by decide), zJ_of (by decide) (by decide) (by decide), zSh_of (by decide) (by decide) (by decide) (by decide) (by decide)⟩
theorem zL_3 : zL1 3 := ⟨qy_lk (by decide) (by decide), by decide, (qy_kd (by decide)).1, qy_lk (by decide) (by decide), qy_lk (by decide) (by decide), qy_lk (by decide) (by decide), qy_lk (by decide) (by decide), zJ_of (by decide) (by decide) (by decide), zSh_of (by decide) (by decide) (by decide) (by decide) (by decide)⟩
theorem zL_4 : zL1 4 := ⟨qy_lk (by decide) (by decide), by decide, (qy_kd (by decide)).1, qy_lk (by decide) (by decide), qy_lk (by decide) (by decide), qy_lk (by decide) (by decide), qy_lk (by decide) (by decide), zJ_of (by decide) (by decide) (by decide), zSh_of (by decide) (by decide) (by decide) (by decide) (by decide)⟩
theorem zL {i : Nat} (h : i < 5) : zL1 i := by
  rcases (by omega : i = 0 ∨ i = 1 ∨ i = 2 ∨ i = 3 ∨ i = 4) with rfl | rfl | rfl | rfl | rfl
  · exact zL_0
  · exact zL_1
  · exact zL_2
  · exact zL_3
  · exact zL_4
def iNw (u : Nat → Nat → Int32) : Prop := ∃ M, sC u 52 (u 117) M ∧ sHr (u 117)
def iIm (u : Nat → Nat → Int32) : Prop := u 16 5 = u 116 3 ∧ (u 116 3 = 0 ∨ (u 116 3 = 1 ∧ (∃ MI, sC u 63 (u 118) MI ∧ sHr (u 118)) ∧ ∃ TI T, u 118 11 = nI TI ∧ u 117 11 = nI T ∧ TI ≤ T ∧ T ≤ 14))
def iSh (u : Nat → Nat → Int32) : Prop := ∀ s, s < 4 → u (88 + 2 * s) 1 = u 130 s ∧ u (88 + 2 * s) 2 = u 131 s ∧ (u 130 s = -1 ∨ u 130 s = 0 ∨ u 130 s = 1) ∧ (∃ n, n ≤ 24 ∧ u 131 s = nI n) ∧ ∀ k, k < 24 → u (88 + 2 * s + 1) k = u 132 (24 * s + k) ∧ s_cz (u 132 (24 * s + k))
def iSl (u : Nat → Nat → Int32) : Prop := ∀ i, i < 5 → u (96 + 4 * i) 2 = u 133 i ∧ (u 133 i = 0 ∨ (u 133 i = 1 ∧ (∃ n, n ≤ 5 ∧ u (97 + 4 * i) 0 = nI n) ∧ u (97 + 4 * i) 0 = u 134 i ∧ s_worth (u (97 + 4 * i)) = u 135 i) ∨ (u 133 i = 2 ∧ u (98 + 4 * i) 2 = u 134 i ∧ (∃ n, n ≤ 24 ∧ u 134 i = nI n) ∧ ∀ k, k < 24 → u (98 + 4 * i + 1) k = u 136 (24 * i + k)) ∨ (u 133 i = 3 ∧ u (96 + 4 * i) 3 = u 134 i))
def iWt (u : Nat → Nat → Int32) : Prop := u 16 9 = u 116 35 ∧ ∃ n, n ≤ 60 ∧ u 116 35 = nI n ∧ ∀ k, k < n → u 87 k = u 138 k
def iTp (u : Nat → Nat → Int32) : Prop := u 48 2 = u 116 9 ∧ ∃ n, n ≤ 96 ∧ u 116 9 = nI n ∧ ∀ k, k < n → u 49 k = u 122 k ∧ ∃ b, b ≤ 255 ∧ u 122 k = nI b
def iKs (u : Nat → Nat → Int32) : Prop := (u 8 0 = 108 ∧ u 8 1 = 101 ∧ u 8 2 = 97 ∧ u 8 3 = 107) ∧ (u 9 0 = 102 ∧ u 9 1 = 101 ∧ u 9 2 = 101) ∧ (u 10 0 = 102 ∧ u 10 1 = 105 ∧ u 10 2 = 110 ∧ u 10 3 = 101) ∧ (u 11 0 = 103 ∧ u 11 1 = 114 ∧ u 11 2 = 97) ∧ (u 12 0 = 100 ∧ u 12 1 = 102) ∧ (u 13 0 = 116 ∧ u 13 1 = 115) ∧ (u 123 0 = 108 ∧ u 123 1 = 101 ∧ u 123 2 = 97 ∧ u 123 3 = 107 ∧ u 123 4 = 102 ∧ u 123 5 = 101 ∧ u 123 6 = 101 ∧ u 123 7 = 102 ∧ u 123 8 = 105 ∧ u 123 9 = 110 ∧ u 123 10 = 101) ∧ u 124 0 = 0 ∧ u 124 1 = 4 ∧ u 124 2 = 7 ∧ u 124 3 = 11 ∧ u 2 1 = 0 ∧ u 3 1 = 0 ∧ u 4 1 = 0 ∧ u 5 1 = 0 ∧ u 6 1 = 0 ∧ u 7 1 = 0 ∧ ∀ i, i ≤ 8 → u 127 i = 0 ∨ u 127 i = 1
def sINV (u : Nat → Nat → Int32) : Prop := iNw u ∧ iIm u ∧ iSh u ∧ iSl u ∧ iWt u ∧ iTp u ∧ iKs u
theorem iNw_f {u v : Nat → Nat → Int32} (h : iNw u) (h7 : v 117 = u 117) (g : ∀ q, q = 1 ∨ (20 ≤ q ∧ q < 48) ∨ inP 52 q → v q = u q) : iNw v := by
  obtain ⟨M, h1, h2⟩ := h
  exact ⟨M, by rw [h7]; exact sC_same h1 g, by rw [h7]; exact h2⟩
theorem iIm_f {u v : Nat → Nat → Int32} (h : iIm u) (h1 : v 16 5 = u 16 5) (h2 : v 116 3 = u 116 3) (h3 : v 118 = u 118) (h4 : v 117 11 = u 117 11) (g : ∀ q, q = 1 ∨ (20 ≤ q ∧ q < 48) ∨ inP 63 q → v q = u q) : iIm v := by
  obtain ⟨a1, a2⟩ := h
  refine ⟨by rw [h1, h2, a1], ?_⟩
  rw [h2, h3, h4]
  rcases a2 with a2 | ⟨a2, ⟨MI, a3, a4⟩, a5⟩
  · exact Or.inl a2
  · exact Or.inr ⟨a2, ⟨MI, sC_same a3 g, a4⟩, a5⟩
theorem iSh_f {u v : Nat → Nat → Int32} (h : iSh u) (g : ∀ q, (88 ≤ q ∧ q < 96) ∨ (130 ≤ q ∧ q ≤ 132) → v q = u q) : iSh v := by
  intro s hs
  rw [g (88 + 2 * s) (by omega), g (88 + 2 * s + 1) (by omega), g 130 (by omega), g 131 (by omega), g 132 (by omega)]
  exact h s hs
theorem iSl_f {u v : Nat → Nat → Int32} (h : iSl u) (g : ∀ q, (96 ≤ q ∧ q < 116) ∨ (133 ≤ q ∧ q ≤ 136) → v q = u q) : iSl v := by
  intro s hs
  rw [g (96 + 4 * s) (by omega), g (97 + 4 * s) (by omega), g (98 + 4 * s) (by omega), g (98 + 4 * s + 1) (by omega), g 133 (by omega), g 134 (by omega), g 135 (by omega), g 136 (by omega)]
  exact h s hs
theorem iWt_f {u v : Nat → Nat → Int32} (h : iWt u) (h1 : v 16 9 = u 16 9) (h2 : v 116 35 = u 116 35) (h3 : v 87 = u 87) (h4 : v 138 = u 138) : iWt v := by
  unfold iWt
  rw [h1, h2, h3, h4]
  exact h
theorem iTp_f {u v : Nat → Nat → Int32} (h : iTp u) (h1 : v 48 2 = u 48 2) (h2 : v 116 9 = u 116 9) (h3 : v 49 = u 49) (h4 : v 122 = u 122) : iTp v := by
  unfold iTp
  rw [h1, h2, h3, h4]
  exact h
theorem iKs_f {u v : Nat → Nat → Int32} (h : iKs u) (g : ∀ q, (2 ≤ q ∧ q < 14) ∨ q = 123 ∨ q = 124 ∨ q = 127 → v q = u q) : iKs v := by
  unfold iKs
  rw [g 2 (by omega), g 3 (by omega), g 4 (by omega), g 5 (by omega), g 6 (by omega), g 7 (by omega), g 8 (by omega), g 9 (by omega), g 10 (by omega), g 11 (by omega), g 12 (by omega), g 13 (by omega), g 123 (by omega), g 124 (by omega), g 127 (by omega)]
  exact h
/-- a call: class and reference answer alike, and all holds on -/
def sOK (m1 m2 : Nat) (as : List Value) : Prop := ∀ (d : Nat) (u : Nat → Nat → Int32) (w : Nat → Nat → Int64), sINV u → ∃ y u1 u2 w2, qs_call (d + 120) m1 (.ref 16 :: as) (QM u w) = some (some (.int y), QM u1 w) ∧ qs_call (d + 120) m2 (.ref 116 :: as) (QM u1 w) = some (some (.int y), QM u2 w2) ∧ sINV u2
/-- a call that only thinks, or reads -/
theorem inv_thL {u u1 u2 : Nat → Nat → Int32} (h : sINV u) (h1 : fthL u u1) (h2 : fT u1 u2) : sINV u2 := by
  obtain ⟨a1, a2, a3, a4, a5, a6, a7⟩ := h
  obtain ⟨f1, f2, f3⟩ := h2
  have g : ∀ q, (q < 74 ∨ (85 ≤ q ∧ q ≠ 139)) → q ≠ 19 → q ≠ 116 → q ≠ 117 → q ≠ 120 → q ≠ 128 → q ≠ 129 → u2 q = u q := fun q c1 c2 c3 c4 c5 c6 c7 => by
    rw [f3 q c3 c4 c5 c6 c7, h1 q (by unfold inP; omega) c2 (by omega)]
  have e117 : u2 117 = u 117 := by rw [f1, h1 117 (by unfold inP; omega) (by omega) (by omega)]
  have e116 : ∀ f, f ≠ 5 → f ≠ 6 → u2 116 f = u 116 f := fun f c1 c2 => by rw [f2 f c1 c2, h1 116 (by unfold inP; omega) (by omega) (by omega)]
  refine ⟨iNw_f a1 e117 (fun q hq => g q (by unfold inP at hq; omega) (by unfold inP at hq; omega) (by unfold inP at hq; omega) (by unfold inP at hq; omega) (by unfold inP at hq; omega) (by unfold inP at hq; omega) (by unfold inP at hq; omega)), iIm_f a2 (by rw [g 16 (by omega) (by omega) (by omega) (by omega) (by omega) (by omega) (by omega)]) (e116 3 (by omega) (by omega)) (g 118 (by omega) (by omega) (by omega) (by omega) (by omega) (by omega) (by omega)) (by rw [e117]) (fun q hq => g q (by unfold inP at hq; omega) (by unfold inP at hq; omega) (by unfold inP at hq; omega) (by unfold inP at hq; omega) (by unfold inP at hq; omega) (by unfold inP at hq; omega) (by unfold inP at hq; omega)), iSh_f a3 (fun q hq => g q (by omega) (by omega) (by omega) (by omega) (by omega) (by omega) (by omega)), iSl_f a4 (fun q hq => g q (by omega) (by omega) (by omega) (by omega) (by omega) (by omega) (by omega)), iWt_f a5 (by rw [g 16 (by omega) (by omega) (by omega) (by omega) (by omega) (by omega) (by omega)]) (e116 35 (by omega) (by omega)) (g 87 (by omega) (by omega) (by omega) (by omega) (by omega) (by omega) (by omega)) (g 138 (by omega) (by omega) (by omega) (by omega) (by omega) (by omega) (by omega)), iTp_f a6 (by rw [g 48 (by omega) (by omega) (by omega) (by omega) (by omega) (by omega) (by omega)]) (e116 9 (by omega) (by omega)) (g 49 (by omega) (by omega) (by omega) (by omega) (by omega) (by omega) (by omega)) (g 122 (by omega) (by omega) (by omega) (by omega) (by omega) (by omega) (by omega)), iKs_f a7 (fun q hq => g q (by omega) (by omega) (by omega) (by omega) (by omega) (by omega) (by omega))⟩
theorem inv_th {u u1 u2 : Nat → Nat → Int32} (h : sINV u) (h1 : fth u u1) (h2 : fT u1 u2) : sINV u2 := inv_thL h h1.L h2
/-- a call that changes the row -/
theorem inv_now {u u1 u2 : Nat → Nat → Int32} {S : Nat → Int32} {M : Nat} (h : sINV u) (h1 : ∀ q, ¬ inP 52 q → q ≠ 19 → u1 q = u q) (hC : sC u1 52 S M) (hH : sHr S) (h11 : S 11 = u 117 11) (h7 : u2 117 = S) (h2 : ∀ a, a ≠ 117 → a ≠ 128 → a ≠ 129 → u2 a = u1 a) : sINV u2 := by
  obtain ⟨a1, a2, a3, a4, a5, a6, a7⟩ := h
  have g : ∀ q, (q < 52 ∨ 63 ≤ q) → q ≠ 19 → q ≠ 117 → q ≠ 128 → q ≠ 129 → u2 q = u q := fun q c1 c2 c3 c4 c5 => by
    rw [h2 q c3 c4 c5, h1 q (by unfold inP; omega) c2]
  refine ⟨⟨M, by rw [h7]; exact sC_same hC (fun q hq => h2 q (by unfold inP at hq; omega) (by unfold inP at hq; omega) (by unfold inP at hq; omega)), by rw [h7]; exact hH⟩, iIm_f a2 (by rw [g 16 (by omega) (by omega) (by omega) (by omega) (by omega)]) (by rw [g 116 (by omega) (by omega) (by omega) (by omega) (by omega)]) (g 118 (by omega) (by omega) (by omega) (by omega) (by omega)) (by rw [h7, h11]) (fun q hq => g q (by unfold inP at hq; omega) (by unfold inP at hq; omega) (by unfold inP at hq; omega) (by unfold inP at hq; omega) (by unfold inP at hq; omega)), iSh_f a3 (fun q hq => g q (by omega) (by omega) (by omega) (by omega) (by omega)), iSl_f a4 (fun q hq => g q (by omega) (by omega) (by omega) (by omega) (by omega)), iWt_f a5 (by rw [g 16 (by omega) (by omega) (by omega) (by omega) (by omega)]) (by rw [g 116 (by omega) (by omega) (by omega) (by omega) (by omega)]) (g 87 (by omega) (by omega) (by omega) (by omega) (by omega)) (g 138 (by omega) (by omega) (by omega) (by omega) (by omega)), iTp_f a6 (by rw [g 48 (by omega) (by omega) (by omega) (by omega) (by omega)]) (by rw [g 116 (by omega) (by omega) (by omega) (by omega) (by omega)]) (g 49 (by omega) (by omega) (by omega) (by omega) (by omega)) (g 122 (by omega) (by omega) (by omega) (by omega) (by omega)), iKs_f a7 (fun q hq => g q (by omega) (by omega) (by omega) (by omega) (by omega))⟩
