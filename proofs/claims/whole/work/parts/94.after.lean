/-! TEXT, call by call: what holds after it -/
theorem iKs_g {u v : Nat → Nat → Int32} (h : iKs u) (g : ∀ q, (2 ≤ q ∧ q < 14) ∨ q = 123 ∨ q = 124 → v q = u q) (g7 : ∀ i, i ≤ 8 → v 127 i = 0 ∨ v 127 i = 1) : iKs v := by
  unfold iKs at h ⊢
  rw [g 2 (by omega), g 3 (by omega), g 4 (by omega), g 5 (by omega), g 6 (by omega), g 7 (by omega), g 8 (by omega), g 9 (by omega), g 10 (by omega), g 11 (by omega), g 12 (by omega), g 13 (by omega), g 123 (by omega), g 124 (by omega)]
  obtain ⟨a1, a2, a3, a4, a5, a6, a7, b1, b2, b3, b4, c1, c2, c3, c4, c5, c6, -⟩ := h
  exact ⟨a1, a2, a3, a4, a5, a6, a7, b1, b2, b3, b4, c1, c2, c3, c4, c5, c6, g7⟩
theorem inv_tx {u y v : Nat → Nat → Int32} (h : sINV u) (hy : ∀ x, x ≠ 48 → x ≠ 50 → x ≠ 51 → y x = u x) (hf : fB y v) (h48 : y 48 2 = 0) : sINV (qu v 116 9 0) := by
  obtain ⟨a1, a2, a3, a4, a5, a6, a7⟩ := h
  obtain ⟨f1, f2, f3⟩ := hf
  have g : ∀ q, q ≠ 48 → q ≠ 50 → q ≠ 51 → q ≠ 116 → q ≠ 125 → q ≠ 126 → q ≠ 127 → qu v 116 9 0 q = u q := fun q c1 c2 c3 c4 c5 c6 c7 => by
    rw [qu_ne _ _ _ c4, f1 q c4 c5 c6 c7, hy q c1 c2 c3]
  have e116 : ∀ f, ¬ (9 ≤ f ∧ f ≤ 15) → f ≠ 19 → f ≠ 20 → f ≠ 22 → qu v 116 9 0 116 f = u 116 f := fun f c1 c2 c3 c4 => by
    rw [qu_at, if_neg (by omega), f2 f c1 c2 c3 c4, hy 116 (by omega) (by omega) (by omega)]
  have e117 := g 117 (by omega) (by omega) (by omega) (by omega) (by omega) (by omega) (by omega)
  refine ⟨iNw_f a1 e117 (fun q hq => g q (by unfold inP at hq; omega) (by unfold inP at hq; omega) (by unfold inP at hq; omega) (by unfold inP at hq; omega) (by unfold inP at hq; omega) (by unfold inP at hq; omega) (by unfold inP at hq; omega)), iIm_f a2 (by rw [g 16 (by omega) (by omega) (by omega) (by omega) (by omega) (by omega) (by omega)]) (e116 3 (by omega) (by omega) (by omega) (by omega)) (g 118 (by omega) (by omega) (by omega) (by omega) (by omega) (by omega) (by omega)) (by rw [e117]) (fun q hq => g q (by unfold inP at hq; omega) (by unfold inP at hq; omega) (by unfold inP at hq; omega) (by unfold inP at hq; omega) (by unfold inP at hq; omega) (by unfold inP at hq; omega) (by unfold inP at hq; omega)), iSh_f a3 (fun q hq => g q (by omega) (by omega) (by omega) (by omega) (by omega) (by omega) (by omega)), iSl_f a4 (fun q hq => g q (by omega) (by omega) (by omega) (by omega) (by omega) (by omega) (by omega)), iWt_f a5 (by rw [g 16 (by omega) (by omega) (by omega) (by omega) (by omega) (by omega) (by omega)]) (e116 35 (by omega) (by omega) (by omega) (by omega)) (g 87 (by omega) (by omega) (by omega) (by omega) (by omega) (by omega) (by omega)) (g 138 (by omega) (by omega) (by omega) (by omega) (by omega) (by omega) (by omega)), ⟨?_, 0, by omega, by simp [qu]; rfl, fun k hk => by omega⟩, iKs_g a7 (fun q hq => g q (by omega) (by omega) (by omega) (by omega) (by omega) (by omega) (by omega)) (fun i hi => by rw [qu_ne _ _ _ (by omega)]; exact f3 i hi)⟩
  rw [qu_ne _ _ _ (by omega), f1 48 (by omega) (by omega) (by omega) (by omega), h48]
  simp [qu]
theorem inv_tx2 {u y v : Nat → Nat → Int32} {R' : Nat → Int32} {T key N q : Nat} {C : Nat → Int32} {a : Int32} (h : sINV u) (hT : u 117 11 = nI T) (hT14 : T < 14) (hk : key < 3) (hN : N ≤ 96) (hq : q = if key = 0 then 3 else 2) (hw : s_wf C N q) (hd : s_dp C N = 1) (hn : sNew (u 117) R' T key N C a) (hy : ∀ x, x ≠ 48 → x ≠ 50 → x ≠ 51 → x ≠ 52 → x ≠ 54 → x ≠ 20 + 2 * T → x ≠ 21 + 2 * T → y x = u x) (h48 : y 48 2 = 0) (e52 : ∀ j, j ≠ 14 → y 52 j = u 52 j) (e14 : y 52 14 = nI (T + 1)) (e54 : ∀ k, k < 3 → y 54 k = if k = key then nI T else u 54 k) (n1 : y (20 + 2 * T) 1 = nI key) (n2 : y (20 + 2 * T) 2 = nI N) (n3 : y (20 + 2 * T) 3 = a) (n4 : ∀ k, k < N → y (21 + 2 * T) k = s_tr (C k)) (f1 : ∀ x, x ≠ 116 → x ≠ 117 → x ≠ 125 → x ≠ 126 → x ≠ 127 → v x = y x) (f2 : ∀ f, ¬ (9 ≤ f ∧ f ≤ 15) → f ≠ 19 → f ≠ 20 → f ≠ 22 → v 116 f = y 116 f) (f9 : v 116 9 = 0) (f7 : ∀ i, i ≤ 8 → v 127 i = 0 ∨ v 127 i = 1) (f117 : v 117 = R') : sINV v := by
  obtain ⟨⟨M, a1, H, b1, b2⟩, ⟨c1, c2⟩, a3, a4, a5, a6, a7⟩ := h
  have g : ∀ q, q ≠ 48 → q ≠ 50 → q ≠ 51 → q ≠ 52 → q ≠ 54 → q ≠ 20 + 2 * T → q ≠ 21 + 2 * T → q ≠ 116 → q ≠ 117 → q ≠ 125 → q ≠ 126 → q ≠ 127 → v q = u q := fun q c1 c2 c3 c4 c5 c6 c7 c8 c9 d1 d2 d3 => by
    rw [f1 q c8 c9 d1 d2 d3, hy q c1 c2 c3 c4 c5 c6 c7]
  have e116 : ∀ f, ¬ (9 ≤ f ∧ f ≤ 15) → f ≠ 19 → f ≠ 20 → f ≠ 22 → v 116 f = u 116 f := fun f c1 c2 c3 c4 => by
    rw [f2 f c1 c2 c3 c4, hy 116 (by omega) (by omega) (by omega) (by omega) (by omega) (by omega) (by omega)]
  have et : ∀ t, t < T → v (20 + 2 * t) = u (20 + 2 * t) ∧ v (21 + 2 * t) = u (21 + 2 * t) := fun t ht =>
    ⟨g _ (by omega) (by omega) (by omega) (by omega) (by omega) (by omega) (by omega) (by omega) (by omega) (by omega) (by omega) (by omega), g _ (by omega) (by omega) (by omega) (by omega) (by omega) (by omega) (by omega) (by omega) (by omega) (by omega) (by omega) (by omega)⟩
  have v52 : v 52 = y 52 := f1 52 (by omega) (by omega) (by omega) (by omega) (by omega)
  have v54 : v 54 = y 54 := f1 54 (by omega) (by omega) (by omega) (by omega) (by omega)
  have v20 : v (20 + 2 * T) = y (20 + 2 * T) := f1 _ (by omega) (by omega) (by omega) (by omega) (by omega)
  have v21 : v (21 + 2 * T) = y (21 + 2 * T) := f1 _ (by omega) (by omega) (by omega) (by omega) (by omega)
  have e118 : v 118 = u 118 := g 118 (by omega) (by omega) (by omega) (by omega) (by omega) (by omega) (by omega) (by omega) (by omega) (by omega) (by omega) (by omega)
  have e16 : v 16 = u 16 := g 16 (by omega) (by omega) (by omega) (by omega) (by omega) (by omega) (by omega) (by omega) (by omega) (by omega) (by omega) (by omega)
  refine ⟨⟨M, ?_, H, b1, by rw [f117, hn.1 2 (by omega) (by omega)]; exact b2⟩, ⟨by rw [e16, e116 3 (by omega) (by omega) (by omega) (by omega)]; exact c1, ?_⟩, iSh_f a3 (fun q hq => g q (by omega) (by omega) (by omega) (by omega) (by omega) (by omega) (by omega) (by omega) (by omega) (by omega) (by omega) (by omega)), iSl_f a4 (fun q hq => g q (by omega) (by omega) (by omega) (by omega) (by omega) (by omega) (by omega) (by omega) (by omega) (by omega) (by omega) (by omega)), iWt_f a5 (by rw [e16]) (e116 35 (by omega) (by omega) (by omega) (by omega)) (g 87 (by omega) (by omega) (by omega) (by omega) (by omega) (by omega) (by omega) (by omega) (by omega) (by omega) (by omega) (by omega)) (g 138 (by omega) (by omega) (by omega) (by omega) (by omega) (by omega) (by omega) (by omega) (by omega) (by omega) (by omega) (by omega)), ⟨?_, 0, by omega, f9, fun k hk => by omega⟩, iKs_g a7 (fun q hq => g q (by omega) (by omega) (by omega) (by omega) (by omega) (by omega) (by omega) (by omega) (by omega) (by omega) (by omega) (by omega)) f7⟩
  · rw [f117]
    refine sC_new hn hT hT14 hk hN hq hw hd a1 (fun x hx => ?_) (fun j hj => by rw [v52, e52 j hj]) (by rw [v52, e14]) (fun k hk => by rw [v54, e54 k hk]) et (by rw [v20, n1]) (by rw [v20, n2]) (by rw [v20, n3]) (fun k hk => by rw [v21, n4 k hk])
    exact g x (by unfold inP at hx; omega) (by unfold inP at hx; omega) (by unfold inP at hx; omega) (by unfold inP at hx; omega) (by unfold inP at hx; omega) (by unfold inP at hx; omega) (by unfold inP at hx; omega) (by unfold inP at hx; omega) (by unfold inP at hx; omega) (by unfold inP at hx; omega) (by unfold inP at hx; omega) (by unfold inP at hx; omega)
  · rw [e116 3 (by omega) (by omega) (by omega) (by omega), e118, f117, hn.2.1]
    rcases c2 with c2 | ⟨c2, ⟨MI, c3, c4⟩, TI, T', x1, x2, x3, x4⟩
    · exact Or.inl c2
    · have eT : T' = T := by
        rw [hT] at x2
        exact ((nI_eq (by omega) (by omega)).mp x2).symm
      subst eT
      refine Or.inr ⟨c2, ⟨MI, sC_im c3 x1 (by omega) (fun q hq => ?_) (fun t ht => et t (by omega)), c4⟩, TI, T' + 1, x1, rfl, by omega, by omega⟩
      exact g q (by unfold inP at hq; omega) (by unfold inP at hq; omega) (by unfold inP at hq; omega) (by unfold inP at hq; omega) (by unfold inP at hq; omega) (by unfold inP at hq; omega) (by unfold inP at hq; omega) (by unfold inP at hq; omega) (by unfold inP at hq; omega) (by unfold inP at hq; omega) (by unfold inP at hq; omega) (by unfold inP at hq; omega)
  · rw [f1 48 (by omega) (by omega) (by omega) (by omega) (by omega), h48, f9]
