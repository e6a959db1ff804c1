/-! TEXT: a text more -/
theorem dpl_s {a : Nat → Int32} : ∀ {E : List Int32}, lst a E → s_dp a E.length = dpl E
  | [], _ => rfl
  | x :: E, h => by
    have ih := dpl_s h.2
    show (if 0 ≤ a E.length then s_dp a E.length + 1 else if a E.length = -10 then s_dp a E.length else s_dp a E.length - 1) = _
    rw [ih, h.1]
    rfl
theorem wfl_s {a : Nat → Int32} {q : Nat} : ∀ {E : List Int32}, lst a E → wfl q E → s_wf a E.length q
  | [], _, _ => fun k hk => absurd hk (Nat.not_lt_zero _)
  | x :: E, h, g => by
    have ih := wfl_s h.2 g.1
    intro k hk
    simp only [List.length_cons] at hk
    by_cases e : k < E.length
    · exact ih k e
    · obtain rfl : k = E.length := by omega
      rw [h.1, dpl_s h.2]
      exact g.2
theorem s_wf_q {a : Nat → Int32} {N q q' : Nat} (h : s_wf a N q) (hq : q ≤ q') : s_wf a N q' := by
  intro k hk
  rcases h k hk with ⟨h1, h2⟩ | h1 | h1
  · refine Or.inl ⟨h1, ?_⟩
    rcases h2 with h2 | ⟨f, h2, h3⟩
    · exact Or.inl h2
    · exact Or.inr ⟨f, by omega, h3⟩
  · exact Or.inr (Or.inl h1)
  · exact Or.inr (Or.inr h1)
theorem lst_tr {u a : Nat → Int32} : ∀ {E : List Int32}, lst u (E.map s_tr) → lst a E → ∀ k, k < E.length → u k = s_tr (a k)
  | [], _, _, k, hk => absurd hk (Nat.not_lt_zero _)
  | x :: E, h, g, k, hk => by
    simp only [List.length_cons] at hk
    by_cases e : k < E.length
    · exact lst_tr h.2 g.2 k e
    · obtain rfl : k = E.length := by omega
      have h1 : u (E.map s_tr).length = s_tr x := h.1
      rw [List.length_map] at h1
      rw [h1, g.1]
/-- R' is R with a text more: its key, its codes' number N, its codes C, its pieces -/
def sNew (R R' : Nat → Int32) (T key N : Nat) (C : Nat → Int32) (a : Int32) : Prop := (∀ i, i < 76 → i ≠ 11 → R' i = R i) ∧ R' 11 = nI (T + 1) ∧ (∀ t, t < T → R' (76 + 2 * t) = R (76 + 2 * t) ∧ R' (77 + 2 * t) = R (77 + 2 * t) ∧ ∀ k, k < 96 → R' (104 + 96 * t + k) = R (104 + 96 * t + k)) ∧ R' (76 + 2 * T) = 1000 * nI key + nI N ∧ R' (77 + 2 * T) = a ∧ ∀ k, k < N → R' (104 + 96 * T + k) = C k
theorem n_hd {key N : Nat} (hk : key < 3) (hN : N ≤ 96) : (1000 * nI key + nI N) / 1000 = nI key ∧ 1000 * nI key + nI N - (1000 * nI key + nI N) / 1000 * 1000 = nI N := by
  have e : 1000 * nI key + nI N = nI (1000 * key + N) := by
    rw [← nI_add, ← nI_times]
    rfl
  have e2 : nI (1000 * key + N) / nI 1000 = nI key := by
    rw [nI_div (by omega) (by omega)]
    congr 1
    omega
  have e3 : nI (1000 * key + N) - nI (1000 * key + N) / nI 1000 * nI 1000 = nI N := by
    rw [nI_mod (by omega) (by omega)]
    congr 1
    omega
  rw [e]
  exact ⟨e2, e3⟩
theorem s_ct_new {R R' : Nat → Int32} {T key N : Nat} {C : Nat → Int32} {a : Int32} (h : sNew R R' T key N C a) (k : Int32) : ∀ n, n ≤ T → s_ct R' k n = s_ct R k n
  | 0, _ => rfl
  | n + 1, hn => by
    have ih := s_ct_new h k n (by omega)
    show (if R' (76 + 2 * n) / 1000 = k then nI n else s_ct R' k n) = _
    rw [ih, (h.2.2.1 n (by omega)).1]
    rfl
theorem sG_new {R R' : Nat → Int32} {T key N M q : Nat} {C : Nat → Int32} {a : Int32} (h : sNew R R' T key N C a) (hT : R 11 = nI T) (hT14 : T < 14) (hk : key < 3) (hN : N ≤ 96) (hq : q = if key = 0 then 3 else 2) (hw : s_wf C N q) (hd : s_dp C N = 1) (g : sG R M) : sG R' M := by
  obtain ⟨h1, h2, h3, h4, h5, h6⟩ := h
  obtain ⟨g1, g2, g3, g4, g5, g6⟩ := g
  have hn := n_hd hk hN
  have hq3 : q ≤ 3 := by rw [hq]; split <;> omega
  have cC : ∀ k, k < N → C k = s_C R' T k := fun k hk => (h6 k hk).symm
  have cO : ∀ t, t < T → ∀ n, n ≤ 96 → ∀ k, k < n → s_C R t k = s_C R' t k := fun t ht n hn k hk => ((h3 t ht).2.2 k (by omega)).symm
  have sN : ∀ t, t < T → s_N R' t = s_N R t := fun t ht => by
    unfold s_N
    rw [(h3 t ht).1]
  have sNT : s_N R' T = nI N := by
    unfold s_N
    rw [h4]
    exact hn.2
  refine ⟨g1, by rw [h1 1 (by omega) (by omega), g2], fun j hj c hc => ?_, by rw [h1 3 (by omega) (by omega)]; exact g4, ⟨T + 1, h2, by omega, fun t ht => ?_⟩, fun T' e1 e2 t ht e3 N' e4 e5 => ?_⟩
  · have := g3 j hj c hc
    unfold s_jo at this ⊢
    rw [h1 _ (by omega) (by omega)]
    exact this
  · by_cases e : t < T
    · obtain ⟨T0, x1, x2, x3⟩ := g5
      rw [hT] at x1
      have := (nI_eq (by omega) (by omega)).mp x1
      obtain ⟨N0, y1, y2, y3, y4⟩ := x3 t (by omega)
      refine ⟨N0, y1, by rw [sN t e, y2], s_wf_cg (cO t e N0 y1) y3, ?_⟩
      rw [← s_dp_cg N0 (cO t e N0 y1)]
      exact y4
    · obtain rfl : t = T := by omega
      refine ⟨N, hN, sNT, s_wf_cg cC (s_wf_q hw hq3), ?_⟩
      rw [← s_dp_cg N cC, hd]
      exact Nat.le_refl _
  · rw [h2] at e1
    have := (nI_eq (by omega) (by omega)).mp e1
    by_cases e : t < T
    · rw [(h3 t e).1] at e3
      rw [sN t e] at e4
      exact s_wf_cg (cO t e N' e5) (g6 T hT (by omega) t e e3 N' e4 e5)
    · obtain rfl : t = T := by omega
      rw [h4, hn.1] at e3
      rw [sNT] at e4
      have := (nI_eq (by omega) (by omega)).mp e4
      subst this
      have hk0 : key ≠ 0 := fun c => e3 (by rw [c]; rfl)
      rw [hq, if_neg hk0] at hw
      exact s_wf_cg cC hw
theorem sC_im {u v : Nat → Nat → Int32} {p : Nat} {R : Nat → Int32} {M T : Nat} (h : sC u p R M) (hT : R 11 = nI T) (hT14 : T ≤ 14) (g : ∀ q, q = 1 ∨ inP p q → v q = u q) (g2 : ∀ t, t < T → v (20 + 2 * t) = u (20 + 2 * t) ∧ v (21 + 2 * t) = u (21 + 2 * t)) : sC v p R M := by
  obtain ⟨h1, h2, h3, h4, h5⟩ := h
  refine ⟨h1, cP_same h2 h3.1 (fun q hq => g q (Or.inr hq)), h3, sU_same h4 (g 1 (Or.inl rfl)), fun t ht => ?_⟩
  have e : (R 11).toNatClampNeg = T := by rw [hT]; exact nI_clamp (by omega)
  obtain ⟨x1, x2⟩ := g2 t (by omega)
  obtain ⟨y1, y2, y3⟩ := h5 t ht
  refine ⟨⟨by rw [x1]; exact y1.1, fun k hk => by rw [x2]; exact y1.2 k hk⟩, by rw [x1]; exact y2, by rw [x1]; exact y3⟩
theorem sC_new {u v : Nat → Nat → Int32} {R R' : Nat → Int32} {T key N M q : Nat} {C : Nat → Int32} {a : Int32} (h : sNew R R' T key N C a) (hT : R 11 = nI T) (hT14 : T < 14) (hk : key < 3) (hN : N ≤ 96) (hq : q = if key = 0 then 3 else 2) (hw : s_wf C N q) (hd : s_dp C N = 1) (g : sC u 52 R M) (e1 : ∀ x, x = 1 ∨ (inP 52 x ∧ x ≠ 52 ∧ x ≠ 54) → v x = u x) (e52 : ∀ j, j ≠ 14 → v 52 j = u 52 j) (e14 : v 52 14 = nI (T + 1)) (e54 : ∀ k, k < 3 → v 54 k = if k = key then nI T else u 54 k) (et : ∀ t, t < T → v (20 + 2 * t) = u (20 + 2 * t) ∧ v (21 + 2 * t) = u (21 + 2 * t)) (n1 : v (20 + 2 * T) 1 = nI key) (n2 : v (20 + 2 * T) 2 = nI N) (n3 : v (20 + 2 * T) 3 = a) (n4 : ∀ k, k < N → v (21 + 2 * T) k = s_tr (C k)) : sC v 52 R' M := by
  obtain ⟨g1, g2, g3, g4, g5⟩ := g
  have gn := sG_new h hT hT14 hk hN hq hw hd g3
  have hn := n_hd hk hN
  obtain ⟨h1, h2, h3, h4, h5, h6⟩ := h
  obtain ⟨p0, p1, p2, p3, p4, p5, p6, p7, p8, p9, p10, p11, p12, p13⟩ := g2
  have eT : (R 11).toNatClampNeg = T := by rw [hT]; exact nI_clamp (by omega)
  have eT' : (R' 11).toNatClampNeg = T + 1 := by rw [h2]; exact nI_clamp (by omega)
  have hM : M ≤ 8 := g3.1
  refine ⟨g1, ⟨by rw [e52 3 (by omega), p0], ?_, ?_, ?_, ?_, ?_, ?_, ?_, ?_, ?_, ?_, by rw [e14, h2], fun j hj c hc => ?_, fun k hk3 => ?_⟩, gn, sU_same g4 (e1 1 (Or.inl rfl)), fun t ht => ?_⟩
  · rw [e52 4 (by omega), p1, h1 3 (by omega) (by omega)]
  · rw [e52 5 (by omega), p2, h1 4 (by omega) (by omega)]
  · rw [e52 6 (by omega), p3, h1 5 (by omega) (by omega)]
  · rw [e52 7 (by omega), p4, h1 6 (by omega) (by omega)]
  · rw [e52 8 (by omega), p5, h1 7 (by omega) (by omega)]
  · rw [e52 9 (by omega), p6, h1 8 (by omega) (by omega)]
  · rw [e52 10 (by omega), p7, h1 9 (by omega) (by omega)]
  · rw [e52 11 (by omega), p8, h1 10 (by omega) (by omega)]
  · rw [e52 12 (by omega), p9, h1 2 (by omega) (by omega)]
  · rw [e52 13 (by omega), p10, h1 0 (by omega) (by omega)]
  · rw [e1 _ (Or.inr ⟨by unfold inP; omega, by omega, by omega⟩), p12 j hj c hc]
    unfold s_jo
    rw [h1 _ (by omega) (by omega)]
  · rw [show 52 + 2 = 54 from rfl, e54 k hk3]
    unfold s_t
    rw [eT']
    show _ = (if R' (76 + 2 * T) / 1000 = nI k then nI T else s_ct R' (nI k) T)
    rw [h4, hn.1, s_ct_new ⟨h1, h2, h3, h4, h5, h6⟩ (nI k) T (Nat.le_refl _)]
    have p13 := p13 k hk3
    unfold s_t at p13
    rw [eT] at p13
    by_cases e : k = key
    · rw [if_pos e, if_pos (by rw [e])]
    · rw [if_neg e, if_neg (fun c => e ((nI_eq (by omega) (by omega)).mp c).symm)]
      exact p13
  · rw [eT'] at ht
    by_cases e : t < T
    · obtain ⟨x1, x2⟩ := et t e
      obtain ⟨y1, y2, y3⟩ := g5 t (by omega)
      obtain ⟨T0, w1, w2, w3⟩ := g3.2.2.2.2.1
      rw [hT] at w1
      have := (nI_eq (by omega) (by omega)).mp w1
      obtain ⟨N0, z1, z2, -⟩ := w3 t (by omega)
      have sN : s_N R' t = s_N R t := by
        unfold s_N
        rw [(h3 t e).1]
      rw [sN, (h3 t e).1, (h3 t e).2.1]
      rw [z2, nI_clamp (by omega)] at y1 ⊢
      refine ⟨⟨by rw [x1]; exact y1.1, fun k hk => ?_⟩, by rw [x1]; exact y2, by rw [x1]; exact y3⟩
      rw [x2, y1.2 k hk]
      unfold s_C
      rw [(h3 t e).2.2 k (by omega)]
    · obtain rfl : t = T := by omega
      have sNT : s_N R' t = nI N := by
        unfold s_N
        rw [h4]
        exact hn.2
      rw [sNT, nI_clamp (by omega), h4, hn.1, h5]
      refine ⟨⟨n2, fun k hk => ?_⟩, n1, n3⟩
      rw [n4 k hk]
      unfold s_C
      rw [h6 k hk]
