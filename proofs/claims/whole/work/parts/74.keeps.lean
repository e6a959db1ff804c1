/-! KEEP, BACK, CHECK, call by call -/
theorem s_dp_cg {C D : Nat → Int32} : ∀ n, (∀ k, k < n → C k = D k) → s_dp C n = s_dp D n
  | 0, _ => rfl
  | n + 1, h => by
    unfold s_dp
    rw [h n (by omega), s_dp_cg n (fun k hk => h k (by omega))]
theorem s_wf_cg {C D : Nat → Int32} {N q : Nat} (h : ∀ k, k < N → C k = D k) (g : s_wf C N q) : s_wf D N q := by
  intro k hk
  rw [← h k hk, ← s_dp_cg k (fun i hi => h i (by omega))]
  exact g k hk
/-- a row is another's, as far as it goes -/
def s_eq (R S : Nat → Int32) : Prop := ∀ i, i < 1448 → S i = R i
theorem s_tx_cg {R S : Nat → Int32} (h : s_eq R S) (g : s_tx R) : s_tx S := by
  obtain ⟨T, h1, h2, h3⟩ := g
  refine ⟨T, by rw [h 11 (by omega), h1], h2, fun t ht => ?_⟩
  obtain ⟨N, g1, g2, g3, g4⟩ := h3 t ht
  have e1 : s_N S t = s_N R t := by
    unfold s_N
    rw [h _ (by omega)]
  have e2 : ∀ k, k < N → s_C R t k = s_C S t k := fun k hk => by
    unfold s_C
    rw [h _ (by omega)]
  exact ⟨N, g1, by rw [e1, g2], s_wf_cg e2 g3, by rw [← s_dp_cg N e2]; exact g4⟩
theorem s_t2_cg {R S : Nat → Int32} (h : s_eq R S) (g : s_t2 R) : s_t2 S := by
  intro T h1 h2 t h3 h4 N h5 h6
  have e1 : s_N S t = s_N R t := by
    unfold s_N
    rw [h _ (by omega)]
  have e2 : ∀ k, k < N → s_C R t k = s_C S t k := fun k hk => by
    unfold s_C
    rw [h _ (by omega)]
  rw [h 11 (by omega)] at h1
  rw [h _ (by omega)] at h4
  rw [e1] at h5
  exact s_wf_cg e2 (g T h1 h2 t h3 h4 N h5 h6)
theorem s_ct_cg {R S : Nat → Int32} (h : s_eq R S) (key : Int32) : ∀ n, n ≤ 14 → s_ct S key n = s_ct R key n
  | 0, _ => rfl
  | n + 1, hn => by
    unfold s_ct
    rw [s_ct_cg h key n (by omega), h _ (by omega)]
theorem s_t_cg {R S : Nat → Int32} (h : s_eq R S) (ht : s_tx R) (key : Int32) : s_t S key = s_t R key := by
  obtain ⟨T, h1, h2, -⟩ := ht
  unfold s_t
  rw [h 11 (by omega), h1, nI_clamp (by omega), s_ct_cg h key T h2]
theorem cT_cg {u : Nat → Nat → Int32} {R S : Nat → Int32} (h : s_eq R S) (ht : s_tx R) (g : cT u R) : cT u S := by
  obtain ⟨T, h1, h2, h3⟩ := ht
  intro t hT
  rw [h 11 (by omega)] at hT
  obtain ⟨⟨g1, g2⟩, g3, g4⟩ := g t hT
  have hT2 : t < T := by rw [h1, nI_clamp (by omega)] at hT; exact hT
  obtain ⟨N, n1, n2, -, -⟩ := h3 t hT2
  have e1 : s_N S t = s_N R t := by
    unfold s_N
    rw [h _ (by omega)]
  rw [e1, h (76 + 2 * t) (by omega), h (77 + 2 * t) (by omega)]
  refine ⟨⟨g1, fun k hk => ?_⟩, g3, g4⟩
  rw [g2 k hk]
  rw [n2, nI_clamp (by omega)] at hk
  unfold s_C
  rw [h _ (by omega)]
theorem sC_cg {u : Nat → Nat → Int32} {p M : Nat} {R S : Nat → Int32} (hC : sC u p R M) (h : s_eq R S) : sC u p S M := by
  obtain ⟨h1, ⟨p1, p2, p3, p4, p5, p6, p7, p8, p9, p10, p11, p12, p13, p14⟩, ⟨q1, q2, q3, q4, q5, q6⟩, h4, h5⟩ := hC
  have j : ∀ k, k < M → ∀ c, c < 8 → s_jo S k c = s_jo R k c := fun k hk c hc => by
    unfold s_jo
    rw [h _ (by omega)]
  refine ⟨h1, ⟨p1, by rw [p2, h 3 (by omega)], by rw [p3, h 4 (by omega)], by rw [p4, h 5 (by omega)], by rw [p5, h 6 (by omega)], by rw [p6, h 7 (by omega)], by rw [p7, h 8 (by omega)], by rw [p8, h 9 (by omega)], by rw [p9, h 10 (by omega)], by rw [p10, h 2 (by omega)], by rw [p11, h 0 (by omega)], by rw [p12, h 11 (by omega)], fun k hk c hc => by rw [p13 k hk c hc, j k hk c hc], fun k hk => by rw [p14 k hk, s_t_cg h q5]⟩, ⟨q1, by rw [h 1 (by omega), q2], fun k hk c hc => by rw [j k hk c hc]; exact q3 k hk c hc, by rw [h 3 (by omega)]; exact q4, s_tx_cg h q5, s_t2_cg h q6⟩, h4, cT_cg h q5 h5⟩
/-- a row copied over another -/
def s_over (R S : Nat → Int32) : Nat → Int32 := s_cp S R 1448
theorem s_over_eq (R S : Nat → Int32) : s_eq R (s_over R S) := fun i hi => if_pos hi
theorem mq_110L {d a b : Nat} {w : Nat → Nat → Int64} (ha : qs_kd qy_m a = 20 ∧ qs_sz qy_m a = 1448) (hb : qs_kd qy_m b = 20 ∧ qs_sz qy_m b = 1448) (hab : a ≠ b) {u0 : Nat → Nat → Int32} : ∀ (r k : Nat) (u : Nat → Nat → Int32), k + r = 1448 → u b = s_cp (u0 b) (u0 a) k → (∀ q, q ≠ b → u q = u0 q) → ∃ v', qs_EV d 110 2 [some (.ref a), some (.ref b), some (.int (nI k))] [] (QM u w) = some (none, QM v' w) ∧ v' b = s_cp (u0 b) (u0 a) 1448 ∧ ∀ q, q ≠ b → v' q = u0 q
  | 0, k, u, hk, hu, ho => by
    obtain rfl : k = 1448 := by omega
    refine ⟨u, ?_, hu, ho⟩
    refine (bq_110_2 d a b _ (QM u w)).trans ?_
    rw [if_pos (by decide)]
  | r + 1, k, u, hk, hu, ho => by
    obtain ⟨v', g1, g2, g3⟩ := mq_110L (d := d) (w := w) ha hb hab r (k + 1) (qu u b k (u a k)) (by omega) (by rw [qu_same, hu, ho a hab, s_cp_succ]) (fun q hq => by rw [qu_ne _ _ _ hq, ho q hq])
    refine ⟨v', ?_, g2, g3⟩
    have e1 : ¬ (1448 : Int32) ≤ nI k := nI_ge (b := 1448) (by omega) (by omega)
    have e2 : (nI k).toNatClampNeg = k := nI_clamp (by omega)
    have e3 : 0 ≤ nI k := nI_pos' (by omega)
    have e5 : k < 1448 := by omega
    rw [nI_succ] at g1
    refine (bq_110_2 d a b _ (QM u w)).trans ?_
    simp only [QM_kd, QM_sz, QM_i, QM_wi, ha, hb, e1, e2, e3, e5, g1, and_self, if_true, if_false]
theorem mq_110 {d a b : Nat} {u : Nat → Nat → Int32} {w : Nat → Nat → Int64} (ha : qs_kd qy_m a = 20 ∧ qs_sz qy_m a = 1448) (hb : qs_kd qy_m b = 20 ∧ qs_sz qy_m b = 1448) (hab : a ≠ b) : ∃ v', qs_call (d + 1) 110 [.ref a, .ref b] (QM u w) = some (none, QM v' w) ∧ v' b = s_over (u a) (u b) ∧ ∀ q, q ≠ b → v' q = u q := by
  obtain ⟨v', g1, g2, g3⟩ := mq_110L (d := d) (w := w) ha hb hab (u0 := u) 1448 0 u (by omega) (by funext i; simp [s_cp]) (fun _ _ => rfl)
  exact ⟨v', (bq_110_0 d a b (QM u w)).trans g1, g2, g3⟩
theorem z117 : qs_kd qy_m 117 = 20 ∧ qs_sz qy_m 117 = 1448 := ⟨zk_117, zs_117⟩
theorem z118 : qs_kd qy_m 118 = 20 ∧ qs_sz qy_m 118 = 1448 := ⟨zk_118, zs_118⟩
theorem z119 : qs_kd qy_m 119 = 20 ∧ qs_sz qy_m 119 = 1448 := ⟨zk_119, zs_119⟩
theorem k_keep : sOK 94 197 [] := by
  intro d u w h
  obtain ⟨M, hC, hH⟩ := h.1
  obtain ⟨hM, h3, hr1⟩ := sC_M hC
  have z := z52
  unfold zPp at z
  have z6 : zPp 63 := zP (Or.inr (Or.inl rfl))
  unfold zPp at z6
  obtain ⟨v1, a1, a2, a3⟩ := c_14 (d := d + 116) (p := 63) (w := w) hC (Or.inr (Or.inl rfl)) (by omega)
  have f : ∀ q, (q < 63 ∨ 74 ≤ q) → v1 q = u q := fun q hq => a3 q (by unfold inP; omega)
  have k1 : v1 52 3 = nI M := by rw [f 52 (by omega), h3]
  have k2 : qu v1 16 5 1 52 3 = nI M := by rw [qu_ne _ _ _ (by omega), k1]
  obtain ⟨v2, b1, b2, b3⟩ := mq_110 (d := d + 118) (a := 117) (b := 118) (u := qu v1 16 5 1) (w := w) z117 z118 (by omega)
  have o117 : qu v1 16 5 1 117 = u 117 := by rw [qu_ne _ _ _ (by omega), f 117 (by omega)]
  have o118 : qu v1 16 5 1 118 = u 118 := by rw [qu_ne _ _ _ (by omega), f 118 (by omega)]
  rw [o117, o118] at b2
  have e117 : v2 117 = u 117 := by rw [b3 117 (by omega), o117]
  have g : ∀ q, (q < 63 ∨ 74 ≤ q) → q ≠ 16 → q ≠ 116 → q ≠ 118 → qu v2 116 3 1 q = u q := fun q h1 h2 h3 h4 => by
    rw [qu_ne _ _ _ h3, b3 q h4, qu_ne _ _ _ h2, f q h1]
  have g16 : ∀ f', f' ≠ 5 → qu v2 116 3 1 16 f' = u 16 f' := fun f' h1 => by
    rw [qu_ne _ _ _ (by omega), b3 16 (by omega), qu_at, if_neg (by omega), f 16 (by omega)]
  have g116 : ∀ f', f' ≠ 3 → qu v2 116 3 1 116 f' = u 116 f' := fun f' h1 => by
    rw [qu_at, if_neg (by omega), b3 116 (by omega), qu_ne _ _ _ (by omega), f 116 (by omega)]
  obtain ⟨j1, j2, j3, j4, j5, j6, j7⟩ := h
  obtain ⟨T, t1, t2, -⟩ := hC.2.2.1.2.2.2.2.1
  have hov := s_over_eq (u 117) (u 118)
  refine ⟨nI M, qu v1 16 5 1, qu v2 116 3 1, w, ?_, ?_, iNw_f j1 (by rw [qu_ne _ _ _ (by omega), e117]) (fun q hq => g q (by unfold inP at hq; omega) (by unfold inP at hq; omega) (by unfold inP at hq; omega) (by unfold inP at hq; omega)), ⟨?_, Or.inr ⟨by simp [qu], ⟨M, ?_, ?_⟩, T, T, ?_, ?_, Nat.le_refl _, t2⟩⟩, iSh_f j3 (fun q hq => g q (by omega) (by omega) (by omega) (by omega)), iSl_f j4 (fun q hq => g q (by omega) (by omega) (by omega) (by omega)), iWt_f j5 (g16 9 (by omega)) (g116 35 (by omega)) (g 87 (by omega) (by omega) (by omega) (by omega)) (g 138 (by omega) (by omega) (by omega) (by omega)), iTp_f j6 (by rw [g 48 (by omega) (by omega) (by omega) (by omega)]) (g116 9 (by omega)) (g 49 (by omega) (by omega) (by omega) (by omega)) (g 122 (by omega) (by omega) (by omega) (by omega)), iKs_f j7 (fun q hq => g q (by omega) (by omega) (by omega) (by omega))⟩
  · refine (bq_94_0 (d + 119) 16 (QM u w)).trans ?_
    simp only [QM_kd, QM_sz, QM_lk, QM_i, QM_wi, zI, qs_bI, qs_bV, qb_0, zQ, z, z6, a1, k2, Bool.true_eq_false, Nat.reduceSub, Nat.reduceLeDiff, Nat.reduceLT, true_and, and_true, and_self, if_true, if_false]
    simp
  · refine (bq_197_0 (d + 119) 116 (QM _ w)).trans ?_
    have k3 : qu v2 116 3 1 117 1 = nI M := by rw [qu_ne _ _ _ (by omega), e117, hr1]
    simp only [QM_kd, QM_sz, QM_lk, QM_i, QM_wi, zM, zI, qs_bI, qs_bV, qb_0, b1, k3, Bool.true_eq_false, Nat.reduceSub, Nat.reduceLeDiff, Nat.reduceLT, true_and, and_true, and_self, if_true, if_false]
    simp
  · rw [qu_ne _ (a := 16) _ _ (by omega), b3 16 (by omega)]
    simp [qu]
  · have e118 : qu v2 116 3 1 118 = s_over (u 117) (u 118) := by rw [qu_ne _ _ _ (by omega), b2]
    rw [e118]
    exact sC_cg (sC_same a2 (fun q hq => by rw [qu_ne _ _ _ (by unfold inP at hq; omega), b3 q (by unfold inP at hq; omega), qu_ne _ _ _ (by unfold inP at hq; omega)])) hov
  · rw [qu_ne _ _ _ (by omega), b2]
    exact sHr_of hH (hov 2 (by omega))
  · rw [qu_ne _ _ _ (by omega), b2, hov 11 (by omega), t1]
  · rw [qu_ne _ _ _ (by omega), e117, t1]
theorem k_back : sOK 95 198 [] := by
  intro d u w h
  obtain ⟨i1, i2⟩ := h.2.1
  rcases i2 with i2 | ⟨i2, ⟨MI, iC, iH⟩, TI, T, t1, t2, t3, t4⟩
  · refine ⟨-1000000002, u, u, w, ?_, ?_, h⟩
    · refine (bq_95_0 (d + 119) 16 (QM u w)).trans ?_
      simp only [QM_kd, QM_sz, QM_lk, QM_i, QM_wi, zI, qs_bI, qs_bV, qb_0, zQ, i1, i2, Bool.true_eq_false, Nat.reduceSub, Nat.reduceLeDiff, Nat.reduceLT, true_and, and_true, and_self, if_true, if_false]
    · refine (bq_198_0 (d + 119) 116 (QM u w)).trans ?_
      simp only [QM_kd, QM_sz, QM_lk, QM_i, QM_wi, zM, zI, qs_bI, qs_bV, qb_0, i2, Bool.true_eq_false, Nat.reduceSub, Nat.reduceLeDiff, Nat.reduceLT, true_and, and_true, and_self, if_true, if_false]
  have z := z52
  unfold zPp at z
  have z6 : zPp 63 := zP (Or.inr (Or.inl rfl))
  unfold zPp at z6
  have n1 : ¬ (1 : Int32) = 0 := by decide
  obtain ⟨hM, h3, hr1⟩ := sC_M iC
  obtain ⟨v1, a1, a2, a3⟩ := c_14 (d := d + 116) (p := 52) (w := w) iC (Or.inl rfl) (by omega)
  have f : ∀ q, (q < 52 ∨ 63 ≤ q) → v1 q = u q := fun q hq => a3 q (by unfold inP; omega)
  have k1 : v1 52 3 = nI MI := (sC_M a2).2.1
  obtain ⟨v2, b1, b2, b3⟩ := mq_110 (d := d + 118) (a := 118) (b := 117) (u := v1) (w := w) z118 z117 (by omega)
  rw [f 117 (by omega), f 118 (by omega)] at b2
  have hov := s_over_eq (u 118) (u 117)
  have k3 : v2 117 1 = nI MI := by rw [b2, hov 1 (by omega), hr1]
  have g : ∀ q, (q < 52 ∨ 63 ≤ q) → q ≠ 117 → v2 q = u q := fun q h1 h2 => by rw [b3 q h2, f q h1]
  obtain ⟨j1, j2, j3, j4, j5, j6, j7⟩ := h
  refine ⟨nI MI, v1, v2, w, ?_, ?_, ⟨MI, ?_, ?_⟩, ⟨by rw [g 16 (by omega) (by omega), g 116 (by omega) (by omega), i1], Or.inr ⟨by rw [g 116 (by omega) (by omega), i2], ⟨MI, by rw [g 118 (by omega) (by omega)]; exact sC_same iC (fun q hq => g q (by unfold inP at hq; omega) (by unfold inP at hq; omega)), by rw [g 118 (by omega) (by omega)]; exact iH⟩, TI, TI, by rw [g 118 (by omega) (by omega), t1], by rw [b2, hov 11 (by omega), t1], Nat.le_refl _, by omega⟩⟩, iSh_f j3 (fun q hq => g q (by omega) (by omega)), iSl_f j4 (fun q hq => g q (by omega) (by omega)), iWt_f j5 (by rw [g 16 (by omega) (by omega)]) (by rw [g 116 (by omega) (by omega)]) (g 87 (by omega) (by omega)) (g 138 (by omega) (by omega)), iTp_f j6 (by rw [g 48 (by omega) (by omega)]) (by rw [g 116 (by omega) (by omega)]) (g 49 (by omega) (by omega)) (g 122 (by omega) (by omega)), iKs_f j7 (fun q hq => g q (by omega) (by omega))⟩
  · refine (bq_95_0 (d + 119) 16 (QM u w)).trans ?_
    simp only [QM_kd, QM_sz, QM_lk, QM_i, QM_wi, zI, qs_bI, qs_bV, qb_0, zQ, z, z6, i1, i2, n1, a1, k1, Bool.true_eq_false, Nat.reduceSub, Nat.reduceLeDiff, Nat.reduceLT, true_and, and_true, and_self, if_true, if_false]
  · refine (bq_198_0 (d + 119) 116 (QM v1 w)).trans ?_
    have k4 : v1 116 3 = 1 := by rw [f 116 (by omega), i2]
    simp only [QM_kd, QM_sz, QM_lk, QM_i, QM_wi, zM, zI, qs_bI, qs_bV, qb_0, k4, n1, b1, k3, Bool.true_eq_false, Nat.reduceSub, Nat.reduceLeDiff, Nat.reduceLT, true_and, and_true, and_self, if_true, if_false]
  · rw [b2]
    exact sC_cg (sC_same a2 (fun q hq => b3 q (by unfold inP at hq; omega))) hov
  · rw [b2]
    exact sHr_of iH (hov 2 (by omega))
/-- how many stand right ahead of the first that is not -/
def s_cnt (T E : Nat → Int32) (had : Nat) : Nat → Nat → Nat
  | 0, k => k
  | r + 1, k => if k < had ∧ T k = E k then s_cnt T E had r (k + 1) else k
/-- THE HOURS TOLD -/
def s_E (S : Nat → Int32) (M : Nat) (i : Nat) : Int32 := if i % 2 = 0 then s_go S (i / 2 + 1) 6 else s_ts (s_go S (i / 2 + 1)) M
theorem s_E_0 (S : Nat → Int32) (M k : Nat) : s_E S M (2 * k) = s_go S (k + 1) 6 := by
  unfold s_E
  rw [if_pos (by omega), show 2 * k / 2 = k by omega]
theorem s_E_1 (S : Nat → Int32) (M k : Nat) : s_E S M (2 * k + 1) = s_ts (s_go S (k + 1)) M := by
  unfold s_E
  rw [if_neg (by omega), show (2 * k + 1) / 2 = k by omega]
def s_chk (had due c : Nat) : Int32 := if c = had ∧ c = due then 0 else nI (1 + c)
theorem c_106 {d had i : Nat} {u : Nat → Nat → Int32} {w : Nat → Nat → Int64} {x : Int32} (hh : had ≤ 60) (hi : i < 2 ^ 31) : qs_call (d + 1) 106 [.ref 16, .int (nI had), .int (nI i), .int x] (QM u w) = some (some (.int (qb (decide (i < had ∧ u 87 i = x)))), QM u w) := by
  refine (bq_106_0 d 16 _ _ _ (QM u w)).trans ?_
  by_cases h1 : i < had
  · have e1 : ¬ nI had ≤ nI i := nI_ge h1 (by omega)
    have e2 : ¬ (60 : Int32) ≤ nI i := nI_ge (b := 60) (by omega) (by omega)
    have e3 : (nI i).toNatClampNeg = i ∧ 0 ≤ nI i ∧ i < 60 := ⟨nI_clamp hi, nI_pos' hi, by omega⟩
    by_cases h2 : u 87 i = x
    · simp only [QM_kd, QM_sz, QM_lk, QM_i, QM_wi, zI, qs_bI, qs_bV, qb_0, zQ, e1, e2, e3, h2, Bool.true_eq_false, Nat.reduceSub, Nat.reduceLeDiff, Nat.reduceLT, true_and, and_true, and_self, if_true, if_false]
      simp [h1, h2, qb]
    · simp only [QM_kd, QM_sz, QM_lk, QM_i, QM_wi, zI, qs_bI, qs_bV, qb_0, zQ, e1, e2, e3, h2, Bool.true_eq_false, Nat.reduceSub, Nat.reduceLeDiff, Nat.reduceLT, true_and, and_true, and_self, if_true, if_false]
      simp [h1, h2, qb]
  · have e1 : nI had ≤ nI i := nI_le (by omega) hi
    simp only [QM_kd, QM_sz, QM_lk, QM_i, QM_wi, zI, qs_bI, qs_bV, qb_0, e1, Bool.true_eq_false, Nat.reduceSub, Nat.reduceLeDiff, Nat.reduceLT, true_and, and_true, and_self, if_true, if_false]
    simp [h1, qb]
