/-! A PIPE TAKES OVER ANOTHER; A JOINT COMES; in the class -/
theorem s_tx_hi {R S : Nat → Int32} (h : s_tx R) (hs : s_hi R S) (h11 : S 11 = R 11) : s_tx S := by
  obtain ⟨T, h1, h2, h3⟩ := h
  refine ⟨T, by rw [h11, h1], h2, fun t ht => ?_⟩
  obtain ⟨N, g1, g2, g3, g4⟩ := h3 t ht
  have e1 : s_N S t = s_N R t := by
    unfold s_N
    rw [hs _ (by omega)]
  have e2 : s_C S t = s_C R t := by
    funext k
    unfold s_C
    rw [hs _ (by omega)]
  exact ⟨N, g1, by rw [e1]; exact g2, by rw [e2]; exact g3, by rw [e2]; exact g4⟩
theorem s_t2_hi {R S : Nat → Int32} (h : s_t2 R) (hs : s_hi R S) (h11 : S 11 = R 11) : s_t2 S := by
  intro T h1 h2 t h3 h4 N h5 h6
  have e1 : s_N S t = s_N R t := by
    unfold s_N
    rw [hs _ (by omega)]
  have e2 : s_C S t = s_C R t := by
    funext k
    unfold s_C
    rw [hs _ (by omega)]
  rw [h11] at h1
  rw [hs _ (by omega)] at h4
  rw [e1] at h5
  rw [e2]
  exact h T h1 h2 t h3 h4 N h5 h6
theorem cT_hi {u : Nat → Nat → Int32} {R S : Nat → Int32} (h : cT u R) (hs : s_hi R S) (h11 : S 11 = R 11) : cT u S := by
  intro t ht
  rw [h11] at ht
  have e1 : s_N S t = s_N R t := by
    unfold s_N
    rw [hs _ (by omega)]
  have e2 : s_C S t = s_C R t := by
    funext k
    unfold s_C
    rw [hs _ (by omega)]
  rw [e1, e2, hs _ (by omega), hs _ (by omega)]
  exact h t ht
theorem s_ct_hi {R S : Nat → Int32} (hs : s_hi R S) (key : Int32) : ∀ n, s_ct S key n = s_ct R key n
  | 0 => rfl
  | n + 1 => by
    unfold s_ct
    rw [s_ct_hi hs key n, hs _ (by omega)]
theorem s_t_hi {R S : Nat → Int32} (hs : s_hi R S) (h11 : S 11 = R 11) (key : Int32) : s_t S key = s_t R key := by
  unfold s_t
  rw [h11, s_ct_hi hs key]
theorem c_1 {d a : Nat} {u : Nat → Nat → Int32} {w : Nat → Nat → Int64} {x1 x2 x3 x4 : Int32} (z : zJ a) : ∃ v', qs_call (d + 1) 1 [.ref a, .int x1, .int x2, .int x3, .int x4] (QM u w) = some (none, QM v' w) ∧ (v' a 0 = x1 ∧ v' a 1 = x2 ∧ v' a 2 = x3 ∧ v' a 3 = 0 ∧ v' a 4 = 0 ∧ v' a 5 = 0 ∧ v' a 6 = x4 ∧ v' a 7 = 0) ∧ ∀ q, q ≠ a → v' q = u q := by
  unfold zJ at z
  refine ⟨qu (qu (qu (qu (qu (qu (qu (qu u a 0 x1) a 1 x2) a 2 x3) a 6 x4) a 3 0) a 4 0) a 5 0) a 7 0, ?_, ?_, fun q hq => ?_⟩
  · refine (bq_1_0 d a _ _ _ _ (QM u w)).trans ?_
    simp only [QM_kd, QM_sz, QM_lk, QM_i, QM_wi, zI, qs_bI, qs_bV, qb_0, z, Bool.true_eq_false, Nat.reduceSub, Nat.reduceLeDiff, Nat.reduceLT, true_and, and_true, and_self, if_true, if_false]
  · refine ⟨?_, ?_, ?_, ?_, ?_, ?_, ?_, ?_⟩ <;> simp [qu]
  · rw [qu_ne _ _ _ hq, qu_ne _ _ _ hq, qu_ne _ _ _ hq, qu_ne _ _ _ hq, qu_ne _ _ _ hq, qu_ne _ _ _ hq, qu_ne _ _ _ hq, qu_ne _ _ _ hq]
theorem c_2 {d a b : Nat} {u : Nat → Nat → Int32} {w : Nat → Nat → Int64} (z : zJ a) (y : zJ b) (hab : b ≠ a) : ∃ v', qs_call (d + 2) 2 [.ref a, .ref b] (QM u w) = some (none, QM v' w) ∧ (∀ c, c < 8 → v' a c = u b c) ∧ ∀ q, q ≠ a → v' q = u q := by
  obtain ⟨v, k1, ⟨k20, k21, k22, k23, k24, k25, k26, k27⟩, k3⟩ := c_1 (d := d) (u := u) (w := w) (x1 := u b 0) (x2 := u b 1) (x3 := u b 2) (x4 := u b 6) z
  unfold zJ at z y
  have e := k3 b hab
  refine ⟨qu (qu (qu (qu v a 3 (u b 3)) a 4 (u b 4)) a 5 (u b 5)) a 7 (u b 7), ?_, fun c hc => ?_, fun q hq => ?_⟩
  · refine (bq_2_0 (d + 1) a b (QM u w)).trans ?_
    have e1 : ∀ (x : Nat → Nat → Int32) j y c, qu x a j y b c = x b c := fun x j y c => by rw [qu_ne _ _ _ hab]
    simp only [QM_kd, QM_sz, QM_lk, QM_i, QM_wi, zI, qs_bI, qs_bV, qb_0, z, y, k1, e1, e, Bool.true_eq_false, Nat.reduceSub, Nat.reduceLeDiff, Nat.reduceLT, true_and, and_true, and_self, if_true, if_false]
  · rcases (by omega : c = 0 ∨ c = 1 ∨ c = 2 ∨ c = 3 ∨ c = 4 ∨ c = 5 ∨ c = 6 ∨ c = 7) with rfl | rfl | rfl | rfl | rfl | rfl | rfl | rfl <;> simp [qu, k20, k21, k22, k26]
  · rw [qu_ne _ _ _ hq, qu_ne _ _ _ hq, qu_ne _ _ _ hq, qu_ne _ _ _ hq, k3 q hq]
theorem isP_ne {p p' : Nat} (h : isP p) (h' : isP p') (hn : p ≠ p') : ∀ a b, inP p a → inP p' b → a ≠ b := by
  unfold isP at h h'
  unfold inP
  intro a b h1 h2
  omega
theorem c_14A {d p p' M : Nat} {w : Nat → Nat → Int64} (hp : isP p) (hp' : isP p') (hn : p ≠ p') (hM : M ≤ 8) : ∀ (r k : Nat) (o : Option Value) (u : Nat → Nat → Int32), k + r = M → u p 3 = nI M → (∀ j, j < k → ∀ c, c < 8 → u (p + 3 + j) c = u (p' + 3 + j) c) → ∃ v', qs_EV (d + 2) 14 98 [some (.ref p), some (.ref p'), some (.int (nI k))] [] (QM u w) = qs_EV (d + 2) 14 129 [some (.ref p), some (.ref p'), some (.int 0)] [] (QM v' w) ∧ (∀ j, j < M → ∀ c, c < 8 → v' (p + 3 + j) c = u (p' + 3 + j) c) ∧ ∀ q, (∀ j, j < M → q ≠ p + 3 + j) → v' q = u q
  | 0, k, o, u, hk, h3, hj => by
    obtain rfl : k = M := by omega
    refine ⟨u, ?_, hj, fun _ _ => rfl⟩
    have z := zP hp
    unfold zPp at z
    have e2 : nI k ≤ nI k := nI_le (Nat.le_refl _) (by omega)
    refine (bq_14_98 (d + 2) p p' _ (QM u w)).trans ?_
    simp only [QM_kd, QM_sz, QM_lk, QM_i, QM_wi, zI, qs_bI, qs_bV, qb_0, z, h3, e2, Bool.true_eq_false, Nat.reduceSub, Nat.reduceLeDiff, Nat.reduceLT, true_and, and_true, and_self, if_true, if_false]
  | r + 1, k, o, u, hk, h3, hj => by
    have z := zP hp
    unfold zPp at z
    have y := zP hp'
    unfold zPp at y
    obtain ⟨z1, z2, zj⟩ := zPj (j := k) hp (by omega)
    obtain ⟨y1, y2, yj⟩ := zPj (j := k) hp' (by omega)
    have hne := isP_ne hp hp' hn
    obtain ⟨v, a1, a2, a3⟩ := c_2 (d := d) (u := u) (w := w) zj yj (hne _ _ (inP_j (by omega)) (inP_j (by omega))).symm
    obtain ⟨v', g1, g2, g3⟩ := c_14A (d := d) (w := w) hp hp' hn hM r (k + 1) o v (by omega) (by rw [a3 p (by omega), h3]) (fun j hj2 c hc => by
      have e2 : v (p' + 3 + j) = u (p' + 3 + j) := a3 _ (hne _ _ (inP_j (by omega)) (inP_j (by omega))).symm
      by_cases e : j = k
      · rw [e2, e, a2 c hc]
      · rw [e2, a3 _ (by omega), hj j (by omega) c hc])
    have zk := zj.1
    have e2 : ¬ nI M ≤ nI k := nI_ge (by omega) (by omega)
    have e7 : (nI k).toNatClampNeg = k := nI_clamp (by omega)
    have e8 : 0 ≤ nI k := nI_pos' (by omega)
    have e9 : k < 8 := by omega
    refine ⟨v', ?_, fun j hj2 c hc => ?_, fun q hq => ?_⟩
    · rw [nI_succ] at g1
      refine (bq_14_98 (d + 2) p p' _ (QM u w)).trans ?_
      simp only [QM_kd, QM_sz, QM_lk, QM_i, QM_wi, zI, qs_bI, qs_bV, qb_0, z, y, z1, z2, y1, y2, zk, h3, e2, e7, e8, e9, a1, Nat.add_sub_cancel, Nat.le_add_left, Bool.true_eq_false, Nat.reduceSub, Nat.reduceLeDiff, Nat.reduceLT, true_and, and_true, and_self, if_true, if_false]
      exact g1
    · rw [g2 j hj2 c hc, a3 _ (hne _ _ (inP_j (by omega)) (inP_j (by omega))).symm]
    · rw [g3 q hq, a3 q (hq k (by omega))]
theorem c_14B {d p p' : Nat} {w : Nat → Nat → Int64} (hp : isP p) (hp' : isP p') (hn : p ≠ p') : ∀ (r k : Nat) (u : Nat → Nat → Int32), k + r = 3 → (∀ c, c < k → u (p + 2) c = u (p' + 2) c) → ∃ v', qs_EV d 14 129 [some (.ref p), some (.ref p'), some (.int (nI k))] [] (QM u w) = some (none, QM v' w) ∧ (∀ c, c < 3 → v' (p + 2) c = u (p' + 2) c) ∧ ∀ q, q ≠ p + 2 → v' q = u q
  | 0, k, u, hk, hc => by
    obtain rfl : k = 3 := by omega
    refine ⟨u, ?_, hc, fun _ _ => rfl⟩
    refine (bq_14_129 d p p' _ (QM u w)).trans ?_
    rw [if_pos (by decide)]
  | r + 1, k, u, hk, hc => by
    have z := zP hp
    unfold zPp at z
    have y := zP hp'
    unfold zPp at y
    have hpp : p' + 2 ≠ p + 2 := by omega
    obtain ⟨v', g1, g2, g3⟩ := c_14B (d := d) (w := w) hp hp' hn r (k + 1) (qu u (p + 2) k (u (p' + 2) k)) (by omega) (fun c hc2 => by
      rw [qu_ne u (a := p' + 2) _ _ hpp, qu_at]
      by_cases e : c = k
      · rw [if_pos ⟨rfl, e⟩, e]
      · rw [if_neg (by omega), hc c (by omega)])
    refine ⟨v', ?_, fun c hc2 => by rw [g2 c hc2, qu_ne _ _ _ hpp], fun q hq => by rw [g3 q hq, qu_ne _ _ _ hq]⟩
    have e2 : ¬ (3 : Int32) ≤ nI k := nI_ge (b := 3) (by omega) (by omega)
    have e7 : (nI k).toNatClampNeg = k := nI_clamp (by omega)
    have e8 : 0 ≤ nI k := nI_pos' (by omega)
    have e9 : k < 3 := by omega
    rw [nI_succ] at g1
    refine (bq_14_129 d p p' _ (QM u w)).trans ?_
    simp only [QM_kd, QM_sz, QM_lk, QM_i, QM_wi, zI, qs_bI, qs_bV, qb_0, z, y, e2, e7, e8, e9, Nat.add_sub_cancel, Nat.le_add_left, Bool.true_eq_false, Nat.reduceSub, Nat.reduceLeDiff, Nat.reduceLT, true_and, and_true, and_self, if_true, if_false]
    exact g1
theorem c_14 {d p p' M : Nat} {u : Nat → Nat → Int32} {w : Nat → Nat → Int64} {R : Nat → Int32} (hC : sC u p' R M) (hp : isP p) (hn : p ≠ p') : ∃ v', qs_call (d + 3) 14 [.ref p, .ref p'] (QM u w) = some (none, QM v' w) ∧ sC v' p R M ∧ ∀ q, ¬ inP p q → v' q = u q := by
  have hp' := hC.1
  obtain ⟨hM, h3, h1⟩ := sC_M hC
  obtain ⟨f4, f5, f6, f7, f8, f9, f10, f11, f12, f13, f14⟩ := sC_f hC
  have z := zP hp
  unfold zPp at z
  have y := zP hp'
  unfold zPp at y
  have hne := isP_ne hp hp' hn
  have hpp := hn.symm
  have e1 : ∀ (x : Nat → Nat → Int32) j y c, qu x p j y p' c = x p' c := fun x j y c => by rw [qu_ne _ _ _ hpp]
  generalize hv : qu (qu (qu (qu (qu (qu (qu (qu (qu (qu (qu (qu u p 3 (nI M)) p 4 (R 3)) p 5 (R 4)) p 6 (R 5)) p 7 (R 6)) p 8 (R 7)) p 9 (R 8)) p 10 (R 9)) p 11 (R 10)) p 12 (R 2)) p 13 (R 0)) p 14 (R 11) = v
  have vo : ∀ q, q ≠ p → v q = u q := fun q hq => by
    rw [← hv]
    rw [qu_ne _ _ _ hq, qu_ne _ _ _ hq, qu_ne _ _ _ hq, qu_ne _ _ _ hq, qu_ne _ _ _ hq, qu_ne _ _ _ hq, qu_ne _ _ _ hq, qu_ne _ _ _ hq, qu_ne _ _ _ hq, qu_ne _ _ _ hq, qu_ne _ _ _ hq, qu_ne _ _ _ hq]
  have vp : v p 3 = nI M ∧ v p 4 = R 3 ∧ v p 5 = R 4 ∧ v p 6 = R 5 ∧ v p 7 = R 6 ∧ v p 8 = R 7 ∧ v p 9 = R 8 ∧ v p 10 = R 9 ∧ v p 11 = R 10 ∧ v p 12 = R 2 ∧ v p 13 = R 0 ∧ v p 14 = R 11 := by
    rw [← hv]
    refine ⟨?_, ?_, ?_, ?_, ?_, ?_, ?_, ?_, ?_, ?_, ?_, ?_⟩ <;> simp [qu]
  obtain ⟨v1, a1, a2, a3⟩ := c_14A (d := d) (w := w) hp hp' hn hM M 0 none v (by omega) vp.1 (fun j hj => by omega)
  obtain ⟨v2, b1, b2, b3⟩ := c_14B (d := d + 2) (w := w) hp hp' hn 3 0 v1 (by omega) (fun c hc => by omega)
  have hpj : ∀ q, (q < p + 3 ∨ p + 11 ≤ q) → ∀ j, j < M → q ≠ p + 3 + j := fun q hq j hj => by omega
  refine ⟨v2, ?_, ?_, fun q hq => ?_⟩
  · refine (bq_14_0 (d + 2) p p' (QM u w)).trans ?_
    simp only [QM_kd, QM_sz, QM_lk, QM_i, QM_wi, zI, qs_bI, qs_bV, qb_0, z, y, h3, f4, f5, f6, f7, f8, f9, e1, Bool.true_eq_false, Nat.reduceSub, Nat.reduceLeDiff, Nat.reduceLT, true_and, and_true, and_self, if_true, if_false]
    refine (bq_14_56 (d + 2) p p' _ _).trans ?_
    simp only [QM_kd, QM_sz, QM_lk, QM_i, QM_wi, zI, qs_bI, qs_bV, qb_0, z, y, f10, f11, f12, f13, f14, e1, hv, Bool.true_eq_false, Nat.reduceSub, Nat.reduceLeDiff, Nat.reduceLT, true_and, and_true, and_self, if_true, if_false]
    rw [nI_0] at a1 b1
    rw [a1, b1]
  · have e3 : v2 p = v p := by rw [b3 p (by omega), a3 p (hpj p (Or.inl (by omega)))]
    have lo := isP_lo hp
    have lo' := isP_lo hp'
    refine ⟨hp, ?_, hC.2.2.1, sU_same hC.2.2.2.1 ?_, cT_same hC.2.2.2.2 (fun q q1 q2 => ?_) hC.2.2.1.2.2.2.2.1⟩
    · refine ⟨by rw [e3]; exact vp.1, by rw [e3]; exact vp.2.1, by rw [e3]; exact vp.2.2.1, by rw [e3]; exact vp.2.2.2.1, by rw [e3]; exact vp.2.2.2.2.1, by rw [e3]; exact vp.2.2.2.2.2.1, by rw [e3]; exact vp.2.2.2.2.2.2.1, by rw [e3]; exact vp.2.2.2.2.2.2.2.1, by rw [e3]; exact vp.2.2.2.2.2.2.2.2.1, by rw [e3]; exact vp.2.2.2.2.2.2.2.2.2.1, by rw [e3]; exact vp.2.2.2.2.2.2.2.2.2.2.1, by rw [e3]; exact vp.2.2.2.2.2.2.2.2.2.2.2, fun j hj c hc => ?_, fun k hk => ?_⟩
      · rw [b3 _ (by omega), a2 j hj c hc, vo _ (hne _ _ (inP_p p) (inP_j (by omega))).symm]
        exact sJ_e hC hj hc
      · rw [b2 k hk, a3 _ (fun j hj => (hne _ _ (inP_j (by omega)) ⟨by omega, by omega⟩).symm), vo _ (hne _ _ (inP_p p) ⟨by omega, by omega⟩).symm]
        exact hC.2.1.2.2.2.2.2.2.2.2.2.2.2.2.2 k hk
    · rw [b3 _ (by omega), a3 _ (hpj _ (Or.inl (by omega))), vo _ (by omega)]
    · rw [b3 _ (by omega), a3 _ (hpj _ (Or.inl (by omega))), vo _ (by omega)]
  · unfold inP at hq
    rw [b3 _ (by omega), a3 _ (hpj _ (by omega)), vo _ (by omega)]
theorem s_jnew_hi (R : Nat → Int32) (j : Nat) (k t r h x : Int32) (hj : j < 8) : s_hi R (s_jnew (upd R 1 x) j k t r h) := fun i hi => by
  unfold s_jnew upd
  rw [if_neg (by omega), if_neg (by omega)]
theorem s_jnew_lo (R : Nat → Int32) (j : Nat) (k t r h : Int32) {i : Nat} (hi : i < 12) : s_jnew R j k t r h i = R i := by
  unfold s_jnew
  rw [if_neg (by omega)]
theorem s_jnew_jo (R : Nat → Int32) (j : Nat) (k t r h x : Int32) (i c : Nat) (hc : c < 8) : s_jo (s_jnew (upd R 1 x) j k t r h) i c = if i = j then (if c = 0 then k else if c = 1 then t else if c = 2 then r else if c = 6 then h else 0) else s_jo R i c := by
  unfold s_jo s_jnew
  by_cases e : i = j
  · subst e
    rw [if_pos (by omega), if_pos rfl]
    rcases (by omega : c = 0 ∨ c = 1 ∨ c = 2 ∨ c = 3 ∨ c = 4 ∨ c = 5 ∨ c = 6 ∨ c = 7) with rfl | rfl | rfl | rfl | rfl | rfl | rfl | rfl
    · rw [if_pos (by omega), if_pos rfl]
    · rw [if_neg (by omega), if_pos (by omega)]
      rfl
    · rw [if_neg (by omega), if_neg (by omega), if_pos (by omega)]
      rfl
    · rw [if_neg (by omega), if_neg (by omega), if_neg (by omega), if_neg (by omega)]
      rfl
    · rw [if_neg (by omega), if_neg (by omega), if_neg (by omega), if_neg (by omega)]
      rfl
    · rw [if_neg (by omega), if_neg (by omega), if_neg (by omega), if_neg (by omega)]
      rfl
    · rw [if_neg (by omega), if_neg (by omega), if_neg (by omega), if_pos (by omega)]
      rfl
    · rw [if_neg (by omega), if_neg (by omega), if_neg (by omega), if_neg (by omega)]
      rfl
  · rw [if_neg (by omega), if_neg e]
    unfold upd
    rw [if_neg (by omega)]
theorem c_16 {d p M : Nat} {u : Nat → Nat → Int32} {w : Nat → Nat → Int64} {R : Nat → Int32} {k t r h : Int32} (hC : sC u p R M) (hM : M < 8) (hk : ∃ n, n ≤ 5 ∧ k = nI n) (ht : ∃ n, n ≤ 40 ∧ t = nI n) (hr : ∃ n, n ≤ 40 ∧ r = nI n) (hh : ∃ n, n ≤ 9 ∧ h = nI n) : ∃ v', qs_call (d + 2) 16 [.ref p, .int k, .int t, .int r, .int h] (QM u w) = some (some (.int (nI M)), QM v' w) ∧ sC v' p (s_jnew (upd R 1 (nI (M + 1))) M k t r h) (M + 1) ∧ ∀ q, ¬ inP p q → v' q = u q := by
  have hp := hC.1
  obtain ⟨-, h3, h1⟩ := sC_M hC
  obtain ⟨f4, f5, f6, f7, f8, f9, f10, f11, f12, f13, f14⟩ := sC_f hC
  have z := zP hp
  unfold zPp at z
  obtain ⟨z1, z2, zj⟩ := zPj (j := M) hp hM
  have zk := zj.1
  obtain ⟨v, a1, ⟨a20, a21, a22, a23, a24, a25, a26, a27⟩, a3⟩ := c_1 (d := d) (u := u) (w := w) (x1 := k) (x2 := t) (x3 := r) (x4 := h) zj
  have v3 : v p 3 = nI M := by rw [a3 p (by omega), h3]
  have lo := isP_lo hp
  have g := hC.2.2.1
  have e7 : (nI M).toNatClampNeg = M := nI_clamp (by omega)
  have e8 : 0 ≤ nI M := nI_pos' (by omega)
  have e9 : nI M < 8 := nI_lt (b := 8) hM (by omega)
  refine ⟨qu v p 3 (nI (M + 1)), ?_, ?_, fun q hq => by rw [qu_ne _ _ _ (ne_inP hq (inP_p p)), a3 q (ne_inP hq (inP_j hM))]⟩
  · refine (bq_16_0 (d + 1) p _ _ _ _ (QM u w)).trans ?_
    rw [nI_succ]
    simp only [QM_kd, QM_sz, QM_lk, QM_i, QM_wi, zI, qs_bI, qs_bV, qb_0, z, z1, z2, zk, h3, e7, e8, e9, hM, a1, v3, Nat.add_sub_cancel, Nat.le_add_left, Bool.true_eq_false, Nat.reduceSub, Nat.reduceLeDiff, Nat.reduceLT, true_and, and_true, and_self, if_true, if_false]
  · have hi := s_jnew_hi R M k t r h (nI (M + 1)) hM
    have h11 : s_jnew (upd R 1 (nI (M + 1))) M k t r h 11 = R 11 := by
      rw [s_jnew_lo _ _ _ _ _ _ (by omega)]
      simp [upd]
    have lo2 : ∀ i, i < 12 → i ≠ 1 → s_jnew (upd R 1 (nI (M + 1))) M k t r h i = R i := fun i i1 i2 => by
      rw [s_jnew_lo _ _ _ _ _ _ i1]
      simp [upd, i2]
    have vf : ∀ f, f ≠ 3 → qu v p 3 (nI (M + 1)) p f = u p f := fun f hf => by
      rw [qu_at, if_neg (by omega), a3 p (by omega)]
    refine ⟨hp, ⟨by simp [qu], by rw [vf 4 (by omega), lo2 3 (by omega) (by omega), f4], by rw [vf 5 (by omega), lo2 4 (by omega) (by omega), f5], by rw [vf 6 (by omega), lo2 5 (by omega) (by omega), f6], by rw [vf 7 (by omega), lo2 6 (by omega) (by omega), f7], by rw [vf 8 (by omega), lo2 7 (by omega) (by omega), f8], by rw [vf 9 (by omega), lo2 8 (by omega) (by omega), f9], by rw [vf 10 (by omega), lo2 9 (by omega) (by omega), f10], by rw [vf 11 (by omega), lo2 10 (by omega) (by omega), f11], by rw [vf 12 (by omega), lo2 2 (by omega) (by omega), f12], by rw [vf 13 (by omega), lo2 0 (by omega) (by omega), f13], by rw [vf 14 (by omega), lo2 11 (by omega) (by omega), f14], fun j hj c hc => ?_, fun k hk => ?_⟩, ⟨by omega, ?_, fun j hj c hc => ?_, ?_, s_tx_hi g.2.2.2.2.1 hi h11, s_t2_hi g.2.2.2.2.2 hi h11⟩, sU_same hC.2.2.2.1 ?_, cT_hi (cT_same hC.2.2.2.2 (fun q q1 q2 => ?_) g.2.2.2.2.1) hi h11⟩
    · rw [qu_ne _ _ _ (by omega), s_jnew_jo _ _ _ _ _ _ _ _ _ hc]
      by_cases e : j = M
      · rw [if_pos e, e]
        rcases (by omega : c = 0 ∨ c = 1 ∨ c = 2 ∨ c = 3 ∨ c = 4 ∨ c = 5 ∨ c = 6 ∨ c = 7) with rfl | rfl | rfl | rfl | rfl | rfl | rfl | rfl <;> simp [a20, a21, a22, a23, a24, a25, a26, a27]
      · rw [if_neg e, a3 _ (by omega)]
        exact sJ_e hC (by omega) hc
    · rw [qu_ne _ _ _ (by omega), a3 _ (by omega), s_t_hi hi h11]
      exact hC.2.1.2.2.2.2.2.2.2.2.2.2.2.2.2 k hk
    · rw [s_jnew_lo _ _ _ _ _ _ (by omega)]
      simp [upd]
    · rw [s_jnew_jo _ _ _ _ _ _ _ _ _ hc]
      by_cases e : j = M
      · rw [if_pos e]
        rcases (by omega : c = 0 ∨ c = 1 ∨ c = 2 ∨ c = 3 ∨ c = 4 ∨ c = 5 ∨ c = 6 ∨ c = 7) with rfl | rfl | rfl | rfl | rfl | rfl | rfl | rfl
        · exact hk
        · exact ht
        · exact hr
        · exact ⟨0, by omega, rfl⟩
        · exact ⟨0, by omega, rfl⟩
        · exact ⟨0, by omega, rfl⟩
        · exact hh
        · exact ⟨0, by omega, rfl⟩
      · rw [if_neg e]
        exact g.2.2.1 j (by omega) c hc
    · rw [lo2 3 (by omega) (by omega)]
      exact g.2.2.2.1
    · rw [qu_ne _ _ _ (by omega), a3 _ (by omega)]
    · rw [qu_ne _ _ _ (by omega), a3 _ (by omega)]
