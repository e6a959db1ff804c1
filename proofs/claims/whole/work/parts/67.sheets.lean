/-! SHEETS: sheet, mark, call by call -/
theorem inv_sh {u v : Nat → Nat → Int32} (h : sINV u) (g : ∀ q, ¬ (88 ≤ q ∧ q < 96) → ¬ (130 ≤ q ∧ q ≤ 132) → q ≠ 137 → v q = u q) (hs : iSh v) : sINV v := by
  obtain ⟨a1, a2, a3, a4, a5, a6, a7⟩ := h
  have e16 := g 16 (by omega) (by omega) (by omega)
  have e116 := g 116 (by omega) (by omega) (by omega)
  have e117 := g 117 (by omega) (by omega) (by omega)
  exact ⟨iNw_f a1 e117 (fun q hq => g q (by unfold inP at hq; omega) (by unfold inP at hq; omega) (by unfold inP at hq; omega)), iIm_f a2 (by rw [e16]) (by rw [e116]) (g 118 (by omega) (by omega) (by omega)) (by rw [e117]) (fun q hq => g q (by unfold inP at hq; omega) (by unfold inP at hq; omega) (by unfold inP at hq; omega)), hs, iSl_f a4 (fun q hq => g q (by omega) (by omega) (by omega)), iWt_f a5 (by rw [e16]) (by rw [e116]) (g 87 (by omega) (by omega) (by omega)) (g 138 (by omega) (by omega) (by omega)), iTp_f a6 (by rw [g 48 (by omega) (by omega) (by omega)]) (by rw [e116]) (g 49 (by omega) (by omega) (by omega)) (g 122 (by omega) (by omega) (by omega)), iKs_f a7 (fun q hq => g q (by omega) (by omega) (by omega))⟩
theorem inv_sl {u v : Nat → Nat → Int32} (h : sINV u) (g : ∀ q, ¬ (96 ≤ q ∧ q < 116) → ¬ (133 ≤ q ∧ q ≤ 136) → v q = u q) (hs : iSl v) : sINV v := by
  obtain ⟨a1, a2, a3, a4, a5, a6, a7⟩ := h
  have e16 := g 16 (by omega) (by omega)
  have e116 := g 116 (by omega) (by omega)
  have e117 := g 117 (by omega) (by omega)
  exact ⟨iNw_f a1 e117 (fun q hq => g q (by unfold inP at hq; omega) (by unfold inP at hq; omega)), iIm_f a2 (by rw [e16]) (by rw [e116]) (g 118 (by omega) (by omega)) (by rw [e117]) (fun q hq => g q (by unfold inP at hq; omega) (by unfold inP at hq; omega)), iSh_f a3 (fun q hq => g q (by omega) (by omega)), hs, iWt_f a5 (by rw [e16]) (by rw [e116]) (g 87 (by omega) (by omega)) (g 138 (by omega) (by omega)), iTp_f a6 (by rw [g 48 (by omega) (by omega)]) (by rw [e116]) (g 49 (by omega) (by omega)) (g 122 (by omega) (by omega)), iKs_f a7 (fun q hq => g q (by omega) (by omega))⟩
theorem inv_wt {u v : Nat → Nat → Int32} (h : sINV u) (g : ∀ q, q ≠ 16 → q ≠ 87 → q ≠ 116 → q ≠ 138 → v q = u q) (g16 : ∀ f, f ≠ 9 → v 16 f = u 16 f) (g116 : ∀ f, f ≠ 35 → v 116 f = u 116 f) (hs : iWt v) : sINV v := by
  obtain ⟨a1, a2, a3, a4, a5, a6, a7⟩ := h
  have e117 := g 117 (by omega) (by omega) (by omega) (by omega)
  exact ⟨iNw_f a1 e117 (fun q hq => g q (by unfold inP at hq; omega) (by unfold inP at hq; omega) (by unfold inP at hq; omega) (by unfold inP at hq; omega)), iIm_f a2 (g16 5 (by omega)) (g116 3 (by omega)) (g 118 (by omega) (by omega) (by omega) (by omega)) (by rw [e117]) (fun q hq => g q (by unfold inP at hq; omega) (by unfold inP at hq; omega) (by unfold inP at hq; omega) (by unfold inP at hq; omega)), iSh_f a3 (fun q hq => g q (by omega) (by omega) (by omega) (by omega)), iSl_f a4 (fun q hq => g q (by omega) (by omega) (by omega) (by omega)), hs, iTp_f a6 (by rw [g 48 (by omega) (by omega) (by omega) (by omega)]) (g116 9 (by omega)) (g 49 (by omega) (by omega) (by omega) (by omega)) (g 122 (by omega) (by omega) (by omega) (by omega)), iKs_f a7 (fun q hq => g q (by omega) (by omega) (by omega) (by omega))⟩
theorem inv_tp {u v : Nat → Nat → Int32} (h : sINV u) (g : ∀ q, q ≠ 48 → q ≠ 49 → q ≠ 116 → q ≠ 122 → v q = u q) (g116 : ∀ f, f ≠ 9 → v 116 f = u 116 f) (hs : iTp v) : sINV v := by
  obtain ⟨a1, a2, a3, a4, a5, a6, a7⟩ := h
  have e117 := g 117 (by omega) (by omega) (by omega) (by omega)
  have e16 := g 16 (by omega) (by omega) (by omega) (by omega)
  exact ⟨iNw_f a1 e117 (fun q hq => g q (by unfold inP at hq; omega) (by unfold inP at hq; omega) (by unfold inP at hq; omega) (by unfold inP at hq; omega)), iIm_f a2 (by rw [e16]) (g116 3 (by omega)) (g 118 (by omega) (by omega) (by omega) (by omega)) (by rw [e117]) (fun q hq => g q (by unfold inP at hq; omega) (by unfold inP at hq; omega) (by unfold inP at hq; omega) (by unfold inP at hq; omega)), iSh_f a3 (fun q hq => g q (by omega) (by omega) (by omega) (by omega)), iSl_f a4 (fun q hq => g q (by omega) (by omega) (by omega) (by omega)), iWt_f a5 (by rw [e16]) (g116 35 (by omega)) (g 87 (by omega) (by omega) (by omega) (by omega)) (g 138 (by omega) (by omega) (by omega) (by omega)), hs, iKs_f a7 (fun q hq => g q (by omega) (by omega) (by omega) (by omega))⟩
theorem s_cz0 : s_cz 0 := Or.inr (by decide)
theorem c_42L {d q : Nat} {o1 o2 : Option Value} {w : Nat → Nat → Int64} (z : zSh q) (ho : qs_w2 o2 = false) : ∀ (r k : Nat) (u : Nat → Nat → Int32), k + r = 24 → (∀ i, i < k → u (q + 1) i = 0) → ∃ v', qs_EV d 42 12 [some (.ref q), o1, o2, some (.int (nI k))] [] (QM u w) = some (none, QM v' w) ∧ (∀ i, i < 24 → v' (q + 1) i = 0) ∧ ∀ a, a ≠ q + 1 → v' a = u a
  | 0, k, u, hk, h0 => by
    obtain rfl : k = 24 := by omega
    refine ⟨u, ?_, h0, fun _ _ => rfl⟩
    refine (bq_42_12 d q _ _ _ (QM u w)).trans ?_
    rw [if_pos (by decide)]
  | r + 1, k, u, hk, h0 => by
    obtain ⟨v', g1, g2, g3⟩ := c_42L (d := d) (o1 := o1) (w := w) z ho r (k + 1) (qu u (q + 1) k 0) (by omega) (fun i hi => by
      rw [qu_at]
      by_cases e : i = k
      · rw [if_pos ⟨rfl, e⟩]
      · rw [if_neg (by omega), h0 i (by omega)])
    refine ⟨v', ?_, g2, fun a ha => by rw [g3 a ha, qu_ne _ _ _ ha]⟩
    unfold zSh at z
    have e2 : ¬ (24 : Int32) ≤ nI k := nI_ge (b := 24) (by omega) (by omega)
    have e7 : (nI k).toNatClampNeg = k := nI_clamp (by omega)
    have e8 : 0 ≤ nI k := nI_pos' (by omega)
    have e9 : k < 24 := by omega
    rw [nI_succ] at g1
    refine (bq_42_12 d q _ _ _ (QM u w)).trans ?_
    simp only [QM_kd, QM_sz, QM_lk, QM_i, QM_wi, zI, qs_bI, qs_bV, qb_0, z, e2, e7, e8, e9, ho, cond_false, Nat.add_sub_cancel, Nat.le_add_left, Bool.true_eq_false, Nat.reduceSub, Nat.reduceLeDiff, Nat.reduceLT, true_and, and_true, and_self, if_true, if_false]
    exact g1
theorem c_42 {d q : Nat} {x y : Int32} {u : Nat → Nat → Int32} {w : Nat → Nat → Int64} (z : zSh q) : ∃ v', qs_call (d + 1) 42 [.ref q, .int x, .int y] (QM u w) = some (none, QM v' w) ∧ v' q 1 = x ∧ v' q 2 = y ∧ (∀ i, i < 24 → v' (q + 1) i = 0) ∧ ∀ a, a ≠ q → a ≠ q + 1 → v' a = u a := by
  obtain ⟨v', g1, g2, g3⟩ := c_42L (d := d) (o1 := some (.int x)) (o2 := some (.int y)) (w := w) z rfl 24 0 (qu (qu u q 1 x) q 2 y) (by omega) (fun i hi => by omega)
  refine ⟨v', ?_, ?_, ?_, g2, fun a h1 h2 => by rw [g3 a h2, qu_ne _ _ _ h1, qu_ne _ _ _ h1]⟩
  · unfold zSh at z
    rw [nI_0] at g1
    refine (bq_42_0 d q _ _ (QM u w)).trans ?_
    simp only [QM_kd, QM_sz, QM_lk, QM_i, QM_wi, zI, qs_bI, qs_bV, qb_0, z, Bool.true_eq_false, Nat.reduceSub, Nat.reduceLeDiff, Nat.reduceLT, true_and, and_true, and_self, if_true, if_false]
    exact g1
  · rw [g3 q (by omega)]
    simp [qu]
  · rw [g3 q (by omega)]
    simp [qu]
theorem mq_186L {d s : Nat} {o2 o3 : Option Value} {w : Nat → Nat → Int64} (hs : s < 4) (ho : qs_w2 o3 = false) : ∀ (r k : Nat) (u : Nat → Nat → Int32), k + r = 24 → (∀ i, i < k → u 132 (24 * s + i) = 0) → ∃ v', qs_EV d 186 66 [some (.ref 116), some (.int (nI s)), o2, o3, some (.int (nI k))] [] (QM u w) = some (some (.int (u 131 s)), QM v' w) ∧ (∀ i, i < 24 → v' 132 (24 * s + i) = 0) ∧ (∀ i, ¬ (24 * s ≤ i ∧ i < 24 * s + 24) → v' 132 i = u 132 i) ∧ ∀ a, a ≠ 132 → v' a = u a
  | 0, k, u, hk, h0 => by
    obtain rfl : k = 24 := by omega
    refine ⟨u, ?_, h0, fun _ _ => rfl, fun _ _ => rfl⟩
    refine (bq_186_66 d 116 _ _ _ _ (QM u w)).trans ?_
    have e7 : (nI s).toNatClampNeg = s := nI_clamp (by omega)
    have e8 : 0 ≤ nI s := nI_pos' (by omega)
    rw [if_pos (by decide)]
    simp only [QM_kd, QM_sz, QM_lk, QM_i, QM_wi, zM, zI, qs_bI, qs_bV, qb_0, e7, e8, hs, Bool.true_eq_false, Nat.reduceSub, Nat.reduceLeDiff, Nat.reduceLT, true_and, and_true, and_self, if_true, if_false]
  | r + 1, k, u, hk, h0 => by
    obtain ⟨v', g1, g2, g3, g4⟩ := mq_186L (d := d) (o2 := o2) (w := w) hs ho r (k + 1) (qu u 132 (24 * s + k) 0) (by omega) (fun i hi => by
      rw [qu_at]
      by_cases e : i = k
      · rw [if_pos ⟨rfl, by omega⟩]
      · rw [if_neg (by omega), h0 i (by omega)])
    refine ⟨v', ?_, g2, fun i hi => by rw [g3 i hi, qu_at, if_neg (by omega)], fun a ha => by rw [g4 a ha, qu_ne _ _ _ ha]⟩
    have e2 : ¬ (24 : Int32) ≤ nI k := nI_ge (b := 24) (by omega) (by omega)
    have f5 := ix_cl (s := s) (k := k) hs (by omega)
    have f6 : 24 * s + k < 96 := by omega
    rw [nI_succ, qu_ne u (a := 131) _ _ (by omega)] at g1
    refine (bq_186_66 d 116 _ _ _ _ (QM u w)).trans ?_
    simp only [QM_kd, QM_sz, QM_lk, QM_i, QM_wi, zM, zI, qs_bI, qs_bV, qb_0, e2, f5, f6, ho, cond_false, Bool.true_eq_false, Nat.reduceSub, Nat.reduceLeDiff, Nat.reduceLT, true_and, and_true, and_self, if_true, if_false]
    exact g1
theorem s_in3 {x : Int32} (h : ¬ s_in x (-1) 1 = false) : x = -1 ∨ x = 0 ∨ x = 1 := by
  have h1 : s_in x (-1) 1 = true := by simpa using h
  unfold s_in at h1
  have h2 := of_decide_eq_true h1
  have h3 := Int32.le_iff_toInt_le.mp h2.1
  have h4 := Int32.le_iff_toInt_le.mp h2.2
  have i1 : (1 : Int32).toInt = 1 := by decide
  have i2 : (-1 : Int32).toInt = -1 := by decide
  have i0 : (0 : Int32).toInt = 0 := by decide
  rcases (by omega : x.toInt = -1 ∨ x.toInt = 0 ∨ x.toInt = 1) with e | e | e
  · exact Or.inl (Int32.toInt_inj.mp (by rw [e, i2]))
  · exact Or.inr (Or.inl (Int32.toInt_inj.mp (by rw [e, i0])))
  · exact Or.inr (Or.inr (Int32.toInt_inj.mp (by rw [e, i1])))
/-- the reference's sheet becomes a row of zeros -/
theorem mq_186B {d s : Nat} {o2 o3 : Option Value} {x y : Int32} {u : Nat → Nat → Int32} {w : Nat → Nat → Int64} (hs : s < 4) (ho : qs_w2 o3 = false) : ∃ v', qs_EV d 186 66 [some (.ref 116), some (.int (nI s)), o2, o3, some (.int 0)] [] (QM (qu (qu u 130 s x) 131 s y) w) = some (some (.int y), QM v' w) ∧ (∀ i, i < 24 → v' 132 (24 * s + i) = 0) ∧ (∀ i, ¬ (24 * s ≤ i ∧ i < 24 * s + 24) → v' 132 i = u 132 i) ∧ v' 130 = upd (u 130) s x ∧ v' 131 = upd (u 131) s y ∧ ∀ a, a ≠ 130 → a ≠ 131 → a ≠ 132 → v' a = u a := by
  obtain ⟨v', g1, g2, g3, g4⟩ := mq_186L (d := d) (o2 := o2) (o3 := o3) (w := w) hs ho 24 0 (qu (qu u 130 s x) 131 s y) (by omega) (fun i hi => by omega)
  rw [nI_0, qu_at, if_pos ⟨rfl, rfl⟩] at g1
  refine ⟨v', g1, g2, fun i hi => by rw [g3 i hi, qu_ne _ _ _ (by omega), qu_ne _ _ _ (by omega)], ?_, ?_, fun a h1 h2 h3 => by rw [g4 a h3, qu_ne _ _ _ h2, qu_ne _ _ _ h1]⟩
  · rw [g4 130 (by omega), qu_ne _ _ _ (by omega), qu_same]
  · rw [g4 131 (by omega), qu_same, qu_ne _ _ _ (by omega)]
/-- both sides made sheet s a row of zeros -/
theorem iSh_new {u v : Nat → Nat → Int32} {s n : Nat} {x : Int32} (h : iSh u) (hs : s < 4) (hn : n ≤ 24) (hx : x = -1 ∨ x = 0 ∨ x = 1) (c1 : v (88 + 2 * s) 1 = x) (c2 : v (88 + 2 * s) 2 = nI n) (c3 : ∀ i, i < 24 → v (88 + 2 * s + 1) i = 0) (co : ∀ a, 88 ≤ a → a < 96 → a ≠ 88 + 2 * s → a ≠ 88 + 2 * s + 1 → v a = u a) (m1 : v 130 = upd (u 130) s x) (m2 : v 131 = upd (u 131) s (nI n)) (m3 : ∀ i, i < 24 → v 132 (24 * s + i) = 0) (m4 : ∀ i, ¬ (24 * s ≤ i ∧ i < 24 * s + 24) → v 132 i = u 132 i) : iSh v := by
  intro t ht
  by_cases e : t = s
  · subst e
    have f1 : v 130 t = x := by rw [m1]; simp [upd]
    have f2 : v 131 t = nI n := by rw [m2]; simp [upd]
    refine ⟨by rw [c1, f1], by rw [c2, f2], by rw [f1]; exact hx, ⟨n, hn, f2⟩, fun k hk => ?_⟩
    rw [c3 k hk, m3 k hk]
    exact ⟨rfl, s_cz0⟩
  · have f1 : v 130 t = u 130 t := by rw [m1]; exact upd_lo _ _ e
    have f2 : v 131 t = u 131 t := by rw [m2]; exact upd_lo _ _ e
    obtain ⟨h1, h2, h3, h4, h5⟩ := h t ht
    rw [co (88 + 2 * t) (by omega) (by omega) (by omega) (by omega), f1, f2]
    refine ⟨h1, h2, h3, h4, fun k hk => ?_⟩
    rw [co (88 + 2 * t + 1) (by omega) (by omega) (by omega) (by omega), m4 _ (by omega)]
    exact h5 k hk
theorem k_sheet (x sr n : Int32) : sOK 83 186 [.int x, .int sr, .int n] := by
  intro d u w h
  by_cases g1 : s_in x 0 3 = false
  · refine ⟨sBAD, u, u, w, ?_, ?_, h⟩
    · refine (bq_83_0 (d + 119) 16 _ _ _ (QM u w)).trans ?_
      simp only [QM_kd, QM_sz, QM_lk, QM_i, QM_wi, zI, qs_bI, qs_bV, qb_0, c_100, g1, Bool.true_eq_false, Nat.reduceSub, Nat.reduceLeDiff, Nat.reduceLT, true_and, and_true, and_self, if_true, if_false]
      rfl
    · refine (bq_186_0 (d + 119) 116 _ _ _ (QM u w)).trans ?_
      simp only [QM_kd, QM_sz, QM_lk, QM_i, QM_wi, zM, zI, qs_bI, qs_bV, qb_0, mc_184, g1, Bool.true_eq_false, Nat.reduceSub, Nat.reduceLeDiff, Nat.reduceLT, true_and, and_true, and_self, if_true, if_false]
      rfl
  obtain ⟨s, hs, rfl⟩ := s_nf (n := 3) g1 rfl (by omega)
  have es : (nI s).toNatClampNeg = s := nI_clamp (by omega)
  have es2 : 0 ≤ nI s := nI_pos' (by omega)
  have es3 : s < 4 := by omega
  have zs := zS es3
  have zq := zs.2.2
  have z4 := zq.1
  unfold zS1 at zs
  by_cases g2 : s_in sr (-1) 1 = false
  · refine ⟨sBAD, u, u, w, ?_, ?_, h⟩
    · refine (bq_83_0 (d + 119) 16 _ _ _ (QM u w)).trans ?_
      by_cases g3 : sr < -1
      · simp only [QM_kd, QM_sz, QM_lk, QM_i, QM_wi, zI, qs_bI, qs_bV, qb_0, c_100, g1, g3, Bool.true_eq_false, Nat.reduceSub, Nat.reduceLeDiff, Nat.reduceLT, true_and, and_true, and_self, if_true, if_false]
        rfl
      · have g4 : ¬ sr ≤ 1 := Int32.not_le.mpr ((s_range.mp g2).resolve_left g3)
        simp only [QM_kd, QM_sz, QM_lk, QM_i, QM_wi, zI, qs_bI, qs_bV, qb_0, c_100, g1, g3, g4, Bool.true_eq_false, Nat.reduceSub, Nat.reduceLeDiff, Nat.reduceLT, true_and, and_true, and_self, if_true, if_false]
        rfl
    · refine (bq_186_0 (d + 119) 116 _ _ _ (QM u w)).trans ?_
      simp only [QM_kd, QM_sz, QM_lk, QM_i, QM_wi, zM, zI, qs_bI, qs_bV, qb_0, mc_184, mc_108, g1, g2, Bool.true_eq_false, Nat.reduceSub, Nat.reduceLeDiff, Nat.reduceLT, true_and, and_true, and_self, if_true, if_false]
      rfl
  have g3 : ¬ sr < -1 := fun q => g2 (s_range.mpr (Or.inl q))
  have g4 : sr ≤ 1 := Int32.not_lt.mp (fun q => g2 (s_range.mpr (Or.inr q)))
  have fin : ∀ (n' : Nat) (v1 v2 : Nat → Nat → Int32), n' ≤ 24 → v1 (88 + 2 * s) 1 = sr → v1 (88 + 2 * s) 2 = nI n' → (∀ i, i < 24 → v1 (88 + 2 * s + 1) i = 0) → (∀ a, a ≠ 88 + 2 * s → a ≠ 88 + 2 * s + 1 → v1 a = u a) → (∀ i, i < 24 → v2 132 (24 * s + i) = 0) → (∀ i, ¬ (24 * s ≤ i ∧ i < 24 * s + 24) → v2 132 i = v1 132 i) → v2 130 = upd (v1 130) s sr → v2 131 = upd (v1 131) s (nI n') → (∀ a, a ≠ 130 → a ≠ 131 → a ≠ 132 → v2 a = v1 a) → sINV v2 := by
    intro n' v1 v2 hn' p1 p2 p3 p4 q1 q2 q3 q4 q5
    refine inv_sh h (fun q h1 h2 h3 => by rw [q5 q (by omega) (by omega) (by omega), p4 q (by omega) (by omega)]) ?_
    refine iSh_new h.2.2.1 es3 hn' (s_in3 g2) ?_ ?_ ?_ ?_ ?_ ?_ q1 ?_
    · rw [q5 _ (by omega) (by omega) (by omega), p1]
    · rw [q5 _ (by omega) (by omega) (by omega), p2]
    · intro i hi
      rw [q5 _ (by omega) (by omega) (by omega), p3 i hi]
    · intro a h1 h2 h3 h4
      rw [q5 _ (by omega) (by omega) (by omega), p4 a h3 h4]
    · rw [q3, p4 130 (by omega) (by omega)]
    · rw [q4, p4 131 (by omega) (by omega)]
    · intro i hi
      rw [q2 i hi, p4 132 (by omega) (by omega)]
  by_cases g5 : sr = -1
  · obtain ⟨v1, a1, a2, a3, a4, a5⟩ := c_42 (d := d + 118) (x := -1) (y := 0) (u := u) (w := w) zq
    obtain ⟨v2, b1, b2, b3, b4, b5, b6⟩ := mq_186B (d := d + 119) (o2 := some (.int sr)) (o3 := some (.int n)) (x := -1) (y := 0) (u := v1) (w := w) es3 rfl
    refine ⟨0, v1, v2, w, ?_, ?_, fin 0 v1 v2 (by omega) (by rw [a2, g5]) a3 a4 a5 b2 b3 (by rw [b4, g5]) b5 b6⟩
    · refine (bq_83_0 (d + 119) 16 _ _ _ (QM u w)).trans ?_
      simp only [QM_kd, QM_sz, QM_lk, QM_i, QM_wi, zI, qs_bI, qs_bV, qb_0, c_100, g1, g3, g4, g5, zQ, zs, z4, es, es2, es3, a1, show ¬ (-1 : Int32) < -1 by decide, show (-1 : Int32) ≤ 1 by decide, Nat.add_sub_cancel, Nat.le_add_left, Bool.true_eq_false, Nat.reduceSub, Nat.reduceLeDiff, Nat.reduceLT, true_and, and_true, and_self, if_true, if_false]
    · rw [g5] at b1
      refine (bq_186_0 (d + 119) 116 _ _ _ (QM v1 w)).trans ?_
      simp only [QM_kd, QM_sz, QM_lk, QM_i, QM_wi, zM, zI, qs_bI, qs_bV, qb_0, mc_184, mc_108, g1, g2, es, es2, es3, g5, show s_in (-1) (-1) 1 = true by decide, show (-1 : Int32) < 0 by decide, show ¬ (0 : Int32) ≤ -1 by decide, Bool.true_eq_false, Nat.reduceSub, Nat.reduceLeDiff, Nat.reduceLT, true_and, and_true, and_self, if_true, if_false]
      exact b1
  have g6 : sr = 0 ∨ sr = 1 := (s_in3 g2).resolve_left g5
  have g7 : ¬ sr < 0 := by rcases g6 with e | e <;> rw [e] <;> decide
  have g8 : 0 ≤ sr := Int32.not_lt.mp g7
  by_cases g9 : n ≤ 24
  · by_cases g10 : 0 ≤ n
    · obtain ⟨n', hn1, rfl⟩ := nI_of (Int32.not_lt.mpr g10)
      have hn2 : n' ≤ 24 := (nI_leI (b := 24) hn1 (by omega)).mp g9
      obtain ⟨v1, a1, a2, a3, a4, a5⟩ := c_42 (d := d + 118) (x := sr) (y := nI n') (u := u) (w := w) zq
      obtain ⟨v2, b1, b2, b3, b4, b5, b6⟩ := mq_186B (d := d + 119) (o2 := some (.int sr)) (o3 := some (.int (nI n'))) (x := sr) (y := nI n') (u := v1) (w := w) es3 rfl
      refine ⟨nI n', v1, v2, w, ?_, ?_, fin n' v1 v2 hn2 a2 a3 a4 a5 b2 b3 b4 b5 b6⟩
      · refine (bq_83_0 (d + 119) 16 _ _ _ (QM u w)).trans ?_
        simp only [QM_kd, QM_sz, QM_lk, QM_i, QM_wi, zI, qs_bI, qs_bV, qb_0, c_100, g1, g3, g4, g5, g9, g10, zQ, zs, z4, es, es2, es3, a1, Nat.add_sub_cancel, Nat.le_add_left, Bool.true_eq_false, Nat.reduceSub, Nat.reduceLeDiff, Nat.reduceLT, true_and, and_true, and_self, if_true, if_false]
      · refine (bq_186_0 (d + 119) 116 _ _ _ (QM v1 w)).trans ?_
        simp only [QM_kd, QM_sz, QM_lk, QM_i, QM_wi, zM, zI, qs_bI, qs_bV, qb_0, mc_184, mc_108, g1, g2, es, es2, es3, g7, g8, g9, g10, Bool.true_eq_false, Nat.reduceSub, Nat.reduceLeDiff, Nat.reduceLT, true_and, and_true, and_self, if_true, if_false]
        exact b1
    · refine ⟨-1000000014, u, u, w, ?_, ?_, h⟩
      · refine (bq_83_0 (d + 119) 16 _ _ _ (QM u w)).trans ?_
        simp only [QM_kd, QM_sz, QM_lk, QM_i, QM_wi, zI, qs_bI, qs_bV, qb_0, c_100, g1, g3, g4, g5, g9, g10, Bool.true_eq_false, Nat.reduceSub, Nat.reduceLeDiff, Nat.reduceLT, true_and, and_true, and_self, if_true, if_false]
      · refine (bq_186_0 (d + 119) 116 _ _ _ (QM u w)).trans ?_
        simp only [QM_kd, QM_sz, QM_lk, QM_i, QM_wi, zM, zI, qs_bI, qs_bV, qb_0, mc_184, mc_108, g1, g2, g7, g8, g9, g10, Bool.true_eq_false, Nat.reduceSub, Nat.reduceLeDiff, Nat.reduceLT, true_and, and_true, and_self, if_true, if_false]
  · refine ⟨sBAD, u, u, w, ?_, ?_, h⟩
    · refine (bq_83_0 (d + 119) 16 _ _ _ (QM u w)).trans ?_
      simp only [QM_kd, QM_sz, QM_lk, QM_i, QM_wi, zI, qs_bI, qs_bV, qb_0, c_100, g1, g3, g4, g5, g9, Bool.true_eq_false, Nat.reduceSub, Nat.reduceLeDiff, Nat.reduceLT, true_and, and_true, and_self, if_true, if_false]
      rfl
    · refine (bq_186_0 (d + 119) 116 _ _ _ (QM u w)).trans ?_
      simp only [QM_kd, QM_sz, QM_lk, QM_i, QM_wi, zM, zI, qs_bI, qs_bV, qb_0, mc_184, mc_108, g1, g2, g7, g8, g9, Bool.true_eq_false, Nat.reduceSub, Nat.reduceLeDiff, Nat.reduceLT, true_and, and_true, and_self, if_true, if_false]
      rfl
