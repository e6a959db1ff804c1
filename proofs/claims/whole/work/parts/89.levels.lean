/-! TEXT: both readings go alike: levels -/
def pLoo (u0 v0 : Nat → Nat → Int32) (w : Nat → Nat → Int64) (n q dr N : Nat) : Prop := ∀ (L p k : Nat) (t : s_Tk) (C X W : List Int32) (a : Nat) (ts : Nat → Bool) (u v : Nat → Nat → Int32) (d i : Nat) (o o6 : Option Value), L ≤ 4 → p ≤ 8 → k ≤ 8 → (97 - t.2.1) * 10 + 9 < N → (8 - p) * 8 + (8 - k) + (5 - L) + 7 ≤ d → cS u0 u t ((X.reverse ++ C).map s_tr) a → rS v0 v t (X ++ W) C a ts → (∀ x, x ∈ X → s_bn x ∧ L + 1 ≤ s_rk x) → tOK t n → X.length + W.length + C.length ≤ t.2.1 → s_nn W = k → topOK (L + 1) W → wfl q (X.reverse ++ C) → 1 ≤ dpl (X.reverse ++ C) → (s_si t ≠ 0 → s_rk (s_si t) ≤ L + 1 ∨ (s_rk (s_si t) = 3 ∧ ts p = true)) → ((L = 2 ∧ i = 0 ∧ ts p = false) ∨ (L = 2 ∧ i = 1 ∧ ts p = true) ∨ (L ≠ 2 ∧ i ≤ t.2.1)) → oFail u0 v0 w (qs_EV d 37 42 [some (.ref 48), some (.int (nI L)), some (.int (nI p)), some (.int (nI k)), some (.int (if L = 2 then 1 else 96)), some (.int (nI i)), o6] [] (QM u w)) (EVr (dr + 5) p k 0 o v w) ∨ oOk u0 v0 w n q dr p k L W (dpl (X.reverse ++ C)) t.2.1 ts (qs_EV d 37 42 [some (.ref 48), some (.int (nI L)), some (.int (nI p)), some (.int (nI k)), some (.int (if L = 2 then 1 else 96)), some (.int (nI i)), o6] [] (QM u w)) (EVr (dr + 5) p k 0 o v w)
theorem oFail_t {u0 v0 : Nat → Nat → Int32} {w : Nat → Nat → Int64} {c c' r r' : Option qs_R} (e1 : c' = c) (e2 : r' = r) (h : oFail u0 v0 w c r) : oFail u0 v0 w c' r' := by
  rw [e1, e2]
  exact h
theorem s_si_0 {t : s_Tk} (h : t.1 ≠ 3) : s_si t = 0 := by
  unfold s_si
  rw [if_neg h]
theorem loo_step {u0 v0 : Nat → Nat → Int32} {w : Nat → Nat → Int64} {b : Nat → Nat} {n key q dr N : Nat} (H : pHyp u0 v0 b n key q) (hL : pLev u0 v0 w n q dr N) (hQ : pLoo u0 v0 w n q dr N) : pLoo u0 v0 w n q dr (N + 1) := by
  intro L p k t C X W a ts u v d i o o6 hLL hp hk hN hd hC hR hX ok hl hn hW hE hE1 hs hi
  obtain ⟨h, hu, hv, hKs, hkc, hkr, hkey, hq⟩ := H
  have hn96 : n ≤ 96 := h.1
  have ot := ok
  obtain ⟨o1, o2, o3, o4, -, -, -, o8⟩ := ok
  obtain ⟨d, rfl⟩ : ∃ e, d = e + 7 := ⟨d - 7, by omega⟩
  have z := zQ
  have m1 : ((1 : Int32) = 0 ∨ (1 : Int32) = 1) = True := by simp
  have stay : qs_EV (d + 7) 37 42 [some (.ref 48), some (.int (nI L)), some (.int (nI p)), some (.int (nI k)), some (.int (if L = 2 then 1 else 96)), some (.int (nI i)), o6] [] (QM u w) = some (some (.int 1), QM u w) → (s_si t ≠ 0 → s_rk (s_si t) ≤ L ∨ (s_rk (s_si t) = 3 ∧ ts p = true)) → oOk u0 v0 w n q dr p k L W (dpl (X.reverse ++ C)) t.2.1 ts (qs_EV (d + 7) 37 42 [some (.ref 48), some (.int (nI L)), some (.int (nI p)), some (.int (nI k)), some (.int (if L = 2 then 1 else 96)), some (.int (nI i)), o6] [] (QM u w)) (EVr (dr + 5) p k 0 o v w) := fun e1 e2 =>
    ⟨u, v, t, C, X, a, ts, o, e1, rfl, hC, hR, hX, ot, Nat.le_refl _, hl, hE, rfl, e2, fun _ _ => rfl, fun _ => rfl⟩
  have hmo : (L = 2 ∧ i = 1 ∧ ts p = true) ∨ (L ≠ 2 ∧ 96 ≤ i) ∨ ((L = 2 ∧ i = 0 ∧ ts p = false) ∨ (L ≠ 2 ∧ i < 96)) := by
    rcases hi with c | c | c
    · exact Or.inr (Or.inr (Or.inl c))
    · exact Or.inl c
    · by_cases c2 : i < 96
      · exact Or.inr (Or.inr (Or.inr ⟨c.1, c2⟩))
      · exact Or.inr (Or.inl ⟨c.1, by omega⟩)
  rcases hmo with ⟨c1, c2, c3⟩ | ⟨c1, c2⟩ | hmo
  · refine Or.inr (stay ?_ (fun c => ?_))
    · refine (bq_37_42 (d + 7) 48 _ _ _ _ _ _ (QM u w)).trans ?_
      rw [if_pos c1, c2, if_pos (by decide), if_pos (by decide)]
    · rcases hs c with e | e
      · by_cases e3 : s_rk (s_si t) = 3
        · exact Or.inr ⟨e3, c3⟩
        · exact Or.inl (by omega)
      · exact Or.inr e
  · refine Or.inr (stay ?_ (fun c => ?_))
    · refine (bq_37_42 (d + 7) 48 _ _ _ _ _ _ (QM u w)).trans ?_
      rw [if_neg c1, if_pos (show (96 : Int32) ≤ nI i from nI_le (a := 96) c2 (by have : i ≤ t.2.1 := (by rcases hi with e | e | e <;> omega); omega)), if_pos (by decide)]
    · have i96 : i ≤ t.2.1 := by rcases hi with e | e | e <;> omega
      have : t.1 ≠ 3 := fun c3 => by
        have := o4 (by omega)
        omega
      exact absurd (s_si_0 this) c
  have lt : ¬ (if L = 2 then (1 : Int32) else 96) ≤ nI i := by
    rcases hmo with ⟨c1, c2, -⟩ | ⟨c1, c2⟩
    · rw [if_pos c1, c2]
      decide
    · rw [if_neg c1]
      exact nI_ge (b := 96) c2 (by omega)
  have a38 := c_38 (d := d + 6) (w := w) hLL hC.2.1 o2
  by_cases gj : s_si t ≠ 0 ∧ s_rk (s_si t) = L + 1
  · rw [if_pos gj] at a38
    obtain ⟨gj, grk⟩ := gj
    obtain ⟨b1, b2, b3, b4⟩ := s_si_bn gj
    have o4 := o4 (by omega)
    obtain ⟨u1, j1, j2⟩ := c_adv (d := d + 4) (w := w) h hu hC ot
    have hXW : (X ++ W).length = X.length + W.length := List.length_append
    have hts : ¬ (s_rk (s_si t) = 3 ∧ ts p = true) := fun c => by
      rcases hmo with ⟨-, -, c3⟩ | ⟨c1, -⟩
      · rw [c3] at c
        exact absurd c.2 (by decide)
      · omega
    obtain ⟨v1, i1, i2⟩ := m_sgn (d := dr + 1) (k := k) (o4 := o) (w := w) h hv hR ot (by omega) gj hts hp
    rw [grk, pop_X hW X C (fun x hx => ⟨(hX x hx).1.2.1, (hX x hx).2⟩)] at i2
    simp only at i2
    obtain ⟨ok1, le1⟩ := tOK_nx h o8
    have nn : s_nn (s_si t :: W) = k := by
      show s_nn W + (if s_si t = -10 then 1 else 0) = k
      rw [if_neg b1.1, hn, Nat.add_zero]
    have hlE : (X.reverse ++ C).length = X.length + C.length := by rw [List.length_append, List.length_reverse]
    have r := hL (L + 1) p k (s_nx b n t) (X.reverse ++ C) (s_si t :: W) a (updB ts p (s_tst (s_si t) (ts p))) u1 v1 (d + 7) (some (.int (s_si t))) (by omega) hp hk (by omega) (by omega) j2 i2 ok1 (by simp only [List.length_cons]; omega) nn (fun x W' e => by cases e; exact Or.inr (by omega)) hE (fun c => by
      unfold updB s_tst
      rw [if_pos rfl, decide_eq_false (by omega), decide_eq_false (by omega)]
      rfl)
    have n10 : ¬ (1 : Int32) = 0 := by decide
    have y6 : u 48 6 = t.2.2.2 := hC.2.1.2.2.2
    rw [nI_succ] at r
    rcases r with ⟨u2, v2, P, r1, r2, r3, r4, r5, r6⟩ | ⟨u2, v2, t2, C2, X2, a2, ts2, oo, r1, r2, r3, r4, r5, r6, r7, r8, r9, r10, r11, r12, r13⟩
    · refine Or.inl ⟨u2, v2, P, ?_, r2, r3, i1.trans r4, r5, r6⟩
      refine (bq_37_42 (d + 7) 48 _ _ _ _ _ _ (QM u w)).trans ?_
      rw [if_neg lt]
      simp only [QM_kd, QM_sz, QM_lk, QM_i, QM_wi, zI, qs_bI, qs_bV, qb_0, z, a38, n10, y6, j1, r1, true_or, Bool.true_eq_false, Nat.reduceSub, Nat.reduceLeDiff, Nat.reduceLT, true_and, and_true, and_self, if_true, if_false]
    · have r61 := r6.1
      simp only [List.length_cons] at r8
      have hl2 : (X2.reverse ++ C2).length = X2.length + C2.length := by rw [List.length_append, List.length_reverse]
      obtain ⟨u3, k1, k2⟩ := c_put (d := d + 6) (w := w) (x := s_tr (s_si t)) r3 (by rw [List.length_map, hl2]; omega)
      have eD : (X2 ++ [s_si t]).reverse ++ C2 = s_si t :: (X2.reverse ++ C2) := by simp
      have eW : X2 ++ s_si t :: W = X2 ++ [s_si t] ++ W := by simp
      have edp : dpl (s_si t :: (X2.reverse ++ C2)) = dpl (X.reverse ++ C) := by
        show (if 0 ≤ s_si t then _ else if s_si t = -10 then _ else dpl (X2.reverse ++ C2) - 1) = _
        rw [if_neg b1.2.2, if_neg b1.1, r10]
        omega
      rw [eW] at r4
      have e3 : 3 ≤ L + 1 → ts2 p = s_tst (s_si t) (ts p) := fun c => by
        rw [r13 c]
        unfold updB
        rw [if_pos rfl]
      have fin := hQ L p k t2 C2 (X2 ++ [s_si t]) W a2 ts2 u3 v2 (d + 7) (i + 1) oo (some (.int t.2.2.2)) hLL hp hk (by omega) hd (by rw [eD]; exact k2) r4 (fun x hx => by
        rcases List.mem_append.mp hx with c | c
        · exact ⟨(r5 x c).1, by have := (r5 x c).2; omega⟩
        · rw [List.mem_singleton.mp c]
          exact ⟨b1, by omega⟩) r6 (by rw [List.length_append]; simp only [List.length_cons, List.length_nil]; omega) hn hW (by rw [eD]; exact ⟨r9, Or.inr (Or.inr ⟨b1.2.2, b1.1, by omega⟩)⟩) (by rw [eD, edp]; exact hE1) r11 (by
        rcases hmo with ⟨c1, c2, c3⟩ | ⟨c1, c2⟩
        · refine Or.inr (Or.inl ⟨c1, by omega, ?_⟩)
          rw [e3 (by omega)]
          unfold s_tst
          rw [decide_eq_true (by omega)]
          rfl
        · exact Or.inr (Or.inr ⟨c1, by have : i ≤ t.2.1 := (by rcases hi with e | e | e <;> omega); omega⟩))
      rw [eD, edp] at fin
      have clE : qs_EV (d + 7) 37 42 [some (.ref 48), some (.int (nI L)), some (.int (nI p)), some (.int (nI k)), some (.int (if L = 2 then 1 else 96)), some (.int (nI i)), o6] [] (QM u w) = qs_EV (d + 7) 37 42 [some (.ref 48), some (.int (nI L)), some (.int (nI p)), some (.int (nI k)), some (.int (if L = 2 then 1 else 96)), some (.int (nI (i + 1))), some (.int t.2.2.2)] [] (QM u3 w) := by
        refine (bq_37_42 (d + 7) 48 _ _ _ _ _ _ (QM u w)).trans ?_
        rw [if_neg lt, nI_succ i]
        rw [b4] at k1
        have y61 : u 48 6 = t.2.2.2 := y6
        simp only [QM_kd, QM_sz, QM_lk, QM_i, QM_wi, zI, qs_bI, qs_bV, qb_0, z, a38, n10, y6, j1, r1, k1, Bool.true_eq_false, Nat.reduceSub, Nat.reduceLeDiff, Nat.reduceLT, true_and, and_true, and_self, if_true, if_false]
      have rfE : EVr (dr + 5) p k 0 o v w = EVr (dr + 5) p k 0 oo v2 w := i1.trans r2
      rw [clE, rfE]
      rcases fin with fin | ⟨u4, v4, t4, C4, X4, a4, ts4, o5, f1, f2, f3, f4, f5, f6, f7, f8, f9, f10, f11, f12, f13⟩
      · exact Or.inl fin
      · refine Or.inr ⟨u4, v4, t4, C4, X4, a4, ts4, o5, f1, f2, f3, f4, f5, f6, by omega, f8, f9, f10, f11, fun j hj => ?_, fun c => ?_⟩
        · rw [f12 j hj, r12 j hj]
          unfold updB
          rw [if_neg (by omega)]
        · rw [f13 c, e3 (by omega)]
          unfold s_tst
          rw [decide_eq_false (by omega), decide_eq_true (by omega)]
          simp
  · rw [if_neg gj] at a38
    refine Or.inr (stay ?_ (fun c => ?_))
    · refine (bq_37_42 (d + 7) 48 _ _ _ _ _ _ (QM u w)).trans ?_
      rw [if_neg lt]
      simp only [QM_kd, QM_sz, QM_lk, QM_i, QM_wi, zI, qs_bI, qs_bV, qb_0, z, a38, Bool.true_eq_false, Nat.reduceSub, Nat.reduceLeDiff, Nat.reduceLT, true_and, and_true, and_self, if_true, if_false]
      rw [if_pos (by decide)]
    · rcases hs c with e | e
      · refine Or.inl ?_
        have : s_rk (s_si t) ≠ L + 1 := fun c2 => gj ⟨c, c2⟩
        omega
      · exact Or.inr e
theorem lev_step {u0 v0 : Nat → Nat → Int32} {w : Nat → Nat → Int64} {b : Nat → Nat} {n key q dr N : Nat} (H : pHyp u0 v0 b n key q) (hL : pLev u0 v0 w n q dr N) (hP : pPie u0 v0 w n q dr N) (hQ : pLoo u0 v0 w n q dr N) : pLev u0 v0 w n q dr (N + 1) := by
  intro L p k t E W a ts u v d o hLL hp hk hN hd hC hR ok hl hn hW hE hts
  have hn96 : n ≤ 96 := H.1.1
  have ot := ok
  obtain ⟨o1, o2, o3, o4, -, -, -, o8⟩ := ok
  obtain ⟨d, rfl⟩ : ∃ e, d = e + 8 := ⟨d - 8, by omega⟩
  have z := zQ
  by_cases g5 : L = 5
  · subst g5
    have r := hP 0 p k t E W a ts u v (d + 7) o hp hk (by omega) (by omega) hC hR ot (by omega) (by omega) hW hE
    have n4 : ¬ nI 5 ≤ 4 := by decide
    rcases r with ⟨u2, v2, P, r1, r2, r3, r4, r5, r6⟩ | ⟨u2, v2, t2, E2, a2, ts2, oo, r1, r2, r3, r4, r5, r6, r7, r8, r9, r10⟩
    · refine Or.inl ⟨u2, v2, P, ?_, r2, r3, r4, r5, r6⟩
      refine (bq_37_0 (d + 7) 48 _ _ _ (QM u w)).trans ?_
      simp only [QM_kd, QM_sz, QM_lk, QM_i, QM_wi, zI, qs_bI, qs_bV, qb_0, z, n4, r1, true_or, Bool.true_eq_false, Nat.reduceSub, Nat.reduceLeDiff, Nat.reduceLT, true_and, and_true, and_self, if_true, if_false]
    · rw [hn] at r2
      refine Or.inr ⟨u2, v2, t2, E2, [], a2, ts2, oo, ?_, r2, r3, r4, fun x hx => absurd hx List.not_mem_nil, r5, r6, by simp only [List.length_nil]; omega, r8, r9, fun c => Or.inl (s_si_bn c).2.1, fun i hi => r10 i (by omega), fun _ => r10 p (by omega)⟩
      refine (bq_37_0 (d + 7) 48 _ _ _ (QM u w)).trans ?_
      simp only [QM_kd, QM_sz, QM_lk, QM_i, QM_wi, zI, qs_bI, qs_bV, qb_0, z, n4, r1, or_true, Bool.true_eq_false, Nat.reduceSub, Nat.reduceLeDiff, Nat.reduceLT, true_and, and_true, and_self, if_true, if_false]
  · have r := hL (L + 1) p k t E W a ts u v (d + 7) o (by omega) hp hk (by omega) (by omega) hC hR ot hl hn (fun x W' e => by
      rcases hW x W' e with c | c
      · exact Or.inl c
      · exact Or.inr (by omega)) hE (fun c => hts (by omega))
    have n4 : nI L ≤ 4 := nI_le (b := 4) (by omega) (by omega)
    have n10 : ¬ (1 : Int32) = 0 := by decide
    rw [nI_succ] at r
    rcases r with ⟨u2, v2, P, r1, r2, r3, r4, r5, r6⟩ | ⟨u2, v2, t2, C2, X2, a2, ts2, oo, r1, r2, r3, r4, r5, r6, r7, r8, r9, r10, r11, r12, r13⟩
    · refine Or.inl ⟨u2, v2, P, ?_, r2, r3, r4, r5, r6⟩
      refine (bq_37_0 (d + 7) 48 _ _ _ (QM u w)).trans ?_
      simp only [QM_kd, QM_sz, QM_lk, QM_i, QM_wi, zI, qs_bI, qs_bV, qb_0, z, n4, r1, true_or, Bool.true_eq_false, Nat.reduceSub, Nat.reduceLeDiff, Nat.reduceLT, true_and, and_true, and_self, if_true, if_false]
    · have r61 := r6.1
      have fin := hQ L p k t2 C2 X2 W a2 ts2 u2 v2 (d + 7) 0 oo none (by omega) hp hk (by omega) (by omega) r3 r4 (fun x hx => ⟨(r5 x hx).1, by have := (r5 x hx).2; omega⟩) r6 r8 hn hW r9 (by omega) r11 (by
        by_cases c : L = 2
        · exact Or.inl ⟨c, rfl, by rw [r13 (by omega)]; exact hts (by omega)⟩
        · exact Or.inr (Or.inr ⟨c, by omega⟩))
      rw [r10] at fin
      have clE : qs_call (d + 8) 37 [.ref 48, .int (nI L), .int (nI p), .int (nI k)] (QM u w) = qs_EV (d + 7) 37 42 [some (.ref 48), some (.int (nI L)), some (.int (nI p)), some (.int (nI k)), some (.int (if L = 2 then 1 else 96)), some (.int (nI 0)), none] [] (QM u2 w) := by
        refine (bq_37_0 (d + 7) 48 _ _ _ (QM u w)).trans ?_
        rw [nI_0]
        by_cases c : L = 2
        · have c2 : nI L = 2 := by rw [c]; rfl
          rw [c2] at r1 n4 ⊢
          simp only [QM_kd, QM_sz, QM_lk, QM_i, QM_wi, zI, qs_bI, qs_bV, qb_0, z, n4, n10, r1, c, Bool.true_eq_false, Nat.reduceSub, Nat.reduceLeDiff, Nat.reduceLT, true_and, and_true, and_self, if_true, if_false]
        · have c2 : ¬ nI L = 2 := fun e => c ((nI_eq (b := 2) (by omega) (by omega)).mp e)
          simp only [QM_kd, QM_sz, QM_lk, QM_i, QM_wi, zI, qs_bI, qs_bV, qb_0, z, n4, n10, r1, c, c2, Bool.true_eq_false, Nat.reduceSub, Nat.reduceLeDiff, Nat.reduceLT, true_and, and_true, and_self, if_true, if_false]
      rw [clE, r2]
      rcases fin with fin | ⟨u4, v4, t4, C4, X4, a4, ts4, o5, f1, f2, f3, f4, f5, f6, f7, f8, f9, f10, f11, f12, f13⟩
      · exact Or.inl fin
      · exact Or.inr ⟨u4, v4, t4, C4, X4, a4, ts4, o5, f1, f2, f3, f4, f5, f6, by omega, f8, f9, f10, f11, fun j hj => by rw [f12 j hj, r12 j hj], fun c => by rw [f13 c, r13 (by omega)]⟩
theorem s_parse {u0 v0 : Nat → Nat → Int32} {w : Nat → Nat → Int64} {b : Nat → Nat} {n key q dr : Nat} (H : pHyp u0 v0 b n key q) : ∀ N, pLev u0 v0 w n q dr N ∧ pPie u0 v0 w n q dr N ∧ pLoo u0 v0 w n q dr N
  | 0 => ⟨fun _ _ _ _ _ _ _ _ _ _ _ _ _ _ _ h => absurd h (Nat.not_lt_zero _), fun _ _ _ _ _ _ _ _ _ _ _ _ _ _ h => absurd h (Nat.not_lt_zero _), fun _ _ _ _ _ _ _ _ _ _ _ _ _ _ _ _ _ _ h => absurd h (Nat.not_lt_zero _)⟩
  | N + 1 => by
    obtain ⟨h1, h2, h3⟩ := s_parse H N
    exact ⟨lev_step H h1 h2 h3, pie_step H h1 h2, loo_step H h1 h3⟩
