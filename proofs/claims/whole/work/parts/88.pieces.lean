/-! TEXT: both readings go alike: a piece -/
noncomputable def EVr (d p k : Nat) (x : Int32) (o : Option Value) (v : Nat → Nat → Int32) (w : Nat → Nat → Int64) : Option qs_R := qs_EV d 176 28 [some (.ref 116), some (.int (nI p)), some (.int (nI k)), some (.int x), o] [] (QM v w)
def pHyp (u0 v0 : Nat → Nat → Int32) (b : Nat → Nat) (n key q : Nat) : Prop := s_tp b n ∧ tpC u0 b n ∧ tpR v0 b n ∧ iKs u0 ∧ u0 50 1 = nI key ∧ v0 116 15 = nI key ∧ key < 3 ∧ q = (if key = 0 then 3 else 2)
def fRB (u v : Nat → Nat → Int32) : Prop := fRR u v ∧ ∀ i, i ≤ 8 → v 127 i = 0 ∨ v 127 i = 1
theorem fRB_of {u v : Nat → Nat → Int32} {t : s_Tk} {W C : List Int32} {a : Nat} {ts : Nat → Bool} (h : rS u v t W C a ts) : fRB u v := ⟨h.1, fun i hi => by
  rw [h.2.2.2.2.2.2.2 i hi]
  exact qb_01 _⟩
def oFail (u0 v0 : Nat → Nat → Int32) (w : Nat → Nat → Int64) (cl rf : Option qs_R) : Prop := ∃ u' v' P, cl = some (some (.int 0), QM u' w) ∧ fCC u0 u' ∧ u' 48 4 = nI P ∧ rf = some (some (.int 0), QM v' w) ∧ fRB v0 v' ∧ v' 116 11 = nI P ∧ P ≤ 96
def oOk (u0 v0 : Nat → Nat → Int32) (w : Nat → Nat → Int64) (n q dr p k L : Nat) (W : List Int32) (D0 P0 : Nat) (ts : Nat → Bool) (cl rf : Option qs_R) : Prop := ∃ u' v' t' C' X a' ts' o', cl = some (some (.int 1), QM u' w) ∧ rf = EVr (dr + 5) p k 0 o' v' w ∧ cS u0 u' t' ((X.reverse ++ C').map s_tr) a' ∧ rS v0 v' t' (X ++ W) C' a' ts' ∧ (∀ x, x ∈ X → s_bn x ∧ L + 1 ≤ s_rk x) ∧ tOK t' n ∧ P0 ≤ t'.2.1 ∧ X.length + W.length + C'.length ≤ t'.2.1 ∧ wfl q (X.reverse ++ C') ∧ dpl (X.reverse ++ C') = D0 ∧ (s_si t' ≠ 0 → s_rk (s_si t') ≤ L ∨ (s_rk (s_si t') = 3 ∧ ts' p = true)) ∧ (∀ i, i < p → ts' i = ts i) ∧ (3 ≤ L → ts' p = ts p)
def pOk (u0 v0 : Nat → Nat → Int32) (w : Nat → Nat → Int64) (n q dr p m : Nat) (W : List Int32) (D0 P0 : Nat) (ts : Nat → Bool) (cl rf : Option qs_R) : Prop := ∃ u' v' t' E' a' ts' o', cl = some (some (.int 1), QM u' w) ∧ rf = EVr (dr + 5) p (s_nn W) 0 o' v' w ∧ cS u0 u' t' (E'.map s_tr) a' ∧ rS v0 v' t' W (nts m E') a' ts' ∧ tOK t' n ∧ P0 ≤ t'.2.1 ∧ W.length + m + E'.length ≤ t'.2.1 ∧ wfl q E' ∧ dpl E' = D0 ∧ ∀ i, i ≤ p → ts' i = ts i
def pLev (u0 v0 : Nat → Nat → Int32) (w : Nat → Nat → Int64) (n q dr N : Nat) : Prop := ∀ (L p k : Nat) (t : s_Tk) (E W : List Int32) (a : Nat) (ts : Nat → Bool) (u v : Nat → Nat → Int32) (d : Nat) (o : Option Value), L ≤ 5 → p ≤ 8 → k ≤ 8 → (97 - t.2.1) * 10 + (8 - L) < N → (8 - p) * 8 + (8 - k) + (5 - L) + 8 ≤ d → cS u0 u t (E.map s_tr) a → rS v0 v t W E a ts → tOK t n → W.length + E.length ≤ t.2.1 → s_nn W = k → topOK (L + 1) W → wfl q E → (L ≤ 2 → ts p = false) → oFail u0 v0 w (qs_call d 37 [.ref 48, .int (nI L), .int (nI p), .int (nI k)] (QM u w)) (EVr (dr + 5) p k 1 o v w) ∨ oOk u0 v0 w n q dr p k L W (dpl E + 1) (t.2.1 + 1) ts (qs_call d 37 [.ref 48, .int (nI L), .int (nI p), .int (nI k)] (QM u w)) (EVr (dr + 5) p k 1 o v w)
def pPie (u0 v0 : Nat → Nat → Int32) (w : Nat → Nat → Int64) (n q dr N : Nat) : Prop := ∀ (m p k : Nat) (t : s_Tk) (E W : List Int32) (a : Nat) (ts : Nat → Bool) (u v : Nat → Nat → Int32) (d : Nat) (o : Option Value), p ≤ 8 → k ≤ 8 → (97 - t.2.1) * 10 + 1 < N → (8 - p) * 8 + (8 - k) + 7 ≤ d → cS u0 u t (E.map s_tr) a → rS v0 v t (nts m W) E a ts → tOK t n → m + W.length + E.length ≤ t.2.1 → m + s_nn W = k → topOK 6 W → wfl q E → oFail u0 v0 w (qs_call d 39 [.ref 48, .int (nI p), .int (nI k)] (QM u w)) (EVr (dr + 5) p k 1 o v w) ∨ pOk u0 v0 w n q dr p m W (dpl E + 1) (t.2.1 + 1) ts (qs_call d 39 [.ref 48, .int (nI p), .int (nI k)] (QM u w)) (EVr (dr + 5) p k 1 o v w)
theorem fRR_of {u v : Nat → Nat → Int32} {t : s_Tk} {W C : List Int32} {a : Nat} {ts : Nat → Bool} (h : rS u v t W C a ts) : fRR u v ∧ v 116 11 = nI t.2.1 := ⟨h.1, h.2.1.2.1⟩
theorem iKs_C {u v : Nat → Nat → Int32} (h : iKs u) (g : fCC u v) : iKs v := iKs_f h (fun q hq => g.1 q (by omega) (by omega) (by omega))
theorem s_pt_wf {key n q : Nat} {t : s_Tk} {c : Int32} {E : List Int32} (ok : tOK t n) (hk : key < 3) (hq : q = if key = 0 then 3 else 2) (g : s_pt key t = some c) (hE : wfl q E) : wfl q (c :: E) ∧ dpl (c :: E) = dpl E + 1 ∧ t.1 ≠ 0 := by
  unfold s_pt at g
  by_cases c2 : t.1 = 2
  · rw [if_pos c2] at g
    cases g
    obtain ⟨N, hN, hv⟩ := ok.2.2.2.2.1 c2
    have c0 : (0 : Int32) ≤ t.2.2.2 := by rw [hv]; exact nI_pos' (by omega)
    refine ⟨⟨hE, Or.inl ⟨c0, Or.inl ?_⟩⟩, ?_, by omega⟩
    · rw [hv]
      exact nI_ge (b := 10000) (by omega) (by omega)
    · show (if (0 : Int32) ≤ t.2.2.2 then dpl E + 1 else _) = _
      rw [if_pos c0]
  rw [if_neg c2] at g
  by_cases cc : t.1 = 1 ∧ t.2.2.1 = t.2.1 + 1 ∧ s_nm key t.2.2.2.toNatClampNeg ≠ 9
  · rw [if_pos cc] at g
    cases g
    have hnm : s_nm key t.2.2.2.toNatClampNeg < q := by
      have h9 := cc.2.2
      unfold s_nm at h9 ⊢
      rw [hq]
      (repeat' split at h9) <;> (repeat' split) <;> omega
    have hq3 : q ≤ 3 := by rw [hq]; split <;> omega
    have c0 : (0 : Int32) ≤ nI (10000 + s_nm key t.2.2.2.toNatClampNeg) := nI_pos' (by omega)
    refine ⟨⟨hE, Or.inl ⟨c0, Or.inr ⟨_, hnm, rfl⟩⟩⟩, ?_, by omega⟩
    show (if (0 : Int32) ≤ nI (10000 + s_nm key t.2.2.2.toNatClampNeg) then dpl E + 1 else _) = _
    rw [if_pos c0]
  · rw [if_neg cc] at g
    cases g
theorem pie_step {u0 v0 : Nat → Nat → Int32} {w : Nat → Nat → Int64} {b : Nat → Nat} {n key q dr N : Nat} (H : pHyp u0 v0 b n key q) (hL : pLev u0 v0 w n q dr N) (hP : pPie u0 v0 w n q dr N) : pPie u0 v0 w n q dr (N + 1) := by
  intro m p k t E W a ts u v d o hp hk hN hd hC hR ok hl hn hW hE
  obtain ⟨h, hu, hv, hKs, hkc, hkr, hkey, hq⟩ := H
  have hn96 : n ≤ 96 := h.1
  have ot := ok
  obtain ⟨o1, o2, o3, o4, -, -, -, o8⟩ := ok
  obtain ⟨d, rfl⟩ : ∃ e, d = e + 7 := ⟨d - 7, by omega⟩
  have hlen : (nts m W).length = m + W.length := nts_len W m
  have z := zQ
  have t3 := hC.2.1.1
  have t6 := hC.2.1.2.2.2
  by_cases g1 : t.1 = 3 ∧ t.2.2.2 = 33 ∧ k < 8
  · obtain ⟨g1, g2, g3⟩ := g1
    have o4 := o4 (by omega)
    obtain ⟨v1, i1, i2⟩ := m_not (d := dr + 1) (p := p) (o4 := o) (w := w) h hv hR ot (by omega) g1 g2 g3
    obtain ⟨u1, j1, j2⟩ := c_adv (d := d + 3) (w := w) h hu hC ot
    obtain ⟨ok1, le1⟩ := tOK_nx h o8
    have nn : s_nn (-10 :: nts m W) = k + 1 := by
      show s_nn (nts m W) + (if (-10 : Int32) = -10 then 1 else 0) = _
      rw [nts_nn, if_pos rfl, hn]
    rw [nn] at i1
    have c3 : nI t.1 = 3 := by rw [g1]; rfl
    rw [c3] at t3
    rw [g2] at t6
    have n8 : ¬ (8 : Int32) ≤ nI k := nI_ge (b := 8) g3 (by omega)
    have n40 : ¬ (33 : Int32) = 40 := by decide
    have r := hP (m + 1) p (k + 1) (s_nx b n t) E W a ts u1 v1 (d + 6) o hp (by omega) (by omega) (by omega) j2 i2 ok1 (by omega) (by omega) hW hE
    rw [nI_succ] at r
    rcases r with ⟨u2, v2, P, r1, r2, r3, r4, r5, r6⟩ | ⟨u2, v2, t2, E2, a2, ts2, oo, r1, r2, r3, r4, r5, r6, r7, r8, r9, r10⟩
    · refine Or.inl ⟨u2, v2, P, ?_, r2, r3, i1.trans r4, r5, r6⟩
      refine (bq_39_0 (d + 6) 48 _ _ (QM u w)).trans ?_
      simp only [QM_kd, QM_sz, QM_lk, QM_i, QM_wi, zI, qs_bI, qs_bV, qb_0, z, t3, t6, n8, n40, j1, r1, true_or, Bool.true_eq_false, Nat.reduceSub, Nat.reduceLeDiff, Nat.reduceLT, true_and, and_true, and_self, if_true, if_false]
    · obtain ⟨u3, k1, k2⟩ := c_put (d := d + 5) (w := w) (x := -33) r3 (by rw [List.length_map]; have := r5.1; omega)
      refine Or.inr ⟨u3, v2, t2, -10 :: E2, a2, ts2, oo, ?_, ?_, k2, ?_, r5, by omega, ?_, ⟨r8, Or.inr (Or.inl ⟨rfl, by omega⟩)⟩, ?_, r10⟩
      · refine (bq_39_0 (d + 6) 48 _ _ (QM u w)).trans ?_
        have n10 : ¬ (1 : Int32) = 0 := by decide
        simp only [QM_kd, QM_sz, QM_lk, QM_i, QM_wi, zI, qs_bI, qs_bV, qb_0, z, t3, t6, n8, n40, n10, j1, r1, k1, Bool.true_eq_false, Nat.reduceSub, Nat.reduceLeDiff, Nat.reduceLT, true_and, and_true, and_self, if_true, if_false]
        rw [if_pos (by decide)]
      · exact i1.trans r2
      · rw [nts_in]
        exact r4
      · simp only [List.length_cons]
        omega
      · show (if (0 : Int32) ≤ -10 then _ else if (-10 : Int32) = -10 then dpl E2 else _) = _
        rw [if_neg (by decide), if_pos rfl, r9]
  by_cases g2 : t.1 = 3 ∧ t.2.2.2 = 40 ∧ p < 8
  · obtain ⟨g2, g3, g4⟩ := g2
    have o4 := o4 (by omega)
    obtain ⟨v1, i1, i2⟩ := m_par (d := dr + 1) (k := k) (o4 := o) (w := w) h hv hR ot (by omega) g2 g3 g4
    obtain ⟨u1, j1, j2⟩ := c_adv (d := d + 3) (w := w) h hu hC ot
    obtain ⟨ok1, le1⟩ := tOK_nx h o8
    have nn : s_nn (-11 :: nts m W) = k := by
      show s_nn (nts m W) + (if (-11 : Int32) = -10 then 1 else 0) = _
      rw [nts_nn, if_neg (by decide), hn, Nat.add_zero]
    rw [nn] at i1
    have c3 : nI t.1 = 3 := by rw [g2]; rfl
    rw [c3] at t3
    rw [g3] at t6
    have n8 : ¬ (8 : Int32) ≤ nI p := nI_ge (b := 8) g4 (by omega)
    have r := hL 0 (p + 1) k (s_nx b n t) E (-11 :: nts m W) a (updB ts (p + 1) false) u1 v1 (d + 6) o (by omega) (by omega) hk (by omega) (by omega) j2 i2 ok1 (by simp only [List.length_cons]; omega) nn (fun x W' e => by cases e; exact Or.inl rfl) hE (fun _ => by unfold updB; rw [if_pos rfl])
    rw [nI_succ p, nI_0] at r
    rcases r with ⟨u2, v2, P, r1, r2, r3, r4, r5, r6⟩ | ⟨u2, v2, t2, C2, X, a2, ts2, oo, r1, r2, r3, r4, r5, r6, r7, r8, r9, r10, r11, r12, r13⟩
    · refine Or.inl ⟨u2, v2, P, ?_, r2, r3, i1.trans r4, r5, r6⟩
      refine (bq_39_0 (d + 6) 48 _ _ (QM u w)).trans ?_
      simp only [QM_kd, QM_sz, QM_lk, QM_i, QM_wi, zI, qs_bI, qs_bV, qb_0, z, t3, t6, n8, j1, r1, true_or, Bool.true_eq_false, Nat.reduceSub, Nat.reduceLeDiff, Nat.reduceLT, true_and, and_true, and_self, if_true, if_false]
    · have n10 : ¬ (1 : Int32) = 0 := by decide
      simp only [List.length_cons] at r8
      have r61 := r6.1
      have y3 := r3.2.1.1
      have y6 := r3.2.1.2.2.2
      have hlen2 : (X ++ -11 :: nts m W).length = X.length + (m + W.length) + 1 := by
        rw [List.length_append, List.length_cons, hlen]
        omega
      by_cases q1 : t2.1 = 3 ∧ t2.2.2.2 = 41
      · obtain ⟨q1, q2⟩ := q1
        have pop0 : s_pop 0 (X ++ -11 :: nts m W) C2 = (-11 :: nts m W, X.reverse ++ C2) := pop_X (fun x W' e => by cases e; exact Or.inl rfl) X C2 (fun x hx => ⟨(r5 x hx).1.2.1, by omega⟩)
        have b4 := r6.2.2.2.1 (by omega)
        obtain ⟨v3, k1, k2⟩ := m_clo (d := dr + 1) (k := k) (o4 := oo) (w := w) h hv r4 r6 (by omega) q1 q2 g4 pop0
        rw [pop_nts hW] at k1 k2
        obtain ⟨u3, l1, l2⟩ := c_adv (d := d + 3) (w := w) h hu r3 r6
        obtain ⟨ok2, le2⟩ := tOK_nx h r6.2.2.2.2.2.2.2
        refine Or.inr ⟨u3, v3, s_nx b n t2, X.reverse ++ C2, a2, ts2, oo, ?_, ?_, l2, k2, ok2, by omega, ?_, r9, r10, fun i hi => ?_⟩
        · refine (bq_39_0 (d + 6) 48 _ _ (QM u w)).trans ?_
          have c3' : nI t2.1 = 3 := by rw [q1]; rfl
          rw [c3'] at y3
          rw [q2] at y6
          simp only [QM_kd, QM_sz, QM_lk, QM_i, QM_wi, zI, qs_bI, qs_bV, qb_0, z, t3, t6, n8, n10, j1, r1, y3, y6, l1, Bool.true_eq_false, Nat.reduceSub, Nat.reduceLeDiff, Nat.reduceLT, true_and, and_true, and_self, if_true, if_false]
          rw [if_pos (by decide)]
        · refine i1.trans (r2.trans ?_)
          exact k1
        · rw [List.length_append, List.length_reverse]
          omega
        · rw [r12 i (by omega)]
          unfold updB
          rw [if_neg (by omega)]
      · have cl0 : qs_call (d + 7) 39 [.ref 48, .int (nI p), .int (nI k)] (QM u w) = some (some (.int 0), QM u2 w) := by
          refine (bq_39_0 (d + 6) 48 _ _ (QM u w)).trans ?_
          by_cases q2 : t2.1 = 3
          · have c3' : nI t2.1 = 3 := by rw [q2]; rfl
            rw [c3'] at y3
            have y41 : ¬ t2.2.2.2 = 41 := fun c => q1 ⟨q2, c⟩
            simp only [QM_kd, QM_sz, QM_lk, QM_i, QM_wi, zI, qs_bI, qs_bV, qb_0, z, t3, t6, n8, n10, j1, r1, y3, y6, y41, true_or, Bool.true_eq_false, Nat.reduceSub, Nat.reduceLeDiff, Nat.reduceLT, true_and, and_true, and_self, if_true, if_false]
          · have n3 : ¬ nI t2.1 = 3 := fun c => q2 ((nI_eq (b := 3) (by have := r6.2.1; omega) (by omega)).mp c)
            simp only [QM_kd, QM_sz, QM_lk, QM_i, QM_wi, zI, qs_bI, qs_bV, qb_0, z, t3, t6, n8, n10, j1, r1, y3, n3, true_or, Bool.true_eq_false, Nat.reduceSub, Nat.reduceLeDiff, Nat.reduceLT, true_and, and_true, and_self, if_true, if_false]
        by_cases q0 : t2.1 = 0
        · obtain ⟨v3, k1, k2⟩ := m_end (d := dr + 1) (p := p + 1) (k := k) (o4 := oo) (w := w) r4 (by omega) q0 (by omega)
          rw [if_neg (by omega)] at k1
          exact Or.inl ⟨u2, v3, t2.2.1, cl0, r3.1, r3.2.1.2.1, i1.trans (r2.trans k1), fRB_of k2, k2.2.1.2.1, Nat.le_trans r6.1 hn96⟩
        · have k1 := m_gno (d := dr + 1) (p := p + 1) (k := k) (o4 := oo) (w := w) hn96 r4 r6 q0 (fun c => q1 ⟨c.1, c.2.1⟩) (by
            by_cases c : s_si t2 = 0
            · exact Or.inl c
            · rcases r11 c with e | e
              · have := s_rk_6 (s_si t2)
                omega
              · exact Or.inr e) (by omega)
          exact Or.inl ⟨u2, v2, t2.2.1, cl0, r3.1, r3.2.1.2.1, i1.trans (r2.trans k1), fRB_of r4, r4.2.1.2.1, Nat.le_trans r6.1 hn96⟩
  have e39 := c_39p (d := d + 6) (w := w) hC ot hp hk g1 g2
  cases gp : s_pt key t with
  | none =>
    refine Or.inl ⟨u, v, t.2.1, ?_, hC.1, hC.2.1.2.1, m_wno (d := dr + 2) (b := b) hn96 hR ot hkr hkey hp hk g1 g2 gp, fRB_of hR, hR.2.1.2.1, Nat.le_trans o1 hn96⟩
    exact e39.trans (c_39o_no hn96 hC ot (iKs_C hKs hC.1) hkc hkey gp)
  | some c =>
    obtain ⟨w1, w2, w3⟩ := s_pt_wf ot hkey hq gp hE
    have o4 := o4 w3
    obtain ⟨u1, j1, j2⟩ := c_39o_ok (d := d) (w := w) (o1 := some (.int (nI p))) (o2 := some (.int (nI k))) (o3 := none) h hu hC ot (iKs_C hKs hC.1) hkc hkey (by rw [List.length_map]; omega) gp
    obtain ⟨v1, i1, i2⟩ := m_pie (d := dr) (p := p) (k := k) (o4 := o) (w := w) h hv hR ot hkr hkey (by omega) gp
    rw [pop_nts hW] at i1 i2
    obtain ⟨ok1, le1⟩ := tOK_nx h o8
    refine Or.inr ⟨u1, v1, s_nx b n t, c :: E, a + 1, ts, o, e39.trans j1, i1, j2, i2, ok1, by omega, ?_, w1, w2, fun _ _ => rfl⟩
    simp only [List.length_cons]
    omega
