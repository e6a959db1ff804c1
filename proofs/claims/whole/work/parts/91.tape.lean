/-! TEXT: the whole tape, read on both sides -/
def fA (u v : Nat → Nat → Int32) : Prop := (∀ x, x ≠ 48 → x ≠ 50 → x ≠ 51 → v x = u x) ∧ ∀ j, ¬ (3 ≤ j ∧ j ≤ 6) → v 48 j = u 48 j
def fB (u v : Nat → Nat → Int32) : Prop := (∀ x, x ≠ 116 → x ≠ 125 → x ≠ 126 → x ≠ 127 → v x = u x) ∧ (∀ j, ¬ (9 ≤ j ∧ j ≤ 15) → j ≠ 19 → j ≠ 20 → j ≠ 22 → v 116 j = u 116 j) ∧ ∀ i, i ≤ 8 → v 127 i = 0 ∨ v 127 i = 1
def oT (d : Nat) (w : Nat → Nat → Int64) (u v : Nat → Nat → Int32) : Prop :=
  (∃ P u' v', P ≤ 96 ∧ qs_call (d + 119) 31 [.ref 48] (QM u w) = some (some (.int (nI P)), QM u' w) ∧ fA u u' ∧ qs_call (d + 120) 178 [.ref 116] (QM v w) = some (some (.int (-100 - nI P)), QM (qu v' 116 9 0) w) ∧ fB v v') ∨
  (∃ u' v' E a key q, qs_call (d + 119) 31 [.ref 48] (QM u w) = some (some (.int (-1000000005)), QM u' w) ∧ fA u u' ∧ u' 50 1 = nI key ∧ key < 3 ∧ q = (if key = 0 then 3 else 2) ∧ u' 50 2 = nI E.length ∧ lst (u' 51) (E.map s_tr) ∧ u' 50 3 = nI a ∧ wfl q E ∧ dpl E = 1 ∧ E.length ≤ 96 ∧ fB v v' ∧ v' 116 15 = nI key ∧ v' 116 19 = nI E.length ∧ lst (v' 125) E ∧ v' 116 20 = nI a ∧ ((v 117 11 = 14 → qs_call (d + 120) 178 [.ref 116] (QM v w) = some (some (.int (-1000000003)), QM (qu v' 116 9 0) w)) ∧ ∀ T, T < 14 → v 117 11 = nI T → ∃ o, qs_call (d + 120) 178 [.ref 116] (QM v w) = qs_EV (d + 119) 178 117 [some (.ref 116), o, some (.int (nI T)), some (.int 0)] [] (QM (qu (qu (qu v' 116 9 0) 117 (76 + 2 * T) (1000 * nI key + nI E.length)) 117 (77 + 2 * T) (nI a)) w)))
theorem m_176s {d : Nat} {v : Nat → Nat → Int32} {w : Nat → Nat → Int64} : qs_call (d + 1) 176 [.ref 116] (QM v w) = EVr d 0 0 1 none (qu (qu (qu (qu v 116 19 0) 116 20 0) 116 22 0) 127 0 0) w := by
  refine (bq_176_0 d 116 (QM v w)).trans ?_
  unfold EVr
  rw [nI_0]
  simp only [QM_kd, QM_sz, QM_lk, QM_i, QM_wi, zM, zI, qs_bI, qs_bV, qb_0, true_or, Bool.true_eq_false, Nat.reduceSub, Nat.reduceLeDiff, Nat.reduceLT, true_and, and_true, and_self, if_true, if_false]
theorem s_text {d n : Nat} {b : Nat → Nat} {u v : Nat → Nat → Int32} {w : Nat → Nat → Int64} (h : s_tp b n) (hu : tpC u b n) (hv : tpR v b n) (hKu : iKs u) (hKv : iKs v) : oT d w u v := by
  have hn96 : n ≤ 96 := h.1
  have z := zQ
  have n10 : ¬ (1 : Int32) = 0 := by decide
  -- the first token
  obtain ⟨u1, a1, a2, a3⟩ := c_32 (d := d + 115) (u := qu (qu (qu (qu u 50 2 0) 50 3 0) 48 3 0) 48 5 0) (w := w) (t := (0, 0, 0, 0)) h ⟨by simp [qu, hu.1], fun k hk => by simp [qu, hu.2 k hk]⟩ (by simp [qu]; rfl) (by simp only; omega) (by simp [qu]; rfl) (by simp only; omega)
  obtain ⟨v1, b1, b2, b3⟩ := m_169 (d := d + 116) (u := qu (qu v 116 10 0) 116 14 (-1)) (w := w) (t := (0, 0, 0, 0)) h ⟨by simp [qu, hv.1], fun k hk => by simp [qu, hv.2 k hk]⟩ (by simp [qu]; rfl) (fun q q1 q2 => by
    have e : qu (qu v 116 10 0) 116 14 (-1) 116 14 = -1 := by simp [qu]
    rw [e]
    simp only
    constructor
    · intro c
      have : (0 : Int32) ≤ nI q := nI_pos' (by omega)
      rw [← c] at this
      exact absurd this (by decide)
    · intro c
      omega) (by simp only; omega)
  obtain ⟨ok0, -⟩ := tOK_nx (b := b) (t := (0, 0, 0, 0)) h (by simp only; omega)
  generalize s_nx b n (0, 0, 0, 0) = t0 at *
  have fu1 : fA u u1 := ⟨fun x x1 x2 x3 => by rw [a2.1 x x1, qu_ne _ _ _ x1, qu_ne _ _ _ x1, qu_ne _ _ _ x2, qu_ne _ _ _ x2], fun j hj => by rw [a2.2 j hj, qu_at, if_neg (by omega), qu_at, if_neg (by omega), qu_ne _ _ _ (by omega), qu_ne _ _ _ (by omega)]⟩
  have tu1 : tpC u1 b n := ⟨by rw [fu1.2 2 (by omega)]; exact hu.1, by rw [fu1.1 49 (by omega) (by omega) (by omega)]; exact hu.2⟩
  have Ku1 : iKs u1 := iKs_f hKu (fun q hq => fu1.1 q (by omega) (by omega) (by omega))
  have c502 : u1 50 2 = 0 := by rw [a2.1 50 (by omega)]; simp [qu]
  have c503 : u1 50 3 = 0 := by rw [a2.1 50 (by omega)]; simp [qu]
  have fv1 : (∀ x, x ≠ 116 → v1 x = v x) ∧ ∀ j, ¬ (10 ≤ j ∧ j ≤ 14) → v1 116 j = v 116 j := ⟨fun x x1 => by rw [b2.1 x x1, qu_ne _ _ _ x1, qu_ne _ _ _ x1], fun j hj => by rw [b2.2 j hj, qu_at, if_neg (by omega), qu_at, if_neg (by omega)]⟩
  have tv1 : tpR v1 b n := ⟨by rw [fv1.2 9 (by omega)]; exact hv.1, by rw [fv1.1 122 (by omega)]; exact hv.2⟩
  have Kv1 : iKs v1 := iKs_f hKv (fun q hq => fv1.1 q (by omega))
  -- the key
  obtain ⟨u2, d1, d2, d3⟩ := c_35 (d := d + 112) (w := w) h tu1 Ku1 a3 ok0
  obtain ⟨v2, e1, e2, e3⟩ := m_170 (d := d + 115) (w := w) h tv1 Kv1 b3 ok0
  by_cases gk : s_key b t0 = 3
  · rw [if_pos gk] at d1 e1
    obtain rfl := d2 gk
    obtain rfl := e2 gk
    refine Or.inl ⟨t0.2.1, u2, v2, by have := ok0.1; omega, ?_, fu1, ?_, ⟨fun x x1 x2 x3 x4 => fv1.1 x x1, fun j j1 j2 j3 j4 => fv1.2 j (by omega), fun i hi => by rw [fv1.1 127 (by omega)]; exact hKv.2.2.2.2.2.2.2.2.2.2.2.2.2.2.2.2.2 i hi⟩⟩
    · have a4 := a3.2.1
      refine (bq_31_0 (d + 118) 48 (QM u w)).trans ?_
      simp only [QM_kd, QM_sz, QM_lk, QM_i, QM_wi, zI, qs_bI, qs_bV, qb_0, z, a1, d1, a4, Bool.true_eq_false, Nat.reduceSub, Nat.reduceLeDiff, Nat.reduceLT, true_and, and_true, and_self, if_true, if_false]
    · have b4 := b3.2.1
      have b5 : ∀ y, qu v2 116 9 y 116 11 = nI t0.2.1 := fun y => by simp [qu, b4]
      refine (bq_178_0 (d + 119) 116 (QM v w)).trans ?_
      simp only [QM_kd, QM_sz, QM_lk, QM_i, QM_wi, zM, zI, qs_bI, qs_bV, qb_0, b1, e1, b5, Bool.true_eq_false, Nat.reduceSub, Nat.reduceLeDiff, Nat.reduceLT, true_and, and_true, and_self, if_true, if_false]
  rw [if_neg gk] at d1 e1
  obtain ⟨d4, d5⟩ := d3 gk
  obtain ⟨e4, e5⟩ := e3 gk
  have hk3 : s_key b t0 < 3 := by
    unfold s_key at gk ⊢
    (repeat' split at gk) <;> (repeat' split) <;> omega
  obtain ⟨ok1, -⟩ := tOK_nx (b := b) h ok0.2.2.2.2.2.2.2
  generalize s_key b t0 = key at *
  generalize s_nx b n t0 = t1 at *
  have fu2 : fA u u2 := ⟨fun x x1 x2 x3 => by rw [d4.1 x x1, qu_ne _ _ _ x2, fu1.1 x x1 x2 x3], fun j hj => by rw [d4.2 j hj, qu_ne _ _ _ (by omega), fu1.2 j hj]⟩
  have tu2 : tpC u2 b n := ⟨by rw [fu2.2 2 (by omega)]; exact hu.1, by rw [fu2.1 49 (by omega) (by omega) (by omega)]; exact hu.2⟩
  have Ku2 : iKs u2 := iKs_f hKu (fun q hq => fu2.1 q (by omega) (by omega) (by omega))
  have k501 : u2 50 1 = nI key := by rw [d4.1 50 (by omega)]; simp [qu]
  have k502 : u2 50 2 = 0 := by rw [d4.1 50 (by omega)]; simp [qu, c502]
  have k503 : u2 50 3 = 0 := by rw [d4.1 50 (by omega)]; simp [qu, c503]
  have fv2 : (∀ x, x ≠ 116 → v2 x = v x) ∧ ∀ j, ¬ (10 ≤ j ∧ j ≤ 15) → v2 116 j = v 116 j := ⟨fun x x1 => by rw [e4.1 x x1, qu_ne _ _ _ x1, fv1.1 x x1], fun j hj => by rw [e4.2 j (by omega), qu_at, if_neg (by omega), fv1.2 j (by omega)]⟩
  have k15 : v2 116 15 = nI key := by rw [e4.2 15 (by omega)]; simp [qu]
  have hq7 := hKv.2.2.2.2.2.2.2.2.2.2.2.2.2.2.2.2.2
  -- the text
  have hcS : cS u2 u2 t1 (([] : List Int32).map s_tr) 0 := ⟨⟨fun _ _ _ _ => rfl, fun _ _ => rfl, fun _ _ _ => rfl⟩, d5, k502, trivial, k503⟩
  have hrS : rS (qu (qu (qu (qu v2 116 19 0) 116 20 0) 116 22 0) 127 0 0) (qu (qu (qu (qu v2 116 19 0) 116 20 0) 116 22 0) 127 0 0) t1 [] [] 0 (fun i => if i = 0 then false else decide (v2 127 i = 1)) := by
    refine ⟨⟨fun _ _ _ _ _ => rfl, fun _ _ _ _ _ => rfl⟩, tR_f e5 (fun j j1 j2 => ?_), by simp [qu]; rfl, trivial, by simp [qu]; rfl, by simp [qu]; rfl, trivial, fun i hi => ?_⟩
    · rw [qu_ne _ _ _ (by omega), qu_at, if_neg (by omega), qu_at, if_neg (by omega), qu_at, if_neg (by omega)]
    · by_cases c : i = 0
      · subst c
        simp [qu]
        rfl
      · rw [qu_at, if_neg (by omega), qu_ne _ _ _ (by omega), qu_ne _ _ _ (by omega), qu_ne _ _ _ (by omega)]
        simp only [c, if_false]
        have e127 : v2 127 i = v 127 i := by rw [fv2.1 127 (by omega)]
        rw [e127]
        rcases hq7 i hi with q | q <;> rw [q] <;> rfl
  have H : pHyp u2 (qu (qu (qu (qu v2 116 19 0) 116 20 0) 116 22 0) 127 0 0) b n key (if key = 0 then 3 else 2) := by
    refine ⟨h, tu2, ⟨?_, ?_⟩, Ku2, k501, ?_, hk3, rfl⟩
    · simp [qu, fv2.2 9, hv.1]
    · intro k hk
      simp [qu, fv2.1 122, hv.2 k hk]
    · simp [qu, k15]
  have m176 := m_176s (d := d + 118) (v := v2) (w := w)
  generalize hV : qu (qu (qu (qu v2 116 19 0) 116 20 0) 116 22 0) 127 0 0 = v3 at *
  have fv3 : (∀ x, x ≠ 116 → x ≠ 127 → v3 x = v x) ∧ (∀ j, ¬ (10 ≤ j ∧ j ≤ 15) → j ≠ 19 → j ≠ 20 → j ≠ 22 → v3 116 j = v 116 j) := by
    rw [← hV]
    exact ⟨fun x x1 x2 => by rw [qu_ne _ _ _ x2, qu_ne _ _ _ x1, qu_ne _ _ _ x1, qu_ne _ _ _ x1, fv2.1 x x1], fun j j1 j2 j3 j4 => by rw [qu_ne _ _ _ (by omega), qu_at, if_neg (by omega), qu_at, if_neg (by omega), qu_at, if_neg (by omega), fv2.2 j j1]⟩
  have fBv : ∀ x, fRR v3 x → (∀ i, i ≤ 8 → x 127 i = 0 ∨ x 127 i = 1) → fB v x := fun x hx h7 => ⟨fun y y1 y2 y3 y4 => by rw [hx.1 y y1 y2 y3 y4, fv3.1 y y1 y4], fun j j1 j2 j3 j4 => by rw [hx.2 j (by omega) j2 j3 j4, fv3.2 j (by omega) j2 j3 j4], h7⟩
  have fAu : ∀ x, fCC u2 x → fA u x := fun x hx => ⟨fun y y1 y2 y3 => by rw [hx.1 y y1 y2 y3, fu2.1 y y1 y2 y3], fun j hj => by rw [hx.2.1 j hj, fu2.2 j hj]⟩
  have r := (s_parse (dr := d + 113) (w := w) H 1000).1 0 0 0 t1 [] [] 0 _ u2 v3 (d + 118) none (by omega) (by omega) (by omega) (by omega) (by omega) hcS hrS ok1 (by simp) rfl (fun x W' e => by cases e) trivial (fun _ => rfl)
  rw [nI_0] at r
  have e176 : qs_call (d + 119) 176 [.ref 116] (QM v2 w) = EVr (d + 113 + 5) 0 0 1 none v3 w := m176
  have failR : ∀ x P, EVr (d + 113 + 5) 0 0 1 none v3 w = some (some (.int 0), QM x w) → x 116 11 = nI P → qs_call (d + 120) 178 [.ref 116] (QM v w) = some (some (.int (-100 - nI P)), QM (qu x 116 9 0) w) := fun x P q1 q2 => by
    rw [q1] at e176
    have b5 : ∀ y, qu x 116 9 y 116 11 = nI P := fun y => by simp [qu, q2]
    refine (bq_178_0 (d + 119) 116 (QM v w)).trans ?_
    simp only [QM_kd, QM_sz, QM_lk, QM_i, QM_wi, zM, zI, qs_bI, qs_bV, qb_0, b1, e1, n10, e176, b5, Bool.true_eq_false, Nat.reduceSub, Nat.reduceLeDiff, Nat.reduceLT, true_and, and_true, and_self, if_true, if_false]
  rcases r with ⟨u3, v4, P, r1, r2, r3, r4, r5, r6⟩ | ⟨u3, v4, t2, C2, X, a, ts2, oo, r1, r2, r3, r4, r5, r6, r7, r8, r9, r10, r11, r12, r13⟩
  · refine Or.inl ⟨P, u3, v4, r6.2, ?_, fAu _ r2, failR _ _ r4 r6.1, fBv _ r5.1 r5.2⟩
    refine (bq_31_0 (d + 118) 48 (QM u w)).trans ?_
    simp only [QM_kd, QM_sz, QM_lk, QM_i, QM_wi, zI, qs_bI, qs_bV, qb_0, z, a1, n10, d1, r1, r3, Bool.true_eq_false, Nat.reduceSub, Nat.reduceLeDiff, Nat.reduceLT, true_and, and_true, and_self, if_true, if_false]
  · have ok2 := r6.1
    have y3 := r3.2.1.1
    have y4 := r3.2.1.2.1
    by_cases g0 : t2.1 = 0
    · obtain ⟨v5, k1, k2⟩ := m_end (d := d + 114) (p := 0) (k := 0) (o4 := oo) (w := w) r4 (by rw [List.length_append]; omega) g0 (by omega)
      rw [if_pos rfl] at k1
      rw [pop_X (k := 0) (W := []) (fun x W' e => by cases e) X C2 (fun x hx => ⟨(r5 x hx).1.2.1, by omega⟩)] at k2
      simp only at k2
      have hlE : (X.reverse ++ C2).length = X.length + C2.length := by rw [List.length_append, List.length_reverse]
      have e176 : qs_call (d + 119) 176 [.ref 116] (QM v2 w) = some (some (.int 1), QM v5 w) := e176.trans (r2.trans k1)
      have f117 : v5 117 = v 117 := by rw [k2.1.1 117 (by omega) (by omega) (by omega) (by omega), fv3.1 117 (by omega) (by omega)]
      have k19 := k2.2.2.1
      have k20 := k2.2.2.2.2.1
      have kk15 : v5 116 15 = nI key := by rw [k2.1.2 15 (by omega) (by omega) (by omega) (by omega), ← hV]; simp [qu, k15]
      refine Or.inr ⟨u3, v5, X.reverse ++ C2, a, key, _, ?_, fAu _ r3.1, by rw [r3.1.2.2 1 (by omega) (by omega), k501], hk3, rfl, by rw [← List.length_map (f := s_tr)]; exact r3.2.2.1, r3.2.2.2.1, r3.2.2.2.2, r9, r10, by rw [hlE]; omega, fBv _ k2.1 (fun i hi => by rw [k2.2.2.2.2.2.2.2 i hi]; exact qb_01 _), kk15, k19, k2.2.2.2.1, k20, fun q14 => ?_, fun T hT q14 => ⟨some (.int 1), ?_⟩⟩
      · have y0 : nI t2.1 = 0 := by rw [g0]; rfl
        rw [y0] at y3
        refine (bq_31_0 (d + 118) 48 (QM u w)).trans ?_
        simp only [QM_kd, QM_sz, QM_lk, QM_i, QM_wi, zI, qs_bI, qs_bV, qb_0, z, a1, n10, d1, r1, y3, Bool.true_eq_false, Nat.reduceSub, Nat.reduceLeDiff, Nat.reduceLT, true_and, and_true, and_self, if_true, if_false]
      · refine (bq_178_0 (d + 119) 116 (QM v w)).trans ?_
        have q0 : ∀ y, qu v5 116 9 y 117 11 = 14 := fun y => by rw [qu_ne _ _ _ (by omega), f117, q14]
        have i11 : (11 : Int32).toNatClampNeg = 11 := rfl
        simp only [QM_kd, QM_sz, QM_lk, QM_i, QM_wi, zM, zI, qs_bI, qs_bV, qb_0, b1, e1, n10, e176, q0, Bool.true_eq_false, Nat.reduceSub, Nat.reduceLeDiff, Nat.reduceLT, true_and, and_true, and_self, if_true, if_false]
      · have q0 : ∀ y, qu v5 116 9 y 117 11 = nI T := fun y => by rw [qu_ne _ _ _ (by omega), f117, q14]
        have q1 : ∀ y, qu v5 116 9 y 116 15 = nI key := fun y => by rw [qu_at, if_neg (by omega), kk15]
        have q2 : ∀ y, qu v5 116 9 y 116 19 = nI (X.reverse ++ C2).length := fun y => by rw [qu_at, if_neg (by omega), k19]
        have q3 : ∀ y x, qu (qu v5 116 9 y) 117 (76 + 2 * T) x 116 20 = nI a := fun y x => by rw [qu_ne _ _ _ (by omega), qu_at, if_neg (by omega), k20]
        have nT : ¬ nI T = 14 := fun c => by
          have := (nI_eq (b := 14) (by omega) (by omega)).mp c
          omega
        have x1 := ix_hd (t := T) (by omega)
        have x2 : (76 + 2 * nI T + 1).toNatClampNeg = 77 + 2 * T ∧ 0 ≤ 76 + 2 * nI T + 1 := by
          have e : 76 + 2 * nI T + 1 = nI (77 + 2 * T) := by
            rw [show (77 + 2 * T) = 76 + 2 * T + 1 by omega, nI_succ, ← nI_add, ← nI_times]
            rfl
          rw [e]
          exact ⟨nI_clamp (by omega), nI_pos' (by omega)⟩
        have x3 : 76 + 2 * T < 1448 := by omega
        have x4 : 77 + 2 * T < 1448 := by omega
        refine (bq_178_0 (d + 119) 116 (QM v w)).trans ?_
        simp only [QM_kd, QM_sz, QM_lk, QM_i, QM_wi, zM, zI, qs_bI, qs_bV, qb_0, b1, e1, n10, e176, q0, nT, q1, q2, q3, x1, x2, x3, x4, Bool.true_eq_false, Nat.reduceSub, Nat.reduceLeDiff, Nat.reduceLT, true_and, and_true, and_self, if_true, if_false]
    · have k1 := m_gno (d := d + 114) (p := 0) (k := 0) (o4 := oo) (w := w) hn96 r4 r6 g0 (fun c => absurd c.2.2 (by omega)) (by
        by_cases c : s_si t2 = 0
        · exact Or.inl c
        · rcases r11 c with e | e
          · have := s_rk_6 (s_si t2)
            omega
          · exact Or.inr e) (by omega)
      refine Or.inl ⟨t2.2.1, u3, v4, by omega, ?_, fAu _ r3.1, failR _ _ (r2.trans k1) r4.2.1.2.1, fBv _ r4.1 (fun i hi => by rw [r4.2.2.2.2.2.2.2 i hi]; exact qb_01 _)⟩
      have y0 : ¬ nI t2.1 = 0 := fun q => g0 ((nI_eq (b := 0) (by have := r6.2.1; omega) (by omega)).mp q)
      refine (bq_31_0 (d + 118) 48 (QM u w)).trans ?_
      simp only [QM_kd, QM_sz, QM_lk, QM_i, QM_wi, zI, qs_bI, qs_bV, qb_0, z, a1, n10, d1, r1, y3, y4, y0, Bool.true_eq_false, Nat.reduceSub, Nat.reduceLeDiff, Nat.reduceLT, true_and, and_true, and_self, if_true, if_false]
