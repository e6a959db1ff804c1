/-! TEXT, call by call: the call -/
theorem QM_inj {u v : Nat → Nat → Int32} {w : Nat → Nat → Int64} (h : QM u w = QM v w) : u = v := by
  funext a b
  have := congrArg (fun m => qs_i m a b) h
  simpa only [QM_i] using this
theorem k_text : sOK 80 178 [] := by
  intro d u w h
  obtain ⟨e48, n, hn, hn9, hn3⟩ := h.2.2.2.2.2.1
  have hKu : iKs u := h.2.2.2.2.2.2
  have hb : ∀ k, k < n → u 122 k = nI (u 122 k).toNatClampNeg ∧ (u 122 k).toNatClampNeg ≤ 255 := fun k hk => by
    obtain ⟨-, B, b1, b2⟩ := hn3 k hk
    rw [b2, nI_clamp (by omega)]
    exact ⟨rfl, b1⟩
  have hs : s_tp (fun k => (u 122 k).toNatClampNeg) n := ⟨hn, fun k hk => (hb k hk).2⟩
  have htC : tpC u (fun k => (u 122 k).toNatClampNeg) n := ⟨by rw [e48, hn9], fun k hk => by rw [(hn3 k hk).1]; exact (hb k hk).1⟩
  have htR : ∀ y, y 116 = u 116 → y 122 = u 122 → tpR y (fun k => (u 122 k).toNatClampNeg) n := fun y q1 q2 => ⟨by rw [q1, hn9], fun k hk => by rw [q2]; exact (hb k hk).1⟩
  obtain ⟨M, hC, H, b1, b2⟩ := h.1
  obtain ⟨-, hP, hG, -, -⟩ := hC
  obtain ⟨T, t1, t2, -⟩ := hG.2.2.2.2.1
  have u14 : u 52 14 = nI T := by rw [hP.2.2.2.2.2.2.2.2.2.2.2.1, t1]
  have z := zQ
  have zp := zP_52
  unfold zPp at zp
  have iP : ∀ P, P ≤ 96 → nI P ≠ -1000000005 := fun P hP c => by
    have : (0 : Int32) ≤ nI P := nI_pos' (by omega)
    rw [c] at this
    exact absurd this (by decide)
  rcases s_text (d := d) (w := w) hs htC (htR u rfl rfl) hKu hKu with ⟨P, u1, -, p1, p2, p3, -⟩ | ⟨u1, -, E, a, key, q, p2, p3, p4, p5, p6, p7, p8, p9, p10, p11, p12, -⟩
  · -- a fault
    have hy : ∀ x, x ≠ 48 → x ≠ 50 → x ≠ 51 → qu u1 48 2 0 x = u x := fun x x1 x2 x3 => by rw [qu_ne _ _ _ x1, p3.1 x x1 x2 x3]
    have c80 : qs_call (d + 120) 80 [.ref 16] (QM u w) = some (some (.int (-100 - nI P)), QM (qu u1 48 2 0) w) := by
      have nn := iP P p1
      refine (bq_80_0 (d + 119) 16 (QM u w)).trans ?_
      simp only [QM_kd, QM_sz, QM_lk, QM_i, QM_wi, zI, qs_bI, qs_bV, qb_0, z, p2, nn, Bool.true_eq_false, Nat.reduceSub, Nat.reduceLeDiff, Nat.reduceLT, true_and, and_true, and_self, if_true, if_false]
    rcases s_text (d := d) (w := w) hs htC (htR (qu u1 48 2 0) (hy 116 (by omega) (by omega) (by omega)) (hy 122 (by omega) (by omega) (by omega))) hKu (iKs_f hKu (fun x hx => hy x (by omega) (by omega) (by omega))) with ⟨P2, u2, v2, r1, r2, r3, r4, r5⟩ | ⟨u2, v2, E, a, key, q, r2, -⟩
    · rw [p2] at r2
      have eP : nI P = nI P2 := by
        have := congrArg (fun x => match x with | some (some (.int y), _) => y | _ => 0) r2
        exact this
      rw [← eP] at r4
      exact ⟨_, _, _, w, c80, r4, inv_tx h hy r5 (by simp [qu])⟩
    · rw [p2] at r2
      have eP : nI P = -1000000005 := by
        have := congrArg (fun x => match x with | some (some (.int y), _) => y | _ => 0) r2
        exact this
      exact absurd eP (iP P p1)
  · have h52 : u1 52 14 = nI T := by rw [p3.1 52 (by omega) (by omega) (by omega), u14]
    by_cases g14 : T = 14
    · -- FULL
      have hy : ∀ x, x ≠ 48 → x ≠ 50 → x ≠ 51 → qu u1 48 2 0 x = u x := fun x x1 x2 x3 => by rw [qu_ne _ _ _ x1, p3.1 x x1 x2 x3]
      have c80 : qs_call (d + 120) 80 [.ref 16] (QM u w) = some (some (.int (-1000000003)), QM (qu u1 48 2 0) w) := by
        have s13 : s_in (nI T) 0 13 = false := by rw [g14]; decide
        have q52 : ∀ y, qu u1 48 2 y 52 14 = nI T := fun y => by rw [qu_ne _ _ _ (by omega), h52]
        refine (bq_80_0 (d + 119) 16 (QM u w)).trans ?_
        simp only [QM_kd, QM_sz, QM_lk, QM_i, QM_wi, zI, qs_bI, qs_bV, qb_0, z, zp, p2, c_97, q52, s13, Bool.true_eq_false, Nat.reduceSub, Nat.reduceLeDiff, Nat.reduceLT, true_and, and_true, and_self, if_true, if_false]
      rcases s_text (d := d) (w := w) hs htC (htR (qu u1 48 2 0) (hy 116 (by omega) (by omega) (by omega)) (hy 122 (by omega) (by omega) (by omega))) hKu (iKs_f hKu (fun x hx => hy x (by omega) (by omega) (by omega))) with ⟨P2, u2, v2, r1, r2, r3, r4, r5⟩ | ⟨u2, v2, E2, a2, key2, q2, r2, r3, r4, r5, r6, r7, r8, r9, r10, r11, r12, r13, r14, r15, r16, r17, r18, r19⟩
      · rw [p2] at r2
        have eP : -1000000005 = nI P2 := by
          have := congrArg (fun x => match x with | some (some (.int y), _) => y | _ => 0) r2
          exact this
        exact absurd eP.symm (iP P2 r1)
      · exact ⟨_, _, _, w, c80, r18 (by rw [hy 117 (by omega) (by omega) (by omega), t1, g14]; rfl), inv_tx h hy r13 (by simp [qu])⟩
    · -- a text more
      have hT : T < 14 := by omega
      obtain ⟨u3, o1, o2, o3, o4, o5, o6⟩ := c_50 (d := d + 118) (u := qu u1 48 2 0) (w := w) hT p12 (by rw [qu_ne _ _ _ (by omega)]; exact p7)
      rw [qu_ne _ _ _ (by omega)] at o2 o4 o5
      have hY : ∀ x, x ≠ 48 → x ≠ 50 → x ≠ 51 → x ≠ 52 → x ≠ 54 → x ≠ 20 + 2 * T → x ≠ 21 + 2 * T → qu (qu u3 54 key (nI T)) 52 14 (nI (T + 1)) x = u x := fun x x1 x2 x3 x4 x5 x6 x7 => by
        rw [qu_ne _ _ _ x4, qu_ne _ _ _ x5, o6 x x6 x7, qu_ne _ _ _ x1, p3.1 x x1 x2 x3]
      have c80 : qs_call (d + 120) 80 [.ref 16] (QM u w) = some (some (.int (nI T)), QM (qu (qu u3 54 key (nI T)) 52 14 (nI (T + 1))) w) := by
        have s13 : s_in (nI T) 0 13 = true := s_in_nk rfl (nI_pos' (by omega)) (nI_le (b := 13) (by omega) (by omega))
        have q52 : ∀ y, qu u1 48 2 y 52 14 = nI T := fun y => by rw [qu_ne _ _ _ (by omega), h52]
        have e3 : (nI T).toNatClampNeg = T ∧ 0 ≤ nI T ∧ T < 14 := ⟨nI_clamp (by omega), nI_pos' (by omega), hT⟩
        have e4 : (nI key).toNatClampNeg = key ∧ 0 ≤ nI key ∧ key < 3 := ⟨nI_clamp (by omega), nI_pos' (by omega), p5⟩
        have o50 : u3 50 1 = nI key := by rw [o6 50 (by omega) (by omega), qu_ne _ _ _ (by omega), p4]
        have n10 : ¬ qb true = 0 := by decide
        have zt := zT hT
        unfold zTt at zt
        have e16 : 16 ≤ 20 + 2 * T := by omega
        have z0 : qs_lk qy_m 16 0 = 19 := qy_lk (by decide) (by decide)
        have z1 : qs_lk qy_m 17 0 = 20 := qy_lk (by decide) (by decide)
        rw [nI_succ]
        refine (bq_80_0 (d + 119) 16 (QM u w)).trans ?_
        simp only [QM_kd, QM_sz, QM_lk, QM_i, QM_wi, zI, qs_bI, qs_bV, qb_0, z, zp, zt, z0, z1, p2, c_97, q52, s13, n10, e3, e4, o1, o50, e16, Nat.reduceAdd, Nat.add_sub_cancel, Nat.le_add_left, Bool.true_eq_false, Nat.reduceSub, Nat.reduceLeDiff, Nat.reduceLT, true_and, and_true, and_self, if_true, if_false]
      rcases s_text (d := d) (w := w) hs htC (htR (qu (qu u3 54 key (nI T)) 52 14 (nI (T + 1))) (hY 116 (by omega) (by omega) (by omega) (by omega) (by omega) (by omega) (by omega)) (hY 122 (by omega) (by omega) (by omega) (by omega) (by omega) (by omega) (by omega))) hKu (iKs_f hKu (fun x hx => hY x (by omega) (by omega) (by omega) (by omega) (by omega) (by omega) (by omega))) with ⟨P2, u2, v2, r1, r2, r3, r4, r5⟩ | ⟨u2, v2, E2, a2, key2, q2, r2, r3, r4, r5, r6, r7, r8, r9, r10, r11, r12, r13, r14, r15, r16, r17, r18, r19⟩
      · rw [p2] at r2
        have eP : -1000000005 = nI P2 := by
          have := congrArg (fun x => match x with | some (some (.int y), _) => y | _ => 0) r2
          exact this
        exact absurd eP.symm (iP P2 r1)
      · rw [p2] at r2
        have eu : u1 = u2 := by
          have := congrArg (fun x => match x with | some (_, m) => m | _ => QM u1 w) r2
          exact QM_inj this
        subst eu
        have ek : key = key2 := (nI_eq (by omega) (by omega)).mp (by rw [← p4, r4])
        subst ek
        have eN : E.length = E2.length := (nI_eq (by omega) (by omega)).mp (by rw [← p7, r7])
        have Y117 := hY 117 (by omega) (by omega) (by omega) (by omega) (by omega) (by omega) (by omega)
        obtain ⟨o, k1⟩ := r19 T hT (by rw [Y117, t1])
        obtain ⟨f1, f2, f3⟩ := r13
        have v117 : v2 117 = u 117 := by rw [f1 117 (by omega) (by omega) (by omega) (by omega), Y117]
        obtain ⟨v5, j1, j2, j3, j4, j5⟩ := m_178L (d := d + 119) (o := o) (w := w) hT r12 E2.length 0 (qu (qu (qu v2 116 9 0) 117 (76 + 2 * T) (1000 * nI key + nI E2.length)) 117 (77 + 2 * T) (nI a2)) (by omega) (by rw [qu_ne _ _ _ (by omega), qu_ne _ _ _ (by omega), qu_at, if_neg (by omega), r15]) (by rw [qu_at, if_neg (by omega), qu_at, if_neg (by omega), qu_ne _ _ _ (by omega), v117, t1]) (fun j hj => by omega)
        rw [nI_0] at j1
        have v5o : ∀ x, x ≠ 116 → x ≠ 117 → v5 x = v2 x := fun x x1 x2 => by rw [j5 x x2, qu_ne _ _ _ x2, qu_ne _ _ _ x2, qu_ne _ _ _ x1]
        have hR : ∀ i, i ≠ 11 → i ≠ 76 + 2 * T → i ≠ 77 + 2 * T → ¬ (104 + 96 * T ≤ i ∧ i < 104 + 96 * T + 96) → v5 117 i = u 117 i := fun i i1 i2 i3 i4 => by
          rw [j4 i i1 i4, qu_at, if_neg (by omega), qu_at, if_neg (by omega), qu_ne _ _ _ (by omega), v117]
        refine ⟨nI T, _, v5, w, c80, k1.trans j1, ?_⟩
        have hnew : sNew (u 117) (v5 117) T key E2.length (v2 125) (nI a2) := by
          refine ⟨fun i i1 i2 => hR i i2 (by omega) (by omega) (by omega), j3, fun t ht => ⟨hR _ (by omega) (by omega) (by omega) (by omega), hR _ (by omega) (by omega) (by omega) (by omega), fun k hk => hR _ (by omega) (by omega) (by omega) (by omega)⟩, ?_, ?_, fun k hk => ?_⟩
          · rw [j4 _ (by omega) (by omega), qu_at, if_neg (by omega), qu_at, if_pos ⟨rfl, rfl⟩]
          · rw [j4 _ (by omega) (by omega), qu_at, if_pos ⟨rfl, rfl⟩]
          · rw [j2 k hk, qu_ne _ _ _ (by omega), qu_ne _ _ _ (by omega), qu_ne _ _ _ (by omega)]
        refine inv_tx2 (y := qu (qu u3 54 key (nI T)) 52 14 (nI (T + 1))) h t1 hT p5 r12 r6 (wfl_s r16 r10) (by rw [dpl_s r16, r11]) hnew hY ?_ (fun j hj => ?_) (by simp [qu]) (fun k hk => ?_) ?_ ?_ ?_ (fun k hk => ?_) (fun x x1 x2 x3 x4 x5 => by rw [v5o x x1 x2, f1 x x1 x3 x4 x5]) (fun f c1 c2 c3 c4 => ?_) ?_ (fun i hi => by rw [v5o 127 (by omega) (by omega)]; exact f3 i hi) rfl
        · rw [qu_ne _ _ _ (by omega), qu_ne _ _ _ (by omega), o6 48 (by omega) (by omega)]
          simp [qu]
        · rw [qu_at, if_neg (by omega), qu_ne _ _ _ (by omega), o6 52 (by omega) (by omega), qu_ne _ _ _ (by omega), p3.1 52 (by omega) (by omega) (by omega)]
        · rw [qu_ne _ _ _ (by omega), qu_at]
          by_cases c : k = key
          · rw [if_pos ⟨rfl, c⟩, if_pos c]
          · rw [if_neg (by omega), if_neg c, o6 54 (by omega) (by omega), qu_ne _ _ _ (by omega), p3.1 54 (by omega) (by omega) (by omega)]
        · rw [qu_ne _ _ _ (by omega), qu_ne _ _ _ (by omega), o2, p4]
        · rw [qu_ne _ _ _ (by omega), qu_ne _ _ _ (by omega), o3, eN]
        · rw [qu_ne _ _ _ (by omega), qu_ne _ _ _ (by omega), o4, r9]
        · rw [qu_ne _ _ _ (by omega), qu_ne _ _ _ (by omega), o5 k (by omega)]
          exact lst_tr r8 r16 k hk
        · rw [j5 116 (by omega), qu_ne _ _ _ (by omega), qu_ne _ _ _ (by omega), qu_at, if_neg (by omega), f2 f c1 c2 c3 c4]
        · rw [j5 116 (by omega), qu_ne _ _ _ (by omega), qu_ne _ _ _ (by omega)]
          simp [qu]
