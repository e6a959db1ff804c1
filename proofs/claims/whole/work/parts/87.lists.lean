/-! TEXT: a piece on the other side; lists of codes -/
theorem s_tr_num {N : Nat} (h : N ≤ 9999) : s_tr (nI N) = nI N := by
  unfold s_tr
  rw [if_neg (show ¬ (10000 : Int32) ≤ nI N from nI_ge (b := 10000) (by omega) (by omega)), if_pos (nI_pos' (by omega))]
theorem s_tr_nm : ∀ m, m < 9 → s_tr (nI (10000 + m)) = -1 - nI m := by decide
theorem c_39o_no {d n key : Nat} {u v : Nat → Nat → Int32} {w : Nat → Nat → Int64} {t : s_Tk} {D : List Int32} {a : Nat} {o1 o2 o3 : Option Value} (hn : n ≤ 96) (hS : cS u v t D a) (ok : tOK t n) (hK : iKs v) (hk : u 50 1 = nI key) (hk2 : key < 3) (g : s_pt key t = none) : qs_EV (d + 6) 39 115 [some (.ref 48), o1, o2, o3] [] (QM v w) = some (some (.int 0), QM v w) := by
  obtain ⟨⟨f1, f2, f3⟩, ht, -⟩ := hS
  have hk' : v 50 1 = nI key := by rw [f3 1 (by omega) (by omega), hk]
  have a1 := c_40 (d := d) (w := w) (u := v) (b := fun _ => 0) hK hk' hk2 ht ok hn
  obtain ⟨h3, h4, h5, h6⟩ := ht
  have o2' := ok.2.1
  have z := zQ
  unfold s_pt at g
  by_cases c2 : t.1 = 2
  · rw [if_pos c2] at g
    cases g
  rw [if_neg c2] at g
  have n2 : ¬ nI t.1 = 2 := fun q => c2 ((nI_eq (b := 2) (by omega) (by omega)).mp q)
  by_cases cc : t.1 = 1 ∧ t.2.2.1 = t.2.1 + 1 ∧ s_nm key t.2.2.2.toNatClampNeg ≠ 9
  · rw [if_pos cc] at g
    cases g
  rw [if_neg cc] at a1
  refine (bq_39_115 (d + 6) 48 _ _ _ (QM v w)).trans ?_
  simp only [QM_kd, QM_sz, QM_lk, QM_i, QM_wi, zI, qs_bI, qs_bV, qb_0, z, h3, n2, a1, true_or, Bool.true_eq_false, Nat.reduceSub, Nat.reduceLeDiff, Nat.reduceLT, true_and, and_true, and_self, if_true, if_false]
theorem cS_pc {u v : Nat → Nat → Int32} {t : s_Tk} {D : List Int32} {a : Nat} (h : cS u v t D a) : cS u (qu v 50 3 (nI (a + 1))) t D (a + 1) := by
  obtain ⟨⟨f1, f2, f3⟩, h1, h2, h3, h4⟩ := h
  exact ⟨⟨fun y y1 y2 y3 => by rw [qu_ne _ _ _ y2, f1 y y1 y2 y3], fun j hj => by rw [qu_ne _ _ _ (by omega), f2 j hj], fun j k1 k2 => by rw [qu_at, if_neg (by omega), f3 j k1 k2]⟩, tC_f h1 (by rw [qu_ne _ _ _ (by omega)]), by simp [qu, h2], by rw [qu_ne _ _ _ (by omega)]; exact h3, by simp [qu]⟩
theorem c_39o_ok {d n key : Nat} {b : Nat → Nat} {u v : Nat → Nat → Int32} {w : Nat → Nat → Int64} {t : s_Tk} {D : List Int32} {a : Nat} {o1 o2 o3 : Option Value} {c : Int32} (h : s_tp b n) (hu : tpC u b n) (hS : cS u v t D a) (ok : tOK t n) (hK : iKs v) (hk : u 50 1 = nI key) (hk2 : key < 3) (hD : D.length < 96) (g : s_pt key t = some c) : ∃ v', qs_EV (d + 6) 39 115 [some (.ref 48), o1, o2, o3] [] (QM v w) = some (some (.int 1), QM v' w) ∧ cS u v' (s_nx b n t) (s_tr c :: D) (a + 1) := by
  have hS0 := hS
  obtain ⟨⟨f1, f2, f3⟩, ht, -, -, h503⟩ := hS
  have hk' : v 50 1 = nI key := by rw [f3 1 (by omega) (by omega), hk]
  have a1 := c_40 (d := d) (w := w) (u := v) (b := b) hK hk' hk2 ht ok h.1
  obtain ⟨h3, h4, h5, h6⟩ := ht
  have o2' := ok.2.1
  have z := zQ
  obtain ⟨v1, i1, i2⟩ := c_put (d := d + 5) (w := w) (x := s_tr c) hS0 hD
  have i503 := i2.2.2.2.2
  obtain ⟨v2, j1, j2⟩ := c_adv (d := d + 3) (w := w) h hu (cS_pc i2) ok
  refine ⟨v2, ?_, j2⟩
  rw [nI_succ] at j1
  unfold s_pt at g
  by_cases c2 : t.1 = 2
  · rw [if_pos c2] at g
    cases g
    obtain ⟨N, hN, hv⟩ := ok.2.2.2.2.1 c2
    have c2' : nI t.1 = 2 := by rw [c2]; rfl
    rw [c2'] at h3
    rw [hv] at h6 i1
    rw [s_tr_num hN] at i1
    have nn : ¬ nI N = -1000000005 := fun q => by
      have : (0 : Int32) ≤ nI N := nI_pos' (by omega)
      rw [q] at this
      exact absurd this (by decide)
    refine (bq_39_115 (d + 6) 48 _ _ _ (QM v w)).trans ?_
    simp only [QM_kd, QM_sz, QM_lk, QM_i, QM_wi, zI, qs_bI, qs_bV, qb_0, z, h3, h6, nn, i1, i503, j1, Bool.true_eq_false, Nat.reduceSub, Nat.reduceLeDiff, Nat.reduceLT, true_and, and_true, and_self, if_true, if_false]
    rw [if_pos (by decide)]
  rw [if_neg c2] at g
  have n2 : ¬ nI t.1 = 2 := fun q => c2 ((nI_eq (b := 2) (by omega) (by omega)).mp q)
  by_cases cc : t.1 = 1 ∧ t.2.2.1 = t.2.1 + 1 ∧ s_nm key t.2.2.2.toNatClampNeg ≠ 9
  · rw [if_pos cc] at g a1
    cases g
    have hnm : s_nm key t.2.2.2.toNatClampNeg < 9 := by
      have h9 := cc.2.2
      unfold s_nm at h9 ⊢
      (repeat' split at h9) <;> (repeat' split) <;> omega
    rw [s_tr_nm _ hnm] at i1
    have nn : ∀ m, m < 9 → ¬ (-1 - nI m) = (-1000000005 : Int32) := by decide
    have nn := nn _ hnm
    refine (bq_39_115 (d + 6) 48 _ _ _ (QM v w)).trans ?_
    simp only [QM_kd, QM_sz, QM_lk, QM_i, QM_wi, zI, qs_bI, qs_bV, qb_0, z, h3, n2, a1, nn, i1, i503, j1, Bool.true_eq_false, Nat.reduceSub, Nat.reduceLeDiff, Nat.reduceLT, true_and, and_true, and_self, if_true, if_false]
    rw [if_pos (by decide)]
  · rw [if_neg cc] at g
    cases g
theorem c_39p {d n p k : Nat} {u v : Nat → Nat → Int32} {w : Nat → Nat → Int64} {t : s_Tk} {D : List Int32} {a : Nat} (hS : cS u v t D a) (ok : tOK t n) (hp : p ≤ 8) (hk8 : k ≤ 8) (g1 : ¬ (t.1 = 3 ∧ t.2.2.2 = 33 ∧ k < 8)) (g2 : ¬ (t.1 = 3 ∧ t.2.2.2 = 40 ∧ p < 8)) : qs_EV d 39 0 [some (.ref 48), some (.int (nI p)), some (.int (nI k)), none] [] (QM v w) = qs_EV d 39 115 [some (.ref 48), some (.int (nI p)), some (.int (nI k)), none] [] (QM v w) := by
  obtain ⟨-, ⟨h3, h4, h5, h6⟩, -⟩ := hS
  have o2 := ok.2.1
  have z := zQ
  refine (bq_39_0 d 48 _ _ (QM v w)).trans ?_
  by_cases g3 : t.1 = 3
  · have c3' : nI t.1 = 3 := by rw [g3]; rfl
    rw [c3'] at h3
    by_cases gw : t.2.2.2 = 40
    · have n8 : (8 : Int32) ≤ nI p := nI_le (a := 8) (Decidable.byContradiction fun c => g2 ⟨g3, gw, by omega⟩) (by omega)
      have n33 : ¬ (40 : Int32) = 33 := by decide
      rw [gw] at h6
      simp only [QM_kd, QM_sz, QM_lk, QM_i, QM_wi, zI, qs_bI, qs_bV, qb_0, z, h3, h6, n8, n33, Bool.true_eq_false, Nat.reduceSub, Nat.reduceLeDiff, Nat.reduceLT, true_and, and_true, and_self, if_true, if_false]
    by_cases gv : t.2.2.2 = 33
    · have n8 : (8 : Int32) ≤ nI k := nI_le (a := 8) (Decidable.byContradiction fun c => g1 ⟨g3, gv, by omega⟩) (by omega)
      have n40 : ¬ (33 : Int32) = 40 := by decide
      rw [gv] at h6
      simp only [QM_kd, QM_sz, QM_lk, QM_i, QM_wi, zI, qs_bI, qs_bV, qb_0, z, h3, h6, n8, n40, Bool.true_eq_false, Nat.reduceSub, Nat.reduceLeDiff, Nat.reduceLT, true_and, and_true, and_self, if_true, if_false]
    · simp only [QM_kd, QM_sz, QM_lk, QM_i, QM_wi, zI, qs_bI, qs_bV, qb_0, z, h3, h6, gv, gw, Bool.true_eq_false, Nat.reduceSub, Nat.reduceLeDiff, Nat.reduceLT, true_and, and_true, and_self, if_true, if_false]
  · have n3 : ¬ nI t.1 = 3 := fun q => g3 ((nI_eq (b := 3) (by omega) (by omega)).mp q)
    simp only [QM_kd, QM_sz, QM_lk, QM_i, QM_wi, zI, qs_bI, qs_bV, qb_0, z, h3, n3, Bool.true_eq_false, Nat.reduceSub, Nat.reduceLeDiff, Nat.reduceLT, true_and, and_true, and_self, if_true, if_false]
def dpl : List Int32 → Nat
  | [] => 0
  | c :: l => if 0 ≤ c then dpl l + 1 else if c = -10 then dpl l else dpl l - 1
def wfl (q : Nat) : List Int32 → Prop
  | [] => True
  | c :: l => wfl q l ∧ ((0 ≤ c ∧ (¬ 10000 ≤ c ∨ ∃ f, f < q ∧ c = nI (10000 + f))) ∨ (c = -10 ∧ 1 ≤ dpl l) ∨ (¬ 0 ≤ c ∧ c ≠ -10 ∧ 2 ≤ dpl l))
def nts (m : Nat) (l : List Int32) : List Int32 := match m with
  | 0 => l
  | m + 1 => -10 :: nts m l
theorem nts_len (l : List Int32) : ∀ m, (nts m l).length = m + l.length
  | 0 => by simp [nts]
  | m + 1 => by
    have := nts_len l m
    simp only [nts, List.length_cons, this]
    omega
theorem nts_in (l : List Int32) : ∀ m, nts m (-10 :: l) = -10 :: nts m l
  | 0 => rfl
  | m + 1 => by
    show -10 :: nts m (-10 :: l) = -10 :: -10 :: nts m l
    rw [nts_in l m]
theorem nts_nn (l : List Int32) : ∀ m, s_nn (nts m l) = m + s_nn l
  | 0 => by simp [nts]
  | m + 1 => by
    have := nts_nn l m
    show s_nn (nts m l) + (if (-10 : Int32) = -10 then 1 else 0) = _
    rw [this, if_pos rfl]
    omega
def topOK (k : Nat) (W : List Int32) : Prop := ∀ x W', W = x :: W' → x = -11 ∨ s_rk x < k
theorem pop_stop {k : Nat} {W C : List Int32} (h : topOK k W) : s_pop k W C = (W, C) := by
  cases W with
  | nil => rfl
  | cons x W' =>
    unfold s_pop
    rw [if_pos (h x W' rfl)]
theorem pop_nts {W : List Int32} (h : topOK 6 W) : ∀ m C, s_pop 6 (nts m W) C = (W, nts m C)
  | 0, C => pop_stop h
  | m + 1, C => by
    show s_pop 6 (-10 :: nts m W) C = _
    unfold s_pop
    rw [if_neg (by decide), pop_nts h m, nts_in]
    rfl
theorem pop_X {k : Nat} {W : List Int32} (h : topOK k W) : ∀ X C, (∀ x, x ∈ X → x ≠ -11 ∧ k ≤ s_rk x) → s_pop k (X ++ W) C = (W, X.reverse ++ C)
  | [], C, _ => pop_stop h
  | x :: X, C, g => by
    show s_pop k (x :: (X ++ W)) C = _
    have g1 := g x List.mem_cons_self
    unfold s_pop
    rw [if_neg (fun c => c.elim g1.1 (by omega)), pop_X h X (x :: C) (fun y hy => g y (List.mem_cons_of_mem _ hy))]
    simp
theorem nn_X {W : List Int32} : ∀ X, (∀ x, x ∈ X → x ≠ -10) → s_nn (X ++ W) = s_nn W
  | [], _ => rfl
  | x :: X, g => by
    show s_nn (X ++ W) + (if x = -10 then 1 else 0) = _
    rw [if_neg (g x List.mem_cons_self), nn_X X (fun y hy => g y (List.mem_cons_of_mem _ hy))]
    rfl
