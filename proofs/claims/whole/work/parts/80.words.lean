/-! TEXT: keys and names -/
theorem qz_str : ((List.range 6).all (fun a => decide (qs_lk qz_m (a + 2) 0 = a + 10) && decide (qs_lk qz_m (a + 2) 1 = 0))) = true := by decide +kernel
theorem qy_str {a : Nat} (h : a < 6) : qs_lk qy_m (a + 2) 0 = a + 10 ∧ qs_lk qy_m (a + 2) 1 = 0 := by
  have h1 := List.all_eq_true.mp qz_str a (List.mem_range.mpr h)
  rw [Bool.and_eq_true] at h1
  rw [qy_eq]
  exact ⟨of_decide_eq_true h1.1, of_decide_eq_true h1.2⟩
theorem zK : qs_kd qy_m 2 = 90 ∧ qs_kd qy_m 3 = 90 ∧ qs_kd qy_m 4 = 90 ∧ qs_kd qy_m 5 = 90 ∧ qs_kd qy_m 6 = 90 ∧ qs_kd qy_m 7 = 90 ∧ qs_kd qy_m 8 = 24 ∧ qs_kd qy_m 9 = 24 ∧ qs_kd qy_m 10 = 24 ∧ qs_kd qy_m 11 = 24 ∧ qs_kd qy_m 12 = 24 ∧ qs_kd qy_m 13 = 24 ∧ qs_sz qy_m 8 = 4 ∧ qs_sz qy_m 9 = 3 ∧ qs_sz qy_m 10 = 4 ∧ qs_sz qy_m 11 = 3 ∧ qs_sz qy_m 12 = 2 ∧ qs_sz qy_m 13 = 2 ∧ qs_lk qy_m 2 0 = 10 ∧ qs_lk qy_m 3 0 = 11 ∧ qs_lk qy_m 4 0 = 12 ∧ qs_lk qy_m 5 0 = 13 ∧ qs_lk qy_m 6 0 = 14 ∧ qs_lk qy_m 7 0 = 15 ∧ qs_lk qy_m 2 1 = 0 ∧ qs_lk qy_m 3 1 = 0 ∧ qs_lk qy_m 4 1 = 0 ∧ qs_lk qy_m 5 1 = 0 ∧ qs_lk qy_m 6 1 = 0 ∧ qs_lk qy_m 7 1 = 0 :=
  ⟨(qy_kd (by decide)).1, (qy_kd (by decide)).1, (qy_kd (by decide)).1, (qy_kd (by decide)).1, (qy_kd (by decide)).1, (qy_kd (by decide)).1, (qy_kd (by decide)).1, (qy_kd (by decide)).1, (qy_kd (by decide)).1, (qy_kd (by decide)).1, (qy_kd (by decide)).1, (qy_kd (by decide)).1, (qy_kd (by decide)).2, (qy_kd (by decide)).2, (qy_kd (by decide)).2, (qy_kd (by decide)).2, (qy_kd (by decide)).2, (qy_kd (by decide)).2, (qy_str (a := 0) (by omega)).1, (qy_str (a := 1) (by omega)).1, (qy_str (a := 2) (by omega)).1, (qy_str (a := 3) (by omega)).1, (qy_str (a := 4) (by omega)).1, (qy_str (a := 5) (by omega)).1, (qy_str (a := 0) (by omega)).2, (qy_str (a := 1) (by omega)).2, (qy_str (a := 2) (by omega)).2, (qy_str (a := 3) (by omega)).2, (qy_str (a := 4) (by omega)).2, (qy_str (a := 5) (by omega)).2⟩
/-- a word of the program: its cells, its length, its letters -/
def zW (a c L : Nat) : Prop := qs_kd qy_m a = 90 ∧ qs_lk qy_m a 0 = c + 2 ∧ qs_lk qy_m a 1 = 0 ∧ qs_kd qy_m c = 24 ∧ qs_sz qy_m c = L ∧ 2 ≤ L ∧ L ≤ 4
def iW (u : Nat → Nat → Int32) (a c L : Nat) (l : Nat → Nat) : Prop := u a 1 = 0 ∧ ∀ i, i < L → l i ≤ 122 ∧ u c i = nI (l i)
theorem i_chr : ∀ x, x < 256 → (((nI x) &&& 255).toUInt32 % 65536).toInt32 = nI x ∧ ((nI x).toUInt32 % 65536).toInt32 = nI x ∧ decide (narrow .char (.int (nI x)) = .int (nI x)) = true := by decide +kernel
theorem i_8 : ∀ B, B < 256 → ∀ c, c ∈ [103, 114, 97, 100, 102, 116, 115] → decide (nI c = (nI B).toInt8.toInt32) = decide (B = c) := by decide +kernel
theorem c_200 {d a c L : Nat} {l : Nat → Nat} {u : Nat → Nat → Int32} {w : Nat → Nat → Int64} (hz : zW a c L) (h : iW u a c L l) : qs_call (d + 2) 200 [.ref a] (QM u w) = some (some (.int (nI L)), QM u w) := by
  have h1 := h.1
  have e : ∀ r, (Int32.ofNat L) >>> ((0 : Int32) &&& 31) = r → r = nI L := fun r e => by
    obtain ⟨_, _, _, _, _, h2, h4⟩ := hz
    rcases (by omega : L = 2 ∨ L = 3 ∨ L = 4) with rfl | rfl | rfl <;> (rw [← e]; rfl)
  have e := e _ rfl
  unfold zW at hz
  have f : qs_call (d + 1) 204 [.ref a] (QM u w) = some (some (.int 0), QM u w) := by
    refine (bq_204_0 d a (QM u w)).trans ?_
    rw [if_neg (by decide)]
    simp only [QM_kd, QM_sz, QM_lk, QM_i, QM_wi, zI, qs_bI, qs_bV, qb_0, hz, h1, Bool.true_eq_false, Nat.reduceSub, Nat.reduceLeDiff, Nat.reduceLT, true_and, and_true, and_self, if_true, if_false]
    rw [if_pos (by decide)]
  refine (bq_200_0 (d + 1) a (QM u w)).trans ?_
  simp only [QM_kd, QM_sz, QM_lk, QM_i, QM_wi, zI, qs_bI, qs_bV, qb_0, hz, f, Nat.add_sub_cancel, Nat.le_add_left, e, Bool.true_eq_false, Nat.reduceSub, Nat.reduceLeDiff, Nat.reduceLT, true_and, and_true, and_self, if_true, if_false]
theorem c_201 {d a c L i : Nat} {l : Nat → Nat} {u : Nat → Nat → Int32} {w : Nat → Nat → Int64} (hz : zW a c L) (h : iW u a c L l) (hi : i < L) : qs_call (d + 4) 201 [.ref a, .int (nI i)] (QM u w) = some (some (.int (nI (l i))), QM u w) := by
  obtain ⟨h1, h2⟩ := h
  have h2 := h2 i hi
  have hL : L ≤ 4 := hz.2.2.2.2.2.2
  unfold zW at hz
  have k := i_chr (l i) (by omega)
  have k3 := of_decide_eq_true k.2.2
  have f5 : ∀ d, qs_call (d + 1) 205 [.ref a] (QM u w) = some (some (.int 1), QM u w) := fun d => by
    refine (bq_205_0 d a (QM u w)).trans ?_
    rw [if_neg (by decide)]
    simp only [QM_kd, QM_sz, QM_lk, QM_i, QM_wi, zI, qs_bI, qs_bV, qb_0, hz, h1, Bool.true_eq_false, Nat.reduceSub, Nat.reduceLeDiff, Nat.reduceLT, true_and, and_true, and_self, if_true, if_false]
    rw [if_pos (by decide)]
  have g1 : ¬ nI i < 0 := nI_pos (by omega)
  have g2 : nI i < Int32.ofNat L := nI_lt hi (by omega)
  have f11 : qs_call (d + 1) 211 [.int (nI i), .int (Int32.ofNat L), .ref 14] (QM u w) = some (some (.int (nI i)), QM u w) := by
    refine (bq_211_0 d _ _ 14 (QM u w)).trans ?_
    rw [if_neg g1, if_pos g2]
  have f6 : qs_call (d + 2) 206 [.int (nI i), .int (Int32.ofNat L)] (QM u w) = some (none, QM u w) := by
    refine (bq_206_0 (d + 1) _ _ (QM u w)).trans ?_
    simp only [QM_kd, QM_sz, QM_lk, QM_i, QM_wi, zI, qs_bI, qs_bV, qb_0, f11, Bool.true_eq_false, Nat.reduceSub, Nat.reduceLeDiff, Nat.reduceLT, true_and, and_true, and_self, if_true, if_false]
  have e3 : (nI i).toNatClampNeg = i ∧ 0 ≤ nI i := ⟨nI_clamp (by omega), nI_pos' (by omega)⟩
  have f7 : qs_call (d + 3) 207 [.ref c, .int (nI i)] (QM u w) = some (some (.int (nI (l i))), QM u w) := by
    refine (bq_207_0 (d + 2) c _ (QM u w)).trans ?_
    simp only [QM_kd, QM_sz, QM_lk, QM_i, QM_wi, zI, qs_bI, qs_bV, qb_0, hz, f6, e3, hi, h2, k, k3, Bool.true_eq_false, Nat.reduceSub, Nat.reduceLeDiff, Nat.reduceLT, true_and, and_true, and_self, if_true, if_false]
  refine (bq_201_0 (d + 3) a _ (QM u w)).trans ?_
  simp only [QM_kd, QM_sz, QM_lk, QM_i, QM_wi, zI, qs_bI, qs_bV, qb_0, hz, f5, f7, Nat.add_sub_cancel, Nat.le_add_left, k3, Bool.true_eq_false, Nat.reduceSub, Nat.reduceLeDiff, Nat.reduceLT, true_and, and_true, and_self, if_true, if_false]
  rw [if_neg (by decide)]
def s_all (f : Nat → Bool) : Nat → Nat → Bool
  | 0, _ => true
  | r + 1, i => if f i = true then s_all f r (i + 1) else false
theorem c_36L {d a c L p n : Nat} {b : Nat → Nat} {l : Nat → Nat} {u : Nat → Nat → Int32} {w : Nat → Nat → Int64} (h : s_tp b n) (hu : tpC u b n) (hz : zW a c L) (hw : iW u a c L l) (hp : p + L ≤ n) (h4 : u 48 4 = nI p) : ∀ r i, i + r = L → qs_EV (d + 4) 36 28 [some (.ref 48), some (.ref a), some (.int (nI i))] [] (QM u w) = some (some (.int (qb (s_all (fun i => decide (b (p + i) = l i)) r i))), QM u w)
  | 0, i, e => by
    have a2 := c_200 (d := d + 2) (w := w) hz hw
    have e1 : nI L ≤ nI i := nI_le (by omega) (by have := hz.2.2.2.2.2.2; omega)
    have hk := hz.1
    refine (bq_36_28 (d + 4) 48 a _ (QM u w)).trans ?_
    simp only [QM_kd, QM_sz, QM_lk, QM_i, QM_wi, zI, qs_bI, qs_bV, qb_0, hk, a2, e1, Bool.true_eq_false, Nat.reduceSub, Nat.reduceLeDiff, Nat.reduceLT, true_and, and_true, and_self, if_true, if_false]
    rfl
  | r + 1, i, e => by
    have ih := c_36L (d := d) (w := w) h hu hz hw hp h4 r (i + 1) (by omega)
    have a2 := c_200 (d := d + 2) (w := w) hz hw
    have hn : n ≤ 96 := h.1
    have a3 := c_201 (d := d) (w := w) (i := i) hz hw (by omega)
    have e1 : ¬ nI L ≤ nI i := nI_ge (by omega) (by have := hz.2.2.2.2.2.2; omega)
    have hk := hz.1
    have z := zQ
    have e2 : nI p + nI i = nI (p + i) := nI_add _ _
    have e3 : ¬ (96 : Int32) ≤ nI (p + i) := nI_ge (b := 96) (by omega) (by omega)
    have e4 : (nI (p + i)).toNatClampNeg = p + i ∧ 0 ≤ nI (p + i) ∧ p + i < 96 := ⟨nI_clamp (by omega), nI_pos' (by omega), by omega⟩
    have e5 := hu.2 (p + i) (by omega)
    have hB := h.2 (p + i) (by omega)
    have hl := (hw.2 i (by omega)).1
    rw [nI_succ] at ih
    refine (bq_36_28 (d + 4) 48 a _ (QM u w)).trans ?_
    unfold s_all
    by_cases g : b (p + i) = l i
    · have g2 : nI (b (p + i)) = nI (l i) := by rw [g]
      rw [if_pos (decide_eq_true g)]
      simp only [QM_kd, QM_sz, QM_lk, QM_i, QM_wi, zI, qs_bI, qs_bV, qb_0, hk, z, a2, a3, e1, e2, e3, e4, e5, h4, g2, Bool.true_eq_false, Nat.reduceSub, Nat.reduceLeDiff, Nat.reduceLT, true_and, and_true, and_self, if_true, if_false]
      exact ih
    · have g2 : ¬ nI (b (p + i)) = nI (l i) := fun q => g ((nI_eq (by omega) (by omega)).mp q)
      rw [if_neg (show ¬ decide (b (p + i) = l i) = true by simpa using g)]
      simp only [QM_kd, QM_sz, QM_lk, QM_i, QM_wi, zI, qs_bI, qs_bV, qb_0, hk, z, a2, a3, e1, e2, e3, e4, e5, h4, g2, Bool.true_eq_false, Nat.reduceSub, Nat.reduceLeDiff, Nat.reduceLT, true_and, and_true, and_self, if_true, if_false]
      rfl
/-- whether the word that stands here is this one -/
def s_wd (b : Nat → Nat) (t : s_Tk) (L : Nat) (l : Nat → Nat) : Bool := decide (t.1 = 1 ∧ t.2.2.1 - t.2.1 = L) && s_all (fun i => decide (b (t.2.1 + i) = l i)) L 0
def tOK (t : s_Tk) (n : Nat) : Prop := t.2.1 ≤ n ∧ t.1 ≤ 4 ∧ (t.1 = 0 → t.2.1 = n) ∧ (t.1 ≠ 0 → t.2.1 < t.2.2.1 ∧ t.2.2.1 ≤ n) ∧ (t.1 = 2 → ∃ N, N ≤ 9999 ∧ t.2.2.2 = nI N) ∧ (t.1 = 3 → ∃ B, B ≤ 255 ∧ t.2.2.2 = nI B) ∧ (t.1 = 1 → t.2.2.1 = t.2.1 + 1 → ∃ B, B ≤ 255 ∧ t.2.2.2 = nI B) ∧ t.2.2.1 ≤ n
theorem c_36 {d a c L n : Nat} {b : Nat → Nat} {l : Nat → Nat} {u : Nat → Nat → Int32} {w : Nat → Nat → Int64} {t : s_Tk} (h : s_tp b n) (hu : tpC u b n) (hz : zW a c L) (hw : iW u a c L l) (ht : tC u t) (ok : tOK t n) : qs_call (d + 5) 36 [.ref 48, .ref a] (QM u w) = some (some (.int (qb (s_wd b t L l))), QM u w) := by
  obtain ⟨h3, h4, h5, -⟩ := ht
  have hn : n ≤ 96 := h.1
  have a2 := c_200 (d := d + 2) (w := w) hz hw
  have hk := hz.1
  have hL : L ≤ 4 := hz.2.2.2.2.2.2
  have z := zQ
  refine (bq_36_0 (d + 4) 48 a (QM u w)).trans ?_
  unfold s_wd
  obtain ⟨o1, o2, o3, o4, -⟩ := ok
  by_cases g : t.1 = 1
  · have g1 : nI t.1 = 1 := by rw [g]; rfl
    have o4 := o4 (by omega)
    have e1 : nI t.2.2.1 - nI t.2.1 = nI (t.2.2.1 - t.2.1) := nI_sub (by omega)
    by_cases g2 : t.2.2.1 - t.2.1 = L
    · rw [decide_eq_true (⟨g, g2⟩ : t.1 = 1 ∧ t.2.2.1 - t.2.1 = L)]
      have a3 := c_36L (d := d) (w := w) h hu hz hw (p := t.2.1) (by omega) h4 L 0 (by omega)
      rw [nI_0] at a3
      simp only [QM_kd, QM_sz, QM_lk, QM_i, QM_wi, zI, qs_bI, qs_bV, qb_0, z, hk, a2, h3, h4, h5, g1, e1, g2, a3, Bool.true_and, Bool.true_eq_false, Nat.reduceSub, Nat.reduceLeDiff, Nat.reduceLT, true_and, and_true, and_self, if_true, if_false]
    · have g3 : ¬ nI (t.2.2.1 - t.2.1) = nI L := fun q => g2 ((nI_eq (by omega) (by omega)).mp q)
      rw [decide_eq_false (fun c => g2 c.2 : ¬ (t.1 = 1 ∧ t.2.2.1 - t.2.1 = L))]
      simp only [QM_kd, QM_sz, QM_lk, QM_i, QM_wi, zI, qs_bI, qs_bV, qb_0, z, hk, a2, h3, h4, h5, g1, e1, g3, Bool.false_and, Bool.true_eq_false, Nat.reduceSub, Nat.reduceLeDiff, Nat.reduceLT, true_and, and_true, and_self, if_true, if_false]
      rfl
  · have g1 : ¬ nI t.1 = 1 := fun q => g ((nI_eq (b := 1) (by omega) (by omega)).mp q)
    rw [decide_eq_false (fun c => g c.1 : ¬ (t.1 = 1 ∧ t.2.2.1 - t.2.1 = L))]
    simp only [QM_kd, QM_sz, QM_lk, QM_i, QM_wi, zI, qs_bI, qs_bV, qb_0, z, hk, h3, g1, Bool.false_and, Bool.true_eq_false, Nat.reduceSub, Nat.reduceLeDiff, Nat.reduceLT, true_and, and_true, and_self, if_true, if_false]
    rfl
