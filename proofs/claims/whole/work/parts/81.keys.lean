/-! TEXT: keys and names, class and reference -/
def s_w0 (i : Nat) : Nat := [108, 101, 97, 107].getD i 0
def s_w1 (i : Nat) : Nat := [102, 101, 101].getD i 0
def s_w2 (i : Nat) : Nat := [102, 105, 110, 101].getD i 0
def s_key (b : Nat → Nat) (t : s_Tk) : Nat := if s_wd b t 4 s_w0 = true then 0 else if s_wd b t 3 s_w1 = true then 1 else if s_wd b t 4 s_w2 = true then 2 else 3
theorem iW_0 {u : Nat → Nat → Int32} (h : iKs u) : iW u 2 8 4 s_w0 ∧ iW u 3 9 3 s_w1 ∧ iW u 4 10 4 s_w2 := by
  obtain ⟨⟨a0, a1, a2, a3⟩, ⟨b0, b1, b2⟩, ⟨c0, c1, c2, c3⟩, -, -, -, -, -, -, -, -, k2, k3, k4, -⟩ := h
  refine ⟨⟨k2, fun i hi => ?_⟩, ⟨k3, fun i hi => ?_⟩, ⟨k4, fun i hi => ?_⟩⟩
  · rcases (by omega : i = 0 ∨ i = 1 ∨ i = 2 ∨ i = 3) with rfl | rfl | rfl | rfl
    · exact ⟨by decide, a0⟩
    · exact ⟨by decide, a1⟩
    · exact ⟨by decide, a2⟩
    · exact ⟨by decide, a3⟩
  · rcases (by omega : i = 0 ∨ i = 1 ∨ i = 2) with rfl | rfl | rfl
    · exact ⟨by decide, b0⟩
    · exact ⟨by decide, b1⟩
    · exact ⟨by decide, b2⟩
  · rcases (by omega : i = 0 ∨ i = 1 ∨ i = 2 ∨ i = 3) with rfl | rfl | rfl | rfl
    · exact ⟨by decide, c0⟩
    · exact ⟨by decide, c1⟩
    · exact ⟨by decide, c2⟩
    · exact ⟨by decide, c3⟩
theorem zW_0 : zW 2 8 4 ∧ zW 3 9 3 ∧ zW 4 10 4 := by
  have z := zK
  unfold zW
  simp only [z]
  decide
theorem c_35 {d n : Nat} {b : Nat → Nat} {u : Nat → Nat → Int32} {w : Nat → Nat → Int64} {t : s_Tk} (h : s_tp b n) (hu : tpC u b n) (hK : iKs u) (ht : tC u t) (ok : tOK t n) : ∃ v, qs_call (d + 6) 35 [.ref 48] (QM u w) = some (some (.int (if s_key b t = 3 then 0 else 1)), QM v w) ∧ (s_key b t = 3 → v = u) ∧ (s_key b t ≠ 3 → fr48 (qu u 50 1 (nI (s_key b t))) v ∧ tC v (s_nx b n t)) := by
  obtain ⟨i0, i1, i2⟩ := iW_0 hK
  obtain ⟨z0, z1, z2⟩ := zW_0
  have a0 := c_36 (d := d) (w := w) h hu z0 i0 ht ok
  have a1 := c_36 (d := d) (w := w) h hu z1 i1 ht ok
  have a2 := c_36 (d := d) (w := w) h hu z2 i2 ht ok
  have z := zQ
  have r1 : ¬ qb true = 0 := by decide
  have r0 : qb false = 0 := rfl
  have hq : ∀ k, ∃ v, qs_call (d + 5) 32 [.ref 48] (QM (qu u 50 1 (nI k)) w) = some (none, QM v w) ∧ fr48 (qu u 50 1 (nI k)) v ∧ tC v (s_nx b n t) := fun k =>
    c_32 (d := d + 2) (w := w) (u := qu u 50 1 (nI k)) h ⟨by rw [qu_ne _ _ _ (by omega)]; exact hu.1, by rw [qu_ne _ _ _ (by omega)]; exact hu.2⟩ (by rw [qu_ne _ _ _ (by omega)]; exact ht.1) ok.2.1 (by rw [qu_ne _ _ _ (by omega)]; exact ht.2.2.1) ok.2.2.2.2.2.2.2
  unfold s_key
  by_cases g0 : s_wd b t 4 s_w0 = true
  · rw [g0] at a0
    obtain ⟨v, e1, e2, e3⟩ := hq 0
    simp only [g0, if_true]
    refine ⟨v, ?_, fun c => by simp at c, fun _ => ⟨e2, e3⟩⟩
    refine (bq_35_0 (d + 5) 48 (QM u w)).trans ?_
    rw [nI_0] at e1
    simp only [QM_kd, QM_sz, QM_lk, QM_i, QM_wi, zI, qs_bI, qs_bV, qb_0, z, a0, r1, e1, Bool.true_eq_false, Nat.reduceSub, Nat.reduceLeDiff, Nat.reduceLT, true_and, and_true, and_self, if_true, if_false]
    rfl
  rw [show s_wd b t 4 s_w0 = false by simpa using g0] at a0
  simp only [g0, if_false]
  by_cases g1 : s_wd b t 3 s_w1 = true
  · rw [g1] at a1
    obtain ⟨v, e1, e2, e3⟩ := hq 1
    simp only [g1, if_true]
    refine ⟨v, ?_, fun c => by simp at c, fun _ => ⟨e2, e3⟩⟩
    refine (bq_35_0 (d + 5) 48 (QM u w)).trans ?_
    rw [show nI 1 = 1 from rfl] at e1
    simp only [QM_kd, QM_sz, QM_lk, QM_i, QM_wi, zI, qs_bI, qs_bV, qb_0, z, a0, a1, r0, r1, e1, Bool.true_eq_false, Nat.reduceSub, Nat.reduceLeDiff, Nat.reduceLT, true_and, and_true, and_self, if_true, if_false]
    rfl
  rw [show s_wd b t 3 s_w1 = false by simpa using g1] at a1
  simp only [g1, if_false]
  by_cases g2 : s_wd b t 4 s_w2 = true
  · rw [g2] at a2
    obtain ⟨v, e1, e2, e3⟩ := hq 2
    simp only [g2, if_true]
    refine ⟨v, ?_, fun c => by simp at c, fun _ => ⟨e2, e3⟩⟩
    refine (bq_35_0 (d + 5) 48 (QM u w)).trans ?_
    rw [show nI 2 = 2 from rfl] at e1
    simp only [QM_kd, QM_sz, QM_lk, QM_i, QM_wi, zI, qs_bI, qs_bV, qb_0, z, a0, a1, a2, r0, r1, e1, Bool.true_eq_false, Nat.reduceSub, Nat.reduceLeDiff, Nat.reduceLT, true_and, and_true, and_self, if_true, if_false]
    rfl
  rw [show s_wd b t 4 s_w2 = false by simpa using g2] at a2
  simp only [g2, if_false]
  refine ⟨u, ?_, fun _ => rfl, fun c => absurd rfl c⟩
  refine (bq_35_0 (d + 5) 48 (QM u w)).trans ?_
  simp only [QM_kd, QM_sz, QM_lk, QM_i, QM_wi, zI, qs_bI, qs_bV, qb_0, z, a0, a1, a2, r0, r1, Bool.true_eq_false, Nat.reduceSub, Nat.reduceLeDiff, Nat.reduceLT, true_and, and_true, and_self, if_true, if_false]
  rfl
def s_nm (key B : Nat) : Nat := if key = 0 then (if B = 103 then 0 else if B = 114 then 1 else if B = 97 then 2 else 9) else if key = 1 then (if B = 100 then 0 else if B = 102 then 1 else 9) else (if B = 116 then 0 else if B = 115 then 1 else 9)
theorem m_171 {d key B : Nat} {u : Nat → Nat → Int32} {w : Nat → Nat → Int64} (hk : u 116 15 = nI key) (hk2 : key < 3) (hB : B ≤ 255) : qs_call (d + 1) 171 [.ref 116, .int (nI B)] (QM u w) = some (some (.int (if s_nm key B = 9 then -1 else nI (s_nm key B))), QM u w) := by
  refine (bq_171_0 d 116 _ (QM u w)).trans ?_
  have e : ∀ a, a ≤ 255 → (nI B = nI a) = (B = a) := fun a ha => propext (nI_eq (by omega) (by omega))
  have e1 : (nI B = 103) = (B = 103) := e 103 (by omega)
  have e2 : (nI B = 114) = (B = 114) := e 114 (by omega)
  have e3 : (nI B = 97) = (B = 97) := e 97 (by omega)
  have e4 : (nI B = 100) = (B = 100) := e 100 (by omega)
  have e5 : (nI B = 102) = (B = 102) := e 102 (by omega)
  have e6 : (nI B = 116) = (B = 116) := e 116 (by omega)
  have e7 : (nI B = 115) = (B = 115) := e 115 (by omega)
  unfold s_nm
  rcases (by omega : key = 0 ∨ key = 1 ∨ key = 2) with rfl | rfl | rfl
  · have r0 : nI 0 = 0 := rfl
    simp only [QM_kd, QM_sz, QM_lk, QM_i, QM_wi, zM, zI, qs_bI, qs_bV, qb_0, hk, r0, e1, e2, e3, Bool.true_eq_false, Nat.reduceSub, Nat.reduceLeDiff, Nat.reduceLT, true_and, and_true, and_self, if_true, if_false]
    (repeat' split) <;> first | rfl | (exfalso; omega)
  · have r0 : nI 1 = 1 := rfl
    have r1 : ¬ (1 : Int32) = 0 := by decide
    have r2 : ¬ (1 : Nat) = 0 := by decide
    simp only [QM_kd, QM_sz, QM_lk, QM_i, QM_wi, zM, zI, qs_bI, qs_bV, qb_0, hk, r0, r1, r2, e4, e5, Bool.true_eq_false, Nat.reduceSub, Nat.reduceLeDiff, Nat.reduceLT, true_and, and_true, and_self, if_true, if_false]
    (repeat' split) <;> first | rfl | (exfalso; omega)
  · have r0 : nI 2 = 2 := rfl
    have r1 : ¬ (2 : Int32) = 0 := by decide
    have r3 : ¬ (2 : Int32) = 1 := by decide
    have r2 : ¬ (2 : Nat) = 0 := by decide
    have r4 : ¬ (2 : Nat) = 1 := by decide
    simp only [QM_kd, QM_sz, QM_lk, QM_i, QM_wi, zM, zI, qs_bI, qs_bV, qb_0, hk, r0, r1, r2, r3, r4, e6, e7, Bool.true_eq_false, Nat.reduceSub, Nat.reduceLeDiff, Nat.reduceLT, true_and, and_true, and_self, if_true, if_false]
    (repeat' split) <;> first | rfl | (exfalso; omega)
/-- where a letter stands in a word of two or three -/
theorem c_202 {d a c L B : Nat} {l : Nat → Nat} {u : Nat → Nat → Int32} {w : Nat → Nat → Int64} (hz : zW a c L) (h : iW u a c L l) (hl : ∀ i, i < L → l i ∈ [103, 114, 97, 100, 102, 116, 115]) (hB : B ≤ 255) (hL : L = 2 ∨ L = 3) : qs_call (d + 5) 202 [.ref a, .int (nI B)] (QM u w) = some (some (.int (if B = l 0 then 0 else if B = l 1 then 1 else if L = 3 ∧ B = l 2 then 2 else -1)), QM u w) := by
  have a2 := c_200 (d := d + 1) (w := w) hz h
  obtain ⟨h1, h2⟩ := h
  have hz0 := hz
  unfold zW at hz
  have f5 : ∀ d, qs_call (d + 1) 205 [.ref a] (QM u w) = some (some (.int 1), QM u w) := fun d => by
    refine (bq_205_0 d a (QM u w)).trans ?_
    rw [if_neg (by decide)]
    simp only [QM_kd, QM_sz, QM_lk, QM_i, QM_wi, zI, qs_bI, qs_bV, qb_0, hz, h1, Bool.true_eq_false, Nat.reduceSub, Nat.reduceLeDiff, Nat.reduceLT, true_and, and_true, and_self, if_true, if_false]
    rw [if_pos (by decide)]
  have f8 : ∀ d, qs_call (d + 1) 208 [.int (nI B)] (QM u w) = some (some (.int 1), QM u w) := fun d => by
    refine (bq_208_0 d _ (QM u w)).trans ?_
    rw [if_neg (nI_pos (by omega)), if_neg (show ¬ (255 : Int32) < nI B from Int32.not_lt.mpr (nI_le (b := 255) hB (by omega)))]
    rw [if_pos (by decide)]
  have k : ∀ i, i < L → (u c i = (nI B).toInt8.toInt32) = (B = l i) := fun i hi => by
    rw [(h2 i hi).2]
    have := i_8 B (by omega) (l i) (hl i hi)
    exact propext (decide_eq_decide.mp this)
  have k0 := k 0 (by omega)
  have k1 := k 1 (by omega)
  have f10 : qs_call (d + 2) 210 [.ref c, .int (nI B), .int 0, .int (nI L)] (QM u w) = some (some (.int (if B = l 0 then 0 else if B = l 1 then 1 else if L = 3 ∧ B = l 2 then 2 else -1)), QM u w) := by
    refine (bq_210_0 (d + 1) c _ _ _ (QM u w)).trans ?_
    refine (bq_210_7 (d + 1) c _ _ _ _ _ (QM u w)).trans ?_
    have n0 : ¬ nI L ≤ 0 := by rcases hL with rfl | rfl <;> decide
    have n1 : ¬ nI L ≤ 1 := by rcases hL with rfl | rfl <;> decide
    have p0 : 0 < L := by omega
    have p1 : 1 < L := by omega
    have s1 : (0 : Int32) + 1 = 1 := rfl
    have s2 : (1 : Int32) + 1 = 2 := rfl
    by_cases g0 : B = l 0
    · rw [if_pos g0]
      have q := k0.mpr g0
      simp only [QM_kd, QM_sz, QM_lk, QM_i, QM_wi, zI, qs_bI, qs_bV, qb_0, n0, hz, p0, q, Bool.true_eq_false, Nat.reduceSub, Nat.reduceLeDiff, Nat.reduceLT, true_and, and_true, and_self, if_true, if_false]
    simp only [QM_kd, QM_sz, QM_lk, QM_i, QM_wi, zI, qs_bI, qs_bV, qb_0, n0, hz, p0, k0, g0, s1, Bool.true_eq_false, Nat.reduceSub, Nat.reduceLeDiff, Nat.reduceLT, true_and, and_true, and_self, if_true, if_false]
    refine (bq_210_7 (d + 1) c _ _ _ _ _ (QM u w)).trans ?_
    by_cases g1 : B = l 1
    · rw [if_pos g1]
      have q := k1.mpr g1
      simp only [QM_kd, QM_sz, QM_lk, QM_i, QM_wi, zI, qs_bI, qs_bV, qb_0, n1, hz, p1, q, Bool.true_eq_false, Nat.reduceSub, Nat.reduceLeDiff, Nat.reduceLT, true_and, and_true, and_self, if_true, if_false]
    simp only [QM_kd, QM_sz, QM_lk, QM_i, QM_wi, zI, qs_bI, qs_bV, qb_0, n1, hz, p1, k1, g1, s2, Bool.true_eq_false, Nat.reduceSub, Nat.reduceLeDiff, Nat.reduceLT, true_and, and_true, and_self, if_true, if_false]
    refine (bq_210_7 (d + 1) c _ _ _ _ _ (QM u w)).trans ?_
    rcases hL with rfl | rfl
    · have n2 : nI 2 ≤ 2 := by decide
      rw [if_pos n2]
      rfl
    · have n2 : ¬ nI 3 ≤ 2 := by decide
      have k2 := k 2 (by omega)
      have p2 : 2 < 3 := by omega
      by_cases g2 : B = l 2
      · rw [if_pos (⟨rfl, g2⟩ : 3 = 3 ∧ B = l 2)]
        have q := k2.mpr g2
        simp only [QM_kd, QM_sz, QM_lk, QM_i, QM_wi, zI, qs_bI, qs_bV, qb_0, n2, hz, p2, q, Bool.true_eq_false, Nat.reduceSub, Nat.reduceLeDiff, Nat.reduceLT, true_and, and_true, and_self, if_true, if_false]
      have n3 : nI 3 ≤ 3 := by decide
      have s3 : (2 : Int32) + 1 = 3 := rfl
      simp only [QM_kd, QM_sz, QM_lk, QM_i, QM_wi, zI, qs_bI, qs_bV, qb_0, n2, hz, p2, k2, g2, s3, Bool.true_eq_false, Nat.reduceSub, Nat.reduceLeDiff, Nat.reduceLT, true_and, and_true, and_self, if_true, if_false]
      refine (bq_210_7 (d + 1) c _ _ _ _ _ (QM u w)).trans ?_
      rw [if_pos n3]
  have mx : qs_max 0 0 = 0 := rfl
  have mn : qs_min (nI L) (Int32.ofNat L) = nI L := by
    unfold qs_min
    split <;> rfl
  have lt : (0 : Int32) < nI L := by rcases hL with rfl | rfl <;> decide
  have f9 : qs_call (d + 3) 209 [.ref c, .int (nI B), .int 0, .int (nI L)] (QM u w) = some (some (.int (if B = l 0 then 0 else if B = l 1 then 1 else if L = 3 ∧ B = l 2 then 2 else -1)), QM u w) := by
    refine (bq_209_0 (d + 2) c _ _ _ (QM u w)).trans ?_
    have r1 : ¬ (1 : Int32) = 0 := by decide
    simp only [QM_kd, QM_sz, QM_lk, QM_i, QM_wi, zI, qs_bI, qs_bV, qb_0, f8, hz, mx, mn, lt, f10, r1, Bool.true_eq_false, Nat.reduceSub, Nat.reduceLeDiff, Nat.reduceLT, true_and, and_true, and_self, if_true, if_false]
  have f3 : qs_call (d + 4) 203 [.ref a, .int (nI B), .int 0] (QM u w) = some (some (.int (if B = l 0 then 0 else if B = l 1 then 1 else if L = 3 ∧ B = l 2 then 2 else -1)), QM u w) := by
    refine (bq_203_0 (d + 3) a _ _ (QM u w)).trans ?_
    have r1 : ¬ (1 : Int32) = 0 := by decide
    simp only [QM_kd, QM_sz, QM_lk, QM_i, QM_wi, zI, qs_bI, qs_bV, qb_0, f5, hz, r1, a2, f9, Nat.add_sub_cancel, Nat.le_add_left, Bool.true_eq_false, Nat.reduceSub, Nat.reduceLeDiff, Nat.reduceLT, true_and, and_true, and_self, if_true, if_false]
  refine (bq_202_0 (d + 4) a _ (QM u w)).trans ?_
  simp only [QM_kd, QM_sz, QM_lk, QM_i, QM_wi, zI, qs_bI, qs_bV, qb_0, hz, f3, Bool.true_eq_false, Nat.reduceSub, Nat.reduceLeDiff, Nat.reduceLT, true_and, and_true, and_self, if_true, if_false]

/-- the step of a name, or NONE -/
theorem c_40 {d n key : Nat} {b : Nat → Nat} {u : Nat → Nat → Int32} {w : Nat → Nat → Int64} {t : s_Tk} (hK : iKs u) (hk : u 50 1 = nI key) (hk2 : key < 3) (ht : tC u t) (ok : tOK t n) (hn : n ≤ 96) : qs_call (d + 6) 40 [.ref 48] (QM u w) = some (some (.int (if t.1 = 1 ∧ t.2.2.1 = t.2.1 + 1 ∧ s_nm key t.2.2.2.toNatClampNeg ≠ 9 then -1 - nI (s_nm key t.2.2.2.toNatClampNeg) else -1000000005)), QM u w) := by
  obtain ⟨h3, h4, h5, h6⟩ := ht
  obtain ⟨o1, o2, o3, o4, o5, o6, o7, -⟩ := ok
  have z := zQ
  have zk := zK
  refine (bq_40_0 (d + 5) 48 (QM u w)).trans ?_
  by_cases g : t.1 = 1
  · have g1 : nI t.1 = 1 := by rw [g]; rfl
    have o4 := o4 (by omega)
    have e1 : nI t.2.2.1 - nI t.2.1 = nI (t.2.2.1 - t.2.1) := nI_sub (by omega)
    by_cases g2 : t.2.2.1 = t.2.1 + 1
    · have g3 : nI (t.2.2.1 - t.2.1) = 1 := by rw [g2, Nat.add_sub_cancel_left]; rfl
      obtain ⟨B, hB, hv⟩ := o7 g g2
      have hc := (i_chr B (by omega)).2.1
      have hcl : (nI B).toNatClampNeg = B := nI_clamp (by omega)
      rw [hv] at h6 ⊢
      rw [hcl]
      simp only [g, g2, true_and]
      rw [g1] at h3
      rw [g3] at e1
      obtain ⟨-, -, -, ⟨a0, a1, a2⟩, ⟨b0, b1⟩, ⟨c0, c1⟩, -, -, -, -, -, -, -, -, k5, k6, k7, -⟩ := hK
      unfold s_nm
      rcases (by omega : key = 0 ∨ key = 1 ∨ key = 2) with rfl | rfl | rfl
      · have f := c_202 (d := d) (B := B) (a := 5) (c := 11) (L := 3) (l := fun i => [103, 114, 97].getD i 0) (u := u) (w := w) (by unfold zW; simp only [zk]; decide) ⟨k5, fun i hi => by
          rcases (by omega : i = 0 ∨ i = 1 ∨ i = 2) with rfl | rfl | rfl
          · exact ⟨by decide, a0⟩
          · exact ⟨by decide, a1⟩
          · exact ⟨by decide, a2⟩⟩ (fun i hi => by rcases (by omega : i = 0 ∨ i = 1 ∨ i = 2) with rfl | rfl | rfl <;> decide) hB (Or.inr rfl)
        have f : qs_call (d + 5) 202 [.ref 5, .int (nI B)] (QM u w) = some (some (.int (if B = 103 then 0 else if B = 114 then 1 else if 3 = 3 ∧ B = 97 then 2 else -1)), QM u w) := f
        have r0 : nI 0 = 0 := rfl
        by_cases c0 : B = 103
        · rw [if_pos c0] at f
          subst c0
          simp only [QM_kd, QM_sz, QM_lk, QM_i, QM_wi, zI, qs_bI, qs_bV, qb_0, z, zk, h3, h4, h5, h6, e1, hk, r0, hc, f, Bool.true_eq_false, Nat.reduceSub, Nat.reduceLeDiff, Nat.reduceLT, true_and, and_true, and_self, if_true, if_false]
          rfl
        rw [if_neg c0] at f
        by_cases c1 : B = 114
        · rw [if_pos c1] at f
          subst c1
          simp only [QM_kd, QM_sz, QM_lk, QM_i, QM_wi, zI, qs_bI, qs_bV, qb_0, z, zk, h3, h4, h5, h6, e1, hk, r0, hc, f, Bool.true_eq_false, Nat.reduceSub, Nat.reduceLeDiff, Nat.reduceLT, true_and, and_true, and_self, if_true, if_false]
          rfl
        rw [if_neg c1] at f
        by_cases c2 : B = 97
        · rw [if_pos ⟨rfl, c2⟩] at f
          subst c2
          simp only [QM_kd, QM_sz, QM_lk, QM_i, QM_wi, zI, qs_bI, qs_bV, qb_0, z, zk, h3, h4, h5, h6, e1, hk, r0, hc, f, Bool.true_eq_false, Nat.reduceSub, Nat.reduceLeDiff, Nat.reduceLT, true_and, and_true, and_self, if_true, if_false]
          rfl
        rw [if_neg (fun q => c2 q.2)] at f
        simp only [QM_kd, QM_sz, QM_lk, QM_i, QM_wi, zI, qs_bI, qs_bV, qb_0, z, zk, h3, h4, h5, h6, e1, hk, r0, hc, f, c0, c1, c2, Bool.true_eq_false, Nat.reduceSub, Nat.reduceLeDiff, Nat.reduceLT, true_and, and_true, and_self, if_true, if_false]
        rfl
      · have f := c_202 (d := d) (B := B) (a := 6) (c := 12) (L := 2) (l := fun i => [100, 102].getD i 0) (u := u) (w := w) (by unfold zW; simp only [zk]; decide) ⟨k6, fun i hi => by
          rcases (by omega : i = 0 ∨ i = 1) with rfl | rfl
          · exact ⟨by decide, b0⟩
          · exact ⟨by decide, b1⟩⟩ (fun i hi => by rcases (by omega : i = 0 ∨ i = 1) with rfl | rfl <;> decide) hB (Or.inl rfl)
        have f : qs_call (d + 5) 202 [.ref 6, .int (nI B)] (QM u w) = some (some (.int (if B = 100 then 0 else if B = 102 then 1 else if 2 = 3 ∧ B = 0 then 2 else -1)), QM u w) := f
        have r0 : nI 1 = 1 := rfl
        have r1 : ¬ (1 : Int32) = 0 := by decide
        have r2 : ¬ (1 : Nat) = 0 := by decide
        by_cases c0 : B = 100
        · rw [if_pos c0] at f
          subst c0
          simp only [QM_kd, QM_sz, QM_lk, QM_i, QM_wi, zI, qs_bI, qs_bV, qb_0, z, zk, h3, h4, h5, h6, e1, hk, r0, r1, r2, hc, f, Bool.true_eq_false, Nat.reduceSub, Nat.reduceLeDiff, Nat.reduceLT, true_and, and_true, and_self, if_true, if_false]
          rfl
        rw [if_neg c0] at f
        by_cases c1 : B = 102
        · rw [if_pos c1] at f
          subst c1
          simp only [QM_kd, QM_sz, QM_lk, QM_i, QM_wi, zI, qs_bI, qs_bV, qb_0, z, zk, h3, h4, h5, h6, e1, hk, r0, r1, r2, hc, f, Bool.true_eq_false, Nat.reduceSub, Nat.reduceLeDiff, Nat.reduceLT, true_and, and_true, and_self, if_true, if_false]
          rfl
        rw [if_neg c1, if_neg (by omega)] at f
        simp only [QM_kd, QM_sz, QM_lk, QM_i, QM_wi, zI, qs_bI, qs_bV, qb_0, z, zk, h3, h4, h5, h6, e1, hk, r0, r1, r2, hc, f, c0, c1, Bool.true_eq_false, Nat.reduceSub, Nat.reduceLeDiff, Nat.reduceLT, true_and, and_true, and_self, if_true, if_false]
        rfl
      · have f := c_202 (d := d) (B := B) (a := 7) (c := 13) (L := 2) (l := fun i => [116, 115].getD i 0) (u := u) (w := w) (by unfold zW; simp only [zk]; decide) ⟨k7, fun i hi => by
          rcases (by omega : i = 0 ∨ i = 1) with rfl | rfl
          · exact ⟨by decide, c0⟩
          · exact ⟨by decide, c1⟩⟩ (fun i hi => by rcases (by omega : i = 0 ∨ i = 1) with rfl | rfl <;> decide) hB (Or.inl rfl)
        have f : qs_call (d + 5) 202 [.ref 7, .int (nI B)] (QM u w) = some (some (.int (if B = 116 then 0 else if B = 115 then 1 else if 2 = 3 ∧ B = 0 then 2 else -1)), QM u w) := f
        have r0 : nI 2 = 2 := rfl
        have r1 : ¬ (2 : Int32) = 0 := by decide
        have r3 : ¬ (2 : Int32) = 1 := by decide
        have r2 : ¬ (2 : Nat) = 0 := by decide
        have r4 : ¬ (2 : Nat) = 1 := by decide
        by_cases c0 : B = 116
        · rw [if_pos c0] at f
          subst c0
          simp only [QM_kd, QM_sz, QM_lk, QM_i, QM_wi, zI, qs_bI, qs_bV, qb_0, z, zk, h3, h4, h5, h6, e1, hk, r0, r1, r2, r3, r4, hc, f, Bool.true_eq_false, Nat.reduceSub, Nat.reduceLeDiff, Nat.reduceLT, true_and, and_true, and_self, if_true, if_false]
          rfl
        rw [if_neg c0] at f
        by_cases c1 : B = 115
        · rw [if_pos c1] at f
          subst c1
          simp only [QM_kd, QM_sz, QM_lk, QM_i, QM_wi, zI, qs_bI, qs_bV, qb_0, z, zk, h3, h4, h5, h6, e1, hk, r0, r1, r2, r3, r4, hc, f, Bool.true_eq_false, Nat.reduceSub, Nat.reduceLeDiff, Nat.reduceLT, true_and, and_true, and_self, if_true, if_false]
          rfl
        rw [if_neg c1, if_neg (by omega)] at f
        simp only [QM_kd, QM_sz, QM_lk, QM_i, QM_wi, zI, qs_bI, qs_bV, qb_0, z, zk, h3, h4, h5, h6, e1, hk, r0, r1, r2, r3, r4, hc, f, c0, c1, Bool.true_eq_false, Nat.reduceSub, Nat.reduceLeDiff, Nat.reduceLT, true_and, and_true, and_self, if_true, if_false]
        rfl
    · have g3 : ¬ nI (t.2.2.1 - t.2.1) = 1 := fun q => g2 (by have := (nI_eq (b := 1) (by omega) (by omega)).mp q; omega)
      rw [if_neg (fun c : (t.1 = 1 ∧ t.2.2.1 = t.2.1 + 1 ∧ s_nm key t.2.2.2.toNatClampNeg ≠ 9) => g2 c.2.1)]
      simp only [QM_kd, QM_sz, QM_lk, QM_i, QM_wi, zI, qs_bI, qs_bV, qb_0, z, h3, h4, h5, g1, e1, g3, Bool.true_eq_false, Nat.reduceSub, Nat.reduceLeDiff, Nat.reduceLT, true_and, and_true, and_self, if_true, if_false]
  · have g1 : ¬ nI t.1 = 1 := fun q => g ((nI_eq (b := 1) (by omega) (by omega)).mp q)
    rw [if_neg (fun c : (t.1 = 1 ∧ t.2.2.1 = t.2.1 + 1 ∧ s_nm key t.2.2.2.toNatClampNeg ≠ 9) => g c.1)]
    simp only [QM_kd, QM_sz, QM_lk, QM_i, QM_wi, zI, qs_bI, qs_bV, qb_0, z, h3, g1, Bool.true_eq_false, Nat.reduceSub, Nat.reduceLeDiff, Nat.reduceLT, true_and, and_true, and_self, if_true, if_false]
