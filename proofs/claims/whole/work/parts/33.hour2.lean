theorem s_dr_of (z : Int32) : ∃ a, a < 16777216 ∧ s_dr z = nI a := by
  refine ⟨(z.toUInt32 >>> 8).toNat, ?_, ?_⟩
  · have h := z.toUInt32.toNat_lt
    rw [UInt32.toNat_shiftRight]
    have e : (8 : UInt32).toNat % 32 = 8 := by decide
    rw [e, Nat.shiftRight_eq_div_pow]
    omega
  · unfold s_dr nI
    have e : ((8 : Int32).toUInt32 &&& Int32.toUInt32 31) = 8 := by decide
    rw [e]
    apply Int32.toBitVec_inj.mp
    apply BitVec.eq_of_toNat_eq
    simp
    show z.toBitVec.toNat >>> 8 = (z.toBitVec.toNat >>> 8) % 4294967296
    have h := z.toBitVec.isLt
    rw [Nat.mod_eq_of_lt]
    rw [Nat.shiftRight_eq_div_pow]
    omega
theorem nI_div {a b : Nat} (ha : a < 2 ^ 31) (hb : b < 2 ^ 31) : nI a / nI b = nI (a / b) := by
  apply Int32.toInt_inj.mp
  have h : a / b ≤ a := Nat.div_le_self a b
  rw [Int32.toInt_div, nI_toInt ha, nI_toInt hb, nI_toInt (by omega)]
  have e : (a : Int).tdiv b = ((a / b : Nat) : Int) := by
    rw [Int.tdiv_eq_ediv_of_nonneg (by omega)]
    rfl
  rw [e]
  clear e
  generalize a / b = q at h ⊢
  rw [Int.bmod_eq_of_le] <;> omega
theorem nI_sub {a b : Nat} (h : b ≤ a) : nI a - nI b = nI (a - b) := by
  have : nI a = nI (a - b) + nI b := by rw [nI_add]; congr 1; omega
  rw [this, Int32.add_sub_cancel]
theorem nI_mod {a b : Nat} (ha : a < 2 ^ 31) (hb : b < 2 ^ 31) : nI a - nI a / nI b * nI b = nI (a % b) := by
  rw [nI_div ha hb, nI_times, nI_sub (Nat.div_mul_le_self a b)]
  congr 1
  have := Nat.div_add_mod a b
  rw [Nat.mul_comm] at this
  omega
def s_95 (R : Nat → Int32) : Nat → Int32 := if R 2 - R 2 / 6 * 6 = 5 then upd (upd R 3 (1 - R 3)) 2 (R 2 + 1) else upd (upd R 3 (R 3)) 2 (R 2 + 1)
theorem mq_139E {d : Nat} {u : Nat → Nat → Int32} {w : Nat → Nat → Int64} (o1 o2 : Option Value) : ∃ v', qs_EV d 139 95 [some (.ref 116), o1, o2] [] (QM u w) = some (none, QM v' w) ∧ v' 117 = s_95 (u 117) ∧ ∀ a, a ≠ 117 → v' a = u a := by
  have c2 : ∀ x, qu u 117 3 x 117 2 = u 117 2 := by
    intro x
    rw [qu_at, if_neg (by omega)]
  by_cases h : u 117 2 - u 117 2 / 6 * 6 = 5
  · refine ⟨qu (qu u 117 3 (1 - u 117 3)) 117 2 (u 117 2 + 1), ?_, ?_, fun a h1 => by rw [qu_ne _ _ _ h1, qu_ne _ _ _ h1]⟩
    · refine (bq_139_95 d 116 o1 o2 (QM u w)).trans ?_
      simp only [QM_kd, QM_sz, QM_lk, QM_i, QM_wi, zM, zI, c2, h, Nat.reduceSub, Nat.reduceLeDiff, Nat.reduceLT, true_and, and_true, if_true, if_false]
    · rw [qu_same, qu_same]
      unfold s_95
      rw [if_pos h]
  · refine ⟨qu (qu u 117 3 (u 117 3)) 117 2 (u 117 2 + 1), ?_, ?_, fun a h1 => by rw [qu_ne _ _ _ h1, qu_ne _ _ _ h1]⟩
    · refine (bq_139_95 d 116 o1 o2 (QM u w)).trans ?_
      simp only [QM_kd, QM_sz, QM_lk, QM_i, QM_wi, zM, zI, c2, h, Nat.reduceSub, Nat.reduceLeDiff, Nat.reduceLT, true_and, and_true, if_true, if_false]
    · rw [qu_same, qu_same]
      unfold s_95
      rw [if_neg h]
/-- the joint that is shaken -/
def s_wh (R : Nat → Int32) : Nat := (s_dr (s_z (s_z (R 0))) - s_dr (s_z (s_z (R 0))) / R 1 * R 1).toNatClampNeg
def s_shj (R : Nat → Int32) (j : Nat) : Nat → Int32 :=
  upd (upd (upd (upd (upd R 0 (s_z (R 0))) 0 (s_z (s_z (R 0)))) (12 + 8 * j + 1) (s_cl 0 40 (s_jo R j 1 + -1))) (12 + 8 * j + 7) 0) 10 (R 10 + 1)
def s_sh (R : Nat → Int32) : Nat → Int32 :=
  if R 4 ≤ s_dr (s_z (R 0)) - s_dr (s_z (R 0)) / 100 * 100 then upd R 0 (s_z (R 0))
  else if R 1 ≤ 0 then upd R 0 (s_z (R 0))
  else s_shj R (s_wh R)
def s_hour (R : Nat → Int32) : Nat → Int32 := s_95 (s_sh (s_drs R (R 1).toNatClampNeg))
theorem mq_139T {d : Nat} {u : Nat → Nat → Int32} {w : Nat → Nat → Int64} {M : Nat} (hM : M ≤ 8) (h1 : u 117 1 = nI M) (o : Option Value) : ∃ v', qs_EV (d + 5) 139 2 [some (.ref 116), some (.int (nI M)), o] [] (QM u w) = some (none, QM v' w) ∧ v' 117 = s_95 (s_sh (u 117)) ∧ ∀ a, a ≠ 117 → v' a = u a := by
  have c1 : ∀ x, qu u 117 0 x 117 1 = u 117 1 := fun x => by rw [qu_at, if_neg (by omega)]
  have c4 : ∀ x, qu u 117 0 x 117 4 = u 117 4 := fun x => by rw [qu_at, if_neg (by omega)]
  have c0 : ∀ x, qu u 117 0 x 117 0 = x := fun x => by rw [qu_at, if_pos ⟨rfl, rfl⟩]
  have c5 : ∀ x y, qu (qu u 117 0 x) 117 0 y 117 1 = u 117 1 := fun x y => by rw [qu_at, if_neg (by omega), qu_at, if_neg (by omega)]
  have hle : nI M ≤ nI M := nI_le (Nat.le_refl _) (by omega)
  by_cases h4 : u 117 4 ≤ s_dr (s_z (u 117 0)) - s_dr (s_z (u 117 0)) / 100 * 100
  · obtain ⟨v', g1, g2, g3⟩ := mq_139E (d := d + 5) (u := qu u 117 0 (s_z (u 117 0))) (w := w) (some (.int 0)) o
    refine ⟨v', ?_, ?_, fun a h => by rw [g3 a h, qu_ne _ _ _ h]⟩
    · refine (bq_139_2 (d + 5) 116 (nI M) o (QM u w)).trans ?_
      simp only [QM_kd, QM_sz, QM_lk, QM_i, QM_wi, zM, zI, h1, hle, qs_bI, mq_130, c1, c4, h4, g1, Nat.reduceSub, Nat.reduceLeDiff, Nat.reduceLT, true_and, and_true, if_true, if_false]
    · rw [g2, qu_same]
      unfold s_sh
      rw [if_pos h4]
  · rcases Nat.eq_zero_or_pos M with rfl | hM0
    · have hz : u 117 1 ≤ 0 := by rw [h1]; decide
      have hz2 : nI 0 ≤ 0 := by decide
      have hz3 : ¬ (1 : Int32) = 0 := by decide
      obtain ⟨v', g1, g2, g3⟩ := mq_139E (d := d + 5) (u := qu u 117 0 (s_z (u 117 0))) (w := w) (some (.int 1)) o
      refine ⟨v', ?_, ?_, fun a h => by rw [g3 a h, qu_ne _ _ _ h]⟩
      · refine (bq_139_2 (d + 5) 116 (nI 0) o (QM u w)).trans ?_
        simp only [QM_kd, QM_sz, QM_lk, QM_i, QM_wi, zM, zI, h1, hle, hz2, hz3, qs_bI, mq_130, c1, c4, h4, g1, Nat.reduceSub, Nat.reduceLeDiff, Nat.reduceLT, true_and, and_true, if_true, if_false]
      · rw [g2, qu_same]
        unfold s_sh
        rw [if_neg h4, if_pos hz]
    · have hz : ¬ nI M ≤ 0 := nI_nle hM0 (by omega)
      have hz2 : ¬ nI M = 0 := nI_ne0 hM0 (by omega)
      have hz3 : ¬ (1 : Int32) = 0 := by decide
      obtain ⟨a, ha, ea⟩ := s_dr_of (s_z (s_z (u 117 0)))
      have ej : s_dr (s_z (s_z (u 117 0))) - s_dr (s_z (s_z (u 117 0))) / nI M * nI M = nI (a % M) := by rw [ea, nI_mod (by omega) (by omega)]
      have hj : a % M < 8 := Nat.lt_of_lt_of_le (Nat.mod_lt _ hM0) hM
      have ewh : s_wh (u 117) = a % M := by
        unfold s_wh
        rw [h1, ej]
        exact nI_clamp (by omega)
      generalize a % M = j at ej hj ewh
      have k1 : s_jo (qu (qu u 117 0 (s_z (u 117 0))) 117 0 (s_z (s_z (u 117 0))) 117) j 1 = s_jo (u 117) j 1 := by
        unfold s_jo
        rw [qu_at, if_neg (by omega), qu_at, if_neg (by omega)]
      have k2 : ∀ x y, qu (qu (qu (qu u 117 0 (s_z (u 117 0))) 117 0 (s_z (s_z (u 117 0)))) 117 (12 + 8 * j + 1) x) 117 (12 + 8 * j + 7) y 117 10 = u 117 10 := fun x y => by
        rw [qu_at, if_neg (by omega), qu_at, if_neg (by omega), qu_at, if_neg (by omega), qu_at, if_neg (by omega)]
      obtain ⟨v', g1, g2, g3⟩ := mq_139E (d := d + 5) (u := qu (qu (qu (qu (qu u 117 0 (s_z (u 117 0))) 117 0 (s_z (s_z (u 117 0)))) 117 (12 + 8 * j + 1) (s_cl 0 40 (s_jo (u 117) j 1 + -1))) 117 (12 + 8 * j + 7) 0) 117 10 (u 117 10 + 1)) (w := w) (some (.int 1)) (some (.int (nI j)))
      refine ⟨v', ?_, ?_, fun a h => by rw [g3 a h, qu_ne _ _ _ h, qu_ne _ _ _ h, qu_ne _ _ _ h, qu_ne _ _ _ h, qu_ne _ _ _ h]⟩
      · refine (bq_139_2 (d + 5) 116 (nI M) o (QM u w)).trans ?_
        simp only [QM_kd, QM_sz, QM_lk, QM_i, QM_wi, zM, zI, h1, hle, hz, hz2, hz3, qs_bI, qs_bV, mq_130, c0, c1, c4, c5, h4, ej, mq_131 (show nI j = nI j from rfl) hj, mq_113 (show nI j = nI j from rfl) n_7 hj (by decide), k1, k2, g1, Nat.reduceSub, Nat.reduceLeDiff, Nat.reduceLT, true_and, and_true, if_true, if_false]
      · rw [g2, qu_same, qu_same, qu_same, qu_same, qu_same]
        unfold s_sh
        rw [if_neg h4, if_neg (by rw [h1]; exact hz), ewh]
        rfl
theorem mq_139 {d : Nat} {u : Nat → Nat → Int32} {w : Nat → Nat → Int64} {M : Nat} (hM : M ≤ 8) (h1 : u 117 1 = nI M) (h : s_tx (u 117)) : ∃ v', qs_call (d + 6) 139 [.ref 116] (QM u w) = some (none, QM v' w) ∧ v' 117 = s_hour (u 117) ∧ ∀ a, a ≠ 117 → a ≠ 128 → a ≠ 129 → v' a = u a := by
  obtain ⟨v, k1, k2, k3⟩ := mq_139L (d := d) (w := w) hM h1 h M 0 none u (by omega) rfl
  have e1 : v 117 1 = nI M := by rw [k2, s_drs_at _ 1 (by omega), h1]
  obtain ⟨v', g1, g2, g3⟩ := mq_139T (d := d) (u := v) (w := w) hM e1 none
  refine ⟨v', ?_, ?_, fun a h1 h2 h3 => by rw [g3 a h1, k3 a h1 h2 h3]⟩
  · refine (bq_139_0 (d + 5) 116 (QM u w)).trans ?_
    have h0 : (some (.int 0) : Option Value) = some (.int (nI 0)) := rfl
    rw [h0, k1, g1]
  · rw [g2, k2]
    unfold s_hour
    rw [h1, nI_clamp (by omega)]
