def s_qu (R : Nat → Int32) (j : Nat) : Nat → Int32 :=
  let R1 := upd R (12 + 8 * j + 1) (s_cl 0 40 (s_jo R j 1 + 1))
  let ab := s_jo R1 j 1 - s_bears (s_jo R1 j)
  if ab ≤ 0 then R1 else if 10 * ab ≤ s_dr (s_z (R 0)) - s_dr (s_z (R 0)) / 100 * 100 then upd R1 0 (s_z (R 0)) else upd (upd (upd R1 0 (s_z (R 0))) (12 + 8 * j + 0) 5) 9 (R 9 + 1)
theorem mq_132 {d : Nat} {u : Nat → Nat → Int32} {w : Nat → Nat → Int64} {x1 : Int32} {j : Nat} (e1 : x1 = nI j) (hj : j < 8) : ∃ v', qs_call (d + 3) 132 [.ref 116, .int x1] (QM u w) = some (none, QM v' w) ∧ v' 117 = s_qu (u 117) j ∧ ∀ a, a ≠ 117 → v' a = u a := by
  have c0 : (qu u 117 (12 + 8 * j + 1) (s_cl 0 40 (s_jo (u 117) j 1 + 1))) 117 = upd (u 117) (12 + 8 * j + 1) (s_cl 0 40 (s_jo (u 117) j 1 + 1)) := qu_same _ _ _ _
  have c1 : upd (u 117) (12 + 8 * j + 1) (s_cl 0 40 (s_jo (u 117) j 1 + 1)) 0 = u 117 0 := by
    unfold upd
    rw [if_neg (by omega)]
  generalize hR : upd (u 117) (12 + 8 * j + 1) (s_cl 0 40 (s_jo (u 117) j 1 + 1)) = R1 at c0 c1
  have c9 : R1 9 = u 117 9 := by
    rw [← hR]
    unfold upd
    rw [if_neg (by omega)]
  generalize hv : qu u 117 (12 + 8 * j + 1) (s_cl 0 40 (s_jo (u 117) j 1 + 1)) = v at c0
  have hvo : ∀ a, a ≠ 117 → v a = u a := fun a ha => by rw [← hv, qu_ne _ _ _ ha]
  have hs : s_qu (u 117) j = if s_jo R1 j 1 - s_bears (s_jo R1 j) ≤ 0 then R1 else if 10 * (s_jo R1 j 1 - s_bears (s_jo R1 j)) ≤ s_dr (s_z (u 117 0)) - s_dr (s_z (u 117 0)) / 100 * 100 then upd R1 0 (s_z (u 117 0)) else upd (upd (upd R1 0 (s_z (u 117 0))) (12 + 8 * j + 0) 5) 9 (u 117 9 + 1) := by
    unfold s_qu
    simp only [hR]
  rw [hs]
  by_cases h1 : s_jo R1 j 1 - s_bears (s_jo R1 j) ≤ 0
  · refine ⟨v, ?_, by rw [if_pos h1]; exact c0, hvo⟩
    refine (bq_132_0 (d + 2) 116 x1 (QM u w)).trans ?_
    simp only [QM_kd, zM, qs_bI, qs_bV, mq_131 e1 hj, mc_112 1 e1 hj n_1 (by decide), mq_121 e1 hj, hv, c0, h1, if_true]
  · by_cases h2 : 10 * (s_jo R1 j 1 - s_bears (s_jo R1 j)) ≤ s_dr (s_z (u 117 0)) - s_dr (s_z (u 117 0)) / 100 * 100
    · refine ⟨qu v 117 0 (s_z (u 117 0)), ?_, by rw [if_neg h1, if_pos h2, qu_same, c0], fun a ha => by rw [qu_ne _ _ _ ha, hvo a ha]⟩
      refine (bq_132_0 (d + 2) 116 x1 (QM u w)).trans ?_
      simp only [QM_kd, zM, qs_bI, qs_bV, mq_131 e1 hj, mc_112 1 e1 hj n_1 (by decide), mq_121 e1 hj, mq_130, hv, c0, c1, h1, h2, if_true, if_false]
    · have k9 : qu (qu v 117 0 (s_z (u 117 0))) 117 (12 + 8 * j + 0) 5 117 9 = u 117 9 := by
        rw [qu_at, if_neg (by omega), qu_at, if_neg (by omega), c0, c9]
      refine ⟨qu (qu (qu v 117 0 (s_z (u 117 0))) 117 (12 + 8 * j + 0) 5) 117 9 (u 117 9 + 1), ?_, by rw [if_neg h1, if_neg h2, qu_same, qu_same, qu_same, c0], fun a ha => by rw [qu_ne _ _ _ ha, qu_ne _ _ _ ha, qu_ne _ _ _ ha, hvo a ha]⟩
      refine (bq_132_0 (d + 2) 116 x1 (QM u w)).trans ?_
      simp only [QM_kd, QM_sz, QM_lk, QM_i, QM_wi, zM, zI, qs_bI, qs_bV, mq_131 e1 hj, mc_112 1 e1 hj n_1 (by decide), mq_121 e1 hj, mq_130, mq_113 e1 n_0 hj (by decide), hv, c0, c1, h1, h2, k9, Nat.reduceSub, Nat.reduceLeDiff, Nat.reduceLT, true_and, and_true, if_true, if_false]
