/-! THE LAW'S LOOP -/
theorem law_step {lx j : Nat} {xs : Nat → Int32} {d : Nat} {u : Nat → Nat → Int32} {w : Nat → Nat → Int64} (h : sINV u) (hj : j + 6 ≤ lx) (hl : lx ≤ 3072) : ∃ u2 w2, sINV u2 ∧ qs_LW lx xs (d + 120) 18 [some (.ref 0), some (.ref 16), some (.ref 116), some (.int (nI j))] [] (QM u w) = qs_LW lx xs (d + 120) 1526 [some (.ref 0), some (.ref 16), some (.ref 116), some (.int (nI j))] [] (QM u2 w2) := by
  have zm1 : qs_kd qy_m 16 = 7 := zQ.1
  have zm2 : qs_kd qy_m 116 = 8 := (qy_kd (by decide)).1
  have ii : ∀ c, c ≤ 5 → (nI j + nI c).toNatClampNeg = j + c ∧ 0 ≤ nI j + nI c ∧ j + c < lx := fun c hc => by
    rw [nI_add]
    exact ⟨nI_clamp (by omega), nI_pos' (by omega), by omega⟩
  have f0 : (nI j).toNatClampNeg = j := nI_clamp (by omega)
  have f1 : 0 ≤ nI j := nI_pos' (by omega)
  have ix : ∀ c, c ≤ 5 → (0 ≤ nI j + nI c ∧ (nI j + nI c).toNatClampNeg < lx) := fun c hc => by
    obtain ⟨a, b1, b2⟩ := ii c hc
    exact ⟨b1, by rw [a]; exact b2⟩
  have i1 : (0 ≤ nI j + 1 ∧ (nI j + 1).toNatClampNeg < lx) = True := eq_true (ix 1 (by omega))
  have i2 : (0 ≤ nI j + 2 ∧ (nI j + 2).toNatClampNeg < lx) = True := eq_true (ix 2 (by omega))
  have i3 : (0 ≤ nI j + 3 ∧ (nI j + 3).toNatClampNeg < lx) = True := eq_true (ix 3 (by omega))
  have i4 : (0 ≤ nI j + 4 ∧ (nI j + 4).toNatClampNeg < lx) = True := eq_true (ix 4 (by omega))
  have i5 : (0 ≤ nI j + 5 ∧ (nI j + 5).toNatClampNeg < lx) = True := eq_true (ix 5 (by omega))
  have lt : ¬ ((Int32.ofNat lx) - 6) < nI j := by
    have e : (Int32.ofNat lx) - 6 = nI (lx - 6) := nI_sub (b := 6) (by omega)
    rw [e]
    exact Int32.not_lt.mpr (nI_le (by omega) (by omega))
  rw [bq_224_18, if_neg lt, if_pos (show 0 ≤ nI j ∧ (nI j).toNatClampNeg < lx from ⟨f1, by rw [f0]; omega⟩), f0]
  by_cases g : (xs j &&& 63) = 0
  · rw [if_pos g]
    obtain ⟨y, u1, u2, w2, p, q, hi⟩ := k_joint (xs (nI j + 1).toNatClampNeg) (xs (nI j + 2).toNatClampNeg) (xs (nI j + 3).toNatClampNeg) (xs (nI j + 4).toNatClampNeg) d u w h
    refine ⟨u2, w2, hi, ?_⟩
    simp only [QM_kd, zm1, zm2, i1, i2, i3, i4, i5, qs_bI, p, q, if_true]
  rw [if_neg g]
  clear g
  by_cases g : (xs j &&& 63) = 1
  · rw [if_pos g]
    obtain ⟨y, u1, u2, w2, p, q, hi⟩ := k_told (xs (nI j + 1).toNatClampNeg) (xs (nI j + 2).toNatClampNeg) d u w h
    refine ⟨u2, w2, hi, ?_⟩
    simp only [QM_kd, zm1, zm2, i1, i2, i3, i4, i5, qs_bI, p, q, if_true]
  rw [if_neg g]
  clear g
  by_cases g : (xs j &&& 63) = 2
  · rw [if_pos g]
    obtain ⟨y, u1, u2, w2, p, q, hi⟩ := k_as (xs (nI j + 1).toNatClampNeg) (xs (nI j + 2).toNatClampNeg) d u w h
    refine ⟨u2, w2, hi, ?_⟩
    simp only [QM_kd, zm1, zm2, i1, i2, i3, i4, i5, qs_bI, p, q, if_true]
  rw [if_neg g]
  clear g
  by_cases g : (xs j &&& 63) = 3
  · rw [if_pos g]
    obtain ⟨y, u1, u2, w2, p, q, hi⟩ := k_turns (xs (nI j + 1).toNatClampNeg) (xs (nI j + 2).toNatClampNeg) d u w h
    refine ⟨u2, w2, hi, ?_⟩
    simp only [QM_kd, zm1, zm2, i1, i2, i3, i4, i5, qs_bI, p, q, if_true]
  rw [if_neg g]
  clear g
  by_cases g : (xs j &&& 63) = 4
  · rw [if_pos g]
    obtain ⟨y, u1, u2, w2, p, q, hi⟩ := k_set (xs (nI j + 1).toNatClampNeg) (xs (nI j + 2).toNatClampNeg) (xs (nI j + 3).toNatClampNeg) d u w h
    refine ⟨u2, w2, hi, ?_⟩
    simp only [QM_kd, zm1, zm2, i1, i2, i3, i4, i5, qs_bI, p, q, if_true]
  rw [if_neg g]
  clear g
  by_cases g : (xs j &&& 63) = 5
  · rw [if_pos g]
    obtain ⟨y, u1, u2, w2, p, q, hi⟩ := k_turn (xs (nI j + 1).toNatClampNeg) (xs (nI j + 2).toNatClampNeg) d u w h
    refine ⟨u2, w2, hi, ?_⟩
    simp only [QM_kd, zm1, zm2, i1, i2, i3, i4, i5, qs_bI, p, q, if_true]
  rw [if_neg g]
  clear g
  by_cases g : (xs j &&& 63) = 6
  · rw [if_pos g]
    obtain ⟨y, u1, u2, w2, p, q, hi⟩ := k_rule (xs (nI j + 1).toNatClampNeg) (xs (nI j + 2).toNatClampNeg) d u w h
    refine ⟨u2, w2, hi, ?_⟩
    simp only [QM_kd, zm1, zm2, i1, i2, i3, i4, i5, qs_bI, p, q, if_true]
  rw [if_neg g]
  clear g
  by_cases g : (xs j &&& 63) = 7
  · rw [if_pos g]
    obtain ⟨y, u1, u2, w2, p, q, hi⟩ := k_empty d u w h
    refine ⟨u2, w2, hi, ?_⟩
    simp only [QM_kd, zm1, zm2, i1, i2, i3, i4, i5, qs_bI, p, q, if_true]
  rw [if_neg g]
  clear g
  by_cases g : (xs j &&& 63) = 8
  · rw [if_pos g]
    obtain ⟨y, u1, u2, w2, p, q, hi⟩ := k_deal (xs (nI j + 1).toNatClampNeg) d u w h
    refine ⟨u2, w2, hi, ?_⟩
    simp only [QM_kd, zm1, zm2, i1, i2, i3, i4, i5, qs_bI, p, q, if_true]
  rw [if_neg g]
  clear g
  by_cases g : (xs j &&& 63) = 9
  · rw [if_pos g]
    obtain ⟨y, u1, u2, w2, p, q, hi⟩ := k_seed (xs (nI j + 1).toNatClampNeg) d u w h
    refine ⟨u2, w2, hi, ?_⟩
    simp only [QM_kd, zm1, zm2, i1, i2, i3, i4, i5, qs_bI, p, q, if_true]
  rw [if_neg g]
  clear g
  by_cases g : (xs j &&& 63) = 10
  · rw [if_pos g]
    obtain ⟨y, u1, u2, w2, p, q, hi⟩ := k_hours (xs (nI j + 1).toNatClampNeg) d u w h
    refine ⟨u2, w2, hi, ?_⟩
    simp only [QM_kd, zm1, zm2, i1, i2, i3, i4, i5, qs_bI, p, q, if_true]
  rw [if_neg g]
  clear g
  by_cases g : (xs j &&& 63) = 11
  · rw [if_pos g]
    obtain ⟨y, u1, u2, w2, p, q, hi⟩ := k_sink (xs (nI j + 1).toNatClampNeg) d u w h
    refine ⟨u2, w2, hi, ?_⟩
    simp only [QM_kd, zm1, zm2, i1, i2, i3, i4, i5, qs_bI, p, q, if_true]
  rw [if_neg g]
  clear g
  by_cases g : (xs j &&& 63) = 12
  · rw [if_pos g]
    obtain ⟨y, u1, u2, w2, p, q, hi⟩ := k_seen (xs (nI j + 1).toNatClampNeg) d u w h
    refine ⟨u2, w2, hi, ?_⟩
    simp only [QM_kd, zm1, zm2, i1, i2, i3, i4, i5, qs_bI, p, q, if_true]
  rw [if_neg g]
  clear g
  by_cases g : (xs j &&& 63) = 13
  · rw [if_pos g]
    obtain ⟨y, u1, u2, w2, p, q, hi⟩ := k_from (xs (nI j + 1).toNatClampNeg) d u w h
    refine ⟨u2, w2, hi, ?_⟩
    simp only [QM_kd, zm1, zm2, i1, i2, i3, i4, i5, qs_bI, p, q, if_true]
  rw [if_neg g]
  clear g
  by_cases g : (xs j &&& 63) = 14
  · rw [if_pos g]
    obtain ⟨y, u1, u2, w2, p, q, hi⟩ := k_quarter (xs (nI j + 1).toNatClampNeg) (xs (nI j + 2).toNatClampNeg) d u w h
    refine ⟨u2, w2, hi, ?_⟩
    simp only [QM_kd, zm1, zm2, i1, i2, i3, i4, i5, qs_bI, p, q, if_true]
  rw [if_neg g]
  clear g
  by_cases g : (xs j &&& 63) = 15
  · rw [if_pos g]
    obtain ⟨y, u1, u2, w2, p, q, hi⟩ := k_behind (xs (nI j + 1).toNatClampNeg) (xs (nI j + 2).toNatClampNeg) d u w h
    refine ⟨u2, w2, hi, ?_⟩
    simp only [QM_kd, zm1, zm2, i1, i2, i3, i4, i5, qs_bI, p, q, if_true]
  rw [if_neg g]
  clear g
  by_cases g : (xs j &&& 63) = 16
  · rw [if_pos g]
    obtain ⟨y, u1, u2, w2, p, q, hi⟩ := k_full d u w h
    refine ⟨u2, w2, hi, ?_⟩
    simp only [QM_kd, zm1, zm2, i1, i2, i3, i4, i5, qs_bI, p, q, if_true]
  rw [if_neg g]
  clear g
  by_cases g : (xs j &&& 63) = 17
  · rw [if_pos g]
    obtain ⟨y, u1, u2, w2, p, q, hi⟩ := k_shut (xs (nI j + 1).toNatClampNeg) d u w h
    refine ⟨u2, w2, hi, ?_⟩
    simp only [QM_kd, zm1, zm2, i1, i2, i3, i4, i5, qs_bI, p, q, if_true]
  rw [if_neg g]
  clear g
  by_cases g : (xs j &&& 63) = 18
  · rw [if_pos g]
    obtain ⟨y, u1, u2, w2, p, q, hi⟩ := k_mend (xs (nI j + 1).toNatClampNeg) (xs (nI j + 2).toNatClampNeg) (xs (nI j + 3).toNatClampNeg) d u w h
    refine ⟨u2, w2, hi, ?_⟩
    simp only [QM_kd, zm1, zm2, i1, i2, i3, i4, i5, qs_bI, p, q, if_true]
  rw [if_neg g]
  clear g
  by_cases g : (xs j &&& 63) = 19
  · rw [if_pos g]
    obtain ⟨y, u1, u2, w2, p, q, hi⟩ := k_first (xs (nI j + 1).toNatClampNeg) (xs (nI j + 2).toNatClampNeg) d u w h
    refine ⟨u2, w2, hi, ?_⟩
    simp only [QM_kd, zm1, zm2, i1, i2, i3, i4, i5, qs_bI, p, q, if_true]
  rw [if_neg g]
  clear g
  by_cases g : (xs j &&& 63) = 20
  · rw [if_pos g]
    obtain ⟨y, u1, u2, w2, p, q, hi⟩ := k_becomes (xs (nI j + 1).toNatClampNeg) (xs (nI j + 2).toNatClampNeg) (xs (nI j + 3).toNatClampNeg) d u w h
    refine ⟨u2, w2, hi, ?_⟩
    simp only [QM_kd, zm1, zm2, i1, i2, i3, i4, i5, qs_bI, p, q, if_true]
  rw [if_neg g]
  clear g
  by_cases g : (xs j &&& 63) = 21
  · rw [if_pos g]
    obtain ⟨y, u1, u2, w2, p, q, hi⟩ := k_loose (xs (nI j + 1).toNatClampNeg) (xs (nI j + 2).toNatClampNeg) d u w h
    refine ⟨u2, w2, hi, ?_⟩
    simp only [QM_kd, zm1, zm2, i1, i2, i3, i4, i5, qs_bI, p, q, if_true]
  rw [if_neg g]
  clear g
  by_cases g : (xs j &&& 63) = 22
  · rw [if_pos g]
    obtain ⟨y, u1, u2, w2, p, q, hi⟩ := k_whose (xs (nI j + 1).toNatClampNeg) (xs (nI j + 2).toNatClampNeg) d u w h
    refine ⟨u2, w2, hi, ?_⟩
    simp only [QM_kd, zm1, zm2, i1, i2, i3, i4, i5, qs_bI, p, q, if_true]
  rw [if_neg g]
  clear g
  by_cases g : (xs j &&& 63) = 23
  · rw [if_pos g]
    obtain ⟨y, u1, u2, w2, p, q, hi⟩ := k_fee d u w h
    refine ⟨u2, w2, hi, ?_⟩
    simp only [QM_kd, zm1, zm2, i1, i2, i3, i4, i5, qs_bI, p, q, if_true]
  rw [if_neg g]
  clear g
  by_cases g : (xs j &&& 63) = 24
  · rw [if_pos g]
    obtain ⟨y, u1, u2, w2, p, q, hi⟩ := k_fine (xs (nI j + 1).toNatClampNeg) d u w h
    refine ⟨u2, w2, hi, ?_⟩
    simp only [QM_kd, zm1, zm2, i1, i2, i3, i4, i5, qs_bI, p, q, if_true]
  rw [if_neg g]
  clear g
  by_cases g : (xs j &&& 63) = 25
  · rw [if_pos g]
    obtain ⟨y, u1, u2, w2, p, q, hi⟩ := k_feed (xs (nI j + 1).toNatClampNeg) (xs (nI j + 2).toNatClampNeg) (xs (nI j + 3).toNatClampNeg) d u w h
    refine ⟨u2, w2, hi, ?_⟩
    simp only [QM_kd, zm1, zm2, i1, i2, i3, i4, i5, qs_bI, p, q, if_true]
  rw [if_neg g]
  clear g
  by_cases g : (xs j &&& 63) = 26
  · rw [if_pos g]
    obtain ⟨y, u1, u2, w2, p, q, hi⟩ := k_trim (xs (nI j + 1).toNatClampNeg) d u w h
    refine ⟨u2, w2, hi, ?_⟩
    simp only [QM_kd, zm1, zm2, i1, i2, i3, i4, i5, qs_bI, p, q, if_true]
  rw [if_neg g]
  clear g
  by_cases g : (xs j &&& 63) = 27
  · rw [if_pos g]
    obtain ⟨y, u1, u2, w2, p, q, hi⟩ := k_text d u w h
    refine ⟨u2, w2, hi, ?_⟩
    simp only [QM_kd, zm1, zm2, i1, i2, i3, i4, i5, qs_bI, p, q, if_true]
  rw [if_neg g]
  clear g
  by_cases g : (xs j &&& 63) = 28
  · rw [if_pos g]
    obtain ⟨y, u1, u2, w2, p, q, hi⟩ := k_textTold (xs (nI j + 1).toNatClampNeg) (xs (nI j + 2).toNatClampNeg) d u w h
    refine ⟨u2, w2, hi, ?_⟩
    simp only [QM_kd, zm1, zm2, i1, i2, i3, i4, i5, qs_bI, p, q, if_true]
  rw [if_neg g]
  clear g
  by_cases g : (xs j &&& 63) = 29
  · rw [if_pos g]
    obtain ⟨y, u1, u2, w2, p, q, hi⟩ := k_why (xs (nI j + 1).toNatClampNeg) d u w h
    refine ⟨u2, w2, hi, ?_⟩
    simp only [QM_kd, zm1, zm2, i1, i2, i3, i4, i5, qs_bI, p, q, if_true]
  rw [if_neg g]
  clear g
  by_cases g : (xs j &&& 63) = 30
  · rw [if_pos g]
    obtain ⟨y, u1, u2, w2, p, q, hi⟩ := k_sheet (xs (nI j + 1).toNatClampNeg) (xs (nI j + 2).toNatClampNeg) (xs (nI j + 3).toNatClampNeg) d u w h
    refine ⟨u2, w2, hi, ?_⟩
    simp only [QM_kd, zm1, zm2, i1, i2, i3, i4, i5, qs_bI, p, q, if_true]
  rw [if_neg g]
  clear g
  by_cases g : (xs j &&& 63) = 31
  · rw [if_pos g]
    obtain ⟨y, u1, u2, w2, p, q, hi⟩ := k_mark (xs (nI j + 1).toNatClampNeg) (xs (nI j + 2).toNatClampNeg) (xs (nI j + 3).toNatClampNeg) d u w h
    refine ⟨u2, w2, hi, ?_⟩
    simp only [QM_kd, zm1, zm2, i1, i2, i3, i4, i5, qs_bI, p, q, if_true]
  rw [if_neg g]
  clear g
  by_cases g : (xs j &&& 63) = 32
  · rw [if_pos g]
    obtain ⟨y, u1, u2, w2, p, q, hi⟩ := k_pour (xs (nI j + 1).toNatClampNeg) d u w h
    refine ⟨u2, w2, hi, ?_⟩
    simp only [QM_kd, zm1, zm2, i1, i2, i3, i4, i5, qs_bI, p, q, if_true]
  rw [if_neg g]
  clear g
  by_cases g : (xs j &&& 63) = 33
  · rw [if_pos g]
    obtain ⟨y, u1, u2, w2, p, q, hi⟩ := k_reads (xs (nI j + 1).toNatClampNeg) d u w h
    refine ⟨u2, w2, hi, ?_⟩
    simp only [QM_kd, zm1, zm2, i1, i2, i3, i4, i5, qs_bI, p, q, if_true]
  rw [if_neg g]
  clear g
  by_cases g : (xs j &&& 63) = 34
  · rw [if_pos g]
    obtain ⟨y, u1, u2, w2, p, q, hi⟩ := k_copy (xs (nI j + 1).toNatClampNeg) (xs (nI j + 2).toNatClampNeg) (xs (nI j + 3).toNatClampNeg) (xs (nI j + 4).toNatClampNeg) (xs (nI j + 5).toNatClampNeg) d u w h
    refine ⟨u2, w2, hi, ?_⟩
    simp only [QM_kd, zm1, zm2, i1, i2, i3, i4, i5, qs_bI, p, q, if_true]
  rw [if_neg g]
  clear g
  by_cases g : (xs j &&& 63) = 35
  · rw [if_pos g]
    obtain ⟨y, u1, u2, w2, p, q, hi⟩ := k_lay (xs (nI j + 1).toNatClampNeg) (xs (nI j + 2).toNatClampNeg) (xs (nI j + 3).toNatClampNeg) d u w h
    refine ⟨u2, w2, hi, ?_⟩
    simp only [QM_kd, zm1, zm2, i1, i2, i3, i4, i5, qs_bI, p, q, if_true]
  rw [if_neg g]
  clear g
  by_cases g : (xs j &&& 63) = 36
  · rw [if_pos g]
    obtain ⟨y, u1, u2, w2, p, q, hi⟩ := k_ask (xs (nI j + 1).toNatClampNeg) (xs (nI j + 2).toNatClampNeg) d u w h
    refine ⟨u2, w2, hi, ?_⟩
    simp only [QM_kd, zm1, zm2, i1, i2, i3, i4, i5, qs_bI, p, q, if_true]
  rw [if_neg g]
  clear g
  by_cases g : (xs j &&& 63) = 37
  · rw [if_pos g]
    obtain ⟨y, u1, u2, w2, p, q, hi⟩ := k_item (xs (nI j + 1).toNatClampNeg) (xs (nI j + 2).toNatClampNeg) d u w h
    refine ⟨u2, w2, hi, ?_⟩
    simp only [QM_kd, zm1, zm2, i1, i2, i3, i4, i5, qs_bI, p, q, if_true]
  rw [if_neg g]
  clear g
  by_cases g : (xs j &&& 63) = 38
  · rw [if_pos g]
    obtain ⟨y, u1, u2, w2, p, q, hi⟩ := k_rest (xs (nI j + 1).toNatClampNeg) (xs (nI j + 2).toNatClampNeg) d u w h
    refine ⟨u2, w2, hi, ?_⟩
    simp only [QM_kd, zm1, zm2, i1, i2, i3, i4, i5, qs_bI, p, q, if_true]
  rw [if_neg g]
  clear g
  by_cases g : (xs j &&& 63) = 39
  · rw [if_pos g]
    obtain ⟨y, u1, u2, w2, p, q, hi⟩ := k_tell (xs (nI j + 1).toNatClampNeg) d u w h
    refine ⟨u2, w2, hi, ?_⟩
    simp only [QM_kd, zm1, zm2, i1, i2, i3, i4, i5, qs_bI, p, q, if_true]
  rw [if_neg g]
  clear g
  by_cases g : (xs j &&& 63) = 40
  · rw [if_pos g]
    obtain ⟨y, u1, u2, w2, p, q, hi⟩ := k_check (xs (nI j + 1).toNatClampNeg) d u w h
    refine ⟨u2, w2, hi, ?_⟩
    simp only [QM_kd, zm1, zm2, i1, i2, i3, i4, i5, qs_bI, p, q, if_true]
  rw [if_neg g]
  clear g
  by_cases g : (xs j &&& 63) = 41
  · rw [if_pos g]
    obtain ⟨y, u1, u2, w2, p, q, hi⟩ := k_keep d u w h
    refine ⟨u2, w2, hi, ?_⟩
    simp only [QM_kd, zm1, zm2, i1, i2, i3, i4, i5, qs_bI, p, q, if_true]
  rw [if_neg g]
  clear g
  by_cases g : (xs j &&& 63) = 42
  · rw [if_pos g]
    obtain ⟨y, u1, u2, w2, p, q, hi⟩ := k_back d u w h
    refine ⟨u2, w2, hi, ?_⟩
    simp only [QM_kd, zm1, zm2, i1, i2, i3, i4, i5, qs_bI, p, q, if_true]
  rw [if_neg g]
  clear g
  by_cases g : (xs j &&& 63) = 43
  · rw [if_pos g]
    obtain ⟨y, u1, u2, w2, p, q, hi⟩ := k_count (xs (nI j + 1).toNatClampNeg) d u w h
    refine ⟨u2, w2, hi, ?_⟩
    simp only [QM_kd, zm1, zm2, i1, i2, i3, i4, i5, qs_bI, p, q, if_true]
  rw [if_neg g]
  clear g
  exact ⟨u, w, h, rfl⟩
theorem law_loop {lx : Nat} {xs : Nat → Int32} {d : Nat} (hl : lx ≤ 3072) : ∀ (r j : Nat) (u : Nat → Nat → Int32) (w : Nat → Nat → Int64), lx + 6 ≤ j + r → j ≤ 3078 → sINV u → ∃ u2 w2, qs_LW lx xs (d + 120) 18 [some (.ref 0), some (.ref 16), some (.ref 116), some (.int (nI j))] [] (QM u w) = some (some (.int 1), QM u2 w2) := by
  have fin : ∀ (j : Nat) (u : Nat → Nat → Int32) (w : Nat → Nat → Int64), lx < j + 6 → j ≤ 3078 → ∃ u2 w2, qs_LW lx xs (d + 120) 18 [some (.ref 0), some (.ref 16), some (.ref 116), some (.int (nI j))] [] (QM u w) = some (some (.int 1), QM u2 w2) := fun j u w hj hj2 => by
    refine ⟨u, w, ?_⟩
    have lt : ((Int32.ofNat lx) - 6) < nI j := by
      by_cases c : 6 ≤ lx
      · have e : (Int32.ofNat lx) - 6 = nI (lx - 6) := nI_sub (b := 6) c
        rw [e]
        exact nI_lt (by omega) (by omega)
      · have h0 : (Int32.ofNat lx) - 6 < 0 := by
          rcases (by omega : lx = 0 ∨ lx = 1 ∨ lx = 2 ∨ lx = 3 ∨ lx = 4 ∨ lx = 5) with rfl | rfl | rfl | rfl | rfl | rfl <;> decide
        exact Int32.lt_of_lt_of_le h0 (nI_pos' (by omega))
    rw [bq_224_18, if_pos lt, if_pos (by decide)]
  intro r
  induction r with
  | zero =>
    intro j u w hj hj2 h
    exact fin j u w (by omega) hj2
  | succ r ih =>
    intro j u w hj hj2 h
    by_cases c : j + 6 ≤ lx
    · obtain ⟨u1, w1, h1, e1⟩ := law_step (xs := xs) (d := d) (w := w) h c hl
      obtain ⟨u2, w2, e2⟩ := ih (j + 6) u1 w1 (by omega) (by omega) h1
      refine ⟨u2, w2, ?_⟩
      rw [e1, bq_224_1526]
      have e : nI j + 6 = nI (j + 6) := nI_add j 6
      rw [e]
      exact e2
    · exact fin j u w (by omega) hj2
