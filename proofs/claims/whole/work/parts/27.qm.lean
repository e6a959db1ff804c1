/-! THE MEMORY AFTER THE START: kinds, sizes and links stay; ints and longs go on -/
theorem qz_ex : ∃ m : qs_M, m = qz_m := ⟨qz_m, rfl⟩
noncomputable def qy_m : qs_M := Classical.choose qz_ex
theorem qy_eq : qy_m = qz_m := Classical.choose_spec qz_ex
def qQ (m : qs_M) (u : Nat → Nat → Int32) (w : Nat → Nat → Int64) : qs_M := (m.1, m.2.1, m.2.2.1, m.2.2.2.1, u, w)
theorem qQ_eq (m : qs_M) : m = qQ m (qs_i m) (qs_l m) := rfl
def qu (u : Nat → Nat → Int32) (k j : Nat) (x : Int32) : Nat → Nat → Int32 := fun a b => if a = k ∧ b = j then x else u a b
theorem qu_at (u : Nat → Nat → Int32) (k j : Nat) (x : Int32) (a b : Nat) : qu u k j x a b = if a = k ∧ b = j then x else u a b := rfl
def qv (w : Nat → Nat → Int64) (k j : Nat) (x : Int64) : Nat → Nat → Int64 := fun a b => if a = k ∧ b = j then x else w a b
theorem qv_at (w : Nat → Nat → Int64) (k j : Nat) (x : Int64) (a b : Nat) : qv w k j x a b = if a = k ∧ b = j then x else w a b := rfl
def quc (u : Nat → Nat → Int32) (r1 r2 sp dp n : Nat) : Nat → Nat → Int32 := fun a b => if a = r2 ∧ dp ≤ b ∧ b < dp + n then u r1 (sp + (b - dp)) else u a b
theorem qQ_kd (m : qs_M) (u : Nat → Nat → Int32) (w : Nat → Nat → Int64) (k : Nat) : qs_kd (qQ m u w) k = qs_kd m k := rfl
theorem qQ_sz (m : qs_M) (u : Nat → Nat → Int32) (w : Nat → Nat → Int64) (k : Nat) : qs_sz (qQ m u w) k = qs_sz m k := rfl
theorem qQ_lk (m : qs_M) (u : Nat → Nat → Int32) (w : Nat → Nat → Int64) (k j : Nat) : qs_lk (qQ m u w) k j = qs_lk m k j := rfl
theorem qQ_i (m : qs_M) (u : Nat → Nat → Int32) (w : Nat → Nat → Int64) (k j : Nat) : qs_i (qQ m u w) k j = u k j := rfl
theorem qQ_l (m : qs_M) (u : Nat → Nat → Int32) (w : Nat → Nat → Int64) (k j : Nat) : qs_l (qQ m u w) k j = w k j := rfl
theorem qQ_n (m : qs_M) (u : Nat → Nat → Int32) (w : Nat → Nat → Int64) : qs_n (qQ m u w) = qs_n m ∧ qs_z (qQ m u w) = qs_z m := ⟨rfl, rfl⟩
theorem qQ_wi (m : qs_M) (u : Nat → Nat → Int32) (w : Nat → Nat → Int64) (k j : Nat) (x : Int32) : qs_wi (qQ m u w) k j x = qQ m (qu u k j x) w := rfl
theorem qQ_wj (m : qs_M) (u : Nat → Nat → Int32) (w : Nat → Nat → Int64) (k j : Nat) (x : Int64) : qs_wj (qQ m u w) k j x = qQ m u (qv w k j x) := rfl
theorem qQ_cp (m : qs_M) (u : Nat → Nat → Int32) (w : Nat → Nat → Int64) (r1 r2 sp dp n : Nat) : qs_cp (qQ m u w) r1 r2 sp dp n = qQ m (quc u r1 r2 sp dp n) w := rfl
noncomputable def QM (u : Nat → Nat → Int32) (w : Nat → Nat → Int64) : qs_M := qQ qy_m u w
theorem QM_kd (u : Nat → Nat → Int32) (w : Nat → Nat → Int64) (k : Nat) : qs_kd (QM u w) k = qs_kd qy_m k := qQ_kd qy_m u w k
theorem QM_sz (u : Nat → Nat → Int32) (w : Nat → Nat → Int64) (k : Nat) : qs_sz (QM u w) k = qs_sz qy_m k := qQ_sz qy_m u w k
theorem QM_lk (u : Nat → Nat → Int32) (w : Nat → Nat → Int64) (k j : Nat) : qs_lk (QM u w) k j = qs_lk qy_m k j := qQ_lk qy_m u w k j
theorem QM_i (u : Nat → Nat → Int32) (w : Nat → Nat → Int64) (k j : Nat) : qs_i (QM u w) k j = u k j := qQ_i qy_m u w k j
theorem QM_l (u : Nat → Nat → Int32) (w : Nat → Nat → Int64) (k j : Nat) : qs_l (QM u w) k j = w k j := qQ_l qy_m u w k j
theorem QM_wi (u : Nat → Nat → Int32) (w : Nat → Nat → Int64) (k j : Nat) (x : Int32) : qs_wi (QM u w) k j x = QM (qu u k j x) w := qQ_wi qy_m u w k j x
theorem QM_wj (u : Nat → Nat → Int32) (w : Nat → Nat → Int64) (k j : Nat) (x : Int64) : qs_wj (QM u w) k j x = QM u (qv w k j x) := qQ_wj qy_m u w k j x
theorem QM_cp (u : Nat → Nat → Int32) (w : Nat → Nat → Int64) (r1 r2 sp dp n : Nat) : qs_cp (QM u w) r1 r2 sp dp n = QM (quc u r1 r2 sp dp n) w := qQ_cp qy_m u w r1 r2 sp dp n
theorem QM_z : qz_m = QM (qs_i qz_m) (qs_l qz_m) := by
  unfold QM
  rw [qy_eq]
  exact qQ_eq qz_m
theorem qy_kd {k : Nat} (h : k < 140) : qs_kd qy_m k = qz_K.getD k 0 ∧ qs_sz qy_m k = qz_S.getD k 0 := by rw [qy_eq]; exact qz_kd h
theorem qy_lk {k j : Nat} (h : k < 140) (hj : j < (qz_LK.getD k []).length) : qs_lk qy_m k j = (qz_LK.getD k []).getD j 0 := by rw [qy_eq]; exact qz_lk h hj
theorem zk_1 : qs_kd qy_m 1 = 25 := (qy_kd (by decide)).1
theorem zs_1 : qs_sz qy_m 1 = 6 := (qy_kd (by decide)).2
theorem zk_2 : qs_kd qy_m 2 = 90 := (qy_kd (by decide)).1
theorem zk_3 : qs_kd qy_m 3 = 90 := (qy_kd (by decide)).1
theorem zk_4 : qs_kd qy_m 4 = 90 := (qy_kd (by decide)).1
theorem zk_5 : qs_kd qy_m 5 = 90 := (qy_kd (by decide)).1
theorem zk_6 : qs_kd qy_m 6 = 90 := (qy_kd (by decide)).1
theorem zk_7 : qs_kd qy_m 7 = 90 := (qy_kd (by decide)).1
theorem zk_8 : qs_kd qy_m 8 = 24 := (qy_kd (by decide)).1
theorem zs_8 : qs_sz qy_m 8 = 4 := (qy_kd (by decide)).2
theorem zk_9 : qs_kd qy_m 9 = 24 := (qy_kd (by decide)).1
theorem zs_9 : qs_sz qy_m 9 = 3 := (qy_kd (by decide)).2
theorem zk_10 : qs_kd qy_m 10 = 24 := (qy_kd (by decide)).1
theorem zs_10 : qs_sz qy_m 10 = 4 := (qy_kd (by decide)).2
theorem zk_11 : qs_kd qy_m 11 = 24 := (qy_kd (by decide)).1
theorem zs_11 : qs_sz qy_m 11 = 3 := (qy_kd (by decide)).2
theorem zk_12 : qs_kd qy_m 12 = 24 := (qy_kd (by decide)).1
theorem zs_12 : qs_sz qy_m 12 = 2 := (qy_kd (by decide)).2
theorem zk_13 : qs_kd qy_m 13 = 24 := (qy_kd (by decide)).1
theorem zs_13 : qs_sz qy_m 13 = 2 := (qy_kd (by decide)).2
theorem zk_16 : qs_kd qy_m 16 = 7 := (qy_kd (by decide)).1
theorem zl_16_0 : qs_lk qy_m 16 0 = 19 := qy_lk (by decide) (by decide)
theorem zl_16_1 : qs_lk qy_m 16 1 = 50 := qy_lk (by decide) (by decide)
theorem zl_16_2 : qs_lk qy_m 16 2 = 54 := qy_lk (by decide) (by decide)
theorem zl_16_3 : qs_lk qy_m 16 3 = 65 := qy_lk (by decide) (by decide)
theorem zl_16_4 : qs_lk qy_m 16 4 = 76 := qy_lk (by decide) (by decide)
theorem zl_16_5 : qs_lk qy_m 16 5 = 0 := qy_lk (by decide) (by decide)
theorem zl_16_6 : qs_lk qy_m 16 6 = 87 := qy_lk (by decide) (by decide)
theorem zl_16_7 : qs_lk qy_m 16 7 = 88 := qy_lk (by decide) (by decide)
theorem zl_16_8 : qs_lk qy_m 16 8 = 89 := qy_lk (by decide) (by decide)
theorem zl_16_9 : qs_lk qy_m 16 9 = 0 := qy_lk (by decide) (by decide)
theorem zl_16_10 : qs_lk qy_m 16 10 = 141 := qy_lk (by decide) (by decide)
theorem zk_17 : qs_kd qy_m 17 = 1 := (qy_kd (by decide)).1
theorem zl_17_0 : qs_lk qy_m 17 0 = 20 := qy_lk (by decide) (by decide)
theorem zl_17_1 : qs_lk qy_m 17 1 = 21 := qy_lk (by decide) (by decide)
theorem zk_18 : qs_kd qy_m 18 = 36 := (qy_kd (by decide)).1
theorem zs_18 : qs_sz qy_m 18 = 14 := (qy_kd (by decide)).2
theorem zl_18_0 : qs_lk qy_m 18 0 = 22 := qy_lk (by decide) (by decide)
theorem zl_18_1 : qs_lk qy_m 18 1 = 24 := qy_lk (by decide) (by decide)
theorem zl_18_2 : qs_lk qy_m 18 2 = 26 := qy_lk (by decide) (by decide)
theorem zl_18_3 : qs_lk qy_m 18 3 = 28 := qy_lk (by decide) (by decide)
theorem zl_18_4 : qs_lk qy_m 18 4 = 30 := qy_lk (by decide) (by decide)
theorem zl_18_5 : qs_lk qy_m 18 5 = 32 := qy_lk (by decide) (by decide)
theorem zl_18_6 : qs_lk qy_m 18 6 = 34 := qy_lk (by decide) (by decide)
theorem zl_18_7 : qs_lk qy_m 18 7 = 36 := qy_lk (by decide) (by decide)
theorem zl_18_8 : qs_lk qy_m 18 8 = 38 := qy_lk (by decide) (by decide)
theorem zl_18_9 : qs_lk qy_m 18 9 = 40 := qy_lk (by decide) (by decide)
theorem zl_18_10 : qs_lk qy_m 18 10 = 42 := qy_lk (by decide) (by decide)
theorem zl_18_11 : qs_lk qy_m 18 11 = 44 := qy_lk (by decide) (by decide)
theorem zl_18_12 : qs_lk qy_m 18 12 = 46 := qy_lk (by decide) (by decide)
theorem zl_18_13 : qs_lk qy_m 18 13 = 48 := qy_lk (by decide) (by decide)
theorem zk_19 : qs_kd qy_m 19 = 20 := (qy_kd (by decide)).1
theorem zs_19 : qs_sz qy_m 19 = 96 := (qy_kd (by decide)).2
theorem zk_20 : qs_kd qy_m 20 = 6 := (qy_kd (by decide)).1
theorem zl_20_0 : qs_lk qy_m 20 0 = 23 := qy_lk (by decide) (by decide)
theorem zl_20_1 : qs_lk qy_m 20 1 = 0 := qy_lk (by decide) (by decide)
theorem zl_20_2 : qs_lk qy_m 20 2 = 0 := qy_lk (by decide) (by decide)
theorem zl_20_3 : qs_lk qy_m 20 3 = 0 := qy_lk (by decide) (by decide)
theorem zk_21 : qs_kd qy_m 21 = 20 := (qy_kd (by decide)).1
theorem zs_21 : qs_sz qy_m 21 = 96 := (qy_kd (by decide)).2
theorem zk_22 : qs_kd qy_m 22 = 6 := (qy_kd (by decide)).1
theorem zl_22_0 : qs_lk qy_m 22 0 = 25 := qy_lk (by decide) (by decide)
theorem zl_22_1 : qs_lk qy_m 22 1 = 0 := qy_lk (by decide) (by decide)
theorem zl_22_2 : qs_lk qy_m 22 2 = 0 := qy_lk (by decide) (by decide)
theorem zl_22_3 : qs_lk qy_m 22 3 = 0 := qy_lk (by decide) (by decide)
theorem zk_23 : qs_kd qy_m 23 = 20 := (qy_kd (by decide)).1
theorem zs_23 : qs_sz qy_m 23 = 96 := (qy_kd (by decide)).2
theorem zk_24 : qs_kd qy_m 24 = 6 := (qy_kd (by decide)).1
theorem zl_24_0 : qs_lk qy_m 24 0 = 27 := qy_lk (by decide) (by decide)
theorem zl_24_1 : qs_lk qy_m 24 1 = 0 := qy_lk (by decide) (by decide)
theorem zl_24_2 : qs_lk qy_m 24 2 = 0 := qy_lk (by decide) (by decide)
theorem zl_24_3 : qs_lk qy_m 24 3 = 0 := qy_lk (by decide) (by decide)
theorem zk_25 : qs_kd qy_m 25 = 20 := (qy_kd (by decide)).1
theorem zs_25 : qs_sz qy_m 25 = 96 := (qy_kd (by decide)).2
theorem zk_26 : qs_kd qy_m 26 = 6 := (qy_kd (by decide)).1
theorem zl_26_0 : qs_lk qy_m 26 0 = 29 := qy_lk (by decide) (by decide)
theorem zl_26_1 : qs_lk qy_m 26 1 = 0 := qy_lk (by decide) (by decide)
theorem zl_26_2 : qs_lk qy_m 26 2 = 0 := qy_lk (by decide) (by decide)
theorem zl_26_3 : qs_lk qy_m 26 3 = 0 := qy_lk (by decide) (by decide)
theorem zk_27 : qs_kd qy_m 27 = 20 := (qy_kd (by decide)).1
theorem zs_27 : qs_sz qy_m 27 = 96 := (qy_kd (by decide)).2
theorem zk_28 : qs_kd qy_m 28 = 6 := (qy_kd (by decide)).1
theorem zl_28_0 : qs_lk qy_m 28 0 = 31 := qy_lk (by decide) (by decide)
theorem zl_28_1 : qs_lk qy_m 28 1 = 0 := qy_lk (by decide) (by decide)
theorem zl_28_2 : qs_lk qy_m 28 2 = 0 := qy_lk (by decide) (by decide)
theorem zl_28_3 : qs_lk qy_m 28 3 = 0 := qy_lk (by decide) (by decide)
theorem zk_29 : qs_kd qy_m 29 = 20 := (qy_kd (by decide)).1
theorem zs_29 : qs_sz qy_m 29 = 96 := (qy_kd (by decide)).2
theorem zk_30 : qs_kd qy_m 30 = 6 := (qy_kd (by decide)).1
theorem zl_30_0 : qs_lk qy_m 30 0 = 33 := qy_lk (by decide) (by decide)
theorem zl_30_1 : qs_lk qy_m 30 1 = 0 := qy_lk (by decide) (by decide)
theorem zl_30_2 : qs_lk qy_m 30 2 = 0 := qy_lk (by decide) (by decide)
theorem zl_30_3 : qs_lk qy_m 30 3 = 0 := qy_lk (by decide) (by decide)
theorem zk_31 : qs_kd qy_m 31 = 20 := (qy_kd (by decide)).1
theorem zs_31 : qs_sz qy_m 31 = 96 := (qy_kd (by decide)).2
theorem zk_32 : qs_kd qy_m 32 = 6 := (qy_kd (by decide)).1
theorem zl_32_0 : qs_lk qy_m 32 0 = 35 := qy_lk (by decide) (by decide)
theorem zl_32_1 : qs_lk qy_m 32 1 = 0 := qy_lk (by decide) (by decide)
theorem zl_32_2 : qs_lk qy_m 32 2 = 0 := qy_lk (by decide) (by decide)
theorem zl_32_3 : qs_lk qy_m 32 3 = 0 := qy_lk (by decide) (by decide)
theorem zk_33 : qs_kd qy_m 33 = 20 := (qy_kd (by decide)).1
theorem zs_33 : qs_sz qy_m 33 = 96 := (qy_kd (by decide)).2
theorem zk_34 : qs_kd qy_m 34 = 6 := (qy_kd (by decide)).1
theorem zl_34_0 : qs_lk qy_m 34 0 = 37 := qy_lk (by decide) (by decide)
theorem zl_34_1 : qs_lk qy_m 34 1 = 0 := qy_lk (by decide) (by decide)
theorem zl_34_2 : qs_lk qy_m 34 2 = 0 := qy_lk (by decide) (by decide)
theorem zl_34_3 : qs_lk qy_m 34 3 = 0 := qy_lk (by decide) (by decide)
theorem zk_35 : qs_kd qy_m 35 = 20 := (qy_kd (by decide)).1
theorem zs_35 : qs_sz qy_m 35 = 96 := (qy_kd (by decide)).2
theorem zk_36 : qs_kd qy_m 36 = 6 := (qy_kd (by decide)).1
theorem zl_36_0 : qs_lk qy_m 36 0 = 39 := qy_lk (by decide) (by decide)
theorem zl_36_1 : qs_lk qy_m 36 1 = 0 := qy_lk (by decide) (by decide)
theorem zl_36_2 : qs_lk qy_m 36 2 = 0 := qy_lk (by decide) (by decide)
theorem zl_36_3 : qs_lk qy_m 36 3 = 0 := qy_lk (by decide) (by decide)
theorem zk_37 : qs_kd qy_m 37 = 20 := (qy_kd (by decide)).1
theorem zs_37 : qs_sz qy_m 37 = 96 := (qy_kd (by decide)).2
theorem zk_38 : qs_kd qy_m 38 = 6 := (qy_kd (by decide)).1
theorem zl_38_0 : qs_lk qy_m 38 0 = 41 := qy_lk (by decide) (by decide)
theorem zl_38_1 : qs_lk qy_m 38 1 = 0 := qy_lk (by decide) (by decide)
theorem zl_38_2 : qs_lk qy_m 38 2 = 0 := qy_lk (by decide) (by decide)
theorem zl_38_3 : qs_lk qy_m 38 3 = 0 := qy_lk (by decide) (by decide)
theorem zk_39 : qs_kd qy_m 39 = 20 := (qy_kd (by decide)).1
theorem zs_39 : qs_sz qy_m 39 = 96 := (qy_kd (by decide)).2
theorem zk_40 : qs_kd qy_m 40 = 6 := (qy_kd (by decide)).1
theorem zl_40_0 : qs_lk qy_m 40 0 = 43 := qy_lk (by decide) (by decide)
theorem zl_40_1 : qs_lk qy_m 40 1 = 0 := qy_lk (by decide) (by decide)
theorem zl_40_2 : qs_lk qy_m 40 2 = 0 := qy_lk (by decide) (by decide)
theorem zl_40_3 : qs_lk qy_m 40 3 = 0 := qy_lk (by decide) (by decide)
theorem zk_41 : qs_kd qy_m 41 = 20 := (qy_kd (by decide)).1
theorem zs_41 : qs_sz qy_m 41 = 96 := (qy_kd (by decide)).2
theorem zk_42 : qs_kd qy_m 42 = 6 := (qy_kd (by decide)).1
theorem zl_42_0 : qs_lk qy_m 42 0 = 45 := qy_lk (by decide) (by decide)
theorem zl_42_1 : qs_lk qy_m 42 1 = 0 := qy_lk (by decide) (by decide)
theorem zl_42_2 : qs_lk qy_m 42 2 = 0 := qy_lk (by decide) (by decide)
theorem zl_42_3 : qs_lk qy_m 42 3 = 0 := qy_lk (by decide) (by decide)
theorem zk_43 : qs_kd qy_m 43 = 20 := (qy_kd (by decide)).1
theorem zs_43 : qs_sz qy_m 43 = 96 := (qy_kd (by decide)).2
theorem zk_44 : qs_kd qy_m 44 = 6 := (qy_kd (by decide)).1
theorem zl_44_0 : qs_lk qy_m 44 0 = 47 := qy_lk (by decide) (by decide)
theorem zl_44_1 : qs_lk qy_m 44 1 = 0 := qy_lk (by decide) (by decide)
theorem zl_44_2 : qs_lk qy_m 44 2 = 0 := qy_lk (by decide) (by decide)
theorem zl_44_3 : qs_lk qy_m 44 3 = 0 := qy_lk (by decide) (by decide)
theorem zk_45 : qs_kd qy_m 45 = 20 := (qy_kd (by decide)).1
theorem zs_45 : qs_sz qy_m 45 = 96 := (qy_kd (by decide)).2
theorem zk_46 : qs_kd qy_m 46 = 6 := (qy_kd (by decide)).1
theorem zl_46_0 : qs_lk qy_m 46 0 = 49 := qy_lk (by decide) (by decide)
theorem zl_46_1 : qs_lk qy_m 46 1 = 0 := qy_lk (by decide) (by decide)
theorem zl_46_2 : qs_lk qy_m 46 2 = 0 := qy_lk (by decide) (by decide)
theorem zl_46_3 : qs_lk qy_m 46 3 = 0 := qy_lk (by decide) (by decide)
theorem zk_47 : qs_kd qy_m 47 = 20 := (qy_kd (by decide)).1
theorem zs_47 : qs_sz qy_m 47 = 96 := (qy_kd (by decide)).2
theorem zk_48 : qs_kd qy_m 48 = 3 := (qy_kd (by decide)).1
theorem zl_48_0 : qs_lk qy_m 48 0 = 51 := qy_lk (by decide) (by decide)
theorem zl_48_1 : qs_lk qy_m 48 1 = 52 := qy_lk (by decide) (by decide)
theorem zl_48_2 : qs_lk qy_m 48 2 = 0 := qy_lk (by decide) (by decide)
theorem zl_48_3 : qs_lk qy_m 48 3 = 0 := qy_lk (by decide) (by decide)
theorem zl_48_4 : qs_lk qy_m 48 4 = 0 := qy_lk (by decide) (by decide)
theorem zl_48_5 : qs_lk qy_m 48 5 = 0 := qy_lk (by decide) (by decide)
theorem zl_48_6 : qs_lk qy_m 48 6 = 0 := qy_lk (by decide) (by decide)
theorem zk_49 : qs_kd qy_m 49 = 20 := (qy_kd (by decide)).1
theorem zs_49 : qs_sz qy_m 49 = 96 := (qy_kd (by decide)).2
theorem zk_50 : qs_kd qy_m 50 = 6 := (qy_kd (by decide)).1
theorem zl_50_0 : qs_lk qy_m 50 0 = 53 := qy_lk (by decide) (by decide)
theorem zl_50_1 : qs_lk qy_m 50 1 = 0 := qy_lk (by decide) (by decide)
theorem zl_50_2 : qs_lk qy_m 50 2 = 0 := qy_lk (by decide) (by decide)
theorem zl_50_3 : qs_lk qy_m 50 3 = 0 := qy_lk (by decide) (by decide)
theorem zk_51 : qs_kd qy_m 51 = 20 := (qy_kd (by decide)).1
theorem zs_51 : qs_sz qy_m 51 = 96 := (qy_kd (by decide)).2
theorem zk_52 : qs_kd qy_m 52 = 2 := (qy_kd (by decide)).1
theorem zl_52_0 : qs_lk qy_m 52 0 = 19 := qy_lk (by decide) (by decide)
theorem zl_52_1 : qs_lk qy_m 52 1 = 55 := qy_lk (by decide) (by decide)
theorem zl_52_2 : qs_lk qy_m 52 2 = 56 := qy_lk (by decide) (by decide)
theorem zl_52_3 : qs_lk qy_m 52 3 = 0 := qy_lk (by decide) (by decide)
theorem zl_52_4 : qs_lk qy_m 52 4 = 0 := qy_lk (by decide) (by decide)
theorem zl_52_5 : qs_lk qy_m 52 5 = 0 := qy_lk (by decide) (by decide)
theorem zl_52_6 : qs_lk qy_m 52 6 = 0 := qy_lk (by decide) (by decide)
theorem zl_52_7 : qs_lk qy_m 52 7 = 0 := qy_lk (by decide) (by decide)
theorem zl_52_8 : qs_lk qy_m 52 8 = 0 := qy_lk (by decide) (by decide)
theorem zl_52_9 : qs_lk qy_m 52 9 = 0 := qy_lk (by decide) (by decide)
theorem zl_52_10 : qs_lk qy_m 52 10 = 0 := qy_lk (by decide) (by decide)
theorem zl_52_11 : qs_lk qy_m 52 11 = 0 := qy_lk (by decide) (by decide)
theorem zl_52_12 : qs_lk qy_m 52 12 = 0 := qy_lk (by decide) (by decide)
theorem zl_52_13 : qs_lk qy_m 52 13 = 0 := qy_lk (by decide) (by decide)
theorem zl_52_14 : qs_lk qy_m 52 14 = 0 := qy_lk (by decide) (by decide)
theorem zk_53 : qs_kd qy_m 53 = 30 := (qy_kd (by decide)).1
theorem zs_53 : qs_sz qy_m 53 = 8 := (qy_kd (by decide)).2
theorem zl_53_0 : qs_lk qy_m 53 0 = 57 := qy_lk (by decide) (by decide)
theorem zl_53_1 : qs_lk qy_m 53 1 = 58 := qy_lk (by decide) (by decide)
theorem zl_53_2 : qs_lk qy_m 53 2 = 59 := qy_lk (by decide) (by decide)
theorem zl_53_3 : qs_lk qy_m 53 3 = 60 := qy_lk (by decide) (by decide)
theorem zl_53_4 : qs_lk qy_m 53 4 = 61 := qy_lk (by decide) (by decide)
theorem zl_53_5 : qs_lk qy_m 53 5 = 62 := qy_lk (by decide) (by decide)
theorem zl_53_6 : qs_lk qy_m 53 6 = 63 := qy_lk (by decide) (by decide)
theorem zl_53_7 : qs_lk qy_m 53 7 = 64 := qy_lk (by decide) (by decide)
theorem zk_54 : qs_kd qy_m 54 = 20 := (qy_kd (by decide)).1
theorem zs_54 : qs_sz qy_m 54 = 3 := (qy_kd (by decide)).2
theorem zk_55 : qs_kd qy_m 55 = 0 := (qy_kd (by decide)).1
theorem zl_55_0 : qs_lk qy_m 55 0 = 0 := qy_lk (by decide) (by decide)
theorem zl_55_1 : qs_lk qy_m 55 1 = 0 := qy_lk (by decide) (by decide)
theorem zl_55_2 : qs_lk qy_m 55 2 = 0 := qy_lk (by decide) (by decide)
theorem zl_55_3 : qs_lk qy_m 55 3 = 0 := qy_lk (by decide) (by decide)
theorem zl_55_4 : qs_lk qy_m 55 4 = 0 := qy_lk (by decide) (by decide)
theorem zl_55_5 : qs_lk qy_m 55 5 = 0 := qy_lk (by decide) (by decide)
theorem zl_55_6 : qs_lk qy_m 55 6 = 0 := qy_lk (by decide) (by decide)
theorem zl_55_7 : qs_lk qy_m 55 7 = 0 := qy_lk (by decide) (by decide)
theorem zk_56 : qs_kd qy_m 56 = 0 := (qy_kd (by decide)).1
theorem zl_56_0 : qs_lk qy_m 56 0 = 0 := qy_lk (by decide) (by decide)
theorem zl_56_1 : qs_lk qy_m 56 1 = 0 := qy_lk (by decide) (by decide)
theorem zl_56_2 : qs_lk qy_m 56 2 = 0 := qy_lk (by decide) (by decide)
theorem zl_56_3 : qs_lk qy_m 56 3 = 0 := qy_lk (by decide) (by decide)
theorem zl_56_4 : qs_lk qy_m 56 4 = 0 := qy_lk (by decide) (by decide)
theorem zl_56_5 : qs_lk qy_m 56 5 = 0 := qy_lk (by decide) (by decide)
theorem zl_56_6 : qs_lk qy_m 56 6 = 0 := qy_lk (by decide) (by decide)
theorem zl_56_7 : qs_lk qy_m 56 7 = 0 := qy_lk (by decide) (by decide)
theorem zk_57 : qs_kd qy_m 57 = 0 := (qy_kd (by decide)).1
theorem zl_57_0 : qs_lk qy_m 57 0 = 0 := qy_lk (by decide) (by decide)
theorem zl_57_1 : qs_lk qy_m 57 1 = 0 := qy_lk (by decide) (by decide)
theorem zl_57_2 : qs_lk qy_m 57 2 = 0 := qy_lk (by decide) (by decide)
theorem zl_57_3 : qs_lk qy_m 57 3 = 0 := qy_lk (by decide) (by decide)
theorem zl_57_4 : qs_lk qy_m 57 4 = 0 := qy_lk (by decide) (by decide)
theorem zl_57_5 : qs_lk qy_m 57 5 = 0 := qy_lk (by decide) (by decide)
theorem zl_57_6 : qs_lk qy_m 57 6 = 0 := qy_lk (by decide) (by decide)
theorem zl_57_7 : qs_lk qy_m 57 7 = 0 := qy_lk (by decide) (by decide)
theorem zk_58 : qs_kd qy_m 58 = 0 := (qy_kd (by decide)).1
theorem zl_58_0 : qs_lk qy_m 58 0 = 0 := qy_lk (by decide) (by decide)
theorem zl_58_1 : qs_lk qy_m 58 1 = 0 := qy_lk (by decide) (by decide)
theorem zl_58_2 : qs_lk qy_m 58 2 = 0 := qy_lk (by decide) (by decide)
theorem zl_58_3 : qs_lk qy_m 58 3 = 0 := qy_lk (by decide) (by decide)
theorem zl_58_4 : qs_lk qy_m 58 4 = 0 := qy_lk (by decide) (by decide)
theorem zl_58_5 : qs_lk qy_m 58 5 = 0 := qy_lk (by decide) (by decide)
theorem zl_58_6 : qs_lk qy_m 58 6 = 0 := qy_lk (by decide) (by decide)
theorem zl_58_7 : qs_lk qy_m 58 7 = 0 := qy_lk (by decide) (by decide)
theorem zk_59 : qs_kd qy_m 59 = 0 := (qy_kd (by decide)).1
theorem zl_59_0 : qs_lk qy_m 59 0 = 0 := qy_lk (by decide) (by decide)
theorem zl_59_1 : qs_lk qy_m 59 1 = 0 := qy_lk (by decide) (by decide)
theorem zl_59_2 : qs_lk qy_m 59 2 = 0 := qy_lk (by decide) (by decide)
theorem zl_59_3 : qs_lk qy_m 59 3 = 0 := qy_lk (by decide) (by decide)
theorem zl_59_4 : qs_lk qy_m 59 4 = 0 := qy_lk (by decide) (by decide)
theorem zl_59_5 : qs_lk qy_m 59 5 = 0 := qy_lk (by decide) (by decide)
theorem zl_59_6 : qs_lk qy_m 59 6 = 0 := qy_lk (by decide) (by decide)
theorem zl_59_7 : qs_lk qy_m 59 7 = 0 := qy_lk (by decide) (by decide)
theorem zk_60 : qs_kd qy_m 60 = 0 := (qy_kd (by decide)).1
theorem zl_60_0 : qs_lk qy_m 60 0 = 0 := qy_lk (by decide) (by decide)
theorem zl_60_1 : qs_lk qy_m 60 1 = 0 := qy_lk (by decide) (by decide)
theorem zl_60_2 : qs_lk qy_m 60 2 = 0 := qy_lk (by decide) (by decide)
theorem zl_60_3 : qs_lk qy_m 60 3 = 0 := qy_lk (by decide) (by decide)
theorem zl_60_4 : qs_lk qy_m 60 4 = 0 := qy_lk (by decide) (by decide)
theorem zl_60_5 : qs_lk qy_m 60 5 = 0 := qy_lk (by decide) (by decide)
theorem zl_60_6 : qs_lk qy_m 60 6 = 0 := qy_lk (by decide) (by decide)
theorem zl_60_7 : qs_lk qy_m 60 7 = 0 := qy_lk (by decide) (by decide)
theorem zk_61 : qs_kd qy_m 61 = 0 := (qy_kd (by decide)).1
theorem zl_61_0 : qs_lk qy_m 61 0 = 0 := qy_lk (by decide) (by decide)
theorem zl_61_1 : qs_lk qy_m 61 1 = 0 := qy_lk (by decide) (by decide)
theorem zl_61_2 : qs_lk qy_m 61 2 = 0 := qy_lk (by decide) (by decide)
theorem zl_61_3 : qs_lk qy_m 61 3 = 0 := qy_lk (by decide) (by decide)
theorem zl_61_4 : qs_lk qy_m 61 4 = 0 := qy_lk (by decide) (by decide)
theorem zl_61_5 : qs_lk qy_m 61 5 = 0 := qy_lk (by decide) (by decide)
theorem zl_61_6 : qs_lk qy_m 61 6 = 0 := qy_lk (by decide) (by decide)
theorem zl_61_7 : qs_lk qy_m 61 7 = 0 := qy_lk (by decide) (by decide)
theorem zk_62 : qs_kd qy_m 62 = 0 := (qy_kd (by decide)).1
theorem zl_62_0 : qs_lk qy_m 62 0 = 0 := qy_lk (by decide) (by decide)
theorem zl_62_1 : qs_lk qy_m 62 1 = 0 := qy_lk (by decide) (by decide)
theorem zl_62_2 : qs_lk qy_m 62 2 = 0 := qy_lk (by decide) (by decide)
theorem zl_62_3 : qs_lk qy_m 62 3 = 0 := qy_lk (by decide) (by decide)
theorem zl_62_4 : qs_lk qy_m 62 4 = 0 := qy_lk (by decide) (by decide)
theorem zl_62_5 : qs_lk qy_m 62 5 = 0 := qy_lk (by decide) (by decide)
theorem zl_62_6 : qs_lk qy_m 62 6 = 0 := qy_lk (by decide) (by decide)
theorem zl_62_7 : qs_lk qy_m 62 7 = 0 := qy_lk (by decide) (by decide)
theorem zk_63 : qs_kd qy_m 63 = 2 := (qy_kd (by decide)).1
theorem zl_63_0 : qs_lk qy_m 63 0 = 19 := qy_lk (by decide) (by decide)
theorem zl_63_1 : qs_lk qy_m 63 1 = 66 := qy_lk (by decide) (by decide)
theorem zl_63_2 : qs_lk qy_m 63 2 = 67 := qy_lk (by decide) (by decide)
theorem zl_63_3 : qs_lk qy_m 63 3 = 0 := qy_lk (by decide) (by decide)
theorem zl_63_4 : qs_lk qy_m 63 4 = 0 := qy_lk (by decide) (by decide)
theorem zl_63_5 : qs_lk qy_m 63 5 = 0 := qy_lk (by decide) (by decide)
theorem zl_63_6 : qs_lk qy_m 63 6 = 0 := qy_lk (by decide) (by decide)
theorem zl_63_7 : qs_lk qy_m 63 7 = 0 := qy_lk (by decide) (by decide)
theorem zl_63_8 : qs_lk qy_m 63 8 = 0 := qy_lk (by decide) (by decide)
theorem zl_63_9 : qs_lk qy_m 63 9 = 0 := qy_lk (by decide) (by decide)
theorem zl_63_10 : qs_lk qy_m 63 10 = 0 := qy_lk (by decide) (by decide)
theorem zl_63_11 : qs_lk qy_m 63 11 = 0 := qy_lk (by decide) (by decide)
theorem zl_63_12 : qs_lk qy_m 63 12 = 0 := qy_lk (by decide) (by decide)
theorem zl_63_13 : qs_lk qy_m 63 13 = 0 := qy_lk (by decide) (by decide)
theorem zl_63_14 : qs_lk qy_m 63 14 = 0 := qy_lk (by decide) (by decide)
theorem zk_64 : qs_kd qy_m 64 = 30 := (qy_kd (by decide)).1
theorem zs_64 : qs_sz qy_m 64 = 8 := (qy_kd (by decide)).2
theorem zl_64_0 : qs_lk qy_m 64 0 = 68 := qy_lk (by decide) (by decide)
theorem zl_64_1 : qs_lk qy_m 64 1 = 69 := qy_lk (by decide) (by decide)
theorem zl_64_2 : qs_lk qy_m 64 2 = 70 := qy_lk (by decide) (by decide)
theorem zl_64_3 : qs_lk qy_m 64 3 = 71 := qy_lk (by decide) (by decide)
theorem zl_64_4 : qs_lk qy_m 64 4 = 72 := qy_lk (by decide) (by decide)
theorem zl_64_5 : qs_lk qy_m 64 5 = 73 := qy_lk (by decide) (by decide)
theorem zl_64_6 : qs_lk qy_m 64 6 = 74 := qy_lk (by decide) (by decide)
theorem zl_64_7 : qs_lk qy_m 64 7 = 75 := qy_lk (by decide) (by decide)
theorem zk_65 : qs_kd qy_m 65 = 20 := (qy_kd (by decide)).1
theorem zs_65 : qs_sz qy_m 65 = 3 := (qy_kd (by decide)).2
theorem zk_66 : qs_kd qy_m 66 = 0 := (qy_kd (by decide)).1
theorem zl_66_0 : qs_lk qy_m 66 0 = 0 := qy_lk (by decide) (by decide)
theorem zl_66_1 : qs_lk qy_m 66 1 = 0 := qy_lk (by decide) (by decide)
theorem zl_66_2 : qs_lk qy_m 66 2 = 0 := qy_lk (by decide) (by decide)
theorem zl_66_3 : qs_lk qy_m 66 3 = 0 := qy_lk (by decide) (by decide)
theorem zl_66_4 : qs_lk qy_m 66 4 = 0 := qy_lk (by decide) (by decide)
theorem zl_66_5 : qs_lk qy_m 66 5 = 0 := qy_lk (by decide) (by decide)
theorem zl_66_6 : qs_lk qy_m 66 6 = 0 := qy_lk (by decide) (by decide)
theorem zl_66_7 : qs_lk qy_m 66 7 = 0 := qy_lk (by decide) (by decide)
theorem zk_67 : qs_kd qy_m 67 = 0 := (qy_kd (by decide)).1
theorem zl_67_0 : qs_lk qy_m 67 0 = 0 := qy_lk (by decide) (by decide)
theorem zl_67_1 : qs_lk qy_m 67 1 = 0 := qy_lk (by decide) (by decide)
theorem zl_67_2 : qs_lk qy_m 67 2 = 0 := qy_lk (by decide) (by decide)
theorem zl_67_3 : qs_lk qy_m 67 3 = 0 := qy_lk (by decide) (by decide)
theorem zl_67_4 : qs_lk qy_m 67 4 = 0 := qy_lk (by decide) (by decide)
theorem zl_67_5 : qs_lk qy_m 67 5 = 0 := qy_lk (by decide) (by decide)
theorem zl_67_6 : qs_lk qy_m 67 6 = 0 := qy_lk (by decide) (by decide)
theorem zl_67_7 : qs_lk qy_m 67 7 = 0 := qy_lk (by decide) (by decide)
theorem zk_68 : qs_kd qy_m 68 = 0 := (qy_kd (by decide)).1
theorem zl_68_0 : qs_lk qy_m 68 0 = 0 := qy_lk (by decide) (by decide)
theorem zl_68_1 : qs_lk qy_m 68 1 = 0 := qy_lk (by decide) (by decide)
theorem zl_68_2 : qs_lk qy_m 68 2 = 0 := qy_lk (by decide) (by decide)
theorem zl_68_3 : qs_lk qy_m 68 3 = 0 := qy_lk (by decide) (by decide)
theorem zl_68_4 : qs_lk qy_m 68 4 = 0 := qy_lk (by decide) (by decide)
theorem zl_68_5 : qs_lk qy_m 68 5 = 0 := qy_lk (by decide) (by decide)
theorem zl_68_6 : qs_lk qy_m 68 6 = 0 := qy_lk (by decide) (by decide)
theorem zl_68_7 : qs_lk qy_m 68 7 = 0 := qy_lk (by decide) (by decide)
theorem zk_69 : qs_kd qy_m 69 = 0 := (qy_kd (by decide)).1
theorem zl_69_0 : qs_lk qy_m 69 0 = 0 := qy_lk (by decide) (by decide)
theorem zl_69_1 : qs_lk qy_m 69 1 = 0 := qy_lk (by decide) (by decide)
theorem zl_69_2 : qs_lk qy_m 69 2 = 0 := qy_lk (by decide) (by decide)
theorem zl_69_3 : qs_lk qy_m 69 3 = 0 := qy_lk (by decide) (by decide)
theorem zl_69_4 : qs_lk qy_m 69 4 = 0 := qy_lk (by decide) (by decide)
theorem zl_69_5 : qs_lk qy_m 69 5 = 0 := qy_lk (by decide) (by decide)
theorem zl_69_6 : qs_lk qy_m 69 6 = 0 := qy_lk (by decide) (by decide)
theorem zl_69_7 : qs_lk qy_m 69 7 = 0 := qy_lk (by decide) (by decide)
theorem zk_70 : qs_kd qy_m 70 = 0 := (qy_kd (by decide)).1
theorem zl_70_0 : qs_lk qy_m 70 0 = 0 := qy_lk (by decide) (by decide)
theorem zl_70_1 : qs_lk qy_m 70 1 = 0 := qy_lk (by decide) (by decide)
theorem zl_70_2 : qs_lk qy_m 70 2 = 0 := qy_lk (by decide) (by decide)
theorem zl_70_3 : qs_lk qy_m 70 3 = 0 := qy_lk (by decide) (by decide)
theorem zl_70_4 : qs_lk qy_m 70 4 = 0 := qy_lk (by decide) (by decide)
theorem zl_70_5 : qs_lk qy_m 70 5 = 0 := qy_lk (by decide) (by decide)
theorem zl_70_6 : qs_lk qy_m 70 6 = 0 := qy_lk (by decide) (by decide)
theorem zl_70_7 : qs_lk qy_m 70 7 = 0 := qy_lk (by decide) (by decide)
theorem zk_71 : qs_kd qy_m 71 = 0 := (qy_kd (by decide)).1
theorem zl_71_0 : qs_lk qy_m 71 0 = 0 := qy_lk (by decide) (by decide)
theorem zl_71_1 : qs_lk qy_m 71 1 = 0 := qy_lk (by decide) (by decide)
theorem zl_71_2 : qs_lk qy_m 71 2 = 0 := qy_lk (by decide) (by decide)
theorem zl_71_3 : qs_lk qy_m 71 3 = 0 := qy_lk (by decide) (by decide)
theorem zl_71_4 : qs_lk qy_m 71 4 = 0 := qy_lk (by decide) (by decide)
theorem zl_71_5 : qs_lk qy_m 71 5 = 0 := qy_lk (by decide) (by decide)
theorem zl_71_6 : qs_lk qy_m 71 6 = 0 := qy_lk (by decide) (by decide)
theorem zl_71_7 : qs_lk qy_m 71 7 = 0 := qy_lk (by decide) (by decide)
theorem zk_72 : qs_kd qy_m 72 = 0 := (qy_kd (by decide)).1
theorem zl_72_0 : qs_lk qy_m 72 0 = 0 := qy_lk (by decide) (by decide)
theorem zl_72_1 : qs_lk qy_m 72 1 = 0 := qy_lk (by decide) (by decide)
theorem zl_72_2 : qs_lk qy_m 72 2 = 0 := qy_lk (by decide) (by decide)
theorem zl_72_3 : qs_lk qy_m 72 3 = 0 := qy_lk (by decide) (by decide)
theorem zl_72_4 : qs_lk qy_m 72 4 = 0 := qy_lk (by decide) (by decide)
theorem zl_72_5 : qs_lk qy_m 72 5 = 0 := qy_lk (by decide) (by decide)
theorem zl_72_6 : qs_lk qy_m 72 6 = 0 := qy_lk (by decide) (by decide)
theorem zl_72_7 : qs_lk qy_m 72 7 = 0 := qy_lk (by decide) (by decide)
theorem zk_73 : qs_kd qy_m 73 = 0 := (qy_kd (by decide)).1
theorem zl_73_0 : qs_lk qy_m 73 0 = 0 := qy_lk (by decide) (by decide)
theorem zl_73_1 : qs_lk qy_m 73 1 = 0 := qy_lk (by decide) (by decide)
theorem zl_73_2 : qs_lk qy_m 73 2 = 0 := qy_lk (by decide) (by decide)
theorem zl_73_3 : qs_lk qy_m 73 3 = 0 := qy_lk (by decide) (by decide)
theorem zl_73_4 : qs_lk qy_m 73 4 = 0 := qy_lk (by decide) (by decide)
theorem zl_73_5 : qs_lk qy_m 73 5 = 0 := qy_lk (by decide) (by decide)
theorem zl_73_6 : qs_lk qy_m 73 6 = 0 := qy_lk (by decide) (by decide)
theorem zl_73_7 : qs_lk qy_m 73 7 = 0 := qy_lk (by decide) (by decide)
theorem zk_74 : qs_kd qy_m 74 = 2 := (qy_kd (by decide)).1
theorem zl_74_0 : qs_lk qy_m 74 0 = 19 := qy_lk (by decide) (by decide)
theorem zl_74_1 : qs_lk qy_m 74 1 = 77 := qy_lk (by decide) (by decide)
theorem zl_74_2 : qs_lk qy_m 74 2 = 78 := qy_lk (by decide) (by decide)
theorem zl_74_3 : qs_lk qy_m 74 3 = 0 := qy_lk (by decide) (by decide)
theorem zl_74_4 : qs_lk qy_m 74 4 = 0 := qy_lk (by decide) (by decide)
theorem zl_74_5 : qs_lk qy_m 74 5 = 0 := qy_lk (by decide) (by decide)
theorem zl_74_6 : qs_lk qy_m 74 6 = 0 := qy_lk (by decide) (by decide)
theorem zl_74_7 : qs_lk qy_m 74 7 = 0 := qy_lk (by decide) (by decide)
theorem zl_74_8 : qs_lk qy_m 74 8 = 0 := qy_lk (by decide) (by decide)
theorem zl_74_9 : qs_lk qy_m 74 9 = 0 := qy_lk (by decide) (by decide)
theorem zl_74_10 : qs_lk qy_m 74 10 = 0 := qy_lk (by decide) (by decide)
theorem zl_74_11 : qs_lk qy_m 74 11 = 0 := qy_lk (by decide) (by decide)
theorem zl_74_12 : qs_lk qy_m 74 12 = 0 := qy_lk (by decide) (by decide)
theorem zl_74_13 : qs_lk qy_m 74 13 = 0 := qy_lk (by decide) (by decide)
theorem zl_74_14 : qs_lk qy_m 74 14 = 0 := qy_lk (by decide) (by decide)
theorem zk_75 : qs_kd qy_m 75 = 30 := (qy_kd (by decide)).1
theorem zs_75 : qs_sz qy_m 75 = 8 := (qy_kd (by decide)).2
theorem zl_75_0 : qs_lk qy_m 75 0 = 79 := qy_lk (by decide) (by decide)
theorem zl_75_1 : qs_lk qy_m 75 1 = 80 := qy_lk (by decide) (by decide)
theorem zl_75_2 : qs_lk qy_m 75 2 = 81 := qy_lk (by decide) (by decide)
theorem zl_75_3 : qs_lk qy_m 75 3 = 82 := qy_lk (by decide) (by decide)
theorem zl_75_4 : qs_lk qy_m 75 4 = 83 := qy_lk (by decide) (by decide)
theorem zl_75_5 : qs_lk qy_m 75 5 = 84 := qy_lk (by decide) (by decide)
theorem zl_75_6 : qs_lk qy_m 75 6 = 85 := qy_lk (by decide) (by decide)
theorem zl_75_7 : qs_lk qy_m 75 7 = 86 := qy_lk (by decide) (by decide)
theorem zk_76 : qs_kd qy_m 76 = 20 := (qy_kd (by decide)).1
theorem zs_76 : qs_sz qy_m 76 = 3 := (qy_kd (by decide)).2
theorem zk_77 : qs_kd qy_m 77 = 0 := (qy_kd (by decide)).1
theorem zl_77_0 : qs_lk qy_m 77 0 = 0 := qy_lk (by decide) (by decide)
theorem zl_77_1 : qs_lk qy_m 77 1 = 0 := qy_lk (by decide) (by decide)
theorem zl_77_2 : qs_lk qy_m 77 2 = 0 := qy_lk (by decide) (by decide)
theorem zl_77_3 : qs_lk qy_m 77 3 = 0 := qy_lk (by decide) (by decide)
theorem zl_77_4 : qs_lk qy_m 77 4 = 0 := qy_lk (by decide) (by decide)
theorem zl_77_5 : qs_lk qy_m 77 5 = 0 := qy_lk (by decide) (by decide)
theorem zl_77_6 : qs_lk qy_m 77 6 = 0 := qy_lk (by decide) (by decide)
theorem zl_77_7 : qs_lk qy_m 77 7 = 0 := qy_lk (by decide) (by decide)
theorem zk_78 : qs_kd qy_m 78 = 0 := (qy_kd (by decide)).1
theorem zl_78_0 : qs_lk qy_m 78 0 = 0 := qy_lk (by decide) (by decide)
theorem zl_78_1 : qs_lk qy_m 78 1 = 0 := qy_lk (by decide) (by decide)
theorem zl_78_2 : qs_lk qy_m 78 2 = 0 := qy_lk (by decide) (by decide)
theorem zl_78_3 : qs_lk qy_m 78 3 = 0 := qy_lk (by decide) (by decide)
theorem zl_78_4 : qs_lk qy_m 78 4 = 0 := qy_lk (by decide) (by decide)
theorem zl_78_5 : qs_lk qy_m 78 5 = 0 := qy_lk (by decide) (by decide)
theorem zl_78_6 : qs_lk qy_m 78 6 = 0 := qy_lk (by decide) (by decide)
theorem zl_78_7 : qs_lk qy_m 78 7 = 0 := qy_lk (by decide) (by decide)
theorem zk_79 : qs_kd qy_m 79 = 0 := (qy_kd (by decide)).1
theorem zl_79_0 : qs_lk qy_m 79 0 = 0 := qy_lk (by decide) (by decide)
theorem zl_79_1 : qs_lk qy_m 79 1 = 0 := qy_lk (by decide) (by decide)
theorem zl_79_2 : qs_lk qy_m 79 2 = 0 := qy_lk (by decide) (by decide)
theorem zl_79_3 : qs_lk qy_m 79 3 = 0 := qy_lk (by decide) (by decide)
theorem zl_79_4 : qs_lk qy_m 79 4 = 0 := qy_lk (by decide) (by decide)
theorem zl_79_5 : qs_lk qy_m 79 5 = 0 := qy_lk (by decide) (by decide)
theorem zl_79_6 : qs_lk qy_m 79 6 = 0 := qy_lk (by decide) (by decide)
theorem zl_79_7 : qs_lk qy_m 79 7 = 0 := qy_lk (by decide) (by decide)
theorem zk_80 : qs_kd qy_m 80 = 0 := (qy_kd (by decide)).1
theorem zl_80_0 : qs_lk qy_m 80 0 = 0 := qy_lk (by decide) (by decide)
theorem zl_80_1 : qs_lk qy_m 80 1 = 0 := qy_lk (by decide) (by decide)
theorem zl_80_2 : qs_lk qy_m 80 2 = 0 := qy_lk (by decide) (by decide)
theorem zl_80_3 : qs_lk qy_m 80 3 = 0 := qy_lk (by decide) (by decide)
theorem zl_80_4 : qs_lk qy_m 80 4 = 0 := qy_lk (by decide) (by decide)
theorem zl_80_5 : qs_lk qy_m 80 5 = 0 := qy_lk (by decide) (by decide)
theorem zl_80_6 : qs_lk qy_m 80 6 = 0 := qy_lk (by decide) (by decide)
theorem zl_80_7 : qs_lk qy_m 80 7 = 0 := qy_lk (by decide) (by decide)
theorem zk_81 : qs_kd qy_m 81 = 0 := (qy_kd (by decide)).1
theorem zl_81_0 : qs_lk qy_m 81 0 = 0 := qy_lk (by decide) (by decide)
theorem zl_81_1 : qs_lk qy_m 81 1 = 0 := qy_lk (by decide) (by decide)
theorem zl_81_2 : qs_lk qy_m 81 2 = 0 := qy_lk (by decide) (by decide)
theorem zl_81_3 : qs_lk qy_m 81 3 = 0 := qy_lk (by decide) (by decide)
theorem zl_81_4 : qs_lk qy_m 81 4 = 0 := qy_lk (by decide) (by decide)
theorem zl_81_5 : qs_lk qy_m 81 5 = 0 := qy_lk (by decide) (by decide)
theorem zl_81_6 : qs_lk qy_m 81 6 = 0 := qy_lk (by decide) (by decide)
theorem zl_81_7 : qs_lk qy_m 81 7 = 0 := qy_lk (by decide) (by decide)
theorem zk_82 : qs_kd qy_m 82 = 0 := (qy_kd (by decide)).1
theorem zl_82_0 : qs_lk qy_m 82 0 = 0 := qy_lk (by decide) (by decide)
theorem zl_82_1 : qs_lk qy_m 82 1 = 0 := qy_lk (by decide) (by decide)
theorem zl_82_2 : qs_lk qy_m 82 2 = 0 := qy_lk (by decide) (by decide)
theorem zl_82_3 : qs_lk qy_m 82 3 = 0 := qy_lk (by decide) (by decide)
theorem zl_82_4 : qs_lk qy_m 82 4 = 0 := qy_lk (by decide) (by decide)
theorem zl_82_5 : qs_lk qy_m 82 5 = 0 := qy_lk (by decide) (by decide)
theorem zl_82_6 : qs_lk qy_m 82 6 = 0 := qy_lk (by decide) (by decide)
theorem zl_82_7 : qs_lk qy_m 82 7 = 0 := qy_lk (by decide) (by decide)
theorem zk_83 : qs_kd qy_m 83 = 0 := (qy_kd (by decide)).1
theorem zl_83_0 : qs_lk qy_m 83 0 = 0 := qy_lk (by decide) (by decide)
theorem zl_83_1 : qs_lk qy_m 83 1 = 0 := qy_lk (by decide) (by decide)
theorem zl_83_2 : qs_lk qy_m 83 2 = 0 := qy_lk (by decide) (by decide)
theorem zl_83_3 : qs_lk qy_m 83 3 = 0 := qy_lk (by decide) (by decide)
theorem zl_83_4 : qs_lk qy_m 83 4 = 0 := qy_lk (by decide) (by decide)
theorem zl_83_5 : qs_lk qy_m 83 5 = 0 := qy_lk (by decide) (by decide)
theorem zl_83_6 : qs_lk qy_m 83 6 = 0 := qy_lk (by decide) (by decide)
theorem zl_83_7 : qs_lk qy_m 83 7 = 0 := qy_lk (by decide) (by decide)
theorem zk_84 : qs_kd qy_m 84 = 0 := (qy_kd (by decide)).1
theorem zl_84_0 : qs_lk qy_m 84 0 = 0 := qy_lk (by decide) (by decide)
theorem zl_84_1 : qs_lk qy_m 84 1 = 0 := qy_lk (by decide) (by decide)
theorem zl_84_2 : qs_lk qy_m 84 2 = 0 := qy_lk (by decide) (by decide)
theorem zl_84_3 : qs_lk qy_m 84 3 = 0 := qy_lk (by decide) (by decide)
theorem zl_84_4 : qs_lk qy_m 84 4 = 0 := qy_lk (by decide) (by decide)
theorem zl_84_5 : qs_lk qy_m 84 5 = 0 := qy_lk (by decide) (by decide)
theorem zl_84_6 : qs_lk qy_m 84 6 = 0 := qy_lk (by decide) (by decide)
theorem zl_84_7 : qs_lk qy_m 84 7 = 0 := qy_lk (by decide) (by decide)
theorem zk_85 : qs_kd qy_m 85 = 34 := (qy_kd (by decide)).1
theorem zs_85 : qs_sz qy_m 85 = 4 := (qy_kd (by decide)).2
theorem zl_85_0 : qs_lk qy_m 85 0 = 90 := qy_lk (by decide) (by decide)
theorem zl_85_1 : qs_lk qy_m 85 1 = 92 := qy_lk (by decide) (by decide)
theorem zl_85_2 : qs_lk qy_m 85 2 = 94 := qy_lk (by decide) (by decide)
theorem zl_85_3 : qs_lk qy_m 85 3 = 96 := qy_lk (by decide) (by decide)
theorem zk_86 : qs_kd qy_m 86 = 35 := (qy_kd (by decide)).1
theorem zs_86 : qs_sz qy_m 86 = 5 := (qy_kd (by decide)).2
theorem zl_86_0 : qs_lk qy_m 86 0 = 98 := qy_lk (by decide) (by decide)
theorem zl_86_1 : qs_lk qy_m 86 1 = 102 := qy_lk (by decide) (by decide)
theorem zl_86_2 : qs_lk qy_m 86 2 = 106 := qy_lk (by decide) (by decide)
theorem zl_86_3 : qs_lk qy_m 86 3 = 110 := qy_lk (by decide) (by decide)
theorem zl_86_4 : qs_lk qy_m 86 4 = 114 := qy_lk (by decide) (by decide)
theorem zk_87 : qs_kd qy_m 87 = 20 := (qy_kd (by decide)).1
theorem zs_87 : qs_sz qy_m 87 = 60 := (qy_kd (by decide)).2
theorem zk_88 : qs_kd qy_m 88 = 4 := (qy_kd (by decide)).1
theorem zl_88_0 : qs_lk qy_m 88 0 = 91 := qy_lk (by decide) (by decide)
theorem zl_88_1 : qs_lk qy_m 88 1 = 0 := qy_lk (by decide) (by decide)
theorem zl_88_2 : qs_lk qy_m 88 2 = 0 := qy_lk (by decide) (by decide)
theorem zk_89 : qs_kd qy_m 89 = 20 := (qy_kd (by decide)).1
theorem zs_89 : qs_sz qy_m 89 = 24 := (qy_kd (by decide)).2
theorem zk_90 : qs_kd qy_m 90 = 4 := (qy_kd (by decide)).1
theorem zl_90_0 : qs_lk qy_m 90 0 = 93 := qy_lk (by decide) (by decide)
theorem zl_90_1 : qs_lk qy_m 90 1 = 0 := qy_lk (by decide) (by decide)
theorem zl_90_2 : qs_lk qy_m 90 2 = 0 := qy_lk (by decide) (by decide)
theorem zk_91 : qs_kd qy_m 91 = 20 := (qy_kd (by decide)).1
theorem zs_91 : qs_sz qy_m 91 = 24 := (qy_kd (by decide)).2
theorem zk_92 : qs_kd qy_m 92 = 4 := (qy_kd (by decide)).1
theorem zl_92_0 : qs_lk qy_m 92 0 = 95 := qy_lk (by decide) (by decide)
theorem zl_92_1 : qs_lk qy_m 92 1 = 0 := qy_lk (by decide) (by decide)
theorem zl_92_2 : qs_lk qy_m 92 2 = 0 := qy_lk (by decide) (by decide)
theorem zk_93 : qs_kd qy_m 93 = 20 := (qy_kd (by decide)).1
theorem zs_93 : qs_sz qy_m 93 = 24 := (qy_kd (by decide)).2
theorem zk_94 : qs_kd qy_m 94 = 4 := (qy_kd (by decide)).1
theorem zl_94_0 : qs_lk qy_m 94 0 = 97 := qy_lk (by decide) (by decide)
theorem zl_94_1 : qs_lk qy_m 94 1 = 0 := qy_lk (by decide) (by decide)
theorem zl_94_2 : qs_lk qy_m 94 2 = 0 := qy_lk (by decide) (by decide)
theorem zk_95 : qs_kd qy_m 95 = 20 := (qy_kd (by decide)).1
theorem zs_95 : qs_sz qy_m 95 = 24 := (qy_kd (by decide)).2
theorem zk_96 : qs_kd qy_m 96 = 5 := (qy_kd (by decide)).1
theorem zl_96_0 : qs_lk qy_m 96 0 = 99 := qy_lk (by decide) (by decide)
theorem zl_96_1 : qs_lk qy_m 96 1 = 100 := qy_lk (by decide) (by decide)
theorem zl_96_2 : qs_lk qy_m 96 2 = 0 := qy_lk (by decide) (by decide)
theorem zl_96_3 : qs_lk qy_m 96 3 = 0 := qy_lk (by decide) (by decide)
theorem zk_97 : qs_kd qy_m 97 = 0 := (qy_kd (by decide)).1
theorem zl_97_0 : qs_lk qy_m 97 0 = 0 := qy_lk (by decide) (by decide)
theorem zl_97_1 : qs_lk qy_m 97 1 = 0 := qy_lk (by decide) (by decide)
theorem zl_97_2 : qs_lk qy_m 97 2 = 0 := qy_lk (by decide) (by decide)
theorem zl_97_3 : qs_lk qy_m 97 3 = 0 := qy_lk (by decide) (by decide)
theorem zl_97_4 : qs_lk qy_m 97 4 = 0 := qy_lk (by decide) (by decide)
theorem zl_97_5 : qs_lk qy_m 97 5 = 0 := qy_lk (by decide) (by decide)
theorem zl_97_6 : qs_lk qy_m 97 6 = 0 := qy_lk (by decide) (by decide)
theorem zl_97_7 : qs_lk qy_m 97 7 = 0 := qy_lk (by decide) (by decide)
theorem zk_98 : qs_kd qy_m 98 = 4 := (qy_kd (by decide)).1
theorem zl_98_0 : qs_lk qy_m 98 0 = 101 := qy_lk (by decide) (by decide)
theorem zl_98_1 : qs_lk qy_m 98 1 = 0 := qy_lk (by decide) (by decide)
theorem zl_98_2 : qs_lk qy_m 98 2 = 0 := qy_lk (by decide) (by decide)
theorem zk_99 : qs_kd qy_m 99 = 20 := (qy_kd (by decide)).1
theorem zs_99 : qs_sz qy_m 99 = 24 := (qy_kd (by decide)).2
theorem zk_100 : qs_kd qy_m 100 = 5 := (qy_kd (by decide)).1
theorem zl_100_0 : qs_lk qy_m 100 0 = 103 := qy_lk (by decide) (by decide)
theorem zl_100_1 : qs_lk qy_m 100 1 = 104 := qy_lk (by decide) (by decide)
theorem zl_100_2 : qs_lk qy_m 100 2 = 0 := qy_lk (by decide) (by decide)
theorem zl_100_3 : qs_lk qy_m 100 3 = 0 := qy_lk (by decide) (by decide)
theorem zk_101 : qs_kd qy_m 101 = 0 := (qy_kd (by decide)).1
theorem zl_101_0 : qs_lk qy_m 101 0 = 0 := qy_lk (by decide) (by decide)
theorem zl_101_1 : qs_lk qy_m 101 1 = 0 := qy_lk (by decide) (by decide)
theorem zl_101_2 : qs_lk qy_m 101 2 = 0 := qy_lk (by decide) (by decide)
theorem zl_101_3 : qs_lk qy_m 101 3 = 0 := qy_lk (by decide) (by decide)
theorem zl_101_4 : qs_lk qy_m 101 4 = 0 := qy_lk (by decide) (by decide)
theorem zl_101_5 : qs_lk qy_m 101 5 = 0 := qy_lk (by decide) (by decide)
theorem zl_101_6 : qs_lk qy_m 101 6 = 0 := qy_lk (by decide) (by decide)
theorem zl_101_7 : qs_lk qy_m 101 7 = 0 := qy_lk (by decide) (by decide)
theorem zk_102 : qs_kd qy_m 102 = 4 := (qy_kd (by decide)).1
theorem zl_102_0 : qs_lk qy_m 102 0 = 105 := qy_lk (by decide) (by decide)
theorem zl_102_1 : qs_lk qy_m 102 1 = 0 := qy_lk (by decide) (by decide)
theorem zl_102_2 : qs_lk qy_m 102 2 = 0 := qy_lk (by decide) (by decide)
theorem zk_103 : qs_kd qy_m 103 = 20 := (qy_kd (by decide)).1
theorem zs_103 : qs_sz qy_m 103 = 24 := (qy_kd (by decide)).2
theorem zk_104 : qs_kd qy_m 104 = 5 := (qy_kd (by decide)).1
theorem zl_104_0 : qs_lk qy_m 104 0 = 107 := qy_lk (by decide) (by decide)
theorem zl_104_1 : qs_lk qy_m 104 1 = 108 := qy_lk (by decide) (by decide)
theorem zl_104_2 : qs_lk qy_m 104 2 = 0 := qy_lk (by decide) (by decide)
theorem zl_104_3 : qs_lk qy_m 104 3 = 0 := qy_lk (by decide) (by decide)
theorem zk_105 : qs_kd qy_m 105 = 0 := (qy_kd (by decide)).1
theorem zl_105_0 : qs_lk qy_m 105 0 = 0 := qy_lk (by decide) (by decide)
theorem zl_105_1 : qs_lk qy_m 105 1 = 0 := qy_lk (by decide) (by decide)
theorem zl_105_2 : qs_lk qy_m 105 2 = 0 := qy_lk (by decide) (by decide)
theorem zl_105_3 : qs_lk qy_m 105 3 = 0 := qy_lk (by decide) (by decide)
theorem zl_105_4 : qs_lk qy_m 105 4 = 0 := qy_lk (by decide) (by decide)
theorem zl_105_5 : qs_lk qy_m 105 5 = 0 := qy_lk (by decide) (by decide)
theorem zl_105_6 : qs_lk qy_m 105 6 = 0 := qy_lk (by decide) (by decide)
theorem zl_105_7 : qs_lk qy_m 105 7 = 0 := qy_lk (by decide) (by decide)
theorem zk_106 : qs_kd qy_m 106 = 4 := (qy_kd (by decide)).1
theorem zl_106_0 : qs_lk qy_m 106 0 = 109 := qy_lk (by decide) (by decide)
theorem zl_106_1 : qs_lk qy_m 106 1 = 0 := qy_lk (by decide) (by decide)
theorem zl_106_2 : qs_lk qy_m 106 2 = 0 := qy_lk (by decide) (by decide)
theorem zk_107 : qs_kd qy_m 107 = 20 := (qy_kd (by decide)).1
theorem zs_107 : qs_sz qy_m 107 = 24 := (qy_kd (by decide)).2
theorem zk_108 : qs_kd qy_m 108 = 5 := (qy_kd (by decide)).1
theorem zl_108_0 : qs_lk qy_m 108 0 = 111 := qy_lk (by decide) (by decide)
theorem zl_108_1 : qs_lk qy_m 108 1 = 112 := qy_lk (by decide) (by decide)
theorem zl_108_2 : qs_lk qy_m 108 2 = 0 := qy_lk (by decide) (by decide)
theorem zl_108_3 : qs_lk qy_m 108 3 = 0 := qy_lk (by decide) (by decide)
theorem zk_109 : qs_kd qy_m 109 = 0 := (qy_kd (by decide)).1
theorem zl_109_0 : qs_lk qy_m 109 0 = 0 := qy_lk (by decide) (by decide)
theorem zl_109_1 : qs_lk qy_m 109 1 = 0 := qy_lk (by decide) (by decide)
theorem zl_109_2 : qs_lk qy_m 109 2 = 0 := qy_lk (by decide) (by decide)
theorem zl_109_3 : qs_lk qy_m 109 3 = 0 := qy_lk (by decide) (by decide)
theorem zl_109_4 : qs_lk qy_m 109 4 = 0 := qy_lk (by decide) (by decide)
theorem zl_109_5 : qs_lk qy_m 109 5 = 0 := qy_lk (by decide) (by decide)
theorem zl_109_6 : qs_lk qy_m 109 6 = 0 := qy_lk (by decide) (by decide)
theorem zl_109_7 : qs_lk qy_m 109 7 = 0 := qy_lk (by decide) (by decide)
theorem zk_110 : qs_kd qy_m 110 = 4 := (qy_kd (by decide)).1
theorem zl_110_0 : qs_lk qy_m 110 0 = 113 := qy_lk (by decide) (by decide)
theorem zl_110_1 : qs_lk qy_m 110 1 = 0 := qy_lk (by decide) (by decide)
theorem zl_110_2 : qs_lk qy_m 110 2 = 0 := qy_lk (by decide) (by decide)
theorem zk_111 : qs_kd qy_m 111 = 20 := (qy_kd (by decide)).1
theorem zs_111 : qs_sz qy_m 111 = 24 := (qy_kd (by decide)).2
theorem zk_112 : qs_kd qy_m 112 = 5 := (qy_kd (by decide)).1
theorem zl_112_0 : qs_lk qy_m 112 0 = 115 := qy_lk (by decide) (by decide)
theorem zl_112_1 : qs_lk qy_m 112 1 = 116 := qy_lk (by decide) (by decide)
theorem zl_112_2 : qs_lk qy_m 112 2 = 0 := qy_lk (by decide) (by decide)
theorem zl_112_3 : qs_lk qy_m 112 3 = 0 := qy_lk (by decide) (by decide)
theorem zk_113 : qs_kd qy_m 113 = 0 := (qy_kd (by decide)).1
theorem zl_113_0 : qs_lk qy_m 113 0 = 0 := qy_lk (by decide) (by decide)
theorem zl_113_1 : qs_lk qy_m 113 1 = 0 := qy_lk (by decide) (by decide)
theorem zl_113_2 : qs_lk qy_m 113 2 = 0 := qy_lk (by decide) (by decide)
theorem zl_113_3 : qs_lk qy_m 113 3 = 0 := qy_lk (by decide) (by decide)
theorem zl_113_4 : qs_lk qy_m 113 4 = 0 := qy_lk (by decide) (by decide)
theorem zl_113_5 : qs_lk qy_m 113 5 = 0 := qy_lk (by decide) (by decide)
theorem zl_113_6 : qs_lk qy_m 113 6 = 0 := qy_lk (by decide) (by decide)
theorem zl_113_7 : qs_lk qy_m 113 7 = 0 := qy_lk (by decide) (by decide)
theorem zk_114 : qs_kd qy_m 114 = 4 := (qy_kd (by decide)).1
theorem zl_114_0 : qs_lk qy_m 114 0 = 117 := qy_lk (by decide) (by decide)
theorem zl_114_1 : qs_lk qy_m 114 1 = 0 := qy_lk (by decide) (by decide)
theorem zl_114_2 : qs_lk qy_m 114 2 = 0 := qy_lk (by decide) (by decide)
theorem zk_115 : qs_kd qy_m 115 = 20 := (qy_kd (by decide)).1
theorem zs_115 : qs_sz qy_m 115 = 24 := (qy_kd (by decide)).2
theorem zk_116 : qs_kd qy_m 116 = 8 := (qy_kd (by decide)).1
theorem zl_116_0 : qs_lk qy_m 116 0 = 119 := qy_lk (by decide) (by decide)
theorem zl_116_1 : qs_lk qy_m 116 1 = 120 := qy_lk (by decide) (by decide)
theorem zl_116_2 : qs_lk qy_m 116 2 = 121 := qy_lk (by decide) (by decide)
theorem zl_116_3 : qs_lk qy_m 116 3 = 0 := qy_lk (by decide) (by decide)
theorem zl_116_4 : qs_lk qy_m 116 4 = 122 := qy_lk (by decide) (by decide)
theorem zl_116_5 : qs_lk qy_m 116 5 = 0 := qy_lk (by decide) (by decide)
theorem zl_116_6 : qs_lk qy_m 116 6 = 0 := qy_lk (by decide) (by decide)
theorem zl_116_7 : qs_lk qy_m 116 7 = 123 := qy_lk (by decide) (by decide)
theorem zl_116_8 : qs_lk qy_m 116 8 = 124 := qy_lk (by decide) (by decide)
theorem zl_116_9 : qs_lk qy_m 116 9 = 0 := qy_lk (by decide) (by decide)
theorem zl_116_10 : qs_lk qy_m 116 10 = 0 := qy_lk (by decide) (by decide)
theorem zl_116_11 : qs_lk qy_m 116 11 = 0 := qy_lk (by decide) (by decide)
theorem zl_116_12 : qs_lk qy_m 116 12 = 0 := qy_lk (by decide) (by decide)
theorem zl_116_13 : qs_lk qy_m 116 13 = 0 := qy_lk (by decide) (by decide)
theorem zl_116_14 : qs_lk qy_m 116 14 = 0 := qy_lk (by decide) (by decide)
theorem zl_116_15 : qs_lk qy_m 116 15 = 0 := qy_lk (by decide) (by decide)
theorem zl_116_16 : qs_lk qy_m 116 16 = 125 := qy_lk (by decide) (by decide)
theorem zl_116_17 : qs_lk qy_m 116 17 = 126 := qy_lk (by decide) (by decide)
theorem zl_116_18 : qs_lk qy_m 116 18 = 127 := qy_lk (by decide) (by decide)
theorem zl_116_19 : qs_lk qy_m 116 19 = 0 := qy_lk (by decide) (by decide)
theorem zl_116_20 : qs_lk qy_m 116 20 = 0 := qy_lk (by decide) (by decide)
theorem zl_116_21 : qs_lk qy_m 116 21 = 128 := qy_lk (by decide) (by decide)
theorem zl_116_22 : qs_lk qy_m 116 22 = 0 := qy_lk (by decide) (by decide)
theorem zl_116_23 : qs_lk qy_m 116 23 = 129 := qy_lk (by decide) (by decide)
theorem zl_116_24 : qs_lk qy_m 116 24 = 130 := qy_lk (by decide) (by decide)
theorem zl_116_25 : qs_lk qy_m 116 25 = 131 := qy_lk (by decide) (by decide)
theorem zl_116_26 : qs_lk qy_m 116 26 = 132 := qy_lk (by decide) (by decide)
theorem zl_116_27 : qs_lk qy_m 116 27 = 133 := qy_lk (by decide) (by decide)
theorem zl_116_28 : qs_lk qy_m 116 28 = 134 := qy_lk (by decide) (by decide)
theorem zl_116_29 : qs_lk qy_m 116 29 = 135 := qy_lk (by decide) (by decide)
theorem zl_116_30 : qs_lk qy_m 116 30 = 136 := qy_lk (by decide) (by decide)
theorem zl_116_31 : qs_lk qy_m 116 31 = 137 := qy_lk (by decide) (by decide)
theorem zl_116_32 : qs_lk qy_m 116 32 = 138 := qy_lk (by decide) (by decide)
theorem zl_116_33 : qs_lk qy_m 116 33 = 139 := qy_lk (by decide) (by decide)
theorem zl_116_34 : qs_lk qy_m 116 34 = 140 := qy_lk (by decide) (by decide)
theorem zl_116_35 : qs_lk qy_m 116 35 = 0 := qy_lk (by decide) (by decide)
theorem zk_117 : qs_kd qy_m 117 = 20 := (qy_kd (by decide)).1
theorem zs_117 : qs_sz qy_m 117 = 1448 := (qy_kd (by decide)).2
theorem zk_118 : qs_kd qy_m 118 = 20 := (qy_kd (by decide)).1
theorem zs_118 : qs_sz qy_m 118 = 1448 := (qy_kd (by decide)).2
theorem zk_119 : qs_kd qy_m 119 = 20 := (qy_kd (by decide)).1
theorem zs_119 : qs_sz qy_m 119 = 1448 := (qy_kd (by decide)).2
theorem zk_120 : qs_kd qy_m 120 = 20 := (qy_kd (by decide)).1
theorem zs_120 : qs_sz qy_m 120 = 76 := (qy_kd (by decide)).2
theorem zk_121 : qs_kd qy_m 121 = 23 := (qy_kd (by decide)).1
theorem zs_121 : qs_sz qy_m 121 = 8 := (qy_kd (by decide)).2
theorem zk_122 : qs_kd qy_m 122 = 20 := (qy_kd (by decide)).1
theorem zs_122 : qs_sz qy_m 122 = 96 := (qy_kd (by decide)).2
theorem zk_123 : qs_kd qy_m 123 = 22 := (qy_kd (by decide)).1
theorem zs_123 : qs_sz qy_m 123 = 11 := (qy_kd (by decide)).2
theorem zk_124 : qs_kd qy_m 124 = 20 := (qy_kd (by decide)).1
theorem zs_124 : qs_sz qy_m 124 = 4 := (qy_kd (by decide)).2
theorem zk_125 : qs_kd qy_m 125 = 20 := (qy_kd (by decide)).1
theorem zs_125 : qs_sz qy_m 125 = 96 := (qy_kd (by decide)).2
theorem zk_126 : qs_kd qy_m 126 = 20 := (qy_kd (by decide)).1
theorem zs_126 : qs_sz qy_m 126 = 96 := (qy_kd (by decide)).2
theorem zk_127 : qs_kd qy_m 127 = 21 := (qy_kd (by decide)).1
theorem zs_127 : qs_sz qy_m 127 = 10 := (qy_kd (by decide)).2
theorem zk_128 : qs_kd qy_m 128 = 20 := (qy_kd (by decide)).1
theorem zs_128 : qs_sz qy_m 128 = 96 := (qy_kd (by decide)).2
theorem zk_129 : qs_kd qy_m 129 = 20 := (qy_kd (by decide)).1
theorem zs_129 : qs_sz qy_m 129 = 4 := (qy_kd (by decide)).2
theorem zk_130 : qs_kd qy_m 130 = 20 := (qy_kd (by decide)).1
theorem zs_130 : qs_sz qy_m 130 = 4 := (qy_kd (by decide)).2
theorem zk_131 : qs_kd qy_m 131 = 20 := (qy_kd (by decide)).1
theorem zs_131 : qs_sz qy_m 131 = 4 := (qy_kd (by decide)).2
theorem zk_132 : qs_kd qy_m 132 = 20 := (qy_kd (by decide)).1
theorem zs_132 : qs_sz qy_m 132 = 96 := (qy_kd (by decide)).2
theorem zk_133 : qs_kd qy_m 133 = 20 := (qy_kd (by decide)).1
theorem zs_133 : qs_sz qy_m 133 = 5 := (qy_kd (by decide)).2
theorem zk_134 : qs_kd qy_m 134 = 20 := (qy_kd (by decide)).1
theorem zs_134 : qs_sz qy_m 134 = 5 := (qy_kd (by decide)).2
theorem zk_135 : qs_kd qy_m 135 = 20 := (qy_kd (by decide)).1
theorem zs_135 : qs_sz qy_m 135 = 5 := (qy_kd (by decide)).2
theorem zk_136 : qs_kd qy_m 136 = 20 := (qy_kd (by decide)).1
theorem zs_136 : qs_sz qy_m 136 = 120 := (qy_kd (by decide)).2
theorem zk_137 : qs_kd qy_m 137 = 20 := (qy_kd (by decide)).1
theorem zs_137 : qs_sz qy_m 137 = 24 := (qy_kd (by decide)).2
theorem zk_138 : qs_kd qy_m 138 = 20 := (qy_kd (by decide)).1
theorem zs_138 : qs_sz qy_m 138 = 60 := (qy_kd (by decide)).2
theorem zk_139 : qs_kd qy_m 139 = 9 := (qy_kd (by decide)).1
theorem zl_139_0 : qs_lk qy_m 139 0 = 0 := qy_lk (by decide) (by decide)
theorem zl_139_1 : qs_lk qy_m 139 1 = 0 := qy_lk (by decide) (by decide)
