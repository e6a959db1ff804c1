/-! THE START: what the constructors make -/
def qi_kd (k : Nat) : Nat := if k = 1 then 25 else if k < 2 then 99 else if k < 8 then 90 else if k < 14 then 24 else if k < 16 then 99 else 100
def qi_sz (k : Nat) : Nat := if k = 1 then 6 else if 8 ≤ k ∧ k < 14 then (qk_str (k - 8)).2.2.length else 0
def qi_lk (k j : Nat) : Nat := if 2 ≤ k ∧ k < 8 ∧ j = 0 then k + 8 else 0
def qi_i (k j : Nat) : Int32 := if k = 1 then qw_un.getD j 0 else if 8 ≤ k ∧ k < 14 then (qk_str (k - 8)).2.2.getD j 0 else 0
def qi_m : qs_M := ((0, 0), qi_kd, qi_sz, qi_lk, qi_i, fun _ _ => 0)
def qi_r1 : Option qs_R := qs_ev 6000 12 52 0 (qs_init (qm_ml 52) [.ref 16]) [] (qs_nw qi_m 7 11)
def qi_mem (x : Option qs_R) : qs_M := match x with
  | some (_, m) => m
  | none => qi_m
def qz_1 : qs_M := qi_mem qi_r1
def qi_r2 : Option qs_R := qs_ev 6000 12 107 0 (qs_init (qm_ml 107) [.ref 116]) [] (qs_nw qz_1 8 36)
def qz_m : qs_M := qi_mem qi_r2
def qi_some (x : Option qs_R) : Bool := match x with
  | some (none, _) => true
  | _ => false
theorem qi_some_eq {x : Option qs_R} (h : qi_some x = true) : x = some (none, qi_mem x) := by
  unfold qi_some at h
  split at h
  · rfl
  · cases h
/-- kinds, sizes, links, ints of the cells that the constructors make -/
def qz_K : List Nat := [99, 25, 90, 90, 90, 90, 90, 90, 24, 24, 24, 24, 24, 24, 99, 99, 7, 1, 36, 20, 6, 20, 6, 20, 6, 20, 6, 20, 6, 20, 6, 20, 6, 20, 6, 20, 6, 20, 6, 20, 6, 20, 6, 20, 6, 20, 6, 20, 3, 20, 6, 20, 2, 30, 20, 0, 0, 0, 0, 0, 0, 0, 0, 2, 30, 20, 0, 0, 0, 0, 0, 0, 0, 0, 2, 30, 20, 0, 0, 0, 0, 0, 0, 0, 0, 34, 35, 20, 4, 20, 4, 20, 4, 20, 4, 20, 5, 0, 4, 20, 5, 0, 4, 20, 5, 0, 4, 20, 5, 0, 4, 20, 5, 0, 4, 20, 8, 20, 20, 20, 20, 23, 20, 22, 20, 20, 20, 21, 20, 20, 20, 20, 20, 20, 20, 20, 20, 20, 20, 9]
def qz_S : List Nat := [0, 6, 0, 0, 0, 0, 0, 0, 4, 3, 4, 3, 2, 2, 0, 0, 11, 2, 14, 96, 4, 96, 4, 96, 4, 96, 4, 96, 4, 96, 4, 96, 4, 96, 4, 96, 4, 96, 4, 96, 4, 96, 4, 96, 4, 96, 4, 96, 7, 96, 4, 96, 15, 8, 3, 8, 8, 8, 8, 8, 8, 8, 8, 15, 8, 3, 8, 8, 8, 8, 8, 8, 8, 8, 15, 8, 3, 8, 8, 8, 8, 8, 8, 8, 8, 4, 5, 60, 3, 24, 3, 24, 3, 24, 3, 24, 4, 8, 3, 24, 4, 8, 3, 24, 4, 8, 3, 24, 4, 8, 3, 24, 4, 8, 3, 24, 36, 1448, 1448, 1448, 76, 8, 96, 11, 4, 96, 96, 10, 96, 4, 4, 4, 96, 5, 5, 5, 120, 24, 60, 2]
def qz_LK : List (List Nat) := [[],
  [],
  [],
  [],
  [],
  [],
  [],
  [],
  [],
  [],
  [],
  [],
  [],
  [],
  [],
  [],
  [19, 50, 54, 65, 76, 0, 87, 88, 89, 0, 141],
  [20, 21],
  [22, 24, 26, 28, 30, 32, 34, 36, 38, 40, 42, 44, 46, 48],
  [],
  [23, 0, 0, 0],
  [],
  [25, 0, 0, 0],
  [],
  [27, 0, 0, 0],
  [],
  [29, 0, 0, 0],
  [],
  [31, 0, 0, 0],
  [],
  [33, 0, 0, 0],
  [],
  [35, 0, 0, 0],
  [],
  [37, 0, 0, 0],
  [],
  [39, 0, 0, 0],
  [],
  [41, 0, 0, 0],
  [],
  [43, 0, 0, 0],
  [],
  [45, 0, 0, 0],
  [],
  [47, 0, 0, 0],
  [],
  [49, 0, 0, 0],
  [],
  [51, 52, 0, 0, 0, 0, 0],
  [],
  [53, 0, 0, 0],
  [],
  [19, 55, 56, 0, 0, 0, 0, 0, 0, 0, 0, 0, 0, 0, 0],
  [57, 58, 59, 60, 61, 62, 63, 64],
  [],
  [0, 0, 0, 0, 0, 0, 0, 0],
  [0, 0, 0, 0, 0, 0, 0, 0],
  [0, 0, 0, 0, 0, 0, 0, 0],
  [0, 0, 0, 0, 0, 0, 0, 0],
  [0, 0, 0, 0, 0, 0, 0, 0],
  [0, 0, 0, 0, 0, 0, 0, 0],
  [0, 0, 0, 0, 0, 0, 0, 0],
  [0, 0, 0, 0, 0, 0, 0, 0],
  [19, 66, 67, 0, 0, 0, 0, 0, 0, 0, 0, 0, 0, 0, 0],
  [68, 69, 70, 71, 72, 73, 74, 75],
  [],
  [0, 0, 0, 0, 0, 0, 0, 0],
  [0, 0, 0, 0, 0, 0, 0, 0],
  [0, 0, 0, 0, 0, 0, 0, 0],
  [0, 0, 0, 0, 0, 0, 0, 0],
  [0, 0, 0, 0, 0, 0, 0, 0],
  [0, 0, 0, 0, 0, 0, 0, 0],
  [0, 0, 0, 0, 0, 0, 0, 0],
  [0, 0, 0, 0, 0, 0, 0, 0],
  [19, 77, 78, 0, 0, 0, 0, 0, 0, 0, 0, 0, 0, 0, 0],
  [79, 80, 81, 82, 83, 84, 85, 86],
  [],
  [0, 0, 0, 0, 0, 0, 0, 0],
  [0, 0, 0, 0, 0, 0, 0, 0],
  [0, 0, 0, 0, 0, 0, 0, 0],
  [0, 0, 0, 0, 0, 0, 0, 0],
  [0, 0, 0, 0, 0, 0, 0, 0],
  [0, 0, 0, 0, 0, 0, 0, 0],
  [0, 0, 0, 0, 0, 0, 0, 0],
  [0, 0, 0, 0, 0, 0, 0, 0],
  [90, 92, 94, 96],
  [98, 102, 106, 110, 114],
  [],
  [91, 0, 0],
  [],
  [93, 0, 0],
  [],
  [95, 0, 0],
  [],
  [97, 0, 0],
  [],
  [99, 100, 0, 0],
  [0, 0, 0, 0, 0, 0, 0, 0],
  [101, 0, 0],
  [],
  [103, 104, 0, 0],
  [0, 0, 0, 0, 0, 0, 0, 0],
  [105, 0, 0],
  [],
  [107, 108, 0, 0],
  [0, 0, 0, 0, 0, 0, 0, 0],
  [109, 0, 0],
  [],
  [111, 112, 0, 0],
  [0, 0, 0, 0, 0, 0, 0, 0],
  [113, 0, 0],
  [],
  [115, 116, 0, 0],
  [0, 0, 0, 0, 0, 0, 0, 0],
  [117, 0, 0],
  [],
  [119, 120, 121, 0, 122, 0, 0, 123, 124, 0, 0, 0, 0, 0, 0, 0, 125, 126, 127, 0, 0, 128, 0, 129, 130, 131, 132, 133, 134, 135, 136, 137, 138, 139, 140, 0],
  [],
  [],
  [],
  [],
  [],
  [],
  [],
  [],
  [],
  [],
  [],
  [],
  [],
  [],
  [],
  [],
  [],
  [],
  [],
  [],
  [],
  [],
  [0, 0]]
def qz_J : List (List (Nat × Int32)) := [[],
  [(0, (-1)), (3, 1), (4, 2)],
  [],
  [],
  [],
  [],
  [],
  [],
  [(0, 108), (1, 101), (2, 97), (3, 107)],
  [(0, 102), (1, 101), (2, 101)],
  [(0, 102), (1, 105), (2, 110), (3, 101)],
  [(0, 103), (1, 114), (2, 97)],
  [(0, 100), (1, 102)],
  [(0, 116), (1, 115)],
  [],
  [],
  [],
  [],
  [],
  [],
  [],
  [],
  [],
  [],
  [],
  [],
  [],
  [],
  [],
  [],
  [],
  [],
  [],
  [],
  [],
  [],
  [],
  [],
  [],
  [],
  [],
  [],
  [],
  [],
  [],
  [],
  [],
  [],
  [],
  [],
  [],
  [],
  [(5, 20), (6, 2000), (13, 1)],
  [],
  [(0, (-1)), (1, (-1)), (2, (-1))],
  [],
  [],
  [],
  [],
  [],
  [],
  [],
  [],
  [(5, 20), (6, 2000), (13, 1)],
  [],
  [(0, (-1)), (1, (-1)), (2, (-1))],
  [],
  [],
  [],
  [],
  [],
  [],
  [],
  [],
  [(5, 20), (6, 2000), (13, 1)],
  [],
  [(0, (-1)), (1, (-1)), (2, (-1))],
  [],
  [],
  [],
  [],
  [],
  [],
  [],
  [],
  [],
  [],
  [],
  [(1, (-1))],
  [],
  [(1, (-1))],
  [],
  [(1, (-1))],
  [],
  [(1, (-1))],
  [],
  [],
  [],
  [(1, (-1))],
  [],
  [],
  [],
  [(1, (-1))],
  [],
  [],
  [],
  [(1, (-1))],
  [],
  [],
  [],
  [(1, (-1))],
  [],
  [],
  [],
  [(1, (-1))],
  [],
  [],
  [(0, 1), (4, 20), (5, 2000)],
  [],
  [],
  [],
  [],
  [],
  [(0, 108), (1, 101), (2, 97), (3, 107), (4, 102), (5, 101), (6, 101), (7, 102), (8, 105), (9, 110), (10, 101)],
  [(1, 4), (2, 7), (3, 11)],
  [],
  [],
  [],
  [],
  [],
  [(0, (-1)), (1, (-1)), (2, (-1)), (3, (-1))],
  [],
  [],
  [],
  [],
  [],
  [],
  [],
  [],
  []]
def qz_i (k j : Nat) : Int32 := match (qz_J.getD k []).find? (fun p => p.1 == j) with
  | some p => p.2
  | none => 0
set_option maxHeartbeats 4000000 in
set_option maxRecDepth 100000 in
theorem qi_ok1 : (qi_some qi_r1 && decide (qs_n qz_1 = 101)) = true := by decide +kernel
set_option maxHeartbeats 4000000 in
set_option maxRecDepth 100000 in
theorem qi_ok2 : (qi_some qi_r2 && decide (qs_n qz_m = 124) && decide (qs_z qz_m = 7570)) = true := by decide +kernel
set_option maxHeartbeats 4000000 in
set_option maxRecDepth 100000 in
theorem qi_ok3 : ((List.range 140).all (fun k => decide (qs_kd qz_m k = qz_K.getD k 0) && decide (qs_sz qz_m k = qz_S.getD k 0) && (List.range (qz_LK.getD k []).length).all (fun j => decide (qs_lk qz_m k j = (qz_LK.getD k []).getD j 0)))) = true := by decide +kernel
set_option maxHeartbeats 4000000 in
set_option maxRecDepth 100000 in
theorem qi_ok4 : ((List.range 140).all (fun k => (List.range (qz_S.getD k 0)).all (fun j => decide (qs_i qz_m k j = qz_i k j)))) = true := by decide +kernel
theorem qz_kd {k : Nat} (h : k < 140) : qs_kd qz_m k = qz_K.getD k 0 ∧ qs_sz qz_m k = qz_S.getD k 0 := by
  have h1 := List.all_eq_true.mp qi_ok3 k (List.mem_range.mpr h)
  simp only [Bool.and_eq_true, decide_eq_true_eq] at h1
  exact h1.1
theorem qz_lk {k j : Nat} (h : k < 140) (hj : j < (qz_LK.getD k []).length) : qs_lk qz_m k j = (qz_LK.getD k []).getD j 0 := by
  have h1 := List.all_eq_true.mp qi_ok3 k (List.mem_range.mpr h)
  simp only [Bool.and_eq_true, decide_eq_true_eq] at h1
  have h2 := List.all_eq_true.mp h1.2 j (List.mem_range.mpr hj)
  exact of_decide_eq_true h2
theorem qz_in {k j : Nat} (h : k < 140) (hj : j < qz_S.getD k 0) : qs_i qz_m k j = qz_i k j := by
  have h1 := List.all_eq_true.mp qi_ok4 k (List.mem_range.mpr h)
  have h2 := List.all_eq_true.mp h1 j (List.mem_range.mpr hj)
  exact of_decide_eq_true h2
/-- deeper is no less -/
theorem qs_ev_deep : ∀ (n d M pc : Nat) (L : qs_L) (st : List Value) (m : qs_M), qs_le (qs_ev n d M pc L st m) (qs_ev n (d + 1) M pc L st m)
  | 0, _, _, _, _, _, _ => fun _ h => by cases h
  | n + 1, d, M, pc, L, st, m => by
    rw [qs_ev_succ n, qs_ev_succ n]
    refine qs_row_le (fun M' as m' => ?_) (fun pc' L' st' m' => qs_ev_deep n d M pc' L' st' m')
    unfold qs_cl
    cases d with
    | zero => exact fun _ h => by cases h
    | succ d => exact qs_ev_deep n d M' 0 _ [] m'
theorem qs_ev_deeper {n M pc : Nat} {L : qs_L} {st : List Value} {m : qs_M} {d d' : Nat} (h : d ≤ d') : qs_le (qs_ev n d M pc L st m) (qs_ev n d' M pc L st m) := by
  induction h with
  | refl => exact qs_le_rfl _
  | step _ ih => exact fun r hr => qs_ev_deep _ _ _ _ _ _ _ r (ih r hr)
theorem qz_call {d n M : Nat} {as : List Value} {m : qs_M} {r : qs_R} (hd : 13 ≤ d) (h : qs_ev n 12 M 0 (qs_init (qm_ml M) as) [] m = some r) : qs_call d M as m = some r := by
  obtain ⟨d, rfl⟩ : ∃ e, d = e + 1 := ⟨d - 1, by omega⟩
  exact qs_EV_iff.mpr ⟨n, qs_ev_deeper (by omega) r h⟩
/-- the law's first steps -/
theorem qz_start {lx : Nat} {xs : Nat → Int32} {d : Nat} (hd : 13 ≤ d) : qs_LW lx xs d 0 [some (.ref 0), none, none, none] [] qi_m = qs_LW lx xs d 18 [some (.ref 0), some (.ref 16), some (.ref 116), some (.int 0)] [] qz_m := by
  have h1 := qi_ok1
  have h2 := qi_ok2
  simp only [Bool.and_eq_true, decide_eq_true_eq] at h1 h2
  have e1 : qs_call d 52 [.ref (qn_c (qs_n qi_m))] (qs_nw qi_m 7 (qs_nf 7)) = some (none, qz_1) := qz_call hd (qi_some_eq h1.1)
  have e2 : qs_call d 107 [.ref (qn_c (qs_n qz_1))] (qs_nw qz_1 8 (qs_nf 8)) = some (none, qz_m) := by
    rw [h1.2]
    exact qz_call hd (qi_some_eq h2.1.1)
  rw [bq_224_0, if_pos (qn_16 _), e1]
  unfold qs_bV
  dsimp only
  rw [if_pos (qn_16 _), e2]
  dsimp only
  rw [h1.2]
  rfl
