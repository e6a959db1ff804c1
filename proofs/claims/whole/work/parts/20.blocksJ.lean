/-! runs of methods, from their entries and loop heads on (printed by a program) -/
/- J0_length_8abf5 -/
set_option maxRecDepth 20000 in
theorem bq_200_0 (d : Nat) (a0 : Nat) (m : qs_M) : qs_EV d 200 0 [some (.ref a0)] [] m = if qs_kd m a0 = 90 ∧ 2 ≤ qs_lk m a0 0 then if qs_kd m (qs_lk m a0 0 - 2) = 24 then if qs_kd m a0 = 90 then qs_bI (qs_call d 204 [.ref a0] m) (fun r1 m1 => some (some (.int ((Int32.ofNat (qs_sz m (qs_lk m a0 0 - 2))) >>> (r1 &&& 31))), m1)) else none else none else none := (qs_EV_seg (cd := qc_200) (rk := 1) rfl rfl [] 67 _ _ _ _).trans rfl
/- J0_charAt_5068e -/
set_option maxRecDepth 20000 in
theorem bq_201_0 (d : Nat) (a0 : Nat) (x1 : Int32) (m : qs_M) : qs_EV d 201 0 [some (.ref a0), some (.int x1)] [] m = if qs_kd m a0 = 90 then qs_bI (qs_call d 205 [.ref a0] m) (fun r1 m1 => if r1 = 0 then if qs_kd m1 a0 = 90 ∧ 2 ≤ qs_lk m1 a0 0 then none else none else if qs_kd m1 a0 = 90 ∧ 2 ≤ qs_lk m1 a0 0 then qs_bI (qs_call d 207 [.ref (qs_lk m1 a0 0 - 2), .int x1] m1) (fun r2 m2 => if narrow .char (.int r2) = .int r2 then some (some (.int r2), m2) else none) else none) else none := (qs_EV_seg (cd := qc_201) (rk := 3) rfl rfl [] 72 _ _ _ _).trans rfl
/- J0_indexOf_0f7a4 -/
set_option maxRecDepth 20000 in
theorem bq_202_0 (d : Nat) (a0 : Nat) (x1 : Int32) (m : qs_M) : qs_EV d 202 0 [some (.ref a0), some (.int x1)] [] m = if qs_kd m a0 = 90 then qs_bI (qs_call d 203 [.ref a0, .int x1, .int 0] m) (fun r1 m1 => some (some (.int r1), m1)) else none := (qs_EV_seg (cd := qc_202) (rk := 1) rfl rfl [] 65 _ _ _ _).trans rfl
/- J0_indexOf_7cf53 -/
set_option maxRecDepth 20000 in
theorem bq_203_0 (d : Nat) (a0 : Nat) (x1 : Int32) (x2 : Int32) (m : qs_M) : qs_EV d 203 0 [some (.ref a0), some (.int x1), some (.int x2)] [] m = if qs_kd m a0 = 90 then qs_bI (qs_call d 205 [.ref a0] m) (fun r1 m1 => if r1 = 0 then if qs_kd m1 a0 = 90 ∧ 2 ≤ qs_lk m1 a0 0 then if qs_kd m1 a0 = 90 then qs_bI (qs_call d 200 [.ref a0] m1) (fun r2 m2 => none) else none else none else if qs_kd m1 a0 = 90 ∧ 2 ≤ qs_lk m1 a0 0 then if qs_kd m1 a0 = 90 then qs_bI (qs_call d 200 [.ref a0] m1) (fun r3 m3 => qs_bI (qs_call d 209 [.ref (qs_lk m1 a0 0 - 2), .int x1, .int x2, .int r3] m3) (fun r4 m4 => some (some (.int r4), m4))) else none else none) else none := (qs_EV_seg (cd := qc_203) (rk := 1) rfl rfl [] 78 _ _ _ _).trans rfl
/- J0_coder_7d493 -/
set_option maxRecDepth 20000 in
theorem bq_204_0 (d : Nat) (a0 : Nat) (m : qs_M) : qs_EV d 204 0 [some (.ref a0)] [] m = if (1 : Int32) = 0 then if narrow .byte (.int 1) = .int 1 then some (some (.int 1), m) else none else if qs_kd m a0 = 90 ∧ qs_lk m a0 1 = 0 then if narrow .byte (.int (qs_i m a0 1)) = .int (qs_i m a0 1) then some (some (.int (qs_i m a0 1)), m) else none else none := (qs_EV_seg (cd := qc_204) (rk := 4) rfl rfl [] 67 _ _ _ _).trans rfl
/- J0_isLatin1_aae02 -/
set_option maxRecDepth 20000 in
theorem bq_205_0 (d : Nat) (a0 : Nat) (m : qs_M) : qs_EV d 205 0 [some (.ref a0)] [] m = if (1 : Int32) = 0 then if (0 : Int32) = 0 ∨ (0 : Int32) = 1 then some (some (.int 0), m) else none else if qs_kd m a0 = 90 ∧ qs_lk m a0 1 = 0 then if (qs_i m a0 1) = 0 then if (1 : Int32) = 0 ∨ (1 : Int32) = 1 then some (some (.int 1), m) else none else if (0 : Int32) = 0 ∨ (0 : Int32) = 1 then some (some (.int 0), m) else none else none := (qs_EV_seg (cd := qc_205) (rk := 2) rfl rfl [] 69 _ _ _ _).trans rfl
/- J0_checkIndex_df160 -/
set_option maxRecDepth 20000 in
theorem bq_206_0 (d : Nat) (x0 : Int32) (x1 : Int32) (m : qs_M) : qs_EV d 206 0 [some (.int x0), some (.int x1)] [] m = qs_bI (qs_call d 211 [.int x0, .int x1, .ref 14] m) (fun r1 m1 => some (none, m1)) := (qs_EV_seg (cd := qc_206) (rk := 0) rfl rfl [] 66 _ _ _ _).trans rfl
/- J1_charAt_3b067 -/
set_option maxRecDepth 20000 in
theorem bq_207_0 (d : Nat) (a0 : Nat) (x1 : Int32) (m : qs_M) : qs_EV d 207 0 [some (.ref a0), some (.int x1)] [] m = if qs_kd m a0 = 24 then qs_bV (qs_call d 206 [.int x1, .int (Int32.ofNat (qs_sz m a0))] m) (fun m1 => if qs_kd m1 a0 = 24 ∧ 0 ≤ x1 ∧ x1.toNatClampNeg < qs_sz m1 a0 then if narrow .char (.int ((((qs_i m1 a0 x1.toNatClampNeg) &&& 255).toUInt32 % 65536).toInt32)) = .int ((((qs_i m1 a0 x1.toNatClampNeg) &&& 255).toUInt32 % 65536).toInt32) then some (some (.int ((((qs_i m1 a0 x1.toNatClampNeg) &&& 255).toUInt32 % 65536).toInt32)), m1) else none else none) else none := (qs_EV_seg (cd := qc_207) (rk := 3) rfl rfl [] 71 _ _ _ _).trans rfl
/- J1_canEncode_9a6ad -/
set_option maxRecDepth 20000 in
theorem bq_208_0 (d : Nat) (x0 : Int32) (m : qs_M) : qs_EV d 208 0 [some (.int x0)] [] m = if x0 < 0 then if (0 : Int32) = 0 ∨ (0 : Int32) = 1 then some (some (.int 0), m) else none else if 255 < x0 then if (0 : Int32) = 0 ∨ (0 : Int32) = 1 then some (some (.int 0), m) else none else if (1 : Int32) = 0 ∨ (1 : Int32) = 1 then some (some (.int 1), m) else none := (qs_EV_seg (cd := qc_208) (rk := 2) rfl rfl [] 69 _ _ _ _).trans rfl
/- J1_indexOf_4cfef -/
set_option maxRecDepth 20000 in
theorem bq_209_0 (d : Nat) (a0 : Nat) (x1 : Int32) (x2 : Int32) (x3 : Int32) (m : qs_M) : qs_EV d 209 0 [some (.ref a0), some (.int x1), some (.int x2), some (.int x3)] [] m = qs_bI (qs_call d 208 [.int x1] m) (fun r1 m1 => if r1 = 0 then some (some (.int (-1)), m1) else if qs_kd m1 a0 = 24 then if (qs_max x2 0) < (qs_min x3 (Int32.ofNat (qs_sz m1 a0))) then qs_bI (qs_call d 210 [.ref a0, .int x1, .int (qs_max x2 0), .int (qs_min x3 (Int32.ofNat (qs_sz m1 a0)))] m1) (fun r2 m2 => some (some (.int r2), m2)) else some (some (.int (-1)), m1) else none) := (qs_EV_seg (cd := qc_209) (rk := 1) rfl rfl [] 85 _ _ _ _).trans rfl
/- J1_indexOfChar_4cfef -/
set_option maxRecDepth 20000 in
theorem bq_210_0 (d : Nat) (a0 : Nat) (x1 : Int32) (x2 : Int32) (x3 : Int32) (m : qs_M) : qs_EV d 210 0 [some (.ref a0), some (.int x1), some (.int x2), some (.int x3), none, none] [] m = qs_EV d 210 7 [some (.ref a0), some (.int x1), some (.int x2), some (.int x3), some (.int x1.toInt8.toInt32), some (.int x2)] [] m := (qs_EV_seg (cd := qc_210) (rk := 1) rfl rfl [7] 79 _ _ _ _).trans rfl
set_option maxRecDepth 20000 in
theorem bq_210_7 (d : Nat) (a0 : Nat) (o1 : Option Value) (o2 : Option Value) (x3 : Int32) (x4 : Int32) (x5 : Int32) (m : qs_M) : qs_EV d 210 7 [some (.ref a0), o1, o2, some (.int x3), some (.int x4), some (.int x5)] [] m = if x3 ≤ x5 then some (some (.int (-1)), m) else if qs_kd m a0 = 24 ∧ 0 ≤ x5 ∧ x5.toNatClampNeg < qs_sz m a0 then if (qs_i m a0 x5.toNatClampNeg) = x4 then some (some (.int x5), m) else qs_EV d 210 7 [some (.ref a0), o1, o2, some (.int x3), some (.int x4), some (.int (x5 + 1))] [] m else none := (qs_EV_seg (cd := qc_210) (rk := 1) rfl rfl [7] 79 _ _ _ _).trans rfl
/- J3_checkIndex_8e157 -/
set_option maxRecDepth 20000 in
theorem bq_211_0 (d : Nat) (x0 : Int32) (x1 : Int32) (a2 : Nat) (m : qs_M) : qs_EV d 211 0 [some (.int x0), some (.int x1), some (.ref a2)] [] m = if x0 < 0 then none else if x0 < x1 then some (some (.int x0), m) else none := (qs_EV_seg (cd := qc_211) (rk := 1) rfl rfl [] 70 _ _ _ _).trans rfl
