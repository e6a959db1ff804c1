/-! CLASSES: what the tables say of each -/
theorem qk_sub {ws : List Jvm.Cond} (ps : List Nat) (h : (decide (ws = ps.filterMap (fun p => (qk_tb (p / 1000))[p % 1000]?)) && ws.all goodWord) = true) : ∀ w ∈ ws, w ∈ lw_gd := by
  intro w hw
  simp only [Bool.and_eq_true, decide_eq_true_eq] at h
  have hg := List.all_eq_true.mp h.2 w hw
  rw [h.1] at hw
  obtain ⟨p, -, hp⟩ := List.mem_filterMap.mp hw
  exact List.mem_filter.mpr ⟨qk_tb_in (List.mem_of_getElem? hp), hg⟩
theorem qk_in (p : Nat) {w : Jvm.Cond} (h : qk_is [p] 0 w = true) : w ∈ lw_gd := qk_is_in h
def qk_Cl (a : Nat) (q : vw_C) : Prop := q.2.2 = qs_nf a ∧ (∀ w ∈ u_ws q.1 q.2.1 q.2.2, w ∈ lw_gd) ∧ (∀ k, k < q.2.2 → parseFieldDescriptor (q.2.1 k).2.2.1 = some (qt_ty a k)) ∧ (∀ x, x < q.2.2 → ∀ y, y < q.2.2 → x ≠ y → (q.2.1 x).2.1 ≠ (q.2.1 y).2.1) ∧ Cond.instantiable q.1 q.2.2 ∈ lw_gd ∧ Cond.initialized q.1 ∈ lw_gd ∧ ∀ k, k < q.2.2 → defaultValue (qt_ty a k) = (if qs_dl a k = 0 then .int 0 else .null)
theorem qk_cl0 : qk_Cl 0 (RX0, TX0, 8) := ⟨rfl, qk_sub [1132, 1134, 1136, 1138, 1140, 1142, 1144, 1146] (by decide +kernel), tyX0_ok, nmX0, qk_in 1108 (by decide +kernel), qk_in 1006 (by decide +kernel), by decide +kernel⟩
theorem qk_cl1 : qk_Cl 1 (RX1, TX1, 2) := ⟨rfl, qk_sub [1063, 1065] (by decide +kernel), tyX1_ok, nmX1, qk_in 1027 (by decide +kernel), qk_in 1002 (by decide +kernel), by decide +kernel⟩
theorem qk_cl2 : qk_Cl 2 (RX2, TX2, 15) := ⟨rfl, qk_sub [1178, 1180, 1182, 1184, 1186, 1188, 1190, 1192, 1194, 1196, 1198, 1200, 1202, 1204, 1206] (by decide +kernel), tyX2_ok, nmX2, qk_in 1101 (by decide +kernel), qk_in 1005 (by decide +kernel), by decide +kernel⟩
theorem qk_cl3 : qk_Cl 3 (RX3, TX3, 7) := ⟨rfl, qk_sub [1085, 1087, 1089, 1091, 1093, 1095, 1097] (by decide +kernel), tyX3_ok, nmX3, qk_in 1069 (by decide +kernel), qk_in 1004 (by decide +kernel), by decide +kernel⟩
theorem qk_cl4 : qk_Cl 4 (RX4, TX4, 3) := ⟨rfl, qk_sub [1237, 1239, 2001] (by decide +kernel), tyX4_ok, nmX4, qk_in 1226 (by decide +kernel), qk_in 1008 (by decide +kernel), by decide +kernel⟩
theorem qk_cl5 : qk_Cl 5 (RX5, TX5, 4) := ⟨rfl, qk_sub [2019, 2021, 2023, 2025] (by decide +kernel), tyX5_ok, nmX5, qk_in 2004 (by decide +kernel), qk_in 1009 (by decide +kernel), by decide +kernel⟩
theorem qk_cl6 : qk_Cl 6 (RX6, TX6, 4) := ⟨rfl, qk_sub [1050, 1052, 1054, 1056] (by decide +kernel), tyX6_ok, nmX6, qk_in 1034 (by decide +kernel), qk_in 1003 (by decide +kernel), by decide +kernel⟩
theorem qk_cl7 : qk_Cl 7 (RX7, TX7, 11) := ⟨rfl, qk_sub [2039, 2041, 2043, 2045, 2047, 2051, 2053, 2055, 2057, 2059, 2049] (by decide +kernel), tyX7_ok, nmX7, qk_in 1019 (by decide +kernel), qk_in 1001 (by decide +kernel), by decide +kernel⟩
theorem qk_cl8 : qk_Cl 8 (RX8, TX8, 36) := ⟨rfl, qk_sub [4182, 4184, 4186, 4188, 4190, 4192, 4194, 4196, 4198, 4200, 4202, 4204, 4206, 4208, 4210, 4212, 4214, 4216, 4218, 4220, 4222, 4224, 4226, 4228, 4230, 4232, 4234, 4236, 4238, 5000, 5002, 5004, 5006, 5008, 5010, 5012] (by decide +kernel), tyX8_ok, nmX8, qk_in 4141 (by decide +kernel), qk_in 1010 (by decide +kernel), by decide +kernel⟩
theorem qk_cl9 : qk_Cl 9 (RX9, TX9, 2) := ⟨rfl, qk_sub [1217, 1219] (by decide +kernel), tyX9_ok, nmX9, qk_in 1210 (by decide +kernel), qk_in 1007 (by decide +kernel), by decide +kernel⟩
theorem qk_cls {a : Nat} {q : vw_C} (h : vwCl[a]? = some q) : a < 10 ∧ qk_Cl a q := by
  match a, h with
  | 0, h => cases h; exact ⟨by decide, qk_cl0⟩
  | 1, h => cases h; exact ⟨by decide, qk_cl1⟩
  | 2, h => cases h; exact ⟨by decide, qk_cl2⟩
  | 3, h => cases h; exact ⟨by decide, qk_cl3⟩
  | 4, h => cases h; exact ⟨by decide, qk_cl4⟩
  | 5, h => cases h; exact ⟨by decide, qk_cl5⟩
  | 6, h => cases h; exact ⟨by decide, qk_cl6⟩
  | 7, h => cases h; exact ⟨by decide, qk_cl7⟩
  | 8, h => cases h; exact ⟨by decide, qk_cl8⟩
  | 9, h => cases h; exact ⟨by decide, qk_cl9⟩
  | a + 10, h => simp [vwCl] at h
theorem qk_ac_int : Cond.arrayClass .int ∈ lw_gd := qk_in 1059 (by decide +kernel)
theorem qk_ac_boolean : Cond.arrayClass .boolean ∈ lw_gd := qk_in 5017 (by decide +kernel)
theorem qk_ac_char : Cond.arrayClass .char ∈ lw_gd := qk_in 5016 (by decide +kernel)
theorem qk_ac_long : Cond.arrayClass .long ∈ lw_gd := qk_in 5015 (by decide +kernel)
theorem qk_oi1 : Cond.instanceMethod Lib.objectInit ∈ lw_gd := qk_in 1024 (by decide +kernel)
theorem qk_oi2 : Cond.code Lib.objectInit ⟨#[0xb1]⟩ 1 none ∈ lw_gd := qk_in 1025 (by decide +kernel)
theorem qk_cp1 : Cond.native arraycopyName ∈ lw_gd := qk_in 4090 (by decide +kernel)
theorem qk_cp2 : Cond.static arraycopyName ∈ lw_gd := qk_in 4089 (by decide +kernel)
theorem qk_cp3 : Cond.initialized "java/lang/System" ∈ lw_gd := qk_in 1017 (by decide +kernel)
theorem qk_mmax1 : Cond.static Lib.Math.max.name ∈ lw_gd := qk_in 2095 (by decide +kernel)
theorem qk_mmax2 : Cond.code Lib.Math.max.name Lib.Math.max.code 2 (some .int) ∈ lw_gd := qk_in 2096 (by decide +kernel)
theorem qk_mmin1 : Cond.static Lib.Math.min.name ∈ lw_gd := qk_in 2198 (by decide +kernel)
theorem qk_mmin2 : Cond.code Lib.Math.min.name Lib.Math.min.code 2 (some .int) ∈ lw_gd := qk_in 2199 (by decide +kernel)
theorem qk_mabs1 : Cond.static Lib.Math.abs.name ∈ lw_gd := qk_in 2103 (by decide +kernel)
theorem qk_mabs2 : Cond.code Lib.Math.abs.name Lib.Math.abs.code 1 (some .int) ∈ lw_gd := qk_in 2104 (by decide +kernel)
theorem qk_mi : Cond.initialized "java/lang/Math" ∈ lw_gd := qk_in 1011 (by decide +kernel)
/-! CELLS -/
theorem qw_cell_o {X : qw_X} {m : qs_M} {k a : Nat} (h : qs_kd m k = a) (ha : a < 10) : qw_cell X m k = .inr (a, (List.range (qs_nf a)).map (qw_sv X m k)) := by
  unfold qw_cell
  rw [h, if_pos ha]
theorem qw_cell_l {X : qw_X} {m : qs_M} {k : Nat} (h : qs_kd m k = 23) : qw_cell X m k = .inl (qx_c X 23, qs_sz m k, .inr (.inl (qs_l m k))) := by
  unfold qw_cell
  rw [h, if_neg (by decide), if_pos rfl]
theorem qw_cell_i {X : qw_X} {m : qs_M} {k a : Nat} (h : qs_kd m k = a) (ha : a = 20 ∨ a = 21 ∨ a = 22) : qw_cell X m k = .inl (qx_c X a, qs_sz m k, .inl (qs_i m k)) := by
  unfold qw_cell
  rw [h, if_neg (by omega), if_neg (by omega), if_pos (by omega)]
theorem qw_cell_q {X : qw_X} {m : qs_M} {k a : Nat} (h : qs_kd m k = a) (ha : 30 ≤ a) : qw_cell X m k = .inl (qx_c X a, qs_sz m k, .inr (.inr (.inr (.inr (fun j => qw_rf X (qs_lk m k j)))))) := by
  unfold qw_cell
  rw [h, if_neg (by omega), if_neg (by omega), if_neg (by omega)]
theorem qw_cell_cg {X : qw_X} {m m' : qs_M} {k : Nat} (h1 : qs_kd m' k = qs_kd m k) (h2 : qs_sz m' k = qs_sz m k) (h3 : qs_lk m' k = qs_lk m k) (h4 : qs_i m' k = qs_i m k) (h5 : qs_l m' k = qs_l m k) : qw_cell X m' k = qw_cell X m k := by
  have h6 : qw_sv X m' k = qw_sv X m k := by
    funext j
    unfold qw_sv
    rw [h3, h4]
  unfold qw_cell
  rw [h1, h2, h3, h4, h5, h6]
theorem qs_wi_i (m : qs_M) (k j a b : Nat) (x : Int32) : qs_i (qs_wi m k j x) a b = if a = k ∧ b = j then x else qs_i m a b := rfl
theorem qs_wl_l (m : qs_M) (k j a b : Nat) (x : Nat) : qs_lk (qs_wl m k j x) a b = if a = k ∧ b = j then x else qs_lk m a b := rfl
theorem qs_wj_l (m : qs_M) (k j a b : Nat) (x : Int64) : qs_l (qs_wj m k j x) a b = if a = k ∧ b = j then x else qs_l m a b := rfl
theorem qs_wi_ne (m : qs_M) {k j a : Nat} (x : Int32) (h : a ≠ k) : qs_i (qs_wi m k j x) a = qs_i m a := by
  funext b
  rw [qs_wi_i, if_neg (fun q => h q.1)]
theorem qs_wl_ne (m : qs_M) {k j a : Nat} (x : Nat) (h : a ≠ k) : qs_lk (qs_wl m k j x) a = qs_lk m a := by
  funext b
  rw [qs_wl_l, if_neg (fun q => h q.1)]
theorem qs_wj_ne (m : qs_M) {k j a : Nat} (x : Int64) (h : a ≠ k) : qs_l (qs_wj m k j x) a = qs_l m a := by
  funext b
  rw [qs_wj_l, if_neg (fun q => h q.1)]
theorem qs_wi_up (m : qs_M) (k j : Nat) (x : Int32) : qs_i (qs_wi m k j x) k = upd (qs_i m k) j x := by
  funext b
  rw [qs_wi_i]
  by_cases h : b = j
  · rw [if_pos ⟨rfl, h⟩]; simp [upd, h]
  · rw [if_neg (fun q => h q.2)]; simp [upd, h]
theorem qs_wj_up (m : qs_M) (k j : Nat) (x : Int64) : qs_l (qs_wj m k j x) k = vp_updL (qs_l m k) j x := by
  funext b
  rw [qs_wj_l]
  by_cases h : b = j
  · rw [if_pos ⟨rfl, h⟩]; simp [vp_updL, h]
  · rw [if_neg (fun q => h q.2)]; simp [vp_updL, h]
theorem qw_M.wi {X : qw_X} {m : qs_M} (h : qw_M X m) {k j : Nat} (x : Int32) (hk : 16 ≤ k) : qw_M X (qs_wi m k j x) :=
  ⟨h.1.moved (fun q hq => ⟨rfl, rfl, fun _ => rfl, fun b => by rw [qs_wi_ne m x (by omega)]⟩), h.2.1, h.2.2⟩
theorem qw_M.wj {X : qw_X} {m : qs_M} (h : qw_M X m) {k j : Nat} (x : Int64) : qw_M X (qs_wj m k j x) :=
  ⟨h.1.moved (fun q hq => ⟨rfl, rfl, fun _ => rfl, fun b => rfl⟩), h.2.1, h.2.2⟩
theorem qw_M.wl {X : qw_X} {m : qs_M} (h : qw_M X m) {k j : Nat} (x : Nat) (hk : 16 ≤ k) : qw_M X (qs_wl m k j x) :=
  ⟨h.1.moved (fun q hq => ⟨rfl, rfl, fun b => by rw [qs_wl_ne m x (by omega)], fun _ => rfl⟩), h.2.1, h.2.2⟩
theorem qw_M.cp {X : qw_X} {m : qs_M} (h : qw_M X m) {r1 r2 sp dp n : Nat} (hk : 16 ≤ r2) : qw_M X (qs_cp m r1 r2 sp dp n) :=
  ⟨h.1.moved (fun q hq => ⟨rfl, rfl, fun _ => rfl, fun b => if_neg (fun z => by omega)⟩), h.2.1, h.2.2⟩
theorem qw_map_set {f f' : Nat → Value} {N b : Nat} {v : Value} (hv : f' b = v) (ho : ∀ j, j ≠ b → f' j = f j) : ((List.range N).map f).set b v = (List.range N).map f' := by
  apply List.ext_getElem?
  intro i
  rcases Nat.lt_or_ge i N with q | q
  · by_cases hi : i = b
    · subst hi
      rw [List.getElem?_set_self (by simpa using q), List.getElem?_map, List.getElem?_range q]
      simp [hv]
    · rw [List.getElem?_set_ne (Ne.symm hi), List.getElem?_map, List.getElem?_map, List.getElem?_range q]
      simp [ho i hi]
  · rw [List.getElem?_eq_none (by simpa using q), List.getElem?_eq_none (by simpa using q)]
theorem qw_fs {X : qw_X} {m : qs_M} {k N b : Nat} (h : b < N) : ((List.range N).map (qw_sv X m k))[b]? = some (qw_sv X m k b) := by
  rw [List.getElem?_map, List.getElem?_range h]
  rfl
theorem qw_sv_0 {X : qw_X} {m : qs_M} {k j : Nat} (h : qs_lk m k j = 0) : qw_sv X m k j = .int (qs_i m k j) := by
  unfold qw_sv
  rw [h]
theorem qw_sv_2 {X : qw_X} {m : qs_M} {k j q : Nat} (h : qs_lk m k j = q + 2) : qw_sv X m k j = qw_v X (.ref q) := by
  unfold qw_sv
  rw [h]
theorem qw_tyi {X : qw_X} : (qw_tys X)[0]? = some (qx_c X 20, .int) := rfl
/-- kinds outside -/
theorem qw_M.k25 {X : qw_X} {m : qs_M} (h : qw_M X m) {k : Nat} (hk : qs_kd m k = 25) : k = 1 := by
  have h0 := h
  obtain ⟨⟨a1, ⟨b1, -⟩, c, d, e1, e2⟩, g1, g2⟩ := h
  rcases (by omega : k = 0 ∨ k = 1 ∨ (2 ≤ k ∧ k < 8) ∨ (8 ≤ k ∧ k < 14) ∨ k = 14 ∨ k = 15 ∨ 16 ≤ k) with q | q | ⟨h1, h2⟩ | ⟨h1, h2⟩ | rfl | rfl | q
  · subst q; omega
  · exact q
  · have := (c (k - 2) (by omega)).1
    rw [show 2 + (k - 2) = k by omega] at this
    omega
  · have := (d (k - 8) (by omega)).1
    rw [show 8 + (k - 8) = k by omega] at this
    omega
  · omega
  · omega
  · rcases Nat.lt_or_ge (qn_x k) (qs_n m) with z | z
    · have := g2 k q z
      unfold qw_okk at this
      omega
    · have := g1 k q z
      omega
theorem qw_M.k90 {X : qw_X} {m : qs_M} (h : qw_M X m) {k : Nat} (hk : qs_kd m k = 90) : ∃ i, i < 6 ∧ k = 2 + i := by
  obtain ⟨⟨a1, ⟨b1, -⟩, c, d, e1, e2⟩, g1, g2⟩ := h
  rcases (by omega : k = 0 ∨ k = 1 ∨ (2 ≤ k ∧ k < 8) ∨ (8 ≤ k ∧ k < 14) ∨ k = 14 ∨ k = 15 ∨ 16 ≤ k) with rfl | rfl | ⟨h1, h2⟩ | ⟨h1, h2⟩ | rfl | rfl | q
  · omega
  · omega
  · exact ⟨k - 2, by omega, by omega⟩
  · have := (d (k - 8) (by omega)).1
    rw [show 8 + (k - 8) = k by omega] at this
    omega
  · omega
  · omega
  · rcases Nat.lt_or_ge (qn_x k) (qs_n m) with z | z
    · have := g2 k q z
      unfold qw_okk at this
      omega
    · have := g1 k q z
      omega
theorem qw_M.k24 {X : qw_X} {m : qs_M} (h : qw_M X m) {k : Nat} (hk : qs_kd m k = 24) : ∃ i, i < 6 ∧ k = 8 + i := by
  obtain ⟨⟨a1, ⟨b1, -⟩, c, d, e1, e2⟩, g1, g2⟩ := h
  rcases (by omega : k = 0 ∨ k = 1 ∨ (2 ≤ k ∧ k < 8) ∨ (8 ≤ k ∧ k < 14) ∨ k = 14 ∨ k = 15 ∨ 16 ≤ k) with rfl | rfl | ⟨h1, h2⟩ | ⟨h1, h2⟩ | rfl | rfl | q
  · omega
  · omega
  · have := (c (k - 2) (by omega)).1
    rw [show 2 + (k - 2) = k by omega] at this
    omega
  · exact ⟨k - 8, by omega, by omega⟩
  · omega
  · omega
  · rcases Nat.lt_or_ge (qn_x k) (qs_n m) with z | z
    · have := g2 k q z
      unfold qw_okk at this
      omega
    · have := g1 k q z
      omega
theorem qw_M.k26 {X : qw_X} {m : qs_M} (h : qw_M X m) {k : Nat} (hk : qs_kd m k = 2600) : False := by
  rcases Nat.lt_or_ge k 16 with q | q
  · rcases h.ext q with e | e | e | e <;> omega
  · rcases Nat.lt_or_ge (qn_x k) (qs_n m) with z | z
    · have := h.2.2 k q z
      unfold qw_okk at this
      omega
    · have := h.2.1 k q z
      omega
theorem qw_M.okk {X : qw_X} {m : qs_M} (h : qw_M X m) {k : Nat} (hk : 30 ≤ qs_kd m k ∧ qs_kd m k < 40) : qs_kd m k = 30 ∨ qs_kd m k = 34 ∨ qs_kd m k = 35 ∨ qs_kd m k = 36 := by
  have hi := h.in (k := k) (Or.inr hk)
  have := h.2.2 k hi.1 hi.2
  unfold qw_okk at this
  omega
section QPB
variable {p : Program} {l : Launch} {e : Env} {R : Room} {s : State} {mid : MethodId} {args : Array Value} {below : List Frame} {meth : Method} {c : Code} {Q : State → Prop} {X : qw_X} {E : qs_E} {nL n0 z0 : Nat}
variable {pc : Nat} {L : qs_L} {st : List Value} {m : qs_M}
theorem qp_get (C : qp_C p R s mid args meth c X E nL n0) {n a b r : Nat} {q : vw_C} (hq : vwCl[a]? = some q) (hb : b < q.2.2) (hw : Jvm.Cond.fieldLink (qe_own E) n (q.2.1 b).1 (q.2.1 b).2.1 (q.2.1 b).2.2.1 ∈ lw_gd) (hk : qs_kd m r = a) {v : Value} (hv : qw_sv X m r b = qw_v X v) (hd : decode (qe_b E) pc = .ok (.getfield n, 3)) (h : qp_K p l e R s mid args below meth c Q X nL n0 z0 (pc + 3) L (v :: st) m) : qp_At p l e R s mid args below meth c Q X nL n0 z0 pc L (.ref r :: st) m := by
  intro H locs cells slots ls hP hM hS hl hc hz
  obtain ⟨ha, hN, hin, hty, hnm, -⟩ := qk_cls hq
  have hi := hM.in (k := r) (Or.inl (by omega))
  have h1 := h.2 H locs cells slots ls hP hM hS hl hc hz
  rw [List.map_cons, ← hv] at h1
  rw [List.map_cons, qw_vr hi.1]
  exact va_get (own := qe_own E) (ref := (q.2.1 b).1) (C := q.1) (T := q.2.1) (N := q.2.2) (ci := a) (ws := qw_ws X m) (fs := (List.range (qs_nf a)).map (qw_sv X m r)) C.1 C.2.1 C.2.2.2.2.1 hin C.2.2.2.1 C.2.2.2.2.2.1 hP (qn_x r) (by rw [qw_at hi, qw_cell_o hk ha]) hq b hb (C.2.2.2.2.1 _ hw) (fun _ z => z) (qw_fs (by omega)) hd h1
theorem qp_getS (C : qp_C p R s mid args meth c X E nL n0) {n b r : Nat} {nm ds : String} (hk : qs_kd m r = 90) {v : Value} (hb : (b = 0 ∧ nm = "value" ∧ ds = "[B" ∧ v = .ref (qs_lk m r 0 - 2)) ∨ (b = 1 ∧ nm = "coder" ∧ ds = "B" ∧ v = .int (qs_i m r 1))) (hw : Jvm.Cond.fieldLink (qe_own E) n "java/lang/String" nm ds ∈ lw_gd) (hd : decode (qe_b E) pc = .ok (.getfield n, 3)) (h : qp_K p l e R s mid args below meth c Q X nL n0 z0 (pc + 3) L (v :: st) m) : qp_At p l e R s mid args below meth c Q X nL n0 z0 pc L (.ref r :: st) m := by
  intro H locs cells slots ls hP hM hS hl hc hz
  obtain ⟨i, hi, rfl⟩ := hM.k90 hk
  have h1 := h.2 H locs cells slots ls hP hM hS hl hc hz
  obtain ⟨-, -, f3, -⟩ := hM.1
  obtain ⟨-, f4, -, f5⟩ := f3 i hi
  obtain ⟨-, g1, g2, -⟩ := (C.2.2.2.2.2.2.1).2.2.2.1 i hi
  rw [List.map_cons] at h1
  rw [List.map_cons, qw_ve (by omega)]
  rcases hb with ⟨-, rfl, rfl, rfl⟩ | ⟨-, rfl, rfl, rfl⟩
  · rw [f4, show 8 + i + 2 - 2 = 8 + i by omega, qw_ve (by omega)] at h1
    exact vk_getf C.1 C.2.1 g2 hS C.2.2.2.1 (C.2.2.2.2.1 _ hw) (fun _ z => z) hd h1
  · rw [f5] at h1
    exact vk_getf C.1 C.2.1 g1 hS C.2.2.2.1 (C.2.2.2.2.1 _ hw) (fun _ z => z) hd h1
theorem qp_put (C : qp_C p R s mid args meth c X E nL n0) {n a b r : Nat} {q : vw_C} (hq : vwCl[a]? = some q) (hb : b < q.2.2) (hw : Jvm.Cond.fieldLink (qe_own E) n (q.2.1 b).1 (q.2.1 b).2.1 (q.2.1 b).2.2.1 ∈ lw_gd) (hfin : (q.2.1 b).2.2.2 = false) (hk : qs_kd m r = a) (hlk : qs_lk m r b = 0) {x : Int32} (hn : narrow (qt_ty a b) (.int x) = .int x) (hft : fits (qt_ty a b) (.int x) = true) (hd : decode (qe_b E) pc = .ok (.putfield n, 3)) (h : qp_K p l e R s mid args below meth c Q X nL n0 z0 (pc + 3) L st (qs_wi m r b x)) : qp_At p l e R s mid args below meth c Q X nL n0 z0 pc L (.int x :: .ref r :: st) m := by
  intro H locs cells slots ls hP hM hS hl hc hz
  obtain ⟨ha, hN, hin, hty, hnm, -⟩ := qk_cls hq
  have hi := hM.in (k := r) (Or.inl (by omega))
  rw [List.map_cons, List.map_cons, qw_vr hi.1]
  refine va_put (own := qe_own E) (ref := (q.2.1 b).1) (C := q.1) (T := q.2.1) (N := q.2.2) (ci := a) (ws := qw_ws X m) (fs := (List.range (qs_nf a)).map (qw_sv X m r)) C.1 C.2.1 C.2.2.2.2.1 hin (qt_ty a) hty hnm C.2.2.2.1 C.2.2.2.2.2.1 hP qw_D hS (qn_x r) (by rw [qw_at hi, qw_cell_o hk ha]) hq b hb (C.2.2.2.2.1 _ hw) (fun _ z => z) hfin (hty b hb) hn hft (by simp; omega) hd (fun H1 locs1 hP1 hD1 hS1 => ?_)
  rw [qw_map_set (f' := qw_sv X (qs_wi m r b x) r) ((qw_sv_0 (m := qs_wi m r b x) hlk).trans (by rw [qs_wi_i, if_pos ⟨rfl, rfl⟩]; rfl)) (fun j hj => by unfold qw_sv; rw [qs_wi_i, if_neg (fun z => hj z.2)]; rfl), qw_set (m' := qs_wi m r b x) hi rfl (qw_cell_o hk ha) (fun z hz1 hz2 => qw_cell_cg rfl rfl rfl (qs_wi_ne m x hz2) rfl)] at hP1
  exact h.2 H1 locs1 cells slots ls hP1 (hM.wi x hi.1) hS1 hl hc hz
theorem qp_putR (C : qp_C p R s mid args meth c X E nL n0) {n a b r k : Nat} {q : vw_C} (hq : vwCl[a]? = some q) (hb : b < q.2.2) (hw : Jvm.Cond.fieldLink (qe_own E) n (q.2.1 b).1 (q.2.1 b).2.1 (q.2.1 b).2.2.1 ∈ lw_gd) (hfin : (q.2.1 b).2.2.2 = true) (hnm1 : (qe_y E).name = "<init>") (hdc : (q.2.1 b).1 = qe_own E) (hk : qs_kd m r = a) (hk2 : 16 ≤ k) (hty1 : qk_ty 1 (qt_ty a b) = true) (hd : decode (qe_b E) pc = .ok (.putfield n, 3)) (h : qp_K p l e R s mid args below meth c Q X nL n0 z0 (pc + 3) L st (qs_wl m r b (k + 2))) : qp_At p l e R s mid args below meth c Q X nL n0 z0 pc L (.ref k :: .ref r :: st) m := by
  intro H locs cells slots ls hP hM hS hl hc hz
  obtain ⟨ha, hN, hin, hty, hnm, -⟩ := qk_cls hq
  have hi := hM.in (k := r) (Or.inl (by omega))
  rw [List.map_cons, List.map_cons, qw_vr hi.1, qw_vr hk2]
  have hnf : narrow (qt_ty a b) (.ref (qx_b X + qn_x k)) = .ref (qx_b X + qn_x k) ∧ fits (qt_ty a b) (.ref (qx_b X + qn_x k)) = true := by
    revert hty1
    cases qt_ty a b <;> intro z <;> first | exact ⟨rfl, rfl⟩ | cases z
  refine va_putF (own := qe_own E) (ref := (q.2.1 b).1) (C := q.1) (T := q.2.1) (N := q.2.2) (ci := a) (ws := qw_ws X m) (fs := (List.range (qs_nf a)).map (qw_sv X m r)) C.1 C.2.1 C.2.2.2.2.1 hin (qt_ty a) hty hnm C.2.2.2.1 C.2.2.2.2.2.1 hP qw_D hS (qn_x r) (by rw [qw_at hi, qw_cell_o hk ha]) hq b hb (C.2.2.2.2.1 _ hw) (fun _ z => z) hfin (C.2.2.2.2.2.2.2.2.2.2.2.2 hnm1) hdc (hty b hb) hnf.1 hnf.2 (by simp; omega) hd (fun H1 locs1 hP1 hD1 hS1 => ?_)
  rw [qw_map_set (f' := qw_sv X (qs_wl m r b (k + 2)) r) ((qw_sv_2 (q := k) (by rw [qs_wl_l, if_pos ⟨rfl, rfl⟩])).trans (qw_vr hk2)) (fun j hj => by unfold qw_sv; rw [qs_wl_l, if_neg (fun z => hj z.2)]; rfl), qw_set (m' := qs_wl m r b (k + 2)) hi rfl (qw_cell_o hk ha) (fun z hz1 hz2 => qw_cell_cg rfl rfl (qs_wl_ne m _ hz2) rfl rfl)] at hP1
  exact h.2 H1 locs1 cells slots ls hP1 (hM.wl _ hi.1) hS1 hl hc hz
theorem qp_iald (C : qp_C p R s mid args meth c X E nL n0) {r : Nat} {x : Int32} (hk : qs_kd m r = 20) (hx : 0 ≤ x ∧ x.toNatClampNeg < qs_sz m r) (hd : decode (qe_b E) pc = .ok (.iaload, 1)) (h : qp_K p l e R s mid args below meth c Q X nL n0 z0 (pc + 1) L (.int (qs_i m r x.toNatClampNeg) :: st) m) : qp_At p l e R s mid args below meth c Q X nL n0 z0 pc L (.int x :: .ref r :: st) m := by
  intro H locs cells slots ls hP hM hS hl hc hz
  have hi := hM.in (k := r) (Or.inl (by omega))
  rw [List.map_cons, List.map_cons, qw_vr hi.1]
  exact va_iald (ws := qw_ws X m) C.1 C.2.1 C.2.2.2.2.2.1 hP (qn_x r) 0 (by rw [qw_at hi, qw_cell_i hk (Or.inl rfl)]) rfl (qp_in hx) hd (h.2 H locs cells slots ls hP hM hS hl hc hz)
theorem qp_ialdX (C : qp_C p R s mid args meth c X E nL n0) {r : Nat} {x : Int32} (hk : qs_kd m r = 25) (hx : 0 ≤ x ∧ x.toNatClampNeg < qs_sz m r) (hd : decode (qe_b E) pc = .ok (.iaload, 1)) (h : qp_K p l e R s mid args below meth c Q X nL n0 z0 (pc + 1) L (.int (qs_i m r x.toNatClampNeg) :: st) m) : qp_At p l e R s mid args below meth c Q X nL n0 z0 pc L (.int x :: .ref r :: st) m := by
  intro H locs cells slots ls hP hM hS hl hc hz
  obtain ⟨-, ⟨-, b2, b3⟩, -⟩ := hM.1
  have hE := C.2.2.2.2.2.2.1
  obtain rfl := hM.k25 hk
  rw [List.map_cons, List.map_cons, qw_ve (by omega)]
  rw [b2] at hx
  refine va_ti (v := .int (qs_i m 1 x.toNatClampNeg)) C.1 C.2.1 hE.2.2.1 hS (qp_in hx) ?_ hd (h.2 H locs cells slots ls hP hM hS hl hc hz)
  rw [b3 _ hx.2]
theorem qp_zald (C : qp_C p R s mid args meth c X E nL n0) {r : Nat} {x : Int32} (hk : qs_kd m r = 21) (hx : 0 ≤ x ∧ x.toNatClampNeg < qs_sz m r) (hd : decode (qe_b E) pc = .ok (.baload, 1)) (h : qp_K p l e R s mid args below meth c Q X nL n0 z0 (pc + 1) L (.int (qs_i m r x.toNatClampNeg) :: st) m) : qp_At p l e R s mid args below meth c Q X nL n0 z0 pc L (.int x :: .ref r :: st) m := by
  intro H locs cells slots ls hP hM hS hl hc hz
  have hi := hM.in (k := r) (Or.inl (by omega))
  rw [List.map_cons, List.map_cons, qw_vr hi.1]
  exact va_zald (ws := qw_ws X m) C.1 C.2.1 C.2.2.2.2.2.1 hP (qn_x r) 1 (by rw [qw_at hi, qw_cell_i hk (Or.inr (Or.inl rfl))]) rfl (qp_in hx) hd (h.2 H locs cells slots ls hP hM hS hl hc hz)
theorem qp_baldX (C : qp_C p R s mid args meth c X E nL n0) {r : Nat} {x : Int32} (hk : qs_kd m r = 24) (hx : 0 ≤ x ∧ x.toNatClampNeg < qs_sz m r) (hd : decode (qe_b E) pc = .ok (.baload, 1)) (h : qp_K p l e R s mid args below meth c Q X nL n0 z0 (pc + 1) L (.int (qs_i m r x.toNatClampNeg) :: st) m) : qp_At p l e R s mid args below meth c Q X nL n0 z0 pc L (.int x :: .ref r :: st) m := by
  intro H locs cells slots ls hP hM hS hl hc hz
  obtain ⟨i, hi, rfl⟩ := hM.k24 hk
  obtain ⟨-, -, -, f, -⟩ := hM.1
  obtain ⟨-, f2, f3⟩ := f i hi
  have hE := ((C.2.2.2.2.2.2.1).2.2.2.1 i hi).2.2.2.1
  rw [List.map_cons, List.map_cons, qw_ve (by omega)]
  rw [f2] at hx
  refine va_tb (v := .int (qs_i m (8 + i) x.toNatClampNeg)) C.1 C.2.1 hE hS (qp_in hx) ?_ hd (h.2 H locs cells slots ls hP hM hS hl hc hz)
  rw [f3 _ hx.2]
theorem qp_cald (C : qp_C p R s mid args meth c X E nL n0) {r : Nat} {x : Int32} (hk : qs_kd m r = 22) (hx : 0 ≤ x ∧ x.toNatClampNeg < qs_sz m r) (hd : decode (qe_b E) pc = .ok (.caload, 1)) (h : qp_K p l e R s mid args below meth c Q X nL n0 z0 (pc + 1) L (.int (qs_i m r x.toNatClampNeg) :: st) m) : qp_At p l e R s mid args below meth c Q X nL n0 z0 pc L (.int x :: .ref r :: st) m := by
  intro H locs cells slots ls hP hM hS hl hc hz
  have hi := hM.in (k := r) (Or.inl (by omega))
  rw [List.map_cons, List.map_cons, qw_vr hi.1]
  exact va_cald (ws := qw_ws X m) C.1 C.2.1 C.2.2.2.2.2.1 hP (qn_x r) 2 (by rw [qw_at hi, qw_cell_i hk (Or.inr (Or.inr rfl))]) rfl (qp_in hx) hd (h.2 H locs cells slots ls hP hM hS hl hc hz)
theorem qp_lald (C : qp_C p R s mid args meth c X E nL n0) {r : Nat} {x : Int32} (hk : qs_kd m r = 23) (hx : 0 ≤ x ∧ x.toNatClampNeg < qs_sz m r) (hd : decode (qe_b E) pc = .ok (.laload, 1)) (h : qp_K p l e R s mid args below meth c Q X nL n0 z0 (pc + 1) L (.long (qs_l m r x.toNatClampNeg) :: st) m) : qp_At p l e R s mid args below meth c Q X nL n0 z0 pc L (.int x :: .ref r :: st) m := by
  intro H locs cells slots ls hP hM hS hl hc hz
  have hi := hM.in (k := r) (Or.inl (by omega))
  rw [List.map_cons, List.map_cons, qw_vr hi.1]
  exact va_lald (ws := qw_ws X m) C.1 C.2.1 C.2.2.2.2.2.1 hP (qn_x r) 3 (by rw [qw_at hi, qw_cell_l hk]) rfl (qp_in hx) hd (h.2 H locs cells slots ls hP hM hS hl hc hz)
theorem qp_alen (C : qp_C p R s mid args meth c X E nL n0) {r : Nat} (hk : qs_kd m r = 24) (hd : decode (qe_b E) pc = .ok (.arraylength, 1)) (h : qp_K p l e R s mid args below meth c Q X nL n0 z0 (pc + 1) L (.int (Int32.ofNat (qs_sz m r)) :: st) m) : qp_At p l e R s mid args below meth c Q X nL n0 z0 pc L (.ref r :: st) m := by
  intro H locs cells slots ls hP hM hS hl hc hz
  have hE := C.2.2.2.2.2.2.1
  have h1 := h.2 H locs cells slots ls hP hM hS hl hc hz
  obtain ⟨i, hi, rfl⟩ := hM.k24 hk
  obtain ⟨-, -, -, f, -⟩ := hM.1
  obtain ⟨-, f2, -⟩ := f i hi
  rw [List.map_cons, qw_ve (by omega)]
  rw [f2] at h1
  exact va_tlen C.1 C.2.1 (hE.2.2.2.1 i hi).2.2.2.1 hS rfl hd h1
theorem qp_iast (C : qp_C p R s mid args meth c X E nL n0) {r : Nat} {x y : Int32} (hk : qs_kd m r = 20) (hx : 0 ≤ x ∧ x.toNatClampNeg < qs_sz m r) (hd : decode (qe_b E) pc = .ok (.iastore, 1)) (h : qp_K p l e R s mid args below meth c Q X nL n0 z0 (pc + 1) L st (qs_wi m r x.toNatClampNeg y)) : qp_At p l e R s mid args below meth c Q X nL n0 z0 pc L (.int y :: .int x :: .ref r :: st) m := by
  intro H locs cells slots ls hP hM hS hl hc hz
  have hi := hM.in (k := r) (Or.inl (by omega))
  rw [List.map_cons, List.map_cons, List.map_cons, qw_vr hi.1]
  refine va_iast (ws := qw_ws X m) C.1 C.2.1 C.2.2.2.2.2.1 hP qw_D hS (qn_x r) 0 (by rw [qw_at hi, qw_cell_i hk (Or.inl rfl)]) rfl (qp_in hx) hd (fun H1 locs1 hP1 hD1 hS1 => ?_)
  rw [← qs_wi_up, qw_set (X := X) (m' := qs_wi m r x.toNatClampNeg y) (e := .inl (qx_c X 20, qs_sz m r, .inl (qs_i (qs_wi m r x.toNatClampNeg y) r))) hi rfl (qw_cell_i hk (Or.inl rfl)) (fun z hz1 hz2 => qw_cell_cg rfl rfl rfl (qs_wi_ne m _ hz2) rfl)] at hP1
  exact h.2 H1 locs1 cells slots ls hP1 (hM.wi _ hi.1) hS1 hl hc hz
theorem qp_zast (C : qp_C p R s mid args meth c X E nL n0) {r : Nat} {x y : Int32} (hk : qs_kd m r = 21) (hx : 0 ≤ x ∧ x.toNatClampNeg < qs_sz m r) (hy : y = 0 ∨ y = 1) (hd : decode (qe_b E) pc = .ok (.bastore, 1)) (h : qp_K p l e R s mid args below meth c Q X nL n0 z0 (pc + 1) L st (qs_wi m r x.toNatClampNeg y)) : qp_At p l e R s mid args below meth c Q X nL n0 z0 pc L (.int y :: .int x :: .ref r :: st) m := by
  intro H locs cells slots ls hP hM hS hl hc hz
  have hi := hM.in (k := r) (Or.inl (by omega))
  rw [List.map_cons, List.map_cons, List.map_cons, qw_vr hi.1]
  refine va_zast (ws := qw_ws X m) C.1 C.2.1 C.2.2.2.2.2.1 hP qw_D hS (qn_x r) 1 (by rw [qw_at hi, qw_cell_i hk (Or.inr (Or.inl rfl))]) rfl (qp_in hx) hd (fun H1 locs1 hP1 hD1 hS1 => ?_)
  rw [show vp_nar .boolean y = y by rcases hy with rfl | rfl <;> decide, ← qs_wi_up, qw_set (X := X) (m' := qs_wi m r x.toNatClampNeg y) (e := .inl (qx_c X 21, qs_sz m r, .inl (qs_i (qs_wi m r x.toNatClampNeg y) r))) hi rfl (qw_cell_i hk (Or.inr (Or.inl rfl))) (fun z hz1 hz2 => qw_cell_cg rfl rfl rfl (qs_wi_ne m _ hz2) rfl)] at hP1
  exact h.2 H1 locs1 cells slots ls hP1 (hM.wi _ hi.1) hS1 hl hc hz
theorem qp_cast (C : qp_C p R s mid args meth c X E nL n0) {r : Nat} {x y : Int32} (hk : qs_kd m r = 22) (hx : 0 ≤ x ∧ x.toNatClampNeg < qs_sz m r) (hy : vp_nar .char y = y) (hd : decode (qe_b E) pc = .ok (.castore, 1)) (h : qp_K p l e R s mid args below meth c Q X nL n0 z0 (pc + 1) L st (qs_wi m r x.toNatClampNeg y)) : qp_At p l e R s mid args below meth c Q X nL n0 z0 pc L (.int y :: .int x :: .ref r :: st) m := by
  intro H locs cells slots ls hP hM hS hl hc hz
  have hi := hM.in (k := r) (Or.inl (by omega))
  rw [List.map_cons, List.map_cons, List.map_cons, qw_vr hi.1]
  refine va_cast (ws := qw_ws X m) C.1 C.2.1 C.2.2.2.2.2.1 hP qw_D hS (qn_x r) 2 (by rw [qw_at hi, qw_cell_i hk (Or.inr (Or.inr rfl))]) rfl (qp_in hx) hd (fun H1 locs1 hP1 hD1 hS1 => ?_)
  rw [hy, ← qs_wi_up, qw_set (X := X) (m' := qs_wi m r x.toNatClampNeg y) (e := .inl (qx_c X 22, qs_sz m r, .inl (qs_i (qs_wi m r x.toNatClampNeg y) r))) hi rfl (qw_cell_i hk (Or.inr (Or.inr rfl))) (fun z hz1 hz2 => qw_cell_cg rfl rfl rfl (qs_wi_ne m _ hz2) rfl)] at hP1
  exact h.2 H1 locs1 cells slots ls hP1 (hM.wi _ hi.1) hS1 hl hc hz
theorem qp_last (C : qp_C p R s mid args meth c X E nL n0) {r : Nat} {x : Int32} {y : Int64} (hk : qs_kd m r = 23) (hx : 0 ≤ x ∧ x.toNatClampNeg < qs_sz m r) (hd : decode (qe_b E) pc = .ok (.lastore, 1)) (h : qp_K p l e R s mid args below meth c Q X nL n0 z0 (pc + 1) L st (qs_wj m r x.toNatClampNeg y)) : qp_At p l e R s mid args below meth c Q X nL n0 z0 pc L (.long y :: .int x :: .ref r :: st) m := by
  intro H locs cells slots ls hP hM hS hl hc hz
  have hi := hM.in (k := r) (Or.inl (by omega))
  rw [List.map_cons, List.map_cons, List.map_cons, qw_vr hi.1]
  refine va_last (ws := qw_ws X m) C.1 C.2.1 C.2.2.2.2.2.1 hP qw_D hS (qn_x r) 3 (by rw [qw_at hi, qw_cell_l hk]) rfl (qp_in hx) hd (fun H1 locs1 hP1 hD1 hS1 => ?_)
  rw [← qs_wj_up, qw_set (X := X) (m' := qs_wj m r x.toNatClampNeg y) (e := .inl (qx_c X 23, qs_sz m r, .inr (.inl (qs_l (qs_wj m r x.toNatClampNeg y) r)))) hi rfl (qw_cell_l hk) (fun z hz1 hz2 => qw_cell_cg rfl rfl rfl rfl (qs_wj_ne m _ hz2))] at hP1
  exact h.2 H1 locs1 cells slots ls hP1 (hM.wj _) hS1 hl hc hz
/-- the place of a row of references among the arrays' classes, and the class of its things -/
theorem qw_tyq {a : Nat} (h : a = 30 ∨ a = 34 ∨ a = 35 ∨ a = 36) : ∃ (t : Nat) (q : vw_C), (qw_tys X)[t]? = some (qx_c X a, .object q.1) ∧ vwCl[a - 30]? = some q ∧ ∀ {U : State} {H : Heap}, qw_E X U H → va_AO q.1 U := by
  rcases h with rfl | rfl | rfl | rfl
  · exact ⟨4, (RX0, TX0, 8), rfl, rfl, fun h => h.2.2.2.2.2.2.2.1⟩
  · exact ⟨5, (RX4, TX4, 3), rfl, rfl, fun h => h.2.2.2.2.2.2.2.2.1⟩
  · exact ⟨6, (RX5, TX5, 4), rfl, rfl, fun h => h.2.2.2.2.2.2.2.2.2.1⟩
  · exact ⟨7, (RX6, TX6, 4), rfl, rfl, fun h => h.2.2.2.2.2.2.2.2.2.2⟩
theorem qp_aald (C : qp_C p R s mid args meth c X E nL n0) {r : Nat} {x : Int32} (hk : 30 ≤ qs_kd m r ∧ qs_kd m r < 40) (hx : 0 ≤ x ∧ x.toNatClampNeg < qs_sz m r) (hlk : 18 ≤ qs_lk m r x.toNatClampNeg) (hd : decode (qe_b E) pc = .ok (.aaload, 1)) (h : qp_K p l e R s mid args below meth c Q X nL n0 z0 (pc + 1) L (.ref (qs_lk m r x.toNatClampNeg - 2) :: st) m) : qp_At p l e R s mid args below meth c Q X nL n0 z0 pc L (.int x :: .ref r :: st) m := by
  intro H locs cells slots ls hP hM hS hl hc hz
  have hi := hM.in (k := r) (Or.inr hk)
  obtain ⟨t, q, ht, -, -⟩ := qw_tyq (X := X) (hM.okk hk)
  have h1 := h.2 H locs cells slots ls hP hM hS hl hc hz
  rw [List.map_cons, qw_vr (by omega)] at h1
  rw [List.map_cons, List.map_cons, qw_vr hi.1]
  refine va_aldq (ws := qw_ws X m) C.1 C.2.1 C.2.2.2.2.2.1 hP (qn_x r) t (by rw [qw_at hi, qw_cell_q rfl hk.1]) ht (qp_in hx) hd ?_
  have e1 : va_rf (qw_rf X (qs_lk m r x.toNatClampNeg)) = .ref (qx_b X + qn_x (qs_lk m r x.toNatClampNeg - 2)) := by
    generalize hy : qs_lk m r x.toNatClampNeg = y at hlk
    obtain ⟨z, rfl⟩ : ∃ z, y = z + 2 := ⟨y - 2, by omega⟩
    show Value.ref (qw_ad X z) = _
    unfold qw_ad
    rw [if_neg (show ¬ z < 16 by omega), show z + 2 - 2 = z by omega]
  rw [e1]
  exact h1
theorem qp_aast (C : qp_C p R s mid args meth c X E nL n0) {r k : Nat} {x : Int32} (hk : qs_kd m k < 10 ∧ qs_kd m r = qs_kd m k + 30) (hx : 0 ≤ x ∧ x.toNatClampNeg < qs_sz m r) (hd : decode (qe_b E) pc = .ok (.aastore, 1)) (h : qp_K p l e R s mid args below meth c Q X nL n0 z0 (pc + 1) L st (qs_wl m r x.toNatClampNeg (k + 2))) : qp_At p l e R s mid args below meth c Q X nL n0 z0 pc L (.ref k :: .int x :: .ref r :: st) m := by
  intro H locs cells slots ls hP hM hS hl hc hz
  have hi := hM.in (k := r) (Or.inr (by omega))
  have hj := hM.in (k := k) (Or.inl (by omega))
  obtain ⟨t, q, ht, hq, -⟩ := qw_tyq (X := X) (hM.okk (k := r) (by omega))
  rw [show qs_kd m r - 30 = qs_kd m k by omega] at hq
  rw [List.map_cons, List.map_cons, List.map_cons, qw_vr hi.1, qw_vr hj.1]
  refine va_astq (ws := qw_ws X m) C.1 C.2.1 C.2.2.2.2.2.1 hP qw_D hS (qn_x r) t (qn_x k) (qs_kd m k) (by rw [qw_at hi, qw_cell_q rfl (by omega)]) ht (by rw [qw_at hj, qw_cell_o rfl hk.1]) hq (qp_in hx) hd (fun H1 locs1 hP1 hD1 hS1 => ?_)
  have e1 : va_up (fun j => qw_rf X (qs_lk m r j)) x.toNatClampNeg (some (qx_b X + qn_x k)) = fun j => qw_rf X (qs_lk (qs_wl m r x.toNatClampNeg (k + 2)) r j) := by
    funext j
    rw [qs_wl_l]
    by_cases hjx : j = x.toNatClampNeg
    · rw [if_pos ⟨rfl, hjx⟩]
      show va_up _ _ _ j = some (qw_ad X k)
      unfold qw_ad
      rw [if_neg (show ¬ k < 16 by omega)]
      simp [va_up, hjx]
    · rw [if_neg (fun z => hjx z.2)]
      simp [va_up, hjx]
  rw [e1, qw_set (X := X) (m' := qs_wl m r x.toNatClampNeg (k + 2)) (e := .inl (qx_c X (qs_kd m r), qs_sz m r, .inr (.inr (.inr (.inr (fun j => qw_rf X (qs_lk (qs_wl m r x.toNatClampNeg (k + 2)) r j))))))) hi rfl (qw_cell_q rfl (by show 30 ≤ qs_kd m r; omega)) (fun z hz1 hz2 => qw_cell_cg rfl rfl (qs_wl_ne m _ hz2) rfl rfl)] at hP1
  exact h.2 H1 locs1 cells slots ls hP1 (hM.wl _ hi.1) hS1 hl hc hz
end QPB
