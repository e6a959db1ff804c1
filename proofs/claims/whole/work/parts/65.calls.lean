/-! CALL BY CALL: joints, hours, thoughts -/
theorem fT_of {u v : Nat → Nat → Int32} (h : ∀ a, a ≠ 128 → a ≠ 129 → v a = u a) : fT u v := ⟨h 117 (by omega) (by omega), fun f _ _ => by rw [h 116 (by omega) (by omega)], fun a _ _ _ h4 h5 => h a h4 h5⟩
theorem fth_of {u v : Nat → Nat → Int32} (h : ∀ q, q ≠ 19 → v q = u q) : fth u v := fun q _ h2 => h q h2
theorem fthL_117 {u v : Nat → Nat → Int32} (h : fthL u v) : v 117 = u 117 := h 117 (by unfold inP; omega) (by omega) (by omega)
theorem fth_117 {u v : Nat → Nat → Int32} (h : fth u v) : v 117 = u 117 := h 117 (by unfold inP; omega) (by omega)
theorem sHr_of {R S : Nat → Int32} (h : sHr R) (e : S 2 = R 2) : sHr S := by
  unfold sHr
  rw [e]
  exact h
theorem upd_lo (R : Nat → Int32) {i k : Nat} (x : Int32) (h : k ≠ i) : upd R i x k = R k := by
  unfold upd
  rw [if_neg h]
theorem s_qu_at (R : Nat → Int32) (j : Nat) {i : Nat} (h : i < 12) (h0 : i ≠ 0) (h9 : i ≠ 9) : s_qu R j i = R i := by
  unfold s_qu
  (try dsimp only)
  split
  · rw [upd_lo _ _ (by omega)]
  · split
    · rw [upd_lo _ _ (by omega), upd_lo _ _ (by omega)]
    · rw [upd_lo _ _ (by omega), upd_lo _ _ (by omega), upd_lo _ _ (by omega), upd_lo _ _ (by omega)]
theorem s_qs_at (R : Nat → Int32) (j : Nat) {i : Nat} (h : i < 12) (h0 : i ≠ 0) (h9 : i ≠ 9) : ∀ n, s_qs R j n i = R i
  | 0 => rfl
  | n + 1 => by
    show s_qu (s_qs R j n) j i = R i
    rw [s_qu_at _ _ h h0 h9, s_qs_at R j h h0 h9 n]
theorem s_jnew_at (R : Nat → Int32) (j : Nat) (k t r h x : Int32) {i : Nat} (hi : i < 12) (h1 : i ≠ 1) : s_jnew (upd R 1 x) j k t r h i = R i := by
  rw [s_jnew_lo _ _ _ _ _ _ hi, upd_lo _ _ h1]
theorem s_dl_at (R : Nat → Int32) (M : Nat) {i : Nat} (h : i < 12) (h0 : i ≠ 0) (h1 : i ≠ 1) : ∀ n, s_dl R M n i = R i
  | 0 => rfl
  | n + 1 => by
    show s_d1 (s_dl R M n) (M + n) i = R i
    unfold s_d1
    (try dsimp only)
    rw [s_jnew_at _ _ _ _ _ _ _ h h1, upd_lo _ _ h0, s_dl_at R M h h0 h1 n]
theorem s_sh_at (R : Nat → Int32) {i : Nat} (h : i = 2 ∨ i = 11) : s_sh R i = R i := by
  unfold s_sh
  split
  · rw [upd_lo _ _ (by omega)]
  · split
    · rw [upd_lo _ _ (by omega)]
    · unfold s_shj
      rw [upd_lo _ _ (by omega), upd_lo _ _ (by omega), upd_lo _ _ (by omega), upd_lo _ _ (by omega), upd_lo _ _ (by omega)]
theorem s_hour_11 (R : Nat → Int32) : s_hour R 11 = R 11 := by
  unfold s_hour
  rw [s_95_at _ _ (by omega), s_sh_at _ (Or.inr rfl), s_drs_at _ _ (by omega)]
theorem s_go_11 (R : Nat → Int32) : ∀ n, s_go R n 11 = R 11
  | 0 => rfl
  | n + 1 => by
    show s_hour (s_go R n) 11 = R 11
    rw [s_hour_11, s_go_11 R n]
theorem s_hour_2 (R : Nat → Int32) : s_hour R 2 = R 2 + 1 := by
  unfold s_hour
  have h : ∀ S : Nat → Int32, s_95 S 2 = S 2 + 1 := fun S => by
    unfold s_95
    split <;> simp [upd]
  rw [h, s_sh_at _ (Or.inl rfl), s_drs_at _ _ (by omega)]
theorem s_go_2 {R : Nat → Int32} {H : Nat} (h : R 2 = nI H) : ∀ n, s_go R n 2 = nI (H + n)
  | 0 => h
  | n + 1 => by
    show s_hour (s_go R n) 2 = nI (H + n + 1)
    rw [s_hour_2, s_go_2 h n, nI_succ]
theorem s_keep_joint (R : Nat → Int32) (M : Nat) (k t r h : Int32) {i : Nat} (hi : i = 2 ∨ i = 11) : (s_joint R M k t r h).2 i = R i := by
  unfold s_joint
  (repeat' split) <;> first | rfl | exact s_jnew_at _ _ _ _ _ _ _ (by omega) (by omega)
theorem s_keep_turns (R : Nat → Int32) (M : Nat) (x k : Int32) {i : Nat} (hi : i = 2 ∨ i = 11) : (s_turns R M x k).2 i = R i := by
  unfold s_turns
  (repeat' split) <;> first | rfl | exact upd_lo _ _ (by omega)
theorem s_keep_set (R : Nat → Int32) (M : Nat) (x c v : Int32) {i : Nat} (hi : i = 2 ∨ i = 11) : (s_set R M x c v).2 i = R i := by
  unfold s_set
  (repeat' split) <;> first | rfl | exact upd_lo _ _ (by omega)
theorem s_keep_turn (R : Nat → Int32) (M : Nat) (x n : Int32) {i : Nat} (hi : i = 2 ∨ i = 11) : (s_turn R M x n).2 i = R i := by
  unfold s_turn
  (repeat' split) <;> first | rfl | exact upd_lo _ _ (by omega) | exact s_qs_at _ _ (by omega) (by omega) (by omega) _
theorem s_keep_rule (R : Nat → Int32) (x v : Int32) {i : Nat} (hi : i = 2 ∨ i = 11) : (s_rule R x v).2 i = R i := by
  unfold s_rule
  (repeat' split) <;> first | rfl | exact upd_lo _ _ (by omega)
theorem s_keep_deal (R : Nat → Int32) (M : Nat) (n : Int32) {i : Nat} (hi : i = 2 ∨ i = 11) : (s_deal R M n).2 i = R i := by
  unfold s_deal
  (repeat' split) <;> first | rfl | exact s_dl_at _ _ (by omega) (by omega) (by omega) _
theorem s_keep_hours (R : Nat → Int32) (x : Int32) (h : sHr R) : sHr (s_hours R x).2 ∧ (s_hours R x).2 11 = R 11 := by
  obtain ⟨H, h1, h2⟩ := h
  unfold s_hours
  by_cases g1 : s_in x 1 100 = false
  · rw [if_pos g1]
    exact ⟨⟨H, h1, h2⟩, rfl⟩
  · rw [if_neg g1]
    obtain ⟨k, hk, rfl⟩ := s_in_n (x := x) (a := 1) (b := 100) (n := 100) (by simpa using g1) (by decide) rfl (by omega)
    have e2 : s_hn R (nI k) = min k (9999 - H) := by
      unfold s_hn
      rw [s_hn_eq h2 h1 (by omega)]
      exact nI_clamp (by omega)
    rw [e2]
    exact ⟨⟨H + min k (9999 - H), by omega, s_go_2 h2 _⟩, s_go_11 _ _⟩
theorem k_told (x c : Int32) : sOK 54 125 [.int x, .int c] := by
  intro d u w h
  obtain ⟨M, hC, hH⟩ := h.1
  obtain ⟨hM, -, hr1⟩ := sC_M hC
  obtain ⟨u1, a1, a2⟩ := d_54 (d := d + 116) (w := w) (x := x) (c := c) hC
  have hf : fth u u1 := fth_of a2
  have e7 : u1 117 = u 117 := fth_117 hf
  obtain ⟨u2, b1, b2⟩ := mq_125 (d := d + 115) (u := u1) (w := w) (x := x) (c := c) hM (by rw [e7]; exact hr1) (by rw [e7]; exact hC.2.2.1.2.2.2.2.1)
  rw [e7] at b1
  exact ⟨_, u1, u2, w, a1, b1, inv_th h hf (fT_of b2)⟩
theorem k_as (x k : Int32) : sOK 55 127 [.int x, .int k] := by
  intro d u w h
  obtain ⟨M, hC, hH⟩ := h.1
  obtain ⟨hM, -, hr1⟩ := sC_M hC
  have a1 := d_55 (d := d + 116) (w := w) (x := x) (k := k) hC
  have hf : fth u u := fth_r u
  have e7 : u 117 = u 117 := fth_117 hf
  have b1 := mq_127 (d := d + 117) (u := u) (w := w) (x := x) (k := k) hM (by rw [e7]; exact hr1)
  rw [e7] at b1
  exact ⟨_, u, u, w, a1, b1, inv_th h hf (fT_r _)⟩
theorem k_sink (x : Int32) : sOK 64 145 [.int x] := by
  intro d u w h
  obtain ⟨M, hC, hH⟩ := h.1
  obtain ⟨hM, -, hr1⟩ := sC_M hC
  obtain ⟨u1, a1, a2⟩ := d_64 (d := d + 115) (w := w) (x := x) hC
  have hf : fth u u1 := fth_of a2
  have e7 : u1 117 = u 117 := fth_117 hf
  obtain ⟨u2, b1, b2⟩ := mq_145 (d := d + 113) (u := u1) (w := w) (x := x) hM (by rw [e7]; exact hr1) (by rw [e7]; exact hC.2.2.1.2.2.2.2.1)
  rw [e7] at b1
  exact ⟨_, u1, u2, w, a1, b1, inv_th h hf (fT_of b2)⟩
theorem k_seen (x : Int32) : sOK 65 146 [.int x] := by
  intro d u w h
  obtain ⟨M, hC, hH⟩ := h.1
  obtain ⟨hM, -, hr1⟩ := sC_M hC
  obtain ⟨u1, a1, a2⟩ := d_65 (d := d + 116) (w := w) (x := x) hC
  have hf : fth u u1 := fth_of a2
  have e7 : u1 117 = u 117 := fth_117 hf
  obtain ⟨u2, b1, b2⟩ := mq_146 (d := d + 114) (u := u1) (w := w) (x := x) hM (by rw [e7]; exact hr1) (by rw [e7]; exact hC.2.2.1.2.2.2.2.1)
  rw [e7] at b1
  exact ⟨_, u1, u2, w, a1, b1, inv_th h hf (fT_of b2)⟩
theorem k_from (x : Int32) : sOK 66 147 [.int x] := by
  intro d u w h
  obtain ⟨M, hC, hH⟩ := h.1
  obtain ⟨hM, -, hr1⟩ := sC_M hC
  have a1 := d_66 (d := d + 116) (w := w) (x := x) hC
  have hf : fth u u := fth_r u
  have e7 : u 117 = u 117 := fth_117 hf
  have b1 := mq_147 (d := d + 114) (u := u) (w := w) (x := x) hM (by rw [e7]; exact hr1)
  rw [e7] at b1
  exact ⟨_, u, u, w, a1, b1, inv_th h hf (fT_r _)⟩
theorem k_quarter (x c : Int32) : sOK 67 152 [.int x, .int c] := by
  intro d u w h
  obtain ⟨M, hC, hH⟩ := h.1
  obtain ⟨hM, -, hr1⟩ := sC_M hC
  obtain ⟨u1, a1, a2⟩ := d_67 (d := d + 114) (w := w) (x := x) (c := c) hC
  have hf : fthL u u1 := a2
  have e7 : u1 117 = u 117 := fthL_117 hf
  obtain ⟨u2, b1, b2⟩ := mq_152 (d := d + 112) (u := u1) (w := w) (x := x) (c := c) hM (by rw [e7]; exact hr1) (by rw [e7]; exact hC.2.2.1.2.2.2.2.1)
  rw [e7] at b1
  exact ⟨_, u1, u2, w, a1, b1, inv_thL h hf b2⟩
theorem k_behind (n c : Int32) : sOK 68 153 [.int n, .int c] := by
  intro d u w h
  obtain ⟨M, hC, hH⟩ := h.1
  obtain ⟨hM, -, hr1⟩ := sC_M hC
  obtain ⟨u1, a1, a2⟩ := d_68 (d := d + 112) (w := w) (n := n) (c := c) hC
  have hf : fth u u1 := a2
  have e7 : u1 117 = u 117 := fth_117 hf
  obtain ⟨u2, b1, b2⟩ := mq_153 (d := d + 112) (u := u1) (w := w) (n := n) (c := c) hM (by rw [e7]; exact hr1) (by rw [e7]; exact hC.2.2.1.2.2.2.2.1)
  rw [e7] at b1
  exact ⟨_, u1, u2, w, a1, b1, inv_th h hf b2⟩
theorem k_full : sOK 69 154 [] := by
  intro d u w h
  obtain ⟨M, hC, hH⟩ := h.1
  obtain ⟨hM, -, hr1⟩ := sC_M hC
  obtain ⟨u1, a1, a2⟩ := d_69 (d := d + 113) (w := w)  hC
  have hf : fth u u1 := a2
  have e7 : u1 117 = u 117 := fth_117 hf
  obtain ⟨u2, b1, b2⟩ := mq_154 (d := d + 113) (u := u1) (w := w)  hM (by rw [e7]; exact hr1) (by rw [e7]; exact hC.2.2.1.2.2.2.2.1)
  rw [e7] at b1
  exact ⟨_, u1, u2, w, a1, b1, inv_th h hf b2⟩
theorem k_shut (x : Int32) : sOK 70 155 [.int x] := by
  intro d u w h
  obtain ⟨M, hC, hH⟩ := h.1
  obtain ⟨hM, -, hr1⟩ := sC_M hC
  obtain ⟨u1, a1, a2⟩ := d_70 (d := d + 113) (w := w) (x := x) hC
  have hf : fth u u1 := a2
  have e7 : u1 117 = u 117 := fth_117 hf
  obtain ⟨u2, b1, b2⟩ := mq_155 (d := d + 113) (u := u1) (w := w) (x := x) hM (by rw [e7]; exact hr1) (by rw [e7]; exact hC.2.2.1.2.2.2.2.1)
  rw [e7] at b1
  exact ⟨_, u1, u2, w, a1, b1, inv_th h hf b2⟩
theorem k_mend (x n c : Int32) : sOK 71 158 [.int x, .int n, .int c] := by
  intro d u w h
  obtain ⟨M, hC, hH⟩ := h.1
  obtain ⟨hM, -, hr1⟩ := sC_M hC
  obtain ⟨u1, a1, a2⟩ := d_71 (d := d + 112) (w := w) (x := x) (n := n) (c := c) hC
  have hf : fthL u u1 := a2
  have e7 : u1 117 = u 117 := fthL_117 hf
  obtain ⟨u2, b1, b2⟩ := mq_158 (d := d + 111) (u := u1) (w := w) (x := x) (n := n) (c := c) hM (by rw [e7]; exact hr1) (by rw [e7]; exact hC.2.2.1.2.2.2.2.1)
  rw [e7] at b1
  exact ⟨_, u1, u2, w, a1, b1, inv_thL h hf b2⟩
theorem k_first (n c : Int32) : sOK 72 159 [.int n, .int c] := by
  intro d u w h
  obtain ⟨M, hC, hH⟩ := h.1
  obtain ⟨hM, -, hr1⟩ := sC_M hC
  obtain ⟨u1, a1, a2⟩ := d_72 (d := d + 112) (w := w) (n := n) (c := c) hC
  have hf : fthL u u1 := a2
  have e7 : u1 117 = u 117 := fthL_117 hf
  obtain ⟨u2, b1, b2⟩ := mq_159 (d := d + 111) (u := u1) (w := w) (n := n) (c := c) hM (by rw [e7]; exact hr1) (by rw [e7]; exact hC.2.2.1.2.2.2.2.1)
  rw [e7] at b1
  exact ⟨_, u1, u2, w, a1, b1, inv_thL h hf b2⟩
theorem k_becomes (x n c : Int32) : sOK 73 160 [.int x, .int n, .int c] := by
  intro d u w h
  obtain ⟨M, hC, hH⟩ := h.1
  obtain ⟨hM, -, hr1⟩ := sC_M hC
  obtain ⟨u1, a1, a2⟩ := d_73 (d := d + 112) (w := w) (x := x) (n := n) (c := c) hC
  have hf : fthL u u1 := a2
  have e7 : u1 117 = u 117 := fthL_117 hf
  obtain ⟨u2, b1, b2⟩ := mq_160 (d := d + 111) (u := u1) (w := w) (x := x) (n := n) (c := c) hM (by rw [e7]; exact hr1) (by rw [e7]; exact hC.2.2.1.2.2.2.2.1)
  rw [e7] at b1
  exact ⟨_, u1, u2, w, a1, b1, inv_thL h hf b2⟩
theorem k_loose (n c : Int32) : sOK 74 161 [.int n, .int c] := by
  intro d u w h
  obtain ⟨M, hC, hH⟩ := h.1
  obtain ⟨hM, -, hr1⟩ := sC_M hC
  obtain ⟨u1, a1, a2⟩ := d_74 (d := d + 112) (w := w) (n := n) (c := c) hC
  have hf : fthL u u1 := a2
  have e7 : u1 117 = u 117 := fthL_117 hf
  obtain ⟨u2, b1, b2⟩ := mq_161 (d := d + 111) (u := u1) (w := w) (n := n) (c := c) hM (by rw [e7]; exact hr1) (by rw [e7]; exact hC.2.2.1.2.2.2.2.1)
  rw [e7] at b1
  exact ⟨_, u1, u2, w, a1, b1, inv_thL h hf b2⟩
theorem k_fee : sOK 76 163 [] := by
  intro d u w h
  obtain ⟨M, hC, hH⟩ := h.1
  obtain ⟨hM, -, hr1⟩ := sC_M hC
  obtain ⟨u1, a1, a2⟩ := d_76 (d := d + 117) (w := w)  hC
  have hf : fth u u1 := fth_of a2
  have e7 : u1 117 = u 117 := fth_117 hf
  obtain ⟨u2, b1, b2⟩ := mq_163 (d := d + 117) (u := u1) (w := w)  (by rw [e7]; exact hC.2.2.1.2.2.2.2.1) (by rw [e7]; exact hC.2.2.1.2.2.2.2.2)
  rw [e7] at b1
  exact ⟨_, u1, u2, w, a1, b1, inv_th h hf (fT_of b2)⟩
theorem k_fine (x : Int32) : sOK 77 164 [.int x] := by
  intro d u w h
  obtain ⟨M, hC, hH⟩ := h.1
  obtain ⟨hM, -, hr1⟩ := sC_M hC
  obtain ⟨u1, a1, a2⟩ := d_77 (d := d + 117) (w := w) (x := x) hC
  have hf : fth u u1 := fth_of a2
  have e7 : u1 117 = u 117 := fth_117 hf
  obtain ⟨u2, b1, b2⟩ := mq_164 (d := d + 117) (u := u1) (w := w) (x := x) hM (by rw [e7]; exact hr1) (by rw [e7]; exact hC.2.2.1.2.2.2.2.1) (by rw [e7]; exact hC.2.2.1.2.2.2.2.2)
  rw [e7] at b1
  exact ⟨_, u1, u2, w, a1, b1, inv_th h hf (fT_of b2)⟩
theorem k_joint (k t r e : Int32) : sOK 53 117 [.int k, .int t, .int r, .int e] := by
  intro d u w h
  obtain ⟨M, hC, hH⟩ := h.1
  obtain ⟨hM, -, hr1⟩ := sC_M hC
  obtain ⟨u1, M2, a1, a2, a3⟩ := d_53 (d := d + 117) (w := w) (k := k) (t := t) (r := r) (h := e) hC
  have e7 : u1 117 = u 117 := a3 117 (by unfold inP; omega)
  obtain ⟨u2, b1, b2, b3⟩ := mq_117 (d := d + 117) (u := u1) (w := w) (k := k) (t := t) (r := r) (h := e) hM (by rw [e7]; exact hr1)
  rw [e7] at b1 b2
  exact ⟨_, u1, u2, w, a1, b1, inv_now h (fun q h1 _ => a3 q h1) a2 (sHr_of hH (s_keep_joint _ _ _ _ _ _ (Or.inl rfl))) (s_keep_joint _ _ _ _ _ _ (Or.inr rfl)) b2 (fun a h1 _ _ => b3 a h1)⟩
theorem k_turns (x k : Int32) : sOK 56 128 [.int x, .int k] := by
  intro d u w h
  obtain ⟨M, hC, hH⟩ := h.1
  obtain ⟨hM, -, hr1⟩ := sC_M hC
  obtain ⟨u1, a1, a2, a3⟩ := d_56 (d := d + 117) (w := w) (x := x) (k := k) hC
  have e7 : u1 117 = u 117 := a3 117 (by unfold inP; omega)
  obtain ⟨u2, b1, b2, b3⟩ := mq_128 (d := d + 117) (u := u1) (w := w) (x := x) (k := k) hM (by rw [e7]; exact hr1)
  rw [e7] at b1 b2
  exact ⟨_, u1, u2, w, a1, b1, inv_now h (fun q h1 _ => a3 q h1) a2 (sHr_of hH (s_keep_turns _ _ _ _ (Or.inl rfl))) (s_keep_turns _ _ _ _ (Or.inr rfl)) b2 (fun a h1 _ _ => b3 a h1)⟩
theorem k_set (x c v : Int32) : sOK 57 129 [.int x, .int c, .int v] := by
  intro d u w h
  obtain ⟨M, hC, hH⟩ := h.1
  obtain ⟨hM, -, hr1⟩ := sC_M hC
  obtain ⟨u1, a1, a2, a3⟩ := d_57 (d := d + 117) (w := w) (x := x) (c := c) (v := v) hC
  have e7 : u1 117 = u 117 := a3 117 (by unfold inP; omega)
  obtain ⟨u2, b1, b2, b3⟩ := mq_129 (d := d + 117) (u := u1) (w := w) (x := x) (c := c) (v := v) hM (by rw [e7]; exact hr1)
  rw [e7] at b1 b2
  exact ⟨_, u1, u2, w, a1, b1, inv_now h (fun q h1 _ => a3 q h1) a2 (sHr_of hH (s_keep_set _ _ _ _ _ (Or.inl rfl))) (s_keep_set _ _ _ _ _ (Or.inr rfl)) b2 (fun a h1 _ _ => b3 a h1)⟩
theorem k_turn (x n : Int32) : sOK 58 133 [.int x, .int n] := by
  intro d u w h
  obtain ⟨M, hC, hH⟩ := h.1
  obtain ⟨hM, -, hr1⟩ := sC_M hC
  obtain ⟨u1, a1, a2, a3⟩ := d_58 (d := d + 115) (w := w) (x := x) (n := n) hC
  have e7 : u1 117 = u 117 := a3 117 (by unfold inP; omega)
  obtain ⟨u2, b1, b2, b3⟩ := mq_133 (d := d + 116) (u := u1) (w := w) (x := x) (n := n) hM (by rw [e7]; exact hr1)
  rw [e7] at b1 b2
  exact ⟨_, u1, u2, w, a1, b1, inv_now h (fun q h1 _ => a3 q h1) a2 (sHr_of hH (s_keep_turn _ _ _ _ (Or.inl rfl))) (s_keep_turn _ _ _ _ (Or.inr rfl)) b2 (fun a h1 _ _ => b3 a h1)⟩
theorem k_rule (x v : Int32) : sOK 59 134 [.int x, .int v] := by
  intro d u w h
  obtain ⟨M, hC, hH⟩ := h.1
  obtain ⟨hM, -, hr1⟩ := sC_M hC
  obtain ⟨u1, a1, a2, a3⟩ := d_59 (d := d + 118) (w := w) (x := x) (v := v) hC
  have e7 : u1 117 = u 117 := a3 117 (by unfold inP; omega)
  obtain ⟨u2, b1, b2, b3⟩ := mq_134 (d := d + 118) (u := u1) (w := w) (x := x) (v := v) 
  rw [e7] at b1 b2
  exact ⟨_, u1, u2, w, a1, b1, inv_now h (fun q h1 _ => a3 q h1) a2 (sHr_of hH (s_keep_rule _ _ _ (Or.inl rfl))) (s_keep_rule _ _ _ (Or.inr rfl)) b2 (fun a h1 _ _ => b3 a h1)⟩
theorem k_deal (n : Int32) : sOK 61 136 [.int n] := by
  intro d u w h
  obtain ⟨M, hC, hH⟩ := h.1
  obtain ⟨hM, -, hr1⟩ := sC_M hC
  obtain ⟨u1, M2, a1, a2, a3⟩ := d_61 (d := d + 117) (w := w) (n := n) hC
  have e7 : u1 117 = u 117 := a3 117 (by unfold inP; omega)
  obtain ⟨u2, b1, b2, b3⟩ := mq_136 (d := d + 117) (u := u1) (w := w) (n := n) hM (by rw [e7]; exact hr1)
  rw [e7] at b1 b2
  exact ⟨_, u1, u2, w, a1, b1, inv_now h (fun q h1 _ => a3 q h1) a2 (sHr_of hH (s_keep_deal _ _ _ (Or.inl rfl))) (s_keep_deal _ _ _ (Or.inr rfl)) b2 (fun a h1 _ _ => b3 a h1)⟩
theorem k_hours (x : Int32) : sOK 63 141 [.int x] := by
  intro d u w h
  obtain ⟨M, hC, hH⟩ := h.1
  obtain ⟨hM, -, hr1⟩ := sC_M hC
  obtain ⟨u1, a1, a2, a3⟩ := d_63 (d := d + 112) (w := w) (x := x) hC hH
  have e7 : u1 117 = u 117 := a3 117 (by unfold inP; omega) (by omega)
  obtain ⟨H, H1, H2⟩ := hH
  obtain ⟨u2, b1, b2, b3⟩ := mq_141 (d := d + 112) (u := u1) (w := w) (x := x) hM (by rw [e7]; exact hr1) (by rw [e7]; exact H2) H1 (by rw [e7]; exact hC.2.2.1.2.2.2.2.1)
  rw [e7] at b1 b2
  exact ⟨_, u1, u2, w, a1, b1, inv_now h (a3) a2 (s_keep_hours _ _ ⟨H, H1, H2⟩).1 (s_keep_hours _ _ ⟨H, H1, H2⟩).2 b2 b3⟩
theorem k_empty : sOK 60 135 [] := by
  intro d u w h
  obtain ⟨M, hC, hH⟩ := h.1
  obtain ⟨u1, a1, a2, a3⟩ := d_60 (d := d + 119) (w := w) hC
  have e7 : u1 117 = u 117 := a3 117 (by unfold inP; omega)
  have b1 := mq_135 (d := d + 118) (u := u1) (w := w)
  rw [e7] at b1
  exact ⟨_, u1, _, w, a1, b1, inv_now h (fun q h1 _ => a3 q h1) a2 (sHr_of hH (upd_lo _ _ (by omega))) (upd_lo _ _ (by omega)) (by rw [qu_same, e7]) (fun a h1 _ _ => qu_ne _ _ _ h1)⟩
theorem k_seed (x : Int32) : sOK 62 137 [.int x] := by
  intro d u w h
  obtain ⟨M, hC, hH⟩ := h.1
  obtain ⟨u1, a1, a2, a3⟩ := d_62 (d := d + 119) (w := w) (x := x) hC
  have e7 : u1 117 = u 117 := a3 117 (by unfold inP; omega)
  have b1 := mq_137 (d := d + 118) (u := u1) (w := w) (v := x)
  rw [e7] at b1
  exact ⟨_, u1, _, w, a1, b1, inv_now h (fun q h1 _ => a3 q h1) a2 (sHr_of hH (upd_lo _ _ (by omega))) (upd_lo _ _ (by omega)) (by rw [qu_same, e7]) (fun a h1 _ _ => qu_ne _ _ _ h1)⟩
