/-! EVERY RUN, BY FUEL -/
set_option maxHeartbeats 4000000 in
theorem qs_stp_mono (rk pc : Nat) (L : qs_L) (st : List Value) (m : qs_M) (i : Instr) (a b c : Nat) (v : Int32) (sw : List (Int32 × Nat)) :
    qs_stp rk True (fun r => r.2 = m) (fun _ _ _ m1 _ _ _ => m1 = m) (fun _ _ _ m1 => qs_n m ≤ qs_n m1 ∧ qs_z m ≤ qs_z m1) pc L st m i a b c v sw := by
  have key : ∀ (x : Int32) (sw : List (Int32 × Nat)) (d : Nat), qs_sw x sw d (fun _ => qs_n m ≤ qs_n m ∧ qs_z m ≤ qs_z m) := by
    intro x sw d
    induction sw with
    | nil => exact ⟨Nat.le_refl _, Nat.le_refl _⟩
    | cons q sw ih =>
      obtain ⟨v, t⟩ := q
      unfold qs_sw
      split
      · exact ⟨Nat.le_refl _, Nat.le_refl _⟩
      · exact ih
  unfold qs_stp
  cases i <;> dsimp only <;> first
    | exact True.intro
    | exact ⟨Nat.le_refl _, Nat.le_refl _⟩
    | exact ⟨by rw [qs_nw_n]; omega, by rw [qs_nw_z]; omega⟩
    | ((repeat' split) <;> first | exact True.intro | exact ⟨Nat.le_refl _, Nat.le_refl _⟩ | rfl | exact key _ _ _ | exact ⟨by rw [qs_nw_n]; omega, by rw [qs_nw_z]; omega⟩)
    | (cases hq : Nat.blt a 1000 <;> cases hq1 : (a == 1001) <;> cases hq2 : (a == 1002) <;> cases hq3 : (a == 1003) <;> simp only [cond_true, cond_false] <;> (repeat' split) <;> first | exact True.intro | exact ⟨Nat.le_refl _, Nat.le_refl _⟩ | rfl)
    | (cases hq : (a == 1000) <;> simp only [cond_true, cond_false] <;> (repeat' split) <;> first | exact True.intro | exact ⟨Nat.le_refl _, Nat.le_refl _⟩ | rfl)
def qs_mono (m : qs_M) : qs_A → Prop
  | none => True
  | some (.inl r) => r.2 = m
  | some (.inr (.inl (_, _, _, m1))) => qs_n m ≤ qs_n m1 ∧ qs_z m ≤ qs_z m1
  | some (.inr (.inr (_, _, _, m1, _, _, _))) => m1 = m
theorem qs_act_mono (rk pc : Nat) (L : qs_L) (st : List Value) (m : qs_M) (i : Instr) (a b c : Nat) (v : Int32) (sw : List (Int32 × Nat)) : qs_mono m (qs_act rk pc L st m i a b c v sw) := by
  have h := qs_stp_mono rk pc L st m i a b c v sw
  have h2 := qs_stp_nat (qs_mono m) (rk := rk) (fl := none) (rt := fun r => some (.inl r)) (cl := fun e M as m pc L rest => some (.inr (.inr (e, M, as, m, pc, L, rest)))) (k := fun pc L st m => some (.inr (.inl (pc, L, st, m)))) (pc := pc) (L := L) (st := st) (m := m) (i := i) (a := a) (b := b) (c := c) (v := v) (sw := sw)
  unfold qs_act
  rw [h2]
  exact h
theorem qs_ev_mn : ∀ (n d M pc : Nat) (L : qs_L) (st : List Value) (m : qs_M) (r : qs_R), qs_ev n d M pc L st m = some r → qs_n m ≤ qs_n r.2 ∧ qs_z m ≤ qs_z r.2
  | 0, _, _, _, _, _, _, _, h => by cases h
  | n + 1, d, M, pc, L, st, m, r, h => by
    rw [qs_ev_succ] at h
    unfold qs_row at h
    split at h
    · rename_i i a b c v sw pl hq
      rw [qs_step_go] at h
      have hm := qs_act_mono (qm_rk M) pc L st m i a b c v sw
      generalize qs_act (qm_rk M) pc L st m i a b c v sw = A at h hm
      match A, h, hm with
      | none, h, _ => cases h
      | some (.inl r'), h, hm =>
        cases h
        have : r.2 = m := hm
        rw [this]
        exact ⟨Nat.le_refl _, Nat.le_refl _⟩
      | some (.inr (.inl (pc', L', st', m1))), h, hm =>
        have h1 := qs_ev_mn n d M pc' L' st' m1 r h
        exact ⟨Nat.le_trans hm.1 h1.1, Nat.le_trans hm.2 h1.2⟩
      | some (.inr (.inr (e, M', as, m1, pc', L', rest))), h, hm =>
        have hm1 : m1 = m := hm
        subst hm1
        have h : qs_con e (qs_cl n d M' as m1) (fun vs m => qs_ev n d M pc' L' (vs ++ rest) m) = some r := h
        obtain ⟨v2, m2, h1, h2, -⟩ := qs_con_some h
        have h3 := qs_ev_mn n d M pc' L' (v2.toList ++ rest) m2 r h2
        have h4 : qs_n m1 ≤ qs_n m2 ∧ qs_z m1 ≤ qs_z m2 := by
          unfold qs_cl at h1
          cases d with
          | zero => cases h1
          | succ d => exact qs_ev_mn n d M' 0 _ [] m1 (v2, m2) h1
        exact ⟨Nat.le_trans h4.1 h3.1, Nat.le_trans h4.2 h3.2⟩
    · cases h
