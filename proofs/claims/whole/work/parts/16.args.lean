/-! calls have right arguments -/
set_option maxHeartbeats 8000000 in
theorem qs_stp_args {E : qs_E} {pc : Nat} (rk : Nat) (L : qs_L) (st : List Value) (m : qs_M) {i : Instr} {a b c : Nat} {v : Int32} {sw : List (Int32 × Nat)} {pl : List Nat} (hr : qk_row E pc (i, a, b, c, v, sw, pl) = true) :
    qs_stp rk True (fun _ => True) (fun _ M as _ _ _ _ => ∀ F, qm_at M = some F → M < 224 → qs_Args F as) (fun _ _ _ _ => True) pc L st m i a b c v sw := by
  unfold qk_row at hr
  simp only [Bool.and_eq_true, decide_eq_true_eq] at hr
  obtain ⟨-, hi⟩ := hr
  have key : ∀ (x : Int32) (sw : List (Int32 × Nat)) (d : Nat), qs_sw x sw d (fun _ => True) := by
    intro x sw d
    induction sw with
    | nil => exact True.intro
    | cons q sw ih =>
      obtain ⟨v, t⟩ := q
      unfold qs_sw
      split
      · exact True.intro
      · exact ih
  unfold qs_stp
  unfold qk_ins at hi
  cases i with
  | invokestatic n =>
    dsimp only at hi ⊢
    cases e0 : Nat.blt a 1000 with
    | true =>
      have ha : a < 1000 := by simpa [Nat.blt_eq] using e0
      rw [show (a == 1001) = false by simp; omega, cond_false, show (a == 1002) = false by simp; omega, cond_false, show (a == 1003) = false by simp; omega, cond_false, show (a == 1004) = false by simp; omega, cond_false] at hi
      rw [cond_true]
      split
      · rename_i as rest hp
        split
        · rename_i hs
          intro F hF hM
          rw [hF] at hi
          simp only [Bool.and_eq_true, decide_eq_true_eq] at hi
          obtain ⟨⟨⟨⟨h1, h2⟩, h3⟩, h4⟩, h5⟩ := hi
          obtain ⟨lst, e1, e2, e3⟩ := qs_pop_eq _ _ _ _ _ hp
          rw [List.append_nil] at e1
          subst e1
          exact ⟨by rw [if_pos h1]; omega, qs_sum_one _ (by omega)⟩
        · exact True.intro
      · exact True.intro
    | false =>
      rw [cond_false]
      cases hq1 : (a == 1001) <;> cases hq2 : (a == 1002) <;> cases hq3 : (a == 1003) <;> simp only [cond_true, cond_false] <;> (repeat' split) <;> exact True.intro
  | invokevirtual n =>
    dsimp only at hi ⊢
    split
    · rename_i as r rest hp
      split
      · rename_i hs
        split
        · intro F hF hM
          rw [hF] at hi
          simp only [Bool.and_eq_true, decide_eq_true_eq] at hi
          obtain ⟨⟨⟨⟨⟨h1, h2⟩, h3⟩, h4⟩, h5⟩, h6⟩ := hi
          obtain ⟨lst, e1, e2, e3⟩ := qs_pop_eq _ _ _ _ _ hp
          rw [List.append_nil] at e1
          subst e1
          refine ⟨by rw [if_neg (by omega), List.length_cons]; omega, fun w hw => ?_⟩
          rcases List.mem_cons.mp hw with rfl | hw
          · rfl
          · exact qs_sum_one _ (by omega) w hw
        · exact True.intro
      · exact True.intro
    · exact True.intro
  | invokespecial n =>
    dsimp only at hi ⊢
    cases e0 : (a == 1000) with
    | true =>
      rw [cond_true]
      (repeat' split) <;> exact True.intro
    | false =>
      rw [e0, cond_false] at hi
      rw [cond_false]
      split
      · rename_i as r rest hp
        split
        · rename_i hs
          split
          · intro F hF hM
            rw [hF] at hi
            simp only [Bool.and_eq_true, decide_eq_true_eq] at hi
            obtain ⟨⟨⟨⟨h1, h2⟩, h3⟩, h4⟩, h5⟩ := hi
            obtain ⟨lst, e1, e2, e3⟩ := qs_pop_eq _ _ _ _ _ hp
            rw [List.append_nil] at e1
            subst e1
            refine ⟨by rw [if_neg (by omega), List.length_cons]; omega, fun w hw => ?_⟩
            rcases List.mem_cons.mp hw with rfl | hw
            · rfl
            · exact qs_sum_one _ (by omega) w hw
          · exact True.intro
        · exact True.intro
      · exact True.intro
  | _ => dsimp only <;> first
    | exact True.intro
    | ((repeat' split) <;> first | exact True.intro | exact key _ _ _)
def qs_args : qs_A → Prop
  | some (.inr (.inr (_, M, as, _, _, _, _))) => ∀ F, qm_at M = some F → M < 224 → qs_Args F as
  | _ => True
theorem qs_act_args {E : qs_E} {pc : Nat} (rk : Nat) (L : qs_L) (st : List Value) (m : qs_M) {i : Instr} {a b c : Nat} {v : Int32} {sw : List (Int32 × Nat)} {pl : List Nat} (hr : qk_row E pc (i, a, b, c, v, sw, pl) = true) : qs_args (qs_act rk pc L st m i a b c v sw) := by
  have h := qs_stp_args rk L st m hr
  have h2 := qs_stp_nat qs_args (rk := rk) (fl := none) (rt := fun r => some (.inl r)) (cl := fun e M as m pc L rest => some (.inr (.inr (e, M, as, m, pc, L, rest)))) (k := fun pc L st m => some (.inr (.inl (pc, L, st, m)))) (pc := pc) (L := L) (st := st) (m := m) (i := i) (a := a) (b := b) (c := c) (v := v) (sw := sw)
  unfold qs_act
  rw [h2]
  exact h
