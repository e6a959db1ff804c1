/-! THE SMALL MACHINE RUNS: by fuel, then for as long as it takes -/
def qm_cd (M : Nat) : List (List (Option qs_Row)) := match qm_at M with
  | some E => qe_cd E
  | none => []
def qm_rk (M : Nat) : Nat := match qm_at M with
  | some E => qe_rk E
  | none => 9
def qm_ml (M : Nat) : Nat := match qm_at M with
  | some E => qe_ml E
  | none => 0
def qs_row (rk : Nat) (call : Nat → List Value → qs_M → Option qs_R) (r : Option qs_Row) (pc : Nat) (L : qs_L) (st : List Value) (m : qs_M) (k : Nat → qs_L → List Value → qs_M → Option qs_R) : Option qs_R := match r with
  | some (i, a, b, c, v, sw, _) => qs_step rk call pc L st m i a b c v sw k
  | none => none
def qs_ev : Nat → Nat → Nat → Nat → qs_L → List Value → qs_M → Option qs_R
  | 0, _, _, _, _, _, _ => none
  | n + 1, d, M, pc, L, st, m => qs_row (qm_rk M) (fun M' as m' => match d with
    | 0 => none
    | d' + 1 => qs_ev n d' M' 0 (qs_init (qm_ml M') as) [] m') (qs_fetch (qm_cd M) pc) pc L st m (fun pc' L' st' m' => qs_ev n d M pc' L' st' m')
/-- less is said on the left -/
def qs_le (x y : Option qs_R) : Prop := ∀ r, x = some r → y = some r
theorem qs_le_rfl (x : Option qs_R) : qs_le x x := fun _ h => h
theorem qs_bI_le {x y : Option qs_R} {f g : Int32 → qs_M → Option qs_R} (h : qs_le x y) (hf : ∀ r m, qs_le (f r m) (g r m)) : qs_le (qs_bI x f) (qs_bI y g) := by
  intro r hr
  unfold qs_bI at hr ⊢
  cases x with
  | none => cases hr
  | some p =>
    rw [h p rfl]
    obtain ⟨v, m⟩ := p
    cases v with
    | none => cases hr
    | some v => cases v <;> first | exact hf _ _ _ hr | cases hr
theorem qs_bV_le {x y : Option qs_R} {f g : qs_M → Option qs_R} (h : qs_le x y) (hf : ∀ m, qs_le (f m) (g m)) : qs_le (qs_bV x f) (qs_bV y g) := by
  intro r hr
  unfold qs_bV at hr ⊢
  cases x with
  | none => cases hr
  | some p =>
    rw [h p rfl]
    obtain ⟨v, m⟩ := p
    cases v with
    | none => exact hf _ _ hr
    | some v => cases hr
theorem qs_con_le {rk : Nat} {x y : Option qs_R} {f g : List Value → qs_M → Option qs_R} (h : qs_le x y) (hf : ∀ r m, qs_le (f r m) (g r m)) : qs_le (qs_con rk x f) (qs_con rk y g) := by
  unfold qs_con
  split
  · exact qs_bV_le h (fun m => hf _ m)
  · exact qs_bI_le h (fun r m => hf _ m)
theorem qs_sw_nat {ρ ρ' : Type} (f : ρ → ρ') (x : Int32) (d : Nat) (k : Nat → ρ) : ∀ sw : List (Int32 × Nat), f (qs_sw x sw d k) = qs_sw x sw d (fun t => f (k t))
  | [] => rfl
  | (v, t) :: sw => by
    unfold qs_sw
    by_cases e : x = v
    · rw [if_pos e, if_pos e]
    · rw [if_neg e, if_neg e]; exact qs_sw_nat f x d k sw
set_option maxHeartbeats 4000000 in
theorem qs_stp_nat {ρ ρ' : Type} (f : ρ → ρ') {rk : Nat} {fl : ρ} {rt : qs_R → ρ} {cl : Nat → Nat → List Value → qs_M → Nat → qs_L → List Value → ρ} {k : Nat → qs_L → List Value → qs_M → ρ} {pc : Nat} {L : qs_L} {st : List Value} {m : qs_M} {i : Instr} {a b c : Nat} {v : Int32} {sw : List (Int32 × Nat)} :
    f (qs_stp rk fl rt cl k pc L st m i a b c v sw) = qs_stp rk (f fl) (fun r => f (rt r)) (fun e M as m pc L rest => f (cl e M as m pc L rest)) (fun pc L st m => f (k pc L st m)) pc L st m i a b c v sw := by
  have key : f (match st with | .int x :: st => qs_sw x sw a (fun t => k t L st m) | _ => fl) = (match st with | .int x :: st => qs_sw x sw a (fun t => f (k t L st m)) | _ => f fl) := by
    cases st with
    | nil => rfl
    | cons q st =>
      cases q with
      | int x => exact qs_sw_nat f x a (fun t => k t L st m) sw
      | _ => rfl
  unfold qs_stp
  cases i <;> first
    | rfl
    | exact key
    | (split <;> first | rfl | (repeat' split) <;> rfl)
    | (cases hq : Nat.blt a 1000 <;> cases hq1 : (a == 1001) <;> cases hq2 : (a == 1002) <;> cases hq3 : (a == 1003) <;> simp only [cond_true, cond_false] <;> (repeat' split) <;> rfl)
    | (cases hq : (a == 1000) <;> simp only [cond_true, cond_false] <;> (repeat' split) <;> rfl)
/-- what a step asks for -/
abbrev qs_A : Type := Option (qs_R ⊕ (Nat × qs_L × List Value × qs_M) ⊕ (Nat × Nat × List Value × qs_M × Nat × qs_L × List Value))
def qs_act (rk : Nat) (pc : Nat) (L : qs_L) (st : List Value) (m : qs_M) (i : Instr) (a b c : Nat) (v : Int32) (sw : List (Int32 × Nat)) : qs_A :=
  qs_stp rk none (fun r => some (.inl r)) (fun e M as m pc L rest => some (.inr (.inr (e, M, as, m, pc, L, rest)))) (fun pc L st m => some (.inr (.inl (pc, L, st, m)))) pc L st m i a b c v sw
def qs_go (call : Nat → List Value → qs_M → Option qs_R) (k : Nat → qs_L → List Value → qs_M → Option qs_R) : qs_A → Option qs_R
  | none => none
  | some (.inl r) => some r
  | some (.inr (.inl (pc, L, st, m))) => k pc L st m
  | some (.inr (.inr (e, M, as, m, pc, L, rest))) => qs_con e (call M as m) (fun vs m => k pc L (vs ++ rest) m)
theorem qs_step_go (rk : Nat) (call : Nat → List Value → qs_M → Option qs_R) (pc : Nat) (L : qs_L) (st : List Value) (m : qs_M) (i : Instr) (a b c : Nat) (v : Int32) (sw : List (Int32 × Nat)) (k : Nat → qs_L → List Value → qs_M → Option qs_R) : qs_step rk call pc L st m i a b c v sw k = qs_go call k (qs_act rk pc L st m i a b c v sw) := by
  unfold qs_act qs_step
  have h := qs_stp_nat (qs_go call k) (rk := rk) (fl := none) (rt := fun r => some (.inl r)) (cl := fun e M as m pc L rest => some (.inr (.inr (e, M, as, m, pc, L, rest)))) (k := fun pc L st m => some (.inr (.inl (pc, L, st, m)))) (pc := pc) (L := L) (st := st) (m := m) (i := i) (a := a) (b := b) (c := c) (v := v) (sw := sw)
  exact h.symm
theorem qs_go_le {c1 c2 : Nat → List Value → qs_M → Option qs_R} {k1 k2 : Nat → qs_L → List Value → qs_M → Option qs_R} (hc : ∀ M as m, qs_le (c1 M as m) (c2 M as m)) (hk : ∀ pc L st m, qs_le (k1 pc L st m) (k2 pc L st m)) (A : qs_A) : qs_le (qs_go c1 k1 A) (qs_go c2 k2 A) := by
  unfold qs_go
  split
  · exact qs_le_rfl _
  · exact qs_le_rfl _
  · exact hk _ _ _ _
  · exact qs_con_le (hc _ _ _) (fun vs m => hk _ _ _ _)
theorem qs_step_le {rk : Nat} {c1 c2 : Nat → List Value → qs_M → Option qs_R} {k1 k2 : Nat → qs_L → List Value → qs_M → Option qs_R} (hc : ∀ M as m, qs_le (c1 M as m) (c2 M as m)) (hk : ∀ pc L st m, qs_le (k1 pc L st m) (k2 pc L st m)) {pc : Nat} {L : qs_L} {st : List Value} {m : qs_M} {i : Instr} {a b c : Nat} {v : Int32} {sw : List (Int32 × Nat)} : qs_le (qs_step rk c1 pc L st m i a b c v sw k1) (qs_step rk c2 pc L st m i a b c v sw k2) := by
  rw [qs_step_go, qs_step_go]
  exact qs_go_le hc hk _
theorem qs_con_some {e : Nat} {x : Option qs_R} {f : List Value → qs_M → Option qs_R} {r : qs_R} (h : qs_con e x f = some r) : ∃ v m, x = some (v, m) ∧ f v.toList m = some r ∧ ∀ g : List Value → qs_M → Option qs_R, qs_con e (some (v, m)) g = g v.toList m := by
  cases x with
  | none => cases e <;> cases h
  | some p =>
    obtain ⟨v, m⟩ := p
    cases e with
    | zero =>
      cases v with
      | none => exact ⟨none, m, rfl, h, fun g => rfl⟩
      | some v => cases h
    | succ e =>
      cases v with
      | none => cases h
      | some v => cases v <;> first | exact ⟨_, m, rfl, h, fun g => rfl⟩ | cases h
