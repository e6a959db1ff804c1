/-! THE LAW'S RUN: the script lies outside the memory -/
def qs_lrow (lx : Nat) (xs : Nat → Int32) (rk : Nat) (call : Nat → List Value → qs_M → Option qs_R) (ro : Option qs_Row) (pc : Nat) (L : qs_L) (st : List Value) (m : qs_M) (k : Nat → qs_L → List Value → qs_M → Option qs_R) : Option qs_R := match ro with
  | some (i, a, b, c, v, sw, _) => match i with
    | .iaload => match st with
      | .int x :: .ref 0 :: st => if 0 ≤ x ∧ x.toNatClampNeg < lx then k (pc + 1) L (.int (xs x.toNatClampNeg) :: st) m else none
      | _ => none
    | .arraylength => match st with
      | .ref 0 :: st => k (pc + 1) L (.int (Int32.ofNat lx) :: st) m
      | _ => none
    | i => qs_step rk call pc L st m i a b c v sw k
  | none => none
theorem qs_lrow_le {lx : Nat} {xs : Nat → Int32} {rk : Nat} {call : Nat → List Value → qs_M → Option qs_R} {k1 k2 : Nat → qs_L → List Value → qs_M → Option qs_R} (hk : ∀ pc L st m, qs_le (k1 pc L st m) (k2 pc L st m)) {ro : Option qs_Row} {pc : Nat} {L : qs_L} {st : List Value} {m : qs_M} : qs_le (qs_lrow lx xs rk call ro pc L st m k1) (qs_lrow lx xs rk call ro pc L st m k2) := by
  unfold qs_lrow
  split
  · split
    · split
      · split
        · exact hk _ _ _ _
        · exact qs_le_rfl _
      · exact qs_le_rfl _
    · split
      · exact hk _ _ _ _
      · exact qs_le_rfl _
    · exact qs_step_le (fun _ _ _ => qs_le_rfl _) hk
  · exact qs_le_rfl _
def qs_lev (lx : Nat) (xs : Nat → Int32) (call : Nat → List Value → qs_M → Option qs_R) : Nat → Nat → qs_L → List Value → qs_M → Option qs_R
  | 0, _, _, _, _ => none
  | n + 1, pc, L, st, m => qs_lrow lx xs 2 call (qs_fetch qc_224 pc) pc L st m (qs_lev lx xs call n)
theorem qs_lev_step {lx : Nat} {xs : Nat → Int32} {call : Nat → List Value → qs_M → Option qs_R} : ∀ (n pc : Nat) (L : qs_L) (st : List Value) (m : qs_M), qs_le (qs_lev lx xs call n pc L st m) (qs_lev lx xs call (n + 1) pc L st m)
  | 0, _, _, _, _ => fun _ h => by cases h
  | n + 1, pc, L, st, m => qs_lrow_le (fun pc' L' st' m' => qs_lev_step n pc' L' st' m')
theorem qs_lev_mono {lx : Nat} {xs : Nat → Int32} {call : Nat → List Value → qs_M → Option qs_R} {n n' pc : Nat} {L : qs_L} {st : List Value} {m : qs_M} (h : n ≤ n') : qs_le (qs_lev lx xs call n pc L st m) (qs_lev lx xs call n' pc L st m) := by
  induction h with
  | refl => exact qs_le_rfl _
  | step _ ih => exact fun r hr => qs_lev_step _ _ _ _ _ r (ih r hr)
/-- what comes of the law's run -/
noncomputable def qs_LW (lx : Nat) (xs : Nat → Int32) (d : Nat) (pc : Nat) (L : qs_L) (st : List Value) (m : qs_M) : Option qs_R :=
  haveI := Classical.propDecidable (∃ n r, qs_lev lx xs (qs_call d) n pc L st m = some r)
  if h : ∃ n r, qs_lev lx xs (qs_call d) n pc L st m = some r then some (Classical.choose (Classical.choose_spec h)) else none
theorem qs_LW_iff {lx : Nat} {xs : Nat → Int32} {d pc : Nat} {L : qs_L} {st : List Value} {m : qs_M} {r : qs_R} : qs_LW lx xs d pc L st m = some r ↔ ∃ n, qs_lev lx xs (qs_call d) n pc L st m = some r := by
  unfold qs_LW
  constructor
  · intro h
    by_cases e : ∃ n r, qs_lev lx xs (qs_call d) n pc L st m = some r
    · rw [dif_pos e] at h
      exact ⟨Classical.choose e, by rw [← h]; exact Classical.choose_spec (Classical.choose_spec e)⟩
    · rw [dif_neg e] at h; cases h
  · intro ⟨n, h⟩
    have e : ∃ n r, qs_lev lx xs (qs_call d) n pc L st m = some r := ⟨n, r, h⟩
    rw [dif_pos e]
    have h2 := Classical.choose_spec (Classical.choose_spec e)
    have h3 := qs_lev_mono (Nat.le_max_left n (Classical.choose e)) r h
    have h4 := qs_lev_mono (Nat.le_max_right n (Classical.choose e)) _ h2
    exact h4.symm.trans h3
theorem qs_LW_eq (lx : Nat) (xs : Nat → Int32) (d pc : Nat) (L : qs_L) (st : List Value) (m : qs_M) : qs_LW lx xs d pc L st m = qs_lrow lx xs 2 (qs_call d) (qs_fetch qc_224 pc) pc L st m (qs_LW lx xs d) := by
  have h1 : qs_le (qs_LW lx xs d pc L st m) (qs_lrow lx xs 2 (qs_call d) (qs_fetch qc_224 pc) pc L st m (qs_LW lx xs d)) := by
    intro r h
    obtain ⟨n, hn⟩ := qs_LW_iff.mp h
    cases n with
    | zero => cases hn
    | succ n => exact qs_lrow_le (fun pc L st m r h => qs_LW_iff.mpr ⟨n, h⟩) r hn
  have h2 : qs_le (qs_lrow lx xs 2 (qs_call d) (qs_fetch qc_224 pc) pc L st m (qs_LW lx xs d)) (qs_LW lx xs d pc L st m) := by
    intro r h
    refine qs_LW_iff.mpr ?_
    have key : ∃ n, qs_lrow lx xs 2 (qs_call d) (qs_fetch qc_224 pc) pc L st m (qs_lev lx xs (qs_call d) n) = some r := by
      have go : ∀ A : qs_A, qs_go (qs_call d) (qs_LW lx xs d) A = some r → ∃ n, qs_go (qs_call d) (qs_lev lx xs (qs_call d) n) A = some r := by
        intro A h
        match A, h with
        | none, h => cases h
        | some (.inl r'), h => exact ⟨0, h⟩
        | some (.inr (.inl (pc', L', st', m1))), h => exact qs_LW_iff.mp h
        | some (.inr (.inr (e1, M', as, m1, pc', L', rest))), h =>
          have h' : qs_con e1 (qs_call d M' as m1) (fun vs m => qs_LW lx xs d pc' L' (vs ++ rest) m) = some r := h
          obtain ⟨v2, m2, g1, g2, g3⟩ := qs_con_some h'
          obtain ⟨n, hn⟩ := qs_LW_iff.mp g2
          refine ⟨n, ?_⟩
          show qs_con e1 (qs_call d M' as m1) (fun vs m => qs_lev lx xs (qs_call d) n pc' L' (vs ++ rest) m) = some r
          rw [g1, g3]
          exact hn
      unfold qs_lrow at h ⊢
      split at h
      · rename_i i a b c v sw pl hq
        split at h
        · split at h
          · split at h
            · rename_i hx
              obtain ⟨n, hn⟩ := qs_LW_iff.mp h
              exact ⟨n, by rw [if_pos hx]; exact hn⟩
            · cases h
          · cases h
        · split at h
          · obtain ⟨n, hn⟩ := qs_LW_iff.mp h
            exact ⟨n, hn⟩
          · cases h
        · rename_i i2 h8 h9
          rw [qs_step_go] at h
          obtain ⟨n, hn⟩ := go _ h
          refine ⟨n, ?_⟩
          rw [qs_step_go]
          exact hn
      · cases h
    obtain ⟨n, hn⟩ := key
    exact ⟨n + 1, hn⟩
  cases e : qs_LW lx xs d pc L st m with
  | some r => exact (h1 r e).symm
  | none =>
    cases e2 : qs_lrow lx xs 2 (qs_call d) (qs_fetch qc_224 pc) pc L st m (qs_LW lx xs d) with
    | none => rfl
    | some r => rw [h2 r e2] at e; cases e
def qs_lseg (lx : Nat) (xs : Nat → Int32) (cut : List Nat) (call : Nat → List Value → qs_M → Option qs_R) (kk : Nat → qs_L → List Value → qs_M → Option qs_R) : Nat → Nat → qs_L → List Value → qs_M → Option qs_R
  | 0, pc, L, st, m => kk pc L st m
  | n + 1, pc, L, st, m => qs_lrow lx xs 2 call (qs_fetch qc_224 pc) pc L st m (fun pc' L' st' m' => bif cut.elem pc' then kk pc' L' st' m' else qs_lseg lx xs cut call kk n pc' L' st' m')
theorem qs_LW_seg {lx : Nat} {xs : Nat → Int32} {d : Nat} (cut : List Nat) : ∀ (n pc : Nat) (L : qs_L) (st : List Value) (m : qs_M), qs_LW lx xs d pc L st m = qs_lseg lx xs cut (qs_call d) (qs_LW lx xs d) n pc L st m
  | 0, _, _, _, _ => rfl
  | n + 1, pc, L, st, m => by
    rw [qs_LW_eq]
    unfold qs_lseg
    congr 1
    funext pc' L' st' m'
    cases cut.elem pc' with
    | true => rfl
    | false => exact qs_LW_seg cut n pc' L' st' m'
theorem qs_lev_mn {lx : Nat} {xs : Nat → Int32} {d : Nat} : ∀ (n pc : Nat) (L : qs_L) (st : List Value) (m : qs_M) (r : qs_R), qs_lev lx xs (qs_call d) n pc L st m = some r → qs_n m ≤ qs_n r.2 ∧ qs_z m ≤ qs_z r.2
  | 0, _, _, _, _, _, h => by cases h
  | n + 1, pc, L, st, m, r, h => by
    have h : qs_lrow lx xs 2 (qs_call d) (qs_fetch qc_224 pc) pc L st m (qs_lev lx xs (qs_call d) n) = some r := h
    have go : ∀ A : qs_A, qs_mono m A → qs_go (qs_call d) (qs_lev lx xs (qs_call d) n) A = some r → qs_n m ≤ qs_n r.2 ∧ qs_z m ≤ qs_z r.2 := by
      clear h
      intro A hm h
      match A, h, hm with
      | none, h, _ => cases h
      | some (.inl r'), h, hm =>
        cases h
        have hm : r.2 = m := hm
        rw [hm]
        exact ⟨Nat.le_refl _, Nat.le_refl _⟩
      | some (.inr (.inl (pc', L', st', m1))), h, hm =>
        have h1 := qs_lev_mn n _ _ _ _ r h
        exact ⟨Nat.le_trans hm.1 h1.1, Nat.le_trans hm.2 h1.2⟩
      | some (.inr (.inr (e1, M', as, m1, pc', L', rest))), h, hm =>
        have hm1 : m1 = m := hm
        subst hm1
        have h' : qs_con e1 (qs_call d M' as m1) (fun vs m => qs_lev lx xs (qs_call d) n pc' L' (vs ++ rest) m) = some r := by assumption
        obtain ⟨v2, m2, h1, h2, -⟩ := qs_con_some h'
        have h3 := qs_lev_mn n _ _ _ _ r h2
        obtain ⟨n2, h1⟩ := qs_call_some h1
        unfold qs_cl at h1
        cases d with
        | zero => cases h1
        | succ d =>
          have h4 := qs_ev_mn _ _ _ _ _ _ _ _ h1
          exact ⟨Nat.le_trans h4.1 h3.1, Nat.le_trans h4.2 h3.2⟩
    unfold qs_lrow at h
    split at h
    · split at h
      · split at h
        · split at h
          · exact qs_lev_mn n _ _ _ _ r h
          · cases h
        · cases h
      · split at h
        · exact qs_lev_mn n _ _ _ _ r h
        · cases h
      · rw [qs_step_go] at h
        exact go _ (qs_act_mono _ _ _ _ _ _ _ _ _ _ _) h
    · cases h
/-- the law's run is a run of the machine -/
theorem lw_sim {l : Launch} (hA : qk_All) (hRw : qk_Rows) {d : Nat} {p : Program} {e : Env} {R : Room} {s : State} {mid : MethodId} {args : Array Value} {below : List Frame} {meth : Method} {c : Code} {Q : State → Prop} {X : qw_X} {nL n0 z0 : Nat} (C : qp_C p R s mid args meth c X qm_224 nL n0) (hR : d + 1 ≤ R.frames ∧ 64 * (d + 1) ≤ R.locals) {r : qs_R} (hcap : qs_n r.2 ≤ n0 + R.cells ∧ qs_z r.2 ≤ z0 + R.slots) (hRT : qp_RT p l e R s mid args below meth c Q X qm_224 2 n0 z0 r) : ∀ (n pc : Nat) (L : qs_L) (st : List Value) (m : qs_M), qs_lev (qx_L X) (qx_xs X) (qs_call d) n pc L st m = some r → qp_At p l e R s mid args below meth c Q X nL n0 z0 pc L st m
  | 0, _, _, _, _, h => by cases h
  | n + 1, pc, L, st, m, h => by
    have h : qs_lrow (qx_L X) (qx_xs X) 2 (qs_call d) (qs_fetch qc_224 pc) pc L st m (qs_lev (qx_L X) (qx_xs X) (qs_call d) n) = some r := h
    have hE : qm_at 224 = some qm_224 := rfl
    unfold qs_lrow at h
    split at h
    · rename_i i a b c' v sw pl hq
      have hrow := hRw 224 qm_224 pc _ hE hq
      have hd : decode (qe_b qm_224) pc = .ok (i, qk_len i b) := by
        have h9 := hrow
        unfold qk_row at h9
        simp only [Bool.and_eq_true, decide_eq_true_eq] at h9
        exact h9.1
      have hx := C.2.2.2.2.2.2.1.1
      split at h
      · split at h
        · split at h
          · rename_i hxx
            have h1 := lw_sim hA hRw C hR hcap hRT n _ _ _ _ h
            intro H locs cells slots ls hP hM hS hl hc hz
            have h2 := h1 H locs cells slots ls hP hM hS hl hc hz
            rw [List.map_cons] at h2
            rw [List.map_cons, List.map_cons, qw_ve (by omega)]
            exact va_ti C.1 C.2.1 hx hS (qp_in hxx) rfl hd h2
          · cases h
        · cases h
      · split at h
        · have h1 := lw_sim hA hRw C hR hcap hRT n _ _ _ _ h
          intro H locs cells slots ls hP hM hS hl hc hz
          have h2 := h1 H locs cells slots ls hP hM hS hl hc hz
          rw [List.map_cons] at h2
          rw [List.map_cons, qw_ve (by omega)]
          exact va_tlen C.1 C.2.1 hx hS rfl hd h2
        · cases h
      · refine qp_step C hA hrow (qs_wp_eq ?_)
        rw [qs_step_go] at h
        have hm := qs_act_mono (qe_rk qm_224) pc L st m i a b c' v sw
        have ha := qs_act_args (qe_rk qm_224) L st m hrow
        have h : qs_go (qs_call d) (qs_lev (qx_L X) (qx_xs X) (qs_call d) n) (qs_act (qe_rk qm_224) pc L st m i a b c' v sw) = some r := h
        generalize qs_act (qe_rk qm_224) pc L st m i a b c' v sw = A at h hm ha ⊢
        match A, h, hm, ha with
        | none, h, _, _ => cases h
        | some (.inl r'), h, hm, _ =>
          cases h
          exact hRT
        | some (.inr (.inl (pc', L', st', m1))), h, hm, _ =>
          have h1 := qs_lev_mn _ _ _ _ _ _ h
          exact ⟨⟨by omega, by omega⟩, lw_sim hA hRw C hR hcap hRT n _ _ _ _ h⟩
        | some (.inr (.inr (e1, M', as, m1, pc', L', rest))), h, hm, ha =>
          have hm1 : m1 = m := hm
          subst hm1
          have h' : qs_con e1 (qs_call d M' as m1) (fun vs m => qs_lev (qx_L X) (qx_xs X) (qs_call d) n pc' L' (vs ++ rest) m) = some r := by assumption
          obtain ⟨v2, m2, h1, h2, -⟩ := qs_con_some h'
          have h3 := qs_lev_mn _ _ _ _ _ _ h2
          obtain ⟨n2, h1⟩ := qs_call_some h1
          unfold qs_cl at h1
          cases d with
          | zero => cases h1
          | succ d =>
            have h4 := qs_ev_mn _ _ _ _ _ _ _ _ h1
            exact ⟨d, v2, m2, ⟨by omega, by omega⟩, h4, fun F hF hM => qs_met hA (qs_sim hA hRw n2) h1 hF hM (ha F hF hM) X, ⟨by omega, by omega⟩, lw_sim hA hRw C hR hcap hRT n _ _ _ _ h2⟩
    · cases h
