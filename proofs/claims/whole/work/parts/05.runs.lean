/-! what comes of a run, as long as it takes -/
theorem qs_row_le {rk : Nat} {c1 c2 : Nat → List Value → qs_M → Option qs_R} {k1 k2 : Nat → qs_L → List Value → qs_M → Option qs_R} (hc : ∀ M as m, qs_le (c1 M as m) (c2 M as m)) (hk : ∀ pc L st m, qs_le (k1 pc L st m) (k2 pc L st m)) {ro : Option qs_Row} {pc : Nat} {L : qs_L} {st : List Value} {m : qs_M} : qs_le (qs_row rk c1 ro pc L st m k1) (qs_row rk c2 ro pc L st m k2) := by
  unfold qs_row
  split
  · exact qs_step_le hc hk
  · exact qs_le_rfl _
def qs_cl (n d : Nat) (M : Nat) (as : List Value) (m : qs_M) : Option qs_R := match d with
  | 0 => none
  | d' + 1 => qs_ev n d' M 0 (qs_init (qm_ml M) as) [] m
theorem qs_ev_succ (n d M pc : Nat) (L : qs_L) (st : List Value) (m : qs_M) : qs_ev (n + 1) d M pc L st m = qs_row (qm_rk M) (qs_cl n d) (qs_fetch (qm_cd M) pc) pc L st m (qs_ev n d M) := rfl
theorem qs_ev_step : ∀ (n d M pc : Nat) (L : qs_L) (st : List Value) (m : qs_M), qs_le (qs_ev n d M pc L st m) (qs_ev (n + 1) d M pc L st m)
  | 0, _, _, _, _, _, _ => fun _ h => by cases h
  | n + 1, d, M, pc, L, st, m => by
    rw [qs_ev_succ n, qs_ev_succ (n + 1)]
    refine qs_row_le (fun M' as m' => ?_) (fun pc' L' st' m' => qs_ev_step n d M pc' L' st' m')
    unfold qs_cl
    cases d with
    | zero => exact qs_le_rfl _
    | succ d => exact qs_ev_step n d M' 0 _ [] m'
theorem qs_ev_mono {n n' d M pc : Nat} {L : qs_L} {st : List Value} {m : qs_M} (h : n ≤ n') : qs_le (qs_ev n d M pc L st m) (qs_ev n' d M pc L st m) := by
  induction h with
  | refl => exact qs_le_rfl _
  | step _ ih => exact fun r hr => qs_ev_step _ _ _ _ _ _ _ r (ih r hr)
/-- what comes of it -/
noncomputable def qs_EV (d M pc : Nat) (L : qs_L) (st : List Value) (m : qs_M) : Option qs_R :=
  haveI := Classical.propDecidable (∃ n r, qs_ev n d M pc L st m = some r)
  if h : ∃ n r, qs_ev n d M pc L st m = some r then some (Classical.choose (Classical.choose_spec h)) else none
theorem qs_EV_iff {d M pc : Nat} {L : qs_L} {st : List Value} {m : qs_M} {r : qs_R} : qs_EV d M pc L st m = some r ↔ ∃ n, qs_ev n d M pc L st m = some r := by
  unfold qs_EV
  constructor
  · intro h
    by_cases e : ∃ n r, qs_ev n d M pc L st m = some r
    · rw [dif_pos e] at h
      exact ⟨Classical.choose e, by rw [← h]; exact Classical.choose_spec (Classical.choose_spec e)⟩
    · rw [dif_neg e] at h; cases h
  · intro ⟨n, h⟩
    have e : ∃ n r, qs_ev n d M pc L st m = some r := ⟨n, r, h⟩
    rw [dif_pos e]
    have h2 := Classical.choose_spec (Classical.choose_spec e)
    have h3 := qs_ev_mono (Nat.le_max_left n (Classical.choose e)) r h
    have h4 := qs_ev_mono (Nat.le_max_right n (Classical.choose e)) _ h2
    rw [h3] at h4
    exact h4.symm
noncomputable def qs_call (d : Nat) (M : Nat) (as : List Value) (m : qs_M) : Option qs_R := match d with
  | 0 => none
  | d' + 1 => qs_EV d' M 0 (qs_init (qm_ml M) as) [] m
theorem qs_call_le (n d M : Nat) (as : List Value) (m : qs_M) : qs_le (qs_cl n d M as m) (qs_call d M as m) := by
  intro r h
  unfold qs_cl at h
  unfold qs_call
  cases d with
  | zero => cases h
  | succ d => exact qs_EV_iff.mpr ⟨n, h⟩
theorem qs_call_some {d M : Nat} {as : List Value} {m : qs_M} {r : qs_R} (h : qs_call d M as m = some r) : ∃ n, qs_cl n d M as m = some r := by
  unfold qs_call at h
  unfold qs_cl
  cases d with
  | zero => cases h
  | succ d => exact qs_EV_iff.mp h
theorem qs_cl_mono {n n' d M : Nat} {as : List Value} {m : qs_M} (h : n ≤ n') : qs_le (qs_cl n d M as m) (qs_cl n' d M as m) := by
  unfold qs_cl
  cases d with
  | zero => exact qs_le_rfl _
  | succ d => exact qs_ev_mono h
theorem qs_go_ct {d M : Nat} {A : qs_A} {r : qs_R} (h : qs_go (qs_call d) (qs_EV d M) A = some r) : ∃ n, qs_go (qs_cl n d) (qs_ev n d M) A = some r := by
  unfold qs_go at h ⊢
  split at h
  · cases h
  · exact ⟨0, h⟩
  · exact qs_EV_iff.mp h
  · obtain ⟨v, m2, h1, h2, h3⟩ := qs_con_some h
    obtain ⟨n1, g1⟩ := qs_call_some h1
    obtain ⟨n2, g2⟩ := qs_EV_iff.mp h2
    refine ⟨max n1 n2, ?_⟩
    rw [qs_cl_mono (Nat.le_max_left n1 n2) _ g1, h3]
    exact qs_ev_mono (Nat.le_max_right n1 n2) _ g2
/-- the run's own equation -/
theorem qs_EV_eq (d M pc : Nat) (L : qs_L) (st : List Value) (m : qs_M) : qs_EV d M pc L st m = qs_row (qm_rk M) (qs_call d) (qs_fetch (qm_cd M) pc) pc L st m (qs_EV d M) := by
  have h1 : qs_le (qs_EV d M pc L st m) (qs_row (qm_rk M) (qs_call d) (qs_fetch (qm_cd M) pc) pc L st m (qs_EV d M)) := by
    intro r h
    obtain ⟨n, hn⟩ := qs_EV_iff.mp h
    cases n with
    | zero => cases hn
    | succ n =>
      rw [qs_ev_succ] at hn
      exact qs_row_le (fun M as m => qs_call_le n d M as m) (fun pc L st m r h => qs_EV_iff.mpr ⟨n, h⟩) r hn
  have h2 : qs_le (qs_row (qm_rk M) (qs_call d) (qs_fetch (qm_cd M) pc) pc L st m (qs_EV d M)) (qs_EV d M pc L st m) := by
    intro r h
    refine qs_EV_iff.mpr ?_
    cases e : qs_fetch (qm_cd M) pc with
    | none => rw [e] at h; cases h
    | some q =>
      obtain ⟨i, a, b, c, v, sw, pl⟩ := q
      rw [e] at h
      unfold qs_row at h
      dsimp only at h
      rw [qs_step_go] at h
      obtain ⟨n, hn⟩ := qs_go_ct h
      refine ⟨n + 1, ?_⟩
      rw [qs_ev_succ, e]
      unfold qs_row
      dsimp only
      rw [qs_step_go]
      exact hn
  cases e : qs_EV d M pc L st m with
  | some r => exact (h1 r e).symm
  | none =>
    cases e2 : qs_row (qm_rk M) (qs_call d) (qs_fetch (qm_cd M) pc) pc L st m (qs_EV d M) with
    | none => rfl
    | some r => rw [h2 r e2] at e; cases e
/-- many instructions at once, up to where it is cut -/
def qs_seg (cut : List Nat) (cd : List (List (Option qs_Row))) (rk : Nat) (call : Nat → List Value → qs_M → Option qs_R) (kk : Nat → qs_L → List Value → qs_M → Option qs_R) : Nat → Nat → qs_L → List Value → qs_M → Option qs_R
  | 0, pc, L, st, m => kk pc L st m
  | n + 1, pc, L, st, m => qs_row rk call (qs_fetch cd pc) pc L st m (fun pc' L' st' m' => bif cut.elem pc' then kk pc' L' st' m' else qs_seg cut cd rk call kk n pc' L' st' m')
theorem qs_EV_seg {d M rk : Nat} {cd : List (List (Option qs_Row))} (hc : qm_cd M = cd) (hr : qm_rk M = rk) (cut : List Nat) : ∀ (n pc : Nat) (L : qs_L) (st : List Value) (m : qs_M), qs_EV d M pc L st m = qs_seg cut cd rk (qs_call d) (qs_EV d M) n pc L st m
  | 0, _, _, _, _ => rfl
  | n + 1, pc, L, st, m => by
    rw [qs_EV_eq, hc, hr]
    unfold qs_seg
    congr 1
    funext pc' L' st' m'
    cases cut.elem pc' with
    | true => rfl
    | false => exact qs_EV_seg hc hr cut n pc' L' st' m'
