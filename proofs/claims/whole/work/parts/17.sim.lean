/-! the simulation -/
theorem qs_sim {l : Launch} (hA : qk_All) (hRw : qk_Rows) : ∀ n, qs_Sim l n
  | 0 => by
    intro d M pc L st m r h
    cases h
  | n + 1 => by
    have ih := qs_sim (l := l) hA hRw n
    intro d M pc L st m r h E hE p e R s mid args below meth c Q X nL n0 z0 C hR hcap hRT
    rw [qs_ev_succ, qm_cd_at hE, qm_rk_at hE] at h
    unfold qs_row at h
    split at h
    · rename_i i a b c' v sw pl hq
      have hrow := hRw M E pc _ hE hq
      refine qp_step C hA hrow (qs_wp_eq ?_)
      rw [qs_step_go] at h
      have hm := qs_act_mono (qe_rk E) pc L st m i a b c' v sw
      have ha := qs_act_args (qe_rk E) L st m hrow
      generalize qs_act (qe_rk E) pc L st m i a b c' v sw = A at h hm ha ⊢
      match A, h, hm, ha with
      | none, h, _, _ => cases h
      | some (.inl r'), h, hm, _ =>
        cases h
        exact hRT
      | some (.inr (.inl (pc', L', st', m1))), h, hm, _ =>
        have h : qs_ev n d M pc' L' st' m1 = some r := h
        have h1 := qs_ev_mn _ _ _ _ _ _ _ _ h
        exact ⟨⟨by omega, by omega⟩, ih d M pc' L' st' m1 r h E hE p e R s mid args below meth c Q X nL n0 z0 C hR hcap hRT⟩
      | some (.inr (.inr (e1, M', as, m1, pc', L', rest))), h, hm, ha =>
        have hm1 : m1 = m := hm
        subst hm1
        have h : qs_con e1 (qs_cl n d M' as m1) (fun vs m => qs_ev n d M pc' L' (vs ++ rest) m) = some r := h
        obtain ⟨v2, m2, h1, h2, -⟩ := qs_con_some h
        have h3 := qs_ev_mn _ _ _ _ _ _ _ _ h2
        unfold qs_cl at h1
        cases d with
        | zero => cases h1
        | succ d =>
          have h4 := qs_ev_mn _ _ _ _ _ _ _ _ h1
          exact ⟨d, v2, m2, ⟨by omega, by omega⟩, h4, fun F hF hM => qs_met hA ih h1 hF hM (ha F hF hM) X, ⟨by omega, by omega⟩, ih (d + 1) M pc' L' (v2.toList ++ rest) m2 r h2 E hE p e R s mid args below meth c Q X nL n0 z0 C hR hcap hRT⟩
    · cases h
