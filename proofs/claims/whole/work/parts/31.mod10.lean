/-! THE REFERENCE: people and hats -/
theorem hn_sub1 (n : Nat) : nI (n + 1) - 1 = nI n := by
  rw [← nI_1]; exact Int32.add_sub_cancel _ _
theorem hf_M_speed {o p s : Nat} {P : hP} {R : Nat → Nat → Int32} (M : hf_M o P R) (hp : p < P 2 0) (hs : s < 4) : hf_M o (hf_up P 6 p s) (up2 R 101 p (nI s)) := by
  have rr : ∀ r k, r ≠ 6 → hf_up P 6 p s r k = P r k := fun r k h0 => hf_up_r h0
  have ne : ∀ a k, a ≠ 101 → up2 R 101 p (nI s) a k = R a k := fun a k h0 => up2_a h0
  have o4 := M.2.2.2.2
  refine hf_M_mk (P := P) (R := R) ?_ M.2.2.2.1 ?_ ?_ ?_ ?_ ?_ ?_ ?_ ?_
  · rw [ne _ _ (by decide)]; exact M.2.2.1
  · rw [ne _ _ (by decide), rr _ _ (by decide)]; exact M.1.1
  · rw [ne _ _ (by decide), rr _ _ (by decide)]; exact M.1.2.1
  · rw [rr _ _ (by decide)]; exact o4.1
  · rw [rr _ _ (by decide)]; exact o4.2.1
  · rw [ne _ _ (by decide), rr _ _ (by decide)]; exact ⟨o4.2.2.1, M.2.1.1⟩
  · intro k hk
    rw [ne _ _ (by decide), ne _ _ (by decide), rr _ _ (by decide), rr _ _ (by decide)]; exact hf_M_w M k hk
  · intro k hk
    rw [rr _ _ (by decide)] at hk
    have mp := hf_M_p M k hk
    rw [ne 105 _ (by decide), rr 5 _ (by decide)]
    by_cases q : k = p
    · subst q
      rw [up2_s, hf_up_s]; exact ⟨rfl, mp.2.1, mp.2.2.1, hs⟩
    · rw [up2_k q, hf_up_j q]; exact mp
  · intro h hh
    rw [rr _ _ (by decide)] at hh
    rw [ne _ _ (by decide), ne _ _ (by decide), ne _ _ (by decide), ne _ _ (by decide), ne _ _ (by decide), rr _ _ (by decide), rr _ _ (by decide), rr _ _ (by decide), rr _ _ (by decide), rr _ _ (by decide)]
    exact hf_M_h M h hh
def o_speed (P : hP) (v w : Int32) : Int32 × hP := match hxi (P 2 0) v with
  | none => (-1, P)
  | some p => match hxi 4 w with
    | none => (-1, P)
    | some s => (nI (P 6 p), hf_up P 6 p s)
set_option maxHeartbeats 400000 in
theorem sp_mspeed {d : Nat} (hd : 2 < d) {R : Nat → Nat → Int32} {X : hk_D} {Q : hk_Q} {v w : Int32} {P : hP} (M : hf_M 0 P R) (hQ : ∀ R', hf_M 0 (o_speed P v w).2 R' → hfp R R' → Q (some (.int (o_speed P v w).1)) (hw R' X)) : hk_call d mM_speed [.ref 98, .int v, .int w] (hw R X) Q := by
  obtain ⟨d, rfl⟩ : ∃ e, d = e + 1 := ⟨d - 1, by omega⟩
  have h5 := M.2.2.2.2.1
  unfold o_speed at hQ
  refine hk_run2 (hk_call_m d) 100 ?_
  refine sp_misPerson (by omega) M.1.1 h5 (fun p hp e => ?_) (fun np => ?_)
  · refine And.intro (fun c => absurd c (by decide)) (fun _ => ?_)
    rw [e, hxi_s hp (by omega)] at hQ
    dsimp only at hQ
    refine sp_in (by omega) (n := 4) (by omega) (by decide) (fun q hq eq => ?_) (fun nn => ?_)
    · refine And.intro (fun c => absurd c (by decide)) (fun _ => ?_)
      rw [eq, hxi_s hq (by omega)] at hQ
      dsimp only at hQ
      refine w_ld (j := p) (n := 5) e rfl (by omega) (by omega) rfl (hf_M_p M p hp).1 ?_
      refine w_st (t := 0) (j := p) (n := 5) e rfl (by omega) (by omega) rfl rfl ?_
      refine hk_qe_of (hQ _ ?_ (hfp_up (by omega)))
      rw [eq]
      exact hf_M_speed M hp hq
    · refine And.intro (fun _ => ?_) (fun c => absurd rfl c)
      rw [hxi_n (by omega) nn] at hQ
      exact hk_qe_of (hQ R M hfp_rf)
  · refine And.intro (fun _ => ?_) (fun c => absurd rfl c)
    rw [hxi_n (by omega) np] at hQ
    exact hk_qe_of (hQ R M hfp_rf)
def hf_addp (P : hP) (q s : Nat) : hP := hf_up (hf_up (hf_up P 5 (P 2 0) q) 6 (P 2 0) s) 2 0 (P 2 0 + 1)
theorem hf_M_addp {q s : Nat} {P : hP} {R : Nat → Nat → Int32} (M : hf_M 0 P R) (hn : P 2 0 < 5) (hq : q < 25) (hs : s < 4) : hf_M 0 (hf_addp P q s) (up2 (up2 (up2 R 105 (1 + P 2 0) (nI q)) 101 (P 2 0) (nI s)) 98 2 (nI (P 2 0 + 1))) := by
  have rr : ∀ r k, r ≠ 6 → r ≠ 5 → r ≠ 2 → hf_addp P q s r k = P r k := fun r k h0 h1 h2 => by unfold hf_addp; rw [hf_up_r h2, hf_up_r h0, hf_up_r h1]
  have o4 := M.2.2.2.2
  have h6 := o4.2.1
  have n2 : hf_addp P q s 2 0 = P 2 0 + 1 := hf_up_s _ _ _ _
  have n3 : hf_addp P q s 3 0 = P 3 0 := rr _ _ (by decide) (by decide) (by decide)
  have ne : ∀ a k, ¬ (a = 105 ∧ k = 1 + P 2 0) → ¬ (a = 101 ∧ k = P 2 0) → ¬ (a = 98 ∧ k = 2) → up2 (up2 (up2 R 105 (1 + P 2 0) (nI q)) 101 (P 2 0) (nI s)) 98 2 (nI (P 2 0 + 1)) a k = R a k := fun a k h1 h2 h3 => by rw [up2_n h3, up2_n h2, up2_n h1]
  refine hf_M_mk (P := P) (R := R) ?_ M.2.2.2.1 ?_ ?_ ?_ ?_ ?_ ?_ ?_ ?_
  · rw [ne _ _ (by omega) (by omega) (by omega)]; exact M.2.2.1
  · rw [up2_s, n2]
  · rw [ne _ _ (by omega) (by omega) (by omega), n3]; exact M.1.2.1
  · rw [n2]; omega
  · rw [n3]; exact o4.2.1
  · rw [ne _ _ (by omega) (by omega) (by omega), rr _ _ (by decide) (by decide) (by decide)]; exact ⟨o4.2.2.1, M.2.1.1⟩
  · intro k hk
    rw [ne _ _ (by omega) (by omega) (by omega), ne _ _ (by omega) (by omega) (by omega), rr _ _ (by decide) (by decide) (by decide), rr _ _ (by decide) (by decide) (by decide)]; exact hf_M_w M k hk
  · intro k hk
    rw [n2] at hk
    by_cases z : k = P 2 0
    · have e6 : hf_addp P q s 6 k = s := by rw [z]; unfold hf_addp; rw [hf_up_r (by decide), hf_up_s]
      have e5 : hf_addp P q s 5 k = q := by rw [z]; unfold hf_addp; rw [hf_up_r (by decide), hf_up_r (by decide), hf_up_s]
      rw [e6, e5]
      refine ⟨?_, ?_, hq, hs⟩
      · rw [z, up2_a (by decide), up2_s]
      · rw [z, Nat.zero_add, up2_a (by decide), up2_a (by decide), up2_s]
    · have e6 : hf_addp P q s 6 k = P 6 k := by unfold hf_addp; rw [hf_up_r (by decide), hf_up_j z, hf_up_j z]
      have e5 : hf_addp P q s 5 k = P 5 k := by unfold hf_addp; rw [hf_up_r (by decide), hf_up_j z, hf_up_j z]
      rw [e6, e5, ne _ _ (by omega) (by omega) (by omega), ne _ _ (by omega) (by omega) (by omega)]
      exact hf_M_p M k (by omega)
  · intro h hh
    rw [n3] at hh
    have mh := hf_M_h M h hh
    rw [ne _ _ (by omega) (by omega) (by omega), ne _ _ (by omega) (by omega) (by omega), ne _ _ (by omega) (by omega) (by omega), ne _ _ (by omega) (by omega) (by omega), ne _ _ (by omega) (by omega) (by omega), rr 7 _ (by decide) (by decide) (by decide), rr 8 _ (by decide) (by decide) (by decide), rr 9 _ (by decide) (by decide) (by decide), rr 10 _ (by decide) (by decide) (by decide), n2]
    refine ⟨mh.1, mh.2.1, mh.2.2.1, mh.2.2.2.1, mh.2.2.2.2.1, ?_⟩
    have := mh.2.2.2.2.2
    omega
def o_person (P : hP) (v w : Int32) : Int32 × hP := match hxi 25 v with
  | none => (-1, P)
  | some q => match hxi 4 w with
    | none => (-1, P)
    | some s => if P 2 0 = 5 then (-2, P) else (nI (P 2 0), hf_addp P q s)
set_option maxHeartbeats 400000 in
theorem sp_mperson {d : Nat} (hd : 2 < d) {R : Nat → Nat → Int32} {X : hk_D} {Q : hk_Q} {v w : Int32} {P : hP} (M : hf_M 0 P R) (hQ : ∀ R', hf_M 0 (o_person P v w).2 R' → hfp R R' → Q (some (.int (o_person P v w).1)) (hw R' X)) : hk_call d mM_person [.ref 98, .int v, .int w] (hw R X) Q := by
  obtain ⟨d, rfl⟩ : ∃ e, d = e + 1 := ⟨d - 1, by omega⟩
  have h5 := M.2.2.2.2.1
  unfold o_person at hQ
  refine hk_run2 (hk_call_m d) 100 ?_
  refine sp_misPlace (by omega) (fun q hq eq => ?_) (fun nn => ?_)
  · refine And.intro (fun c => absurd c (by decide)) (fun _ => ?_)
    rw [eq, hxi_s hq (by omega)] at hQ
    dsimp only at hQ
    refine sp_in (by omega) (n := 4) (by omega) (by decide) (fun s hs es => ?_) (fun nn => ?_)
    · refine And.intro (fun c => absurd c (by decide)) (fun _ => ?_)
      rw [es, hxi_s hs (by omega)] at hQ
      dsimp only at hQ
      have e5 := M.1.1
      refine And.intro (fun c => ?_) (fun c => ?_)
      · have : P 2 0 = 5 := (nI_eq (b := 5) (by omega) (by omega)).mp (e5.symm.trans c)
        rw [if_pos this] at hQ
        exact hk_qe_of (hQ R M hfp_rf)
      · have hn : ¬ P 2 0 = 5 := fun z => c (by rw [e5, z]; rfl)
        rw [if_neg hn] at hQ
        refine w_st (t := 0) (j := 1 + P 2 0) (n := 36) (by rw [M.1.1, ← nI_add]; rfl) rfl (by omega) (by omega) rfl rfl ?_
        refine w_st (t := 0) (j := P 2 0) (n := 5) (by rw [up2_a (by decide)]; exact M.1.1) rfl (by omega) (by omega) rfl rfl ?_
        refine w_put trivial rfl rfl ?_
        refine hk_qe_of ?_
        rw [up2_s, up2_a (by decide), up2_a (by decide), M.1.1, nI_1, hn_sub1, eq, es]
        exact hQ _ (hf_M_addp M (by omega) hq hs) (hfp_tr (hfp_tr (hfp_up (by omega)) (hfp_up (by omega))) (hfp_up2 (by omega)))
    · refine And.intro (fun _ => ?_) (fun c => absurd rfl c)
      rw [hxi_n (by omega) nn] at hQ
      exact hk_qe_of (hQ R M hfp_rf)
  · refine And.intro (fun _ => ?_) (fun c => absurd rfl c)
    rw [hxi_n (by omega) nn] at hQ
    exact hk_qe_of (hQ R M hfp_rf)
