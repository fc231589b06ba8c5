/-! THE REFERENCE: what sets one thing -/
theorem hxi_e {n j : Nat} {v : Int32} (hn : n ≤ 100000) (h : hxi n v = some j) : j < n ∧ v = nI j := by
  by_cases q : ∀ j, j < n → v ≠ nI j
  · rw [hxi_n hn q] at h; cases h
  · obtain ⟨j', hj', e⟩ : ∃ j', j' < n ∧ v = nI j' := Classical.byContradiction (fun z => q (fun j hj e => z ⟨j, hj, e⟩))
    rw [e, hxi_s hj' hn] at h
    cases h
    exact ⟨hj', e⟩
/-- only the reference's plain has changed -/
def hfp (R R' : Nat → Nat → Int32) : Prop := ∀ a k, ¬ (99 ≤ a ∧ a ≤ 105) → ¬ (a = 98 ∧ (k = 2 ∨ k = 4)) → R' a k = R a k
theorem hfp_rf {R : Nat → Nat → Int32} : hfp R R := fun _ _ _ _ => rfl
theorem hfp_tr {R R1 R2 : Nat → Nat → Int32} (h1 : hfp R R1) (h2 : hfp R1 R2) : hfp R R2 := fun a k q1 q2 => (h2 a k q1 q2).trans (h1 a k q1 q2)
theorem hfp_t {R R' : Nat → Nat → Int32} (h : hft R R') : hfp R R' := fun a k q _ => h a k (fun z => by omega)
theorem hfp_r {o : Nat} {R R' : Nat → Nat → Int32} (h : hfr o R R') : hfp R R' := fun a k q _ => h a k (fun z => by omega)
theorem hfp_up {R : Nat → Nat → Int32} {b k : Nat} {v : Int32} (h : 99 ≤ b ∧ b ≤ 105) : hfp R (up2 R b k v) := fun a j q _ => up2_n (fun z => q (by rw [z.1]; exact h))
theorem hfp_up2 {R : Nat → Nat → Int32} {k : Nat} {v : Int32} (h : k = 2 ∨ k = 4) : hfp R (up2 R 98 k v) := fun a j _ q => up2_n (fun z => q ⟨z.1, by rw [z.2]; exact h⟩)
theorem hf_M_mk {o : Nat} {P P' : hP} {R R' : Nat → Nat → Int32} (h9 : R' 98 9 = nI o) (h18 : o ≤ 18) (c2 : R' 98 2 = nI (P' 2 0)) (c4 : R' 98 4 = nI (P' 3 0)) (n2 : P' 2 0 ≤ 5) (n3 : P' 3 0 ≤ 6) (n4 : P' 4 0 ≤ 200 ∧ R' 105 o = nI (P' 4 0))
    (w : ∀ j, j < 24 → R' 99 j = nI (P' 0 j) ∧ R' 100 j = nI (P' 1 j) ∧ P' 0 j < 4 ∧ P' 1 j < 10)
    (p : ∀ p, p < P' 2 0 → R' 101 p = nI (P' 6 p) ∧ R' 105 (o + (1 + p)) = nI (P' 5 p) ∧ P' 5 p < 25 ∧ P' 6 p < 4)
    (h : ∀ h, h < P' 3 0 → (R' 102 h = nI (P' 7 h) ∧ R' 103 h = nI (P' 8 h) ∧ R' 104 h = nI (P' 9 h)) ∧ (R' 105 (o + (6 + h)) = hf_mw (P' 10 h) ∧ (P' 10 h < 25 → R' 105 (o + (12 + h)) = nI (P' 10 h)) ∧ (P' 10 h = 30 → R' 105 (o + (12 + h)) = -1)) ∧ (P' 7 h < 6 ∧ P' 8 h < 10 ∧ P' 9 h < 100 ∧ (P' 10 h < 25 ∨ (25 ≤ P' 10 h ∧ P' 10 h < 25 + P' 2 0) ∨ P' 10 h = 30))) : hf_M o P' R' :=
  ⟨⟨c2, c4, fun j hj => ⟨(w j hj).1, (w j hj).2.1⟩, fun q hq => (p q hq).1, fun q hq => (h q hq).1⟩, ⟨n4.2, fun q hq => (p q hq).2.1, fun q hq => (h q hq).2.1⟩, h9, h18, n2, n3, n4.1, fun j hj => (w j hj).2.2, fun q hq => (p q hq).2.2, fun q hq => (h q hq).2.2⟩
theorem hf_M_w {o : Nat} {P : hP} {R : Nat → Nat → Int32} (M : hf_M o P R) : ∀ j, j < 24 → R 99 j = nI (P 0 j) ∧ R 100 j = nI (P 1 j) ∧ P 0 j < 4 ∧ P 1 j < 10 :=
  fun j hj => ⟨(M.1.2.2.1 j hj).1, (M.1.2.2.1 j hj).2, M.2.2.2.2.2.2.2.1 j hj⟩
theorem hf_M_p {o : Nat} {P : hP} {R : Nat → Nat → Int32} (M : hf_M o P R) : ∀ p, p < P 2 0 → R 101 p = nI (P 6 p) ∧ R 105 (o + (1 + p)) = nI (P 5 p) ∧ P 5 p < 25 ∧ P 6 p < 4 :=
  fun p hp => ⟨M.1.2.2.2.1 p hp, M.2.1.2.1 p hp, M.2.2.2.2.2.2.2.2.1 p hp⟩
theorem hf_M_h {o : Nat} {P : hP} {R : Nat → Nat → Int32} (M : hf_M o P R) : ∀ h, h < P 3 0 → (R 102 h = nI (P 7 h) ∧ R 103 h = nI (P 8 h) ∧ R 104 h = nI (P 9 h)) ∧ (R 105 (o + (6 + h)) = hf_mw (P 10 h) ∧ (P 10 h < 25 → R 105 (o + (12 + h)) = nI (P 10 h)) ∧ (P 10 h = 30 → R 105 (o + (12 + h)) = -1)) ∧ (P 7 h < 6 ∧ P 8 h < 10 ∧ P 9 h < 100 ∧ (P 10 h < 25 ∨ (25 ≤ P 10 h ∧ P 10 h < 25 + P 2 0) ∨ P 10 h = 30)) :=
  fun h hh => ⟨M.1.2.2.2.2 h hh, M.2.1.2.2 h hh, M.2.2.2.2.2.2.2.2.2 h hh⟩
theorem hf_M_wind {o g i j : Nat} {P : hP} {R : Nat → Nat → Int32} (M : hf_M o P R) (hg : g < 24) (hi : i < 4) (hj : j < 10) : hf_M o (hf_up (hf_up P 0 g i) 1 g j) (up2 (up2 R 99 g (nI i)) 100 g (nI j)) := by
  have rr : ∀ r k, r ≠ 0 → r ≠ 1 → hf_up (hf_up P 0 g i) 1 g j r k = P r k := fun r k h0 h1 => by rw [hf_up_r h1, hf_up_r h0]
  have ne : ∀ a k, a ≠ 99 → a ≠ 100 → up2 (up2 R 99 g (nI i)) 100 g (nI j) a k = R a k := fun a k h0 h1 => by rw [up2_a h1, up2_a h0]
  have o4 := M.2.2.2.2
  refine hf_M_mk (P := P) (R := R) ?_ M.2.2.2.1 ?_ ?_ ?_ ?_ ?_ ?_ ?_ ?_
  · rw [ne _ _ (by decide) (by decide)]; exact M.2.2.1
  · rw [ne _ _ (by decide) (by decide), rr _ _ (by decide) (by decide)]; exact M.1.1
  · rw [ne _ _ (by decide) (by decide), rr _ _ (by decide) (by decide)]; exact M.1.2.1
  · rw [rr _ _ (by decide) (by decide)]; exact o4.1
  · rw [rr _ _ (by decide) (by decide)]; exact o4.2.1
  · rw [ne _ _ (by decide) (by decide), rr _ _ (by decide) (by decide)]; exact ⟨o4.2.2.1, M.2.1.1⟩
  · intro k hk
    have mw := hf_M_w M k hk
    by_cases q : k = g
    · subst q
      rw [up2_a (show 99 ≠ 100 by decide), up2_s, up2_s, hf_up_r (show 0 ≠ 1 by decide), hf_up_s, hf_up_s]
      exact ⟨rfl, rfl, hi, hj⟩
    · rw [up2_k q, up2_k q, up2_k q, up2_k q, hf_up_j q, hf_up_j q, hf_up_j q, hf_up_j q]; exact mw
  · intro p hp
    rw [rr _ _ (by decide) (by decide)] at hp
    rw [ne _ _ (by decide) (by decide), ne _ _ (by decide) (by decide), rr _ _ (by decide) (by decide), rr _ _ (by decide) (by decide)]
    exact hf_M_p M p hp
  · intro h hh
    rw [rr _ _ (by decide) (by decide)] at hh
    rw [ne _ _ (by decide) (by decide), ne _ _ (by decide) (by decide), ne _ _ (by decide) (by decide), ne _ _ (by decide) (by decide), ne _ _ (by decide) (by decide), rr _ _ (by decide) (by decide), rr _ _ (by decide) (by decide), rr _ _ (by decide) (by decide), rr _ _ (by decide) (by decide), rr _ _ (by decide) (by decide)]
    exact hf_M_h M h hh
def a_windOf (P : hP) (v : Int32) : Int32 := match hxi 24 v with
  | none => -1
  | some g => nI (10 * P 0 g + P 1 g)
set_option maxHeartbeats 400000 in
theorem sp_mwindOf {d : Nat} (hd : 2 < d) {R : Nat → Nat → Int32} {X : hk_D} {Q : hk_Q} {v : Int32} {o : Nat} {P : hP} (M : hf_M o P R) (hQ : Q (some (.int (a_windOf P v))) (hw R X)) : hk_call d mM_windOf [.ref 98, .int v] (hw R X) Q := by
  obtain ⟨d, rfl⟩ : ∃ e, d = e + 1 := ⟨d - 1, by omega⟩
  unfold a_windOf at hQ
  refine hk_run2 (hk_call_m d) 100 ?_
  refine sp_misHour (by omega) (fun g hg e => ?_) (fun ng => ?_)
  · refine And.intro (fun c => absurd c (by decide)) (fun _ => ?_)
    rw [e, hxi_s hg (by omega)] at hQ
    dsimp only at hQ
    have mw := hf_M_w M g hg
    refine w_ld (j := g) (n := 24) e rfl hg (by omega) rfl mw.1 ?_
    refine w_ld (j := g) (n := 24) e rfl hg (by omega) rfl mw.2.1 ?_
    rw [← hn_add, ← hn_mul] at hQ
    exact hk_qe_of hQ
  · refine And.intro (fun _ => ?_) (fun c => absurd rfl c)
    rw [hxi_n (by omega) ng] at hQ
    exact hk_qe_of hQ
def o_wind (P : hP) (v a b : Int32) : Int32 × hP := match hxi 24 v with
  | none => (-1, P)
  | some g => match hxi 4 a with
    | none => (-1, P)
    | some i => match hxi 10 b with
      | none => (-1, P)
      | some j => (nI (10 * P 0 g + P 1 g), hf_up (hf_up P 0 g i) 1 g j)
set_option maxHeartbeats 400000 in
theorem sp_mwind {d : Nat} (hd : 3 < d) {R : Nat → Nat → Int32} {X : hk_D} {Q : hk_Q} {v a b : Int32} {P : hP} (M : hf_M 0 P R) (hQ : ∀ R', hf_M 0 (o_wind P v a b).2 R' → hfp R R' → Q (some (.int (o_wind P v a b).1)) (hw R' X)) : hk_call d mM_wind [.ref 98, .int v, .int a, .int b] (hw R X) Q := by
  obtain ⟨d, rfl⟩ : ∃ e, d = e + 1 := ⟨d - 1, by omega⟩
  unfold o_wind at hQ
  refine hk_run2 (hk_call_m d) 100 ?_
  refine sp_misHour (by omega) (fun g hg e => ?_) (fun ng => ?_)
  · refine And.intro (fun c => absurd c (by decide)) (fun _ => ?_)
    rw [e, hxi_s hg (by omega)] at hQ
    dsimp only at hQ
    refine sp_misWind (by omega) (fun i j hi hj ei ej => ?_) (fun nn => ?_)
    · refine And.intro (fun c => absurd c (by decide)) (fun _ => ?_)
      rw [ei, hxi_s hi (by omega), ej, hxi_s hj (by omega)] at hQ
      dsimp only at hQ
      refine sp_mwindOf (by omega) M ?_
      refine w_st (t := 0) (j := g) (n := 24) e rfl hg (by omega) rfl rfl ?_
      refine w_st (t := 0) (j := g) (n := 24) e rfl hg (by omega) rfl rfl ?_
      have ea : a_windOf P v = nI (10 * P 0 g + P 1 g) := by unfold a_windOf; rw [e, hxi_s hg (by omega)]
      rw [ea]
      refine hk_qe_of (hQ _ ?_ (hfp_tr (hfp_up (by omega)) (hfp_up (by omega))))
      rw [ei, ej]
      exact hf_M_wind M hg hi hj
    · refine And.intro (fun _ => ?_) (fun c => absurd rfl c)
      cases q1 : hxi 4 a with
      | none => rw [q1] at hQ; exact hk_qe_of (hQ R M hfp_rf)
      | some i =>
        cases q2 : hxi 10 b with
        | none => rw [q1, q2] at hQ; exact hk_qe_of (hQ R M hfp_rf)
        | some j =>
          have z1 := hxi_e (by omega) q1
          have z2 := hxi_e (by omega) q2
          exact absurd ⟨z1.2, z2.2⟩ (nn i j z1.1 z2.1)
  · refine And.intro (fun _ => ?_) (fun c => absurd rfl c)
    rw [hxi_n (by omega) ng] at hQ
    exact hk_qe_of (hQ R M hfp_rf)
def o_clock (P : hP) (v : Int32) : Int32 × hP := match hxi 97 v with
  | none => (-1, P)
  | some n => (nI (P 4 0), hf_up P 4 0 n)
set_option maxHeartbeats 400000 in
theorem sp_mclock {d : Nat} (hd : 1 < d) {R : Nat → Nat → Int32} {X : hk_D} {Q : hk_Q} {v : Int32} {P : hP} (M : hf_M 0 P R) (hQ : ∀ R', hf_M 0 (o_clock P v).2 R' → hfp R R' → Q (some (.int (o_clock P v).1)) (hw R' X)) : hk_call d mM_clock [.ref 98, .int v] (hw R X) Q := by
  obtain ⟨d, rfl⟩ : ∃ e, d = e + 1 := ⟨d - 1, by omega⟩
  unfold o_clock at hQ
  refine hk_run2 (hk_call_m d) 100 ?_
  refine sp_in (by omega) (n := 97) (by omega) (by decide) (fun n hn e => ?_) (fun nn => ?_)
  · refine And.intro (fun c => absurd c (by decide)) (fun _ => ?_)
    rw [e, hxi_s hn (by omega)] at hQ
    dsimp only at hQ
    refine w_ld (j := 0) (n := 36) rfl rfl (by omega) (by omega) rfl M.2.1.1 ?_
    refine w_st (t := 0) (j := 0) (n := 36) rfl rfl (by omega) (by omega) rfl rfl ?_
    refine hk_qe_of (hQ _ ?_ (hfp_up (by omega)))
    rw [e]
    exact hf_M_now M (by omega) (fun a k q => up2_n q) (up2_s _ _ _ _)
  · refine And.intro (fun _ => ?_) (fun c => absurd rfl c)
    rw [hxi_n (by omega) nn] at hQ
    exact hk_qe_of (hQ R M hfp_rf)
def o_moves (P : hP) (v w : Int32) : Int32 × hP := match hxi (P 2 0) v with
  | none => (-1, P)
  | some p => match hxi 25 w with
    | none => (-1, P)
    | some q => (nI (P 5 p), hf_up P 5 p q)
set_option maxHeartbeats 400000 in
theorem sp_mmoves {d : Nat} (hd : 2 < d) {R : Nat → Nat → Int32} {X : hk_D} {Q : hk_Q} {v w : Int32} {P : hP} (M : hf_M 0 P R) (hQ : ∀ R', hf_M 0 (o_moves P v w).2 R' → hfp R R' → Q (some (.int (o_moves P v w).1)) (hw R' X)) : hk_call d mM_moves [.ref 98, .int v, .int w] (hw R X) Q := by
  obtain ⟨d, rfl⟩ : ∃ e, d = e + 1 := ⟨d - 1, by omega⟩
  have h5 := M.2.2.2.2.1
  unfold o_moves at hQ
  refine hk_run2 (hk_call_m d) 100 ?_
  refine sp_misPerson (by omega) M.1.1 h5 (fun p hp e => ?_) (fun np => ?_)
  · refine And.intro (fun c => absurd c (by decide)) (fun _ => ?_)
    rw [e, hxi_s hp (by omega)] at hQ
    dsimp only at hQ
    refine sp_misPlace (by omega) (fun q hq eq => ?_) (fun nn => ?_)
    · refine And.intro (fun c => absurd c (by decide)) (fun _ => ?_)
      rw [eq, hxi_s hq (by omega)] at hQ
      dsimp only at hQ
      have ep := (hf_M_p M p hp).2.1
      rw [Nat.zero_add] at ep
      refine w_ld (j := 1 + p) (n := 36) (by rw [e, ← nI_add]; rfl) rfl (by omega) (by omega) rfl ep ?_
      refine w_st (t := 0) (j := 1 + p) (n := 36) (by rw [e, ← nI_add]; rfl) rfl (by omega) (by omega) rfl rfl ?_
      refine hk_qe_of (hQ _ ?_ (hfp_up (by omega)))
      rw [eq]
      exact hf_M_place M hp hq (fun a k z => up2_n (by omega)) (by rw [Nat.zero_add, up2_s])
    · refine And.intro (fun _ => ?_) (fun c => absurd rfl c)
      rw [hxi_n (by omega) nn] at hQ
      exact hk_qe_of (hQ R M hfp_rf)
  · refine And.intro (fun _ => ?_) (fun c => absurd rfl c)
    rw [hxi_n (by omega) np] at hQ
    exact hk_qe_of (hQ R M hfp_rf)
def o_found (P : hP) (v w : Int32) : Int32 × hP := match hxi (P 3 0) v with
  | none => (-1, P)
  | some j => match hxi 25 w with
    | none => (-1, P)
    | some q => if P 10 j = 30 then (1, hf_up P 10 j q) else (-4, P)
set_option maxHeartbeats 400000 in
theorem sp_mfound {d : Nat} (hd : 2 < d) {R : Nat → Nat → Int32} {X : hk_D} {Q : hk_Q} {v w : Int32} {P : hP} (M : hf_M 0 P R) (hQ : ∀ R', hf_M 0 (o_found P v w).2 R' → hfp R R' → Q (some (.int (o_found P v w).1)) (hw R' X)) : hk_call d mM_found [.ref 98, .int v, .int w] (hw R X) Q := by
  obtain ⟨d, rfl⟩ : ∃ e, d = e + 1 := ⟨d - 1, by omega⟩
  have h6 := M.2.2.2.2.2.1
  unfold o_found at hQ
  refine hk_run2 (hk_call_m d) 100 ?_
  refine sp_misHat (by omega) M.1.2.1 h6 (fun j hj e => ?_) (fun np => ?_)
  · refine And.intro (fun c => absurd c (by decide)) (fun _ => ?_)
    rw [e, hxi_s hj (by omega)] at hQ
    dsimp only at hQ
    refine sp_misPlace (by omega) (fun q hq eq => ?_) (fun nn => ?_)
    · refine And.intro (fun c => absurd c (by decide)) (fun _ => ?_)
      rw [eq, hxi_s hq (by omega)] at hQ
      dsimp only at hQ
      refine sp_isGone (by omega) M hj e (fun hg => ?_) (fun hg => ?_)
      · refine And.intro (fun c => absurd c (by decide)) (fun _ => ?_)
        rw [if_pos hg] at hQ
        refine w_st (t := 0) (j := 12 + j) (n := 36) (by rw [e, ← nI_add]; rfl) rfl (by omega) (by omega) rfl rfl ?_
        refine hk_qe_of (hQ _ ?_ (hfp_up (by omega)))
        rw [eq]
        have mw := (hf_M_h M j hj).2.1.1
        rw [hg] at mw
        refine hf_M_hat M hj (Or.inl hq) (fun a k z => up2_n (by omega)) ?_ (fun _ => by rw [Nat.zero_add, up2_s]) (fun z => by omega)
        rw [up2_k (by omega), mw, hf_mw_n (by omega), hf_mw_n (by omega)]
      · refine And.intro (fun _ => ?_) (fun c => absurd rfl c)
        rw [if_neg hg] at hQ
        exact hk_qe_of (hQ R M hfp_rf)
    · refine And.intro (fun _ => ?_) (fun c => absurd rfl c)
      rw [hxi_n (by omega) nn] at hQ
      exact hk_qe_of (hQ R M hfp_rf)
  · refine And.intro (fun _ => ?_) (fun c => absurd rfl c)
    rw [hxi_n (by omega) np] at hQ
    exact hk_qe_of (hQ R M hfp_rf)
def o_hours (P : hP) (v : Int32) : Int32 × hP := match hxi 49 v with
  | none => (-1, P)
  | some n => (nI (hf_hours n P 4 0), hf_hours n P)
set_option maxHeartbeats 400000 in
theorem sp_mhours {d : Nat} (hd : 6 < d) {R : Nat → Nat → Int32} {X : hk_D} {Q : hk_Q} {v : Int32} {P : hP} (M : hf_M 0 P R) (hQ : ∀ R', hf_M 0 (o_hours P v).2 R' → hfp R R' → Q (some (.int (o_hours P v).1)) (hw R' X)) : hk_call d mM_hours [.ref 98, .int v] (hw R X) Q := by
  obtain ⟨d, rfl⟩ : ∃ e, d = e + 1 := ⟨d - 1, by omega⟩
  unfold o_hours at hQ
  refine hk_run2 (hk_call_m d) 100 ?_
  refine sp_misTrial (by omega) (fun n hn e => ?_) (fun nn => ?_)
  · refine And.intro (fun c => absurd c (by decide)) (fun _ => ?_)
    rw [e, hxi_s hn (by omega)] at hQ
    dsimp only at hQ
    refine sp_mgo (by omega) M e (by omega) (fun R' M' f => ?_)
    refine w_ld (j := 0) (n := 36) rfl rfl (by omega) (by omega) rfl M'.2.1.1 ?_
    exact hk_qe_of (hQ R' M' (hfp_r f))
  · refine And.intro (fun _ => ?_) (fun c => absurd rfl c)
    rw [hxi_n (by omega) nn] at hQ
    exact hk_qe_of (hQ R M hfp_rf)
