/-! THE REFERENCE: a text becomes the plain -/
set_option maxHeartbeats 1000000 in
theorem sp_mturnsInto {d : Nat} (hd : 0 < d) {R0 : Nat → Nat → Int32} {X : hk_D} {Q : hk_Q} {P : hP} (F : hf_F P R0) (h9 : R0 98 9 = nI 0) (hQ : ∀ R', hf_M 0 P R' → (∀ a k, ¬ (99 ≤ a ∧ a ≤ 105) → ¬ (a = 98 ∧ (k = 2 ∨ k = 4)) → R' a k = R0 a k) → Q none (hw R' X)) : hk_call d mM_turnsInto [.ref 98] (hw R0 X) Q := by
  obtain ⟨d, rfl⟩ : ∃ e, d = e + 1 := ⟨d - 1, by omega⟩
  obtain ⟨f1, f2, f3, f4, f5, f6, f7, f8⟩ := F
  have n5 := f7.1
  have n6 := f7.2.1
  have L3 : ∀ j, j ≤ 6 → ∀ R, (∀ a k, ¬ (99 ≤ a ∧ a ≤ 105) → ¬ (a = 98 ∧ (k = 2 ∨ k = 4)) → R a k = R0 a k) → R 98 2 = R0 98 19 → R 98 4 = R0 98 20 → R 105 0 = R0 98 21 → (∀ k, k < 24 → R 99 k = R0 114 k ∧ R 100 k = R0 115 k) → (∀ k, k < 5 → R 105 (1 + k) = R0 107 k ∧ R 101 k = R0 108 k) → (∀ k, k < j → R 102 k = R0 109 k ∧ R 103 k = R0 110 k ∧ R 104 k = R0 111 k ∧ R 105 (6 + k) = R0 112 k ∧ R 105 (12 + k) = R0 113 k) → hk_wp none 0 0 hk_dft cM_turnsInto (hk_call d) (hk_qe Q) 64 [(1, .int (nI j)), (0, .ref 98)] [] (hw R X) 0 0 := by
    refine hk_for ?_ ?_
    · intro R fr r2 r4 r0 rw0 rp rh
      refine hk_run2 (hk_call_m d) 100 ?_
      refine And.intro (fun c => ?_) (fun c => absurd (by decide) c)
      refine hk_qe_of (hQ R (hf_M_mk (P := P) (R := R) (by rw [fr 98 9 (by omega) (by omega)]; exact h9) (by omega) (r2.trans f1) (r4.trans f2) n5 n6 ⟨f7.2.2.1, r0.trans f3⟩ (fun j hj => ?_) (fun p hp => ?_) (fun h hh => ?_)) fr)
      · rw [(rw0 j hj).1, (rw0 j hj).2, (f4 j hj).1, (f4 j hj).2]
        exact ⟨rfl, rfl, f7.2.2.2.1 j hj⟩
      · rw [Nat.zero_add, (rp p (by omega)).1, (rp p (by omega)).2, (f5 p hp).1, (f5 p hp).2]
        exact ⟨rfl, rfl, f7.2.2.2.2.1 p hp⟩
      · obtain ⟨z1, z2, z3, z4, z5⟩ := rh h (by omega)
        obtain ⟨g1, g2, g3, g4, g5, g6⟩ := f6 h hh
        rw [Nat.zero_add, Nat.zero_add, z1, z2, z3, z4, z5]
        exact ⟨⟨g1, g2, g3⟩, ⟨g4, g5, fun q => by omega⟩, f7.2.2.2.2.2 h hh⟩
    · intro j hj ih R fr r2 r4 r0 rw0 rp rh
      refine hk_run2 (hk_call_m d) 100 ?_
      refine And.intro (fun c => absurd c (show ¬ nI 6 ≤ nI j from nI_ge hj (by omega))) (fun c => ?_)
      refine w_ld (j := j) (n := 6) rfl rfl hj (by omega) rfl (fr 109 j (by omega) (by omega)) ?_
      refine w_st (t := 0) (j := j) (n := 6) rfl rfl hj (by omega) rfl rfl ?_
      refine w_ld (j := j) (n := 6) rfl rfl hj (by omega) rfl ((up2_a (by decide)).trans (fr 110 j (by omega) (by omega))) ?_
      refine w_st (t := 0) (j := j) (n := 6) rfl rfl hj (by omega) rfl rfl ?_
      refine w_ld (j := j) (n := 6) rfl rfl hj (by omega) rfl ((up2_a (by decide)).trans ((up2_a (by decide)).trans (fr 111 j (by omega) (by omega)))) ?_
      refine w_st (t := 0) (j := j) (n := 6) rfl rfl hj (by omega) rfl rfl ?_
      refine w_ld (j := j) (n := 6) rfl rfl hj (by omega) rfl ((up2_a (by decide)).trans ((up2_a (by decide)).trans ((up2_a (by decide)).trans (fr 112 j (by omega) (by omega))))) ?_
      refine w_st (t := 0) (j := 6 + j) (n := 36) (hn_add 6 j) rfl (by omega) (by omega) rfl rfl ?_
      refine w_ld (j := j) (n := 6) rfl rfl hj (by omega) rfl ((up2_a (by decide)).trans ((up2_a (by decide)).trans ((up2_a (by decide)).trans ((up2_a (by decide)).trans (fr 113 j (by omega) (by omega)))))) ?_
      refine w_st (t := 0) (j := 12 + j) (n := 36) (hn_add 12 j) rfl (by omega) (by omega) rfl rfl ?_
      have ff : ∀ a k, ¬ (a = 102 ∧ k = j) → ¬ (a = 103 ∧ k = j) → ¬ (a = 104 ∧ k = j) → ¬ (a = 105 ∧ (k = 6 + j ∨ k = 12 + j)) → up2 (up2 (up2 (up2 (up2 R 102 j (R0 109 j)) 103 j (R0 110 j)) 104 j (R0 111 j)) 105 (6 + j) (R0 112 j)) 105 (12 + j) (R0 113 j) a k = R a k := fun a k q1 q2 q3 q4 => by
        rw [up2_n (by omega), up2_n (by omega), up2_n q3, up2_n q2, up2_n q1]
      refine Exists.intro [0, 1] ?_
      rw [nI_1]
      refine hk_stop2 (hk_call_m d) (ih _ (fun a k q1 q2 => ?_) ?_ ?_ ?_ (fun k hk => ?_) (fun k hk => ?_) (fun k hk => ?_))
      · rw [ff a k (by omega) (by omega) (by omega) (by omega)]; exact fr a k q1 q2
      · rw [ff _ _ (by omega) (by omega) (by omega) (by omega)]; exact r2
      · rw [ff _ _ (by omega) (by omega) (by omega) (by omega)]; exact r4
      · rw [ff _ _ (by omega) (by omega) (by omega) (by omega)]; exact r0
      · rw [ff _ _ (by omega) (by omega) (by omega) (by omega), ff _ _ (by omega) (by omega) (by omega) (by omega)]; exact rw0 k hk
      · rw [ff _ _ (by omega) (by omega) (by omega) (by omega), ff _ _ (by omega) (by omega) (by omega) (by omega)]; exact rp k hk
      · by_cases e : k = j
        · subst e
          refine ⟨?_, ?_, ?_, ?_, up2_s _ _ _ _⟩
          · rw [up2_a (by decide), up2_a (by decide), up2_a (by decide), up2_a (by decide), up2_s]
          · rw [up2_a (by decide), up2_a (by decide), up2_a (by decide), up2_s]
          · rw [up2_a (by decide), up2_a (by decide), up2_s]
          · rw [up2_k (by omega), up2_s]
        · rw [ff _ _ (by omega) (by omega) (by omega) (by omega), ff _ _ (by omega) (by omega) (by omega) (by omega), ff _ _ (by omega) (by omega) (by omega) (by omega), ff _ _ (by omega) (by omega) (by omega) (by omega), ff _ _ (by omega) (by omega) (by omega) (by omega)]
          exact rh k (by omega)
  have L2 : ∀ j, j ≤ 5 → ∀ R, (∀ a k, ¬ (99 ≤ a ∧ a ≤ 105) → ¬ (a = 98 ∧ (k = 2 ∨ k = 4)) → R a k = R0 a k) → R 98 2 = R0 98 19 → R 98 4 = R0 98 20 → R 105 0 = R0 98 21 → (∀ k, k < 24 → R 99 k = R0 114 k ∧ R 100 k = R0 115 k) → (∀ k, k < j → R 105 (1 + k) = R0 107 k ∧ R 101 k = R0 108 k) → hk_wp none 0 0 hk_dft cM_turnsInto (hk_call d) (hk_qe Q) 39 [(1, .int (nI j)), (0, .ref 98)] [] (hw R X) 0 0 := by
    refine hk_for ?_ ?_
    · intro R fr r2 r4 r0 rw0 rp
      refine hk_run2 (hk_call_m d) 3 ?_
      refine And.intro (fun c => ?_) (fun c => absurd (by decide) c)
      refine hk_stop2 (hk_call_m d) (hk_run2 (hk_call_m d) 2 ?_)
      exact L3 0 (Nat.zero_le _) R fr r2 r4 r0 rw0 rp (fun k hk => absurd hk (Nat.not_lt_zero k))
    · intro j hj ih R fr r2 r4 r0 rw0 rp
      refine hk_run2 (hk_call_m d) 100 ?_
      refine And.intro (fun c => absurd c (show ¬ nI 5 ≤ nI j from nI_ge hj (by omega))) (fun c => ?_)
      refine w_ld (j := j) (n := 5) rfl rfl hj (by omega) rfl (fr 107 j (by omega) (by omega)) ?_
      refine w_st (t := 0) (j := 1 + j) (n := 36) (hn_add 1 j) rfl (by omega) (by omega) rfl rfl ?_
      refine w_ld (j := j) (n := 5) rfl rfl hj (by omega) rfl ((up2_a (by decide)).trans (fr 108 j (by omega) (by omega))) ?_
      refine w_st (t := 0) (j := j) (n := 5) rfl rfl hj (by omega) rfl rfl ?_
      have ff : ∀ a k, ¬ (a = 105 ∧ k = 1 + j) → ¬ (a = 101 ∧ k = j) → up2 (up2 R 105 (1 + j) (R0 107 j)) 101 j (R0 108 j) a k = R a k := fun a k q1 q2 => by
        rw [up2_n q2, up2_n q1]
      refine Exists.intro [0, 1] ?_
      rw [nI_1]
      refine hk_stop2 (hk_call_m d) (ih _ (fun a k q1 q2 => ?_) ?_ ?_ ?_ (fun k hk => ?_) (fun k hk => ?_))
      · rw [ff a k (by omega) (by omega)]; exact fr a k q1 q2
      · rw [ff _ _ (by omega) (by omega)]; exact r2
      · rw [ff _ _ (by omega) (by omega)]; exact r4
      · rw [ff _ _ (by omega) (by omega)]; exact r0
      · rw [ff _ _ (by omega) (by omega), ff _ _ (by omega) (by omega)]; exact rw0 k hk
      · by_cases e : k = j
        · subst e
          exact ⟨by rw [up2_a (by decide), up2_s], up2_s _ _ _ _⟩
        · rw [ff _ _ (by omega) (by omega), ff _ _ (by omega) (by omega)]
          exact rp k (by omega)
  have L1 : ∀ j, j ≤ 24 → ∀ R, (∀ a k, ¬ (99 ≤ a ∧ a ≤ 105) → ¬ (a = 98 ∧ (k = 2 ∨ k = 4)) → R a k = R0 a k) → R 98 2 = R0 98 19 → R 98 4 = R0 98 20 → R 105 0 = R0 98 21 → (∀ k, k < j → R 99 k = R0 114 k ∧ R 100 k = R0 115 k) → hk_wp none 0 0 hk_dft cM_turnsInto (hk_call d) (hk_qe Q) 16 [(1, .int (nI j)), (0, .ref 98)] [] (hw R X) 0 0 := by
    refine hk_for ?_ ?_
    · intro R fr r2 r4 r0 rw0
      refine hk_run2 (hk_call_m d) 3 ?_
      refine And.intro (fun c => ?_) (fun c => absurd (by decide) c)
      refine hk_stop2 (hk_call_m d) (hk_run2 (hk_call_m d) 2 ?_)
      exact L2 0 (Nat.zero_le _) R fr r2 r4 r0 rw0 (fun k hk => absurd hk (Nat.not_lt_zero k))
    · intro j hj ih R fr r2 r4 r0 rw0
      refine hk_run2 (hk_call_m d) 100 ?_
      refine And.intro (fun c => absurd c (show ¬ nI 24 ≤ nI j from nI_ge hj (by omega))) (fun c => ?_)
      refine w_ld (j := j) (n := 24) rfl rfl hj (by omega) rfl (fr 114 j (by omega) (by omega)) ?_
      refine w_st (t := 0) (j := j) (n := 24) rfl rfl hj (by omega) rfl rfl ?_
      refine w_ld (j := j) (n := 24) rfl rfl hj (by omega) rfl ((up2_a (by decide)).trans (fr 115 j (by omega) (by omega))) ?_
      refine w_st (t := 0) (j := j) (n := 24) rfl rfl hj (by omega) rfl rfl ?_
      have ff : ∀ a k, ¬ (a = 99 ∧ k = j) → ¬ (a = 100 ∧ k = j) → up2 (up2 R 99 j (R0 114 j)) 100 j (R0 115 j) a k = R a k := fun a k q1 q2 => by
        rw [up2_n q2, up2_n q1]
      refine Exists.intro [0, 1] ?_
      rw [nI_1]
      refine hk_stop2 (hk_call_m d) (ih _ (fun a k q1 q2 => ?_) ?_ ?_ ?_ (fun k hk => ?_))
      · rw [ff a k (by omega) (by omega)]; exact fr a k q1 q2
      · rw [ff _ _ (by omega) (by omega)]; exact r2
      · rw [ff _ _ (by omega) (by omega)]; exact r4
      · rw [ff _ _ (by omega) (by omega)]; exact r0
      · by_cases e : k = j
        · subst e
          exact ⟨by rw [up2_a (by decide), up2_s], up2_s _ _ _ _⟩
        · rw [ff _ _ (by omega) (by omega), ff _ _ (by omega) (by omega)]
          exact rw0 k (by omega)
  refine hk_run2 (hk_call_m d) 16 ?_
  refine w_put trivial rfl rfl ?_
  refine w_put trivial rfl rfl ?_
  refine w_st (t := 0) (j := 0) (n := 36) rfl rfl (by omega) (by omega) rfl rfl ?_
  refine L1 0 (Nat.zero_le _) _ (fun a k q1 q2 => ?_) ?_ ?_ ?_ (fun k hk => absurd hk (Nat.not_lt_zero k))
  · rw [up2_a (by omega), up2_n (by omega), up2_n (by omega)]
  · rw [up2_a (by decide), up2_k (by decide), up2_s]
  · rw [up2_a (by decide), up2_s, up2_k (by decide)]
  · rw [up2_s, up2_k (by decide), up2_k (by decide)]
def p_end (L : Nat) (B : Nat → Nat) : hPs := p_all L B 200 (tk L B 0, 999, hf_nil)
def o_plain (P : hP) (L : Nat) (B : Nat → Nat) : Int32 × hP := if (p_end L B).2.1 = 999 then (nI ((p_end L B).2.2 3 0), (p_end L B).2.2) else (-100 - nI (p_end L B).2.1, P)
theorem hf_F_nil {R : Nat → Nat → Int32} (h1 : R 98 19 = 0) (h2 : R 98 20 = 0) (h3 : R 98 21 = 0) (h4 : ∀ j, j < 24 → R 114 j = 0 ∧ R 115 j = 0) : hf_F hf_nil R := ⟨h1, h2, h3, h4, fun p hp => absurd hp (Nat.not_lt_zero p), fun p hp => absurd hp (Nat.not_lt_zero p), hf_ok_nil, Nat.zero_le _⟩
set_option maxHeartbeats 1000000 in
theorem sp_mplain {d : Nat} (hd : 6 < d) {R0 : Nat → Nat → Int32} {X0 : hk_D} {Q : hk_Q} {L : Nat} {B : Nat → Nat} {P : hP} (T0 : hf_tp L B R0) (M : hf_M 0 P R0) (h96 : P 4 0 ≤ 96) (hQ : ∀ R' X', hf_M 0 (o_plain P L B).2 R' → (o_plain P L B).2 4 0 ≤ 96 → R' 98 12 = 0 → ((p_end L B).2.1 = 999 → R' 98 33 = 0) → (¬ (p_end L B).2.1 = 999 → R' 98 33 = R0 98 33) → (∀ a k, ¬ (99 ≤ a ∧ a ≤ 105) → ¬ (107 ≤ a ∧ a ≤ 115) → ¬ (a = 98 ∧ (k = 2 ∨ k = 4 ∨ k = 12 ∨ (13 ≤ k ∧ k ≤ 21) ∨ k = 33)) → R' a k = R0 a k) → X'.2 = X0.2 → Q (some (.int (o_plain P L B).1)) (hw R' X')) : hk_call d mM_plain [.ref 98] (hw R0 X0) Q := by
  obtain ⟨d, rfl⟩ : ∃ e, d = e + 1 := ⟨d - 1, by omega⟩
  have hL := T0.1
  unfold o_plain at hQ
  have Lp : ∀ f (σ : hPs) R X v1, hf_RL L B σ R X → hfy R0 R → X.2 = X0.2 → 200 ≤ σ.1.1 + f → p_all L B f σ = p_end L B → hk_wp (some .int) 0 0 hk_dft cM_plain (hk_call d) (hk_qe Q) 34 [(1, .int v1), (0, .ref 98)] [] (hw R X) 0 0 := by
    intro f
    have fin : ∀ (σ : hPs) R X v1, hf_RL L B σ R X → hfy R0 R → X.2 = X0.2 → (σ.2.1 = 999 → σ.1.2.1 = 0) → σ = p_end L B → hk_wp (some .int) 0 0 hk_dft cM_plain (hk_call d) (hk_qe Q) 43 [(1, .int v1), (0, .ref 98)] [] (hw R X) 0 0 := by
      intro σ R X v1 H fr xx h0 es
      refine hk_run2 (hk_call_m d) 100 ?_
      refine w_put trivial rfl rfl ?_
      rw [← es] at hQ
      clear es
      by_cases h : σ.2.1 = 999
      · obtain ⟨g, t, w, F⟩ := H.1 h
        rw [if_pos h] at hQ
        refine And.intro (fun c => by rw [up2_k (by decide), g] at c; exact absurd c (by decide)) (fun _ => ?_)
        have F1 : hf_F σ.2.2 (up2 R 98 12 0) := hf_F_f F (fun a k q => up2_n (by omega))
        have h9 : up2 R 98 12 0 98 9 = nI 0 := by rw [up2_k (by decide), fr 98 9 (by omega) (by omega)]; exact M.2.2.1
        refine sp_mturnsInto (by omega) F1 h9 (fun R2 M2 f2 => ?_)
        refine w_put trivial rfl rfl ?_
        have M3 : hf_M 0 σ.2.2 (up2 R2 98 33 0) := hf_M_eq M2 (fun a k q => up2_n (by omega))
        refine hk_qe_of ?_
        rw [up2_k (show 4 ≠ 33 by decide), M2.1.2.1]
        refine hQ _ X M3 F.2.2.2.2.2.2.2 ?_ (fun _ => up2_s _ _ _ _) (fun z => absurd h z) (fun a k q1 q2 q3 => ?_) xx
        · rw [up2_k (by decide), f2 98 12 (by omega) (by omega), up2_s]
        · rw [up2_n (by omega), f2 a k q1 (by omega), up2_n (by omega)]; exact fr a k q2 (by omega)
      · obtain ⟨g, t, w⟩ := H.2 h
        rw [if_neg h] at hQ
        refine And.intro (fun _ => ?_) (fun c => absurd (by rw [up2_k (by decide)]; exact g) c)
        refine hk_qe_of ?_
        rw [up2_k (show 14 ≠ 12 by decide), t]
        refine hQ _ X (hf_M_eq M (fun a k q => ?_)) h96 (up2_s _ _ _ _) (fun z => absurd z h) (fun _ => ?_) (fun a k q1 q2 q3 => ?_) xx
        · rw [up2_n (by omega)]; exact fr a k (by omega) (by omega)
        · rw [up2_k (by decide)]; exact fr 98 33 (by omega) (by omega)
        · rw [up2_n (by omega)]; exact fr a k q2 (by omega)
    induction f with
    | zero =>
      intro σ R X v1 H fr xx hp es
      have es : σ = p_end L B := es
      have h0 : σ.2.1 = 999 → σ.1.2.1 = 0 := fun h => Classical.byContradiction (fun z => by
        have w := (H.1 h).2.2.1
        have := w.2.2.2.1 z
        have := w.2.1
        omega)
      refine hk_run2 (hk_call_m d) 100 ?_
      by_cases h : σ.2.1 = 999
      · obtain ⟨g, t, w, F⟩ := H.1 h
        refine And.intro (fun c => by rw [g] at c; exact absurd c (by decide)) (fun _ => ?_)
        refine And.intro (fun _ => ?_) (fun c => absurd (by rw [t.1, h0 h]; rfl) c)
        exact hk_stop2 (hk_call_m d) (fin σ R X v1 H fr xx h0 es)
      · obtain ⟨g, t, w⟩ := H.2 h
        refine And.intro (fun _ => ?_) (fun c => absurd g c)
        exact hk_stop2 (hk_call_m d) (fin σ R X v1 H fr xx h0 es)
    | succ f ih =>
      intro σ R X v1 H fr xx hp es
      refine hk_run2 (hk_call_m d) 100 ?_
      by_cases h : σ.2.1 = 999
      · obtain ⟨g, t, w, F⟩ := H.1 h
        have s3 := w.2.2.1
        refine And.intro (fun c => by rw [g] at c; exact absurd c (by decide)) (fun _ => ?_)
        by_cases z : σ.1.2.1 = 0
        · refine And.intro (fun _ => ?_) (fun c => absurd (by rw [t.1, z]; rfl) c)
          rw [p_all, if_neg (fun y => y.2 z)] at es
          exact hk_stop2 (hk_call_m d) (fin σ R X v1 H fr xx (fun _ => z) es)
        · refine And.intro (fun c => by rw [t.1] at c; exact absurd ((nI_eq (b := 0) (by omega) (by omega)).mp c) z) (fun _ => ?_)
          rw [p_all, if_pos ⟨h, z⟩] at es
          refine sp_mwantClause (by omega) (hf_tp_y T0 fr) H h (fun R2 X2 H2 f2 x2 => ?_)
          refine Exists.intro [0, 1] ?_
          by_cases h2 : (p_one L B σ).2.1 = 999
          · have mv := p_mv_one hL w h h2
            have lt := w.2.2.2.1 z
            exact hk_stop2 (hk_call_m d) (ih _ R2 X2 v1 H2 (hfy_tr fr f2) (x2.trans xx) (by omega) es)
          · have e2 : p_all L B f (p_one L B σ) = p_one L B σ := by
              cases f with
              | zero => rfl
              | succ f => rw [p_all, if_neg (fun y => h2 y.1)]
            rw [e2] at es
            obtain ⟨g2, t2, w2⟩ := H2.2 h2
            refine hk_stop2 (hk_call_m d) (hk_run2 (hk_call_m d) 100 ?_)
            refine And.intro (fun _ => ?_) (fun c => absurd g2 c)
            exact hk_stop2 (hk_call_m d) (fin _ R2 X2 v1 H2 (hfy_tr fr f2) (x2.trans xx) (fun y => absurd y h2) es)
      · obtain ⟨g, t, w⟩ := H.2 h
        refine And.intro (fun _ => ?_) (fun c => absurd g c)
        rw [p_all, if_neg (fun y => h y.1)] at es
        exact hk_stop2 (hk_call_m d) (fin σ R X v1 H fr xx (fun y => absurd y h) es)
  have Lz : ∀ j, j ≤ 24 → ∀ R, hfy R0 R → R 98 15 = 0 → R 98 18 = 1 → R 98 19 = 0 → R 98 20 = 0 → R 98 21 = 0 → (∀ k, k < j → R 114 k = 0 ∧ R 115 k = 0) → hk_wp (some .int) 0 0 hk_dft cM_plain (hk_call d) (hk_qe Q) 17 [(1, .int (nI j)), (0, .ref 98)] [] (hw R X0) 0 0 := by
    refine hk_for ?_ ?_
    · intro R fr r15 r18 r19 r20 r21 rz
      refine hk_run2 (hk_call_m d) 100 ?_
      refine And.intro (fun c => ?_) (fun c => absurd (by decide) c)
      refine sp_madvance (e := 0) (by omega) (hf_tp_y T0 fr) r15 (Nat.zero_le _) (fun R1 X1 t1 f1 x1 => ?_)
      refine w_rn (hk_stop2 (hk_call_m d) (Lp 200 (tk L B 0, 999, hf_nil) R1 X1 _ ⟨fun _ => ⟨?_, t1, (tk_w 0 (Nat.zero_le _) hL).1, ?_⟩, fun z => absurd rfl z⟩ (hfy_tr fr (hfy_z f1)) x1 (by omega) rfl))
      · rw [f1 98 18 (by omega)]; exact r18
      · refine hf_F_nil ?_ ?_ ?_ (fun k hk => ⟨?_, ?_⟩)
        · rw [f1 98 19 (by omega)]; exact r19
        · rw [f1 98 20 (by omega)]; exact r20
        · rw [f1 98 21 (by omega)]; exact r21
        · rw [f1 114 k (by omega)]; exact (rz k hk).1
        · rw [f1 115 k (by omega)]; exact (rz k hk).2
    · intro j hj ih R fr r15 r18 r19 r20 r21 rz
      refine hk_run2 (hk_call_m d) 100 ?_
      refine And.intro (fun c => absurd c (show ¬ nI 24 ≤ nI j from nI_ge hj (by omega))) (fun c => ?_)
      refine w_st (t := 0) (j := j) (n := 24) rfl rfl hj (by omega) rfl rfl ?_
      refine w_st (t := 0) (j := j) (n := 24) rfl rfl hj (by omega) rfl rfl ?_
      refine Exists.intro [0, 1] ?_
      rw [nI_1]
      refine hk_stop2 (hk_call_m d) (ih _ (hfy_tr fr (hfy_tr (hfy_a (by omega)) (hfy_a (by omega)))) ?_ ?_ ?_ ?_ ?_ (fun k hk => ?_))
      · rw [up2_a (by decide), up2_a (by decide)]; exact r15
      · rw [up2_a (by decide), up2_a (by decide)]; exact r18
      · rw [up2_a (by decide), up2_a (by decide)]; exact r19
      · rw [up2_a (by decide), up2_a (by decide)]; exact r20
      · rw [up2_a (by decide), up2_a (by decide)]; exact r21
      · by_cases e : k = j
        · subst e
          exact ⟨by rw [up2_a (by decide), up2_s], up2_s _ _ _ _⟩
        · rw [up2_k e, up2_k e, up2_k e, up2_k e]; exact rz k (by omega)
  refine hk_run2 (hk_call_m d) 17 ?_
  refine w_put trivial rfl rfl ?_
  refine w_put (by decide) rfl rfl ?_
  refine w_put trivial rfl rfl ?_
  refine w_put trivial rfl rfl ?_
  refine w_put trivial rfl rfl ?_
  refine Lz 0 (Nat.zero_le _) _ (hfy_tr (hfy_98 (by omega)) (hfy_tr (hfy_98 (by omega)) (hfy_tr (hfy_98 (by omega)) (hfy_tr (hfy_98 (by omega)) (hfy_98 (by omega)))))) ?_ ?_ ?_ ?_ (up2_s _ _ _ _) (fun k hk => absurd hk (Nat.not_lt_zero k))
  · rw [up2_k (by decide), up2_k (by decide), up2_k (by decide), up2_k (by decide), up2_s]
  · rw [up2_k (by decide), up2_k (by decide), up2_k (by decide), up2_s]
  · rw [up2_k (by decide), up2_k (by decide), up2_s]
  · rw [up2_k (by decide), up2_s]
