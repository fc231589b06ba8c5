/-! THE REFERENCE: a new hat; what a person or a hat is -/
def hf_addh (P : hP) (k a w q : Nat) : hP := hf_up (hf_up (hf_up (hf_up (hf_up P 7 (P 3 0) k) 8 (P 3 0) a) 9 (P 3 0) w) 10 (P 3 0) q) 3 0 (P 3 0 + 1)
theorem hf_M_addh {k a w q : Nat} {P : hP} {R : Nat → Nat → Int32} (M : hf_M 0 P R) (hn : P 3 0 < 6) (hk : k < 6) (ha : a < 10) (hw : w < 100) (hq : q < 25) : hf_M 0 (hf_addh P k a w q) (up2 (up2 (up2 (up2 (up2 (up2 R 102 (P 3 0) (nI k)) 103 (P 3 0) (nI a)) 104 (P 3 0) (nI w)) 105 (6 + P 3 0) (-1)) 105 (12 + P 3 0) (nI q)) 98 4 (nI (P 3 0 + 1))) := by
  have rr : ∀ r i, r ≠ 7 → r ≠ 8 → r ≠ 9 → r ≠ 10 → r ≠ 3 → hf_addh P k a w q r i = P r i := fun r i h7 h8 h9 h10 h3 => by unfold hf_addh; rw [hf_up_r h3, hf_up_r h10, hf_up_r h9, hf_up_r h8, hf_up_r h7]
  have o4 := M.2.2.2.2
  have h5 := o4.1
  have n3 : hf_addh P k a w q 3 0 = P 3 0 + 1 := hf_up_s _ _ _ _
  have n2 : hf_addh P k a w q 2 0 = P 2 0 := rr _ _ (by decide) (by decide) (by decide) (by decide) (by decide)
  have ne : ∀ b i, ¬ ((b = 102 ∨ b = 103 ∨ b = 104) ∧ i = P 3 0) → ¬ (b = 105 ∧ (i = 6 + P 3 0 ∨ i = 12 + P 3 0)) → ¬ (b = 98 ∧ i = 4) → up2 (up2 (up2 (up2 (up2 (up2 R 102 (P 3 0) (nI k)) 103 (P 3 0) (nI a)) 104 (P 3 0) (nI w)) 105 (6 + P 3 0) (-1)) 105 (12 + P 3 0) (nI q)) 98 4 (nI (P 3 0 + 1)) b i = R b i := fun b i h1 h2 h3 => by rw [up2_n (by omega), up2_n (by omega), up2_n (by omega), up2_n (by omega), up2_n (by omega), up2_n (by omega)]
  refine hf_M_mk (P := P) (R := R) ?_ M.2.2.2.1 ?_ ?_ ?_ ?_ ?_ ?_ ?_ ?_
  · rw [ne _ _ (by omega) (by omega) (by omega)]; exact M.2.2.1
  · rw [ne _ _ (by omega) (by omega) (by omega), n2]; exact M.1.1
  · rw [up2_s, n3]
  · rw [n2]; exact o4.1
  · rw [n3]; omega
  · rw [ne _ _ (by omega) (by omega) (by omega), rr _ _ (by decide) (by decide) (by decide) (by decide) (by decide)]; exact ⟨o4.2.2.1, M.2.1.1⟩
  · intro i hi
    rw [ne _ _ (by omega) (by omega) (by omega), ne _ _ (by omega) (by omega) (by omega), rr _ _ (by decide) (by decide) (by decide) (by decide) (by decide), rr _ _ (by decide) (by decide) (by decide) (by decide) (by decide)]; exact hf_M_w M i hi
  · intro i hi
    rw [n2] at hi
    rw [ne _ _ (by omega) (by omega) (by omega), ne _ _ (by omega) (by omega) (by omega), rr _ _ (by decide) (by decide) (by decide) (by decide) (by decide), rr _ _ (by decide) (by decide) (by decide) (by decide) (by decide)]; exact hf_M_p M i hi
  · intro h hh
    rw [n3] at hh
    rw [n2]
    by_cases z : h = P 3 0
    · have e7 : hf_addh P k a w q 7 h = k := by rw [z]; unfold hf_addh; rw [hf_up_r (by decide), hf_up_r (by decide), hf_up_r (by decide), hf_up_r (by decide), hf_up_s]
      have e8 : hf_addh P k a w q 8 h = a := by rw [z]; unfold hf_addh; rw [hf_up_r (by decide), hf_up_r (by decide), hf_up_r (by decide), hf_up_s]
      have e9 : hf_addh P k a w q 9 h = w := by rw [z]; unfold hf_addh; rw [hf_up_r (by decide), hf_up_r (by decide), hf_up_s]
      have e10 : hf_addh P k a w q 10 h = q := by rw [z]; unfold hf_addh; rw [hf_up_r (by decide), hf_up_s]
      rw [e7, e8, e9, e10, z, Nat.zero_add, Nat.zero_add]
      refine ⟨⟨?_, ?_, ?_⟩, ⟨?_, fun _ => ?_, fun y => by omega⟩, hk, ha, hw, Or.inl hq⟩
      · rw [up2_a (by decide), up2_a (by decide), up2_a (by decide), up2_a (by decide), up2_a (by decide), up2_s]
      · rw [up2_a (by decide), up2_a (by decide), up2_a (by decide), up2_a (by decide), up2_s]
      · rw [up2_a (by decide), up2_a (by decide), up2_a (by decide), up2_s]
      · rw [up2_a (by decide), up2_k (by omega), up2_s, hf_mw_n (by omega)]
      · rw [up2_a (by decide), up2_s]
    · have e7 : hf_addh P k a w q 7 h = P 7 h := by unfold hf_addh; rw [hf_up_r (by decide), hf_up_j z, hf_up_j z, hf_up_j z, hf_up_j z]
      have e8 : hf_addh P k a w q 8 h = P 8 h := by unfold hf_addh; rw [hf_up_r (by decide), hf_up_j z, hf_up_j z, hf_up_j z, hf_up_j z]
      have e9 : hf_addh P k a w q 9 h = P 9 h := by unfold hf_addh; rw [hf_up_r (by decide), hf_up_j z, hf_up_j z, hf_up_j z, hf_up_j z]
      have e10 : hf_addh P k a w q 10 h = P 10 h := by unfold hf_addh; rw [hf_up_r (by decide), hf_up_j z, hf_up_j z, hf_up_j z, hf_up_j z]
      rw [e7, e8, e9, e10, ne _ _ (by omega) (by omega) (by omega), ne _ _ (by omega) (by omega) (by omega), ne _ _ (by omega) (by omega) (by omega), ne _ _ (by omega) (by omega) (by omega), ne _ _ (by omega) (by omega) (by omega)]
      exact hf_M_h M h (by omega)
def o_hat (P : hP) (v1 v2 v3 v4 : Int32) : Int32 × hP := match hxi 6 v1 with
  | none => (-1, P)
  | some k => match hxi 10 v2 with
    | none => (-1, P)
    | some a => match hxi 100 v3 with
      | none => (-1, P)
      | some w => match hxi 25 v4 with
        | none => (-1, P)
        | some q => if P 3 0 = 6 then (-2, P) else (nI (P 3 0), hf_addh P k a w q)
set_option maxHeartbeats 400000 in
theorem sp_mhat {d : Nat} (hd : 2 < d) {R : Nat → Nat → Int32} {X : hk_D} {Q : hk_Q} {v1 v2 v3 v4 : Int32} {P : hP} (M : hf_M 0 P R) (hQ : ∀ R', hf_M 0 (o_hat P v1 v2 v3 v4).2 R' → hfp R R' → Q (some (.int (o_hat P v1 v2 v3 v4).1)) (hw R' X)) : hk_call d mM_hat [.ref 98, .int v1, .int v2, .int v3, .int v4] (hw R X) Q := by
  obtain ⟨d, rfl⟩ : ∃ e, d = e + 1 := ⟨d - 1, by omega⟩
  have h6 := M.2.2.2.2.2.1
  have e6 := M.1.2.1
  unfold o_hat at hQ
  refine hk_run2 (hk_call_m d) 100 ?_
  refine sp_in (by omega) (n := 6) (by omega) (by decide) (fun k hk ek => ?_) (fun nn => ?_)
  · refine And.intro (fun c => absurd c (by decide)) (fun _ => ?_)
    rw [ek, hxi_s hk (by omega)] at hQ
    dsimp only at hQ
    refine sp_in (by omega) (n := 10) (by omega) (by decide) (fun a ha ea => ?_) (fun nn => ?_)
    · refine And.intro (fun c => absurd c (by decide)) (fun _ => ?_)
      rw [ea, hxi_s ha (by omega)] at hQ
      dsimp only at hQ
      refine sp_in (by omega) (n := 100) (by omega) (by decide) (fun w hw ew => ?_) (fun nn => ?_)
      · refine And.intro (fun c => absurd c (by decide)) (fun _ => ?_)
        rw [ew, hxi_s hw (by omega)] at hQ
        dsimp only at hQ
        refine sp_misPlace (by omega) (fun q hq eq => ?_) (fun nn => ?_)
        · refine And.intro (fun c => absurd c (by decide)) (fun _ => ?_)
          rw [eq, hxi_s hq (by omega)] at hQ
          dsimp only at hQ
          refine And.intro (fun c => ?_) (fun c => ?_)
          · have : P 3 0 = 6 := (nI_eq (b := 6) (by omega) (by omega)).mp (e6.symm.trans c)
            rw [if_pos this] at hQ
            exact hk_qe_of (hQ R M hfp_rf)
          · have hn : ¬ P 3 0 = 6 := fun z => c (by rw [e6, z]; rfl)
            rw [if_neg hn] at hQ
            refine w_st (t := 0) (j := P 3 0) (n := 6) e6 rfl (by omega) (by omega) rfl rfl ?_
            refine w_st (t := 0) (j := P 3 0) (n := 6) (by rw [up2_a (by decide)]; exact e6) rfl (by omega) (by omega) rfl rfl ?_
            refine w_st (t := 0) (j := P 3 0) (n := 6) (by rw [up2_a (by decide), up2_a (by decide)]; exact e6) rfl (by omega) (by omega) rfl rfl ?_
            refine w_st (t := 0) (j := 6 + P 3 0) (n := 36) (by rw [up2_a (by decide), up2_a (by decide), up2_a (by decide), e6, ← nI_add]; rfl) rfl (by omega) (by omega) rfl rfl ?_
            refine w_st (t := 0) (j := 12 + P 3 0) (n := 36) (by rw [up2_a (by decide), up2_a (by decide), up2_a (by decide), up2_a (by decide), e6, ← nI_add]; rfl) rfl (by omega) (by omega) rfl rfl ?_
            refine w_put trivial rfl rfl ?_
            refine hk_qe_of ?_
            rw [up2_s, up2_a (by decide), up2_a (by decide), up2_a (by decide), up2_a (by decide), up2_a (by decide), e6, nI_1, hn_sub1, ek, ea, ew, eq]
            exact hQ _ (hf_M_addh M (by omega) hk ha hw hq) (hfp_tr (hfp_tr (hfp_tr (hfp_tr (hfp_tr (hfp_up (by omega)) (hfp_up (by omega))) (hfp_up (by omega))) (hfp_up (by omega))) (hfp_up (by omega))) (hfp_up2 (by omega)))
        · refine And.intro (fun _ => ?_) (fun c => absurd rfl c)
          rw [hxi_n (by omega) nn] at hQ
          exact hk_qe_of (hQ R M hfp_rf)
      · refine And.intro (fun _ => ?_) (fun c => absurd rfl c)
        rw [hxi_n (by omega) nn] at hQ
        exact hk_qe_of (hQ R M hfp_rf)
    · refine And.intro (fun _ => ?_) (fun c => absurd rfl c)
      rw [hxi_n (by omega) nn] at hQ
      exact hk_qe_of (hQ R M hfp_rf)
  · refine And.intro (fun _ => ?_) (fun c => absurd rfl c)
    rw [hxi_n (by omega) nn] at hQ
    exact hk_qe_of (hQ R M hfp_rf)
def hf_pof (P : hP) (p : Nat) : Nat → Int32
  | 0 => nI (P 5 p)
  | 1 => nI (P 6 p)
  | 2 => nI (hf_own P p)
  | _ => nI (hf_bits (hf_wb P p) (P 3 0))
def a_personOf (P : hP) (v w : Int32) : Int32 := match hxi (P 2 0) v with
  | none => -1
  | some p => match hxi 4 w with
    | none => -1
    | some s => hf_pof P p s
set_option maxHeartbeats 400000 in
theorem sp_mpersonOf {d : Nat} (hd : 3 < d) {R : Nat → Nat → Int32} {X : hk_D} {Q : hk_Q} {v w : Int32} {P : hP} (M : hf_M 0 P R) (hQ : Q (some (.int (a_personOf P v w))) (hw R X)) : hk_call d mM_personOf [.ref 98, .int v, .int w] (hw R X) Q := by
  obtain ⟨d, rfl⟩ : ∃ e, d = e + 1 := ⟨d - 1, by omega⟩
  have h5 := M.2.2.2.2.1
  unfold a_personOf at hQ
  refine hk_run2 (hk_call_m d) 100 ?_
  refine sp_misPerson (by omega) M.1.1 h5 (fun p hp e => ?_) (fun np => ?_)
  · refine And.intro (fun c => absurd c (by decide)) (fun _ => ?_)
    rw [e, hxi_s hp (by omega)] at hQ
    dsimp only at hQ
    refine sp_in (by omega) (n := 4) (by omega) (by decide) (fun s hs es => ?_) (fun nn => ?_)
    · refine And.intro (fun c => absurd c (by decide)) (fun _ => ?_)
      rw [es, hxi_s hs (by omega)] at hQ
      dsimp only at hQ
      subst es
      have hs4 : s = 0 ∨ s = 1 ∨ s = 2 ∨ s = 3 := by omega
      have mp := hf_M_p M p hp
      rw [Nat.zero_add] at mp
      rcases hs4 with rfl | rfl | rfl | rfl
      · refine And.intro (fun _ => ?_) (fun c => absurd rfl c)
        refine w_ld (j := 1 + p) (n := 36) (by rw [e, ← nI_add]; rfl) rfl (by omega) (by omega) rfl mp.2.1 ?_
        exact hk_qe_of hQ
      · refine And.intro (fun c => absurd c (by decide)) (fun _ => And.intro (fun _ => ?_) (fun c => absurd rfl c))
        refine w_ld (j := p) (n := 5) e rfl (by omega) (by omega) rfl mp.1 ?_
        exact hk_qe_of hQ
      · refine And.intro (fun c => absurd c (by decide)) (fun _ => And.intro (fun c => absurd c (by decide)) (fun _ => And.intro (fun _ => ?_) (fun c => absurd rfl c)))
        refine sp_mownedBy (by omega) M e (by omega) ?_
        exact hk_qe_of hQ
      · refine And.intro (fun c => absurd c (by decide)) (fun _ => And.intro (fun c => absurd c (by decide)) (fun _ => And.intro (fun c => absurd c (by decide)) (fun _ => ?_)))
        refine sp_mwornBy (by omega) M e (by omega) ?_
        exact hk_qe_of hQ
    · refine And.intro (fun _ => ?_) (fun c => absurd rfl c)
      rw [hxi_n (by omega) nn] at hQ
      exact hk_qe_of hQ
  · refine And.intro (fun _ => ?_) (fun c => absurd rfl c)
    rw [hxi_n (by omega) np] at hQ
    exact hk_qe_of hQ
def hf_hof (P : hP) (j : Nat) : Nat → Int32
  | 0 => nI (P 7 j)
  | 1 => nI (P 8 j)
  | 2 => nI (P 9 j)
  | 3 => hf_or9 (hf_mw (P 10 j))
  | 4 => hf_or9 (hf_pl P j)
  | 5 => nI (hf_holds (P 7 j) (P 8 j))
  | _ => nI (hf_flies (P 7 j) (P 1 (P 4 0 % 24)))
def a_hatOf (P : hP) (v w : Int32) : Int32 := match hxi (P 3 0) v with
  | none => -1
  | some j => match hxi 7 w with
    | none => -1
    | some s => hf_hof P j s
set_option maxHeartbeats 400000 in
theorem sp_mhatOf {d : Nat} (hd : 3 < d) {R : Nat → Nat → Int32} {X : hk_D} {Q : hk_Q} {v w : Int32} {P : hP} (M : hf_M 0 P R) (hQ : Q (some (.int (a_hatOf P v w))) (hw R X)) : hk_call d mM_hatOf [.ref 98, .int v, .int w] (hw R X) Q := by
  obtain ⟨d, rfl⟩ : ∃ e, d = e + 1 := ⟨d - 1, by omega⟩
  have h6 := M.2.2.2.2.2.1
  unfold a_hatOf at hQ
  refine hk_run2 (hk_call_m d) 100 ?_
  refine sp_misHat (by omega) M.1.2.1 h6 (fun j hj e => ?_) (fun np => ?_)
  · refine And.intro (fun c => absurd c (by decide)) (fun _ => ?_)
    rw [e, hxi_s hj (by omega)] at hQ
    dsimp only at hQ
    refine sp_in (by omega) (n := 7) (by omega) (by decide) (fun s hs es => ?_) (fun nn => ?_)
    · refine And.intro (fun c => absurd c (by decide)) (fun _ => ?_)
      rw [es, hxi_s hs (by omega)] at hQ
      dsimp only at hQ
      subst es
      have mh := hf_M_h M j hj
      rw [Nat.zero_add, Nat.zero_add] at mh
      have ti : (nI s).toInt = s := nI_toInt (by omega)
      refine And.intro (fun c => ?_) (And.intro (fun c => ?_) (And.intro (fun c => ?_) (And.intro (fun c => ?_) (And.intro (fun c => ?_) (And.intro (fun c => ?_) (And.intro (fun c => ?_) trivial))))))
      · rw [ti] at c
        have : s = 6 := by simp at c; omega
        subst this
        have h200 := M.2.2.2.2.2.2.1
        have hm : P 4 0 % 24 < 24 := Nat.mod_lt _ (by decide)
        have mw := hf_M_w M _ hm
        refine w_ld (j := 0) (n := 36) rfl rfl (by omega) (by omega) rfl M.2.1.1 ?_
        have er : hk_rem (nI (P 4 0)) 24 = nI (P 4 0 % 24) := hn_rem (b := 24) (by omega) (by omega) (by omega)
        refine And.intro (by decide) ?_
        refine w_ld (j := P 4 0 % 24) (n := 24) er rfl hm (by omega) rfl mw.2.1 ?_
        refine sp_mflies (by omega) M.1 M.2.2.2.2 hj e rfl mw.2.2.2 ?_
        exact hk_qe_of hQ
      · rw [ti] at c
        have : s = 0 := by omega
        subst this
        refine w_ld (j := j) (n := 6) e rfl (by omega) (by omega) rfl mh.1.1 ?_
        exact hk_qe_of hQ
      · rw [ti] at c
        have : s = 1 := by omega
        subst this
        refine w_ld (j := j) (n := 6) e rfl (by omega) (by omega) rfl mh.1.2.1 ?_
        exact hk_qe_of hQ
      · rw [ti] at c
        have : s = 2 := by omega
        subst this
        refine w_ld (j := j) (n := 6) e rfl (by omega) (by omega) rfl mh.1.2.2 ?_
        exact hk_qe_of hQ
      · rw [ti] at c
        have : s = 3 := by omega
        subst this
        refine w_ld (j := 6 + j) (n := 36) (by rw [e, ← nI_add]; rfl) rfl (by omega) (by omega) rfl mh.2.1.1 ?_
        refine sp_orNot (by omega) ?_
        exact hk_qe_of hQ
      · rw [ti] at c
        have : s = 4 := by omega
        subst this
        refine sp_mplaceOf (by omega) M hj e ?_
        refine sp_orNot (by omega) ?_
        exact hk_qe_of hQ
      · rw [ti] at c
        have : s = 5 := by omega
        subst this
        refine sp_mholds (by omega) M.1 M.2.2.2.2 hj e ?_
        exact hk_qe_of hQ
    · refine And.intro (fun _ => ?_) (fun c => absurd rfl c)
      rw [hxi_n (by omega) nn] at hQ
      exact hk_qe_of hQ
  · refine And.intro (fun _ => ?_) (fun c => absurd rfl c)
    rw [hxi_n (by omega) np] at hQ
    exact hk_qe_of hQ
