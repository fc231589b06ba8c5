/-! THE REFERENCE: start, tie -/
theorem hf_up_up (P : hP) (r j a b : Nat) : hf_up (hf_up P r j a) r j b = hf_up P r j b := by
  funext r' k
  unfold hf_up
  by_cases h1 : r' = r ∧ k = j
  · simp only [if_pos h1]
  · simp only [if_neg h1]
def hf_sF (P : hP) (p n : Nat) : Nat → Nat := fun t => hf_own (hf_hours n (hf_up P 5 p t)) p
def a_start (P : hP) (v w : Int32) : Int32 := match hxi (P 2 0) v with
  | none => -1
  | some p => match hxi 13 w with
    | none => -1
    | some n => if n = 0 then -1 else hf_bx (hf_sF P p n) 0 25
set_option maxHeartbeats 1000000 in
theorem sp_mstart {d : Nat} (hd : 7 < d) {R0 : Nat → Nat → Int32} {X : hk_D} {Q : hk_Q} {v w : Int32} {P : hP} (M : hf_M 0 P R0) (hQ : ∀ R', hf_M 0 P R' → hfp R0 R' → Q (some (.int (a_start P v w))) (hw R' X)) : hk_call d mM_start [.ref 98, .int v, .int w] (hw R0 X) Q := by
  obtain ⟨d, rfl⟩ : ∃ e, d = e + 1 := ⟨d - 1, by omega⟩
  have h5 := M.2.2.2.2.1
  unfold a_start at hQ
  refine hk_run2 (hk_call_m d) 200 ?_
  refine sp_misPerson (by omega) M.1.1 h5 (fun p hp e => ?_) (fun np => ?_)
  · refine And.intro (fun c => absurd c (by decide)) (fun _ => ?_)
    rw [e, hxi_s hp (by omega)] at hQ
    dsimp only at hQ
    refine sp_misSoon (by omega) (fun n hn1 hn en => ?_) (fun nn => ?_)
    · refine And.intro (fun c => absurd c (by decide)) (fun _ => ?_)
      rw [en, hxi_s hn (by omega)] at hQ
      dsimp only at hQ
      rw [if_neg (by omega)] at hQ
      have mp := hf_M_p M p hp
      rw [Nat.zero_add] at mp
      have ei : 1 + v = nI (1 + p) := by rw [e, ← nI_add]; rfl
      have hF : ∀ j, hf_sF P p n j < 1000 := fun j => hf_own_b (P := P) (hf_hours_r (by decide) (by decide) (by decide) _ _) (fun h => by rw [hf_hours_r (by decide) (by decide) (by decide)]; rw [hf_up_r (by decide)]) M.2.2.2.2
      have PL : ∀ R q q', hf_M 0 (hf_up P 5 p q) R → q' < 25 → hf_M 0 (hf_up P 5 p q') (up2 R 105 (1 + p) (nI q')) := by
        intro R q q' MR hq'
        have MM := hf_M_place (j := p) (R' := up2 R 105 (1 + p) (nI q')) MR (by rw [hf_up_r (by decide)]; exact hp) hq' (fun a k z => up2_n (by omega)) (by rw [Nat.zero_add, up2_s])
        rw [hf_up_up] at MM
        exact MM
      have L : ∀ j, j ≤ 25 → ∀ R q, hf_M 0 (hf_up P 5 p q) R → hfp R0 R → hk_wp (some .int) 0 0 hk_dft cM_start (hk_call d) (hk_qe Q) 22 [(6, .int (nI j)), (5, .int (nI (hf_bv (hf_sF P p n) j) - 1)), (4, .int (hf_bx (hf_sF P p n) 0 j)), (3, .int (nI (P 5 p))), (0, .ref 98), (1, .int v), (2, .int w)] [] (hw R X) 0 0 := by
        refine hk_for ?_ ?_
        · intro R q MR fr
          refine hk_run2 (hk_call_m d) 100 ?_
          refine And.intro (fun c => ?_) (fun c => absurd (by decide) c)
          refine w_st (t := 0) (j := 1 + p) (n := 36) ei rfl (by omega) (by omega) rfl rfl ?_
          refine hk_qe_of (hQ _ ?_ (hfp_tr fr (hfp_up (by omega))))
          have MM := PL R q (P 5 p) MR mp.2.2.1
          rw [hf_upself] at MM
          exact MM
        · intro j hj ih R q MR fr
          refine hk_run2 (hk_call_m d) 200 ?_
          refine And.intro (fun c => absurd c (show ¬ nI 25 ≤ nI j from nI_ge hj (by omega))) (fun c => ?_)
          refine w_st (t := 0) (j := 1 + p) (n := 36) ei rfl (by omega) (by omega) rfl rfl ?_
          have MM := PL R q j MR hj
          refine sp_mownsThen (by omega) MM e en (by omega) (by omega) (fun R2 f2 => ?_)
          have ih2 := ih R2 j (hf_M_t MM f2) (hfp_tr (hfp_tr fr (hfp_up (by omega))) (hfp_t f2))
          refine And.intro (fun c => And.intro (fun c2 => ?_) (fun c2 => absurd c c2)) (fun c => And.intro (fun c2 => absurd c2 c) (fun c2 => ?_))
          · have hb := (hf_bv_i hF j).mp c
            have nb : ¬ hf_bv (hf_sF P p n) j < hf_sF P p n j + 1 := by omega
            rw [hf_bv_f nb, hf_bx, if_neg nb] at ih2
            refine Exists.intro [0, 1, 2, 4, 5, 6, 7] ?_
            rw [nI_1]
            exact hk_stop2 (hk_call_m d) ih2
          · have nb : hf_bv (hf_sF P p n) j < hf_sF P p n j + 1 := by
              rcases Nat.lt_or_ge (hf_bv (hf_sF P p n) j) (hf_sF P p n j + 1) with z | z
              · exact z
              · exact absurd ((hf_bv_i hF j).mpr z) c
            rw [hf_bv_t nb, hf_bx, if_pos nb] at ih2
            refine Exists.intro [0, 1, 2, 4, 5, 6, 7] ?_
            rw [nI_1]
            exact hk_stop2 (hk_call_m d) ih2
      refine w_ld (j := 1 + p) (n := 36) ei rfl (by omega) (by omega) rfl mp.2.1 ?_
      refine hk_stop2 (hk_call_m d) (hk_run2 (hk_call_m d) 7 ?_)
      exact L 0 (by omega) R0 (P 5 p) (by rw [hf_upself]; exact M) hfp_rf
    · refine And.intro (fun _ => ?_) (fun c => absurd rfl c)
      cases q : hxi 13 w with
      | none => rw [q] at hQ; exact hk_qe_of (hQ R0 M hfp_rf)
      | some n =>
        have z := hxi_e (by omega) q
        rw [q] at hQ
        dsimp only at hQ
        rw [if_pos (show n = 0 from Classical.byContradiction (fun h0 => nn n (by omega) z.1 z.2))] at hQ
        exact hk_qe_of (hQ R0 M hfp_rf)
  · refine And.intro (fun _ => ?_) (fun c => absurd rfl c)
    rw [hxi_n (by omega) np] at hQ
    exact hk_qe_of (hQ R0 M hfp_rf)
def hf_k (P : hP) (h k a : Nat) : hP := hf_up (hf_up P 7 h k) 8 h a
theorem hf_k_k (P : hP) (h k a k' a' : Nat) : hf_k (hf_k P h k a) h k' a' = hf_k P h k' a' := by
  funext r i
  unfold hf_k hf_up
  by_cases h1 : r = 8 ∧ i = h
  · simp only [if_pos h1]
  · simp only [if_neg h1]
    by_cases h0 : r = 7 ∧ i = h
    · simp only [if_pos h0]
    · simp only [if_neg h0]
theorem hf_k_self (P : hP) (h : Nat) : hf_k P h (P 7 h) (P 8 h) = P := by
  unfold hf_k
  rw [hf_upself]
  exact hf_upself P 8 h
theorem hf_M_k {o h k a : Nat} {P : hP} {R : Nat → Nat → Int32} (M : hf_M o P R) (hh : h < P 3 0) (hk : k < 6) (ha : a < 10) : hf_M o (hf_k P h k a) (up2 (up2 R 102 h (nI k)) 103 h (nI a)) := by
  have rr : ∀ r i, r ≠ 7 → r ≠ 8 → hf_k P h k a r i = P r i := fun r i h0 h1 => by unfold hf_k; rw [hf_up_r h1, hf_up_r h0]
  have ne : ∀ b i, b ≠ 102 → b ≠ 103 → up2 (up2 R 102 h (nI k)) 103 h (nI a) b i = R b i := fun b i h0 h1 => by rw [up2_a h1, up2_a h0]
  have o4 := M.2.2.2.2
  refine hf_M_mk (P := P) (R := R) ?_ M.2.2.2.1 ?_ ?_ ?_ ?_ ?_ ?_ ?_ ?_
  · rw [ne _ _ (by decide) (by decide)]; exact M.2.2.1
  · rw [ne _ _ (by decide) (by decide), rr _ _ (by decide) (by decide)]; exact M.1.1
  · rw [ne _ _ (by decide) (by decide), rr _ _ (by decide) (by decide)]; exact M.1.2.1
  · rw [rr _ _ (by decide) (by decide)]; exact o4.1
  · rw [rr _ _ (by decide) (by decide)]; exact o4.2.1
  · rw [ne _ _ (by decide) (by decide), rr _ _ (by decide) (by decide)]; exact ⟨o4.2.2.1, M.2.1.1⟩
  · intro i hi
    rw [ne _ _ (by decide) (by decide), ne _ _ (by decide) (by decide), rr _ _ (by decide) (by decide), rr _ _ (by decide) (by decide)]; exact hf_M_w M i hi
  · intro p hp
    rw [rr _ _ (by decide) (by decide)] at hp
    rw [ne _ _ (by decide) (by decide), ne _ _ (by decide) (by decide), rr _ _ (by decide) (by decide), rr _ _ (by decide) (by decide)]
    exact hf_M_p M p hp
  · intro i hi
    rw [rr _ _ (by decide) (by decide)] at hi
    have mh := hf_M_h M i hi
    rw [ne 104 _ (by decide) (by decide), ne 105 _ (by decide) (by decide), ne 105 _ (by decide) (by decide), rr 9 _ (by decide) (by decide), rr 10 _ (by decide) (by decide), rr 2 _ (by decide) (by decide)]
    by_cases q : i = h
    · have e7 : hf_k P h k a 7 i = k := by rw [q]; unfold hf_k; rw [hf_up_r (by decide), hf_up_s]
      have e8 : hf_k P h k a 8 i = a := by rw [q]; unfold hf_k; rw [hf_up_s]
      rw [e7, e8, q, up2_a (show 102 ≠ 103 by decide), up2_s, up2_s]
      rw [q] at mh
      exact ⟨⟨rfl, rfl, mh.1.2.2⟩, mh.2.1, hk, ha, mh.2.2.2.2⟩
    · have e7 : hf_k P h k a 7 i = P 7 i := by unfold hf_k; rw [hf_up_j q, hf_up_j q]
      have e8 : hf_k P h k a 8 i = P 8 i := by unfold hf_k; rw [hf_up_j q, hf_up_j q]
      rw [e7, e8, up2_k q, up2_k q, up2_k q, up2_k q]
      exact mh
def hf_tF (P : hP) (p n : Nat) : Nat → Nat := fun t => hf_own (hf_hours n (hf_k P t 3 9)) p
def a_tie (P : hP) (v w : Int32) : Int32 := match hxi (P 2 0) v with
  | none => -1
  | some p => match hxi 13 w with
    | none => -1
    | some n => if n = 0 then -1 else hf_bx (hf_tF P p n) (-3) (P 3 0)
set_option maxHeartbeats 1000000 in
theorem sp_mtie {d : Nat} (hd : 7 < d) {R0 : Nat → Nat → Int32} {X : hk_D} {Q : hk_Q} {v w : Int32} {P : hP} (M : hf_M 0 P R0) (hQ : ∀ R', hf_M 0 P R' → hfp R0 R' → Q (some (.int (a_tie P v w))) (hw R' X)) : hk_call d mM_tie [.ref 98, .int v, .int w] (hw R0 X) Q := by
  obtain ⟨d, rfl⟩ : ∃ e, d = e + 1 := ⟨d - 1, by omega⟩
  have h5 := M.2.2.2.2.1
  have h6 := M.2.2.2.2.2.1
  unfold a_tie at hQ
  refine hk_run2 (hk_call_m d) 200 ?_
  refine sp_misPerson (by omega) M.1.1 h5 (fun p hp e => ?_) (fun np => ?_)
  · refine And.intro (fun c => absurd c (by decide)) (fun _ => ?_)
    rw [e, hxi_s hp (by omega)] at hQ
    dsimp only at hQ
    refine sp_misSoon (by omega) (fun n hn1 hn en => ?_) (fun nn => ?_)
    · refine And.intro (fun c => absurd c (by decide)) (fun _ => ?_)
      rw [en, hxi_s hn (by omega)] at hQ
      dsimp only at hQ
      rw [if_neg (by omega)] at hQ
      have hF : ∀ j, hf_tF P p n j < 1000 := fun j => hf_own_b (P := P) (hf_hours_r (by decide) (by decide) (by decide) _ _) (fun h => by rw [hf_hours_r (by decide) (by decide) (by decide)]; unfold hf_k; rw [hf_up_r (by decide), hf_up_r (by decide)]) M.2.2.2.2
      have L : ∀ j, j ≤ P 3 0 → ∀ R, hf_M 0 P R → hfp R0 R → hk_wp (some .int) 0 0 hk_dft cM_tie (hk_call d) (hk_qe Q) 15 [(5, .int (nI j)), (4, .int (nI (hf_bv (hf_tF P p n) j) - 1)), (3, .int (hf_bx (hf_tF P p n) (-3) j)), (0, .ref 98), (1, .int v), (2, .int w)] [] (hw R X) 0 0 := by
        refine hk_for ?_ ?_
        · intro R MR fr
          have eh := MR.1.2.1
          refine hk_run2 (hk_call_m d) 100 ?_
          refine And.intro (fun c => ?_) (fun c => absurd (by rw [eh]; exact nI_le (Nat.le_refl _) (by omega)) c)
          exact hk_qe_of (hQ _ MR fr)
        · intro j hj ih R MR fr
          have eh := MR.1.2.1
          have mh := hf_M_h MR j hj
          refine hk_run2 (hk_call_m d) 200 ?_
          refine And.intro (fun c => absurd c (by rw [eh]; exact nI_ge hj (by omega))) (fun c => ?_)
          refine w_ld (j := j) (n := 6) rfl rfl (by omega) (by omega) rfl mh.1.1 ?_
          refine w_ld (j := j) (n := 6) rfl rfl (by omega) (by omega) rfl mh.1.2.1 ?_
          refine w_st (t := 0) (j := j) (n := 6) rfl rfl (by omega) (by omega) rfl rfl ?_
          refine w_st (t := 0) (j := j) (n := 6) rfl rfl (by omega) (by omega) rfl rfl ?_
          have MM := hf_M_k (k := 3) (a := 9) MR hj (by omega) (by omega)
          refine sp_mownsThen (by omega) MM e en (by omega) (by omega) (fun R2 f2 => ?_)
          have M2 := hf_M_t MM f2
          refine w_st (t := 0) (j := j) (n := 6) rfl rfl (by omega) (by omega) rfl rfl ?_
          refine w_st (t := 0) (j := j) (n := 6) rfl rfl (by omega) (by omega) rfl rfl ?_
          have M3 := hf_M_k (h := j) (k := P 7 j) (a := P 8 j) M2 (by unfold hf_k; rw [hf_up_r (by decide), hf_up_r (by decide)]; exact hj) mh.2.2.1 mh.2.2.2.1
          rw [hf_k_k, hf_k_self] at M3
          have ih2 := ih _ M3 (hfp_tr (hfp_tr (hfp_tr fr (hfp_tr (hfp_up (by omega)) (hfp_up (by omega)))) (hfp_t f2)) (hfp_tr (hfp_up (by omega)) (hfp_up (by omega))))
          refine And.intro (fun c => And.intro (fun c2 => ?_) (fun c2 => absurd c c2)) (fun c => And.intro (fun c2 => absurd c2 c) (fun c2 => ?_))
          · have hb := (hf_bv_i hF j).mp c
            have nb : ¬ hf_bv (hf_tF P p n) j < hf_tF P p n j + 1 := by omega
            rw [hf_bv_f nb, hf_bx, if_neg nb] at ih2
            refine Exists.intro [0, 1, 2, 6, 7, 8] ?_
            rw [nI_1]
            exact hk_stop2 (hk_call_m d) ih2
          · have nb : hf_bv (hf_tF P p n) j < hf_tF P p n j + 1 := by
              rcases Nat.lt_or_ge (hf_bv (hf_tF P p n) j) (hf_tF P p n j + 1) with z | z
              · exact z
              · exact absurd ((hf_bv_i hF j).mpr z) c
            rw [hf_bv_t nb, hf_bx, if_pos nb] at ih2
            refine Exists.intro [0, 1, 2, 6, 7, 8] ?_
            rw [nI_1]
            exact hk_stop2 (hk_call_m d) ih2
      refine hk_stop2 (hk_call_m d) (hk_run2 (hk_call_m d) 6 ?_)
      exact L 0 (by omega) R0 M hfp_rf
    · refine And.intro (fun _ => ?_) (fun c => absurd rfl c)
      cases q : hxi 13 w with
      | none => rw [q] at hQ; exact hk_qe_of (hQ R0 M hfp_rf)
      | some n =>
        have z := hxi_e (by omega) q
        rw [q] at hQ
        dsimp only at hQ
        rw [if_pos (show n = 0 from Classical.byContradiction (fun h0 => nn n (by omega) z.1 z.2))] at hQ
        exact hk_qe_of (hQ R0 M hfp_rf)
  · refine And.intro (fun _ => ?_) (fun c => absurd rfl c)
    rw [hxi_n (by omega) np] at hQ
    exact hk_qe_of (hQ R0 M hfp_rf)
