/-! THE REFERENCE: bow -/
def hf_sw (p q x : Nat) : Nat := if x = 25 + p then 25 + q else if x = 25 + q then 25 + p else x
def hf_bow (P : hP) (p q n : Nat) : hP := fun r j => if r = 10 ∧ j < n then hf_sw p q (P 10 j) else P r j
def hf_bc (P : hP) (p q : Nat) : Nat → Nat
  | 0 => 0
  | n + 1 => hf_bc P p q n + (if P 10 n = 25 + p ∨ P 10 n = 25 + q then 1 else 0)
theorem hf_bow_0 (P : hP) (p q : Nat) : hf_bow P p q 0 = P := by
  funext r j; exact if_neg (fun z => absurd z.2 (Nat.not_lt_zero j))
theorem hf_bow_s (P : hP) (p q n : Nat) : hf_bow P p q (n + 1) = hf_up (hf_bow P p q n) 10 n (hf_sw p q (P 10 n)) := by
  funext r j
  unfold hf_up hf_bow
  by_cases hr : r = 10
  · subst hr
    by_cases hj : j = n
    · subst hj; simp
    · by_cases h2 : j < n
      · simp [hj, h2, Nat.lt_succ_of_lt h2]
      · have : ¬ j < n + 1 := by omega
        simp [hj, h2, this]
  · simp [hr]
theorem hf_bow_r {P : hP} {p q n r j : Nat} (h : r ≠ 10) : hf_bow P p q n r j = P r j := if_neg (fun z => h z.1)
def o_bow (P : hP) (v w : Int32) : Int32 × hP := match hxi (P 2 0) v with
  | none => (-1, P)
  | some p => match hxi (P 2 0) w with
    | none => (-1, P)
    | some q => if p = q then (-1, P) else if P 5 p = P 5 q then (nI (hf_bc P p q (P 3 0)), hf_bow P p q (P 3 0)) else (-4, P)
set_option maxHeartbeats 400000 in
theorem sp_mbow {d : Nat} (hd : 2 < d) {R0 : Nat → Nat → Int32} {X : hk_D} {Q : hk_Q} {v w : Int32} {P : hP} (M : hf_M 0 P R0) (hQ : ∀ R', hf_M 0 (o_bow P v w).2 R' → hfp R0 R' → Q (some (.int (o_bow P v w).1)) (hw R' X)) : hk_call d mM_bow [.ref 98, .int v, .int w] (hw R0 X) Q := by
  obtain ⟨d, rfl⟩ : ∃ e, d = e + 1 := ⟨d - 1, by omega⟩
  have h5 := M.2.2.2.2.1
  have h6 := M.2.2.2.2.2.1
  unfold o_bow at hQ
  refine hk_run2 (hk_call_m d) 200 ?_
  refine sp_misPerson (by omega) M.1.1 h5 (fun p hp e => ?_) (fun np => ?_)
  · refine And.intro (fun c => absurd c (by decide)) (fun _ => ?_)
    rw [e, hxi_s hp (by omega)] at hQ
    dsimp only at hQ
    refine sp_misPerson (by omega) M.1.1 h5 (fun q hq eq => ?_) (fun nq => ?_)
    · refine And.intro (fun c => absurd c (by decide)) (fun _ => ?_)
      rw [eq, hxi_s hq (by omega)] at hQ
      dsimp only at hQ
      subst e; subst eq
      refine And.intro (fun c => ?_) (fun c => ?_)
      · rw [if_pos ((nI_eq (by omega) (by omega)).mp c)] at hQ
        exact hk_qe_of (hQ R0 M hfp_rf)
      · have hpq : ¬ p = q := fun z => c (by rw [z])
        rw [if_neg hpq] at hQ
        have mp := hf_M_p M p hp
        have mq := hf_M_p M q hq
        rw [Nat.zero_add] at mp mq
        refine w_ld (j := 1 + p) (n := 36) (by rw [← nI_add]; rfl) rfl (by omega) (by omega) rfl mp.2.1 ?_
        refine w_ld (j := 1 + q) (n := 36) (by rw [← nI_add]; rfl) rfl (by omega) (by omega) rfl mq.2.1 ?_
        refine And.intro (fun c => ?_) (fun c => ?_)
        · rw [if_pos ((nI_eq (by omega) (by omega)).mp c)] at hQ
          have L : ∀ j, j ≤ P 3 0 → ∀ R, hf_M 0 (hf_bow P p q j) R → hfp R0 R → hk_wp (some .int) 0 0 hk_dft cM_bow (hk_call d) (hk_qe Q) 32 [(4, .int (nI j)), (3, .int (nI (hf_bc P p q j))), (0, .ref 98), (1, .int (nI p)), (2, .int (nI q))] [] (hw R X) 0 0 := by
            refine hk_for ?_ ?_
            · intro R MR fr
              have eh : R 98 4 = nI (P 3 0) := by rw [← hf_bow_r (P := P) (p := p) (q := q) (n := P 3 0) (show 3 ≠ 10 by decide)]; exact MR.1.2.1
              refine hk_run2 (hk_call_m d) 100 ?_
              refine And.intro (fun c => ?_) (fun c => absurd (by rw [eh]; exact nI_le (Nat.le_refl _) (by omega)) c)
              exact hk_qe_of (hQ _ MR fr)
            · intro j hj ih R MR fr
              have eh : R 98 4 = nI (P 3 0) := by rw [← hf_bow_r (P := P) (p := p) (q := q) (n := j) (show 3 ≠ 10 by decide)]; exact MR.1.2.1
              have n3 : hf_bow P p q j 3 0 = P 3 0 := hf_bow_r (by decide)
              have n2 : hf_bow P p q j 2 0 = P 2 0 := hf_bow_r (by decide)
              have n10 : hf_bow P p q j 10 j = P 10 j := if_neg (by omega)
              have hj' : j < hf_bow P p q j 3 0 := by rw [n3]; exact hj
              have mh := (hf_M_h MR j hj').2.1.1
              rw [Nat.zero_add, n10] at mh
              have put : ∀ x, x < P 2 0 → hf_sw p q (P 10 j) = 25 + x → hf_M 0 (hf_bow P p q (j + 1)) (up2 R 105 (6 + j) (nI x)) := by
                intro x hx ex
                rw [hf_bow_s, ex]
                refine hf_M_hat MR hj' (Or.inr (Or.inl ⟨by omega, by rw [n2]; omega⟩)) (fun a k z => up2_n (by omega)) ?_ (fun z => by omega) (fun z => by omega)
                rw [Nat.zero_add, up2_s, hf_mw_w (by omega)]
                congr 1; omega
              refine hk_run2 (hk_call_m d) 200 ?_
              refine And.intro (fun c => absurd c (by rw [eh]; exact nI_ge hj (by omega))) (fun c => ?_)
              refine w_ld (j := 6 + j) (n := 36) (by rw [← nI_add]; rfl) rfl (by omega) (by omega) rfl mh ?_
              unfold hf_bc at ih
              refine And.intro (fun c => ?_) (fun c => And.intro (fun c2 => ?_) (fun c2 => ?_))
              · have ex := (hf_mw_eq (by omega)).mp c
                refine And.intro (fun _ => ?_) (fun c' => absurd c c')
                refine w_st (t := 0) (j := 6 + j) (n := 36) (by rw [← nI_add]; rfl) rfl (by omega) (by omega) rfl rfl ?_
                refine Exists.intro [0, 1, 3, 4, 5] ?_
                rw [nI_1, nI_1]
                rw [if_pos (Or.inl ex)] at ih
                exact hk_stop2 (hk_call_m d) (ih _ (put q hq (by unfold hf_sw; rw [if_pos ex])) (hfp_tr fr (hfp_up (by omega))))
              · have nx : ¬ P 10 j = 25 + p := fun z => c ((hf_mw_eq (by omega)).mpr z)
                have ex := (hf_mw_eq (by omega)).mp c2
                refine And.intro (fun c' => absurd c' c) (fun _ => ?_)
                refine w_st (t := 0) (j := 6 + j) (n := 36) (by rw [← nI_add]; rfl) rfl (by omega) (by omega) rfl rfl ?_
                refine Exists.intro [0, 1, 3, 4, 5] ?_
                rw [nI_1, nI_1]
                rw [if_pos (Or.inr ex)] at ih
                exact hk_stop2 (hk_call_m d) (ih _ (put p hp (by unfold hf_sw; rw [if_neg nx, if_pos ex])) (hfp_tr fr (hfp_up (by omega))))
              · have nx : ¬ P 10 j = 25 + p := fun z => c ((hf_mw_eq (by omega)).mpr z)
                have ny : ¬ P 10 j = 25 + q := fun z => c2 ((hf_mw_eq (by omega)).mpr z)
                refine Exists.intro [0, 2, 3, 4, 5] ?_
                rw [nI_1]
                rw [if_neg (by omega)] at ih
                refine hk_stop2 (hk_call_m d) (ih R ?_ fr)
                rw [hf_bow_s, show hf_sw p q (P 10 j) = hf_bow P p q j 10 j from by rw [n10]; unfold hf_sw; rw [if_neg nx, if_neg ny], hf_upself]
                exact MR
          refine hk_stop2 (hk_call_m d) (hk_run2 (hk_call_m d) 4 ?_)
          exact L 0 (Nat.zero_le _) R0 (by rw [hf_bow_0]; exact M) hfp_rf
        · rw [if_neg (fun z => c (by rw [z]))] at hQ
          exact hk_qe_of (hQ R0 M hfp_rf)
    · refine And.intro (fun _ => ?_) (fun c => absurd rfl c)
      rw [hxi_n (by omega) nq] at hQ
      exact hk_qe_of (hQ R0 M hfp_rf)
  · refine And.intro (fun _ => ?_) (fun c => absurd rfl c)
    rw [hxi_n (by omega) np] at hQ
    exact hk_qe_of (hQ R0 M hfp_rf)
