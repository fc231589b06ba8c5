/-! THE REFERENCE: the best of many trials -/
theorem hf_own_b {S P : hP} {p : Nat} (e3 : S 3 0 = P 3 0) (e9 : ∀ h, S 9 h = P 9 h) (ok : hf_ok P) : hf_own S p < 1000 := by
  have h6 := ok.2.1
  have key : ∀ n, n ≤ P 3 0 → hf_owned S p n ≤ 100 * n := by
    intro n
    induction n with
    | zero => intro _; exact Nat.le_refl _
    | succ n ih =>
      intro h
      have := ih (by omega)
      have w := (ok.2.2.2.2.2 n (by omega)).2.2.1
      unfold hf_owned
      rw [e9]
      split <;> omega
  unfold hf_own
  rw [e3]
  have := key (P 3 0) (Nat.le_refl _)
  omega
def hf_bv (F : Nat → Nat) : Nat → Nat
  | 0 => 0
  | n + 1 => if hf_bv F n < F n + 1 then F n + 1 else hf_bv F n
def hf_bx (F : Nat → Nat) (b : Int32) : Nat → Int32
  | 0 => b
  | n + 1 => if hf_bv F n < F n + 1 then nI n else hf_bx F b n
theorem hf_bv_le {F : Nat → Nat} (h : ∀ j, F j < 1000) : ∀ n, hf_bv F n ≤ 1000
  | 0 => Nat.zero_le _
  | n + 1 => by
    have := hf_bv_le h n
    have := h n
    unfold hf_bv
    split <;> omega
theorem hf_bv_i {F : Nat → Nat} (h : ∀ j, F j < 1000) (j : Nat) : nI (F j) ≤ nI (hf_bv F j) - 1 ↔ F j + 1 ≤ hf_bv F j := by
  have h1 := hf_bv_le h j
  have h2 := h j
  have e : (nI (hf_bv F j) - 1).toInt = (hf_bv F j : Int) - 1 := pk_sub_toInt (a := hf_bv F j) (b := 1) (by omega) (by omega)
  rw [hn_le, e, hn_i (by omega)]
  omega
theorem hf_bv_t {F : Nat → Nat} {j : Nat} (h : hf_bv F j < F j + 1) : nI (hf_bv F (j + 1)) - 1 = nI (F j) := by
  rw [hf_bv, if_pos h, hn_sub1]
theorem hf_bv_f {F : Nat → Nat} {j : Nat} (h : ¬ hf_bv F j < F j + 1) : hf_bv F (j + 1) = hf_bv F j := by
  rw [hf_bv, if_neg h]
def hf_w (P : hP) (g i j : Nat) : hP := hf_up (hf_up P 0 g i) 1 g j
theorem hf_w_w (P : hP) (g i j i' j' : Nat) : hf_w (hf_w P g i j) g i' j' = hf_w P g i' j' := by
  funext r k
  unfold hf_w hf_up
  by_cases h1 : r = 1 ∧ k = g
  · simp only [if_pos h1]
  · simp only [if_neg h1]
    by_cases h0 : r = 0 ∧ k = g
    · simp only [if_pos h0]
    · simp only [if_neg h0]
theorem hf_w_self (P : hP) (g : Nat) : hf_w P g (P 0 g) (P 1 g) = P := by
  unfold hf_w
  rw [hf_upself]
  exact hf_upself P 1 g
def hf_wF (P : hP) (p n g : Nat) : Nat → Nat := fun t => hf_own (hf_hours n (hf_w P g (t / 10) (t % 10))) p
def a_wish (P : hP) (v w : Int32) : Int32 := match hxi (P 2 0) v with
  | none => -1
  | some p => match hxi 13 w with
    | none => -1
    | some n => if n = 0 then -1 else if P 4 0 = 96 then -4 else hf_bx (hf_wF P p n (P 4 0 % 24)) 0 40
theorem hx_soon {P : hP} {w : Int32} {α : Type} {x : α} {f : Nat → α} (h : ∀ j, 1 ≤ j → j < 13 → w ≠ nI j) : (match hxi 13 w with | none => x | some n => if n = 0 then x else f n) = x := by
  cases q : hxi 13 w with
  | none => rfl
  | some n =>
    have z := hxi_e (by omega) q
    by_cases h0 : n = 0
    · show (if n = 0 then x else f n) = x
      rw [if_pos h0]
    · exact absurd z.2 (h n (by omega) z.1)
set_option maxHeartbeats 1000000 in
theorem sp_mwish {d : Nat} (hd : 7 < d) {R0 : Nat → Nat → Int32} {X : hk_D} {Q : hk_Q} {v w : Int32} {P : hP} (M : hf_M 0 P R0) (hQ : ∀ R', hf_M 0 P R' → hfp R0 R' → Q (some (.int (a_wish P v w))) (hw R' X)) : hk_call d mM_wish [.ref 98, .int v, .int w] (hw R0 X) Q := by
  obtain ⟨d, rfl⟩ : ∃ e, d = e + 1 := ⟨d - 1, by omega⟩
  have h5 := M.2.2.2.2.1
  have h200 := M.2.2.2.2.2.2.1
  unfold a_wish at hQ
  refine hk_run2 (hk_call_m d) 200 ?_
  refine sp_misPerson (by omega) M.1.1 h5 (fun p hp e => ?_) (fun np => ?_)
  · refine And.intro (fun c => absurd c (by decide)) (fun _ => ?_)
    rw [e, hxi_s hp (by omega)] at hQ
    dsimp only at hQ
    refine sp_misSoon (by omega) (fun n hn1 hn en => ?_) (fun nn => ?_)
    · refine And.intro (fun c => absurd c (by decide)) (fun _ => ?_)
      rw [en, hxi_s hn (by omega)] at hQ
      dsimp only at hQ
      rw [if_neg (by omega)] at hQ
      refine w_ld (j := 0) (n := 36) rfl rfl (by omega) (by omega) rfl M.2.1.1 ?_
      refine And.intro (fun c => ?_) (fun c => ?_)
      · have : P 4 0 = 96 := (nI_eq (b := 96) (by omega) (by omega)).mp c
        rw [if_pos this] at hQ
        exact hk_qe_of (hQ R0 M hfp_rf)
      · have h96 : ¬ P 4 0 = 96 := fun z => c (by rw [z]; rfl)
        rw [if_neg h96] at hQ
        have hm : P 4 0 % 24 < 24 := Nat.mod_lt _ (by decide)
        have er : hk_rem (nI (P 4 0)) 24 = nI (P 4 0 % 24) := hn_rem (b := 24) (by omega) (by omega) (by omega)
        generalize P 4 0 % 24 = g at *
        have mw := hf_M_w M g hm
        have hF : ∀ j, hf_wF P p n g j < 1000 := fun j => hf_own_b (P := P) (hf_hours_r (by decide) (by decide) (by decide) _ _) (fun h => by rw [hf_hours_r (by decide) (by decide) (by decide)]; unfold hf_w; rw [hf_up_r (by decide), hf_up_r (by decide)]) M.2.2.2.2
        have L : ∀ j, j ≤ 40 → ∀ R i1 i2, i1 < 4 → i2 < 10 → hf_M 0 (hf_w P g i1 i2) R → hfp R0 R → hk_wp (some .int) 0 0 hk_dft cM_wish (hk_call d) (hk_qe Q) 40 [(8, .int (nI j)), (7, .int (nI (hf_bv (hf_wF P p n g) j) - 1)), (6, .int (hf_bx (hf_wF P p n g) 0 j)), (5, .int (nI (P 1 g))), (4, .int (nI (P 0 g))), (3, .int (nI g)), (0, .ref 98), (1, .int v), (2, .int w)] [] (hw R X) 0 0 := by
          refine hk_for ?_ ?_
          · intro R i1 i2 hi1 hi2 MR fr
            refine hk_run2 (hk_call_m d) 100 ?_
            refine And.intro (fun c => ?_) (fun c => absurd (by decide) c)
            refine w_st (t := 0) (j := g) (n := 24) rfl rfl hm (by omega) rfl rfl ?_
            refine w_st (t := 0) (j := g) (n := 24) rfl rfl hm (by omega) rfl rfl ?_
            refine hk_qe_of (hQ _ ?_ (hfp_tr fr (hfp_tr (hfp_up (by omega)) (hfp_up (by omega)))))
            have MM := hf_M_wind MR hm mw.2.2.1 mw.2.2.2
            rw [show hf_up (hf_up (hf_w P g i1 i2) 0 g (P 0 g)) 1 g (P 1 g) = P from (hf_w_w P g i1 i2 _ _).trans (hf_w_self P g)] at MM
            exact MM
          · intro j hj ih R i1 i2 hi1 hi2 MR fr
            have ed : nI j / 10 = nI (j / 10) := hn_div (b := 10) (by omega) (by omega) (by omega)
            have em : hk_rem (nI j) 10 = nI (j % 10) := hn_rem (b := 10) (by omega) (by omega) (by omega)
            have q1 : j / 10 < 4 := by omega
            have q2 : j % 10 < 10 := by omega
            refine hk_run2 (hk_call_m d) 200 ?_
            refine And.intro (fun c => absurd c (show ¬ nI 40 ≤ nI j from nI_ge hj (by omega))) (fun c => ?_)
            refine And.intro (by decide) ?_
            refine w_st (t := 0) (j := g) (n := 24) rfl rfl hm (by omega) rfl rfl ?_
            refine And.intro (by decide) ?_
            refine w_st (t := 0) (j := g) (n := 24) rfl rfl hm (by omega) rfl rfl ?_
            have MM := hf_M_wind MR hm q1 q2
            rw [show hf_up (hf_up (hf_w P g i1 i2) 0 g (j / 10)) 1 g (j % 10) = hf_w P g (j / 10) (j % 10) from hf_w_w P g i1 i2 _ _] at MM
            refine sp_mownsThen (by omega) (P := hf_w P g (j / 10) (j % 10)) (by rw [ed, em]; exact MM) e en (by omega) (by omega) (fun R2 f2 => ?_)
            have M2 : hf_M 0 (hf_w P g (j / 10) (j % 10)) R2 := hf_M_t (by rw [ed, em]; exact MM) f2
            have fr2 : hfp R0 R2 := hfp_tr (hfp_tr fr (hfp_tr (hfp_up (by omega)) (hfp_up (by omega)))) (hfp_t f2)
            have ih2 := ih R2 _ _ q1 q2 M2 fr2
            refine And.intro (fun c => And.intro (fun c2 => ?_) (fun c2 => absurd c c2)) (fun c => And.intro (fun c2 => absurd c2 c) (fun c2 => ?_))
            · have hb := (hf_bv_i hF j).mp c
              have nb : ¬ hf_bv (hf_wF P p n g) j < hf_wF P p n g j + 1 := by omega
              rw [hf_bv_f nb, hf_bx, if_neg nb] at ih2
              refine Exists.intro [0, 1, 2, 4, 5, 6, 7, 8, 9] ?_
              rw [nI_1]
              exact hk_stop2 (hk_call_m d) ih2
            · have nb : hf_bv (hf_wF P p n g) j < hf_wF P p n g j + 1 := by
                rcases Nat.lt_or_ge (hf_bv (hf_wF P p n g) j) (hf_wF P p n g j + 1) with z | z
                · exact z
                · exact absurd ((hf_bv_i hF j).mpr z) c
              rw [hf_bv_t nb, hf_bx, if_pos nb] at ih2
              refine Exists.intro [0, 1, 2, 4, 5, 6, 7, 8, 9] ?_
              rw [nI_1]
              exact hk_stop2 (hk_call_m d) ih2
        refine w_ld (j := 0) (n := 36) rfl rfl (by omega) (by omega) rfl M.2.1.1 ?_
        refine And.intro (by decide) ?_
        refine w_ld (j := g) (n := 24) er rfl hm (by omega) rfl mw.1 ?_
        refine w_ld (j := g) (n := 24) er rfl hm (by omega) rfl mw.2.1 ?_
        rw [er]
        refine hk_stop2 (hk_call_m d) (hk_run2 (hk_call_m d) 7 ?_)
        exact L 0 (by omega) R0 (P 0 g) (P 1 g) mw.2.2.1 mw.2.2.2 (by rw [hf_w_self]; exact M) hfp_rf
    · refine And.intro (fun _ => ?_) (fun c => absurd rfl c)
      rw [hx_soon (P := P) nn] at hQ
      exact hk_qe_of (hQ R0 M hfp_rf)
  · refine And.intro (fun _ => ?_) (fun c => absurd rfl c)
    rw [hxi_n (by omega) np] at hQ
    exact hk_qe_of (hQ R0 M hfp_rf)
