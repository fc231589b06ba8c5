/-! THE REFERENCE: winds, clauses, the whole text -/
theorem hf_dn_lt {B : Nat → Nat} {t : hTk} (h : ¬ hf_dn B t = 99) : hf_dn B t < 4 := by
  unfold hf_dn at h ⊢
  split
  · omega
  · rename_i q; rw [if_neg q] at h; exact absurd rfl h
theorem win_fin {L : Nat} {B : Nat → Nat} {σs : hPs} {g a b : Nat} {y1 y2 y3 : Int32} {R0 R6 : Nat → Nat → Int32} {X6 : hk_D} (H6 : hf_RL L B (p_semi L B σs) R6 X6) (f6 : hfy R0 R6) (h : (p_semi L B σs).2.1 = 999) (ha : a < 4) (hb : b < 10) (e1 : y1 = nI a) (e2 : y2 = nI b) : hf_RL L B (p_semi L B (p_set (fun P => hf_w P g a b) σs)) (up2 (up2 R6 114 g y1) 115 g y2) X6 ∧ hfy R0 (up2 (up2 R6 114 g y1) 115 g y2) := by
  have es : p_semi L B (p_set (fun P => hf_w P g a b) σs) = p_set (fun P => hf_w P g a b) (p_semi L B σs) := by
    unfold p_semi
    show (if σs.1.2.1 = 3 ∧ B σs.1.1 = 59 then _ else _) = _
    by_cases q : σs.1.2.1 = 3 ∧ B σs.1.1 = 59
    · rw [if_pos q, if_pos q]; rfl
    · rw [if_neg q, if_neg q]; rfl
  rw [es]
  subst e1; subst e2
  generalize p_semi L B σs = ρ at H6 h
  obtain ⟨t6, p6, P6⟩ := ρ
  obtain ⟨g6, t6', w6, F6⟩ := H6.1 h
  have F6 : hf_F P6 R6 := F6
  refine ⟨⟨fun _ => ⟨?_, ?_, w6, hf_F_w F6 ha hb⟩, fun q => absurd h q⟩, hfy_tr f6 (hfy_tr (hfy_a (by omega)) (hfy_a (by omega)))⟩
  · rw [up2_a (by decide), up2_a (by decide)]; exact g6
  · exact hf_tok_f t6' (fun k hk => by rw [up2_a (by decide), up2_a (by decide)]) rfl
theorem p_semi_set {L : Nat} {B : Nat → Nat} {f : hP → hP} {σs : hPs} : (p_semi L B (p_set f σs)).2.1 = (p_semi L B σs).2.1 := by
  unfold p_semi
  show (if σs.1.2.1 = 3 ∧ B σs.1.1 = 59 then _ else _ : hPs).2.1 = _
  by_cases q : σs.1.2.1 = 3 ∧ B σs.1.1 = 59
  · rw [if_pos q, if_pos q]; rfl
  · rw [if_neg q, if_neg q]; rfl
set_option maxHeartbeats 1000000 in
theorem sp_mwantWind {d : Nat} (hd : 4 < d) {R0 : Nat → Nat → Int32} {X0 : hk_D} {Q : hk_Q} {L : Nat} {B : Nat → Nat} {σ : hPs} (T0 : hf_tp L B R0) (H0 : hf_RL L B σ R0 X0) (hf : σ.2.1 = 999) (hQ : ∀ R' X', hf_RL L B (p_winT L B (p_step L B σ)) R' X' → hfy R0 R' → X'.2 = X0.2 → Q none (hw R' X')) : hk_call d mM_wantWind [.ref 98] (hw R0 X0) Q := by
  obtain ⟨d, rfl⟩ : ∃ e, d = e + 1 := ⟨d - 1, by omega⟩
  have hL := T0.1
  obtain ⟨g0, t0, w0, F0⟩ := H0.1 hf
  have e1 : up2 R0 98 18 1 = R0 := by
    funext a k; unfold up2; split
    · rename_i z; rw [z.1, z.2, g0]
    · rfl
  unfold p_winT at hQ
  refine hk_run2 (hk_call_m d) 200 ?_
  refine sp_madvance (by omega) T0 t0.2.2.1 w0.2.1 (fun R1 X1 t1 f1 x1 => ?_)
  have H1 := hf_RL_step hL H0 hf t1 (by rw [e1]; exact f1)
  have f01 := hfy_z f1
  refine sp_mwantNumber (M := 24) (by omega) (hf_tp_y T0 f01) H1 (fun _ => by decide) (by omega) (fun R2 X2 y1 H2 f2 x2 ey1 => ?_)
  have l1 := p_num_lt (L := L) (B := B) (M := 24) (σ := p_step L B σ) (by decide)
  generalize p_num L B 24 (p_step L B σ) = N1 at hQ H2 ey1 l1
  have f02 := hfy_tr f01 f2
  have x02 := x2.trans x1
  -- what follows the direction
  have tail : ∀ (σ3 : hPs) (y2 : Int32) (dn : Nat) R3 X3, hf_RL L B σ3 R3 X3 → hfy R0 R3 → X3.2 = X0.2 → (σ3.2.1 = 999 → N1.2.2.1 = 999 ∧ y2 = nI dn ∧ dn < 4) → (∀ R' X', hf_RL L B (p_winU L B N1.1 dn σ3) R' X' → hfy R0 R' → X'.2 = X0.2 → Q none (hw R' X')) → hk_wp none 0 0 hk_dft cM_wantWind (hk_call d) (hk_qe Q) 30 [(2, .int y2), (1, .int y1), (0, .ref 98)] [] (hw R3 X3) 0 0 := by
    intro σ3 y2 dn R3 X3 H3 f3 x3 ok hQ
    unfold p_winU at hQ
    refine hk_run2 (hk_call_m d) 200 ?_
    refine sp_mwantNumber (M := 10) (by omega) (hf_tp_y T0 f3) H3 (fun _ => by decide) (by omega) (fun R4 X4 y3 H4 f4 x4 ey3 => ?_)
    have o4 := fun z => p_ok_num (L := L) (B := B) (M := 10) (σ := σ3) z
    have l4 := p_num_lt (L := L) (B := B) (M := 10) (σ := σ3) (by decide)
    generalize p_num L B 10 σ3 = N2 at hQ H4 ey3 o4 l4
    refine sp_mwantEnd (by omega) (hf_tp_y T0 (hfy_tr f3 f4)) H4 (fun R5 X5 H5 f5 x5 => ?_)
    have f05 := hfy_tr (hfy_tr f3 f4) f5
    have x05 := x5.trans (x4.trans x3)
    by_cases h : (p_semi L B N2.2).2.1 = 999
    · have h4 := p_ok_semi h
      obtain ⟨k1, k2, k3⟩ := ok (o4 h4)
      obtain ⟨g5, t5, w5, F5⟩ := H5.1 h
      refine And.intro (fun c => by rw [g5] at c; exact absurd c (by decide)) (fun _ => ?_)
      refine w_st (t := 0) (j := N1.1) (n := 24) (ey1 k1) rfl l1 (by omega) rfl rfl ?_
      refine w_st (t := 0) (j := N1.1) (n := 24) (ey1 k1) rfl l1 (by omega) rfl rfl ?_
      obtain ⟨z1, z2⟩ := win_fin (g := N1.1) (y3 := y3) H5 f05 h k3 l4 k2 (ey3 h4)
      exact hk_qe_of (hQ _ X5 z1 z2 x05)
    · obtain ⟨g5, -, -⟩ := H5.2 h
      refine And.intro (fun _ => ?_) (fun c => absurd g5 c)
      exact hk_qe_of (hQ R5 X5 (hf_RL_f H5 h p_semi_set) f05 x05)
  by_cases h : N1.2.2.1 = 999
  · obtain ⟨g2, t2, w2, F2⟩ := H2.1 h
    refine And.intro (fun c => by rw [g2] at c; exact absurd c (by decide)) (fun _ => ?_)
    refine sp_mdirectionHere (by omega) t2 w2 ?_
    refine And.intro (fun c => by rw [g2] at c; exact absurd c (by decide)) (fun _ => ?_)
    by_cases q : hf_dn B N1.2.1 = 99
    · rw [if_pos q] at hQ
      rw [q]
      refine And.intro (fun _ => ?_) (fun c => absurd (by decide) c)
      refine w_put (by decide) rfl rfl ?_
      refine And.intro (fun _ => ?_) (fun c => absurd (up2_s _ _ _ _) c)
      have nf : ¬ (p_fail N1.2).2.1 = 999 := by
        rw [show (p_fail N1.2).2.1 = N1.2.1.1 from if_pos h]; have := w2.1; have := w2.2.1; omega
      exact hk_stop2 (hk_call_m d) (tail (p_fail N1.2) _ 0 _ X2 (hf_RL_fail hL H2) (hfy_tr f02 (hfy_98 (by omega))) x02 (fun z => absurd z nf) (fun R' X' H' f' x' => hQ R' X' (hf_RL_f H' (by rw [p_winU_s nf]; exact nf) (p_winU_s nf).symm) f' x'))
    · rw [if_neg q] at hQ
      have dl := hf_dn_lt q
      rw [show hf_bI (hf_dn B N1.2.1) = nI (hf_dn B N1.2.1) from if_neg q]
      refine And.intro (fun c => absurd c (hn_npos (by omega))) (fun _ => ?_)
      refine w_put (by decide) rfl rfl ?_
      refine And.intro (fun c => absurd ((up2_s _ _ _ _).symm.trans c) (by decide)) (fun _ => ?_)
      have T2 := hf_tp_y T0 (hfy_tr f02 (hfy_98 (R := R2) (k := 18) (v := 1) (by omega)))
      refine sp_madvance (by omega) T2 ((up2_k (by decide)).trans t2.2.2.1) w2.2.1 (fun R3 X3 t3 f3 x3 => ?_)
      exact w_rn (hk_stop2 (hk_call_m d) (tail (p_step L B N1.2) _ (hf_dn B N1.2.1) R3 X3 (hf_RL_step hL H2 h t3 f3) (hfy_tr f02 (hfy_tr (hfy_98 (by omega)) (hfy_z f3))) (x3.trans x02) (fun _ => ⟨h, rfl, dl⟩) hQ))
  · obtain ⟨g2, -, -⟩ := H2.2 h
    refine And.intro (fun _ => ?_) (fun c => absurd g2 c)
    refine And.intro (fun _ => ?_) (fun c => absurd g2 c)
    refine w_put (by decide) rfl rfl ?_
    refine And.intro (fun _ => ?_) (fun c => absurd (up2_s _ _ _ _) c)
    have nf : ¬ (p_fail N1.2).2.1 = 999 := by rw [p_fail_s h]; exact h
    refine hk_stop2 (hk_call_m d) (tail (p_fail N1.2) _ 0 _ X2 (hf_RL_fail hL H2) (hfy_tr f02 (hfy_98 (by omega))) x02 (fun z => absurd z nf) (fun R' X' H' f' x' => hQ R' X' (hf_RL_f H' (by rw [p_winU_s nf]; exact nf) ?_) f' x'))
    rw [p_winU_s nf, p_fail_s h]
    split
    · exact p_fail_s h
    · exact p_winU_s (σ := p_step L B N1.2) h
set_option maxHeartbeats 1000000 in
theorem sp_mwantClause {d : Nat} (hd : 5 < d) {R0 : Nat → Nat → Int32} {X0 : hk_D} {Q : hk_Q} {L : Nat} {B : Nat → Nat} {σ : hPs} (T0 : hf_tp L B R0) (H0 : hf_RL L B σ R0 X0) (hf : σ.2.1 = 999) (hQ : ∀ R' X', hf_RL L B (p_one L B σ) R' X' → hfy R0 R' → X'.2 = X0.2 → Q none (hw R' X')) : hk_call d mM_wantClause [.ref 98] (hw R0 X0) Q := by
  obtain ⟨d, rfl⟩ : ∃ e, d = e + 1 := ⟨d - 1, by omega⟩
  have hL := T0.1
  obtain ⟨g0, t0, w0, F0⟩ := H0.1 hf
  unfold p_one at hQ
  refine hk_run2 (hk_call_m d) 200 ?_
  refine sp_misWord (i := 9) (by omega) t0 w0 rfl (by omega) (fun q9 => ?_) (fun q9 => ?_)
  · refine And.intro (fun c => absurd c (by decide)) (fun _ => ?_)
    have kn : hf_kn B σ.1 = 99 := by unfold hf_kn; rw [q9]; rfl
    rw [if_neg (fun z => z.1 kn)] at hQ
    refine sp_mwantPerson (by omega) T0 H0 hf (fun R' X' H' f' x' => hk_qe_of (hQ R' X' ?_ f' x'))
    by_cases l : σ.2.2 2 0 < 5
    · rw [if_pos l] at H'
      rw [if_pos ⟨q9, l⟩]; exact H'
    · rw [if_neg l] at H'
      rw [if_neg (fun z => l z.2), if_neg (by rw [q9]; decide), if_neg (by rw [q9]; decide)]; exact H'
  · refine And.intro (fun _ => ?_) (fun c => absurd rfl c)
    refine sp_misWord (i := 11) (by omega) t0 w0 rfl (by omega) (fun q11 => ?_) (fun q11 => ?_)
    · refine And.intro (fun c => absurd c (by decide)) (fun _ => ?_)
      have kn : hf_kn B σ.1 = 99 := by unfold hf_kn; rw [q11]; rfl
      rw [if_neg (fun z => z.1 kn), if_neg (fun z => q9 z.1), if_pos q11] at hQ
      exact sp_mwantWind (by omega) T0 H0 hf (fun R' X' H' f' x' => hk_qe_of (hQ R' X' H' f' x'))
    · refine And.intro (fun _ => ?_) (fun c => absurd rfl c)
      refine sp_misWord (i := 16) (by omega) t0 w0 rfl (by omega) (fun q16 => ?_) (fun q16 => ?_)
      · refine And.intro (fun c => absurd c (by decide)) (fun _ => ?_)
        have kn : hf_kn B σ.1 = 99 := by unfold hf_kn; rw [q16]; rfl
        rw [if_neg (fun z => z.1 kn), if_neg (fun z => q9 z.1), if_neg q11, if_pos q16] at hQ
        have e1 : up2 R0 98 18 1 = R0 := by
          funext a k; unfold up2; split
          · rename_i z; rw [z.1, z.2, g0]
          · rfl
        unfold p_nowT at hQ
        refine sp_madvance (by omega) T0 t0.2.2.1 w0.2.1 (fun R1 X1 t1 f1 x1 => ?_)
        have H1 := hf_RL_step hL H0 hf t1 (by rw [e1]; exact f1)
        have f01 := hfy_z f1
        refine sp_mwantNumber (M := 97) (by omega) (hf_tp_y T0 f01) H1 (fun _ => by decide) (by omega) (fun R2 X2 y1 H2 f2 x2 ey1 => ?_)
        have l1 := p_num_lt (L := L) (B := B) (M := 97) (σ := p_step L B σ) (by decide)
        generalize p_num L B 97 (p_step L B σ) = N1 at hQ H2 ey1 l1
        refine w_put trivial rfl rfl ?_
        have f02 := hfy_tr f01 (hfy_tr f2 (hfy_98 (R := R2) (k := 21) (v := y1) (by omega)))
        have H3 : hf_RL L B (p_set (fun P => hf_up P 4 0 N1.1) N1.2) (up2 R2 98 21 y1) X2 := by
          by_cases h : N1.2.2.1 = 999
          · obtain ⟨g2, t2, w2, F2⟩ := H2.1 h
            rw [ey1 h]
            refine ⟨fun _ => ⟨?_, ?_, w2, hf_F_now F2 (by omega)⟩, fun q => absurd h q⟩
            · rw [up2_k (by decide)]; exact g2
            · exact hf_tok_f t2 (fun k hk => up2_k (by omega)) rfl
          · obtain ⟨g2, b2, c2⟩ := H2.2 h
            exact ⟨fun q => absurd q h, fun _ => ⟨by rw [up2_k (by decide)]; exact g2, by rw [up2_k (by decide)]; exact b2, c2⟩⟩
        refine sp_mwantEnd (by omega) (hf_tp_y T0 f02) H3 (fun R4 X4 H4 f4 x4 => ?_)
        exact hk_qe_of (hQ R4 X4 H4 (hfy_tr f02 f4) (x4.trans (x2.trans x1)))
      · refine And.intro (fun _ => ?_) (fun c => absurd rfl c)
        refine sp_mkindHere (by omega) t0 w0 ?_
        by_cases kn : hf_kn B σ.1 = 99
        · rw [if_neg (fun z => z.1 kn), if_neg (fun z => q9 z.1), if_neg q11, if_neg q16] at hQ
          rw [kn]
          refine And.intro (fun _ => ?_) (fun c => absurd (by decide) c)
          refine w_put (by decide) rfl rfl ?_
          exact hk_qe_of (hQ _ X0 (hf_RL_fail hL H0) (hfy_98 (by omega)) rfl)
        · have k6 : hf_kn B σ.1 < 6 := by
            unfold hf_kn at kn ⊢
            split
            · assumption
            · rename_i q; rw [if_neg q] at kn; exact absurd rfl kn
          rw [show hf_bI (hf_kn B σ.1) = nI (hf_kn B σ.1) from if_neg kn]
          refine And.intro (fun c => absurd c (hn_npos (by omega))) (fun _ => ?_)
          refine sp_mkindHere (by omega) t0 w0 ?_
          rw [show hf_bI (hf_kn B σ.1) = nI (hf_kn B σ.1) from if_neg kn]
          refine sp_mwantHat (by omega) T0 H0 hf rfl k6 (fun R' X' H' f' x' => hk_qe_of (hQ R' X' ?_ f' x'))
          by_cases l : σ.2.2 3 0 < 6
          · rw [if_pos l] at H'
            rw [if_pos ⟨kn, l⟩]; exact H'
          · rw [if_neg l] at H'
            rw [if_neg (fun z => l z.2), if_neg (fun z => q9 z.1), if_neg q11, if_neg q16]; exact H'
/-! how far the reading is -/
theorem p_mv_step {L : Nat} {B : Nat → Nat} {σ : hPs} (hL : L ≤ 200) (w : tkw L B σ.1) : tkw L B (p_step L B σ).1 ∧ σ.1.2.2 ≤ (p_step L B σ).1.1 := tk_w _ w.2.1 hL
theorem p_mv_num {L : Nat} {B : Nat → Nat} {M : Nat} {σ : hPs} (hL : L ≤ 200) (w : tkw L B σ.1) : tkw L B (p_num L B M σ).2.1 ∧ σ.1.1 ≤ (p_num L B M σ).2.1.1 := by
  unfold p_num; split
  · have z := p_mv_step hL w; exact ⟨z.1, Nat.le_trans w.1 z.2⟩
  · exact ⟨w, Nat.le_refl _⟩
theorem p_mv_semi {L : Nat} {B : Nat → Nat} {σ : hPs} (hL : L ≤ 200) (w : tkw L B σ.1) : tkw L B (p_semi L B σ).1 ∧ σ.1.1 ≤ (p_semi L B σ).1.1 := by
  unfold p_semi; split
  · have z := p_mv_step hL w; exact ⟨z.1, Nat.le_trans w.1 z.2⟩
  · exact ⟨w, Nat.le_refl _⟩
theorem p_mv_word {L : Nat} {B : Nat → Nat} {i : Nat} {σ : hPs} (hL : L ≤ 200) (w : tkw L B σ.1) : tkw L B (p_word L B i σ).1 ∧ σ.1.1 ≤ (p_word L B i σ).1.1 := by
  unfold p_word; split
  · have z := p_mv_step hL w; exact ⟨z.1, Nat.le_trans w.1 z.2⟩
  · exact ⟨w, Nat.le_refl _⟩
theorem p_mv_sp {L : Nat} {B : Nat → Nat} {σ : hPs} (hL : L ≤ 200) (w : tkw L B σ.1) : tkw L B (p_sp L B σ).2.1 ∧ σ.1.1 ≤ (p_sp L B σ).2.1.1 := by
  unfold p_sp; split
  · have z := p_mv_step hL w
    have y := p_mv_num (M := 4) hL z.1
    exact ⟨y.1, Nat.le_trans w.1 (Nat.le_trans z.2 y.2)⟩
  · exact ⟨w, Nat.le_refl _⟩
theorem p_mv_wh {L : Nat} {B : Nat → Nat} {σ : hPs} (hL : L ≤ 200) (w : tkw L B σ.1) : tkw L B (p_wh L B σ).2.1 ∧ σ.1.1 ≤ (p_wh L B σ).2.1.1 := by
  unfold p_wh; split
  · have z := p_mv_step hL w
    have y := p_mv_num (M := σ.2.2 2 0) hL z.1
    exact ⟨y.1, Nat.le_trans w.1 (Nat.le_trans z.2 y.2)⟩
  · have z := p_mv_word (i := 8) hL w
    have y := p_mv_num (M := 25) hL z.1
    exact ⟨y.1, Nat.le_trans z.2 y.2⟩
theorem p_set_1 {f : hP → hP} {σ : hPs} : (p_set f σ).1 = σ.1 := rfl
theorem p_mv_hatT {L : Nat} {B : Nat → Nat} {k : Nat} {σ : hPs} (hL : L ≤ 200) (w : tkw L B σ.1) : tkw L B (p_hatT L B k σ).1 ∧ σ.1.1 ≤ (p_hatT L B k σ).1.1 := by
  unfold p_hatT
  rw [p_set_1]
  have a := p_mv_num (M := 10) hL w
  generalize p_num L B 10 σ = N1 at a ⊢
  have b := p_mv_word (i := 6) hL a.1
  generalize p_word L B 6 N1.2 = W1 at b ⊢
  have c := p_mv_num (M := 100) hL b.1
  generalize p_num L B 100 W1 = N2 at c ⊢
  have e := p_mv_wh hL c.1
  generalize p_wh L B N2.2 = N3 at e ⊢
  have f := p_mv_semi hL e.1
  exact ⟨f.1, Nat.le_trans a.2 (Nat.le_trans b.2 (Nat.le_trans c.2 (Nat.le_trans e.2 f.2)))⟩
theorem p_mv_perT {L : Nat} {B : Nat → Nat} {σ : hPs} (hL : L ≤ 200) (w : tkw L B σ.1) : tkw L B (p_perT L B σ).1 ∧ σ.1.1 ≤ (p_perT L B σ).1.1 := by
  unfold p_perT
  rw [p_set_1]
  have a := p_mv_num (M := 25) hL w
  generalize p_num L B 25 σ = N1 at a ⊢
  have b := p_mv_sp hL a.1
  generalize p_sp L B N1.2 = N2 at b ⊢
  have c := p_mv_semi hL b.1
  exact ⟨c.1, Nat.le_trans a.2 (Nat.le_trans b.2 c.2)⟩
theorem p_mv_set {L : Nat} {B : Nat → Nat} {f : hP → hP} {σ : hPs} (hL : L ≤ 200) (w : tkw L B σ.1) : tkw L B (p_semi L B (p_set f σ)).1 ∧ σ.1.1 ≤ (p_semi L B (p_set f σ)).1.1 := p_mv_semi (σ := p_set f σ) hL w
theorem p_mv_winT {L : Nat} {B : Nat → Nat} {σ : hPs} (hL : L ≤ 200) (w : tkw L B σ.1) : tkw L B (p_winT L B σ).1 ∧ σ.1.1 ≤ (p_winT L B σ).1.1 := by
  unfold p_winT
  have a := p_mv_num (M := 24) hL w
  generalize p_num L B 24 σ = N1 at a ⊢
  split
  · exact a
  · unfold p_winU
    have b := p_mv_step hL a.1
    generalize p_step L B N1.2 = S1 at b ⊢
    have c := p_mv_num (M := 10) hL b.1
    generalize p_num L B 10 S1 = N2 at c ⊢
    have e := p_mv_set (f := fun P => hf_w P N1.1 (hf_dn B N1.2.1) N2.1) hL c.1
    exact ⟨e.1, Nat.le_trans a.2 (Nat.le_trans a.1.1 (Nat.le_trans b.2 (Nat.le_trans c.2 e.2)))⟩
theorem p_mv_nowT {L : Nat} {B : Nat → Nat} {σ : hPs} (hL : L ≤ 200) (w : tkw L B σ.1) : tkw L B (p_nowT L B σ).1 ∧ σ.1.1 ≤ (p_nowT L B σ).1.1 := by
  unfold p_nowT
  have a := p_mv_num (M := 97) hL w
  generalize p_num L B 97 σ = N1 at a ⊢
  have e := p_mv_set (f := fun P => hf_up P 4 0 N1.1) hL a.1
  exact ⟨e.1, Nat.le_trans a.2 e.2⟩
theorem p_mv_one {L : Nat} {B : Nat → Nat} {σ : hPs} (hL : L ≤ 200) (w : tkw L B σ.1) (hf : σ.2.1 = 999) (h : (p_one L B σ).2.1 = 999) : σ.1.2.2 ≤ (p_one L B σ).1.1 := by
  obtain ⟨w1, l1⟩ := p_mv_step hL w
  have z1 := p_mv_hatT (k := hf_kn B σ.1) hL w1
  have z2 := p_mv_perT hL w1
  have z3 := p_mv_winT hL w1
  have z4 := p_mv_nowT hL w1
  unfold p_one at h ⊢
  generalize p_hatT L B (hf_kn B σ.1) (p_step L B σ) = a1 at z1 h ⊢
  generalize p_perT L B (p_step L B σ) = a2 at z2 h ⊢
  generalize p_winT L B (p_step L B σ) = a3 at z3 h ⊢
  generalize p_nowT L B (p_step L B σ) = a4 at z4 h ⊢
  have h5 : ¬ (p_fail σ).2.1 = 999 := by
    rw [show (p_fail σ).2.1 = σ.1.1 from if_pos hf]; have := w.1; have := w.2.1; omega
  by_cases c1 : ¬ hf_kn B σ.1 = 99 ∧ σ.2.2 3 0 < 6
  · rw [if_pos c1]; exact Nat.le_trans l1 z1.2
  · rw [if_neg c1] at h ⊢
    by_cases c2 : hf_id B σ.1 = 9 ∧ σ.2.2 2 0 < 5
    · rw [if_pos c2]; exact Nat.le_trans l1 z2.2
    · rw [if_neg c2] at h ⊢
      by_cases c3 : hf_id B σ.1 = 11
      · rw [if_pos c3]; exact Nat.le_trans l1 z3.2
      · rw [if_neg c3] at h ⊢
        by_cases c4 : hf_id B σ.1 = 16
        · rw [if_pos c4]; exact Nat.le_trans l1 z4.2
        · rw [if_neg c4] at h; exact absurd h h5
