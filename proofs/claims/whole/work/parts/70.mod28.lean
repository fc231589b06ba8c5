/-! THE REFERENCE: clauses -/
theorem p_fail_P {σ : hPs} : (p_fail σ).2.2 = σ.2.2 := rfl
theorem p_num_P {L : Nat} {B : Nat → Nat} {M : Nat} {σ : hPs} : (p_num L B M σ).2.2.2 = σ.2.2 := by unfold p_num; split <;> rfl
theorem p_semi_P {L : Nat} {B : Nat → Nat} {σ : hPs} : (p_semi L B σ).2.2 = σ.2.2 := by unfold p_semi; split <;> rfl
theorem p_word_P {L : Nat} {B : Nat → Nat} {i : Nat} {σ : hPs} : (p_word L B i σ).2.2 = σ.2.2 := by unfold p_word; split <;> rfl
theorem p_sp_P {L : Nat} {B : Nat → Nat} {σ : hPs} : (p_sp L B σ).2.2.2 = σ.2.2 := by
  unfold p_sp; split
  · rw [p_num_P]; rfl
  · rfl
theorem p_wh_P {L : Nat} {B : Nat → Nat} {σ : hPs} : (p_wh L B σ).2.2.2 = σ.2.2 := by
  unfold p_wh; split
  · show (p_num L B (σ.2.2 2 0) (p_step L B σ)).2.2.2 = _
    rw [p_num_P]; rfl
  · rw [p_num_P, p_word_P]
theorem p_num_lt {L : Nat} {B : Nat → Nat} {M : Nat} {σ : hPs} (h : 0 < M) : (p_num L B M σ).1 < M := by
  unfold p_num; split
  · assumption
  · exact h
theorem p_sp_lt {L : Nat} {B : Nat → Nat} {σ : hPs} : (p_sp L B σ).1 < 4 := by
  unfold p_sp; split
  · exact p_num_lt (by decide)
  · show 1 < 4; decide
theorem p_ok_semi {L : Nat} {B : Nat → Nat} {σ : hPs} (h : (p_semi L B σ).2.1 = 999) : σ.2.1 = 999 := Classical.byContradiction (fun z => z ((p_semi_s z).symm.trans h))
theorem p_ok_num {L : Nat} {B : Nat → Nat} {M : Nat} {σ : hPs} (h : (p_num L B M σ).2.2.1 = 999) : σ.2.1 = 999 := Classical.byContradiction (fun z => z ((p_num_s z).symm.trans h))
theorem p_ok_word {L : Nat} {B : Nat → Nat} {i : Nat} {σ : hPs} (h : (p_word L B i σ).2.1 = 999) : σ.2.1 = 999 := Classical.byContradiction (fun z => z ((p_word_s z).symm.trans h))
theorem p_ok_sp {L : Nat} {B : Nat → Nat} {σ : hPs} (h : (p_sp L B σ).2.2.1 = 999) : σ.2.1 = 999 := Classical.byContradiction (fun z => z ((p_sp_s z).symm.trans h))
theorem p_ok_wh {L : Nat} {B : Nat → Nat} {σ : hPs} (h : (p_wh L B σ).2.2.1 = 999) : σ.2.1 = 999 := Classical.byContradiction (fun z => z ((p_wh_s z).symm.trans h))
theorem p_wh_b {L : Nat} {B : Nat → Nat} {σ : hPs} (h : (p_wh L B σ).2.2.1 = 999) (w : tkw L B σ.1) (hL : L ≤ 200) : (p_wh L B σ).1 < 25 ∨ (25 ≤ (p_wh L B σ).1 ∧ (p_wh L B σ).1 < 25 + σ.2.2 2 0) := by
  have b := w.1
  have e := w.2.1
  unfold p_wh at h ⊢
  by_cases q : hf_id B σ.1 = 7
  · rw [if_pos q] at h ⊢
    refine Or.inr ⟨Nat.le_add_right _ _, ?_⟩
    by_cases z : 0 < σ.2.2 2 0
    · have := p_num_lt (L := L) (B := B) (σ := p_step L B σ) z
      show 25 + _ < _; omega
    · exfalso
      have h : (p_num L B (σ.2.2 2 0) (p_step L B σ)).2.2.1 = 999 := h
      unfold p_num at h
      rw [if_neg (by omega)] at h
      by_cases y : σ.2.1 = 999
      · have h : (if σ.2.1 = 999 then (p_step L B σ).1.1 else σ.2.1) = 999 := h
        rw [if_pos y] at h
        have := (tk_w (B := B) σ.1.2.2 e hL).1
        have h : (tk L B σ.1.2.2).1 = 999 := h
        have u1 := this.1
        have u2 := this.2.1
        omega
      · have h : (if σ.2.1 = 999 then (p_step L B σ).1.1 else σ.2.1) = 999 := h
        rw [if_neg y] at h; exact y h
  · rw [if_neg q]
    exact Or.inl (p_num_lt (by decide))
theorem hf_F_addp {P : hP} {R : Nat → Nat → Int32} {q s : Nat} (F : hf_F P R) (hn : P 2 0 < 5) (hq : q < 25) (hs : s < 4) : hf_F (hf_addp P q s) (up2 (up2 (up2 R 107 (P 2 0) (nI q)) 108 (P 2 0) (nI s)) 98 19 (nI (P 2 0 + 1))) := by
  obtain ⟨f1, f2, f3, f4, f5, f6, f7, f8⟩ := F
  have e2 : hf_addp P q s 2 0 = P 2 0 + 1 := hf_up_s _ _ _ _
  have fr : ∀ a k, ¬ (a = 107 ∧ k = P 2 0) → ¬ (a = 108 ∧ k = P 2 0) → ¬ (a = 98 ∧ k = 19) → up2 (up2 (up2 R 107 (P 2 0) (nI q)) 108 (P 2 0) (nI s)) 98 19 (nI (P 2 0 + 1)) a k = R a k := fun a k z1 z2 z3 => by rw [up2_n z3, up2_n z2, up2_n z1]
  refine ⟨by rw [up2_s, e2], (fr _ _ (by omega) (by omega) (by omega)).trans f2, (fr _ _ (by omega) (by omega) (by omega)).trans f3, fun j hj => ⟨(fr _ _ (by omega) (by omega) (by omega)).trans (f4 j hj).1, (fr _ _ (by omega) (by omega) (by omega)).trans (f4 j hj).2⟩, fun p hp => ?_, fun h hh => ?_, hf_ok_addp f7 hn hq hs, f8⟩
  · rw [e2] at hp
    show _ = nI (hf_up (hf_up (hf_up P 5 (P 2 0) q) 6 (P 2 0) s) 2 0 (P 2 0 + 1) 5 p) ∧ _ = nI (hf_up (hf_up (hf_up P 5 (P 2 0) q) 6 (P 2 0) s) 2 0 (P 2 0 + 1) 6 p)
    rw [hf_up_r (show 5 ≠ 2 by decide), hf_up_r (show 5 ≠ 6 by decide), hf_up_r (show 6 ≠ 2 by decide)]
    by_cases e : p = P 2 0
    · rw [e, hf_up_s, hf_up_s, up2_a (show 107 ≠ 98 by decide), up2_a (show 107 ≠ 108 by decide), up2_s, up2_a (show 108 ≠ 98 by decide), up2_s]; exact ⟨rfl, rfl⟩
    · rw [hf_up_j e, hf_up_j e, hf_up_r (by decide), fr _ _ (by omega) (by omega) (by omega), fr _ _ (by omega) (by omega) (by omega)]; exact f5 p (by omega)
  · have hh : h < P 3 0 := hh
    obtain ⟨g1, g2, g3, g4, g5, g6⟩ := f6 h hh
    exact ⟨(fr _ _ (by omega) (by omega) (by omega)).trans g1, (fr _ _ (by omega) (by omega) (by omega)).trans g2, (fr _ _ (by omega) (by omega) (by omega)).trans g3, (fr _ _ (by omega) (by omega) (by omega)).trans g4, fun q => (fr _ _ (by omega) (by omega) (by omega)).trans (g5 q), g6⟩
theorem hf_F_addh {P : hP} {R R' : Nat → Nat → Int32} {k a w q : Nat} (F : hf_F P R) (hn : P 3 0 < 6) (hk : k < 6) (ha : a < 10) (hw : w < 100) (hq : q < 25 ∨ (25 ≤ q ∧ q < 25 + P 2 0)) (fr : ∀ a k, ¬ ((109 ≤ a ∧ a ≤ 113) ∧ k = P 3 0) → ¬ (a = 98 ∧ k = 20) → R' a k = R a k) (r20 : R' 98 20 = nI (P 3 0 + 1)) (r0 : R' 109 (P 3 0) = nI k) (r1 : R' 110 (P 3 0) = nI a) (r2 : R' 111 (P 3 0) = nI w) (r3 : R' 112 (P 3 0) = hf_mw q) (r4 : q < 25 → R' 113 (P 3 0) = nI q) : hf_F (hf_addh P k a w q) R' := by
  obtain ⟨f1, f2, f3, f4, f5, f6, f7, f8⟩ := F
  obtain ⟨s7, s8, s9, s10, s3⟩ := hf_addh_s (P := P) (k := k) (a := a) (w := w) (q := q)
  have n5 := f7.1
  refine ⟨(fr _ _ (by omega) (by omega)).trans f1, by rw [s3]; exact r20, (fr _ _ (by omega) (by omega)).trans f3, fun j hj => ⟨(fr _ _ (by omega) (by omega)).trans (f4 j hj).1, (fr _ _ (by omega) (by omega)).trans (f4 j hj).2⟩, fun p hp => ⟨(fr _ _ (by omega) (by omega)).trans (f5 p hp).1, (fr _ _ (by omega) (by omega)).trans (f5 p hp).2⟩, fun h hh => ?_, hf_ok_addh f7 hn hk ha hw (by rcases hq with z | z; exact Or.inl z; exact Or.inr (Or.inl z)), f8⟩
  rw [s3] at hh
  by_cases e : h = P 3 0
  · rw [e, s7, s8, s9, s10]; exact ⟨r0, r1, r2, r3, r4, by omega⟩
  · rw [hf_addh_j (by decide) e, hf_addh_j (by decide) e, hf_addh_j (by decide) e, hf_addh_j (by decide) e]
    obtain ⟨g1, g2, g3, g4, g5, g6⟩ := f6 h (by omega)
    exact ⟨(fr _ _ (by omega) (by omega)).trans g1, (fr _ _ (by omega) (by omega)).trans g2, (fr _ _ (by omega) (by omega)).trans g3, (fr _ _ (by omega) (by omega)).trans g4, fun q => (fr _ _ (by omega) (by omega)).trans (g5 q), g6⟩
theorem hf_F_w {P : hP} {R : Nat → Nat → Int32} {g a b : Nat} (F : hf_F P R) (ha : a < 4) (hb : b < 10) : hf_F (hf_w P g a b) (up2 (up2 R 114 g (nI a)) 115 g (nI b)) := by
  obtain ⟨f1, f2, f3, f4, f5, f6, f7, f8⟩ := F
  have fr : ∀ c k, c ≠ 114 → c ≠ 115 → up2 (up2 R 114 g (nI a)) 115 g (nI b) c k = R c k := fun c k z1 z2 => by rw [up2_a z2, up2_a z1]
  refine ⟨(fr _ _ (by omega) (by omega)).trans f1, (fr _ _ (by omega) (by omega)).trans f2, (fr _ _ (by omega) (by omega)).trans f3, fun j hj => ?_, fun p hp => ⟨(fr _ _ (by omega) (by omega)).trans (f5 p hp).1, (fr _ _ (by omega) (by omega)).trans (f5 p hp).2⟩, fun h hh => ?_, hf_ok_wind f7 ha hb, f8⟩
  · show _ = nI (hf_up (hf_up P 0 g a) 1 g b 0 j) ∧ _ = nI (hf_up (hf_up P 0 g a) 1 g b 1 j)
    by_cases e : j = g
    · subst e
      rw [up2_a (show 114 ≠ 115 by decide), up2_s, up2_s, hf_up_r (by decide), hf_up_s, hf_up_s]; exact ⟨rfl, rfl⟩
    · rw [up2_k e, up2_k e, up2_k e, up2_k e, hf_up_j e, hf_up_j e, hf_up_j e, hf_up_j e]; exact f4 j hj
  · obtain ⟨g1, g2, g3, g4, g5, g6⟩ := f6 h hh
    exact ⟨(fr _ _ (by omega) (by omega)).trans g1, (fr _ _ (by omega) (by omega)).trans g2, (fr _ _ (by omega) (by omega)).trans g3, (fr _ _ (by omega) (by omega)).trans g4, fun q => (fr _ _ (by omega) (by omega)).trans (g5 q), g6⟩
theorem hf_F_now {P : hP} {R : Nat → Nat → Int32} {q : Nat} (F : hf_F P R) (hq : q ≤ 96) : hf_F (hf_up P 4 0 q) (up2 R 98 21 (nI q)) := by
  obtain ⟨f1, f2, f3, f4, f5, f6, f7, f8⟩ := F
  have fr : ∀ c k, ¬ (c = 98 ∧ k = 21) → up2 R 98 21 (nI q) c k = R c k := fun c k z => up2_n z
  refine ⟨(fr _ _ (by omega)).trans f1, (fr _ _ (by omega)).trans f2, by rw [up2_s, hf_up_s], fun j hj => ⟨(fr _ _ (by omega)).trans (f4 j hj).1, (fr _ _ (by omega)).trans (f4 j hj).2⟩, fun p hp => ⟨(fr _ _ (by omega)).trans (f5 p hp).1, (fr _ _ (by omega)).trans (f5 p hp).2⟩, fun h hh => ?_, hf_ok_now f7 (by omega), by rw [hf_up_s]; exact hq⟩
  obtain ⟨g1, g2, g3, g4, g5, g6⟩ := f6 h hh
  exact ⟨(fr _ _ (by omega)).trans g1, (fr _ _ (by omega)).trans g2, (fr _ _ (by omega)).trans g3, (fr _ _ (by omega)).trans g4, fun q => (fr _ _ (by omega)).trans (g5 q), g6⟩
set_option maxHeartbeats 1000000 in
theorem sp_mwantPerson {d : Nat} (hd : 4 < d) {R0 : Nat → Nat → Int32} {X0 : hk_D} {Q : hk_Q} {L : Nat} {B : Nat → Nat} {σ : hPs} (T0 : hf_tp L B R0) (H0 : hf_RL L B σ R0 X0) (hf : σ.2.1 = 999) (hQ : ∀ R' X', hf_RL L B (if σ.2.2 2 0 < 5 then p_perT L B (p_step L B σ) else p_fail σ) R' X' → hfy R0 R' → X'.2 = X0.2 → Q none (hw R' X')) : hk_call d mM_wantPerson [.ref 98] (hw R0 X0) Q := by
  obtain ⟨d, rfl⟩ : ∃ e, d = e + 1 := ⟨d - 1, by omega⟩
  have hL := T0.1
  obtain ⟨g0, t0, w0, F0⟩ := H0.1 hf
  have n5 := F0.2.2.2.2.2.2.1.1
  have rest : ∀ (σ1 : hPs) R1 X1, hf_RL L B σ1 R1 X1 → hfy R0 R1 → X1.2 = X0.2 → (σ1.2.1 = 999 → σ1.2.2 2 0 < 5) → (∀ R' X', hf_RL L B (p_perT L B σ1) R' X' → hfy R0 R' → X'.2 = X0.2 → Q none (hw R' X')) → hk_wp none 0 0 hk_dft cM_wantPerson (hk_call d) (hk_qe Q) 14 [(0, .ref 98)] [] (hw R1 X1) 0 0 := by
    intro σ1 R1 X1 H1 f1 x1 lt hQ
    refine hk_run2 (hk_call_m d) 200 ?_
    refine sp_mwantNumber (M := 25) (by omega) (hf_tp_y T0 f1) H1 (fun _ => by decide) (by omega) (fun R2 X2 y1 H2 f2 x2 ey1 => ?_)
    have f02 := hfy_tr f1 f2
    have x02 := x2.trans x1
    have tail : ∀ R3 X3 y2, hf_RL L B (p_sp L B (p_num L B 25 σ1).2).2 R3 X3 → hfy R0 R3 → X3.2 = X0.2 → ((p_sp L B (p_num L B 25 σ1).2).2.2.1 = 999 → y2 = nI (p_sp L B (p_num L B 25 σ1).2).1) → hk_wp none 0 0 hk_dft cM_wantPerson (hk_call d) (hk_qe Q) 30 [(2, .int y2), (1, .int y1), (0, .ref 98)] [] (hw R3 X3) 0 0 := by
      intro R3 X3 y2 H3 f3 x3 ey2
      refine hk_run2 (hk_call_m d) 200 ?_
      refine sp_mwantEnd (by omega) (hf_tp_y T0 f3) H3 (fun R4 X4 H4 f4 x4 => ?_)
      have f04 := hfy_tr f3 f4
      have x04 := x4.trans x3
      unfold p_perT at hQ
      by_cases h : (p_semi L B (p_sp L B (p_num L B 25 σ1).2).2).2.1 = 999
      · obtain ⟨g4, t4, w4, F4⟩ := H4.1 h
        have h3 := p_ok_semi h
        have h2 := p_ok_sp h3
        have h1 := p_ok_num h2
        rw [p_semi_P, p_sp_P, p_num_P] at F4
        have l5 := lt h1
        have r19 := F4.1
        refine And.intro (fun c => by rw [g4] at c; exact absurd c (by decide)) (fun _ => ?_)
        refine w_st (t := 0) (j := σ1.2.2 2 0) (n := 5) r19 rfl (by omega) (by omega) rfl rfl ?_
        refine w_st (t := 0) (j := σ1.2.2 2 0) (n := 5) ((up2_a (by decide)).trans r19) rfl (by omega) (by omega) rfl rfl ?_
        refine w_put trivial rfl rfl ?_
        rw [up2_a (show 98 ≠ 108 by decide), up2_a (show 98 ≠ 107 by decide), r19, nI_1, ey1 h2, ey2 h3]
        have F5 := hf_F_addp F4 l5 (p_num_lt (L := L) (B := B) (M := 25) (σ := σ1) (by decide)) (p_sp_lt (L := L) (B := B) (σ := (p_num L B 25 σ1).2))
        refine hk_qe_of (hQ _ X4 ⟨fun _ => ⟨?_, ?_, w4, ?_⟩, fun q => absurd h q⟩ (hfy_tr f04 (hfy_tr (hfy_a (by omega)) (hfy_tr (hfy_a (by omega)) (hfy_98 (by omega))))) x04)
        · rw [up2_k (by decide), up2_a (by decide), up2_a (by decide)]; exact g4
        · exact hf_tok_f t4 (fun k hk => by rw [up2_k (by omega), up2_a (by decide), up2_a (by decide)]) rfl
        · show hf_F (hf_addp (p_semi L B (p_sp L B (p_num L B 25 σ1).2).2).2.2 _ _) _
          rw [p_semi_P, p_sp_P, p_num_P]; exact F5
      · obtain ⟨g4, -, -⟩ := H4.2 h
        refine And.intro (fun _ => ?_) (fun c => absurd g4 c)
        exact hk_qe_of (hQ R4 X4 (hf_RL_f H4 h rfl) f04 x04)
    refine sp_mtakes (i := 10) (by omega) (hf_tp_y T0 f02) H2 rfl (by omega) (fun h q R3 X3 H3 f3 x3 => ?_) (fun nq => ?_)
    · refine And.intro (fun c => absurd c (by decide)) (fun _ => ?_)
      have es : p_sp L B (p_num L B 25 σ1).2 = p_num L B 4 (p_step L B (p_num L B 25 σ1).2) := if_pos q
      refine sp_mwantNumber (M := 4) (by omega) (hf_tp_y T0 (hfy_tr f02 f3)) H3 (fun _ => by decide) (by omega) (fun R4 X4 y2 H4 f4 x4 ey2 => ?_)
      rw [← es] at H4 ey2
      exact w_rv (hk_stop2 (hk_call_m d) (hk_run2 (hk_call_m d) 1 (tail R4 X4 y2 H4 (hfy_tr (hfy_tr f02 f3) f4) (x4.trans (x3.trans x02)) ey2)))
    · refine And.intro (fun _ => ?_) (fun c => absurd rfl c)
      refine hk_stop2 (hk_call_m d) (tail R2 X2 1 ?_ f02 x02 (fun h => ?_))
      · by_cases h : (p_num L B 25 σ1).2.2.1 = 999
        · rw [show p_sp L B (p_num L B 25 σ1).2 = (1, (p_num L B 25 σ1).2) from if_neg (fun z => nq ⟨h, z⟩)]; exact H2
        · exact hf_RL_f H2 h (p_sp_s h)
      · rw [show p_sp L B (p_num L B 25 σ1).2 = (1, (p_num L B 25 σ1).2) from if_neg (fun z => nq ⟨p_ok_sp h, z⟩)]; rfl
  refine hk_run2 (hk_call_m d) 200 ?_
  refine And.intro (fun c => ?_) (fun c => ?_)
  · rw [F0.1] at c
    have c : nI 5 ≤ nI (σ.2.2 2 0) := c
    rw [nI_leI (by omega) (by omega)] at c
    rw [if_neg (by omega)] at hQ
    refine w_put (by decide) rfl rfl ?_
    refine And.intro (fun _ => ?_) (fun c => absurd (up2_s _ _ _ _) c)
    have H1 := hf_RL_fail hL H0
    have ef : (p_fail σ).2.1 = σ.1.1 := if_pos hf
    have nf : ¬ (p_fail σ).2.1 = 999 := by rw [ef]; have := w0.1; have := w0.2.1; omega
    exact hk_stop2 (hk_call_m d) (rest (p_fail σ) _ X0 H1 (hfy_98 (by omega)) rfl (fun z => absurd z nf) (fun R' X' H' f' x' => hQ R' X' (hf_RL_f H' (by rw [p_perT_s nf]; exact nf) (p_perT_s nf).symm) f' x'))
  · rw [F0.1] at c
    have c : ¬ nI 5 ≤ nI (σ.2.2 2 0) := c
    rw [nI_leI (by omega) (by omega)] at c
    rw [if_pos (by omega)] at hQ
    refine w_put (by decide) rfl rfl ?_
    refine And.intro (fun c => absurd ((up2_s _ _ _ _).symm.trans c) (by decide)) (fun _ => ?_)
    have T1 := hf_tp_y T0 (hfy_98 (R := R0) (k := 18) (v := 1) (by omega))
    refine sp_madvance (by omega) T1 ((up2_k (by decide)).trans t0.2.2.1) w0.2.1 (fun R1 X1 t1 f1 x1 => ?_)
    exact w_rn (hk_stop2 (hk_call_m d) (rest (p_step L B σ) R1 X1 (hf_RL_step hL H0 hf t1 f1) (hfy_tr (hfy_98 (by omega)) (hfy_z f1)) x1 (fun _ => by show σ.2.2 2 0 < 5; omega) hQ))
theorem hat_fin {L : Nat} {B : Nat → Nat} {σs : hPs} {P : hP} {k n1 n2 q : Nat} {y1 y2 y4 y5 : Int32} {R0 R6 : Nat → Nat → Int32} {X6 : hk_D} (H6 : hf_RL L B σs R6 X6) (f6 : hfy R0 R6) (hP : σs.2.2 = P) (h : σs.2.1 = 999) (l6 : P 3 0 < 6) (hk : k < 6) (b1 : n1 < 10) (b2 : n2 < 100) (e1 : y1 = nI n1) (e2 : y2 = nI n2) (e5 : y5 = hf_mw q) (e4 : q < 25 → y4 = nI q) (pb : q < 25 ∨ (25 ≤ q ∧ q < 25 + P 2 0)) : hf_RL L B (p_set (fun P => hf_addh P k n1 n2 q) σs) (up2 (up2 (up2 (up2 (up2 (up2 R6 109 (P 3 0) (nI k)) 110 (P 3 0) y1) 111 (P 3 0) y2) 112 (P 3 0) y5) 113 (P 3 0) y4) 98 20 (nI (P 3 0 + 1))) X6 ∧ hfy R0 (up2 (up2 (up2 (up2 (up2 (up2 R6 109 (P 3 0) (nI k)) 110 (P 3 0) y1) 111 (P 3 0) y2) 112 (P 3 0) y5) 113 (P 3 0) y4) 98 20 (nI (P 3 0 + 1))) := by
  obtain ⟨t6, p6, P6⟩ := σs
  have hP : P6 = P := hP
  subst hP
  obtain ⟨g6, t6', w6, F6⟩ := H6.1 h
  have F6 : hf_F P6 R6 := F6
  refine ⟨⟨fun _ => ⟨?_, ?_, w6, ?_⟩, fun q => absurd h q⟩, hfy_tr f6 (hfy_tr (hfy_a (by omega)) (hfy_tr (hfy_a (by omega)) (hfy_tr (hfy_a (by omega)) (hfy_tr (hfy_a (by omega)) (hfy_tr (hfy_a (by omega)) (hfy_98 (by omega)))))))⟩
  · rw [up2_k (by decide), up2_a (by decide), up2_a (by decide), up2_a (by decide), up2_a (by decide), up2_a (by decide)]; exact g6
  · exact hf_tok_f t6' (fun k hk => by rw [up2_k (by omega), up2_a (by decide), up2_a (by decide), up2_a (by decide), up2_a (by decide), up2_a (by decide)]) rfl
  · show hf_F (hf_addh P6 k n1 n2 q) _
    refine hf_F_addh F6 l6 hk b1 b2 pb (fun a j z1 z2 => ?_) (up2_s _ _ _ _) ?_ ?_ ?_ ?_ (fun z => ?_)
    · rw [up2_n z2, up2_n (by omega), up2_n (by omega), up2_n (by omega), up2_n (by omega), up2_n (by omega)]
    · rw [up2_a (by decide), up2_a (by decide), up2_a (by decide), up2_a (by decide), up2_a (by decide), up2_s]
    · rw [up2_a (by decide), up2_a (by decide), up2_a (by decide), up2_a (by decide), up2_s]; exact e1
    · rw [up2_a (by decide), up2_a (by decide), up2_a (by decide), up2_s]; exact e2
    · rw [up2_a (by decide), up2_a (by decide), up2_s]; exact e5
    · rw [up2_a (by decide), up2_s]; exact e4 z
set_option maxHeartbeats 2000000 in
theorem sp_mwantHat {d : Nat} (hd : 4 < d) {R0 : Nat → Nat → Int32} {X0 : hk_D} {Q : hk_Q} {L : Nat} {B : Nat → Nat} {σ : hPs} {v : Int32} {k : Nat} (T0 : hf_tp L B R0) (H0 : hf_RL L B σ R0 X0) (hf : σ.2.1 = 999) (ev : v = nI k) (hk : k < 6) (hQ : ∀ R' X', hf_RL L B (if σ.2.2 3 0 < 6 then p_hatT L B k (p_step L B σ) else p_fail σ) R' X' → hfy R0 R' → X'.2 = X0.2 → Q none (hw R' X')) : hk_call d mM_wantHat [.ref 98, .int v] (hw R0 X0) Q := by
  obtain ⟨d, rfl⟩ : ∃ e, d = e + 1 := ⟨d - 1, by omega⟩
  subst ev
  have hL := T0.1
  obtain ⟨g0, t0, w0, F0⟩ := H0.1 hf
  have n6 := F0.2.2.2.2.2.2.1.2.1
  have sg1 : ∀ (σ1 : hPs) R1 X1 (y1 : Int32), hf_RL L B σ1 R1 X1 → hfy R0 R1 → X1.2 = X0.2 → (∀ R' X', hf_RL L B (p_word L B 6 σ1) R' X' → hfy R0 R' → X'.2 = X0.2 → hk_wp none 0 0 hk_dft cM_wantHat (hk_call d) (hk_qe Q) 36 [(2, .int y1), (0, .ref 98), (1, .int (nI k))] [] (hw R' X') 0 0) → hk_wp none 0 0 hk_dft cM_wantHat (hk_call d) (hk_qe Q) 19 [(2, .int y1), (0, .ref 98), (1, .int (nI k))] [] (hw R1 X1) 0 0 := by
    intro σ1 R1 X1 y1 H1 f1 x1 K
    refine hk_run2 (hk_call_m d) 200 ?_
    by_cases h : σ1.2.1 = 999
    · obtain ⟨g1, t1, w1, F1⟩ := H1.1 h
      refine And.intro (fun c => by rw [g1] at c; exact absurd c (by decide)) (fun _ => ?_)
      refine sp_misWord (i := 6) (by omega) t1 w1 rfl (by omega) (fun q => ?_) (fun q => ?_)
      · refine And.intro (fun c => absurd c (by decide)) (fun _ => ?_)
        refine w_put (by decide) rfl rfl ?_
        refine And.intro (fun c => absurd ((up2_s _ _ _ _).symm.trans c) (by decide)) (fun _ => ?_)
        rw [show p_word L B 6 σ1 = p_step L B σ1 from if_pos q] at K
        have T1 := hf_tp_y T0 (hfy_tr f1 (hfy_98 (R := R1) (k := 18) (v := 1) (by omega)))
        refine sp_madvance (by omega) T1 ((up2_k (by decide)).trans t1.2.2.1) w1.2.1 (fun R2 X2 t2 f2 x2 => ?_)
        exact w_rn (hk_stop2 (hk_call_m d) (K R2 X2 (hf_RL_step hL H1 h t2 f2) (hfy_tr f1 (hfy_tr (hfy_98 (by omega)) (hfy_z f2))) (x2.trans x1)))
      · refine And.intro (fun _ => ?_) (fun c => absurd rfl c)
        refine w_put (by decide) rfl rfl ?_
        refine And.intro (fun _ => ?_) (fun c => absurd (up2_s _ _ _ _) c)
        rw [show p_word L B 6 σ1 = p_fail σ1 from if_neg q] at K
        exact hk_stop2 (hk_call_m d) (K _ X1 (hf_RL_fail hL H1) (hfy_tr f1 (hfy_98 (by omega))) x1)
    · obtain ⟨g1, -, -⟩ := H1.2 h
      refine And.intro (fun _ => ?_) (fun c => absurd g1 c)
      refine w_put (by decide) rfl rfl ?_
      refine And.intro (fun _ => ?_) (fun c => absurd (up2_s _ _ _ _) c)
      exact hk_stop2 (hk_call_m d) (K _ X1 (hf_RL_f (hf_RL_fail hL H1) (by rw [p_fail_s h]; exact h) (by rw [p_word_s h, p_fail_s h])) (hfy_tr f1 (hfy_98 (by omega))) x1)
  have sg2 : ∀ (σ1 : hPs) R1 X1 (y1 y2 : Int32), hf_RL L B σ1 R1 X1 → hfy R0 R1 → X1.2 = X0.2 → (∀ R' X', hf_RL L B (p_word L B 7 σ1) R' X' → hfy R0 R' → X'.2 = X0.2 → hk_wp none 0 0 hk_dft cM_wantHat (hk_call d) (hk_qe Q) 72 [(5, .int (-1)), (4, .int (-1)), (3, .int y2), (2, .int y1), (0, .ref 98), (1, .int (nI k))] [] (hw R' X') 0 0) → hk_wp none 0 0 hk_dft cM_wantHat (hk_call d) (hk_qe Q) 55 [(5, .int (-1)), (4, .int (-1)), (3, .int y2), (2, .int y1), (0, .ref 98), (1, .int (nI k))] [] (hw R1 X1) 0 0 := by
    intro σ1 R1 X1 y1 y2 H1 f1 x1 K
    refine hk_run2 (hk_call_m d) 200 ?_
    by_cases h : σ1.2.1 = 999
    · obtain ⟨g1, t1, w1, F1⟩ := H1.1 h
      refine And.intro (fun c => by rw [g1] at c; exact absurd c (by decide)) (fun _ => ?_)
      refine sp_misWord (i := 7) (by omega) t1 w1 rfl (by omega) (fun q => ?_) (fun q => ?_)
      · refine And.intro (fun c => absurd c (by decide)) (fun _ => ?_)
        refine w_put (by decide) rfl rfl ?_
        refine And.intro (fun c => absurd ((up2_s _ _ _ _).symm.trans c) (by decide)) (fun _ => ?_)
        rw [show p_word L B 7 σ1 = p_step L B σ1 from if_pos q] at K
        have T1 := hf_tp_y T0 (hfy_tr f1 (hfy_98 (R := R1) (k := 18) (v := 1) (by omega)))
        refine sp_madvance (by omega) T1 ((up2_k (by decide)).trans t1.2.2.1) w1.2.1 (fun R2 X2 t2 f2 x2 => ?_)
        exact w_rn (hk_stop2 (hk_call_m d) (K R2 X2 (hf_RL_step hL H1 h t2 f2) (hfy_tr f1 (hfy_tr (hfy_98 (by omega)) (hfy_z f2))) (x2.trans x1)))
      · refine And.intro (fun _ => ?_) (fun c => absurd rfl c)
        refine w_put (by decide) rfl rfl ?_
        refine And.intro (fun _ => ?_) (fun c => absurd (up2_s _ _ _ _) c)
        rw [show p_word L B 7 σ1 = p_fail σ1 from if_neg q] at K
        exact hk_stop2 (hk_call_m d) (K _ X1 (hf_RL_fail hL H1) (hfy_tr f1 (hfy_98 (by omega))) x1)
    · obtain ⟨g1, -, -⟩ := H1.2 h
      refine And.intro (fun _ => ?_) (fun c => absurd g1 c)
      refine w_put (by decide) rfl rfl ?_
      refine And.intro (fun _ => ?_) (fun c => absurd (up2_s _ _ _ _) c)
      exact hk_stop2 (hk_call_m d) (K _ X1 (hf_RL_f (hf_RL_fail hL H1) (by rw [p_fail_s h]; exact h) (by rw [p_word_s h, p_fail_s h])) (hfy_tr f1 (hfy_98 (by omega))) x1)
  have rest : ∀ (σ1 : hPs) R1 X1, hf_RL L B σ1 R1 X1 → hfy R0 R1 → X1.2 = X0.2 → (σ1.2.1 = 999 → σ1.2.2 3 0 < 6) → (∀ R' X', hf_RL L B (p_hatT L B k σ1) R' X' → hfy R0 R' → X'.2 = X0.2 → Q none (hw R' X')) → hk_wp none 0 0 hk_dft cM_wantHat (hk_call d) (hk_qe Q) 14 [(0, .ref 98), (1, .int (nI k))] [] (hw R1 X1) 0 0 := by
    intro σ1 R1 X1 H1 f1 x1 lt hQ
    unfold p_hatT at hQ
    refine hk_run2 (hk_call_m d) 200 ?_
    refine sp_mwantNumber (M := 10) (by omega) (hf_tp_y T0 f1) H1 (fun _ => by decide) (by omega) (fun R2 X2 y1 H2 f2 x2 ey1 => ?_)
    have P1 := p_num_P (L := L) (B := B) (M := 10) (σ := σ1)
    have o1 := fun z => p_ok_num (L := L) (B := B) (M := 10) (σ := σ1) z
    have l1 := p_num_lt (L := L) (B := B) (M := 10) (σ := σ1) (by decide)
    generalize p_num L B 10 σ1 = N1 at hQ P1 o1 l1 H2 ey1
    refine w_rv (hk_stop2 (hk_call_m d) (hk_run2 (hk_call_m d) 1 ?_))
    refine sg1 _ R2 X2 y1 H2 (hfy_tr f1 f2) (x2.trans x1) (fun R3 X3 H3 f3 x3 => ?_)
    have P2 := p_word_P (L := L) (B := B) (i := 6) (σ := N1.2)
    have o2 := fun z => p_ok_word (L := L) (B := B) (i := 6) (σ := N1.2) z
    generalize p_word L B 6 N1.2 = W1 at hQ P2 o2 H3
    refine hk_run2 (hk_call_m d) 200 ?_
    refine sp_mwantNumber (M := 100) (by omega) (hf_tp_y T0 f3) H3 (fun _ => by decide) (by omega) (fun R4 X4 y2 H4 f4 x4 ey2 => ?_)
    have P3 := p_num_P (L := L) (B := B) (M := 100) (σ := W1)
    have o3 := fun z => p_ok_num (L := L) (B := B) (M := 100) (σ := W1) z
    have l3 := p_num_lt (L := L) (B := B) (M := 100) (σ := W1) (by decide)
    generalize p_num L B 100 W1 = N2 at hQ P3 o3 l3 H4 ey2
    have PP : N2.2.2.2 = σ1.2.2 := by rw [P3, P2, P1]
    have OO : N2.2.2.1 = 999 → N1.2.2.1 = 999 ∧ σ1.2.1 = 999 := fun z => ⟨o2 (o3 z), o1 (o2 (o3 z))⟩
    clear P1 P2 P3 o1 o2 o3
    have f04 := hfy_tr f3 f4
    have x04 := x4.trans x3
    have gen : ∀ R5 X5 y4 y5, hf_RL L B (p_wh L B N2.2).2 R5 X5 → hfy R0 R5 → X5.2 = X0.2 → ((p_wh L B N2.2).2.2.1 = 999 → y5 = hf_mw (p_wh L B N2.2).1 ∧ ((p_wh L B N2.2).1 < 25 → y4 = nI (p_wh L B N2.2).1)) → ∀ R6 X6, hf_RL L B (p_semi L B (p_wh L B N2.2).2) R6 X6 → hfy R0 R6 → X6.2 = X0.2 → (R6 98 18 = 0 → hk_qe Q none (hw R6 X6)) ∧ (¬ R6 98 18 = 0 → σ1.2.2 3 0 < 6 ∧ R6 98 20 = nI (σ1.2.2 3 0) ∧ hk_qe Q none (hw (up2 (up2 (up2 (up2 (up2 (up2 R6 109 (σ1.2.2 3 0) (nI k)) 110 (σ1.2.2 3 0) y1) 111 (σ1.2.2 3 0) y2) 112 (σ1.2.2 3 0) y5) 113 (σ1.2.2 3 0) y4) 98 20 (nI (σ1.2.2 3 0 + 1))) X6)) := by
      intro R5 X5 y4 y5 H5 f5 x5 ey R6 X6 H6 f6 x6
      have PS := (p_semi_P (L := L) (B := B) (σ := (p_wh L B N2.2).2)).trans ((p_wh_P (L := L) (B := B) (σ := N2.2)).trans PP)
      have oS := fun z => p_ok_semi (L := L) (B := B) (σ := (p_wh L B N2.2).2) z
      have oW := fun z => p_ok_wh (L := L) (B := B) (σ := N2.2) z
      have bW := fun z => p_wh_b (L := L) (B := B) (σ := N2.2) z
      rw [PP] at bW
      generalize p_semi L B (p_wh L B N2.2).2 = σs at hQ H6 PS oS
      by_cases h : σs.2.1 = 999
      · have g6 := (H6.1 h).1
        have F6 := (H6.1 h).2.2.2
        rw [PS] at F6
        have h5 := oS h
        have h4 := oW h5
        have h12 := OO h4
        obtain ⟨e5, e4⟩ := ey h5
        refine ⟨fun c => by rw [g6] at c; exact absurd c (by decide), fun _ => ⟨lt h12.2, F6.2.1, ?_⟩⟩
        obtain ⟨z1, z2⟩ := hat_fin (k := k) H6 f6 PS h (lt h12.2) hk l1 l3 (ey1 h12.1) (ey2 h4) e5 e4 (bW h5 (H4.1 h4).2.2.1 hL)
        exact hk_qe_of (hQ _ X6 z1 z2 x6)
      · obtain ⟨g6, -, -⟩ := H6.2 h
        exact ⟨fun _ => hk_qe_of (hQ R6 X6 (hf_RL_f H6 h rfl) f6 x6), fun c => absurd g6 c⟩
    clear hQ
    have tail1 : ∀ R5 X5 y4 y5, hf_RL L B (p_wh L B N2.2).2 R5 X5 → hfy R0 R5 → X5.2 = X0.2 → ((p_wh L B N2.2).2.2.1 = 999 → y5 = hf_mw (p_wh L B N2.2).1 ∧ ((p_wh L B N2.2).1 < 25 → y4 = nI (p_wh L B N2.2).1)) → hk_wp none 0 0 hk_dft cM_wantHat (hk_call d) (hk_qe Q) 80 [(4, .int y4), (5, .int y5), (3, .int y2), (2, .int y1), (0, .ref 98), (1, .int (nI k))] [] (hw R5 X5) 0 0 := by
      intro R5 X5 y4 y5 H5 f5 x5 ey
      refine hk_run2 (hk_call_m d) 200 ?_
      refine sp_mwantEnd (by omega) (hf_tp_y T0 f5) H5 (fun R6 X6 H6 f6 x6 => ?_)
      obtain ⟨G0, G1⟩ := gen R5 X5 y4 y5 H5 f5 x5 ey R6 X6 H6 (hfy_tr f5 f6) (x6.trans x5)
      generalize σ1.2.2 3 0 = l6 at G1
      refine And.intro (fun c => G0 c) (fun c => ?_)
      obtain ⟨hl6, r20, fin⟩ := G1 c
      refine w_st (t := 0) (j := l6) (n := 6) r20 rfl hl6 (by omega) rfl rfl ?_
      refine w_st (t := 0) (j := l6) (n := 6) ((up2_a (by decide)).trans r20) rfl hl6 (by omega) rfl rfl ?_
      refine w_st (t := 0) (j := l6) (n := 6) ((up2_a (by decide)).trans ((up2_a (by decide)).trans r20)) rfl hl6 (by omega) rfl rfl ?_
      refine w_st (t := 0) (j := l6) (n := 6) ((up2_a (by decide)).trans ((up2_a (by decide)).trans ((up2_a (by decide)).trans r20))) rfl hl6 (by omega) rfl rfl ?_
      refine w_st (t := 0) (j := l6) (n := 6) ((up2_a (by decide)).trans ((up2_a (by decide)).trans ((up2_a (by decide)).trans ((up2_a (by decide)).trans r20)))) rfl hl6 (by omega) rfl rfl ?_
      refine w_put trivial rfl rfl ?_
      rw [up2_a (show 98 ≠ 113 by decide), up2_a (show 98 ≠ 112 by decide), up2_a (show 98 ≠ 111 by decide), up2_a (show 98 ≠ 110 by decide), up2_a (show 98 ≠ 109 by decide), r20, nI_1]
      exact fin
    have tail2 : ∀ R5 X5 y4 y5, hf_RL L B (p_wh L B N2.2).2 R5 X5 → hfy R0 R5 → X5.2 = X0.2 → ((p_wh L B N2.2).2.2.1 = 999 → y5 = hf_mw (p_wh L B N2.2).1 ∧ ((p_wh L B N2.2).1 < 25 → y4 = nI (p_wh L B N2.2).1)) → hk_wp none 0 0 hk_dft cM_wantHat (hk_call d) (hk_qe Q) 80 [(5, .int y5), (4, .int y4), (3, .int y2), (2, .int y1), (0, .ref 98), (1, .int (nI k))] [] (hw R5 X5) 0 0 := by
      intro R5 X5 y4 y5 H5 f5 x5 ey
      refine hk_run2 (hk_call_m d) 200 ?_
      refine sp_mwantEnd (by omega) (hf_tp_y T0 f5) H5 (fun R6 X6 H6 f6 x6 => ?_)
      obtain ⟨G0, G1⟩ := gen R5 X5 y4 y5 H5 f5 x5 ey R6 X6 H6 (hfy_tr f5 f6) (x6.trans x5)
      generalize σ1.2.2 3 0 = l6 at G1
      refine And.intro (fun c => G0 c) (fun c => ?_)
      obtain ⟨hl6, r20, fin⟩ := G1 c
      refine w_st (t := 0) (j := l6) (n := 6) r20 rfl hl6 (by omega) rfl rfl ?_
      refine w_st (t := 0) (j := l6) (n := 6) ((up2_a (by decide)).trans r20) rfl hl6 (by omega) rfl rfl ?_
      refine w_st (t := 0) (j := l6) (n := 6) ((up2_a (by decide)).trans ((up2_a (by decide)).trans r20)) rfl hl6 (by omega) rfl rfl ?_
      refine w_st (t := 0) (j := l6) (n := 6) ((up2_a (by decide)).trans ((up2_a (by decide)).trans ((up2_a (by decide)).trans r20))) rfl hl6 (by omega) rfl rfl ?_
      refine w_st (t := 0) (j := l6) (n := 6) ((up2_a (by decide)).trans ((up2_a (by decide)).trans ((up2_a (by decide)).trans ((up2_a (by decide)).trans r20)))) rfl hl6 (by omega) rfl rfl ?_
      refine w_put trivial rfl rfl ?_
      rw [up2_a (show 98 ≠ 113 by decide), up2_a (show 98 ≠ 112 by decide), up2_a (show 98 ≠ 111 by decide), up2_a (show 98 ≠ 110 by decide), up2_a (show 98 ≠ 109 by decide), r20, nI_1]
      exact fin
    clear gen
    generalize N2.1 = N2v at *
    have e2 : ∀ z : hPs, (N2v, z).2 = z := fun _ => rfl
    refine sp_mtakes (i := 8) (by omega) (hf_tp_y T0 f04) H4 rfl (by omega) (fun h q R5 X5 H5 f5 x5 => ?_) (fun nq => ?_)
    · refine And.intro (fun c => absurd c (by decide)) (fun _ => ?_)
      have es : (p_wh L B N2.2) = p_num L B 25 (p_step L B N2.2) := by
        unfold p_wh
        rw [if_neg (by rw [q]; decide), show p_word L B 8 N2.2 = p_step L B N2.2 from if_pos q]
      refine sp_mwantNumber (M := 25) (by omega) (hf_tp_y T0 (hfy_tr f04 f5)) H5 (fun _ => by decide) (by omega) (fun R6 X6 y4 H6 f6 x6 ey4 => ?_)
      have lt25 : (p_wh L B N2.2).1 < 25 := by rw [es]; exact p_num_lt (by decide)
      rw [← es] at H6 ey4
      exact w_rv (hk_stop2 (hk_call_m d) (hk_run2 (hk_call_m d) 2 (tail1 R6 X6 y4 (-1) H6 (hfy_tr (hfy_tr f04 f5) f6) (x6.trans (x5.trans x04)) (fun h => ⟨(hf_mw_n (by omega)).symm, fun _ => ey4 h⟩))))
    · refine And.intro (fun _ => ?_) (fun c => absurd rfl c)
      refine hk_stop2 (hk_call_m d) (sg2 _ R4 X4 y1 y2 H4 f04 x04 (fun R5 X5 H5 f5 x5 => ?_))
      refine hk_run2 (hk_call_m d) 200 ?_
      have nf : N2.2.2.1 = 999 → ¬ (p_fail N2.2).2.1 = 999 := fun h4 => by
        have w4 := (H4.1 h4).2.2.1
        rw [show (p_fail N2.2).2.1 = N2.2.1.1 from if_pos h4]; have := w4.1; have := w4.2.1; omega
      have wh7 : hf_id B N2.2.1 = 7 → (p_wh L B N2.2) = (25 + (p_num L B (N2.2.2.2 2 0) (p_step L B N2.2)).1, (p_num L B (N2.2.2.2 2 0) (p_step L B N2.2)).2) := fun q => if_pos q
      have whn : N2.2.2.1 = 999 → ¬ hf_id B N2.2.1 = 7 → (p_wh L B N2.2) = p_num L B 25 (p_fail N2.2) := fun h4 q => by
        unfold p_wh
        rw [if_neg q, show p_word L B 8 N2.2 = p_fail N2.2 from if_neg (fun z => nq ⟨h4, z⟩)]
      have F5 : (p_word L B 7 N2.2).2.1 = 999 → R5 98 19 = nI (N2.2.2.2 2 0) ∧ N2.2.2.2 2 0 ≤ 5 := fun h => by
        have F5 := (H5.1 h).2.2.2
        rw [p_word_P] at F5
        exact ⟨F5.1, F5.2.2.2.2.2.2.1.1⟩
      have p5 : N2.2.2.1 = 999 → N2.2.2.2 2 0 ≤ 5 := fun h => (H4.1 h).2.2.2.2.2.2.2.2.2.1.1
      refine sp_mwantNumber (M := if N2.2.2.2 2 0 ≤ 5 then N2.2.2.2 2 0 else 5) (by omega) (hf_tp_y T0 f5) H5 (fun h => ?_) (by split <;> omega) (fun R6 X6 y5 H6 f6 x6 ey5 => ?_)
      · rw [if_pos (F5 h).2, (F5 h).1]
      · refine w_rv (hk_stop2 (hk_call_m d) (hk_run2 (hk_call_m d) 1 (tail2 R6 X6 (-1) y5 ?_ (hfy_tr f5 f6) (x6.trans x5) (fun h => ?_))))
        · by_cases h4 : N2.2.2.1 = 999
          · by_cases q7 : hf_id B N2.2.1 = 7
            · rw [if_pos (p5 h4), show p_word L B 7 N2.2 = p_step L B N2.2 from if_pos q7] at H6
              rw [wh7 q7]
              exact H6
            · rw [show p_word L B 7 N2.2 = p_fail N2.2 from if_neg q7] at H6
              refine hf_RL_f H6 (by rw [p_num_s (nf h4)]; exact nf h4) ?_
              rw [whn h4 q7, p_num_s (nf h4), p_num_s (nf h4)]
          · have h5 : ¬ (p_word L B 7 N2.2).2.1 = 999 := by rw [p_word_s h4]; exact h4
            refine hf_RL_f H6 (by rw [p_num_s h5]; exact h5) ?_
            rw [p_wh_s h4, p_num_s h5, p_word_s h4]
        · have h4 := p_ok_wh h
          by_cases q7 : hf_id B N2.2.1 = 7
          · have pb := p_wh_b h (H4.1 h4).2.2.1 hL
            have p5' := p5 h4
            rw [if_pos (p5 h4), show p_word L B 7 N2.2 = p_step L B N2.2 from if_pos q7] at ey5
            rw [wh7 q7] at h pb ⊢
            have ey5 := ey5 h
            dsimp only at pb ⊢
            generalize (p_num L B (N2.2.2.2 2 0) (p_step L B N2.2)).1 = pv at pb ey5 ⊢
            refine ⟨?_, fun z => by omega⟩
            rw [ey5, hf_mw_w (by omega)]; congr 1; omega
          · exfalso
            rw [whn h4 q7, p_num_s (nf h4)] at h
            exact nf h4 h
  refine hk_run2 (hk_call_m d) 200 ?_
  refine And.intro (fun c => ?_) (fun c => ?_)
  · rw [F0.2.1] at c
    have c : nI 6 ≤ nI (σ.2.2 3 0) := c
    rw [nI_leI (by omega) (by omega)] at c
    rw [if_neg (by omega)] at hQ
    refine w_put (by decide) rfl rfl ?_
    refine And.intro (fun _ => ?_) (fun c => absurd (up2_s _ _ _ _) c)
    have H1 := hf_RL_fail hL H0
    have ef : (p_fail σ).2.1 = σ.1.1 := if_pos hf
    have nf : ¬ (p_fail σ).2.1 = 999 := by rw [ef]; have := w0.1; have := w0.2.1; omega
    exact hk_stop2 (hk_call_m d) (rest (p_fail σ) _ X0 H1 (hfy_98 (by omega)) rfl (fun z => absurd z nf) (fun R' X' H' f' x' => hQ R' X' (hf_RL_f H' (by rw [p_hatT_s nf]; exact nf) (p_hatT_s nf).symm) f' x'))
  · rw [F0.2.1] at c
    have c : ¬ nI 6 ≤ nI (σ.2.2 3 0) := c
    rw [nI_leI (by omega) (by omega)] at c
    rw [if_pos (by omega)] at hQ
    refine w_put (by decide) rfl rfl ?_
    refine And.intro (fun c => absurd ((up2_s _ _ _ _).symm.trans c) (by decide)) (fun _ => ?_)
    have T1 := hf_tp_y T0 (hfy_98 (R := R0) (k := 18) (v := 1) (by omega))
    refine sp_madvance (by omega) T1 ((up2_k (by decide)).trans t0.2.2.1) w0.2.1 (fun R1 X1 t1 f1 x1 => ?_)
    exact w_rn (hk_stop2 (hk_call_m d) (rest (p_step L B σ) R1 X1 (hf_RL_step hL H0 hf t1 f1) (hfy_tr (hfy_98 (by omega)) (hfy_z f1)) x1 (fun _ => by show σ.2.2 3 0 < 6; omega) hQ))
