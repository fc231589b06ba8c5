/-! THE CLASS: its calls on the plain, more -/
theorem hxi_o {n : Nat} {v : Int32} (h : v.toInt < 0 ∨ (n : Int) ≤ v.toInt) : hxi n v = none := by
  unfold hxi; rw [if_neg (by omega)]
theorem hxi_a {n j : Nat} {v : Int32} (hj : j < n) (h : v.toInt = j) : hxi n v = some j := by
  unfold hxi; rw [h, if_pos ⟨by omega, by omega⟩]; rfl
theorem hf_or9_mw (x : Nat) : hf_or9 (hf_mw x) = hf_cw x := by
  unfold hf_or9
  by_cases h : 25 ≤ x ∧ x < 30
  · rw [hf_mw_w h, hf_cw_w h, if_pos (hn_pos (by omega))]
  · rw [hf_mw_n h, hf_cw_n h, if_neg hn_neg1]
theorem hf_or9_pl {P : hP} {j : Nat} (h : P 10 j < 25 ∨ (25 ≤ P 10 j ∧ P 10 j < 30) ∨ P 10 j = 30) (hp : 25 ≤ P 10 j ∧ P 10 j < 30 → P 5 (P 10 j - 25) < 25) : hf_or9 (hf_pl P j) = hf_cp P j := by
  unfold hf_or9 hf_pl hf_cp
  rcases h with h | h | h
  · rw [if_pos h, if_pos (hn_pos (by omega)), if_neg (by omega), hf_cs_l h]
  · have := hp h
    rw [if_neg (show ¬ P 10 j < 25 by omega), if_pos h.2, if_pos (hn_pos (by omega)), if_pos h]
  · rw [if_neg (show ¬ P 10 j < 25 by omega), if_neg (show ¬ P 10 j < 30 by omega), if_neg hn_neg1, if_neg (by omega), hf_cs_n (by omega)]
theorem hf_K_or9 {i : Nat} {P : hP} {R : Nat → Nat → Int32} (K : hf_K i P R) {j : Nat} (hj : j < P 3 0) : hf_or9 (hf_pl P j) = hf_cp P j := by
  have n5 := K.2.1
  have z := (K.2.2.2.2.2.2 j hj).2.2.2
  refine hf_or9_pl (by omega) (fun q => ?_)
  exact (K.2.2.2.2.2.1 (P 10 j - 25) (by omega)).1
set_option maxHeartbeats 400000 in
theorem sp_cpersonOf {d : Nat} (hd : 2 < d) {R : Nat → Nat → Int32} {X : hk_D} {Q : hk_Q} {v w : Int32} {P : hP} (K : hf_K 0 P R) (hQ : Q (some (.int (a_personOf P v w))) (hw R X)) : hk_call d mC_personOf [.ref 38, .int v, .int w] (hw R X) Q := by
  obtain ⟨d, rfl⟩ : ∃ e, d = e + 1 := ⟨d - 1, by omega⟩
  have n5 := K.2.1
  have n6 := K.2.2.1
  have n4 := K.2.2.2.1
  have c4 : R 39 4 = nI (P 2 0) := K.1.1
  have c5 : R 39 5 = nI (P 3 0) := K.1.2.1
  have c6 : R 39 6 = nI (P 4 0) := K.1.2.2.1
  unfold a_personOf at hQ
  refine hk_run2 (hk_call_m d) 100 ?_
  refine sp_cisPerson (by omega) K (fun p hp ep => ?_) (fun nn => ?_)
  · refine And.intro (fun c => absurd c (by decide)) (fun _ => ?_)
    rw [ep, hxi_s hp (by omega)] at hQ
    dsimp only at hQ
    subst ep
    have hb_p : hPer (44 + p) := by unfold hPer; omega
    obtain ⟨p0_p, p1_p⟩ : R (44 + p) 0 = nI (P 5 p) ∧ R (44 + p) 1 = nI (P 6 p) := K.1.2.2.2.2.1 p hp
    obtain ⟨q5_p, q6_p⟩ := K.2.2.2.2.2.1 p hp
    refine And.intro (fun c => ?_) (And.intro (fun c => ?_) (And.intro (fun c => ?_) (And.intro (fun c => ?_) (And.intro (fun c => ?_) trivial))))
    · rw [hxi_o (by simp at c; omega)] at hQ
      exact hk_qe_of hQ
    · rw [hxi_a (j := 0) (by omega) (by omega)] at hQ
      refine And.intro (vp_in_nI (N := 5) (by omega) (by omega)) ?_
      rw [nI_clamp (by omega)]
      refine w_get (hPer_t hb_p) (hPer_k hb_p).1 p0_p ?_
      exact hk_qe_of hQ
    · rw [hxi_a (j := 1) (by omega) (by omega)] at hQ
      refine And.intro (vp_in_nI (N := 5) (by omega) (by omega)) ?_
      rw [nI_clamp (by omega)]
      refine w_get (hPer_t hb_p) (hPer_k hb_p).2 p1_p ?_
      exact hk_qe_of hQ
    · rw [hxi_a (j := 2) (by omega) (by omega)] at hQ
      refine sp_pownedBy_0 (by omega) K rfl (by omega) ?_
      exact hk_qe_of hQ
    · rw [hxi_a (j := 3) (by omega) (by omega)] at hQ
      refine sp_pwornBy_0 (by omega) K rfl (by omega) ?_
      exact hk_qe_of hQ
  · refine And.intro (fun _ => ?_) (fun c => absurd rfl c)
    rw [hxi_n (by omega) nn] at hQ
    exact hk_qe_of hQ
set_option maxHeartbeats 400000 in
theorem sp_chatOf {d : Nat} (hd : 2 < d) {R : Nat → Nat → Int32} {X : hk_D} {Q : hk_Q} {v w : Int32} {P : hP} (K : hf_K 0 P R) (hQ : Q (some (.int (a_hatOf P v w))) (hw R X)) : hk_call d mC_hatOf [.ref 38, .int v, .int w] (hw R X) Q := by
  obtain ⟨d, rfl⟩ : ∃ e, d = e + 1 := ⟨d - 1, by omega⟩
  have n5 := K.2.1
  have n6 := K.2.2.1
  have n4 := K.2.2.2.1
  have c4 : R 39 4 = nI (P 2 0) := K.1.1
  have c5 : R 39 5 = nI (P 3 0) := K.1.2.1
  have c6 : R 39 6 = nI (P 4 0) := K.1.2.2.1
  unfold a_hatOf at hQ
  refine hk_run2 (hk_call_m d) 100 ?_
  refine sp_cisHat (by omega) K (fun j hj ej => ?_) (fun nn => ?_)
  · refine And.intro (fun c => absurd c (by decide)) (fun _ => ?_)
    rw [ej, hxi_s hj (by omega)] at hQ
    dsimp only at hQ
    subst ej
    have ha : hHat (49 + j) := by unfold hHat; omega
    obtain ⟨e0, e1, e2, e3, e4⟩ : R (49 + j) 0 = nI (P 7 j) ∧ R (49 + j) 1 = nI (P 8 j) ∧ R (49 + j) 2 = nI (P 9 j) ∧ R (49 + j) 3 = hf_cw (P 10 j) ∧ R (49 + j) 4 = hf_cs (P 10 j) := K.1.2.2.2.2.2 j hj
    obtain ⟨o7, o8, o9, o10⟩ := K.2.2.2.2.2.2 j hj
    refine And.intro (vp_in_nI (N := 6) (by omega) (by omega)) ?_
    rw [nI_clamp (by omega)]
    refine And.intro (fun c => ?_) (And.intro (fun c => ?_) (And.intro (fun c => ?_) (And.intro (fun c => ?_) (And.intro (fun c => ?_) (And.intro (fun c => ?_) (And.intro (fun c => ?_) (And.intro (fun c => ?_) trivial)))))))
    · rw [hxi_o (by simp at c; omega)] at hQ
      exact hk_qe_of hQ
    · rw [hxi_a (j := 0) (by omega) (by omega)] at hQ
      refine w_get (hHat_t ha) (hHat_k ha).1 e0 ?_
      exact hk_qe_of hQ
    · rw [hxi_a (j := 1) (by omega) (by omega)] at hQ
      refine w_get (hHat_t ha) (hHat_k ha).2.1 e1 ?_
      exact hk_qe_of hQ
    · rw [hxi_a (j := 2) (by omega) (by omega)] at hQ
      refine w_get (hHat_t ha) (hHat_k ha).2.2.1 e2 ?_
      exact hk_qe_of hQ
    · rw [hxi_a (j := 3) (by omega) (by omega)] at hQ
      have hQ : Q (some (.int (hf_or9 (hf_mw (P 10 j))))) (hw R X) := hQ
      rw [hf_or9_mw] at hQ
      refine w_get (hHat_t ha) (hHat_k ha).2.2.2.1 e3 ?_
      exact hk_qe_of hQ
    · rw [hxi_a (j := 4) (by omega) (by omega)] at hQ
      have hQ : Q (some (.int (hf_or9 (hf_pl P j)))) (hw R X) := hQ
      rw [hf_K_or9 K hj] at hQ
      refine sp_pplaceOf_0 (by omega) K rfl hj ?_
      exact hk_qe_of hQ
    · rw [hxi_a (j := 5) (by omega) (by omega)] at hQ
      refine w_recv (hHat_t ha) ?_
      refine sp_hfirm (by omega) ha e0 e1 o7 o8 ?_
      exact hk_qe_of hQ
    · rw [hxi_a (j := 6) (by omega) (by omega)] at hQ
      have hm : P 4 0 % 24 < 24 := Nat.mod_lt _ (by decide)
      refine sp_phour_0 (by omega) K ?_
      refine w_ld (j := P 4 0 % 24) (n := 24) rfl rfl hm (by omega) rfl (K.1.2.2.2.1 _ hm).2 ?_
      refine w_recv (hHat_t ha) ?_
      refine sp_hflight (by omega) ha e0 rfl o7 (K.2.2.2.2.1 _ hm).2 ?_
      exact hk_qe_of hQ
  · refine And.intro (fun _ => ?_) (fun c => absurd rfl c)
    rw [hxi_n (by omega) nn] at hQ
    exact hk_qe_of hQ
set_option maxHeartbeats 400000 in
theorem sp_chat {d : Nat} (hd : 2 < d) {R : Nat → Nat → Int32} {X : hk_D} {Q : hk_Q} {v1 v2 v3 v4 : Int32} {P : hP} (K : hf_K 0 P R) (hQ : ∀ R', hf_K 0 (o_hat P v1 v2 v3 v4).2 R' → hfc 0 R R' → Q (some (.int (o_hat P v1 v2 v3 v4).1)) (hw R' X)) : hk_call d mC_hat [.ref 38, .int v1, .int v2, .int v3, .int v4] (hw R X) Q := by
  obtain ⟨d, rfl⟩ : ∃ e, d = e + 1 := ⟨d - 1, by omega⟩
  have n5 := K.2.1
  have n6 := K.2.2.1
  have n4 := K.2.2.2.1
  have c4 : R 39 4 = nI (P 2 0) := K.1.1
  have c5 : R 39 5 = nI (P 3 0) := K.1.2.1
  have c6 : R 39 6 = nI (P 4 0) := K.1.2.2.1
  unfold o_hat at hQ
  refine hk_run2 (hk_call_m d) 100 ?_
  refine sp_isBelow (by omega) (n := 6) (by omega) rfl (fun k hk ek => ?_) (fun nn => ?_)
  · refine And.intro (fun c => absurd c (by decide)) (fun _ => ?_)
    rw [ek, hxi_s hk (by omega)] at hQ
    dsimp only at hQ
    subst ek
    refine sp_isBelow (by omega) (n := 10) (by omega) rfl (fun x hx ex => ?_) (fun nn => ?_)
    · refine And.intro (fun c => absurd c (by decide)) (fun _ => ?_)
      rw [ex, hxi_s hx (by omega)] at hQ
      dsimp only at hQ
      subst ex
      refine sp_isBelow (by omega) (n := 100) (by omega) rfl (fun y hy ey => ?_) (fun nn => ?_)
      · refine And.intro (fun c => absurd c (by decide)) (fun _ => ?_)
        rw [ey, hxi_s hy (by omega)] at hQ
        dsimp only at hQ
        subst ey
        refine sp_isBelow (by omega) (n := 25) (by omega) rfl (fun q hq eq => ?_) (fun nn => ?_)
        · refine And.intro (fun c => absurd c (by decide)) (fun _ => ?_)
          rw [eq, hxi_s hq (by omega)] at hQ
          dsimp only at hQ
          subst eq
          refine And.intro (fun c => ?_) (fun c => ?_)
          · rw [c5] at c
            have lt : P 3 0 < 6 := (nI_ltI (b := 6) (by omega) (by omega)).mp c
            rw [if_neg (by omega)] at hQ
            have ha : hHat (49 + P 3 0) := by unfold hHat; omega
            refine sp_paddHat_0 (by omega) K lt (fun R' fr r5 r0 r1 r2 => ?_)
            refine And.intro (vp_in_nI (N := 6) (by omega) (by omega)) ?_
            rw [nI_clamp (by omega)]
            refine w_recv (hHat_t ha) ?_
            refine sp_hlieIn (by omega) ha ?_
            refine hk_qe_of (hQ _ (hf_K_addh K lt hk hx hy (Or.inl hq) (fun b l z1 z2 => ?_) ?_ ?_ ?_ ?_ ?_ ?_) (fun a k z => ?_))
            · rw [up2_a z1, up2_a z1]; exact fr b l z1 z2
            · rw [up2_a (show 39 + 16 * 0 ≠ 49 + P 3 0 by omega), up2_a (show 39 + 16 * 0 ≠ 49 + P 3 0 by omega)]; exact r5
            · rw [show 49 + 16 * 0 + P 3 0 = 49 + P 3 0 from rfl, up2_k (by decide), up2_k (by decide)]; exact r0
            · rw [show 49 + 16 * 0 + P 3 0 = 49 + P 3 0 from rfl, up2_k (by decide), up2_k (by decide)]; exact r1
            · rw [show 49 + 16 * 0 + P 3 0 = 49 + P 3 0 from rfl, up2_k (by decide), up2_k (by decide)]; exact r2
            · rw [show 49 + 16 * 0 + P 3 0 = 49 + P 3 0 from rfl, up2_k (by decide), up2_s, hf_cw_n (by omega)]
            · rw [show 49 + 16 * 0 + P 3 0 = 49 + P 3 0 from rfl, up2_s, hf_cs_l hq]
            · rw [up2_a (by omega), up2_a (by omega)]; exact fr a k (by omega) (by omega)
          · rw [c5] at c
            have ge : P 3 0 = 6 := Classical.byContradiction (fun z => c ((nI_ltI (b := 6) (by omega) (by omega)).mpr (by omega)))
            rw [if_pos ge] at hQ
            exact hk_qe_of (hQ R K hfc_rf)
        · refine And.intro (fun _ => ?_) (fun c => absurd rfl c)
          rw [hxi_n (by omega) nn] at hQ
          exact hk_qe_of (hQ R K hfc_rf)
      · refine And.intro (fun _ => ?_) (fun c => absurd rfl c)
        rw [hxi_n (by omega) nn] at hQ
        exact hk_qe_of (hQ R K hfc_rf)
    · refine And.intro (fun _ => ?_) (fun c => absurd rfl c)
      rw [hxi_n (by omega) nn] at hQ
      exact hk_qe_of (hQ R K hfc_rf)
  · refine And.intro (fun _ => ?_) (fun c => absurd rfl c)
    rw [hxi_n (by omega) nn] at hQ
    exact hk_qe_of (hQ R K hfc_rf)
set_option maxHeartbeats 400000 in
theorem sp_cputs {d : Nat} (hd : 2 < d) {R : Nat → Nat → Int32} {X : hk_D} {Q : hk_Q} {v w : Int32} {P : hP} (K : hf_K 0 P R) (hQ : ∀ R', hf_K 0 (o_puts P v w).2 R' → hfc 0 R R' → Q (some (.int (o_puts P v w).1)) (hw R' X)) : hk_call d mC_puts [.ref 38, .int v, .int w] (hw R X) Q := by
  obtain ⟨d, rfl⟩ : ∃ e, d = e + 1 := ⟨d - 1, by omega⟩
  have n5 := K.2.1
  have n6 := K.2.2.1
  have n4 := K.2.2.2.1
  have c4 : R 39 4 = nI (P 2 0) := K.1.1
  have c5 : R 39 5 = nI (P 3 0) := K.1.2.1
  have c6 : R 39 6 = nI (P 4 0) := K.1.2.2.1
  unfold o_puts at hQ
  refine hk_run2 (hk_call_m d) 100 ?_
  refine sp_cisHat (by omega) K (fun j hj ej => ?_) (fun nn => ?_)
  · refine And.intro (fun c => absurd c (by decide)) (fun _ => ?_)
    rw [ej, hxi_s hj (by omega)] at hQ
    dsimp only at hQ
    subst ej
    refine sp_cisPerson (by omega) K (fun p hp ep => ?_) (fun nn => ?_)
    · refine And.intro (fun c => absurd c (by decide)) (fun _ => ?_)
      rw [ep, hxi_s hp (by omega)] at hQ
      dsimp only at hQ
      subst ep
      have ha : hHat (49 + j) := by unfold hHat; omega
      obtain ⟨e0, e1, e2, e3, e4⟩ : R (49 + j) 0 = nI (P 7 j) ∧ R (49 + j) 1 = nI (P 8 j) ∧ R (49 + j) 2 = nI (P 9 j) ∧ R (49 + j) 3 = hf_cw (P 10 j) ∧ R (49 + j) 4 = hf_cs (P 10 j) := K.1.2.2.2.2.2 j hj
      obtain ⟨o7, o8, o9, o10⟩ := K.2.2.2.2.2.2 j hj
      have hb_p : hPer (44 + p) := by unfold hPer; omega
      obtain ⟨p0_p, p1_p⟩ : R (44 + p) 0 = nI (P 5 p) ∧ R (44 + p) 1 = nI (P 6 p) := K.1.2.2.2.2.1 p hp
      obtain ⟨q5_p, q6_p⟩ := K.2.2.2.2.2.1 p hp
      refine And.intro (vp_in_nI (N := 6) (by omega) (by omega)) ?_
      rw [nI_clamp (by omega)]
      refine w_recv (hHat_t ha) ?_
      refine sp_hlies (by omega) ha e4 (fun z => ?_) (fun z => ?_)
      · refine And.intro (fun c => absurd c (by decide)) (fun _ => ?_)
        refine w_get (hHat_t ha) (hHat_k ha).2.2.2.2 (e4.trans (hf_cs_l z)) ?_
        refine And.intro (vp_in_nI (N := 5) (by omega) (by omega)) ?_
        rw [nI_clamp (by omega)]
        refine w_get (hPer_t hb_p) (hPer_k hb_p).1 p0_p ?_
        refine And.intro (fun c => ?_) (fun c => ?_)
        · rw [if_pos ⟨z, (nI_eq (by omega) (by omega)).mp c⟩] at hQ
          refine w_recv (hHat_t ha) ?_
          refine sp_hgoOn (by omega) ha ?_
          refine hk_qe_of (hQ _ (hf_K_hat K hj (Or.inr (Or.inl ⟨by omega, by omega⟩)) (fun a k z => ?_) ?_ ?_) (hfc_tr (hfc_up (by omega)) (hfc_up (by omega))))
          · rw [up2_n (by omega), up2_n (by omega)]
          · rw [show 49 + 16 * 0 + j = 49 + j from rfl, up2_k (by decide), up2_s, hf_cw_w (by omega)]; congr 1; omega
          · rw [show 49 + 16 * 0 + j = 49 + j from rfl, up2_s, hf_cs_n (by omega)]
        · rw [if_neg (fun y => c (by rw [y.2]))] at hQ
          exact hk_qe_of (hQ R K hfc_rf)
      · refine And.intro (fun _ => ?_) (fun c => absurd rfl c)
        rw [if_neg (fun y => z y.1)] at hQ
        exact hk_qe_of (hQ R K hfc_rf)
    · refine And.intro (fun _ => ?_) (fun c => absurd rfl c)
      rw [hxi_n (by omega) nn] at hQ
      exact hk_qe_of (hQ R K hfc_rf)
  · refine And.intro (fun _ => ?_) (fun c => absurd rfl c)
    rw [hxi_n (by omega) nn] at hQ
    exact hk_qe_of (hQ R K hfc_rf)
set_option maxHeartbeats 400000 in
theorem sp_cdown {d : Nat} (hd : 2 < d) {R : Nat → Nat → Int32} {X : hk_D} {Q : hk_Q} {v : Int32} {P : hP} (K : hf_K 0 P R) (hQ : ∀ R', hf_K 0 (o_down P v).2 R' → hfc 0 R R' → Q (some (.int (o_down P v).1)) (hw R' X)) : hk_call d mC_down [.ref 38, .int v] (hw R X) Q := by
  obtain ⟨d, rfl⟩ : ∃ e, d = e + 1 := ⟨d - 1, by omega⟩
  have n5 := K.2.1
  have n6 := K.2.2.1
  have n4 := K.2.2.2.1
  have c4 : R 39 4 = nI (P 2 0) := K.1.1
  have c5 : R 39 5 = nI (P 3 0) := K.1.2.1
  have c6 : R 39 6 = nI (P 4 0) := K.1.2.2.1
  unfold o_down at hQ
  refine hk_run2 (hk_call_m d) 100 ?_
  refine sp_cisHat (by omega) K (fun j hj ej => ?_) (fun nn => ?_)
  · refine And.intro (fun c => absurd c (by decide)) (fun _ => ?_)
    rw [ej, hxi_s hj (by omega)] at hQ
    dsimp only at hQ
    subst ej
    have ha : hHat (49 + j) := by unfold hHat; omega
    obtain ⟨e0, e1, e2, e3, e4⟩ : R (49 + j) 0 = nI (P 7 j) ∧ R (49 + j) 1 = nI (P 8 j) ∧ R (49 + j) 2 = nI (P 9 j) ∧ R (49 + j) 3 = hf_cw (P 10 j) ∧ R (49 + j) 4 = hf_cs (P 10 j) := K.1.2.2.2.2.2 j hj
    obtain ⟨o7, o8, o9, o10⟩ := K.2.2.2.2.2.2 j hj
    refine And.intro (vp_in_nI (N := 6) (by omega) (by omega)) ?_
    rw [nI_clamp (by omega)]
    refine w_recv (hHat_t ha) ?_
    refine sp_hisWorn (by omega) ha e3 (fun z => ?_) (fun z => ?_)
    · refine And.intro (fun c => absurd c (by decide)) (fun _ => ?_)
      rw [if_pos z] at hQ
      refine sp_pplaceOf_0 (by omega) K rfl hj ?_
      have hp : P 10 j - 25 < P 2 0 := by omega
      have h25 := (K.2.2.2.2.2.1 _ hp).1
      rw [show hf_cp P j = nI (P 5 (P 10 j - 25)) from if_pos z]
      refine And.intro (vp_in_nI (N := 6) (by omega) (by omega)) ?_
      rw [nI_clamp (by omega)]
      refine w_recv (hHat_t ha) ?_
      refine sp_hlieIn (by omega) ha ?_
      refine hk_qe_of (hQ _ (hf_K_hat K hj (Or.inl h25) (fun a k z => ?_) ?_ ?_) (hfc_tr (hfc_up (by omega)) (hfc_up (by omega))))
      · rw [up2_n (by omega), up2_n (by omega)]
      · rw [show 49 + 16 * 0 + j = 49 + j from rfl, up2_k (by decide), up2_s, hf_cw_n (by omega)]
      · rw [show 49 + 16 * 0 + j = 49 + j from rfl, up2_s, hf_cs_l h25]
    · refine And.intro (fun _ => ?_) (fun c => absurd rfl c)
      rw [if_neg z] at hQ
      exact hk_qe_of (hQ R K hfc_rf)
  · refine And.intro (fun _ => ?_) (fun c => absurd rfl c)
    rw [hxi_n (by omega) nn] at hQ
    exact hk_qe_of (hQ R K hfc_rf)
set_option maxHeartbeats 400000 in
theorem sp_cfound {d : Nat} (hd : 2 < d) {R : Nat → Nat → Int32} {X : hk_D} {Q : hk_Q} {v w : Int32} {P : hP} (K : hf_K 0 P R) (hQ : ∀ R', hf_K 0 (o_found P v w).2 R' → hfc 0 R R' → Q (some (.int (o_found P v w).1)) (hw R' X)) : hk_call d mC_found [.ref 38, .int v, .int w] (hw R X) Q := by
  obtain ⟨d, rfl⟩ : ∃ e, d = e + 1 := ⟨d - 1, by omega⟩
  have n5 := K.2.1
  have n6 := K.2.2.1
  have n4 := K.2.2.2.1
  have c4 : R 39 4 = nI (P 2 0) := K.1.1
  have c5 : R 39 5 = nI (P 3 0) := K.1.2.1
  have c6 : R 39 6 = nI (P 4 0) := K.1.2.2.1
  unfold o_found at hQ
  refine hk_run2 (hk_call_m d) 100 ?_
  refine sp_cisHat (by omega) K (fun j hj ej => ?_) (fun nn => ?_)
  · refine And.intro (fun c => absurd c (by decide)) (fun _ => ?_)
    rw [ej, hxi_s hj (by omega)] at hQ
    dsimp only at hQ
    subst ej
    refine sp_isBelow (by omega) (n := 25) (by omega) rfl (fun q hq eq => ?_) (fun nn => ?_)
    · refine And.intro (fun c => absurd c (by decide)) (fun _ => ?_)
      rw [eq, hxi_s hq (by omega)] at hQ
      dsimp only at hQ
      subst eq
      have ha : hHat (49 + j) := by unfold hHat; omega
      obtain ⟨e0, e1, e2, e3, e4⟩ : R (49 + j) 0 = nI (P 7 j) ∧ R (49 + j) 1 = nI (P 8 j) ∧ R (49 + j) 2 = nI (P 9 j) ∧ R (49 + j) 3 = hf_cw (P 10 j) ∧ R (49 + j) 4 = hf_cs (P 10 j) := K.1.2.2.2.2.2 j hj
      obtain ⟨o7, o8, o9, o10⟩ := K.2.2.2.2.2.2 j hj
      refine And.intro (vp_in_nI (N := 6) (by omega) (by omega)) ?_
      rw [nI_clamp (by omega)]
      refine w_recv (hHat_t ha) ?_
      refine sp_hisGone (by omega) ha e3 e4 (hf_K_cs_0 K hj) (fun z => ?_) (fun z => ?_)
      · refine And.intro (fun c => absurd c (by decide)) (fun _ => ?_)
        rw [if_pos z] at hQ
        refine And.intro (vp_in_nI (N := 6) (by omega) (by omega)) ?_
        rw [nI_clamp (by omega)]
        refine w_recv (hHat_t ha) ?_
        refine sp_hlieIn (by omega) ha ?_
        refine hk_qe_of (hQ _ (hf_K_hat K hj (Or.inl hq) (fun a k z => ?_) ?_ ?_) (hfc_tr (hfc_up (by omega)) (hfc_up (by omega))))
        · rw [up2_n (by omega), up2_n (by omega)]
        · rw [show 49 + 16 * 0 + j = 49 + j from rfl, up2_k (by decide), up2_s, hf_cw_n (by omega)]
        · rw [show 49 + 16 * 0 + j = 49 + j from rfl, up2_s, hf_cs_l hq]
      · refine And.intro (fun _ => ?_) (fun c => absurd rfl c)
        rw [if_neg z] at hQ
        exact hk_qe_of (hQ R K hfc_rf)
    · refine And.intro (fun _ => ?_) (fun c => absurd rfl c)
      rw [hxi_n (by omega) nn] at hQ
      exact hk_qe_of (hQ R K hfc_rf)
  · refine And.intro (fun _ => ?_) (fun c => absurd rfl c)
    rw [hxi_n (by omega) nn] at hQ
    exact hk_qe_of (hQ R K hfc_rf)
set_option maxHeartbeats 400000 in
theorem sp_cbow {d : Nat} (hd : 2 < d) {R : Nat → Nat → Int32} {X : hk_D} {Q : hk_Q} {v w : Int32} {P : hP} (K : hf_K 0 P R) (hQ : ∀ R', hf_K 0 (o_bow P v w).2 R' → hfc 0 R R' → Q (some (.int (o_bow P v w).1)) (hw R' X)) : hk_call d mC_bow [.ref 38, .int v, .int w] (hw R X) Q := by
  obtain ⟨d, rfl⟩ : ∃ e, d = e + 1 := ⟨d - 1, by omega⟩
  have n5 := K.2.1
  have n6 := K.2.2.1
  have n4 := K.2.2.2.1
  have c4 : R 39 4 = nI (P 2 0) := K.1.1
  have c5 : R 39 5 = nI (P 3 0) := K.1.2.1
  have c6 : R 39 6 = nI (P 4 0) := K.1.2.2.1
  unfold o_bow at hQ
  refine hk_run2 (hk_call_m d) 100 ?_
  refine sp_cisPerson (by omega) K (fun p hp ep => ?_) (fun nn => ?_)
  · refine And.intro (fun c => absurd c (by decide)) (fun _ => ?_)
    rw [ep, hxi_s hp (by omega)] at hQ
    dsimp only at hQ
    subst ep
    refine sp_cisPerson (by omega) K (fun q hq eq => ?_) (fun nn => ?_)
    · refine And.intro (fun c => absurd c (by decide)) (fun _ => ?_)
      rw [eq, hxi_s hq (by omega)] at hQ
      dsimp only at hQ
      subst eq
      have hb_p : hPer (44 + p) := by unfold hPer; omega
      obtain ⟨p0_p, p1_p⟩ : R (44 + p) 0 = nI (P 5 p) ∧ R (44 + p) 1 = nI (P 6 p) := K.1.2.2.2.2.1 p hp
      obtain ⟨q5_p, q6_p⟩ := K.2.2.2.2.2.1 p hp
      have hb_q : hPer (44 + q) := by unfold hPer; omega
      obtain ⟨p0_q, p1_q⟩ : R (44 + q) 0 = nI (P 5 q) ∧ R (44 + q) 1 = nI (P 6 q) := K.1.2.2.2.2.1 q hq
      obtain ⟨q5_q, q6_q⟩ := K.2.2.2.2.2.1 q hq
      refine And.intro (fun c => ?_) (fun c => ?_)
      · rw [if_pos ((nI_eq (by omega) (by omega)).mp c)] at hQ
        exact hk_qe_of (hQ R K hfc_rf)
      · have hpq : ¬ p = q := fun z => c (by rw [z])
        rw [if_neg hpq] at hQ
        refine And.intro (vp_in_nI (N := 5) (by omega) (by omega)) ?_
        rw [nI_clamp (by omega)]
        refine w_get (hPer_t hb_p) (hPer_k hb_p).1 p0_p ?_
        refine And.intro (vp_in_nI (N := 5) (by omega) (by omega)) ?_
        rw [nI_clamp (by omega)]
        refine w_get (hPer_t hb_q) (hPer_k hb_q).1 p0_q ?_
        refine And.intro (fun c => ?_) (fun c => ?_)
        · rw [if_pos ((nI_eq (by omega) (by omega)).mp c)] at hQ
          refine sp_pswapHats_0 (by omega) K rfl rfl hp hq hpq (fun R' KR fr => ?_)
          exact hk_qe_of (hQ R' KR fr)
        · rw [if_neg (fun z => c (by rw [z]))] at hQ
          exact hk_qe_of (hQ R K hfc_rf)
    · refine And.intro (fun _ => ?_) (fun c => absurd rfl c)
      rw [hxi_n (by omega) nn] at hQ
      exact hk_qe_of (hQ R K hfc_rf)
  · refine And.intro (fun _ => ?_) (fun c => absurd rfl c)
    rw [hxi_n (by omega) nn] at hQ
    exact hk_qe_of (hQ R K hfc_rf)
