/-! THE CLASS: an hour -/
theorem ca_ok : ∀ s, s < 25 → ∀ f, f < 25 → hk_abs (hk_rem (nI s) 5 - hk_rem (nI f) 5) + hk_abs (nI s / 5 - nI f / 5) = nI (hf_dist f s) := by decide +kernel
def hf_lm (P : hP) (pl j : Nat) : Nat := if hf_near P pl j = 99 then 10 else hf_dist pl (P 10 (hf_near P pl j))
theorem hf_lm_le {P : hP} {pl j : Nat} (hp : pl < 25) : hf_lm P pl j ≤ 10 := by
  unfold hf_lm
  rcases hf_near_ok P pl j with h | h
  · rw [if_pos h]; exact Nat.le_refl _
  · split
    · exact Nat.le_refl _
    · exact Nat.le_of_lt (hf_dist_lt pl hp _ h.2)
theorem hf_lm_t {P : hP} {pl j : Nat} (hp : pl < 25) (hl : P 10 j < 25) : hf_dist pl (P 10 j) < hf_lm P pl j ↔ (hf_near P pl j = 99 ∨ hf_dist pl (P 10 j) < hf_dist pl (P 10 (hf_near P pl j))) := by
  unfold hf_lm
  by_cases h : hf_near P pl j = 99
  · rw [if_pos h]
    have := hf_dist_lt pl hp _ hl
    exact ⟨fun _ => Or.inl h, fun _ => this⟩
  · rw [if_neg h]
    exact ⟨fun q => Or.inr q, fun q => q.resolve_left h⟩
theorem hf_lm_s {P : hP} {pl j : Nat} (h6 : j < 99) (h : P 10 j < 25 ∧ (hf_near P pl j = 99 ∨ hf_dist pl (P 10 j) < hf_dist pl (P 10 (hf_near P pl j)))) : hf_near P pl (j + 1) = j ∧ hf_lm P pl (j + 1) = hf_dist pl (P 10 j) := by
  have e : hf_near P pl (j + 1) = j := by unfold hf_near; rw [if_pos h]
  refine ⟨e, ?_⟩
  unfold hf_lm
  rw [e, if_neg (by omega)]
theorem hf_lm_n {P : hP} {pl j : Nat} (h : ¬ (P 10 j < 25 ∧ (hf_near P pl j = 99 ∨ hf_dist pl (P 10 j) < hf_dist pl (P 10 (hf_near P pl j))))) : hf_near P pl (j + 1) = hf_near P pl j ∧ hf_lm P pl (j + 1) = hf_lm P pl j := by
  have e : hf_near P pl (j + 1) = hf_near P pl j := by rw [hf_near, if_neg h]
  refine ⟨e, ?_⟩
  unfold hf_lm
  rw [e]
theorem hf_bow_at {P : hP} {p q j : Nat} : hf_bow P p q j 10 j = P 10 j := if_neg (by omega)
set_option maxHeartbeats 400000 in
theorem sp_pnearestTo_0 {d : Nat} (hd : 1 < d) {R : Nat → Nat → Int32} {X : hk_D} {Q : hk_Q} {v : Int32} {pl : Nat} {P : hP} (K : hf_K 0 P R) (ev : v = nI pl) (hpl : pl < 25) (hQ : Q (some (.int (hf_bI (hf_near P pl (P 3 0))))) (hw R X)) : hk_call d mP_nearestTo [.ref 39, .int v] (hw R X) Q := by
  obtain ⟨d, rfl⟩ : ∃ e, d = e + 1 := ⟨d - 1, by omega⟩
  subst ev
  have eh : R 39 5 = nI (P 3 0) := K.1.2.1
  have n6 := K.2.2.1
  have L : ∀ j, j ≤ P 3 0 → hk_wp (some .int) 0 0 hk_dft cP_nearestTo (hk_call d) (hk_qe Q) 6 [(4, .int (nI j)), (3, .int (nI (hf_lm P pl j))), (2, .int (hf_bI (hf_near P pl j))), (0, .ref 39), (1, .int (nI pl))] [] (hw R X) 0 0 := by
    refine hk_for ?_ ?_
    · refine hk_run2 (hk_call_m d) 100 ?_
      refine And.intro (fun c => ?_) (fun c => absurd (by rw [eh]; exact nI_le (Nat.le_refl _) (by omega)) c)
      exact hk_qe_of hQ
    · intro j hj ih
      have ha : hHat (49 + j) := by unfold hHat; omega
      obtain ⟨e0, e1, e2, e3, e4⟩ : R (49 + j) 0 = nI (P 7 j) ∧ R (49 + j) 1 = nI (P 8 j) ∧ R (49 + j) 2 = nI (P 9 j) ∧ R (49 + j) 3 = hf_cw (P 10 j) ∧ R (49 + j) 4 = hf_cs (P 10 j) := K.1.2.2.2.2.2 j hj
      refine hk_run2 (hk_call_m d) 200 ?_
      refine And.intro (fun c => absurd c (by rw [eh]; exact nI_ge hj (by omega))) (fun c => ?_)
      refine And.intro (vp_in_nI (N := 6) (by omega) (by omega)) ?_
      rw [nI_clamp (by omega)]
      refine w_recv (hHat_t ha) ?_
      refine sp_hlies (by omega) ha e4 (fun q => ?_) (fun q => ?_)
      · refine And.intro (fun c => absurd c (by decide)) (fun _ => ?_)
        refine And.intro (vp_in_nI (N := 6) (by omega) (by omega)) ?_
        rw [nI_clamp (by omega)]
        refine w_get (hHat_t ha) (hHat_k ha).2.2.2.2 (e4.trans (hf_cs_l q)) ?_
        refine And.intro (by decide) (And.intro (by decide) (And.intro (by decide) (And.intro (by decide) ?_)))
        have dl := hf_dist_lt pl hpl _ q
        have ll := hf_lm_le (P := P) (pl := pl) (j := j) hpl
        refine And.intro (fun c2 => ?_) (fun c2 => ?_)
        · rw [ca_ok _ q _ hpl] at c2
          have nt : ¬ hf_dist pl (P 10 j) < hf_lm P pl j := fun z => absurd c2 (nI_ge z (by omega))
          obtain ⟨z1, z2⟩ := hf_lm_n (P := P) (pl := pl) (j := j) (fun z => nt ((hf_lm_t hpl q).mpr z.2))
          rw [z1, z2] at ih
          refine Exists.intro [0, 3, 4, 5, 6] ?_
          rw [nI_1]
          exact hk_stop2 (hk_call_m d) ih
        · rw [ca_ok _ q _ hpl] at c2
          have tt : hf_dist pl (P 10 j) < hf_lm P pl j := Classical.byContradiction (fun z => c2 (nI_le (by omega) (by omega)))
          obtain ⟨z1, z2⟩ := hf_lm_s (P := P) (pl := pl) (j := j) (by omega) ⟨q, (hf_lm_t hpl q).mp tt⟩
          rw [z1, z2, show hf_bI j = nI j from if_neg (by omega)] at ih
          refine Exists.intro [0, 2, 1, 5, 6] ?_
          rw [nI_1, ca_ok _ q _ hpl]
          exact hk_stop2 (hk_call_m d) ih
      · refine And.intro (fun _ => ?_) (fun c => absurd rfl c)
        obtain ⟨z1, z2⟩ := hf_lm_n (P := P) (pl := pl) (j := j) (fun z => q z.1)
        rw [z1, z2] at ih
        refine Exists.intro [0, 1, 2, 3, 4] ?_
        rw [nI_1]
        exact hk_stop2 (hk_call_m d) ih
  refine hk_run2 (hk_call_m d) 6 ?_
  exact L 0 (Nat.zero_le _)
set_option maxHeartbeats 400000 in
theorem sp_pputOnAll_0 {d : Nat} (hd : 1 < d) {R0 : Nat → Nat → Int32} {X : hk_D} {Q : hk_Q} {v w : Int32} {p t : Nat} {P : hP} (K : hf_K 0 P R0) (ev : v = nI p) (ew : w = nI t) (hp : p < P 2 0) (ht : t < 25) (hQ : ∀ R', hf_K 0 (hf_puton P p t (P 3 0)) R' → hfc 0 R0 R' → Q none (hw R' X)) : hk_call d mP_putOnAll [.ref 39, .int v, .int w] (hw R0 X) Q := by
  obtain ⟨d, rfl⟩ : ∃ e, d = e + 1 := ⟨d - 1, by omega⟩
  subst ev; subst ew
  have n6 := K.2.2.1
  have n5 := K.2.1
  have L : ∀ j, j ≤ P 3 0 → ∀ R, hf_K 0 (hf_puton P p t j) R → hfc 0 R0 R → hk_wp none 0 0 hk_dft cP_putOnAll (hk_call d) (hk_qe Q) 2 [(3, .int (nI j)), (0, .ref 39), (1, .int (nI p)), (2, .int (nI t))] [] (hw R X) 0 0 := by
    refine hk_for ?_ ?_
    · intro R KR fr
      have eh : R 39 5 = nI (P 3 0) := KR.1.2.1
      refine hk_run2 (hk_call_m d) 100 ?_
      refine And.intro (fun c => ?_) (fun c => absurd (by rw [eh]; exact nI_le (Nat.le_refl _) (by omega)) c)
      exact hk_qe_of (hQ R KR fr)
    · intro j hj ih R KR fr
      have eh : R 39 5 = nI (P 3 0) := KR.1.2.1
      have eq : hf_puton P p t j 10 j = P 10 j := if_neg (by omega)
      have hj' : j < hf_puton P p t j 3 0 := hj
      have ha : hHat (49 + j) := by unfold hHat; omega
      obtain ⟨e0, e1, e2, e3, e4⟩ : R (49 + j) 0 = nI (hf_puton P p t j 7 j) ∧ R (49 + j) 1 = nI (hf_puton P p t j 8 j) ∧ R (49 + j) 2 = nI (hf_puton P p t j 9 j) ∧ R (49 + j) 3 = hf_cw (hf_puton P p t j 10 j) ∧ R (49 + j) 4 = hf_cs (hf_puton P p t j 10 j) := KR.1.2.2.2.2.2 j hj'
      rw [eq] at e3 e4
      refine hk_run2 (hk_call_m d) 200 ?_
      refine And.intro (fun c => absurd c (by rw [eh]; exact nI_ge hj (by omega))) (fun c => ?_)
      refine And.intro (vp_in_nI (N := 6) (by omega) (by omega)) ?_
      rw [nI_clamp (by omega)]
      refine w_recv (hHat_t ha) ?_
      refine sp_hlies (by omega) ha e4 (fun q => ?_) (fun q => ?_)
      · refine And.intro (fun c => absurd c (by decide)) (fun _ => ?_)
        refine And.intro (vp_in_nI (N := 6) (by omega) (by omega)) ?_
        rw [nI_clamp (by omega)]
        refine w_get (hHat_t ha) (hHat_k ha).2.2.2.2 (e4.trans (hf_cs_l q)) ?_
        refine And.intro (fun c2 => ?_) (fun c2 => ?_)
        · have ej : P 10 j = t := (nI_eq (by omega) (by omega)).mp c2
          refine And.intro (vp_in_nI (N := 6) (by omega) (by omega)) ?_
          rw [nI_clamp (by omega)]
          refine w_recv (hHat_t ha) ?_
          refine sp_hgoOn (by omega) ha ?_
          refine Exists.intro [0, 1, 2, 3] ?_
          rw [nI_1]
          refine hk_stop2 (hk_call_m d) (ih _ ?_ (hfc_tr fr (hfc_tr (hfc_up (by omega)) (hfc_up (by omega)))))
          rw [hf_puton_s, if_pos ej]
          refine hf_K_hat KR hj' (Or.inr (Or.inl ⟨by omega, show 25 + p < 25 + P 2 0 by omega⟩)) (fun a k z => ?_) ?_ ?_
          · rw [up2_n (by omega), up2_n (by omega)]
          · rw [show 49 + j = 49 + 16 * 0 + j from rfl, up2_k (by decide), up2_s, hf_cw_w (by omega)]; congr 1; omega
          · rw [show 49 + j = 49 + 16 * 0 + j from rfl, up2_s, hf_cs_n (by omega)]
        · refine Exists.intro [0, 1, 2, 3] ?_
          rw [nI_1]
          refine hk_stop2 (hk_call_m d) (ih R ?_ fr)
          rw [hf_puton_s, if_neg (fun z => c2 (by rw [z]))]; exact KR
      · refine And.intro (fun _ => ?_) (fun c => absurd rfl c)
        refine Exists.intro [0, 1, 2, 3] ?_
        rw [nI_1]
        refine hk_stop2 (hk_call_m d) (ih R ?_ fr)
        rw [hf_puton_s, if_neg (by omega)]; exact KR
  refine hk_run2 (hk_call_m d) 2 ?_
  exact L 0 (Nat.zero_le _) R0 (by rw [hf_puton_0]; exact K) hfc_rf
set_option maxHeartbeats 400000 in
theorem sp_prunForNearest_0 {d : Nat} (hd : 2 < d) {R : Nat → Nat → Int32} {X : hk_D} {Q : hk_Q} {v : Int32} {p : Nat} {P : hP} (K : hf_K 0 P R) (ev : v = nI p) (hp : p < P 2 0) (hQ : ∀ R', hf_K 0 (hf_person P p) R' → hfc 0 R R' → Q none (hw R' X)) : hk_call d mP_runForNearest [.ref 39, .int v] (hw R X) Q := by
  obtain ⟨d, rfl⟩ : ∃ e, d = e + 1 := ⟨d - 1, by omega⟩
  subst ev
  have n6 := K.2.2.1
  have n5 := K.2.1
  have hb : hPer (44 + p) := by unfold hPer; omega
  obtain ⟨p0, p1⟩ : R (44 + p) 0 = nI (P 5 p) ∧ R (44 + p) 1 = nI (P 6 p) := K.1.2.2.2.2.1 p hp
  obtain ⟨hpl, hsp⟩ := K.2.2.2.2.2.1 p hp
  unfold hf_person at hQ
  refine hk_run2 (hk_call_m d) 100 ?_
  refine And.intro (vp_in_nI (N := 5) (by omega) (by omega)) ?_
  rw [nI_clamp (by omega)]
  refine w_get (hPer_t hb) (hPer_k hb).1 p0 ?_
  refine sp_pnearestTo_0 (by omega) K rfl hpl ?_
  rcases hf_near_ok P (P 5 p) (P 3 0) with hn | hn
  · rw [if_pos hn] at hQ
    rw [hn]
    refine And.intro (fun c => absurd c (by decide)) (fun _ => ?_)
    exact hk_qe_of (hQ R K hfc_rf)
  · have h99 : ¬ hf_near P (P 5 p) (P 3 0) = 99 := by omega
    rw [if_neg h99] at hQ
    rw [show hf_bI (hf_near P (P 5 p) (P 3 0)) = nI (hf_near P (P 5 p) (P 3 0)) from if_neg h99]
    generalize hf_near P (P 5 p) (P 3 0) = j at hn hQ ⊢
    obtain ⟨hj, hl⟩ := hn
    have ha : hHat (49 + j) := by unfold hHat; omega
    obtain ⟨e0, e1, e2, e3, e4⟩ : R (49 + j) 0 = nI (P 7 j) ∧ R (49 + j) 1 = nI (P 8 j) ∧ R (49 + j) 2 = nI (P 9 j) ∧ R (49 + j) 3 = hf_cw (P 10 j) ∧ R (49 + j) 4 = hf_cs (P 10 j) := K.1.2.2.2.2.2 j hj
    refine And.intro (fun _ => ?_) (fun c => absurd (hn_pos (by omega)) c)
    refine And.intro (vp_in_nI (N := 6) (by omega) (by omega)) ?_
    rw [nI_clamp (by omega)]
    refine w_get (hHat_t ha) (hHat_k ha).2.2.2.2 (e4.trans (hf_cs_l hl)) ?_
    refine And.intro (vp_in_nI (N := 5) (by omega) (by omega)) ?_
    rw [nI_clamp (by omega)]
    refine w_recv (hPer_t hb) ?_
    refine sp_nrunTo (by omega) hb p0 p1 rfl hsp hpl hl ?_
    refine And.intro (vp_in_nI (N := 5) (by omega) (by omega)) ?_
    rw [nI_clamp (by omega)]
    have hrl := hf_runs_lt hpl hl (P 6 p)
    have K1 : hf_K 0 (hf_up P 5 p (hf_runs (P 6 p) (P 5 p) (P 10 j))) (up2 R (44 + p) 0 (nI (hf_runs (P 6 p) (P 5 p) (P 10 j)))) := hf_K_place K hp hrl (fun a k z => up2_n (by omega)) (up2_s _ _ _ _)
    refine w_get (hPer_t hb) (hPer_k hb).1 (up2_s _ _ _ _) ?_
    refine And.intro (fun c => ?_) (fun c => ?_)
    · have er : hf_runs (P 6 p) (P 5 p) (P 10 j) = P 10 j := (nI_eq (by omega) (by omega)).mp c
      rw [if_pos er] at hQ
      rw [er] at K1
      rw [er]
      refine sp_pputOnAll_0 (by omega) K1 rfl rfl hp hl (fun R' KR fr => ?_)
      exact hk_qe_of (hQ R' KR (hfc_tr (hfc_up (by omega)) fr))
    · rw [if_neg (fun z => c (by rw [z]))] at hQ
      exact hk_qe_of (hQ _ K1 (hfc_up (by omega)))
set_option maxHeartbeats 400000 in
theorem sp_pblow_0 {d : Nat} (hd : 2 < d) {R0 : Nat → Nat → Int32} {X : hk_D} {Q : hk_Q} {v w : Int32} {dir f : Nat} {P : hP} (K : hf_K 0 P R0) (ev : v = nI dir) (ew : w = nI f) (hdir : dir < 4) (hf : f < 10) (hQ : ∀ R', hf_K 0 (hf_blow P dir f (P 3 0)) R' → hfc 0 R0 R' → Q none (hw R' X)) : hk_call d mP_blow [.ref 39, .int v, .int w] (hw R0 X) Q := by
  obtain ⟨d, rfl⟩ : ∃ e, d = e + 1 := ⟨d - 1, by omega⟩
  subst ev; subst ew
  have n6 := K.2.2.1
  have n5 := K.2.1
  have L : ∀ j, j ≤ P 3 0 → ∀ R, hf_K 0 (hf_blow P dir f j) R → hfc 0 R0 R → hk_wp none 0 0 hk_dft cP_blow (hk_call d) (hk_qe Q) 2 [(3, .int (nI j)), (0, .ref 39), (1, .int (nI dir)), (2, .int (nI f))] [] (hw R X) 0 0 := by
    refine hk_for ?_ ?_
    · intro R KR fr
      have eh : R 39 5 = nI (P 3 0) := KR.1.2.1
      refine hk_run2 (hk_call_m d) 100 ?_
      refine And.intro (fun c => ?_) (fun c => absurd (by rw [eh]; exact nI_le (Nat.le_refl _) (by omega)) c)
      exact hk_qe_of (hQ R KR fr)
    · intro j hj ih R KR fr
      have eh : R 39 5 = nI (P 3 0) := KR.1.2.1
      have eq : hf_blow P dir f j 10 j = P 10 j := if_neg (by omega)
      have hj' : j < hf_blow P dir f j 3 0 := hj
      obtain ⟨ok7, ok8, -⟩ := K.2.2.2.2.2.2 j hj
      have cs := hf_K_cs_0 K hj
      have ha : hHat (49 + j) := by unfold hHat; omega
      have tail : ∀ R, hf_K 0 (hf_up (hf_blow P dir f j) 10 j (hf_drop P f j)) R → hfc 0 R0 R → (hf_drop P f j < 25 ∨ (25 ≤ hf_drop P f j ∧ hf_drop P f j < 25 + P 2 0) ∨ hf_drop P f j = 30) → hk_wp none 0 0 hk_dft cP_blow (hk_call d) (hk_qe Q) 23 [(4, .ref (49 + j)), (3, .int (nI j)), (0, .ref 39), (1, .int (nI dir)), (2, .int (nI f))] [] (hw R X) 0 0 := by
        intro R KR fr hc
        have e4 : R (49 + j) 4 = hf_cs (hf_up (hf_blow P dir f j) 10 j (hf_drop P f j) 10 j) := (KR.1.2.2.2.2.2 j hj).2.2.2.2
        have e3 : R (49 + j) 3 = hf_cw (hf_up (hf_blow P dir f j) 10 j (hf_drop P f j) 10 j) := (KR.1.2.2.2.2.2 j hj).2.2.2.1
        have e0 : R (49 + j) 0 = nI (P 7 j) := (KR.1.2.2.2.2.2 j hj).1
        rw [hf_up_s] at e4 e3
        refine hk_run2 (hk_call_m d) 200 ?_
        refine w_recv (hHat_t ha) ?_
        refine sp_hlies (by omega) ha e4 (fun q => ?_) (fun q => ?_)
        · refine And.intro (fun c => absurd c (by decide)) (fun _ => ?_)
          refine w_recv (hHat_t ha) ?_
          refine sp_hflight (by omega) ha e0 rfl ok7 hf ?_
          refine w_recv (hHat_t ha) ?_
          have hfl := hf_flies_lt (P 7 j) ok7 f hf
          refine sp_hfly (by omega) ha (e4.trans (hf_cs_l q)) rfl rfl hdir hfl q ?_
          refine Exists.intro [0, 2, 3, 4] ?_
          rw [nI_1]
          refine hk_stop2 (hk_call_m d) (ih _ ?_ (hfc_tr fr (hfc_up (by omega))))
          have hfo := hf_fly_ok dir hdir _ hfl _ q
          rw [hf_blow_s, show hf_air P dir f j (hf_drop P f j) = hf_fly dir (hf_flies (P 7 j) f) (hf_drop P f j) from if_pos q, ← hf_up_up _ 10 j (hf_drop P f j)]
          refine hf_K_hat KR hj (by rcases hfo with z | z; exact Or.inl z; exact Or.inr (Or.inr z)) (fun a k z => ?_) ?_ ?_
          · rw [up2_n (by omega)]
          · rw [show 49 + j = 49 + 16 * 0 + j from rfl, up2_k (by decide)]
            refine (show R (49 + 16 * 0 + j) 3 = _ from e3).trans ?_
            rw [hf_cw_n (by omega), hf_cw_n (by omega)]
          · rw [show 49 + j = 49 + 16 * 0 + j from rfl, up2_s]
        · refine And.intro (fun _ => ?_) (fun c => absurd rfl c)
          refine Exists.intro [0, 2, 3, 4] ?_
          rw [nI_1]
          refine hk_stop2 (hk_call_m d) (ih R ?_ fr)
          rw [hf_blow_s, show hf_air P dir f j (hf_drop P f j) = hf_drop P f j from if_neg q]
          exact KR
      obtain ⟨e0, e1, e2, e3, e4⟩ : R (49 + j) 0 = nI (P 7 j) ∧ R (49 + j) 1 = nI (P 8 j) ∧ R (49 + j) 2 = nI (P 9 j) ∧ R (49 + j) 3 = hf_cw (hf_blow P dir f j 10 j) ∧ R (49 + j) 4 = hf_cs (hf_blow P dir f j 10 j) := KR.1.2.2.2.2.2 j hj'
      rw [eq] at e3 e4
      have keep : hf_drop P f j = P 10 j → hk_wp none 0 0 hk_dft cP_blow (hk_call d) (hk_qe Q) 23 [(4, .ref (49 + j)), (3, .int (nI j)), (0, .ref 39), (1, .int (nI dir)), (2, .int (nI f))] [] (hw R X) 0 0 := by
        intro z
        refine tail R ?_ fr (by rw [z]; exact (K.2.2.2.2.2.2 j hj).2.2.2)
        rw [z, ← eq, hf_upself]; exact KR
      refine hk_run2 (hk_call_m d) 200 ?_
      refine And.intro (fun c => absurd c (by rw [eh]; exact nI_ge hj (by omega))) (fun c => ?_)
      refine And.intro (vp_in_nI (N := 6) (by omega) (by omega)) ?_
      rw [nI_clamp (by omega)]
      refine w_recv (hHat_t ha) ?_
      refine sp_hisWorn (by omega) ha e3 (fun q => ?_) (fun q => ?_)
      · refine And.intro (fun c => absurd c (by decide)) (fun _ => ?_)
        refine w_recv (hHat_t ha) ?_
        refine sp_hfirm (by omega) ha e0 e1 ok7 ok8 ?_
        have hh := hf_holds_lt _ ok7 _ ok8
        refine And.intro (fun c2 => ?_) (fun c2 => ?_)
        · refine hk_stop2 (hk_call_m d) (keep (if_neg (fun z => absurd c2 (nI_ge z.2.2 (by omega)))))
        · have lt : hf_holds (P 7 j) (P 8 j) < f := Classical.byContradiction (fun z => c2 (nI_le (by omega) (by omega)))
          refine sp_pplaceOf_0 (by omega) KR rfl hj' ?_
          have dr : hf_drop P f j = P 5 (P 10 j - 25) := if_pos ⟨q.1, q.2, lt⟩
          have hp : P 10 j - 25 < P 2 0 := by
            rcases (K.2.2.2.2.2.2 j hj).2.2.2 with z | z | z <;> omega
          have h25 := (K.2.2.2.2.2.1 _ hp).1
          have cp : hf_cp (hf_blow P dir f j) j = nI (hf_drop P f j) := by
            unfold hf_cp
            rw [eq, if_pos q, dr]
            rfl
          rw [cp]
          refine w_recv (hHat_t ha) ?_
          refine sp_hlieIn (by omega) ha ?_
          refine w_rn (hk_stop2 (hk_call_m d) (tail _ ?_ (hfc_tr fr (hfc_tr (hfc_up (by omega)) (hfc_up (by omega)))) (Or.inl (by rw [dr]; exact h25))))
          refine hf_K_hat KR hj' (Or.inl (by rw [dr]; exact h25)) (fun a k z => ?_) ?_ ?_
          · rw [up2_n (by omega), up2_n (by omega)]
          · rw [show 49 + j = 49 + 16 * 0 + j from rfl, up2_k (by decide), up2_s, hf_cw_n (by omega)]
          · rw [show 49 + j = 49 + 16 * 0 + j from rfl, up2_s, hf_cs_l (by omega)]
      · refine And.intro (fun _ => ?_) (fun c => absurd rfl c)
        exact hk_stop2 (hk_call_m d) (keep (if_neg (fun z => q ⟨z.1, z.2.1⟩)))
  refine hk_run2 (hk_call_m d) 2 ?_
  exact L 0 (Nat.zero_le _) R0 (by rw [hf_blow_0]; exact K) hfc_rf
set_option maxHeartbeats 400000 in
theorem sp_ppassHour_0 {d : Nat} (hd : 3 < d) {R0 : Nat → Nat → Int32} {X : hk_D} {Q : hk_Q} {P : hP} (K : hf_K 0 P R0) (h200 : P 4 0 < 200) (hQ : ∀ R', hf_K 0 (hf_pass P) R' → hfc 0 R0 R' → Q none (hw R' X)) : hk_call d mP_passHour [.ref 39] (hw R0 X) Q := by
  obtain ⟨d, rfl⟩ : ∃ e, d = e + 1 := ⟨d - 1, by omega⟩
  have n6 := K.2.2.1
  have n5 := K.2.1
  have hm : P 4 0 % 24 < 24 := Nat.mod_lt _ (by decide)
  unfold hf_pass hf_hour at hQ
  have cw := K.1.2.2.2.1 _ hm
  have cb := K.2.2.2.2.1 _ hm
  generalize hg : P 4 0 % 24 = hr at hm cw cb hQ
  have L : ∀ P1, P1 2 0 = P 2 0 → P1 4 0 = P 4 0 → (∀ R', hf_K 0 (hf_up (hf_people P1 (P 2 0)) 4 0 (P 4 0 + 1)) R' → hfc 0 R0 R' → Q none (hw R' X)) → ∀ j, j ≤ P 2 0 → ∀ R, hf_K 0 (hf_people P1 j) R → hfc 0 R0 R → hk_wp none 0 0 hk_dft cP_passHour (hk_call d) (hk_qe Q) 15 [(2, .int (nI j)), (1, .int (nI hr)), (0, .ref 39)] [] (hw R X) 0 0 := by
    intro P1 z2 z4 hQ
    refine hk_for ?_ ?_
    · intro R KR fr
      have eh : R 39 4 = nI (P 2 0) := by have := KR.1.1; rw [hf_people_r (by decide) (by decide), z2] at this; exact this
      have en : R 39 6 = nI (P 4 0) := by have := KR.1.2.2.1; rw [hf_people_r (by decide) (by decide), z4] at this; exact this
      refine hk_run2 (hk_call_m d) 100 ?_
      refine And.intro (fun c => ?_) (fun c => absurd (by rw [eh]; exact nI_le (Nat.le_refl _) (by omega)) c)
      refine w_put trivial rfl rfl ?_
      rw [en, nI_1]
      refine hk_qe_of (hQ _ (hf_K_now KR (by omega) (fun a k z => up2_n z) (up2_s _ _ _ _)) (hfc_tr fr (hfc_up (by omega))))
    · intro j hj ih R KR fr
      have eh : R 39 4 = nI (P 2 0) := by have := KR.1.1; rw [hf_people_r (by decide) (by decide), z2] at this; exact this
      refine hk_run2 (hk_call_m d) 100 ?_
      refine And.intro (fun c => absurd c (by rw [eh]; exact nI_ge hj (by omega))) (fun c => ?_)
      refine sp_prunForNearest_0 (by omega) KR rfl (by rw [hf_people_r (by decide) (by decide), z2]; exact hj) (fun R' KR' fr' => ?_)
      refine Exists.intro [0, 1, 2] ?_
      rw [nI_1]
      exact hk_stop2 (hk_call_m d) (ih R' KR' (hfc_tr fr fr'))
  refine hk_run2 (hk_call_m d) 100 ?_
  refine sp_phour_0 (by omega) K ?_
  rw [hg]
  refine w_ld (j := hr) (n := 24) rfl rfl hm (by omega) rfl cw.1 ?_
  refine w_ld (j := hr) (n := 24) rfl rfl hm (by omega) rfl cw.2 ?_
  refine sp_pblow_0 (by omega) K rfl rfl cb.1 cb.2 (fun R' KR fr => ?_)
  refine w_rn (hk_stop2 (hk_call_m d) (hk_run2 (hk_call_m d) 2 ?_))
  exact L (hf_blow P (P 0 hr) (P 1 hr) (P 3 0)) rfl rfl hQ 0 (Nat.zero_le _) R' KR fr
set_option maxHeartbeats 400000 in
theorem sp_ppassHours_0 {d : Nat} (hd : 4 < d) {R0 : Nat → Nat → Int32} {X : hk_D} {Q : hk_Q} {v : Int32} {n : Nat} {P : hP} (K : hf_K 0 P R0) (ev : v = nI n) (hn : n ≤ 1000) (hQ : ∀ R', hf_K 0 (hf_hours n P) R' → hfc 0 R0 R' → Q none (hw R' X)) : hk_call d mP_passHours [.ref 39, .int v] (hw R0 X) Q := by
  obtain ⟨d, rfl⟩ : ∃ e, d = e + 1 := ⟨d - 1, by omega⟩
  subst ev
  have L : ∀ j, j ≤ n → ∀ R S, hf_K 0 S R → hf_hours (n - j) S = hf_hours n P → hfc 0 R0 R → hk_wp none 0 0 hk_dft cP_passHours (hk_call d) (hk_qe Q) 2 [(2, .int (nI j)), (0, .ref 39), (1, .int (nI n))] [] (hw R X) 0 0 := by
    refine hk_for ?_ ?_
    · intro R S KR es fr
      rw [Nat.sub_self] at es
      have es : S = hf_hours n P := es
      refine hk_run2 (hk_call_m d) 100 ?_
      refine And.intro (fun c => ?_) (fun c => absurd (nI_le (Nat.le_refl _) (by omega)) c)
      exact hk_qe_of (hQ R (by rw [← es]; exact KR) fr)
    · intro j hj ih R S KR es fr
      have en : R 39 6 = nI (S 4 0) := KR.1.2.2.1
      have n4 := KR.2.2.2.1
      rw [show n - j = (n - (j + 1)) + 1 by omega, hf_hours] at es
      refine hk_run2 (hk_call_m d) 100 ?_
      refine And.intro (fun c => absurd c (nI_ge hj (by omega))) (fun c => ?_)
      refine And.intro (fun c2 => ?_) (fun c2 => ?_)
      · rw [en] at c2
        rw [if_neg (fun z => absurd c2 (nI_ge (b := 96) z (by omega)))] at es
        exact hk_qe_of (hQ R (by rw [← es]; exact KR) fr)
      · have lt : S 4 0 < 96 := Classical.byContradiction (fun z => c2 (by rw [en]; exact nI_le (a := 96) (by omega) (by omega)))
        rw [if_pos lt] at es
        refine sp_ppassHour_0 (by omega) KR (by omega) (fun R' KR' fr' => ?_)
        refine Exists.intro [0, 1, 2] ?_
        rw [nI_1]
        exact hk_stop2 (hk_call_m d) (ih R' _ KR' es (hfc_tr fr fr'))
  refine hk_run2 (hk_call_m d) 2 ?_
  exact L 0 (Nat.zero_le _) R0 P K rfl hfc_rf
set_option maxHeartbeats 400000 in
theorem sp_pnearestTo_1 {d : Nat} (hd : 1 < d) {R : Nat → Nat → Int32} {X : hk_D} {Q : hk_Q} {v : Int32} {pl : Nat} {P : hP} (K : hf_K 1 P R) (ev : v = nI pl) (hpl : pl < 25) (hQ : Q (some (.int (hf_bI (hf_near P pl (P 3 0))))) (hw R X)) : hk_call d mP_nearestTo [.ref 55, .int v] (hw R X) Q := by
  obtain ⟨d, rfl⟩ : ∃ e, d = e + 1 := ⟨d - 1, by omega⟩
  subst ev
  have eh : R 55 5 = nI (P 3 0) := K.1.2.1
  have n6 := K.2.2.1
  have L : ∀ j, j ≤ P 3 0 → hk_wp (some .int) 0 0 hk_dft cP_nearestTo (hk_call d) (hk_qe Q) 6 [(4, .int (nI j)), (3, .int (nI (hf_lm P pl j))), (2, .int (hf_bI (hf_near P pl j))), (0, .ref 55), (1, .int (nI pl))] [] (hw R X) 0 0 := by
    refine hk_for ?_ ?_
    · refine hk_run2 (hk_call_m d) 100 ?_
      refine And.intro (fun c => ?_) (fun c => absurd (by rw [eh]; exact nI_le (Nat.le_refl _) (by omega)) c)
      exact hk_qe_of hQ
    · intro j hj ih
      have ha : hHat (65 + j) := by unfold hHat; omega
      obtain ⟨e0, e1, e2, e3, e4⟩ : R (65 + j) 0 = nI (P 7 j) ∧ R (65 + j) 1 = nI (P 8 j) ∧ R (65 + j) 2 = nI (P 9 j) ∧ R (65 + j) 3 = hf_cw (P 10 j) ∧ R (65 + j) 4 = hf_cs (P 10 j) := K.1.2.2.2.2.2 j hj
      refine hk_run2 (hk_call_m d) 200 ?_
      refine And.intro (fun c => absurd c (by rw [eh]; exact nI_ge hj (by omega))) (fun c => ?_)
      refine And.intro (vp_in_nI (N := 6) (by omega) (by omega)) ?_
      rw [nI_clamp (by omega)]
      refine w_recv (hHat_t ha) ?_
      refine sp_hlies (by omega) ha e4 (fun q => ?_) (fun q => ?_)
      · refine And.intro (fun c => absurd c (by decide)) (fun _ => ?_)
        refine And.intro (vp_in_nI (N := 6) (by omega) (by omega)) ?_
        rw [nI_clamp (by omega)]
        refine w_get (hHat_t ha) (hHat_k ha).2.2.2.2 (e4.trans (hf_cs_l q)) ?_
        refine And.intro (by decide) (And.intro (by decide) (And.intro (by decide) (And.intro (by decide) ?_)))
        have dl := hf_dist_lt pl hpl _ q
        have ll := hf_lm_le (P := P) (pl := pl) (j := j) hpl
        refine And.intro (fun c2 => ?_) (fun c2 => ?_)
        · rw [ca_ok _ q _ hpl] at c2
          have nt : ¬ hf_dist pl (P 10 j) < hf_lm P pl j := fun z => absurd c2 (nI_ge z (by omega))
          obtain ⟨z1, z2⟩ := hf_lm_n (P := P) (pl := pl) (j := j) (fun z => nt ((hf_lm_t hpl q).mpr z.2))
          rw [z1, z2] at ih
          refine Exists.intro [0, 3, 4, 5, 6] ?_
          rw [nI_1]
          exact hk_stop2 (hk_call_m d) ih
        · rw [ca_ok _ q _ hpl] at c2
          have tt : hf_dist pl (P 10 j) < hf_lm P pl j := Classical.byContradiction (fun z => c2 (nI_le (by omega) (by omega)))
          obtain ⟨z1, z2⟩ := hf_lm_s (P := P) (pl := pl) (j := j) (by omega) ⟨q, (hf_lm_t hpl q).mp tt⟩
          rw [z1, z2, show hf_bI j = nI j from if_neg (by omega)] at ih
          refine Exists.intro [0, 2, 1, 5, 6] ?_
          rw [nI_1, ca_ok _ q _ hpl]
          exact hk_stop2 (hk_call_m d) ih
      · refine And.intro (fun _ => ?_) (fun c => absurd rfl c)
        obtain ⟨z1, z2⟩ := hf_lm_n (P := P) (pl := pl) (j := j) (fun z => q z.1)
        rw [z1, z2] at ih
        refine Exists.intro [0, 1, 2, 3, 4] ?_
        rw [nI_1]
        exact hk_stop2 (hk_call_m d) ih
  refine hk_run2 (hk_call_m d) 6 ?_
  exact L 0 (Nat.zero_le _)
set_option maxHeartbeats 400000 in
theorem sp_pputOnAll_1 {d : Nat} (hd : 1 < d) {R0 : Nat → Nat → Int32} {X : hk_D} {Q : hk_Q} {v w : Int32} {p t : Nat} {P : hP} (K : hf_K 1 P R0) (ev : v = nI p) (ew : w = nI t) (hp : p < P 2 0) (ht : t < 25) (hQ : ∀ R', hf_K 1 (hf_puton P p t (P 3 0)) R' → hfc 1 R0 R' → Q none (hw R' X)) : hk_call d mP_putOnAll [.ref 55, .int v, .int w] (hw R0 X) Q := by
  obtain ⟨d, rfl⟩ : ∃ e, d = e + 1 := ⟨d - 1, by omega⟩
  subst ev; subst ew
  have n6 := K.2.2.1
  have n5 := K.2.1
  have L : ∀ j, j ≤ P 3 0 → ∀ R, hf_K 1 (hf_puton P p t j) R → hfc 1 R0 R → hk_wp none 0 0 hk_dft cP_putOnAll (hk_call d) (hk_qe Q) 2 [(3, .int (nI j)), (0, .ref 55), (1, .int (nI p)), (2, .int (nI t))] [] (hw R X) 0 0 := by
    refine hk_for ?_ ?_
    · intro R KR fr
      have eh : R 55 5 = nI (P 3 0) := KR.1.2.1
      refine hk_run2 (hk_call_m d) 100 ?_
      refine And.intro (fun c => ?_) (fun c => absurd (by rw [eh]; exact nI_le (Nat.le_refl _) (by omega)) c)
      exact hk_qe_of (hQ R KR fr)
    · intro j hj ih R KR fr
      have eh : R 55 5 = nI (P 3 0) := KR.1.2.1
      have eq : hf_puton P p t j 10 j = P 10 j := if_neg (by omega)
      have hj' : j < hf_puton P p t j 3 0 := hj
      have ha : hHat (65 + j) := by unfold hHat; omega
      obtain ⟨e0, e1, e2, e3, e4⟩ : R (65 + j) 0 = nI (hf_puton P p t j 7 j) ∧ R (65 + j) 1 = nI (hf_puton P p t j 8 j) ∧ R (65 + j) 2 = nI (hf_puton P p t j 9 j) ∧ R (65 + j) 3 = hf_cw (hf_puton P p t j 10 j) ∧ R (65 + j) 4 = hf_cs (hf_puton P p t j 10 j) := KR.1.2.2.2.2.2 j hj'
      rw [eq] at e3 e4
      refine hk_run2 (hk_call_m d) 200 ?_
      refine And.intro (fun c => absurd c (by rw [eh]; exact nI_ge hj (by omega))) (fun c => ?_)
      refine And.intro (vp_in_nI (N := 6) (by omega) (by omega)) ?_
      rw [nI_clamp (by omega)]
      refine w_recv (hHat_t ha) ?_
      refine sp_hlies (by omega) ha e4 (fun q => ?_) (fun q => ?_)
      · refine And.intro (fun c => absurd c (by decide)) (fun _ => ?_)
        refine And.intro (vp_in_nI (N := 6) (by omega) (by omega)) ?_
        rw [nI_clamp (by omega)]
        refine w_get (hHat_t ha) (hHat_k ha).2.2.2.2 (e4.trans (hf_cs_l q)) ?_
        refine And.intro (fun c2 => ?_) (fun c2 => ?_)
        · have ej : P 10 j = t := (nI_eq (by omega) (by omega)).mp c2
          refine And.intro (vp_in_nI (N := 6) (by omega) (by omega)) ?_
          rw [nI_clamp (by omega)]
          refine w_recv (hHat_t ha) ?_
          refine sp_hgoOn (by omega) ha ?_
          refine Exists.intro [0, 1, 2, 3] ?_
          rw [nI_1]
          refine hk_stop2 (hk_call_m d) (ih _ ?_ (hfc_tr fr (hfc_tr (hfc_up (by omega)) (hfc_up (by omega)))))
          rw [hf_puton_s, if_pos ej]
          refine hf_K_hat KR hj' (Or.inr (Or.inl ⟨by omega, show 25 + p < 25 + P 2 0 by omega⟩)) (fun a k z => ?_) ?_ ?_
          · rw [up2_n (by omega), up2_n (by omega)]
          · rw [show 65 + j = 49 + 16 * 1 + j from rfl, up2_k (by decide), up2_s, hf_cw_w (by omega)]; congr 1; omega
          · rw [show 65 + j = 49 + 16 * 1 + j from rfl, up2_s, hf_cs_n (by omega)]
        · refine Exists.intro [0, 1, 2, 3] ?_
          rw [nI_1]
          refine hk_stop2 (hk_call_m d) (ih R ?_ fr)
          rw [hf_puton_s, if_neg (fun z => c2 (by rw [z]))]; exact KR
      · refine And.intro (fun _ => ?_) (fun c => absurd rfl c)
        refine Exists.intro [0, 1, 2, 3] ?_
        rw [nI_1]
        refine hk_stop2 (hk_call_m d) (ih R ?_ fr)
        rw [hf_puton_s, if_neg (by omega)]; exact KR
  refine hk_run2 (hk_call_m d) 2 ?_
  exact L 0 (Nat.zero_le _) R0 (by rw [hf_puton_0]; exact K) hfc_rf
set_option maxHeartbeats 400000 in
theorem sp_prunForNearest_1 {d : Nat} (hd : 2 < d) {R : Nat → Nat → Int32} {X : hk_D} {Q : hk_Q} {v : Int32} {p : Nat} {P : hP} (K : hf_K 1 P R) (ev : v = nI p) (hp : p < P 2 0) (hQ : ∀ R', hf_K 1 (hf_person P p) R' → hfc 1 R R' → Q none (hw R' X)) : hk_call d mP_runForNearest [.ref 55, .int v] (hw R X) Q := by
  obtain ⟨d, rfl⟩ : ∃ e, d = e + 1 := ⟨d - 1, by omega⟩
  subst ev
  have n6 := K.2.2.1
  have n5 := K.2.1
  have hb : hPer (60 + p) := by unfold hPer; omega
  obtain ⟨p0, p1⟩ : R (60 + p) 0 = nI (P 5 p) ∧ R (60 + p) 1 = nI (P 6 p) := K.1.2.2.2.2.1 p hp
  obtain ⟨hpl, hsp⟩ := K.2.2.2.2.2.1 p hp
  unfold hf_person at hQ
  refine hk_run2 (hk_call_m d) 100 ?_
  refine And.intro (vp_in_nI (N := 5) (by omega) (by omega)) ?_
  rw [nI_clamp (by omega)]
  refine w_get (hPer_t hb) (hPer_k hb).1 p0 ?_
  refine sp_pnearestTo_1 (by omega) K rfl hpl ?_
  rcases hf_near_ok P (P 5 p) (P 3 0) with hn | hn
  · rw [if_pos hn] at hQ
    rw [hn]
    refine And.intro (fun c => absurd c (by decide)) (fun _ => ?_)
    exact hk_qe_of (hQ R K hfc_rf)
  · have h99 : ¬ hf_near P (P 5 p) (P 3 0) = 99 := by omega
    rw [if_neg h99] at hQ
    rw [show hf_bI (hf_near P (P 5 p) (P 3 0)) = nI (hf_near P (P 5 p) (P 3 0)) from if_neg h99]
    generalize hf_near P (P 5 p) (P 3 0) = j at hn hQ ⊢
    obtain ⟨hj, hl⟩ := hn
    have ha : hHat (65 + j) := by unfold hHat; omega
    obtain ⟨e0, e1, e2, e3, e4⟩ : R (65 + j) 0 = nI (P 7 j) ∧ R (65 + j) 1 = nI (P 8 j) ∧ R (65 + j) 2 = nI (P 9 j) ∧ R (65 + j) 3 = hf_cw (P 10 j) ∧ R (65 + j) 4 = hf_cs (P 10 j) := K.1.2.2.2.2.2 j hj
    refine And.intro (fun _ => ?_) (fun c => absurd (hn_pos (by omega)) c)
    refine And.intro (vp_in_nI (N := 6) (by omega) (by omega)) ?_
    rw [nI_clamp (by omega)]
    refine w_get (hHat_t ha) (hHat_k ha).2.2.2.2 (e4.trans (hf_cs_l hl)) ?_
    refine And.intro (vp_in_nI (N := 5) (by omega) (by omega)) ?_
    rw [nI_clamp (by omega)]
    refine w_recv (hPer_t hb) ?_
    refine sp_nrunTo (by omega) hb p0 p1 rfl hsp hpl hl ?_
    refine And.intro (vp_in_nI (N := 5) (by omega) (by omega)) ?_
    rw [nI_clamp (by omega)]
    have hrl := hf_runs_lt hpl hl (P 6 p)
    have K1 : hf_K 1 (hf_up P 5 p (hf_runs (P 6 p) (P 5 p) (P 10 j))) (up2 R (60 + p) 0 (nI (hf_runs (P 6 p) (P 5 p) (P 10 j)))) := hf_K_place K hp hrl (fun a k z => up2_n (by omega)) (up2_s _ _ _ _)
    refine w_get (hPer_t hb) (hPer_k hb).1 (up2_s _ _ _ _) ?_
    refine And.intro (fun c => ?_) (fun c => ?_)
    · have er : hf_runs (P 6 p) (P 5 p) (P 10 j) = P 10 j := (nI_eq (by omega) (by omega)).mp c
      rw [if_pos er] at hQ
      rw [er] at K1
      rw [er]
      refine sp_pputOnAll_1 (by omega) K1 rfl rfl hp hl (fun R' KR fr => ?_)
      exact hk_qe_of (hQ R' KR (hfc_tr (hfc_up (by omega)) fr))
    · rw [if_neg (fun z => c (by rw [z]))] at hQ
      exact hk_qe_of (hQ _ K1 (hfc_up (by omega)))
set_option maxHeartbeats 400000 in
theorem sp_pblow_1 {d : Nat} (hd : 2 < d) {R0 : Nat → Nat → Int32} {X : hk_D} {Q : hk_Q} {v w : Int32} {dir f : Nat} {P : hP} (K : hf_K 1 P R0) (ev : v = nI dir) (ew : w = nI f) (hdir : dir < 4) (hf : f < 10) (hQ : ∀ R', hf_K 1 (hf_blow P dir f (P 3 0)) R' → hfc 1 R0 R' → Q none (hw R' X)) : hk_call d mP_blow [.ref 55, .int v, .int w] (hw R0 X) Q := by
  obtain ⟨d, rfl⟩ : ∃ e, d = e + 1 := ⟨d - 1, by omega⟩
  subst ev; subst ew
  have n6 := K.2.2.1
  have n5 := K.2.1
  have L : ∀ j, j ≤ P 3 0 → ∀ R, hf_K 1 (hf_blow P dir f j) R → hfc 1 R0 R → hk_wp none 0 0 hk_dft cP_blow (hk_call d) (hk_qe Q) 2 [(3, .int (nI j)), (0, .ref 55), (1, .int (nI dir)), (2, .int (nI f))] [] (hw R X) 0 0 := by
    refine hk_for ?_ ?_
    · intro R KR fr
      have eh : R 55 5 = nI (P 3 0) := KR.1.2.1
      refine hk_run2 (hk_call_m d) 100 ?_
      refine And.intro (fun c => ?_) (fun c => absurd (by rw [eh]; exact nI_le (Nat.le_refl _) (by omega)) c)
      exact hk_qe_of (hQ R KR fr)
    · intro j hj ih R KR fr
      have eh : R 55 5 = nI (P 3 0) := KR.1.2.1
      have eq : hf_blow P dir f j 10 j = P 10 j := if_neg (by omega)
      have hj' : j < hf_blow P dir f j 3 0 := hj
      obtain ⟨ok7, ok8, -⟩ := K.2.2.2.2.2.2 j hj
      have cs := hf_K_cs_1 K hj
      have ha : hHat (65 + j) := by unfold hHat; omega
      have tail : ∀ R, hf_K 1 (hf_up (hf_blow P dir f j) 10 j (hf_drop P f j)) R → hfc 1 R0 R → (hf_drop P f j < 25 ∨ (25 ≤ hf_drop P f j ∧ hf_drop P f j < 25 + P 2 0) ∨ hf_drop P f j = 30) → hk_wp none 0 0 hk_dft cP_blow (hk_call d) (hk_qe Q) 23 [(4, .ref (65 + j)), (3, .int (nI j)), (0, .ref 55), (1, .int (nI dir)), (2, .int (nI f))] [] (hw R X) 0 0 := by
        intro R KR fr hc
        have e4 : R (65 + j) 4 = hf_cs (hf_up (hf_blow P dir f j) 10 j (hf_drop P f j) 10 j) := (KR.1.2.2.2.2.2 j hj).2.2.2.2
        have e3 : R (65 + j) 3 = hf_cw (hf_up (hf_blow P dir f j) 10 j (hf_drop P f j) 10 j) := (KR.1.2.2.2.2.2 j hj).2.2.2.1
        have e0 : R (65 + j) 0 = nI (P 7 j) := (KR.1.2.2.2.2.2 j hj).1
        rw [hf_up_s] at e4 e3
        refine hk_run2 (hk_call_m d) 200 ?_
        refine w_recv (hHat_t ha) ?_
        refine sp_hlies (by omega) ha e4 (fun q => ?_) (fun q => ?_)
        · refine And.intro (fun c => absurd c (by decide)) (fun _ => ?_)
          refine w_recv (hHat_t ha) ?_
          refine sp_hflight (by omega) ha e0 rfl ok7 hf ?_
          refine w_recv (hHat_t ha) ?_
          have hfl := hf_flies_lt (P 7 j) ok7 f hf
          refine sp_hfly (by omega) ha (e4.trans (hf_cs_l q)) rfl rfl hdir hfl q ?_
          refine Exists.intro [0, 2, 3, 4] ?_
          rw [nI_1]
          refine hk_stop2 (hk_call_m d) (ih _ ?_ (hfc_tr fr (hfc_up (by omega))))
          have hfo := hf_fly_ok dir hdir _ hfl _ q
          rw [hf_blow_s, show hf_air P dir f j (hf_drop P f j) = hf_fly dir (hf_flies (P 7 j) f) (hf_drop P f j) from if_pos q, ← hf_up_up _ 10 j (hf_drop P f j)]
          refine hf_K_hat KR hj (by rcases hfo with z | z; exact Or.inl z; exact Or.inr (Or.inr z)) (fun a k z => ?_) ?_ ?_
          · rw [up2_n (by omega)]
          · rw [show 65 + j = 49 + 16 * 1 + j from rfl, up2_k (by decide)]
            refine (show R (49 + 16 * 1 + j) 3 = _ from e3).trans ?_
            rw [hf_cw_n (by omega), hf_cw_n (by omega)]
          · rw [show 65 + j = 49 + 16 * 1 + j from rfl, up2_s]
        · refine And.intro (fun _ => ?_) (fun c => absurd rfl c)
          refine Exists.intro [0, 2, 3, 4] ?_
          rw [nI_1]
          refine hk_stop2 (hk_call_m d) (ih R ?_ fr)
          rw [hf_blow_s, show hf_air P dir f j (hf_drop P f j) = hf_drop P f j from if_neg q]
          exact KR
      obtain ⟨e0, e1, e2, e3, e4⟩ : R (65 + j) 0 = nI (P 7 j) ∧ R (65 + j) 1 = nI (P 8 j) ∧ R (65 + j) 2 = nI (P 9 j) ∧ R (65 + j) 3 = hf_cw (hf_blow P dir f j 10 j) ∧ R (65 + j) 4 = hf_cs (hf_blow P dir f j 10 j) := KR.1.2.2.2.2.2 j hj'
      rw [eq] at e3 e4
      have keep : hf_drop P f j = P 10 j → hk_wp none 0 0 hk_dft cP_blow (hk_call d) (hk_qe Q) 23 [(4, .ref (65 + j)), (3, .int (nI j)), (0, .ref 55), (1, .int (nI dir)), (2, .int (nI f))] [] (hw R X) 0 0 := by
        intro z
        refine tail R ?_ fr (by rw [z]; exact (K.2.2.2.2.2.2 j hj).2.2.2)
        rw [z, ← eq, hf_upself]; exact KR
      refine hk_run2 (hk_call_m d) 200 ?_
      refine And.intro (fun c => absurd c (by rw [eh]; exact nI_ge hj (by omega))) (fun c => ?_)
      refine And.intro (vp_in_nI (N := 6) (by omega) (by omega)) ?_
      rw [nI_clamp (by omega)]
      refine w_recv (hHat_t ha) ?_
      refine sp_hisWorn (by omega) ha e3 (fun q => ?_) (fun q => ?_)
      · refine And.intro (fun c => absurd c (by decide)) (fun _ => ?_)
        refine w_recv (hHat_t ha) ?_
        refine sp_hfirm (by omega) ha e0 e1 ok7 ok8 ?_
        have hh := hf_holds_lt _ ok7 _ ok8
        refine And.intro (fun c2 => ?_) (fun c2 => ?_)
        · refine hk_stop2 (hk_call_m d) (keep (if_neg (fun z => absurd c2 (nI_ge z.2.2 (by omega)))))
        · have lt : hf_holds (P 7 j) (P 8 j) < f := Classical.byContradiction (fun z => c2 (nI_le (by omega) (by omega)))
          refine sp_pplaceOf_1 (by omega) KR rfl hj' ?_
          have dr : hf_drop P f j = P 5 (P 10 j - 25) := if_pos ⟨q.1, q.2, lt⟩
          have hp : P 10 j - 25 < P 2 0 := by
            rcases (K.2.2.2.2.2.2 j hj).2.2.2 with z | z | z <;> omega
          have h25 := (K.2.2.2.2.2.1 _ hp).1
          have cp : hf_cp (hf_blow P dir f j) j = nI (hf_drop P f j) := by
            unfold hf_cp
            rw [eq, if_pos q, dr]
            rfl
          rw [cp]
          refine w_recv (hHat_t ha) ?_
          refine sp_hlieIn (by omega) ha ?_
          refine w_rn (hk_stop2 (hk_call_m d) (tail _ ?_ (hfc_tr fr (hfc_tr (hfc_up (by omega)) (hfc_up (by omega)))) (Or.inl (by rw [dr]; exact h25))))
          refine hf_K_hat KR hj' (Or.inl (by rw [dr]; exact h25)) (fun a k z => ?_) ?_ ?_
          · rw [up2_n (by omega), up2_n (by omega)]
          · rw [show 65 + j = 49 + 16 * 1 + j from rfl, up2_k (by decide), up2_s, hf_cw_n (by omega)]
          · rw [show 65 + j = 49 + 16 * 1 + j from rfl, up2_s, hf_cs_l (by omega)]
      · refine And.intro (fun _ => ?_) (fun c => absurd rfl c)
        exact hk_stop2 (hk_call_m d) (keep (if_neg (fun z => q ⟨z.1, z.2.1⟩)))
  refine hk_run2 (hk_call_m d) 2 ?_
  exact L 0 (Nat.zero_le _) R0 (by rw [hf_blow_0]; exact K) hfc_rf
set_option maxHeartbeats 400000 in
theorem sp_ppassHour_1 {d : Nat} (hd : 3 < d) {R0 : Nat → Nat → Int32} {X : hk_D} {Q : hk_Q} {P : hP} (K : hf_K 1 P R0) (h200 : P 4 0 < 200) (hQ : ∀ R', hf_K 1 (hf_pass P) R' → hfc 1 R0 R' → Q none (hw R' X)) : hk_call d mP_passHour [.ref 55] (hw R0 X) Q := by
  obtain ⟨d, rfl⟩ : ∃ e, d = e + 1 := ⟨d - 1, by omega⟩
  have n6 := K.2.2.1
  have n5 := K.2.1
  have hm : P 4 0 % 24 < 24 := Nat.mod_lt _ (by decide)
  unfold hf_pass hf_hour at hQ
  have cw := K.1.2.2.2.1 _ hm
  have cb := K.2.2.2.2.1 _ hm
  generalize hg : P 4 0 % 24 = hr at hm cw cb hQ
  have L : ∀ P1, P1 2 0 = P 2 0 → P1 4 0 = P 4 0 → (∀ R', hf_K 1 (hf_up (hf_people P1 (P 2 0)) 4 0 (P 4 0 + 1)) R' → hfc 1 R0 R' → Q none (hw R' X)) → ∀ j, j ≤ P 2 0 → ∀ R, hf_K 1 (hf_people P1 j) R → hfc 1 R0 R → hk_wp none 0 0 hk_dft cP_passHour (hk_call d) (hk_qe Q) 15 [(2, .int (nI j)), (1, .int (nI hr)), (0, .ref 55)] [] (hw R X) 0 0 := by
    intro P1 z2 z4 hQ
    refine hk_for ?_ ?_
    · intro R KR fr
      have eh : R 55 4 = nI (P 2 0) := by have := KR.1.1; rw [hf_people_r (by decide) (by decide), z2] at this; exact this
      have en : R 55 6 = nI (P 4 0) := by have := KR.1.2.2.1; rw [hf_people_r (by decide) (by decide), z4] at this; exact this
      refine hk_run2 (hk_call_m d) 100 ?_
      refine And.intro (fun c => ?_) (fun c => absurd (by rw [eh]; exact nI_le (Nat.le_refl _) (by omega)) c)
      refine w_put trivial rfl rfl ?_
      rw [en, nI_1]
      refine hk_qe_of (hQ _ (hf_K_now KR (by omega) (fun a k z => up2_n z) (up2_s _ _ _ _)) (hfc_tr fr (hfc_up (by omega))))
    · intro j hj ih R KR fr
      have eh : R 55 4 = nI (P 2 0) := by have := KR.1.1; rw [hf_people_r (by decide) (by decide), z2] at this; exact this
      refine hk_run2 (hk_call_m d) 100 ?_
      refine And.intro (fun c => absurd c (by rw [eh]; exact nI_ge hj (by omega))) (fun c => ?_)
      refine sp_prunForNearest_1 (by omega) KR rfl (by rw [hf_people_r (by decide) (by decide), z2]; exact hj) (fun R' KR' fr' => ?_)
      refine Exists.intro [0, 1, 2] ?_
      rw [nI_1]
      exact hk_stop2 (hk_call_m d) (ih R' KR' (hfc_tr fr fr'))
  refine hk_run2 (hk_call_m d) 100 ?_
  refine sp_phour_1 (by omega) K ?_
  rw [hg]
  refine w_ld (j := hr) (n := 24) rfl rfl hm (by omega) rfl cw.1 ?_
  refine w_ld (j := hr) (n := 24) rfl rfl hm (by omega) rfl cw.2 ?_
  refine sp_pblow_1 (by omega) K rfl rfl cb.1 cb.2 (fun R' KR fr => ?_)
  refine w_rn (hk_stop2 (hk_call_m d) (hk_run2 (hk_call_m d) 2 ?_))
  exact L (hf_blow P (P 0 hr) (P 1 hr) (P 3 0)) rfl rfl hQ 0 (Nat.zero_le _) R' KR fr
set_option maxHeartbeats 400000 in
theorem sp_ppassHours_1 {d : Nat} (hd : 4 < d) {R0 : Nat → Nat → Int32} {X : hk_D} {Q : hk_Q} {v : Int32} {n : Nat} {P : hP} (K : hf_K 1 P R0) (ev : v = nI n) (hn : n ≤ 1000) (hQ : ∀ R', hf_K 1 (hf_hours n P) R' → hfc 1 R0 R' → Q none (hw R' X)) : hk_call d mP_passHours [.ref 55, .int v] (hw R0 X) Q := by
  obtain ⟨d, rfl⟩ : ∃ e, d = e + 1 := ⟨d - 1, by omega⟩
  subst ev
  have L : ∀ j, j ≤ n → ∀ R S, hf_K 1 S R → hf_hours (n - j) S = hf_hours n P → hfc 1 R0 R → hk_wp none 0 0 hk_dft cP_passHours (hk_call d) (hk_qe Q) 2 [(2, .int (nI j)), (0, .ref 55), (1, .int (nI n))] [] (hw R X) 0 0 := by
    refine hk_for ?_ ?_
    · intro R S KR es fr
      rw [Nat.sub_self] at es
      have es : S = hf_hours n P := es
      refine hk_run2 (hk_call_m d) 100 ?_
      refine And.intro (fun c => ?_) (fun c => absurd (nI_le (Nat.le_refl _) (by omega)) c)
      exact hk_qe_of (hQ R (by rw [← es]; exact KR) fr)
    · intro j hj ih R S KR es fr
      have en : R 55 6 = nI (S 4 0) := KR.1.2.2.1
      have n4 := KR.2.2.2.1
      rw [show n - j = (n - (j + 1)) + 1 by omega, hf_hours] at es
      refine hk_run2 (hk_call_m d) 100 ?_
      refine And.intro (fun c => absurd c (nI_ge hj (by omega))) (fun c => ?_)
      refine And.intro (fun c2 => ?_) (fun c2 => ?_)
      · rw [en] at c2
        rw [if_neg (fun z => absurd c2 (nI_ge (b := 96) z (by omega)))] at es
        exact hk_qe_of (hQ R (by rw [← es]; exact KR) fr)
      · have lt : S 4 0 < 96 := Classical.byContradiction (fun z => c2 (by rw [en]; exact nI_le (a := 96) (by omega) (by omega)))
        rw [if_pos lt] at es
        refine sp_ppassHour_1 (by omega) KR (by omega) (fun R' KR' fr' => ?_)
        refine Exists.intro [0, 1, 2] ?_
        rw [nI_1]
        exact hk_stop2 (hk_call_m d) (ih R' _ KR' es (hfc_tr fr fr'))
  refine hk_run2 (hk_call_m d) 2 ?_
  exact L 0 (Nat.zero_le _) R0 P K rfl hfc_rf
set_option maxHeartbeats 400000 in
theorem sp_pswapHats_0 {d : Nat} (hd : 1 < d) {R0 : Nat → Nat → Int32} {X : hk_D} {Q : hk_Q} {v w : Int32} {p q : Nat} {P : hP} (K : hf_K 0 P R0) (ev : v = nI p) (ew : w = nI q) (hp : p < P 2 0) (hq : q < P 2 0) (hpq : ¬ p = q) (hQ : ∀ R', hf_K 0 (hf_bow P p q (P 3 0)) R' → hfc 0 R0 R' → Q (some (.int (nI (hf_bc P p q (P 3 0))))) (hw R' X)) : hk_call d mP_swapHats [.ref 39, .int v, .int w] (hw R0 X) Q := by
  obtain ⟨d, rfl⟩ : ∃ e, d = e + 1 := ⟨d - 1, by omega⟩
  subst ev; subst ew
  have n6 := K.2.2.1
  have n5 := K.2.1
  have L : ∀ j, j ≤ P 3 0 → ∀ R, hf_K 0 (hf_bow P p q j) R → hfc 0 R0 R → hk_wp (some .int) 0 0 hk_dft cP_swapHats (hk_call d) (hk_qe Q) 4 [(4, .int (nI j)), (3, .int (nI (hf_bc P p q j))), (0, .ref 39), (1, .int (nI p)), (2, .int (nI q))] [] (hw R X) 0 0 := by
    refine hk_for ?_ ?_
    · intro R KR fr
      have eh : R 39 5 = nI (P 3 0) := KR.1.2.1
      refine hk_run2 (hk_call_m d) 100 ?_
      refine And.intro (fun c => ?_) (fun c => absurd (by rw [eh]; exact nI_le (Nat.le_refl _) (by omega)) c)
      exact hk_qe_of (hQ R KR fr)
    · intro j hj ih R KR fr
      have eh : R 39 5 = nI (P 3 0) := KR.1.2.1
      have hj' : j < hf_bow P p q j 3 0 := hj
      have ha : hHat (49 + j) := by unfold hHat; omega
      obtain ⟨e0, e1, e2, e3, e4⟩ : R (49 + j) 0 = nI (hf_bow P p q j 7 j) ∧ R (49 + j) 1 = nI (hf_bow P p q j 8 j) ∧ R (49 + j) 2 = nI (hf_bow P p q j 9 j) ∧ R (49 + j) 3 = hf_cw (hf_bow P p q j 10 j) ∧ R (49 + j) 4 = hf_cs (hf_bow P p q j 10 j) := KR.1.2.2.2.2.2 j hj'
      rw [hf_bow_at] at e3 e4
      have cs := hf_K_cs_0 K hj
      unfold hf_bc at ih
      have ch : ∀ x y, x < P 2 0 → y < P 2 0 → P 10 j = 25 + x → hf_sw p q (P 10 j) = 25 + y → hf_K 0 (hf_bow P p q (j + 1)) (up2 (up2 R (49 + j) 3 (nI y)) (49 + j) 4 (-9)) := by
        intro x y hx hy ex ey
        rw [hf_bow_s, ey]
        refine hf_K_hat KR hj' (Or.inr (Or.inl ⟨by omega, show 25 + y < 25 + P 2 0 by omega⟩)) (fun a k z => ?_) ?_ ?_
        · rw [up2_n (by omega), up2_n (by omega)]
        · rw [show 49 + j = 49 + 16 * 0 + j from rfl, up2_k (by decide), up2_s, hf_cw_w (by omega)]; congr 1; omega
        · rw [show 49 + j = 49 + 16 * 0 + j from rfl, up2_s, hf_cs_n (by omega)]
      refine hk_run2 (hk_call_m d) 200 ?_
      refine And.intro (fun c => absurd c (by rw [eh]; exact nI_ge hj (by omega))) (fun c => ?_)
      refine And.intro (vp_in_nI (N := 6) (by omega) (by omega)) ?_
      rw [nI_clamp (by omega)]
      refine w_get (hHat_t ha) (hHat_k ha).2.2.2.1 e3 ?_
      refine And.intro (fun c2 => ?_) (fun c2 => ?_)
      · have ex := (hf_cw_eq (by omega)).mp c2
        rw [if_pos (Or.inl ex)] at ih
        refine And.intro (vp_in_nI (N := 6) (by omega) (by omega)) ?_
        rw [nI_clamp (by omega)]
        refine And.intro (fun c3 => ?_) (fun c3 => absurd c2 c3)
        refine w_recv (hHat_t ha) ?_
        refine sp_hgoOn (by omega) ha ?_
        refine Exists.intro [0, 1, 3, 4, 5] ?_
        rw [nI_1, nI_1]
        exact hk_stop2 (hk_call_m d) (ih _ (ch p q hp hq ex (if_pos ex)) (hfc_tr fr (hfc_tr (hfc_up (by omega)) (hfc_up (by omega)))))
      · have nx : ¬ P 10 j = 25 + p := fun z => c2 ((hf_cw_eq (by omega)).mpr z)
        refine And.intro (fun c3 => ?_) (fun c3 => ?_)
        · have ex := (hf_cw_eq (by omega)).mp c3
          rw [if_pos (Or.inr ex)] at ih
          refine And.intro (vp_in_nI (N := 6) (by omega) (by omega)) ?_
          rw [nI_clamp (by omega)]
          refine And.intro (fun c4 => absurd c4 c2) (fun c4 => ?_)
          refine w_recv (hHat_t ha) ?_
          refine sp_hgoOn (by omega) ha ?_
          refine Exists.intro [0, 1, 3, 4, 5] ?_
          rw [nI_1, nI_1]
          exact hk_stop2 (hk_call_m d) (ih _ (ch q p hq hp ex ((if_neg nx).trans (if_pos ex))) (hfc_tr fr (hfc_tr (hfc_up (by omega)) (hfc_up (by omega)))))
        · have ny : ¬ P 10 j = 25 + q := fun z => c3 ((hf_cw_eq (by omega)).mpr z)
          rw [if_neg (by omega), Nat.add_zero] at ih
          refine Exists.intro [0, 2, 3, 4, 5] ?_
          rw [nI_1]
          refine hk_stop2 (hk_call_m d) (ih R ?_ fr)
          rw [hf_bow_s, show hf_sw p q (P 10 j) = hf_bow P p q j 10 j from ((if_neg nx).trans (if_neg ny)).trans hf_bow_at.symm, hf_upself]
          exact KR
  refine hk_run2 (hk_call_m d) 4 ?_
  exact L 0 (Nat.zero_le _) R0 (by rw [hf_bow_0]; exact K) hfc_rf
