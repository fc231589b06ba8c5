/-! THE CLASS: what a plain says of itself -/
theorem hf_cw_eq {x p : Nat} (hp : p < 5) : hf_cw x = nI p ↔ x = 25 + p := by
  by_cases h : 25 ≤ x ∧ x < 30
  · rw [hf_cw_w h, nI_eq (by omega) (by omega)]; omega
  · rw [hf_cw_n h]
    refine ⟨fun e => absurd (hn_pos (n := p) (by omega)) (by rw [← e]; exact hn_neg9), fun e => absurd ⟨by omega, by omega⟩ h⟩
/-- where a hat is, as the class says it -/
def hf_cp (P : hP) (j : Nat) : Int32 := if 25 ≤ P 10 j ∧ P 10 j < 30 then nI (P 5 (P 10 j - 25)) else hf_cs (P 10 j)
def hf_an (P : hP) : Nat → Nat → Bool
  | 0, _ => false
  | n + 1, j => Nat.blt (P 10 j) 25 || hf_an P n (j + 1)
theorem sp_pwindIn_0 {d : Nat} (hd : 0 < d) {R : Nat → Nat → Int32} {X : hk_D} {Q : hk_Q} {v : Int32} {g : Nat} {P : hP} (K : hf_K 0 P R) (ev : v = nI g) (hg : g < 24) (hQ : Q (some (.int (nI (10 * P 0 g + P 1 g)))) (hw R X)) : hk_call d mP_windIn [.ref 39, .int v] (hw R X) Q := by
  obtain ⟨d, rfl⟩ : ∃ e, d = e + 1 := ⟨d - 1, by omega⟩
  have c := K.1.2.2.2.1 g hg
  refine hk_run2 (hk_call_m d) 100 ?_
  refine w_ld (j := g) (n := 24) ev rfl hg (by omega) rfl c.1 ?_
  refine w_ld (j := g) (n := 24) ev rfl hg (by omega) rfl c.2 ?_
  rw [← hn_add, ← hn_mul] at hQ
  exact hk_qe_of hQ
theorem sp_psetWind_0 {d : Nat} (hd : 0 < d) {R : Nat → Nat → Int32} {X : hk_D} {Q : hk_Q} {v a b : Int32} {g : Nat} (ev : v = nI g) (hg : g < 24) (hQ : Q none (hw (up2 (up2 R 40 g a) 41 g b) X)) : hk_call d mP_setWind [.ref 39, .int v, .int a, .int b] (hw R X) Q := by
  obtain ⟨d, rfl⟩ : ∃ e, d = e + 1 := ⟨d - 1, by omega⟩
  refine hk_run2 (hk_call_m d) 100 ?_
  refine w_st (t := 0) (j := g) (n := 24) ev rfl hg (by omega) rfl rfl ?_
  refine w_st (t := 0) (j := g) (n := 24) ev rfl hg (by omega) rfl rfl ?_
  exact hk_qe_of hQ
theorem sp_phour_0 {d : Nat} (hd : 0 < d) {R : Nat → Nat → Int32} {X : hk_D} {Q : hk_Q} {P : hP} (K : hf_K 0 P R) (hQ : Q (some (.int (nI (P 4 0 % 24)))) (hw R X)) : hk_call d mP_hour [.ref 39] (hw R X) Q := by
  obtain ⟨d, rfl⟩ : ∃ e, d = e + 1 := ⟨d - 1, by omega⟩
  have c : R 39 6 = nI (P 4 0) := K.1.2.2.1
  have n4 := K.2.2.2.1
  refine hk_run2 (hk_call_m d) 100 ?_
  refine And.intro (by decide) ?_
  rw [c, show hk_rem (nI (P 4 0)) 24 = nI (P 4 0 % 24) from hn_rem (b := 24) (by omega) (by omega) (by omega)]
  exact hk_qe_of hQ
theorem sp_pplaceOf_0 {d : Nat} (hd : 1 < d) {R : Nat → Nat → Int32} {X : hk_D} {Q : hk_Q} {v : Int32} {j : Nat} {P : hP} (K : hf_K 0 P R) (ev : v = nI j) (hj : j < P 3 0) (hQ : Q (some (.int (hf_cp P j))) (hw R X)) : hk_call d mP_placeOf [.ref 39, .int v] (hw R X) Q := by
  obtain ⟨d, rfl⟩ : ∃ e, d = e + 1 := ⟨d - 1, by omega⟩
  subst ev
  have n6 := K.2.2.1
  have n5 := K.2.1
  have ha : hHat (49 + j) := by unfold hHat; omega
  obtain ⟨-, -, -, e3, e4⟩ : R (49 + j) 0 = _ ∧ R (49 + j) 1 = _ ∧ R (49 + j) 2 = _ ∧ R (49 + j) 3 = hf_cw (P 10 j) ∧ R (49 + j) 4 = hf_cs (P 10 j) := K.1.2.2.2.2.2 j hj
  have cs := (K.2.2.2.2.2.2 j hj).2.2.2
  unfold hf_cp at hQ
  refine hk_run2 (hk_call_m d) 100 ?_
  refine And.intro (vp_in_nI (N := 6) (by omega) (by omega)) ?_
  rw [nI_clamp (by omega)]
  refine w_recv (hHat_t ha) ?_
  refine sp_hisWorn (by omega) ha e3 (fun q => ?_) (fun q => ?_)
  · refine And.intro (fun c => absurd c (by decide)) (fun _ => ?_)
    rw [if_pos q] at hQ
    refine w_get (hHat_t ha) (hHat_k ha).2.2.2.1 (e3.trans (hf_cw_w q)) ?_
    have hp : P 10 j - 25 < P 2 0 := by omega
    have hb : hPer (44 + (P 10 j - 25)) := by unfold hPer; omega
    refine And.intro (vp_in_nI (N := 5) (by omega) (by omega)) ?_
    rw [nI_clamp (by omega)]
    refine w_get (hPer_t hb) (hPer_k hb).1 (K.1.2.2.2.2.1 _ hp).1 ?_
    exact hk_qe_of hQ
  · refine And.intro (fun _ => ?_) (fun c => absurd rfl c)
    rw [if_neg q] at hQ
    refine w_get (hHat_t ha) (hHat_k ha).2.2.2.2 e4 ?_
    exact hk_qe_of hQ
set_option maxHeartbeats 400000 in
theorem sp_pownedBy_0 {d : Nat} (hd : 0 < d) {R : Nat → Nat → Int32} {X : hk_D} {Q : hk_Q} {v : Int32} {p : Nat} {P : hP} (K : hf_K 0 P R) (ev : v = nI p) (hp : p < 5) (hQ : Q (some (.int (nI (hf_own P p)))) (hw R X)) : hk_call d mP_ownedBy [.ref 39, .int v] (hw R X) Q := by
  obtain ⟨d, rfl⟩ : ∃ e, d = e + 1 := ⟨d - 1, by omega⟩
  subst ev
  unfold hf_own at hQ
  have eh : R 39 5 = nI (P 3 0) := K.1.2.1
  have n6 := K.2.2.1
  have L : ∀ j, j ≤ P 3 0 → hk_wp (some .int) 0 0 hk_dft cP_ownedBy (hk_call d) (hk_qe Q) 4 [(3, .int (nI j)), (2, .int (nI (hf_owned P p j))), (0, .ref 39), (1, .int (nI p))] [] (hw R X) 0 0 := by
    refine hk_for ?_ ?_
    · refine hk_run2 (hk_call_m d) 100 ?_
      refine And.intro (fun c => ?_) (fun c => absurd (by rw [eh]; exact nI_le (Nat.le_refl _) (by omega)) c)
      exact hk_qe_of hQ
    · intro j hj ih
      have ha : hHat (49 + j) := by unfold hHat; omega
      obtain ⟨-, -, e2, e3, -⟩ : R (49 + j) 0 = _ ∧ R (49 + j) 1 = _ ∧ R (49 + j) 2 = nI (P 9 j) ∧ R (49 + j) 3 = hf_cw (P 10 j) ∧ R (49 + j) 4 = hf_cs (P 10 j) := K.1.2.2.2.2.2 j hj
      refine hk_run2 (hk_call_m d) 100 ?_
      refine And.intro (fun c => absurd c (by rw [eh]; exact nI_ge hj (by omega))) (fun c => ?_)
      refine And.intro (vp_in_nI (N := 6) (by omega) (by omega)) ?_
      rw [nI_clamp (by omega)]
      refine w_get (hHat_t ha) (hHat_k ha).2.2.2.1 e3 ?_
      unfold hf_owned at ih
      refine And.intro (fun c => ?_) (fun c => ?_)
      · rw [if_pos ((hf_cw_eq hp).mp c)] at ih
        refine And.intro (vp_in_nI (N := 6) (by omega) (by omega)) ?_
        rw [nI_clamp (by omega)]
        refine w_get (hHat_t ha) (hHat_k ha).2.2.1 e2 ?_
        refine Exists.intro [0, 1, 2, 3] ?_
        rw [nI_1, hn_add]
        exact hk_stop2 (hk_call_m d) ih
      · rw [if_neg (fun q => c ((hf_cw_eq hp).mpr q)), Nat.add_zero] at ih
        refine Exists.intro [0, 1, 2, 3] ?_
        rw [nI_1]
        exact hk_stop2 (hk_call_m d) ih
  refine hk_run2 (hk_call_m d) 4 ?_
  exact L 0 (Nat.zero_le _)
set_option maxHeartbeats 400000 in
theorem sp_pwornBy_0 {d : Nat} (hd : 0 < d) {R : Nat → Nat → Int32} {X : hk_D} {Q : hk_Q} {v : Int32} {p : Nat} {P : hP} (K : hf_K 0 P R) (ev : v = nI p) (hp : p < 5) (hQ : Q (some (.int (nI (hf_bits (hf_wb P p) (P 3 0))))) (hw R X)) : hk_call d mP_wornBy [.ref 39, .int v] (hw R X) Q := by
  obtain ⟨d, rfl⟩ : ∃ e, d = e + 1 := ⟨d - 1, by omega⟩
  subst ev
  have eh : R 39 5 = nI (P 3 0) := K.1.2.1
  have n6 := K.2.2.1
  have L : ∀ j, j ≤ P 3 0 → hk_wp (some .int) 0 0 hk_dft cP_wornBy (hk_call d) (hk_qe Q) 4 [(3, .int (nI j)), (2, .int (nI (hf_bits (hf_wb P p) j))), (0, .ref 39), (1, .int (nI p))] [] (hw R X) 0 0 := by
    refine hk_for ?_ ?_
    · refine hk_run2 (hk_call_m d) 100 ?_
      refine And.intro (fun c => ?_) (fun c => absurd (by rw [eh]; exact nI_le (Nat.le_refl _) (by omega)) c)
      exact hk_qe_of hQ
    · intro j hj ih
      have ha : hHat (49 + j) := by unfold hHat; omega
      obtain ⟨-, -, e2, e3, -⟩ : R (49 + j) 0 = _ ∧ R (49 + j) 1 = _ ∧ R (49 + j) 2 = nI (P 9 j) ∧ R (49 + j) 3 = hf_cw (P 10 j) ∧ R (49 + j) 4 = hf_cs (P 10 j) := K.1.2.2.2.2.2 j hj
      refine hk_run2 (hk_call_m d) 100 ?_
      refine And.intro (fun c => absurd c (by rw [eh]; exact nI_ge hj (by omega))) (fun c => ?_)
      refine And.intro (vp_in_nI (N := 6) (by omega) (by omega)) ?_
      rw [nI_clamp (by omega)]
      refine w_get (hHat_t ha) (hHat_k ha).2.2.2.1 e3 ?_
      unfold hf_bits at ih
      refine And.intro (fun c => ?_) (fun c => ?_)
      · rw [show hf_wb P p j = true from hn_beq ((hf_cw_eq hp).mp c)] at ih
        refine Exists.intro [0, 1, 2, 3] ?_
        rw [nI_1, show nI (hf_bits (hf_wb P p) j) ||| hk_shl 1 (nI j) = nI (hf_bits (hf_wb P p) j + 2 ^ j) from hf_or j (by omega) _ (hf_bits_lt _ j)]
        exact hk_stop2 (hk_call_m d) ih
      · rw [show hf_wb P p j = false from hn_nbeq (fun q => c ((hf_cw_eq hp).mpr q))] at ih
        refine Exists.intro [0, 1, 2, 3] ?_
        rw [nI_1]
        exact hk_stop2 (hk_call_m d) ih
  refine hk_run2 (hk_call_m d) 4 ?_
  exact L 0 (Nat.zero_le _)
set_option maxHeartbeats 400000 in
theorem sp_pallWorn_0 {d : Nat} (hd : 1 < d) {R : Nat → Nat → Int32} {X : hk_D} {Q : hk_Q} {P : hP} (K : hf_K 0 P R) (hQ : Q (some (.int (nI (hf_bits (hf_wa P) (P 3 0))))) (hw R X)) : hk_call d mP_allWorn [.ref 39] (hw R X) Q := by
  obtain ⟨d, rfl⟩ : ∃ e, d = e + 1 := ⟨d - 1, by omega⟩
  have eh : R 39 5 = nI (P 3 0) := K.1.2.1
  have n6 := K.2.2.1
  have L : ∀ j, j ≤ P 3 0 → hk_wp (some .int) 0 0 hk_dft cP_allWorn (hk_call d) (hk_qe Q) 4 [(2, .int (nI j)), (1, .int (nI (hf_bits (hf_wa P) j))), (0, .ref 39)] [] (hw R X) 0 0 := by
    refine hk_for ?_ ?_
    · refine hk_run2 (hk_call_m d) 100 ?_
      refine And.intro (fun c => ?_) (fun c => absurd (by rw [eh]; exact nI_le (Nat.le_refl _) (by omega)) c)
      exact hk_qe_of hQ
    · intro j hj ih
      have ha : hHat (49 + j) := by unfold hHat; omega
      obtain ⟨-, -, e2, e3, -⟩ : R (49 + j) 0 = _ ∧ R (49 + j) 1 = _ ∧ R (49 + j) 2 = nI (P 9 j) ∧ R (49 + j) 3 = hf_cw (P 10 j) ∧ R (49 + j) 4 = hf_cs (P 10 j) := K.1.2.2.2.2.2 j hj
      refine hk_run2 (hk_call_m d) 100 ?_
      refine And.intro (fun c => absurd c (by rw [eh]; exact nI_ge hj (by omega))) (fun c => ?_)
      refine And.intro (vp_in_nI (N := 6) (by omega) (by omega)) ?_
      rw [nI_clamp (by omega)]
      unfold hf_bits at ih
      refine w_recv (hHat_t ha) ?_
      refine sp_hisWorn (by omega) ha e3 (fun q => ?_) (fun q => ?_)
      · refine And.intro (fun c => absurd c (by decide)) (fun _ => ?_)
        rw [hf_wa_t q] at ih
        refine Exists.intro [0, 1, 2] ?_
        rw [nI_1, show nI (hf_bits (hf_wa P) j) ||| hk_shl 1 (nI j) = nI (hf_bits (hf_wa P) j + 2 ^ j) from hf_or j (by omega) _ (hf_bits_lt _ j)]
        exact hk_stop2 (hk_call_m d) ih
      · refine And.intro (fun _ => ?_) (fun c => absurd rfl c)
        rw [hf_wa_f q] at ih
        refine Exists.intro [0, 1, 2] ?_
        rw [nI_1]
        exact hk_stop2 (hk_call_m d) ih
  refine hk_run2 (hk_call_m d) 4 ?_
  exact L 0 (Nat.zero_le _)
theorem hf_K_cs_0 {R : Nat → Nat → Int32} {P : hP} (K : hf_K 0 P R) {j : Nat} (hj : j < P 3 0) : P 10 j < 25 ∨ (25 ≤ P 10 j ∧ P 10 j < 30) ∨ P 10 j = 30 := by
  have n5 := K.2.1
  rcases (K.2.2.2.2.2.2 j hj).2.2.2 with q | q | q
  · exact Or.inl q
  · exact Or.inr (Or.inl (by omega))
  · exact Or.inr (Or.inr q)
set_option maxHeartbeats 400000 in
theorem sp_pallGone_0 {d : Nat} (hd : 1 < d) {R : Nat → Nat → Int32} {X : hk_D} {Q : hk_Q} {P : hP} (K : hf_K 0 P R) (hQ : Q (some (.int (nI (hf_bits (hf_gb P) (P 3 0))))) (hw R X)) : hk_call d mP_allGone [.ref 39] (hw R X) Q := by
  obtain ⟨d, rfl⟩ : ∃ e, d = e + 1 := ⟨d - 1, by omega⟩
  have eh : R 39 5 = nI (P 3 0) := K.1.2.1
  have n6 := K.2.2.1
  have L : ∀ j, j ≤ P 3 0 → hk_wp (some .int) 0 0 hk_dft cP_allGone (hk_call d) (hk_qe Q) 4 [(2, .int (nI j)), (1, .int (nI (hf_bits (hf_gb P) j))), (0, .ref 39)] [] (hw R X) 0 0 := by
    refine hk_for ?_ ?_
    · refine hk_run2 (hk_call_m d) 100 ?_
      refine And.intro (fun c => ?_) (fun c => absurd (by rw [eh]; exact nI_le (Nat.le_refl _) (by omega)) c)
      exact hk_qe_of hQ
    · intro j hj ih
      have ha : hHat (49 + j) := by unfold hHat; omega
      obtain ⟨-, -, e2, e3, e4⟩ : R (49 + j) 0 = _ ∧ R (49 + j) 1 = _ ∧ R (49 + j) 2 = nI (P 9 j) ∧ R (49 + j) 3 = hf_cw (P 10 j) ∧ R (49 + j) 4 = hf_cs (P 10 j) := K.1.2.2.2.2.2 j hj
      refine hk_run2 (hk_call_m d) 100 ?_
      refine And.intro (fun c => absurd c (by rw [eh]; exact nI_ge hj (by omega))) (fun c => ?_)
      refine And.intro (vp_in_nI (N := 6) (by omega) (by omega)) ?_
      rw [nI_clamp (by omega)]
      unfold hf_bits at ih
      refine w_recv (hHat_t ha) ?_
      refine sp_hisGone (by omega) ha e3 e4 (hf_K_cs_0 K hj) (fun q => ?_) (fun q => ?_)
      · refine And.intro (fun c => absurd c (by decide)) (fun _ => ?_)
        rw [show hf_gb P j = true from hn_beq q] at ih
        refine Exists.intro [0, 1, 2] ?_
        rw [nI_1, show nI (hf_bits (hf_gb P) j) ||| hk_shl 1 (nI j) = nI (hf_bits (hf_gb P) j + 2 ^ j) from hf_or j (by omega) _ (hf_bits_lt _ j)]
        exact hk_stop2 (hk_call_m d) ih
      · refine And.intro (fun _ => ?_) (fun c => absurd rfl c)
        rw [show hf_gb P j = false from hn_nbeq q] at ih
        refine Exists.intro [0, 1, 2] ?_
        rw [nI_1]
        exact hk_stop2 (hk_call_m d) ih
  refine hk_run2 (hk_call_m d) 4 ?_
  exact L 0 (Nat.zero_le _)
theorem sp_pwindIn_1 {d : Nat} (hd : 0 < d) {R : Nat → Nat → Int32} {X : hk_D} {Q : hk_Q} {v : Int32} {g : Nat} {P : hP} (K : hf_K 1 P R) (ev : v = nI g) (hg : g < 24) (hQ : Q (some (.int (nI (10 * P 0 g + P 1 g)))) (hw R X)) : hk_call d mP_windIn [.ref 55, .int v] (hw R X) Q := by
  obtain ⟨d, rfl⟩ : ∃ e, d = e + 1 := ⟨d - 1, by omega⟩
  have c := K.1.2.2.2.1 g hg
  refine hk_run2 (hk_call_m d) 100 ?_
  refine w_ld (j := g) (n := 24) ev rfl hg (by omega) rfl c.1 ?_
  refine w_ld (j := g) (n := 24) ev rfl hg (by omega) rfl c.2 ?_
  rw [← hn_add, ← hn_mul] at hQ
  exact hk_qe_of hQ
theorem sp_psetWind_1 {d : Nat} (hd : 0 < d) {R : Nat → Nat → Int32} {X : hk_D} {Q : hk_Q} {v a b : Int32} {g : Nat} (ev : v = nI g) (hg : g < 24) (hQ : Q none (hw (up2 (up2 R 56 g a) 57 g b) X)) : hk_call d mP_setWind [.ref 55, .int v, .int a, .int b] (hw R X) Q := by
  obtain ⟨d, rfl⟩ : ∃ e, d = e + 1 := ⟨d - 1, by omega⟩
  refine hk_run2 (hk_call_m d) 100 ?_
  refine w_st (t := 0) (j := g) (n := 24) ev rfl hg (by omega) rfl rfl ?_
  refine w_st (t := 0) (j := g) (n := 24) ev rfl hg (by omega) rfl rfl ?_
  exact hk_qe_of hQ
theorem sp_phour_1 {d : Nat} (hd : 0 < d) {R : Nat → Nat → Int32} {X : hk_D} {Q : hk_Q} {P : hP} (K : hf_K 1 P R) (hQ : Q (some (.int (nI (P 4 0 % 24)))) (hw R X)) : hk_call d mP_hour [.ref 55] (hw R X) Q := by
  obtain ⟨d, rfl⟩ : ∃ e, d = e + 1 := ⟨d - 1, by omega⟩
  have c : R 55 6 = nI (P 4 0) := K.1.2.2.1
  have n4 := K.2.2.2.1
  refine hk_run2 (hk_call_m d) 100 ?_
  refine And.intro (by decide) ?_
  rw [c, show hk_rem (nI (P 4 0)) 24 = nI (P 4 0 % 24) from hn_rem (b := 24) (by omega) (by omega) (by omega)]
  exact hk_qe_of hQ
theorem sp_pplaceOf_1 {d : Nat} (hd : 1 < d) {R : Nat → Nat → Int32} {X : hk_D} {Q : hk_Q} {v : Int32} {j : Nat} {P : hP} (K : hf_K 1 P R) (ev : v = nI j) (hj : j < P 3 0) (hQ : Q (some (.int (hf_cp P j))) (hw R X)) : hk_call d mP_placeOf [.ref 55, .int v] (hw R X) Q := by
  obtain ⟨d, rfl⟩ : ∃ e, d = e + 1 := ⟨d - 1, by omega⟩
  subst ev
  have n6 := K.2.2.1
  have n5 := K.2.1
  have ha : hHat (65 + j) := by unfold hHat; omega
  obtain ⟨-, -, -, e3, e4⟩ : R (65 + j) 0 = _ ∧ R (65 + j) 1 = _ ∧ R (65 + j) 2 = _ ∧ R (65 + j) 3 = hf_cw (P 10 j) ∧ R (65 + j) 4 = hf_cs (P 10 j) := K.1.2.2.2.2.2 j hj
  have cs := (K.2.2.2.2.2.2 j hj).2.2.2
  unfold hf_cp at hQ
  refine hk_run2 (hk_call_m d) 100 ?_
  refine And.intro (vp_in_nI (N := 6) (by omega) (by omega)) ?_
  rw [nI_clamp (by omega)]
  refine w_recv (hHat_t ha) ?_
  refine sp_hisWorn (by omega) ha e3 (fun q => ?_) (fun q => ?_)
  · refine And.intro (fun c => absurd c (by decide)) (fun _ => ?_)
    rw [if_pos q] at hQ
    refine w_get (hHat_t ha) (hHat_k ha).2.2.2.1 (e3.trans (hf_cw_w q)) ?_
    have hp : P 10 j - 25 < P 2 0 := by omega
    have hb : hPer (60 + (P 10 j - 25)) := by unfold hPer; omega
    refine And.intro (vp_in_nI (N := 5) (by omega) (by omega)) ?_
    rw [nI_clamp (by omega)]
    refine w_get (hPer_t hb) (hPer_k hb).1 (K.1.2.2.2.2.1 _ hp).1 ?_
    exact hk_qe_of hQ
  · refine And.intro (fun _ => ?_) (fun c => absurd rfl c)
    rw [if_neg q] at hQ
    refine w_get (hHat_t ha) (hHat_k ha).2.2.2.2 e4 ?_
    exact hk_qe_of hQ
set_option maxHeartbeats 400000 in
theorem sp_pownedBy_1 {d : Nat} (hd : 0 < d) {R : Nat → Nat → Int32} {X : hk_D} {Q : hk_Q} {v : Int32} {p : Nat} {P : hP} (K : hf_K 1 P R) (ev : v = nI p) (hp : p < 5) (hQ : Q (some (.int (nI (hf_own P p)))) (hw R X)) : hk_call d mP_ownedBy [.ref 55, .int v] (hw R X) Q := by
  obtain ⟨d, rfl⟩ : ∃ e, d = e + 1 := ⟨d - 1, by omega⟩
  subst ev
  unfold hf_own at hQ
  have eh : R 55 5 = nI (P 3 0) := K.1.2.1
  have n6 := K.2.2.1
  have L : ∀ j, j ≤ P 3 0 → hk_wp (some .int) 0 0 hk_dft cP_ownedBy (hk_call d) (hk_qe Q) 4 [(3, .int (nI j)), (2, .int (nI (hf_owned P p j))), (0, .ref 55), (1, .int (nI p))] [] (hw R X) 0 0 := by
    refine hk_for ?_ ?_
    · refine hk_run2 (hk_call_m d) 100 ?_
      refine And.intro (fun c => ?_) (fun c => absurd (by rw [eh]; exact nI_le (Nat.le_refl _) (by omega)) c)
      exact hk_qe_of hQ
    · intro j hj ih
      have ha : hHat (65 + j) := by unfold hHat; omega
      obtain ⟨-, -, e2, e3, -⟩ : R (65 + j) 0 = _ ∧ R (65 + j) 1 = _ ∧ R (65 + j) 2 = nI (P 9 j) ∧ R (65 + j) 3 = hf_cw (P 10 j) ∧ R (65 + j) 4 = hf_cs (P 10 j) := K.1.2.2.2.2.2 j hj
      refine hk_run2 (hk_call_m d) 100 ?_
      refine And.intro (fun c => absurd c (by rw [eh]; exact nI_ge hj (by omega))) (fun c => ?_)
      refine And.intro (vp_in_nI (N := 6) (by omega) (by omega)) ?_
      rw [nI_clamp (by omega)]
      refine w_get (hHat_t ha) (hHat_k ha).2.2.2.1 e3 ?_
      unfold hf_owned at ih
      refine And.intro (fun c => ?_) (fun c => ?_)
      · rw [if_pos ((hf_cw_eq hp).mp c)] at ih
        refine And.intro (vp_in_nI (N := 6) (by omega) (by omega)) ?_
        rw [nI_clamp (by omega)]
        refine w_get (hHat_t ha) (hHat_k ha).2.2.1 e2 ?_
        refine Exists.intro [0, 1, 2, 3] ?_
        rw [nI_1, hn_add]
        exact hk_stop2 (hk_call_m d) ih
      · rw [if_neg (fun q => c ((hf_cw_eq hp).mpr q)), Nat.add_zero] at ih
        refine Exists.intro [0, 1, 2, 3] ?_
        rw [nI_1]
        exact hk_stop2 (hk_call_m d) ih
  refine hk_run2 (hk_call_m d) 4 ?_
  exact L 0 (Nat.zero_le _)
set_option maxHeartbeats 400000 in
theorem sp_pwornBy_1 {d : Nat} (hd : 0 < d) {R : Nat → Nat → Int32} {X : hk_D} {Q : hk_Q} {v : Int32} {p : Nat} {P : hP} (K : hf_K 1 P R) (ev : v = nI p) (hp : p < 5) (hQ : Q (some (.int (nI (hf_bits (hf_wb P p) (P 3 0))))) (hw R X)) : hk_call d mP_wornBy [.ref 55, .int v] (hw R X) Q := by
  obtain ⟨d, rfl⟩ : ∃ e, d = e + 1 := ⟨d - 1, by omega⟩
  subst ev
  have eh : R 55 5 = nI (P 3 0) := K.1.2.1
  have n6 := K.2.2.1
  have L : ∀ j, j ≤ P 3 0 → hk_wp (some .int) 0 0 hk_dft cP_wornBy (hk_call d) (hk_qe Q) 4 [(3, .int (nI j)), (2, .int (nI (hf_bits (hf_wb P p) j))), (0, .ref 55), (1, .int (nI p))] [] (hw R X) 0 0 := by
    refine hk_for ?_ ?_
    · refine hk_run2 (hk_call_m d) 100 ?_
      refine And.intro (fun c => ?_) (fun c => absurd (by rw [eh]; exact nI_le (Nat.le_refl _) (by omega)) c)
      exact hk_qe_of hQ
    · intro j hj ih
      have ha : hHat (65 + j) := by unfold hHat; omega
      obtain ⟨-, -, e2, e3, -⟩ : R (65 + j) 0 = _ ∧ R (65 + j) 1 = _ ∧ R (65 + j) 2 = nI (P 9 j) ∧ R (65 + j) 3 = hf_cw (P 10 j) ∧ R (65 + j) 4 = hf_cs (P 10 j) := K.1.2.2.2.2.2 j hj
      refine hk_run2 (hk_call_m d) 100 ?_
      refine And.intro (fun c => absurd c (by rw [eh]; exact nI_ge hj (by omega))) (fun c => ?_)
      refine And.intro (vp_in_nI (N := 6) (by omega) (by omega)) ?_
      rw [nI_clamp (by omega)]
      refine w_get (hHat_t ha) (hHat_k ha).2.2.2.1 e3 ?_
      unfold hf_bits at ih
      refine And.intro (fun c => ?_) (fun c => ?_)
      · rw [show hf_wb P p j = true from hn_beq ((hf_cw_eq hp).mp c)] at ih
        refine Exists.intro [0, 1, 2, 3] ?_
        rw [nI_1, show nI (hf_bits (hf_wb P p) j) ||| hk_shl 1 (nI j) = nI (hf_bits (hf_wb P p) j + 2 ^ j) from hf_or j (by omega) _ (hf_bits_lt _ j)]
        exact hk_stop2 (hk_call_m d) ih
      · rw [show hf_wb P p j = false from hn_nbeq (fun q => c ((hf_cw_eq hp).mpr q))] at ih
        refine Exists.intro [0, 1, 2, 3] ?_
        rw [nI_1]
        exact hk_stop2 (hk_call_m d) ih
  refine hk_run2 (hk_call_m d) 4 ?_
  exact L 0 (Nat.zero_le _)
set_option maxHeartbeats 400000 in
theorem sp_pallWorn_1 {d : Nat} (hd : 1 < d) {R : Nat → Nat → Int32} {X : hk_D} {Q : hk_Q} {P : hP} (K : hf_K 1 P R) (hQ : Q (some (.int (nI (hf_bits (hf_wa P) (P 3 0))))) (hw R X)) : hk_call d mP_allWorn [.ref 55] (hw R X) Q := by
  obtain ⟨d, rfl⟩ : ∃ e, d = e + 1 := ⟨d - 1, by omega⟩
  have eh : R 55 5 = nI (P 3 0) := K.1.2.1
  have n6 := K.2.2.1
  have L : ∀ j, j ≤ P 3 0 → hk_wp (some .int) 0 0 hk_dft cP_allWorn (hk_call d) (hk_qe Q) 4 [(2, .int (nI j)), (1, .int (nI (hf_bits (hf_wa P) j))), (0, .ref 55)] [] (hw R X) 0 0 := by
    refine hk_for ?_ ?_
    · refine hk_run2 (hk_call_m d) 100 ?_
      refine And.intro (fun c => ?_) (fun c => absurd (by rw [eh]; exact nI_le (Nat.le_refl _) (by omega)) c)
      exact hk_qe_of hQ
    · intro j hj ih
      have ha : hHat (65 + j) := by unfold hHat; omega
      obtain ⟨-, -, e2, e3, -⟩ : R (65 + j) 0 = _ ∧ R (65 + j) 1 = _ ∧ R (65 + j) 2 = nI (P 9 j) ∧ R (65 + j) 3 = hf_cw (P 10 j) ∧ R (65 + j) 4 = hf_cs (P 10 j) := K.1.2.2.2.2.2 j hj
      refine hk_run2 (hk_call_m d) 100 ?_
      refine And.intro (fun c => absurd c (by rw [eh]; exact nI_ge hj (by omega))) (fun c => ?_)
      refine And.intro (vp_in_nI (N := 6) (by omega) (by omega)) ?_
      rw [nI_clamp (by omega)]
      unfold hf_bits at ih
      refine w_recv (hHat_t ha) ?_
      refine sp_hisWorn (by omega) ha e3 (fun q => ?_) (fun q => ?_)
      · refine And.intro (fun c => absurd c (by decide)) (fun _ => ?_)
        rw [hf_wa_t q] at ih
        refine Exists.intro [0, 1, 2] ?_
        rw [nI_1, show nI (hf_bits (hf_wa P) j) ||| hk_shl 1 (nI j) = nI (hf_bits (hf_wa P) j + 2 ^ j) from hf_or j (by omega) _ (hf_bits_lt _ j)]
        exact hk_stop2 (hk_call_m d) ih
      · refine And.intro (fun _ => ?_) (fun c => absurd rfl c)
        rw [hf_wa_f q] at ih
        refine Exists.intro [0, 1, 2] ?_
        rw [nI_1]
        exact hk_stop2 (hk_call_m d) ih
  refine hk_run2 (hk_call_m d) 4 ?_
  exact L 0 (Nat.zero_le _)
theorem hf_K_cs_1 {R : Nat → Nat → Int32} {P : hP} (K : hf_K 1 P R) {j : Nat} (hj : j < P 3 0) : P 10 j < 25 ∨ (25 ≤ P 10 j ∧ P 10 j < 30) ∨ P 10 j = 30 := by
  have n5 := K.2.1
  rcases (K.2.2.2.2.2.2 j hj).2.2.2 with q | q | q
  · exact Or.inl q
  · exact Or.inr (Or.inl (by omega))
  · exact Or.inr (Or.inr q)
set_option maxHeartbeats 400000 in
theorem sp_pallGone_1 {d : Nat} (hd : 1 < d) {R : Nat → Nat → Int32} {X : hk_D} {Q : hk_Q} {P : hP} (K : hf_K 1 P R) (hQ : Q (some (.int (nI (hf_bits (hf_gb P) (P 3 0))))) (hw R X)) : hk_call d mP_allGone [.ref 55] (hw R X) Q := by
  obtain ⟨d, rfl⟩ : ∃ e, d = e + 1 := ⟨d - 1, by omega⟩
  have eh : R 55 5 = nI (P 3 0) := K.1.2.1
  have n6 := K.2.2.1
  have L : ∀ j, j ≤ P 3 0 → hk_wp (some .int) 0 0 hk_dft cP_allGone (hk_call d) (hk_qe Q) 4 [(2, .int (nI j)), (1, .int (nI (hf_bits (hf_gb P) j))), (0, .ref 55)] [] (hw R X) 0 0 := by
    refine hk_for ?_ ?_
    · refine hk_run2 (hk_call_m d) 100 ?_
      refine And.intro (fun c => ?_) (fun c => absurd (by rw [eh]; exact nI_le (Nat.le_refl _) (by omega)) c)
      exact hk_qe_of hQ
    · intro j hj ih
      have ha : hHat (65 + j) := by unfold hHat; omega
      obtain ⟨-, -, e2, e3, e4⟩ : R (65 + j) 0 = _ ∧ R (65 + j) 1 = _ ∧ R (65 + j) 2 = nI (P 9 j) ∧ R (65 + j) 3 = hf_cw (P 10 j) ∧ R (65 + j) 4 = hf_cs (P 10 j) := K.1.2.2.2.2.2 j hj
      refine hk_run2 (hk_call_m d) 100 ?_
      refine And.intro (fun c => absurd c (by rw [eh]; exact nI_ge hj (by omega))) (fun c => ?_)
      refine And.intro (vp_in_nI (N := 6) (by omega) (by omega)) ?_
      rw [nI_clamp (by omega)]
      unfold hf_bits at ih
      refine w_recv (hHat_t ha) ?_
      refine sp_hisGone (by omega) ha e3 e4 (hf_K_cs_1 K hj) (fun q => ?_) (fun q => ?_)
      · refine And.intro (fun c => absurd c (by decide)) (fun _ => ?_)
        rw [show hf_gb P j = true from hn_beq q] at ih
        refine Exists.intro [0, 1, 2] ?_
        rw [nI_1, show nI (hf_bits (hf_gb P) j) ||| hk_shl 1 (nI j) = nI (hf_bits (hf_gb P) j + 2 ^ j) from hf_or j (by omega) _ (hf_bits_lt _ j)]
        exact hk_stop2 (hk_call_m d) ih
      · refine And.intro (fun _ => ?_) (fun c => absurd rfl c)
        rw [show hf_gb P j = false from hn_nbeq q] at ih
        refine Exists.intro [0, 1, 2] ?_
        rw [nI_1]
        exact hk_stop2 (hk_call_m d) ih
  refine hk_run2 (hk_call_m d) 4 ?_
  exact L 0 (Nat.zero_le _)
set_option maxHeartbeats 400000 in
theorem sp_panyLies_1 {d : Nat} (hd : 1 < d) {R : Nat → Nat → Int32} {X : hk_D} {Q : hk_Q} {P : hP} (K : hf_K 1 P R) (h1 : (∃ j, j < P 3 0 ∧ P 10 j < 25) → Q (some (.int 1)) (hw R X)) (h0 : (∀ j, j < P 3 0 → ¬ P 10 j < 25) → Q (some (.int 0)) (hw R X)) : hk_call d mP_anyLies [.ref 55] (hw R X) Q := by
  obtain ⟨d, rfl⟩ : ∃ e, d = e + 1 := ⟨d - 1, by omega⟩
  have eh : R 55 5 = nI (P 3 0) := K.1.2.1
  have n6 := K.2.2.1
  have L : ∀ j, j ≤ P 3 0 → (∀ i, i < j → ¬ P 10 i < 25) → hk_wp (some .boolean) 0 0 hk_dft cP_anyLies (hk_call d) (hk_qe Q) 2 [(1, .int (nI j)), (0, .ref 55)] [] (hw R X) 0 0 := by
    refine hk_for ?_ ?_
    · intro hn
      refine hk_run2 (hk_call_m d) 100 ?_
      refine And.intro (fun c => ?_) (fun c => absurd (by rw [eh]; exact nI_le (Nat.le_refl _) (by omega)) c)
      exact And.intro (by decide) (hk_qe_of (h0 hn))
    · intro j hj ih hn
      have ha : hHat (65 + j) := by unfold hHat; omega
      obtain ⟨-, -, e2, e3, e4⟩ : R (65 + j) 0 = _ ∧ R (65 + j) 1 = _ ∧ R (65 + j) 2 = nI (P 9 j) ∧ R (65 + j) 3 = hf_cw (P 10 j) ∧ R (65 + j) 4 = hf_cs (P 10 j) := K.1.2.2.2.2.2 j hj
      refine hk_run2 (hk_call_m d) 100 ?_
      refine And.intro (fun c => absurd c (by rw [eh]; exact nI_ge hj (by omega))) (fun c => ?_)
      refine And.intro (vp_in_nI (N := 6) (by omega) (by omega)) ?_
      rw [nI_clamp (by omega)]
      refine w_recv (hHat_t ha) ?_
      refine sp_hlies (by omega) ha e4 (fun q => ?_) (fun q => ?_)
      · refine And.intro (fun c => absurd c (by decide)) (fun _ => ?_)
        exact And.intro (by decide) (hk_qe_of (h1 ⟨j, hj, q⟩))
      · refine And.intro (fun _ => ?_) (fun c => absurd rfl c)
        refine Exists.intro [0, 1] ?_
        rw [nI_1]
        exact hk_stop2 (hk_call_m d) (ih (fun i hi => if e : i = j then by rw [e]; exact q else hn i (by omega)))
  refine hk_run2 (hk_call_m d) 2 ?_
  exact L 0 (Nat.zero_le _) (fun i hi => absurd hi (Nat.not_lt_zero i))
