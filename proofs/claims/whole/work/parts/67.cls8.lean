/-! THE CLASS: trials -/
theorem sp_ctryHours {d : Nat} (hd : 5 < d) {R : Nat → Nat → Int32} {X : hk_D} {Q : hk_Q} {v : Int32} {n : Nat} {P : hP} (K : hf_K 0 P R) (ev : v = nI n) (hn : n ≤ 1000) (hQ : ∀ R', hf_K 1 (hf_hours n P) R' → hfc 1 R R' → Q none (hw R' X)) : hk_call d mC_tryHours [.ref 38, .int v] (hw R X) Q := by
  obtain ⟨d, rfl⟩ : ∃ e, d = e + 1 := ⟨d - 1, by omega⟩
  refine hk_run2 (hk_call_m d) 100 ?_
  refine sp_pcopyFrom_10 (by omega) K (fun R1 K1 f1 => ?_)
  refine sp_ppassHours_1 (by omega) K1 ev hn (fun R2 K2 f2 => ?_)
  exact hk_qe_of (hQ R2 K2 (hfc_tr f1 f2))
set_option maxHeartbeats 400000 in
theorem sp_cowns {d : Nat} (hd : 6 < d) {R : Nat → Nat → Int32} {X : hk_D} {Q : hk_Q} {v w : Int32} {P : hP} (K : hf_K 0 P R) (hQ : ∀ R', hfc 1 R R' → Q (some (.int (a_owns P v w))) (hw R' X)) : hk_call d mC_owns [.ref 38, .int v, .int w] (hw R X) Q := by
  obtain ⟨d, rfl⟩ : ∃ e, d = e + 1 := ⟨d - 1, by omega⟩
  have n5 := K.2.1
  have n6 := K.2.2.1
  have n4 := K.2.2.2.1
  have c4 : R 39 4 = nI (P 2 0) := K.1.1
  have c5 : R 39 5 = nI (P 3 0) := K.1.2.1
  have c6 : R 39 6 = nI (P 4 0) := K.1.2.2.1
  unfold a_owns at hQ
  refine hk_run2 (hk_call_m d) 100 ?_
  refine sp_cisPerson (by omega) K (fun p hp ep => ?_) (fun nn => ?_)
  · refine And.intro (fun c => absurd c (by decide)) (fun _ => ?_)
    rw [ep, hxi_s hp (by omega)] at hQ
    dsimp only at hQ
    subst ep
    refine sp_cisTrial (by omega) (fun n hn en => ?_) (fun nn => ?_)
    · refine And.intro (fun c => absurd c (by decide)) (fun _ => ?_)
      rw [en, hxi_s hn (by omega)] at hQ
      dsimp only at hQ
      subst en
      refine sp_ctryHours (by omega) K rfl (by omega) (fun R1 K1 f1 => ?_)
      refine sp_pownedBy_1 (by omega) K1 rfl (by omega) ?_
      exact hk_qe_of (hQ R1 f1)
    · refine And.intro (fun _ => ?_) (fun c => absurd rfl c)
      rw [hxi_n (by omega) nn] at hQ
      exact hk_qe_of (hQ R hfc_rf)
  · refine And.intro (fun _ => ?_) (fun c => absurd rfl c)
    rw [hxi_n (by omega) nn] at hQ
    exact hk_qe_of (hQ R hfc_rf)
set_option maxHeartbeats 400000 in
theorem sp_cwhere {d : Nat} (hd : 6 < d) {R : Nat → Nat → Int32} {X : hk_D} {Q : hk_Q} {v w : Int32} {P : hP} (K : hf_K 0 P R) (hQ : ∀ R', hfc 1 R R' → Q (some (.int (a_where P v w))) (hw R' X)) : hk_call d mC_where [.ref 38, .int v, .int w] (hw R X) Q := by
  obtain ⟨d, rfl⟩ : ∃ e, d = e + 1 := ⟨d - 1, by omega⟩
  have n5 := K.2.1
  have n6 := K.2.2.1
  have n4 := K.2.2.2.1
  have c4 : R 39 4 = nI (P 2 0) := K.1.1
  have c5 : R 39 5 = nI (P 3 0) := K.1.2.1
  have c6 : R 39 6 = nI (P 4 0) := K.1.2.2.1
  unfold a_where at hQ
  refine hk_run2 (hk_call_m d) 100 ?_
  refine sp_cisHat (by omega) K (fun j hj ej => ?_) (fun nn => ?_)
  · refine And.intro (fun c => absurd c (by decide)) (fun _ => ?_)
    rw [ej, hxi_s hj (by omega)] at hQ
    dsimp only at hQ
    subst ej
    refine sp_cisTrial (by omega) (fun n hn en => ?_) (fun nn => ?_)
    · refine And.intro (fun c => absurd c (by decide)) (fun _ => ?_)
      rw [en, hxi_s hn (by omega)] at hQ
      dsimp only at hQ
      subst en
      have hj' : j < hf_hours n P 3 0 := by rw [hf_hours_r (by decide) (by decide) (by decide)]; exact hj
      refine sp_ctryHours (by omega) K rfl (by omega) (fun R1 K1 f1 => ?_)
      refine sp_pplaceOf_1 (by omega) K1 rfl hj' ?_
      rw [← hf_K_or9 K1 hj']
      exact hk_qe_of (hQ R1 f1)
    · refine And.intro (fun _ => ?_) (fun c => absurd rfl c)
      rw [hxi_n (by omega) nn] at hQ
      exact hk_qe_of (hQ R hfc_rf)
  · refine And.intro (fun _ => ?_) (fun c => absurd rfl c)
    rw [hxi_n (by omega) nn] at hQ
    exact hk_qe_of (hQ R hfc_rf)
set_option maxHeartbeats 400000 in
theorem sp_cwears {d : Nat} (hd : 6 < d) {R : Nat → Nat → Int32} {X : hk_D} {Q : hk_Q} {v w : Int32} {P : hP} (K : hf_K 0 P R) (hQ : ∀ R', hfc 1 R R' → Q (some (.int (a_wears P v w))) (hw R' X)) : hk_call d mC_wears [.ref 38, .int v, .int w] (hw R X) Q := by
  obtain ⟨d, rfl⟩ : ∃ e, d = e + 1 := ⟨d - 1, by omega⟩
  have n5 := K.2.1
  have n6 := K.2.2.1
  have n4 := K.2.2.2.1
  have c4 : R 39 4 = nI (P 2 0) := K.1.1
  have c5 : R 39 5 = nI (P 3 0) := K.1.2.1
  have c6 : R 39 6 = nI (P 4 0) := K.1.2.2.1
  unfold a_wears at hQ
  refine hk_run2 (hk_call_m d) 100 ?_
  refine sp_cisHat (by omega) K (fun j hj ej => ?_) (fun nn => ?_)
  · refine And.intro (fun c => absurd c (by decide)) (fun _ => ?_)
    rw [ej, hxi_s hj (by omega)] at hQ
    dsimp only at hQ
    subst ej
    refine sp_cisTrial (by omega) (fun n hn en => ?_) (fun nn => ?_)
    · refine And.intro (fun c => absurd c (by decide)) (fun _ => ?_)
      rw [en, hxi_s hn (by omega)] at hQ
      dsimp only at hQ
      subst en
      have hj' : j < hf_hours n P 3 0 := by rw [hf_hours_r (by decide) (by decide) (by decide)]; exact hj
      refine sp_ctryHours (by omega) K rfl (by omega) (fun R1 K1 f1 => ?_)
      have ha : hHat (65 + j) := by unfold hHat; omega
      refine And.intro (vp_in_nI (N := 6) (by omega) (by omega)) ?_
      rw [nI_clamp (by omega)]
      refine w_get (hHat_t ha) (hHat_k ha).2.2.2.1 (K1.1.2.2.2.2.2 j hj').2.2.2.1 ?_
      rw [← hf_or9_mw]
      exact hk_qe_of (hQ R1 f1)
    · refine And.intro (fun _ => ?_) (fun c => absurd rfl c)
      rw [hxi_n (by omega) nn] at hQ
      exact hk_qe_of (hQ R hfc_rf)
  · refine And.intro (fun _ => ?_) (fun c => absurd rfl c)
    rw [hxi_n (by omega) nn] at hQ
    exact hk_qe_of (hQ R hfc_rf)
def hf_cl (h : Nat) : Nat → Nat → hP → Int32
  | 0, _, _ => -3
  | k + 1, j, S => if S 10 h = 30 then nI j else hf_cl h k (j + 1) (hf_hours 1 S)
theorem hf_cl_e (h : Nat) : ∀ k j S, hf_cl h (k + 1) j S = if S 10 h = 30 then nI j else hf_lost h k (j + 1) S
  | 0, j, S => rfl
  | k + 1, j, S => by
    rw [hf_cl]
    by_cases g : S 10 h = 30
    · rw [if_pos g, if_pos g]
    · rw [if_neg g, if_neg g, hf_cl_e h k, hf_lost]
      by_cases n : S 4 0 < 96
      · rw [if_pos n, show hf_hours 1 S = hf_pass S by rw [hf_hours, if_pos n]; rfl]
      · rw [if_neg n, show hf_hours 1 S = S by rw [hf_hours, if_neg n], if_neg g]
        cases k with
        | zero => rfl
        | succ k => rw [hf_lost, if_neg n]
set_option maxHeartbeats 400000 in
theorem sp_clost {d : Nat} (hd : 6 < d) {R : Nat → Nat → Int32} {X : hk_D} {Q : hk_Q} {v : Int32} {P : hP} (K : hf_K 0 P R) (hQ : ∀ R', hfc 1 R R' → Q (some (.int (a_lost P v))) (hw R' X)) : hk_call d mC_lost [.ref 38, .int v] (hw R X) Q := by
  obtain ⟨d, rfl⟩ : ∃ e, d = e + 1 := ⟨d - 1, by omega⟩
  have n5 := K.2.1
  have n6 := K.2.2.1
  have n4 := K.2.2.2.1
  have c4 : R 39 4 = nI (P 2 0) := K.1.1
  have c5 : R 39 5 = nI (P 3 0) := K.1.2.1
  have c6 : R 39 6 = nI (P 4 0) := K.1.2.2.1
  unfold a_lost at hQ
  refine hk_run2 (hk_call_m d) 100 ?_
  refine sp_cisHat (by omega) K (fun j hj ej => ?_) (fun nn => ?_)
  · refine And.intro (fun c => absurd c (by decide)) (fun _ => ?_)
    rw [ej, hxi_s hj (by omega)] at hQ
    dsimp only at hQ
    subst ej
    have L : ∀ t, t ≤ 49 → ∀ R1 S, hf_K 1 S R1 → hfc 1 R R1 → S 3 0 = P 3 0 → (∀ R', hfc 1 R R' → Q (some (.int (hf_cl j (49 - t) t S))) (hw R' X)) → hk_wp (some .int) 0 0 hk_dft cC_lost (hk_call d) (hk_qe Q) 13 [(2, .int (nI t)), (0, .ref 38), (1, .int (nI j))] [] (hw R1 X) 0 0 := by
      refine hk_for ?_ ?_
      · intro R1 S K1 f1 e3 hQ
        refine hk_run2 (hk_call_m d) 100 ?_
        refine And.intro (fun c => ?_) (fun c => absurd (by decide) c)
        exact hk_qe_of (hQ R1 f1)
      · intro t ht ih R1 S K1 f1 e3 hQ
        rw [show 49 - t = (49 - (t + 1)) + 1 by omega, hf_cl] at hQ
        have hj' : j < S 3 0 := by rw [e3]; exact hj
        have ha : hHat (65 + j) := by unfold hHat; omega
        obtain ⟨-, -, -, e3', e4'⟩ : R1 (65 + j) 0 = nI (S 7 j) ∧ R1 (65 + j) 1 = nI (S 8 j) ∧ R1 (65 + j) 2 = nI (S 9 j) ∧ R1 (65 + j) 3 = hf_cw (S 10 j) ∧ R1 (65 + j) 4 = hf_cs (S 10 j) := K1.1.2.2.2.2.2 j hj'
        refine hk_run2 (hk_call_m d) 100 ?_
        refine And.intro (fun c => absurd c (show ¬ nI 48 < nI t from fun z => by rw [nI_ltI (by omega) (by omega)] at z; omega)) (fun c => ?_)
        refine And.intro (vp_in_nI (N := 6) (by omega) (by omega)) ?_
        rw [nI_clamp (by omega)]
        refine w_recv (hHat_t ha) ?_
        refine sp_hisGone (by omega) ha e3' e4' (hf_K_cs_1 K1 hj') (fun z => ?_) (fun z => ?_)
        · refine And.intro (fun c => absurd c (by decide)) (fun _ => ?_)
          rw [if_pos z] at hQ
          exact hk_qe_of (hQ R1 f1)
        · refine And.intro (fun _ => ?_) (fun c => absurd rfl c)
          rw [if_neg z] at hQ
          refine sp_ppassHours_1 (by omega) K1 (n := 1) rfl (by omega) (fun R2 K2 f2 => ?_)
          refine Exists.intro [0, 1, 2] ?_
          rw [nI_1]
          exact hk_stop2 (hk_call_m d) (ih R2 _ K2 (hfc_tr f1 f2) (by rw [hf_hours_r (by decide) (by decide) (by decide)]; exact e3) hQ)
    rw [show (if P 10 j = 30 then 0 else hf_lost j 48 1 P) = hf_cl j 49 0 P from (hf_cl_e j 48 0 P).symm] at hQ
    refine sp_pcopyFrom_10 (by omega) K (fun R1 K1 f1 => ?_)
    refine w_rn (hk_stop2 (hk_call_m d) (hk_run2 (hk_call_m d) 2 ?_))
    exact L 0 (by omega) R1 P K1 f1 rfl hQ
  · refine And.intro (fun _ => ?_) (fun c => absurd rfl c)
    rw [hxi_n (by omega) nn] at hQ
    exact hk_qe_of (hQ R hfc_rf)
theorem hf_mst_1 {P : hP} : ∀ {n : Nat}, 1 ≤ n → n ≤ 5 → ¬ hf_mst P n = 99
  | 0, h, _ => absurd h (by omega)
  | n + 1, _, h5 => by
    unfold hf_mst
    split
    · omega
    · rename_i h
      exact fun z => h (Or.inl z)
set_option maxHeartbeats 400000 in
theorem sp_cmaster {d : Nat} (hd : 6 < d) {R : Nat → Nat → Int32} {X : hk_D} {Q : hk_Q} {w : Int32} {P : hP} (K : hf_K 0 P R) (hQ : ∀ R', hfc 1 R R' → Q (some (.int (a_master P w))) (hw R' X)) : hk_call d mC_master [.ref 38, .int w] (hw R X) Q := by
  obtain ⟨d, rfl⟩ : ∃ e, d = e + 1 := ⟨d - 1, by omega⟩
  have n5 := K.2.1
  have n6 := K.2.2.1
  have n4 := K.2.2.2.1
  have c4 : R 39 4 = nI (P 2 0) := K.1.1
  have c5 : R 39 5 = nI (P 3 0) := K.1.2.1
  have c6 : R 39 6 = nI (P 4 0) := K.1.2.2.1
  unfold a_master at hQ
  refine hk_run2 (hk_call_m d) 100 ?_
  refine sp_cisTrial (by omega) (fun n hn en => ?_) (fun nn => ?_)
  · refine And.intro (fun c => absurd c (by decide)) (fun _ => ?_)
    rw [en, hxi_s hn (by omega)] at hQ
    dsimp only at hQ
    subst en
    refine And.intro (fun c => ?_) (fun c => ?_)
    · rw [c4] at c
      have z0 : P 2 0 = 0 := (nI_eq (b := 0) (by omega) (by omega)).mp c
      rw [z0] at hQ
      exact hk_qe_of (hQ R hfc_rf)
    · rw [c4] at c
      have z0 : 1 ≤ P 2 0 := Nat.pos_of_ne_zero (fun z => c (by rw [z]; rfl))
      refine sp_ctryHours (by omega) K rfl (by omega) (fun R1 K1 f1 => ?_)
      have e2 : hf_hours n P 2 0 = P 2 0 := hf_hours_r (by decide) (by decide) (by decide) n P
      have r4 : R1 55 4 = nI (P 2 0) := by rw [← e2]; exact K1.1.1
      have ob : ∀ t, hf_own (hf_hours n P) t < 1000 := fun t => hf_own_b (hf_hours_r (by decide) (by decide) (by decide) n P) (fun h => hf_hours_r (by decide) (by decide) (by decide) n P) K.2
      generalize hf_hours n P = S at K1 e2 ob hQ
      have L : ∀ t, t ≤ P 2 0 → 1 ≤ t → hk_wp (some .int) 0 0 hk_dft cC_master (hk_call d) (hk_qe Q) 18 [(3, .int (nI t)), (2, .int (nI (hf_mst S t))), (0, .ref 38), (1, .int (nI n))] [] (hw R1 X) 0 0 := by
        refine hk_for ?_ ?_
        · intro h1
          have mm := hf_mst_ok S (P 2 0)
          refine hk_run2 (hk_call_m d) 100 ?_
          refine And.intro (fun c => ?_) (fun c => absurd (by rw [r4]; exact nI_le (Nat.le_refl _) (by omega)) c)
          rw [show hf_b3 (hf_mst S (P 2 0)) = nI (hf_mst S (P 2 0)) from if_neg (hf_mst_1 h1 n5)] at hQ
          exact hk_qe_of (hQ R1 f1)
        · intro t ht ih h1
          have mm := hf_mst_ok S t
          have m1 := hf_mst_1 (P := S) h1 (by omega)
          refine hk_run2 (hk_call_m d) 100 ?_
          refine And.intro (fun c => absurd c (by rw [r4]; exact nI_ge ht (by omega))) (fun c => ?_)
          refine sp_pownedBy_1 (by omega) K1 rfl (by omega) ?_
          refine sp_pownedBy_1 (by omega) K1 rfl (by omega) ?_
          have ot := ob t
          have om := ob (hf_mst S t)
          have ih := ih (by omega)
          rw [hf_mst] at ih
          refine And.intro (fun c2 => ?_) (fun c2 => ?_)
          · have nl : ¬ (hf_mst S t = 99 ∨ hf_own S (hf_mst S t) < hf_own S t) := fun z => by
              rcases z with z | z
              · exact m1 z
              · exact absurd c2 (nI_ge z (by omega))
            rw [if_neg nl] at ih
            refine Exists.intro [0, 1, 2, 3] ?_
            rw [nI_1]
            exact hk_stop2 (hk_call_m d) ih
          · have yl : hf_own S (hf_mst S t) < hf_own S t := Classical.byContradiction (fun z => c2 (nI_le (by omega) (by omega)))
            rw [if_pos (Or.inr yl)] at ih
            refine Exists.intro [0, 1, 2, 3] ?_
            rw [nI_1]
            exact hk_stop2 (hk_call_m d) ih
      refine w_rn (hk_stop2 (hk_call_m d) (hk_run2 (hk_call_m d) 4 ?_))
      exact L 1 z0 (Nat.le_refl _)
  · refine And.intro (fun _ => ?_) (fun c => absurd rfl c)
    rw [hxi_n (by omega) nn] at hQ
    exact hk_qe_of (hQ R hfc_rf)
