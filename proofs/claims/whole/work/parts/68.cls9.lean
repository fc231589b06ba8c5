/-! THE CLASS: what would be best -/
set_option maxHeartbeats 400000 in
theorem sp_cbestFor {d : Nat} (hd : 5 < d) {R : Nat → Nat → Int32} {X : hk_D} {Q : hk_Q} {c x : Int32} {p n m : Nat} {P : hP} (ex : x = nI m) (G : Nat → hP) (K : hf_K 0 P R) (hp : p < P 2 0) (hn : n ≤ 1000) (hm : m ≤ 1000) (hF : ∀ t, hf_own (hf_hours n (G t)) p < 1000)
    (hG : ∀ t, t < m → ∀ R1, hf_K 1 P R1 → ∀ Q' : hk_Q, (∀ R', hf_K 1 (G t) R' → hfc 1 R1 R' → Q' none (hw R' X)) → hk_call d mC_changeTrial [.ref 38, .int c, .int (nI p), .int (nI t)] (hw R1 X) Q')
    (hQ : ∀ R', hfc 1 R R' → Q (some (.int (hf_bx (fun t => hf_own (hf_hours n (G t)) p) 0 m))) (hw R' X)) : hk_call (d + 1) mC_bestFor [.ref 38, .int (nI p), .int (nI n),   .int c, .int x] (hw R X) Q := by
  subst ex
  have n5 := K.2.1
  generalize eF : (fun t => hf_own (hf_hours n (G t)) p) = F at hQ
  have hF' : ∀ t, F t < 1000 := fun t => by rw [← eF]; exact hF t
  have L : ∀ t, t ≤ m → ∀ R1, hfc 1 R R1 → hk_wp (some .int) 0 0 hk_dft cC_bestFor (hk_call d) (hk_qe Q) 6 [(7, .int (nI t)), (6, .int (nI (hf_bv F t) - 1)), (5, .int (hf_bx F 0 t)), (0, .ref 38), (1, .int (nI p)), (2, .int (nI n)), (3, .int c), (4, .int (nI m))] [] (hw R1 X) 0 0 := by
    refine hk_for ?_ ?_
    · intro R1 f1
      refine hk_run2 (hk_call_m d) 100 ?_
      refine And.intro (fun c => ?_) (fun c => absurd (nI_le (Nat.le_refl _) (by omega)) c)
      exact hk_qe_of (hQ R1 f1)
    · intro t ht ih R1 f1
      have K0 : hf_K 0 P R1 := hf_K_fr K (fun a k z => f1 a k (by omega))
      refine hk_run2 (hk_call_m d) 100 ?_
      refine And.intro (fun c => absurd c (nI_ge ht (by omega))) (fun c => ?_)
      refine sp_pcopyFrom_10 (by omega) K0 (fun R2 K2 f2 => ?_)
      refine hG t ht R2 K2 _ (fun R3 K3 f3 => ?_)
      refine sp_ppassHours_1 (by omega) K3 rfl hn (fun R4 K4 f4 => ?_)
      refine sp_pownedBy_1 (by omega) K4 rfl (by omega) ?_
      rw [show hf_own (hf_hours n (G t)) p = F t by rw [← eF]]
      have fr : hfc 1 R R4 := hfc_tr f1 (hfc_tr f2 (hfc_tr f3 f4))
      refine And.intro (fun c2 => ?_) (fun c2 => ?_)
      · have nt : ¬ hf_bv F t < F t + 1 := by have := (hf_bv_i hF' t).mp c2; omega
        have ih := ih R4 fr
        rw [hf_bv_f nt, hf_bx, if_neg nt] at ih
        refine Exists.intro [0, 2, 3, 4, 5, 6, 7, 8] ?_
        rw [nI_1]
        exact hk_stop2 (hk_call_m d) ih
      · have yt : hf_bv F t < F t + 1 := Classical.byContradiction (fun z => c2 ((hf_bv_i hF' t).mpr (by omega)))
        have ih := ih R4 fr
        rw [hf_bv_t yt, hf_bx, if_pos yt] at ih
        refine Exists.intro [0, 2, 1, 4, 5, 6, 7, 8] ?_
        rw [nI_1]
        exact hk_stop2 (hk_call_m d) ih
  refine hk_run2 (hk_call_m d) 6 ?_
  exact L 0 (Nat.zero_le _) R hfc_rf
set_option maxHeartbeats 400000 in
theorem sp_cchange0 {d : Nat} (hd : 1 < d) {R : Nat → Nat → Int32} {X : hk_D} {Q : hk_Q} {p t : Nat} {P : hP} (K : hf_K 1 P R) (ht : t < 40) (hQ : ∀ R', hf_K 1 (hf_w P (P 4 0 % 24) (t / 10) (t % 10)) R' → hfc 1 R R' → Q none (hw R' X)) : hk_call d mC_changeTrial [.ref 38, .int 0, .int (nI p), .int (nI t)] (hw R X) Q := by
  obtain ⟨d, rfl⟩ : ∃ e, d = e + 1 := ⟨d - 1, by omega⟩
  have hm : P 4 0 % 24 < 24 := Nat.mod_lt _ (by decide)
  refine hk_run2 (hk_call_m d) 100 ?_
  refine And.intro (fun _ => ?_) (fun c => absurd rfl c)
  refine sp_phour_1 (by omega) K ?_
  refine And.intro (by decide) (And.intro (by decide) ?_)
  refine sp_psetWind_1 (by omega) rfl hm ?_
  rw [show nI t / 10 = nI (t / 10) from hn_div (b := 10) (by omega) (by omega) (by omega), show hk_rem (nI t) 10 = nI (t % 10) from hn_rem (b := 10) (by omega) (by omega) (by omega)]
  exact hk_qe_of (hQ _ (hf_K_wind K (by omega) (by omega)) (hfc_tr (hfc_up (by omega)) (hfc_up (by omega))))
set_option maxHeartbeats 400000 in
theorem sp_cchange1 {d : Nat} (hd : 1 < d) {R : Nat → Nat → Int32} {X : hk_D} {Q : hk_Q} {p t : Nat} {P : hP} (K : hf_K 1 P R) (hp : p < P 2 0) (ht : t < 25) (hQ : ∀ R', hf_K 1 (hf_up P 5 p t) R' → hfc 1 R R' → Q none (hw R' X)) : hk_call d mC_changeTrial [.ref 38, .int 1, .int (nI p), .int (nI t)] (hw R X) Q := by
  obtain ⟨d, rfl⟩ : ∃ e, d = e + 1 := ⟨d - 1, by omega⟩
  have n5 := K.2.1
  have hb : hPer (60 + p) := by unfold hPer; omega
  refine hk_run2 (hk_call_m d) 100 ?_
  refine And.intro (fun c => absurd c (by decide)) (fun _ => ?_)
  refine And.intro (fun _ => ?_) (fun c => absurd rfl c)
  refine And.intro (vp_in_nI (N := 5) (by omega) (by omega)) ?_
  rw [nI_clamp (by omega)]
  refine w_puta (hPer_t hb) (hPer_38 hb) (hPer_k hb).1 trivial ?_
  exact hk_qe_of (hQ _ (hf_K_place K hp ht (fun a k z => up2_n z) (up2_s _ _ _ _)) (hfc_up (by omega)))
set_option maxHeartbeats 400000 in
theorem sp_cchange2 {d : Nat} (hd : 1 < d) {R : Nat → Nat → Int32} {X : hk_D} {Q : hk_Q} {p t : Nat} {P : hP} (K : hf_K 1 P R) (ht : t < P 3 0) (hQ : ∀ R', hf_K 1 (hf_k P t 3 9) R' → hfc 1 R R' → Q none (hw R' X)) : hk_call d mC_changeTrial [.ref 38, .int 2, .int (nI p), .int (nI t)] (hw R X) Q := by
  obtain ⟨d, rfl⟩ : ∃ e, d = e + 1 := ⟨d - 1, by omega⟩
  have n6 := K.2.2.1
  have hb : hHat (65 + t) := by unfold hHat; omega
  refine hk_run2 (hk_call_m d) 100 ?_
  refine And.intro (fun c => absurd c (by decide)) (fun _ => ?_)
  refine And.intro (fun c => absurd c (by decide)) (fun _ => ?_)
  refine And.intro (fun _ => ?_) (fun c => absurd rfl c)
  refine And.intro (vp_in_nI (N := 6) (by omega) (by omega)) ?_
  rw [nI_clamp (by omega)]
  refine w_recv (hHat_t hb) ?_
  refine sp_hbecome (by omega) hb ?_
  exact hk_qe_of (hQ _ (hf_K_k K ht (by omega) (by omega)) (hfc_tr (hfc_up (by omega)) (hfc_up (by omega))))
theorem hf_bx_b (F : Nat → Nat) (b b' : Int32) : ∀ n, hf_bx F b (n + 1) = hf_bx F b' (n + 1)
  | 0 => by
    have : hf_bv F 0 < F 0 + 1 := Nat.succ_pos _
    show (if hf_bv F 0 < F 0 + 1 then nI 0 else b) = (if hf_bv F 0 < F 0 + 1 then nI 0 else b')
    rw [if_pos this, if_pos this]
  | n + 1 => by
    rw [hf_bx, hf_bx_b F b b' n]
    conv => rhs; rw [hf_bx]
set_option maxHeartbeats 400000 in
theorem sp_cwish {d : Nat} (hd : 7 < d) {R : Nat → Nat → Int32} {X : hk_D} {Q : hk_Q} {v w : Int32} {P : hP} (K : hf_K 0 P R) (h96 : P 4 0 ≤ 96) (hQ : ∀ R', hfc 1 R R' → Q (some (.int (a_wish P v w))) (hw R' X)) : hk_call d mC_wish [.ref 38, .int v, .int w] (hw R X) Q := by
  obtain ⟨d, rfl⟩ : ∃ e, d = e + 1 := ⟨d - 1, by omega⟩
  have n5 := K.2.1
  have n6 := K.2.2.1
  have n4 := K.2.2.2.1
  have c4 : R 39 4 = nI (P 2 0) := K.1.1
  have c5 : R 39 5 = nI (P 3 0) := K.1.2.1
  have c6 : R 39 6 = nI (P 4 0) := K.1.2.2.1
  unfold a_wish at hQ
  refine hk_run2 (hk_call_m d) 100 ?_
  refine sp_cisPerson (by omega) K (fun p hp ep => ?_) (fun nn => ?_)
  · refine And.intro (fun c => absurd c (by decide)) (fun _ => ?_)
    rw [ep, hxi_s hp (by omega)] at hQ
    dsimp only at hQ
    subst ep
    refine sp_cisPlan (by omega) (fun n h1 hn en => ?_) (fun nn => ?_)
    · refine And.intro (fun c => absurd c (by decide)) (fun _ => ?_)
      rw [en, hxi_s hn (by omega)] at hQ
      dsimp only at hQ
      subst en
      rw [if_neg (show ¬ n = 0 by omega)] at hQ
      refine And.intro (fun c => ?_) (fun c => ?_)
      · rw [c6] at c
        have lt : P 4 0 < 96 := (nI_ltI (b := 96) (by omega) (by omega)).mp c
        rw [if_neg (by omega)] at hQ
        obtain ⟨d, rfl⟩ : ∃ e, d = e + 1 := ⟨d - 1, by omega⟩
        refine sp_cbestFor (by omega) (m := 40) rfl (fun t => hf_w P (P 4 0 % 24) (t / 10) (t % 10)) K hp (by omega) (by omega) (fun t => ?_) (fun t ht R1 K1 Q' hQ' => sp_cchange0 (by omega) K1 ht hQ') (fun R' fr => ?_)
        · exact hf_own_b (P := P) ((hf_hours_r (by decide) (by decide) (by decide) n _).trans rfl) (fun h => (hf_hours_r (by decide) (by decide) (by decide) n _).trans rfl) K.2
        · exact hk_qe_of (hQ R' fr)
      · rw [c6] at c
        have ge : P 4 0 = 96 := Classical.byContradiction (fun z => c ((nI_ltI (b := 96) (by omega) (by omega)).mpr (by omega)))
        rw [if_pos ge] at hQ
        exact hk_qe_of (hQ R hfc_rf)
    · refine And.intro (fun _ => ?_) (fun c => absurd rfl c)
      cases q : hxi 13 w with
      | none => rw [q] at hQ; exact hk_qe_of (hQ R hfc_rf)
      | some n =>
        have z := hxi_e (by omega) q
        by_cases h0 : n = 0
        · rw [q] at hQ; dsimp only at hQ; rw [if_pos h0] at hQ; exact hk_qe_of (hQ R hfc_rf)
        · exact absurd z.2 (nn n (by omega) z.1)
  · refine And.intro (fun _ => ?_) (fun c => absurd rfl c)
    rw [hxi_n (by omega) nn] at hQ
    exact hk_qe_of (hQ R hfc_rf)
set_option maxHeartbeats 400000 in
theorem sp_cstart {d : Nat} (hd : 7 < d) {R : Nat → Nat → Int32} {X : hk_D} {Q : hk_Q} {v w : Int32} {P : hP} (K : hf_K 0 P R) (h96 : P 4 0 ≤ 96) (hQ : ∀ R', hfc 1 R R' → Q (some (.int (a_start P v w))) (hw R' X)) : hk_call d mC_start [.ref 38, .int v, .int w] (hw R X) Q := by
  obtain ⟨d, rfl⟩ : ∃ e, d = e + 1 := ⟨d - 1, by omega⟩
  have n5 := K.2.1
  have n6 := K.2.2.1
  have n4 := K.2.2.2.1
  have c4 : R 39 4 = nI (P 2 0) := K.1.1
  have c5 : R 39 5 = nI (P 3 0) := K.1.2.1
  have c6 : R 39 6 = nI (P 4 0) := K.1.2.2.1
  unfold a_start at hQ
  refine hk_run2 (hk_call_m d) 100 ?_
  refine sp_cisPerson (by omega) K (fun p hp ep => ?_) (fun nn => ?_)
  · refine And.intro (fun c => absurd c (by decide)) (fun _ => ?_)
    rw [ep, hxi_s hp (by omega)] at hQ
    dsimp only at hQ
    subst ep
    refine sp_cisPlan (by omega) (fun n h1 hn en => ?_) (fun nn => ?_)
    · refine And.intro (fun c => absurd c (by decide)) (fun _ => ?_)
      rw [en, hxi_s hn (by omega)] at hQ
      dsimp only at hQ
      subst en
      rw [if_neg (show ¬ n = 0 by omega)] at hQ
      obtain ⟨d, rfl⟩ : ∃ e, d = e + 1 := ⟨d - 1, by omega⟩
      refine sp_cbestFor (by omega) (m := 25) rfl (fun t => hf_up P 5 p t) K hp (by omega) (by omega) (fun t => ?_) (fun t ht R1 K1 Q' hQ' => sp_cchange1 (by omega) K1 hp ht hQ') (fun R' fr => ?_)
      · exact hf_own_b (P := P) ((hf_hours_r (by decide) (by decide) (by decide) n _).trans rfl) (fun h => (hf_hours_r (by decide) (by decide) (by decide) n _).trans rfl) K.2
      · exact hk_qe_of (hQ R' fr)
    · refine And.intro (fun _ => ?_) (fun c => absurd rfl c)
      cases q : hxi 13 w with
      | none => rw [q] at hQ; exact hk_qe_of (hQ R hfc_rf)
      | some n =>
        have z := hxi_e (by omega) q
        by_cases h0 : n = 0
        · rw [q] at hQ; dsimp only at hQ; rw [if_pos h0] at hQ; exact hk_qe_of (hQ R hfc_rf)
        · exact absurd z.2 (nn n (by omega) z.1)
  · refine And.intro (fun _ => ?_) (fun c => absurd rfl c)
    rw [hxi_n (by omega) nn] at hQ
    exact hk_qe_of (hQ R hfc_rf)
set_option maxHeartbeats 400000 in
theorem sp_ctie {d : Nat} (hd : 7 < d) {R : Nat → Nat → Int32} {X : hk_D} {Q : hk_Q} {v w : Int32} {P : hP} (K : hf_K 0 P R) (h96 : P 4 0 ≤ 96) (hQ : ∀ R', hfc 1 R R' → Q (some (.int (a_tie P v w))) (hw R' X)) : hk_call d mC_tie [.ref 38, .int v, .int w] (hw R X) Q := by
  obtain ⟨d, rfl⟩ : ∃ e, d = e + 1 := ⟨d - 1, by omega⟩
  have n5 := K.2.1
  have n6 := K.2.2.1
  have n4 := K.2.2.2.1
  have c4 : R 39 4 = nI (P 2 0) := K.1.1
  have c5 : R 39 5 = nI (P 3 0) := K.1.2.1
  have c6 : R 39 6 = nI (P 4 0) := K.1.2.2.1
  unfold a_tie at hQ
  refine hk_run2 (hk_call_m d) 100 ?_
  refine sp_cisPerson (by omega) K (fun p hp ep => ?_) (fun nn => ?_)
  · refine And.intro (fun c => absurd c (by decide)) (fun _ => ?_)
    rw [ep, hxi_s hp (by omega)] at hQ
    dsimp only at hQ
    subst ep
    refine sp_cisPlan (by omega) (fun n h1 hn en => ?_) (fun nn => ?_)
    · refine And.intro (fun c => absurd c (by decide)) (fun _ => ?_)
      rw [en, hxi_s hn (by omega)] at hQ
      dsimp only at hQ
      subst en
      rw [if_neg (show ¬ n = 0 by omega)] at hQ
      refine And.intro (fun c => ?_) (fun c => ?_)
      · rw [c5] at c
        have z0 : P 3 0 = 0 := (nI_eq (b := 0) (by omega) (by omega)).mp c
        rw [z0] at hQ
        exact hk_qe_of (hQ R hfc_rf)
      · rw [c5] at c
        have nz : P 3 0 ≠ 0 := fun z => c (by rw [z]; rfl)
        obtain ⟨m, em⟩ : ∃ m, P 3 0 = m + 1 := ⟨P 3 0 - 1, by omega⟩
        rw [em, hf_bx_b _ (-3) 0 m, ← em] at hQ
        obtain ⟨d, rfl⟩ : ∃ e, d = e + 1 := ⟨d - 1, by omega⟩
        refine sp_cbestFor (by omega) (m := P 3 0) c5 (fun t => hf_k P t 3 9) K hp (by omega) (by omega) (fun t => ?_) (fun t ht R1 K1 Q' hQ' => sp_cchange2 (by omega) K1 ht hQ') (fun R' fr => ?_)
        · exact hf_own_b (P := P) ((hf_hours_r (by decide) (by decide) (by decide) n _).trans rfl) (fun h => (hf_hours_r (by decide) (by decide) (by decide) n _).trans rfl) K.2
        · exact hk_qe_of (hQ R' fr)
    · refine And.intro (fun _ => ?_) (fun c => absurd rfl c)
      cases q : hxi 13 w with
      | none => rw [q] at hQ; exact hk_qe_of (hQ R hfc_rf)
      | some n =>
        have z := hxi_e (by omega) q
        by_cases h0 : n = 0
        · rw [q] at hQ; dsimp only at hQ; rw [if_pos h0] at hQ; exact hk_qe_of (hQ R hfc_rf)
        · exact absurd z.2 (nn n (by omega) z.1)
  · refine And.intro (fun _ => ?_) (fun c => absurd rfl c)
    rw [hxi_n (by omega) nn] at hQ
    exact hk_qe_of (hQ R hfc_rf)
def hf_z (P : hP) : hP := fun r j => if r < 2 then 0 else P r j
theorem hf_z_up {P : hP} {r j v : Nat} (h : ¬ r < 2) : hf_z (hf_up P r j v) = hf_up (hf_z P) r j v := by
  funext r' j'
  show (if r' < 2 then 0 else if r' = r ∧ j' = j then v else P r' j') = if r' = r ∧ j' = j then v else (if r' < 2 then 0 else P r' j')
  by_cases z : r' < 2
  · rw [if_pos z, if_neg (by omega), if_pos z]
  · rw [if_neg z, if_neg z]
theorem hf_z_blow (P : hP) (a b n : Nat) : hf_z (hf_blow P a b n) = hf_blow (hf_z P) a b n := by
  funext r j
  by_cases z : r < 2
  · show (if r < 2 then 0 else _) = if r = 10 ∧ j < n then _ else (if r < 2 then 0 else _)
    rw [if_pos z, if_neg (by omega), if_pos z]
  · show (if r < 2 then 0 else if r = 10 ∧ j < n then hf_air P a b j (hf_drop P b j) else P r j) = if r = 10 ∧ j < n then hf_air P a b j (hf_drop P b j) else (if r < 2 then 0 else P r j)
    rw [if_neg z, if_neg z]
theorem hf_z_puton (P : hP) (p t n : Nat) : hf_z (hf_puton P p t n) = hf_puton (hf_z P) p t n := by
  funext r j
  by_cases z : r < 2
  · show (if r < 2 then 0 else _) = if r = 10 ∧ j < n ∧ P 10 j = t then _ else (if r < 2 then 0 else _)
    rw [if_pos z, if_neg (by omega), if_pos z]
  · show (if r < 2 then 0 else if r = 10 ∧ j < n ∧ P 10 j = t then 25 + p else P r j) = if r = 10 ∧ j < n ∧ P 10 j = t then 25 + p else (if r < 2 then 0 else P r j)
    rw [if_neg z, if_neg z]
theorem hf_z_near (P : hP) (a : Nat) : ∀ n, hf_near (hf_z P) a n = hf_near P a n
  | 0 => rfl
  | n + 1 => by
    rw [hf_near, hf_near, hf_z_near P a n]
    rfl
theorem hf_z_person (P : hP) (p : Nat) : hf_z (hf_person P p) = hf_person (hf_z P) p := by
  have e : hf_near (hf_z P) (hf_z P 5 p) (hf_z P 3 0) = hf_near P (P 5 p) (P 3 0) := hf_z_near P _ _
  unfold hf_person
  rw [e]
  generalize hf_near P (P 5 p) (P 3 0) = j
  show hf_z (if j = 99 then P else if hf_runs (P 6 p) (P 5 p) (P 10 j) = P 10 j then hf_puton (hf_up P 5 p (P 10 j)) p (P 10 j) (P 3 0) else hf_up P 5 p (hf_runs (P 6 p) (P 5 p) (P 10 j))) = if j = 99 then hf_z P else if hf_runs (P 6 p) (P 5 p) (P 10 j) = P 10 j then hf_puton (hf_up (hf_z P) 5 p (P 10 j)) p (P 10 j) (P 3 0) else hf_up (hf_z P) 5 p (hf_runs (P 6 p) (P 5 p) (P 10 j))
  by_cases h1 : j = 99
  · rw [if_pos h1, if_pos h1]
  · rw [if_neg h1, if_neg h1]
    by_cases h2 : hf_runs (P 6 p) (P 5 p) (P 10 j) = P 10 j
    · rw [if_pos h2, if_pos h2, hf_z_puton, hf_z_up (by decide)]
    · rw [if_neg h2, if_neg h2, hf_z_up (by decide)]
theorem hf_z_people (P : hP) : ∀ n, hf_z (hf_people P n) = hf_people (hf_z P) n
  | 0 => rfl
  | n + 1 => by rw [hf_people, hf_people, hf_z_person, hf_z_people P n]
theorem hf_z_hour (P : hP) (a b : Nat) : hf_z (hf_hour P a b) = hf_hour (hf_z P) a b := by
  unfold hf_hour
  rw [hf_z_up (by decide), hf_z_people, hf_z_blow]
  rfl
theorem hf_nol_i {P : hP} : ∀ n, hf_nol P n = 1 ↔ ∀ j, j < n → ¬ P 10 j < 25
  | 0 => ⟨fun _ j hj => absurd hj (Nat.not_lt_zero j), fun _ => rfl⟩
  | n + 1 => by
    rw [hf_nol]
    have ih := hf_nol_i (P := P) n
    constructor
    · intro h j hj
      by_cases q : hf_nol P n = 1 ∧ ¬ P 10 n < 25
      · by_cases e : j = n
        · subst e; exact q.2
        · exact ih.mp q.1 j (by omega)
      · rw [if_neg q] at h; exact absurd h (by decide)
    · intro h
      rw [if_pos ⟨ih.mpr (fun j hj => h j (by omega)), h n (by omega)⟩]
set_option maxHeartbeats 400000 in
theorem sp_ccalm {d : Nat} (hd : 4 < d) {R : Nat → Nat → Int32} {X : hk_D} {Q : hk_Q} {P : hP} (K : hf_K 0 P R) (h96 : P 4 0 ≤ 96) (hQ : ∀ R', hfc 1 R R' → Q (some (.int (hf_calm 49 0 P))) (hw R' X)) : hk_call d mC_calm [.ref 38] (hw R X) Q := by
  obtain ⟨d, rfl⟩ : ∃ e, d = e + 1 := ⟨d - 1, by omega⟩
  have L : ∀ t, t ≤ 49 → ∀ R1 S S', hf_K 1 S R1 → hfc 1 R R1 → hf_z S = hf_z S' → (∀ j, j < 24 → S 0 j = 0 ∧ S 1 j = 0) → S 4 0 = P 4 0 + t → (∀ R', hfc 1 R R' → Q (some (.int (hf_calm (49 - t) t S'))) (hw R' X)) → hk_wp (some .int) 0 0 hk_dft cC_calm (hk_call d) (hk_qe Q) 10 [(1, .int (nI t)), (0, .ref 38)] [] (hw R1 X) 0 0 := by
    refine hk_for ?_ ?_
    · intro R1 S S' K1 f1 ez ew e4 hQ
      refine hk_run2 (hk_call_m d) 100 ?_
      refine And.intro (fun c => ?_) (fun c => absurd (by decide) c)
      exact hk_qe_of (hQ R1 f1)
    · intro t ht ih R1 S S' K1 f1 ez ew e4 hQ
      have er : ∀ r j, ¬ r < 2 → S r j = S' r j := fun r j h => by
        have := congrFun (congrFun ez r) j
        unfold hf_z at this
        rw [if_neg h, if_neg h] at this; exact this
      rw [show 49 - t = (49 - (t + 1)) + 1 by omega, hf_calm] at hQ
      refine hk_run2 (hk_call_m d) 100 ?_
      refine And.intro (fun c => absurd c (show ¬ nI 48 < nI t from fun z => by rw [nI_ltI (by omega) (by omega)] at z; omega)) (fun c => ?_)
      refine sp_panyLies_1 (by omega) K1 (fun z => ?_) (fun z => ?_)
      · refine And.intro (fun c => absurd c (by decide)) (fun _ => ?_)
        have nn : ¬ hf_nol S' (S' 3 0) = 1 := fun y => by
          obtain ⟨j, hj, hl⟩ := z
          rw [er 3 0 (by decide)] at hj
          rw [er 10 j (by decide)] at hl
          exact (hf_nol_i _).mp y j hj hl
        rw [if_neg nn] at hQ
        refine sp_ppassHour_1 (by omega) K1 (by omega) (fun R2 K2 f2 => ?_)
        have w0 := ew (S 4 0 % 24) (Nat.mod_lt _ (by decide))
        refine Exists.intro [0, 1] ?_
        rw [nI_1]
        refine hk_stop2 (hk_call_m d) (ih R2 (hf_pass S) (hf_hour S' 0 0) K2 (hfc_tr f1 f2) ?_ (fun j hj => ?_) ?_ hQ)
        · unfold hf_pass
          rw [w0.1, w0.2, hf_z_hour, hf_z_hour, ez]
        · unfold hf_pass
          rw [hf_hour_r (by decide) (by decide) (by decide), hf_hour_r (by decide) (by decide) (by decide)]; exact ew j hj
        · have : hf_pass S 4 0 = S 4 0 + 1 := by unfold hf_pass hf_hour; rw [hf_up_s]
          omega
      · refine And.intro (fun _ => ?_) (fun c => absurd rfl c)
        have yy : hf_nol S' (S' 3 0) = 1 := (hf_nol_i _).mpr (fun j hj => by
          rw [← er 10 j (by decide)]; exact z j (by rw [er 3 0 (by decide)]; exact hj))
        rw [if_pos yy] at hQ
        exact hk_qe_of (hQ R1 f1)
  refine hk_run2 (hk_call_m d) 100 ?_
  refine sp_pcopyFrom_10 (by omega) K (fun R1 K1 f1 => ?_)
  refine sp_pstillWinds_1 (by omega) (fun R2 h1 h2 => ?_)
  have ok0 : hf_ok (hf_z P) := ⟨K.2.1, K.2.2.1, K.2.2.2.1, fun _ _ => ⟨show 0 < 4 by decide, show 0 < 10 by decide⟩, K.2.2.2.2.2.1, K.2.2.2.2.2.2⟩
  have K2 : hf_K 1 (hf_z P) R2 := by
    obtain ⟨⟨c1, c2, c3, c4, c5, c6⟩, ok⟩ := K1
    have n5 := ok.1
    have n6 := ok.2.1
    refine ⟨⟨(h2 _ _ (by omega)).trans c1, (h2 _ _ (by omega)).trans c2, (h2 _ _ (by omega)).trans c3, h1, fun p hp => ?_, fun h hh => ?_⟩, ok0⟩
    · have hp : p < P 2 0 := hp
      exact ⟨(h2 _ _ (by omega)).trans (c5 p hp).1, (h2 _ _ (by omega)).trans (c5 p hp).2⟩
    · have hh : h < P 3 0 := hh
      obtain ⟨z1, z2, z3, z4, z5⟩ := c6 h hh
      exact ⟨(h2 _ _ (by omega)).trans z1, (h2 _ _ (by omega)).trans z2, (h2 _ _ (by omega)).trans z3, (h2 _ _ (by omega)).trans z4, (h2 _ _ (by omega)).trans z5⟩
  refine w_rn (hk_stop2 (hk_call_m d) (hk_run2 (hk_call_m d) 2 ?_))
  refine L 0 (by omega) R2 (hf_z P) P K2 (hfc_tr f1 (fun a k z => h2 a k (by omega))) ?_ (fun j hj => ⟨rfl, rfl⟩) rfl hQ
  funext r j
  unfold hf_z
  by_cases z : r < 2
  · rw [if_pos z, if_pos z]
  · rw [if_neg z, if_neg z]
