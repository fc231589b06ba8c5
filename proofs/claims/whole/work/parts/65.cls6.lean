/-! THE CLASS: its calls on the plain -/
theorem sp_cisPerson {d : Nat} (hd : 1 < d) {R : Nat → Nat → Int32} {X : hk_D} {Q : hk_Q} {v : Int32} {P : hP} (K : hf_K 0 P R) (h1 : ∀ j, j < P 2 0 → v = nI j → Q (some (.int 1)) (hw R X)) (h0 : (∀ j, j < P 2 0 → v ≠ nI j) → Q (some (.int 0)) (hw R X)) : hk_call d mC_isPerson [.ref 38, .int v] (hw R X) Q := by
  obtain ⟨d, rfl⟩ : ∃ e, d = e + 1 := ⟨d - 1, by omega⟩
  have n5 := K.2.1
  refine hk_run2 (hk_call_m d) 100 ?_
  refine sp_isBelow (by omega) (n := P 2 0) (by omega) K.1.1 (fun j hj q => ?_) (fun q => ?_)
  · exact And.intro (by decide) (hk_qe_of (h1 j hj q))
  · exact And.intro (by decide) (hk_qe_of (h0 q))
theorem sp_cisHat {d : Nat} (hd : 1 < d) {R : Nat → Nat → Int32} {X : hk_D} {Q : hk_Q} {v : Int32} {P : hP} (K : hf_K 0 P R) (h1 : ∀ j, j < P 3 0 → v = nI j → Q (some (.int 1)) (hw R X)) (h0 : (∀ j, j < P 3 0 → v ≠ nI j) → Q (some (.int 0)) (hw R X)) : hk_call d mC_isHat [.ref 38, .int v] (hw R X) Q := by
  obtain ⟨d, rfl⟩ : ∃ e, d = e + 1 := ⟨d - 1, by omega⟩
  have n6 := K.2.2.1
  refine hk_run2 (hk_call_m d) 100 ?_
  refine sp_isBelow (by omega) (n := P 3 0) (by omega) K.1.2.1 (fun j hj q => ?_) (fun q => ?_)
  · exact And.intro (by decide) (hk_qe_of (h1 j hj q))
  · exact And.intro (by decide) (hk_qe_of (h0 q))
theorem sp_cisTrial {d : Nat} (hd : 0 < d) {h : hk_Hp} {Q : hk_Q} {v : Int32} (h1 : ∀ j, j < 49 → v = nI j → Q (some (.int 1)) h) (h0 : (∀ j, j < 49 → v ≠ nI j) → Q (some (.int 0)) h) : hk_call d mC_isTrialLength [.int v] h Q := by
  obtain ⟨d, rfl⟩ : ∃ e, d = e + 1 := ⟨d - 1, by omega⟩
  refine hk_run2 (hk_call_m d) 100 ?_
  refine And.intro (fun c => ?_) (fun c => ?_)
  · exact And.intro (by decide) (hk_qe_of (h0 (fun j hj => hn_out (n := 48) (by omega) (Or.inl c) hj)))
  · refine And.intro (fun c2 => ?_) (fun c2 => ?_)
    · exact And.intro (by decide) (hk_qe_of (h0 (fun j hj => hn_out (n := 48) (by omega) (Or.inr c2) hj)))
    · obtain ⟨j, hj, e⟩ := hn_in (n := 48) (by omega) c c2
      exact And.intro (by decide) (hk_qe_of (h1 j hj e))
theorem sp_cisPlan {d : Nat} (hd : 0 < d) {h : hk_Hp} {Q : hk_Q} {v : Int32} (h1 : ∀ j, 1 ≤ j → j < 13 → v = nI j → Q (some (.int 1)) h) (h0 : (∀ j, 1 ≤ j → j < 13 → v ≠ nI j) → Q (some (.int 0)) h) : hk_call d mC_isPlanLength [.int v] h Q := by
  obtain ⟨d, rfl⟩ : ∃ e, d = e + 1 := ⟨d - 1, by omega⟩
  refine hk_run2 (hk_call_m d) 100 ?_
  refine And.intro (fun c => ?_) (fun c => ?_)
  · refine And.intro (by decide) (hk_qe_of (h0 (fun j hj hj2 e => ?_)))
    rw [e] at c
    exact absurd c (by rw [hn_lt, hn_i (by omega)]; have : (1 : Int32).toInt = 1 := rfl; omega)
  · refine And.intro (fun c2 => ?_) (fun c2 => ?_)
    · exact And.intro (by decide) (hk_qe_of (h0 (fun j _ hj => hn_out (n := 12) (by omega) (Or.inr c2) hj)))
    · have c0 : ¬ v < 0 := fun q => c (by rw [hn_lt] at q ⊢; have : (0 : Int32).toInt = 0 := rfl; have : (1 : Int32).toInt = 1 := rfl; omega)
      obtain ⟨j, hj, e⟩ := hn_in (n := 12) (by omega) c0 c2
      refine And.intro (by decide) (hk_qe_of (h1 j ?_ hj e))
      rcases Nat.eq_zero_or_pos j with z | z
      · subst z; rw [e] at c; exact absurd (by decide) c
      · exact z
theorem hf_ok_wind {P : hP} {g a b : Nat} (ok : hf_ok P) (ha : a < 4) (hb : b < 10) : hf_ok (hf_up (hf_up P 0 g a) 1 g b) := by
  refine ⟨ok.1, ok.2.1, ok.2.2.1, fun k hk => ?_, ok.2.2.2.2.1, ok.2.2.2.2.2⟩
  have z := ok.2.2.2.1 k hk
  by_cases e : k = g
  · subst e; rw [hf_up_r (by decide), hf_up_s, hf_up_s]; exact ⟨ha, hb⟩
  · rw [hf_up_j e, hf_up_j e, hf_up_j e, hf_up_j e]; exact z
theorem hf_K_wind {i g a b : Nat} {P : hP} {R : Nat → Nat → Int32} (K : hf_K i P R) (ha : a < 4) (hb : b < 10) : hf_K i (hf_up (hf_up P 0 g a) 1 g b) (up2 (up2 R (40 + 16 * i) g (nI a)) (41 + 16 * i) g (nI b)) := by
  have okn := hf_ok_wind (g := g) K.2 ha hb
  obtain ⟨⟨c1, c2, c3, c4, c5, c6⟩, ok⟩ := K
  have n5 := ok.1
  have n6 := ok.2.1
  have fr : ∀ c k, c ≠ 40 + 16 * i → c ≠ 41 + 16 * i → up2 (up2 R (40 + 16 * i) g (nI a)) (41 + 16 * i) g (nI b) c k = R c k := fun c k z1 z2 => by rw [up2_a z2, up2_a z1]
  refine ⟨⟨(fr _ _ (by omega) (by omega)).trans c1, (fr _ _ (by omega) (by omega)).trans c2, (fr _ _ (by omega) (by omega)).trans c3, fun k hk => ?_, fun p hp => ?_, fun h hh => ?_⟩, okn⟩
  · by_cases e : k = g
    · subst e
      rw [up2_a (show 40 + 16 * i ≠ 41 + 16 * i by omega), up2_s, up2_s, hf_up_r (by decide), hf_up_s, hf_up_s]
      exact ⟨rfl, rfl⟩
    · rw [up2_k e, up2_k e, up2_k e, up2_k e, hf_up_j e, hf_up_j e, hf_up_j e, hf_up_j e]; exact c4 k hk
  · have hp : p < P 2 0 := hp
    exact ⟨(fr _ _ (by omega) (by omega)).trans (c5 p hp).1, (fr _ _ (by omega) (by omega)).trans (c5 p hp).2⟩
  · have hh : h < P 3 0 := hh
    obtain ⟨z1, z2, z3, z4, z5⟩ := c6 h hh
    exact ⟨(fr _ _ (by omega) (by omega)).trans z1, (fr _ _ (by omega) (by omega)).trans z2, (fr _ _ (by omega) (by omega)).trans z3, (fr _ _ (by omega) (by omega)).trans z4, (fr _ _ (by omega) (by omega)).trans z5⟩
theorem hf_ok_speed {P : hP} {p q : Nat} (ok : hf_ok P) (hq : q < 4) : hf_ok (hf_up P 6 p q) := by
  refine ⟨ok.1, ok.2.1, ok.2.2.1, ok.2.2.2.1, fun h hh => ?_, ok.2.2.2.2.2⟩
  have z := ok.2.2.2.2.1 h hh
  refine ⟨z.1, ?_⟩
  by_cases e : h = p
  · subst e; rw [hf_up_s]; exact hq
  · rw [hf_up_j e]; exact z.2
theorem hf_K_speed {i p q : Nat} {P : hP} {R : Nat → Nat → Int32} (K : hf_K i P R) (hp : p < P 2 0) (hq : q < 4) : hf_K i (hf_up P 6 p q) (up2 R (44 + 16 * i + p) 1 (nI q)) := by
  have okn := hf_ok_speed (p := p) K.2 hq
  obtain ⟨⟨c1, c2, c3, c4, c5, c6⟩, ok⟩ := K
  have n5 := ok.1
  have n6 := ok.2.1
  have hs : ∀ a k, ¬ (a = 44 + 16 * i + p ∧ k = 1) → up2 R (44 + 16 * i + p) 1 (nI q) a k = R a k := fun a k z => up2_n z
  refine ⟨⟨(hs _ _ (by omega)).trans c1, (hs _ _ (by omega)).trans c2, (hs _ _ (by omega)).trans c3, fun k hk => ⟨(hs _ _ (by omega)).trans (c4 k hk).1, (hs _ _ (by omega)).trans (c4 k hk).2⟩, fun p' hp' => ?_, fun h hh => ?_⟩, okn⟩
  · have hp' : p' < P 2 0 := hp'
    refine ⟨(hs _ _ (by omega)).trans (c5 p' hp').1, ?_⟩
    by_cases e : p' = p
    · subst e; rw [hf_up_s]; exact up2_s _ _ _ _
    · rw [hf_up_j e]; exact (hs _ _ (by omega)).trans (c5 p' hp').2
  · have hh : h < P 3 0 := hh
    obtain ⟨z1, z2, z3, z4, z5⟩ := c6 h hh
    exact ⟨(hs _ _ (by omega)).trans z1, (hs _ _ (by omega)).trans z2, (hs _ _ (by omega)).trans z3, (hs _ _ (by omega)).trans z4, (hs _ _ (by omega)).trans z5⟩
theorem hf_ok_k {P : hP} {h k a : Nat} (ok : hf_ok P) (hk : k < 6) (ha : a < 10) : hf_ok (hf_k P h k a) := by
  refine ⟨ok.1, ok.2.1, ok.2.2.1, ok.2.2.2.1, ok.2.2.2.2.1, fun h' hh => ?_⟩
  have z := ok.2.2.2.2.2 h' hh
  refine ⟨?_, ?_, z.2.2⟩
  · show hf_up (hf_up P 7 h k) 8 h a 7 h' < 6
    rw [hf_up_r (by decide)]
    by_cases e : h' = h
    · subst e; rw [hf_up_s]; exact hk
    · rw [hf_up_j e]; exact z.1
  · show hf_up (hf_up P 7 h k) 8 h a 8 h' < 10
    by_cases e : h' = h
    · subst e; rw [hf_up_s]; exact ha
    · rw [hf_up_j e, hf_up_r (by decide)]; exact z.2.1
theorem hf_K_k {i j k a : Nat} {P : hP} {R : Nat → Nat → Int32} (K : hf_K i P R) (hj : j < P 3 0) (hk : k < 6) (ha : a < 10) : hf_K i (hf_k P j k a) (up2 (up2 R (49 + 16 * i + j) 0 (nI k)) (49 + 16 * i + j) 1 (nI a)) := by
  have okn := hf_ok_k (h := j) K.2 hk ha
  obtain ⟨⟨c1, c2, c3, c4, c5, c6⟩, ok⟩ := K
  have n5 := ok.1
  have n6 := ok.2.1
  have hs : ∀ b l, ¬ (b = 49 + 16 * i + j ∧ (l = 0 ∨ l = 1)) → up2 (up2 R (49 + 16 * i + j) 0 (nI k)) (49 + 16 * i + j) 1 (nI a) b l = R b l := fun b l z => by rw [up2_n (by omega), up2_n (by omega)]
  refine ⟨⟨(hs _ _ (by omega)).trans c1, (hs _ _ (by omega)).trans c2, (hs _ _ (by omega)).trans c3, fun k hk => ⟨(hs _ _ (by omega)).trans (c4 k hk).1, (hs _ _ (by omega)).trans (c4 k hk).2⟩, fun p' hp' => ?_, fun h hh => ?_⟩, okn⟩
  · have hp' : p' < P 2 0 := hp'
    exact ⟨(hs _ _ (by omega)).trans (c5 p' hp').1, (hs _ _ (by omega)).trans (c5 p' hp').2⟩
  · have hh : h < P 3 0 := hh
    obtain ⟨z1, z2, z3, z4, z5⟩ := c6 h hh
    refine ⟨?_, ?_, (hs _ _ (by omega)).trans z3, (hs _ _ (by omega)).trans z4, (hs _ _ (by omega)).trans z5⟩
    · show _ = nI (hf_up (hf_up P 7 j k) 8 j a 7 h)
      rw [hf_up_r (by decide)]
      by_cases e : h = j
      · subst e; rw [hf_up_s, up2_k (by decide), up2_s]
      · rw [hf_up_j e]; exact (hs _ _ (by omega)).trans z1
    · show _ = nI (hf_up (hf_up P 7 j k) 8 j a 8 h)
      by_cases e : h = j
      · subst e; rw [hf_up_s, up2_s]
      · rw [hf_up_j e, hf_up_r (by decide)]; exact (hs _ _ (by omega)).trans z2
set_option maxHeartbeats 400000 in
theorem sp_cwind {d : Nat} (hd : 1 < d) {R : Nat → Nat → Int32} {X : hk_D} {Q : hk_Q} {v a b : Int32} {P : hP} (K : hf_K 0 P R) (hQ : ∀ R', hf_K 0 (o_wind P v a b).2 R' → hfc 0 R R' → Q (some (.int (o_wind P v a b).1)) (hw R' X)) : hk_call d mC_wind [.ref 38, .int v, .int a, .int b] (hw R X) Q := by
  obtain ⟨d, rfl⟩ : ∃ e, d = e + 1 := ⟨d - 1, by omega⟩
  have n5 := K.2.1
  have n6 := K.2.2.1
  have n4 := K.2.2.2.1
  have c4 : R 39 4 = nI (P 2 0) := K.1.1
  have c5 : R 39 5 = nI (P 3 0) := K.1.2.1
  have c6 : R 39 6 = nI (P 4 0) := K.1.2.2.1
  unfold o_wind at hQ
  refine hk_run2 (hk_call_m d) 100 ?_
  refine sp_isBelow (by omega) (n := 24) (by omega) rfl (fun g hg eg => ?_) (fun nn => ?_)
  · refine And.intro (fun c => absurd c (by decide)) (fun _ => ?_)
    rw [eg, hxi_s hg (by omega)] at hQ
    dsimp only at hQ
    subst eg
    refine sp_isBelow (by omega) (n := 4) (by omega) rfl (fun a ha ea => ?_) (fun nn => ?_)
    · refine And.intro (fun c => absurd c (by decide)) (fun _ => ?_)
      rw [ea, hxi_s ha (by omega)] at hQ
      dsimp only at hQ
      subst ea
      refine sp_isBelow (by omega) (n := 10) (by omega) rfl (fun b hb eb => ?_) (fun nn => ?_)
      · refine And.intro (fun c => absurd c (by decide)) (fun _ => ?_)
        rw [eb, hxi_s hb (by omega)] at hQ
        dsimp only at hQ
        subst eb
        refine sp_pwindIn_0 (by omega) K rfl hg ?_
        refine sp_psetWind_0 (by omega) rfl hg ?_
        exact hk_qe_of (hQ _ (hf_K_wind K ha hb) (hfc_tr (hfc_up (by omega)) (hfc_up (by omega))))
      · refine And.intro (fun _ => ?_) (fun c => absurd rfl c)
        rw [hxi_n (by omega) nn] at hQ
        exact hk_qe_of (hQ R K hfc_rf)
    · refine And.intro (fun _ => ?_) (fun c => absurd rfl c)
      rw [hxi_n (by omega) nn] at hQ
      exact hk_qe_of (hQ R K hfc_rf)
  · refine And.intro (fun _ => ?_) (fun c => absurd rfl c)
    rw [hxi_n (by omega) nn] at hQ
    exact hk_qe_of (hQ R K hfc_rf)
set_option maxHeartbeats 400000 in
theorem sp_cwindOf {d : Nat} (hd : 1 < d) {R : Nat → Nat → Int32} {X : hk_D} {Q : hk_Q} {v : Int32} {P : hP} (K : hf_K 0 P R) (hQ : Q (some (.int (a_windOf P v))) (hw R X)) : hk_call d mC_windOf [.ref 38, .int v] (hw R X) Q := by
  obtain ⟨d, rfl⟩ : ∃ e, d = e + 1 := ⟨d - 1, by omega⟩
  have n5 := K.2.1
  have n6 := K.2.2.1
  have n4 := K.2.2.2.1
  have c4 : R 39 4 = nI (P 2 0) := K.1.1
  have c5 : R 39 5 = nI (P 3 0) := K.1.2.1
  have c6 : R 39 6 = nI (P 4 0) := K.1.2.2.1
  unfold a_windOf at hQ
  refine hk_run2 (hk_call_m d) 100 ?_
  refine sp_isBelow (by omega) (n := 24) (by omega) rfl (fun g hg eg => ?_) (fun nn => ?_)
  · refine And.intro (fun c => absurd c (by decide)) (fun _ => ?_)
    rw [eg, hxi_s hg (by omega)] at hQ
    dsimp only at hQ
    subst eg
    refine sp_pwindIn_0 (by omega) K rfl hg ?_
    exact hk_qe_of hQ
  · refine And.intro (fun _ => ?_) (fun c => absurd rfl c)
    rw [hxi_n (by omega) nn] at hQ
    exact hk_qe_of hQ
set_option maxHeartbeats 400000 in
theorem sp_cperson {d : Nat} (hd : 1 < d) {R : Nat → Nat → Int32} {X : hk_D} {Q : hk_Q} {v w : Int32} {P : hP} (K : hf_K 0 P R) (hQ : ∀ R', hf_K 0 (o_person P v w).2 R' → hfc 0 R R' → Q (some (.int (o_person P v w).1)) (hw R' X)) : hk_call d mC_person [.ref 38, .int v, .int w] (hw R X) Q := by
  obtain ⟨d, rfl⟩ : ∃ e, d = e + 1 := ⟨d - 1, by omega⟩
  have n5 := K.2.1
  have n6 := K.2.2.1
  have n4 := K.2.2.2.1
  have c4 : R 39 4 = nI (P 2 0) := K.1.1
  have c5 : R 39 5 = nI (P 3 0) := K.1.2.1
  have c6 : R 39 6 = nI (P 4 0) := K.1.2.2.1
  unfold o_person at hQ
  refine hk_run2 (hk_call_m d) 100 ?_
  refine sp_isBelow (by omega) (n := 25) (by omega) rfl (fun q hq eq => ?_) (fun nn => ?_)
  · refine And.intro (fun c => absurd c (by decide)) (fun _ => ?_)
    rw [eq, hxi_s hq (by omega)] at hQ
    dsimp only at hQ
    subst eq
    refine sp_isBelow (by omega) (n := 4) (by omega) rfl (fun s hs es => ?_) (fun nn => ?_)
    · refine And.intro (fun c => absurd c (by decide)) (fun _ => ?_)
      rw [es, hxi_s hs (by omega)] at hQ
      dsimp only at hQ
      subst es
      refine And.intro (fun c => ?_) (fun c => ?_)
      · rw [c4] at c
        have lt : P 2 0 < 5 := Classical.byContradiction (fun z => absurd c (show ¬ nI (P 2 0) < nI 5 from fun y => by rw [hn_lt, hn_i (by omega), hn_i (by omega)] at y; omega))
        rw [if_neg (by omega)] at hQ
        refine sp_paddPerson_0 (by omega) K lt rfl rfl hq hs (fun R' KR fr => ?_)
        exact hk_qe_of (hQ R' KR fr)
      · rw [c4] at c
        have ge : P 2 0 = 5 := Classical.byContradiction (fun z => c (show nI (P 2 0) < nI 5 from by rw [hn_lt, hn_i (by omega), hn_i (by omega)]; omega))
        rw [if_pos ge] at hQ
        exact hk_qe_of (hQ R K hfc_rf)
    · refine And.intro (fun _ => ?_) (fun c => absurd rfl c)
      rw [hxi_n (by omega) nn] at hQ
      exact hk_qe_of (hQ R K hfc_rf)
  · refine And.intro (fun _ => ?_) (fun c => absurd rfl c)
    rw [hxi_n (by omega) nn] at hQ
    exact hk_qe_of (hQ R K hfc_rf)
set_option maxHeartbeats 400000 in
theorem sp_cmoves {d : Nat} (hd : 2 < d) {R : Nat → Nat → Int32} {X : hk_D} {Q : hk_Q} {v w : Int32} {P : hP} (K : hf_K 0 P R) (hQ : ∀ R', hf_K 0 (o_moves P v w).2 R' → hfc 0 R R' → Q (some (.int (o_moves P v w).1)) (hw R' X)) : hk_call d mC_moves [.ref 38, .int v, .int w] (hw R X) Q := by
  obtain ⟨d, rfl⟩ : ∃ e, d = e + 1 := ⟨d - 1, by omega⟩
  have n5 := K.2.1
  have n6 := K.2.2.1
  have n4 := K.2.2.2.1
  have c4 : R 39 4 = nI (P 2 0) := K.1.1
  have c5 : R 39 5 = nI (P 3 0) := K.1.2.1
  have c6 : R 39 6 = nI (P 4 0) := K.1.2.2.1
  unfold o_moves at hQ
  refine hk_run2 (hk_call_m d) 100 ?_
  refine sp_cisPerson (by omega) K (fun p hp ep => ?_) (fun nn => ?_)
  · refine And.intro (fun c => absurd c (by decide)) (fun _ => ?_)
    rw [ep, hxi_s hp (by omega)] at hQ
    dsimp only at hQ
    subst ep
    refine sp_isBelow (by omega) (n := 25) (by omega) rfl (fun q hq eq => ?_) (fun nn => ?_)
    · refine And.intro (fun c => absurd c (by decide)) (fun _ => ?_)
      rw [eq, hxi_s hq (by omega)] at hQ
      dsimp only at hQ
      subst eq
      have hb_p : hPer (44 + p) := by unfold hPer; omega
      obtain ⟨p0_p, p1_p⟩ : R (44 + p) 0 = nI (P 5 p) ∧ R (44 + p) 1 = nI (P 6 p) := K.1.2.2.2.2.1 p hp
      obtain ⟨q5_p, q6_p⟩ := K.2.2.2.2.2.1 p hp
      refine And.intro (vp_in_nI (N := 5) (by omega) (by omega)) ?_
      rw [nI_clamp (by omega)]
      refine w_get (hPer_t hb_p) (hPer_k hb_p).1 p0_p ?_
      refine And.intro (vp_in_nI (N := 5) (by omega) (by omega)) ?_
      rw [nI_clamp (by omega)]
      refine w_puta (hPer_t hb_p) (hPer_38 hb_p) (hPer_k hb_p).1 trivial ?_
      exact hk_qe_of (hQ _ (hf_K_place K hp hq (fun a k z => up2_n z) (up2_s _ _ _ _)) (hfc_up (by omega)))
    · refine And.intro (fun _ => ?_) (fun c => absurd rfl c)
      rw [hxi_n (by omega) nn] at hQ
      exact hk_qe_of (hQ R K hfc_rf)
  · refine And.intro (fun _ => ?_) (fun c => absurd rfl c)
    rw [hxi_n (by omega) nn] at hQ
    exact hk_qe_of (hQ R K hfc_rf)
set_option maxHeartbeats 400000 in
theorem sp_cspeed {d : Nat} (hd : 2 < d) {R : Nat → Nat → Int32} {X : hk_D} {Q : hk_Q} {v w : Int32} {P : hP} (K : hf_K 0 P R) (hQ : ∀ R', hf_K 0 (o_speed P v w).2 R' → hfc 0 R R' → Q (some (.int (o_speed P v w).1)) (hw R' X)) : hk_call d mC_speed [.ref 38, .int v, .int w] (hw R X) Q := by
  obtain ⟨d, rfl⟩ : ∃ e, d = e + 1 := ⟨d - 1, by omega⟩
  have n5 := K.2.1
  have n6 := K.2.2.1
  have n4 := K.2.2.2.1
  have c4 : R 39 4 = nI (P 2 0) := K.1.1
  have c5 : R 39 5 = nI (P 3 0) := K.1.2.1
  have c6 : R 39 6 = nI (P 4 0) := K.1.2.2.1
  unfold o_speed at hQ
  refine hk_run2 (hk_call_m d) 100 ?_
  refine sp_cisPerson (by omega) K (fun p hp ep => ?_) (fun nn => ?_)
  · refine And.intro (fun c => absurd c (by decide)) (fun _ => ?_)
    rw [ep, hxi_s hp (by omega)] at hQ
    dsimp only at hQ
    subst ep
    refine sp_isBelow (by omega) (n := 4) (by omega) rfl (fun q hq eq => ?_) (fun nn => ?_)
    · refine And.intro (fun c => absurd c (by decide)) (fun _ => ?_)
      rw [eq, hxi_s hq (by omega)] at hQ
      dsimp only at hQ
      subst eq
      have hb_p : hPer (44 + p) := by unfold hPer; omega
      obtain ⟨p0_p, p1_p⟩ : R (44 + p) 0 = nI (P 5 p) ∧ R (44 + p) 1 = nI (P 6 p) := K.1.2.2.2.2.1 p hp
      obtain ⟨q5_p, q6_p⟩ := K.2.2.2.2.2.1 p hp
      refine And.intro (vp_in_nI (N := 5) (by omega) (by omega)) ?_
      rw [nI_clamp (by omega)]
      refine w_get (hPer_t hb_p) (hPer_k hb_p).2 p1_p ?_
      refine And.intro (vp_in_nI (N := 5) (by omega) (by omega)) ?_
      rw [nI_clamp (by omega)]
      refine w_puta (hPer_t hb_p) (hPer_38 hb_p) (hPer_k hb_p).2 trivial ?_
      exact hk_qe_of (hQ _ (hf_K_speed K hp hq) (hfc_up (by omega)))
    · refine And.intro (fun _ => ?_) (fun c => absurd rfl c)
      rw [hxi_n (by omega) nn] at hQ
      exact hk_qe_of (hQ R K hfc_rf)
  · refine And.intro (fun _ => ?_) (fun c => absurd rfl c)
    rw [hxi_n (by omega) nn] at hQ
    exact hk_qe_of (hQ R K hfc_rf)
set_option maxHeartbeats 400000 in
theorem sp_cmake {d : Nat} (hd : 2 < d) {R : Nat → Nat → Int32} {X : hk_D} {Q : hk_Q} {v1 v2 v3 : Int32} {P : hP} (K : hf_K 0 P R) (hQ : ∀ R', hf_K 0 (o_make P v1 v2 v3).2 R' → hfc 0 R R' → Q (some (.int (o_make P v1 v2 v3).1)) (hw R' X)) : hk_call d mC_make [.ref 38, .int v1, .int v2, .int v3] (hw R X) Q := by
  obtain ⟨d, rfl⟩ : ∃ e, d = e + 1 := ⟨d - 1, by omega⟩
  have n5 := K.2.1
  have n6 := K.2.2.1
  have n4 := K.2.2.2.1
  have c4 : R 39 4 = nI (P 2 0) := K.1.1
  have c5 : R 39 5 = nI (P 3 0) := K.1.2.1
  have c6 : R 39 6 = nI (P 4 0) := K.1.2.2.1
  unfold o_make at hQ
  refine hk_run2 (hk_call_m d) 100 ?_
  refine sp_cisHat (by omega) K (fun j hj ej => ?_) (fun nn => ?_)
  · refine And.intro (fun c => absurd c (by decide)) (fun _ => ?_)
    rw [ej, hxi_s hj (by omega)] at hQ
    dsimp only at hQ
    subst ej
    refine sp_isBelow (by omega) (n := 6) (by omega) rfl (fun k hk ek => ?_) (fun nn => ?_)
    · refine And.intro (fun c => absurd c (by decide)) (fun _ => ?_)
      rw [ek, hxi_s hk (by omega)] at hQ
      dsimp only at hQ
      subst ek
      refine sp_isBelow (by omega) (n := 10) (by omega) rfl (fun x hx ex => ?_) (fun nn => ?_)
      · refine And.intro (fun c => absurd c (by decide)) (fun _ => ?_)
        rw [ex, hxi_s hx (by omega)] at hQ
        dsimp only at hQ
        subst ex
        have ha : hHat (49 + j) := by unfold hHat; omega
        obtain ⟨e0, e1, e2, e3, e4⟩ : R (49 + j) 0 = nI (P 7 j) ∧ R (49 + j) 1 = nI (P 8 j) ∧ R (49 + j) 2 = nI (P 9 j) ∧ R (49 + j) 3 = hf_cw (P 10 j) ∧ R (49 + j) 4 = hf_cs (P 10 j) := K.1.2.2.2.2.2 j hj
        obtain ⟨o7, o8, o9, o10⟩ := K.2.2.2.2.2.2 j hj
        refine And.intro (vp_in_nI (N := 6) (by omega) (by omega)) ?_
        rw [nI_clamp (by omega)]
        refine w_get (hHat_t ha) (hHat_k ha).1 e0 ?_
        refine And.intro (vp_in_nI (N := 6) (by omega) (by omega)) ?_
        rw [nI_clamp (by omega)]
        refine w_recv (hHat_t ha) ?_
        refine sp_hbecome (by omega) ha ?_
        exact hk_qe_of (hQ _ (hf_K_k K hj hk hx) (hfc_tr (hfc_up (by omega)) (hfc_up (by omega))))
      · refine And.intro (fun _ => ?_) (fun c => absurd rfl c)
        rw [hxi_n (by omega) nn] at hQ
        exact hk_qe_of (hQ R K hfc_rf)
    · refine And.intro (fun _ => ?_) (fun c => absurd rfl c)
      rw [hxi_n (by omega) nn] at hQ
      exact hk_qe_of (hQ R K hfc_rf)
  · refine And.intro (fun _ => ?_) (fun c => absurd rfl c)
    rw [hxi_n (by omega) nn] at hQ
    exact hk_qe_of (hQ R K hfc_rf)
set_option maxHeartbeats 400000 in
theorem sp_cclock {d : Nat} (hd : 0 < d) {R : Nat → Nat → Int32} {X : hk_D} {Q : hk_Q} {v : Int32} {P : hP} (K : hf_K 0 P R) (hQ : ∀ R', hf_K 0 (o_clock P v).2 R' → hfc 0 R R' → Q (some (.int (o_clock P v).1)) (hw R' X)) : hk_call d mC_clock [.ref 38, .int v] (hw R X) Q := by
  obtain ⟨d, rfl⟩ : ∃ e, d = e + 1 := ⟨d - 1, by omega⟩
  have n5 := K.2.1
  have n6 := K.2.2.1
  have n4 := K.2.2.2.1
  have c4 : R 39 4 = nI (P 2 0) := K.1.1
  have c5 : R 39 5 = nI (P 3 0) := K.1.2.1
  have c6 : R 39 6 = nI (P 4 0) := K.1.2.2.1
  unfold o_clock at hQ
  refine hk_run2 (hk_call_m d) 100 ?_
  refine And.intro (fun c => ?_) (fun c => ?_)
  · rw [hxi_n (by omega) (fun j hj => hn_out (n := 96) (by omega) (Or.inl c) hj)] at hQ
    exact hk_qe_of (hQ R K hfc_rf)
  · refine And.intro (fun c2 => ?_) (fun c2 => ?_)
    · obtain ⟨n, hn, e⟩ := hn_in (v := v) (n := 96) (by omega) c (fun z => by rw [hn_lt] at z; rw [hn_le] at c2; have : (nI 96).toInt = (96 : Int32).toInt := rfl; omega)
      rw [e, hxi_s hn (by omega)] at hQ
      dsimp only at hQ
      refine w_put trivial rfl rfl ?_
      rw [c6, e]
      exact hk_qe_of (hQ _ (hf_K_now K (by omega) (fun a k z => up2_n z) (up2_s _ _ _ _)) (hfc_up (by omega)))
    · rw [hxi_n (by omega) (fun j hj => hn_out (n := 96) (by omega) (Or.inr (by rw [hn_lt]; rw [hn_le] at c2; have : (nI 96).toInt = (96 : Int32).toInt := rfl; omega)) hj)] at hQ
      exact hk_qe_of (hQ R K hfc_rf)
set_option maxHeartbeats 400000 in
theorem sp_chours {d : Nat} (hd : 5 < d) {R : Nat → Nat → Int32} {X : hk_D} {Q : hk_Q} {v : Int32} {P : hP} (K : hf_K 0 P R) (hQ : ∀ R', hf_K 0 (o_hours P v).2 R' → hfc 0 R R' → Q (some (.int (o_hours P v).1)) (hw R' X)) : hk_call d mC_hours [.ref 38, .int v] (hw R X) Q := by
  obtain ⟨d, rfl⟩ : ∃ e, d = e + 1 := ⟨d - 1, by omega⟩
  have n5 := K.2.1
  have n6 := K.2.2.1
  have n4 := K.2.2.2.1
  have c4 : R 39 4 = nI (P 2 0) := K.1.1
  have c5 : R 39 5 = nI (P 3 0) := K.1.2.1
  have c6 : R 39 6 = nI (P 4 0) := K.1.2.2.1
  unfold o_hours at hQ
  refine hk_run2 (hk_call_m d) 100 ?_
  refine sp_cisTrial (by omega) (fun n hn en => ?_) (fun nn => ?_)
  · refine And.intro (fun c => absurd c (by decide)) (fun _ => ?_)
    rw [en, hxi_s hn (by omega)] at hQ
    dsimp only at hQ
    subst en
    refine sp_ppassHours_0 (by omega) K rfl (by omega) (fun R' KR fr => ?_)
    refine hk_qe_of ?_
    rw [show R' 39 6 = nI (hf_hours n P 4 0) from KR.1.2.2.1]
    exact hQ R' KR fr
  · refine And.intro (fun _ => ?_) (fun c => absurd rfl c)
    rw [hxi_n (by omega) nn] at hQ
    exact hk_qe_of (hQ R K hfc_rf)
theorem sp_cseed {d : Nat} (hd : 0 < d) {R : Nat → Nat → Int32} {X : hk_D} {Q : hk_Q} {v : Int32} (hQ : Q (some (.int (R 38 4))) (hw (up2 R 38 4 v) X)) : hk_call d mC_seed [.ref 38, .int v] (hw R X) Q := by
  obtain ⟨d, rfl⟩ : ∃ e, d = e + 1 := ⟨d - 1, by omega⟩
  refine hk_run2 (hk_call_m d) 100 ?_
  refine w_put trivial rfl rfl ?_
  exact hk_qe_of hQ
