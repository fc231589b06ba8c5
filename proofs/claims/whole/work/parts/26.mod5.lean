/-! THE REFERENCE: an hour, hours, the trial's row -/
theorem w_rn {st : List Value} {K : List Value → Prop} (g : K st) : hk_rv none st K := g
theorem hf_puton_r {P : hP} {p t n r j : Nat} (h : r ≠ 10) : hf_puton P p t n r j = P r j := if_neg (fun q => h q.1)
theorem hf_person_r {P : hP} {p r j : Nat} (h5 : r ≠ 5) (h10 : r ≠ 10) : hf_person P p r j = P r j := by
  unfold hf_person
  split
  · rfl
  · split
    · rw [hf_puton_r h10, hf_up_r h5]
    · rw [hf_up_r h5]
theorem hf_people_r {P : hP} {r j : Nat} (h5 : r ≠ 5) (h10 : r ≠ 10) : ∀ n, hf_people P n r j = P r j
  | 0 => rfl
  | n + 1 => by rw [hf_people, hf_person_r h5 h10]; exact hf_people_r h5 h10 n
theorem hf_blow_r {P : hP} {dir f n r j : Nat} (h : r ≠ 10) : hf_blow P dir f n r j = P r j := if_neg (fun q => h q.1)
theorem hf_hour_r {P : hP} {dir f r j : Nat} (h4 : r ≠ 4) (h5 : r ≠ 5) (h10 : r ≠ 10) : hf_hour P dir f r j = P r j := by
  unfold hf_hour
  rw [hf_up_r h4, hf_people_r h5 h10, hf_blow_r h10]
set_option maxHeartbeats 400000 in
theorem sp_mhourGoes {d : Nat} (hd : 4 < d) {R0 : Nat → Nat → Int32} {X : hk_D} {Q : hk_Q} {v1 v2 : Int32} {o dir f : Nat} {P : hP} (M : hf_M o P R0) (hnow : P 4 0 < 200) (e1 : v1 = nI dir) (e2 : v2 = nI f) (hdir : dir < 4) (hf : f < 10) (hQ : ∀ R', hf_M o (hf_hour P dir f) R' → hfr o R0 R' → Q none (hw R' X)) : hk_call d mM_hourGoes [.ref 98, .int v1, .int v2] (hw R0 X) Q := by
  obtain ⟨d, rfl⟩ : ∃ e, d = e + 1 := ⟨d - 1, by omega⟩
  have h5 := M.2.2.2.2.1
  have B2 : ∀ n, hf_people (hf_blow P dir f (P 3 0)) n 2 0 = P 2 0 := fun n => by rw [hf_people_r (by decide) (by decide), hf_blow_r (by decide)]
  have L : ∀ j, j ≤ P 2 0 → ∀ R, hf_M o (hf_people (hf_blow P dir f (P 3 0)) j) R → hfr o R0 R → hk_wp none 0 0 hk_dft cM_hourGoes (hk_call d) (hk_qe Q) 6 [(3, .int (nI j)), (0, .ref 98), (1, .int v1), (2, .int v2)] [] (hw R X) 0 0 := by
    refine hk_for ?_ ?_
    · intro R MR fr
      have ep : R 98 2 = nI (P 2 0) := by rw [← B2 (P 2 0)]; exact MR.1.1
      have ho := MR.2.2.1
      have h18 := MR.2.2.2.1
      refine hk_run2 (hk_call_m d) 100 ?_
      refine And.intro (fun c => ?_) (fun c => absurd (by rw [ep]; exact nI_le (Nat.le_refl _) (by omega)) c)
      refine sp_its (by omega) ho (j := 0) rfl (by omega) ?_
      refine sp_becomes (by omega) ho (j := 0) rfl (by omega) ?_
      refine hk_qe_of (hQ _ ?_ (hfr_tr fr (hfr_up (by omega))))
      have e4 : hf_people (hf_blow P dir f (P 3 0)) (P 2 0) 4 0 = P 4 0 := by rw [hf_people_r (by decide) (by decide), hf_blow_r (by decide)]
      have en : R 105 (o + 0) + 1 = nI (P 4 0 + 1) := by
        rw [show R 105 (o + 0) = nI (P 4 0) from by rw [← e4]; exact MR.2.1.1]
        exact nI_1 _
      rw [en]
      exact hf_M_now MR (by omega) (fun a k q => up2_n (fun z => q z)) (up2_s _ _ _ _)
    · intro j hj ih R MR fr
      have ep : R 98 2 = nI (P 2 0) := by rw [← B2 j]; exact MR.1.1
      refine hk_run2 (hk_call_m d) 100 ?_
      refine And.intro (fun c => absurd c (by rw [ep]; exact nI_ge hj (by omega))) (fun c => ?_)
      refine sp_mruns (by omega) MR rfl (by rw [B2 j]; exact hj) (fun R' MR' fr' => ?_)
      refine Exists.intro [0, 1, 2, 3] ?_
      rw [nI_1]
      exact hk_stop2 (hk_call_m d) (ih R' MR' (hfr_tr fr fr'))
  refine hk_run2 (hk_call_m d) 100 ?_
  refine sp_mblows (by omega) M e1 e2 hdir hf (fun R MR fr => ?_)
  refine w_rn (hk_stop2 (hk_call_m d) (hk_run2 (hk_call_m d) 2 ?_))
  exact L 0 (Nat.zero_le _) R MR fr
set_option maxHeartbeats 400000 in
theorem sp_mgo {d : Nat} (hd : 5 < d) {R0 : Nat → Nat → Int32} {X : hk_D} {Q : hk_Q} {v1 : Int32} {o n : Nat} {P : hP} (M : hf_M o P R0) (e1 : v1 = nI n) (hn : n ≤ 1000) (hQ : ∀ R', hf_M o (hf_hours n P) R' → hfr o R0 R' → Q none (hw R' X)) : hk_call d mM_go [.ref 98, .int v1] (hw R0 X) Q := by
  obtain ⟨d, rfl⟩ : ∃ e, d = e + 1 := ⟨d - 1, by omega⟩
  subst e1
  have L : ∀ j, j ≤ n → ∀ R S, hf_M o S R → hfr o R0 R → hf_hours (n - j) S = hf_hours n P → hk_wp none 0 0 hk_dft cM_go (hk_call d) (hk_qe Q) 2 [(2, .int (nI j)), (0, .ref 98), (1, .int (nI n))] [] (hw R X) 0 0 := by
    refine hk_for ?_ ?_
    · intro R S MR fr e
      refine hk_run2 (hk_call_m d) 100 ?_
      refine And.intro (fun c => ?_) (fun c => absurd (nI_le (Nat.le_refl _) (by omega)) c)
      rw [Nat.sub_self] at e
      rw [← e] at hQ
      exact hk_qe_of (hQ R MR fr)
    · intro j hj ih R S MR fr e
      have ho := MR.2.2.1
      have h18 := MR.2.2.2.1
      have h200 := MR.2.2.2.2.2.2.1
      have enow : R 105 (o + 0) = nI (S 4 0) := MR.2.1.1
      have hm : S 4 0 % 24 < 24 := Nat.mod_lt _ (by decide)
      have ew := MR.1.2.2.1 (S 4 0 % 24) hm
      have hw := MR.2.2.2.2.2.2.2.1 (S 4 0 % 24) hm
      rw [show n - j = (n - (j + 1)) + 1 from by omega, hf_hours] at e
      refine hk_run2 (hk_call_m d) 200 ?_
      refine And.intro (fun c => absurd c (nI_ge hj (by omega))) (fun c => ?_)
      refine sp_its (by omega) ho (j := 0) rfl (by omega) ?_
      rw [enow]
      refine And.intro (fun c => ?_) (fun c => ?_)
      · have : 96 ≤ S 4 0 := (nI_leI (b := S 4 0) (a := 96) (by omega) (by omega)).mp c
        rw [if_neg (by omega)] at e
        rw [← e] at hQ
        exact hk_qe_of (hQ R MR fr)
      · have hlt : S 4 0 < 96 := by
          rcases Nat.lt_or_ge (S 4 0) 96 with q | q
          · exact q
          · exact absurd (nI_le (a := 96) q (by omega)) c
        rw [if_pos hlt] at e
        refine sp_its (by omega) ho (j := 0) rfl (by omega) ?_
        rw [enow]
        have er : hk_rem (nI (S 4 0)) 24 = nI (S 4 0 % 24) := hn_rem (b := 24) (by omega) (by omega) (by omega)
        refine And.intro (by decide) ?_
        refine w_ld (j := S 4 0 % 24) (n := 24) er rfl hm (by omega) rfl ew.1 ?_
        refine w_ld (j := S 4 0 % 24) (n := 24) er rfl hm (by omega) rfl ew.2 ?_
        refine sp_mhourGoes (by omega) MR (by omega) rfl rfl hw.1 hw.2 (fun R' MR' fr' => ?_)
        refine Exists.intro [0, 2, 3] ?_
        rw [nI_1]
        exact hk_stop2 (hk_call_m d) (ih R' _ MR' (hfr_tr fr fr') e)
  refine hk_run2 (hk_call_m d) 2 ?_
  exact L 0 (Nat.zero_le _) R0 P M hfr_rf rfl
/-! the trial's row -/
def hft (R R' : Nat → Nat → Int32) : Prop := ∀ a k, ¬ (a = 105 ∧ 18 ≤ k) → R' a k = R a k
def hft2 (R R' : Nat → Nat → Int32) : Prop := ∀ a k, ¬ (a = 105 ∧ 18 ≤ k) → ¬ (a = 98 ∧ k = 9) → R' a k = R a k
theorem hft2_go {R R1 R2 : Nat → Nat → Int32} (h : hft2 R R1) (g : hfr 18 R1 R2) : hft2 R R2 := fun a k q1 q2 => (g a k (fun z => q1 ⟨z.1, z.2.1⟩)).trans (h a k q1 q2)
theorem hft2_end {R R1 : Nat → Nat → Int32} (h0 : R 98 9 = nI 0) (h : hft2 R R1) : hft R (up2 R1 98 9 0) := by
  intro a k q
  by_cases z : a = 98 ∧ k = 9
  · obtain ⟨rfl, rfl⟩ := z
    rw [up2_s, h0]; rfl
  · rw [up2_n z]; exact h a k q z
theorem hf_M_t {P : hP} {R R' : Nat → Nat → Int32} (M : hf_M 0 P R) (h : hft R R') : hf_M 0 P R' := by
  obtain ⟨MS, MD, ho, h18, ok⟩ := M
  have h6 := ok.2.1
  have h5 := ok.1
  have ne : ∀ a k, a ≠ 105 → R' a k = R a k := fun a k q => h a k (fun z => q z.1)
  refine ⟨⟨?_, ?_, ?_, ?_, ?_⟩, ⟨?_, ?_, ?_⟩, ?_, h18, ok⟩
  · rw [ne _ _ (by decide)]; exact MS.1
  · rw [ne _ _ (by decide)]; exact MS.2.1
  · intro i hi
    rw [ne _ _ (by decide), ne _ _ (by decide)]; exact MS.2.2.1 i hi
  · intro p hp
    rw [ne _ _ (by decide)]; exact MS.2.2.2.1 p hp
  · intro i hi
    rw [ne _ _ (by decide), ne _ _ (by decide), ne _ _ (by decide)]; exact MS.2.2.2.2 i hi
  · rw [h _ _ (by omega)]; exact MD.1
  · intro p hp
    rw [h _ _ (by omega)]; exact MD.2.1 p hp
  · intro i hi
    rw [h _ _ (by omega), h _ _ (by omega)]; exact MD.2.2 i hi
  · rw [ne _ _ (by decide)]; exact ho
theorem hf_M_18 {P : hP} {R R' : Nat → Nat → Int32} (M : hf_M 0 P R) (h : hft2 R R') (hr : ∀ k, k < 18 → R' 105 (18 + k) = R 105 k) (h9 : R' 98 9 = nI 18) : hf_M 18 P R' := by
  obtain ⟨MS, MD, ho, h18, ok⟩ := M
  have h6 := ok.2.1
  have h5 := ok.1
  have ne : ∀ a k, a ≠ 105 → ¬ (a = 98 ∧ k = 9) → R' a k = R a k := fun a k q q2 => h a k (fun z => q z.1) q2
  refine ⟨⟨?_, ?_, ?_, ?_, ?_⟩, ⟨?_, ?_, ?_⟩, h9, Nat.le_refl _, ok⟩
  · rw [ne _ _ (by decide) (by decide)]; exact MS.1
  · rw [ne _ _ (by decide) (by decide)]; exact MS.2.1
  · intro i hi
    rw [ne _ _ (by decide) (by omega), ne _ _ (by decide) (by omega)]; exact MS.2.2.1 i hi
  · intro p hp
    rw [ne _ _ (by decide) (by omega)]; exact MS.2.2.2.1 p hp
  · intro i hi
    rw [ne _ _ (by decide) (by omega), ne _ _ (by decide) (by omega), ne _ _ (by decide) (by omega)]; exact MS.2.2.2.2 i hi
  · rw [show R' 105 18 = R 105 0 from hr 0 (by omega)]; exact MD.1
  · intro p hp
    rw [hr _ (by omega)]
    have := MD.2.1 p hp
    rw [Nat.zero_add] at this; exact this
  · intro i hi
    rw [hr _ (by omega), hr _ (by omega)]
    have := MD.2.2 i hi
    rw [Nat.zero_add, Nat.zero_add] at this; exact this
set_option maxHeartbeats 400000 in
theorem sp_mlends {d : Nat} (hd : 0 < d) {R0 : Nat → Nat → Int32} {X : hk_D} {Q : hk_Q} {P : hP} (M : hf_M 0 P R0) (hQ : ∀ R', hf_M 18 P R' → hft2 R0 R' → Q none (hw R' X)) : hk_call d mM_lends [.ref 98] (hw R0 X) Q := by
  obtain ⟨d, rfl⟩ : ∃ e, d = e + 1 := ⟨d - 1, by omega⟩
  have L : ∀ j, j ≤ 18 → ∀ R, (∀ k, k < j → R 105 (18 + k) = R0 105 k) → hft R0 R → hk_wp none 0 0 hk_dft cM_lends (hk_call d) (hk_qe Q) 5 [(1, .int (nI j)), (0, .ref 98)] [] (hw R X) 0 0 := by
    refine hk_for ?_ ?_
    · intro R hr fr
      refine hk_run2 (hk_call_m d) 100 ?_
      refine And.intro (fun c => ?_) (fun c => absurd (nI_le (Nat.le_refl 18) (by omega)) c)
      refine w_put trivial rfl rfl ?_
      have f2 : hft2 R0 (up2 R 98 9 18) := fun a k q1 q2 => by rw [up2_n q2]; exact fr a k q1
      refine hk_qe_of (hQ _ (hf_M_18 M f2 ?_ (up2_s _ _ _ _)) f2)
      intro k hk
      rw [up2_a (by decide)]; exact hr k hk
    · intro j hj ih R hr fr
      refine hk_run2 (hk_call_m d) 100 ?_
      refine And.intro (fun c => absurd c (show ¬ nI 18 ≤ nI j from nI_ge hj (by omega))) (fun c => ?_)
      refine w_ld (j := j) (n := 36) rfl rfl (by omega) (by omega) rfl (fr 105 j (by omega)) ?_
      refine w_st (t := 0) (j := 18 + j) (n := 36) (by rw [← nI_add]; rfl) rfl (by omega) (by omega) rfl rfl ?_
      refine Exists.intro [0, 1] ?_
      rw [nI_1]
      refine hk_stop2 (hk_call_m d) (ih _ ?_ ?_)
      · intro k hk
        by_cases q : k = j
        · subst q; rw [up2_s]
        · rw [up2_n (by omega)]; exact hr k (by omega)
      · intro a k q
        rw [up2_n (by omega)]; exact fr a k q
  refine hk_run2 (hk_call_m d) 100 ?_
  refine w_put trivial rfl rfl ?_
  refine hk_stop2 (hk_call_m d) (hk_run2 (hk_call_m d) 2 ?_)
  refine L 0 (Nat.zero_le _) _ (fun k hk => absurd hk (Nat.not_lt_zero k)) (fun a k q => ?_)
  by_cases z : a = 98 ∧ k = 9
  · obtain ⟨rfl, rfl⟩ := z
    rw [up2_s, M.2.2.1]; rfl
  · rw [up2_n z]
