/-! THE REFERENCE: people run; hours go -/
def ap_v (a b : Nat) : Int32 := (if 0 ≤ hk_rem (nI a) 5 - hk_rem (nI b) 5 then hk_rem (nI a) 5 - hk_rem (nI b) 5 else 0 - (hk_rem (nI a) 5 - hk_rem (nI b) 5)) + (if 0 ≤ nI a / 5 - nI b / 5 then nI a / 5 - nI b / 5 else 0 - (nI a / 5 - nI b / 5))
theorem ap_ok : ∀ a, a < 25 → ∀ b, b < 25 → ap_v a b = nI (hf_dist a b) := by decide +kernel
theorem sp_apart {d : Nat} (hd : 0 < d) {h : hk_Hp} {Q : hk_Q} {v w : Int32} {a b : Nat} (ev : v = nI a) (ew : w = nI b) (ha : a < 25) (hb : b < 25) (hQ : Q (some (.int (nI (hf_dist a b)))) h) : hk_call d mM_apart [.int v, .int w] h Q := by
  obtain ⟨d, rfl⟩ : ∃ e, d = e + 1 := ⟨d - 1, by omega⟩
  subst ev; subst ew
  have e := ap_ok a ha b hb
  unfold ap_v at e
  rw [← e] at hQ
  refine hk_run2 (hk_call_m d) 100 ?_
  refine And.intro (by decide) (And.intro (by decide) (And.intro (by decide) (And.intro (by decide) ?_)))
  refine And.intro (fun c => ?_) (fun c => ?_)
  · refine And.intro (fun c2 => ?_) (fun c2 => ?_)
    · rw [if_pos c, if_pos c2] at hQ; exact hk_qe_of hQ
    · rw [if_pos c, if_neg c2] at hQ; exact hk_qe_of hQ
  · refine And.intro (fun c2 => ?_) (fun c2 => ?_)
    · rw [if_neg c, if_pos c2] at hQ; exact hk_qe_of hQ
    · rw [if_neg c, if_neg c2] at hQ; exact hk_qe_of hQ
def st_v (f t : Nat) : Int32 := if 0 ≤ hk_rem (nI f) 5 - hk_rem (nI t) 5 then (if hk_rem (nI f) 5 - hk_rem (nI t) 5 ≤ 0 then (if nI t ≤ nI f then (if nI f ≤ nI t then nI f else nI f - 5) else nI f + 5) else nI f - 1) else nI f + 1
theorem st_ok : ∀ f, f < 25 → ∀ t, t < 25 → st_v f t = nI (hf_st1 f t) := by decide +kernel
theorem sp_stepTo {d : Nat} (hd : 0 < d) {h : hk_Hp} {Q : hk_Q} {v w : Int32} {a b : Nat} (ev : v = nI a) (ew : w = nI b) (ha : a < 25) (hb : b < 25) (hQ : Q (some (.int (nI (hf_st1 a b)))) h) : hk_call d mM_stepTo [.int v, .int w] h Q := by
  obtain ⟨d, rfl⟩ : ∃ e, d = e + 1 := ⟨d - 1, by omega⟩
  subst ev; subst ew
  have e := st_ok a ha b hb
  unfold st_v at e
  rw [← e] at hQ
  refine hk_run2 (hk_call_m d) 100 ?_
  refine And.intro (by decide) (And.intro (by decide) ?_)
  refine And.intro (fun c => ?_) (fun c => ?_)
  · rw [if_pos c] at hQ
    refine And.intro (fun c => ?_) (fun c => ?_)
    · rw [if_pos c] at hQ
      refine And.intro (fun c => ?_) (fun c => ?_)
      · rw [if_pos c] at hQ
        refine And.intro (fun c => ?_) (fun c => ?_)
        · rw [if_pos c] at hQ; exact hk_qe_of hQ
        · rw [if_neg c] at hQ; exact hk_qe_of hQ
      · rw [if_neg c] at hQ; exact hk_qe_of hQ
    · rw [if_neg c] at hQ; exact hk_qe_of hQ
  · rw [if_neg c] at hQ; exact hk_qe_of hQ
/-- one person is elsewhere -/
theorem hf_M_place {o j q : Nat} {P : hP} {R R' : Nat → Nat → Int32} (M : hf_M o P R) (hj : j < P 2 0) (hq : q < 25) (hs : ∀ a k, ¬ (a = 105 ∧ k = o + (1 + j)) → R' a k = R a k) (h1 : R' 105 (o + (1 + j)) = nI q) : hf_M o (hf_up P 5 j q) R' := by
  obtain ⟨MS, MD, ho, h18, ok⟩ := M
  have h6 := ok.2.1
  have h5 := ok.1
  have ne : ∀ a k, a ≠ 105 → R' a k = R a k := fun a k h => hs a k (fun z => h z.1)
  have P2 : hf_up P 5 j q 2 0 = P 2 0 := hf_up_r (by decide)
  have P3 : hf_up P 5 j q 3 0 = P 3 0 := hf_up_r (by decide)
  refine ⟨⟨?_, ?_, ?_, ?_, ?_⟩, ⟨?_, ?_, ?_⟩, ?_, h18, ⟨?_, ?_, ?_, ?_, ?_, ?_⟩⟩
  · rw [ne _ _ (by decide), P2]; exact MS.1
  · rw [ne _ _ (by decide), P3]; exact MS.2.1
  · intro i hi
    rw [ne _ _ (by decide), ne _ _ (by decide), hf_up_r (by decide), hf_up_r (by decide)]; exact MS.2.2.1 i hi
  · intro p hp
    rw [P2] at hp
    rw [ne _ _ (by decide), hf_up_r (by decide)]; exact MS.2.2.2.1 p hp
  · intro i hi
    rw [P3] at hi
    rw [ne _ _ (by decide), ne _ _ (by decide), ne _ _ (by decide), hf_up_r (by decide), hf_up_r (by decide), hf_up_r (by decide)]; exact MS.2.2.2.2 i hi
  · rw [hs _ _ (by omega), hf_up_r (by decide)]; exact MD.1
  · intro p hp
    rw [P2] at hp
    by_cases hij : p = j
    · subst hij; rw [hf_up_s]; exact h1
    · rw [hs _ _ (by omega), hf_up_j hij]; exact MD.2.1 p hp
  · intro i hi
    rw [P3] at hi
    rw [hs _ _ (by omega), hs _ _ (by omega), hf_up_r (by decide)]
    exact MD.2.2 i hi
  · rw [ne _ _ (by decide)]; exact ho
  · rw [P2]; exact ok.1
  · rw [P3]; exact ok.2.1
  · rw [hf_up_r (by decide)]; exact ok.2.2.1
  · intro i hi
    rw [hf_up_r (by decide), hf_up_r (by decide)]; exact ok.2.2.2.1 i hi
  · intro p hp
    rw [P2] at hp
    rw [hf_up_r (show 6 ≠ 5 by decide)]
    by_cases hij : p = j
    · subst hij; rw [hf_up_s]; exact ⟨hq, (ok.2.2.2.2.1 p hp).2⟩
    · rw [hf_up_j hij]; exact ok.2.2.2.2.1 p hp
  · intro i hi
    rw [P3] at hi
    rw [hf_up_r (by decide), hf_up_r (by decide), hf_up_r (by decide), hf_up_r (by decide), P2]
    exact ok.2.2.2.2.2 i hi
/-- it is another hour -/
theorem hf_M_now {o q : Nat} {P : hP} {R R' : Nat → Nat → Int32} (M : hf_M o P R) (hq : q ≤ 200) (hs : ∀ a k, ¬ (a = 105 ∧ k = o) → R' a k = R a k) (h1 : R' 105 o = nI q) : hf_M o (hf_up P 4 0 q) R' := by
  obtain ⟨MS, MD, ho, h18, ok⟩ := M
  have ne : ∀ a k, a ≠ 105 → R' a k = R a k := fun a k h => hs a k (fun z => h z.1)
  have rr : ∀ r j, r ≠ 4 → hf_up P 4 0 q r j = P r j := fun r j h => hf_up_r h
  refine ⟨⟨?_, ?_, ?_, ?_, ?_⟩, ⟨?_, ?_, ?_⟩, ?_, h18, ⟨?_, ?_, ?_, ?_, ?_, ?_⟩⟩
  · rw [ne _ _ (by decide), rr _ _ (by decide)]; exact MS.1
  · rw [ne _ _ (by decide), rr _ _ (by decide)]; exact MS.2.1
  · intro i hi
    rw [ne _ _ (by decide), ne _ _ (by decide), rr _ _ (by decide), rr _ _ (by decide)]; exact MS.2.2.1 i hi
  · intro p hp
    rw [rr _ _ (by decide)] at hp
    rw [ne _ _ (by decide), rr _ _ (by decide)]; exact MS.2.2.2.1 p hp
  · intro i hi
    rw [rr _ _ (by decide)] at hi
    rw [ne _ _ (by decide), ne _ _ (by decide), ne _ _ (by decide), rr _ _ (by decide), rr _ _ (by decide), rr _ _ (by decide)]; exact MS.2.2.2.2 i hi
  · rw [hf_up_s]; exact h1
  · intro p hp
    rw [rr _ _ (by decide)] at hp
    rw [hs _ _ (by omega), rr _ _ (by decide)]; exact MD.2.1 p hp
  · intro i hi
    rw [rr _ _ (by decide)] at hi
    rw [hs _ _ (by omega), hs _ _ (by omega), rr _ _ (by decide)]; exact MD.2.2 i hi
  · rw [ne _ _ (by decide)]; exact ho
  · rw [rr _ _ (by decide)]; exact ok.1
  · rw [rr _ _ (by decide)]; exact ok.2.1
  · rw [hf_up_s]; exact hq
  · intro i hi
    rw [rr _ _ (by decide), rr _ _ (by decide)]; exact ok.2.2.2.1 i hi
  · intro p hp
    rw [rr _ _ (by decide)] at hp
    rw [rr _ _ (by decide), rr _ _ (by decide)]; exact ok.2.2.2.2.1 p hp
  · intro i hi
    rw [rr _ _ (by decide)] at hi
    rw [rr _ _ (by decide), rr _ _ (by decide), rr _ _ (by decide), rr _ _ (by decide), rr _ _ (by decide)]; exact ok.2.2.2.2.2 i hi
theorem hf_near_ok (P : hP) (pl : Nat) : ∀ n, hf_near P pl n = 99 ∨ (hf_near P pl n < n ∧ P 10 (hf_near P pl n) < 25)
  | 0 => Or.inl rfl
  | n + 1 => by
    unfold hf_near
    split
    · rename_i h; exact Or.inr ⟨Nat.lt_succ_self n, h.1⟩
    · rcases hf_near_ok P pl n with h | h
      · exact Or.inl h
      · exact Or.inr ⟨Nat.lt_succ_of_lt h.1, h.2⟩
theorem w_rv {v : Value} {st : List Value} {K : List Value → Prop} (g : K (v :: st)) : hk_rv (some v) st K := g
def hf_bI (x : Nat) : Int32 := if x = 99 then -1 else nI x
set_option maxHeartbeats 400000 in
theorem sp_mruns {d : Nat} (hd : 3 < d) {R0 : Nat → Nat → Int32} {X : hk_D} {Q : hk_Q} {v1 : Int32} {o p : Nat} {P : hP} (M : hf_M o P R0) (e1 : v1 = nI p) (hp : p < P 2 0) (hQ : ∀ R', hf_M o (hf_person P p) R' → hfr o R0 R' → Q none (hw R' X)) : hk_call d mM_runs [.ref 98, .int v1] (hw R0 X) Q := by
  obtain ⟨d, rfl⟩ : ∃ e, d = e + 1 := ⟨d - 1, by omega⟩
  subst e1
  have M0 := M
  obtain ⟨MS, MD, ho, h18, ok⟩ := M0
  have h6 := ok.2.1
  have h5 := ok.1
  have eh : R0 98 4 = nI (P 3 0) := MS.2.1
  have hpl := (ok.2.2.2.2.1 p hp).1
  have hsp := (ok.2.2.2.2.1 p hp).2
  have epl := MD.2.1 p hp
  -- the third loop
  have L3 : ∀ t P1, t < 25 → P1 = hf_up P 5 p t → ∀ j, j ≤ P 3 0 → ∀ R, hf_M o (hf_puton P1 p t j) R → hfr o R0 R → (∀ R', hf_M o (hf_puton P1 p t (P 3 0)) R' → hfr o R0 R' → Q none (hw R' X)) → ∀ b : Int32, hk_wp none 0 0 hk_dft cM_runs (hk_call d) (hk_qe Q) 81 [(4, .int (nI j)), (3, .int (nI t)), (2, .int b), (0, .ref 98), (1, .int (nI p))] [] (hw R X) 0 0 := by
    intro t P1 ht eP1
    refine hk_for ?_ ?_
    · intro R MR fr hQ b
      have eh : R 98 4 = nI (P 3 0) := by rw [fr 98 4 (by omega)]; exact eh
      refine hk_run2 (hk_call_m d) 100 ?_
      refine And.intro (fun c => hk_qe_of (hQ R MR fr)) (fun c => ?_)
      exact absurd (by rw [eh]; exact nI_le (Nat.le_refl _) (by omega)) c
    · intro j hj ih R MR fr hQ b
      have eh : R 98 4 = nI (P 3 0) := by rw [fr 98 4 (by omega)]; exact eh
      have n3 : hf_puton P1 p t j 3 0 = P 3 0 := by unfold hf_puton; rw [if_neg (by omega), eP1, hf_up_r (by decide)]
      have n2 : hf_puton P1 p t j 2 0 = P 2 0 := by unfold hf_puton; rw [if_neg (by omega), eP1, hf_up_r (by decide)]
      have eq : hf_puton P1 p t j 10 j = P1 10 j := by unfold hf_puton; rw [if_neg (by omega)]
      have hj' : j < hf_puton P1 p t j 3 0 := by rw [n3]; exact hj
      have ho := MR.2.2.1
      have hmd := MR.2.1.2.2 j hj'
      rw [eq] at hmd
      have back : ¬ P1 10 j = t → hk_wp none 0 0 hk_dft cM_runs (hk_call d) (hk_qe Q) 102 [(4, .int (nI j)), (3, .int (nI t)), (2, .int b), (0, .ref 98), (1, .int (nI p))] [] (hw R X) 0 0 := by
        intro q
        refine hk_run2 (hk_call_m d) 100 ?_
        refine Exists.intro [0, 1, 2, 3, 4] ?_
        rw [nI_1]
        exact hk_stop2 (hk_call_m d) (ih R (by rw [hf_puton_s, if_neg q]; exact MR) fr hQ b)
      refine hk_run2 (hk_call_m d) 200 ?_
      refine And.intro (fun c => absurd c (by rw [eh]; exact nI_ge hj (by omega))) (fun c => ?_)
      refine sp_isLying (by omega) MR hj' rfl (fun hl => ?_) (fun hl => ?_)
      · rw [eq] at hl
        refine And.intro (fun c => absurd c (by decide)) (fun _ => ?_)
        refine sp_its (by omega) ho (j := 12 + j) (by rw [← nI_add]; rfl) (by omega) ?_
        rw [hmd.2.1 hl]
        refine And.intro (fun c => ?_) (fun c => ?_)
        · have hqt : P1 10 j = t := (nI_eq (by omega) (by omega)).mp c
          refine sp_becomes (by omega) ho (j := 6 + j) (by rw [← nI_add]; rfl) (by omega) ?_
          refine Exists.intro [0, 1, 2, 3, 4] ?_
          rw [nI_1]
          refine hk_stop2 (hk_call_m d) (ih _ ?_ (hfr_tr fr (hfr_up (by omega))) hQ b)
          rw [hf_puton_s, if_pos hqt]
          refine hf_M_hat MR hj' (Or.inr (Or.inl ⟨by omega, by rw [n2]; omega⟩)) (fun a k q => up2_n (fun z => q ⟨z.1, Or.inl z.2⟩)) ?_ (fun q => by omega) (fun q => by omega)
          rw [up2_s, hf_mw_w (by omega)]
          congr 1; omega
        · exact hk_stop2 (hk_call_m d) (back (fun q => c (by rw [q])))
      · rw [eq] at hl
        refine And.intro (fun _ => ?_) (fun c => absurd rfl c)
        exact hk_stop2 (hk_call_m d) (back (by omega))
  -- the second loop
  have L2 : ∀ t, t < 25 → (∀ R', hf_M o (if hf_runs (P 6 p) (P 5 p) t = t then hf_puton (hf_up P 5 p t) p t (P 3 0) else hf_up P 5 p (hf_runs (P 6 p) (P 5 p) t)) R' → hfr o R0 R' → Q none (hw R' X)) → ∀ b : Int32, ∀ j, j ≤ P 6 p → ∀ R, hf_M o (hf_up P 5 p (hf_runs j (P 5 p) t)) R → hfr o R0 R → hk_wp none 0 0 hk_dft cM_runs (hk_call d) (hk_qe Q) 52 [(4, .int (nI j)), (3, .int (nI t)), (2, .int b), (0, .ref 98), (1, .int (nI p))] [] (hw R X) 0 0 := by
    intro t ht hQ b
    have hrl : ∀ k, hf_runs k (P 5 p) t < 25 := hf_runs_lt hpl ht
    refine hk_for ?_ ?_
    · intro R MR fr
      have es : R 101 p = nI (P 6 p) := by rw [fr 101 p (by omega)]; exact MS.2.2.2.1 p hp
      have ep := MR.2.1.2.1 p (by rw [hf_up_r (by decide)]; exact hp)
      rw [hf_up_s] at ep
      have ho := MR.2.2.1
      refine hk_run2 (hk_call_m d) 100 ?_
      refine w_ld (j := p) (n := 5) rfl rfl (by omega) (by omega) rfl es ?_
      refine And.intro (fun c => ?_) (fun c => absurd (nI_le (Nat.le_refl _) (by omega)) c)
      refine sp_its (by omega) ho (j := 1 + p) (by rw [← nI_add]; rfl) (by omega) ?_
      rw [ep]
      refine And.intro (fun c => ?_) (fun c => ?_)
      · have hrt : hf_runs (P 6 p) (P 5 p) t = t := (nI_eq (by have := hrl (P 6 p); omega) (by omega)).mp c
        rw [if_pos hrt] at hQ
        rw [hrt] at MR
        refine hk_stop2 (hk_call_m d) (hk_run2 (hk_call_m d) 2 ?_)
        exact L3 t _ ht rfl 0 (Nat.zero_le _) R (by rw [hf_puton_0]; exact MR) fr hQ b
      · have hrt : ¬ hf_runs (P 6 p) (P 5 p) t = t := fun q => c (by rw [q])
        rw [if_neg hrt] at hQ
        exact hk_qe_of (hQ R MR fr)
    · intro j hj ih R MR fr
      have es : R 101 p = nI (P 6 p) := by rw [fr 101 p (by omega)]; exact MS.2.2.2.1 p hp
      have ep := MR.2.1.2.1 p (by rw [hf_up_r (by decide)]; exact hp)
      rw [hf_up_s] at ep
      have ho := MR.2.2.1
      refine hk_run2 (hk_call_m d) 100 ?_
      refine w_ld (j := p) (n := 5) rfl rfl (by omega) (by omega) rfl es ?_
      refine And.intro (fun c => absurd c (nI_ge hj (by omega))) (fun c => ?_)
      refine sp_its (by omega) ho (j := 1 + p) (by rw [← nI_add]; rfl) (by omega) ?_
      refine sp_stepTo (by omega) ep rfl (hrl j) ht ?_
      refine sp_becomes (by omega) ho (j := 1 + p) (by rw [← nI_add]; rfl) (by omega) ?_
      refine Exists.intro [0, 1, 2, 3, 4] ?_
      rw [nI_1]
      refine hk_stop2 (hk_call_m d) (ih _ ?_ (hfr_tr fr (hfr_up (by omega))))
      have e : hf_up P 5 p (hf_runs (j + 1) (P 5 p) t) = hf_up (hf_up P 5 p (hf_runs j (P 5 p) t)) 5 p (hf_st1 (hf_runs j (P 5 p) t) t) := by
        funext r i
        unfold hf_up
        by_cases q : r = 5 ∧ i = p
        · rw [if_pos q, if_pos q]; rfl
        · rw [if_neg q, if_neg q, if_neg q]
      rw [e]
      exact hf_M_place MR (by rw [hf_up_r (by decide)]; exact hp) (hf_st1_lt _ (hrl j) t ht) (fun a k q => up2_n (fun z => q z)) (up2_s _ _ _ _)
  -- the first loop
  have L1 : ∀ j, j ≤ P 3 0 → hk_wp none 0 0 hk_dft cM_runs (hk_call d) (hk_qe Q) 4 [(3, .int (nI j)), (2, .int (hf_bI (hf_near P (P 5 p) j))), (0, .ref 98), (1, .int (nI p))] [] (hw R0 X) 0 0 := by
    refine hk_for ?_ ?_
    · refine hk_run2 (hk_call_m d) 100 ?_
      refine And.intro (fun c => ?_) (fun c => absurd (by rw [eh]; exact nI_le (Nat.le_refl _) (by omega)) c)
      unfold hf_person at hQ
      rcases hf_near_ok P (P 5 p) (P 3 0) with hn | ⟨hn1, hn2⟩
      · rw [hn, show hf_bI 99 = -1 from rfl]
        rw [if_pos hn] at hQ
        refine And.intro (fun c => absurd c hn_neg1) (fun _ => ?_)
        exact hk_qe_of (hQ R0 M hfr_rf)
      · have hne : hf_near P (P 5 p) (P 3 0) ≠ 99 := by omega
        rw [if_neg hne] at hQ
        generalize hf_near P (P 5 p) (P 3 0) = b at *
        rw [show hf_bI b = nI b from if_neg hne]
        refine And.intro (fun _ => ?_) (fun c => absurd (hn_pos (by omega)) c)
        refine sp_its (by omega) ho (j := 12 + b) (by rw [← nI_add]; rfl) (by omega) ?_
        rw [(MD.2.2 b hn1).2.1 hn2]
        have e0 : hf_up P 5 p (hf_runs 0 (P 5 p) (P 10 b)) = P := hf_upself P 5 p
        refine w_rv (hk_stop2 (hk_call_m d) (hk_run2 (hk_call_m d) 3 ?_))
        refine L2 (P 10 b) hn2 (fun R' MR' fr' => hQ R' ?_ fr') (nI b) 0 (Nat.zero_le _) R0 (by rw [e0]; exact M) hfr_rf
        exact MR'
    · intro j hj ih
      have hmd := MD.2.2 j hj
      have back : hf_near P (P 5 p) (j + 1) = hf_near P (P 5 p) j → hk_wp none 0 0 hk_dft cM_runs (hk_call d) (hk_qe Q) 39 [(3, .int (nI j)), (2, .int (hf_bI (hf_near P (P 5 p) j))), (0, .ref 98), (1, .int (nI p))] [] (hw R0 X) 0 0 := by
        intro q
        refine hk_run2 (hk_call_m d) 100 ?_
        refine Exists.intro [0, 1, 2, 3] ?_
        rw [nI_1]
        rw [q] at ih
        exact hk_stop2 (hk_call_m d) ih
      have take : hf_near P (P 5 p) (j + 1) = j → ∀ b, hk_wp none 0 0 hk_dft cM_runs (hk_call d) (hk_qe Q) 37 [(3, .int (nI j)), (2, .int b), (0, .ref 98), (1, .int (nI p))] [] (hw R0 X) 0 0 := by
        intro q b
        refine hk_run2 (hk_call_m d) 100 ?_
        refine Exists.intro [0, 1, 2, 3] ?_
        rw [nI_1]
        rw [q, show hf_bI j = nI j from if_neg (by omega)] at ih
        exact hk_stop2 (hk_call_m d) ih
      refine hk_run2 (hk_call_m d) 200 ?_
      refine And.intro (fun c => absurd c (by rw [eh]; exact nI_ge hj (by omega))) (fun c => ?_)
      refine sp_isLying (by omega) M hj rfl (fun hl => ?_) (fun hl => ?_)
      · refine And.intro (fun c => absurd c (by decide)) (fun _ => ?_)
        rcases hf_near_ok P (P 5 p) j with hn | ⟨hn1, hn2⟩
        · have et : hf_near P (P 5 p) (j + 1) = j := if_pos ⟨hl, Or.inl hn⟩
          refine And.intro (fun _ => ?_) (fun c => absurd (by rw [hn]; decide) c)
          exact hk_stop2 (hk_call_m d) (take et _)
        · have hne : hf_near P (P 5 p) j ≠ 99 := by omega
          have ebI : hf_bI (hf_near P (P 5 p) j) = nI (hf_near P (P 5 p) j) := if_neg hne
          rw [ebI] at back ⊢
          refine And.intro (fun c => absurd c (hn_npos (by omega))) (fun _ => ?_)
          refine sp_its (by omega) ho (j := 1 + p) (by rw [← nI_add]; rfl) (by omega) ?_
          refine sp_its (by omega) ho (j := 12 + j) (by rw [← nI_add]; rfl) (by omega) ?_
          refine sp_apart (by omega) epl (hmd.2.1 hl) hpl hl ?_
          refine sp_its (by omega) ho (j := 1 + p) (by rw [← nI_add]; rfl) (by omega) ?_
          refine sp_its (by omega) ho (j := 12 + hf_near P (P 5 p) j) (by rw [← nI_add]; rfl) (by omega) ?_
          refine sp_apart (by omega) epl ((MD.2.2 _ (by omega)).2.1 hn2) hpl hn2 ?_
          have d1 := hf_dist_lt (P 5 p) hpl (P 10 j) hl
          have d2 := hf_dist_lt (P 5 p) hpl _ hn2
          refine And.intro (fun c => ?_) (fun c => ?_)
          · have hle := (nI_leI (by omega) (by omega)).mp c
            refine hk_stop2 (hk_call_m d) (back (if_neg (fun q => ?_)))
            rcases q.2 with z | z
            · exact hne z
            · omega
          · have hlt : hf_dist (P 5 p) (P 10 j) < hf_dist (P 5 p) (P 10 (hf_near P (P 5 p) j)) := by
              rcases Nat.lt_or_ge (hf_dist (P 5 p) (P 10 j)) (hf_dist (P 5 p) (P 10 (hf_near P (P 5 p) j))) with q | q
              · exact q
              · exact absurd (nI_le q (by omega)) c
            exact hk_stop2 (hk_call_m d) (take (if_pos ⟨hl, Or.inr hlt⟩) _)
      · refine And.intro (fun _ => ?_) (fun c => absurd rfl c)
        exact hk_stop2 (hk_call_m d) (back (if_neg (fun q => hl q.1)))
  refine hk_run2 (hk_call_m d) 4 ?_
  exact L1 0 (Nat.zero_le _)
