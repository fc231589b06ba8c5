/-! THE REFERENCE: lost, master, calm, the clock -/
def hf_lost (h : Nat) : Nat → Nat → hP → Int32
  | 0, _, _ => -3
  | k + 1, j, P => if P 4 0 < 96 then (if hf_pass P 10 h = 30 then nI j else hf_lost h k (j + 1) (hf_pass P)) else -3
def a_lost (P : hP) (v : Int32) : Int32 := match hxi (P 3 0) v with
  | none => -1
  | some h => if P 10 h = 30 then 0 else hf_lost h 48 1 P
theorem hn_now {R : Nat → Nat → Int32} {o : Nat} {S : hP} (M : hf_M o S R) : R 105 (o + 0) = nI (S 4 0) := M.2.1.1
set_option maxHeartbeats 400000 in
theorem sp_mlost {d : Nat} (hd : 7 < d) {R0 : Nat → Nat → Int32} {X : hk_D} {Q : hk_Q} {v : Int32} {P : hP} (M : hf_M 0 P R0) (hQ : ∀ R', hft R0 R' → Q (some (.int (a_lost P v))) (hw R' X)) : hk_call d mM_lost [.ref 98, .int v] (hw R0 X) Q := by
  obtain ⟨d, rfl⟩ : ∃ e, d = e + 1 := ⟨d - 1, by omega⟩
  have h6 := M.2.2.2.2.2.1
  unfold a_lost at hQ
  refine hk_run2 (hk_call_m d) 100 ?_
  refine sp_misHat (by omega) M.1.2.1 h6 (fun h hj ej => ?_) (fun np => ?_)
  · refine And.intro (fun c => absurd c (by decide)) (fun _ => ?_)
    rw [ej, hxi_s hj (by omega)] at hQ
    dsimp only at hQ
    have hj0 := hj
    -- found
    have E : ∀ j, j ≤ 49 → ∀ r : Int32, 0 ≤ r → ∀ R, hft2 R0 R → (∀ R', hft R0 R' → Q (some (.int r)) (hw R' X)) → hk_wp (some .int) 0 0 hk_dft cM_lost (hk_call d) (hk_qe Q) 18 [(3, .int (nI j)), (2, .int r), (0, .ref 98), (1, .int v)] [] (hw R X) 0 0 := by
      intro j hj r hr R f hQ
      refine hk_run2 (hk_call_m d) 100 ?_
      refine And.intro (fun c => ?_) (fun c => ?_)
      · refine w_put trivial rfl rfl ?_
        exact hk_qe_of (hQ _ (hft2_end M.2.2.1 f))
      · refine And.intro (fun c => ?_) (fun c => absurd hr c)
        refine w_put trivial rfl rfl ?_
        exact hk_qe_of (hQ _ (hft2_end M.2.2.1 f))
    have L : ∀ j, j ≤ 49 → ∀ R S, hf_M 18 S R → hft2 R0 R → S 3 0 = P 3 0 → (∀ R', hft R0 R' → Q (some (.int (hf_lost h (49 - j) j S))) (hw R' X)) → hk_wp (some .int) 0 0 hk_dft cM_lost (hk_call d) (hk_qe Q) 18 [(3, .int (nI j)), (2, .int (-3)), (0, .ref 98), (1, .int v)] [] (hw R X) 0 0 := by
      refine hk_for ?_ ?_
      · intro R S MR f e3 hQ
        refine hk_run2 (hk_call_m d) 100 ?_
        refine And.intro (fun c => ?_) (fun c => absurd (by decide) c)
        refine w_put trivial rfl rfl ?_
        exact hk_qe_of (hQ _ (hft2_end M.2.2.1 f))
      · intro j hj ih R S MR f e3 hQ
        have h200 := MR.2.2.2.2.2.2.1
        rw [show 49 - j = (49 - (j + 1)) + 1 from by omega, hf_lost] at hQ
        refine hk_run2 (hk_call_m d) 200 ?_
        refine And.intro (fun c => absurd c (show ¬ nI 48 < nI j from fun q => by rw [hn_lt, hn_i (by omega), hn_i (by omega)] at q; omega)) (fun c => ?_)
        refine And.intro (fun c => absurd c (by decide)) (fun _ => ?_)
        refine sp_its (by omega) MR.2.2.1 (j := 0) rfl (by omega) ?_
        rw [hn_now MR]
        refine And.intro (fun c => ?_) (fun c => ?_)
        · have : 96 ≤ S 4 0 := (nI_leI (b := S 4 0) (a := 96) (by omega) (by omega)).mp c
          rw [if_neg (by omega)] at hQ
          refine w_put trivial rfl rfl ?_
          exact hk_qe_of (hQ _ (hft2_end M.2.2.1 f))
        · have hlt : S 4 0 < 96 := by
            rcases Nat.lt_or_ge (S 4 0) 96 with q | q
            · exact q
            · exact absurd (nI_le (a := 96) q (by omega)) c
          rw [if_pos hlt] at hQ
          refine sp_mgo (by omega) MR (n := 1) rfl (by omega) (fun R2 M2 f2 => ?_)
          rw [show hf_hours 1 S = hf_pass S from if_pos hlt] at M2
          have e3' : hf_pass S 3 0 = P 3 0 := by rw [← e3]; exact hf_hour_r (by decide) (by decide) (by decide)
          refine sp_isGone (by omega) M2 (by rw [e3']; exact hj0) ej (fun hg => ?_) (fun hg => ?_)
          · refine And.intro (fun c => absurd c (by decide)) (fun _ => ?_)
            rw [if_pos hg] at hQ
            refine Exists.intro [0, 1, 2, 3] ?_
            rw [nI_1]
            exact hk_stop2 (hk_call_m d) (E (j + 1) (by omega) (nI j) (hn_pos (by omega)) R2 (hft2_go f f2) hQ)
          · refine And.intro (fun _ => ?_) (fun c => absurd rfl c)
            rw [if_neg hg] at hQ
            refine Exists.intro [0, 1, 2, 3] ?_
            rw [nI_1]
            exact hk_stop2 (hk_call_m d) (ih R2 _ M2 (hft2_go f f2) e3' hQ)
    refine sp_mlends (by omega) M (fun R1 M1 f1 => ?_)
    refine sp_isGone (by omega) M1 hj ej (fun hg => ?_) (fun hg => ?_)
    · refine And.intro (fun c => absurd c (by decide)) (fun _ => ?_)
      rw [if_pos hg] at hQ
      refine hk_stop2 (hk_call_m d) (hk_run2 (hk_call_m d) 5 ?_)
      exact E 1 (by omega) 0 (by decide) R1 f1 hQ
    · refine And.intro (fun _ => ?_) (fun c => absurd rfl c)
      rw [if_neg hg] at hQ
      refine hk_stop2 (hk_call_m d) (hk_run2 (hk_call_m d) 4 ?_)
      exact L 1 (by omega) R1 P M1 f1 rfl hQ
  · refine And.intro (fun _ => ?_) (fun c => absurd rfl c)
    rw [hxi_n (by omega) np] at hQ
    exact hk_qe_of (hQ R0 hft_rf)
theorem hf_owned_le {P : hP} (ok : hf_ok P) (p : Nat) : ∀ n, n ≤ P 3 0 → hf_owned P p n ≤ 100 * n
  | 0, _ => Nat.le_refl _
  | n + 1, h => by
    have := hf_owned_le ok p n (by omega)
    have := (ok.2.2.2.2.2 n (by omega)).2.2.1
    unfold hf_owned
    split <;> omega
theorem hf_own_lt {P : hP} (ok : hf_ok P) (p : Nat) : hf_own P p < 1000 := by
  have := hf_owned_le ok p (P 3 0) (Nat.le_refl _)
  have := ok.2.1
  unfold hf_own; omega
def hf_mst (P : hP) : Nat → Nat
  | 0 => 99
  | n + 1 => if hf_mst P n = 99 ∨ hf_own P (hf_mst P n) < hf_own P n then n else hf_mst P n
theorem hf_mst_ok (P : hP) : ∀ n, hf_mst P n = 99 ∨ hf_mst P n < n
  | 0 => Or.inl rfl
  | n + 1 => by
    unfold hf_mst
    split
    · exact Or.inr (Nat.lt_succ_self n)
    · rcases hf_mst_ok P n with h | h
      · exact Or.inl h
      · exact Or.inr (Nat.lt_succ_of_lt h)
def hf_b3 (x : Nat) : Int32 := if x = 99 then -3 else nI x
def a_master (P : hP) (w : Int32) : Int32 := match hxi 49 w with
  | none => -1
  | some n => hf_b3 (hf_mst (hf_hours n P) (P 2 0))
set_option maxHeartbeats 400000 in
theorem sp_mmaster {d : Nat} (hd : 7 < d) {R0 : Nat → Nat → Int32} {X : hk_D} {Q : hk_Q} {w : Int32} {P : hP} (M : hf_M 0 P R0) (hQ : ∀ R', hft R0 R' → Q (some (.int (a_master P w))) (hw R' X)) : hk_call d mM_master [.ref 98, .int w] (hw R0 X) Q := by
  obtain ⟨d, rfl⟩ : ∃ e, d = e + 1 := ⟨d - 1, by omega⟩
  have h5 := M.2.2.2.2.1
  unfold a_master at hQ
  refine hk_run2 (hk_call_m d) 100 ?_
  refine sp_misTrial (by omega) (fun n hn en => ?_) (fun nn => ?_)
  · refine And.intro (fun c => absurd c (by decide)) (fun _ => ?_)
    rw [en, hxi_s hn (by omega)] at hQ
    dsimp only at hQ
    refine sp_mlends (by omega) M (fun R1 M1 f1 => ?_)
    refine sp_mgo (by omega) M1 en (by omega) (fun R2 M2 f2 => ?_)
    have e2 : hf_hours n P 2 0 = P 2 0 := hf_hours_r (by decide) (by decide) (by decide) n P
    generalize hf_hours n P = S at *
    have ep : R2 98 2 = nI (P 2 0) := by rw [← e2]; exact M2.1.1
    have f := hft2_go f1 f2
    have L : ∀ j, j ≤ P 2 0 → hk_wp (some .int) 0 0 hk_dft cM_master (hk_call d) (hk_qe Q) 14 [(3, .int (nI j)), (2, .int (hf_b3 (hf_mst S j))), (0, .ref 98), (1, .int w)] [] (hw R2 X) 0 0 := by
      refine hk_for ?_ ?_
      · refine hk_run2 (hk_call_m d) 100 ?_
        refine And.intro (fun c => ?_) (fun c => absurd (by rw [ep]; exact nI_le (Nat.le_refl _) (by omega)) c)
        refine w_put trivial rfl rfl ?_
        exact hk_qe_of (hQ _ (hft2_end M.2.2.1 f))
      · intro j hj ih
        refine hk_run2 (hk_call_m d) 200 ?_
        refine And.intro (fun c => absurd c (by rw [ep]; exact nI_ge hj (by omega))) (fun c => ?_)
        rcases hf_mst_ok S j with hb | hb
        · have et : hf_mst S (j + 1) = j := if_pos (Or.inl hb)
          rw [et, show hf_b3 j = nI j from if_neg (by omega)] at ih
          rw [hb, show hf_b3 99 = -3 from rfl]
          refine And.intro (fun _ => ?_) (fun c => absurd (by decide) c)
          refine Exists.intro [0, 1, 2, 3] ?_
          rw [nI_1]
          exact hk_stop2 (hk_call_m d) ih
        · have eb : hf_b3 (hf_mst S j) = nI (hf_mst S j) := if_neg (by omega)
          rw [eb]
          refine And.intro (fun c => absurd c (hn_npos (by omega))) (fun _ => ?_)
          refine sp_mownedBy (by omega) M2 (p := j) rfl (by omega) ?_
          refine sp_mownedBy (by omega) M2 (p := hf_mst S j) rfl (by omega) ?_
          have o1 := hf_own_lt M2.2.2.2.2 j
          have o2 := hf_own_lt M2.2.2.2.2 (hf_mst S j)
          unfold hf_own at o1 o2
          refine And.intro (fun c => ?_) (fun c => ?_)
          · have hle := (nI_leI (by omega) (by omega)).mp c
            have et : hf_mst S (j + 1) = hf_mst S j := if_neg (fun q => by
              rcases q with z | z
              · omega
              · unfold hf_own at z; omega)
            rw [et, eb] at ih
            refine Exists.intro [0, 1, 2, 3] ?_
            rw [nI_1]
            exact hk_stop2 (hk_call_m d) ih
          · have hlt : hf_own S (hf_mst S j) < hf_own S j := by
              unfold hf_own
              rcases Nat.lt_or_ge (hf_owned S (hf_mst S j) (S 3 0)) (hf_owned S j (S 3 0)) with q | q
              · exact q
              · exact absurd (nI_le q (by omega)) c
            have et : hf_mst S (j + 1) = j := if_pos (Or.inr hlt)
            rw [et, show hf_b3 j = nI j from if_neg (by omega)] at ih
            refine Exists.intro [0, 1, 2, 3] ?_
            rw [nI_1]
            exact hk_stop2 (hk_call_m d) ih
    refine w_rn (hk_stop2 (hk_call_m d) (hk_run2 (hk_call_m d) 4 ?_))
    exact L 0 (Nat.zero_le _)
  · refine And.intro (fun _ => ?_) (fun c => absurd rfl c)
    rw [hxi_n (by omega) nn] at hQ
    exact hk_qe_of (hQ R0 hft_rf)
/-- of the first n hats none lies -/
def hf_nol (P : hP) : Nat → Nat
  | 0 => 1
  | n + 1 => if hf_nol P n = 1 ∧ ¬ P 10 n < 25 then 1 else 0
theorem hf_nol01 (P : hP) : ∀ n, hf_nol P n = 1 ∨ hf_nol P n = 0
  | 0 => Or.inl rfl
  | n + 1 => by
    unfold hf_nol
    split
    · exact Or.inl rfl
    · exact Or.inr rfl
set_option maxHeartbeats 400000 in
theorem sp_misAllWorn {d : Nat} (hd : 2 < d) {R : Nat → Nat → Int32} {X : hk_D} {Q : hk_Q} {o : Nat} {P : hP} (M : hf_M o P R) (h1 : hf_nol P (P 3 0) = 1 → Q (some (.int 1)) (hw R X)) (h0 : ¬ hf_nol P (P 3 0) = 1 → Q (some (.int 0)) (hw R X)) : hk_call d mM_isAllWorn [.ref 98] (hw R X) Q := by
  obtain ⟨d, rfl⟩ : ∃ e, d = e + 1 := ⟨d - 1, by omega⟩
  have eh := M.1.2.1
  have h6 := M.2.2.2.2.2.1
  have L : ∀ j, j ≤ P 3 0 → ∀ b : Int32, b = nI (hf_nol P j) → hk_wp (some .boolean) 0 0 hk_dft cM_isAllWorn (hk_call d) (hk_qe Q) 4 [(2, .int (nI j)), (1, .int b), (0, .ref 98)] [] (hw R X) 0 0 := by
    refine hk_for ?_ ?_
    · intro b eb
      refine hk_run2 (hk_call_m d) 100 ?_
      refine And.intro (fun c => ?_) (fun c => absurd (by rw [eh]; exact nI_le (Nat.le_refl _) (by omega)) c)
      rcases hf_nol01 P (P 3 0) with e | e
      · rw [eb, e]; exact And.intro (by decide) (hk_qe_of (h1 e))
      · rw [eb, e]; exact And.intro (by decide) (hk_qe_of (h0 (by omega)))
    · intro j hj ih b eb
      refine hk_run2 (hk_call_m d) 100 ?_
      refine And.intro (fun c => absurd c (by rw [eh]; exact nI_ge hj (by omega))) (fun c => ?_)
      unfold hf_nol at ih
      rcases hf_nol01 P j with e | e
      · rw [e] at eb ih
        subst eb
        refine And.intro (fun c => absurd c (by decide)) (fun _ => ?_)
        refine sp_isLying (by omega) M hj rfl (fun hl => ?_) (fun hl => ?_)
        · refine And.intro (fun c => absurd c (by decide)) (fun _ => ?_)
          refine Exists.intro [0, 1, 2] ?_
          rw [nI_1]
          exact hk_stop2 (hk_call_m d) (ih 0 (by rw [if_neg (fun q => q.2 hl)]; rfl))
        · refine And.intro (fun _ => ?_) (fun c => absurd rfl c)
          refine Exists.intro [0, 1, 2] ?_
          rw [nI_1]
          exact hk_stop2 (hk_call_m d) (ih 1 (by rw [if_pos ⟨rfl, hl⟩]; rfl))
      · rw [e] at eb ih
        subst eb
        refine And.intro (fun _ => ?_) (fun c => absurd rfl c)
        refine Exists.intro [0, 1, 2] ?_
        rw [nI_1]
        exact hk_stop2 (hk_call_m d) (ih 0 (by rw [if_neg (fun q => absurd q.1 (by decide))]; rfl))
  refine hk_run2 (hk_call_m d) 4 ?_
  exact L 0 (Nat.zero_le _) 1 rfl
def hf_calm : Nat → Nat → hP → Int32
  | 0, _, _ => -3
  | k + 1, j, P => if hf_nol P (P 3 0) = 1 then nI j else hf_calm k (j + 1) (hf_hour P 0 0)
set_option maxHeartbeats 400000 in
theorem sp_mcalm {d : Nat} (hd : 6 < d) {R0 : Nat → Nat → Int32} {X : hk_D} {Q : hk_Q} {P : hP} (M : hf_M 0 P R0) (h96 : P 4 0 ≤ 96) (hQ : ∀ R', hft R0 R' → Q (some (.int (hf_calm 49 0 P))) (hw R' X)) : hk_call d mM_calm [.ref 98] (hw R0 X) Q := by
  obtain ⟨d, rfl⟩ : ∃ e, d = e + 1 := ⟨d - 1, by omega⟩
  have L : ∀ j, j ≤ 49 → ∀ R S, hf_M 18 S R → hft2 R0 R → S 4 0 = P 4 0 + j → (∀ R', hft R0 R' → Q (some (.int (hf_calm (49 - j) j S))) (hw R' X)) → hk_wp (some .int) 0 0 hk_dft cM_calm (hk_call d) (hk_qe Q) 4 [(1, .int (nI j)), (0, .ref 98)] [] (hw R X) 0 0 := by
    refine hk_for ?_ ?_
    · intro R S MR f e4 hQ
      refine hk_run2 (hk_call_m d) 100 ?_
      refine And.intro (fun c => ?_) (fun c => absurd (by decide) c)
      refine w_put trivial rfl rfl ?_
      refine And.intro (fun c => absurd c (by decide)) (fun _ => ?_)
      exact hk_qe_of (hQ _ (hft2_end M.2.2.1 f))
    · intro j hj ih R S MR f e4 hQ
      rw [show 49 - j = (49 - (j + 1)) + 1 from by omega, hf_calm] at hQ
      have n48 : ¬ nI 48 < nI j := fun q => by rw [hn_lt, hn_i (by omega), hn_i (by omega)] at q; omega
      refine hk_run2 (hk_call_m d) 200 ?_
      refine And.intro (fun c => absurd c n48) (fun c => ?_)
      refine sp_misAllWorn (by omega) MR (fun hl => ?_) (fun hl => ?_)
      · refine And.intro (fun c => absurd c (by decide)) (fun _ => ?_)
        rw [if_pos hl] at hQ
        refine w_put trivial rfl rfl ?_
        refine And.intro (fun _ => ?_) (fun c => absurd (show nI j ≤ nI 48 from nI_le (by omega) (by omega)) c)
        exact hk_qe_of (hQ _ (hft2_end M.2.2.1 f))
      · refine And.intro (fun _ => ?_) (fun c => absurd rfl c)
        rw [if_neg hl] at hQ
        refine sp_mhourGoes (by omega) MR (by omega) (dir := 0) (f := 0) rfl rfl (by omega) (by omega) (fun R2 M2 f2 => ?_)
        refine Exists.intro [0, 1] ?_
        rw [nI_1]
        exact hk_stop2 (hk_call_m d) (ih R2 _ M2 (hft2_go f f2) (by rw [hf_hour, hf_up_s]; omega) hQ)
  refine hk_run2 (hk_call_m d) 100 ?_
  refine sp_mlends (by omega) M (fun R1 M1 f1 => ?_)
  refine w_rn (hk_stop2 (hk_call_m d) (hk_run2 (hk_call_m d) 2 ?_))
  exact L 0 (by omega) R1 P M1 f1 rfl hQ
