/-! THE REFERENCE: what it says of a hat -/
/-- the reference holds P, on the row that begins at o -/
def hf_M (o : Nat) (P : hP) (R : Nat → Nat → Int32) : Prop := hf_MS P R ∧ hf_MD o P R ∧ R 98 9 = nI o ∧ o ≤ 18 ∧ hf_ok P
theorem hn_neg9 : ¬ (0 : Int32) ≤ -9 := by decide
theorem hn_neg1 : ¬ (0 : Int32) ≤ -1 := by decide
theorem hn_pos {n : Nat} (h : n < 2 ^ 31) : (0 : Int32) ≤ nI n := nI_pos' h
theorem hn_npos {n : Nat} (h : n < 2 ^ 31) : ¬ nI n < 0 := nI_pos h
theorem hf_mw_w {x : Nat} (h : 25 ≤ x ∧ x < 30) : hf_mw x = nI (x - 25) := if_pos h
theorem hf_mw_n {x : Nat} (h : ¬ (25 ≤ x ∧ x < 30)) : hf_mw x = -1 := if_neg h
theorem hn_lit (n : Nat) : (OfNat.ofNat n : Int32) = nI n := rfl
theorem sp_isLying {d : Nat} (hd : 1 < d) {R : Nat → Nat → Int32} {X : hk_D} {Q : hk_Q} {h : Int32} {o j : Nat} {P : hP} (M : hf_M o P R) (hj : j < P 3 0) (hh : h = nI j) (h1 : P 10 j < 25 → Q (some (.int 1)) (hw R X)) (h0 : ¬ P 10 j < 25 → Q (some (.int 0)) (hw R X)) : hk_call d mM_isLying [.ref 98, .int h] (hw R X) Q := by
  obtain ⟨d, rfl⟩ : ∃ e, d = e + 1 := ⟨d - 1, by omega⟩
  subst hh
  obtain ⟨MS, MD, ho, h18, ok⟩ := M
  have h6 := ok.2.1
  have h5 := ok.1
  obtain ⟨m1, m2, m3⟩ := MD.2.2 j hj
  refine hk_run2 (hk_call_m d) 100 ?_
  refine sp_its (by omega) ho (j := 6 + j) (by rw [← nI_add]; rfl) (by omega) ?_
  rw [m1]
  refine And.intro (fun c => ?_) (fun c => ?_)
  · refine And.intro (by decide) (hk_qe_of (h0 (fun q => ?_)))
    rw [hf_mw_n (by omega)] at c
    exact absurd c hn_neg1
  · refine sp_its (by omega) ho (j := 12 + j) (by rw [← nI_add]; rfl) (by omega) ?_
    have hw0 : ¬ (25 ≤ P 10 j ∧ P 10 j < 30) := fun q => c (by rw [hf_mw_w q]; exact hn_pos (by omega))
    refine And.intro (fun c2 => ?_) (fun c2 => ?_)
    · refine And.intro (by decide) (hk_qe_of (h0 (fun q => ?_)))
      rw [m2 q] at c2
      exact absurd c2 (hn_npos (by omega))
    · refine And.intro (by decide) (hk_qe_of (h1 ?_))
      rcases (ok.2.2.2.2.2 j hj).2.2.2 with q | q | q
      · exact q
      · omega
      · exact absurd (by rw [m3 q]; decide) c2
theorem sp_isGone {d : Nat} (hd : 1 < d) {R : Nat → Nat → Int32} {X : hk_D} {Q : hk_Q} {h : Int32} {o j : Nat} {P : hP} (M : hf_M o P R) (hj : j < P 3 0) (hh : h = nI j) (h1 : P 10 j = 30 → Q (some (.int 1)) (hw R X)) (h0 : ¬ P 10 j = 30 → Q (some (.int 0)) (hw R X)) : hk_call d mM_isGone [.ref 98, .int h] (hw R X) Q := by
  obtain ⟨d, rfl⟩ : ∃ e, d = e + 1 := ⟨d - 1, by omega⟩
  subst hh
  obtain ⟨MS, MD, ho, h18, ok⟩ := M
  have h6 := ok.2.1
  have h5 := ok.1
  obtain ⟨m1, m2, m3⟩ := MD.2.2 j hj
  have cs := (ok.2.2.2.2.2 j hj).2.2.2
  refine hk_run2 (hk_call_m d) 100 ?_
  refine sp_its (by omega) ho (j := 6 + j) (by rw [← nI_add]; rfl) (by omega) ?_
  rw [m1]
  refine And.intro (fun c => ?_) (fun c => ?_)
  · refine And.intro (by decide) (hk_qe_of (h0 (fun q => ?_)))
    rw [hf_mw_n (by omega)] at c
    exact absurd c hn_neg1
  · have hw0 : ¬ (25 ≤ P 10 j ∧ P 10 j < 30) := fun q => c (by rw [hf_mw_w q]; exact hn_pos (by omega))
    refine sp_its (by omega) ho (j := 12 + j) (by rw [← nI_add]; rfl) (by omega) ?_
    refine And.intro (fun c2 => ?_) (fun c2 => ?_)
    · refine And.intro (by decide) (hk_qe_of (h0 (fun q => ?_)))
      rw [m3 q] at c2
      exact absurd c2 hn_neg1
    · refine And.intro (by decide) (hk_qe_of (h1 ?_))
      rcases cs with q | q | q
      · exact absurd (by rw [m2 q]; exact hn_pos (by omega)) c2
      · omega
      · exact q
/-- where a hat is, as the reference says it -/
def hf_pl (P : hP) (j : Nat) : Int32 := if P 10 j < 25 then nI (P 10 j) else if P 10 j < 30 then nI (P 5 (P 10 j - 25)) else -1
theorem sp_mplaceOf {d : Nat} (hd : 1 < d) {R : Nat → Nat → Int32} {X : hk_D} {Q : hk_Q} {h : Int32} {o j : Nat} {P : hP} (M : hf_M o P R) (hj : j < P 3 0) (hh : h = nI j) (hQ : Q (some (.int (hf_pl P j))) (hw R X)) : hk_call d mM_placeOf [.ref 98, .int h] (hw R X) Q := by
  obtain ⟨d, rfl⟩ : ∃ e, d = e + 1 := ⟨d - 1, by omega⟩
  subst hh
  obtain ⟨MS, MD, ho, h18, ok⟩ := M
  have h6 := ok.2.1
  have h5 := ok.1
  obtain ⟨m1, m2, m3⟩ := MD.2.2 j hj
  have cs := (ok.2.2.2.2.2 j hj).2.2.2
  unfold hf_pl at hQ
  refine hk_run2 (hk_call_m d) 100 ?_
  refine sp_its (by omega) ho (j := 6 + j) (by rw [← nI_add]; rfl) (by omega) ?_
  rw [m1]
  refine And.intro (fun c => ?_) (fun c => ?_)
  · have hw1 : 25 ≤ P 10 j ∧ P 10 j < 30 := by
      by_cases q : 25 ≤ P 10 j ∧ P 10 j < 30
      · exact q
      · rw [hf_mw_n q] at c; exact absurd c hn_neg1
    refine sp_its (by omega) ho (j := 6 + j) (by rw [← nI_add]; rfl) (by omega) ?_
    rw [m1, hf_mw_w hw1]
    have hp : P 10 j - 25 < P 2 0 := by omega
    refine sp_its (by omega) ho (j := 1 + (P 10 j - 25)) (by rw [← nI_add]; rfl) (by omega) ?_
    rw [MD.2.1 _ hp]
    rw [if_neg (by omega), if_pos hw1.2] at hQ
    exact hk_qe_of hQ
  · have hw0 : ¬ (25 ≤ P 10 j ∧ P 10 j < 30) := fun q => c (by rw [hf_mw_w q]; exact hn_pos (by omega))
    refine sp_its (by omega) ho (j := 12 + j) (by rw [← nI_add]; rfl) (by omega) ?_
    rcases cs with q | q | q
    · rw [if_pos q] at hQ
      rw [m2 q]
      exact hk_qe_of hQ
    · omega
    · rw [if_neg (by omega), if_neg (by omega)] at hQ
      rw [m3 q]
      exact hk_qe_of hQ
theorem hn_div {a b : Nat} (ha : a < 2 ^ 31) (h0 : 0 < b) (hb : b < 2 ^ 31) : nI a / nI b = nI (a / b) := pk_div ha h0 hb
theorem hn_rem {a b : Nat} (ha : a < 2 ^ 31) (h0 : 0 < b) (hb : b < 2 ^ 31) : hk_rem (nI a) (nI b) = nI (a % b) := pk_rem ha h0 hb
theorem hn_add (a b : Nat) : nI a + nI b = nI (a + b) := nI_add a b
theorem hn_mul (a b : Nat) : nI a * nI b = nI (a * b) := pk_mul a b
theorem sp_mholds {d : Nat} (hd : 0 < d) {R : Nat → Nat → Int32} {X : hk_D} {Q : hk_Q} {h : Int32} {j : Nat} {P : hP} (MS : hf_MS P R) (ok : hf_ok P) (hj : j < P 3 0) (hh : h = nI j) (hQ : Q (some (.int (nI (hf_holds (P 7 j) (P 8 j))))) (hw R X)) : hk_call d mM_holds [.ref 98, .int h] (hw R X) Q := by
  obtain ⟨d, rfl⟩ : ∃ e, d = e + 1 := ⟨d - 1, by omega⟩
  subst hh
  have h6 := ok.2.1
  obtain ⟨m1, m2, m3⟩ := MS.2.2.2.2 j hj
  obtain ⟨k1, k2, -⟩ := ok.2.2.2.2.2 j hj
  refine hk_run2 (hk_call_m d) 100 ?_
  refine w_ld (j := j) (n := 6) rfl rfl (by omega) (by omega) rfl m1 ?_
  generalize P 7 j = kk at *
  have hk : kk = 0 ∨ kk = 1 ∨ kk = 2 ∨ kk = 3 ∨ kk = 4 ∨ kk = 5 := by omega
  have ti : (nI kk).toInt = kk := nI_toInt (by omega)
  refine And.intro (fun c => ?_) (And.intro (fun c => ?_) (And.intro (fun c => ?_) (And.intro (fun c => ?_) (And.intro (fun c => ?_) (And.intro (fun c => ?_) trivial)))))
  · rw [ti] at c
    have : kk = 0 := by simp at c; omega
    subst this
    exact hk_qe_of hQ
  · rw [ti] at c
    have : kk = 1 := by omega
    subst this
    refine w_ld (j := j) (n := 6) rfl rfl (by omega) (by omega) rfl m2 ?_
    refine And.intro (by decide) ?_
    have e : (3 : Int32) + nI (P 8 j) / 2 = nI (3 + P 8 j / 2) := by rw [show (2 : Int32) = nI 2 from rfl, hn_div (by omega) (by omega) (by omega), show (3 : Int32) = nI 3 from rfl, hn_add]
    rw [show hf_holds 1 (P 8 j) = 3 + P 8 j / 2 from rfl, ← e] at hQ
    exact hk_qe_of hQ
  · rw [ti] at c
    have : kk = 2 := by omega
    subst this
    exact hk_qe_of hQ
  · rw [ti] at c
    have : kk = 3 := by omega
    subst this
    refine w_ld (j := j) (n := 6) rfl rfl (by omega) (by omega) rfl m2 ?_
    refine And.intro (by decide) ?_
    have e : (2 : Int32) * ((3 : Int32) + nI (P 8 j) / 2) = nI (2 * (3 + P 8 j / 2)) := by rw [show (nI (P 8 j) / (2 : Int32)) = nI (P 8 j) / nI 2 from rfl, hn_div (by omega) (by omega) (by omega), show (3 : Int32) = nI 3 from rfl, hn_add, show (2 : Int32) = nI 2 from rfl, hn_mul]
    rw [show hf_holds 3 (P 8 j) = 2 * (3 + P 8 j / 2) from rfl, ← e] at hQ
    exact hk_qe_of hQ
  · rw [ti] at c
    have : kk = 4 := by omega
    subst this
    refine w_ld (j := j) (n := 6) rfl rfl (by omega) (by omega) rfl m2 ?_
    refine And.intro (by decide) ?_
    have e : hk_rem (nI (P 8 j)) 2 = nI (P 8 j % 2) := hn_rem (b := 2) (by omega) (by omega) (by omega)
    rw [e]
    refine And.intro (fun c2 => ?_) (fun c2 => ?_)
    · have : P 8 j % 2 = 1 := (nI_eq (by omega) (by omega)).mp c2
      rw [show hf_holds 4 (P 8 j) = 0 by show 1 - P 8 j % 2 = 0; omega] at hQ
      exact hk_qe_of hQ
    · have : P 8 j % 2 = 0 := by
        have : ¬ P 8 j % 2 = 1 := fun q => c2 (by rw [q]; rfl)
        omega
      rw [show hf_holds 4 (P 8 j) = 1 by show 1 - P 8 j % 2 = 1; omega] at hQ
      exact hk_qe_of hQ
  · rw [ti] at c
    have : kk = 5 := by omega
    subst this
    exact hk_qe_of hQ
