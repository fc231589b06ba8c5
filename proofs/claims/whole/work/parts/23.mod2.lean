/-! THE REFERENCE: the wind of an hour -/
def hfr (o : Nat) (R R' : Nat → Nat → Int32) : Prop := ∀ a k, ¬ (a = 105 ∧ o ≤ k ∧ k < o + 18) → R' a k = R a k
theorem hfr_rf {o : Nat} {R : Nat → Nat → Int32} : hfr o R R := fun _ _ _ => rfl
theorem hfr_tr {o : Nat} {R R1 R2 : Nat → Nat → Int32} (h1 : hfr o R R1) (h2 : hfr o R1 R2) : hfr o R R2 := fun a k h => (h2 a k h).trans (h1 a k h)
theorem hfr_up {o k : Nat} {R : Nat → Nat → Int32} {v : Int32} (h : o ≤ k ∧ k < o + 18) : hfr o R (up2 R 105 k v) := fun a j q => up2_n (fun z => q ⟨z.1, by rw [z.2]; exact h⟩)
theorem hf_upself (P : hP) (r j : Nat) : hf_up P r j (P r j) = P := by
  funext r' j'
  unfold hf_up
  split
  · rename_i h; rw [h.1, h.2]
  · rfl
/-- one hat is elsewhere -/
theorem hf_M_hat {o j q : Nat} {P : hP} {R R' : Nat → Nat → Int32} (M : hf_M o P R) (hj : j < P 3 0) (hq : q < 25 ∨ (25 ≤ q ∧ q < 25 + P 2 0) ∨ q = 30) (hs : ∀ a k, ¬ (a = 105 ∧ (k = o + (6 + j) ∨ k = o + (12 + j))) → R' a k = R a k) (h1 : R' 105 (o + (6 + j)) = hf_mw q) (h2 : q < 25 → R' 105 (o + (12 + j)) = nI q) (h3 : q = 30 → R' 105 (o + (12 + j)) = -1) : hf_M o (hf_up P 10 j q) R' := by
  obtain ⟨MS, MD, ho, h18, ok⟩ := M
  have h6 := ok.2.1
  have h5 := ok.1
  have ne : ∀ a k, a ≠ 105 → R' a k = R a k := fun a k h => hs a k (fun z => h z.1)
  have P2 : hf_up P 10 j q 2 0 = P 2 0 := hf_up_r (by decide)
  have P3 : hf_up P 10 j q 3 0 = P 3 0 := hf_up_r (by decide)
  refine ⟨⟨?_, ?_, ?_, ?_, ?_⟩, ⟨?_, ?_, ?_⟩, ?_, h18, ⟨?_, ?_, ?_, ?_, ?_, ?_⟩⟩
  · rw [ne _ _ (by decide), P2]; exact MS.1
  · rw [ne _ _ (by decide), P3]; exact MS.2.1
  · intro i hi
    rw [ne _ _ (by decide), ne _ _ (by decide), hf_up_r (by decide), hf_up_r (by decide)]; exact MS.2.2.1 i hi
  · intro p hp
    rw [P2] at hp
    rw [ne _ _ (by decide), hf_up_r (by decide)]; exact MS.2.2.2.1 p hp
  · intro i hi
    rw [P3] at hi
    rw [ne _ _ (by decide), ne _ _ (by decide), ne _ _ (by decide), hf_up_r (by decide), hf_up_r (by decide), hf_up_r (by decide)]; exact MS.2.2.2.2 i hi
  · rw [hs _ _ (by omega), hf_up_r (by decide)]; exact MD.1
  · intro p hp
    rw [P2] at hp
    rw [hs _ _ (by omega), hf_up_r (by decide)]; exact MD.2.1 p hp
  · intro i hi
    rw [P3] at hi
    by_cases hij : i = j
    · subst hij
      rw [hf_up_s]
      exact ⟨h1, h2, h3⟩
    · rw [hs _ _ (by omega), hs _ _ (by omega), hf_up_j hij]
      exact MD.2.2 i hi
  · rw [ne _ _ (by decide)]; exact ho
  · rw [P2]; exact ok.1
  · rw [P3]; exact ok.2.1
  · rw [hf_up_r (by decide)]; exact ok.2.2.1
  · intro i hi
    rw [hf_up_r (by decide), hf_up_r (by decide)]; exact ok.2.2.2.1 i hi
  · intro p hp
    rw [P2] at hp
    rw [hf_up_r (by decide), hf_up_r (by decide)]; exact ok.2.2.2.2.1 p hp
  · intro i hi
    rw [P3] at hi
    rw [hf_up_r (by decide), hf_up_r (by decide), hf_up_r (by decide), P2]
    obtain ⟨k1, k2, k3, k4⟩ := ok.2.2.2.2.2 i hi
    refine ⟨k1, k2, k3, ?_⟩
    by_cases hij : i = j
    · subst hij; rw [hf_up_s]; exact hq
    · rw [hf_up_j hij]; exact k4
theorem sp_mlays {d : Nat} (hd : 2 < d) {R : Nat → Nat → Int32} {X : hk_D} {Q : hk_Q} {h : Int32} {o j : Nat} {P : hP} (M : hf_M o P R) (hj : j < P 3 0) (hh : h = nI j) (hw1 : 25 ≤ P 10 j ∧ P 10 j < 30) (hQ : ∀ R', hf_M o (hf_up P 10 j (P 5 (P 10 j - 25))) R' → hfr o R R' → R' 105 (o + (12 + j)) = nI (P 5 (P 10 j - 25)) → Q none (hw R' X)) : hk_call d mM_lays [.ref 98, .int h] (hw R X) Q := by
  obtain ⟨d, rfl⟩ : ∃ e, d = e + 1 := ⟨d - 1, by omega⟩
  subst hh
  have M0 := M
  obtain ⟨MS, MD, ho, h18, ok⟩ := M0
  have h6 := ok.2.1
  have h5 := ok.1
  have cs := (ok.2.2.2.2.2 j hj).2.2.2
  have hp : P 10 j - 25 < P 2 0 := by omega
  have hpl := (ok.2.2.2.2.1 _ hp).1
  refine hk_run2 (hk_call_m d) 100 ?_
  refine sp_mplaceOf (by omega) M hj rfl ?_
  have e1 : hf_pl P j = nI (P 5 (P 10 j - 25)) := by unfold hf_pl; rw [if_neg (by omega), if_pos hw1.2]
  rw [e1]
  refine sp_becomes (by omega) ho (j := 12 + j) (by rw [← nI_add]; rfl) (by omega) ?_
  refine sp_becomes (by omega) (by rw [up2_a (by decide)]; exact ho) (j := 6 + j) (by rw [← nI_add]; rfl) (by omega) ?_
  refine hk_qe_of (hQ _ ?_ ?_ ?_)
  · refine hf_M_hat M hj (Or.inl hpl) (fun a k q => ?_) ?_ (fun _ => ?_) (fun q => by omega)
    · rw [up2_n (fun z => q ⟨z.1, Or.inl z.2⟩), up2_n (fun z => q ⟨z.1, Or.inr z.2⟩)]
    · rw [up2_s, hf_mw_n (by omega)]
    · rw [up2_k (by omega), up2_s]
  · exact hfr_tr (hfr_up (by omega)) (hfr_up (by omega))
  · rw [up2_k (by omega), up2_s]
theorem hn_2mul (x : Nat) : (2 : Int32) * nI x = nI (2 * x) := hn_mul 2 x
theorem hn_div2 {x : Nat} (h : x < 2 ^ 31) : nI x / 2 = nI (x / 2) := hn_div (b := 2) h (by omega) (by omega)
theorem sp_mflies {d : Nat} (hd : 0 < d) {R : Nat → Nat → Int32} {X : hk_D} {Q : hk_Q} {h v : Int32} {j f : Nat} {P : hP} (MS : hf_MS P R) (ok : hf_ok P) (hj : j < P 3 0) (hh : h = nI j) (hv : v = nI f) (hf : f < 10) (hQ : Q (some (.int (nI (hf_flies (P 7 j) f)))) (hw R X)) : hk_call d mM_flies [.ref 98, .int h, .int v] (hw R X) Q := by
  obtain ⟨d, rfl⟩ : ∃ e, d = e + 1 := ⟨d - 1, by omega⟩
  subst hh; subst hv
  have h6 := ok.2.1
  obtain ⟨m1, m2, m3⟩ := MS.2.2.2.2 j hj
  obtain ⟨k1, k2, -⟩ := ok.2.2.2.2.2 j hj
  refine hk_run2 (hk_call_m d) 100 ?_
  refine And.intro (by decide) ?_
  have e3 : nI f / 3 = nI (f / 3) := hn_div (b := 3) (by omega) (by omega) (by omega)
  rw [e3]
  have eq1 : ∀ a b : Nat, a < 10 → b < 10 → (nI a = nI b ↔ a = b) := fun a b ha hb => nI_eq (by omega) (by omega)
  generalize P 7 j = kk at *
  have key : ∀ (mo : Nat), mo < 100 → mo = (if 0 < f then f / 3 + 1 else f / 3) → hk_wp (some .int) 0 0 hk_dft cM_flies (hk_call d) (hk_qe Q) 12 [(4, .int (nI mo)), (3, .int (nI (f / 3))), (0, .ref 98), (1, .int (nI j)), (2, .int (nI f))] [] (hw R X) 0 0 := by
    intro mo hmo emo
    refine hk_run2 (hk_call_m d) 100 ?_
    refine w_ld (j := j) (n := 6) rfl rfl (by omega) (by omega) rfl m1 ?_
    refine And.intro (fun c => ?_) (fun c => ?_)
    · have : kk = 2 := (eq1 kk 2 (by omega) (by omega)).mp c
      subst this
      rw [show hf_flies 2 f = mo from emo.symm] at hQ
      exact hk_qe_of hQ
    · have n2 : kk ≠ 2 := fun q => c (by rw [q]; rfl)
      refine w_ld (j := j) (n := 6) rfl rfl (by omega) (by omega) rfl m1 ?_
      refine And.intro (fun c => ?_) (fun c => ?_)
      · have : kk = 4 := (eq1 kk 4 (by omega) (by omega)).mp c
        subst this
        rw [show hf_flies 4 f = 2 * mo by rw [emo]; rfl, ← hn_2mul] at hQ
        exact hk_qe_of hQ
      · have n4 : kk ≠ 4 := fun q => c (by rw [q]; rfl)
        refine w_ld (j := j) (n := 6) rfl rfl (by omega) (by omega) rfl m1 ?_
        refine And.intro (fun c => ?_) (fun c => ?_)
        · have : kk = 5 := (eq1 kk 5 (by omega) (by omega)).mp c
          subst this
          refine And.intro (by decide) ?_
          rw [show hf_flies 5 f = f / 3 / 2 from rfl, ← hn_div2 (by omega)] at hQ
          exact hk_qe_of hQ
        · have n5 : kk ≠ 5 := fun q => c (by rw [q]; rfl)
          have e0 : hf_flies kk f = f / 3 := by
            have : kk = 0 ∨ kk = 1 ∨ kk = 3 := by omega
            rcases this with q | q | q <;> rw [q] <;> rfl
          rw [e0] at hQ
          exact hk_qe_of hQ
  refine And.intro (fun c => ?_) (fun c => ?_)
  · have h0 : f = 0 := by
      have : nI f ≤ nI 0 := c
      have := (nI_leI (by omega) (by omega)).mp this
      omega
    refine hk_stop2 (hk_call_m d) (hk_run2 (hk_call_m d) 2 ?_)
    exact key (f / 3) (by omega) (by rw [if_neg (by omega)])
  · have h0 : 0 < f := by
      rcases Nat.eq_zero_or_pos f with q | q
      · exact absurd (by rw [q]; decide) c
      · exact q
    have e1 : nI (f / 3) + 1 = nI (f / 3 + 1) := nI_1 _
    have := key (f / 3 + 1) (by omega) (by rw [if_pos h0])
    rw [← e1] at this
    refine hk_stop2 (hk_call_m d) (hk_run2 (hk_call_m d) 5 ?_)
    exact this
