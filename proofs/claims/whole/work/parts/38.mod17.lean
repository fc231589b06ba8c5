/-! THE REFERENCE: prove -/
def hf_pT (P : hP) : Nat → Int32 := fun i => nI (hf_rw (hf_hours (i / 3 + 1) P) (i % 3))
def hfj (R R' : Nat → Nat → Int32) : Prop := ∀ a k, ¬ (a = 105 ∧ 18 ≤ k) → ¬ a = 117 → ¬ a = 116 → ¬ (a = 98 ∧ (k = 33 ∨ k = 34)) → R' a k = R a k
theorem hf_must_T {P : hP} {n : Nat} {R : Nat → Nat → Int32} (mu : hf_must P n R) : ∀ t, t < 3 * n → R 117 t = hf_pT P t := by
  intro t ht
  have := mu.2 (t / 3) (by omega) (t % 3) (by omega)
  rw [show 3 * (t / 3) + t % 3 = t from by omega] at this
  exact this
set_option maxHeartbeats 400000 in
theorem sp_mprove {d : Nat} (hd : 8 < d) {R0 : Nat → Nat → Int32} {X : hk_D} {Q : hk_Q} {v : Int32} {P : hP} (M : hf_M 0 P R0) (h1 : ∀ k, 1 ≤ k → k < 21 → v = nI k → ∀ R', hf_T (hf_rn k P) (hf_pT P) R' → hfj R0 R' → Q (some (.int (nI (hf_rn k P)))) (hw R' X)) (h0 : (∀ k, 1 ≤ k → k < 21 → v ≠ nI k) → Q (some (.int (-1))) (hw R0 X)) : hk_call d mM_prove [.ref 98, .int v] (hw R0 X) Q := by
  obtain ⟨d, rfl⟩ : ∃ e, d = e + 1 := ⟨d - 1, by omega⟩
  have t1 : (1 : Int32).toInt = 1 := by decide
  have t20 : (20 : Int32).toInt = 20 := by decide
  have t0 : (0 : Int32).toInt = 0 := by decide
  refine hk_run2 (hk_call_m d) 100 ?_
  refine sp_inR (by omega) (fun c1 c2 => ?_) (fun c => ?_)
  · refine And.intro (fun c => absurd c (by decide)) (fun _ => ?_)
    rw [hn_lt, t1] at c1
    rw [hn_lt, t20] at c2
    obtain ⟨k, hk, e⟩ := hn_of (x := v) (n := 21) (by omega) (by rw [hn_lt, t0]; omega) (by rw [hn_le, hn_i (by omega)]; omega)
    rw [e, hn_i (by omega)] at c1
    have hQ := h1 k (by omega) hk e
    have hle := hf_rn_le k P
    refine sp_mfindRows (by omega) M e (by omega) (fun R1 mu f1 => ?_)
    generalize hf_rn k P = n at *
    have L : ∀ i, i ≤ 3 * n → ∀ R, R 98 33 = nI n → (∀ t, t < 3 * n → R 117 t = hf_pT P t) → (∀ t, t < i → R 116 t = hf_pT P t) → hfj R0 R → hk_wp (some .int) 0 0 hk_dft cM_prove (hk_call d) (hk_qe Q) 16 [(2, .int (nI i)), (0, .ref 98), (1, .int v)] [] (hw R X) 0 0 := by
      refine hk_for ?_ ?_
      · intro R e33 m7 m6 fr
        have e3 : (3 : Int32) * R 98 33 = nI (3 * n) := by rw [e33]; exact hn_mul 3 n
        refine hk_run2 (hk_call_m d) 100 ?_
        refine And.intro (fun c => ?_) (fun c => absurd (by rw [e3]; exact nI_le (Nat.le_refl _) (by omega)) c)
        refine hk_qe_of ?_
        rw [e33]
        exact hQ R ⟨by omega, e33, m6⟩ fr
      · intro i hi ih R e33 m7 m6 fr
        have e3 : (3 : Int32) * R 98 33 = nI (3 * n) := by rw [e33]; exact hn_mul 3 n
        refine hk_run2 (hk_call_m d) 100 ?_
        refine And.intro (fun c => absurd c (by rw [e3]; exact nI_ge hi (by omega))) (fun c => ?_)
        refine w_ld (j := i) (n := 60) rfl rfl (by omega) (by omega) rfl (m7 i hi) ?_
        refine w_st (t := 0) (j := i) (n := 60) rfl rfl (by omega) (by omega) rfl rfl ?_
        refine Exists.intro [0, 1, 2] ?_
        rw [nI_1]
        refine hk_stop2 (hk_call_m d) (ih _ ?_ ?_ ?_ ?_)
        · rw [up2_a (by decide)]; exact e33
        · intro t ht; rw [up2_a (by decide)]; exact m7 t ht
        · intro t ht
          by_cases z : t = i
          · rw [z, up2_s]
          · rw [up2_k z]; exact m6 t (by omega)
        · intro a b q1 q2 q3 q4
          rw [up2_a q3]; exact fr a b q1 q2 q3 q4
    refine w_put trivial rfl rfl ?_
    refine hk_stop2 (hk_call_m d) (hk_run2 (hk_call_m d) 2 ?_)
    refine L 0 (Nat.zero_le _) _ (by rw [up2_s]; exact mu.1) (fun t ht => ?_) (fun t ht => absurd ht (Nat.not_lt_zero t)) (fun a b q1 q2 q3 q4 => ?_)
    · rw [up2_a (by decide)]; exact hf_must_T mu t ht
    · rw [up2_n (by omega)]; exact f1 a b q1 q2 (by omega)
  · refine And.intro (fun _ => ?_) (fun c => absurd rfl c)
    refine hk_qe_of (h0 (fun k hk1 hk2 e => ?_))
    rw [hn_lt, hn_lt, t1, t20, e, hn_i (by omega)] at c
    omega
