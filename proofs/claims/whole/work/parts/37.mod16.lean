/-! THE REFERENCE: its rows -/
def hf_T (n : Nat) (T : Nat → Int32) (R : Nat → Nat → Int32) : Prop := n ≤ 20 ∧ R 98 33 = nI n ∧ ∀ i, i < 3 * n → R 116 i = T i
theorem sp_misRow {d : Nat} (hd : 1 < d) {R : Nat → Nat → Int32} {X : hk_D} {Q : hk_Q} {v w : Int32} {n : Nat} (en : R 98 33 = nI n) (hn : n ≤ 20) (h1 : ∀ i j, i < n → j < 3 → v = nI i → w = nI j → Q (some (.int 1)) (hw R X)) (h0 : (∀ i j, i < n → j < 3 → ¬ (v = nI i ∧ w = nI j)) → Q (some (.int 0)) (hw R X)) : hk_call d mM_isRow [.ref 98, .int v, .int w] (hw R X) Q := by
  obtain ⟨d, rfl⟩ : ∃ e, d = e + 1 := ⟨d - 1, by omega⟩
  refine hk_run2 (hk_call_m d) 100 ?_
  refine sp_in (by omega) (n := n) (by omega) (by rw [en]) (fun i hi q => ?_) (fun q => ?_)
  · refine And.intro (fun c => absurd c (by decide)) (fun _ => ?_)
    refine sp_in (by omega) (n := 3) (by omega) (by decide) (fun j hj q2 => ?_) (fun q2 => ?_)
    · refine And.intro (fun c => absurd c (by decide)) (fun _ => ?_)
      exact And.intro (by decide) (hk_qe_of (h1 i j hi hj q q2))
    · refine And.intro (fun _ => ?_) (fun c => absurd rfl c)
      exact And.intro (by decide) (hk_qe_of (h0 (fun i j _ hj z => q2 j hj z.2)))
  · refine And.intro (fun _ => ?_) (fun c => absurd rfl c)
    exact And.intro (by decide) (hk_qe_of (h0 (fun i j hi _ z => q i hi z.1)))
def a_row (n : Nat) (T : Nat → Int32) (v w : Int32) : Int32 := match hxi n v with
  | none => -9
  | some i => match hxi 3 w with
    | none => -9
    | some j => T (3 * i + j)
theorem a_row_n {n : Nat} {T : Nat → Int32} {v w : Int32} (hn : n ≤ 20) (h : ∀ i j, i < n → j < 3 → ¬ (v = nI i ∧ w = nI j)) : a_row n T v w = -9 := by
  unfold a_row
  cases q1 : hxi n v with
  | none => rfl
  | some i =>
    cases q2 : hxi 3 w with
    | none => rfl
    | some j =>
      have z1 := hxi_e (by omega) q1
      have z2 := hxi_e (by omega) q2
      exact absurd ⟨z1.2, z2.2⟩ (h i j z1.1 z2.1)
theorem a_row_s {n i j : Nat} {T : Nat → Int32} (hn : n ≤ 20) (hi : i < n) (hj : j < 3) : a_row n T (nI i) (nI j) = T (3 * i + j) := by
  unfold a_row
  rw [hxi_s hi (by omega), hxi_s hj (by omega)]
theorem hn_3 (i j : Nat) : (3 : Int32) * nI i + nI j = nI (3 * i + j) := by
  rw [show (3 : Int32) * nI i = nI (3 * i) from hn_mul 3 i, hn_add]
set_option maxHeartbeats 400000 in
theorem sp_mrow {d : Nat} (hd : 2 < d) {R : Nat → Nat → Int32} {X : hk_D} {Q : hk_Q} {v w : Int32} {n : Nat} {T : Nat → Int32} (H : hf_T n T R) (hQ : Q (some (.int (a_row n T v w))) (hw R X)) : hk_call d mM_row [.ref 98, .int v, .int w] (hw R X) Q := by
  obtain ⟨d, rfl⟩ : ∃ e, d = e + 1 := ⟨d - 1, by omega⟩
  have hn := H.1
  refine hk_run2 (hk_call_m d) 100 ?_
  refine sp_misRow (by omega) H.2.1 H.1 (fun i j hi hj ei ej => ?_) (fun nn => ?_)
  · refine And.intro (fun c => absurd c (by decide)) (fun _ => ?_)
    subst ei; subst ej
    rw [a_row_s hn hi hj] at hQ
    refine w_ld (j := 3 * i + j) (n := 60) (hn_3 i j) rfl (by omega) (by omega) rfl (H.2.2 _ (by omega)) ?_
    exact hk_qe_of hQ
  · refine And.intro (fun _ => ?_) (fun c => absurd rfl c)
    rw [a_row_n hn nn] at hQ
    exact hk_qe_of hQ
def n_row (n : Nat) (T : Nat → Int32) (v w x : Int32) : Nat → Int32 := match hxi n v with
  | none => T
  | some i => match hxi 3 w with
    | none => T
    | some j => fun k => if k = 3 * i + j then x else T k
theorem n_row_n {n : Nat} {T : Nat → Int32} {v w x : Int32} (hn : n ≤ 20) (h : ∀ i j, i < n → j < 3 → ¬ (v = nI i ∧ w = nI j)) : n_row n T v w x = T := by
  unfold n_row
  cases q1 : hxi n v with
  | none => rfl
  | some i =>
    cases q2 : hxi 3 w with
    | none => rfl
    | some j =>
      have z1 := hxi_e (by omega) q1
      have z2 := hxi_e (by omega) q2
      exact absurd ⟨z1.2, z2.2⟩ (h i j z1.1 z2.1)
theorem n_row_s {n i j : Nat} {T : Nat → Int32} {x : Int32} (hn : n ≤ 20) (hi : i < n) (hj : j < 3) : n_row n T (nI i) (nI j) x = fun k => if k = 3 * i + j then x else T k := by
  unfold n_row
  rw [hxi_s hi (by omega), hxi_s hj (by omega)]
set_option maxHeartbeats 400000 in
theorem sp_malterRow {d : Nat} (hd : 2 < d) {R : Nat → Nat → Int32} {X : hk_D} {Q : hk_Q} {v w x : Int32} {n : Nat} {T : Nat → Int32} (H : hf_T n T R) (hQ : ∀ R', hf_T n (n_row n T v w x) R' → (∀ a k, a ≠ 116 → R' a k = R a k) → Q (some (.int (a_row n T v w))) (hw R' X)) : hk_call d mM_alterRow [.ref 98, .int v, .int w, .int x] (hw R X) Q := by
  obtain ⟨d, rfl⟩ : ∃ e, d = e + 1 := ⟨d - 1, by omega⟩
  have hn := H.1
  refine hk_run2 (hk_call_m d) 100 ?_
  refine sp_misRow (by omega) H.2.1 H.1 (fun i j hi hj ei ej => ?_) (fun nn => ?_)
  · refine And.intro (fun c => absurd c (by decide)) (fun _ => ?_)
    subst ei; subst ej
    rw [a_row_s hn hi hj, n_row_s hn hi hj] at hQ
    refine w_ld (j := 3 * i + j) (n := 60) (hn_3 i j) rfl (by omega) (by omega) rfl (H.2.2 _ (by omega)) ?_
    refine w_st (t := 0) (j := 3 * i + j) (n := 60) (hn_3 i j) rfl (by omega) (by omega) rfl rfl ?_
    refine hk_qe_of (hQ _ ⟨hn, ?_, fun k hk => ?_⟩ (fun a k q => up2_a q))
    · rw [up2_a (by decide)]; exact H.2.1
    · by_cases z : k = 3 * i + j
      · rw [z, up2_s]; exact (if_pos rfl).symm
      · rw [up2_k z]; exact (H.2.2 k hk).trans (if_neg z).symm
  · refine And.intro (fun _ => ?_) (fun c => absurd rfl c)
    rw [a_row_n hn nn, n_row_n hn nn] at hQ
    exact hk_qe_of (hQ R H (fun _ _ _ => rfl))
