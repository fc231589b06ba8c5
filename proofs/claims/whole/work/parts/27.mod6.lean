/-! THE REFERENCE: who, what, how many -/
theorem sp_misHat {d : Nat} (hd : 1 < d) {R : Nat → Nat → Int32} {X : hk_D} {Q : hk_Q} {v : Int32} {n : Nat} (e : R 98 4 = nI n) (hn : n ≤ 6) (h1 : ∀ j, j < n → v = nI j → Q (some (.int 1)) (hw R X)) (h0 : (∀ j, j < n → v ≠ nI j) → Q (some (.int 0)) (hw R X)) : hk_call d mM_isHat [.ref 98, .int v] (hw R X) Q := by
  obtain ⟨d, rfl⟩ : ∃ e, d = e + 1 := ⟨d - 1, by omega⟩
  refine hk_run2 (hk_call_m d) 100 ?_
  refine sp_in (by omega) (n := n) (by omega) (by rw [e]) (fun j hj q => ?_) (fun q => ?_)
  · exact And.intro (by decide) (hk_qe_of (h1 j hj q))
  · exact And.intro (by decide) (hk_qe_of (h0 q))
theorem sp_misPerson {d : Nat} (hd : 1 < d) {R : Nat → Nat → Int32} {X : hk_D} {Q : hk_Q} {v : Int32} {n : Nat} (e : R 98 2 = nI n) (hn : n ≤ 5) (h1 : ∀ j, j < n → v = nI j → Q (some (.int 1)) (hw R X)) (h0 : (∀ j, j < n → v ≠ nI j) → Q (some (.int 0)) (hw R X)) : hk_call d mM_isPerson [.ref 98, .int v] (hw R X) Q := by
  obtain ⟨d, rfl⟩ : ∃ e, d = e + 1 := ⟨d - 1, by omega⟩
  refine hk_run2 (hk_call_m d) 100 ?_
  refine sp_in (by omega) (n := n) (by omega) (by rw [e]) (fun j hj q => ?_) (fun q => ?_)
  · exact And.intro (by decide) (hk_qe_of (h1 j hj q))
  · exact And.intro (by decide) (hk_qe_of (h0 q))
theorem sp_misTrial {d : Nat} (hd : 1 < d) {h : hk_Hp} {Q : hk_Q} {v : Int32} (h1 : ∀ j, j < 49 → v = nI j → Q (some (.int 1)) h) (h0 : (∀ j, j < 49 → v ≠ nI j) → Q (some (.int 0)) h) : hk_call d mM_isTrial [.int v] h Q := by
  obtain ⟨d, rfl⟩ : ∃ e, d = e + 1 := ⟨d - 1, by omega⟩
  refine hk_run2 (hk_call_m d) 100 ?_
  refine sp_in (by omega) (n := 49) (by omega) (by decide) (fun j hj q => ?_) (fun q => ?_)
  · exact And.intro (by decide) (hk_qe_of (h1 j hj q))
  · exact And.intro (by decide) (hk_qe_of (h0 q))
theorem sp_misHour {d : Nat} (hd : 1 < d) {h : hk_Hp} {Q : hk_Q} {v : Int32} (h1 : ∀ j, j < 24 → v = nI j → Q (some (.int 1)) h) (h0 : (∀ j, j < 24 → v ≠ nI j) → Q (some (.int 0)) h) : hk_call d mM_isHour [.int v] h Q := by
  obtain ⟨d, rfl⟩ : ∃ e, d = e + 1 := ⟨d - 1, by omega⟩
  refine hk_run2 (hk_call_m d) 100 ?_
  refine sp_in (by omega) (n := 24) (by omega) (by decide) (fun j hj q => ?_) (fun q => ?_)
  · exact And.intro (by decide) (hk_qe_of (h1 j hj q))
  · exact And.intro (by decide) (hk_qe_of (h0 q))
theorem sp_misPlace {d : Nat} (hd : 1 < d) {h : hk_Hp} {Q : hk_Q} {v : Int32} (h1 : ∀ j, j < 25 → v = nI j → Q (some (.int 1)) h) (h0 : (∀ j, j < 25 → v ≠ nI j) → Q (some (.int 0)) h) : hk_call d mM_isPlace [.int v] h Q := by
  obtain ⟨d, rfl⟩ : ∃ e, d = e + 1 := ⟨d - 1, by omega⟩
  refine hk_run2 (hk_call_m d) 100 ?_
  refine sp_in (by omega) (n := 25) (by omega) (by decide) (fun j hj q => ?_) (fun q => ?_)
  · exact And.intro (by decide) (hk_qe_of (h1 j hj q))
  · exact And.intro (by decide) (hk_qe_of (h0 q))
theorem sp_misWind {d : Nat} (hd : 1 < d) {h : hk_Hp} {Q : hk_Q} {v w : Int32} (h1 : ∀ i j, i < 4 → j < 10 → v = nI i → w = nI j → Q (some (.int 1)) h) (h0 : (∀ i j, i < 4 → j < 10 → ¬ (v = nI i ∧ w = nI j)) → Q (some (.int 0)) h) : hk_call d mM_isWind [.int v, .int w] h Q := by
  obtain ⟨d, rfl⟩ : ∃ e, d = e + 1 := ⟨d - 1, by omega⟩
  refine hk_run2 (hk_call_m d) 100 ?_
  refine sp_in (by omega) (n := 4) (by omega) (by decide) (fun i hi q => ?_) (fun q => ?_)
  · refine And.intro (fun c => absurd c (by decide)) (fun _ => ?_)
    refine sp_in (by omega) (n := 10) (by omega) (by decide) (fun j hj q2 => ?_) (fun q2 => ?_)
    · refine And.intro (fun c => absurd c (by decide)) (fun _ => ?_)
      exact And.intro (by decide) (hk_qe_of (h1 i j hi hj q q2))
    · refine And.intro (fun _ => ?_) (fun c => absurd rfl c)
      exact And.intro (by decide) (hk_qe_of (h0 (fun i j _ hj z => q2 j hj z.2)))
  · refine And.intro (fun _ => ?_) (fun c => absurd rfl c)
    exact And.intro (by decide) (hk_qe_of (h0 (fun i j hi _ z => q i hi z.1)))
theorem sp_misSoon {d : Nat} (hd : 1 < d) {h : hk_Hp} {Q : hk_Q} {v : Int32} (h1 : ∀ j, 1 ≤ j → j < 13 → v = nI j → Q (some (.int 1)) h) (h0 : (∀ j, 1 ≤ j → j < 13 → v ≠ nI j) → Q (some (.int 0)) h) : hk_call d mM_isSoon [.int v] h Q := by
  obtain ⟨d, rfl⟩ : ∃ e, d = e + 1 := ⟨d - 1, by omega⟩
  refine hk_run2 (hk_call_m d) 100 ?_
  have t1 : (1 : Int32).toInt = 1 := by decide
  have t12 : (12 : Int32).toInt = 12 := by decide
  have t0 : (0 : Int32).toInt = 0 := by decide
  refine sp_inR (by omega) (fun c1 c2 => ?_) (fun c => ?_)
  · rw [hn_lt, t1] at c1
    rw [hn_lt, t12] at c2
    obtain ⟨j, hj, e⟩ := hn_of (x := v) (n := 13) (by omega) (by rw [hn_lt, t0]; omega) (by rw [hn_le, hn_i (by omega)]; omega)
    rw [e, hn_i (by omega)] at c1
    exact And.intro (by decide) (hk_qe_of (h1 j (by omega) hj e))
  · refine And.intro (by decide) (hk_qe_of (h0 (fun j hj1 hj2 e => ?_)))
    rw [hn_lt, hn_lt, t1, t12, e, hn_i (by omega)] at c
    omega
theorem sp_orNot {d : Nat} (hd : 0 < d) {h : hk_Hp} {Q : hk_Q} {v : Int32} (hQ : Q (some (.int (if 0 ≤ v then v else -9))) h) : hk_call d mM_orNot [.int v] h Q := by
  obtain ⟨d, rfl⟩ : ∃ e, d = e + 1 := ⟨d - 1, by omega⟩
  refine hk_run2 (hk_call_m d) 100 ?_
  refine And.intro (fun c => ?_) (fun c => ?_)
  · rw [if_pos c] at hQ; exact hk_qe_of hQ
  · rw [if_neg c] at hQ; exact hk_qe_of hQ
theorem hf_mw_eq {x p : Nat} (hp : p < 5) : hf_mw x = nI p ↔ x = 25 + p := by
  by_cases h : 25 ≤ x ∧ x < 30
  · rw [hf_mw_w h, nI_eq (by omega) (by omega)]; omega
  · rw [hf_mw_n h]
    refine ⟨fun e => absurd (hn_pos (n := p) (by omega)) (by rw [← e]; exact hn_neg1), fun e => absurd ⟨by omega, by omega⟩ h⟩
/-- the worth of the hats that p wears, of the first n -/
def hf_owned (P : hP) (p : Nat) : Nat → Nat
  | 0 => 0
  | n + 1 => hf_owned P p n + (if P 10 n = 25 + p then P 9 n else 0)
def hf_bits (f : Nat → Bool) : Nat → Nat
  | 0 => 0
  | n + 1 => hf_bits f n + (bif f n then 2 ^ n else 0)
theorem hf_bits_lt (f : Nat → Bool) : ∀ n, hf_bits f n < 2 ^ n
  | 0 => Nat.one_pos
  | n + 1 => by
    have := hf_bits_lt f n
    unfold hf_bits
    rw [Nat.pow_succ]
    cases f n
    · show hf_bits f n + 0 < _; omega
    · show hf_bits f n + 2 ^ n < _; omega
theorem hf_or : ∀ n, n < 6 → ∀ b, b < 2 ^ n → nI b ||| hk_shl 1 (nI n) = nI (b + 2 ^ n) := by decide +kernel
theorem hf_or0 (x : Int32) : x ||| 0 = x := by simp
set_option maxHeartbeats 400000 in
theorem sp_mownedBy {d : Nat} (hd : 1 < d) {R : Nat → Nat → Int32} {X : hk_D} {Q : hk_Q} {v : Int32} {o p : Nat} {P : hP} (M : hf_M o P R) (ev : v = nI p) (hp : p < 5) (hQ : Q (some (.int (nI (hf_owned P p (P 3 0))))) (hw R X)) : hk_call d mM_ownedBy [.ref 98, .int v] (hw R X) Q := by
  obtain ⟨d, rfl⟩ : ∃ e, d = e + 1 := ⟨d - 1, by omega⟩
  subst ev
  have eh := M.1.2.1
  have h6 := M.2.2.2.2.2.1
  have ho := M.2.2.1
  have h18 := M.2.2.2.1
  have L : ∀ j, j ≤ P 3 0 → hk_wp (some .int) 0 0 hk_dft cM_ownedBy (hk_call d) (hk_qe Q) 4 [(3, .int (nI j)), (2, .int (nI (hf_owned P p j))), (0, .ref 98), (1, .int (nI p))] [] (hw R X) 0 0 := by
    refine hk_for ?_ ?_
    · refine hk_run2 (hk_call_m d) 100 ?_
      refine And.intro (fun c => ?_) (fun c => absurd (by rw [eh]; exact nI_le (Nat.le_refl _) (by omega)) c)
      exact hk_qe_of hQ
    · intro j hj ih
      refine hk_run2 (hk_call_m d) 100 ?_
      refine And.intro (fun c => absurd c (by rw [eh]; exact nI_ge hj (by omega))) (fun c => ?_)
      refine sp_its (by omega) ho (j := 6 + j) (by rw [← nI_add]; rfl) (by omega) ?_
      rw [(M.2.1.2.2 j hj).1]
      unfold hf_owned at ih
      refine And.intro (fun c => ?_) (fun c => ?_)
      · rw [if_pos ((hf_mw_eq hp).mp c)] at ih
        refine w_ld (j := j) (n := 6) rfl rfl (by omega) (by omega) rfl (M.1.2.2.2.2 j hj).2.2 ?_
        refine Exists.intro [0, 1, 2, 3] ?_
        rw [nI_1, hn_add]
        exact hk_stop2 (hk_call_m d) ih
      · rw [if_neg (fun q => c ((hf_mw_eq hp).mpr q))] at ih
        refine Exists.intro [0, 1, 2, 3] ?_
        rw [nI_1, show nI (hf_owned P p j) + 0 = nI (hf_owned P p j + 0) from hn_add _ 0]
        exact hk_stop2 (hk_call_m d) ih
  refine hk_run2 (hk_call_m d) 4 ?_
  exact L 0 (Nat.zero_le _)
def hf_wb (P : hP) (p : Nat) : Nat → Bool := fun h => Nat.beq (P 10 h) (25 + p)
def hf_gb (P : hP) : Nat → Bool := fun h => Nat.beq (P 10 h) 30
theorem hn_beq {a b : Nat} (h : a = b) : Nat.beq a b = true := by subst h; exact Nat.beq_refl a
theorem hn_nbeq {a b : Nat} (h : ¬ a = b) : Nat.beq a b = false := by
  cases q : Nat.beq a b
  · rfl
  · exact absurd (Nat.eq_of_beq_eq_true q) h
set_option maxHeartbeats 400000 in
theorem sp_mwornBy {d : Nat} (hd : 1 < d) {R : Nat → Nat → Int32} {X : hk_D} {Q : hk_Q} {v : Int32} {o p : Nat} {P : hP} (M : hf_M o P R) (ev : v = nI p) (hp : p < 5) (hQ : Q (some (.int (nI (hf_bits (hf_wb P p) (P 3 0))))) (hw R X)) : hk_call d mM_wornBy [.ref 98, .int v] (hw R X) Q := by
  obtain ⟨d, rfl⟩ : ∃ e, d = e + 1 := ⟨d - 1, by omega⟩
  subst ev
  have eh := M.1.2.1
  have h6 := M.2.2.2.2.2.1
  have ho := M.2.2.1
  have h18 := M.2.2.2.1
  have L : ∀ j, j ≤ P 3 0 → hk_wp (some .int) 0 0 hk_dft cM_wornBy (hk_call d) (hk_qe Q) 4 [(3, .int (nI j)), (2, .int (nI (hf_bits (hf_wb P p) j))), (0, .ref 98), (1, .int (nI p))] [] (hw R X) 0 0 := by
    refine hk_for ?_ ?_
    · refine hk_run2 (hk_call_m d) 100 ?_
      refine And.intro (fun c => ?_) (fun c => absurd (by rw [eh]; exact nI_le (Nat.le_refl _) (by omega)) c)
      exact hk_qe_of hQ
    · intro j hj ih
      refine hk_run2 (hk_call_m d) 100 ?_
      refine And.intro (fun c => absurd c (by rw [eh]; exact nI_ge hj (by omega))) (fun c => ?_)
      refine sp_its (by omega) ho (j := 6 + j) (by rw [← nI_add]; rfl) (by omega) ?_
      rw [(M.2.1.2.2 j hj).1]
      unfold hf_bits at ih
      refine And.intro (fun c => ?_) (fun c => ?_)
      · rw [show hf_wb P p j = true from hn_beq ((hf_mw_eq hp).mp c)] at ih
        refine Exists.intro [0, 1, 2, 3] ?_
        rw [nI_1, show nI (hf_bits (hf_wb P p) j) ||| hk_shl 1 (nI j) = nI (hf_bits (hf_wb P p) j + 2 ^ j) from hf_or j (by omega) _ (hf_bits_lt _ j)]
        exact hk_stop2 (hk_call_m d) ih
      · rw [show hf_wb P p j = false from hn_nbeq (fun q => c ((hf_mw_eq hp).mpr q))] at ih
        refine Exists.intro [0, 1, 2, 3] ?_
        rw [nI_1, hf_or0]
        exact hk_stop2 (hk_call_m d) ih
  refine hk_run2 (hk_call_m d) 4 ?_
  exact L 0 (Nat.zero_le _)
set_option maxHeartbeats 400000 in
theorem sp_mgoneSet {d : Nat} (hd : 2 < d) {R : Nat → Nat → Int32} {X : hk_D} {Q : hk_Q} {o : Nat} {P : hP} (M : hf_M o P R) (hQ : Q (some (.int (nI (hf_bits (hf_gb P) (P 3 0))))) (hw R X)) : hk_call d mM_goneSet [.ref 98] (hw R X) Q := by
  obtain ⟨d, rfl⟩ : ∃ e, d = e + 1 := ⟨d - 1, by omega⟩
  have eh := M.1.2.1
  have h6 := M.2.2.2.2.2.1
  have L : ∀ j, j ≤ P 3 0 → hk_wp (some .int) 0 0 hk_dft cM_goneSet (hk_call d) (hk_qe Q) 4 [(2, .int (nI j)), (1, .int (nI (hf_bits (hf_gb P) j))), (0, .ref 98)] [] (hw R X) 0 0 := by
    refine hk_for ?_ ?_
    · refine hk_run2 (hk_call_m d) 100 ?_
      refine And.intro (fun c => ?_) (fun c => absurd (by rw [eh]; exact nI_le (Nat.le_refl _) (by omega)) c)
      exact hk_qe_of hQ
    · intro j hj ih
      refine hk_run2 (hk_call_m d) 100 ?_
      refine And.intro (fun c => absurd c (by rw [eh]; exact nI_ge hj (by omega))) (fun c => ?_)
      unfold hf_bits at ih
      refine sp_isGone (by omega) M hj rfl (fun hg => ?_) (fun hg => ?_)
      · refine And.intro (fun c => absurd c (by decide)) (fun _ => ?_)
        rw [show hf_gb P j = true from hn_beq hg] at ih
        refine Exists.intro [0, 1, 2] ?_
        rw [nI_1, show nI (hf_bits (hf_gb P) j) ||| hk_shl 1 (nI j) = nI (hf_bits (hf_gb P) j + 2 ^ j) from hf_or j (by omega) _ (hf_bits_lt _ j)]
        exact hk_stop2 (hk_call_m d) ih
      · refine And.intro (fun _ => ?_) (fun c => absurd rfl c)
        rw [show hf_gb P j = false from hn_nbeq hg] at ih
        refine Exists.intro [0, 1, 2] ?_
        rw [nI_1, hf_or0]
        exact hk_stop2 (hk_call_m d) ih
  refine hk_run2 (hk_call_m d) 4 ?_
  exact L 0 (Nat.zero_le _)
