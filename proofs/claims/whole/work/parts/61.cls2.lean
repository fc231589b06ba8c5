/-! THE CLASS: a hat flies, a person runs -/
def cf_x (d : Nat) (q n : Int32) : Int32 := match d with
  | 1 => hk_rem q 5 + n
  | 0 => hk_rem q 5
  | 2 => hk_rem q 5
  | _ => hk_rem q 5 - n
def cf_y (d : Nat) (q n : Int32) : Int32 := match d with
  | 0 => q / 5 - n
  | 2 => q / 5 + n
  | _ => q / 5
def cf_v (d n q : Nat) : Int32 := bif (hxi 5 (cf_x d (nI q) (nI n))).isSome && (hxi 5 (cf_y d (nI q) (nI n))).isSome then 5 * cf_y d (nI q) (nI n) + cf_x d (nI q) (nI n) else -9
theorem cf_ok : ∀ d, d < 4 → ∀ n, n < 9 → ∀ q, q < 25 → cf_v d n q = hf_cs (hf_fly d n q) := by decide +kernel
theorem hxi_ss {n j : Nat} {v : Int32} (hn : n ≤ 100000) (hj : j < n) (e : v = nI j) : (hxi n v).isSome = true := by rw [e, hxi_s hj hn]; rfl
theorem hxi_nn {n : Nat} {v : Int32} (hn : n ≤ 100000) (h : ∀ j, j < n → v ≠ nI j) : (hxi n v).isSome = false := by rw [hxi_n hn h]; rfl
set_option maxHeartbeats 400000 in
theorem sp_hfly {d : Nat} (hd : 1 < d) {R : Nat → Nat → Int32} {X : hk_D} {Q : hk_Q} {a dir n q : Nat} {v w : Int32} (ha : hHat a) (e4 : R a 4 = nI q) (ev : v = nI dir) (ew : w = nI n) (hdir : dir < 4) (hn : n < 9) (hq : q < 25) (hQ : Q none (hw (up2 R a 4 (hf_cs (hf_fly dir n q))) X)) : hk_call d mH_fly [.ref a, .int v, .int w] (hw R X) Q := by
  obtain ⟨d, rfl⟩ : ∃ e, d = e + 1 := ⟨d - 1, by omega⟩
  subst ev; subst ew
  have ok := cf_ok dir hdir n hn q hq
  rw [← ok] at hQ
  clear ok
  unfold cf_v at hQ
  refine hk_run2 (hk_call_m d) 100 ?_
  refine w_get (hHat_t ha) (hHat_k ha).2.2.2.2 e4 ?_
  refine And.intro (by decide) ?_
  refine w_get (hHat_t ha) (hHat_k ha).2.2.2.2 e4 ?_
  refine And.intro (by decide) ?_
  have ti : (nI dir).toInt = dir := nI_toInt (by omega)
  refine And.intro (fun c => ?_) (And.intro (fun c => ?_) (And.intro (fun c => ?_) (And.intro (fun c => ?_) trivial)))
  · rw [ti] at c
    have : dir = 3 := by simp at c; omega
    subst this
    refine sp_isBelow (by omega) (n := 5) (by omega) rfl (fun i hi ei => ?_) (fun nn => ?_)
    · refine And.intro (fun c => absurd c (by decide)) (fun _ => ?_)
      refine sp_isBelow (by omega) (n := 5) (by omega) rfl (fun i2 hi2 ei2 => ?_) (fun nn => ?_)
      · refine And.intro (fun c => absurd c (by decide)) (fun _ => ?_)
        refine w_puta (hHat_t ha) (hHat_38 ha) (hHat_k ha).2.2.2.2 trivial ?_
        rw [show (hxi 5 (cf_x 3 (nI q) (nI n))).isSome = true from hxi_ss (by omega) hi ei, show (hxi 5 (cf_y 3 (nI q) (nI n))).isSome = true from hxi_ss (by omega) hi2 ei2] at hQ
        exact hk_qe_of hQ
      · refine And.intro (fun _ => ?_) (fun c => absurd rfl c)
        refine w_puta (hHat_t ha) (hHat_38 ha) (hHat_k ha).2.2.2.2 trivial ?_
        rw [show (hxi 5 (cf_x 3 (nI q) (nI n))).isSome = true from hxi_ss (by omega) hi ei, show (hxi 5 (cf_y 3 (nI q) (nI n))).isSome = false from hxi_nn (by omega) nn] at hQ
        exact hk_qe_of hQ
    · refine And.intro (fun _ => ?_) (fun c => absurd rfl c)
      refine w_puta (hHat_t ha) (hHat_38 ha) (hHat_k ha).2.2.2.2 trivial ?_
      rw [show (hxi 5 (cf_x 3 (nI q) (nI n))).isSome = false from hxi_nn (by omega) nn] at hQ
      exact hk_qe_of hQ
  · rw [ti] at c
    have : dir = 0 := by omega
    subst this
    refine sp_isBelow (by omega) (n := 5) (by omega) rfl (fun i hi ei => ?_) (fun nn => ?_)
    · refine And.intro (fun c => absurd c (by decide)) (fun _ => ?_)
      refine sp_isBelow (by omega) (n := 5) (by omega) rfl (fun i2 hi2 ei2 => ?_) (fun nn => ?_)
      · refine And.intro (fun c => absurd c (by decide)) (fun _ => ?_)
        refine w_puta (hHat_t ha) (hHat_38 ha) (hHat_k ha).2.2.2.2 trivial ?_
        rw [show (hxi 5 (cf_x 0 (nI q) (nI n))).isSome = true from hxi_ss (by omega) hi ei, show (hxi 5 (cf_y 0 (nI q) (nI n))).isSome = true from hxi_ss (by omega) hi2 ei2] at hQ
        exact hk_qe_of hQ
      · refine And.intro (fun _ => ?_) (fun c => absurd rfl c)
        refine w_puta (hHat_t ha) (hHat_38 ha) (hHat_k ha).2.2.2.2 trivial ?_
        rw [show (hxi 5 (cf_x 0 (nI q) (nI n))).isSome = true from hxi_ss (by omega) hi ei, show (hxi 5 (cf_y 0 (nI q) (nI n))).isSome = false from hxi_nn (by omega) nn] at hQ
        exact hk_qe_of hQ
    · refine And.intro (fun _ => ?_) (fun c => absurd rfl c)
      refine w_puta (hHat_t ha) (hHat_38 ha) (hHat_k ha).2.2.2.2 trivial ?_
      rw [show (hxi 5 (cf_x 0 (nI q) (nI n))).isSome = false from hxi_nn (by omega) nn] at hQ
      exact hk_qe_of hQ
  · rw [ti] at c
    have : dir = 1 := by omega
    subst this
    refine sp_isBelow (by omega) (n := 5) (by omega) rfl (fun i hi ei => ?_) (fun nn => ?_)
    · refine And.intro (fun c => absurd c (by decide)) (fun _ => ?_)
      refine sp_isBelow (by omega) (n := 5) (by omega) rfl (fun i2 hi2 ei2 => ?_) (fun nn => ?_)
      · refine And.intro (fun c => absurd c (by decide)) (fun _ => ?_)
        refine w_puta (hHat_t ha) (hHat_38 ha) (hHat_k ha).2.2.2.2 trivial ?_
        rw [show (hxi 5 (cf_x 1 (nI q) (nI n))).isSome = true from hxi_ss (by omega) hi ei, show (hxi 5 (cf_y 1 (nI q) (nI n))).isSome = true from hxi_ss (by omega) hi2 ei2] at hQ
        exact hk_qe_of hQ
      · refine And.intro (fun _ => ?_) (fun c => absurd rfl c)
        refine w_puta (hHat_t ha) (hHat_38 ha) (hHat_k ha).2.2.2.2 trivial ?_
        rw [show (hxi 5 (cf_x 1 (nI q) (nI n))).isSome = true from hxi_ss (by omega) hi ei, show (hxi 5 (cf_y 1 (nI q) (nI n))).isSome = false from hxi_nn (by omega) nn] at hQ
        exact hk_qe_of hQ
    · refine And.intro (fun _ => ?_) (fun c => absurd rfl c)
      refine w_puta (hHat_t ha) (hHat_38 ha) (hHat_k ha).2.2.2.2 trivial ?_
      rw [show (hxi 5 (cf_x 1 (nI q) (nI n))).isSome = false from hxi_nn (by omega) nn] at hQ
      exact hk_qe_of hQ
  · rw [ti] at c
    have : dir = 2 := by omega
    subst this
    refine sp_isBelow (by omega) (n := 5) (by omega) rfl (fun i hi ei => ?_) (fun nn => ?_)
    · refine And.intro (fun c => absurd c (by decide)) (fun _ => ?_)
      refine sp_isBelow (by omega) (n := 5) (by omega) rfl (fun i2 hi2 ei2 => ?_) (fun nn => ?_)
      · refine And.intro (fun c => absurd c (by decide)) (fun _ => ?_)
        refine w_puta (hHat_t ha) (hHat_38 ha) (hHat_k ha).2.2.2.2 trivial ?_
        rw [show (hxi 5 (cf_x 2 (nI q) (nI n))).isSome = true from hxi_ss (by omega) hi ei, show (hxi 5 (cf_y 2 (nI q) (nI n))).isSome = true from hxi_ss (by omega) hi2 ei2] at hQ
        exact hk_qe_of hQ
      · refine And.intro (fun _ => ?_) (fun c => absurd rfl c)
        refine w_puta (hHat_t ha) (hHat_38 ha) (hHat_k ha).2.2.2.2 trivial ?_
        rw [show (hxi 5 (cf_x 2 (nI q) (nI n))).isSome = true from hxi_ss (by omega) hi ei, show (hxi 5 (cf_y 2 (nI q) (nI n))).isSome = false from hxi_nn (by omega) nn] at hQ
        exact hk_qe_of hQ
    · refine And.intro (fun _ => ?_) (fun c => absurd rfl c)
      refine w_puta (hHat_t ha) (hHat_38 ha) (hHat_k ha).2.2.2.2 trivial ?_
      rw [show (hxi 5 (cf_x 2 (nI q) (nI n))).isSome = false from hxi_nn (by omega) nn] at hQ
      exact hk_qe_of hQ
theorem sp_natMost {d : Nat} (hd : 0 < d) {h : hk_Hp} {Q : hk_Q} {v w : Int32} (hQ : Q (some (.int (hk_max (-v) (hk_min v w)))) h) : hk_call d mN_atMost [.int v, .int w] h Q := by
  obtain ⟨d, rfl⟩ : ∃ e, d = e + 1 := ⟨d - 1, by omega⟩
  refine hk_run2 (hk_call_m d) 100 ?_
  exact hk_qe_of hQ
def rt_c (s f t : Nat) : Int32 := hk_max (-(nI s)) (hk_min (nI s) (hk_rem (nI t) 5 - hk_rem (nI f) 5))
def rt_v (s f t : Nat) : Int32 := nI f + (5 * hk_max (-(nI s - hk_abs (rt_c s f t))) (hk_min (nI s - hk_abs (rt_c s f t)) (nI t / 5 - nI f / 5)) + rt_c s f t)
theorem rt_ok : ∀ s, s < 4 → ∀ f, f < 25 → ∀ t, t < 25 → rt_v s f t = nI (hf_runs s f t) := by decide +kernel
set_option maxHeartbeats 400000 in
theorem sp_nrunTo {d : Nat} (hd : 1 < d) {R : Nat → Nat → Int32} {X : hk_D} {Q : hk_Q} {a s f t : Nat} {v : Int32} (ha : hPer a) (e0 : R a 0 = nI f) (e1 : R a 1 = nI s) (ev : v = nI t) (hs : s < 4) (hf : f < 25) (ht : t < 25) (hQ : Q none (hw (up2 R a 0 (nI (hf_runs s f t))) X)) : hk_call d mN_runTo [.ref a, .int v] (hw R X) Q := by
  obtain ⟨d, rfl⟩ : ∃ e, d = e + 1 := ⟨d - 1, by omega⟩
  subst ev
  rw [← rt_ok s hs f hf t ht] at hQ
  refine hk_run2 (hk_call_m d) 100 ?_
  refine w_get (hPer_t ha) (hPer_k ha).2 e1 ?_
  refine And.intro (by decide) ?_
  refine w_get (hPer_t ha) (hPer_k ha).1 e0 ?_
  refine And.intro (by decide) ?_
  refine sp_natMost (by omega) ?_
  refine w_get (hPer_t ha) (hPer_k ha).2 e1 ?_
  refine And.intro (by decide) ?_
  refine w_get (hPer_t ha) (hPer_k ha).1 e0 ?_
  refine And.intro (by decide) ?_
  refine sp_natMost (by omega) ?_
  refine w_get (hPer_t ha) (hPer_k ha).1 e0 ?_
  refine w_puta (hPer_t ha) (hPer_38 ha) (hPer_k ha).1 trivial ?_
  exact hk_qe_of hQ
/-- a plain of the class and what it keeps to -/
def hf_K (i : Nat) (P : hP) (R : Nat → Nat → Int32) : Prop := hf_C i P R ∧ hf_ok P
/-- only the cells of one plain have changed -/
def hfc (i : Nat) (R R' : Nat → Nat → Int32) : Prop := ∀ a k, ¬ (39 + 16 * i ≤ a ∧ a ≤ 54 + 16 * i) → R' a k = R a k
theorem hfc_rf {i : Nat} {R : Nat → Nat → Int32} : hfc i R R := fun _ _ _ => rfl
theorem hfc_tr {i : Nat} {R R1 R2 : Nat → Nat → Int32} (h1 : hfc i R R1) (h2 : hfc i R1 R2) : hfc i R R2 := fun a k h => (h2 a k h).trans (h1 a k h)
theorem hfc_up {i a k : Nat} {R : Nat → Nat → Int32} {v : Int32} (h : 39 + 16 * i ≤ a ∧ a ≤ 54 + 16 * i) : hfc i R (up2 R a k v) := fun b j q => up2_n (fun z => q (by rw [z.1]; exact h))
theorem hf_ok_hat {P : hP} {j q : Nat} (ok : hf_ok P) (hj : j < P 3 0) (hq : q < 25 ∨ (25 ≤ q ∧ q < 25 + P 2 0) ∨ q = 30) : hf_ok (hf_up P 10 j q) := by
  refine ⟨ok.1, ok.2.1, ok.2.2.1, ok.2.2.2.1, ok.2.2.2.2.1, fun h hh => ?_⟩
  have z := ok.2.2.2.2.2 h hh
  refine ⟨z.1, z.2.1, z.2.2.1, ?_⟩
  by_cases e : h = j
  · subst e; rw [hf_up_s]; exact hq
  · rw [hf_up_j e]; exact z.2.2.2
theorem hf_ok_place {P : hP} {p q : Nat} (ok : hf_ok P) (hp : p < P 2 0) (hq : q < 25) : hf_ok (hf_up P 5 p q) := by
  refine ⟨ok.1, ok.2.1, ok.2.2.1, ok.2.2.2.1, fun h hh => ?_, ok.2.2.2.2.2⟩
  have z := ok.2.2.2.2.1 h hh
  refine ⟨?_, z.2⟩
  by_cases e : h = p
  · subst e; rw [hf_up_s]; exact hq
  · rw [hf_up_j e]; exact z.1
theorem hf_ok_now {P : hP} {q : Nat} (ok : hf_ok P) (hq : q ≤ 200) : hf_ok (hf_up P 4 0 q) :=
  ⟨ok.1, ok.2.1, by rw [hf_up_s]; exact hq, ok.2.2.2.1, ok.2.2.2.2.1, ok.2.2.2.2.2⟩
theorem hf_K_hat {i j q : Nat} {P : hP} {R R' : Nat → Nat → Int32} (K : hf_K i P R) (hj : j < P 3 0) (hq : q < 25 ∨ (25 ≤ q ∧ q < 25 + P 2 0) ∨ q = 30) (hs : ∀ a k, ¬ (a = 49 + 16 * i + j ∧ (k = 3 ∨ k = 4)) → R' a k = R a k) (h3 : R' (49 + 16 * i + j) 3 = hf_cw q) (h4 : R' (49 + 16 * i + j) 4 = hf_cs q) : hf_K i (hf_up P 10 j q) R' := by
  obtain ⟨⟨c1, c2, c3, c4, c5, c6⟩, ok⟩ := K
  have n5 := ok.1
  have n6 := ok.2.1
  refine ⟨⟨(hs _ _ (by omega)).trans c1, (hs _ _ (by omega)).trans c2, (hs _ _ (by omega)).trans c3, fun k hk => ⟨(hs _ _ (by omega)).trans (c4 k hk).1, (hs _ _ (by omega)).trans (c4 k hk).2⟩, fun p hp => ?_, fun h hh => ?_⟩, hf_ok_hat ok hj hq⟩
  · have hp : p < P 2 0 := hp
    exact ⟨(hs _ _ (by omega)).trans (c5 p hp).1, (hs _ _ (by omega)).trans (c5 p hp).2⟩
  · have hh : h < P 3 0 := hh
    obtain ⟨z1, z2, z3, z4, z5⟩ := c6 h hh
    refine ⟨(hs _ _ (by omega)).trans z1, (hs _ _ (by omega)).trans z2, (hs _ _ (by omega)).trans z3, ?_, ?_⟩
    · by_cases e : h = j
      · subst e; rw [hf_up_s]; exact h3
      · rw [hf_up_j e]; exact (hs _ _ (by omega)).trans z4
    · by_cases e : h = j
      · subst e; rw [hf_up_s]; exact h4
      · rw [hf_up_j e]; exact (hs _ _ (by omega)).trans z5
theorem hf_K_place {i p q : Nat} {P : hP} {R R' : Nat → Nat → Int32} (K : hf_K i P R) (hp : p < P 2 0) (hq : q < 25) (hs : ∀ a k, ¬ (a = 44 + 16 * i + p ∧ k = 0) → R' a k = R a k) (h0 : R' (44 + 16 * i + p) 0 = nI q) : hf_K i (hf_up P 5 p q) R' := by
  obtain ⟨⟨c1, c2, c3, c4, c5, c6⟩, ok⟩ := K
  have n5 := ok.1
  have n6 := ok.2.1
  refine ⟨⟨(hs _ _ (by omega)).trans c1, (hs _ _ (by omega)).trans c2, (hs _ _ (by omega)).trans c3, fun k hk => ⟨(hs _ _ (by omega)).trans (c4 k hk).1, (hs _ _ (by omega)).trans (c4 k hk).2⟩, fun p' hp' => ?_, fun h hh => ?_⟩, hf_ok_place ok hp hq⟩
  · have hp' : p' < P 2 0 := hp'
    refine ⟨?_, (hs _ _ (by omega)).trans (c5 p' hp').2⟩
    by_cases e : p' = p
    · subst e; rw [hf_up_s]; exact h0
    · rw [hf_up_j e]; exact (hs _ _ (by omega)).trans (c5 p' hp').1
  · have hh : h < P 3 0 := hh
    obtain ⟨z1, z2, z3, z4, z5⟩ := c6 h hh
    exact ⟨(hs _ _ (by omega)).trans z1, (hs _ _ (by omega)).trans z2, (hs _ _ (by omega)).trans z3, (hs _ _ (by omega)).trans z4, (hs _ _ (by omega)).trans z5⟩
theorem hf_K_now {i q : Nat} {P : hP} {R R' : Nat → Nat → Int32} (K : hf_K i P R) (hq : q ≤ 200) (hs : ∀ a k, ¬ (a = 39 + 16 * i ∧ k = 6) → R' a k = R a k) (h0 : R' (39 + 16 * i) 6 = nI q) : hf_K i (hf_up P 4 0 q) R' := by
  obtain ⟨⟨c1, c2, c3, c4, c5, c6⟩, ok⟩ := K
  refine ⟨⟨(hs _ _ (by omega)).trans c1, (hs _ _ (by omega)).trans c2, by rw [hf_up_s]; exact h0, fun k hk => ⟨(hs _ _ (by omega)).trans (c4 k hk).1, (hs _ _ (by omega)).trans (c4 k hk).2⟩, fun p' hp' => ?_, fun h hh => ?_⟩, hf_ok_now ok hq⟩
  · have hp' : p' < P 2 0 := hp'
    exact ⟨(hs _ _ (by omega)).trans (c5 p' hp').1, (hs _ _ (by omega)).trans (c5 p' hp').2⟩
  · have hh : h < P 3 0 := hh
    obtain ⟨z1, z2, z3, z4, z5⟩ := c6 h hh
    exact ⟨(hs _ _ (by omega)).trans z1, (hs _ _ (by omega)).trans z2, (hs _ _ (by omega)).trans z3, (hs _ _ (by omega)).trans z4, (hs _ _ (by omega)).trans z5⟩
theorem hf_K_fr {i : Nat} {P : hP} {R R' : Nat → Nat → Int32} (K : hf_K i P R) (hs : ∀ a k, 39 + 16 * i ≤ a ∧ a ≤ 54 + 16 * i → R' a k = R a k) : hf_K i P R' := by
  obtain ⟨⟨c1, c2, c3, c4, c5, c6⟩, ok⟩ := K
  have n5 := ok.1
  have n6 := ok.2.1
  refine ⟨⟨(hs _ _ (by omega)).trans c1, (hs _ _ (by omega)).trans c2, (hs _ _ (by omega)).trans c3, fun k hk => ⟨(hs _ _ (by omega)).trans (c4 k hk).1, (hs _ _ (by omega)).trans (c4 k hk).2⟩, fun p' hp' => ?_, fun h hh => ?_⟩, ok⟩
  · exact ⟨(hs _ _ (by omega)).trans (c5 p' hp').1, (hs _ _ (by omega)).trans (c5 p' hp').2⟩
  · obtain ⟨z1, z2, z3, z4, z5⟩ := c6 h hh
    exact ⟨(hs _ _ (by omega)).trans z1, (hs _ _ (by omega)).trans z2, (hs _ _ (by omega)).trans z3, (hs _ _ (by omega)).trans z4, (hs _ _ (by omega)).trans z5⟩
