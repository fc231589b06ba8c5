/-! THE REFERENCE: trials -/
def hxi (n : Nat) (v : Int32) : Option Nat := if 0 ≤ v.toInt ∧ v.toInt < n then some v.toInt.toNat else none
theorem hxi_s {n j : Nat} (hj : j < n) (hn : n ≤ 100000) : hxi n (nI j) = some j := by
  unfold hxi
  rw [hn_i (by omega), if_pos ⟨by omega, by omega⟩]; rfl
theorem hxi_n {n : Nat} {v : Int32} (hn : n ≤ 100000) (h : ∀ j, j < n → v ≠ nI j) : hxi n v = none := by
  unfold hxi
  refine if_neg (fun q => ?_)
  have t0 : (0 : Int32).toInt = 0 := by decide
  obtain ⟨j, hj, e⟩ := hn_of (x := v) (n := n) hn (by rw [hn_lt, t0]; omega) (by rw [hn_le, hn_i (by omega)]; omega)
  exact h j hj e
theorem hf_hours_r {r j : Nat} (h4 : r ≠ 4) (h5 : r ≠ 5) (h10 : r ≠ 10) : ∀ n (P : hP), hf_hours n P r j = P r j
  | 0, _ => rfl
  | n + 1, P => by
    rw [hf_hours]
    split
    · rw [hf_hours_r h4 h5 h10 n]; exact hf_hour_r h4 h5 h10
    · rfl
def hf_own (P : hP) (p : Nat) : Nat := hf_owned P p (P 3 0)
def a_owns (P : hP) (v w : Int32) : Int32 := match hxi (P 2 0) v with
  | none => -1
  | some p => match hxi 49 w with
    | none => -1
    | some n => nI (hf_own (hf_hours n P) p)
def hf_or9 (x : Int32) : Int32 := if 0 ≤ x then x else -9
def a_where (P : hP) (v w : Int32) : Int32 := match hxi (P 3 0) v with
  | none => -1
  | some j => match hxi 49 w with
    | none => -1
    | some n => hf_or9 (hf_pl (hf_hours n P) j)
def a_wears (P : hP) (v w : Int32) : Int32 := match hxi (P 3 0) v with
  | none => -1
  | some j => match hxi 49 w with
    | none => -1
    | some n => hf_or9 (hf_mw (hf_hours n P 10 j))
theorem hft_rf {R : Nat → Nat → Int32} : hft R R := fun _ _ _ => rfl
theorem hft_tr {R R1 R2 : Nat → Nat → Int32} (h1 : hft R R1) (h2 : hft R1 R2) : hft R R2 := fun a k h => (h2 a k h).trans (h1 a k h)
set_option maxHeartbeats 400000 in
theorem sp_mownsThen {d : Nat} (hd : 6 < d) {R : Nat → Nat → Int32} {X : hk_D} {Q : hk_Q} {v w : Int32} {p n : Nat} {P : hP} (M : hf_M 0 P R) (ev : v = nI p) (ew : w = nI n) (hp : p < 5) (hn : n ≤ 1000) (hQ : ∀ R', hft R R' → Q (some (.int (nI (hf_own (hf_hours n P) p)))) (hw R' X)) : hk_call d mM_ownsThen [.ref 98, .int v, .int w] (hw R X) Q := by
  obtain ⟨d, rfl⟩ : ∃ e, d = e + 1 := ⟨d - 1, by omega⟩
  refine hk_run2 (hk_call_m d) 100 ?_
  refine sp_mlends (by omega) M (fun R1 M1 f1 => ?_)
  refine sp_mgo (by omega) M1 ew hn (fun R2 M2 f2 => ?_)
  refine sp_mownedBy (by omega) M2 ev hp ?_
  refine w_put trivial rfl rfl ?_
  exact hk_qe_of (hQ _ (hft2_end M.2.2.1 (hft2_go f1 f2)))
set_option maxHeartbeats 400000 in
theorem sp_mowns {d : Nat} (hd : 7 < d) {R : Nat → Nat → Int32} {X : hk_D} {Q : hk_Q} {v w : Int32} {P : hP} (M : hf_M 0 P R) (hQ : ∀ R', hft R R' → Q (some (.int (a_owns P v w))) (hw R' X)) : hk_call d mM_owns [.ref 98, .int v, .int w] (hw R X) Q := by
  obtain ⟨d, rfl⟩ : ∃ e, d = e + 1 := ⟨d - 1, by omega⟩
  have h5 := M.2.2.2.2.1
  unfold a_owns at hQ
  refine hk_run2 (hk_call_m d) 100 ?_
  refine sp_misPerson (by omega) M.1.1 h5 (fun p hp ep => ?_) (fun np => ?_)
  · refine And.intro (fun c => absurd c (by decide)) (fun _ => ?_)
    rw [ep, hxi_s hp (by omega)] at hQ
    refine sp_misTrial (by omega) (fun n hn en => ?_) (fun nn => ?_)
    · refine And.intro (fun c => absurd c (by decide)) (fun _ => ?_)
      rw [en, hxi_s hn (by omega)] at hQ
      refine sp_mownsThen (by omega) M ep en (by omega) (by omega) (fun R' f => ?_)
      exact hk_qe_of (hQ R' f)
    · refine And.intro (fun _ => ?_) (fun c => absurd rfl c)
      rw [hxi_n (by omega) nn] at hQ
      exact hk_qe_of (hQ R hft_rf)
  · refine And.intro (fun _ => ?_) (fun c => absurd rfl c)
    rw [hxi_n (by omega) np] at hQ
    exact hk_qe_of (hQ R hft_rf)
set_option maxHeartbeats 400000 in
theorem sp_mwhere {d : Nat} (hd : 7 < d) {R : Nat → Nat → Int32} {X : hk_D} {Q : hk_Q} {v w : Int32} {P : hP} (M : hf_M 0 P R) (hQ : ∀ R', hft R R' → Q (some (.int (a_where P v w))) (hw R' X)) : hk_call d mM_where [.ref 98, .int v, .int w] (hw R X) Q := by
  obtain ⟨d, rfl⟩ : ∃ e, d = e + 1 := ⟨d - 1, by omega⟩
  have h6 := M.2.2.2.2.2.1
  unfold a_where at hQ
  refine hk_run2 (hk_call_m d) 100 ?_
  refine sp_misHat (by omega) M.1.2.1 h6 (fun j hj ej => ?_) (fun np => ?_)
  · refine And.intro (fun c => absurd c (by decide)) (fun _ => ?_)
    rw [ej, hxi_s hj (by omega)] at hQ
    refine sp_misTrial (by omega) (fun n hn en => ?_) (fun nn => ?_)
    · refine And.intro (fun c => absurd c (by decide)) (fun _ => ?_)
      rw [en, hxi_s hn (by omega)] at hQ
      refine sp_mlends (by omega) M (fun R1 M1 f1 => ?_)
      refine sp_mgo (by omega) M1 en (by omega) (fun R2 M2 f2 => ?_)
      refine sp_mplaceOf (by omega) M2 (by rw [hf_hours_r (by decide) (by decide) (by decide)]; exact hj) ej ?_
      refine w_put trivial rfl rfl ?_
      refine sp_orNot (by omega) ?_
      exact hk_qe_of (hQ _ (hft2_end M.2.2.1 (hft2_go f1 f2)))
    · refine And.intro (fun _ => ?_) (fun c => absurd rfl c)
      rw [hxi_n (by omega) nn] at hQ
      exact hk_qe_of (hQ R hft_rf)
  · refine And.intro (fun _ => ?_) (fun c => absurd rfl c)
    rw [hxi_n (by omega) np] at hQ
    exact hk_qe_of (hQ R hft_rf)
set_option maxHeartbeats 400000 in
theorem sp_mwears {d : Nat} (hd : 7 < d) {R : Nat → Nat → Int32} {X : hk_D} {Q : hk_Q} {v w : Int32} {P : hP} (M : hf_M 0 P R) (hQ : ∀ R', hft R R' → Q (some (.int (a_wears P v w))) (hw R' X)) : hk_call d mM_wears [.ref 98, .int v, .int w] (hw R X) Q := by
  obtain ⟨d, rfl⟩ : ∃ e, d = e + 1 := ⟨d - 1, by omega⟩
  have h6 := M.2.2.2.2.2.1
  unfold a_wears at hQ
  refine hk_run2 (hk_call_m d) 100 ?_
  refine sp_misHat (by omega) M.1.2.1 h6 (fun j hj ej => ?_) (fun np => ?_)
  · refine And.intro (fun c => absurd c (by decide)) (fun _ => ?_)
    rw [ej, hxi_s hj (by omega)] at hQ
    refine sp_misTrial (by omega) (fun n hn en => ?_) (fun nn => ?_)
    · refine And.intro (fun c => absurd c (by decide)) (fun _ => ?_)
      rw [en, hxi_s hn (by omega)] at hQ
      refine sp_mlends (by omega) M (fun R1 M1 f1 => ?_)
      refine sp_mgo (by omega) M1 en (by omega) (fun R2 M2 f2 => ?_)
      refine sp_its (by omega) M2.2.2.1 (j := 6 + j) (by rw [ej, ← nI_add]; rfl) (by omega) ?_
      rw [(M2.2.1.2.2 j (by rw [hf_hours_r (by decide) (by decide) (by decide)]; exact hj)).1]
      refine w_put trivial rfl rfl ?_
      refine sp_orNot (by omega) ?_
      exact hk_qe_of (hQ _ (hft2_end M.2.2.1 (hft2_go f1 f2)))
    · refine And.intro (fun _ => ?_) (fun c => absurd rfl c)
      rw [hxi_n (by omega) nn] at hQ
      exact hk_qe_of (hQ R hft_rf)
  · refine And.intro (fun _ => ?_) (fun c => absurd rfl c)
    rw [hxi_n (by omega) np] at hQ
    exact hk_qe_of (hQ R hft_rf)
