/-! the heap's form: reading and writing -/
theorem up2_s (R : Nat → Nat → Int32) (a k : Nat) (v : Int32) : up2 R a k v a k = v := if_pos ⟨rfl, rfl⟩
theorem up2_n {R : Nat → Nat → Int32} {a k b j : Nat} {v : Int32} (h : ¬ (b = a ∧ j = k)) : up2 R a k v b j = R b j := if_neg h
theorem up2_a {R : Nat → Nat → Int32} {a k b j : Nat} {v : Int32} (h : b ≠ a) : up2 R a k v b j = R b j := if_neg (fun q => h q.1)
theorem up2_k {R : Nat → Nat → Int32} {a k b j : Nat} {v : Int32} (h : j ≠ k) : up2 R a k v b j = R b j := if_neg (fun q => h q.2)
/-- at (a, k) stands an int -/
def hk_kI (X : hk_D) (a k : Nat) : Bool := bif Nat.ble a 37 then false else bif Nat.ble a 126 then (match hk_nth hk_tab (a - 38) with | some (_, _, dk, ks) => Nat.beq (hk_knd dk ks k).1 0 | none => false) else
  (bif Nat.ble (127 + 2 * X.2.2.1) a then false else bif Nat.beq ((a - 127) % 2) 0 then Nat.beq k 0 else true)
theorem hw_val {R R' : Nat → Nat → Int32} {X : hk_D} {a j : Nat} (h : R a j = R' a j) : ((hw R X).2 a).2.2 j = ((hw R' X).2 a).2.2 j := by
  unfold hw
  dsimp only
  cases Nat.ble a 37
  · cases Nat.ble a 126
    · show (hk_row R X a).2.2 j = (hk_row R' X a).2.2 j
      unfold hk_row
      cases Nat.ble (127 + 2 * X.2.2.1) a
      · cases Nat.beq ((a - 127) % 2) 0
        · show Value.int (R a j) = .int (R' a j); rw [h]
        · match j, h with
          | 0, h => show Value.int (R a 0) = .int (R' a 0); rw [h]
          | j + 1, h => rfl
      · rfl
    · show (hk_fix R X a).2.2 j = (hk_fix R' X a).2.2 j
      unfold hk_fix
      split
      · show hk_kv R X a j _ = hk_kv R' X a j _
        unfold hk_kv
        split <;> first | rfl | rw [h]
      · rfl
  · rfl
theorem hk_row_sh {R R' : Nat → Nat → Int32} {X : hk_D} {a : Nat} : (hk_row R X a).1 = (hk_row R' X a).1 ∧ (hk_row R X a).2.1 = (hk_row R' X a).2.1 := by
  unfold hk_row
  generalize Nat.ble (127 + 2 * X.2.2.1) a = b1
  generalize Nat.beq ((a - 127) % 2) 0 = b2
  generalize X.2.2.2.1 ((a - 127) / 2) = b3
  cases b1
  · cases b2
    · exact ⟨rfl, rfl⟩
    · exact ⟨rfl, rfl⟩
  · exact ⟨rfl, rfl⟩
theorem hk_fix_sh {R R' : Nat → Nat → Int32} {X : hk_D} {a : Nat} : (hk_fix R X a).1 = (hk_fix R' X a).1 ∧ (hk_fix R X a).2.1 = (hk_fix R' X a).2.1 := by
  unfold hk_fix
  generalize hk_nth hk_tab (a - 38) = z
  cases z with
  | none => exact ⟨rfl, rfl⟩
  | some q => exact ⟨rfl, rfl⟩
theorem hk_cond3 {α β : Type} (f : α → β) {b c : Bool} {x y z y' z' : α} (h1 : f y = f y') (h2 : f z = f z') : f (bif b then x else bif c then y else z) = f (bif b then x else bif c then y' else z') := by
  cases b
  · cases c
    · exact h2
    · exact h1
  · rfl
theorem hw_sh {R R' : Nat → Nat → Int32} {X : hk_D} {a : Nat} : ((hw R X).2 a).1 = ((hw R' X).2 a).1 ∧ ((hw R X).2 a).2.1 = ((hw R' X).2 a).2.1 :=
  ⟨hk_cond3 (fun q : hk_Ce => q.1) hk_fix_sh.1 hk_row_sh.1, hk_cond3 (fun q : hk_Ce => q.2.1) hk_fix_sh.2 hk_row_sh.2⟩
theorem hw_int {R : Nat → Nat → Int32} {X : hk_D} {a j : Nat} (h : hk_kI X a j = true) : ((hw R X).2 a).2.2 j = .int (R a j) := by
  unfold hk_kI at h
  unfold hw
  dsimp only
  cases h1 : Nat.ble a 37
  · rw [h1] at h
    cases h2 : Nat.ble a 126
    · rw [h2] at h
      show (hk_row R X a).2.2 j = _
      unfold hk_row
      cases h3 : Nat.ble (127 + 2 * X.2.2.1) a
      · rw [h3] at h
        cases h4 : Nat.beq ((a - 127) % 2) 0
        · rfl
        · rw [h4] at h
          have : j = 0 := Nat.eq_of_beq_eq_true h
          subst this; rfl
      · rw [h3] at h; exact absurd (show false = true from h) (by decide)
    · rw [h2] at h
      show (hk_fix R X a).2.2 j = _
      unfold hk_fix
      dsimp only [cond] at h
      split at h
      · rename_i t n dk ks hq
        rw [hq]
        have h0 := Nat.eq_of_beq_eq_true h
        show hk_kv R X a j (hk_knd dk ks j) = _
        generalize hk_knd dk ks j = z at h0 ⊢
        obtain ⟨z1, z2⟩ := z
        dsimp only at h0
        subst h0
        rfl
      · exact absurd h (by decide)
  · rw [h1] at h; exact absurd (show false = true from h) (by decide)
/-- an int is written -/
theorem hw_up {R : Nat → Nat → Int32} {X : hk_D} {a k : Nat} {v : Int32} {t : Nat} (h : hk_kI X a k = true) (ht : ((hw R X).2 a).1 = t) : hk_up (hw R X) a (t, ((hw R X).2 a).2.1, va_up ((hw R X).2 a).2.2 k (.int v)) = hw (up2 R a k v) X := by
  subst ht
  refine Prod.ext rfl (funext fun b => ?_)
  by_cases hb : b = a
  · subst hb
    rw [hk_up_self]
    refine Prod.ext hw_sh.1 (Prod.ext hw_sh.2 (funext fun j => ?_))
    show va_up ((hw R X).2 b).2.2 k (.int v) j = _
    unfold va_up
    by_cases hj : j = k
    · subst hj
      rw [if_pos rfl, hw_int h, up2_s]
    · rw [if_neg hj]
      exact hw_val (up2_k hj).symm
  · rw [hk_up_ne hb]
    refine Prod.ext hw_sh.1 (Prod.ext hw_sh.2 (funext fun j => ?_))
    exact hw_val (up2_a hb).symm
/-! numbers -/
theorem hn_of {x : Int32} {n : Nat} (hn : n ≤ 100000) (h0 : ¬ x < 0) (h1 : ¬ nI n ≤ x) : ∃ j, j < n ∧ x = nI j := by
  rcases pk_ix x (n := n) (by omega) with h | h | h
  · exact absurd h h0
  · exact absurd h h1
  · exact h
theorem hn_i {n : Nat} (h : n < 2 ^ 31) : (nI n).toInt = n := nI_toInt h
theorem hn_lt {x y : Int32} : x < y ↔ x.toInt < y.toInt := Int32.lt_iff_toInt_lt
theorem hn_le {x y : Int32} : x ≤ y ↔ x.toInt ≤ y.toInt := Int32.le_iff_toInt_le
/-! pure methods -/
theorem sp_in {d : Nat} (hd : 0 < d) {h : hk_Hp} {Q : hk_Q} {v x : Int32} {n : Nat} (hn : n ≤ 100000) (hx : x = nI n - 1) (h1 : ∀ j, j < n → v = nI j → Q (some (.int 1)) h) (h0 : (∀ j, j < n → v ≠ nI j) → Q (some (.int 0)) h) : hk_call d mM_in [.int v, .int 0, .int x] h Q := by
  obtain ⟨d, rfl⟩ : ∃ e, d = e + 1 := ⟨d - 1, by omega⟩
  refine hk_run2 (hk_call_m d) 100 ?_
  have hxt : x.toInt = (n : Int) - 1 := by
    subst hx
    have := pk_sub_toInt (a := n) (b := 1) (by omega) (by omega)
    exact this
  refine And.intro (fun c => ?_) (fun c => ?_)
  · refine And.intro (by decide) (hk_qe_of (h0 (fun j hj e => ?_)))
    rw [hn_lt, e, hn_i (by omega)] at c
    exact absurd c (by simp)
  · refine And.intro (fun c2 => ?_) (fun c2 => ?_)
    · refine And.intro (by decide) (hk_qe_of (h0 (fun j hj e => ?_)))
      rw [hn_lt, e, hn_i (by omega), hxt] at c2
      omega
    · refine And.intro (by decide) (hk_qe_of ?_)
      obtain ⟨j, hj, e⟩ := hn_of (x := v) (n := n) hn c (fun q => c2 (by rw [hn_lt, hxt]; rw [hn_le, hn_i (by omega)] at q; omega))
      exact h1 j hj e
theorem sp_isBelow {d : Nat} (hd : 0 < d) {h : hk_Hp} {Q : hk_Q} {v x : Int32} {n : Nat} (hn : n ≤ 100000) (hx : x = nI n) (h1 : ∀ j, j < n → v = nI j → Q (some (.int 1)) h) (h0 : (∀ j, j < n → v ≠ nI j) → Q (some (.int 0)) h) : hk_call d mC_isBelow [.int v, .int x] h Q := by
  subst hx
  obtain ⟨d, rfl⟩ : ∃ e, d = e + 1 := ⟨d - 1, by omega⟩
  refine hk_run2 (hk_call_m d) 100 ?_
  refine And.intro (fun c => ?_) (fun c => ?_)
  · refine And.intro (by decide) (hk_qe_of (h0 (fun j hj e => ?_)))
    rw [hn_lt, e, hn_i (by omega)] at c
    exact absurd c (by simp)
  · refine And.intro (fun c2 => ?_) (fun c2 => ?_)
    · refine And.intro (by decide) (hk_qe_of (h0 (fun j hj e => ?_)))
      rw [hn_le, e, hn_i (by omega), hn_i (by omega)] at c2
      omega
    · refine And.intro (by decide) (hk_qe_of ?_)
      obtain ⟨j, hj, e⟩ := hn_of (x := v) (n := n) hn c c2
      exact h1 j hj e
theorem sp_its {d : Nat} (hd : 0 < d) {R : Nat → Nat → Int32} {X : hk_D} {Q : hk_Q} {k : Int32} {o j : Nat} (ho : R 98 9 = nI o) (hk : k = nI j) (hj : o + j < 36) (hQ : Q (some (.int (R 105 (o + j)))) (hw R X)) : hk_call d mM_its [.ref 98, .int k] (hw R X) Q := by
  obtain ⟨d, rfl⟩ : ∃ e, d = e + 1 := ⟨d - 1, by omega⟩
  refine hk_run2 (hk_call_m d) 100 ?_
  have e : R 98 9 + k = nI (o + j) := by rw [ho, hk, nI_add]
  refine And.intro (by rw [e]; exact vp_in_nI (N := 36) hj (by omega)) (hk_qe_of ?_)
  rw [e, nI_clamp (by omega)]
  exact hQ
theorem sp_becomes {d : Nat} (hd : 0 < d) {R : Nat → Nat → Int32} {X : hk_D} {Q : hk_Q} {k v : Int32} {o j : Nat} (ho : R 98 9 = nI o) (hk : k = nI j) (hj : o + j < 36) (hQ : Q none (hw (up2 R 105 (o + j) v) X)) : hk_call d mM_becomes [.ref 98, .int k, .int v] (hw R X) Q := by
  obtain ⟨d, rfl⟩ : ∃ e, d = e + 1 := ⟨d - 1, by omega⟩
  refine hk_run2 (hk_call_m d) 100 ?_
  have e : R 98 9 + k = nI (o + j) := by rw [ho, hk, nI_add]
  refine And.intro (by rw [e]; exact vp_in_nI (N := 36) hj (by omega)) (hk_qe_of ?_)
  rw [e, nI_clamp (by omega)]
  rw [hw_up (t := 10) rfl rfl]
  exact hQ
