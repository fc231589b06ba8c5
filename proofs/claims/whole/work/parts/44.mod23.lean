/-! THE REFERENCE: acts -/
/-- the trace: bodies in cell b, their number at (c, k) -/
def hf_tr (b c k : Nat) (l : List Int32) (R : Nat → Nat → Int32) : Prop := l.length ≤ 30 ∧ R c k = nI l.length ∧ ∀ i, i < l.length → R b i = l.getD i 0
theorem hf_tr_s {b c k : Nat} {l : List Int32} {R : Nat → Nat → Int32} {x : Int32} (T : hf_tr b c k l R) (hl : l.length < 30) (hbc : b ≠ c) : hf_tr b c k (l ++ [x]) (up2 (up2 R b l.length x) c k (nI (l.length + 1))) := by
  have e : (l ++ [x]).length = l.length + 1 := by rw [List.length_append]; rfl
  refine ⟨by omega, by rw [up2_s, e], fun i hi => ?_⟩
  rw [up2_a hbc, List.getD_eq_getElem?_getD]
  by_cases q : i = l.length
  · rw [q, up2_s, List.getElem?_append_right (Nat.le_refl _), Nat.sub_self]; rfl
  · rw [up2_k q, List.getElem?_append_left (by omega), ← List.getD_eq_getElem?_getD]; exact T.2.2 i (by omega)
theorem hf_tr_f {b c k : Nat} {l : List Int32} {R R' : Nat → Nat → Int32} (T : hf_tr b c k l R) (h1 : R' c k = R c k) (h2 : ∀ i, R' b i = R b i) : hf_tr b c k l R' := ⟨T.1, h1.trans T.2.1, fun i hi => (h2 i).trans (T.2.2 i hi)⟩
theorem hf_tr_0 {b c k : Nat} {R : Nat → Nat → Int32} (h : R c k = 0) : hf_tr b c k [] R := ⟨by decide, h, fun i hi => absurd hi (Nat.not_lt_zero i)⟩
def hh (k : Nat) (n x : Int32) : Int32 × List Int32 := match k with
  | 2 => ((x + n) * 3, [30, 10])
  | 3 => (x + n - n, [51, 10])
  | 4 => (0 - (x + n) * 3, [40, 30, 10])
  | _ => (x + n, [10])
def ff (s k : Nat) (n a x : Int32) : Int32 × List Int32 := match s with
  | 1 => ((hh k n x).1 * 2 - a, [20, 11] ++ (hh k n x).2)
  | 3 => ((hh k n x).1 * 2 - a, [20, 11] ++ (hh k n x).2)
  | 4 => ((hh k n x).1 * 2 + (hh k n n).1, [41, 11] ++ ((hh k n x).2 ++ (hh k n n).2))
  | _ => ((hh k n x).1 * 2, [11] ++ (hh k n x).2)
def sv (n a x : Int32) : Int32 := if a = n then 0 else x / (a - n)
def ss (s k : Nat) (n a x : Int32) : Int32 × List Int32 := match s with
  | 3 => (sv n a (x + 2) ^^^ 1, [50, 12])
  | 5 => if a = n then (0, [61, 12]) else (sv n a x + (hh k n a).1, [61, 12] ++ (hh k n a).2)
  | _ => (sv n a x, [12])
def tt (s k : Nat) (n a x : Int32) : Int32 × List Int32 := match s with
  | 2 => (((ff k k n a x).1 ^^^ a) + (ss k k n a n).1, [31, 13] ++ ((ff k k n a x).2 ++ (ss k k n a n).2))
  | 4 => (((ff k k n a x).1 ^^^ a) + (ss k k n a n).1, [31, 13] ++ ((ff k k n a x).2 ++ (ss k k n a n).2))
  | 5 => (((ff k k n a x).1 ^^^ a) * 2, [60, 13] ++ (ff k k n a x).2)
  | _ => ((ff k k n a x).1 ^^^ a, [13] ++ (ff k k n a x).2)
theorem hh_l (k : Nat) (n x : Int32) : (hh k n x).2.length ≤ 3 := by unfold hh; split <;> simp
theorem ff_l (s k : Nat) (n a x : Int32) : (ff s k n a x).2.length ≤ 8 := by
  have h1 := hh_l k n x
  have h2 := hh_l k n n
  unfold ff; split <;> simp only [List.length_append, List.length_cons, List.length_nil] <;> omega
theorem ss_l (s k : Nat) (n a x : Int32) : (ss s k n a x).2.length ≤ 5 := by
  have h1 := hh_l k n a
  unfold ss
  split
  · simp
  · split
    · simp
    · simp only [List.length_append, List.length_cons, List.length_nil]; omega
  · simp
/-- what an act leaves alone -/
def hfa (R R' : Nat → Nat → Int32) : Prop := ∀ a j, ¬ a = 124 → ¬ (a = 98 ∧ j = 45) → R' a j = R a j
theorem hfa_tr {R R1 R2 : Nat → Nat → Int32} (h1 : hfa R R1) (h2 : hfa R1 R2) : hfa R R2 := fun a k q1 q2 => (h2 a k q1 q2).trans (h1 a k q1 q2)
def hfe (k : Nat) (n a : Int32) (R : Nat → Nat → Int32) : Prop := R 98 41 = nI k ∧ R 98 42 = n ∧ R 98 43 = a ∧ k < 6
theorem hfe_f {k : Nat} {n a : Int32} {R R' : Nat → Nat → Int32} (E : hfe k n a R) (f : hfa R R') : hfe k n a R' := ⟨(f _ _ (by decide) (by decide)).trans E.1, (f _ _ (by decide) (by decide)).trans E.2.1, (f _ _ (by decide) (by decide)).trans E.2.2.1, E.2.2.2⟩
abbrev hTM (l : List Int32) (R : Nat → Nat → Int32) : Prop := hf_tr 124 98 45 l R
theorem sp_mran {d : Nat} (hd : 0 < d) {R : Nat → Nat → Int32} {X : hk_D} {Q : hk_Q} {v : Int32} {l : List Int32} (T : hTM l R) (hl : l.length < 30) (hQ : ∀ R', hTM (l ++ [v]) R' → hfa R R' → Q none (hw R' X)) : hk_call d mM_ran [.ref 98, .int v] (hw R X) Q := by
  obtain ⟨d, rfl⟩ : ∃ e, d = e + 1 := ⟨d - 1, by omega⟩
  have e := T.2.1
  refine hk_run2 (hk_call_m d) 100 ?_
  refine And.intro (fun c => absurd c (by rw [e]; exact nI_ge (b := 30) hl (by omega))) (fun c => ?_)
  refine w_st (t := 0) (j := l.length) (n := 30) e rfl hl (by omega) rfl rfl ?_
  refine w_put trivial rfl rfl ?_
  rw [up2_a (by decide), e, nI_1]
  exact hk_qe_of (hQ _ (hf_tr_s T hl (by decide)) (fun a j q1 q2 => by rw [up2_n q2, up2_a q1]))
theorem sp_mplainHolds {d : Nat} (hd : 1 < d) {R : Nat → Nat → Int32} {X : hk_D} {Q : hk_Q} {x n a : Int32} {k : Nat} {l : List Int32} (T : hTM l R) (E : hfe k n a R) (hl : l.length < 30) (hQ : ∀ R', hTM (l ++ [10]) R' → hfa R R' → Q (some (.int (x + n))) (hw R' X)) : hk_call d mM_plainHolds [.ref 98, .int x] (hw R X) Q := by
  obtain ⟨d, rfl⟩ : ∃ e, d = e + 1 := ⟨d - 1, by omega⟩
  refine hk_run2 (hk_call_m d) 100 ?_
  refine sp_mran (by omega) T hl (fun R1 T1 f1 => ?_)
  refine hk_qe_of ?_
  rw [(hfe_f E f1).2.1]
  exact hQ R1 T1 f1
theorem sp_mstrawHolds {d : Nat} (hd : 2 < d) {R : Nat → Nat → Int32} {X : hk_D} {Q : hk_Q} {x n a : Int32} {k : Nat} {l : List Int32} (T : hTM l R) (E : hfe k n a R) (hl : l.length < 29) (hQ : ∀ R', hTM (l ++ [30, 10]) R' → hfa R R' → Q (some (.int ((x + n) * 3))) (hw R' X)) : hk_call d mM_strawHolds [.ref 98, .int x] (hw R X) Q := by
  obtain ⟨d, rfl⟩ : ∃ e, d = e + 1 := ⟨d - 1, by omega⟩
  refine hk_run2 (hk_call_m d) 100 ?_
  refine sp_mran (by omega) T (by omega) (fun R1 T1 f1 => ?_)
  have l1 : (l ++ [(30 : Int32)]).length = l.length + 1 := by rw [List.length_append]; rfl
  refine sp_mplainHolds (by omega) T1 (hfe_f E f1) (by omega) (fun R2 T2 f2 => ?_)
  rw [List.append_assoc] at T2
  exact hk_qe_of (hQ R2 T2 (hfa_tr f1 f2))
set_option maxHeartbeats 400000 in
theorem sp_mholdsIt {d : Nat} (hd : 3 < d) {R : Nat → Nat → Int32} {X : hk_D} {Q : hk_Q} {y x n a : Int32} {k : Nat} {l : List Int32} (ey : y = x) (T : hTM l R) (E : hfe k n a R) (hl : l.length < 27) (hQ : ∀ R', hTM (l ++ (hh k n x).2) R' → hfa R R' → Q (some (.int (hh k n x).1)) (hw R' X)) : hk_call d mM_holdsIt [.ref 98, .int y] (hw R X) Q := by
  rw [ey]
  obtain ⟨d, rfl⟩ : ∃ e, d = e + 1 := ⟨d - 1, by omega⟩
  have k6 := E.2.2.2
  have l1 : ∀ y : Int32, (l ++ [y]).length = l.length + 1 := fun y => by rw [List.length_append]; rfl
  have ek : (R 98 41).toInt = k := by rw [E.1]; exact nI_toInt (by omega)
  refine hk_run2 (hk_call_m d) 100 ?_
  refine And.intro (fun c => ?_) (And.intro (fun c => ?_) (And.intro (fun c => ?_) (And.intro (fun c => ?_) trivial)))
  · rw [ek] at c
    have : k = 0 ∨ k = 1 ∨ k = 5 := by simp at c; omega
    refine sp_mplainHolds (by omega) T E (by omega) (fun R1 T1 f1 => ?_)
    rcases this with e | e | e
    · subst e; exact hk_qe_of (hQ R1 T1 f1)
    · subst e; exact hk_qe_of (hQ R1 T1 f1)
    · subst e; exact hk_qe_of (hQ R1 T1 f1)
  · rw [ek] at c
    have : k = 2 := by omega
    subst this
    refine sp_mstrawHolds (by omega) T E (by omega) (fun R1 T1 f1 => ?_)
    exact hk_qe_of (hQ R1 T1 f1)
  · rw [ek] at c
    have : k = 3 := by omega
    subst this
    refine sp_mran (by omega) T (by omega) (fun R1 T1 f1 => ?_)
    refine sp_mplainHolds (by omega) T1 (hfe_f E f1) (by rw [l1]; omega) (fun R2 T2 f2 => ?_)
    rw [List.append_assoc] at T2
    refine hk_qe_of ?_
    rw [(hfe_f E (hfa_tr f1 f2)).2.1]
    exact hQ R2 T2 (hfa_tr f1 f2)
  · rw [ek] at c
    have : k = 4 := by omega
    subst this
    refine sp_mran (by omega) T (by omega) (fun R1 T1 f1 => ?_)
    refine sp_mstrawHolds (by omega) T1 (hfe_f E f1) (by rw [l1]; omega) (fun R2 T2 f2 => ?_)
    rw [List.append_assoc] at T2
    exact hk_qe_of (hQ R2 T2 (hfa_tr f1 f2))
set_option maxHeartbeats 400000 in
theorem sp_mplainFlies {d : Nat} (hd : 4 < d) {R : Nat → Nat → Int32} {X : hk_D} {Q : hk_Q} {x n a : Int32} {k : Nat} {l : List Int32} (T : hTM l R) (E : hfe k n a R) (hl : l.length < 26) (hQ : ∀ R', hTM (l ++ ([11] ++ (hh k n x).2)) R' → hfa R R' → Q (some (.int ((hh k n x).1 * 2))) (hw R' X)) : hk_call d mM_plainFlies [.ref 98, .int x] (hw R X) Q := by
  obtain ⟨d, rfl⟩ : ∃ e, d = e + 1 := ⟨d - 1, by omega⟩
  have l1 : ∀ y : Int32, (l ++ [y]).length = l.length + 1 := fun y => by rw [List.length_append]; rfl
  refine hk_run2 (hk_call_m d) 100 ?_
  refine sp_mran (by omega) T (by omega) (fun R1 T1 f1 => ?_)
  refine sp_mholdsIt (by omega) rfl T1 (hfe_f E f1) (by rw [l1]; omega) (fun R2 T2 f2 => ?_)
  rw [List.append_assoc] at T2
  exact hk_qe_of (hQ R2 T2 (hfa_tr f1 f2))
set_option maxHeartbeats 400000 in
theorem sp_mfliesIt {d : Nat} (hd : 5 < d) {R : Nat → Nat → Int32} {X : hk_D} {Q : hk_Q} {x n a : Int32} {k : Nat} {l : List Int32} (T : hTM l R) (E : hfe k n a R) (hl : l.length < 20) (hQ : ∀ R', hTM (l ++ (ff k k n a x).2) R' → hfa R R' → Q (some (.int (ff k k n a x).1)) (hw R' X)) : hk_call d mM_fliesIt [.ref 98, .int x] (hw R X) Q := by
  obtain ⟨d, rfl⟩ : ∃ e, d = e + 1 := ⟨d - 1, by omega⟩
  have k6 := E.2.2.2
  have l1 : ∀ y : Int32, (l ++ [y]).length = l.length + 1 := fun y => by rw [List.length_append]; rfl
  have hl2 := hh_l k n x
  have pt : (k = 1 ∨ k = 3) → ∀ Xg : hk_Hp, True := fun _ _ => trivial
  have ek := E.1
  refine hk_run2 (hk_call_m d) 100 ?_
  refine And.intro (fun c => ?_) (fun c => ?_)
  · rw [ek] at c
    have : k = 1 := (nI_eq (b := 1) (by omega) (by omega)).mp c
    subst this
    refine sp_mran (by omega) T (by omega) (fun R1 T1 f1 => ?_)
    refine sp_mplainFlies (by omega) T1 (hfe_f E f1) (by rw [l1]; omega) (fun R2 T2 f2 => ?_)
    rw [List.append_assoc] at T2
    refine hk_qe_of ?_
    rw [(hfe_f E (hfa_tr f1 f2)).2.2.1]
    exact hQ R2 T2 (hfa_tr f1 f2)
  · rw [ek] at c
    have n1 : ¬ k = 1 := fun z => c (by rw [z]; rfl)
    refine And.intro (fun c2 => ?_) (fun c2 => ?_)
    · rw [ek] at c2
      have : k = 3 := (nI_eq (b := 3) (by omega) (by omega)).mp c2
      subst this
      refine sp_mran (by omega) T (by omega) (fun R1 T1 f1 => ?_)
      refine sp_mplainFlies (by omega) T1 (hfe_f E f1) (by rw [l1]; omega) (fun R2 T2 f2 => ?_)
      rw [List.append_assoc] at T2
      refine hk_qe_of ?_
      rw [(hfe_f E (hfa_tr f1 f2)).2.2.1]
      exact hQ R2 T2 (hfa_tr f1 f2)
    · rw [ek] at c2
      have n3 : ¬ k = 3 := fun z => c2 (by rw [z]; rfl)
      refine And.intro (fun c3 => ?_) (fun c3 => ?_)
      · rw [ek] at c3
        have : k = 4 := (nI_eq (b := 4) (by omega) (by omega)).mp c3
        subst this
        refine sp_mran (by omega) T (by omega) (fun R1 T1 f1 => ?_)
        refine sp_mplainFlies (by omega) T1 (hfe_f E f1) (by rw [l1]; omega) (fun R2 T2 f2 => ?_)
        have E2 := hfe_f E (hfa_tr f1 f2)
        refine sp_mholdsIt (by omega) E2.2.1 T2 E2 (by rw [List.length_append, l1, List.length_append, List.length_singleton]; omega) (fun R3 T3 f3 => ?_)
        rw [List.append_assoc, List.append_assoc] at T3
        exact hk_qe_of (hQ R3 T3 (hfa_tr (hfa_tr f1 f2) f3))
      · rw [ek] at c3
        have n4 : ¬ k = 4 := fun z => c3 (by rw [z]; rfl)
        refine sp_mplainFlies (by omega) T E (by omega) (fun R1 T1 f1 => ?_)
        have : k = 0 ∨ k = 2 ∨ k = 5 := by omega
        rcases this with e | e | e
        · subst e; exact hk_qe_of (hQ R1 T1 f1)
        · subst e; exact hk_qe_of (hQ R1 T1 f1)
        · subst e; exact hk_qe_of (hQ R1 T1 f1)
/-- what shares leave alone: also whether it was parted -/
def hfb (R R' : Nat → Nat → Int32) : Prop := ∀ a j, ¬ a = 124 → ¬ (a = 98 ∧ (j = 45 ∨ j = 46)) → R' a j = R a j
theorem hfb_a {R R' : Nat → Nat → Int32} (h : hfa R R') : hfb R R' := fun a k q1 q2 => h a k q1 (by omega)
theorem hfb_tr {R R1 R2 : Nat → Nat → Int32} (h1 : hfb R R1) (h2 : hfb R1 R2) : hfb R R2 := fun a k q1 q2 => (h2 a k q1 q2).trans (h1 a k q1 q2)
theorem hfe_b {k : Nat} {n a : Int32} {R R' : Nat → Nat → Int32} (E : hfe k n a R) (f : hfb R R') : hfe k n a R' := ⟨(f _ _ (by decide) (by decide)).trans E.1, (f _ _ (by decide) (by decide)).trans E.2.1, (f _ _ (by decide) (by decide)).trans E.2.2.1, E.2.2.2⟩
def hpt (n a : Int32) : Int32 := if a = n then 1 else 0
set_option maxHeartbeats 400000 in
theorem sp_mplainShares {d : Nat} (hd : 1 < d) {R : Nat → Nat → Int32} {X : hk_D} {Q : hk_Q} {x n a : Int32} {k : Nat} {l : List Int32} (T : hTM l R) (E : hfe k n a R) (h46 : R 98 46 = 0) (hl : l.length < 30) (hQ : ∀ R', hTM (l ++ [12]) R' → hfb R R' → R' 98 46 = hpt n a → Q (some (.int (sv n a x))) (hw R' X)) : hk_call d mM_plainShares [.ref 98, .int x] (hw R X) Q := by
  obtain ⟨d, rfl⟩ : ∃ e, d = e + 1 := ⟨d - 1, by omega⟩
  unfold sv hpt at hQ
  refine hk_run2 (hk_call_m d) 100 ?_
  refine sp_mran (by omega) T (by omega) (fun R1 T1 f1 => ?_)
  obtain ⟨e1, e2, e3, -⟩ := hfe_f E f1
  refine And.intro (fun c => ?_) (fun c => ?_)
  · rw [e2, e3] at c
    rw [if_pos c, if_pos c] at hQ
    refine w_put (by decide) rfl rfl ?_
    exact hk_qe_of (hQ _ (hf_tr_f T1 (up2_k (by decide)) (fun i => up2_a (by decide))) (fun b j q1 q2 => by rw [up2_n (by omega)]; exact f1 b j q1 (by omega)) (up2_s _ _ _ _))
  · rw [e2, e3] at c
    rw [if_neg c, if_neg c] at hQ
    refine And.intro (fun z => c ?_) ?_
    · rw [e2, e3] at z
      have : a - n + n = 0 + n := by rw [z]
      rw [Int32.sub_add_cancel, Int32.zero_add] at this
      exact this
    · refine hk_qe_of ?_
      rw [e2, e3]
      exact hQ R1 T1 (hfb_a f1) ((f1 98 46 (by decide) (by decide)).trans h46)
set_option maxHeartbeats 400000 in
theorem sp_msharesIt {d : Nat} (hd : 4 < d) {R : Nat → Nat → Int32} {X : hk_D} {Q : hk_Q} {y x n a : Int32} {k : Nat} {l : List Int32} (ey : y = x) (T : hTM l R) (E : hfe k n a R) (h46 : R 98 46 = 0) (hl : l.length < 20) (hQ : ∀ R', hTM (l ++ (ss k k n a x).2) R' → hfb R R' → R' 98 46 = hpt n a → Q (some (.int (ss k k n a x).1)) (hw R' X)) : hk_call d mM_sharesIt [.ref 98, .int y] (hw R X) Q := by
  rw [ey]
  obtain ⟨d, rfl⟩ : ∃ e, d = e + 1 := ⟨d - 1, by omega⟩
  have k6 := E.2.2.2
  have l1 : ∀ y : Int32, (l ++ [y]).length = l.length + 1 := fun y => by rw [List.length_append]; rfl
  have ek := E.1
  refine hk_run2 (hk_call_m d) 100 ?_
  refine And.intro (fun c => ?_) (fun c => ?_)
  · rw [ek] at c
    have : k = 3 := (nI_eq (b := 3) (by omega) (by omega)).mp c
    subst this
    refine sp_mran (by omega) T (by omega) (fun R1 T1 f1 => ?_)
    refine sp_mplainShares (by omega) T1 (hfe_f E f1) ((f1 98 46 (by decide) (by decide)).trans h46) (by rw [l1]; omega) (fun R2 T2 f2 p2 => ?_)
    rw [List.append_assoc] at T2
    exact hk_qe_of (hQ R2 T2 (hfb_tr (hfb_a f1) f2) p2)
  · rw [ek] at c
    have n3 : ¬ k = 3 := fun z => c (by rw [z]; rfl)
    refine And.intro (fun c2 => ?_) (fun c2 => ?_)
    · rw [ek] at c2
      have : k = 5 := (nI_eq (b := 5) (by omega) (by omega)).mp c2
      subst this
      refine sp_mran (by omega) T (by omega) (fun R1 T1 f1 => ?_)
      refine sp_mplainShares (by omega) T1 (hfe_f E f1) ((f1 98 46 (by decide) (by decide)).trans h46) (by rw [l1]; omega) (fun R2 T2 f2 p2 => ?_)
      rw [List.append_assoc] at T2
      have fr := hfb_tr (hfb_a f1) f2
      have E2 := hfe_b E fr
      refine And.intro (fun c3 => ?_) (fun c3 => ?_)
      · rw [p2] at c3
        have ne : ¬ a = n := fun z => by unfold hpt at c3; rw [if_pos z] at c3; exact absurd c3 (by decide)
        rw [show ss 5 5 n a x = (sv n a x + (hh 5 n a).1, [61, 12] ++ (hh 5 n a).2) from if_neg ne] at hQ
        refine sp_mholdsIt (by omega) E2.2.2.1 T2 E2 (by rw [List.length_append]; show l.length + 2 < 27; omega) (fun R3 T3 f3 => ?_)
        rw [List.append_assoc] at T3
        exact hk_qe_of (hQ R3 T3 (hfb_tr fr (hfb_a f3)) ((f3 98 46 (by decide) (by decide)).trans p2))
      · rw [p2] at c3
        have ye : a = n := Classical.byContradiction (fun z => c3 (by unfold hpt; rw [if_neg z]))
        rw [show ss 5 5 n a x = (0, [61, 12]) from if_pos ye] at hQ
        exact hk_qe_of (hQ R2 T2 fr p2)
    · rw [ek] at c2
      have n5 : ¬ k = 5 := fun z => c2 (by rw [z]; rfl)
      refine sp_mplainShares (by omega) T E h46 (by omega) (fun R1 T1 f1 p1 => ?_)
      have : k = 0 ∨ k = 1 ∨ k = 2 ∨ k = 4 := by omega
      rcases this with e | e | e | e
      · subst e; exact hk_qe_of (hQ R1 T1 f1 p1)
      · subst e; exact hk_qe_of (hQ R1 T1 f1 p1)
      · subst e; exact hk_qe_of (hQ R1 T1 f1 p1)
      · subst e; exact hk_qe_of (hQ R1 T1 f1 p1)
set_option maxHeartbeats 400000 in
theorem sp_mplainTells {d : Nat} (hd : 6 < d) {R : Nat → Nat → Int32} {X : hk_D} {Q : hk_Q} {x n a : Int32} {k : Nat} {l : List Int32} (T : hTM l R) (E : hfe k n a R) (hl : l.length < 19) (hQ : ∀ R', hTM (l ++ ([13] ++ (ff k k n a x).2)) R' → hfa R R' → Q (some (.int ((ff k k n a x).1 ^^^ a))) (hw R' X)) : hk_call d mM_plainTells [.ref 98, .int x] (hw R X) Q := by
  obtain ⟨d, rfl⟩ : ∃ e, d = e + 1 := ⟨d - 1, by omega⟩
  have l1 : ∀ y : Int32, (l ++ [y]).length = l.length + 1 := fun y => by rw [List.length_append]; rfl
  refine hk_run2 (hk_call_m d) 100 ?_
  refine sp_mran (by omega) T (by omega) (fun R1 T1 f1 => ?_)
  refine sp_mfliesIt (by omega) T1 (hfe_f E f1) (by rw [l1]; omega) (fun R2 T2 f2 => ?_)
  rw [List.append_assoc] at T2
  refine hk_qe_of ?_
  rw [(hfe_f E (hfa_tr f1 f2)).2.2.1]
  exact hQ R2 T2 (hfa_tr f1 f2)
/-- whether an act parts by 0 -/
def hps (s k : Nat) (n a : Int32) : Int32 := if (s = 2 ∨ (s = 3 ∧ (k = 2 ∨ k = 4))) ∧ a = n then 1 else 0
set_option maxHeartbeats 400000 in
theorem sp_mtellsIt {d : Nat} (hd : 7 < d) {R : Nat → Nat → Int32} {X : hk_D} {Q : hk_Q} {x n a : Int32} {k : Nat} {l : List Int32} (T : hTM l R) (E : hfe k n a R) (h46 : R 98 46 = 0) (hl : l.length < 5) (hQ : ∀ R', hTM (l ++ (tt k k n a x).2) R' → hfb R R' → R' 98 46 = hps 3 k n a → Q (some (.int (tt k k n a x).1)) (hw R' X)) : hk_call d mM_tellsIt [.ref 98, .int x] (hw R X) Q := by
  obtain ⟨d, rfl⟩ : ∃ e, d = e + 1 := ⟨d - 1, by omega⟩
  have k6 := E.2.2.2
  have l1 : ∀ y : Int32, (l ++ [y]).length = l.length + 1 := fun y => by rw [List.length_append]; rfl
  have ek := E.1
  have fl := ff_l k k n a x
  have sh : ∀ R1 y, y = n → (k = 2 ∨ k = 4) → hTM (l ++ ([31, 13] ++ (ff k k n a x).2)) R1 → hfa R R1 → ∀ Q' : hk_Q, (∀ R', hTM (l ++ (tt k k n a x).2) R' → hfb R R' → R' 98 46 = hps 3 k n a → Q' (some (.int (ss k k n a n).1)) (hw R' X)) → hk_call d mM_sharesIt [.ref 98, .int y] (hw R1 X) Q' := by
    intro R1 y ey hk T1 f1 Q' hQ'
    refine sp_msharesIt (by omega) ey T1 (hfe_f E f1) ((f1 98 46 (by decide) (by decide)).trans h46) (by rw [List.length_append, List.length_append]; show l.length + (2 + _) < 20; omega) (fun R2 T2 f2 p2 => ?_)
    rw [List.append_assoc, List.append_assoc] at T2
    refine hQ' R2 ?_ (hfb_tr (hfb_a f1) f2) ?_
    · rcases hk with e | e
      · subst e; exact T2
      · subst e; exact T2
    · rw [p2]
      unfold hpt hps
      by_cases z : a = n
      · rw [if_pos z, if_pos ⟨Or.inr ⟨rfl, hk⟩, z⟩]
      · rw [if_neg z, if_neg (fun y => z y.2)]
  have np : ∀ R1, ¬ (k = 2 ∨ k = 4) → hfa R R1 → R1 98 46 = hps 3 k n a := fun R1 nk f1 => by
    rw [f1 98 46 (by decide) (by decide), h46]
    unfold hps
    rw [if_neg (fun y => by rcases y.1 with z | z; exact absurd z (by decide); exact nk z.2)]
  refine hk_run2 (hk_call_m d) 100 ?_
  refine And.intro (fun c => ?_) (fun c => ?_)
  · rw [ek] at c
    have e : k = 2 := (nI_eq (b := 2) (by omega) (by omega)).mp c
    refine sp_mran (by omega) T (by omega) (fun R1 T1 f1 => ?_)
    refine sp_mplainTells (by omega) T1 (hfe_f E f1) (by rw [l1]; omega) (fun R2 T2 f2 => ?_)
    rw [List.append_assoc] at T2
    refine sh R2 _ (hfe_f E (hfa_tr f1 f2)).2.1 (Or.inl e) T2 (hfa_tr f1 f2) _ (fun R3 T3 f3 p3 => ?_)
    have hQ3 := hQ R3 T3 f3 p3
    subst e
    exact hk_qe_of hQ3
  · rw [ek] at c
    have n2 : ¬ k = 2 := fun z => c (by rw [z]; rfl)
    refine And.intro (fun c2 => ?_) (fun c2 => ?_)
    · rw [ek] at c2
      have e : k = 4 := (nI_eq (b := 4) (by omega) (by omega)).mp c2
      refine sp_mran (by omega) T (by omega) (fun R1 T1 f1 => ?_)
      refine sp_mplainTells (by omega) T1 (hfe_f E f1) (by rw [l1]; omega) (fun R2 T2 f2 => ?_)
      rw [List.append_assoc] at T2
      refine sh R2 _ (hfe_f E (hfa_tr f1 f2)).2.1 (Or.inr e) T2 (hfa_tr f1 f2) _ (fun R3 T3 f3 p3 => ?_)
      have hQ3 := hQ R3 T3 f3 p3
      subst e
      exact hk_qe_of hQ3
    · rw [ek] at c2
      have n4 : ¬ k = 4 := fun z => c2 (by rw [z]; rfl)
      refine And.intro (fun c3 => ?_) (fun c3 => ?_)
      · rw [ek] at c3
        have e : k = 5 := (nI_eq (b := 5) (by omega) (by omega)).mp c3
        refine sp_mran (by omega) T (by omega) (fun R1 T1 f1 => ?_)
        refine sp_mplainTells (by omega) T1 (hfe_f E f1) (by rw [l1]; omega) (fun R2 T2 f2 => ?_)
        rw [List.append_assoc] at T2
        have fr := hfa_tr f1 f2
        have p := np R2 (by omega) fr
        subst e
        exact hk_qe_of (hQ R2 T2 (hfb_a fr) p)
      · rw [ek] at c3
        have n5 : ¬ k = 5 := fun z => c3 (by rw [z]; rfl)
        refine sp_mplainTells (by omega) T E (by omega) (fun R1 T1 f1 => ?_)
        have p := np R1 (by omega) f1
        have : k = 0 ∨ k = 1 ∨ k = 3 := by omega
        rcases this with e | e | e
        · subst e; exact hk_qe_of (hQ R1 T1 (hfb_a f1) p)
        · subst e; exact hk_qe_of (hQ R1 T1 (hfb_a f1) p)
        · subst e; exact hk_qe_of (hQ R1 T1 (hfb_a f1) p)
