/-! THE CLASS: acts -/
theorem hk_sws_of {x : Int32} {K : Nat → Prop} : ∀ (tl : List Nat) (v : Int) (i t : Nat), x.toInt = v + i → hk_nth tl i = some t → K t → hk_sws x K v tl
  | [], _, _, _, _, h, _ => by cases h
  | a :: tl, v, 0, t, hx, h, g => by
    cases h
    refine And.intro (fun _ => g) ?_
    have : ∀ (tl : List Nat) (w : Int), x.toInt < w → hk_sws x K w tl := by
      intro tl
      induction tl with
      | nil => intro w _; exact trivial
      | cons b tl ih => intro w hw; exact And.intro (fun e => by omega) (ih (w + 1) (by omega))
    exact this tl (v + 1) (by omega)
  | a :: tl, v, i + 1, t, hx, h, g => And.intro (fun e => by omega) (hk_sws_of tl (v + 1) i t (by omega) h g)
theorem hk_nth_lt {α : Type} : ∀ (l : List α) (i : Nat) (t : α), hk_nth l i = some t → i < l.length
  | [], _, _, h => by cases h
  | a :: l, 0, _, _ => Nat.succ_pos _
  | a :: l, i + 1, t, h => Nat.succ_lt_succ (hk_nth_lt l i t h)
theorem w_sw {x : Int32} {lo : Int} {d : Nat} {tl : List Nat} {K : Nat → Prop} (i t : Nat) (hx : x.toInt = lo + i) (hi : hk_nth tl i = some t) (g : K t) : (x.toInt < lo ∨ lo + (tl.length - 1) < x.toInt → K d) ∧ hk_sws x K lo tl := by
  have := hk_nth_lt tl i t hi
  exact And.intro (fun c => by omega) (hk_sws_of tl lo i t hx hi g)
def hfaC (R R' : Nat → Nat → Int32) : Prop := ∀ a j, ¬ a = 93 → ¬ (a = 92 ∧ j = 1) → R' a j = R a j
theorem hfaC_tr {R R1 R2 : Nat → Nat → Int32} (h1 : hfaC R R1) (h2 : hfaC R1 R2) : hfaC R R2 := fun a k q1 q2 => (h2 a k q1 q2).trans (h1 a k q1 q2)
def hfbC (R R' : Nat → Nat → Int32) : Prop := ∀ a j, ¬ a = 93 → ¬ (a = 92 ∧ (j = 1 ∨ j = 5)) → R' a j = R a j
theorem hfbC_a {R R' : Nat → Nat → Int32} (h : hfaC R R') : hfbC R R' := fun a k q1 q2 => h a k q1 (by omega)
theorem hfbC_tr {R R1 R2 : Nat → Nat → Int32} (h1 : hfbC R R1) (h2 : hfbC R1 R2) : hfbC R R2 := fun a k q1 q2 => (h2 a k q1 q2).trans (h1 a k q1 q2)
def hfeC (k : Nat) (n a : Int32) (R : Nat → Nat → Int32) : Prop := R 92 2 = nI k ∧ R 92 3 = n ∧ R 92 4 = a ∧ k < 6
theorem hfeC_f {k : Nat} {n a : Int32} {R R' : Nat → Nat → Int32} (E : hfeC k n a R) (f : hfbC R R') : hfeC k n a R' := ⟨(f _ _ (by decide) (by decide)).trans E.1, (f _ _ (by decide) (by decide)).trans E.2.1, (f _ _ (by decide) (by decide)).trans E.2.2.1, E.2.2.2⟩
abbrev hTC (l : List Int32) (R : Nat → Nat → Int32) : Prop := hf_tr 93 92 1 l R
theorem sp_abegin {d : Nat} (hd : 0 < d) {R : Nat → Nat → Int32} {X : hk_D} {Q : hk_Q} {v b : Int32} {l : List Int32} (eb : v = b) (T : hTC l R) (hl : l.length < 30) (hQ : ∀ R', hTC (l ++ [b]) R' → hfaC R R' → Q none (hw R' X)) : hk_call d mA_begin [.ref 92, .int v] (hw R X) Q := by
  rw [eb]
  obtain ⟨d, rfl⟩ : ∃ e, d = e + 1 := ⟨d - 1, by omega⟩
  have e := T.2.1
  refine hk_run2 (hk_call_m d) 100 ?_
  refine And.intro (fun c => absurd c (by rw [e]; exact nI_ge (b := 30) hl (by omega))) (fun c => ?_)
  refine w_st (t := 0) (j := l.length) (n := 30) e rfl hl (by omega) rfl rfl ?_
  refine w_put trivial rfl rfl ?_
  rw [up2_a (by decide), e, nI_1]
  exact hk_qe_of (hQ _ (hf_tr_s T hl (by decide)) (fun a j q1 q2 => by rw [up2_n q2, up2_a q1]))
theorem sp_ashare {d : Nat} (hd : 0 < d) {R : Nat → Nat → Int32} {X : hk_D} {Q : hk_Q} {x n a : Int32} {k : Nat} (E : hfeC k n a R) (p0 : R 92 5 = 0) (hQ : ∀ R', (∀ b j, ¬ (b = 92 ∧ j = 5) → R' b j = R b j) → R' 92 5 = hpt n a → Q (some (.int (sv n a x))) (hw R' X)) : hk_call d mA_share [.ref 92, .int x] (hw R X) Q := by
  obtain ⟨d, rfl⟩ : ∃ e, d = e + 1 := ⟨d - 1, by omega⟩
  obtain ⟨-, e3, e4, -⟩ := E
  unfold sv hpt at hQ
  have iff : a - n = 0 ↔ a = n := by
    constructor
    · intro z
      have : a - n + n = 0 + n := by rw [z]
      rw [Int32.sub_add_cancel, Int32.zero_add] at this
      exact this
    · intro z; rw [z, Int32.sub_self]
  refine hk_run2 (hk_call_m d) 100 ?_
  refine And.intro (fun c => ?_) (fun c => ?_)
  · rw [e3, e4] at c
    rw [if_pos (iff.mp c), if_pos (iff.mp c)] at hQ
    refine w_put (by decide) rfl rfl ?_
    exact hk_qe_of (hQ _ (fun b j q => up2_n q) (up2_s _ _ _ _))
  · rw [e3, e4] at c
    rw [if_neg (fun z => c (iff.mpr z)), if_neg (fun z => c (iff.mpr z))] at hQ
    refine And.intro (fun z => c (by rw [e3, e4] at z; exact z)) ?_
    refine hk_qe_of ?_
    rw [e3, e4]
    exact hQ R (fun _ _ _ => rfl) p0
theorem sp_arp {d : Nat} (hd : 0 < d) {R : Nat → Nat → Int32} {X : hk_D} {Q : hk_Q} {u w y z : Int32} (p1 : R 92 5 = 1) (hQ : Q (some (.int 0)) (hw R X)) : hk_call d mA_run [.ref 92, .int u, .int w, .int y, .int z] (hw R X) Q := by
  obtain ⟨d, rfl⟩ : ∃ e, d = e + 1 := ⟨d - 1, by omega⟩
  refine hk_run2 (hk_call_m d) 100 ?_
  refine And.intro (fun c => by rw [p1] at c; exact absurd c (by decide)) (fun _ => ?_)
  exact hk_qe_of hQ
abbrev rTL : List Nat := [25, 30, 40, 44, 161, 161, 161, 161, 161, 161, 55, 161, 161, 161, 161, 161, 161, 161, 161, 161, 65, 74, 161, 161, 161, 161, 161, 161, 161, 161, 90, 99, 161, 161, 161, 161, 161, 161, 161, 161, 115, 126, 161, 161, 161, 161, 161, 161, 161, 161, 136, 145]
set_option maxHeartbeats 400000 in
theorem sp_arh0 {d : Nat} (hd : 1 < d) {R : Nat → Nat → Int32} {X : hk_D} {Q : hk_Q} {u y x n a : Int32} {k dp : Nat} {l : List Int32} (eu : u = nI 0) (ey : y = x) (T : hTC l R) (E : hfeC k n a R) (p0 : R 92 5 = 0) (hdp : dp ≤ 16) (hl : l.length < 29) (hQ : ∀ R', hTC (l ++ (hh 0 n x).2) R' → hfaC R R' → Q (some (.int (hh 0 n x).1)) (hw R' X)) : hk_call d mA_run [.ref 92, .int u, .int 0, .int y, .int (nI dp)] (hw R X) Q := by
  rw [eu, ey]
  obtain ⟨d, rfl⟩ : ∃ e, d = e + 1 := ⟨d - 1, by omega⟩
  have l1 : ∀ z : Int32, (l ++ [z]).length = l.length + 1 := fun z => by rw [List.length_append]; rfl
  refine hk_run2 (hk_call_m d) 100 ?_
  refine And.intro (fun _ => ?_) (fun c => absurd p0 c)
  refine And.intro (fun _ => ?_) (fun c => absurd (nI_le (b := 20) (by omega) (by omega)) c)
  refine And.intro (by rw [show (4 : Int32) * nI 0 + 0 = nI 0 by decide]; exact vp_in_nI (N := 24) (by decide) (by decide)) ?_
  refine sp_abegin (b := 10) (by omega) (by decide) T (by omega) (fun R1 T1 f1 => ?_)
  refine And.intro (fun c => absurd c (by decide)) (hk_sws_of rTL 10 0 25 (by decide) rfl ?_)
  rw [nI_1]
  have E1 := hfeC_f E (hfbC_a f1)
  have q0 : R1 92 5 = 0 := (f1 92 5 (by decide) (by decide)).trans p0
  refine hk_qe_of ?_
  rw [E1.2.1]
  exact hQ R1 T1 f1
set_option maxHeartbeats 400000 in
theorem sp_arh1 {d : Nat} (hd : 1 < d) {R : Nat → Nat → Int32} {X : hk_D} {Q : hk_Q} {u y x n a : Int32} {k dp : Nat} {l : List Int32} (eu : u = nI 1) (ey : y = x) (T : hTC l R) (E : hfeC k n a R) (p0 : R 92 5 = 0) (hdp : dp ≤ 16) (hl : l.length < 29) (hQ : ∀ R', hTC (l ++ (hh 1 n x).2) R' → hfaC R R' → Q (some (.int (hh 1 n x).1)) (hw R' X)) : hk_call d mA_run [.ref 92, .int u, .int 0, .int y, .int (nI dp)] (hw R X) Q := by
  rw [eu, ey]
  obtain ⟨d, rfl⟩ : ∃ e, d = e + 1 := ⟨d - 1, by omega⟩
  have l1 : ∀ z : Int32, (l ++ [z]).length = l.length + 1 := fun z => by rw [List.length_append]; rfl
  refine hk_run2 (hk_call_m d) 100 ?_
  refine And.intro (fun _ => ?_) (fun c => absurd p0 c)
  refine And.intro (fun _ => ?_) (fun c => absurd (nI_le (b := 20) (by omega) (by omega)) c)
  refine And.intro (by rw [show (4 : Int32) * nI 1 + 0 = nI 4 by decide]; exact vp_in_nI (N := 24) (by decide) (by decide)) ?_
  refine sp_abegin (b := 10) (by omega) (by decide) T (by omega) (fun R1 T1 f1 => ?_)
  refine And.intro (fun c => absurd c (by decide)) (hk_sws_of rTL 10 0 25 (by decide) rfl ?_)
  rw [nI_1]
  have E1 := hfeC_f E (hfbC_a f1)
  have q0 : R1 92 5 = 0 := (f1 92 5 (by decide) (by decide)).trans p0
  refine hk_qe_of ?_
  rw [E1.2.1]
  exact hQ R1 T1 f1
set_option maxHeartbeats 400000 in
theorem sp_arh5 {d : Nat} (hd : 1 < d) {R : Nat → Nat → Int32} {X : hk_D} {Q : hk_Q} {u y x n a : Int32} {k dp : Nat} {l : List Int32} (eu : u = nI 5) (ey : y = x) (T : hTC l R) (E : hfeC k n a R) (p0 : R 92 5 = 0) (hdp : dp ≤ 16) (hl : l.length < 29) (hQ : ∀ R', hTC (l ++ (hh 5 n x).2) R' → hfaC R R' → Q (some (.int (hh 5 n x).1)) (hw R' X)) : hk_call d mA_run [.ref 92, .int u, .int 0, .int y, .int (nI dp)] (hw R X) Q := by
  rw [eu, ey]
  obtain ⟨d, rfl⟩ : ∃ e, d = e + 1 := ⟨d - 1, by omega⟩
  have l1 : ∀ z : Int32, (l ++ [z]).length = l.length + 1 := fun z => by rw [List.length_append]; rfl
  refine hk_run2 (hk_call_m d) 100 ?_
  refine And.intro (fun _ => ?_) (fun c => absurd p0 c)
  refine And.intro (fun _ => ?_) (fun c => absurd (nI_le (b := 20) (by omega) (by omega)) c)
  refine And.intro (by rw [show (4 : Int32) * nI 5 + 0 = nI 20 by decide]; exact vp_in_nI (N := 24) (by decide) (by decide)) ?_
  refine sp_abegin (b := 10) (by omega) (by decide) T (by omega) (fun R1 T1 f1 => ?_)
  refine And.intro (fun c => absurd c (by decide)) (hk_sws_of rTL 10 0 25 (by decide) rfl ?_)
  rw [nI_1]
  have E1 := hfeC_f E (hfbC_a f1)
  have q0 : R1 92 5 = 0 := (f1 92 5 (by decide) (by decide)).trans p0
  refine hk_qe_of ?_
  rw [E1.2.1]
  exact hQ R1 T1 f1
set_option maxHeartbeats 400000 in
theorem sp_arh2 {d : Nat} (hd : 2 < d) {R : Nat → Nat → Int32} {X : hk_D} {Q : hk_Q} {u y x n a : Int32} {k dp : Nat} {l : List Int32} (eu : u = nI 2) (ey : y = x) (T : hTC l R) (E : hfeC k n a R) (p0 : R 92 5 = 0) (hdp : dp ≤ 15) (hl : l.length < 28) (hQ : ∀ R', hTC (l ++ (hh 2 n x).2) R' → hfaC R R' → Q (some (.int (hh 2 n x).1)) (hw R' X)) : hk_call d mA_run [.ref 92, .int u, .int 0, .int y, .int (nI dp)] (hw R X) Q := by
  rw [eu, ey]
  obtain ⟨d, rfl⟩ : ∃ e, d = e + 1 := ⟨d - 1, by omega⟩
  have l1 : ∀ z : Int32, (l ++ [z]).length = l.length + 1 := fun z => by rw [List.length_append]; rfl
  refine hk_run2 (hk_call_m d) 100 ?_
  refine And.intro (fun _ => ?_) (fun c => absurd p0 c)
  refine And.intro (fun _ => ?_) (fun c => absurd (nI_le (b := 20) (by omega) (by omega)) c)
  refine And.intro (by rw [show (4 : Int32) * nI 2 + 0 = nI 8 by decide]; exact vp_in_nI (N := 24) (by decide) (by decide)) ?_
  refine sp_abegin (b := 30) (by omega) (by decide) T (by omega) (fun R1 T1 f1 => ?_)
  refine And.intro (fun c => absurd c (by decide)) (hk_sws_of rTL 10 20 65 (by decide) rfl ?_)
  rw [nI_1]
  have E1 := hfeC_f E (hfbC_a f1)
  have q0 : R1 92 5 = 0 := (f1 92 5 (by decide) (by decide)).trans p0
  refine sp_arh0 (dp := dp + 1) (by omega) rfl rfl T1 E1 q0 (by omega) (by rw [l1]; omega) (fun R2 T2 f2 => ?_)
  rw [List.append_assoc] at T2
  exact hk_qe_of (hQ R2 T2 (hfaC_tr f1 f2))
set_option maxHeartbeats 400000 in
theorem sp_arh3 {d : Nat} (hd : 2 < d) {R : Nat → Nat → Int32} {X : hk_D} {Q : hk_Q} {u y x n a : Int32} {k dp : Nat} {l : List Int32} (eu : u = nI 3) (ey : y = x) (T : hTC l R) (E : hfeC k n a R) (p0 : R 92 5 = 0) (hdp : dp ≤ 15) (hl : l.length < 28) (hQ : ∀ R', hTC (l ++ (hh 3 n x).2) R' → hfaC R R' → Q (some (.int (hh 3 n x).1)) (hw R' X)) : hk_call d mA_run [.ref 92, .int u, .int 0, .int y, .int (nI dp)] (hw R X) Q := by
  rw [eu, ey]
  obtain ⟨d, rfl⟩ : ∃ e, d = e + 1 := ⟨d - 1, by omega⟩
  have l1 : ∀ z : Int32, (l ++ [z]).length = l.length + 1 := fun z => by rw [List.length_append]; rfl
  refine hk_run2 (hk_call_m d) 100 ?_
  refine And.intro (fun _ => ?_) (fun c => absurd p0 c)
  refine And.intro (fun _ => ?_) (fun c => absurd (nI_le (b := 20) (by omega) (by omega)) c)
  refine And.intro (by rw [show (4 : Int32) * nI 3 + 0 = nI 12 by decide]; exact vp_in_nI (N := 24) (by decide) (by decide)) ?_
  refine sp_abegin (b := 51) (by omega) (by decide) T (by omega) (fun R1 T1 f1 => ?_)
  refine And.intro (fun c => absurd c (by decide)) (hk_sws_of rTL 10 41 126 (by decide) rfl ?_)
  rw [nI_1]
  have E1 := hfeC_f E (hfbC_a f1)
  have q0 : R1 92 5 = 0 := (f1 92 5 (by decide) (by decide)).trans p0
  refine sp_arh1 (dp := dp + 1) (by omega) rfl rfl T1 E1 q0 (by omega) (by rw [l1]; omega) (fun R2 T2 f2 => ?_)
  rw [List.append_assoc] at T2
  refine hk_qe_of ?_
  rw [(hfeC_f E (hfbC_a (hfaC_tr f1 f2))).2.1]
  exact hQ R2 T2 (hfaC_tr f1 f2)
set_option maxHeartbeats 400000 in
theorem sp_arh4 {d : Nat} (hd : 3 < d) {R : Nat → Nat → Int32} {X : hk_D} {Q : hk_Q} {u y x n a : Int32} {k dp : Nat} {l : List Int32} (eu : u = nI 4) (ey : y = x) (T : hTC l R) (E : hfeC k n a R) (p0 : R 92 5 = 0) (hdp : dp ≤ 14) (hl : l.length < 27) (hQ : ∀ R', hTC (l ++ (hh 4 n x).2) R' → hfaC R R' → Q (some (.int (hh 4 n x).1)) (hw R' X)) : hk_call d mA_run [.ref 92, .int u, .int 0, .int y, .int (nI dp)] (hw R X) Q := by
  rw [eu, ey]
  obtain ⟨d, rfl⟩ : ∃ e, d = e + 1 := ⟨d - 1, by omega⟩
  have l1 : ∀ z : Int32, (l ++ [z]).length = l.length + 1 := fun z => by rw [List.length_append]; rfl
  refine hk_run2 (hk_call_m d) 100 ?_
  refine And.intro (fun _ => ?_) (fun c => absurd p0 c)
  refine And.intro (fun _ => ?_) (fun c => absurd (nI_le (b := 20) (by omega) (by omega)) c)
  refine And.intro (by rw [show (4 : Int32) * nI 4 + 0 = nI 16 by decide]; exact vp_in_nI (N := 24) (by decide) (by decide)) ?_
  refine sp_abegin (b := 40) (by omega) (by decide) T (by omega) (fun R1 T1 f1 => ?_)
  refine And.intro (fun c => absurd c (by decide)) (hk_sws_of rTL 10 30 90 (by decide) rfl ?_)
  rw [nI_1]
  have E1 := hfeC_f E (hfbC_a f1)
  have q0 : R1 92 5 = 0 := (f1 92 5 (by decide) (by decide)).trans p0
  refine sp_arh2 (dp := dp + 1) (by omega) rfl rfl T1 E1 q0 (by omega) (by rw [l1]; omega) (fun R2 T2 f2 => ?_)
  rw [List.append_assoc] at T2
  exact hk_qe_of (hQ R2 T2 (hfaC_tr f1 f2))
theorem sp_arh {d : Nat} (hd : 3 < d) {R : Nat → Nat → Int32} {X : hk_D} {Q : hk_Q} {u y x n a : Int32} {k dp s : Nat} {l : List Int32} (eu : u = nI s) (hs : s < 6) (ey : y = x) (T : hTC l R) (E : hfeC k n a R) (p0 : R 92 5 = 0) (hdp : dp ≤ 14) (hl : l.length < 27) (hQ : ∀ R', hTC (l ++ (hh s n x).2) R' → hfaC R R' → Q (some (.int (hh s n x).1)) (hw R' X)) : hk_call d mA_run [.ref 92, .int u, .int 0, .int y, .int (nI dp)] (hw R X) Q := by
  have : s = 0 ∨ s = 1 ∨ s = 2 ∨ s = 3 ∨ s = 4 ∨ s = 5 := by omega
  rcases this with e | e | e | e | e | e
  · subst e; exact sp_arh0 (by omega) eu ey T E p0 (by omega) (by omega) hQ
  · subst e; exact sp_arh1 (by omega) eu ey T E p0 (by omega) (by omega) hQ
  · subst e; exact sp_arh2 (by omega) eu ey T E p0 (by omega) (by omega) hQ
  · subst e; exact sp_arh3 (by omega) eu ey T E p0 (by omega) (by omega) hQ
  · subst e; exact sp_arh4 (by omega) eu ey T E p0 (by omega) (by omega) hQ
  · subst e; exact sp_arh5 (by omega) eu ey T E p0 (by omega) (by omega) hQ
set_option maxHeartbeats 400000 in
theorem sp_arf0 {d : Nat} (hd : 4 < d) {R : Nat → Nat → Int32} {X : hk_D} {Q : hk_Q} {u y x n a : Int32} {k dp : Nat} {l : List Int32} (eu : u = nI 0) (ey : y = x) (T : hTC l R) (E : hfeC k n a R) (p0 : R 92 5 = 0) (hdp : dp ≤ 13) (hl : l.length < 26) (hQ : ∀ R', hTC (l ++ (ff 0 k n a x).2) R' → hfaC R R' → Q (some (.int (ff 0 k n a x).1)) (hw R' X)) : hk_call d mA_run [.ref 92, .int u, .int 1, .int y, .int (nI dp)] (hw R X) Q := by
  rw [eu, ey]
  obtain ⟨d, rfl⟩ : ∃ e, d = e + 1 := ⟨d - 1, by omega⟩
  have l1 : ∀ z : Int32, (l ++ [z]).length = l.length + 1 := fun z => by rw [List.length_append]; rfl
  refine hk_run2 (hk_call_m d) 100 ?_
  refine And.intro (fun _ => ?_) (fun c => absurd p0 c)
  refine And.intro (fun _ => ?_) (fun c => absurd (nI_le (b := 20) (by omega) (by omega)) c)
  refine And.intro (by rw [show (4 : Int32) * nI 0 + 1 = nI 1 by decide]; exact vp_in_nI (N := 24) (by decide) (by decide)) ?_
  refine sp_abegin (b := 11) (by omega) (by decide) T (by omega) (fun R1 T1 f1 => ?_)
  refine And.intro (fun c => absurd c (by decide)) (hk_sws_of rTL 10 1 30 (by decide) rfl ?_)
  rw [nI_1]
  have E1 := hfeC_f E (hfbC_a f1)
  have q0 : R1 92 5 = 0 := (f1 92 5 (by decide) (by decide)).trans p0
  refine sp_arh (dp := dp + 1) (by omega) E1.1 E.2.2.2 rfl T1 E1 q0 (by omega) (by rw [l1]; omega) (fun R2 T2 f2 => ?_)
  rw [List.append_assoc] at T2
  exact hk_qe_of (hQ R2 T2 (hfaC_tr f1 f2))
set_option maxHeartbeats 400000 in
theorem sp_arf2 {d : Nat} (hd : 4 < d) {R : Nat → Nat → Int32} {X : hk_D} {Q : hk_Q} {u y x n a : Int32} {k dp : Nat} {l : List Int32} (eu : u = nI 2) (ey : y = x) (T : hTC l R) (E : hfeC k n a R) (p0 : R 92 5 = 0) (hdp : dp ≤ 13) (hl : l.length < 26) (hQ : ∀ R', hTC (l ++ (ff 2 k n a x).2) R' → hfaC R R' → Q (some (.int (ff 2 k n a x).1)) (hw R' X)) : hk_call d mA_run [.ref 92, .int u, .int 1, .int y, .int (nI dp)] (hw R X) Q := by
  rw [eu, ey]
  obtain ⟨d, rfl⟩ : ∃ e, d = e + 1 := ⟨d - 1, by omega⟩
  have l1 : ∀ z : Int32, (l ++ [z]).length = l.length + 1 := fun z => by rw [List.length_append]; rfl
  refine hk_run2 (hk_call_m d) 100 ?_
  refine And.intro (fun _ => ?_) (fun c => absurd p0 c)
  refine And.intro (fun _ => ?_) (fun c => absurd (nI_le (b := 20) (by omega) (by omega)) c)
  refine And.intro (by rw [show (4 : Int32) * nI 2 + 1 = nI 9 by decide]; exact vp_in_nI (N := 24) (by decide) (by decide)) ?_
  refine sp_abegin (b := 11) (by omega) (by decide) T (by omega) (fun R1 T1 f1 => ?_)
  refine And.intro (fun c => absurd c (by decide)) (hk_sws_of rTL 10 1 30 (by decide) rfl ?_)
  rw [nI_1]
  have E1 := hfeC_f E (hfbC_a f1)
  have q0 : R1 92 5 = 0 := (f1 92 5 (by decide) (by decide)).trans p0
  refine sp_arh (dp := dp + 1) (by omega) E1.1 E.2.2.2 rfl T1 E1 q0 (by omega) (by rw [l1]; omega) (fun R2 T2 f2 => ?_)
  rw [List.append_assoc] at T2
  exact hk_qe_of (hQ R2 T2 (hfaC_tr f1 f2))
set_option maxHeartbeats 400000 in
theorem sp_arf5 {d : Nat} (hd : 4 < d) {R : Nat → Nat → Int32} {X : hk_D} {Q : hk_Q} {u y x n a : Int32} {k dp : Nat} {l : List Int32} (eu : u = nI 5) (ey : y = x) (T : hTC l R) (E : hfeC k n a R) (p0 : R 92 5 = 0) (hdp : dp ≤ 13) (hl : l.length < 26) (hQ : ∀ R', hTC (l ++ (ff 5 k n a x).2) R' → hfaC R R' → Q (some (.int (ff 5 k n a x).1)) (hw R' X)) : hk_call d mA_run [.ref 92, .int u, .int 1, .int y, .int (nI dp)] (hw R X) Q := by
  rw [eu, ey]
  obtain ⟨d, rfl⟩ : ∃ e, d = e + 1 := ⟨d - 1, by omega⟩
  have l1 : ∀ z : Int32, (l ++ [z]).length = l.length + 1 := fun z => by rw [List.length_append]; rfl
  refine hk_run2 (hk_call_m d) 100 ?_
  refine And.intro (fun _ => ?_) (fun c => absurd p0 c)
  refine And.intro (fun _ => ?_) (fun c => absurd (nI_le (b := 20) (by omega) (by omega)) c)
  refine And.intro (by rw [show (4 : Int32) * nI 5 + 1 = nI 21 by decide]; exact vp_in_nI (N := 24) (by decide) (by decide)) ?_
  refine sp_abegin (b := 11) (by omega) (by decide) T (by omega) (fun R1 T1 f1 => ?_)
  refine And.intro (fun c => absurd c (by decide)) (hk_sws_of rTL 10 1 30 (by decide) rfl ?_)
  rw [nI_1]
  have E1 := hfeC_f E (hfbC_a f1)
  have q0 : R1 92 5 = 0 := (f1 92 5 (by decide) (by decide)).trans p0
  refine sp_arh (dp := dp + 1) (by omega) E1.1 E.2.2.2 rfl T1 E1 q0 (by omega) (by rw [l1]; omega) (fun R2 T2 f2 => ?_)
  rw [List.append_assoc] at T2
  exact hk_qe_of (hQ R2 T2 (hfaC_tr f1 f2))
set_option maxHeartbeats 400000 in
theorem sp_arf1 {d : Nat} (hd : 5 < d) {R : Nat → Nat → Int32} {X : hk_D} {Q : hk_Q} {u y x n a : Int32} {k dp : Nat} {l : List Int32} (eu : u = nI 1) (ey : y = x) (T : hTC l R) (E : hfeC k n a R) (p0 : R 92 5 = 0) (hdp : dp ≤ 12) (hl : l.length < 25) (hQ : ∀ R', hTC (l ++ (ff 1 k n a x).2) R' → hfaC R R' → Q (some (.int (ff 1 k n a x).1)) (hw R' X)) : hk_call d mA_run [.ref 92, .int u, .int 1, .int y, .int (nI dp)] (hw R X) Q := by
  rw [eu, ey]
  obtain ⟨d, rfl⟩ : ∃ e, d = e + 1 := ⟨d - 1, by omega⟩
  have l1 : ∀ z : Int32, (l ++ [z]).length = l.length + 1 := fun z => by rw [List.length_append]; rfl
  refine hk_run2 (hk_call_m d) 100 ?_
  refine And.intro (fun _ => ?_) (fun c => absurd p0 c)
  refine And.intro (fun _ => ?_) (fun c => absurd (nI_le (b := 20) (by omega) (by omega)) c)
  refine And.intro (by rw [show (4 : Int32) * nI 1 + 1 = nI 5 by decide]; exact vp_in_nI (N := 24) (by decide) (by decide)) ?_
  refine sp_abegin (b := 20) (by omega) (by decide) T (by omega) (fun R1 T1 f1 => ?_)
  refine And.intro (fun c => absurd c (by decide)) (hk_sws_of rTL 10 10 55 (by decide) rfl ?_)
  rw [nI_1]
  have E1 := hfeC_f E (hfbC_a f1)
  have q0 : R1 92 5 = 0 := (f1 92 5 (by decide) (by decide)).trans p0
  refine sp_arf0 (dp := dp + 1) (by omega) rfl rfl T1 E1 q0 (by omega) (by rw [l1]; omega) (fun R2 T2 f2 => ?_)
  rw [List.append_assoc] at T2
  refine hk_qe_of ?_
  rw [(hfeC_f E (hfbC_a (hfaC_tr f1 f2))).2.2.1]
  exact hQ R2 T2 (hfaC_tr f1 f2)
set_option maxHeartbeats 400000 in
theorem sp_arf3 {d : Nat} (hd : 5 < d) {R : Nat → Nat → Int32} {X : hk_D} {Q : hk_Q} {u y x n a : Int32} {k dp : Nat} {l : List Int32} (eu : u = nI 3) (ey : y = x) (T : hTC l R) (E : hfeC k n a R) (p0 : R 92 5 = 0) (hdp : dp ≤ 12) (hl : l.length < 25) (hQ : ∀ R', hTC (l ++ (ff 3 k n a x).2) R' → hfaC R R' → Q (some (.int (ff 3 k n a x).1)) (hw R' X)) : hk_call d mA_run [.ref 92, .int u, .int 1, .int y, .int (nI dp)] (hw R X) Q := by
  rw [eu, ey]
  obtain ⟨d, rfl⟩ : ∃ e, d = e + 1 := ⟨d - 1, by omega⟩
  have l1 : ∀ z : Int32, (l ++ [z]).length = l.length + 1 := fun z => by rw [List.length_append]; rfl
  refine hk_run2 (hk_call_m d) 100 ?_
  refine And.intro (fun _ => ?_) (fun c => absurd p0 c)
  refine And.intro (fun _ => ?_) (fun c => absurd (nI_le (b := 20) (by omega) (by omega)) c)
  refine And.intro (by rw [show (4 : Int32) * nI 3 + 1 = nI 13 by decide]; exact vp_in_nI (N := 24) (by decide) (by decide)) ?_
  refine sp_abegin (b := 20) (by omega) (by decide) T (by omega) (fun R1 T1 f1 => ?_)
  refine And.intro (fun c => absurd c (by decide)) (hk_sws_of rTL 10 10 55 (by decide) rfl ?_)
  rw [nI_1]
  have E1 := hfeC_f E (hfbC_a f1)
  have q0 : R1 92 5 = 0 := (f1 92 5 (by decide) (by decide)).trans p0
  refine sp_arf0 (dp := dp + 1) (by omega) rfl rfl T1 E1 q0 (by omega) (by rw [l1]; omega) (fun R2 T2 f2 => ?_)
  rw [List.append_assoc] at T2
  refine hk_qe_of ?_
  rw [(hfeC_f E (hfbC_a (hfaC_tr f1 f2))).2.2.1]
  exact hQ R2 T2 (hfaC_tr f1 f2)
set_option maxHeartbeats 400000 in
theorem sp_arf4 {d : Nat} (hd : 5 < d) {R : Nat → Nat → Int32} {X : hk_D} {Q : hk_Q} {u y x n a : Int32} {k dp : Nat} {l : List Int32} (eu : u = nI 4) (ey : y = x) (T : hTC l R) (E : hfeC k n a R) (p0 : R 92 5 = 0) (hdp : dp ≤ 12) (hl : l.length < 20) (hQ : ∀ R', hTC (l ++ (ff 4 k n a x).2) R' → hfaC R R' → Q (some (.int (ff 4 k n a x).1)) (hw R' X)) : hk_call d mA_run [.ref 92, .int u, .int 1, .int y, .int (nI dp)] (hw R X) Q := by
  rw [eu, ey]
  obtain ⟨d, rfl⟩ : ∃ e, d = e + 1 := ⟨d - 1, by omega⟩
  have l1 : ∀ z : Int32, (l ++ [z]).length = l.length + 1 := fun z => by rw [List.length_append]; rfl
  refine hk_run2 (hk_call_m d) 100 ?_
  refine And.intro (fun _ => ?_) (fun c => absurd p0 c)
  refine And.intro (fun _ => ?_) (fun c => absurd (nI_le (b := 20) (by omega) (by omega)) c)
  refine And.intro (by rw [show (4 : Int32) * nI 4 + 1 = nI 17 by decide]; exact vp_in_nI (N := 24) (by decide) (by decide)) ?_
  refine sp_abegin (b := 41) (by omega) (by decide) T (by omega) (fun R1 T1 f1 => ?_)
  refine And.intro (fun c => absurd c (by decide)) (hk_sws_of rTL 10 31 99 (by decide) rfl ?_)
  rw [nI_1]
  have E1 := hfeC_f E (hfbC_a f1)
  have q0 : R1 92 5 = 0 := (f1 92 5 (by decide) (by decide)).trans p0
  have h3 := hh_l k n x
  refine sp_arf2 (dp := dp + 1) (by omega) rfl rfl T1 E1 q0 (by omega) (by rw [l1]; omega) (fun R2 T2 f2 => ?_)
  have E2 := hfeC_f E (hfbC_a (hfaC_tr f1 f2))
  have q2 : R2 92 5 = 0 := (f2 92 5 (by decide) (by decide)).trans q0
  refine sp_arh (dp := dp + 1) (by omega) E2.1 E.2.2.2 E2.2.1 T2 E2 q2 (by omega) (by
    rw [List.length_append, l1]
    show l.length + 1 + ([11] ++ (hh k n x).2).length < 27
    rw [List.length_append, List.length_singleton]; omega) (fun R3 T3 f3 => ?_)
  rw [List.append_assoc, show ff 2 k n a x = ((hh k n x).1 * 2, [11] ++ (hh k n x).2) from rfl, List.append_assoc] at T3
  exact hk_qe_of (hQ R3 T3 (hfaC_tr (hfaC_tr f1 f2) f3))
theorem sp_arf {d : Nat} (hd : 5 < d) {R : Nat → Nat → Int32} {X : hk_D} {Q : hk_Q} {u y x n a : Int32} {k dp s : Nat} {l : List Int32} (eu : u = nI s) (hs : s < 6) (ey : y = x) (T : hTC l R) (E : hfeC k n a R) (p0 : R 92 5 = 0) (hdp : dp ≤ 12) (hl : l.length < 20) (hQ : ∀ R', hTC (l ++ (ff s k n a x).2) R' → hfaC R R' → Q (some (.int (ff s k n a x).1)) (hw R' X)) : hk_call d mA_run [.ref 92, .int u, .int 1, .int y, .int (nI dp)] (hw R X) Q := by
  have : s = 0 ∨ s = 1 ∨ s = 2 ∨ s = 3 ∨ s = 4 ∨ s = 5 := by omega
  rcases this with e | e | e | e | e | e
  · subst e; exact sp_arf0 (by omega) eu ey T E p0 (by omega) (by omega) hQ
  · subst e; exact sp_arf1 (by omega) eu ey T E p0 (by omega) (by omega) hQ
  · subst e; exact sp_arf2 (by omega) eu ey T E p0 (by omega) (by omega) hQ
  · subst e; exact sp_arf3 (by omega) eu ey T E p0 (by omega) (by omega) hQ
  · subst e; exact sp_arf4 (by omega) eu ey T E p0 (by omega) (by omega) hQ
  · subst e; exact sp_arf5 (by omega) eu ey T E p0 (by omega) (by omega) hQ
set_option maxHeartbeats 400000 in
theorem sp_ars0 {d : Nat} (hd : 2 < d) {R : Nat → Nat → Int32} {X : hk_D} {Q : hk_Q} {u y x n a : Int32} {k dp : Nat} {l : List Int32} (eu : u = nI 0) (ey : y = x) (T : hTC l R) (E : hfeC k n a R) (p0 : R 92 5 = 0) (hdp : dp ≤ 16) (hl : l.length < 26) (hQ : ∀ R', hTC (l ++ (ss 0 k n a x).2) R' → hfbC R R' → R' 92 5 = hpt n a → Q (some (.int (ss 0 k n a x).1)) (hw R' X)) : hk_call d mA_run [.ref 92, .int u, .int 2, .int y, .int (nI dp)] (hw R X) Q := by
  rw [eu, ey]
  obtain ⟨d, rfl⟩ : ∃ e, d = e + 1 := ⟨d - 1, by omega⟩
  have l1 : ∀ z : Int32, (l ++ [z]).length = l.length + 1 := fun z => by rw [List.length_append]; rfl
  refine hk_run2 (hk_call_m d) 100 ?_
  refine And.intro (fun _ => ?_) (fun c => absurd p0 c)
  refine And.intro (fun _ => ?_) (fun c => absurd (nI_le (b := 20) (by omega) (by omega)) c)
  refine And.intro (by rw [show (4 : Int32) * nI 0 + 2 = nI 2 by decide]; exact vp_in_nI (N := 24) (by decide) (by decide)) ?_
  refine sp_abegin (b := 12) (by omega) (by decide) T (by omega) (fun R1 T1 f1 => ?_)
  refine And.intro (fun c => absurd c (by decide)) (hk_sws_of rTL 10 2 40 (by decide) rfl ?_)
  rw [nI_1]
  have E1 := hfeC_f E (hfbC_a f1)
  have q0 : R1 92 5 = 0 := (f1 92 5 (by decide) (by decide)).trans p0
  refine sp_ashare (by omega) E1 q0 (fun R2 f2 p2 => ?_)
  refine hk_qe_of (hQ R2 (hf_tr_f T1 (f2 92 1 (by decide)) (fun i => f2 93 i (by omega))) (hfbC_tr (hfbC_a f1) (fun b j z1 z2 => f2 b j (by omega))) p2)
set_option maxHeartbeats 400000 in
theorem sp_ars1 {d : Nat} (hd : 2 < d) {R : Nat → Nat → Int32} {X : hk_D} {Q : hk_Q} {u y x n a : Int32} {k dp : Nat} {l : List Int32} (eu : u = nI 1) (ey : y = x) (T : hTC l R) (E : hfeC k n a R) (p0 : R 92 5 = 0) (hdp : dp ≤ 16) (hl : l.length < 26) (hQ : ∀ R', hTC (l ++ (ss 1 k n a x).2) R' → hfbC R R' → R' 92 5 = hpt n a → Q (some (.int (ss 1 k n a x).1)) (hw R' X)) : hk_call d mA_run [.ref 92, .int u, .int 2, .int y, .int (nI dp)] (hw R X) Q := by
  rw [eu, ey]
  obtain ⟨d, rfl⟩ : ∃ e, d = e + 1 := ⟨d - 1, by omega⟩
  have l1 : ∀ z : Int32, (l ++ [z]).length = l.length + 1 := fun z => by rw [List.length_append]; rfl
  refine hk_run2 (hk_call_m d) 100 ?_
  refine And.intro (fun _ => ?_) (fun c => absurd p0 c)
  refine And.intro (fun _ => ?_) (fun c => absurd (nI_le (b := 20) (by omega) (by omega)) c)
  refine And.intro (by rw [show (4 : Int32) * nI 1 + 2 = nI 6 by decide]; exact vp_in_nI (N := 24) (by decide) (by decide)) ?_
  refine sp_abegin (b := 12) (by omega) (by decide) T (by omega) (fun R1 T1 f1 => ?_)
  refine And.intro (fun c => absurd c (by decide)) (hk_sws_of rTL 10 2 40 (by decide) rfl ?_)
  rw [nI_1]
  have E1 := hfeC_f E (hfbC_a f1)
  have q0 : R1 92 5 = 0 := (f1 92 5 (by decide) (by decide)).trans p0
  refine sp_ashare (by omega) E1 q0 (fun R2 f2 p2 => ?_)
  refine hk_qe_of (hQ R2 (hf_tr_f T1 (f2 92 1 (by decide)) (fun i => f2 93 i (by omega))) (hfbC_tr (hfbC_a f1) (fun b j z1 z2 => f2 b j (by omega))) p2)
set_option maxHeartbeats 400000 in
theorem sp_ars2 {d : Nat} (hd : 2 < d) {R : Nat → Nat → Int32} {X : hk_D} {Q : hk_Q} {u y x n a : Int32} {k dp : Nat} {l : List Int32} (eu : u = nI 2) (ey : y = x) (T : hTC l R) (E : hfeC k n a R) (p0 : R 92 5 = 0) (hdp : dp ≤ 16) (hl : l.length < 26) (hQ : ∀ R', hTC (l ++ (ss 2 k n a x).2) R' → hfbC R R' → R' 92 5 = hpt n a → Q (some (.int (ss 2 k n a x).1)) (hw R' X)) : hk_call d mA_run [.ref 92, .int u, .int 2, .int y, .int (nI dp)] (hw R X) Q := by
  rw [eu, ey]
  obtain ⟨d, rfl⟩ : ∃ e, d = e + 1 := ⟨d - 1, by omega⟩
  have l1 : ∀ z : Int32, (l ++ [z]).length = l.length + 1 := fun z => by rw [List.length_append]; rfl
  refine hk_run2 (hk_call_m d) 100 ?_
  refine And.intro (fun _ => ?_) (fun c => absurd p0 c)
  refine And.intro (fun _ => ?_) (fun c => absurd (nI_le (b := 20) (by omega) (by omega)) c)
  refine And.intro (by rw [show (4 : Int32) * nI 2 + 2 = nI 10 by decide]; exact vp_in_nI (N := 24) (by decide) (by decide)) ?_
  refine sp_abegin (b := 12) (by omega) (by decide) T (by omega) (fun R1 T1 f1 => ?_)
  refine And.intro (fun c => absurd c (by decide)) (hk_sws_of rTL 10 2 40 (by decide) rfl ?_)
  rw [nI_1]
  have E1 := hfeC_f E (hfbC_a f1)
  have q0 : R1 92 5 = 0 := (f1 92 5 (by decide) (by decide)).trans p0
  refine sp_ashare (by omega) E1 q0 (fun R2 f2 p2 => ?_)
  refine hk_qe_of (hQ R2 (hf_tr_f T1 (f2 92 1 (by decide)) (fun i => f2 93 i (by omega))) (hfbC_tr (hfbC_a f1) (fun b j z1 z2 => f2 b j (by omega))) p2)
set_option maxHeartbeats 400000 in
theorem sp_ars4 {d : Nat} (hd : 2 < d) {R : Nat → Nat → Int32} {X : hk_D} {Q : hk_Q} {u y x n a : Int32} {k dp : Nat} {l : List Int32} (eu : u = nI 4) (ey : y = x) (T : hTC l R) (E : hfeC k n a R) (p0 : R 92 5 = 0) (hdp : dp ≤ 16) (hl : l.length < 26) (hQ : ∀ R', hTC (l ++ (ss 4 k n a x).2) R' → hfbC R R' → R' 92 5 = hpt n a → Q (some (.int (ss 4 k n a x).1)) (hw R' X)) : hk_call d mA_run [.ref 92, .int u, .int 2, .int y, .int (nI dp)] (hw R X) Q := by
  rw [eu, ey]
  obtain ⟨d, rfl⟩ : ∃ e, d = e + 1 := ⟨d - 1, by omega⟩
  have l1 : ∀ z : Int32, (l ++ [z]).length = l.length + 1 := fun z => by rw [List.length_append]; rfl
  refine hk_run2 (hk_call_m d) 100 ?_
  refine And.intro (fun _ => ?_) (fun c => absurd p0 c)
  refine And.intro (fun _ => ?_) (fun c => absurd (nI_le (b := 20) (by omega) (by omega)) c)
  refine And.intro (by rw [show (4 : Int32) * nI 4 + 2 = nI 18 by decide]; exact vp_in_nI (N := 24) (by decide) (by decide)) ?_
  refine sp_abegin (b := 12) (by omega) (by decide) T (by omega) (fun R1 T1 f1 => ?_)
  refine And.intro (fun c => absurd c (by decide)) (hk_sws_of rTL 10 2 40 (by decide) rfl ?_)
  rw [nI_1]
  have E1 := hfeC_f E (hfbC_a f1)
  have q0 : R1 92 5 = 0 := (f1 92 5 (by decide) (by decide)).trans p0
  refine sp_ashare (by omega) E1 q0 (fun R2 f2 p2 => ?_)
  refine hk_qe_of (hQ R2 (hf_tr_f T1 (f2 92 1 (by decide)) (fun i => f2 93 i (by omega))) (hfbC_tr (hfbC_a f1) (fun b j z1 z2 => f2 b j (by omega))) p2)
set_option maxHeartbeats 400000 in
theorem sp_ars3 {d : Nat} (hd : 3 < d) {R : Nat → Nat → Int32} {X : hk_D} {Q : hk_Q} {u y x n a : Int32} {k dp : Nat} {l : List Int32} (eu : u = nI 3) (ey : y = x) (T : hTC l R) (E : hfeC k n a R) (p0 : R 92 5 = 0) (hdp : dp ≤ 12) (hl : l.length < 25) (hQ : ∀ R', hTC (l ++ (ss 3 k n a x).2) R' → hfbC R R' → R' 92 5 = hpt n a → Q (some (.int (ss 3 k n a x).1)) (hw R' X)) : hk_call d mA_run [.ref 92, .int u, .int 2, .int y, .int (nI dp)] (hw R X) Q := by
  rw [eu, ey]
  obtain ⟨d, rfl⟩ : ∃ e, d = e + 1 := ⟨d - 1, by omega⟩
  have l1 : ∀ z : Int32, (l ++ [z]).length = l.length + 1 := fun z => by rw [List.length_append]; rfl
  refine hk_run2 (hk_call_m d) 100 ?_
  refine And.intro (fun _ => ?_) (fun c => absurd p0 c)
  refine And.intro (fun _ => ?_) (fun c => absurd (nI_le (b := 20) (by omega) (by omega)) c)
  refine And.intro (by rw [show (4 : Int32) * nI 3 + 2 = nI 14 by decide]; exact vp_in_nI (N := 24) (by decide) (by decide)) ?_
  refine sp_abegin (b := 50) (by omega) (by decide) T (by omega) (fun R1 T1 f1 => ?_)
  refine And.intro (fun c => absurd c (by decide)) (hk_sws_of rTL 10 40 115 (by decide) rfl ?_)
  rw [nI_1]
  have E1 := hfeC_f E (hfbC_a f1)
  have q0 : R1 92 5 = 0 := (f1 92 5 (by decide) (by decide)).trans p0
  refine sp_ars1 (dp := dp + 1) (by omega) rfl rfl T1 E1 q0 (by omega) (by rw [l1]; omega) (fun R2 T2 f2 p2 => ?_)
  rw [List.append_assoc] at T2
  exact hk_qe_of (hQ R2 T2 (hfbC_tr (hfbC_a f1) f2) p2)
set_option maxHeartbeats 400000 in
theorem sp_ars5 {d : Nat} (hd : 4 < d) {R : Nat → Nat → Int32} {X : hk_D} {Q : hk_Q} {u y x n a : Int32} {k dp : Nat} {l : List Int32} (eu : u = nI 5) (ey : y = x) (T : hTC l R) (E : hfeC k n a R) (p0 : R 92 5 = 0) (hdp : dp ≤ 12) (hl : l.length < 20) (hQ : ∀ R', hTC (l ++ (ss 5 k n a x).2) R' → hfbC R R' → R' 92 5 = hpt n a → Q (some (.int (ss 5 k n a x).1)) (hw R' X)) : hk_call d mA_run [.ref 92, .int u, .int 2, .int y, .int (nI dp)] (hw R X) Q := by
  rw [eu, ey]
  obtain ⟨d, rfl⟩ : ∃ e, d = e + 1 := ⟨d - 1, by omega⟩
  have l1 : ∀ z : Int32, (l ++ [z]).length = l.length + 1 := fun z => by rw [List.length_append]; rfl
  refine hk_run2 (hk_call_m d) 100 ?_
  refine And.intro (fun _ => ?_) (fun c => absurd p0 c)
  refine And.intro (fun _ => ?_) (fun c => absurd (nI_le (b := 20) (by omega) (by omega)) c)
  refine And.intro (by rw [show (4 : Int32) * nI 5 + 2 = nI 22 by decide]; exact vp_in_nI (N := 24) (by decide) (by decide)) ?_
  refine sp_abegin (b := 61) (by omega) (by decide) T (by omega) (fun R1 T1 f1 => ?_)
  refine And.intro (fun c => absurd c (by decide)) (hk_sws_of rTL 10 51 145 (by decide) rfl ?_)
  rw [nI_1]
  have E1 := hfeC_f E (hfbC_a f1)
  have q0 : R1 92 5 = 0 := (f1 92 5 (by decide) (by decide)).trans p0
  refine sp_ars0 (dp := dp + 1) (by omega) rfl rfl T1 E1 q0 (by omega) (by rw [l1]; omega) (fun R2 T2 f2 p2 => ?_)
  rw [List.append_assoc] at T2
  have fr := hfbC_tr (hfbC_a f1) f2
  have E2 := hfeC_f E fr
  by_cases z : a = n
  · rw [show ss 5 k n a x = (0, [61, 12]) from if_pos z] at hQ
    have p1 : R2 92 5 = 1 := p2.trans (if_pos z)
    refine sp_arp (by omega) p1 ?_
    refine hk_qe_of ?_
    show Q (some (.int (sv n a x + 0))) (hw R2 X)
    rw [show sv n a x = 0 from if_pos z, show (0 : Int32) + 0 = 0 from rfl]
    exact hQ R2 T2 fr p2
  · rw [show ss 5 k n a x = (sv n a x + (hh k n a).1, [61, 12] ++ (hh k n a).2) from if_neg z] at hQ
    have p0' : R2 92 5 = 0 := p2.trans (if_neg z)
    refine sp_arh (dp := dp + 1) (by omega) E2.1 E.2.2.2 E2.2.2.1 T2 E2 p0' (by omega) (by rw [List.length_append]; show l.length + 2 < 27; omega) (fun R3 T3 f3 => ?_)
    rw [List.append_assoc] at T3
    exact hk_qe_of (hQ R3 T3 (hfbC_tr fr (hfbC_a f3)) ((f3 92 5 (by decide) (by decide)).trans p2))
theorem sp_ars {d : Nat} (hd : 4 < d) {R : Nat → Nat → Int32} {X : hk_D} {Q : hk_Q} {u y x n a : Int32} {k dp s : Nat} {l : List Int32} (eu : u = nI s) (hs : s < 6) (ey : y = x) (T : hTC l R) (E : hfeC k n a R) (p0 : R 92 5 = 0) (hdp : dp ≤ 12) (hl : l.length < 20) (hQ : ∀ R', hTC (l ++ (ss s k n a x).2) R' → hfbC R R' → R' 92 5 = hpt n a → Q (some (.int (ss s k n a x).1)) (hw R' X)) : hk_call d mA_run [.ref 92, .int u, .int 2, .int y, .int (nI dp)] (hw R X) Q := by
  have : s = 0 ∨ s = 1 ∨ s = 2 ∨ s = 3 ∨ s = 4 ∨ s = 5 := by omega
  rcases this with e | e | e | e | e | e
  · subst e; exact sp_ars0 (by omega) eu ey T E p0 (by omega) (by omega) hQ
  · subst e; exact sp_ars1 (by omega) eu ey T E p0 (by omega) (by omega) hQ
  · subst e; exact sp_ars2 (by omega) eu ey T E p0 (by omega) (by omega) hQ
  · subst e; exact sp_ars3 (by omega) eu ey T E p0 (by omega) (by omega) hQ
  · subst e; exact sp_ars4 (by omega) eu ey T E p0 (by omega) (by omega) hQ
  · subst e; exact sp_ars5 (by omega) eu ey T E p0 (by omega) (by omega) hQ
set_option maxHeartbeats 400000 in
theorem sp_art0 {d : Nat} (hd : 6 < d) {R : Nat → Nat → Int32} {X : hk_D} {Q : hk_Q} {u y x n a : Int32} {k dp : Nat} {l : List Int32} (eu : u = nI 0) (ey : y = x) (T : hTC l R) (E : hfeC k n a R) (p0 : R 92 5 = 0) (hdp : dp ≤ 11) (hl : l.length < 19) (hQ : ∀ R', hTC (l ++ ((ff k k n a x).1 ^^^ a, [13] ++ (ff k k n a x).2).2) R' → hfaC R R' → Q (some (.int ((ff k k n a x).1 ^^^ a, [13] ++ (ff k k n a x).2).1)) (hw R' X)) : hk_call d mA_run [.ref 92, .int u, .int 3, .int y, .int (nI dp)] (hw R X) Q := by
  rw [eu, ey]
  obtain ⟨d, rfl⟩ : ∃ e, d = e + 1 := ⟨d - 1, by omega⟩
  have l1 : ∀ z : Int32, (l ++ [z]).length = l.length + 1 := fun z => by rw [List.length_append]; rfl
  refine hk_run2 (hk_call_m d) 100 ?_
  refine And.intro (fun _ => ?_) (fun c => absurd p0 c)
  refine And.intro (fun _ => ?_) (fun c => absurd (nI_le (b := 20) (by omega) (by omega)) c)
  refine And.intro (by rw [show (4 : Int32) * nI 0 + 3 = nI 3 by decide]; exact vp_in_nI (N := 24) (by decide) (by decide)) ?_
  refine sp_abegin (b := 13) (by omega) (by decide) T (by omega) (fun R1 T1 f1 => ?_)
  refine And.intro (fun c => absurd c (by decide)) (hk_sws_of rTL 10 3 44 (by decide) rfl ?_)
  rw [nI_1]
  have E1 := hfeC_f E (hfbC_a f1)
  have q0 : R1 92 5 = 0 := (f1 92 5 (by decide) (by decide)).trans p0
  refine sp_arf (dp := dp + 1) (by omega) E1.1 E.2.2.2 rfl T1 E1 q0 (by omega) (by rw [l1]; omega) (fun R2 T2 f2 => ?_)
  rw [List.append_assoc] at T2
  refine hk_qe_of ?_
  rw [(hfeC_f E (hfbC_a (hfaC_tr f1 f2))).2.2.1]
  exact hQ R2 T2 (hfaC_tr f1 f2)
set_option maxHeartbeats 400000 in
theorem sp_art1 {d : Nat} (hd : 6 < d) {R : Nat → Nat → Int32} {X : hk_D} {Q : hk_Q} {u y x n a : Int32} {k dp : Nat} {l : List Int32} (eu : u = nI 1) (ey : y = x) (T : hTC l R) (E : hfeC k n a R) (p0 : R 92 5 = 0) (hdp : dp ≤ 11) (hl : l.length < 19) (hQ : ∀ R', hTC (l ++ ((ff k k n a x).1 ^^^ a, [13] ++ (ff k k n a x).2).2) R' → hfaC R R' → Q (some (.int ((ff k k n a x).1 ^^^ a, [13] ++ (ff k k n a x).2).1)) (hw R' X)) : hk_call d mA_run [.ref 92, .int u, .int 3, .int y, .int (nI dp)] (hw R X) Q := by
  rw [eu, ey]
  obtain ⟨d, rfl⟩ : ∃ e, d = e + 1 := ⟨d - 1, by omega⟩
  have l1 : ∀ z : Int32, (l ++ [z]).length = l.length + 1 := fun z => by rw [List.length_append]; rfl
  refine hk_run2 (hk_call_m d) 100 ?_
  refine And.intro (fun _ => ?_) (fun c => absurd p0 c)
  refine And.intro (fun _ => ?_) (fun c => absurd (nI_le (b := 20) (by omega) (by omega)) c)
  refine And.intro (by rw [show (4 : Int32) * nI 1 + 3 = nI 7 by decide]; exact vp_in_nI (N := 24) (by decide) (by decide)) ?_
  refine sp_abegin (b := 13) (by omega) (by decide) T (by omega) (fun R1 T1 f1 => ?_)
  refine And.intro (fun c => absurd c (by decide)) (hk_sws_of rTL 10 3 44 (by decide) rfl ?_)
  rw [nI_1]
  have E1 := hfeC_f E (hfbC_a f1)
  have q0 : R1 92 5 = 0 := (f1 92 5 (by decide) (by decide)).trans p0
  refine sp_arf (dp := dp + 1) (by omega) E1.1 E.2.2.2 rfl T1 E1 q0 (by omega) (by rw [l1]; omega) (fun R2 T2 f2 => ?_)
  rw [List.append_assoc] at T2
  refine hk_qe_of ?_
  rw [(hfeC_f E (hfbC_a (hfaC_tr f1 f2))).2.2.1]
  exact hQ R2 T2 (hfaC_tr f1 f2)
set_option maxHeartbeats 400000 in
theorem sp_art3 {d : Nat} (hd : 6 < d) {R : Nat → Nat → Int32} {X : hk_D} {Q : hk_Q} {u y x n a : Int32} {k dp : Nat} {l : List Int32} (eu : u = nI 3) (ey : y = x) (T : hTC l R) (E : hfeC k n a R) (p0 : R 92 5 = 0) (hdp : dp ≤ 11) (hl : l.length < 19) (hQ : ∀ R', hTC (l ++ ((ff k k n a x).1 ^^^ a, [13] ++ (ff k k n a x).2).2) R' → hfaC R R' → Q (some (.int ((ff k k n a x).1 ^^^ a, [13] ++ (ff k k n a x).2).1)) (hw R' X)) : hk_call d mA_run [.ref 92, .int u, .int 3, .int y, .int (nI dp)] (hw R X) Q := by
  rw [eu, ey]
  obtain ⟨d, rfl⟩ : ∃ e, d = e + 1 := ⟨d - 1, by omega⟩
  have l1 : ∀ z : Int32, (l ++ [z]).length = l.length + 1 := fun z => by rw [List.length_append]; rfl
  refine hk_run2 (hk_call_m d) 100 ?_
  refine And.intro (fun _ => ?_) (fun c => absurd p0 c)
  refine And.intro (fun _ => ?_) (fun c => absurd (nI_le (b := 20) (by omega) (by omega)) c)
  refine And.intro (by rw [show (4 : Int32) * nI 3 + 3 = nI 15 by decide]; exact vp_in_nI (N := 24) (by decide) (by decide)) ?_
  refine sp_abegin (b := 13) (by omega) (by decide) T (by omega) (fun R1 T1 f1 => ?_)
  refine And.intro (fun c => absurd c (by decide)) (hk_sws_of rTL 10 3 44 (by decide) rfl ?_)
  rw [nI_1]
  have E1 := hfeC_f E (hfbC_a f1)
  have q0 : R1 92 5 = 0 := (f1 92 5 (by decide) (by decide)).trans p0
  refine sp_arf (dp := dp + 1) (by omega) E1.1 E.2.2.2 rfl T1 E1 q0 (by omega) (by rw [l1]; omega) (fun R2 T2 f2 => ?_)
  rw [List.append_assoc] at T2
  refine hk_qe_of ?_
  rw [(hfeC_f E (hfbC_a (hfaC_tr f1 f2))).2.2.1]
  exact hQ R2 T2 (hfaC_tr f1 f2)
set_option maxHeartbeats 400000 in
theorem sp_art2 {d : Nat} (hd : 7 < d) {R : Nat → Nat → Int32} {X : hk_D} {Q : hk_Q} {u y x n a : Int32} {k dp : Nat} {l : List Int32} (eu : u = nI 2) (ey : y = x) (T : hTC l R) (E : hfeC k n a R) (p0 : R 92 5 = 0) (hdp : dp ≤ 10) (hl : l.length < 5) (hQ : ∀ R', hTC (l ++ (((ff k k n a x).1 ^^^ a) + (ss k k n a n).1, [31, 13] ++ ((ff k k n a x).2 ++ (ss k k n a n).2)).2) R' → hfbC R R' → R' 92 5 = hpt n a → Q (some (.int (((ff k k n a x).1 ^^^ a) + (ss k k n a n).1, [31, 13] ++ ((ff k k n a x).2 ++ (ss k k n a n).2)).1)) (hw R' X)) : hk_call d mA_run [.ref 92, .int u, .int 3, .int y, .int (nI dp)] (hw R X) Q := by
  rw [eu, ey]
  obtain ⟨d, rfl⟩ : ∃ e, d = e + 1 := ⟨d - 1, by omega⟩
  have l1 : ∀ z : Int32, (l ++ [z]).length = l.length + 1 := fun z => by rw [List.length_append]; rfl
  refine hk_run2 (hk_call_m d) 100 ?_
  refine And.intro (fun _ => ?_) (fun c => absurd p0 c)
  refine And.intro (fun _ => ?_) (fun c => absurd (nI_le (b := 20) (by omega) (by omega)) c)
  refine And.intro (by rw [show (4 : Int32) * nI 2 + 3 = nI 11 by decide]; exact vp_in_nI (N := 24) (by decide) (by decide)) ?_
  refine sp_abegin (b := 31) (by omega) (by decide) T (by omega) (fun R1 T1 f1 => ?_)
  refine And.intro (fun c => absurd c (by decide)) (hk_sws_of rTL 10 21 74 (by decide) rfl ?_)
  rw [nI_1]
  have E1 := hfeC_f E (hfbC_a f1)
  have q0 : R1 92 5 = 0 := (f1 92 5 (by decide) (by decide)).trans p0
  have fl := ff_l k k n a x
  refine sp_art0 (dp := dp + 1) (by omega) rfl rfl T1 E1 q0 (by omega) (by rw [l1]; omega) (fun R2 T2 f2 => ?_)
  have E2 := hfeC_f E (hfbC_a (hfaC_tr f1 f2))
  have q2 : R2 92 5 = 0 := (f2 92 5 (by decide) (by decide)).trans q0
  refine sp_ars (dp := dp + 1) (by omega) E2.1 E.2.2.2 E2.2.1 T2 E2 q2 (by omega) (by
    rw [List.length_append, l1]
    show l.length + 1 + ([13] ++ (ff k k n a x).2).length < 20
    rw [List.length_append, List.length_singleton]; omega) (fun R3 T3 f3 p3 => ?_)
  rw [List.append_assoc, show ((ff k k n a x).1 ^^^ a, [13] ++ (ff k k n a x).2).2 = [13] ++ (ff k k n a x).2 from rfl, List.append_assoc, List.append_assoc] at T3
  exact hk_qe_of (hQ R3 T3 (hfbC_tr (hfbC_a (hfaC_tr f1 f2)) f3) p3)
set_option maxHeartbeats 400000 in
theorem sp_art4 {d : Nat} (hd : 7 < d) {R : Nat → Nat → Int32} {X : hk_D} {Q : hk_Q} {u y x n a : Int32} {k dp : Nat} {l : List Int32} (eu : u = nI 4) (ey : y = x) (T : hTC l R) (E : hfeC k n a R) (p0 : R 92 5 = 0) (hdp : dp ≤ 10) (hl : l.length < 5) (hQ : ∀ R', hTC (l ++ (((ff k k n a x).1 ^^^ a) + (ss k k n a n).1, [31, 13] ++ ((ff k k n a x).2 ++ (ss k k n a n).2)).2) R' → hfbC R R' → R' 92 5 = hpt n a → Q (some (.int (((ff k k n a x).1 ^^^ a) + (ss k k n a n).1, [31, 13] ++ ((ff k k n a x).2 ++ (ss k k n a n).2)).1)) (hw R' X)) : hk_call d mA_run [.ref 92, .int u, .int 3, .int y, .int (nI dp)] (hw R X) Q := by
  rw [eu, ey]
  obtain ⟨d, rfl⟩ : ∃ e, d = e + 1 := ⟨d - 1, by omega⟩
  have l1 : ∀ z : Int32, (l ++ [z]).length = l.length + 1 := fun z => by rw [List.length_append]; rfl
  refine hk_run2 (hk_call_m d) 100 ?_
  refine And.intro (fun _ => ?_) (fun c => absurd p0 c)
  refine And.intro (fun _ => ?_) (fun c => absurd (nI_le (b := 20) (by omega) (by omega)) c)
  refine And.intro (by rw [show (4 : Int32) * nI 4 + 3 = nI 19 by decide]; exact vp_in_nI (N := 24) (by decide) (by decide)) ?_
  refine sp_abegin (b := 31) (by omega) (by decide) T (by omega) (fun R1 T1 f1 => ?_)
  refine And.intro (fun c => absurd c (by decide)) (hk_sws_of rTL 10 21 74 (by decide) rfl ?_)
  rw [nI_1]
  have E1 := hfeC_f E (hfbC_a f1)
  have q0 : R1 92 5 = 0 := (f1 92 5 (by decide) (by decide)).trans p0
  have fl := ff_l k k n a x
  refine sp_art0 (dp := dp + 1) (by omega) rfl rfl T1 E1 q0 (by omega) (by rw [l1]; omega) (fun R2 T2 f2 => ?_)
  have E2 := hfeC_f E (hfbC_a (hfaC_tr f1 f2))
  have q2 : R2 92 5 = 0 := (f2 92 5 (by decide) (by decide)).trans q0
  refine sp_ars (dp := dp + 1) (by omega) E2.1 E.2.2.2 E2.2.1 T2 E2 q2 (by omega) (by
    rw [List.length_append, l1]
    show l.length + 1 + ([13] ++ (ff k k n a x).2).length < 20
    rw [List.length_append, List.length_singleton]; omega) (fun R3 T3 f3 p3 => ?_)
  rw [List.append_assoc, show ((ff k k n a x).1 ^^^ a, [13] ++ (ff k k n a x).2).2 = [13] ++ (ff k k n a x).2 from rfl, List.append_assoc, List.append_assoc] at T3
  exact hk_qe_of (hQ R3 T3 (hfbC_tr (hfbC_a (hfaC_tr f1 f2)) f3) p3)
set_option maxHeartbeats 400000 in
theorem sp_art5 {d : Nat} (hd : 7 < d) {R : Nat → Nat → Int32} {X : hk_D} {Q : hk_Q} {u y x n a : Int32} {k dp : Nat} {l : List Int32} (eu : u = nI 5) (ey : y = x) (T : hTC l R) (E : hfeC k n a R) (p0 : R 92 5 = 0) (hdp : dp ≤ 10) (hl : l.length < 15) (hQ : ∀ R', hTC (l ++ (((ff k k n a x).1 ^^^ a) * 2, [60, 13] ++ (ff k k n a x).2).2) R' → hfaC R R' → Q (some (.int (((ff k k n a x).1 ^^^ a) * 2, [60, 13] ++ (ff k k n a x).2).1)) (hw R' X)) : hk_call d mA_run [.ref 92, .int u, .int 3, .int y, .int (nI dp)] (hw R X) Q := by
  rw [eu, ey]
  obtain ⟨d, rfl⟩ : ∃ e, d = e + 1 := ⟨d - 1, by omega⟩
  have l1 : ∀ z : Int32, (l ++ [z]).length = l.length + 1 := fun z => by rw [List.length_append]; rfl
  refine hk_run2 (hk_call_m d) 100 ?_
  refine And.intro (fun _ => ?_) (fun c => absurd p0 c)
  refine And.intro (fun _ => ?_) (fun c => absurd (nI_le (b := 20) (by omega) (by omega)) c)
  refine And.intro (by rw [show (4 : Int32) * nI 5 + 3 = nI 23 by decide]; exact vp_in_nI (N := 24) (by decide) (by decide)) ?_
  refine sp_abegin (b := 60) (by omega) (by decide) T (by omega) (fun R1 T1 f1 => ?_)
  refine And.intro (fun c => absurd c (by decide)) (hk_sws_of rTL 10 50 136 (by decide) rfl ?_)
  rw [nI_1]
  have E1 := hfeC_f E (hfbC_a f1)
  have q0 : R1 92 5 = 0 := (f1 92 5 (by decide) (by decide)).trans p0
  refine sp_art0 (dp := dp + 1) (by omega) rfl rfl T1 E1 q0 (by omega) (by rw [l1]; omega) (fun R2 T2 f2 => ?_)
  rw [List.append_assoc] at T2
  exact hk_qe_of (hQ R2 T2 (hfaC_tr f1 f2))
set_option maxHeartbeats 400000 in
theorem sp_arun {d : Nat} (hd : 8 < d) {R : Nat → Nat → Int32} {X : hk_D} {Q : hk_Q} {u x n a : Int32} {k c : Nat} (eu : u = nI k) (hc : c < 4) (T : hTC [] R) (E : hfeC k n a R) (p0 : R 92 5 = 0) (hQ : ∀ R', hTC (hf_ac c k n a x).2 R' → hfbC R R' → R' 92 5 = hps c k n a → Q (some (.int (hf_ac c k n a x).1)) (hw R' X)) : hk_call d mA_run [.ref 92, .int u, .int (nI c), .int x, .int 0] (hw R X) Q := by
  have k6 := E.2.2.2
  have nz : ∀ R', hfaC R R' → ¬ ((c = 2 ∨ (c = 3 ∧ (k = 2 ∨ k = 4)))) → R' 92 5 = hps c k n a := fun R' f z => by
    rw [f 92 5 (by decide) (by decide), p0]; unfold hps; rw [if_neg (fun y => z y.1)]
  have hz : (c = 2 ∨ (c = 3 ∧ (k = 2 ∨ k = 4))) → hps c k n a = hpt n a := fun z => by
    unfold hps hpt
    by_cases y : a = n
    · rw [if_pos ⟨z, y⟩, if_pos y]
    · rw [if_neg (fun w => y w.2), if_neg y]
  have hc4 : c = 0 ∨ c = 1 ∨ c = 2 ∨ c = 3 := by omega
  rcases hc4 with e | e | e | e
  · subst e
    exact sp_arh (dp := 0) (by omega) eu k6 rfl T E p0 (by omega) (by decide) (fun R' T' f' => hQ R' T' (hfbC_a f') (nz R' f' (by omega)))
  · subst e
    exact sp_arf (dp := 0) (by omega) eu k6 rfl T E p0 (by omega) (by decide) (fun R' T' f' => hQ R' T' (hfbC_a f') (nz R' f' (by omega)))
  · subst e
    exact sp_ars (dp := 0) (by omega) eu k6 rfl T E p0 (by omega) (by decide) (fun R' T' f' p' => hQ R' T' f' (by rw [hz (by omega)]; exact p'))
  · subst e
    have : k = 0 ∨ k = 1 ∨ k = 2 ∨ k = 3 ∨ k = 4 ∨ k = 5 := by omega
    rcases this with e | e | e | e | e | e
    · subst e; exact sp_art0 (dp := 0) (by omega) eu rfl T E p0 (by omega) (by decide) (fun R' T' f' => hQ R' T' (hfbC_a f') (nz R' f' (by omega)))
    · subst e; exact sp_art1 (dp := 0) (by omega) eu rfl T E p0 (by omega) (by decide) (fun R' T' f' => hQ R' T' (hfbC_a f') (nz R' f' (by omega)))
    · subst e; exact sp_art2 (dp := 0) (by omega) eu rfl T E p0 (by omega) (by decide) (fun R' T' f' p' => hQ R' T' f' (by rw [hz (by omega)]; exact p'))
    · subst e; exact sp_art3 (dp := 0) (by omega) eu rfl T E p0 (by omega) (by decide) (fun R' T' f' => hQ R' T' (hfbC_a f') (nz R' f' (by omega)))
    · subst e; exact sp_art4 (dp := 0) (by omega) eu rfl T E p0 (by omega) (by decide) (fun R' T' f' p' => hQ R' T' f' (by rw [hz (by omega)]; exact p'))
    · subst e; exact sp_art5 (dp := 0) (by omega) eu rfl T E p0 (by omega) (by decide) (fun R' T' f' => hQ R' T' (hfbC_a f') (nz R' f' (by omega)))
def hfxC (R R' : Nat → Nat → Int32) : Prop := ∀ a j, ¬ a = 93 → ¬ (a = 92 ∧ 1 ≤ j) → R' a j = R a j
set_option maxHeartbeats 400000 in
theorem sp_aperform {d : Nat} (hd : 9 < d) {R : Nat → Nat → Int32} {X : hk_D} {Q : hk_Q} {x : Int32} {j k av c b : Nat} (hb : hHat b) (e0 : R b 0 = nI k) (e1 : R b 1 = nI av) (hk : k < 6) (hc : c < 4) (T : hTC [] R) (hQ : ∀ R', hTC (hf_ac c k (nI j) (nI av) x).2 R' → hfxC R R' → Q (some (.int (if hps c k (nI j) (nI av) = 1 then -15 else (hf_ac c k (nI j) (nI av) x).1))) (hw R' X)) : hk_call d mA_perform [.ref 92, .int (nI j), .ref b, .int (nI c), .int x] (hw R X) Q := by
  obtain ⟨d, rfl⟩ : ∃ e, d = e + 1 := ⟨d - 1, by omega⟩
  have nb : b ≠ 92 := by unfold hHat at hb; omega
  refine hk_run2 (hk_call_m d) 100 ?_
  refine w_get (hHat_t hb) (hHat_k hb).1 e0 ?_
  refine w_put trivial rfl rfl ?_
  refine w_put trivial rfl rfl ?_
  refine w_get (hHat_t hb) (hHat_k hb).2.1 ((up2_a nb).trans ((up2_a nb).trans e1)) ?_
  refine w_put trivial rfl rfl ?_
  refine w_put (by decide) rfl rfl ?_
  have E : hfeC k (nI j) (nI av) (up2 (up2 (up2 (up2 R 92 2 (nI k)) 92 3 (nI j)) 92 4 (nI av)) 92 5 0) := by
    refine ⟨?_, ?_, ?_, hk⟩
    · rw [up2_k (by decide), up2_k (by decide), up2_k (by decide), up2_s]
    · rw [up2_k (by decide), up2_k (by decide), up2_s]
    · rw [up2_k (by decide), up2_s]
  have T2 := hf_tr_f (R' := up2 (up2 (up2 (up2 R 92 2 (nI k)) 92 3 (nI j)) 92 4 (nI av)) 92 5 0) T (by rw [up2_k (by decide), up2_k (by decide), up2_k (by decide), up2_k (by decide)]) (fun i => by rw [up2_a (by decide), up2_a (by decide), up2_a (by decide), up2_a (by decide)])
  have f2 : hfxC R (up2 (up2 (up2 (up2 R 92 2 (nI k)) 92 3 (nI j)) 92 4 (nI av)) 92 5 0) := fun a i z1 z2 => by rw [up2_n (by omega), up2_n (by omega), up2_n (by omega), up2_n (by omega)]
  have z5 := up2_s (up2 (up2 (up2 R 92 2 (nI k)) 92 3 (nI j)) 92 4 (nI av)) 92 5 0
  generalize up2 (up2 (up2 (up2 R 92 2 (nI k)) 92 3 (nI j)) 92 4 (nI av)) 92 5 0 = R2 at E T2 f2 z5
  refine sp_arun (by omega) E.1 hc T2 E z5 (fun R3 T3 f3 p3 => ?_)
  have fr : hfxC R R3 := fun a i z1 z2 => (f3 a i z1 (by omega)).trans (f2 a i z1 z2)
  refine And.intro (fun z => ?_) (fun z => ?_)
  · rw [p3] at z
    rw [if_neg (by rw [z]; decide)] at hQ
    exact hk_qe_of (hQ R3 T3 fr)
  · rw [p3] at z
    have : hps c k (nI j) (nI av) = 1 := by
      unfold hps at z ⊢
      split
      · rfl
      · rename_i y; rw [if_neg y] at z; exact absurd rfl z
    rw [if_pos this] at hQ
    exact hk_qe_of (hQ R3 T3 fr)
