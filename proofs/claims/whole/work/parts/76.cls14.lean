/-! THE CLASS: sheets, shelves -/
def xS (X : hk_D) (s : Nat) (o : Option Nat) : hk_D := (X.1, X.2.1, X.2.2.1, X.2.2.2.1, hf_us X.2.2.2.2.1 s o, X.2.2.2.2.2)
def xH (X : hk_D) (s : Nat) (o : Option Nat) : hk_D := (X.1, X.2.1, X.2.2.1, X.2.2.2.1, X.2.2.2.2.1, hf_us X.2.2.2.2.2.1 s o, X.2.2.2.2.2.2)
theorem hk_has_big {t b : Nat} (h : 127 ≤ b) : hk_has t b = false := by
  have e : hk_nth hk_tab (b - 38) = none := by
    have : ∀ (l : List (Nat × Nat × (Nat × Nat) × List (Nat × Nat))) (n : Nat), l.length ≤ n → hk_nth l n = none := by
      intro l
      induction l with
      | nil => intro n _; rfl
      | cons a l ih => intro n hn; cases n with
        | zero => simp at hn
        | succ n => exact ih n (by simp at hn; omega)
    exact this hk_tab _ (by show 89 ≤ b - 38; omega)
  unfold hk_has
  rw [e]
theorem hk_has_5 {b : Nat} (h : b ≠ 90) : hk_has 5 b = false := by
  by_cases q : b < 127
  · have : ∀ b, b < 127 → b ≠ 90 → hk_has 5 b = false := by decide +kernel
    exact this b q h
  · exact hk_has_big (by omega)
def hk_h6 (b : Nat) : Bool := match hk_nth hk_tab (b - 38) with
  | some (_, _, dk, ks) => Nat.ble 6 dk.1 || ks.any (fun q => Nat.ble 6 q.1)
  | none => false
theorem hk_has_6 {b : Nat} (h : ¬ (94 ≤ b ∧ b ≤ 97)) : hk_h6 b = false := by
  by_cases q : b < 127
  · have : ∀ b, b < 127 → ¬ (94 ≤ b ∧ b ≤ 97) → hk_h6 b = false := by decide +kernel
    exact this b q h
  · have e : hk_nth hk_tab (b - 38) = none := by
      have : ∀ (l : List (Nat × Nat × (Nat × Nat) × List (Nat × Nat))) (n : Nat), l.length ≤ n → hk_nth l n = none := by
        intro l
        induction l with
        | nil => intro n _; rfl
        | cons a l ih => intro n hn; cases n with
          | zero => simp at hn
          | succ n => exact ih n (by simp at hn; omega)
      exact this hk_tab _ (by show 89 ≤ b - 38; omega)
    unfold hk_h6
    rw [e]
theorem hk_knd_6 {dk : Nat × Nat} {ks : List (Nat × Nat)} (h : (Nat.ble 6 dk.1 || ks.any (fun q => Nat.ble 6 q.1)) = false) (k : Nat) : (hk_knd dk ks k).1 < 6 := by
  obtain ⟨h1, h2⟩ := Bool.or_eq_false_iff.mp h
  have nb : ∀ n, Nat.ble 6 n = false → n < 6 := fun n z => Classical.byContradiction (fun y => by rw [Nat.ble_eq_true_of_le (by omega)] at z; exact absurd z (by decide))
  unfold hk_knd
  cases ks with
  | nil => exact nb _ h1
  | cons a l =>
    dsimp only
    cases e : hk_nth (a :: l) k with
    | none => exact nb _ h1
    | some q => exact nb _ (hk_nth_any (p := fun q => Nat.ble 6 q.1) _ _ _ e h2)
theorem hw_x6 {R : Nat → Nat → Int32} {X X' : hk_D} {b : Nat} (hh : hk_h6 b = false) (hk : ∀ a k q, q.1 < 6 → hk_kv R X a k q = hk_kv R X' a k q) (hx : X'.2.2.2.2.2.2 = X.2.2.2.2.2.2) (h3 : X'.2.2.1 = X.2.2.1) (h4 : X'.2.2.2.1 = X.2.2.2.1) : (hw R X).2 b = (hw R X').2 b := by
  unfold hw
  dsimp only
  cases Nat.ble b 37
  · cases Nat.ble b 126
    · show hk_row R X b = hk_row R X' b
      unfold hk_row
      rw [h3, h4]
    · show hk_fix R X b = hk_fix R X' b
      unfold hk_h6 at hh
      unfold hk_fix
      cases e : hk_nth hk_tab (b - 38) with
      | none => rfl
      | some q =>
        obtain ⟨u, n, dk, ks⟩ := q
        rw [e] at hh
        show ((u, n, fun k => hk_kv R X b k (hk_knd dk ks k)) : hk_Ce) = (u, n, fun k => hk_kv R X' b k (hk_knd dk ks k))
        refine Prod.ext rfl (Prod.ext rfl (funext fun k => ?_))
        exact hk b k _ (hk_knd_6 hh k)
  · show hk_ext X b = hk_ext X' b
    unfold hk_ext
    rw [hx]
theorem hw_upS {R : Nat → Nat → Int32} {X : hk_D} {s : Nat} {o : Option Nat} : hk_up (hw R X) 90 (15, ((hw R X).2 90).2.1, va_up ((hw R X).2 90).2.2 s (hk_rr o)) = hw R (xS X s o) := by
  refine Prod.ext rfl (funext fun b => ?_)
  by_cases hb : b = 90
  · subst hb
    rw [hk_up_self]
    refine Prod.ext rfl (Prod.ext rfl (funext fun k => ?_))
    show va_up ((hw R X).2 90).2.2 s (hk_rr o) k = hk_rr (if k = s then o else X.2.2.2.2.1 k)
    unfold va_up
    by_cases e : k = s
    · rw [if_pos e, if_pos e]
    · rw [if_neg e, if_neg e]; rfl
  · rw [hk_up_ne hb]
    refine hw_x (t := 5) (hk_has_5 hb) (fun a k q h => ?_) rfl rfl rfl
    exact match q, h with
      | (0, _), _ => rfl
      | (1, _), _ => rfl
      | (2, _), _ => rfl
      | (3, _), _ => rfl
      | (4, _), _ => rfl
      | (5, _), h => absurd rfl h
      | (_ + 6, _), _ => rfl
theorem hw_upH {R : Nat → Nat → Int32} {X : hk_D} {s : Nat} {o : Option Nat} (hs : s < 4) : hk_up (hw R X) (94 + s) (5, ((hw R X).2 (94 + s)).2.1, va_up ((hw R X).2 (94 + s)).2.2 1 (hk_rr o)) = hw R (xH X s o) := by
  have key : ∀ b, 94 ≤ b → b ≤ 97 → ∀ k, k ≠ 1 → ((hw R X).2 b).2.2 k = ((hw R (xH X s o)).2 b).2.2 k := by
    intro b h1 h2 k hk
    have : b = 94 ∨ b = 95 ∨ b = 96 ∨ b = 97 := by omega
    rcases this with e | e | e | e <;> subst e <;> (match k, hk with
      | 0, _ => rfl
      | k + 2, _ => rfl)
  have oth : ∀ b, 94 ≤ b → b ≤ 97 → ((hw R X).2 b).2.2 1 = hk_rr (X.2.2.2.2.2.1 (b - 94)) ∧ ((hw R X).2 b).1 = 5 ∧ ((hw R X).2 b).2.1 = 2 := by
    intro b h1 h2
    have : b = 94 ∨ b = 95 ∨ b = 96 ∨ b = 97 := by omega
    rcases this with e | e | e | e <;> subst e <;> exact ⟨rfl, rfl, rfl⟩
  have oth' : ∀ b, 94 ≤ b → b ≤ 97 → ((hw R (xH X s o)).2 b).2.2 1 = hk_rr (hf_us X.2.2.2.2.2.1 s o (b - 94)) ∧ ((hw R (xH X s o)).2 b).1 = 5 ∧ ((hw R (xH X s o)).2 b).2.1 = 2 := by
    intro b h1 h2
    have : b = 94 ∨ b = 95 ∨ b = 96 ∨ b = 97 := by omega
    rcases this with e | e | e | e <;> subst e <;> exact ⟨rfl, rfl, rfl⟩
  refine Prod.ext rfl (funext fun b => ?_)
  by_cases hb : b = 94 + s
  · subst hb
    rw [hk_up_self]
    have o1 := oth (94 + s) (by omega) (by omega)
    have o2 := oth' (94 + s) (by omega) (by omega)
    refine Prod.ext o2.2.1.symm (Prod.ext (o1.2.2.trans o2.2.2.symm) (funext fun k => ?_))
    show va_up ((hw R X).2 (94 + s)).2.2 1 (hk_rr o) k = _
    unfold va_up
    by_cases e : k = 1
    · rw [if_pos e, e, o2.1, show 94 + s - 94 = s by omega, hf_us_s]
    · rw [if_neg e]; exact key _ (by omega) (by omega) k e
  · rw [hk_up_ne hb]
    by_cases hr : 94 ≤ b ∧ b ≤ 97
    · have o1 := oth b hr.1 hr.2
      have o2 := oth' b hr.1 hr.2
      refine Prod.ext (o1.2.1.trans o2.2.1.symm) (Prod.ext (o1.2.2.trans o2.2.2.symm) (funext fun k => ?_))
      by_cases e : k = 1
      · rw [e, o1.1, o2.1, hf_us_n (by omega)]
      · exact key _ hr.1 hr.2 k e
    · refine hw_x6 (hk_has_6 hr) (fun a k q h => ?_) rfl rfl rfl
      exact match q, h with
        | (0, _), _ => rfl
        | (1, _), _ => rfl
        | (2, _), _ => rfl
        | (3, _), _ => rfl
        | (4, _), _ => rfl
        | (5, _), _ => rfl
        | (n + 6, b), h => absurd h (by show ¬ n + 6 < 6; omega)
/-! the rows that were made -/
theorem hw_r4 {R : Nat → Nat → Int32} {X : hk_D} {j : Nat} (h : j < X.2.2.1) : ((hw R X).2 (127 + 2 * j)).1 = 4 ∧ ((hw R X).2 (127 + 2 * j)).2.2 1 = .ref (128 + 2 * j) ∧ hk_kI X (127 + 2 * j) 0 = true := by
  have b1 : Nat.ble (127 + 2 * j) 37 = false := by cases e : Nat.ble (127 + 2 * j) 37; rfl; exact absurd (Nat.le_of_ble_eq_true e) (by omega)
  have b2 : Nat.ble (127 + 2 * j) 126 = false := by cases e : Nat.ble (127 + 2 * j) 126; rfl; exact absurd (Nat.le_of_ble_eq_true e) (by omega)
  have b3 : Nat.ble (127 + 2 * X.2.2.1) (127 + 2 * j) = false := by cases e : Nat.ble (127 + 2 * X.2.2.1) (127 + 2 * j); rfl; exact absurd (Nat.le_of_ble_eq_true e) (by omega)
  have b4 : Nat.beq ((127 + 2 * j - 127) % 2) 0 = true := hn_beq (by omega)
  have e : (hw R X).2 (127 + 2 * j) = (4, 2, fun k => match k with | 0 => .int (R (127 + 2 * j) 0) | _ => .ref (127 + 2 * j + 1)) := by
    show (bif Nat.ble (127 + 2 * j) 37 then _ else bif Nat.ble (127 + 2 * j) 126 then _ else hk_row R X (127 + 2 * j)) = _
    rw [b1, b2]
    show hk_row R X (127 + 2 * j) = _
    unfold hk_row
    rw [b3, b4]; rfl
  refine ⟨by rw [e], by rw [e]; show Value.ref (127 + 2 * j + 1) = _; rw [show 127 + 2 * j + 1 = 128 + 2 * j by omega], ?_⟩
  unfold hk_kI
  rw [b1, b2, b3, b4]; rfl
theorem hw_r10 {R : Nat → Nat → Int32} {X : hk_D} {j : Nat} (h : j < X.2.2.1) : ((hw R X).2 (128 + 2 * j)).1 = 10 ∧ ((hw R X).2 (128 + 2 * j)).2.1 = X.2.2.2.1 j ∧ ∀ k, hk_kI X (128 + 2 * j) k = true := by
  have b1 : Nat.ble (128 + 2 * j) 37 = false := by cases e : Nat.ble (128 + 2 * j) 37; rfl; exact absurd (Nat.le_of_ble_eq_true e) (by omega)
  have b2 : Nat.ble (128 + 2 * j) 126 = false := by cases e : Nat.ble (128 + 2 * j) 126; rfl; exact absurd (Nat.le_of_ble_eq_true e) (by omega)
  have b3 : Nat.ble (127 + 2 * X.2.2.1) (128 + 2 * j) = false := by cases e : Nat.ble (127 + 2 * X.2.2.1) (128 + 2 * j); rfl; exact absurd (Nat.le_of_ble_eq_true e) (by omega)
  have b4 : Nat.beq ((128 + 2 * j - 127) % 2) 0 = false := hn_nbeq (by omega)
  have e : (hw R X).2 (128 + 2 * j) = (10, X.2.2.2.1 ((128 + 2 * j - 127) / 2), fun k => .int (R (128 + 2 * j) k)) := by
    show (bif Nat.ble (128 + 2 * j) 37 then _ else bif Nat.ble (128 + 2 * j) 126 then _ else hk_row R X (128 + 2 * j)) = _
    rw [b1, b2]
    show hk_row R X (128 + 2 * j) = _
    unfold hk_row
    rw [b3, b4]; rfl
  refine ⟨by rw [e], by rw [e]; show X.2.2.2.1 ((128 + 2 * j - 127) / 2) = _; rw [show (128 + 2 * j - 127) / 2 = j by omega], fun k => ?_⟩
  unfold hk_kI
  rw [b1, b2, b3, b4]; rfl
theorem w_len {h0 : hk_Hp} {Xc : hk_X} {ip q m : Nat} {ls : hk_Ls} {a n : Nat} {r : List Value} {h : hk_Hp} (ht : (h0.2 a).1 = 10) (hn : (h0.2 a).2.1 = n) (g : Xc ip ls (.int (nI n) :: r) h q m) : (bif Nat.ble 10 (h0.2 a).1 && Nat.ble (h0.2 a).1 12 then Xc ip ls (.int (nI (h0.2 a).2.1) :: r) h q m else False) := by
  rw [ht, hn]; exact g
/-- the class's sheets -/
def hf_stC (G : hSt) (R : Nat → Nat → Int32) (X : hk_D) : Prop := (∀ s, s < 4 → (G s).1 ≤ 4 ∧ (G s).2.1 ≤ 40 ∧ (X.2.2.2.2.1 s = none → (G s).1 = 0) ∧ ∀ j, X.2.2.2.2.1 s = some j → j < X.2.2.1 ∧ ¬ (G s).1 = 0 ∧ R (127 + 2 * j) 0 = nI ((G s).1 - 1) ∧ X.2.2.2.1 j = (G s).2.1 ∧ ∀ k, k < (G s).2.1 → R (128 + 2 * j) k = (G s).2.2 k) ∧ ∀ s t, s < 4 → t < 4 → s ≠ t → ∀ i j, X.2.2.2.2.1 s = some i → X.2.2.2.2.1 t = some j → i ≠ j
/-- the class's shelves -/
def hf_shC (H : hSh) (R : Nat → Nat → Int32) (X : hk_D) : Prop := ∀ s, s < 4 → (H s).1 ≤ 2 ∧ (H s).2.1 < 6 ∧ (X.2.2.2.2.2.1 s = none → ((H s).1 = 0 ∧ R (94 + s) 0 = -1) ∨ ((H s).1 = 1 ∧ R (94 + s) 0 = nI (H s).2.1)) ∧ ∀ j, X.2.2.2.2.2.1 s = some j → (H s).1 = 2 ∧ R (94 + s) 0 = -1 ∧ j < X.2.2.1 ∧ R (127 + 2 * j) 0 = nI (H s).2.1 ∧ X.2.2.2.1 j = (H s).2.2 ∧ (H s).2.1 < 4 ∧ (H s).2.2 ≤ 40
theorem sh_a {R : Nat → Nat → Int32} {X : hk_D} {s : Nat} (hs : s < 4) : ((hw R X).2 (94 + s)).1 = 5 ∧ hk_kI X (94 + s) 0 = true ∧ ((hw R X).2 (94 + s)).2.2 1 = hk_rr (X.2.2.2.2.2.1 s) := by
  have : s = 0 ∨ s = 1 ∨ s = 2 ∨ s = 3 := by omega
  rcases this with e | e | e | e <;> subst e <;> exact ⟨rfl, rfl, rfl⟩
set_option maxHeartbeats 400000 in
theorem sp_citem {d : Nat} (hd : 1 < d) {R : Nat → Nat → Int32} {X : hk_D} {Q : hk_Q} {v w i : Int32} {G : hSt} (S : hf_stC G R X) (hQ : Q (some (.int (a_item G v w i))) (hw R X)) : hk_call d mC_item [.ref 38, .int v, .int w, .int i] (hw R X) Q := by
  obtain ⟨d, rfl⟩ : ∃ e, d = e + 1 := ⟨d - 1, by omega⟩
  unfold a_item at hQ
  refine hk_run2 (hk_call_m d) 200 ?_
  refine sp_isBelow (by omega) (n := 4) (by omega) rfl (fun s hs es => ?_) (fun nn => ?_)
  · refine And.intro (fun c => absurd c (by decide)) (fun _ => ?_)
    rw [es, hxi_s hs (by omega)] at hQ
    dsimp only at hQ
    subst es
    refine sp_isBelow (by omega) (n := 4) (by omega) rfl (fun t ht et => ?_) (fun nn => ?_)
    · refine And.intro (fun c => absurd c (by decide)) (fun _ => ?_)
      rw [et, hxi_s ht (by omega)] at hQ
      dsimp only at hQ
      subst et
      obtain ⟨g4, g40, gn, gj⟩ := S.1 s hs
      refine And.intro (vp_in_nI (N := 4) hs (by omega)) ?_
      rw [nI_clamp (by omega)]
      cases e : X.2.2.2.2.1 s with
      | none =>
        rw [if_pos (gn e)] at hQ
        rw [show ((hw R X).2 90).2.2 s = .null from congrArg hk_rr e]
        exact hk_qe_of hQ
      | some j =>
        obtain ⟨hj, nz, r0, rl, rv⟩ := gj j e
        obtain ⟨a1, a2, a3⟩ := hw_r4 (R := R) hj
        obtain ⟨b1, b2, b3⟩ := hw_r10 (R := R) hj
        rw [if_neg nz] at hQ
        rw [show ((hw R X).2 90).2.2 s = .ref (127 + 2 * j) from congrArg hk_rr e]
        refine w_get a1 a3 r0 ?_
        refine And.intro (fun c => ?_) (fun c => ?_)
        · have tt : (G s).1 = t + 1 := by have := (nI_eq (by omega) (by omega)).mp c; omega
          rw [if_pos tt] at hQ
          refine w_gref a1 a2 ?_
          refine w_len b1 (b2.trans rl) ?_
          refine sp_isBelow (by omega) (n := (G s).2.1) (by omega) rfl (fun k hk ek => ?_) (fun nn => ?_)
          · refine And.intro (fun c => absurd c (by decide)) (fun _ => ?_)
            rw [ek, hxi_s hk (by omega)] at hQ
            subst ek
            refine w_gref a1 a2 ?_
            refine w_lds b1 rfl (b2.trans rl) hk (by omega) (b3 k) (rv k hk) ?_
            exact hk_qe_of hQ
          · refine And.intro (fun _ => ?_) (fun c => absurd rfl c)
            rw [hxi_n (by omega) nn] at hQ
            exact hk_qe_of hQ
        · rw [if_neg (fun z => c (by rw [z]; rfl))] at hQ
          exact hk_qe_of hQ
    · refine And.intro (fun _ => ?_) (fun c => absurd rfl c)
      rw [hxi_n (by omega) nn] at hQ
      exact hk_qe_of hQ
  · refine And.intro (fun _ => ?_) (fun c => absurd rfl c)
    rw [hxi_n (by omega) nn] at hQ
    exact hk_qe_of hQ
theorem sp_rnar {d : Nat} (hd : 0 < d) {R : Nat → Nat → Int32} {X : hk_D} {Q : hk_Q} {x : Int32} {j t : Nat} (hj : j < X.2.2.1) (r0 : R (127 + 2 * j) 0 = nI (t - 1)) (nz : ¬ t = 0) (ht : t ≤ 4) (hQ : Q (some (.int (hf_nar t x))) (hw R X)) : hk_call d mR_narrowed [.ref (127 + 2 * j), .int x] (hw R X) Q := by
  obtain ⟨d, rfl⟩ : ∃ e, d = e + 1 := ⟨d - 1, by omega⟩
  obtain ⟨a1, a2, a3⟩ := hw_r4 (R := R) hj
  unfold hf_nar at hQ
  refine hk_run2 (hk_call_m d) 100 ?_
  refine w_get a1 a3 r0 ?_
  refine And.intro (fun c => ?_) (fun c => ?_)
  · have t1 : t = 1 := by have := (nI_eq (b := 0) (by omega) (by omega)).mp c; omega
    rw [if_pos t1] at hQ
    exact hk_qe_of hQ
  · have t1 : ¬ t = 1 := fun y => c (by rw [y]; rfl)
    rw [if_neg t1] at hQ
    refine w_get a1 a3 r0 ?_
    refine And.intro (fun c2 => ?_) (fun c2 => ?_)
    · have t2 : t = 2 := by have := (nI_eq (b := 1) (by omega) (by omega)).mp c2; omega
      rw [if_pos t2] at hQ
      exact hk_qe_of hQ
    · have t2 : ¬ t = 2 := fun y => c2 (by rw [y]; rfl)
      rw [if_neg t2] at hQ
      exact hk_qe_of hQ
/-- only what stands in the rows has changed -/
def hfrw (R R' : Nat → Nat → Int32) : Prop := (∀ a k, a < 127 → R' a k = R a k) ∧ ∀ j k, R' (127 + 2 * j) k = R (127 + 2 * j) k
theorem hf_shC_rw {H : hSh} {R R' : Nat → Nat → Int32} {X : hk_D} (S : hf_shC H R X) (f : hfrw R R') : hf_shC H R' X := by
  intro s hs
  obtain ⟨z1, z2, z3, z4⟩ := S s hs
  refine ⟨z1, z2, fun e => by rw [f.1 _ _ (by omega)]; exact z3 e, fun j e => ?_⟩
  rw [f.1 _ _ (by omega), f.2]; exact z4 j e
set_option maxHeartbeats 400000 in
theorem sp_cput {d : Nat} (hd : 1 < d) {R : Nat → Nat → Int32} {X : hk_D} {Q : hk_Q} {v i x : Int32} {G : hSt} (S : hf_stC G R X) (hQ : ∀ R', hf_stC (o_put G v i x).2 R' X → hfrw R R' → Q (some (.int (o_put G v i x).1)) (hw R' X)) : hk_call d mC_put [.ref 38, .int v, .int i, .int x] (hw R X) Q := by
  obtain ⟨d, rfl⟩ : ∃ e, d = e + 1 := ⟨d - 1, by omega⟩
  unfold o_put at hQ
  refine hk_run2 (hk_call_m d) 200 ?_
  refine sp_isBelow (by omega) (n := 4) (by omega) rfl (fun s hs es => ?_) (fun nn => ?_)
  · refine And.intro (fun c => absurd c (by decide)) (fun _ => ?_)
    rw [es, hxi_s hs (by omega)] at hQ
    dsimp only at hQ
    subst es
    obtain ⟨g4, g40, gn, gj⟩ := S.1 s hs
    refine And.intro (vp_in_nI (N := 4) hs (by omega)) ?_
    rw [nI_clamp (by omega)]
    cases e : X.2.2.2.2.1 s with
    | none =>
      rw [if_pos (gn e)] at hQ
      rw [show ((hw R X).2 90).2.2 s = .null from congrArg hk_rr e]
      exact hk_qe_of (hQ R S ⟨fun _ _ _ => rfl, fun _ _ => rfl⟩)
    | some j =>
      obtain ⟨hj, nz, r0, rl, rv⟩ := gj j e
      obtain ⟨a1, a2, a3⟩ := hw_r4 (R := R) hj
      obtain ⟨b1, b2, b3⟩ := hw_r10 (R := R) hj
      rw [if_neg nz] at hQ
      rw [show ((hw R X).2 90).2.2 s = .ref (127 + 2 * j) from congrArg hk_rr e]
      refine w_gref a1 a2 ?_
      refine w_len b1 (b2.trans rl) ?_
      refine sp_isBelow (by omega) (n := (G s).2.1) (by omega) rfl (fun k hk ek => ?_) (fun nn => ?_)
      · refine And.intro (fun c => absurd c (by decide)) (fun _ => ?_)
        rw [ek, hxi_s hk (by omega)] at hQ
        dsimp only at hQ
        subst ek
        refine w_gref a1 a2 ?_
        refine w_recv a1 ?_
        refine sp_rnar (by omega) hj r0 nz g4 ?_
        refine w_sts b1 (by omega) rfl (b2.trans rl) hk (by omega) (b3 k) ?_
        refine hk_qe_of (hQ _ ⟨fun t ht => ?_, S.2⟩ ⟨fun a l z => up2_a (by omega), fun a l => up2_a (by omega)⟩)
        obtain ⟨h4, h40, hn, hjj⟩ := S.1 t ht
        by_cases q : t = s
        · subst q
          rw [hf_us_s]
          refine ⟨g4, g40, gn, fun j' e' => ?_⟩
          have ej : j' = j := by rw [e] at e'; cases e'; rfl
          subst ej
          refine ⟨hj, nz, by rw [up2_a (by omega)]; exact r0, rl, fun l hl => ?_⟩
          show up2 R (128 + 2 * j') k _ (128 + 2 * j') l = hf_us (G t).2.2 k (hf_nar (G t).1 x) l
          by_cases el : l = k
          · rw [el, up2_s, hf_us_s]
          · rw [up2_k el, hf_us_n el]; exact rv l hl
        · rw [hf_us_n q]
          refine ⟨h4, h40, hn, fun j' e' => ?_⟩
          have nj := S.2 t s ht hs q j' j e' e
          obtain ⟨y1, y2, y3, y4, y5⟩ := hjj j' e'
          exact ⟨y1, y2, by rw [up2_a (by omega)]; exact y3, y4, fun l hl => by rw [up2_a (by omega)]; exact y5 l hl⟩
      · refine And.intro (fun _ => ?_) (fun c => absurd rfl c)
        rw [hxi_n (by omega) nn] at hQ
        exact hk_qe_of (hQ R S ⟨fun _ _ _ => rfl, fun _ _ => rfl⟩)
  · refine And.intro (fun _ => ?_) (fun c => absurd rfl c)
    rw [hxi_n (by omega) nn] at hQ
    exact hk_qe_of (hQ R S ⟨fun _ _ _ => rfl, fun _ _ => rfl⟩)
