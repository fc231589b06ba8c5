/-! the heap's form: what is no int -/
def hk_has (t b : Nat) : Bool := match hk_nth hk_tab (b - 38) with
  | some (_, _, dk, ks) => Nat.beq dk.1 t || ks.any (fun q => Nat.beq q.1 t)
  | none => false
theorem hk_nth_any {p : Nat × Nat → Bool} : ∀ (l : List (Nat × Nat)) (k : Nat) (q : Nat × Nat), hk_nth l k = some q → l.any p = false → p q = false
  | [], _, _, h, _ => by cases h
  | a :: l, 0, q, h, g => by
    rw [List.any_cons] at g
    cases h
    exact (Bool.or_eq_false_iff.mp g).1
  | a :: l, k + 1, q, h, g => by
    rw [List.any_cons] at g
    exact hk_nth_any l k q h (Bool.or_eq_false_iff.mp g).2
theorem hk_knd_no {t : Nat} {dk : Nat × Nat} {ks : List (Nat × Nat)} (h : (Nat.beq dk.1 t || ks.any (fun q => Nat.beq q.1 t)) = false) (k : Nat) : (hk_knd dk ks k).1 ≠ t := by
  obtain ⟨h1, h2⟩ := Bool.or_eq_false_iff.mp h
  have d1 : dk.1 ≠ t := Nat.ne_of_beq_eq_false h1
  unfold hk_knd
  cases ks with
  | nil => exact d1
  | cons a l =>
    dsimp only
    cases e : hk_nth (a :: l) k with
    | none => exact d1
    | some q => exact Nat.ne_of_beq_eq_false (hk_nth_any (p := fun q => Nat.beq q.1 t) _ _ _ e h2)
theorem hw_x {R : Nat → Nat → Int32} {X X' : hk_D} {b t : Nat} (hh : hk_has t b = false) (hk : ∀ a k q, q.1 ≠ t → hk_kv R X a k q = hk_kv R X' a k q) (hx : X'.2.2.2.2.2.2 = X.2.2.2.2.2.2) (h3 : X'.2.2.1 = X.2.2.1) (h4 : X'.2.2.2.1 = X.2.2.2.1) : (hw R X).2 b = (hw R X').2 b := by
  unfold hw
  dsimp only
  cases Nat.ble b 37
  · cases Nat.ble b 126
    · show hk_row R X b = hk_row R X' b
      unfold hk_row
      rw [h3, h4]
    · show hk_fix R X b = hk_fix R X' b
      unfold hk_has at hh
      unfold hk_fix
      cases e : hk_nth hk_tab (b - 38) with
      | none => rfl
      | some q =>
        obtain ⟨u, n, dk, ks⟩ := q
        rw [e] at hh
        show ((u, n, fun k => hk_kv R X b k (hk_knd dk ks k)) : hk_Ce) = (u, n, fun k => hk_kv R X' b k (hk_knd dk ks k))
        refine Prod.ext rfl (Prod.ext rfl (funext fun k => ?_))
        exact hk b k _ (hk_knd_no hh k)
  · show hk_ext X b = hk_ext X' b
    unfold hk_ext
    rw [hx]
/-- the longs of the sheets: one is written -/
def xL (X : hk_D) (j : Nat) (v : Int64) : hk_D := (X.1, (fun k => if k = j then v else X.2.1 k), X.2.2)
def xW (X : hk_D) (v : Int64) : hk_D := (v, X.2)
theorem hk_has_4 {b : Nat} (h : b ≠ 120) : hk_has 4 b = false := by
  by_cases q : b < 127
  · have : ∀ b, b < 127 → b ≠ 120 → hk_has 4 b = false := by decide +kernel
    exact this b q h
  · have e : hk_nth hk_tab (b - 38) = none := by
      have : ∀ (l : List (Nat × Nat × (Nat × Nat) × List (Nat × Nat))) (n : Nat), l.length ≤ n → hk_nth l n = none := by
        intro l
        induction l with
        | nil => intro n _; rfl
        | cons a l ih => intro n hn; cases n with
          | zero => simp at hn
          | succ n => exact ih n (by simp at hn; omega)
      exact this hk_tab _ (by show 89 ≤ b - 38; omega)
    unfold hk_has
    rw [e]
theorem hw_upl {R : Nat → Nat → Int32} {X : hk_D} {j : Nat} {v : Int64} : hk_up (hw R X) 120 (11, ((hw R X).2 120).2.1, va_up ((hw R X).2 120).2.2 j (.long v)) = hw R (xL X j v) := by
  refine Prod.ext rfl (funext fun b => ?_)
  by_cases hb : b = 120
  · subst hb
    rw [hk_up_self]
    refine Prod.ext rfl (Prod.ext rfl (funext fun k => ?_))
    show va_up ((hw R X).2 120).2.2 j (.long v) k = Value.long (if k = j then v else X.2.1 k)
    unfold va_up
    by_cases e : k = j
    · rw [if_pos e, if_pos e]
    · rw [if_neg e, if_neg e]; rfl
  · rw [hk_up_ne hb]
    refine hw_x (t := 4) (hk_has_4 hb) (fun a k q h => ?_) rfl rfl rfl
    exact match q, h with
      | (0, _), _ => rfl
      | (1, _), _ => rfl
      | (2, _), _ => rfl
      | (3, _), _ => rfl
      | (4, _), h => absurd rfl h
      | (5, _), _ => rfl
      | (_ + 6, _), _ => rfl
theorem w_stl {R : Nat → Nat → Int32} {X : hk_D} {Xc : hk_X} {ip q m : Nat} {ls : hk_Ls} {j : Nat} {i : Int32} {v : Int64} {r : List Value} (hi : i = nI j) (hj : j < 160) (g : Xc ip ls r (hw R (xL X j v)) q m) : vp_in i ((hw R X).2 120).2.1 ∧ hk_astv 11 (.long v) (fun v' => Xc ip ls r (hk_up (hw R X) 120 (11, ((hw R X).2 120).2.1, va_up ((hw R X).2 120).2.2 i.toNatClampNeg v')) q m) := by
  subst hi
  refine And.intro (vp_in_nI (N := 160) hj (by omega)) ?_
  show Xc ip ls r (hk_up (hw R X) 120 (11, ((hw R X).2 120).2.1, va_up ((hw R X).2 120).2.2 (nI j).toNatClampNeg (.long v))) q m
  rw [nI_clamp (by omega), hw_upl]; exact g
theorem w_ldl {X : hk_D} {Xc : hk_X} {ip q m : Nat} {ls : hk_Ls} {j : Nat} {i : Int32} {x : Int64} {r : List Value} {h : hk_Hp} (hi : i = nI j) (hj : j < 160) (hx : X.2.1 j = x) (g : Xc ip ls (.long x :: r) h q m) : vp_in i 160 ∧ Xc ip ls (.long (X.2.1 i.toNatClampNeg) :: r) h q m := by
  subst hi
  refine And.intro (vp_in_nI (N := 160) hj (by omega)) ?_
  rw [nI_clamp (by omega), hx]; exact g
theorem hk_has_3 {b : Nat} (h : b ≠ 98) : hk_has 3 b = false := by
  by_cases q : b < 127
  · have : ∀ b, b < 127 → b ≠ 98 → hk_has 3 b = false := by decide +kernel
    exact this b q h
  · have e : hk_nth hk_tab (b - 38) = none := by
      have : ∀ (l : List (Nat × Nat × (Nat × Nat) × List (Nat × Nat))) (n : Nat), l.length ≤ n → hk_nth l n = none := by
        intro l
        induction l with
        | nil => intro n _; rfl
        | cons a l ih => intro n hn; cases n with
          | zero => simp at hn
          | succ n => exact ih n (by simp at hn; omega)
      exact this hk_tab _ (by show 89 ≤ b - 38; omega)
    unfold hk_has
    rw [e]
theorem hk_kv_ne {R : Nat → Nat → Int32} {X X' : hk_D} {a k t : Nat} {q : Nat × Nat} (h : q.1 ≠ t) (e0 : t = 3 → X'.2.1 = X.2.1 ∧ X'.2.2.2.2.1 = X.2.2.2.2.1 ∧ X'.2.2.2.2.2.1 = X.2.2.2.2.2.1) (ht : t = 3) : hk_kv R X a k q = hk_kv R X' a k q := by
  subst ht
  obtain ⟨z1, z2, z3⟩ := e0 rfl
  exact match q, h with
    | (0, _), _ => rfl
    | (1, _), _ => rfl
    | (2, _), _ => rfl
    | (3, _), h => absurd rfl h
    | (4, _), _ => by show Value.long (X.2.1 k) = .long (X'.2.1 k); rw [z1]
    | (5, _), _ => by show hk_rr (X.2.2.2.2.1 k) = hk_rr (X'.2.2.2.2.1 k); rw [z2]
    | (_ + 6, b), _ => by show hk_rr (X.2.2.2.2.2.1 b) = hk_rr (X'.2.2.2.2.2.1 b); rw [z3]
theorem hk_98 : ∀ k, k ≠ 16 → ∀ dk ks t n, hk_nth hk_tab 60 = some (t, n, dk, ks) → (hk_knd dk ks k).1 ≠ 3 := by
  intro k hk dk ks t n h
  have e : hk_nth hk_tab 60 = some (8, 51, (0, 0), [(1, 99), (1, 100), (0, 0), (1, 101), (0, 0), (1, 102), (1, 103), (1, 104), (1, 105), (0, 0), (0, 0), (1, 106), (0, 0), (0, 0), (0, 0), (0, 0), (3, 0), (0, 0), (0, 0), (0, 0), (0, 0), (0, 0), (1, 107), (1, 108), (1, 109), (1, 110), (1, 111), (1, 112), (1, 113), (1, 114), (1, 115), (1, 116), (1, 117), (0, 0), (0, 0), (1, 118), (1, 119), (1, 120), (1, 121), (1, 122), (1, 123), (0, 0), (0, 0), (0, 0), (1, 124), (0, 0), (0, 0), (0, 0), (1, 125), (0, 0), (1, 126)]) := rfl
  rw [e] at h
  cases h
  by_cases q : k < 51
  · have : ∀ k, k < 51 → k ≠ 16 → (hk_knd (0, 0) [(1, 99), (1, 100), (0, 0), (1, 101), (0, 0), (1, 102), (1, 103), (1, 104), (1, 105), (0, 0), (0, 0), (1, 106), (0, 0), (0, 0), (0, 0), (0, 0), (3, 0), (0, 0), (0, 0), (0, 0), (0, 0), (0, 0), (1, 107), (1, 108), (1, 109), (1, 110), (1, 111), (1, 112), (1, 113), (1, 114), (1, 115), (1, 116), (1, 117), (0, 0), (0, 0), (1, 118), (1, 119), (1, 120), (1, 121), (1, 122), (1, 123), (0, 0), (0, 0), (0, 0), (1, 124), (0, 0), (0, 0), (0, 0), (1, 125), (0, 0), (1, 126)] k).1 ≠ 3 := by decide +kernel
    exact this k q hk
  · have z : ∀ (l : List (Nat × Nat)) (n : Nat), l.length ≤ n → hk_nth l n = none := by
      intro l
      induction l with
      | nil => intro n _; rfl
      | cons a l ih => intro n hn; cases n with
        | zero => simp at hn
        | succ n => exact ih n (by simp at hn; omega)
    unfold hk_knd
    dsimp only
    rw [z _ k (by show 51 ≤ k; omega)]
    decide
/-- the word is written -/
theorem hw_upw {R : Nat → Nat → Int32} {X : hk_D} {v : Int64} : hk_up (hw R X) 98 (8, ((hw R X).2 98).2.1, va_up ((hw R X).2 98).2.2 16 (.long v)) = hw R (xW X v) := by
  refine Prod.ext rfl (funext fun b => ?_)
  by_cases hb : b = 98
  · subst hb
    rw [hk_up_self]
    refine Prod.ext rfl (Prod.ext rfl (funext fun k => ?_))
    show va_up ((hw R X).2 98).2.2 16 (.long v) k = ((hw R (xW X v)).2 98).2.2 k
    unfold va_up
    by_cases e : k = 16
    · rw [if_pos e, e]; rfl
    · rw [if_neg e]
      show (hk_fix R X 98).2.2 k = (hk_fix R (xW X v) 98).2.2 k
      show hk_kv R X 98 k _ = hk_kv R (xW X v) 98 k _
      exact hk_kv_ne (t := 3) (hk_98 k e _ _ _ _ rfl) (fun _ => ⟨rfl, rfl, rfl⟩) rfl
  · rw [hk_up_ne hb]
    exact hw_x (t := 3) (hk_has_3 hb) (fun a k q h => hk_kv_ne h (fun _ => ⟨rfl, rfl, rfl⟩) rfl) rfl rfl rfl
theorem w_putw {R : Nat → Nat → Int32} {X : hk_D} {Xc : hk_X} {ip q m : Nat} {ls : hk_Ls} {v : Int64} {r : List Value} {p : Prop} (hp : p) (g : Xc ip ls r (hw R (xW X v)) q m) : p ∧ Xc ip ls r (hk_up (hw R X) 98 (8, ((hw R X).2 98).2.1, va_up ((hw R X).2 98).2.2 16 (.long v))) q m := by
  refine And.intro hp ?_
  rw [hw_upw]; exact g
