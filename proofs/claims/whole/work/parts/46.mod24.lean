/-! THE REFERENCE: shelves, sheets, acts -/
abbrev hSh : Type := Nat → Nat × Nat × Nat
abbrev hSt : Type := Nat → Nat × Nat × (Nat → Int32)
def hf_us {α : Type} (H : Nat → α) (s : Nat) (h : α) : Nat → α := fun t => if t = s then h else H t
theorem hf_us_s {α : Type} (H : Nat → α) (s : Nat) (h : α) : hf_us H s h s = h := if_pos rfl
theorem hf_us_n {α : Type} {H : Nat → α} {s t : Nat} {h : α} (q : t ≠ s) : hf_us H s h t = H t := if_neg q
/-- what lies on a shelf: 0 nothing, 1 a hat (its number), 2 a row (its sort, its size) -/
def hf_hk (t : Nat) : Int32 := if t = 0 then -1 else if t = 1 then 0 else 1
def hf_shM (H : hSh) (R : Nat → Nat → Int32) : Prop := ∀ s, s < 4 → (H s).1 ≤ 2 ∧ (H s).2.1 < 6 ∧ (H s).2.2 ≤ 40 ∧ ((H s).1 = 2 → (H s).2.1 < 4) ∧ R 121 s = hf_hk (H s).1 ∧ ((H s).1 ≠ 0 → R 122 s = nI (H s).2.1) ∧ ((H s).1 = 2 → R 123 s = nI (H s).2.2)
/-- a sheet: 0 none, else its sort and one; its size; what stands in it -/
def hf_so (t : Nat) : Int32 := if t = 0 then -1 else nI (t - 1)
def hf_stM (G : hSt) (R : Nat → Nat → Int32) (X : hk_D) : Prop := ∀ s, s < 4 → (G s).1 ≤ 4 ∧ (G s).2.1 ≤ 40 ∧ R 118 s = hf_so (G s).1 ∧ R 119 s = nI (G s).2.1 ∧ ∀ k, k < (G s).2.1 → X.2.1 (40 * s + k) = ((G s).2.2 k).toInt64
theorem hf_so_0 {t : Nat} (h : t = 0) : hf_so t = -1 := if_pos h
theorem hf_so_s {t : Nat} (h : ¬ t = 0) : hf_so t = nI (t - 1) := if_neg h
def hf_kon (P : hP) (h : Nat × Nat × Nat) : Nat := if h.1 = 0 then 99 else if h.1 = 2 then 9 else if h.2.1 < P 3 0 then P 7 h.2.1 else 99
set_option maxHeartbeats 400000 in
theorem sp_mkindOn {d : Nat} (hd : 2 < d) {R : Nat → Nat → Int32} {X : hk_D} {Q : hk_Q} {v : Int32} {s : Nat} {P : hP} {H : hSh} (M : hf_M 0 P R) (S : hf_shM H R) (ev : v = nI s) (hs : s < 4) (hQ : Q (some (.int (hf_bI (hf_kon P (H s))))) (hw R X)) : hk_call d mM_kindOn [.ref 98, .int v] (hw R X) Q := by
  obtain ⟨d, rfl⟩ : ∃ e, d = e + 1 := ⟨d - 1, by omega⟩
  subst ev
  have n6 := M.2.2.2.2.2.1
  obtain ⟨h2, h6, h40, h4, eh, en, ez⟩ := S s hs
  unfold hf_kon at hQ
  refine hk_run2 (hk_call_m d) 100 ?_
  refine w_ld (j := s) (n := 4) rfl rfl hs (by omega) rfl eh ?_
  refine And.intro (fun c => ?_) (fun c => ?_)
  · have h1 : (H s).1 = 1 := by
      unfold hf_hk at c
      by_cases q : (H s).1 = 0
      · rw [if_pos q] at c; exact absurd c (by decide)
      · rw [if_neg q] at c
        by_cases q1 : (H s).1 = 1
        · exact q1
        · rw [if_neg q1] at c; exact absurd c (by decide)
    rw [if_neg (by omega), if_neg (by omega)] at hQ
    have en := en (by omega)
    refine w_ld (j := s) (n := 4) rfl rfl hs (by omega) rfl en ?_
    refine sp_misHat (by omega) M.1.2.1 n6 (fun j hj ej => ?_) (fun nn => ?_)
    · refine And.intro (fun c => absurd c (by decide)) (fun _ => ?_)
      have ejn : (H s).2.1 = j := (nI_eq (by omega) (by omega)).mp ej
      rw [if_pos (by omega)] at hQ
      refine w_ld (j := s) (n := 4) rfl rfl hs (by omega) rfl en ?_
      refine w_ld (j := (H s).2.1) (n := 6) rfl rfl (by omega) (by omega) rfl (hf_M_h M _ (by omega)).1.1 ?_
      have k6 := (hf_M_h M _ (show (H s).2.1 < P 3 0 by omega)).2.2.1
      rw [show hf_bI (P 7 (H s).2.1) = nI (P 7 (H s).2.1) from if_neg (by omega)] at hQ
      exact hk_qe_of hQ
    · refine And.intro (fun _ => ?_) (fun c => absurd rfl c)
      rw [if_neg (fun z => nn _ z rfl)] at hQ
      exact hk_qe_of hQ
  · refine w_ld (j := s) (n := 4) rfl rfl hs (by omega) rfl eh ?_
    by_cases q : (H s).1 = 0
    · rw [if_pos q] at hQ
      rw [show hf_hk (H s).1 = -1 from if_pos q]
      refine And.intro (fun c => absurd c (by decide)) (fun _ => ?_)
      exact hk_qe_of hQ
    · have q1 : ¬ (H s).1 = 1 := fun z => c (by unfold hf_hk; rw [if_neg q, if_pos z])
      rw [if_neg q, if_pos (by omega)] at hQ
      rw [show hf_hk (H s).1 = 1 by unfold hf_hk; rw [if_neg q, if_neg q1]]
      refine And.intro (fun _ => ?_) (fun c => absurd (by decide) c)
      exact hk_qe_of hQ
def hf_und (k : Nat) (v : Int32) : Bool := decide (nI k = v) || (decide (hk_nd [0, 0, 0, 1, 2, 0] k = v) || decide (v = 0))
theorem hf_und_t {k : Nat} {v : Int32} (h : nI k = v ∨ hk_nd [0, 0, 0, 1, 2, 0] k = v ∨ v = 0) : hf_und k v = true := by
  unfold hf_und
  rcases h with h | h | h
  · rw [decide_eq_true h]; rfl
  · rw [decide_eq_true h]; simp
  · rw [decide_eq_true h]; simp
theorem hf_und_f {k : Nat} {v : Int32} (h1 : ¬ nI k = v) (h2 : ¬ hk_nd [0, 0, 0, 1, 2, 0] k = v) (h3 : ¬ v = 0) : hf_und k v = false := by
  unfold hf_und
  rw [decide_eq_false h1, decide_eq_false h2, decide_eq_false h3]; rfl
theorem hk_nd_c : ∀ k, k < 6 → (k = 3 ∧ hk_nd [0, 0, 0, 1, 2, 0] k = 1) ∨ (k = 4 ∧ hk_nd [0, 0, 0, 1, 2, 0] k = 2) ∨ (k ≠ 3 ∧ k ≠ 4 ∧ hk_nd [0, 0, 0, 1, 2, 0] k = 0) := by decide
set_option maxHeartbeats 400000 in
theorem sp_misUnder {d : Nat} (hd : 0 < d) {h : hk_Hp} {Q : hk_Q} {u v : Int32} {k : Nat} (eu : u = nI k) (hk : k < 6) (h1 : hf_und k v = true → Q (some (.int 1)) h) (h0 : hf_und k v = false → Q (some (.int 0)) h) : hk_call d mM_isUnder [.int u, .int v] h Q := by
  obtain ⟨d, rfl⟩ : ∃ e, d = e + 1 := ⟨d - 1, by omega⟩
  subst eu
  refine hk_run2 (hk_call_m d) 100 ?_
  refine And.intro (fun c => ?_) (fun c => ?_)
  · exact And.intro (by decide) (hk_qe_of (h1 (hf_und_t (Or.inr (Or.inr c)))))
  · refine And.intro (fun c2 => ?_) (fun c2 => ?_)
    · exact And.intro (by decide) (hk_qe_of (h1 (hf_und_t (Or.inl c2.symm))))
    · have last : ¬ hk_nd [0, 0, 0, 1, 2, 0] k = v → hf_und k v = false := fun z => hf_und_f (fun y => c2 y.symm) z c
      refine And.intro (fun c3 => ?_) (fun c3 => ?_)
      · refine And.intro (fun c4 => ?_) (fun c4 => ?_)
        · have k3 : k = 3 := (nI_eq (b := 3) (by omega) (by omega)).mp c4
          subst k3
          exact And.intro (by decide) (hk_qe_of (h1 (hf_und_t (Or.inr (Or.inl c3.symm)))))
        · have k3 : ¬ k = 3 := fun z => c4 (by rw [z]; rfl)
          refine And.intro (fun c5 => absurd (c3.symm.trans c5) (by decide)) (fun c5 => ?_)
          refine And.intro (by decide) (hk_qe_of (h0 (last (fun z => ?_))))
          rcases hk_nd_c k hk with y | y | y
          · exact k3 y.1
          · rw [y.2, c3] at z; exact absurd z (by decide)
          · rw [y.2.2, c3] at z; exact absurd z (by decide)
      · refine And.intro (fun c5 => ?_) (fun c5 => ?_)
        · refine And.intro (fun c6 => ?_) (fun c6 => ?_)
          · have k4 : k = 4 := (nI_eq (b := 4) (by omega) (by omega)).mp c6
            subst k4
            exact And.intro (by decide) (hk_qe_of (h1 (hf_und_t (Or.inr (Or.inl c5.symm)))))
          · have k4 : ¬ k = 4 := fun z => c6 (by rw [z]; rfl)
            refine And.intro (by decide) (hk_qe_of (h0 (last (fun z => ?_))))
            rcases hk_nd_c k hk with y | y | y
            · rw [y.2, c5] at z; exact absurd z (by decide)
            · exact k4 y.1
            · rw [y.2.2, c5] at z; exact absurd z (by decide)
        · refine And.intro (by decide) (hk_qe_of (h0 (last (fun z => ?_))))
          rcases hk_nd_c k hk with y | y | y
          · exact c3 (z.symm.trans y.2)
          · exact c5 (z.symm.trans y.2)
          · exact c (z.symm.trans y.2.2)
theorem sp_misHeld {d : Nat} (hd : 2 < d) {R : Nat → Nat → Int32} {X : hk_D} {Q : hk_Q} {w x : Int32} {P : hP} (M : hf_M 0 P R) (h0 : w = 0 → (∀ j, j < P 3 0 → x = nI j → Q (some (.int 1)) (hw R X)) ∧ ((∀ j, j < P 3 0 → x ≠ nI j) → Q (some (.int 0)) (hw R X))) (h1 : w = 1 → (∀ j, j < 4 → x = nI j → Q (some (.int 1)) (hw R X)) ∧ ((∀ j, j < 4 → x ≠ nI j) → Q (some (.int 0)) (hw R X))) (h2 : w = 2 → Q (some (.int 1)) (hw R X)) (h3 : ¬ w = 0 → ¬ w = 1 → ¬ w = 2 → Q (some (.int 0)) (hw R X)) : hk_call d mM_isHeld [.ref 98, .int w, .int x] (hw R X) Q := by
  obtain ⟨d, rfl⟩ : ∃ e, d = e + 1 := ⟨d - 1, by omega⟩
  refine hk_run2 (hk_call_m d) 100 ?_
  refine And.intro (fun c => ?_) (fun c => ?_)
  · refine sp_misHat (by omega) M.1.2.1 M.2.2.2.2.2.1 (fun j hj ej => ?_) (fun nn => ?_)
    · exact And.intro (by decide) (hk_qe_of ((h0 c).1 j hj ej))
    · exact And.intro (by decide) (hk_qe_of ((h0 c).2 nn))
  · refine And.intro (fun c1 => ?_) (fun c1 => ?_)
    · refine sp_misShelf (by omega) (fun j hj ej => ?_) (fun nn => ?_)
      · exact And.intro (by decide) (hk_qe_of ((h1 c1).1 j hj ej))
      · exact And.intro (by decide) (hk_qe_of ((h1 c1).2 nn))
    · refine And.intro (fun c2 => ?_) (fun c2 => ?_)
      · exact And.intro (by decide) (hk_qe_of (h2 c2))
      · exact And.intro (by decide) (hk_qe_of (h3 c c1 c2))
def hf_ro (g : Nat × Nat × (Nat → Int32)) : Nat × Nat × Nat := if g.1 = 0 then (0, 0, 0) else (2, g.1 - 1, g.2.1)
def o_shelf (P : hP) (G : hSt) (H : hSh) (v w x : Int32) : Int32 × hSh := match hxi 4 v with
  | none => (-1, H)
  | some s => if w = 0 then (match hxi (P 3 0) x with
      | none => (-1, H)
      | some j => (1, hf_us H s (1, j, 0)))
    else if w = 1 then (match hxi 4 x with
      | none => (-1, H)
      | some t => (1, hf_us H s (hf_ro (G t))))
    else if w = 2 then (1, hf_us H s (0, 0, 0)) else (-1, H)
theorem hf_shM_up {H : hSh} {R R' : Nat → Nat → Int32} {s : Nat} {h : Nat × Nat × Nat} (S : hf_shM H R) (b : h.1 ≤ 2 ∧ h.2.1 < 6 ∧ h.2.2 ≤ 40 ∧ (h.1 = 2 → h.2.1 < 4)) (fr : ∀ a k, ¬ ((a = 121 ∨ a = 122 ∨ a = 123) ∧ k = s) → R' a k = R a k) (e1 : R' 121 s = hf_hk h.1) (e2 : h.1 ≠ 0 → R' 122 s = nI h.2.1) (e3 : h.1 = 2 → R' 123 s = nI h.2.2) : hf_shM (hf_us H s h) R' := by
  intro t ht
  by_cases q : t = s
  · subst q
    rw [hf_us_s]
    exact ⟨b.1, b.2.1, b.2.2.1, b.2.2.2, e1, e2, e3⟩
  · rw [hf_us_n q, fr 121 t (by omega), fr 122 t (by omega), fr 123 t (by omega)]
    exact S t ht
def hfs (R R' : Nat → Nat → Int32) : Prop := ∀ a k, ¬ (a = 121 ∨ a = 122 ∨ a = 123) → R' a k = R a k
set_option maxHeartbeats 1000000 in
theorem sp_mshelf {d : Nat} (hd : 3 < d) {R : Nat → Nat → Int32} {X : hk_D} {Q : hk_Q} {v w x : Int32} {P : hP} {G : hSt} {H : hSh} (M : hf_M 0 P R) (GM : hf_stM G R X) (S : hf_shM H R) (hQ : ∀ R', hf_shM (o_shelf P G H v w x).2 R' → hfs R R' → Q (some (.int (o_shelf P G H v w x).1)) (hw R' X)) : hk_call d mM_shelf [.ref 98, .int v, .int w, .int x] (hw R X) Q := by
  obtain ⟨d, rfl⟩ : ∃ e, d = e + 1 := ⟨d - 1, by omega⟩
  have n6 := M.2.2.2.2.2.1
  unfold o_shelf at hQ
  refine hk_run2 (hk_call_m d) 200 ?_
  refine sp_misShelf (by omega) (fun s hs es => ?_) (fun nn => ?_)
  · refine And.intro (fun c => absurd c (by decide)) (fun _ => ?_)
    rw [es, hxi_s hs (by omega)] at hQ
    dsimp only at hQ
    subst es
    have fin : ∀ y0 y1 y2 : Int32, ∀ h : Nat × Nat × Nat, (h.1 ≤ 2 ∧ h.2.1 < 6 ∧ h.2.2 ≤ 40 ∧ (h.1 = 2 → h.2.1 < 4)) → y0 = hf_hk h.1 → (h.1 ≠ 0 → y1 = nI h.2.1) → (h.1 = 2 → y2 = nI h.2.2) → hf_shM (hf_us H s h) (up2 (up2 (up2 R 121 s y0) 122 s y1) 123 s y2) ∧ hfs R (up2 (up2 (up2 R 121 s y0) 122 s y1) 123 s y2) := by
      intro y0 y1 y2 h b z0 z1 z2
      refine ⟨hf_shM_up S b (fun a k q => ?_) ?_ (fun q => ?_) (fun q => ?_), fun a k q => ?_⟩
      · rw [up2_n (by omega), up2_n (by omega), up2_n (by omega)]
      · rw [up2_a (by decide), up2_a (by decide), up2_s]; exact z0
      · rw [up2_a (by decide), up2_s]; exact z1 q
      · rw [up2_s]; exact z2 q
      · rw [up2_a (by omega), up2_a (by omega), up2_a (by omega)]
    refine sp_misHeld (by omega) M (fun w0 => ⟨fun j hj ej => ?_, fun nn => ?_⟩) (fun w1 => ⟨fun t ht et => ?_, fun nn => ?_⟩) (fun w2 => ?_) (fun w0 w1 w2 => ?_)
    · refine And.intro (fun c => absurd c (by decide)) (fun _ => ?_)
      subst w0; subst ej
      rw [if_pos rfl, hxi_s hj (by omega)] at hQ
      dsimp only at hQ
      refine And.intro (fun c => absurd c (by decide)) (fun _ => ?_)
      refine And.intro (fun c => absurd c (by decide)) (fun _ => ?_)
      refine w_st (t := 0) (j := s) (n := 4) rfl rfl hs (by omega) rfl rfl ?_
      refine And.intro (fun c => absurd c (by decide)) (fun _ => ?_)
      refine w_st (t := 0) (j := s) (n := 4) rfl rfl hs (by omega) rfl rfl ?_
      refine And.intro (fun c => absurd c (by decide)) (fun _ => ?_)
      refine w_st (t := 0) (j := s) (n := 4) rfl rfl hs (by omega) rfl rfl ?_
      obtain ⟨f1, f2⟩ := fin 0 (nI j) 0 (1, j, 0) ⟨by show 1 ≤ 2; omega, by show j < 6; omega, by show 0 ≤ 40; omega, fun q => absurd (show (1 : Nat) = 2 from q) (by decide)⟩ rfl (fun _ => rfl) (fun q => absurd (show (1 : Nat) = 2 from q) (by decide))
      exact hk_qe_of (hQ _ f1 f2)
    · refine And.intro (fun _ => ?_) (fun c => absurd rfl c)
      rw [if_pos w0, hxi_n (by omega) nn] at hQ
      exact hk_qe_of (hQ R S (fun _ _ _ => rfl))
    · refine And.intro (fun c => absurd c (by decide)) (fun _ => ?_)
      subst w1; subst et
      obtain ⟨g4, g40, gs, gz, -⟩ := GM t ht
      rw [if_neg (by decide), if_pos rfl, hxi_s ht (by omega)] at hQ
      dsimp only at hQ
      refine And.intro (fun c => absurd c (by decide)) (fun _ => ?_)
      refine And.intro (fun _ => ?_) (fun c => absurd rfl c)
      refine w_ld (j := t) (n := 4) rfl rfl ht (by omega) rfl gs ?_
      have rest : ∀ y0, y0 = hf_hk (hf_ro (G t)).1 → hf_shM (hf_us H s (hf_ro (G t))) (up2 (up2 (up2 R 121 s y0) 122 s (hf_so (G t).1)) 123 s (nI (G t).2.1)) ∧ hfs R (up2 (up2 (up2 R 121 s y0) 122 s (hf_so (G t).1)) 123 s (nI (G t).2.1)) := by
        intro y0 z0
        refine fin y0 _ _ _ ?_ z0 ?_ ?_
        · unfold hf_ro; split
          · exact ⟨by decide, by decide, by decide, fun q => absurd q (by decide)⟩
          · exact ⟨by show 2 ≤ 2; omega, by show (G t).1 - 1 < 6; omega, g40, fun _ => by show (G t).1 - 1 < 4; omega⟩
        · intro q
          by_cases z : (G t).1 = 0
          · unfold hf_ro at q; rw [if_pos z] at q; exact absurd rfl q
          · unfold hf_ro; rw [if_neg z, hf_so_s z]
        · intro q
          by_cases z : (G t).1 = 0
          · unfold hf_ro at q; rw [if_pos z] at q; exact absurd q (by decide)
          · unfold hf_ro; rw [if_neg z]
      refine And.intro (fun c => ?_) (fun c => ?_)
      · refine w_st (t := 0) (j := s) (n := 4) rfl rfl hs (by omega) rfl rfl ?_
        refine And.intro (fun _ => ?_) (fun c => absurd rfl c)
        refine w_ld (j := t) (n := 4) rfl rfl ht (by omega) rfl ((up2_a (by decide)).trans gs) ?_
        refine w_st (t := 0) (j := s) (n := 4) rfl rfl hs (by omega) rfl rfl ?_
        refine And.intro (fun _ => ?_) (fun c => absurd rfl c)
        refine w_ld (j := t) (n := 4) rfl rfl ht (by omega) rfl ((up2_a (by decide)).trans ((up2_a (by decide)).trans gz)) ?_
        refine w_st (t := 0) (j := s) (n := 4) rfl rfl hs (by omega) rfl rfl ?_
        have nz : ¬ (G t).1 = 0 := fun z => by rw [hf_so_0 z] at c; exact absurd c (by decide)
        obtain ⟨f1, f2⟩ := rest 1 (by unfold hf_ro; rw [if_neg nz]; rfl)
        exact hk_qe_of (hQ _ f1 f2)
      · refine w_st (t := 0) (j := s) (n := 4) rfl rfl hs (by omega) rfl rfl ?_
        refine And.intro (fun _ => ?_) (fun c => absurd rfl c)
        refine w_ld (j := t) (n := 4) rfl rfl ht (by omega) rfl ((up2_a (by decide)).trans gs) ?_
        refine w_st (t := 0) (j := s) (n := 4) rfl rfl hs (by omega) rfl rfl ?_
        refine And.intro (fun _ => ?_) (fun c => absurd rfl c)
        refine w_ld (j := t) (n := 4) rfl rfl ht (by omega) rfl ((up2_a (by decide)).trans ((up2_a (by decide)).trans gz)) ?_
        refine w_st (t := 0) (j := s) (n := 4) rfl rfl hs (by omega) rfl rfl ?_
        have nz : (G t).1 = 0 := Classical.byContradiction (fun z => c (by rw [hf_so_s z]; exact hn_pos (by omega)))
        obtain ⟨f1, f2⟩ := rest (-1) (by unfold hf_ro; rw [if_pos nz]; rfl)
        exact hk_qe_of (hQ _ f1 f2)
    · refine And.intro (fun _ => ?_) (fun c => absurd rfl c)
      subst w1
      rw [if_neg (by decide), if_pos rfl, hxi_n (by omega) nn] at hQ
      exact hk_qe_of (hQ R S (fun _ _ _ => rfl))
    · refine And.intro (fun c => absurd c (by decide)) (fun _ => ?_)
      subst w2
      rw [if_neg (by decide), if_neg (by decide), if_pos rfl] at hQ
      refine And.intro (fun _ => ?_) (fun c => absurd rfl c)
      refine w_st (t := 0) (j := s) (n := 4) rfl rfl hs (by omega) rfl rfl ?_
      refine And.intro (fun c => absurd c (by decide)) (fun _ => ?_)
      refine w_st (t := 0) (j := s) (n := 4) rfl rfl hs (by omega) rfl rfl ?_
      refine And.intro (fun c => absurd c (by decide)) (fun _ => ?_)
      refine w_st (t := 0) (j := s) (n := 4) rfl rfl hs (by omega) rfl rfl ?_
      obtain ⟨f1, f2⟩ := fin (-1) x 0 (0, 0, 0) ⟨by decide, by decide, by decide, fun q => absurd q (by decide)⟩ rfl (fun q => absurd rfl q) (fun q => absurd q (by decide))
      exact hk_qe_of (hQ _ f1 f2)
    · refine And.intro (fun _ => ?_) (fun c => absurd rfl c)
      rw [if_neg w0, if_neg w1, if_neg w2] at hQ
      exact hk_qe_of (hQ R S (fun _ _ _ => rfl))
  · refine And.intro (fun _ => ?_) (fun c => absurd rfl c)
    rw [hxi_n (by omega) nn] at hQ
    exact hk_qe_of (hQ R S (fun _ _ _ => rfl))
def a_taken (P : hP) (H : hSh) (v w : Int32) : Int32 := match hxi 4 v with
  | none => -1
  | some s => if (hxi 6 w).isSome = false ∧ (hxi 4 (w - 10)).isSome = false then -1 else
    if (H s).1 = 2 then (if w - 10 = nI (H s).2.1 then nI (H s).2.2 else -13) else
    if (H s).1 = 1 ∧ (H s).2.1 < P 3 0 then (if (hxi 6 w).isSome = true ∧ hf_und (P 7 (H s).2.1) w = true then nI (H s).2.1 else -13) else -11
theorem hn_10 {w : Int32} (h1 : ¬ w < 10) (h2 : ¬ 13 < w) : ∃ j, j < 4 ∧ w - 10 = nI j := by
  have c0 : ¬ w < 0 := fun q => h1 (by rw [hn_lt] at q ⊢; have : (0 : Int32).toInt = 0 := rfl; have : (10 : Int32).toInt = 10 := rfl; omega)
  obtain ⟨j, hj, e⟩ := hn_of (x := w) (n := 14) (by omega) c0 (fun q => h2 (by rw [hn_le, hn_i (by omega)] at q; rw [hn_lt]; have : (13 : Int32).toInt = 13 := rfl; omega))
  subst e
  have h10 : 10 ≤ j := Classical.byContradiction (fun z => h1 (by rw [hn_lt, hn_i (by omega)]; have : (10 : Int32).toInt = 10 := rfl; omega))
  refine ⟨j - 10, by omega, ?_⟩
  have e : nI j = nI (j - 10) + 10 := by
    rw [show (10 : Int32) = nI 10 from rfl, hn_add]; congr 1; omega
  rw [e, Int32.add_sub_cancel]
theorem hn_10' {w : Int32} (h : w < 10 ∨ 13 < w) : ∀ j, j < 4 → w - 10 ≠ nI j := by
  intro j hj e
  have ew : w = nI (j + 10) := by
    have : w - 10 + 10 = nI j + 10 := by rw [e]
    rw [Int32.sub_add_cancel] at this
    rw [this, show (10 : Int32) = nI 10 from rfl, hn_add]
  rw [ew] at h
  rcases h with h | h
  · rw [hn_lt, hn_i (by omega)] at h; have : (10 : Int32).toInt = 10 := rfl; omega
  · rw [hn_lt, hn_i (by omega)] at h; have : (13 : Int32).toInt = 13 := rfl; omega
theorem hn_w10 {w : Int32} {j : Nat} : w = 10 + nI j ↔ w - 10 = nI j := by
  constructor
  · intro h; rw [h, Int32.add_comm, Int32.add_sub_cancel]
  · intro h; rw [← h, Int32.add_comm, Int32.sub_add_cancel]
set_option maxHeartbeats 1000000 in
theorem sp_mtaken {d : Nat} (hd : 3 < d) {R : Nat → Nat → Int32} {X : hk_D} {Q : hk_Q} {v w : Int32} {P : hP} {H : hSh} (M : hf_M 0 P R) (S : hf_shM H R) (hQ : Q (some (.int (a_taken P H v w))) (hw R X)) : hk_call d mM_taken [.ref 98, .int v, .int w] (hw R X) Q := by
  obtain ⟨d, rfl⟩ : ∃ e, d = e + 1 := ⟨d - 1, by omega⟩
  have n6 := M.2.2.2.2.2.1
  unfold a_taken at hQ
  refine hk_run2 (hk_call_m d) 200 ?_
  refine sp_misShelf (by omega) (fun s hs es => ?_) (fun nn => ?_)
  · refine And.intro (fun c => absurd c (by decide)) (fun _ => ?_)
    rw [es, hxi_s hs (by omega)] at hQ
    dsimp only at hQ
    subst es
    obtain ⟨h2, h6, h40, h4, eh, en, ez⟩ := S s hs
    have body : ¬ ((hxi 6 w).isSome = false ∧ (hxi 4 (w - 10)).isSome = false) → ((hxi 6 w).isSome = true ↔ w < 10) → hk_wp (some .int) 0 0 hk_dft cM_taken (hk_call d) (hk_qe Q) 15 [(0, .ref 98), (1, .int (nI s)), (2, .int w)] [] (hw R X) 0 0 := by
      intro nb lt
      rw [if_neg nb] at hQ
      refine hk_run2 (hk_call_m d) 200 ?_
      refine sp_mkindOn (by omega) M S rfl hs ?_
      unfold hf_kon
      by_cases q0 : (H s).1 = 0
      · rw [if_pos q0]
        rw [if_neg (by omega), if_neg (by omega)] at hQ
        refine And.intro (fun c => absurd c (by decide)) (fun _ => ?_)
        exact hk_qe_of hQ
      · rw [if_neg q0]
        by_cases q2 : (H s).1 = 2
        · rw [if_pos q2]
          rw [if_pos q2] at hQ
          refine And.intro (fun _ => ?_) (fun c => absurd (by decide) c)
          refine And.intro (fun _ => ?_) (fun c => absurd rfl c)
          refine w_ld (j := s) (n := 4) rfl rfl hs (by omega) rfl (en q0) ?_
          refine And.intro (fun c => ?_) (fun c => ?_)
          · rw [if_pos (hn_w10.mp c)] at hQ
            refine w_ld (j := s) (n := 4) rfl rfl hs (by omega) rfl (ez q2) ?_
            exact hk_qe_of hQ
          · rw [if_neg (fun z => c (hn_w10.mpr z))] at hQ
            exact hk_qe_of hQ
        · rw [if_neg q2]
          rw [if_neg q2] at hQ
          by_cases q3 : (H s).2.1 < P 3 0
          · rw [if_pos q3]
            rw [if_pos ⟨by omega, q3⟩] at hQ
            have k6 := (hf_M_h M _ q3).2.2.1
            rw [show hf_bI (P 7 (H s).2.1) = nI (P 7 (H s).2.1) from if_neg (by omega)]
            refine And.intro (fun _ => ?_) (fun c => absurd (hn_pos (by omega)) c)
            refine And.intro (fun c => absurd ((nI_eq (b := 9) (by omega) (by omega)).mp c) (by omega)) (fun _ => ?_)
            refine And.intro (fun c => ?_) (fun c => ?_)
            · rw [if_neg (fun z => absurd (lt.mp z.1) (by rw [hn_lt]; rw [hn_le] at c; omega))] at hQ
              exact hk_qe_of hQ
            · have w10 : w < 10 := by rw [hn_lt]; rw [hn_le] at c; omega
              refine sp_misUnder (by omega) rfl k6 (fun u => ?_) (fun u => ?_)
              · refine And.intro (fun c => absurd c (by decide)) (fun _ => ?_)
                rw [if_pos ⟨lt.mpr w10, u⟩] at hQ
                refine w_ld (j := s) (n := 4) rfl rfl hs (by omega) rfl (en q0) ?_
                exact hk_qe_of hQ
              · refine And.intro (fun _ => ?_) (fun c => absurd rfl c)
                rw [if_neg (fun z => by rw [u] at z; exact absurd z.2 (by decide))] at hQ
                exact hk_qe_of hQ
          · rw [if_neg q3]
            rw [if_neg (fun z => q3 z.2)] at hQ
            refine And.intro (fun c => absurd c (by decide)) (fun _ => ?_)
            exact hk_qe_of hQ
    refine sp_in (by omega) (n := 6) (by omega) (by decide) (fun j hj ej => ?_) (fun nn => ?_)
    · refine And.intro (fun c => absurd c (by decide)) (fun _ => ?_)
      have e6 := hxi_s hj (show 6 ≤ 100000 by omega)
      refine hk_stop2 (hk_call_m d) (body (fun z => ?_) ⟨fun _ => ?_, fun _ => ?_⟩)
      · rw [ej, e6] at z; exact absurd (show true = false from z.1) (by decide)
      · rw [ej, hn_lt, hn_i (by omega)]; have : (10 : Int32).toInt = 10 := rfl; omega
      · rw [ej, e6]; rfl
    · refine And.intro (fun _ => ?_) (fun c => absurd rfl c)
      have e6 : (hxi 6 w).isSome = false := by rw [hxi_n (by omega) nn]; rfl
      refine sp_inR (by omega) (fun g1 g2 => ?_) (fun g => ?_)
      · refine And.intro (fun c => absurd c (by decide)) (fun _ => ?_)
        obtain ⟨j, hj, ej⟩ := hn_10 g1 g2
        refine hk_stop2 (hk_call_m d) (body (fun z => ?_) ⟨fun z => ?_, fun z => absurd z g1⟩)
        · rw [ej, hxi_s hj (by omega)] at z; exact absurd (show true = false from z.2) (by decide)
        · rw [e6] at z; exact absurd z (by decide)
      · refine And.intro (fun _ => ?_) (fun c => absurd rfl c)
        rw [if_pos ⟨e6, by rw [hxi_n (by omega) (hn_10' g)]; rfl⟩] at hQ
        exact hk_qe_of hQ
  · refine And.intro (fun _ => ?_) (fun c => absurd rfl c)
    rw [hxi_n (by omega) nn] at hQ
    exact hk_qe_of hQ
def hf_ac (c k : Nat) (n a x : Int32) : Int32 × List Int32 := match c with
  | 0 => hh k n x
  | 1 => ff k k n a x
  | 2 => ss k k n a x
  | _ => tt k k n a x
def a_act (P : hP) (H : hSh) (v w x : Int32) : Int32 × List Int32 := match hxi 4 v with
  | none => (0, [])
  | some s => match hxi 4 w with
    | none => (0, [])
    | some c => if (H s).1 = 1 ∧ (H s).2.1 < P 3 0 then
        (if hps c (P 7 (H s).2.1) (nI (H s).2.1) (nI (P 8 (H s).2.1)) = 1 then -15 else (hf_ac c (P 7 (H s).2.1) (nI (H s).2.1) (nI (P 8 (H s).2.1)) x).1, (hf_ac c (P 7 (H s).2.1) (nI (H s).2.1) (nI (P 8 (H s).2.1)) x).2)
      else (0, [])
def hfx (R R' : Nat → Nat → Int32) : Prop := ∀ a j, ¬ a = 124 → ¬ (a = 98 ∧ (41 ≤ j ∧ j ≤ 46)) → R' a j = R a j
theorem hfx_b {R R' : Nat → Nat → Int32} (h : hfb R R') : hfx R R' := fun a k q1 q2 => h a k q1 (by omega)
theorem hfx_tr {R R1 R2 : Nat → Nat → Int32} (h1 : hfx R R1) (h2 : hfx R1 R2) : hfx R R2 := fun a k q1 q2 => (h2 a k q1 q2).trans (h1 a k q1 q2)
theorem hf_shM_f {H : hSh} {R R' : Nat → Nat → Int32} (S : hf_shM H R) (f : ∀ a k, a = 121 ∨ a = 122 ∨ a = 123 → R' a k = R a k) : hf_shM H R' := by
  intro s hs
  rw [f 121 s (by omega), f 122 s (by omega), f 123 s (by omega)]
  exact S s hs
set_option maxHeartbeats 1000000 in
theorem sp_mact {d : Nat} (hd : 8 < d) {R0 : Nat → Nat → Int32} {X : hk_D} {Q : hk_Q} {v w x : Int32} {P : hP} {H : hSh} (M0 : hf_M 0 P R0) (S0 : hf_shM H R0) (hQ : ∀ R', hTM (a_act P H v w x).2 R' → hfx R0 R' → Q (some (.int (a_act P H v w x).1)) (hw R' X)) : hk_call d mM_act [.ref 98, .int v, .int w, .int x] (hw R0 X) Q := by
  obtain ⟨d, rfl⟩ : ∃ e, d = e + 1 := ⟨d - 1, by omega⟩
  have n6 := M0.2.2.2.2.2.1
  unfold a_act at hQ
  refine hk_run2 (hk_call_m d) 200 ?_
  refine w_put trivial rfl rfl ?_
  have fr0 : hfx R0 (up2 R0 98 45 0) := fun a j q1 q2 => up2_n (by omega)
  have T : hTM [] (up2 R0 98 45 0) := hf_tr_0 (up2_s _ _ _ _)
  have M : hf_M 0 P (up2 R0 98 45 0) := hf_M_eq M0 (fun a k q => up2_n (by omega))
  have S : hf_shM H (up2 R0 98 45 0) := hf_shM_f S0 (fun a k q => up2_a (by omega))
  generalize up2 R0 98 45 0 = R at fr0 T M S ⊢
  refine sp_misShelf (by omega) (fun s hs es => ?_) (fun nn => ?_)
  · refine And.intro (fun c => absurd c (by decide)) (fun _ => ?_)
    rw [es, hxi_s hs (by omega)] at hQ
    dsimp only at hQ
    subst es
    obtain ⟨h2, h6, h40, h4, eh, en, ez⟩ := S s hs
    refine sp_mkindOn (by omega) M S rfl hs ?_
    refine sp_in (by omega) (n := 4) (by omega) (by decide) (fun c hc ec => ?_) (fun nn => ?_)
    · refine And.intro (fun c => absurd c (by decide)) (fun _ => ?_)
      rw [ec, hxi_s hc (by omega)] at hQ
      dsimp only at hQ
      subst ec
      by_cases q : (H s).1 = 1 ∧ (H s).2.1 < P 3 0
      · rw [if_pos q] at hQ
        have hk := (hf_M_h M _ q.2).2.2
        have mh := (hf_M_h M _ q.2).1
        rw [show hf_kon P (H s) = P 7 (H s).2.1 by unfold hf_kon; rw [if_neg (by omega), if_neg (by omega), if_pos q.2], show hf_bI (P 7 (H s).2.1) = nI (P 7 (H s).2.1) from if_neg (by omega)]
        refine sp_in (by omega) (n := 6) (by omega) (by decide) (fun j hj ej => ?_) (fun nn => absurd rfl (nn _ hk.1))
        refine And.intro (fun c => absurd c (by decide)) (fun _ => ?_)
        have enn := en (by omega)
        refine w_put trivial rfl rfl ?_
        refine w_ld (j := s) (n := 4) rfl rfl hs (by omega) rfl ((up2_a (by decide)).trans enn) ?_
        refine w_put trivial rfl rfl ?_
        refine w_ld (j := (H s).2.1) (n := 6) (up2_s _ _ _ _) rfl (by omega) (by omega) rfl ((up2_a (by decide)).trans ((up2_a (by decide)).trans mh.2.1)) ?_
        refine w_put trivial rfl rfl ?_
        refine w_put (by decide) rfl rfl ?_
        have E : hfe (P 7 (H s).2.1) (nI (H s).2.1) (nI (P 8 (H s).2.1)) (up2 (up2 (up2 (up2 R 98 41 (nI (P 7 (H s).2.1))) 98 42 (nI (H s).2.1)) 98 43 (nI (P 8 (H s).2.1))) 98 46 0) := by
          refine ⟨?_, ?_, ?_, hk.1⟩
          · rw [up2_k (by decide), up2_k (by decide), up2_k (by decide), up2_s]
          · rw [up2_k (by decide), up2_k (by decide), up2_s]
          · rw [up2_k (by decide), up2_s]
        have T2 := hf_tr_f (R' := up2 (up2 (up2 (up2 R 98 41 (nI (P 7 (H s).2.1))) 98 42 (nI (H s).2.1)) 98 43 (nI (P 8 (H s).2.1))) 98 46 0) T (by rw [up2_k (by decide), up2_k (by decide), up2_k (by decide), up2_k (by decide)]) (fun i => by rw [up2_a (by decide), up2_a (by decide), up2_a (by decide), up2_a (by decide)])
        have fr1 : hfx R0 (up2 (up2 (up2 (up2 R 98 41 (nI (P 7 (H s).2.1))) 98 42 (nI (H s).2.1)) 98 43 (nI (P 8 (H s).2.1))) 98 46 0) := hfx_tr fr0 (fun a j q1 q2 => by rw [up2_n (by omega), up2_n (by omega), up2_n (by omega), up2_n (by omega)])
        have z46 := up2_s (up2 (up2 (up2 R 98 41 (nI (P 7 (H s).2.1))) 98 42 (nI (H s).2.1)) 98 43 (nI (P 8 (H s).2.1))) 98 46 0
        generalize up2 (up2 (up2 (up2 R 98 41 (nI (P 7 (H s).2.1))) 98 42 (nI (H s).2.1)) 98 43 (nI (P 8 (H s).2.1))) 98 46 0 = R2 at E T2 fr1 z46 ⊢
        generalize P 7 (H s).2.1 = k at *
        generalize nI (P 8 (H s).2.1) = a at *
        have fin : ∀ (y : Int32) (R3 : Nat → Nat → Int32), hTM (hf_ac c k (nI (H s).2.1) a x).2 R3 → hfx R0 R3 → R3 98 46 = hps c k (nI (H s).2.1) a → y = (hf_ac c k (nI (H s).2.1) a x).1 → (R3 98 46 = 0 → hk_qe Q (some (.int y)) (hw R3 X)) ∧ (¬ R3 98 46 = 0 → hk_qe Q (some (.int (-15))) (hw R3 X)) := by
          intro y R3 T3 f3 p3 ey
          refine ⟨fun z => ?_, fun z => ?_⟩
          · rw [p3] at z
            rw [if_neg (by rw [z]; decide)] at hQ
            rw [ey]
            exact hk_qe_of (hQ R3 T3 f3)
          · rw [p3] at z
            have : hps c k (nI (H s).2.1) a = 1 := by
              unfold hps at z ⊢
              by_cases y : (c = 2 ∨ (c = 3 ∧ (k = 2 ∨ k = 4))) ∧ a = nI (H s).2.1
              · rw [if_pos y]
              · rw [if_neg y] at z; exact absurd rfl z
            rw [if_pos this] at hQ
            exact hk_qe_of (hQ R3 T3 f3)
        have hc4 : c = 0 ∨ c = 1 ∨ c = 2 ∨ c = 3 := by omega
        rcases hc4 with e | e | e | e
        · subst e
          refine And.intro (fun _ => ?_) (fun c => absurd rfl c)
          refine sp_mholdsIt (by omega) rfl T2 E (by decide) (fun R3 T3 f3 => ?_)
          obtain ⟨g0, g1⟩ := fin _ R3 T3 (hfx_tr fr1 (hfx_b (hfb_a f3))) (by rw [f3 98 46 (by decide) (by decide), z46]; unfold hps; rw [if_neg (by omega)]) rfl
          exact And.intro (fun z => g0 z) (fun z => g1 z)
        · subst e
          refine And.intro (fun c => absurd c (by decide)) (fun _ => ?_)
          refine And.intro (fun _ => ?_) (fun c => absurd rfl c)
          refine sp_mfliesIt (by omega) T2 E (by decide) (fun R3 T3 f3 => ?_)
          obtain ⟨g0, g1⟩ := fin _ R3 T3 (hfx_tr fr1 (hfx_b (hfb_a f3))) (by rw [f3 98 46 (by decide) (by decide), z46]; unfold hps; rw [if_neg (by omega)]) rfl
          exact And.intro (fun z => g0 z) (fun z => g1 z)
        · subst e
          refine And.intro (fun c => absurd c (by decide)) (fun _ => ?_)
          refine And.intro (fun c => absurd c (by decide)) (fun _ => ?_)
          refine And.intro (fun _ => ?_) (fun c => absurd rfl c)
          refine sp_msharesIt (by omega) rfl T2 E z46 (by decide) (fun R3 T3 f3 p3 => ?_)
          obtain ⟨g0, g1⟩ := fin _ R3 T3 (hfx_tr fr1 (hfx_b f3)) (by rw [p3]; unfold hpt hps; simp) rfl
          exact And.intro (fun z => g0 z) (fun z => g1 z)
        · subst e
          refine And.intro (fun c => absurd c (by decide)) (fun _ => ?_)
          refine And.intro (fun c => absurd c (by decide)) (fun _ => ?_)
          refine And.intro (fun c => absurd c (by decide)) (fun _ => ?_)
          refine sp_mtellsIt (by omega) T2 E z46 (by decide) (fun R3 T3 f3 p3 => ?_)
          obtain ⟨g0, g1⟩ := fin _ R3 T3 (hfx_tr fr1 (hfx_b f3)) p3 rfl
          exact And.intro (fun z => g0 z) (fun z => g1 z)
      · rw [if_neg q] at hQ
        have kk : hf_kon P (H s) = 99 ∨ hf_kon P (H s) = 9 := by
          unfold hf_kon
          by_cases q0 : (H s).1 = 0
          · rw [if_pos q0]; exact Or.inl rfl
          · rw [if_neg q0]
            by_cases q2 : (H s).1 = 2
            · rw [if_pos q2]; exact Or.inr rfl
            · rw [if_neg q2, if_neg (fun z => q ⟨by omega, z⟩)]; exact Or.inl rfl
        refine sp_in (by omega) (n := 6) (by omega) (by decide) (fun j hj ej => ?_) (fun nn => ?_)
        · rcases kk with z | z
          · rw [z] at ej
            exact absurd (show (0 : Int32) ≤ hf_bI 99 by rw [ej]; exact hn_pos (by omega)) (by decide)
          · rw [z] at ej
            exact absurd ((nI_eq (a := 9) (by omega) (by omega)).mp ej) (by omega)
        · refine And.intro (fun _ => ?_) (fun c => absurd rfl c)
          exact hk_qe_of (hQ R T fr0)
    · refine And.intro (fun _ => ?_) (fun c => absurd rfl c)
      rw [hxi_n (by omega) nn] at hQ
      exact hk_qe_of (hQ R T fr0)
  · refine And.intro (fun _ => ?_) (fun c => absurd rfl c)
    rw [hxi_n (by omega) nn] at hQ
    dsimp only at hQ
    refine sp_in (by omega) (n := 4) (by omega) (by decide) (fun c hc ec => ?_) (fun nn => ?_)
    · refine And.intro (fun c => absurd c (by decide)) (fun _ => ?_)
      refine sp_in (by omega) (n := 6) (by omega) (by decide) (fun j hj ej => absurd (show (0 : Int32) ≤ -1 by rw [ej]; exact hn_pos (by omega)) (by decide)) (fun nn => ?_)
      refine And.intro (fun _ => ?_) (fun c => absurd rfl c)
      exact hk_qe_of (hQ R T fr0)
    · refine And.intro (fun _ => ?_) (fun c => absurd rfl c)
      exact hk_qe_of (hQ R T fr0)
