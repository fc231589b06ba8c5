/-! THE REFERENCE: sheets -/
theorem hn_in {v : Int32} {n : Nat} (hn : n < 100000) (h0 : ¬ v < 0) (h1 : ¬ nI n < v) : ∃ j, j < n + 1 ∧ v = nI j :=
  hn_of (x := v) (n := n + 1) (by omega) h0 (fun q => h1 (by rw [hn_le, hn_i (by omega)] at q; rw [hn_lt, hn_i (by omega)]; omega))
theorem hn_out {v : Int32} {n j : Nat} (hn : n ≤ 100000) (h : v < 0 ∨ nI n < v) (hj : j < n + 1) : v ≠ nI j := by
  intro e
  rw [e] at h
  rcases h with h | h
  · exact absurd h (hn_npos (by omega))
  · rw [hn_lt, hn_i (by omega), hn_i (by omega)] at h; omega
theorem hn_40 (s k : Nat) : (40 : Int32) * nI s + nI k = nI (40 * s + k) := by
  rw [show (40 : Int32) * nI s = nI (40 * s) from hn_mul 40 s, hn_add]
def hxl (X X' : hk_D) : Prop := X'.1 = X.1 ∧ X'.2.2 = X.2.2
theorem hf_stM_f {G : hSt} {R R' : Nat → Nat → Int32} {X X' : hk_D} (S : hf_stM G R X) (f : ∀ a k, a = 118 ∨ a = 119 → R' a k = R a k) (x : ∀ j, X'.2.1 j = X.2.1 j) : hf_stM G R' X' := by
  intro s hs
  obtain ⟨z1, z2, z3, z4, z5⟩ := S s hs
  exact ⟨z1, z2, (f 118 s (by omega)).trans z3, (f 119 s (by omega)).trans z4, fun k hk => (x _).trans (z5 k hk)⟩
theorem hf_stM_up {G : hSt} {R R' : Nat → Nat → Int32} {X X' : hk_D} {s : Nat} {g : Nat × Nat × (Nat → Int32)} (S : hf_stM G R X) (hs : s < 4) (b : g.1 ≤ 4 ∧ g.2.1 ≤ 40) (f : ∀ a k, (a = 118 ∨ a = 119) → k ≠ s → R' a k = R a k) (e1 : R' 118 s = hf_so g.1) (e2 : R' 119 s = nI g.2.1) (x : ∀ j, ¬ (40 * s ≤ j ∧ j < 40 * s + 40) → X'.2.1 j = X.2.1 j) (e3 : ∀ k, k < g.2.1 → X'.2.1 (40 * s + k) = (g.2.2 k).toInt64) : hf_stM (hf_us G s g) R' X' := by
  intro t ht
  by_cases q : t = s
  · subst q
    rw [hf_us_s]
    exact ⟨b.1, b.2, e1, e2, e3⟩
  · rw [hf_us_n q]
    obtain ⟨z1, z2, z3, z4, z5⟩ := S t ht
    exact ⟨z1, z2, (f 118 t (by omega) q).trans z3, (f 119 t (by omega) q).trans z4, fun k hk => (x _ (by omega)).trans (z5 k hk)⟩
theorem sp_mlacksSort {d : Nat} (hd : 0 < d) {R : Nat → Nat → Int32} {X : hk_D} {Q : hk_Q} {v w : Int32} {s : Nat} {G : hSt} (S : hf_stM G R X) (ev : v = nI s) (hs : s < 4) (hQ : Q (some (.int (if (G s).1 = 0 then -11 else if nI ((G s).1 - 1) = w then 0 else -13))) (hw R X)) : hk_call d mM_lacksSort [.ref 98, .int v, .int w] (hw R X) Q := by
  obtain ⟨d, rfl⟩ : ∃ e, d = e + 1 := ⟨d - 1, by omega⟩
  subst ev
  obtain ⟨z1, z2, z3, z4, z5⟩ := S s hs
  refine hk_run2 (hk_call_m d) 100 ?_
  refine w_ld (j := s) (n := 4) rfl rfl hs (by omega) rfl z3 ?_
  by_cases q : (G s).1 = 0
  · rw [if_pos q] at hQ
    rw [hf_so_0 q]
    refine And.intro (fun c => absurd c (by decide)) (fun _ => ?_)
    exact hk_qe_of hQ
  · rw [if_neg q] at hQ
    refine And.intro (fun c => ?_) (fun c => absurd (by rw [hf_so_s q]; exact hn_pos (by omega)) c)
    refine w_ld (j := s) (n := 4) rfl rfl hs (by omega) rfl (z3.trans (hf_so_s q)) ?_
    refine And.intro (fun c => ?_) (fun c => ?_)
    · rw [if_pos c] at hQ
      exact hk_qe_of hQ
    · rw [if_neg c] at hQ
      exact hk_qe_of hQ
def o_sheet (G : hSt) (v w x : Int32) : Int32 × hSt := match hxi 4 v with
  | none => (-1, G)
  | some s => if w = -1 then (1, hf_us G s (0, 0, fun _ => 0)) else match hxi 4 w with
    | none => (-1, G)
    | some t => match hxi 41 x with
      | some m => (1, hf_us G s (t + 1, m, fun _ => 0))
      | none => if x < 0 then (-14, G) else (-1, G)
theorem hn_m1 {w : Int32} (h1 : ¬ w < -1) (h2 : w < 0) : w = -1 := by
  rw [hn_lt] at h1 h2
  refine Int32.toInt_inj.mp ?_
  have e1 : (-1 : Int32).toInt = -1 := rfl
  have e0 : (0 : Int32).toInt = 0 := rfl
  omega
def hfq (R R' : Nat → Nat → Int32) : Prop := ∀ a k, ¬ (a = 118 ∨ a = 119) → R' a k = R a k
set_option maxHeartbeats 1000000 in
theorem sp_msheet {d : Nat} (hd : 2 < d) {R : Nat → Nat → Int32} {X : hk_D} {Q : hk_Q} {v w x : Int32} {G : hSt} (S : hf_stM G R X) (hQ : ∀ R' X', hf_stM (o_sheet G v w x).2 R' X' → hfq R R' → hxl X X' → Q (some (.int (o_sheet G v w x).1)) (hw R' X')) : hk_call d mM_sheet [.ref 98, .int v, .int w, .int x] (hw R X) Q := by
  obtain ⟨d, rfl⟩ : ∃ e, d = e + 1 := ⟨d - 1, by omega⟩
  unfold o_sheet at hQ
  refine hk_run2 (hk_call_m d) 200 ?_
  refine sp_misShelf (by omega) (fun s hs es => ?_) (fun nn => ?_)
  · refine And.intro (fun c => absurd c (by decide)) (fun _ => ?_)
    rw [es, hxi_s hs (by omega)] at hQ
    dsimp only at hQ
    subst es
    have L : ∀ g : Nat × Nat × (Nat → Int32), g.1 ≤ 4 → g.2.1 ≤ 40 → (∀ k, g.2.2 k = 0) → (∀ R' X', hf_stM (hf_us G s g) R' X' → hfq R R' → hxl X X' → Q (some (.int 1)) (hw R' X')) → ∀ j, j ≤ 40 → ∀ X', (∀ k, k < j → X'.2.1 (40 * s + k) = 0) → (∀ k, ¬ (40 * s ≤ k ∧ k < 40 * s + 40) → X'.2.1 k = X.2.1 k) → hxl X X' → hk_wp (some .int) 0 0 hk_dft cM_sheet (hk_call d) (hk_qe Q) 37 [(4, .int (nI j)), (0, .ref 98), (1, .int (nI s)), (2, .int w), (3, .int x)] [] (hw (up2 (up2 R 118 s (hf_so g.1)) 119 s (nI g.2.1)) X') 0 0 := by
      intro g g4 g40 g0 hQ
      refine hk_for ?_ ?_
      · intro X' x1 x2 x3
        refine hk_run2 (hk_call_m d) 100 ?_
        refine And.intro (fun c => ?_) (fun c => absurd (by decide) c)
        refine hk_qe_of (hQ _ X' (hf_stM_up S hs ⟨g4, g40⟩ (fun a k q1 q2 => ?_) ?_ (up2_s _ _ _ _) x2 (fun k hk => ?_)) (fun a k q => ?_) x3)
        · rw [up2_k q2, up2_k q2]
        · rw [up2_a (by decide), up2_s]
        · rw [g0 k, x1 k (by omega)]; rfl
        · rw [up2_a (by omega), up2_a (by omega)]
      · intro j hj ih X' x1 x2 x3
        refine hk_run2 (hk_call_m d) 100 ?_
        refine And.intro (fun c => absurd c (show ¬ nI 40 ≤ nI j from nI_ge hj (by omega))) (fun c => ?_)
        refine w_stl (j := 40 * s + j) (hn_40 s j) (by omega) ?_
        refine Exists.intro [0, 1, 2, 3, 4] ?_
        rw [nI_1]
        refine hk_stop2 (hk_call_m d) (ih _ (fun k hk => ?_) (fun k hk => ?_) x3)
        · show (if 40 * s + k = 40 * s + j then (0 : Int64) else X'.2.1 (40 * s + k)) = 0
          by_cases e : k = j
          · rw [if_pos (by omega)]
          · rw [if_neg (by omega)]; exact x1 k (by omega)
        · show (if k = 40 * s + j then (0 : Int64) else X'.2.1 k) = X.2.1 k
          rw [if_neg (by omega)]; exact x2 k hk
    refine sp_inR (by omega) (fun g1 g2 => ?_) (fun g => ?_)
    · refine And.intro (fun c => absurd c (by decide)) (fun _ => ?_)
      refine And.intro (fun c => ?_) (fun c => ?_)
      · have ew := hn_m1 g1 c
        rw [if_pos ew] at hQ
        refine And.intro (fun _ => ?_) (fun c2 => absurd c c2)
        refine w_st (t := 0) (j := s) (n := 4) rfl rfl hs (by omega) rfl rfl ?_
        refine And.intro (fun c2 => absurd c2 (by rw [ew]; decide)) (fun _ => ?_)
        refine hk_stop2 (hk_call_m d) (hk_run2 (hk_call_m d) 5 ?_)
        refine w_st (t := 0) (j := s) (n := 4) rfl rfl hs (by omega) rfl rfl ?_
        have l0 := L (0, 0, fun _ => 0) (Nat.zero_le _) (Nat.zero_le _) (fun _ => rfl) hQ 0 (Nat.zero_le _) X (fun k hk => absurd hk (Nat.not_lt_zero k)) (fun _ _ => rfl) ⟨rfl, rfl⟩
        rw [show hf_so (0, 0, fun _ : Nat => (0 : Int32)).1 = w from ew.symm] at l0
        exact l0
      · obtain ⟨t, ht, et⟩ := hn_in (v := w) (n := 3) (by omega) c g2
        have nm : ¬ w = -1 := fun z => c (by rw [z]; decide)
        rw [if_neg nm, et, hxi_s ht (by omega)] at hQ
        dsimp only at hQ
        refine And.intro (fun c2 => ?_) (fun c2 => ?_)
        · refine And.intro (fun c3 => absurd c3 c) (fun _ => ?_)
          refine And.intro (fun c3 => ?_) (fun c3 => ?_)
          · obtain ⟨m, hm, em⟩ := hn_in (v := x) (n := 40) (by omega) (fun z => by rw [hn_lt] at z; rw [hn_le] at c3; omega) (fun z => by rw [hn_lt] at z; rw [hn_le] at c2; have : (nI 40).toInt = (40 : Int32).toInt := rfl; omega)
            rw [em, hxi_s hm (by omega)] at hQ
            dsimp only at hQ
            refine w_st (t := 0) (j := s) (n := 4) rfl rfl hs (by omega) rfl rfl ?_
            refine And.intro (fun _ => ?_) (fun c4 => absurd (by rw [et]; exact hn_pos (by omega)) c4)
            refine hk_stop2 (hk_call_m d) (hk_run2 (hk_call_m d) 4 ?_)
            refine w_st (t := 0) (j := s) (n := 4) rfl rfl hs (by omega) rfl rfl ?_
            have l0 := L (t + 1, m, fun _ => 0) (by show t + 1 ≤ 4; omega) (by show m ≤ 40; omega) (fun _ => rfl) hQ 0 (Nat.zero_le _) X (fun k hk => absurd hk (Nat.not_lt_zero k)) (fun _ _ => rfl) ⟨rfl, rfl⟩
            rw [show hf_so (t + 1, m, fun _ : Nat => (0 : Int32)).1 = w by rw [et]; exact hf_so_s (Nat.succ_ne_zero t)] at l0
            rw [show nI (t + 1, m, fun _ : Nat => (0 : Int32)).2.1 = x from em.symm] at l0
            exact l0
          · have x0 : x < 0 := by rw [hn_lt]; rw [hn_le] at c3; omega
            rw [hxi_n (by omega) (fun j hj => hn_out (n := 40) (by omega) (Or.inl x0) hj)] at hQ
            dsimp only at hQ
            rw [if_pos x0] at hQ
            exact hk_qe_of (hQ R X S (fun _ _ _ => rfl) ⟨rfl, rfl⟩)
        · have x40 : nI 40 < x := by rw [hn_lt]; rw [hn_le] at c2; have : (nI 40).toInt = (40 : Int32).toInt := rfl; omega
          have x0 : ¬ x < 0 := fun z => by rw [hn_lt] at z x40; have : (nI 40).toInt = 40 := rfl; have : (0 : Int32).toInt = 0 := rfl; omega
          rw [hxi_n (by omega) (fun j hj => hn_out (n := 40) (by omega) (Or.inr x40) hj)] at hQ
          dsimp only at hQ
          rw [if_neg x0] at hQ
          exact hk_qe_of (hQ R X S (fun _ _ _ => rfl) ⟨rfl, rfl⟩)
    · refine And.intro (fun _ => ?_) (fun c => absurd rfl c)
      have nm : ¬ w = -1 := fun z => by
        rw [z] at g
        rcases g with g | g
        · exact absurd g (by decide)
        · exact absurd g (by decide)
      rw [if_neg nm, hxi_n (by omega) (fun j hj => hn_out (n := 3) (by omega) (by
        rcases g with g | g
        · left; rw [hn_lt] at g ⊢; have : (-1 : Int32).toInt = -1 := rfl; have : (0 : Int32).toInt = 0 := rfl; omega
        · right; exact g) hj)] at hQ
      exact hk_qe_of (hQ R X S (fun _ _ _ => rfl) ⟨rfl, rfl⟩)
  · refine And.intro (fun _ => ?_) (fun c => absurd rfl c)
    rw [hxi_n (by omega) nn] at hQ
    exact hk_qe_of (hQ R X S (fun _ _ _ => rfl) ⟨rfl, rfl⟩)
def hf_nar (t : Nat) (x : Int32) : Int32 := if t = 1 then x.toInt8.toInt32 else if t = 2 then x.toInt16.toInt32 else x
def o_put (G : hSt) (v i x : Int32) : Int32 × hSt := match hxi 4 v with
  | none => (-1, G)
  | some s => if (G s).1 = 0 then (-11, G) else match hxi (G s).2.1 i with
    | none => (-12, G)
    | some k => (1, hf_us G s ((G s).1, (G s).2.1, hf_us (G s).2.2 k (hf_nar (G s).1 x)))
set_option maxHeartbeats 1000000 in
theorem sp_mput {d : Nat} (hd : 2 < d) {R : Nat → Nat → Int32} {X : hk_D} {Q : hk_Q} {v i x : Int32} {G : hSt} (S : hf_stM G R X) (hQ : ∀ X', hf_stM (o_put G v i x).2 R X' → hxl X X' → Q (some (.int (o_put G v i x).1)) (hw R X')) : hk_call d mM_put [.ref 98, .int v, .int i, .int x] (hw R X) Q := by
  obtain ⟨d, rfl⟩ : ∃ e, d = e + 1 := ⟨d - 1, by omega⟩
  unfold o_put at hQ
  refine hk_run2 (hk_call_m d) 200 ?_
  refine sp_misShelf (by omega) (fun s hs es => ?_) (fun nn => ?_)
  · refine And.intro (fun c => absurd c (by decide)) (fun _ => ?_)
    rw [es, hxi_s hs (by omega)] at hQ
    dsimp only at hQ
    subst es
    obtain ⟨z1, z2, z3, z4, z5⟩ := S s hs
    refine w_ld (j := s) (n := 4) rfl rfl hs (by omega) rfl z3 ?_
    by_cases q : (G s).1 = 0
    · rw [if_pos q] at hQ
      rw [hf_so_0 q]
      refine And.intro (fun c => absurd c (by decide)) (fun _ => ?_)
      exact hk_qe_of (hQ X S ⟨rfl, rfl⟩)
    · rw [if_neg q] at hQ
      rw [hf_so_s q] at z3 ⊢
      refine And.intro (fun _ => ?_) (fun c => absurd (hn_pos (by omega)) c)
      refine w_ld (j := s) (n := 4) rfl rfl hs (by omega) rfl z4 ?_
      refine sp_in (by omega) (n := (G s).2.1) (by omega) rfl (fun k hk ek => ?_) (fun nn => ?_)
      · refine And.intro (fun c => absurd c (by decide)) (fun _ => ?_)
        rw [ek, hxi_s hk (by omega)] at hQ
        dsimp only at hQ
        subst ek
        have fin : ∀ y : Int32, y = hf_nar (G s).1 x → hf_stM (hf_us G s ((G s).1, (G s).2.1, hf_us (G s).2.2 k (hf_nar (G s).1 x))) R (xL X (40 * s + k) y.toInt64) := by
          intro y ey
          refine hf_stM_up S hs ⟨z1, z2⟩ (fun _ _ _ _ => rfl) (by rw [hf_so_s q]; exact z3) z4 (fun j hj => ?_) (fun j hj => ?_)
          · show (if j = 40 * s + k then y.toInt64 else X.2.1 j) = X.2.1 j
            rw [if_neg (by omega)]
          · show (if 40 * s + j = 40 * s + k then y.toInt64 else X.2.1 (40 * s + j)) = (hf_us (G s).2.2 k (hf_nar (G s).1 x) j).toInt64
            by_cases e : j = k
            · rw [if_pos (by omega), e, hf_us_s, ey]
            · rw [if_neg (by omega), hf_us_n e]; exact z5 j hj
        refine w_ld (j := s) (n := 4) rfl rfl hs (by omega) rfl z3 ?_
        refine And.intro (fun c => ?_) (fun c => ?_)
        · have t1 : (G s).1 = 1 := by have := (nI_eq (b := 0) (by omega) (by omega)).mp c; omega
          refine w_stl (j := 40 * s + k) (hn_40 s k) (by omega) ?_
          exact hk_qe_of (hQ _ (fin _ (by unfold hf_nar; rw [if_pos t1])) ⟨rfl, rfl⟩)
        · have t1 : ¬ (G s).1 = 1 := fun y => c (by rw [y]; rfl)
          refine w_ld (j := s) (n := 4) rfl rfl hs (by omega) rfl z3 ?_
          refine And.intro (fun c2 => ?_) (fun c2 => ?_)
          · have t2 : (G s).1 = 2 := by have := (nI_eq (b := 1) (by omega) (by omega)).mp c2; omega
            refine w_stl (j := 40 * s + k) (hn_40 s k) (by omega) ?_
            exact hk_qe_of (hQ _ (fin _ (by unfold hf_nar; rw [if_neg t1, if_pos t2])) ⟨rfl, rfl⟩)
          · have t2 : ¬ (G s).1 = 2 := fun y => c2 (by rw [y]; rfl)
            refine w_stl (j := 40 * s + k) (hn_40 s k) (by omega) ?_
            exact hk_qe_of (hQ _ (fin _ (by unfold hf_nar; rw [if_neg t1, if_neg t2])) ⟨rfl, rfl⟩)
      · refine And.intro (fun _ => ?_) (fun c => absurd rfl c)
        rw [hxi_n (by omega) nn] at hQ
        exact hk_qe_of (hQ X S ⟨rfl, rfl⟩)
  · refine And.intro (fun _ => ?_) (fun c => absurd rfl c)
    rw [hxi_n (by omega) nn] at hQ
    exact hk_qe_of (hQ X S ⟨rfl, rfl⟩)
def a_item (G : hSt) (v w i : Int32) : Int32 := match hxi 4 v with
  | none => -1
  | some s => match hxi 4 w with
    | none => -1
    | some t => if (G s).1 = 0 then -11 else if (G s).1 = t + 1 then (match hxi (G s).2.1 i with
        | none => -12
        | some k => (G s).2.2 k) else -13
set_option maxHeartbeats 400000 in
theorem sp_mitem {d : Nat} (hd : 2 < d) {R : Nat → Nat → Int32} {X : hk_D} {Q : hk_Q} {v w i : Int32} {G : hSt} (S : hf_stM G R X) (hQ : Q (some (.int (a_item G v w i))) (hw R X)) : hk_call d mM_item [.ref 98, .int v, .int w, .int i] (hw R X) Q := by
  obtain ⟨d, rfl⟩ : ∃ e, d = e + 1 := ⟨d - 1, by omega⟩
  unfold a_item at hQ
  refine hk_run2 (hk_call_m d) 200 ?_
  refine sp_misShelf (by omega) (fun s hs es => ?_) (fun nn => ?_)
  · refine And.intro (fun c => absurd c (by decide)) (fun _ => ?_)
    rw [es, hxi_s hs (by omega)] at hQ
    dsimp only at hQ
    subst es
    refine sp_in (by omega) (n := 4) (by omega) (by decide) (fun t ht et => ?_) (fun nn => ?_)
    · refine And.intro (fun c => absurd c (by decide)) (fun _ => ?_)
      rw [et, hxi_s ht (by omega)] at hQ
      dsimp only at hQ
      subst et
      obtain ⟨z1, z2, z3, z4, z5⟩ := S s hs
      refine sp_mlacksSort (by omega) S rfl hs ?_
      by_cases q : (G s).1 = 0
      · rw [if_pos q] at hQ
        rw [if_pos q]
        refine And.intro (fun c => absurd c (by decide)) (fun _ => ?_)
        exact hk_qe_of hQ
      · rw [if_neg q] at hQ
        rw [if_neg q]
        by_cases q2 : (G s).1 = t + 1
        · rw [if_pos q2] at hQ
          rw [if_pos (by congr 1; omega)]
          refine And.intro (fun _ => ?_) (fun c => absurd rfl c)
          refine w_ld (j := s) (n := 4) rfl rfl hs (by omega) rfl z4 ?_
          refine sp_in (by omega) (n := (G s).2.1) (by omega) rfl (fun k hk ek => ?_) (fun nn => ?_)
          · refine And.intro (fun c => absurd c (by decide)) (fun _ => ?_)
            rw [ek, hxi_s hk (by omega)] at hQ
            subst ek
            refine And.intro (by rw [hn_40]; exact vp_in_nI (N := 160) (by omega) (by omega)) ?_
            refine hk_qe_of ?_
            rw [hn_40, nI_clamp (by omega), z5 k hk, Int32.toInt32_toInt64]
            exact hQ
          · refine And.intro (fun _ => ?_) (fun c => absurd rfl c)
            rw [hxi_n (by omega) nn] at hQ
            exact hk_qe_of hQ
        · rw [if_neg q2] at hQ
          rw [if_neg (fun y => q2 (by have := (nI_eq (by omega) (by omega)).mp y; omega))]
          refine And.intro (fun c => absurd c (by decide)) (fun _ => ?_)
          exact hk_qe_of hQ
    · refine And.intro (fun _ => ?_) (fun c => absurd rfl c)
      rw [hxi_n (by omega) nn] at hQ
      exact hk_qe_of hQ
  · refine And.intro (fun _ => ?_) (fun c => absurd rfl c)
    rw [hxi_n (by omega) nn] at hQ
    exact hk_qe_of hQ
def hf_c9 (x : Int32) : Nat := if x < 0 then 0 else if 9 < x then 9 else x.toNatClampNeg
theorem hf_c9_i {x : Int32} (h0 : ¬ x < 0) (h9 : ¬ 9 < x) : hf_c9 x < 10 ∧ x = nI (hf_c9 x) := by
  obtain ⟨j, hj, e⟩ := hn_in (v := x) (n := 9) (by omega) h0 h9
  unfold hf_c9
  rw [if_neg h0, if_neg h9, e, nI_clamp (by omega)]
  exact ⟨hj, rfl⟩
theorem hf_c9_lt (x : Int32) : hf_c9 x < 10 := by
  by_cases h0 : x < 0
  · unfold hf_c9; rw [if_pos h0]; decide
  · by_cases h9 : 9 < x
    · unfold hf_c9; rw [if_neg h0, if_pos h9]; decide
    · exact (hf_c9_i h0 h9).1
def hf_fo (P : hP) (g t : Nat) (f : Nat → Int32) (m : Nat) : hP := fun r j => if r = 1 ∧ g ≤ j ∧ j < g + m then hf_c9 (f (t + (j - g))) else P r j
theorem hf_fo_0 (P : hP) (g t : Nat) (f : Nat → Int32) : hf_fo P g t f 0 = P := by
  funext r j; exact if_neg (fun q => by omega)
theorem hf_fo_s (P : hP) (g t : Nat) (f : Nat → Int32) (m : Nat) : hf_fo P g t f (m + 1) = hf_up (hf_fo P g t f m) 1 (g + m) (hf_c9 (f (t + m))) := by
  funext r j
  unfold hf_up hf_fo
  by_cases q : r = 1 ∧ j = g + m
  · rw [if_pos q, if_pos ⟨q.1, by omega, by omega⟩, q.2, show g + m - g = m by omega]
  · rw [if_neg q]
    by_cases q2 : r = 1 ∧ g ≤ j ∧ j < g + m
    · rw [if_pos q2, if_pos ⟨q2.1, q2.2.1, by omega⟩]
    · rw [if_neg q2, if_neg (by omega)]
def o_winds (P : hP) (G : hSt) (v i h n : Int32) : Int32 × hP := match hxi 4 v with
  | none => (-1, P)
  | some s => match hxi 24 h with
    | none => (-1, P)
    | some g => match hxi 25 n with
      | none => (-1, P)
      | some m => if 24 < g + m then (-1, P) else if (G s).1 = 0 then (-11, P) else if (G s).1 = 1 then (match hxi 41 i with
          | none => (-12, P)
          | some t => if t + m ≤ (G s).2.1 then (nI m, hf_fo P g t (G s).2.2 m) else (-12, P)) else (-13, P)
theorem lg_ge {x y : Int64} : (0 : Int32) ≤ lg_cmp x y ↔ y.toInt ≤ x.toInt := by
  unfold lg_cmp
  by_cases h : x > y
  · rw [if_pos h]
    have := Int64.lt_iff_toInt_lt.mp h
    exact ⟨fun _ => by omega, fun _ => by decide⟩
  · rw [if_neg h]
    have h' : ¬ y.toInt < x.toInt := fun z => h (Int64.lt_iff_toInt_lt.mpr z)
    by_cases e : x = y
    · rw [if_pos e, e]; exact ⟨fun _ => Int.le_refl _, fun _ => by decide⟩
    · rw [if_neg e]
      have : ¬ x.toInt = y.toInt := fun z => e (Int64.toInt_inj.mp z)
      exact ⟨fun z => absurd z (by decide), fun z => by omega⟩
theorem lg_le {x y : Int64} : lg_cmp x y ≤ (0 : Int32) ↔ x.toInt ≤ y.toInt := by
  unfold lg_cmp
  by_cases h : x > y
  · rw [if_pos h]
    have := Int64.lt_iff_toInt_lt.mp h
    exact ⟨fun z => absurd z (by decide), fun z => by omega⟩
  · rw [if_neg h]
    have h' : ¬ y.toInt < x.toInt := fun z => h (Int64.lt_iff_toInt_lt.mpr z)
    by_cases e : x = y
    · rw [if_pos e, e]; exact ⟨fun _ => Int.le_refl _, fun _ => by decide⟩
    · rw [if_neg e]
      exact ⟨fun _ => by omega, fun _ => by decide⟩
theorem hf_M_force {o g j : Nat} {P : hP} {R : Nat → Nat → Int32} (M : hf_M o P R) (hg : g < 24) (hj : j < 10) : hf_M o (hf_up P 1 g j) (up2 R 100 g (nI j)) := by
  have mw := hf_M_w M g hg
  have z := hf_M_wind M hg mw.2.2.1 hj
  rw [hf_upself] at z
  have e : up2 R 99 g (nI (P 0 g)) = R := by
    funext a k
    unfold up2
    by_cases q : a = 99 ∧ k = g
    · rw [if_pos q, q.1, q.2]; exact mw.1.symm
    · rw [if_neg q]
  rw [e] at z
  exact z
set_option maxHeartbeats 1000000 in
theorem sp_mwinds {d : Nat} (hd : 2 < d) {R0 : Nat → Nat → Int32} {X : hk_D} {Q : hk_Q} {v i h n : Int32} {P : hP} {G : hSt} (M : hf_M 0 P R0) (S : hf_stM G R0 X) (hQ : ∀ R', hf_M 0 (o_winds P G v i h n).2 R' → (∀ a k, ¬ a = 100 → R' a k = R0 a k) → Q (some (.int (o_winds P G v i h n).1)) (hw R' X)) : hk_call d mM_winds [.ref 98, .int v, .int i, .int h, .int n] (hw R0 X) Q := by
  obtain ⟨d, rfl⟩ : ∃ e, d = e + 1 := ⟨d - 1, by omega⟩
  unfold o_winds at hQ
  refine hk_run2 (hk_call_m d) 200 ?_
  refine sp_misShelf (by omega) (fun s hs es => ?_) (fun nn => ?_)
  · refine And.intro (fun c => absurd c (by decide)) (fun _ => ?_)
    rw [es, hxi_s hs (by omega)] at hQ
    dsimp only at hQ
    subst es
    refine sp_misHour (by omega) (fun g hg eg => ?_) (fun nn => ?_)
    · refine And.intro (fun c => absurd c (by decide)) (fun _ => ?_)
      rw [eg, hxi_s hg (by omega)] at hQ
      dsimp only at hQ
      subst eg
      refine sp_in (by omega) (n := 25) (by omega) (by decide) (fun m hm em => ?_) (fun nn => ?_)
      · refine And.intro (fun c => absurd c (by decide)) (fun _ => ?_)
        rw [em, hxi_s hm (by omega)] at hQ
        dsimp only at hQ
        subst em
        obtain ⟨z1, z2, z3, z4, z5⟩ := S s hs
        refine And.intro (fun c => ?_) (fun c => ?_)
        · rw [hn_add] at c
          have c : nI (g + m) ≤ nI 24 := c
          rw [nI_leI (by omega) (by omega)] at c
          rw [if_neg (by omega)] at hQ
          refine sp_mlacksSort (by omega) S rfl hs ?_
          by_cases q : (G s).1 = 0
          · rw [if_pos q] at hQ
            rw [if_pos q]
            refine And.intro (fun c => absurd c (by decide)) (fun _ => ?_)
            exact hk_qe_of (hQ R0 M (fun _ _ _ => rfl))
          · rw [if_neg q] at hQ
            rw [if_neg q]
            by_cases q2 : (G s).1 = 1
            · rw [if_pos q2] at hQ
              rw [if_pos (by rw [q2]; rfl)]
              refine And.intro (fun _ => ?_) (fun c => absurd rfl c)
              have bad : i < 0 ∨ ((G s).2.1 : Int) - m < i.toInt → (∀ R', hf_M 0 P R' → (∀ a k, ¬ a = 100 → R' a k = R0 a k) → Q (some (.int (-12))) (hw R' X)) := by
                intro b
                cases e : hxi 41 i with
                | none => rw [e] at hQ; exact hQ
                | some t =>
                  have y := hxi_e (by omega) e
                  rw [e] at hQ
                  dsimp only at hQ
                  rw [if_neg (fun le => ?_)] at hQ
                  · exact hQ
                  · rcases b with b | b
                    · rw [y.2] at b; exact absurd b (hn_npos (by omega))
                    · rw [y.2, hn_i (by omega)] at b; omega
              refine And.intro (fun c2 => ?_) (fun c2 => ?_)
              · exact hk_qe_of (bad (Or.inl c2) R0 M (fun _ _ _ => rfl))
              · refine w_ld (j := s) (n := 4) rfl rfl hs (by omega) rfl z4 ?_
                have sb : (nI (G s).2.1 - nI m).toInt = ((G s).2.1 : Int) - m := pk_sub_toInt (by omega) (by omega)
                refine And.intro (fun c3 => ?_) (fun c3 => ?_)
                · rw [hn_le, sb] at c3
                  obtain ⟨t, ht, et⟩ := hn_of (x := i) (n := 41) (by omega) c2 (fun y => by rw [hn_le, hn_i (by omega)] at y; omega)
                  rw [et, hn_i (by omega)] at c3
                  rw [et, hxi_s ht (by omega)] at hQ
                  dsimp only at hQ
                  rw [if_pos (by omega)] at hQ
                  subst et
                  have L : ∀ j, j ≤ m → ∀ R, hf_M 0 (hf_fo P g t (G s).2.2 j) R → (∀ a k, ¬ a = 100 → R a k = R0 a k) → hk_wp (some .int) 0 0 hk_dft cM_winds (hk_call d) (hk_qe Q) 41 [(6, .int (nI j)), (5, .int 0), (0, .ref 98), (1, .int (nI s)), (2, .int (nI t)), (3, .int (nI g)), (4, .int (nI m))] [] (hw R X) 0 0 := by
                    refine hk_for ?_ ?_
                    · intro R MR fr
                      refine hk_run2 (hk_call_m d) 100 ?_
                      refine And.intro (fun c => ?_) (fun c => absurd (nI_le (Nat.le_refl _) (by omega)) c)
                      exact hk_qe_of (hQ R MR fr)
                    · intro j hj ih R MR fr
                      refine hk_run2 (hk_call_m d) 100 ?_
                      refine And.intro (fun c => absurd c (nI_ge hj (by omega))) (fun c => ?_)
                      have z5' := z5 (t + j) (by omega)
                      have ei : (40 : Int32) * nI s + nI t + nI j = nI (40 * s + (t + j)) := by rw [hn_40, hn_add]; congr 1; omega
                      refine And.intro (by rw [ei]; exact vp_in_nI (N := 160) (by omega) (by omega)) ?_
                      rw [ei, nI_clamp (by omega), show ((hw R X).2 120).2.2 (40 * s + (t + j)) = .long ((G s).2.2 (t + j)).toInt64 from congrArg Value.long z5']
                      have cl := hf_c9_lt ((G s).2.2 (t + j))
                      have fin := ih (up2 R 100 (g + j) (nI (hf_c9 ((G s).2.2 (t + j))))) (by rw [hf_fo_s]; exact hf_M_force MR (by omega) cl) (fun a k y => by rw [up2_a y]; exact fr a k y)
                      have e0 : (0 : Int64).toInt = 0 := rfl
                      have e9 : (9 : Int64).toInt = 9 := rfl
                      have i0 : (0 : Int32).toInt = 0 := rfl
                      have i9 : (9 : Int32).toInt = 9 := rfl
                      refine And.intro (fun c4 => ?_) (fun c4 => ?_)
                      · rw [lg_ge, e0, Int32.toInt_toInt64] at c4
                        have n0 : ¬ (G s).2.2 (t + j) < 0 := fun y => by rw [hn_lt] at y; omega
                        refine And.intro (fun c5 => ?_) (fun c5 => ?_)
                        · rw [lg_le, e9, Int32.toInt_toInt64] at c5
                          have n9 : ¬ 9 < (G s).2.2 (t + j) := fun y => by rw [hn_lt] at y; omega
                          refine w_st (t := 0) (j := g + j) (n := 24) (hn_add g j) rfl (by omega) (by omega) rfl rfl ?_
                          refine Exists.intro [0, 2, 3, 4, 5, 6, 7] ?_
                          rw [nI_1, Int32.toInt32_toInt64]
                          rw [← (hf_c9_i n0 n9).2] at fin
                          exact hk_stop2 (hk_call_m d) fin
                        · rw [lg_le, e9, Int32.toInt_toInt64] at c5
                          have y9 : 9 < (G s).2.2 (t + j) := by rw [hn_lt]; omega
                          refine w_st (t := 0) (j := g + j) (n := 24) (hn_add g j) rfl (by omega) (by omega) rfl rfl ?_
                          refine Exists.intro [0, 2, 3, 4, 5, 6, 7] ?_
                          rw [nI_1]
                          rw [show hf_c9 ((G s).2.2 (t + j)) = 9 by unfold hf_c9; rw [if_neg n0, if_pos y9]] at fin
                          exact hk_stop2 (hk_call_m d) fin
                      · rw [lg_ge, e0, Int32.toInt_toInt64] at c4
                        have y0 : (G s).2.2 (t + j) < 0 := by rw [hn_lt]; omega
                        refine w_st (t := 0) (j := g + j) (n := 24) (hn_add g j) rfl (by omega) (by omega) rfl rfl ?_
                        refine Exists.intro [0, 2, 3, 4, 5, 6, 7] ?_
                        rw [nI_1]
                        rw [show hf_c9 ((G s).2.2 (t + j)) = 0 by unfold hf_c9; rw [if_pos y0]] at fin
                        exact hk_stop2 (hk_call_m d) fin
                  refine hk_stop2 (hk_call_m d) (hk_run2 (hk_call_m d) 2 ?_)
                  exact L 0 (Nat.zero_le _) R0 (by rw [hf_fo_0]; exact M) (fun _ _ _ => rfl)
                · rw [hn_le, sb] at c3
                  exact hk_qe_of (bad (Or.inr (by omega)) R0 M (fun _ _ _ => rfl))
            · rw [if_neg q2] at hQ
              rw [if_neg (fun y => q2 (by have := (nI_eq (b := 0) (by omega) (by omega)).mp y; omega))]
              refine And.intro (fun c => absurd c (by decide)) (fun _ => ?_)
              exact hk_qe_of (hQ R0 M (fun _ _ _ => rfl))
        · rw [hn_add] at c
          have c : ¬ nI (g + m) ≤ nI 24 := c
          rw [nI_leI (by omega) (by omega)] at c
          rw [if_pos (by omega)] at hQ
          exact hk_qe_of (hQ R0 M (fun _ _ _ => rfl))
      · refine And.intro (fun _ => ?_) (fun c => absurd rfl c)
        rw [hxi_n (by omega) nn] at hQ
        exact hk_qe_of (hQ R0 M (fun _ _ _ => rfl))
    · refine And.intro (fun _ => ?_) (fun c => absurd rfl c)
      rw [hxi_n (by omega) nn] at hQ
      exact hk_qe_of (hQ R0 M (fun _ _ _ => rfl))
  · refine And.intro (fun _ => ?_) (fun c => absurd rfl c)
    rw [hxi_n (by omega) nn] at hQ
    exact hk_qe_of (hQ R0 M (fun _ _ _ => rfl))
