/-! THE CLASS: winds, shelves, acts, new sheets, draw -/
theorem w_gnul {h0 : hk_Hp} {Xc : hk_X} {ip q m : Nat} {ls : hk_Ls} {a k t : Nat} {r : List Value} {h : hk_Hp} (ht : (h0.2 a).1 = t) (hv : (h0.2 a).2.2 k = .null) (g : Xc ip ls (.null :: r) h q m) : (bif Nat.beq (h0.2 a).1 t then hk_v ((h0.2 a).2.2 k) (fun v => Xc ip ls (v :: r) h q m) else False) := by
  rw [ht, show Nat.beq t t = true from Nat.beq_refl t]
  show hk_v ((h0.2 a).2.2 k) (fun v => Xc ip ls (v :: r) h q m)
  rw [hv]
  exact g
set_option maxHeartbeats 1000000 in
theorem sp_cwinds {d : Nat} (hd : 1 < d) {R0 : Nat → Nat → Int32} {X : hk_D} {Q : hk_Q} {v i h n : Int32} {P : hP} {G : hSt} (K0 : hf_K 0 P R0) (S : hf_stC G R0 X) (hQ : ∀ R', hf_K 0 (o_winds P G v i h n).2 R' → (∀ a k, ¬ a = 41 → R' a k = R0 a k) → Q (some (.int (o_winds P G v i h n).1)) (hw R' X)) : hk_call d mC_winds [.ref 38, .int v, .int i, .int h, .int n] (hw R0 X) Q := by
  obtain ⟨d, rfl⟩ : ∃ e, d = e + 1 := ⟨d - 1, by omega⟩
  unfold o_winds at hQ
  refine hk_run2 (hk_call_m d) 200 ?_
  refine sp_isBelow (by omega) (n := 4) (by omega) rfl (fun s hs es => ?_) (fun nn => ?_)
  · refine And.intro (fun c => absurd c (by decide)) (fun _ => ?_)
    rw [es, hxi_s hs (by omega)] at hQ
    dsimp only at hQ
    subst es
    refine sp_isBelow (by omega) (n := 24) (by omega) rfl (fun g hg eg => ?_) (fun nn => ?_)
    · refine And.intro (fun c => absurd c (by decide)) (fun _ => ?_)
      rw [eg, hxi_s hg (by omega)] at hQ
      dsimp only at hQ
      subst eg
      obtain ⟨g4, g40, gn, gj⟩ := S.1 s hs
      have bad : (n < 0 ∨ ¬ n ≤ 24 - nI g) → Q (some (.int (-1))) (hw R0 X) := by
        intro b
        cases e : hxi 25 n with
        | none => rw [e] at hQ; exact hQ R0 K0 (fun _ _ _ => rfl)
        | some m =>
          have y := hxi_e (by omega) e
          rw [e] at hQ
          dsimp only at hQ
          rw [if_pos ?_] at hQ
          · exact hQ R0 K0 (fun _ _ _ => rfl)
          · rcases b with b | b
            · rw [y.2] at b; exact absurd b (hn_npos (by omega))
            · rw [y.2, show (24 : Int32) - nI g = nI (24 - g) from hn_sub (a := 24) (by omega) (by decide), nI_leI (by omega) (by omega)] at b; omega
      refine And.intro (fun c => hk_qe_of (bad (Or.inl c))) (fun c => ?_)
      refine And.intro (fun c2 => ?_) (fun c2 => hk_qe_of (bad (Or.inr c2)))
      clear bad
      rw [show (24 : Int32) - nI g = nI (24 - g) from hn_sub (a := 24) (by omega) (by decide)] at c2
      obtain ⟨m, hm, em⟩ := hn_of (x := n) (n := 25) (by omega) c (fun y => by rw [hn_le, hn_i (by omega)] at y c2; omega)
      subst em
      rw [nI_leI (by omega) (by omega)] at c2
      rw [hxi_s hm (by omega)] at hQ
      dsimp only at hQ
      rw [if_neg (by omega)] at hQ
      refine And.intro (vp_in_nI (N := 4) hs (by omega)) ?_
      rw [nI_clamp (by omega)]
      cases e : X.2.2.2.2.1 s with
      | none =>
        rw [if_pos (gn e)] at hQ
        rw [show ((hw R0 X).2 90).2.2 s = .null from congrArg hk_rr e]
        exact hk_qe_of (hQ R0 K0 (fun _ _ _ => rfl))
      | some j =>
        obtain ⟨hj, nz, r0, rl, rv⟩ := gj j e
        obtain ⟨a1, a2, a3⟩ := hw_r4 (R := R0) hj
        obtain ⟨b1, b2, b3⟩ := hw_r10 (R := R0) hj
        rw [if_neg nz] at hQ
        rw [show ((hw R0 X).2 90).2.2 s = .ref (127 + 2 * j) from congrArg hk_rr e]
        refine w_get a1 a3 r0 ?_
        refine And.intro (fun c => ?_) (fun c => ?_)
        · have t1 : (G s).1 = 1 := by have := (nI_eq (b := 0) (by omega) (by omega)).mp c; omega
          rw [if_pos t1] at hQ
          have bad : i < 0 ∨ ((G s).2.1 : Int) - m < i.toInt → (∀ R', hf_K 0 P R' → (∀ a k, ¬ a = 41 → R' a k = R0 a k) → Q (some (.int (-12))) (hw R' X)) := by
            intro b
            cases e : hxi 41 i with
            | none => rw [e] at hQ; exact hQ
            | some t =>
              have y := hxi_e (by omega) e
              rw [e] at hQ
              dsimp only at hQ
              rw [if_neg (fun le => ?_)] at hQ
              · exact hQ
              · rcases b with b | b
                · rw [y.2] at b; exact absurd b (hn_npos (by omega))
                · rw [y.2, hn_i (by omega)] at b; omega
          refine And.intro (fun c3 => hk_qe_of (bad (Or.inl c3) R0 K0 (fun _ _ _ => rfl))) (fun c3 => ?_)
          refine w_gref a1 a2 ?_
          refine w_len b1 (b2.trans rl) ?_
          have sb : (nI (G s).2.1 - nI m).toInt = ((G s).2.1 : Int) - m := pk_sub_toInt (by omega) (by omega)
          refine And.intro (fun c4 => ?_) (fun c4 => ?_)
          · rw [hn_le, sb] at c4
            obtain ⟨t, ht, et⟩ := hn_of (x := i) (n := 41) (by omega) c3 (fun y => by rw [hn_le, hn_i (by omega)] at y; omega)
            rw [et, hn_i (by omega)] at c4
            rw [et, hxi_s ht (by omega)] at hQ
            dsimp only at hQ
            rw [if_pos (by omega)] at hQ
            subst et
            have Lp : ∀ l, l ≤ m → ∀ R, hf_K 0 (hf_fo P g t (G s).2.2 l) R → (∀ a k, ¬ a = 41 → R a k = R0 a k) → hk_wp (some .int) 0 0 hk_dft cC_winds (hk_call d) (hk_qe Q) 44 [(6, .int (nI l)), (5, .ref (127 + 2 * j)), (0, .ref 38), (1, .int (nI s)), (2, .int (nI t)), (3, .int (nI g)), (4, .int (nI m))] [] (hw R X) 0 0 := by
              refine hk_for ?_ ?_
              · intro R KR fr
                refine hk_run2 (hk_call_m d) 100 ?_
                refine And.intro (fun c => ?_) (fun c => absurd (nI_le (Nat.le_refl _) (by omega)) c)
                exact hk_qe_of (hQ R KR fr)
              · intro l hl ih R KR fr
                obtain ⟨a1, a2, a3⟩ := hw_r4 (R := R) hj
                obtain ⟨b1, b2, b3⟩ := hw_r10 (R := R) hj
                refine hk_run2 (hk_call_m d) 100 ?_
                refine And.intro (fun c => absurd c (nI_ge hl (by omega))) (fun c => ?_)
                refine w_gref a1 a2 ?_
                refine w_lds b1 (hn_add t l) (b2.trans rl) (show t + l < (G s).2.1 by omega) (by omega) (b3 _) ((fr _ _ (by omega)).trans (rv (t + l) (by omega))) ?_
                refine w_st (t := 0) (j := g + l) (n := 24) (hn_add g l) rfl (by omega) (by omega) rfl rfl ?_
                refine Exists.intro [0, 1, 2, 3, 4, 5, 6] ?_
                have ec : hk_max 0 (hk_min 9 ((G s).2.2 (t + l))) = nI (hf_c9 ((G s).2.2 (t + l))) := by
                  generalize (G s).2.2 (t + l) = x
                  unfold hk_max hk_min
                  by_cases x0 : x < 0
                  · have x9 : x < 9 := by rw [hn_lt] at x0 ⊢; have : (0 : Int32).toInt = 0 := rfl; have : (9 : Int32).toInt = 9 := rfl; omega
                    have n0 : ¬ 0 < x := fun z => by rw [hn_lt] at z x0; omega
                    rw [if_pos x9, if_neg n0]; unfold hf_c9; rw [if_pos x0]; rfl
                  · by_cases x9 : 9 < x
                    · have n9 : ¬ x < 9 := fun z => by rw [hn_lt] at z x9; omega
                      rw [if_neg n9, if_pos (by decide)]; unfold hf_c9; rw [if_neg x0, if_pos x9]; rfl
                    · have e9 := hf_c9_i x0 x9
                      by_cases y9 : x < 9
                      · rw [if_pos y9]
                        by_cases y0 : 0 < x
                        · rw [if_pos y0]; exact e9.2
                        · rw [if_neg y0]
                          have : x = 0 := Int32.toInt_inj.mp (by rw [hn_lt] at x0 y0; omega)
                          rw [this]; rfl
                      · rw [if_neg y9, if_pos (by decide)]
                        have : x = 9 := Int32.toInt_inj.mp (by rw [hn_lt] at x9 y9; omega)
                        rw [this]; rfl
                rw [nI_1, ec]
                refine hk_stop2 (hk_call_m d) (ih _ ?_ (fun a k y => by rw [up2_a y]; exact fr a k y))
                rw [hf_fo_s]
                have cl := hf_c9_lt ((G s).2.2 (t + l))
                generalize hf_c9 ((G s).2.2 (t + l)) = f9 at cl ⊢
                have z := hf_K_wind (g := g + l) KR (KR.2.2.2.2.1 (g + l) (by omega)).1 cl
                rw [hf_upself] at z
                have e40 : up2 R (40 + 16 * 0) (g + l) (nI (hf_fo P g t (G s).2.2 l 0 (g + l))) = R := by
                  funext a k
                  unfold up2
                  by_cases q : a = 40 + 16 * 0 ∧ k = g + l
                  · rw [if_pos q, q.1, q.2]; exact (KR.1.2.2.2.1 (g + l) (by omega)).1.symm
                  · rw [if_neg q]
                rw [e40] at z
                exact z
            refine hk_stop2 (hk_call_m d) (hk_run2 (hk_call_m d) 2 ?_)
            exact Lp 0 (Nat.zero_le _) R0 (by rw [hf_fo_0]; exact K0) (fun _ _ _ => rfl)
          · rw [hn_le, sb] at c4
            exact hk_qe_of (bad (Or.inr (by omega)) R0 K0 (fun _ _ _ => rfl))
        · rw [if_neg (fun z => c (by rw [z]; rfl))] at hQ
          exact hk_qe_of (hQ R0 K0 (fun _ _ _ => rfl))
    · refine And.intro (fun _ => ?_) (fun c => absurd rfl c)
      rw [hxi_n (by omega) nn] at hQ
      exact hk_qe_of (hQ R0 K0 (fun _ _ _ => rfl))
  · refine And.intro (fun _ => ?_) (fun c => absurd rfl c)
    rw [hxi_n (by omega) nn] at hQ
    exact hk_qe_of (hQ R0 K0 (fun _ _ _ => rfl))
set_option maxHeartbeats 400000 in
theorem sp_ctaken {d : Nat} (hd : 2 < d) {R : Nat → Nat → Int32} {X : hk_D} {Q : hk_Q} {v w : Int32} {P : hP} {H : hSh} (K : hf_K 0 P R) (S : hf_shC H R X) (hQ : Q (some (.int (a_taken P H v w))) (hw R X)) : hk_call d mC_taken [.ref 38, .int v, .int w] (hw R X) Q := by
  obtain ⟨d, rfl⟩ : ∃ e, d = e + 1 := ⟨d - 1, by omega⟩
  have n5 := K.2.1
  have n6 := K.2.2.1
  have n4 := K.2.2.2.1
  have c4 : R 39 4 = nI (P 2 0) := K.1.1
  have c5 : R 39 5 = nI (P 3 0) := K.1.2.1
  have c6 : R 39 6 = nI (P 4 0) := K.1.2.2.1
  unfold a_taken at hQ
  have main : ∀ (x6 x4 : Int32) (b6 b4 : Bool), (hxi 6 w).isSome = b6 → (hxi 4 (w - 10)).isSome = b4 → x6 = (if b6 then 1 else 0) → x4 = (if b4 then 1 else 0) → hk_wp (some .int) 0 0 hk_dft cC_taken (hk_call d) (hk_qe Q) 10 [(4, .int x4), (3, .int x6), (0, .ref 38), (1, .int v), (2, .int w)] [] (hw R X) 0 0 := by
    intro x6 x4 b6 b4 e6 e4 ex6 ex4
    rw [e6, e4] at hQ
    refine hk_run2 (hk_call_m d) 200 ?_
    refine sp_isBelow (by omega) (n := 4) (by omega) rfl (fun s hs es => ?_) (fun nn => ?_)
    · refine And.intro (fun c => absurd c (by decide)) (fun _ => ?_)
      rw [es, hxi_s hs (by omega)] at hQ
      dsimp only at hQ
      subst es
      obtain ⟨h2, h6, hn, hj⟩ := S s hs
      obtain ⟨c1, c2, c3⟩ := sh_a (R := R) (X := X) hs
      have body : ¬ (b6 = false ∧ b4 = false) → hk_wp (some .int) 0 0 hk_dft cC_taken (hk_call d) (hk_qe Q) 20 [(4, .int x4), (3, .int x6), (0, .ref 38), (1, .int (nI s)), (2, .int w)] [] (hw R X) 0 0 := by
        intro nb
        rw [if_neg nb] at hQ
        refine hk_run2 (hk_call_m d) 200 ?_
        refine And.intro (vp_in_nI (N := 4) hs (by omega)) ?_
        rw [nI_clamp (by omega)]
        refine w_get c1 c2 rfl ?_
        refine And.intro (vp_in_nI (N := 4) hs (by omega)) ?_
        rw [nI_clamp (by omega)]
        cases e : X.2.2.2.2.2.1 s with
        | none =>
          have c3 : ((hw R X).2 (94 + s)).2.2 1 = .null := by rw [c3, e]; rfl
          refine w_gnul c1 c3 ?_
          rcases hn e with z | z
          · rw [if_neg (by omega), if_neg (by omega)] at hQ
            refine sp_cisHat (by omega) K (fun j hj ej => absurd (show (0 : Int32) ≤ -1 by rw [← z.2, ej]; exact hn_pos (by omega)) (by decide)) (fun nn => ?_)
            refine And.intro (fun _ => ?_) (fun c => absurd rfl c)
            exact hk_qe_of hQ
          · rw [if_neg (by omega)] at hQ
            rw [z.2]
            refine sp_cisHat (by omega) K (fun j hj ej => ?_) (fun nn => ?_)
            · refine And.intro (fun c => absurd c (by decide)) (fun _ => ?_)
              have ejn : (H s).2.1 = j := (nI_eq (by omega) (by omega)).mp ej
              subst ejn
              rw [if_pos ⟨z.1, hj⟩] at hQ
              have ha : hHat (49 + (H s).2.1) := by unfold hHat; omega
              cases b6 with
              | true =>
                rw [show x6 = 1 from ex6]
                refine And.intro (fun c => absurd c (by decide)) (fun _ => ?_)
                refine And.intro (vp_in_nI (N := 6) (by omega) (by omega)) ?_
                rw [nI_clamp (by omega)]
                refine w_recv (hHat_t ha) ?_
                refine sp_hisOfKind (by omega) ha (K.1.2.2.2.2.2 _ hj).1 (K.2.2.2.2.2.2 _ hj).1 (fun u => ?_) (fun u => ?_)
                · refine And.intro (fun c => absurd c (by decide)) (fun _ => ?_)
                  rw [if_pos ⟨rfl, u⟩] at hQ
                  exact hk_qe_of hQ
                · refine And.intro (fun _ => ?_) (fun c => absurd rfl c)
                  rw [if_neg (fun y => by rw [u] at y; exact absurd y.2 (by decide))] at hQ
                  exact hk_qe_of hQ
              | false =>
                rw [show x6 = 0 from ex6]
                refine And.intro (fun _ => ?_) (fun c => absurd rfl c)
                rw [if_neg (fun y => absurd y.1 (by decide))] at hQ
                exact hk_qe_of hQ
            · refine And.intro (fun _ => ?_) (fun c => absurd rfl c)
              rw [if_neg (fun y => nn _ y.2 rfl)] at hQ
              exact hk_qe_of hQ
        | some j =>
          have c3 : ((hw R X).2 (94 + s)).2.2 1 = .ref (127 + 2 * j) := by rw [c3, e]; rfl
          obtain ⟨z1, z2, z3, z4, z5, z6, z7⟩ := hj j e
          obtain ⟨a1, a2, a3⟩ := hw_r4 (R := R) z3
          obtain ⟨b1, b2, b3⟩ := hw_r10 (R := R) z3
          refine w_gref c1 c3 ?_
          rw [if_pos z1] at hQ
          cases b4 with
          | true =>
            rw [show x4 = 1 from ex4]
            refine And.intro (fun c => absurd c (by decide)) (fun _ => ?_)
            refine w_get a1 a3 z4 ?_
            refine And.intro (fun c => ?_) (fun c => ?_)
            · rw [if_pos c.symm] at hQ
              refine w_gref a1 a2 ?_
              refine w_len b1 (b2.trans z5) ?_
              exact hk_qe_of hQ
            · rw [if_neg (fun y => c y.symm)] at hQ
              exact hk_qe_of hQ
          | false =>
            rw [show x4 = 0 from ex4]
            refine And.intro (fun _ => ?_) (fun c => absurd rfl c)
            rw [if_neg (fun y => by rw [y, hxi_s z6 (by omega)] at e4; exact absurd (show true = false from e4) (by decide))] at hQ
            exact hk_qe_of hQ
      cases b6 with
      | true =>
        rw [show x6 = 1 from ex6] at body ⊢
        refine And.intro (fun c => absurd c (by decide)) (fun _ => ?_)
        exact hk_stop2 (hk_call_m d) (body (fun y => absurd y.1 (by decide)))
      | false =>
        rw [show x6 = 0 from ex6] at body ⊢
        refine And.intro (fun _ => ?_) (fun c => absurd rfl c)
        cases b4 with
        | true =>
          rw [show x4 = 1 from ex4] at body ⊢
          refine And.intro (fun c => absurd c (by decide)) (fun _ => ?_)
          exact hk_stop2 (hk_call_m d) (body (fun y => absurd y.2 (by decide)))
        | false =>
          rw [show x4 = 0 from ex4] at body ⊢
          refine And.intro (fun _ => ?_) (fun c => absurd rfl c)
          rw [if_pos ⟨rfl, rfl⟩] at hQ
          exact hk_qe_of hQ
    · refine And.intro (fun _ => ?_) (fun c => absurd rfl c)
      rw [hxi_n (by omega) nn] at hQ
      exact hk_qe_of hQ
  refine hk_run2 (hk_call_m d) 200 ?_
  refine sp_isBelow (by omega) (n := 6) (by omega) rfl (fun j6 hj6 ej6 => ?_) (fun n6' => ?_)
  · have s6 : (hxi 6 w).isSome = true := by rw [ej6, hxi_s hj6 (by omega)]; rfl
    refine sp_isBelow (by omega) (n := 4) (by omega) rfl (fun j4 hj4 ej4 => ?_) (fun n4' => ?_)
    · have s4 : (hxi 4 (w - 10)).isSome = true := by rw [ej4, hxi_s hj4 (by omega)]; rfl
      exact w_rv (hk_stop2 (hk_call_m d) (hk_run2 (hk_call_m d) 1 (main _ _ _ _ s6 s4 rfl rfl)))
    · have s4 : (hxi 4 (w - 10)).isSome = false := by rw [hxi_n (by omega) n4']; rfl
      exact w_rv (hk_stop2 (hk_call_m d) (hk_run2 (hk_call_m d) 1 (main _ _ _ _ s6 s4 rfl rfl)))
  · have s6 : (hxi 6 w).isSome = false := by rw [hxi_n (by omega) n6']; rfl
    refine sp_isBelow (by omega) (n := 4) (by omega) rfl (fun j4 hj4 ej4 => ?_) (fun n4' => ?_)
    · have s4 : (hxi 4 (w - 10)).isSome = true := by rw [ej4, hxi_s hj4 (by omega)]; rfl
      exact w_rv (hk_stop2 (hk_call_m d) (hk_run2 (hk_call_m d) 1 (main _ _ _ _ s6 s4 rfl rfl)))
    · have s4 : (hxi 4 (w - 10)).isSome = false := by rw [hxi_n (by omega) n4']; rfl
      exact w_rv (hk_stop2 (hk_call_m d) (hk_run2 (hk_call_m d) 1 (main _ _ _ _ s6 s4 rfl rfl)))
theorem hf_shC_f {H : hSh} {R R' : Nat → Nat → Int32} {X : hk_D} (S : hf_shC H R X) (f : ∀ s, s < 4 → R' (94 + s) 0 = R (94 + s) 0) (g : ∀ j, R' (127 + 2 * j) 0 = R (127 + 2 * j) 0) : hf_shC H R' X := by
  intro s hs
  obtain ⟨z1, z2, z3, z4⟩ := S s hs
  refine ⟨z1, z2, fun e => by rw [f s hs]; exact z3 e, fun j e => ?_⟩
  rw [f s hs, g]; exact z4 j e
theorem sp_aforget {d : Nat} (hd : 0 < d) {R : Nat → Nat → Int32} {X : hk_D} {Q : hk_Q} (hQ : Q none (hw (up2 R 92 1 0) X)) : hk_call d mA_forget [.ref 92] (hw R X) Q := by
  obtain ⟨d, rfl⟩ : ∃ e, d = e + 1 := ⟨d - 1, by omega⟩
  refine hk_run2 (hk_call_m d) 100 ?_
  refine w_put trivial rfl rfl ?_
  exact hk_qe_of hQ
set_option maxHeartbeats 400000 in
theorem sp_cact {d : Nat} (hd : 10 < d) {R0 : Nat → Nat → Int32} {X : hk_D} {Q : hk_Q} {v w x : Int32} {P : hP} {H : hSh} (K0 : hf_K 0 P R0) (S0 : hf_shC H R0 X) (hQ : ∀ R', hTC (a_act P H v w x).2 R' → hfxC R0 R' → Q (some (.int (a_act P H v w x).1)) (hw R' X)) : hk_call d mC_act [.ref 38, .int v, .int w, .int x] (hw R0 X) Q := by
  obtain ⟨d, rfl⟩ : ∃ e, d = e + 1 := ⟨d - 1, by omega⟩
  unfold a_act at hQ
  refine hk_run2 (hk_call_m d) 100 ?_
  refine sp_aforget (by omega) ?_
  have fr0 : hfxC R0 (up2 R0 92 1 0) := fun a j q1 q2 => up2_n (by omega)
  have T : hTC [] (up2 R0 92 1 0) := hf_tr_0 (up2_s _ _ _ _)
  have K : hf_K 0 P (up2 R0 92 1 0) := hf_K_fr K0 (fun a k z => up2_a (by omega))
  have S : hf_shC H (up2 R0 92 1 0) X := hf_shC_f S0 (fun s hs => up2_a (by omega)) (fun j => up2_a (by omega))
  generalize up2 R0 92 1 0 = R at fr0 T K S
  refine sp_isBelow (by omega) (n := 4) (by omega) rfl (fun s hs es => ?_) (fun nn => ?_)
  · refine And.intro (fun c => absurd c (by decide)) (fun _ => ?_)
    rw [es, hxi_s hs (by omega)] at hQ
    dsimp only at hQ
    subst es
    refine sp_isBelow (by omega) (n := 4) (by omega) rfl (fun c hc ec => ?_) (fun nn => ?_)
    · refine And.intro (fun c => absurd c (by decide)) (fun _ => ?_)
      rw [ec, hxi_s hc (by omega)] at hQ
      dsimp only at hQ
      subst ec
      obtain ⟨h2, h6, hn, hj⟩ := S s hs
      obtain ⟨c1, c2, c3⟩ := sh_a (R := R) (X := X) hs
      have n6 := K.2.2.1
      refine And.intro (vp_in_nI (N := 4) hs (by omega)) ?_
      rw [nI_clamp (by omega)]
      have no : R (94 + s) 0 = -1 → ¬ (H s).1 = 1 → hk_wp (some .int) 0 0 hk_dft cC_act (hk_call d) (hk_qe Q) 19 [(4, .int (-1)), (0, .ref 38), (1, .int (nI s)), (2, .int (nI c)), (3, .int x)] [] (hw R X) 0 0 := by
        intro r1 n1
        rw [if_neg (fun z => n1 z.1)] at hQ
        refine hk_run2 (hk_call_m d) 100 ?_
        refine sp_cisHat (by omega) K (fun j hj ej => absurd (show (0 : Int32) ≤ -1 by rw [ej]; exact hn_pos (by omega)) (by decide)) (fun nn => ?_)
        refine And.intro (fun _ => ?_) (fun c => absurd rfl c)
        exact hk_qe_of (hQ R T fr0)
      cases e : X.2.2.2.2.2.1 s with
      | none =>
        rcases hn e with z | z
        · refine w_get c1 c2 z.2 ?_
          exact hk_stop2 (hk_call_m d) (hk_run2 (hk_call_m d) 1 (no z.2 (by omega)))
        · refine w_get c1 c2 z.2 ?_
          refine sp_cisHat (by omega) K (fun j hj ej => ?_) (fun nn => ?_)
          · refine And.intro (fun c => absurd c (by decide)) (fun _ => ?_)
            have ejn : (H s).2.1 = j := (nI_eq (by omega) (by omega)).mp ej
            subst ejn
            rw [if_pos ⟨z.1, hj⟩] at hQ
            have ha : hHat (49 + (H s).2.1) := by unfold hHat; omega
            refine And.intro (vp_in_nI (N := 6) (by omega) (by omega)) ?_
            rw [nI_clamp (by omega)]
            have kk := K.1.2.2.2.2.2 _ hj
            refine sp_aperform (by omega) ha kk.1 kk.2.1 (K.2.2.2.2.2.2 _ hj).1 hc T (fun R' T' f' => ?_)
            exact hk_qe_of (hQ R' T' (fun a i q1 q2 => (f' a i q1 q2).trans (fr0 a i q1 q2)))
          · refine And.intro (fun _ => ?_) (fun c => absurd rfl c)
            rw [if_neg (fun y => nn _ y.2 rfl)] at hQ
            exact hk_qe_of (hQ R T fr0)
      | some j =>
        obtain ⟨z1, z2, -⟩ := hj j e
        refine w_get c1 c2 z2 ?_
        exact hk_stop2 (hk_call_m d) (hk_run2 (hk_call_m d) 1 (no z2 (by omega)))
    · refine And.intro (fun _ => ?_) (fun c => absurd rfl c)
      rw [hxi_n (by omega) nn] at hQ
      exact hk_qe_of (hQ R T fr0)
  · refine And.intro (fun _ => ?_) (fun c => absurd rfl c)
    rw [hxi_n (by omega) nn] at hQ
    exact hk_qe_of (hQ R T fr0)
/-! shelves -/
theorem w_puth {R : Nat → Nat → Int32} {X : hk_D} {Xc : hk_X} {ip q m : Nat} {ls : hk_Ls} {s : Nat} {v : Value} {o : Option Nat} {r : List Value} {p : Prop} (hs : s < 4) (ev : v = hk_rr o) (hp : p) (g : Xc ip ls r (hw R (xH X s o)) q m) : (bif Nat.beq ((hw R X).2 (94 + s)).1 5 && Nat.ble 38 (94 + s) then (p ∧ Xc ip ls r (hk_up (hw R X) (94 + s) (5, ((hw R X).2 (94 + s)).2.1, va_up ((hw R X).2 (94 + s)).2.2 1 v)) q m) else False) := by
  have e : (Nat.beq ((hw R X).2 (94 + s)).1 5 && Nat.ble 38 (94 + s)) = true := by
    rw [(sh_a (R := R) (X := X) hs).1, show Nat.ble 38 (94 + s) = true from Nat.ble_eq_true_of_le (by omega)]; rfl
  rw [e]
  show p ∧ _
  refine And.intro hp ?_
  rw [ev, hw_upH hs]; exact g
theorem sp_stakeHat {d : Nat} (hd : 0 < d) {R : Nat → Nat → Int32} {X : hk_D} {Q : hk_Q} {s : Nat} {v : Int32} (hs : s < 4) (hQ : Q none (hw (up2 R (94 + s) 0 v) (xH X s none))) : hk_call d mS_takeHat [.ref (94 + s), .int v] (hw R X) Q := by
  obtain ⟨d, rfl⟩ : ∃ e, d = e + 1 := ⟨d - 1, by omega⟩
  refine hk_run2 (hk_call_m d) 100 ?_
  refine w_puta (sh_a hs).1 (by omega) (sh_a (R := R) hs).2.1 trivial ?_
  refine w_puth (o := none) hs rfl trivial ?_
  exact hk_qe_of hQ
theorem sp_stakeNull {d : Nat} (hd : 0 < d) {R : Nat → Nat → Int32} {X : hk_D} {Q : hk_Q} {s : Nat} (hs : s < 4) (hQ : Q none (hw (up2 R (94 + s) 0 (-1)) (xH X s none))) : hk_call d mS_takeRow [.ref (94 + s), .null] (hw R X) Q := by
  obtain ⟨d, rfl⟩ : ∃ e, d = e + 1 := ⟨d - 1, by omega⟩
  refine hk_run2 (hk_call_m d) 100 ?_
  refine w_puta (sh_a hs).1 (by omega) (sh_a (R := R) hs).2.1 trivial ?_
  refine w_puth (o := none) hs rfl trivial ?_
  exact hk_qe_of hQ
theorem sp_stakeRow {d : Nat} (hd : 0 < d) {R : Nat → Nat → Int32} {X : hk_D} {Q : hk_Q} {s j : Nat} (hs : s < 4) (hQ : Q none (hw (up2 R (94 + s) 0 (-1)) (xH X s (some j)))) : hk_call d mS_takeRow [.ref (94 + s), .ref (127 + 2 * j)] (hw R X) Q := by
  obtain ⟨d, rfl⟩ : ∃ e, d = e + 1 := ⟨d - 1, by omega⟩
  refine hk_run2 (hk_call_m d) 100 ?_
  refine w_puta (sh_a hs).1 (by omega) (sh_a (R := R) hs).2.1 trivial ?_
  refine w_puth (o := some j) hs rfl trivial ?_
  exact hk_qe_of hQ
theorem hf_shC_up {H : hSh} {R : Nat → Nat → Int32} {X : hk_D} {s : Nat} {h : Nat × Nat × Nat} {o : Option Nat} {v : Int32} (S : hf_shC H R X) (hs : s < 4) (b : h.1 ≤ 2 ∧ h.2.1 < 6) (hn : o = none → (h.1 = 0 ∧ v = -1) ∨ (h.1 = 1 ∧ v = nI h.2.1)) (hj : ∀ j, o = some j → h.1 = 2 ∧ v = -1 ∧ j < X.2.2.1 ∧ R (127 + 2 * j) 0 = nI h.2.1 ∧ X.2.2.2.1 j = h.2.2 ∧ h.2.1 < 4 ∧ h.2.2 ≤ 40) : hf_shC (hf_us H s h) (up2 R (94 + s) 0 v) (xH X s o) := by
  intro t ht
  show (hf_us H s h t).1 ≤ 2 ∧ (hf_us H s h t).2.1 < 6 ∧ (hf_us X.2.2.2.2.2.1 s o t = none → _) ∧ ∀ j, hf_us X.2.2.2.2.2.1 s o t = some j → _
  by_cases q : t = s
  · subst q
    rw [hf_us_s, hf_us_s]
    refine ⟨b.1, b.2, fun e => ?_, fun j e => ?_⟩
    · rw [up2_s]; exact hn e
    · rw [up2_s, up2_a (by omega)]; exact hj j e
  · rw [hf_us_n q, hf_us_n q]
    obtain ⟨z1, z2, z3, z4⟩ := S t ht
    refine ⟨z1, z2, fun e => by rw [up2_a (by omega)]; exact z3 e, fun j e => ?_⟩
    rw [up2_a (by omega), up2_a (by omega)]; exact z4 j e
theorem hf_stC_xH {G : hSt} {R R' : Nat → Nat → Int32} {X : hk_D} {s : Nat} {o : Option Nat} (S : hf_stC G R X) (f : ∀ a k, 127 ≤ a → R' a k = R a k) : hf_stC G R' (xH X s o) := by
  refine ⟨fun t ht => ?_, S.2⟩
  obtain ⟨z1, z2, z3, z4⟩ := S.1 t ht
  refine ⟨z1, z2, z3, fun j e => ?_⟩
  obtain ⟨y1, y2, y3, y4, y5⟩ := z4 j e
  exact ⟨y1, y2, (f _ _ (by omega)).trans y3, y4, fun k hk => (f _ _ (by omega)).trans (y5 k hk)⟩
/-- what the sheets' and shelves' calls leave of the rest -/
def hxC (X X' : hk_D) : Prop := X'.1 = X.1 ∧ X'.2.1 = X.2.1 ∧ X'.2.2.2.2.2.2 = X.2.2.2.2.2.2
set_option maxHeartbeats 1000000 in
theorem sp_cshelf {d : Nat} (hd : 2 < d) {R : Nat → Nat → Int32} {X : hk_D} {Q : hk_Q} {v w x : Int32} {P : hP} {G : hSt} {H : hSh} (K : hf_K 0 P R) (GC : hf_stC G R X) (S : hf_shC H R X) (hQ : ∀ R' X', hf_shC (o_shelf P G H v w x).2 R' X' → hf_stC G R' X' → (∀ a k, ¬ (94 ≤ a ∧ a ≤ 97) → R' a k = R a k) → hxC X X' → X'.2.2.1 = X.2.2.1 → Q (some (.int (o_shelf P G H v w x).1)) (hw R' X')) : hk_call d mC_shelf [.ref 38, .int v, .int w, .int x] (hw R X) Q := by
  obtain ⟨d, rfl⟩ : ∃ e, d = e + 1 := ⟨d - 1, by omega⟩
  have n5 := K.2.1
  have n6 := K.2.2.1
  have n4 := K.2.2.2.1
  have c4 : R 39 4 = nI (P 2 0) := K.1.1
  have c5 : R 39 5 = nI (P 3 0) := K.1.2.1
  have c6 : R 39 6 = nI (P 4 0) := K.1.2.2.1
  unfold o_shelf at hQ
  have same : ∀ a, (∀ R' X', hf_shC H R' X' → hf_stC G R' X' → (∀ a k, ¬ (94 ≤ a ∧ a ≤ 97) → R' a k = R a k) → hxC X X' → X'.2.2.1 = X.2.2.1 → Q (some (.int a)) (hw R' X')) → Q (some (.int a)) (hw R X) := fun a q => q R X S GC (fun _ _ _ => rfl) ⟨rfl, rfl, rfl⟩ rfl
  refine hk_run2 (hk_call_m d) 200 ?_
  refine sp_isBelow (by omega) (n := 4) (by omega) rfl (fun s hs es => ?_) (fun nn => ?_)
  · refine And.intro (fun c => absurd c (by decide)) (fun _ => ?_)
    rw [es, hxi_s hs (by omega)] at hQ
    dsimp only at hQ
    subst es
    obtain ⟨s5, -, -⟩ := sh_a (R := R) (X := X) hs
    by_cases w0 : w = 0
    · rw [if_pos w0] at hQ
      refine And.intro (fun _ => ?_) (fun c => absurd w0 c)
      refine sp_cisHat (by omega) K (fun j hj ej => ?_) (fun nn => ?_)
      · refine And.intro (fun c => absurd c (by decide)) (fun _ => ?_)
        rw [ej, hxi_s hj (by omega)] at hQ
        dsimp only at hQ
        subst ej
        refine And.intro (vp_in_nI (N := 4) hs (by omega)) ?_
        rw [nI_clamp (by omega)]
        refine w_recv s5 ?_
        refine sp_stakeHat (by omega) hs ?_
        refine hk_qe_of (hQ _ _ (hf_shC_up S hs ⟨by show 1 ≤ 2; omega, by show j < 6; omega⟩ (fun _ => Or.inr ⟨rfl, rfl⟩) (fun j e => by cases e)) (hf_stC_xH GC (fun a k z => up2_a (by omega))) (fun a k z => up2_a (by omega)) ⟨rfl, rfl, rfl⟩ rfl)
      · refine And.intro (fun _ => ?_) (fun c => absurd rfl c)
        rw [hxi_n (by omega) nn] at hQ
        refine And.intro (fun c => by rw [w0] at c; exact absurd c (by decide)) (fun _ => ?_)
        refine And.intro (fun c => by rw [w0] at c; exact absurd c (by decide)) (fun _ => ?_)
        exact hk_qe_of (same _ hQ)
    · rw [if_neg w0] at hQ
      refine And.intro (fun c => absurd c w0) (fun _ => ?_)
      by_cases w1 : w = 1
      · rw [if_pos w1] at hQ
        refine And.intro (fun _ => ?_) (fun c => absurd w1 c)
        refine sp_isBelow (by omega) (n := 4) (by omega) rfl (fun t ht et => ?_) (fun nn => ?_)
        · refine And.intro (fun c => absurd c (by decide)) (fun _ => ?_)
          rw [et, hxi_s ht (by omega)] at hQ
          dsimp only at hQ
          subst et
          obtain ⟨g4, g40, gn, gj⟩ := GC.1 t ht
          refine And.intro (vp_in_nI (N := 4) hs (by omega)) ?_
          rw [nI_clamp (by omega)]
          refine And.intro (vp_in_nI (N := 4) ht (by omega)) ?_
          rw [nI_clamp (by omega)]
          cases e : X.2.2.2.2.1 t with
          | none =>
            rw [show hf_ro (G t) = (0, 0, 0) from if_pos (gn e)] at hQ
            rw [show ((hw R X).2 90).2.2 t = .null from congrArg hk_rr e]
            refine w_recv s5 ?_
            refine sp_stakeNull (by omega) hs ?_
            refine hk_qe_of (hQ _ _ (hf_shC_up S hs ⟨by show 0 ≤ 2; omega, by show 0 < 6; omega⟩ (fun _ => Or.inl ⟨rfl, rfl⟩) (fun j e => by cases e)) (hf_stC_xH GC (fun a k z => up2_a (by omega))) (fun a k z => up2_a (by omega)) ⟨rfl, rfl, rfl⟩ rfl)
          | some j =>
            obtain ⟨hj, nz, r0, rl, rv⟩ := gj j e
            rw [show hf_ro (G t) = (2, (G t).1 - 1, (G t).2.1) from if_neg nz] at hQ
            rw [show ((hw R X).2 90).2.2 t = .ref (127 + 2 * j) from congrArg hk_rr e]
            refine w_recv s5 ?_
            refine sp_stakeRow (by omega) hs ?_
            refine hk_qe_of (hQ _ _ (hf_shC_up S hs ⟨by show 2 ≤ 2; omega, by show (G t).1 - 1 < 6; omega⟩ (fun e => by cases e) (fun j' e' => ?_)) (hf_stC_xH GC (fun a k z => up2_a (by omega))) (fun a k z => up2_a (by omega)) ⟨rfl, rfl, rfl⟩ rfl)
            cases e'
            exact ⟨rfl, rfl, hj, r0, rl, by show (G t).1 - 1 < 4; omega, g40⟩
        · refine And.intro (fun _ => ?_) (fun c => absurd rfl c)
          rw [hxi_n (by omega) nn] at hQ
          refine And.intro (fun c => by rw [w1] at c; exact absurd c (by decide)) (fun _ => ?_)
          exact hk_qe_of (same _ hQ)
      · rw [if_neg w1] at hQ
        refine And.intro (fun c => absurd c w1) (fun _ => ?_)
        by_cases w2 : w = 2
        · rw [if_pos w2] at hQ
          refine And.intro (fun _ => ?_) (fun c => absurd w2 c)
          refine And.intro (vp_in_nI (N := 4) hs (by omega)) ?_
          rw [nI_clamp (by omega)]
          refine w_recv s5 ?_
          refine sp_stakeNull (by omega) hs ?_
          refine hk_qe_of (hQ _ _ (hf_shC_up S hs ⟨by show 0 ≤ 2; omega, by show 0 < 6; omega⟩ (fun _ => Or.inl ⟨rfl, rfl⟩) (fun j e => by cases e)) (hf_stC_xH GC (fun a k z => up2_a (by omega))) (fun a k z => up2_a (by omega)) ⟨rfl, rfl, rfl⟩ rfl)
        · rw [if_neg w2] at hQ
          refine And.intro (fun c => absurd c w2) (fun _ => ?_)
          exact hk_qe_of (same _ hQ)
  · refine And.intro (fun _ => ?_) (fun c => absurd rfl c)
    rw [hxi_n (by omega) nn] at hQ
    exact hk_qe_of (same _ hQ)
set_option maxHeartbeats 400000 in
theorem sp_cdraw {d : Nat} (hd : 2 < d) {R : Nat → Nat → Int32} {X : hk_D} {Q : hk_Q} {v : Int32} {P : hP} (K : hf_K 0 P R) (hQ : ∀ R', hf_K 0 (o_draw P (R 38 4) v).2.1 R' → R' 38 4 = (o_draw P (R 38 4) v).2.2 → (∀ a k, ¬ (39 ≤ a ∧ a ≤ 54) → ¬ (a = 38 ∧ k = 4) → R' a k = R a k) → Q (some (.int (o_draw P (R 38 4) v).1)) (hw R' X)) : hk_call d mC_draw [.ref 38, .int v] (hw R X) Q := by
  obtain ⟨d, rfl⟩ : ∃ e, d = e + 1 := ⟨d - 1, by omega⟩
  unfold o_draw at hQ
  refine hk_run2 (hk_call_m d) 100 ?_
  refine sp_isBelow (by omega) (n := 24) (by omega) rfl (fun g hg eg => ?_) (fun nn => ?_)
  · refine And.intro (fun c => absurd c (by decide)) (fun _ => ?_)
    rw [eg, hxi_s hg (by omega)] at hQ
    dsimp only at hQ
    subst eg
    refine w_put trivial rfl rfl ?_
    refine And.intro (by decide) (And.intro (by decide) ?_)
    refine sp_psetWind_0 (by omega) rfl hg ?_
    rw [up2_s, show R 38 4 * 1103515245 + 12345 = hf_zn (R 38 4) from rfl, hf_zd_e, hf_zf_e]
    generalize hf_zn (R 38 4) = z at hQ ⊢
    have K1 : hf_K 0 P (up2 R 38 4 z) := hf_K_fr K (fun a k q => up2_a (by omega))
    have K2 := hf_K_wind (g := g) K1 (hf_zd_lt z) (hf_zf_lt z)
    refine sp_pwindIn_0 (by omega) K2 rfl hg ?_
    refine hk_qe_of ?_
    rw [hf_up_r (show 0 ≠ 1 by decide), hf_up_s, hf_up_s]
    refine hQ _ K2 ?_ (fun a k q1 q2 => ?_)
    · rw [up2_a (by decide), up2_a (by decide), up2_s]
    · rw [up2_a (by omega), up2_a (by omega), up2_n q2]
  · refine And.intro (fun _ => ?_) (fun c => absurd rfl c)
    rw [hxi_n (by omega) nn] at hQ
    exact hk_qe_of (hQ R K rfl (fun _ _ _ _ => rfl))
