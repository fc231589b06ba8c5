/-! THE REFERENCE: blows -/
theorem sp_inR {d : Nat} (hd : 0 < d) {h : hk_Hp} {Q : hk_Q} {v a b : Int32} (h1 : ¬ v < a → ¬ b < v → Q (some (.int 1)) h) (h0 : v < a ∨ b < v → Q (some (.int 0)) h) : hk_call d mM_in [.int v, .int a, .int b] h Q := by
  obtain ⟨d, rfl⟩ : ∃ e, d = e + 1 := ⟨d - 1, by omega⟩
  refine hk_run2 (hk_call_m d) 100 ?_
  refine And.intro (fun c => ?_) (fun c => ?_)
  · exact And.intro (by decide) (hk_qe_of (h0 (Or.inl c)))
  · refine And.intro (fun c2 => ?_) (fun c2 => ?_)
    · exact And.intro (by decide) (hk_qe_of (h0 (Or.inr c2)))
    · exact And.intro (by decide) (hk_qe_of (h1 c c2))
def fl_x (d : Nat) (q n : Int32) : Int32 := hk_rem q 5 + (match d with
  | 1 => n
  | 3 => 0 - n
  | _ => 0)
def fl_y (d : Nat) (q n : Int32) : Int32 := q / 5 + (match d with
  | 2 => n
  | 0 => 0 - n
  | _ => 0)
def fl_b (d n q : Nat) : Bool :=
  let x := fl_x d (nI q) (nI n)
  let y := fl_y d (nI q) (nI n)
  bif (!decide (x < 0)) && (!decide (4 < x)) && (!decide (y < 0)) && (!decide (4 < y)) then Nat.blt (hf_fly d n q) 25 && decide (5 * y + x = nI (hf_fly d n q)) else Nat.beq (hf_fly d n q) 30
theorem fl_bt : ∀ d, d < 4 → ∀ n, n < 9 → ∀ q, q < 25 → fl_b d n q = true := by decide +kernel
theorem fl_dec (d : Nat) (hd : d < 4) (n : Nat) (hn : n < 9) (q : Nat) (hq : q < 25) : (¬ fl_x d (nI q) (nI n) < 0 ∧ ¬ 4 < fl_x d (nI q) (nI n) ∧ ¬ fl_y d (nI q) (nI n) < 0 ∧ ¬ 4 < fl_y d (nI q) (nI n) → hf_fly d n q < 25 ∧ 5 * fl_y d (nI q) (nI n) + fl_x d (nI q) (nI n) = nI (hf_fly d n q)) ∧
  (fl_x d (nI q) (nI n) < 0 ∨ 4 < fl_x d (nI q) (nI n) ∨ fl_y d (nI q) (nI n) < 0 ∨ 4 < fl_y d (nI q) (nI n) → hf_fly d n q = 30) := by
  have h := fl_bt d hd n hn q hq
  unfold fl_b at h
  dsimp only at h
  constructor
  · rintro ⟨a, b, c, e⟩
    rw [decide_eq_false a, decide_eq_false b, decide_eq_false c, decide_eq_false e] at h
    have h : (Nat.blt (hf_fly d n q) 25 && decide (5 * fl_y d (nI q) (nI n) + fl_x d (nI q) (nI n) = nI (hf_fly d n q))) = true := h
    rw [Bool.and_eq_true] at h
    exact ⟨hk_blt h.1, of_decide_eq_true h.2⟩
  · intro g
    have e : ((!decide (fl_x d (nI q) (nI n) < 0)) && (!decide (4 < fl_x d (nI q) (nI n))) && (!decide (fl_y d (nI q) (nI n) < 0)) && (!decide (4 < fl_y d (nI q) (nI n)))) = false := by
      rcases g with g | g | g | g <;> simp [g]
    rw [e] at h
    exact Nat.eq_of_beq_eq_true h
theorem hf_drops_P {P : hP} {f m r j : Nat} (h : ¬ (r = 10 ∧ j < m)) : hf_drops P f m r j = P r j := if_neg h
theorem hf_mix_P {P : hP} {dir f m n r j : Nat} (h : r ≠ 10) : hf_mix P dir f m n r j = P r j := by
  unfold hf_mix
  rw [if_neg (fun q => h q.1), hf_drops_P (fun q => h q.1)]
theorem hf_mix_at {P : hP} {dir f m n : Nat} (h : n < m) : hf_mix P dir f m n 10 n = hf_drop P f n := by
  unfold hf_mix hf_drops
  rw [if_neg (by omega), if_pos ⟨rfl, h⟩]
set_option maxHeartbeats 4000000 in
theorem sp_mblows {d : Nat} (hd : 3 < d) {R0 : Nat → Nat → Int32} {X : hk_D} {Q : hk_Q} {v1 v2 : Int32} {o dir f : Nat} {P : hP} (M : hf_M o P R0) (e1 : v1 = nI dir) (e2 : v2 = nI f) (hdir : dir < 4) (hf : f < 10) (hQ : ∀ R', hf_M o (hf_blow P dir f (P 3 0)) R' → hfr o R0 R' → Q none (hw R' X)) : hk_call d mM_blows [.ref 98, .int v1, .int v2] (hw R0 X) Q := by
  obtain ⟨d, rfl⟩ : ∃ e, d = e + 1 := ⟨d - 1, by omega⟩
  subst e1; subst e2
  have h6 := M.2.2.2.2.2.1
  have h18 := M.2.2.2.1
  have L2 : ∀ j, j ≤ P 3 0 → ∀ R, hf_M o (hf_mix P dir f (P 3 0) j) R → hfr o R0 R → hk_wp none 0 0 hk_dft cM_blows (hk_call d) (hk_qe Q) 24 [(3, .int (nI j)), (0, .ref 98), (1, .int (nI dir)), (2, .int (nI f))] [] (hw R X) 0 0 := by
    refine hk_for ?_ ?_
    · intro R MR fr
      refine hk_run2 (hk_call_m d) 100 ?_
      have eh : R 98 4 = nI (P 3 0) := by rw [MR.1.2.1, hf_mix_P (by decide)]
      rw [hf_mix_e] at MR
      refine And.intro (fun c => hk_qe_of (hQ R MR fr)) (fun c => ?_)
      exact absurd (by rw [eh]; exact nI_le (Nat.le_refl _) (by omega)) c
    · intro j hj ih R MR fr
      have n3 : hf_mix P dir f (P 3 0) j 3 0 = P 3 0 := hf_mix_P (by decide)
      have hj' : j < hf_mix P dir f (P 3 0) j 3 0 := by rw [n3]; exact hj
      have eh : R 98 4 = nI (P 3 0) := by rw [MR.1.2.1, n3]
      have okj := MR.2.2.2.2
      have ho := MR.2.2.1
      have hmd := MR.2.1.2.2 j hj'
      rw [hf_mix_at hj] at hmd
      have ek : hf_mix P dir f (P 3 0) j 7 j = P 7 j := hf_mix_P (by decide)
      refine hk_run2 (hk_call_m d) 200 ?_
      refine And.intro (fun c => absurd c (by rw [eh]; exact nI_ge hj (by omega))) (fun c => ?_)
      refine sp_isLying (by omega) MR hj' rfl (fun hl => ?_) (fun hl => ?_)
      · rw [hf_mix_at hj] at hl
        refine And.intro (fun c => absurd c (by decide)) (fun _ => ?_)
        refine sp_mflies (by omega) MR.1 okj hj' rfl rfl hf ?_
        rw [ek]
        have kk6 : P 7 j < 6 := by have := (okj.2.2.2.2.2 j hj').1; rw [ek] at this; exact this
        have hfl := hf_flies_lt (P 7 j) kk6 f hf
        have ec : R 105 (o + (12 + j)) = nI (hf_drop P f j) := hmd.2.1 hl
        have hfd := fl_dec dir hdir (hf_flies (P 7 j) f) hfl (hf_drop P f j) hl
        have eair : hf_air P dir f j (hf_drop P f j) = hf_fly dir (hf_flies (P 7 j) f) (hf_drop P f j) := if_pos hl
        -- what follows the choice of the way
        have key : hk_wp none 0 0 hk_dft cM_blows (hk_call d) (hk_qe Q) 80 [(6, .int (fl_y dir (nI (hf_drop P f j)) (nI (hf_flies (P 7 j) f)))), (5, .int (fl_x dir (nI (hf_drop P f j)) (nI (hf_flies (P 7 j) f)))), (4, .int (nI (hf_flies (P 7 j) f))), (3, .int (nI j)), (0, .ref 98), (1, .int (nI dir)), (2, .int (nI f))] [] (hw R X) 0 0 := by
          generalize fl_x dir (nI (hf_drop P f j)) (nI (hf_flies (P 7 j) f)) = xx at hfd ⊢
          generalize fl_y dir (nI (hf_drop P f j)) (nI (hf_flies (P 7 j) f)) = yy at hfd ⊢
          have bad : (hf_fly dir (hf_flies (P 7 j) f) (hf_drop P f j) = 30) → hk_ru none 0 0 cM_blows (hk_call d) (hk_qe Q) 90 101 [(6, .int yy), (5, .int xx), (4, .int (nI (hf_flies (P 7 j) f))), (3, .int (nI j)), (0, .ref 98), (1, .int (nI dir)), (2, .int (nI f))] [.int (-1), .int (12 + nI j), .ref 98] (hw R X) 0 0 := by
            intro e30
            refine sp_becomes (by omega) ho (j := 12 + j) (by rw [← nI_add]; rfl) (by omega) ?_
            refine Exists.intro [0, 4, 5, 6] ?_
            rw [nI_1]
            refine hk_stop2 (hk_call_m d) (ih _ ?_ (hfr_tr fr (hfr_up (by omega))))
            rw [hf_mix_s, eair, e30]
            refine hf_M_hat MR hj' (Or.inr (Or.inr rfl)) (fun a k q => up2_n (fun z => q ⟨z.1, Or.inr z.2⟩)) ?_ (fun q => absurd q (by decide)) (fun _ => up2_s _ _ _ _)
            rw [up2_k (by omega), hmd.1, hf_mw_n (by omega)]; rfl
          refine hk_run2 (hk_call_m d) 100 ?_
          refine sp_inR (by omega) (fun g1 g2 => ?_) (fun g1 => ?_)
          · refine And.intro (fun c => absurd c (by decide)) (fun _ => ?_)
            refine sp_inR (by omega) (fun g3 g4 => ?_) (fun g3 => ?_)
            · refine And.intro (fun c => absurd c (by decide)) (fun _ => ?_)
              obtain ⟨q1, q2⟩ := hfd.1 ⟨g1, g2, g3, g4⟩
              refine sp_becomes (by omega) ho (j := 12 + j) (by rw [← nI_add]; rfl) (by omega) ?_
              rw [q2]
              refine Exists.intro [0, 4, 5, 6] ?_
              rw [nI_1]
              refine hk_stop2 (hk_call_m d) (ih _ ?_ (hfr_tr fr (hfr_up (by omega))))
              rw [hf_mix_s, eair]
              refine hf_M_hat MR hj' (Or.inl q1) (fun a k q => up2_n (fun z => q ⟨z.1, Or.inr z.2⟩)) ?_ (fun _ => up2_s _ _ _ _) (fun q => by omega)
              rw [up2_k (by omega), hmd.1, hf_mw_n (by omega), hf_mw_n (by omega)]
            · refine And.intro (fun _ => ?_) (fun c => absurd rfl c)
              have e30 := hfd.2 (by rcases g3 with q | q; exact Or.inr (Or.inr (Or.inl q)); exact Or.inr (Or.inr (Or.inr q)))
              refine hk_stop2 (hk_call_m d) (hk_run2 (hk_call_m d) 1 ?_)
              exact hk_run2 (hk_call_m d) 90 (bad e30)
          · refine And.intro (fun _ => ?_) (fun c => absurd rfl c)
            have e30 := hfd.2 (by rcases g1 with q | q; exact Or.inl q; exact Or.inr (Or.inl q))
            refine hk_stop2 (hk_call_m d) (hk_run2 (hk_call_m d) 1 ?_)
            exact hk_run2 (hk_call_m d) 90 (bad e30)
        refine sp_its (by omega) ho (j := 12 + j) (by rw [← nI_add]; rfl) (by omega) ?_
        rw [ec]
        refine And.intro (by decide) ?_
        have hdc : dir = 0 ∨ dir = 1 ∨ dir = 2 ∨ dir = 3 := by omega
        rcases hdc with rfl | rfl | rfl | rfl
        · refine And.intro (fun c => absurd c (by decide)) (fun _ => ?_)
          refine And.intro (fun c => absurd c (by decide)) (fun _ => ?_)
          refine sp_its (by omega) ho (j := 12 + j) (by rw [← nI_add]; rfl) (by omega) ?_
          rw [ec]
          refine And.intro (by decide) ?_
          refine And.intro (fun c => absurd c (by decide)) (fun _ => ?_)
          refine And.intro (fun _ => ?_) (fun c => absurd rfl c)
          refine hk_stop2 (hk_call_m d) (hk_run2 (hk_call_m d) 6 ?_)
          exact key
        · refine And.intro (fun _ => ?_) (fun c => absurd rfl c)
          refine sp_its (by omega) ho (j := 12 + j) (by rw [← nI_add]; rfl) (by omega) ?_
          rw [ec]
          refine And.intro (by decide) ?_
          refine And.intro (fun c => absurd c (by decide)) (fun _ => ?_)
          refine And.intro (fun c => absurd c (by decide)) (fun _ => ?_)
          refine hk_stop2 (hk_call_m d) (hk_run2 (hk_call_m d) 3 ?_)
          exact key
        · refine And.intro (fun c => absurd c (by decide)) (fun _ => ?_)
          refine And.intro (fun c => absurd c (by decide)) (fun _ => ?_)
          refine sp_its (by omega) ho (j := 12 + j) (by rw [← nI_add]; rfl) (by omega) ?_
          rw [ec]
          refine And.intro (by decide) ?_
          refine And.intro (fun _ => ?_) (fun c => absurd rfl c)
          refine hk_stop2 (hk_call_m d) (hk_run2 (hk_call_m d) 4 ?_)
          exact key
        · refine And.intro (fun c => absurd c (by decide)) (fun _ => ?_)
          refine And.intro (fun _ => ?_) (fun c => absurd rfl c)
          refine sp_its (by omega) ho (j := 12 + j) (by rw [← nI_add]; rfl) (by omega) ?_
          rw [ec]
          refine And.intro (by decide) ?_
          refine And.intro (fun c => absurd c (by decide)) (fun _ => ?_)
          refine And.intro (fun c => absurd c (by decide)) (fun _ => ?_)
          refine hk_stop2 (hk_call_m d) (hk_run2 (hk_call_m d) 3 ?_)
          exact key
      · rw [hf_mix_at hj] at hl
        refine And.intro (fun _ => ?_) (fun c => absurd rfl c)
        refine Exists.intro [0, 1, 2, 3] ?_
        rw [nI_1]
        refine hk_stop2 (hk_call_m d) (ih R ?_ fr)
        rw [hf_mix_s, show hf_air P dir f j (hf_drop P f j) = hf_mix P dir f (P 3 0) j 10 j by rw [hf_mix_at hj]; exact if_neg hl, hf_upself]
        exact MR
  have L1 : ∀ j, j ≤ P 3 0 → ∀ R, hf_M o (hf_drops P f j) R → hfr o R0 R → hk_wp none 0 0 hk_dft cM_blows (hk_call d) (hk_qe Q) 2 [(3, .int (nI j)), (0, .ref 98), (1, .int (nI dir)), (2, .int (nI f))] [] (hw R X) 0 0 := by
    refine hk_for ?_ ?_
    · intro R MR fr
      refine hk_run2 (hk_call_m d) 100 ?_
      have eh : R 98 4 = nI (P 3 0) := by rw [MR.1.2.1, hf_drops_P (by omega)]
      refine And.intro (fun c => ?_) (fun c => absurd (by rw [eh]; exact nI_le (Nat.le_refl _) (by omega)) c)
      refine hk_stop2 (hk_call_m d) (hk_run2 (hk_call_m d) 2 ?_)
      exact L2 0 (Nat.zero_le _) R (by rw [hf_mix_0]; exact MR) fr
    · intro j hj ih R MR fr
      have n3 : hf_drops P f j 3 0 = P 3 0 := hf_drops_P (by omega)
      have hj' : j < hf_drops P f j 3 0 := by rw [n3]; exact hj
      have eh : R 98 4 = nI (P 3 0) := by rw [MR.1.2.1, n3]
      have okj := MR.2.2.2.2
      have ho := MR.2.2.1
      have hmd := MR.2.1.2.2 j hj'
      have eq : hf_drops P f j 10 j = P 10 j := hf_drops_P (by omega)
      have e7 : hf_drops P f j 7 j = P 7 j := hf_drops_P (by omega)
      have e8 : hf_drops P f j 8 j = P 8 j := hf_drops_P (by omega)
      have e5 : ∀ p, hf_drops P f j 5 p = P 5 p := fun p => hf_drops_P (by omega)
      have same : hf_drop P f j = P 10 j → hf_drops P f (j + 1) = hf_drops P f j := fun q => by rw [hf_drops_s, q, ← eq, hf_upself]
      have back : hf_drop P f j = P 10 j → hk_wp none 0 0 hk_dft cM_blows (hk_call d) (hk_qe Q) 20 [(3, .int (nI j)), (0, .ref 98), (1, .int (nI dir)), (2, .int (nI f))] [] (hw R X) 0 0 := by
        intro q
        refine hk_run2 (hk_call_m d) 100 ?_
        refine Exists.intro [0, 1, 2, 3] ?_
        rw [nI_1]
        exact hk_stop2 (hk_call_m d) (ih R (by rw [same q]; exact MR) fr)
      refine hk_run2 (hk_call_m d) 200 ?_
      refine And.intro (fun c => absurd c (by rw [eh]; exact nI_ge hj (by omega))) (fun c => ?_)
      refine sp_its (by omega) ho (j := 6 + j) (by rw [← nI_add]; rfl) (by omega) ?_
      rw [hmd.1, eq]
      refine And.intro (fun c => ?_) (fun c => ?_)
      · refine hk_stop2 (hk_call_m d) (back ?_)
        refine if_neg (fun q => ?_)
        rw [hf_mw_w ⟨q.1, q.2.1⟩] at c
        exact absurd c (hn_npos (by omega))
      · have hw1 : 25 ≤ P 10 j ∧ P 10 j < 30 := by
          by_cases q : 25 ≤ P 10 j ∧ P 10 j < 30
          · exact q
          · exact absurd (by rw [hf_mw_n q]; decide) c
        refine sp_mholds (by omega) MR.1 okj hj' rfl ?_
        rw [e7, e8]
        have k1 := (okj.2.2.2.2.2 j hj').1
        have k2 := (okj.2.2.2.2.2 j hj').2.1
        rw [e7] at k1
        rw [e8] at k2
        have hh := hf_holds_lt (P 7 j) k1 (P 8 j) k2
        refine And.intro (fun c => ?_) (fun c => ?_)
        · refine hk_stop2 (hk_call_m d) (back (if_neg (fun q => ?_)))
          have := (nI_leI (by omega) (by omega)).mp c
          omega
        · have hlt : hf_holds (P 7 j) (P 8 j) < f := by
            rcases Nat.lt_or_ge (hf_holds (P 7 j) (P 8 j)) f with q | q
            · exact q
            · exact absurd (nI_le q (by omega)) c
          refine sp_mlays (by omega) MR hj' rfl (by rw [eq]; exact hw1) (fun R' MR' fr' _ => ?_)
          refine Exists.intro [0, 1, 2, 3] ?_
          rw [nI_1]
          refine hk_stop2 (hk_call_m d) (ih R' ?_ (hfr_tr fr fr'))
          rw [eq, e5] at MR'
          rw [hf_drops_s, show hf_drop P f j = P 5 (P 10 j - 25) from if_pos ⟨hw1.1, hw1.2, hlt⟩]
          exact MR'
  refine hk_run2 (hk_call_m d) 2 ?_
  exact L1 0 (Nat.zero_le _) R0 (by rw [hf_drops_0]; exact M) hfr_rf
