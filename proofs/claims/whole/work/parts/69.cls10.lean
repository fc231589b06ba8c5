/-! THE CLASS: rows, how many, kept -/
def hf_TC (n : Nat) (T : Nat → Int32) (R : Nat → Nat → Int32) : Prop := n ≤ 20 ∧ R 38 8 = nI n ∧ ∀ i, i < 3 * n → R 89 i = T i
theorem sp_cisRowPart {d : Nat} (hd : 1 < d) {R : Nat → Nat → Int32} {X : hk_D} {Q : hk_Q} {v w : Int32} {n : Nat} (en : R 38 8 = nI n) (hn : n ≤ 20) (h1 : ∀ i j, i < n → j < 3 → v = nI i → w = nI j → Q (some (.int 1)) (hw R X)) (h0 : (∀ i j, i < n → j < 3 → ¬ (v = nI i ∧ w = nI j)) → Q (some (.int 0)) (hw R X)) : hk_call d mC_isRowPart [.ref 38, .int v, .int w] (hw R X) Q := by
  obtain ⟨d, rfl⟩ : ∃ e, d = e + 1 := ⟨d - 1, by omega⟩
  refine hk_run2 (hk_call_m d) 100 ?_
  refine sp_isBelow (by omega) (n := n) (by omega) en (fun i hi ei => ?_) (fun nn => ?_)
  · refine And.intro (fun c => absurd c (by decide)) (fun _ => ?_)
    refine sp_isBelow (by omega) (n := 3) (by omega) rfl (fun j hj ej => ?_) (fun nn => ?_)
    · refine And.intro (fun c => absurd c (by decide)) (fun _ => ?_)
      exact And.intro (by decide) (hk_qe_of (h1 i j hi hj ei ej))
    · refine And.intro (fun _ => ?_) (fun c => absurd rfl c)
      exact And.intro (by decide) (hk_qe_of (h0 (fun i j _ hj z => nn j hj z.2)))
  · refine And.intro (fun _ => ?_) (fun c => absurd rfl c)
    exact And.intro (by decide) (hk_qe_of (h0 (fun i j hi _ z => nn i hi z.1)))
theorem sp_crow {d : Nat} (hd : 2 < d) {R : Nat → Nat → Int32} {X : hk_D} {Q : hk_Q} {v w : Int32} {n : Nat} {T : Nat → Int32} (H : hf_TC n T R) (hQ : Q (some (.int (a_row n T v w))) (hw R X)) : hk_call d mC_row [.ref 38, .int v, .int w] (hw R X) Q := by
  obtain ⟨d, rfl⟩ : ∃ e, d = e + 1 := ⟨d - 1, by omega⟩
  have hn := H.1
  refine hk_run2 (hk_call_m d) 100 ?_
  refine sp_cisRowPart (by omega) H.2.1 H.1 (fun i j hi hj ei ej => ?_) (fun nn => ?_)
  · refine And.intro (fun c => absurd c (by decide)) (fun _ => ?_)
    subst ei; subst ej
    rw [a_row_s hn hi hj] at hQ
    refine w_ld (j := 3 * i + j) (n := 60) (hn_3 i j) rfl (by omega) (by omega) rfl (H.2.2 _ (by omega)) ?_
    exact hk_qe_of hQ
  · refine And.intro (fun _ => ?_) (fun c => absurd rfl c)
    rw [a_row_n hn nn] at hQ
    exact hk_qe_of hQ
theorem sp_calterRow {d : Nat} (hd : 2 < d) {R : Nat → Nat → Int32} {X : hk_D} {Q : hk_Q} {v w x : Int32} {n : Nat} {T : Nat → Int32} (H : hf_TC n T R) (hQ : ∀ R', hf_TC n (n_row n T v w x) R' → (∀ a k, a ≠ 89 → R' a k = R a k) → Q (some (.int (a_row n T v w))) (hw R' X)) : hk_call d mC_alterRow [.ref 38, .int v, .int w, .int x] (hw R X) Q := by
  obtain ⟨d, rfl⟩ : ∃ e, d = e + 1 := ⟨d - 1, by omega⟩
  have hn := H.1
  refine hk_run2 (hk_call_m d) 100 ?_
  refine sp_cisRowPart (by omega) H.2.1 H.1 (fun i j hi hj ei ej => ?_) (fun nn => ?_)
  · refine And.intro (fun c => absurd c (by decide)) (fun _ => ?_)
    subst ei; subst ej
    rw [a_row_s hn hi hj, n_row_s hn hi hj] at hQ
    refine w_ld (j := 3 * i + j) (n := 60) (hn_3 i j) rfl (by omega) (by omega) rfl (H.2.2 _ (by omega)) ?_
    refine w_st (t := 0) (j := 3 * i + j) (n := 60) (hn_3 i j) rfl (by omega) (by omega) rfl rfl ?_
    refine hk_qe_of (hQ _ ⟨hn, ?_, fun k hk => ?_⟩ (fun a k q => up2_a q))
    · rw [up2_a (by decide)]; exact H.2.1
    · show _ = if k = 3 * i + j then x else T k
      by_cases e : k = 3 * i + j
      · rw [if_pos e, e, up2_s]
      · rw [if_neg e, up2_k e]; exact H.2.2 k hk
  · refine And.intro (fun _ => ?_) (fun c => absurd rfl c)
    rw [a_row_n hn nn, n_row_n hn nn] at hQ
    exact hk_qe_of (hQ R H (fun _ _ _ => rfl))
theorem hf_pT_at (P : hP) {i t : Nat} (ht : t < 3) : hf_pT P (3 * i + t) = nI (hf_rw (hf_hours (i + 1) P) t) := by
  unfold hf_pT
  rw [show (3 * i + t) / 3 = i by omega, show (3 * i + t) % 3 = t by omega]
theorem hn_30 (i : Nat) : (3 : Int32) * nI i = nI (3 * i + 0) := hn_mul 3 i
/-- trial, rows and their number have changed at most -/
def hfk (R R' : Nat → Nat → Int32) : Prop := ∀ a k, ¬ (55 ≤ a ∧ a ≤ 70) → ¬ a = 89 → ¬ (a = 38 ∧ k = 8) → R' a k = R a k
theorem hfk_tr {R R1 R2 : Nat → Nat → Int32} (h1 : hfk R R1) (h2 : hfk R1 R2) : hfk R R2 := fun a k q1 q2 q3 => (h2 a k q1 q2 q3).trans (h1 a k q1 q2 q3)
theorem hfk_c {R R' : Nat → Nat → Int32} (h : hfc 1 R R') : hfk R R' := fun a k q1 _ _ => h a k (by omega)
theorem hfk_89 {R : Nat → Nat → Int32} {k : Nat} {v : Int32} : hfk R (up2 R 89 k v) := fun a j _ q _ => up2_a q
theorem hfk_38 {R : Nat → Nat → Int32} {v : Int32} : hfk R (up2 R 38 8 v) := fun a j _ _ q => up2_n q
set_option maxHeartbeats 1000000 in
theorem sp_cprove {d : Nat} (hd : 5 < d) {R : Nat → Nat → Int32} {X : hk_D} {Q : hk_Q} {v : Int32} {P : hP} (K : hf_K 0 P R) (h1 : ∀ k, 1 ≤ k → k < 21 → v = nI k → ∀ R', hf_TC (hf_rn k P) (hf_pT P) R' → hfk R R' → Q (some (.int (nI (hf_rn k P)))) (hw R' X)) (h0 : (∀ k, 1 ≤ k → k < 21 → v ≠ nI k) → Q (some (.int (-1))) (hw R X)) : hk_call d mC_prove [.ref 38, .int v] (hw R X) Q := by
  obtain ⟨d, rfl⟩ : ∃ e, d = e + 1 := ⟨d - 1, by omega⟩
  have key : ∀ k, 1 ≤ k → k < 21 → v = nI k → (∀ R', hf_TC (hf_rn k P) (hf_pT P) R' → hfk R R' → Q (some (.int (nI (hf_rn k P)))) (hw R' X)) → ∀ j, j ≤ k → ∀ R1, hf_K 1 (hf_hours j P) R1 → hf_rn k P = j + hf_rn (k - j) (hf_hours j P) → hfk R R1 → R1 38 8 = nI j → (∀ t, t < 3 * j → R1 89 t = hf_pT P t) → hk_wp (some .int) 0 0 hk_dft cC_prove (hk_call d) (hk_qe Q) 18 [(2, .int (nI j)), (0, .ref 38), (1, .int v)] [] (hw R1 X) 0 0 := by
    intro k k1 k2 ev hQ
    subst ev
    have fin : ∀ j, j ≤ 20 → ∀ R1, hf_rn k P = j → hfk R R1 → R1 38 8 = nI j → (∀ t, t < 3 * j → R1 89 t = hf_pT P t) → hk_qe Q (some (.int (R1 38 8))) (hw R1 X) := by
      intro j hj R1 e f r8 rt
      rw [r8]
      rw [e] at hQ
      exact hk_qe_of (hQ R1 ⟨hj, r8, rt⟩ f)
    refine hk_for ?_ ?_
    · intro R1 K1 er f1 r8 rt
      refine hk_run2 (hk_call_m d) 100 ?_
      refine And.intro (fun c => ?_) (fun c => absurd (nI_le (Nat.le_refl _) (by omega)) c)
      refine fin k (by omega) R1 ?_ f1 r8 rt
      rw [er, Nat.sub_self]; rfl
    · intro j hj ih R1 K1 er f1 r8 rt
      have en : R1 55 6 = nI (hf_hours j P 4 0) := K1.1.2.2.1
      have n4 := K1.2.2.2.1
      rw [show k - j = (k - (j + 1)) + 1 by omega, hf_rn] at er
      have hs := hf_hours_s j P
      refine hk_run2 (hk_call_m d) 200 ?_
      refine And.intro (fun c => absurd c (nI_ge hj (by omega))) (fun c => ?_)
      refine And.intro (fun c2 => ?_) (fun c2 => ?_)
      · rw [en] at c2
        rw [if_neg (fun z => absurd c2 (nI_ge (b := 96) z (by omega)))] at er
        exact fin j (by omega) R1 er f1 r8 rt
      · have lt : hf_hours j P 4 0 < 96 := Classical.byContradiction (fun z => c2 (by rw [en]; exact nI_le (a := 96) (by omega) (by omega)))
        rw [if_pos lt] at er hs
        refine sp_ppassHour_1 (by omega) K1 (by omega) (fun R2 K2 f2 => ?_)
        rw [← hs] at K2 er
        have en2 : R2 55 6 = nI (hf_hours (j + 1) P 4 0) := K2.1.2.2.1
        refine w_st (t := 0) (j := 3 * j + 0) (n := 60) (hn_30 j) rfl (by omega) (by omega) rfl rfl ?_
        have K3 : hf_K 1 (hf_hours (j + 1) P) (up2 R2 89 (3 * j + 0) (R2 55 6)) := hf_K_fr K2 (fun a k z => up2_a (by omega))
        refine sp_pallWorn_1 (by omega) K3 ?_
        refine w_st (t := 0) (j := 3 * j + 1) (n := 60) (hn_3 j 1) rfl (by omega) (by omega) rfl rfl ?_
        have K4 : hf_K 1 (hf_hours (j + 1) P) (up2 (up2 R2 89 (3 * j + 0) (R2 55 6)) 89 (3 * j + 1) (nI (hf_bits (hf_wa (hf_hours (j + 1) P)) (hf_hours (j + 1) P 3 0)))) := hf_K_fr K3 (fun a k z => up2_a (by omega))
        refine sp_pallGone_1 (by omega) K4 ?_
        refine w_st (t := 0) (j := 3 * j + 2) (n := 60) (hn_3 j 2) rfl (by omega) (by omega) rfl rfl ?_
        refine w_put trivial rfl rfl ?_
        refine Exists.intro [0, 1, 2] ?_
        rw [nI_1]
        refine hk_stop2 (hk_call_m d) (ih _ ?_ ?_ ?_ ?_ ?_)
        · exact hf_K_fr K4 (fun a k z => by rw [up2_a (by omega), up2_a (by omega)])
        · rw [er]; omega
        · exact hfk_tr f1 (hfk_tr (hfk_c f2) (hfk_tr hfk_89 (hfk_tr hfk_89 (hfk_tr hfk_89 hfk_38))))
        · rw [up2_s, up2_a (by decide), up2_a (by decide), up2_a (by decide), f2 38 8 (by omega), r8, nI_1]
        · intro t ht
          rw [up2_a (by decide)]
          by_cases e2 : t = 3 * j + 2
          · rw [e2, up2_s, hf_pT_at P (by omega)]; rfl
          · rw [up2_k e2]
            by_cases e1 : t = 3 * j + 1
            · rw [e1, up2_s, hf_pT_at P (by omega)]; rfl
            · rw [up2_k e1]
              by_cases e0 : t = 3 * j + 0
              · rw [e0, up2_s, hf_pT_at P (by omega), en2]; rfl
              · rw [up2_k e0, f2 89 t (by omega)]; exact rt t (by omega)
  refine hk_run2 (hk_call_m d) 100 ?_
  refine And.intro (fun c => ?_) (fun c => ?_)
  · refine hk_qe_of (h0 (fun k k1 k2 e => ?_))
    rw [e] at c
    exact absurd c (by rw [hn_lt, hn_i (by omega)]; have : (1 : Int32).toInt = 1 := rfl; omega)
  · have c0 : ¬ v < 0 := fun q => c (by rw [hn_lt] at q ⊢; have : (0 : Int32).toInt = 0 := rfl; have : (1 : Int32).toInt = 1 := rfl; omega)
    refine And.intro (fun c2 => ?_) (fun c2 => ?_)
    · obtain ⟨k, hk, e⟩ := hn_in (v := v) (n := 20) (by omega) c0 (fun z => by rw [hn_lt] at z; rw [hn_le] at c2; have : (nI 20).toInt = (20 : Int32).toInt := rfl; omega)
      have k1 : 1 ≤ k := by
        rcases Nat.eq_zero_or_pos k with z | z
        · subst z; rw [e] at c; exact absurd (by decide) c
        · exact z
      refine sp_pcopyFrom_10 (by omega) K (fun R1 K1 f1 => ?_)
      refine w_rn (hk_stop2 (hk_call_m d) (hk_run2 (hk_call_m d) 5 ?_))
      refine w_put trivial rfl rfl ?_
      refine key k k1 hk e (h1 k k1 hk e) 0 (Nat.zero_le _) _ (hf_K_fr K1 (fun a k z => up2_a (by omega))) ?_ (hfk_tr (hfk_c f1) hfk_38) (up2_s _ _ _ _) (fun t ht => absurd ht (Nat.not_lt_zero t))
      rw [Nat.zero_add, Nat.sub_zero]; rfl
    · refine hk_qe_of (h0 (fun k k1 k2 e => hn_out (n := 20) (by omega) (Or.inr ?_) k2 e))
      rw [hn_lt]; rw [hn_le] at c2; have : (nI 20).toInt = (20 : Int32).toInt := rfl; omega
set_option maxHeartbeats 400000 in
theorem sp_cisRowOfTrial {d : Nat} (hd : 2 < d) {R : Nat → Nat → Int32} {X : hk_D} {Q : hk_Q} {v : Int32} {i : Nat} {S : hP} (K : hf_K 1 S R) (ev : v = nI i) (hi : i < 20) (h1 : (∀ t, t < 3 → R 89 (3 * i + t) = nI (hf_rw S t)) → Q (some (.int 1)) (hw R X)) (h0 : ¬ (∀ t, t < 3 → R 89 (3 * i + t) = nI (hf_rw S t)) → Q (some (.int 0)) (hw R X)) : hk_call d mC_isRowOfTrial [.ref 38, .int v] (hw R X) Q := by
  obtain ⟨d, rfl⟩ : ∃ e, d = e + 1 := ⟨d - 1, by omega⟩
  subst ev
  have en : R 55 6 = nI (S 4 0) := K.1.2.2.1
  refine hk_run2 (hk_call_m d) 200 ?_
  refine w_ld (j := 3 * i + 0) (n := 60) (hn_30 i) rfl (by omega) (by omega) rfl rfl ?_
  refine And.intro (fun c => ?_) (fun c => ?_)
  · refine w_ld (j := 3 * i + 1) (n := 60) (hn_3 i 1) rfl (by omega) (by omega) rfl rfl ?_
    refine sp_pallWorn_1 (by omega) K ?_
    refine And.intro (fun c2 => ?_) (fun c2 => ?_)
    · refine w_ld (j := 3 * i + 2) (n := 60) (hn_3 i 2) rfl (by omega) (by omega) rfl rfl ?_
      refine sp_pallGone_1 (by omega) K ?_
      refine And.intro (fun c3 => ?_) (fun c3 => ?_)
      · refine And.intro (by decide) (hk_qe_of (h1 (fun t ht => ?_)))
        have : t = 0 ∨ t = 1 ∨ t = 2 := by omega
        rcases this with e | e | e
        · subst e; rw [c, en]; rfl
        · subst e; exact c2
        · subst e; exact c3
      · exact And.intro (by decide) (hk_qe_of (h0 (fun z => c3 (z 2 (by omega)))))
    · exact And.intro (by decide) (hk_qe_of (h0 (fun z => c2 (z 1 (by omega)))))
  · exact And.intro (by decide) (hk_qe_of (h0 (fun z => c (by rw [en]; exact z 0 (by omega)))))
set_option maxHeartbeats 400000 in
theorem sp_cjudge {d : Nat} (hd : 4 < d) {R : Nat → Nat → Int32} {X : hk_D} {Q : hk_Q} {P : hP} {n : Nat} {T : Nat → Int32} (K : hf_K 0 P R) (H : hf_TC n T R) (hQ : ∀ R', hfc 1 R R' → Q (some (.int (hf_jd T (hf_pT P) (hf_rn n P) n 0))) (hw R' X)) : hk_call d mC_judge [.ref 38] (hw R X) Q := by
  obtain ⟨d, rfl⟩ : ∃ e, d = e + 1 := ⟨d - 1, by omega⟩
  obtain ⟨hn, r8, rt⟩ := H
  have L : ∀ j, j ≤ n → ∀ R1, hf_K 1 (hf_hours j P) R1 → hf_rn n P = j + hf_rn (n - j) (hf_hours j P) → hfc 1 R R1 → (∀ R', hfc 1 R R' → Q (some (.int (hf_jd T (hf_pT P) (hf_rn n P) (n - j) j))) (hw R' X)) → hk_wp (some .int) 0 0 hk_dft cC_judge (hk_call d) (hk_qe Q) 7 [(1, .int (nI j)), (0, .ref 38)] [] (hw R1 X) 0 0 := by
    refine hk_for ?_ ?_
    · intro R1 K1 er f1 hQ
      rw [Nat.sub_self] at hQ
      refine hk_run2 (hk_call_m d) 100 ?_
      refine And.intro (fun c => ?_) (fun c => absurd (by rw [f1 38 8 (by omega), r8]; exact nI_le (Nat.le_refl _) (by omega)) c)
      exact hk_qe_of (hQ R1 f1)
    · intro j hj ih R1 K1 er f1 hQ
      have en : R1 55 6 = nI (hf_hours j P 4 0) := K1.1.2.2.1
      have n4 := K1.2.2.2.1
      rw [show n - j = (n - (j + 1)) + 1 by omega, hf_rn] at er
      rw [show n - j = (n - (j + 1)) + 1 by omega, hf_jd] at hQ
      have hs := hf_hours_s j P
      refine hk_run2 (hk_call_m d) 200 ?_
      refine And.intro (fun c => absurd c (by rw [f1 38 8 (by omega), r8]; exact nI_ge hj (by omega))) (fun c => ?_)
      refine And.intro (fun c2 => ?_) (fun c2 => ?_)
      · rw [en] at c2
        have lt : hf_hours j P 4 0 < 96 := (nI_ltI (b := 96) (by omega) (by omega)).mp c2
        rw [if_pos lt] at er hs
        refine sp_ppassHour_1 (by omega) K1 (by omega) (fun R2 K2 f2 => ?_)
        rw [← hs] at K2 er
        have fr := hfc_tr f1 f2
        have rr : ∀ t, t < 3 → R2 89 (3 * j + t) = T (3 * j + t) := fun t ht => (fr 89 _ (by omega)).trans (rt _ (by omega))
        refine sp_cisRowOfTrial (by omega) K2 rfl (by omega) (fun z => ?_) (fun z => ?_)
        · refine And.intro (fun c => absurd c (by decide)) (fun _ => ?_)
          rw [if_pos ⟨by omega, fun t ht => by rw [← rr t ht, z t ht, hf_pT_at P ht]⟩] at hQ
          refine Exists.intro [0, 1] ?_
          rw [nI_1]
          exact hk_stop2 (hk_call_m d) (ih R2 K2 (by rw [er]; omega) fr hQ)
        · refine And.intro (fun _ => ?_) (fun c => absurd rfl c)
          rw [if_neg (fun y => z (fun t ht => by rw [rr t ht, y.2 t ht, hf_pT_at P ht])), ← nI_1] at hQ
          exact hk_qe_of (hQ R2 fr)
      · rw [en] at c2
        rw [if_neg (fun z => c2 ((nI_ltI (b := 96) (by omega) (by omega)).mpr z))] at er
        rw [if_neg (fun y => by omega), ← nI_1] at hQ
        exact hk_qe_of (hQ R1 f1)
  refine hk_run2 (hk_call_m d) 100 ?_
  refine sp_pcopyFrom_10 (by omega) K (fun R1 K1 f1 => ?_)
  refine w_rn (hk_stop2 (hk_call_m d) (hk_run2 (hk_call_m d) 2 ?_))
  exact L 0 (Nat.zero_le _) R1 K1 (by rw [Nat.zero_add, Nat.sub_zero]; rfl) f1 hQ
def bc_1 (x : Int32) : Int32 := x - (hk_ush x 1 &&& 1431655765)
def bc_2 (x : Int32) : Int32 := (x &&& 858993459) + (hk_ush x 2 &&& 858993459)
def bc_3 (x : Int32) : Int32 := (x + hk_ush x 4) &&& 252645135
def bc_4 (x : Int32) : Int32 := x + hk_ush x 8
def bc_5 (x : Int32) : Int32 := x + hk_ush x 16
def bc_v (x : Int32) : Int32 := bc_5 (bc_4 (bc_3 (bc_2 (bc_1 x)))) &&& 63
theorem sp_bitCount {d : Nat} (hd : 0 < d) {h : hk_Hp} {Q : hk_Q} {v : Int32} (hQ : Q (some (.int (bc_v v))) h) : hk_call d mJInteger_bitCount [.int v] h Q := by
  obtain ⟨d, rfl⟩ : ∃ e, d = e + 1 := ⟨d - 1, by omega⟩
  refine hk_run2 (hk_call_m d) 100 ?_
  exact hk_qe_of hQ
theorem bc_s : ∀ n, n < 6 → ∀ b, b < 2 ^ n → bc_v (nI (b + 2 ^ n)) = bc_v (nI b) + 1 := by decide +kernel
theorem bc_ok (P : hP) : ∀ n, n ≤ 6 → bc_v (nI (hf_bits (hf_gb P) n)) = nI (hf_gc P n)
  | 0, _ => by show bc_v (nI 0) = nI 0; decide
  | n + 1, h => by
    have ih := bc_ok P n (by omega)
    unfold hf_bits hf_gc
    by_cases e : P 10 n = 30
    · rw [show hf_gb P n = true from hn_beq e, if_pos e, ← nI_1, ← ih]
      exact bc_s n (by omega) _ (hf_bits_lt _ n)
    · rw [show hf_gb P n = false from hn_nbeq e, if_neg e]
      exact ih
set_option maxHeartbeats 400000 in
theorem sp_cmany {d : Nat} (hd : 2 < d) {R : Nat → Nat → Int32} {X : hk_D} {Q : hk_Q} {v : Int32} {P : hP} (K : hf_K 0 P R) (hQ : Q (some (.int (a_many P (R 38 8) (R 87 1) (R 92 1) v))) (hw R X)) : hk_call d mC_many [.ref 38, .int v] (hw R X) Q := by
  obtain ⟨d, rfl⟩ : ∃ e, d = e + 1 := ⟨d - 1, by omega⟩
  have n5 := K.2.1
  have n6 := K.2.2.1
  have n4 := K.2.2.2.1
  have c4 : R 39 4 = nI (P 2 0) := K.1.1
  have c5 : R 39 5 = nI (P 3 0) := K.1.2.1
  have c6 : R 39 6 = nI (P 4 0) := K.1.2.2.1
  unfold a_many at hQ
  refine hk_run2 (hk_call_m d) 100 ?_
  refine And.intro (fun c => ?_) (And.intro (fun c => ?_) (And.intro (fun c => ?_) (And.intro (fun c => ?_) (And.intro (fun c => ?_) (And.intro (fun c => ?_) (And.intro (fun c => ?_) (And.intro (fun c => ?_) trivial)))))))
  · rw [hxi_o (by simp at c; omega)] at hQ
    exact hk_qe_of hQ
  · rw [hxi_a (j := 0) (by omega) (by omega)] at hQ
    refine hk_qe_of ?_
    rw [c4]; exact hQ
  · rw [hxi_a (j := 1) (by omega) (by omega)] at hQ
    refine hk_qe_of ?_
    rw [c5]; exact hQ
  · rw [hxi_a (j := 2) (by omega) (by omega)] at hQ
    refine hk_qe_of ?_
    rw [c6]; exact hQ
  · rw [hxi_a (j := 3) (by omega) (by omega)] at hQ
    exact hk_qe_of hQ
  · rw [hxi_a (j := 4) (by omega) (by omega)] at hQ
    exact hk_qe_of hQ
  · rw [hxi_a (j := 5) (by omega) (by omega)] at hQ
    exact hk_qe_of hQ
  · rw [hxi_a (j := 6) (by omega) (by omega)] at hQ
    refine sp_pallGone_0 (by omega) K ?_
    refine sp_bitCount (by omega) ?_
    rw [bc_ok P _ n6]
    exact hk_qe_of hQ
theorem sp_ctrace {d : Nat} (hd : 1 < d) {R : Nat → Nat → Int32} {X : hk_D} {Q : hk_Q} {v : Int32} {b : Nat} (eb : R 92 1 = nI b) (hb : b ≤ 30) (hQ : Q (some (.int (a_trace b (R 93) v))) (hw R X)) : hk_call d mC_trace [.ref 38, .int v] (hw R X) Q := by
  obtain ⟨d, rfl⟩ : ∃ e, d = e + 1 := ⟨d - 1, by omega⟩
  unfold a_trace at hQ
  refine hk_run2 (hk_call_m d) 100 ?_
  refine sp_isBelow (by omega) (n := b) (by omega) eb (fun i hi ei => ?_) (fun nn => ?_)
  · refine And.intro (fun c => absurd c (by decide)) (fun _ => ?_)
    rw [ei, hxi_s hi (by omega)] at hQ
    refine w_ld (j := i) (n := 30) ei rfl (by omega) (by omega) rfl rfl ?_
    exact hk_qe_of hQ
  · refine And.intro (fun _ => ?_) (fun c => absurd rfl c)
    rw [hxi_n (by omega) nn] at hQ
    exact hk_qe_of hQ
theorem sp_ckeep {d : Nat} (hd : 2 < d) {R : Nat → Nat → Int32} {X : hk_D} {Q : hk_Q} {P : hP} (K : hf_K 0 P R) (hQ : ∀ R', hf_K 2 P R' → R' 38 5 = R 38 4 → R' 38 3 = 1 → (∀ a k, ¬ (71 ≤ a ∧ a ≤ 86) → ¬ (a = 38 ∧ (k = 3 ∨ k = 5)) → R' a k = R a k) → Q (some (.int 1)) (hw R' X)) : hk_call d mC_keep [.ref 38] (hw R X) Q := by
  obtain ⟨d, rfl⟩ : ∃ e, d = e + 1 := ⟨d - 1, by omega⟩
  refine hk_run2 (hk_call_m d) 100 ?_
  refine sp_pcopyFrom_20 (by omega) K (fun R1 K1 f1 => ?_)
  refine w_put trivial rfl rfl ?_
  refine w_put (by decide) rfl rfl ?_
  refine hk_qe_of (hQ _ (hf_K_fr K1 (fun a k z => by rw [up2_a (by omega), up2_a (by omega)])) ?_ (up2_s _ _ _ _) (fun a k z1 z2 => ?_))
  · rw [up2_k (by decide), up2_s, f1 38 4 (by omega)]
  · rw [up2_n (by omega), up2_n (by omega), f1 a k (by omega)]
theorem sp_cagain {d : Nat} (hd : 2 < d) {R : Nat → Nat → Int32} {X : hk_D} {Q : hk_Q} {P0 : hP} (h0 : R 38 3 = 0 → Q (some (.int (-3))) (hw R X)) (h1 : ¬ R 38 3 = 0 → hf_K 2 P0 R ∧ ∀ R', hf_K 0 P0 R' → R' 38 4 = R 38 5 → (∀ a k, ¬ (39 ≤ a ∧ a ≤ 54) → ¬ (a = 38 ∧ k = 4) → R' a k = R a k) → Q (some (.int (nI (P0 4 0)))) (hw R' X)) : hk_call d mC_again [.ref 38] (hw R X) Q := by
  obtain ⟨d, rfl⟩ : ∃ e, d = e + 1 := ⟨d - 1, by omega⟩
  refine hk_run2 (hk_call_m d) 100 ?_
  refine And.intro (fun c => hk_qe_of (h0 c)) (fun c => ?_)
  obtain ⟨K, hQ⟩ := h1 c
  refine sp_pcopyFrom_02 (by omega) K (fun R1 K1 f1 => ?_)
  refine w_put trivial rfl rfl ?_
  have K2 : hf_K 0 P0 (up2 R1 38 4 (R1 38 5)) := hf_K_fr K1 (fun a k z => up2_a (by omega))
  refine hk_qe_of ?_
  rw [show up2 R1 38 4 (R1 38 5) 39 6 = nI (P0 4 0) from K2.1.2.2.1]
  refine hQ _ K2 ?_ (fun a k z1 z2 => ?_)
  · rw [up2_s, f1 38 5 (by omega)]
  · rw [up2_n z2, f1 a k (by omega)]
