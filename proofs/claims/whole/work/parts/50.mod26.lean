/-! THE REFERENCE: the tape -/
def hf_tp (L : Nat) (B : Nat → Nat) (R : Nat → Nat → Int32) : Prop := L ≤ 200 ∧ R 98 12 = nI L ∧ (∀ j, j < L → R 106 j = nI (B j)) ∧ ∀ j, B j < 256
def o_feed (L : Nat) (B : Nat → Nat) (x : Int64) (n : Int32) : Int32 × Nat × (Nat → Nat) := match hxi 9 n with
  | none => (-1, L, B)
  | some m => if m = 0 then (-1, L, B) else if 200 < L + m then (-2, L, B) else (nI (L + m), L + m, fun j => if L ≤ j ∧ j < L + m then hf_by x (j - L) else B j)
theorem hn_sub {a b : Nat} (h : b ≤ a) (ha : a < 2 ^ 30) : nI a - nI b = nI (a - b) := by
  refine Int32.toInt_inj.mp ?_
  rw [pk_sub_toInt (by omega) (by omega), nI_toInt (by omega)]; omega
set_option maxHeartbeats 1000000 in
theorem sp_mfeed {d : Nat} (hd : 1 < d) {R0 : Nat → Nat → Int32} {X : hk_D} {Q : hk_Q} {x : Int64} {n : Int32} {L : Nat} {B : Nat → Nat} (T : hf_tp L B R0) (hQ : ∀ R', hf_tp (o_feed L B x n).2.1 (o_feed L B x n).2.2 R' → (∀ a k, ¬ a = 106 → ¬ (a = 98 ∧ k = 12) → R' a k = R0 a k) → Q (some (.int (o_feed L B x n).1)) (hw R' X)) : hk_call d mM_feed [.ref 98, .long x, .int n] (hw R0 X) Q := by
  obtain ⟨d, rfl⟩ : ∃ e, d = e + 1 := ⟨d - 1, by omega⟩
  obtain ⟨hL, tl, tb, t256⟩ := T
  unfold o_feed at hQ
  refine hk_run2 (hk_call_m d) 200 ?_
  refine sp_inR (by omega) (fun g1 g2 => ?_) (fun g => ?_)
  · refine And.intro (fun c => absurd c (by decide)) (fun _ => ?_)
    have i1 : (1 : Int32).toInt = 1 := rfl
    have i0 : (0 : Int32).toInt = 0 := rfl
    obtain ⟨m, hm, em⟩ := hn_in (v := n) (n := 8) (by omega) (fun q => g1 (by rw [hn_lt] at q ⊢; omega)) g2
    have m1 : ¬ m = 0 := fun z => g1 (by rw [em, z]; decide)
    rw [em, hxi_s hm (by omega)] at hQ
    dsimp only at hQ
    rw [if_neg m1] at hQ
    subst em
    refine And.intro (fun c => ?_) (fun c => ?_)
    · rw [tl, hn_add] at c
      have c : nI (L + m) ≤ nI 200 := c
      rw [nI_leI (by omega) (by omega)] at c
      have cl := c
      rw [if_neg (by omega)] at hQ
      have Lp : ∀ j, j ≤ m → ∀ R, R 98 12 = nI (L + j) → (∀ i, i < L + j → R 106 i = nI (if L ≤ i ∧ i < L + m then hf_by x (i - L) else B i)) → (∀ a k, ¬ a = 106 → ¬ (a = 98 ∧ k = 12) → R a k = R0 a k) → hk_wp (some .int) 0 0 hk_dft cM_feed (hk_call d) (hk_qe Q) 17 [(4, .int (nI j)), (0, .ref 98), (1, .long x), (3, .int (nI m))] [] (hw R X) 0 0 := by
        refine hk_for ?_ ?_
        · intro R h1 h2 h3
          refine hk_run2 (hk_call_m d) 100 ?_
          refine And.intro (fun c => ?_) (fun c => absurd (nI_le (Nat.le_refl _) (by omega)) c)
          refine hk_qe_of ?_
          rw [h1]
          refine hQ R ⟨cl, h1, h2, fun j => ?_⟩ h3
          show (if L ≤ j ∧ j < L + m then hf_by x (j - L) else B j) < 256
          split
          · exact hf_by_lt _ _
          · exact t256 j
        · intro j hj ih R h1 h2 h3
          refine hk_run2 (hk_call_m d) 100 ?_
          refine And.intro (fun c => absurd c (nI_ge hj (by omega))) (fun c => ?_)
          refine w_st (t := 0) (j := L + j) (n := 200) h1 rfl (by omega) (by omega) rfl rfl ?_
          refine w_put trivial rfl rfl ?_
          refine Exists.intro [0, 1, 2, 3] ?_
          rw [nI_1]
          refine hk_stop2 (hk_call_m d) (ih _ ?_ (fun i hi => ?_) (fun a k q1 q2 => ?_))
          · rw [up2_s, up2_a (by decide), h1, nI_1]; rfl
          · rw [up2_a (by decide)]
            by_cases e : i = L + j
            · rw [e, up2_s, if_pos ⟨by omega, by omega⟩, show L + j - L = j by omega]
              exact hf_by_m x j
            · rw [up2_k e]; exact h2 i (by omega)
          · rw [up2_n q2, up2_a q1]; exact h3 a k q1 q2
      refine hk_stop2 (hk_call_m d) (hk_run2 (hk_call_m d) 2 ?_)
      refine Lp 0 (Nat.zero_le _) R0 tl (fun i hi => ?_) (fun _ _ _ _ => rfl)
      rw [if_neg (by omega)]; exact tb i hi
    · rw [tl, hn_add] at c
      have c : ¬ nI (L + m) ≤ nI 200 := c
      rw [nI_leI (by omega) (by omega)] at c
      rw [if_pos (by omega)] at hQ
      exact hk_qe_of (hQ R0 ⟨hL, tl, tb, t256⟩ (fun _ _ _ _ => rfl))
  · refine And.intro (fun _ => ?_) (fun c => absurd rfl c)
    have i1 : (1 : Int32).toInt = 1 := rfl
    cases e : hxi 9 n with
    | none => rw [e] at hQ; exact hk_qe_of (hQ R0 ⟨hL, tl, tb, t256⟩ (fun _ _ _ _ => rfl))
    | some m =>
      have y := hxi_e (by omega) e
      rw [e] at hQ
      dsimp only at hQ
      have m0 : m = 0 := by
        rcases g with g | g
        · rw [y.2, hn_lt, hn_i (by omega)] at g; omega
        · rw [y.2, hn_lt, hn_i (by omega)] at g; have : (8 : Int32).toInt = 8 := rfl; omega
      rw [if_pos m0] at hQ
      exact hk_qe_of (hQ R0 ⟨hL, tl, tb, t256⟩ (fun _ _ _ _ => rfl))
def hf_ba (L : Nat) (B : Nat → Nat) (p : Nat) : Int32 := if p < L then nI (B p) else -1
theorem sp_mbyteAt {d : Nat} (hd : 0 < d) {R : Nat → Nat → Int32} {X : hk_D} {Q : hk_Q} {v : Int32} {L p : Nat} {B : Nat → Nat} (T : hf_tp L B R) (ev : v = nI p) (hp : p ≤ 300) (hQ : Q (some (.int (hf_ba L B p))) (hw R X)) : hk_call d mM_byteAt [.ref 98, .int v] (hw R X) Q := by
  obtain ⟨d, rfl⟩ : ∃ e, d = e + 1 := ⟨d - 1, by omega⟩
  subst ev
  obtain ⟨hL, tl, tb, -⟩ := T
  unfold hf_ba at hQ
  refine hk_run2 (hk_call_m d) 100 ?_
  refine And.intro (fun c => ?_) (fun c => ?_)
  · rw [tl, nI_leI (by omega) (by omega)] at c
    rw [if_neg (by omega)] at hQ
    exact hk_qe_of hQ
  · rw [tl, nI_leI (by omega) (by omega)] at c
    rw [if_pos (by omega)] at hQ
    refine w_ld (j := p) (n := 200) rfl rfl (by omega) (by omega) rfl (tb p (by omega)) ?_
    exact hk_qe_of hQ
theorem ts_1 {L p : Nat} {B : Nat → Nat} : ts L B p = 1 ↔ p < L ∧ 97 ≤ B p ∧ B p ≤ 122 := by
  unfold ts
  by_cases h : L ≤ p
  · rw [if_pos h]; exact ⟨fun q => absurd q (by decide), fun q => by omega⟩
  · rw [if_neg h]
    by_cases h1 : 97 ≤ B p ∧ B p ≤ 122
    · rw [if_pos h1]; exact ⟨fun _ => ⟨by omega, h1⟩, fun _ => rfl⟩
    · rw [if_neg h1]
      refine ⟨fun q => ?_, fun q => absurd q.2 h1⟩
      split at q <;> omega
theorem ts_2 {L p : Nat} {B : Nat → Nat} : ts L B p = 2 ↔ p < L ∧ 48 ≤ B p ∧ B p ≤ 57 := by
  unfold ts
  by_cases h : L ≤ p
  · rw [if_pos h]; exact ⟨fun q => absurd q (by decide), fun q => by omega⟩
  · rw [if_neg h]
    by_cases h1 : 97 ≤ B p ∧ B p ≤ 122
    · rw [if_pos h1]; exact ⟨fun q => absurd q (by decide), fun q => by omega⟩
    · rw [if_neg h1]
      by_cases h2 : 48 ≤ B p ∧ B p ≤ 57
      · rw [if_pos h2]; exact ⟨fun _ => ⟨by omega, h2⟩, fun _ => rfl⟩
      · rw [if_neg h2]; exact ⟨fun q => absurd q (by decide), fun q => absurd q.2 h2⟩
theorem ts_0 {L p : Nat} {B : Nat → Nat} : ts L B p = 0 ↔ L ≤ p := by
  unfold ts
  by_cases h : L ≤ p
  · rw [if_pos h]; exact ⟨fun _ => h, fun _ => rfl⟩
  · rw [if_neg h]
    refine ⟨fun q => ?_, fun q => absurd q h⟩
    split at q
    · omega
    · split at q <;> omega
theorem hf_ba_in {L p a b : Nat} {B : Nat → Nat} (h256 : ∀ j, B j < 256) (hb : b < 256) (ha : a < 256) : (¬ hf_ba L B p < nI a ∧ ¬ nI b < hf_ba L B p) ↔ (p < L ∧ a ≤ B p ∧ B p ≤ b) := by
  have := h256 p
  unfold hf_ba
  by_cases h : p < L
  · rw [if_pos h, nI_ltI (by omega) (by omega), nI_ltI (by omega) (by omega)]; omega
  · rw [if_neg h]
    refine ⟨fun q => absurd ?_ q.1, fun q => absurd q.1 h⟩
    rw [hn_lt, hn_i (by omega)]
    have : (-1 : Int32).toInt = -1 := rfl
    omega
theorem sp_misLetter {d : Nat} (hd : 1 < d) {h : hk_Hp} {Q : hk_Q} {v : Int32} {L p : Nat} {B : Nat → Nat} (h256 : ∀ j, B j < 256) (ev : v = hf_ba L B p) (h1 : ts L B p = 1 → Q (some (.int 1)) h) (h0 : ¬ ts L B p = 1 → Q (some (.int 0)) h) : hk_call d mM_isLetter [.int v] h Q := by
  obtain ⟨d, rfl⟩ : ∃ e, d = e + 1 := ⟨d - 1, by omega⟩
  subst ev
  have z := hf_ba_in (L := L) (p := p) (a := 97) (b := 122) h256 (by omega) (by omega)
  refine hk_run2 (hk_call_m d) 100 ?_
  refine sp_inR (by omega) (fun g1 g2 => ?_) (fun g => ?_)
  · exact And.intro (by decide) (hk_qe_of (h1 (ts_1.mpr (z.mp ⟨g1, g2⟩))))
  · refine And.intro (by decide) (hk_qe_of (h0 (fun q => ?_)))
    obtain ⟨y1, y2⟩ := z.mpr (ts_1.mp q)
    rcases g with g | g
    · exact y1 g
    · exact y2 g
theorem sp_misDigit {d : Nat} (hd : 1 < d) {h : hk_Hp} {Q : hk_Q} {v : Int32} {L p : Nat} {B : Nat → Nat} (h256 : ∀ j, B j < 256) (ev : v = hf_ba L B p) (h1 : ts L B p = 2 → Q (some (.int 1)) h) (h0 : ¬ ts L B p = 2 → Q (some (.int 0)) h) : hk_call d mM_isDigit [.int v] h Q := by
  obtain ⟨d, rfl⟩ : ∃ e, d = e + 1 := ⟨d - 1, by omega⟩
  subst ev
  have z := hf_ba_in (L := L) (p := p) (a := 48) (b := 57) h256 (by omega) (by omega)
  refine hk_run2 (hk_call_m d) 100 ?_
  refine sp_inR (by omega) (fun g1 g2 => ?_) (fun g => ?_)
  · exact And.intro (by decide) (hk_qe_of (h1 (ts_2.mpr (z.mp ⟨g1, g2⟩))))
  · refine And.intro (by decide) (hk_qe_of (h0 (fun q => ?_)))
    obtain ⟨y1, y2⟩ := z.mpr (ts_2.mp q)
    rcases g with g | g
    · exact y1 g
    · exact y2 g
def hf_vl (B : Nat → Nat) (t : hTk) : Int32 := if t.2.1 = 2 then vv B t.1 (t.2.2 - t.1) else if t.2.1 = 0 then -1 else nI (B t.1)
/-- the reference looks at a sign -/
def hf_tok (B : Nat → Nat) (t : hTk) (R : Nat → Nat → Int32) (X : hk_D) : Prop := R 98 13 = nI t.2.1 ∧ R 98 14 = nI t.1 ∧ R 98 15 = nI t.2.2 ∧ R 98 17 = hf_vl B t ∧ (t.2.1 = 1 → X.1 = wv B t.1 (t.2.2 - t.1))
def hfz (R R' : Nat → Nat → Int32) : Prop := ∀ a k, ¬ (a = 98 ∧ (k = 13 ∨ k = 14 ∨ k = 15 ∨ k = 17)) → R' a k = R a k
theorem hfz_tr {R R1 R2 : Nat → Nat → Int32} (h1 : hfz R R1) (h2 : hfz R1 R2) : hfz R R2 := fun a k q => (h2 a k q).trans (h1 a k q)
theorem hfz_up {R : Nat → Nat → Int32} {k : Nat} {v : Int32} (h : k = 13 ∨ k = 14 ∨ k = 15 ∨ k = 17) : hfz R (up2 R 98 k v) := fun a j q => up2_n (fun z => q ⟨z.1, by rw [z.2]; exact h⟩)
theorem hf_tp_z {L : Nat} {B : Nat → Nat} {R R' : Nat → Nat → Int32} (T : hf_tp L B R) (f : hfz R R') : hf_tp L B R' := ⟨T.1, (f _ _ (by decide)).trans T.2.1, fun j hj => (f _ _ (by omega)).trans (T.2.2.1 j hj), T.2.2.2⟩
set_option maxHeartbeats 1000000 in
theorem sp_madvance {d : Nat} (hd : 2 < d) {R0 : Nat → Nat → Int32} {X : hk_D} {Q : hk_Q} {L e : Nat} {B : Nat → Nat} (T0 : hf_tp L B R0) (he : R0 98 15 = nI e) (hel : e ≤ L) (hQ : ∀ R' X', hf_tok B (tk L B e) R' X' → hfz R0 R' → X'.2 = X.2 → Q none (hw R' X')) : hk_call d mM_advance [.ref 98] (hw R0 X) Q := by
  obtain ⟨d, rfl⟩ : ∃ e, d = e + 1 := ⟨d - 1, by omega⟩
  have hL := T0.1
  have t256 := T0.2.2.2
  have hsk := sk_le (L := L) (B := B) 200 e hel
  unfold tk at hQ
  generalize hb : sk L B 200 e = b at hsk hQ
  have h3 := ts_3 L B b
  have L3 : ∀ (x1 : Int32), ts L B b = 2 → ∀ f p R X', L ≤ p + f → p ≤ L → b ≤ p → hfz R0 R → X'.2 = X.2 → R 98 13 = nI 2 → R 98 14 = nI b → R 98 15 = nI p → R 98 17 = vv B b (p - b) → te L B 2 f p = te L B 2 200 b → hk_wp none 0 0 hk_dft cM_advance (hk_call d) (hk_qe Q) 105 [(1, .int x1), (0, .ref 98)] [] (hw R X') 0 0 := by
    intro x1 s2 f
    have fin : ∀ p R X', p ≤ L → b ≤ p → hfz R0 R → X'.2 = X.2 → R 98 13 = nI 2 → R 98 14 = nI b → R 98 15 = nI p → R 98 17 = vv B b (p - b) → p = te L B 2 200 b → hk_qe Q none (hw R X') := by
      intro p R X' hp hbp fr xx r13 r14 r15 r17 ep
      refine hk_qe_of (hQ R X' ?_ fr xx)
      unfold tkb
      rw [if_neg (by omega), if_neg (by omega), s2, ← ep]
      exact ⟨r13, r14, r15, by rw [r17]; exact (if_pos rfl).symm, fun q => absurd q (show ¬ (2 : Nat) = 1 by decide)⟩
    induction f with
    | zero =>
      intro p R X' hlp hp hbp fr xx r13 r14 r15 r17 et
      have ep : p = te L B 2 200 b := et
      have TR := hf_tp_z T0 fr
      refine hk_run2 (hk_call_m d) 100 ?_
      refine And.intro (fun c => ?_) (fun c => absurd r13 c)
      refine sp_mbyteAt (by omega) TR r15 (by omega) ?_
      refine sp_misDigit (by omega) t256 rfl (fun q => ?_) (fun q => ?_)
      · have := ts_lt (L := L) (B := B) (p := p) (by omega); omega
      · refine And.intro (fun _ => ?_) (fun c => absurd rfl c)
        exact fin p R X' hp hbp fr xx r13 r14 r15 r17 ep
    | succ f ih =>
      intro p R X' hlp hp hbp fr xx r13 r14 r15 r17 et
      have TR := hf_tp_z T0 fr
      refine hk_run2 (hk_call_m d) 200 ?_
      refine And.intro (fun c => ?_) (fun c => absurd r13 c)
      refine sp_mbyteAt (by omega) TR r15 (by omega) ?_
      unfold te at et
      refine sp_misDigit (by omega) t256 rfl (fun q => ?_) (fun q => ?_)
      · refine And.intro (fun c => absurd c (by decide)) (fun _ => ?_)
        have pl := ts_lt (L := L) (B := B) (p := p) (by omega)
        rw [if_pos q] at et
        have nxt : ∀ y : Int32, y = vv B b (p + 1 - b) → hk_wp none 0 0 hk_dft cM_advance (hk_call d) (hk_qe Q) 105 [(1, .int x1), (0, .ref 98)] [] (hw (up2 (up2 R 98 17 y) 98 15 (nI (p + 1))) X') 0 0 := by
          intro y ey
          refine ih (p + 1) _ X' (by omega) (by omega) (by omega) (hfz_tr fr (hfz_tr (hfz_up (by omega)) (hfz_up (by omega)))) xx ?_ ?_ (up2_s _ _ _ _) ?_ et
          · rw [up2_k (by decide), up2_k (by decide)]; exact r13
          · rw [up2_k (by decide), up2_k (by decide)]; exact r14
          · rw [up2_k (by decide), up2_s]; exact ey
        rw [show p + 1 - b = (p - b) + 1 by omega, vv, show b + (p - b) = p by omega] at nxt
        refine And.intro (fun c2 => ?_) (fun c2 => ?_)
        · rw [r15, r14, hn_sub hbp (by omega)] at c2
          have c2 : nI 2 ≤ nI (p - b) := c2
          rw [nI_leI (by omega) (by omega)] at c2
          refine w_put trivial rfl rfl ?_
          refine w_put trivial rfl rfl ?_
          refine Exists.intro [0, 1] ?_
          rw [up2_k (by decide), r15, nI_1]
          exact hk_stop2 (hk_call_m d) (nxt _ (by rw [if_neg (by omega)]))
        · rw [r15, r14, hn_sub hbp (by omega)] at c2
          have c2 : ¬ nI 2 ≤ nI (p - b) := c2
          rw [nI_leI (by omega) (by omega)] at c2
          refine sp_mbyteAt (by omega) TR r15 (by omega) ?_
          refine w_put trivial rfl rfl ?_
          refine w_put trivial rfl rfl ?_
          refine Exists.intro [0, 1] ?_
          rw [up2_k (by decide), r15, nI_1]
          refine hk_stop2 (hk_call_m d) (nxt _ ?_)
          rw [if_pos (by omega), r17, show hf_ba L B p = nI (B p) from if_pos pl]
      · refine And.intro (fun _ => ?_) (fun c => absurd rfl c)
        rw [if_neg q] at et
        exact fin p R X' hp hbp fr xx r13 r14 r15 r17 et
  have L2 : ∀ (x1 : Int32), ts L B b = 1 → ∀ f p R X', L ≤ p + f → p ≤ L → b ≤ p → hfz R0 R → X'.2 = X.2 → R 98 13 = nI 1 → R 98 14 = nI b → R 98 15 = nI p → R 98 17 = nI (B b) → X'.1 = wv B b (p - b) → te L B 1 f p = te L B 1 200 b → hk_wp none 0 0 hk_dft cM_advance (hk_call d) (hk_qe Q) 65 [(1, .int x1), (0, .ref 98)] [] (hw R X') 0 0 := by
    intro x1 s1 f
    have fin : ∀ p R X', p ≤ L → b ≤ p → hfz R0 R → X'.2 = X.2 → R 98 13 = nI 1 → R 98 14 = nI b → R 98 15 = nI p → R 98 17 = nI (B b) → X'.1 = wv B b (p - b) → p = te L B 1 200 b → hk_wp none 0 0 hk_dft cM_advance (hk_call d) (hk_qe Q) 105 [(1, .int x1), (0, .ref 98)] [] (hw R X') 0 0 := by
      intro p R X' hp hbp fr xx r13 r14 r15 r17 xw ep
      refine hk_run2 (hk_call_m d) 100 ?_
      refine And.intro (fun c => ?_) (fun c => ?_)
      · rw [r13] at c; exact absurd c (by decide)
      · refine hk_qe_of (hQ R X' ?_ fr xx)
        unfold tkb
        rw [if_neg (by omega), if_neg (by omega), s1, ← ep]
        exact ⟨r13, r14, r15, by rw [r17]; exact ((if_neg (show ¬ (1 : Nat) = 2 by decide)).trans (if_neg (show ¬ (1 : Nat) = 0 by decide))).symm, fun _ => xw⟩
    induction f with
    | zero =>
      intro p R X' hlp hp hbp fr xx r13 r14 r15 r17 xw et
      have ep : p = te L B 1 200 b := et
      have TR := hf_tp_z T0 fr
      refine hk_run2 (hk_call_m d) 100 ?_
      refine And.intro (fun c => ?_) (fun c => absurd r13 c)
      refine sp_mbyteAt (by omega) TR r15 (by omega) ?_
      refine sp_misLetter (by omega) t256 rfl (fun q => ?_) (fun q => ?_)
      · have := ts_lt (L := L) (B := B) (p := p) (by omega); omega
      · refine And.intro (fun _ => ?_) (fun c => absurd rfl c)
        exact hk_stop2 (hk_call_m d) (fin p R X' hp hbp fr xx r13 r14 r15 r17 xw ep)
    | succ f ih =>
      intro p R X' hlp hp hbp fr xx r13 r14 r15 r17 xw et
      have TR := hf_tp_z T0 fr
      refine hk_run2 (hk_call_m d) 200 ?_
      refine And.intro (fun c => ?_) (fun c => absurd r13 c)
      refine sp_mbyteAt (by omega) TR r15 (by omega) ?_
      unfold te at et
      refine sp_misLetter (by omega) t256 rfl (fun q => ?_) (fun q => ?_)
      · refine And.intro (fun c => absurd c (by decide)) (fun _ => ?_)
        have pl := ts_lt (L := L) (B := B) (p := p) (by omega)
        rw [if_pos q] at et
        have nxt : ∀ y : Int64, y = wv B b (p + 1 - b) → hk_wp none 0 0 hk_dft cM_advance (hk_call d) (hk_qe Q) 65 [(1, .int x1), (0, .ref 98)] [] (hw (up2 R 98 15 (nI (p + 1))) (xW X' y)) 0 0 := by
          intro y ey
          refine ih (p + 1) _ (xW X' y) (by omega) (by omega) (by omega) (hfz_tr fr (hfz_up (by omega))) xx ?_ ?_ (up2_s _ _ _ _) ?_ ey et
          · rw [up2_k (by decide)]; exact r13
          · rw [up2_k (by decide)]; exact r14
          · rw [up2_k (by decide)]; exact r17
        rw [show p + 1 - b = (p - b) + 1 by omega, wv, show b + (p - b) = p by omega] at nxt
        refine And.intro (fun c2 => ?_) (fun c2 => ?_)
        · rw [r15, r14, hn_sub hbp (by omega)] at c2
          have c2 : nI 12 ≤ nI (p - b) := c2
          rw [nI_leI (by omega) (by omega)] at c2
          refine w_putw trivial ?_
          refine w_put trivial rfl rfl ?_
          refine Exists.intro [0, 1] ?_
          rw [r15, nI_1]
          exact hk_stop2 (hk_call_m d) (nxt _ (by rw [if_neg (by omega)]))
        · rw [r15, r14, hn_sub hbp (by omega)] at c2
          have c2 : ¬ nI 12 ≤ nI (p - b) := c2
          rw [nI_leI (by omega) (by omega)] at c2
          refine sp_mbyteAt (by omega) TR r15 (by omega) ?_
          refine w_putw trivial ?_
          refine w_put trivial rfl rfl ?_
          refine Exists.intro [0, 1] ?_
          rw [r15, nI_1]
          refine hk_stop2 (hk_call_m d) (nxt _ ?_)
          rw [if_pos (by omega), xw, show hf_ba L B p = nI (B p) from if_pos pl]
      · refine And.intro (fun _ => ?_) (fun c => absurd rfl c)
        rw [if_neg q] at et
        exact hk_stop2 (hk_call_m d) (fin p R X' hp hbp fr xx r13 r14 r15 r17 xw et)
  have mid : ∀ R, hfz R0 R → R 98 14 = nI b → hk_wp none 0 0 hk_dft cM_advance (hk_call d) (hk_qe Q) 17 [(0, .ref 98)] [] (hw R X) 0 0 := by
    intro R fr r14
    have TR := hf_tp_z T0 fr
    refine hk_run2 (hk_call_m d) 100 ?_
    refine w_put trivial rfl rfl ?_
    have fr1 : hfz R0 (up2 R 98 15 (R 98 14)) := hfz_tr fr (hfz_up (by omega))
    have TR1 := hf_tp_z T0 fr1
    have q14 : up2 R 98 15 (R 98 14) 98 14 = nI b := (up2_k (by decide)).trans r14
    have q15 : up2 R 98 15 (R 98 14) 98 15 = nI b := (up2_s _ _ _ _).trans r14
    generalize up2 R 98 15 (R 98 14) = R1 at fr1 TR1 q14 q15
    refine sp_mbyteAt (by omega) TR1 q14 (by omega) ?_
    have key : ∀ y : Int32, y = nI (ts L B b) → hk_wp none 0 0 hk_dft cM_advance (hk_call d) (hk_qe Q) 43 [(1, .int (hf_ba L B b)), (0, .ref 98)] [] (hw (up2 R1 98 13 y) X) 0 0 := by
      intro y ey
      subst ey
      have fr2 : hfz R0 (up2 R1 98 13 (nI (ts L B b))) := hfz_tr fr1 (hfz_up (by omega))
      have p13 := up2_s R1 98 13 (nI (ts L B b))
      have p14 : up2 R1 98 13 (nI (ts L B b)) 98 14 = nI b := (up2_k (by decide)).trans q14
      have p15 : up2 R1 98 13 (nI (ts L B b)) 98 15 = nI b := (up2_k (by decide)).trans q15
      generalize up2 R1 98 13 (nI (ts L B b)) = R2 at fr2 p13 p14 p15
      refine hk_run2 (hk_call_m d) 100 ?_
      refine w_putw trivial ?_
      have cs : ts L B b = 0 ∨ ts L B b = 1 ∨ ts L B b = 2 ∨ ts L B b = 3 := by omega
      rcases cs with q | q | q | q
      · rw [q] at p13
        refine And.intro (fun c => by rw [p13] at c; exact absurd c (by decide)) (fun c => ?_)
        refine w_put trivial rfl rfl ?_
        refine And.intro (fun c => by rw [up2_k (by decide), p13] at c; exact absurd c (by decide)) (fun c => ?_)
        refine And.intro (fun c => by rw [up2_k (by decide), p13] at c; exact absurd c (by decide)) (fun c => ?_)
        refine And.intro (fun c => by rw [up2_k (by decide), p13] at c; exact absurd c (by decide)) (fun c => ?_)
        refine hk_qe_of (hQ _ _ ?_ (hfz_tr fr2 (hfz_up (by omega))) rfl)
        unfold tkb
        rw [if_pos q, q]
        have bl := ts_0.mp q
        refine ⟨?_, ?_, ?_, ?_, fun z => absurd z (show ¬ (0 : Nat) = 1 by decide)⟩
        · rw [up2_k (by decide)]; exact p13
        · rw [up2_k (by decide)]; exact p14
        · rw [up2_k (by decide)]; exact p15
        · rw [up2_s, show hf_ba L B b = -1 from if_neg (by omega)]; rfl
      · rw [q] at p13
        have bl := ts_1.mp q
        refine And.intro (fun c => by rw [p13] at c; exact absurd c (by decide)) (fun c => ?_)
        refine w_put trivial rfl rfl ?_
        refine And.intro (fun c => by rw [up2_k (by decide), p13] at c; exact absurd c (by decide)) (fun c => ?_)
        refine hk_stop2 (hk_call_m d) (L2 _ q 200 b _ _ (by omega) hsk.2 (Nat.le_refl _) (hfz_tr fr2 (hfz_up (by omega))) rfl ?_ ?_ ?_ ?_ (by rw [Nat.sub_self]; rfl) rfl)
        · rw [up2_k (by decide)]; exact p13
        · rw [up2_k (by decide)]; exact p14
        · rw [up2_k (by decide)]; exact p15
        · rw [up2_s, show hf_ba L B b = nI (B b) from if_pos bl.1]
      · rw [q] at p13
        refine And.intro (fun c => ?_) (fun c => absurd p13 c)
        refine w_put trivial rfl rfl ?_
        refine And.intro (fun c => by rw [up2_k (by decide), p13] at c; exact absurd c (by decide)) (fun c => ?_)
        refine And.intro (fun c => by rw [up2_k (by decide), p13] at c; exact absurd c (by decide)) (fun c => ?_)
        refine hk_stop2 (hk_call_m d) (L3 _ q 200 b _ _ (by omega) hsk.2 (Nat.le_refl _) (hfz_tr fr2 (hfz_up (by omega))) rfl ?_ ?_ ?_ ?_ rfl)
        · rw [up2_k (by decide)]; exact p13
        · rw [up2_k (by decide)]; exact p14
        · rw [up2_k (by decide)]; exact p15
        · rw [up2_s, Nat.sub_self]; rfl
      · rw [q] at p13
        have bl := ts_lt (L := L) (B := B) (p := b) (by omega)
        refine And.intro (fun c => by rw [p13] at c; exact absurd c (by decide)) (fun c => ?_)
        refine w_put trivial rfl rfl ?_
        refine And.intro (fun c => ?_) (fun c => absurd (by rw [up2_k (by decide)]; exact p13) c)
        refine w_put trivial rfl rfl ?_
        refine And.intro (fun c => by rw [up2_k (by decide), up2_k (by decide), p13] at c; exact absurd c (by decide)) (fun c => ?_)
        refine And.intro (fun c => by rw [up2_k (by decide), up2_k (by decide), p13] at c; exact absurd c (by decide)) (fun c => ?_)
        refine hk_qe_of (hQ _ _ ?_ (hfz_tr fr2 (hfz_tr (hfz_up (by omega)) (hfz_up (by omega)))) rfl)
        unfold tkb
        rw [if_neg (by omega), if_pos q, q]
        refine ⟨?_, ?_, ?_, ?_, fun z => absurd z (show ¬ (3 : Nat) = 1 by decide)⟩
        · rw [up2_k (by decide), up2_k (by decide)]; exact p13
        · rw [up2_k (by decide), up2_k (by decide)]; exact p14
        · rw [up2_s, up2_k (by decide), p15, nI_1]
        · rw [up2_k (by decide), up2_s, show hf_ba L B b = nI (B b) from if_pos bl]; rfl
    by_cases q0 : ts L B b = 0
    · have bl := ts_0.mp q0
      refine And.intro (fun c => absurd c (by rw [show hf_ba L B b = -1 from if_neg (by omega)]; decide)) (fun c => ?_)
      refine w_put trivial rfl rfl ?_
      exact hk_stop2 (hk_call_m d) (key _ (by rw [q0]; rfl))
    · have bl := ts_lt q0
      have := t256 b
      refine And.intro (fun c => ?_) (fun c => absurd (by rw [show hf_ba L B b = nI (B b) from if_pos bl]; exact hn_pos (by omega)) c)
      refine sp_misLetter (by omega) t256 rfl (fun q => ?_) (fun q => ?_)
      · refine And.intro (fun c => absurd c (by decide)) (fun _ => ?_)
        refine w_put trivial rfl rfl ?_
        exact hk_stop2 (hk_call_m d) (key _ (by rw [q]; rfl))
      · refine And.intro (fun _ => ?_) (fun c => absurd rfl c)
        refine sp_misDigit (by omega) t256 rfl (fun q2 => ?_) (fun q2 => ?_)
        · refine And.intro (fun c => absurd c (by decide)) (fun _ => ?_)
          refine w_put trivial rfl rfl ?_
          exact hk_stop2 (hk_call_m d) (key _ (by rw [q2]; rfl))
        · refine And.intro (fun _ => ?_) (fun c => absurd rfl c)
          refine w_put trivial rfl rfl ?_
          exact hk_stop2 (hk_call_m d) (key _ (by rw [show ts L B b = 3 by omega]; rfl))
  have L1 : ∀ f p R, L ≤ p + f → p ≤ L → hfz R0 R → R 98 14 = nI p → sk L B f p = b → hk_wp none 0 0 hk_dft cM_advance (hk_call d) (hk_qe Q) 4 [(0, .ref 98)] [] (hw R X) 0 0 := by
    intro f
    induction f with
    | zero =>
      intro p R hlp hp fr r14 es
      have es : p = b := es
      have TR := hf_tp_z T0 fr
      refine hk_run2 (hk_call_m d) 100 ?_
      refine sp_mbyteAt (by omega) TR r14 (by omega) ?_
      refine And.intro (fun c => ?_) (fun c => ?_)
      · rw [show hf_ba L B p = -1 from if_neg (by omega)] at c; exact absurd c (by decide)
      · exact hk_stop2 (hk_call_m d) (mid R fr (by rw [← es]; exact r14))
    | succ f ih =>
      intro p R hlp hp fr r14 es
      have TR := hf_tp_z T0 fr
      have p256 := t256 p
      unfold sk at es
      refine hk_run2 (hk_call_m d) 100 ?_
      refine sp_mbyteAt (by omega) TR r14 (by omega) ?_
      refine And.intro (fun c => ?_) (fun c => ?_)
      · have pl : p < L := Classical.byContradiction (fun z => by rw [show hf_ba L B p = -1 from if_neg z] at c; exact absurd c (by decide))
        rw [show hf_ba L B p = nI (B p) from if_pos pl] at c
        have e32 : B p = 32 := (nI_eq (b := 32) (by omega) (by omega)).mp c
        rw [if_pos ⟨pl, e32⟩] at es
        refine w_put trivial rfl rfl ?_
        refine Exists.intro [0] ?_
        rw [r14, nI_1]
        exact hk_stop2 (hk_call_m d) (ih (p + 1) _ (by omega) (by omega) (hfz_tr fr (hfz_up (by omega))) (up2_s _ _ _ _) es)
      · rw [if_neg (fun z => c (by rw [show hf_ba L B p = nI (B p) from if_pos z.1, z.2]; rfl))] at es
        exact hk_stop2 (hk_call_m d) (mid R fr (by rw [← es]; exact r14))
  refine hk_run2 (hk_call_m d) 4 ?_
  refine w_put trivial rfl rfl ?_
  exact L1 200 e _ (by omega) hel (hfz_up (by omega)) (by rw [up2_s]; exact he) hb
