/-! THE LAW: its beginning -/
def hz_hat (a : Nat) : Bool := (Nat.ble 49 a && Nat.ble a 54) || (Nat.ble 65 a && Nat.ble a 70) || (Nat.ble 81 a && Nat.ble a 86)
/-- what stands everywhere at the beginning -/
def hz_R (a k : Nat) : Int32 := bif hz_hat a && (Nat.beq k 3 || Nat.beq k 4) then -9 else bif Nat.beq a 38 && Nat.beq k 4 then 1 else bif Nat.ble 94 a && Nat.ble a 97 && Nat.beq k 0 then -1 else bif Nat.beq a 98 && Nat.beq k 10 then 1 else bif Nat.beq a 118 || Nat.beq a 121 then -1 else 0
def hz_X (S : Nat × (Nat → Int32)) : hk_D := (0, fun _ => 0, 0, fun _ => 0, fun _ => none, fun _ => none, S)
def hz_f (S : Nat × (Nat → Int32)) (m n : Nat) (f : Nat → hk_Ce) (b : Nat) : hk_Ce := bif Nat.ble m b && Nat.ble b n then hk_fix hz_R (hz_X S) b else f b
def hz_n (a : Nat) (h : hk_Hp) (c : hk_Ce) : hk_Hp := (a + 1, fun b => bif Nat.beq b a then c else h.2 b)
set_option maxRecDepth 16384 in
theorem hz_ne {h : hk_Hp} {c : hk_Ce} {a : Nat} (e : h.1 = a) : hk_nw h c = hz_n a h c := by subst e; rfl
set_option maxRecDepth 16384 in
theorem hz_nn {h : hk_Hp} {c : hk_Ce} {a b : Nat} (q : b ≠ a) : (hz_n a h c).2 b = h.2 b := by
  show (bif Nat.beq b a then c else h.2 b) = h.2 b
  rw [hn_nbeq q]; rfl
set_option maxRecDepth 16384 in
theorem hz_f_n {S : Nat × (Nat → Int32)} {m n b : Nat} {f : Nat → hk_Ce} (q : ¬ (m ≤ b ∧ b ≤ n)) : hz_f S m n f b = f b := by
  unfold hz_f
  by_cases h : m ≤ b
  · rw [nb_f (show n < b by omega), Bool.and_false]; rfl
  · rw [nb_f (show b < m by omega)]; rfl
set_option maxRecDepth 16384 in
theorem hz_fp {S : Nat × (Nat → Int32)} {m n b k : Nat} {f : Nat → hk_Ce} (q : ¬ (m ≤ b ∧ b ≤ n)) : ((k, hz_f S m n f) : hk_Hp).2 b = f b := hz_f_n q
set_option maxRecDepth 16384 in
theorem hz_bb {a b : Nat} {c g : hk_Ce} (q : b ≠ a) : (bif Nat.beq b a then c else g) = g := by rw [hn_nbeq q]; rfl
set_option maxRecDepth 16384 in
theorem w_pfb {h0 : hk_Hp} {Xc : hk_X} {ip q m : Nat} {ls : hk_Ls} {a k t n : Nat} {f : Nat → Value} {v : Value} {r : List Value} (hc : h0.2 a = (t, n, f)) (g : Xc ip ls r (hk_up h0 a (t, n, va_up f k v)) q m) : True ∧ Xc ip ls r (hk_up h0 a (t, (h0.2 a).2.1, va_up (h0.2 a).2.2 k v)) q m := by
  rw [hc]; exact ⟨trivial, g⟩
set_option maxRecDepth 16384 in
theorem w_asb {h0 : hk_Hp} {Xc : hk_X} {ip q m : Nat} {ls : hk_Ls} {a j t n : Nat} {f : Nat → Value} {v : Value} {r : List Value} {i : Int32} (hc : h0.2 a = (t, n, f)) (hi : i = nI j) (hj : j < n) (hn : n < 1000) (g : Xc ip ls r (hk_up h0 a (t, n, va_up f j v)) q m) : vp_in i (h0.2 a).2.1 ∧ Xc ip ls r (hk_up h0 a ((h0.2 a).1, (h0.2 a).2.1, va_up (h0.2 a).2.2 i.toNatClampNeg v)) q m := by
  subst hi
  rw [hc]
  refine And.intro (vp_in_nI (N := n) hj (by omega)) ?_
  rw [nI_clamp (by omega)]
  exact g
set_option maxRecDepth 16384 in
theorem w_isb {h0 : hk_Hp} {Xc : hk_X} {ip q m : Nat} {ls : hk_Ls} {a j t n : Nat} {f : Nat → Value} {v : Int32} {r : List Value} {i : Int32} (hc : h0.2 a = (t, n, f)) (hi : i = nI j) (hj : j < n) (hn : n < 1000) (g : Xc ip ls r (hk_up h0 a (t, n, va_up f j (.int v))) q m) : vp_in i (h0.2 a).2.1 ∧ hk_astv 10 (.int v) (fun v' => Xc ip ls r (hk_up h0 a (t, (h0.2 a).2.1, va_up (h0.2 a).2.2 i.toNatClampNeg v')) q m) := by
  subst hi
  rw [hc]
  refine And.intro (vp_in_nI (N := n) hj (by omega)) ?_
  rw [nI_clamp (by omega)]
  exact g
set_option maxRecDepth 16384 in
theorem w_nab {h : hk_Hp} {Xc : hk_X} {ip C S k n t : Nat} {ls : hk_Ls} {r : List Value} {i : Int32} (a m : Nat) (ha : h.1 = a) (hi : i = nI m) (hm : m ≤ 1000) (hC : k + 1 ≤ C) (hS : n + m ≤ S) (g : Xc ip ls (.ref a :: r) (hz_n a h (t, m, fun _ => hk_zero t)) (k + 1) (n + m)) : (¬ i < 0 ∧ i.toNatClampNeg ≤ 1000 ∧ k + 1 ≤ C ∧ n + i.toNatClampNeg ≤ S) ∧ Xc ip ls (.ref h.1 :: r) (hk_nw h (t, i.toNatClampNeg, fun _ => hk_zero t)) (k + 1) (n + i.toNatClampNeg) := by
  subst hi
  rw [nI_clamp (by omega), hz_ne ha, ha]
  exact ⟨⟨hn_npos (by omega), hm, hC, hS⟩, g⟩
set_option maxRecDepth 16384 in
theorem w_nwb {h : hk_Hp} {Xc : hk_X} {ip C S k n t b : Nat} {ls : hk_Ls} {r : List Value} {D : Nat → Nat → Value} (a : Nat) (ha : h.1 = a) (hC : k + 1 ≤ C) (hS : n + b ≤ S) (g : Xc ip ls (.ref a :: r) (hz_n a h (t, b, D t)) (k + 1) (n + b)) : (k + 1 ≤ C ∧ n + b ≤ S) ∧ Xc ip ls (.ref h.1 :: r) (hk_nw h (t, b, D t)) (k + 1) (n + b) := by
  rw [hz_ne ha, ha]
  exact ⟨⟨hC, hS⟩, g⟩
set_option maxRecDepth 16384 in
theorem hk_ev_tr {h1 h2 h3 : hk_Hp} (a : hk_ev h1 h2) (b : hk_ev h2 h3) : hk_ev h1 h3 := ⟨a.1.trans b.1, fun x => ⟨(a.2 x).1.trans (b.2 x).1, (a.2 x).2.1.trans (b.2 x).2.1, fun k hk => ((a.2 x).2.2 k hk).trans ((b.2 x).2.2 k (by have := (a.2 x).2.1; omega))⟩⟩
set_option maxRecDepth 16384 in
theorem hk_ev_c {c c' : hk_Ce} (e : c = c') : c.1 = c'.1 ∧ c.2.1 = c'.2.1 ∧ ∀ k, k < c.2.1 → c.2.2 k = c'.2.2 k := by subst e; exact ⟨rfl, rfl, fun _ _ => rfl⟩
set_option maxRecDepth 16384 in
theorem sp_ninit {d : Nat} (hd : 0 < d) {h : hk_Hp} {a : Nat} {Q : hk_Q} (h38 : 38 ≤ a) (hQ : Q none h) : hk_call d mN_init [.ref a] h Q := by
  obtain ⟨d, rfl⟩ : ∃ e, d = e + 1 := ⟨d - 1, by omega⟩
  refine hk_run2 (hk_call_m d) 10 ?_
  refine w_inv h38 rfl ?_
  exact hk_qe_of hQ
set_option maxRecDepth 16384 in
theorem sp_hinit {d : Nat} (hd : 0 < d) {h : hk_Hp} {a : Nat} {Q : hk_Q} (h38 : 38 ≤ a) (hc : h.2 a = (1, 5, hk_dft 1)) (hQ : Q none (hk_up (hk_up h a (1, 5, va_up (hk_dft 1) 3 (.int (-9)))) a (1, 5, va_up (va_up (hk_dft 1) 3 (.int (-9))) 4 (.int (-9))))) : hk_call d mH_init [.ref a] h Q := by
  obtain ⟨d, rfl⟩ : ∃ e, d = e + 1 := ⟨d - 1, by omega⟩
  refine hk_run2 (hk_call_m d) 20 ?_
  refine w_inv h38 rfl ?_
  refine w_pfa (v := .int (-9)) hc h38 trivial ?_
  refine w_pfa (v := .int (-9)) hk_up_self h38 trivial ?_
  exact hk_qe_of hQ
set_option maxRecDepth 16384 in
theorem sp_sinit {d : Nat} (hd : 0 < d) {h : hk_Hp} {a : Nat} {Q : hk_Q} (h38 : 38 ≤ a) (hc : h.2 a = (5, 2, hk_dft 5)) (hQ : Q none (hk_up h a (5, 2, va_up (hk_dft 5) 0 (.int (-1))))) : hk_call d mS_init [.ref a] h Q := by
  obtain ⟨d, rfl⟩ : ∃ e, d = e + 1 := ⟨d - 1, by omega⟩
  refine hk_run2 (hk_call_m d) 20 ?_
  refine w_inv h38 rfl ?_
  refine w_pfa (v := .int (-1)) hc h38 trivial ?_
  exact hk_qe_of hQ
set_option maxRecDepth 16384 in
theorem sp_tinit {d : Nat} (hd : 0 < d) {h : hk_Hp} {a b : Nat} {Q : hk_Q} (h38 : 38 ≤ a) (hb : h.1 = b) (hab : a ≠ b) (hc : h.2 a = (6, 6, hk_dft 6)) (hQ : Q none (hk_up (hz_n b h (12, 200, fun _ => hk_zero 12)) a (6, 6, va_up (hk_dft 6) 0 (.ref b)))) : hk_call d mT_init [.ref a] h Q := by
  obtain ⟨d, rfl⟩ : ∃ e, d = e + 1 := ⟨d - 1, by omega⟩
  refine hk_run2 (hk_call_m d) 20 ?_
  refine w_inv h38 rfl ?_
  refine w_nab b 200 hb rfl (by omega) (by omega) (by omega) ?_
  refine w_pfa (v := .ref b) ((hz_nn hab).trans hc) h38 trivial ?_
  exact hk_qe_of hQ
set_option maxRecDepth 16384 in
theorem sp_ainit {d : Nat} (hd : 0 < d) {h : hk_Hp} {a b : Nat} {Q : hk_Q} (h38 : 38 ≤ a) (hb : h.1 = b) (hab : a ≠ b) (hc : h.2 a = (0, 6, hk_dft 0)) (hQ : Q none (hk_up (hz_n b h (10, 30, fun _ => hk_zero 10)) a (0, 6, va_up (hk_dft 0) 0 (.ref b)))) : hk_call d mA_init [.ref a] h Q := by
  obtain ⟨d, rfl⟩ : ∃ e, d = e + 1 := ⟨d - 1, by omega⟩
  refine hk_run2 (hk_call_m d) 20 ?_
  refine w_inv h38 rfl ?_
  refine w_nab b 30 hb rfl (by omega) (by omega) (by omega) ?_
  refine w_pfa (v := .ref b) ((hz_nn hab).trans hc) h38 trivial ?_
  exact hk_qe_of hQ
set_option maxRecDepth 16384 in
theorem INV_0 (S : Nat × (Nat → Int32)) : INV hz_R (hz_X S) := by
  refine ⟨hf_nil, 1, 0, fun _ => 0, 0, fun _ => 0, fun _ => (0, 0, fun _ => 0), fun _ => (0, 0, 0), [], none, ⟨⟨⟨rfl, rfl, rfl, fun j _ => ⟨rfl, rfl⟩, fun p h => absurd h (Nat.not_lt_zero p), fun p h => absurd h (Nat.not_lt_zero p)⟩, hf_ok_nil⟩, Nat.zero_le _, rfl, ⟨by omega, rfl, fun i h => absurd h (Nat.not_lt_zero i)⟩, ⟨by omega, rfl, fun i h => absurd h (Nat.not_lt_zero i), fun _ => by show 0 < 256; omega⟩, ⟨fun s _ => ⟨Nat.zero_le _, Nat.zero_le _, fun _ => rfl, fun j e => by cases e⟩, fun s t _ _ _ i j e => by cases e⟩, fun s hs => ⟨Nat.zero_le _, by show 0 < 6; omega, fun _ => Or.inl ⟨rfl, ?_⟩, fun j e => by cases e⟩, ⟨Nat.zero_le _, rfl, fun i h => absurd h (Nat.not_lt_zero i)⟩, rfl⟩, ⟨⟨⟨rfl, rfl, fun j _ => ⟨rfl, rfl⟩, fun p h => absurd h (Nat.not_lt_zero p), fun p h => absurd h (Nat.not_lt_zero p)⟩, ⟨rfl, fun p h => absurd h (Nat.not_lt_zero p), fun p h => absurd h (Nat.not_lt_zero p)⟩, rfl, Nat.zero_le _, hf_ok_nil⟩, rfl, ⟨by omega, rfl, fun i h => absurd h (Nat.not_lt_zero i)⟩, ⟨by omega, rfl, fun i h => absurd h (Nat.not_lt_zero i), fun _ => by show 0 < 256; omega⟩, fun s _ => ⟨Nat.zero_le _, Nat.zero_le _, rfl, rfl, fun k h => absurd h (Nat.not_lt_zero k)⟩, fun s _ => ⟨Nat.zero_le _, by show 0 < 6; omega, Nat.zero_le _, fun e => absurd e (by show ¬ 0 = 2; omega), rfl, fun e => absurd rfl e, fun e => absurd e (by show ¬ 0 = 2; omega)⟩, ⟨Nat.zero_le _, rfl, fun i h => absurd h (Nat.not_lt_zero i)⟩, rfl⟩⟩
  have : s = 0 ∨ s = 1 ∨ s = 2 ∨ s = 3 := by omega
  rcases this with e | e | e | e <;> subst e <;> rfl
