/-! THE TEXT: signs, names, numbers; how it is read -/
def ts (L : Nat) (B : Nat → Nat) (p : Nat) : Nat := if L ≤ p then 0 else if 97 ≤ B p ∧ B p ≤ 122 then 1 else if 48 ≤ B p ∧ B p ≤ 57 then 2 else 3
def sk (L : Nat) (B : Nat → Nat) : Nat → Nat → Nat
  | 0, p => p
  | f + 1, p => if p < L ∧ B p = 32 then sk L B f (p + 1) else p
def te (L : Nat) (B : Nat → Nat) (s : Nat) : Nat → Nat → Nat
  | 0, p => p
  | f + 1, p => if ts L B p = s then te L B s f (p + 1) else p
/-- a sign: where it begins, its sort, where it ends -/
abbrev hTk : Type := Nat × Nat × Nat
def tkb (L : Nat) (B : Nat → Nat) (b : Nat) : hTk := (b, ts L B b, if ts L B b = 0 then b else if ts L B b = 3 then b + 1 else te L B (ts L B b) 200 b)
def tk (L : Nat) (B : Nat → Nat) (e : Nat) : hTk := tkb L B (sk L B 200 e)
theorem ts_lt {L p : Nat} {B : Nat → Nat} (h : ts L B p ≠ 0) : p < L := by
  unfold ts at h
  by_cases q : L ≤ p
  · rw [if_pos q] at h; exact absurd rfl h
  · omega
theorem ts_3 (L : Nat) (B : Nat → Nat) (p : Nat) : ts L B p ≤ 3 := by
  unfold ts; split
  · omega
  · split
    · omega
    · split <;> omega
theorem sk_le {L : Nat} {B : Nat → Nat} : ∀ f p, p ≤ L → p ≤ sk L B f p ∧ sk L B f p ≤ L
  | 0, p, h => ⟨Nat.le_refl _, h⟩
  | f + 1, p, h => by
    unfold sk
    split
    · rename_i q
      have := sk_le (L := L) (B := B) f (p + 1) (by omega)
      omega
    · exact ⟨Nat.le_refl _, h⟩
theorem te_le {L s : Nat} {B : Nat → Nat} (hs : s ≠ 0) : ∀ f p, p ≤ L → p ≤ te L B s f p ∧ te L B s f p ≤ L
  | 0, p, h => ⟨Nat.le_refl _, h⟩
  | f + 1, p, h => by
    unfold te
    split
    · rename_i q
      have hp := ts_lt (L := L) (B := B) (p := p) (by omega)
      have := te_le (L := L) (B := B) hs f (p + 1) (by omega)
      omega
    · exact ⟨Nat.le_refl _, h⟩
theorem te_all {L s : Nat} {B : Nat → Nat} : ∀ f p i, p ≤ i → i < te L B s f p → ts L B i = s
  | 0, p, i, h1, h2 => by unfold te at h2; omega
  | f + 1, p, i, h1, h2 => by
    unfold te at h2
    by_cases q : ts L B p = s
    · rw [if_pos q] at h2
      by_cases e : i = p
      · rw [e]; exact q
      · exact te_all f (p + 1) i (by omega) h2
    · rw [if_neg q] at h2; omega
/-- what every sign is like -/
def tkw (L : Nat) (B : Nat → Nat) (t : hTk) : Prop := t.1 ≤ t.2.2 ∧ t.2.2 ≤ L ∧ t.2.1 ≤ 3 ∧ (t.2.1 ≠ 0 → t.1 < t.2.2) ∧ (t.2.1 = 1 ∨ t.2.1 = 2 → ∀ i, t.1 ≤ i → i < t.2.2 → ts L B i = t.2.1) ∧ (t.2.1 = 0 → t.1 = L) ∧ (t.2.1 = 3 → t.1 < L)
theorem tk_w {L : Nat} {B : Nat → Nat} (e : Nat) (he : e ≤ L) (hL : L ≤ 200) : tkw L B (tk L B e) ∧ e ≤ (tk L B e).1 := by
  have hb := sk_le (L := L) (B := B) 200 e he
  unfold tk tkb
  generalize sk L B 200 e = b at hb
  have h3 := ts_3 L B b
  unfold tkw
  dsimp only
  by_cases q0 : ts L B b = 0
  · rw [if_pos q0, q0]
    refine ⟨⟨Nat.le_refl _, hb.2, by omega, fun h => absurd rfl h, fun h => by omega, fun _ => ?_, fun h => by omega⟩, hb.1⟩
    unfold ts at q0
    by_cases q : L ≤ b
    · omega
    · rw [if_neg q] at q0
      split at q0
      · omega
      · split at q0 <;> omega
  · have bl := ts_lt q0
    rw [if_neg q0]
    by_cases q3 : ts L B b = 3
    · rw [if_pos q3, q3]
      exact ⟨⟨by omega, by omega, by omega, fun _ => by omega, fun h => by omega, fun h => by omega, fun _ => bl⟩, hb.1⟩
    · rw [if_neg q3]
      have tl := te_le (L := L) (B := B) q0 200 b hb.2
      have tp : b < te L B (ts L B b) 200 b := by
        have := te_le (L := L) (B := B) q0 199 (b + 1) (by omega)
        rw [show te L B (ts L B b) 200 b = te L B (ts L B b) 199 (b + 1) from if_pos rfl]
        omega
      exact ⟨⟨by omega, tl.2, by omega, fun _ => tp, fun _ i h1 h2 => te_all 200 b i h1 h2, fun h => absurd h q0, fun h => absurd h q3⟩, hb.1⟩
/-- the names -/
def nmL : List (List Nat) := [[104, 97, 116], [112, 105, 110, 110, 101, 100], [115, 116, 114, 97, 119], [116, 105, 101, 100], [102, 101, 97, 116, 104, 101, 114, 101, 100], [102, 101, 108, 116], [119, 111, 114, 116, 104], [111, 102], [111, 110], [112, 101, 114, 115, 111, 110], [115, 112, 101, 101, 100], [119, 105, 110, 100], [110, 111, 114, 116, 104], [101, 97, 115, 116], [115, 111, 117, 116, 104], [119, 101, 115, 116], [110, 111, 119]]
def nm (i : Nat) : List Nat := nmL.getD i []
def hf_sp (B : Nat → Nat) (t : hTk) (i : Nat) : Prop := t.2.1 = 1 ∧ t.2.2 - t.1 = (nm i).length ∧ ∀ k, k < (nm i).length → B (t.1 + k) = (nm i).getD k 0
/-- the name that a sign is, or 17 -/
def hf_id (B : Nat → Nat) (t : hTk) : Nat := if t.2.1 = 1 then (List.range 17).findIdx (fun i => decide (t.2.2 - t.1 = (nm i).length) && (List.range (nm i).length).all (fun k => decide (B (t.1 + k) = (nm i).getD k 0))) else 17
theorem hf_id_b {B : Nat → Nat} {t : hTk} {i : Nat} : (decide (t.2.2 - t.1 = (nm i).length) && (List.range (nm i).length).all (fun k => decide (B (t.1 + k) = (nm i).getD k 0))) = true ↔ t.2.2 - t.1 = (nm i).length ∧ ∀ k, k < (nm i).length → B (t.1 + k) = (nm i).getD k 0 := by
  rw [Bool.and_eq_true, decide_eq_true_iff, List.all_eq_true]
  refine ⟨fun h => ⟨h.1, fun k hk => of_decide_eq_true (h.2 k (List.mem_range.mpr hk))⟩, fun h => ⟨h.1, fun k hk => decide_eq_true (h.2 k (List.mem_range.mp hk))⟩⟩
theorem nm_inj : ∀ i, i < 17 → ∀ j, j < 17 → nm i = nm j → i = j := by decide
theorem hf_sp_u {B : Nat → Nat} {t : hTk} {i j : Nat} (hi : i < 17) (hj : j < 17) (h1 : hf_sp B t i) (h2 : hf_sp B t j) : i = j := by
  refine nm_inj i hi j hj ?_
  have el : (nm i).length = (nm j).length := h1.2.1.symm.trans h2.2.1
  refine List.ext_getElem el (fun k k1 k2 => ?_)
  have a := h1.2.2 k k1
  have b := h2.2.2 k k2
  rw [List.getD_eq_getElem?_getD, List.getElem?_eq_getElem k1] at a
  rw [List.getD_eq_getElem?_getD, List.getElem?_eq_getElem k2] at b
  exact a.symm.trans b
theorem hf_id_i {B : Nat → Nat} {t : hTk} {i : Nat} (hi : i < 17) : hf_id B t = i ↔ hf_sp B t i := by
  unfold hf_id
  by_cases h1 : t.2.1 = 1
  · rw [if_pos h1]
    generalize ep : (fun i => decide (t.2.2 - t.1 = (nm i).length) && (List.range (nm i).length).all (fun k => decide (B (t.1 + k) = (nm i).getD k 0))) = p
    have pi : ∀ j, p j = true ↔ (t.2.2 - t.1 = (nm j).length ∧ ∀ k, k < (nm j).length → B (t.1 + k) = (nm j).getD k 0) := fun j => by rw [← ep]; exact hf_id_b
    have at_ : ∀ j (h : j < (List.range 17).length), (List.range 17)[j] = j := fun j h => List.getElem_range h
    constructor
    · intro h
      have hl : (List.range 17).findIdx p < (List.range 17).length := by rw [h, List.length_range]; exact hi
      have g := List.findIdx_getElem (w := hl)
      rw [at_ _ hl, h] at g
      exact ⟨h1, (pi i).mp g⟩
    · intro h
      have g : p i = true := (pi i).mpr h.2
      have hl : (List.range 17).findIdx p < (List.range 17).length := List.findIdx_lt_length_of_exists ⟨i, List.mem_range.mpr hi, g⟩
      have g2 := List.findIdx_getElem (w := hl)
      rw [at_ _ hl] at g2
      have hl' : (List.range 17).findIdx p < 17 := by rw [List.length_range] at hl; exact hl
      exact hf_sp_u hl' hi ⟨h1, (pi _).mp g2⟩ h
  · rw [if_neg h1]
    exact ⟨fun h => by omega, fun h => absurd h.1 h1⟩
/-! words as numbers -/
def cd27 (f : Nat → Nat) : Nat → Nat
  | 0 => 0
  | n + 1 => 27 * cd27 f n + f n
theorem cd27_inj {f g : Nat → Nat} : ∀ n m, (∀ i, i < n → 1 ≤ f i ∧ f i ≤ 26) → (∀ i, i < m → 1 ≤ g i ∧ g i ≤ 26) → cd27 f n = cd27 g m → n = m ∧ ∀ i, i < n → f i = g i
  | 0, 0, _, _, _ => ⟨rfl, fun i hi => absurd hi (Nat.not_lt_zero i)⟩
  | 0, m + 1, _, hg, h => by have := hg m (by omega); unfold cd27 at h; omega
  | n + 1, 0, hf, _, h => by have := hf n (by omega); unfold cd27 at h; omega
  | n + 1, m + 1, hf, hg, h => by
    have a := hf n (by omega)
    have b := hg m (by omega)
    have h : 27 * cd27 f n + f n = 27 * cd27 g m + g m := h
    have e1 : f n = g m := by omega
    have e2 : cd27 f n = cd27 g m := by omega
    obtain ⟨z1, z2⟩ := cd27_inj n m (fun i hi => hf i (by omega)) (fun i hi => hg i (by omega)) e2
    subst z1
    refine ⟨rfl, fun i hi => ?_⟩
    by_cases e : i = n
    · rw [e]; exact e1
    · exact z2 i (by omega)
theorem cd27_lt {f : Nat → Nat} : ∀ n, (∀ i, i < n → f i ≤ 26) → cd27 f n < 27 ^ n
  | 0, _ => Nat.one_pos
  | n + 1, h => by
    have a := cd27_lt n (fun i hi => h i (by omega))
    have b := h n (by omega)
    unfold cd27
    rw [Nat.pow_succ]
    omega
/-- the reference's word -/
def wv (B : Nat → Nat) (b : Nat) : Nat → Int64
  | 0 => 0
  | n + 1 => if n < 12 then 27 * wv B b n + (nI (B (b + n))).toInt64 - 96 else -1
def nmC : List Int64 := [5879, 234651388, 10504211, 400360, 1747557746734, 122087, 12532058, 411, 419, 232608281, 10416091, 459652, 7749089, 99677, 10408481, 456887, 10634]
def nmw (i : Nat) : Int64 := nmC.getD i 0
theorem lN_e (n : Nat) : lN n = Int64.ofNat n := rfl
theorem wv_cd {B : Nat → Nat} {b : Nat} : ∀ n, n ≤ 12 → (∀ i, i < n → 97 ≤ B (b + i) ∧ B (b + i) ≤ 122) → wv B b n = Int64.ofNat (cd27 (fun i => B (b + i) - 96) n)
  | 0, _, _ => rfl
  | n + 1, h, hb => by
    have z := hb n (by omega)
    have ih := wv_cd n (by omega) (fun i hi => hb i (by omega))
    rw [wv, if_pos (by omega), ih, nI_l (by omega), lN_e]
    show _ = Int64.ofNat (27 * cd27 (fun i => B (b + i) - 96) n + (B (b + n) - 96))
    have e : 27 * cd27 (fun i => B (b + i) - 96) n + B (b + n) = (27 * cd27 (fun i => B (b + i) - 96) n + (B (b + n) - 96)) + 96 := by omega
    rw [show (27 : Int64) = Int64.ofNat 27 from rfl, ← Int64.ofNat_mul, ← Int64.ofNat_add, e, Int64.ofNat_add, show (96 : Int64) = Int64.ofNat 96 from rfl, Int64.add_sub_cancel]
def cdn (i : Nat) : Nat := cd27 (fun k => (nm i).getD k 0 - 96) (nm i).length
theorem nm_ok : ∀ i, i < 17 → nmw i = Int64.ofNat (cdn i) ∧ cdn i < 2 ^ 62 ∧ (nm i).length ≤ 12 ∧ ∀ k, k < (nm i).length → 97 ≤ (nm i).getD k 0 ∧ (nm i).getD k 0 ≤ 122 := by decide
theorem i64_inj {a b : Nat} (ha : a < 2 ^ 62) (hb : b < 2 ^ 62) (h : Int64.ofNat a = Int64.ofNat b) : a = b := by
  have e := congrArg Int64.toInt h
  rw [Int64.toInt_ofNat_of_lt (by omega), Int64.toInt_ofNat_of_lt (by omega)] at e
  omega
theorem hf_wv {L : Nat} {B : Nat → Nat} {t : hTk} (hw : tkw L B t) (h1 : t.2.1 = 1) {i : Nat} (hi : i < 17) : wv B t.1 (t.2.2 - t.1) = nmw i ↔ hf_sp B t i := by
  obtain ⟨n1, n2, n3, n4⟩ := nm_ok i hi
  have lt := hw.2.2.2.1 (by omega)
  have hl : ∀ k, k < t.2.2 - t.1 → 97 ≤ B (t.1 + k) ∧ B (t.1 + k) ≤ 122 := by
    intro k hk
    have z := hw.2.2.2.2.1 (Or.inl h1) (t.1 + k) (by omega) (by omega)
    rw [h1] at z
    unfold ts at z
    split at z
    · omega
    · split at z
      · assumption
      · split at z <;> omega
  generalize hn : t.2.2 - t.1 = n at lt hl
  by_cases q : n ≤ 12
  · rw [wv_cd n q hl, n1]
    have clt := cd27_lt (f := fun i => B (t.1 + i) - 96) n (fun i hi => by have := hl i hi; show B (t.1 + i) - 96 ≤ 26; omega)
    have pw : 27 ^ n ≤ 27 ^ 12 := Nat.pow_le_pow_right (by decide) q
    have pw2 : 27 ^ 12 < 2 ^ 62 := by decide
    constructor
    · intro h
      have e := i64_inj (by omega) n2 h
      obtain ⟨z1, z2⟩ := cd27_inj n (nm i).length (fun i hi => by have := hl i hi; show 1 ≤ B (t.1 + i) - 96 ∧ B (t.1 + i) - 96 ≤ 26; omega) (fun k hk => by have := n4 k hk; omega) e
      refine ⟨h1, by omega, fun k hk => ?_⟩
      have a := z2 k (by omega)
      have b := hl k (by omega)
      have c := n4 k hk
      omega
    · intro h
      have e : n = (nm i).length := by rw [← hn]; exact h.2.1
      congr 1
      unfold cdn
      rw [e]
      have : ∀ m, m ≤ (nm i).length → cd27 (fun i => B (t.1 + i) - 96) m = cd27 (fun k => (nm i).getD k 0 - 96) m := by
        intro m
        induction m with
        | zero => intro _; rfl
        | succ m ih => intro hm; unfold cd27; rw [ih (by omega), h.2.2 m (by omega)]
      exact this _ (Nat.le_refl _)
  · constructor
    · intro h
      obtain ⟨m, em⟩ : ∃ m, n = m + 1 := ⟨n - 1, by omega⟩
      rw [em, wv, if_neg (by omega), n1] at h
      have e := congrArg Int64.toInt h
      rw [Int64.toInt_ofNat_of_lt (by omega)] at e
      have : (-1 : Int64).toInt = -1 := rfl
      omega
    · intro h
      have e : n = (nm i).length := by rw [← hn]; exact h.2.1
      omega
/-! numbers -/
def vv (B : Nat → Nat) (b : Nat) : Nat → Int32
  | 0 => 0
  | n + 1 => if n < 2 then 10 * vv B b n + nI (B (b + n)) - 48 else -1
/-- the number that a sign is, or 1000 -/
def hf_nu (B : Nat → Nat) (t : hTk) : Nat := if t.2.1 = 2 ∧ t.2.2 - t.1 ≤ 2 then (if t.2.2 - t.1 = 1 then B t.1 - 48 else 10 * (B t.1 - 48) + (B (t.1 + 1) - 48)) else 1000
theorem vv_nu {L : Nat} {B : Nat → Nat} {t : hTk} (hw : tkw L B t) (h2 : t.2.1 = 2) : (t.2.2 - t.1 ≤ 2 → vv B t.1 (t.2.2 - t.1) = nI (hf_nu B t) ∧ hf_nu B t < 100) ∧ (¬ t.2.2 - t.1 ≤ 2 → vv B t.1 (t.2.2 - t.1) = -1 ∧ hf_nu B t = 1000) := by
  have lt := hw.2.2.2.1 (by omega)
  have hl : ∀ k, k < t.2.2 - t.1 → 48 ≤ B (t.1 + k) ∧ B (t.1 + k) ≤ 57 := by
    intro k hk
    have z := hw.2.2.2.2.1 (Or.inr h2) (t.1 + k) (by omega) (by omega)
    rw [h2] at z
    unfold ts at z
    split at z
    · omega
    · split at z
      · omega
      · split at z
        · assumption
        · omega
  have d1 : ∀ x : Nat, 48 ≤ x → x ≤ 57 → ∀ y, y < 10 → (10 : Int32) * nI y + nI x - 48 = nI (10 * y + (x - 48)) := by
    intro x h1 h2 y hy
    have : ∀ x, x < 58 → 48 ≤ x → ∀ y, y < 10 → (10 : Int32) * nI y + nI x - 48 = nI (10 * y + (x - 48)) := by decide +kernel
    exact this x (by omega) h1 y hy
  refine ⟨fun h => ?_, fun h => ?_⟩
  · unfold hf_nu
    rw [if_pos ⟨h2, h⟩]
    have z0 := hl 0 (by omega)
    rw [Nat.add_zero] at z0
    by_cases q : t.2.2 - t.1 = 1
    · rw [if_pos q, q]
      refine ⟨?_, by omega⟩
      show (if 0 < 2 then 10 * vv B t.1 0 + nI (B (t.1 + 0)) - 48 else -1) = _
      rw [if_pos (by decide), Nat.add_zero, show vv B t.1 0 = nI 0 from rfl, d1 _ z0.1 z0.2 0 (by omega)]
      congr 1; omega
    · have q2 : t.2.2 - t.1 = 2 := by omega
      have z1 := hl 1 (by omega)
      rw [if_neg q, q2]
      refine ⟨?_, by omega⟩
      show (if 1 < 2 then 10 * vv B t.1 1 + nI (B (t.1 + 1)) - 48 else -1) = _
      rw [if_pos (by decide), show vv B t.1 1 = nI (B t.1 - 48) from ?_, d1 _ z1.1 z1.2 _ (by omega)]
      show (if 0 < 2 then 10 * vv B t.1 0 + nI (B (t.1 + 0)) - 48 else -1) = _
      rw [if_pos (by decide), Nat.add_zero, show vv B t.1 0 = nI 0 from rfl, d1 _ z0.1 z0.2 0 (by omega)]
      congr 1; omega
  · obtain ⟨m, em⟩ : ∃ m, t.2.2 - t.1 = m + 1 := ⟨t.2.2 - t.1 - 1, by omega⟩
    refine ⟨by rw [em, vv, if_neg (by omega)], ?_⟩
    unfold hf_nu
    rw [if_neg (fun z => h z.2)]
