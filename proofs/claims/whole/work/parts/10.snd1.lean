/-! SOUNDNESS of the small machine, 1: what a heap of the model is beside the small one's -/
def hk_ad (ex : Nat → Nat) (B k : Nat) : Nat := if k < 38 then ex k else B + (k - 38)
def hk_cv (ex : Nat → Nat) (B : Nat) (vX : Value) (v : Value) : Value := match v with
  | .ref k => .ref (hk_ad ex B k)
  | .float _ => vX
  | v => v
def hk_aty (t : Nat) : FieldType := match t with
  | 10 => .int
  | 11 => .long
  | 12 => .byte
  | t => .object (hk_an t)
/-- a cell of the small heap stands in the model's heap at its address -/
def hk_ok (ex : Nat → Nat) (B : Nat) (vX : Value) (dC : Nat → ClassId) (dI : Nat → Nat → Nat) (s : State) (H : Heap) (k : Nat) (c : hk_Ce) : Prop :=
  (c.1 < 9 → hk_nf c.1 ≤ c.2.1 ∧ t_OB (hk_ad ex B k) (dC c.1) (hk_nf c.1) (dI c.1) H (fun j => hk_cv ex B vX (c.2.2 j))) ∧
  (c.1 = 9 → 2 ≤ c.2.1 ∧ va_O "java/lang/String" (hk_ad ex B k) (fun q => B ≤ q) s H ∧ ∀ j, j < 2 → va_OF "java/lang/String" (hk_T 9 j).2.1 (hk_T 9 j).2.2.1 (hk_cv ex B vX (c.2.2 j)) (hk_ad ex B k) (fun q => B ≤ q) s H) ∧
  (10 ≤ c.1 → c.1 ≤ 12 → k < 38 → ∃ cell : Cell, H[hk_ad ex B k]? = some cell ∧ s.isArrayOf cell (hk_aty c.1) ∧ cell.vm ≠ .unknown ∧ c.2.1 ≤ cell.slots.size ∧ cell.slots.size.toInt32 = Int32.ofNat c.2.1 ∧ ∀ j, j < c.2.1 → cell.slots[j]? = some (hk_cv ex B vX (c.2.2 j))) ∧
  (10 ≤ c.1 → c.1 ≤ 16 → 38 ≤ k → ∃ cA : ClassId, H[hk_ad ex B k]? = some (arrV cA c.2.1 (fun j => hk_cv ex B vX (c.2.2 j))) ∧ ArrOfT s cA (hk_aty c.1) ∧ (13 ≤ c.1 → va_RA s cA (hk_aty c.1)))
def hk_Rel (ex : Nat → Nat) (B : Nat) (vX : Value) (H0 : Heap) (dC : Nat → ClassId) (dI : Nat → Nat → Nat) (s : State) (H : Heap) (h : hk_Hp) : Prop :=
  H.size = B + (h.1 - 38) ∧ 38 ≤ h.1 ∧ (∀ q, q < B → H[q]? = H0[q]?) ∧ ∀ k, hk_ok ex B vX dC dI s H k (h.2 k)
def hk_Env (ex : Nat → Nat) (B : Nat) (vX : Value) (H0 : Heap) (dC : Nat → ClassId) (dI : Nat → Nat → Nat) (s : State) : Prop :=
  (∀ w ∈ lw_tbl, hk_good w = true → ∀ a, w.before a s = true) ∧ (∀ t, t < 9 → u_Kn s (hk_cn t) (hk_T t) (hk_nf t) (dC t) (dI t)) ∧
  (∀ a, a < 4 → va_Z (hk_zn a).1 (hk_zn a).2.1 (hk_zn a).2.2 (hk_cv ex B vX (hk_sv a)) (fun q => B ≤ q) s H0) ∧
  (∀ e ∈ hk_sL, vk_R (hk_cn e.1) e.2.1 e.2.2.2.1 (ex e.2.2.1) s) ∧ H0.size = B ∧ (∀ k, k < 38 → ex k < B) ∧ (vX = .null ∨ ∃ a, vX = .ref a)
section Snd1
variable {ex : Nat → Nat} {B : Nat} {vX : Value} {H0 : Heap} {dC : Nat → ClassId} {dI : Nat → Nat → Nat} {s U : State} {H H1 : Heap} {h : hk_Hp} {k : Nat} {c : hk_Ce}
theorem hk_ad_ge (hk : 38 ≤ k) : hk_ad ex B k = B + (k - 38) := if_neg (Nat.not_lt.mpr hk)
theorem hk_ad_lt (hk : k < 38) : hk_ad ex B k = ex k := if_pos hk
theorem hk_ad_B (hk : 38 ≤ k) : B ≤ hk_ad ex B k := by rw [hk_ad_ge hk]; exact Nat.le_add_right _ _
theorem hk_ad_ne (hex : ∀ k, k < 38 → ex k < B) {a : Nat} (ha : 38 ≤ a) (hk : k ≠ a) : hk_ad ex B k ≠ hk_ad ex B a := by
  by_cases h1 : k < 38
  · have := hex k h1
    have := hk_ad_B (ex := ex) (B := B) ha
    rw [hk_ad_lt h1]
    omega
  · rw [hk_ad_ge (by omega), hk_ad_ge ha]
    omega
theorem hk_cv_cat (hX : vX = .null ∨ ∃ a, vX = .ref a) (v : Value) : (hk_cv ex B vX v).category = v.category := by
  cases v with
  | float x => rcases hX with h | ⟨a, h⟩ <;> rw [hk_cv, h] <;> rfl
  | _ => rfl
theorem hk_ok_kept (g : hk_ok ex B vX dC dI s H k c) (hq : H1[hk_ad ex B k]? = H[hk_ad ex B k]?) : hk_ok ex B vX dC dI s H1 k c := by
  obtain ⟨g1, g2, g3, g4⟩ := g
  refine ⟨fun q => ⟨(g1 q).1, (g1 q).2.kept hq⟩, fun q => ⟨(g2 q).1, ?_, fun j hj => ?_⟩, fun a b d => ?_, fun a b d => ?_⟩
  · obtain ⟨cell, h1, h2⟩ := (g2 q).2.1
    exact ⟨cell, by rw [hq]; exact h1, h2⟩
  · obtain ⟨cf, kc, i, f, cell, h1, h2, h3, h4⟩ := (g2 q).2.2 j hj
    exact ⟨cf, kc, i, f, cell, h1, h2, by rw [hq]; exact h3, h4⟩
  · obtain ⟨cell, h1, h2⟩ := g3 a b d
    exact ⟨cell, by rw [hq]; exact h1, h2⟩
  · obtain ⟨cA, h1, h2⟩ := g4 a b d
    exact ⟨cA, by rw [hq]; exact h1, h2⟩
theorem hk_ok_moved (hvm : s.vm.Alike U.vm) (g : hk_ok ex B vX dC dI s H k c) : hk_ok ex B vX dC dI U H k c := by
  obtain ⟨g1, g2, g3, g4⟩ := g
  refine ⟨g1, fun q => ⟨(g2 q).1, va_O.moved hvm (g2 q).2.1, fun j hj => va_OF.moved hvm ((g2 q).2.2 j hj)⟩, fun a b d => ?_, fun a b d => ?_⟩
  · obtain ⟨cell, h1, h2, h3⟩ := g3 a b d
    exact ⟨cell, h1, State.isArrayOf_alike hvm h2, h3⟩
  · obtain ⟨cA, h1, h2, h3⟩ := g4 a b d
    exact ⟨cA, h1, arrOfT_moved hvm h2, fun q => (h3 q).moved hvm⟩
theorem hk_Rel_moved (hvm : s.vm.Alike U.vm) (g : hk_Rel ex B vX H0 dC dI s H h) : hk_Rel ex B vX H0 dC dI U H h :=
  ⟨g.1, g.2.1, g.2.2.1, fun k => hk_ok_moved hvm (g.2.2.2 k)⟩
theorem hk_ok_ev {c' : hk_Ce} (h1 : c.1 = c'.1) (h2 : c.2.1 = c'.2.1) (h3 : ∀ k, k < c.2.1 → c.2.2 k = c'.2.2 k) (g : hk_ok ex B vX dC dI s H k c) : hk_ok ex B vX dC dI s H k c' := by
  obtain ⟨t, n, f⟩ := c
  obtain ⟨t', n', f'⟩ := c'
  dsimp only at h1 h2 h3
  subst h1; subst h2
  obtain ⟨g1, g2, g3, g4⟩ := g
  dsimp only [hk_ok] at g1 g2 g3 g4 ⊢
  refine ⟨fun q => ⟨(g1 q).1, (g1 q).2.to (fun j hj => by rw [h3 j (Nat.lt_of_lt_of_le hj (g1 q).1)])⟩, fun q => ⟨(g2 q).1, (g2 q).2.1, fun j hj => ?_⟩, fun a b d => ?_, fun a b d => ?_⟩
  · rw [← h3 j (Nat.lt_of_lt_of_le hj (g2 q).1)]
    exact (g2 q).2.2 j hj
  · obtain ⟨cell, q1, q2, q3, q4, q5, q6⟩ := g3 a b d
    exact ⟨cell, q1, q2, q3, q4, q5, fun j hj => by rw [q6 j hj, h3 j hj]⟩
  · obtain ⟨cA, q1, q2⟩ := g4 a b d
    refine ⟨cA, ?_, q2⟩
    rw [q1]
    unfold arrV
    congr 2
    apply Array.ext'
    simp only [Array.toList_ofFn]
    congr 1
    funext j
    rw [h3 j.val j.isLt]
theorem hk_Env_warm (hW : s.WarmedH U.vm) (g : hk_Env ex B vX H0 dC dI s) : hk_Env ex B vX H0 dC dI U := by
  obtain ⟨g1, g2, g3, g4, g5⟩ := g
  refine ⟨fun w hw hg a => ?_, fun t ht => u_Kn_moved hW.alike (g2 t ht), fun a ha => va_Z.moved hW.alike (g3 a ha), fun e he => vk_R.warm hW (g4 e he), g5⟩
  have h0 := g1 w hw hg
  unfold hk_good at hg
  split at hg
  · exact va_Nw.use rfl (va_Nw.warmM hW (va_Nw.of rfl (h0 #[])))
  · have h1 := Cond.stringRef_warmed hW (h0 #[])
    have hv : U.vm = (s.setVm U.vm).vm := rfl
    simp only [Cond.before, Cond.holds, Cond.value, State.names, State.poolOf?, State.resolvedAt?, ← hv] at h1 ⊢
    exact h1
  · exact va_AO.use (va_AO.moved hW.alike (va_AO.of (h0 #[])))
  · exact word_at hW (good_of_word hg) (h0 #[])
end Snd1
