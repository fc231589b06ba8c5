/-! whole_start out of the law in the small machine -/
theorem hk_any_args {s : State} {w : Cond} {A : Array Value} (hg : hk_good w = true) (h0 : w.before A s = true) (a : Array Value) : w.before a s = true := by
  unfold hk_good at hg
  split at hg
  · exact va_Nw.use rfl (va_Nw.of rfl h0)
  · simp only [Cond.before, Cond.holds, Cond.value] at h0 ⊢
    exact h0
  · exact va_AO.use (va_AO.of h0)
  · exact word_at (State.WarmedH.refl s) (good_of_word hg) h0
def hk_exf (b tA tB : Nat) (f : Nat → Nat × Nat) (k : Nat) : Nat := if k = 0 then b else if k = 1 then tA else if k = 2 then tB else if k = 3 then b else if k < 21 then (f (k - 4)).1 else (f (k - 21)).2
theorem hk_exf_s {b tA tB : Nat} {f : Nat → Nat × Nat} {j : Nat} (hj : j < 17) : hk_exf b tA tB f (4 + j) = (f j).1 := by
  unfold hk_exf
  rw [if_neg (by omega), if_neg (by omega), if_neg (by omega), if_neg (by omega), if_pos (by omega)]
  congr 2; omega
theorem hk_exf_b {b tA tB : Nat} {f : Nat → Nat × Nat} {j : Nat} : hk_exf b tA tB f (21 + j) = (f j).2 := by
  unfold hk_exf
  rw [if_neg (by omega), if_neg (by omega), if_neg (by omega), if_neg (by omega), if_neg (by omega)]
  congr 2; omega
theorem hk_T_lt {ty : FieldType} {t N : Nat} {f : Nat → Value} {A : Nat → Prop} {U : State} {H : Heap} (h : va_T ty t N f A U H) : t < H.size := by
  obtain ⟨cell, h1, -⟩ := h
  exact (Array.getElem?_eq_some_iff.mp h1).1
theorem hk_O_lt {E : String} {t : Nat} {A : Nat → Prop} {U : State} {H : Heap} (h : va_O E t A U H) : t < H.size := by
  obtain ⟨cell, h1, -⟩ := h
  exact (Array.getElem?_eq_some_iff.mp h1).1
/-- a table of the start, as a cell of the small heap -/
theorem hk_ok_T {ex : Nat → Nat} {B : Nat} {vX : Value} {dC : Nat → ClassId} {dI : Nat → Nat → Nat} {s : State} {H : Heap} {k t n : Nat} {ty : FieldType} {f : Nat → Int32} (ht : (t = 10 ∧ ty = .int) ∨ (t = 12 ∧ ty = .byte)) (hk : k < 38) {A : Nat → Prop} (h : va_T ty (ex k) n (fun j => .int (f j)) A s H) : hk_ok ex B vX dC dI s H k (t, n, fun j => .int (f j)) := by
  have h1 : 10 ≤ t ∧ t ≤ 12 ∧ hk_aty t = ty := by rcases ht with ⟨rfl, rfl⟩ | ⟨rfl, rfl⟩ <;> exact ⟨by decide, by decide, rfl⟩
  refine ⟨fun q => ?_, fun q => ?_, fun _ _ _ => ?_, fun _ _ q => ?_⟩
  · dsimp only at q; omega
  · dsimp only at q; omega
  · obtain ⟨cell, g1, g2, g3, g4, g5, g6, -⟩ := h
    rw [hk_ad_lt hk]
    dsimp only
    rw [h1.2.2]
    exact ⟨cell, g1, g2, g3, g4, g5, fun j hj => g6 j hj⟩
  · omega
set_option maxHeartbeats 4000000 in
theorem whole_start_of (hlaw : hk_Law) {p : Program} {e : Env} {s : State} {m : MethodId} {below : List Frame} {meth : Method} {c : Code} (l : Launch) (hflags : l.flags = flags0) {b L : Nat} {xs : Nat → Int32} (hL : L ≤ 320) (C0 : lw_At p s m meth c b L xs) : W p l e room_1 s m #[Value.ref b] below meth c s.heap [] 0 0 (lw_Z below #[Value.ref b] s) (entryFrame m ([Value.ref b] : List Value).toArray 4) := by
  obtain ⟨hx, hb, hr, hml, hown, hts, hX, hbl, hlocks, hgv⟩ := C0
  have hfl : ∀ c ∈ hk_flat, c.before #[Value.ref b] s = true := flat_of_before _ hgv
  have hA : ∀ a : Nat, a < s.heap.size → ¬ (fun q : Nat => s.heap.size ≤ q) a := fun a h => Nat.not_le.mpr h
  -- classes
  have hcl : ∀ t, ∃ q : ClassId × (Nat → Nat), t < 9 → u_Kn s (hk_cn t) (hk_T t) (hk_nf t) q.1 q.2 := by
    intro t
    by_cases h9 : t < 9
    · obtain ⟨nn, hn⟩ := hk_ins t h9
      obtain ⟨cC, iS, h⟩ := u_known (C := hk_cn t) (T := hk_T t) (N := hk_nf t) (n := nn) hts (fun w hw => (hk_lay0 t h9 w hw).1) (hts _ hn)
      exact ⟨(cC, iS), fun _ => h⟩
    · exact ⟨(0, fun _ => 0), fun h => absurd h h9⟩
  -- tables and texts
  obtain ⟨tA, zA, vA⟩ := hk_tab1 (l := hk_above) (by decide) hfl hk_tabA (hts _ hk_ls0) (hts _ hk_li0)
  obtain ⟨tB, zB, vB⟩ := hk_tab1 (l := hk_bodies) (by decide) hfl hk_tabB (hts _ hk_ls1) (hts _ hk_li1)
  have zC := va_Zof (A := fun q => s.heap.size ≤ q) (hts _ hk_ls2) (hts _ hk_li2) (va_eqi (hfl _ hk_tabC.1)) hA
  have zD := va_Zqof (A := fun q => s.heap.size ≤ q) (hts _ hk_ls3) (hts _ hk_li3) (hfl _ hk_tabC.2) hA
  have hst : ∀ j, ∃ q : Nat × Nat, j < 17 → vk_R "HatFields$Tape" (hk_six j) (hk_stx j) q.1 s ∧ va_O "java/lang/String" q.1 (fun q => s.heap.size ≤ q) s s.heap ∧ va_OF "java/lang/String" "coder" "B" (.int 0) q.1 (fun q => s.heap.size ≤ q) s s.heap ∧ va_OF "java/lang/String" "value" "[B" (.ref q.2) q.1 (fun q => s.heap.size ≤ q) s s.heap ∧ va_T .byte q.2 (hk_sby j).length (fun k => .int (hk_nd (hk_sby j) k)) (fun q => s.heap.size ≤ q) s s.heap := by
    intro j
    by_cases hj : j < 17
    · obtain ⟨q, h⟩ := hk_str1 (args := #[Value.ref b]) hj hfl (hts _ (hk_srf j hj))
      exact ⟨q, fun _ => h⟩
    · exact ⟨(0, 0), fun h => absurd h hj⟩
  obtain ⟨vX, hvX, zE⟩ : ∃ vX : Value, (vX = .null ∨ ∃ a, vX = .ref a) ∧ va_Z "jdk/internal/util/Preconditions" "SIOOBE_FORMATTER" "Ljava/util/function/BiFunction;" vX (fun q => s.heap.size ≤ q) s s.heap := by
    rcases zD with z | ⟨t, z⟩
    · exact ⟨.null, Or.inl rfl, z⟩
    · exact ⟨.ref t, Or.inr ⟨t, rfl⟩, z⟩
  let f : Nat → Nat × Nat := fun j => Classical.choose (hst j)
  have hf : ∀ j, j < 17 → _ := fun j => Classical.choose_spec (hst j)
  let dC : Nat → ClassId := fun t => (Classical.choose (hcl t)).1
  let dI : Nat → Nat → Nat := fun t => (Classical.choose (hcl t)).2
  have hK : ∀ t, t < 9 → u_Kn s (hk_cn t) (hk_T t) (hk_nf t) (dC t) (dI t) := fun t => Classical.choose_spec (hcl t)
  let ex := hk_exf b tA tB f
  have hex : ∀ k, k < 38 → ex k < s.heap.size := by
    intro k hk
    by_cases h0 : k = 0
    · subst h0; exact hbl
    by_cases h1 : k = 1
    · subst h1; exact hk_T_lt vA
    by_cases h2 : k = 2
    · subst h2; exact hk_T_lt vB
    by_cases h3 : k = 3
    · subst h3; exact hbl
    by_cases h4 : k < 21
    · have e1 : k = 4 + (k - 4) := by omega
      rw [e1]
      show hk_exf b tA tB f _ < _
      rw [hk_exf_s (by omega)]
      exact hk_O_lt (hf (k - 4) (by omega)).2.1
    · have e1 : k = 21 + (k - 21) := by omega
      rw [e1]
      show hk_exf b tA tB f _ < _
      rw [hk_exf_b]
      exact hk_T_lt (hf (k - 21) (by omega)).2.2.2.2
  have henv : hk_Env ex s.heap.size vX s.heap dC dI s := by
    refine ⟨fun w hw hg a => hk_any_args hg (hts w hw) a, hK, fun a ha => ?_, fun q hq => ?_, rfl, hex, hvX⟩
    · match a, ha with
      | 0, _ => exact zA
      | 1, _ => exact zB
      | 2, _ => exact zC
      | 3, _ => exact zE
      | a + 4, h => exact absurd h (by omega)
    · obtain ⟨j, hj, e1, e2, e3, e4⟩ := hk_sL_eq q hq
      rw [e1, e2, e3, e4]
      show vk_R "HatFields$Tape" (hk_six j) (hk_stx j) (hk_exf b tA tB f (4 + j)) s
      rw [hk_exf_s hj]
      exact (hf j hj).1
  let X : hk_D := (0, fun _ => 0, 0, fun _ => 0, fun _ => none, fun _ => none, L, xs)
  have hRel : hk_Rel ex s.heap.size vX s.heap dC dI s s.heap (hk_h0 X) := by
    refine ⟨rfl, Nat.le_refl _, fun _ _ => rfl, fun k => ?_⟩
    by_cases hk : k < 38
    · have e0 : (hk_h0 X).2 k = hk_ext X k := by
        show (bif Nat.ble k 37 then hk_ext X k else _) = _
        rw [show Nat.ble k 37 = true from Nat.ble_eq_true_of_le (by omega)]; rfl
      rw [e0]
      by_cases h0 : k = 0
      · subst h0
        refine ⟨fun q => absurd (show (10 : Nat) < 9 from q) (by decide), fun q => absurd (show (10 : Nat) = 9 from q) (by decide), fun _ _ _ => ?_, fun _ _ q => absurd q (by decide)⟩
        obtain ⟨scr, q1, q2, q3, q4, q5⟩ := hX
        exact ⟨scr, q1, q2, q3, by rw [q4]; exact Nat.le_refl _, by rw [q4]; rfl, q5⟩
      by_cases h1 : k = 1
      · subst h1; exact hk_ok_T (ty := .int) (Or.inl ⟨rfl, rfl⟩) (by decide) vA
      by_cases h2 : k = 2
      · subst h2; exact hk_ok_T (ty := .int) (Or.inl ⟨rfl, rfl⟩) (by decide) vB
      by_cases h3 : k = 3
      · subst h3
        exact ⟨fun q => absurd (show (99 : Nat) < 9 from q) (by decide), fun q => absurd (show (99 : Nat) = 9 from q) (by decide), fun _ q => absurd (show (99 : Nat) ≤ 12 from q) (by decide), fun _ q => absurd (show (99 : Nat) ≤ 16 from q) (by decide)⟩
      by_cases h4 : k < 21
      · have e1 : k = 4 + (k - 4) := by omega
        generalize k - 4 = j at e1
        subst e1
        have hj : j < 17 := by omega
        rw [hk_ext_s j hj]
        obtain ⟨-, g1, g2, g3, -⟩ := hf j hj
        have ea : hk_ad ex s.heap.size (4 + j) = (f j).1 := by rw [hk_ad_lt hk]; exact hk_exf_s hj
        refine ⟨fun q => absurd (show (9 : Nat) < 9 from q) (by decide), fun _ => ⟨Nat.le_refl 2, by rw [ea]; exact g1, fun i hi => ?_⟩, fun q => absurd (show 10 ≤ (9 : Nat) from q) (by decide), fun q => absurd (show 10 ≤ (9 : Nat) from q) (by decide)⟩
        rw [ea]
        match i, hi with
        | 0, _ =>
          have e2 : hk_cv ex s.heap.size vX (.ref (21 + j)) = .ref (f j).2 := by
            show Value.ref (hk_ad ex s.heap.size (21 + j)) = _
            rw [hk_ad_lt (by omega)]
            show Value.ref (hk_exf b tA tB f (21 + j)) = _
            rw [hk_exf_b]
          show va_OF "java/lang/String" "value" "[B" (hk_cv ex s.heap.size vX (.ref (21 + j))) (f j).1 _ s s.heap
          rw [e2]
          exact g3
        | 1, _ => exact g2
        | i + 2, h => exact absurd h (by omega)
      · have e1 : k = 21 + (k - 21) := by omega
        generalize k - 21 = j at e1
        subst e1
        have hj : j < 17 := by omega
        rw [hk_ext_b j hj]
        refine hk_ok_T (ty := .byte) (Or.inr ⟨rfl, rfl⟩) hk ?_ (A := fun q => s.heap.size ≤ q)
        show va_T .byte (hk_exf b tA tB f (21 + j)) _ _ _ s s.heap
        rw [hk_exf_b]
        exact (hf j hj).2.2.2.2
    · have e0 : (hk_h0 X).2 k = (99, 0, fun _ => .null) := by
        show (bif Nat.ble k 37 then hk_ext X k else _) = _
        have : Nat.ble k 37 = false := by
          cases hq : Nat.ble k 37
          · rfl
          · exact absurd (Nat.le_of_ble_eq_true hq) (by omega)
        rw [this]; rfl
      rw [e0]
      exact ⟨fun q => absurd q (by decide), fun q => absurd q (by decide), fun _ q => absurd q (by decide), fun _ q => absurd q (by decide)⟩
  have XX : hk_Cx p l room_1 s m meth c ex s.heap.size vX s.heap dC dI 60 hcdLAW (hk_call 60) 10 false 4 217 4215 code := by
    refine ⟨hx, hb, hml, hown, henv, fun z => absurd z (by decide), fun ip en he => ?_, fun M as h Q => hk_sound l 60 M as h Q, by decide, by decide, by decide, by decide⟩
    obtain ⟨lst, h1, h2⟩ := hk_at_in he
    exact List.all_eq_true.mp (hk_chLAW lst h1) en h2
  have hw := hlaw X hL _ (hk_close (e := e) (args := #[Value.ref b]) (below := below) (Qf := lw_Z below #[Value.ref b] s) XX
    (fun ty v h1 H locs k n la pc hty hQ hnr hR1 hlo hk hn hd => by
      have hv : v = 1 := by
        have := Option.some.inj hQ
        exact Value.int.inj this
      subst hv
      refine va_forget (fun q hq => hlo q hq) ?_
      refine W.widen (k := 600000) (n := 7302250) (by omega) (by omega) ?_
      exact lw_ret hx hb hr hlocks hd)
    (fun h1 H locs k n la pc hty hQ hR1 hlo hk hn hd => absurd hty (by decide)))
  rw [lg_entry_eq]
  have hl := lv_entry ([Value.ref b]) (n := 4) (Nat.le_of_ble_eq_true rfl)
  exact hw s.heap [] _ hl hRel (fun q hq => absurd hq List.not_mem_nil) (Nat.zero_le _) (Nat.zero_le _)
