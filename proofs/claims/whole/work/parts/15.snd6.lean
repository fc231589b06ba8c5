/-! SOUNDNESS, 6: the whole step -/
def hk_P1 (p : Program) (l : Launch) (e : Env) (R : Room) (s : State) (m : MethodId) (args : Array Value) (below : List Frame) (meth : Method) (c : Code) (Qf : State → Prop) (ex : Nat → Nat) (B : Nat) (vX : Value) (H0 : Heap) (dC : Nat → ClassId) (dI : Nat → Nat → Nat) (pc mx C S : Nat) (ls : hk_Ls) (st : List Value) (h : hk_Hp) (k n : Nat) : Prop :=
  ∀ (H : Heap) (locs : List Loc) (la : Array Slot), lv_has la mx (hk_cvl ex B vX ls) → hk_Rel ex B vX H0 dC dI s H h → (∀ q ∈ locs, B ≤ q.base) → k ≤ C → n ≤ S → W p l e R s m args below meth c H locs k n Qf (F0 m pc la (st.map (hk_cv ex B vX)))
theorem hk_sL38 : ∀ q ∈ hk_sL, q.2.2.1 < 38 := by decide +kernel
theorem hk_pfv_k {tc : Nat} {v : Value} {K : Prop} (g : hk_pfv tc v K) : K := by
  unfold hk_pfv at g
  split at g
  · exact g.2
  · exact g.2
  · exact g.2
  · exact g.2
  · exact g.2
  · exact absurd g id
theorem hk_alc_sp {t a b C S k n : Nat} {K : Nat → Nat → Prop} (g : hk_alc [t, a, b] C S k n K) (hk : k ≤ C) (hn : n ≤ S) : ∃ k1 n1, k1 ≤ C ∧ n1 ≤ S ∧ k1 = k + a ∧ n1 = n + b ∧ K k1 n1 := by
  unfold hk_alc at g
  split at g
  · rename_i e; cases e; exact ⟨k, n, hk, hn, rfl, rfl, g⟩
  · rename_i e; cases e; exact ⟨_, _, g.1.1, g.1.2, rfl, rfl, g.2⟩
  · exact absurd g id
theorem hk_mo9a : hk_mL.all (fun q => !(Nat.beq q.2.2.1 0) || Nat.ble (hk_mo q.2.2.2.1) 9) = true := by decide +kernel
theorem hk_mo9 {own x M : Nat} (hf : hk_mL.any (fun q => Nat.beq q.1 own && Nat.beq q.2.1 x && Nat.beq q.2.2.1 0 && Nat.beq q.2.2.2.1 M) = true) : hk_mo M ≤ 9 := by
  obtain ⟨q, -, h2, h3⟩ := hk_any hf hk_mo9a
  simp only [Bool.and_eq_true] at h2
  rw [h2.1.2, Nat.eq_of_beq_eq_true h2.2] at h3
  exact Nat.le_of_ble_eq_true (by simpa using h3)
section Snd6
variable {p : Program} {l : Launch} {e : Env} {R : Room} {s : State} {m : MethodId} {args : Array Value} {below : List Frame} {meth : Method} {c : Code} {Qf : State → Prop} {ex : Nat → Nat} {B : Nat} {vX : Value} {H0 : Heap} {dC : Nat → ClassId} {dI : Nat → Nat → Nat} {d : Nat} {cd : hk_Cd} {call : hk_C} {own : Nat} {ini : Bool} {mx C S : Nat} {bs : ByteArray}
variable {H : Heap} {locs : List Loc} {la : Array Slot} {ls : hk_Ls} {st : List Value} {h : hk_Hp} {k n pc nx a ip : Nat}
theorem hk_s_if (hx : p.tables.exec = Jvm.exec) (hbs : c.code = bs) {d : ClassFile.Cond} {off : Int} (hd : decode bs pc = .ok (.ifCond d off, 3)) (hJ : (pc : Int) + off = (hk_pc cd a : Int)) (hN : hk_pc cd nx = pc + 3) {x : Int32} {A B0 : Prop} (g : hk_ift d x 0 A B0) {rest : List Value} (hA : A → W p l e R s m args below meth c H locs k n Qf (F0 m (hk_pc cd a) la rest)) (hB : B0 → W p l e R s m args below meth c H locs k n Qf (F0 m (pc + 3) la rest)) : W p l e R s m args below meth c H locs k n Qf (F0 m pc la (.int x :: rest)) := by
  cases d
  · exact lv_if_eq hx hbs hd hJ (fun z => hA (g.1 z)) (fun z => hB (g.2 z))
  · exact lv_if_ne hx hbs hd hJ (fun z => hA (g.2 z)) (fun z => hB (g.1 z))
  · exact lv_if_lt hx hbs hd hJ (fun z => hA (g.1 z)) (fun z => hB (g.2 z))
  · exact lv_if_ge hx hbs hd hJ (fun z => hA (g.1 z)) (fun z => hB (g.2 z))
  · exact lv_if_gt hx hbs hd hJ (fun z => hA (g.1 z)) (fun z => hB (g.2 z))
  · exact lv_if_le hx hbs hd hJ (fun z => hA (g.1 z)) (fun z => hB (g.2 z))
theorem hk_s_icmp (hx : p.tables.exec = Jvm.exec) (hbs : c.code = bs) {d : ClassFile.Cond} {off : Int} (hd : decode bs pc = .ok (.if_icmp d off, 3)) (hJ : (pc : Int) + off = (hk_pc cd a : Int)) (hN : hk_pc cd nx = pc + 3) {x y : Int32} {A B0 : Prop} (g : hk_ift d x y A B0) {rest : List Value} (hA : A → W p l e R s m args below meth c H locs k n Qf (F0 m (hk_pc cd a) la rest)) (hB : B0 → W p l e R s m args below meth c H locs k n Qf (F0 m (pc + 3) la rest)) : W p l e R s m args below meth c H locs k n Qf (F0 m pc la (.int y :: .int x :: rest)) := by
  cases d
  · exact lv_icmp_eq hx hbs hd hJ (fun z => hA (g.1 z)) (fun z => hB (g.2 z))
  · exact lv_icmp_ne hx hbs hd hJ (fun z => hA (g.2 z)) (fun z => hB (g.1 z))
  · exact lv_icmp_lt hx hbs hd hJ (fun z => hA (g.1 z)) (fun z => hB (g.2 z))
  · exact lv_icmp_ge hx hbs hd hJ (fun z => hA (g.1 z)) (fun z => hB (g.2 z))
  · exact lv_icmp_gt hx hbs hd hJ (fun z => hA (g.1 z)) (fun z => hB (g.2 z))
  · exact lv_icmp_le hx hbs hd hJ (fun z => hA (g.1 z)) (fun z => hB (g.2 z))
theorem hk_fin4 {j : Nat} (h : Nat.blt j 4 = true) : ((Fin.ofNat 4 j : Fin 4) : Nat) = j := Nat.mod_eq_of_lt (Nat.lt_of_succ_le (Nat.le_of_ble_eq_true h))
theorem hk_blt {a b : Nat} (h : Nat.blt a b = true) : a < b := Nat.lt_of_succ_le (Nat.le_of_ble_eq_true h)

set_option maxHeartbeats 4000000 in
theorem hk_o_aconst_null (X : hk_Cx p l R s m meth c ex B vX H0 dC dI d cd call own ini mx C S bs)  {b : Nat} {cc : Int32} {tl : List Nat} (hck : hk_chk cd own ini mx bs (pc, .aconst_null, nx, a, b, cc, tl) = true)
    (g : (hk_PP p l e R s m args below meth c Qf ex B vX H0 dC dI cd mx C S) nx ls (.null :: st) h k n) : hk_P1 p l e R s m args below meth c Qf ex B vX H0 dC dI pc mx C S ls st h k n := by
  intro H locs la hl hR hq hk hn
  have hX0 := X
  obtain ⟨hx, hbs, hml, hown, henv, hini, hchk, -, hroom⟩ := hX0
  have hVX := henv.2.2.2.2.2.2
  unfold hk_chk at hck
  dsimp only at hck
  obtain ⟨hd, hN⟩ := hk_dn hck
  exact lv_null hx hbs hd (hk_nx g hN hl hR hq hk hn)
set_option maxHeartbeats 4000000 in
theorem hk_o_iconst (X : hk_Cx p l R s m meth c ex B vX H0 dC dI d cd call own ini mx C S bs) {u0 : Int} {b : Nat} {cc : Int32} {tl : List Nat} (hck : hk_chk cd own ini mx bs (pc, .iconst u0, nx, a, b, cc, tl) = true)
    (g : (hk_PP p l e R s m args below meth c Qf ex B vX H0 dC dI cd mx C S) nx ls (.int cc :: st) h k n) : hk_P1 p l e R s m args below meth c Qf ex B vX H0 dC dI pc mx C S ls st h k n := by
  intro H locs la hl hR hq hk hn
  have hX0 := X
  obtain ⟨hx, hbs, hml, hown, henv, hini, hchk, -, hroom⟩ := hX0
  have hVX := henv.2.2.2.2.2.2
  unfold hk_chk at hck
  dsimp only at hck
  split at hck
  · rename_i z hd; simp only [Bool.and_eq_true] at hck
    exact lv_iconst hx hbs hd (of_decide_eq_true hck.1) (hk_nx g (Nat.eq_of_beq_eq_true hck.2) hl hR hq hk hn)
  · rename_i z hd; simp only [Bool.and_eq_true] at hck
    exact lv_bipush hx hbs hd (of_decide_eq_true hck.1) (hk_nx g (Nat.eq_of_beq_eq_true hck.2) hl hR hq hk hn)
  · rename_i z hd; simp only [Bool.and_eq_true] at hck
    exact lv_sipush hx hbs hd (of_decide_eq_true hck.1) (hk_nx g (Nat.eq_of_beq_eq_true hck.2) hl hR hq hk hn)
  · rename_i z hd; rw [Bool.and_eq_true] at hck
    obtain ⟨q, -, h2, h3⟩ := hk_any hck.1 hk_iL_ok
    simp only [Bool.and_eq_true] at h2
    unfold hk_iOK at h3
    rw [Nat.eq_of_beq_eq_true h2.1.1, Nat.eq_of_beq_eq_true h2.1.2, of_decide_eq_true h2.2] at h3
    exact lv_ldc hx hbs hown (hk_word X (hk_w_in h3)) hd (hk_nx g (Nat.eq_of_beq_eq_true hck.2) hl hR hq hk hn)
  · rename_i z hd; rw [Bool.and_eq_true] at hck
    obtain ⟨q, -, h2, h3⟩ := hk_any hck.1 hk_iL_ok
    simp only [Bool.and_eq_true] at h2
    unfold hk_iOK at h3
    rw [Nat.eq_of_beq_eq_true h2.1.1, Nat.eq_of_beq_eq_true h2.1.2, of_decide_eq_true h2.2] at h3
    exact lv_ldcw hx hbs hown (hk_word X (hk_w_in h3)) hd (hk_nx g (Nat.eq_of_beq_eq_true hck.2) hl hR hq hk hn)
  · exact absurd hck (by decide)
set_option maxHeartbeats 4000000 in
theorem hk_o_lconst (X : hk_Cx p l R s m meth c ex B vX H0 dC dI d cd call own ini mx C S bs) {u0 : Fin 2} {b : Nat} {cc : Int32} {tl : List Nat} (hck : hk_chk cd own ini mx bs (pc, .lconst u0, nx, a, b, cc, tl) = true)
    (g : (match hk_nth hk_lc a with | some v => (hk_PP p l e R s m args below meth c Qf ex B vX H0 dC dI cd mx C S) nx ls (.long v :: st) h k n | none => False)) : hk_P1 p l e R s m args below meth c Qf ex B vX H0 dC dI pc mx C S ls st h k n := by
  intro H locs la hl hR hq hk hn
  have hX0 := X
  obtain ⟨hx, hbs, hml, hown, henv, hini, hchk, -, hroom⟩ := hX0
  have hVX := henv.2.2.2.2.2.2
  unfold hk_chk at hck
  dsimp only at hck
  try dsimp only at g
  split at hck
  · rename_i z hd; simp only [Bool.and_eq_true] at hck
    have ea := Nat.eq_of_beq_eq_true hck.1.1
    have hz : z.val = 0 ∨ z.val = 1 := by omega
    rcases hz with h0 | h0
    · rw [← ea, h0] at g
      exact lv_lconst (v := 0) hx hbs hd (by rw [h0]; rfl) (hk_nx g (Nat.eq_of_beq_eq_true hck.2) hl hR hq hk hn)
    · rw [← ea, h0] at g
      exact lv_lconst (v := 1) hx hbs hd (by rw [h0]; rfl) (hk_nx g (Nat.eq_of_beq_eq_true hck.2) hl hR hq hk hn)
  · rename_i z hd; rw [Bool.and_eq_true] at hck
    obtain ⟨q, -, h2, h3⟩ := hk_any hck.1 hk_lL_ok
    simp only [Bool.and_eq_true] at h2
    unfold hk_lOK at h3
    rw [Nat.eq_of_beq_eq_true h2.1.1, Nat.eq_of_beq_eq_true h2.1.2, Nat.eq_of_beq_eq_true h2.2] at h3
    split at g
    · rename_i v hv
      rw [hv] at h3
      exact lv_ldc2 hx hbs hown (hk_word X (hk_w_in h3)) hd (hk_nx g (Nat.eq_of_beq_eq_true hck.2) hl hR hq hk hn)
    · exact absurd g id
  · exact absurd hck (by decide)
set_option maxHeartbeats 4000000 in
theorem hk_o_ldc (X : hk_Cx p l R s m meth c ex B vX H0 dC dI d cd call own ini mx C S bs) {u0 : Nat} {b : Nat} {cc : Int32} {tl : List Nat} (hck : hk_chk cd own ini mx bs (pc, .ldc u0, nx, a, b, cc, tl) = true)
    (g : (hk_PP p l e R s m args below meth c Qf ex B vX H0 dC dI cd mx C S) nx ls (.ref a :: st) h k n) : hk_P1 p l e R s m args below meth c Qf ex B vX H0 dC dI pc mx C S ls st h k n := by
  intro H locs la hl hR hq hk hn
  have hX0 := X
  obtain ⟨hx, hbs, hml, hown, henv, hini, hchk, -, hroom⟩ := hX0
  have hVX := henv.2.2.2.2.2.2
  unfold hk_chk at hck
  dsimp only at hck
  split at hck
  · rename_i z hd; rw [Bool.and_eq_true] at hck
    obtain ⟨q, q1, h2⟩ := List.any_eq_true.mp hck.1
    simp only [Bool.and_eq_true] at h2
    have hz := henv.2.2.2.1 q q1
    rw [Nat.eq_of_beq_eq_true h2.1.1, Nat.eq_of_beq_eq_true h2.1.2, Nat.eq_of_beq_eq_true h2.2] at hz
    have h38 : a < 38 := by
      rw [← Nat.eq_of_beq_eq_true h2.2]
      exact hk_sL38 q q1
    have g' := hk_nx g (Nat.eq_of_beq_eq_true hck.2) hl hR hq hk hn
    refine va_ldcS hx hbs hown hz hd ?_
    have e1 : hk_ad ex B a = ex a := hk_ad_lt h38
    rw [← e1]
    exact g'
  · exact absurd hck (by decide)
set_option maxHeartbeats 4000000 in
theorem hk_o_iload (X : hk_Cx p l R s m meth c ex B vX H0 dC dI d cd call own ini mx C S bs) {j : Nat} {b : Nat} {cc : Int32} {tl : List Nat} (hck : hk_chk cd own ini mx bs (pc, .iload j, nx, a, b, cc, tl) = true)
    (g : hk_lk ls j (fun v => match v with | .int x => (hk_PP p l e R s m args below meth c Qf ex B vX H0 dC dI cd mx C S) nx ls (.int x :: st) h k n | _ => False)) : hk_P1 p l e R s m args below meth c Qf ex B vX H0 dC dI pc mx C S ls st h k n := by
  intro H locs la hl hR hq hk hn
  have hX0 := X
  obtain ⟨hx, hbs, hml, hown, henv, hini, hchk, -, hroom⟩ := hX0
  have hVX := henv.2.2.2.2.2.2
  unfold hk_chk at hck
  dsimp only at hck
  obtain ⟨v, hm, hv⟩ := hk_lk_in g
  rw [Bool.or_eq_true] at hck
  have hla := hl.2.2 _ (List.mem_map.mpr ⟨_, hm, rfl⟩)
  cases v <;> first | exact absurd hv id | skip
  case int =>
    rcases hck with z | z
    · obtain ⟨hd, hN⟩ := hk_dn z
      exact lv_iload hx hbs hd hla (hk_nx hv hN hl hR hq hk hn)
    · rw [Bool.and_eq_true] at z
      obtain ⟨hd, hN⟩ := hk_dn z.2
      exact lv_iload_n hx hbs hd (hk_fin4 z.1) hla (hk_nx hv hN hl hR hq hk hn)
set_option maxHeartbeats 4000000 in
theorem hk_o_lload (X : hk_Cx p l R s m meth c ex B vX H0 dC dI d cd call own ini mx C S bs) {j : Nat} {b : Nat} {cc : Int32} {tl : List Nat} (hck : hk_chk cd own ini mx bs (pc, .lload j, nx, a, b, cc, tl) = true)
    (g : hk_lk ls j (fun v => match v with | .long x => (hk_PP p l e R s m args below meth c Qf ex B vX H0 dC dI cd mx C S) nx ls (.long x :: st) h k n | _ => False)) : hk_P1 p l e R s m args below meth c Qf ex B vX H0 dC dI pc mx C S ls st h k n := by
  intro H locs la hl hR hq hk hn
  have hX0 := X
  obtain ⟨hx, hbs, hml, hown, henv, hini, hchk, -, hroom⟩ := hX0
  have hVX := henv.2.2.2.2.2.2
  unfold hk_chk at hck
  dsimp only at hck
  obtain ⟨v, hm, hv⟩ := hk_lk_in g
  rw [Bool.or_eq_true] at hck
  have hla := hl.2.2 _ (List.mem_map.mpr ⟨_, hm, rfl⟩)
  cases v <;> first | exact absurd hv id | skip
  case long =>
    rcases hck with z | z
    · obtain ⟨hd, hN⟩ := hk_dn z
      exact lv_lload hx hbs hd hla (hk_nx hv hN hl hR hq hk hn)
    · rw [Bool.and_eq_true] at z
      obtain ⟨hd, hN⟩ := hk_dn z.2
      exact lv_lload_n hx hbs hd (hk_fin4 z.1) hla (hk_nx hv hN hl hR hq hk hn)
set_option maxHeartbeats 4000000 in
theorem hk_o_aload (X : hk_Cx p l R s m meth c ex B vX H0 dC dI d cd call own ini mx C S bs) {j : Nat} {b : Nat} {cc : Int32} {tl : List Nat} (hck : hk_chk cd own ini mx bs (pc, .aload j, nx, a, b, cc, tl) = true)
    (g : hk_lk ls j (fun v => match v with | .ref x => (hk_PP p l e R s m args below meth c Qf ex B vX H0 dC dI cd mx C S) nx ls (.ref x :: st) h k n | .null => (hk_PP p l e R s m args below meth c Qf ex B vX H0 dC dI cd mx C S) nx ls (.null :: st) h k n | _ => False)) : hk_P1 p l e R s m args below meth c Qf ex B vX H0 dC dI pc mx C S ls st h k n := by
  intro H locs la hl hR hq hk hn
  have hX0 := X
  obtain ⟨hx, hbs, hml, hown, henv, hini, hchk, -, hroom⟩ := hX0
  have hVX := henv.2.2.2.2.2.2
  unfold hk_chk at hck
  dsimp only at hck
  obtain ⟨v, hm, hv⟩ := hk_lk_in g
  rw [Bool.or_eq_true] at hck
  have hla := hl.2.2 _ (List.mem_map.mpr ⟨_, hm, rfl⟩)
  cases v <;> first | exact absurd hv id | skip
  case null =>
    rcases hck with z | z
    · obtain ⟨hd, hN⟩ := hk_dn z
      exact lv_aloadN hx hbs hd hla (hk_nx hv hN hl hR hq hk hn)
    · rw [Bool.and_eq_true] at z
      obtain ⟨hd, hN⟩ := hk_dn z.2
      exact lv_aload_nN hx hbs hd (hk_fin4 z.1) hla (hk_nx hv hN hl hR hq hk hn)
  case ref =>
    rcases hck with z | z
    · obtain ⟨hd, hN⟩ := hk_dn z
      exact lv_aload hx hbs hd hla (hk_nx hv hN hl hR hq hk hn)
    · rw [Bool.and_eq_true] at z
      obtain ⟨hd, hN⟩ := hk_dn z.2
      exact lv_aload_n hx hbs hd (hk_fin4 z.1) hla (hk_nx hv hN hl hR hq hk hn)
set_option maxHeartbeats 4000000 in
theorem hk_o_istore (X : hk_Cx p l R s m meth c ex B vX H0 dC dI d cd call own ini mx C S bs) {j : Nat} {b : Nat} {cc : Int32} {tl : List Nat} (hck : hk_chk cd own ini mx bs (pc, .istore j, nx, a, b, cc, tl) = true)
    (g : (match (generalizing := false) st with | .int x :: r => hk_fl (hk_p1 j) ls (fun l9 => (hk_PP p l e R s m args below meth c Qf ex B vX H0 dC dI cd mx C S) nx ((j, .int x) :: l9) r h k n) | _ => False)) : hk_P1 p l e R s m args below meth c Qf ex B vX H0 dC dI pc mx C S ls st h k n := by
  intro H locs la hl hR hq hk hn
  have hX0 := X
  obtain ⟨hx, hbs, hml, hown, henv, hini, hchk, -, hroom⟩ := hX0
  have hVX := henv.2.2.2.2.2.2
  unfold hk_chk at hck
  dsimp only at hck
  rw [Bool.and_eq_true, Bool.or_eq_true] at hck
  obtain ⟨hj, hck⟩ := hck
  have hj := hk_blt hj
  try dsimp only at g
  split at g
  · rw [hk_fl_eq] at g
    rcases hck with z | z
    · obtain ⟨hd, hN⟩ := hk_dn z
      exact lv_istore (lv' := hk_cvl ex B vX ((j, _) :: ls.filter (hk_p1 j))) hx hbs hd hl hj (by unfold hk_cvl; rw [hk_fil1 hVX]; rfl) (fun la hl => hk_nx g hN hl hR hq hk hn)
    · rw [Bool.and_eq_true] at z
      obtain ⟨hd, hN⟩ := hk_dn z.2
      exact lv_istore_n (lv' := hk_cvl ex B vX ((j, _) :: ls.filter (hk_p1 j))) hx hbs hd (hk_fin4 z.1) hl hj (by unfold hk_cvl; rw [hk_fil1 hVX]; rfl) (fun la hl => hk_nx g hN hl hR hq hk hn)
  · exact absurd g id
set_option maxHeartbeats 4000000 in
theorem hk_o_lstore (X : hk_Cx p l R s m meth c ex B vX H0 dC dI d cd call own ini mx C S bs) {j : Nat} {b : Nat} {cc : Int32} {tl : List Nat} (hck : hk_chk cd own ini mx bs (pc, .lstore j, nx, a, b, cc, tl) = true)
    (g : (match (generalizing := false) st with | .long x :: r => hk_fl (hk_p2 j) ls (fun l9 => (hk_PP p l e R s m args below meth c Qf ex B vX H0 dC dI cd mx C S) nx ((j, .long x) :: l9) r h k n) | _ => False)) : hk_P1 p l e R s m args below meth c Qf ex B vX H0 dC dI pc mx C S ls st h k n := by
  intro H locs la hl hR hq hk hn
  have hX0 := X
  obtain ⟨hx, hbs, hml, hown, henv, hini, hchk, -, hroom⟩ := hX0
  have hVX := henv.2.2.2.2.2.2
  unfold hk_chk at hck
  dsimp only at hck
  rw [Bool.and_eq_true, Bool.or_eq_true] at hck
  obtain ⟨hj, hck⟩ := hck
  have hj := hk_blt hj
  try dsimp only at g
  split at g
  · rw [hk_fl_eq] at g
    rcases hck with z | z
    · obtain ⟨hd, hN⟩ := hk_dn z
      exact lv_lstore (lv' := hk_cvl ex B vX ((j, _) :: ls.filter (hk_p2 j))) hx hbs hd hl hj (by unfold hk_cvl; rw [hk_fil2 hVX]; rfl) (fun la hl => hk_nx g hN hl hR hq hk hn)
    · rw [Bool.and_eq_true] at z
      obtain ⟨hd, hN⟩ := hk_dn z.2
      exact lv_lstore_n (lv' := hk_cvl ex B vX ((j, _) :: ls.filter (hk_p2 j))) hx hbs hd (hk_fin4 z.1) hl hj (by unfold hk_cvl; rw [hk_fil2 hVX]; rfl) (fun la hl => hk_nx g hN hl hR hq hk hn)
  · exact absurd g id
set_option maxHeartbeats 4000000 in
theorem hk_o_astore (X : hk_Cx p l R s m meth c ex B vX H0 dC dI d cd call own ini mx C S bs) {j : Nat} {b : Nat} {cc : Int32} {tl : List Nat} (hck : hk_chk cd own ini mx bs (pc, .astore j, nx, a, b, cc, tl) = true)
    (g : (match (generalizing := false) st with | .ref x :: r => hk_fl (hk_p1 j) ls (fun l9 => (hk_PP p l e R s m args below meth c Qf ex B vX H0 dC dI cd mx C S) nx ((j, .ref x) :: l9) r h k n) | .null :: r => hk_fl (hk_p1 j) ls (fun l9 => (hk_PP p l e R s m args below meth c Qf ex B vX H0 dC dI cd mx C S) nx ((j, .null) :: l9) r h k n) | _ => False)) : hk_P1 p l e R s m args below meth c Qf ex B vX H0 dC dI pc mx C S ls st h k n := by
  intro H locs la hl hR hq hk hn
  have hX0 := X
  obtain ⟨hx, hbs, hml, hown, henv, hini, hchk, -, hroom⟩ := hX0
  have hVX := henv.2.2.2.2.2.2
  unfold hk_chk at hck
  dsimp only at hck
  rw [Bool.and_eq_true, Bool.or_eq_true] at hck
  obtain ⟨hj, hck⟩ := hck
  have hj := hk_blt hj
  try dsimp only at g
  split at g
  · rw [hk_fl_eq] at g
    rcases hck with z | z
    · obtain ⟨hd, hN⟩ := hk_dn z
      exact lv_astore (lv' := hk_cvl ex B vX ((j, _) :: ls.filter (hk_p1 j))) hx hbs hd hl hj (by unfold hk_cvl; rw [hk_fil1 hVX]; rfl) (fun la hl => hk_nx g hN hl hR hq hk hn)
    · rw [Bool.and_eq_true] at z
      obtain ⟨hd, hN⟩ := hk_dn z.2
      exact lv_astore_n (lv' := hk_cvl ex B vX ((j, _) :: ls.filter (hk_p1 j))) hx hbs hd (hk_fin4 z.1) hl hj (by unfold hk_cvl; rw [hk_fil1 hVX]; rfl) (fun la hl => hk_nx g hN hl hR hq hk hn)
  · rw [hk_fl_eq] at g
    rcases hck with z | z
    · obtain ⟨hd, hN⟩ := hk_dn z
      exact lv_astoreN (lv' := hk_cvl ex B vX ((j, _) :: ls.filter (hk_p1 j))) hx hbs hd hl hj (by unfold hk_cvl; rw [hk_fil1 hVX]; rfl) (fun la hl => hk_nx g hN hl hR hq hk hn)
    · rw [Bool.and_eq_true] at z
      obtain ⟨hd, hN⟩ := hk_dn z.2
      exact lv_astore_nN (lv' := hk_cvl ex B vX ((j, _) :: ls.filter (hk_p1 j))) hx hbs hd (hk_fin4 z.1) hl hj (by unfold hk_cvl; rw [hk_fil1 hVX]; rfl) (fun la hl => hk_nx g hN hl hR hq hk hn)
  · exact absurd g id
set_option maxHeartbeats 4000000 in
theorem hk_o_iinc (X : hk_Cx p l R s m meth c ex B vX H0 dC dI d cd call own ini mx C S bs) {j : Nat} {u1 : Int} {b : Nat} {cc : Int32} {tl : List Nat} (hck : hk_chk cd own ini mx bs (pc, .iinc j u1, nx, a, b, cc, tl) = true)
    (g : hk_lk ls j (fun v => match v with | .int x => hk_fl (hk_p1 j) ls (fun l9 => (hk_PP p l e R s m args below meth c Qf ex B vX H0 dC dI cd mx C S) nx ((j, .int (x + cc)) :: l9) st h k n) | _ => False)) : hk_P1 p l e R s m args below meth c Qf ex B vX H0 dC dI pc mx C S ls st h k n := by
  intro H locs la hl hR hq hk hn
  have hX0 := X
  obtain ⟨hx, hbs, hml, hown, henv, hini, hchk, -, hroom⟩ := hX0
  have hVX := henv.2.2.2.2.2.2
  unfold hk_chk at hck
  dsimp only at hck
  split at hck
  · rename_i j' z hd
    simp only [Bool.and_eq_true] at hck
    obtain ⟨⟨⟨h1, h2⟩, h3⟩, h4⟩ := hck
    have ej := Nat.eq_of_beq_eq_true h1
    subst ej
    obtain ⟨v, hm, hv⟩ := hk_lk_in g
    cases v <;> first | exact absurd hv id | skip
    obtain ⟨q, hq0⟩ := List.getElem?_of_mem (List.mem_map.mpr ⟨_, hm, rfl⟩ : _ ∈ hk_cvl ex B vX ls)
    have hv := hv
    dsimp only at hv
    rw [hk_fl_eq] at hv
    exact lv_iinc (lv' := hk_cvl ex B vX ((_, _) :: ls.filter (hk_p1 _))) hx hbs hd hl (k := q) hq0 (by rw [of_decide_eq_true h3]) (hk_blt h2) (by unfold hk_cvl; rw [hk_fil1 hVX]; rfl) (fun la hl => hk_nx hv (Nat.eq_of_beq_eq_true h4) hl hR hq hk hn)
  · exact absurd hck (by decide)
set_option maxHeartbeats 4000000 in
theorem hk_o_pop (X : hk_Cx p l R s m meth c ex B vX H0 dC dI d cd call own ini mx C S bs)  {b : Nat} {cc : Int32} {tl : List Nat} (hck : hk_chk cd own ini mx bs (pc, .pop, nx, a, b, cc, tl) = true)
    (g : (match (generalizing := false) st with | .int _ :: r => (hk_PP p l e R s m args below meth c Qf ex B vX H0 dC dI cd mx C S) nx ls r h k n | _ => False)) : hk_P1 p l e R s m args below meth c Qf ex B vX H0 dC dI pc mx C S ls st h k n := by
  intro H locs la hl hR hq hk hn
  have hX0 := X
  obtain ⟨hx, hbs, hml, hown, henv, hini, hchk, -, hroom⟩ := hX0
  have hVX := henv.2.2.2.2.2.2
  unfold hk_chk at hck
  dsimp only at hck
  obtain ⟨hd, hN⟩ := hk_dn hck
  try dsimp only at g
  split at g
  · exact lv_pop hx hbs hd rfl (hk_nx g hN hl hR hq hk hn)
  · exact absurd g id
set_option maxHeartbeats 4000000 in
theorem hk_o_dup (X : hk_Cx p l R s m meth c ex B vX H0 dC dI d cd call own ini mx C S bs)  {b : Nat} {cc : Int32} {tl : List Nat} (hck : hk_chk cd own ini mx bs (pc, .dup, nx, a, b, cc, tl) = true)
    (g : (match (generalizing := false) st with | .int x :: r => (hk_PP p l e R s m args below meth c Qf ex B vX H0 dC dI cd mx C S) nx ls (.int x :: .int x :: r) h k n | .ref x :: r => (hk_PP p l e R s m args below meth c Qf ex B vX H0 dC dI cd mx C S) nx ls (.ref x :: .ref x :: r) h k n | _ => False)) : hk_P1 p l e R s m args below meth c Qf ex B vX H0 dC dI pc mx C S ls st h k n := by
  intro H locs la hl hR hq hk hn
  have hX0 := X
  obtain ⟨hx, hbs, hml, hown, henv, hini, hchk, -, hroom⟩ := hX0
  have hVX := henv.2.2.2.2.2.2
  unfold hk_chk at hck
  dsimp only at hck
  obtain ⟨hd, hN⟩ := hk_dn hck
  try dsimp only at g
  split at g
  · exact lv_dup hx hbs hd rfl (hk_nx g hN hl hR hq hk hn)
  · exact lv_dup hx hbs hd rfl (hk_nx g hN hl hR hq hk hn)
  · exact absurd g id
set_option maxHeartbeats 4000000 in
theorem hk_o_iadd (X : hk_Cx p l R s m meth c ex B vX H0 dC dI d cd call own ini mx C S bs)  {b : Nat} {cc : Int32} {tl : List Nat} (hck : hk_chk cd own ini mx bs (pc, .iadd, nx, a, b, cc, tl) = true)
    (g : hk_i2 HAdd.hAdd st (fun s9 => (hk_PP p l e R s m args below meth c Qf ex B vX H0 dC dI cd mx C S) nx ls s9 h k n)) : hk_P1 p l e R s m args below meth c Qf ex B vX H0 dC dI pc mx C S ls st h k n := by
  intro H locs la hl hR hq hk hn
  have hX0 := X
  obtain ⟨hx, hbs, hml, hown, henv, hini, hchk, -, hroom⟩ := hX0
  have hVX := henv.2.2.2.2.2.2
  unfold hk_chk at hck
  dsimp only at hck
  obtain ⟨hd, hN⟩ := hk_dn hck
  unfold hk_i2 at g
  split at g
  · exact lv_iadd hx hbs hd (hk_nx g hN hl hR hq hk hn)
  · exact absurd g id
set_option maxHeartbeats 4000000 in
theorem hk_o_isub (X : hk_Cx p l R s m meth c ex B vX H0 dC dI d cd call own ini mx C S bs)  {b : Nat} {cc : Int32} {tl : List Nat} (hck : hk_chk cd own ini mx bs (pc, .isub, nx, a, b, cc, tl) = true)
    (g : hk_i2 HSub.hSub st (fun s9 => (hk_PP p l e R s m args below meth c Qf ex B vX H0 dC dI cd mx C S) nx ls s9 h k n)) : hk_P1 p l e R s m args below meth c Qf ex B vX H0 dC dI pc mx C S ls st h k n := by
  intro H locs la hl hR hq hk hn
  have hX0 := X
  obtain ⟨hx, hbs, hml, hown, henv, hini, hchk, -, hroom⟩ := hX0
  have hVX := henv.2.2.2.2.2.2
  unfold hk_chk at hck
  dsimp only at hck
  obtain ⟨hd, hN⟩ := hk_dn hck
  unfold hk_i2 at g
  split at g
  · exact lv_isub hx hbs hd (hk_nx g hN hl hR hq hk hn)
  · exact absurd g id
set_option maxHeartbeats 4000000 in
theorem hk_o_imul (X : hk_Cx p l R s m meth c ex B vX H0 dC dI d cd call own ini mx C S bs)  {b : Nat} {cc : Int32} {tl : List Nat} (hck : hk_chk cd own ini mx bs (pc, .imul, nx, a, b, cc, tl) = true)
    (g : hk_i2 HMul.hMul st (fun s9 => (hk_PP p l e R s m args below meth c Qf ex B vX H0 dC dI cd mx C S) nx ls s9 h k n)) : hk_P1 p l e R s m args below meth c Qf ex B vX H0 dC dI pc mx C S ls st h k n := by
  intro H locs la hl hR hq hk hn
  have hX0 := X
  obtain ⟨hx, hbs, hml, hown, henv, hini, hchk, -, hroom⟩ := hX0
  have hVX := henv.2.2.2.2.2.2
  unfold hk_chk at hck
  dsimp only at hck
  obtain ⟨hd, hN⟩ := hk_dn hck
  unfold hk_i2 at g
  split at g
  · exact lv_imul hx hbs hd (hk_nx g hN hl hR hq hk hn)
  · exact absurd g id
set_option maxHeartbeats 4000000 in
theorem hk_o_iand (X : hk_Cx p l R s m meth c ex B vX H0 dC dI d cd call own ini mx C S bs)  {b : Nat} {cc : Int32} {tl : List Nat} (hck : hk_chk cd own ini mx bs (pc, .iand, nx, a, b, cc, tl) = true)
    (g : hk_i2 HAnd.hAnd st (fun s9 => (hk_PP p l e R s m args below meth c Qf ex B vX H0 dC dI cd mx C S) nx ls s9 h k n)) : hk_P1 p l e R s m args below meth c Qf ex B vX H0 dC dI pc mx C S ls st h k n := by
  intro H locs la hl hR hq hk hn
  have hX0 := X
  obtain ⟨hx, hbs, hml, hown, henv, hini, hchk, -, hroom⟩ := hX0
  have hVX := henv.2.2.2.2.2.2
  unfold hk_chk at hck
  dsimp only at hck
  obtain ⟨hd, hN⟩ := hk_dn hck
  unfold hk_i2 at g
  split at g
  · exact lv_iand hx hbs hd (hk_nx g hN hl hR hq hk hn)
  · exact absurd g id
set_option maxHeartbeats 4000000 in
theorem hk_o_ior (X : hk_Cx p l R s m meth c ex B vX H0 dC dI d cd call own ini mx C S bs)  {b : Nat} {cc : Int32} {tl : List Nat} (hck : hk_chk cd own ini mx bs (pc, .ior, nx, a, b, cc, tl) = true)
    (g : hk_i2 HOr.hOr st (fun s9 => (hk_PP p l e R s m args below meth c Qf ex B vX H0 dC dI cd mx C S) nx ls s9 h k n)) : hk_P1 p l e R s m args below meth c Qf ex B vX H0 dC dI pc mx C S ls st h k n := by
  intro H locs la hl hR hq hk hn
  have hX0 := X
  obtain ⟨hx, hbs, hml, hown, henv, hini, hchk, -, hroom⟩ := hX0
  have hVX := henv.2.2.2.2.2.2
  unfold hk_chk at hck
  dsimp only at hck
  obtain ⟨hd, hN⟩ := hk_dn hck
  unfold hk_i2 at g
  split at g
  · exact lv_ior hx hbs hd (hk_nx g hN hl hR hq hk hn)
  · exact absurd g id
set_option maxHeartbeats 4000000 in
theorem hk_o_ixor (X : hk_Cx p l R s m meth c ex B vX H0 dC dI d cd call own ini mx C S bs)  {b : Nat} {cc : Int32} {tl : List Nat} (hck : hk_chk cd own ini mx bs (pc, .ixor, nx, a, b, cc, tl) = true)
    (g : hk_i2 HXor.hXor st (fun s9 => (hk_PP p l e R s m args below meth c Qf ex B vX H0 dC dI cd mx C S) nx ls s9 h k n)) : hk_P1 p l e R s m args below meth c Qf ex B vX H0 dC dI pc mx C S ls st h k n := by
  intro H locs la hl hR hq hk hn
  have hX0 := X
  obtain ⟨hx, hbs, hml, hown, henv, hini, hchk, -, hroom⟩ := hX0
  have hVX := henv.2.2.2.2.2.2
  unfold hk_chk at hck
  dsimp only at hck
  obtain ⟨hd, hN⟩ := hk_dn hck
  unfold hk_i2 at g
  split at g
  · exact lv_ixor hx hbs hd (hk_nx g hN hl hR hq hk hn)
  · exact absurd g id
set_option maxHeartbeats 4000000 in
theorem hk_o_ishl (X : hk_Cx p l R s m meth c ex B vX H0 dC dI d cd call own ini mx C S bs)  {b : Nat} {cc : Int32} {tl : List Nat} (hck : hk_chk cd own ini mx bs (pc, .ishl, nx, a, b, cc, tl) = true)
    (g : hk_i2 hk_shl st (fun s9 => (hk_PP p l e R s m args below meth c Qf ex B vX H0 dC dI cd mx C S) nx ls s9 h k n)) : hk_P1 p l e R s m args below meth c Qf ex B vX H0 dC dI pc mx C S ls st h k n := by
  intro H locs la hl hR hq hk hn
  have hX0 := X
  obtain ⟨hx, hbs, hml, hown, henv, hini, hchk, -, hroom⟩ := hX0
  have hVX := henv.2.2.2.2.2.2
  unfold hk_chk at hck
  dsimp only at hck
  obtain ⟨hd, hN⟩ := hk_dn hck
  unfold hk_i2 at g
  split at g
  · exact lv_ishl hx hbs hd (hk_nx g hN hl hR hq hk hn)
  · exact absurd g id
set_option maxHeartbeats 4000000 in
theorem hk_o_ishr (X : hk_Cx p l R s m meth c ex B vX H0 dC dI d cd call own ini mx C S bs)  {b : Nat} {cc : Int32} {tl : List Nat} (hck : hk_chk cd own ini mx bs (pc, .ishr, nx, a, b, cc, tl) = true)
    (g : hk_i2 hk_shr st (fun s9 => (hk_PP p l e R s m args below meth c Qf ex B vX H0 dC dI cd mx C S) nx ls s9 h k n)) : hk_P1 p l e R s m args below meth c Qf ex B vX H0 dC dI pc mx C S ls st h k n := by
  intro H locs la hl hR hq hk hn
  have hX0 := X
  obtain ⟨hx, hbs, hml, hown, henv, hini, hchk, -, hroom⟩ := hX0
  have hVX := henv.2.2.2.2.2.2
  unfold hk_chk at hck
  dsimp only at hck
  obtain ⟨hd, hN⟩ := hk_dn hck
  unfold hk_i2 at g
  split at g
  · exact lv_ishr hx hbs hd (hk_nx g hN hl hR hq hk hn)
  · exact absurd g id
set_option maxHeartbeats 4000000 in
theorem hk_o_iushr (X : hk_Cx p l R s m meth c ex B vX H0 dC dI d cd call own ini mx C S bs)  {b : Nat} {cc : Int32} {tl : List Nat} (hck : hk_chk cd own ini mx bs (pc, .iushr, nx, a, b, cc, tl) = true)
    (g : hk_i2 hk_ush st (fun s9 => (hk_PP p l e R s m args below meth c Qf ex B vX H0 dC dI cd mx C S) nx ls s9 h k n)) : hk_P1 p l e R s m args below meth c Qf ex B vX H0 dC dI pc mx C S ls st h k n := by
  intro H locs la hl hR hq hk hn
  have hX0 := X
  obtain ⟨hx, hbs, hml, hown, henv, hini, hchk, -, hroom⟩ := hX0
  have hVX := henv.2.2.2.2.2.2
  unfold hk_chk at hck
  dsimp only at hck
  obtain ⟨hd, hN⟩ := hk_dn hck
  unfold hk_i2 at g
  split at g
  · exact lv_iushr hx hbs hd rfl (hk_nx g hN hl hR hq hk hn)
  · exact absurd g id
set_option maxHeartbeats 4000000 in
theorem hk_o_idiv (X : hk_Cx p l R s m meth c ex B vX H0 dC dI d cd call own ini mx C S bs)  {b : Nat} {cc : Int32} {tl : List Nat} (hck : hk_chk cd own ini mx bs (pc, .idiv, nx, a, b, cc, tl) = true)
    (g : hk_dv HDiv.hDiv st (fun s9 => (hk_PP p l e R s m args below meth c Qf ex B vX H0 dC dI cd mx C S) nx ls s9 h k n)) : hk_P1 p l e R s m args below meth c Qf ex B vX H0 dC dI pc mx C S ls st h k n := by
  intro H locs la hl hR hq hk hn
  have hX0 := X
  obtain ⟨hx, hbs, hml, hown, henv, hini, hchk, -, hroom⟩ := hX0
  have hVX := henv.2.2.2.2.2.2
  unfold hk_chk at hck
  dsimp only at hck
  obtain ⟨hd, hN⟩ := hk_dn hck
  unfold hk_dv at g
  split at g
  · exact lv_idiv hx hbs hd g.1 (hk_nx g.2 hN hl hR hq hk hn)
  · exact absurd g id
set_option maxHeartbeats 4000000 in
theorem hk_o_irem (X : hk_Cx p l R s m meth c ex B vX H0 dC dI d cd call own ini mx C S bs)  {b : Nat} {cc : Int32} {tl : List Nat} (hck : hk_chk cd own ini mx bs (pc, .irem, nx, a, b, cc, tl) = true)
    (g : hk_dv hk_rem st (fun s9 => (hk_PP p l e R s m args below meth c Qf ex B vX H0 dC dI cd mx C S) nx ls s9 h k n)) : hk_P1 p l e R s m args below meth c Qf ex B vX H0 dC dI pc mx C S ls st h k n := by
  intro H locs la hl hR hq hk hn
  have hX0 := X
  obtain ⟨hx, hbs, hml, hown, henv, hini, hchk, -, hroom⟩ := hX0
  have hVX := henv.2.2.2.2.2.2
  unfold hk_chk at hck
  dsimp only at hck
  obtain ⟨hd, hN⟩ := hk_dn hck
  unfold hk_dv at g
  split at g
  · exact lv_irem hx hbs hd g.1 (hk_nx g.2 hN hl hR hq hk hn)
  · exact absurd g id
set_option maxHeartbeats 4000000 in
theorem hk_o_ineg (X : hk_Cx p l R s m meth c ex B vX H0 dC dI d cd call own ini mx C S bs)  {b : Nat} {cc : Int32} {tl : List Nat} (hck : hk_chk cd own ini mx bs (pc, .ineg, nx, a, b, cc, tl) = true)
    (g : hk_i1 (fun x => .int (-x)) st (fun s9 => (hk_PP p l e R s m args below meth c Qf ex B vX H0 dC dI cd mx C S) nx ls s9 h k n)) : hk_P1 p l e R s m args below meth c Qf ex B vX H0 dC dI pc mx C S ls st h k n := by
  intro H locs la hl hR hq hk hn
  have hX0 := X
  obtain ⟨hx, hbs, hml, hown, henv, hini, hchk, -, hroom⟩ := hX0
  have hVX := henv.2.2.2.2.2.2
  unfold hk_chk at hck
  dsimp only at hck
  obtain ⟨hd, hN⟩ := hk_dn hck
  unfold hk_i1 at g
  split at g
  · exact lv_ineg hx hbs hd (hk_nx g hN hl hR hq hk hn)
  · exact absurd g id
set_option maxHeartbeats 4000000 in
theorem hk_o_i2l (X : hk_Cx p l R s m meth c ex B vX H0 dC dI d cd call own ini mx C S bs)  {b : Nat} {cc : Int32} {tl : List Nat} (hck : hk_chk cd own ini mx bs (pc, .i2l, nx, a, b, cc, tl) = true)
    (g : hk_i1 (fun x => .long x.toInt64) st (fun s9 => (hk_PP p l e R s m args below meth c Qf ex B vX H0 dC dI cd mx C S) nx ls s9 h k n)) : hk_P1 p l e R s m args below meth c Qf ex B vX H0 dC dI pc mx C S ls st h k n := by
  intro H locs la hl hR hq hk hn
  have hX0 := X
  obtain ⟨hx, hbs, hml, hown, henv, hini, hchk, -, hroom⟩ := hX0
  have hVX := henv.2.2.2.2.2.2
  unfold hk_chk at hck
  dsimp only at hck
  obtain ⟨hd, hN⟩ := hk_dn hck
  unfold hk_i1 at g
  split at g
  · exact lv_i2l hx hbs hd rfl (hk_nx g hN hl hR hq hk hn)
  · exact absurd g id
set_option maxHeartbeats 4000000 in
theorem hk_o_i2b (X : hk_Cx p l R s m meth c ex B vX H0 dC dI d cd call own ini mx C S bs)  {b : Nat} {cc : Int32} {tl : List Nat} (hck : hk_chk cd own ini mx bs (pc, .i2b, nx, a, b, cc, tl) = true)
    (g : hk_i1 (fun x => .int x.toInt8.toInt32) st (fun s9 => (hk_PP p l e R s m args below meth c Qf ex B vX H0 dC dI cd mx C S) nx ls s9 h k n)) : hk_P1 p l e R s m args below meth c Qf ex B vX H0 dC dI pc mx C S ls st h k n := by
  intro H locs la hl hR hq hk hn
  have hX0 := X
  obtain ⟨hx, hbs, hml, hown, henv, hini, hchk, -, hroom⟩ := hX0
  have hVX := henv.2.2.2.2.2.2
  unfold hk_chk at hck
  dsimp only at hck
  obtain ⟨hd, hN⟩ := hk_dn hck
  unfold hk_i1 at g
  split at g
  · exact lv_i2b hx hbs hd rfl (hk_nx g hN hl hR hq hk hn)
  · exact absurd g id
set_option maxHeartbeats 4000000 in
theorem hk_o_i2s (X : hk_Cx p l R s m meth c ex B vX H0 dC dI d cd call own ini mx C S bs)  {b : Nat} {cc : Int32} {tl : List Nat} (hck : hk_chk cd own ini mx bs (pc, .i2s, nx, a, b, cc, tl) = true)
    (g : hk_i1 (fun x => .int x.toInt16.toInt32) st (fun s9 => (hk_PP p l e R s m args below meth c Qf ex B vX H0 dC dI cd mx C S) nx ls s9 h k n)) : hk_P1 p l e R s m args below meth c Qf ex B vX H0 dC dI pc mx C S ls st h k n := by
  intro H locs la hl hR hq hk hn
  have hX0 := X
  obtain ⟨hx, hbs, hml, hown, henv, hini, hchk, -, hroom⟩ := hX0
  have hVX := henv.2.2.2.2.2.2
  unfold hk_chk at hck
  dsimp only at hck
  obtain ⟨hd, hN⟩ := hk_dn hck
  unfold hk_i1 at g
  split at g
  · exact lv_i2s hx hbs hd rfl (hk_nx g hN hl hR hq hk hn)
  · exact absurd g id
set_option maxHeartbeats 4000000 in
theorem hk_o_i2c (X : hk_Cx p l R s m meth c ex B vX H0 dC dI d cd call own ini mx C S bs)  {b : Nat} {cc : Int32} {tl : List Nat} (hck : hk_chk cd own ini mx bs (pc, .i2c, nx, a, b, cc, tl) = true)
    (g : hk_i1 (fun x => .int (x.toUInt32 % 65536).toInt32) st (fun s9 => (hk_PP p l e R s m args below meth c Qf ex B vX H0 dC dI cd mx C S) nx ls s9 h k n)) : hk_P1 p l e R s m args below meth c Qf ex B vX H0 dC dI pc mx C S ls st h k n := by
  intro H locs la hl hR hq hk hn
  have hX0 := X
  obtain ⟨hx, hbs, hml, hown, henv, hini, hchk, -, hroom⟩ := hX0
  have hVX := henv.2.2.2.2.2.2
  unfold hk_chk at hck
  dsimp only at hck
  obtain ⟨hd, hN⟩ := hk_dn hck
  unfold hk_i1 at g
  split at g
  · exact lv_i2c hx hbs hd rfl (hk_nx g hN hl hR hq hk hn)
  · exact absurd g id
set_option maxHeartbeats 4000000 in
theorem hk_o_l2i (X : hk_Cx p l R s m meth c ex B vX H0 dC dI d cd call own ini mx C S bs)  {b : Nat} {cc : Int32} {tl : List Nat} (hck : hk_chk cd own ini mx bs (pc, .l2i, nx, a, b, cc, tl) = true)
    (g : (match (generalizing := false) st with | .long x :: r => (hk_PP p l e R s m args below meth c Qf ex B vX H0 dC dI cd mx C S) nx ls (.int x.toInt32 :: r) h k n | _ => False)) : hk_P1 p l e R s m args below meth c Qf ex B vX H0 dC dI pc mx C S ls st h k n := by
  intro H locs la hl hR hq hk hn
  have hX0 := X
  obtain ⟨hx, hbs, hml, hown, henv, hini, hchk, -, hroom⟩ := hX0
  have hVX := henv.2.2.2.2.2.2
  unfold hk_chk at hck
  dsimp only at hck
  obtain ⟨hd, hN⟩ := hk_dn hck
  try dsimp only at g
  split at g
  · exact lv_l2i hx hbs hd rfl (hk_nx g hN hl hR hq hk hn)
  · exact absurd g id
set_option maxHeartbeats 4000000 in
theorem hk_o_ladd (X : hk_Cx p l R s m meth c ex B vX H0 dC dI d cd call own ini mx C S bs)  {b : Nat} {cc : Int32} {tl : List Nat} (hck : hk_chk cd own ini mx bs (pc, .ladd, nx, a, b, cc, tl) = true)
    (g : hk_l2 (fun x y => .long (x + y)) st (fun s9 => (hk_PP p l e R s m args below meth c Qf ex B vX H0 dC dI cd mx C S) nx ls s9 h k n)) : hk_P1 p l e R s m args below meth c Qf ex B vX H0 dC dI pc mx C S ls st h k n := by
  intro H locs la hl hR hq hk hn
  have hX0 := X
  obtain ⟨hx, hbs, hml, hown, henv, hini, hchk, -, hroom⟩ := hX0
  have hVX := henv.2.2.2.2.2.2
  unfold hk_chk at hck
  dsimp only at hck
  obtain ⟨hd, hN⟩ := hk_dn hck
  unfold hk_l2 at g
  split at g
  · exact lv_ladd hx hbs hd (hk_nx g hN hl hR hq hk hn)
  · exact absurd g id
set_option maxHeartbeats 4000000 in
theorem hk_o_lsub (X : hk_Cx p l R s m meth c ex B vX H0 dC dI d cd call own ini mx C S bs)  {b : Nat} {cc : Int32} {tl : List Nat} (hck : hk_chk cd own ini mx bs (pc, .lsub, nx, a, b, cc, tl) = true)
    (g : hk_l2 (fun x y => .long (x - y)) st (fun s9 => (hk_PP p l e R s m args below meth c Qf ex B vX H0 dC dI cd mx C S) nx ls s9 h k n)) : hk_P1 p l e R s m args below meth c Qf ex B vX H0 dC dI pc mx C S ls st h k n := by
  intro H locs la hl hR hq hk hn
  have hX0 := X
  obtain ⟨hx, hbs, hml, hown, henv, hini, hchk, -, hroom⟩ := hX0
  have hVX := henv.2.2.2.2.2.2
  unfold hk_chk at hck
  dsimp only at hck
  obtain ⟨hd, hN⟩ := hk_dn hck
  unfold hk_l2 at g
  split at g
  · exact lv_lsub hx hbs hd (hk_nx g hN hl hR hq hk hn)
  · exact absurd g id
set_option maxHeartbeats 4000000 in
theorem hk_o_lmul (X : hk_Cx p l R s m meth c ex B vX H0 dC dI d cd call own ini mx C S bs)  {b : Nat} {cc : Int32} {tl : List Nat} (hck : hk_chk cd own ini mx bs (pc, .lmul, nx, a, b, cc, tl) = true)
    (g : hk_l2 (fun x y => .long (x * y)) st (fun s9 => (hk_PP p l e R s m args below meth c Qf ex B vX H0 dC dI cd mx C S) nx ls s9 h k n)) : hk_P1 p l e R s m args below meth c Qf ex B vX H0 dC dI pc mx C S ls st h k n := by
  intro H locs la hl hR hq hk hn
  have hX0 := X
  obtain ⟨hx, hbs, hml, hown, henv, hini, hchk, -, hroom⟩ := hX0
  have hVX := henv.2.2.2.2.2.2
  unfold hk_chk at hck
  dsimp only at hck
  obtain ⟨hd, hN⟩ := hk_dn hck
  unfold hk_l2 at g
  split at g
  · exact lv_lmul hx hbs hd (hk_nx g hN hl hR hq hk hn)
  · exact absurd g id
set_option maxHeartbeats 4000000 in
theorem hk_o_land (X : hk_Cx p l R s m meth c ex B vX H0 dC dI d cd call own ini mx C S bs)  {b : Nat} {cc : Int32} {tl : List Nat} (hck : hk_chk cd own ini mx bs (pc, .land, nx, a, b, cc, tl) = true)
    (g : hk_l2 (fun x y => .long (x &&& y)) st (fun s9 => (hk_PP p l e R s m args below meth c Qf ex B vX H0 dC dI cd mx C S) nx ls s9 h k n)) : hk_P1 p l e R s m args below meth c Qf ex B vX H0 dC dI pc mx C S ls st h k n := by
  intro H locs la hl hR hq hk hn
  have hX0 := X
  obtain ⟨hx, hbs, hml, hown, henv, hini, hchk, -, hroom⟩ := hX0
  have hVX := henv.2.2.2.2.2.2
  unfold hk_chk at hck
  dsimp only at hck
  obtain ⟨hd, hN⟩ := hk_dn hck
  unfold hk_l2 at g
  split at g
  · exact lv_land hx hbs hd (hk_nx g hN hl hR hq hk hn)
  · exact absurd g id
set_option maxHeartbeats 4000000 in
theorem hk_o_lor (X : hk_Cx p l R s m meth c ex B vX H0 dC dI d cd call own ini mx C S bs)  {b : Nat} {cc : Int32} {tl : List Nat} (hck : hk_chk cd own ini mx bs (pc, .lor, nx, a, b, cc, tl) = true)
    (g : hk_l2 (fun x y => .long (x ||| y)) st (fun s9 => (hk_PP p l e R s m args below meth c Qf ex B vX H0 dC dI cd mx C S) nx ls s9 h k n)) : hk_P1 p l e R s m args below meth c Qf ex B vX H0 dC dI pc mx C S ls st h k n := by
  intro H locs la hl hR hq hk hn
  have hX0 := X
  obtain ⟨hx, hbs, hml, hown, henv, hini, hchk, -, hroom⟩ := hX0
  have hVX := henv.2.2.2.2.2.2
  unfold hk_chk at hck
  dsimp only at hck
  obtain ⟨hd, hN⟩ := hk_dn hck
  unfold hk_l2 at g
  split at g
  · exact lv_lor hx hbs hd (hk_nx g hN hl hR hq hk hn)
  · exact absurd g id
set_option maxHeartbeats 4000000 in
theorem hk_o_lcmp (X : hk_Cx p l R s m meth c ex B vX H0 dC dI d cd call own ini mx C S bs)  {b : Nat} {cc : Int32} {tl : List Nat} (hck : hk_chk cd own ini mx bs (pc, .lcmp, nx, a, b, cc, tl) = true)
    (g : hk_l2 (fun x y => .int (lg_cmp x y)) st (fun s9 => (hk_PP p l e R s m args below meth c Qf ex B vX H0 dC dI cd mx C S) nx ls s9 h k n)) : hk_P1 p l e R s m args below meth c Qf ex B vX H0 dC dI pc mx C S ls st h k n := by
  intro H locs la hl hR hq hk hn
  have hX0 := X
  obtain ⟨hx, hbs, hml, hown, henv, hini, hchk, -, hroom⟩ := hX0
  have hVX := henv.2.2.2.2.2.2
  unfold hk_chk at hck
  dsimp only at hck
  obtain ⟨hd, hN⟩ := hk_dn hck
  unfold hk_l2 at g
  split at g
  · exact W.lcmp hx hbs hd (hk_nx g hN hl hR hq hk hn)
  · exact absurd g id
set_option maxHeartbeats 4000000 in
theorem hk_o_lshl (X : hk_Cx p l R s m meth c ex B vX H0 dC dI d cd call own ini mx C S bs)  {b : Nat} {cc : Int32} {tl : List Nat} (hck : hk_chk cd own ini mx bs (pc, .lshl, nx, a, b, cc, tl) = true)
    (g : hk_ls hk_shlL st (fun s9 => (hk_PP p l e R s m args below meth c Qf ex B vX H0 dC dI cd mx C S) nx ls s9 h k n)) : hk_P1 p l e R s m args below meth c Qf ex B vX H0 dC dI pc mx C S ls st h k n := by
  intro H locs la hl hR hq hk hn
  have hX0 := X
  obtain ⟨hx, hbs, hml, hown, henv, hini, hchk, -, hroom⟩ := hX0
  have hVX := henv.2.2.2.2.2.2
  unfold hk_chk at hck
  dsimp only at hck
  obtain ⟨hd, hN⟩ := hk_dn hck
  unfold hk_ls at g
  split at g
  · exact lv_lshl hx hbs hd rfl (hk_nx g hN hl hR hq hk hn)
  · exact absurd g id
set_option maxHeartbeats 4000000 in
theorem hk_o_lshr (X : hk_Cx p l R s m meth c ex B vX H0 dC dI d cd call own ini mx C S bs)  {b : Nat} {cc : Int32} {tl : List Nat} (hck : hk_chk cd own ini mx bs (pc, .lshr, nx, a, b, cc, tl) = true)
    (g : hk_ls hk_shrL st (fun s9 => (hk_PP p l e R s m args below meth c Qf ex B vX H0 dC dI cd mx C S) nx ls s9 h k n)) : hk_P1 p l e R s m args below meth c Qf ex B vX H0 dC dI pc mx C S ls st h k n := by
  intro H locs la hl hR hq hk hn
  have hX0 := X
  obtain ⟨hx, hbs, hml, hown, henv, hini, hchk, -, hroom⟩ := hX0
  have hVX := henv.2.2.2.2.2.2
  unfold hk_chk at hck
  dsimp only at hck
  obtain ⟨hd, hN⟩ := hk_dn hck
  unfold hk_ls at g
  split at g
  · exact lv_lshr hx hbs hd rfl (hk_nx g hN hl hR hq hk hn)
  · exact absurd g id
set_option maxHeartbeats 4000000 in
theorem hk_o_lushr (X : hk_Cx p l R s m meth c ex B vX H0 dC dI d cd call own ini mx C S bs)  {b : Nat} {cc : Int32} {tl : List Nat} (hck : hk_chk cd own ini mx bs (pc, .lushr, nx, a, b, cc, tl) = true)
    (g : hk_ls hk_ushL st (fun s9 => (hk_PP p l e R s m args below meth c Qf ex B vX H0 dC dI cd mx C S) nx ls s9 h k n)) : hk_P1 p l e R s m args below meth c Qf ex B vX H0 dC dI pc mx C S ls st h k n := by
  intro H locs la hl hR hq hk hn
  have hX0 := X
  obtain ⟨hx, hbs, hml, hown, henv, hini, hchk, -, hroom⟩ := hX0
  have hVX := henv.2.2.2.2.2.2
  unfold hk_chk at hck
  dsimp only at hck
  obtain ⟨hd, hN⟩ := hk_dn hck
  unfold hk_ls at g
  split at g
  · exact lv_lushr hx hbs hd rfl (hk_nx g hN hl hR hq hk hn)
  · exact absurd g id
set_option maxHeartbeats 4000000 in
theorem hk_o_goto (X : hk_Cx p l R s m meth c ex B vX H0 dC dI d cd call own ini mx C S bs) {u0 : Int} {b : Nat} {cc : Int32} {tl : List Nat} (hck : hk_chk cd own ini mx bs (pc, .goto u0, nx, a, b, cc, tl) = true)
    (g : bif Nat.ble a ip then (∃ is : List Nat, hk_pk is ls (fun l9 => (hk_PP p l e R s m args below meth c Qf ex B vX H0 dC dI cd mx C S) a l9 st h k n)) else (hk_PP p l e R s m args below meth c Qf ex B vX H0 dC dI cd mx C S) a ls st h k n) : hk_P1 p l e R s m args below meth c Qf ex B vX H0 dC dI pc mx C S ls st h k n := by
  intro H locs la hl hR hq hk hn
  have hX0 := X
  obtain ⟨hx, hbs, hml, hown, henv, hini, hchk, -, hroom⟩ := hX0
  have hVX := henv.2.2.2.2.2.2
  unfold hk_chk at hck
  dsimp only at hck
  split at hck
  · rename_i off hd
    cases hb : Nat.ble a ip
    · rw [hb] at g
      exact lv_goto hx hbs hd (of_decide_eq_true hck) (hk_nx g rfl hl hR hq hk hn)
    · rw [hb] at g
      obtain ⟨is, g⟩ := g
      obtain ⟨l9, h1, g⟩ := hk_pk_sub g
      refine lv_goto hx hbs hd (of_decide_eq_true hck) (hk_nx g rfl ⟨hl.1, hl.2.1, fun q hq9 => ?_⟩ hR hq hk hn)
      obtain ⟨q0, h2, rfl⟩ := List.mem_map.mp hq9
      obtain ⟨i9, h3⟩ := h1 q0 h2
      exact hl.2.2 _ (List.mem_map.mpr ⟨q0, hk_nth_in h3, rfl⟩)
  · exact absurd hck (by decide)
set_option maxHeartbeats 4000000 in
theorem hk_o_ifCond (X : hk_Cx p l R s m meth c ex B vX H0 dC dI d cd call own ini mx C S bs) {d9 : ClassFile.Cond} {u1 : Int} {b : Nat} {cc : Int32} {tl : List Nat} (hck : hk_chk cd own ini mx bs (pc, .ifCond d9 u1, nx, a, b, cc, tl) = true)
    (g : hk_if1 d9 st (fun s9 => (hk_PP p l e R s m args below meth c Qf ex B vX H0 dC dI cd mx C S) a ls s9 h k n) (fun s9 => (hk_PP p l e R s m args below meth c Qf ex B vX H0 dC dI cd mx C S) nx ls s9 h k n)) : hk_P1 p l e R s m args below meth c Qf ex B vX H0 dC dI pc mx C S ls st h k n := by
  intro H locs la hl hR hq hk hn
  have hX0 := X
  obtain ⟨hx, hbs, hml, hown, henv, hini, hchk, -, hroom⟩ := hX0
  have hVX := henv.2.2.2.2.2.2
  unfold hk_chk at hck
  dsimp only at hck
  split at hck
  · rename_i d' off hd
    simp only [Bool.and_eq_true] at hck
    have ed := of_decide_eq_true hck.1.1
    subst ed
    unfold hk_if1 at g
    split at g
    · exact hk_s_if hx hbs hd (of_decide_eq_true hck.1.2) (Nat.eq_of_beq_eq_true hck.2) g (fun z => hk_nx z rfl hl hR hq hk hn) (fun z => hk_nx z (Nat.eq_of_beq_eq_true hck.2) hl hR hq hk hn)
    · exact absurd g id
  · exact absurd hck (by decide)
set_option maxHeartbeats 4000000 in
theorem hk_o_if_icmp (X : hk_Cx p l R s m meth c ex B vX H0 dC dI d cd call own ini mx C S bs) {d9 : ClassFile.Cond} {u1 : Int} {b : Nat} {cc : Int32} {tl : List Nat} (hck : hk_chk cd own ini mx bs (pc, .if_icmp d9 u1, nx, a, b, cc, tl) = true)
    (g : hk_if2 d9 st (fun s9 => (hk_PP p l e R s m args below meth c Qf ex B vX H0 dC dI cd mx C S) a ls s9 h k n) (fun s9 => (hk_PP p l e R s m args below meth c Qf ex B vX H0 dC dI cd mx C S) nx ls s9 h k n)) : hk_P1 p l e R s m args below meth c Qf ex B vX H0 dC dI pc mx C S ls st h k n := by
  intro H locs la hl hR hq hk hn
  have hX0 := X
  obtain ⟨hx, hbs, hml, hown, henv, hini, hchk, -, hroom⟩ := hX0
  have hVX := henv.2.2.2.2.2.2
  unfold hk_chk at hck
  dsimp only at hck
  split at hck
  · rename_i d' off hd
    simp only [Bool.and_eq_true] at hck
    have ed := of_decide_eq_true hck.1.1
    subst ed
    unfold hk_if2 at g
    split at g
    · exact hk_s_icmp hx hbs hd (of_decide_eq_true hck.1.2) (Nat.eq_of_beq_eq_true hck.2) g (fun z => hk_nx z rfl hl hR hq hk hn) (fun z => hk_nx z (Nat.eq_of_beq_eq_true hck.2) hl hR hq hk hn)
    · exact absurd g id
  · exact absurd hck (by decide)
set_option maxHeartbeats 4000000 in
theorem hk_o_ifnull (X : hk_Cx p l R s m meth c ex B vX H0 dC dI d cd call own ini mx C S bs) {u0 : Int} {b : Nat} {cc : Int32} {tl : List Nat} (hck : hk_chk cd own ini mx bs (pc, .ifnull u0, nx, a, b, cc, tl) = true)
    (g : hk_nul st (fun s9 => (hk_PP p l e R s m args below meth c Qf ex B vX H0 dC dI cd mx C S) a ls s9 h k n) (fun s9 => (hk_PP p l e R s m args below meth c Qf ex B vX H0 dC dI cd mx C S) nx ls s9 h k n)) : hk_P1 p l e R s m args below meth c Qf ex B vX H0 dC dI pc mx C S ls st h k n := by
  intro H locs la hl hR hq hk hn
  have hX0 := X
  obtain ⟨hx, hbs, hml, hown, henv, hini, hchk, -, hroom⟩ := hX0
  have hVX := henv.2.2.2.2.2.2
  unfold hk_chk at hck
  dsimp only at hck
  split at hck
  · rename_i off hd
    simp only [Bool.and_eq_true] at hck
    unfold hk_nul at g
    split at g
    · exact lv_ifnullN hx hbs hd (of_decide_eq_true hck.1) (hk_nx g rfl hl hR hq hk hn)
    · exact lv_ifnull hx hbs hd (hk_nx g (Nat.eq_of_beq_eq_true hck.2) hl hR hq hk hn)
    · exact absurd g id
  · exact absurd hck (by decide)
set_option maxHeartbeats 4000000 in
theorem hk_o_ifnonnull (X : hk_Cx p l R s m meth c ex B vX H0 dC dI d cd call own ini mx C S bs) {u0 : Int} {b : Nat} {cc : Int32} {tl : List Nat} (hck : hk_chk cd own ini mx bs (pc, .ifnonnull u0, nx, a, b, cc, tl) = true)
    (g : hk_nul st (fun s9 => (hk_PP p l e R s m args below meth c Qf ex B vX H0 dC dI cd mx C S) nx ls s9 h k n) (fun s9 => (hk_PP p l e R s m args below meth c Qf ex B vX H0 dC dI cd mx C S) a ls s9 h k n)) : hk_P1 p l e R s m args below meth c Qf ex B vX H0 dC dI pc mx C S ls st h k n := by
  intro H locs la hl hR hq hk hn
  have hX0 := X
  obtain ⟨hx, hbs, hml, hown, henv, hini, hchk, -, hroom⟩ := hX0
  have hVX := henv.2.2.2.2.2.2
  unfold hk_chk at hck
  dsimp only at hck
  split at hck
  · rename_i off hd
    simp only [Bool.and_eq_true] at hck
    unfold hk_nul at g
    split at g
    · exact lv_ifnonnullN hx hbs hd (hk_nx g (Nat.eq_of_beq_eq_true hck.2) hl hR hq hk hn)
    · exact lv_ifnonnull hx hbs hd (of_decide_eq_true hck.1) (hk_nx g rfl hl hR hq hk hn)
    · exact absurd g id
  · exact absurd hck (by decide)
set_option maxHeartbeats 4000000 in
theorem hk_o_tableswitch (X : hk_Cx p l R s m meth c ex B vX H0 dC dI d cd call own ini mx C S bs) {u0 : Int} {lo : Int} {u2 : Int} {u3 : Array Int} {b : Nat} {cc : Int32} {tl : List Nat} (hck : hk_chk cd own ini mx bs (pc, .tableswitch u0 lo u2 u3, nx, a, b, cc, tl) = true)
    (g : hk_sw lo a tl st (fun t s9 => (hk_PP p l e R s m args below meth c Qf ex B vX H0 dC dI cd mx C S) t ls s9 h k n)) : hk_P1 p l e R s m args below meth c Qf ex B vX H0 dC dI pc mx C S ls st h k n := by
  intro H locs la hl hR hq hk hn
  have hX0 := X
  obtain ⟨hx, hbs, hml, hown, henv, hini, hchk, -, hroom⟩ := hX0
  have hVX := henv.2.2.2.2.2.2
  unfold hk_chk at hck
  dsimp only at hck
  split at hck
  · rename_i df lo' hi offs len hd
    simp only [Bool.and_eq_true] at hck
    obtain ⟨⟨⟨h1, h2⟩, h3⟩, h4⟩ := hck
    have e1 := of_decide_eq_true h1
    have e2 := of_decide_eq_true h2
    have e3 := of_decide_eq_true h3
    have e4 := of_decide_eq_true h4
    subst e1
    unfold hk_sw at g
    split at g
    · rename_i x r
      by_cases hout : x.toInt < lo' ∨ hi < x.toInt
      · exact lv_tableOut hx hbs hd hout e3 (hk_nx (g.1 (by rw [← e2]; exact hout)) rfl hl hR hq hk hn)
      · have h5 : lo' ≤ x.toInt := by omega
        have h6 : x.toInt ≤ hi := by omega
        have hj : (x.toInt - lo').toNat < tl.length := by omega
        have ht : tl[(x.toInt - lo').toNat]? = some tl[(x.toInt - lo').toNat] := List.getElem?_eq_getElem hj
        have h7 : (offs.toList.map (fun o => (pc : Int) + o))[(x.toInt - lo').toNat]? = some (hk_pc cd tl[(x.toInt - lo').toNat] : Int) := by
          rw [e4, List.getElem?_map, ht]; rfl
        rw [List.getElem?_map] at h7
        cases ho : offs.toList[(x.toInt - lo').toNat]? with
        | none => rw [ho] at h7; cases h7
        | some off =>
          rw [ho] at h7
          have h8 : (pc : Int) + off = (hk_pc cd tl[(x.toInt - lo').toNat] : Int) := Option.some.inj h7
          exact lv_tableIn hx hbs hd (by omega) (by omega) (by rw [← Array.getElem?_toList]; exact ho) h8 (hk_nx (hk_sws_get g.2 _ _ ht (by omega)) rfl hl hR hq hk hn)
    · exact absurd g id
  · exact absurd hck (by decide)
set_option maxHeartbeats 4000000 in
theorem hk_o_getstatic (X : hk_Cx p l R s m meth c ex B vX H0 dC dI d cd call own ini mx C S bs) {u0 : Nat} {b : Nat} {cc : Int32} {tl : List Nat} (hck : hk_chk cd own ini mx bs (pc, .getstatic u0, nx, a, b, cc, tl) = true)
    (g : (hk_PP p l e R s m args below meth c Qf ex B vX H0 dC dI cd mx C S) nx ls (hk_sv a :: st) h k n) : hk_P1 p l e R s m args below meth c Qf ex B vX H0 dC dI pc mx C S ls st h k n := by
  intro H locs la hl hR hq hk hn
  have hX0 := X
  obtain ⟨hx, hbs, hml, hown, henv, hini, hchk, -, hroom⟩ := hX0
  have hVX := henv.2.2.2.2.2.2
  unfold hk_chk at hck
  dsimp only at hck
  split at hck
  · rename_i x hd
    rw [Bool.and_eq_true, Bool.and_eq_true] at hck
    obtain ⟨q, -, h2, h3⟩ := hk_any hck.1.1 hk_zL_ok
    simp only [Bool.and_eq_true] at h2
    unfold hk_zOK at h3
    rw [Nat.eq_of_beq_eq_true h2.1.1, Nat.eq_of_beq_eq_true h2.1.2, Nat.eq_of_beq_eq_true h2.2] at h3
    obtain ⟨cf, kf, fi, f, aa, cell, g1, g2, g3, g4, g5, g6, g7, g8⟩ := henv.2.2.1 a (hk_blt hck.2)
    have hlt : aa < B := by rw [← henv.2.2.2.2.1]; exact (Array.getElem?_eq_some_iff.mp g5).1
    exact W.gets hx hbs hown (hk_word X (hk_w_in h3)) g1 g2 g3 g4 (by rw [hR.2.2.1 aa hlt]; exact g5) (fun z => by rw [z] at g6; cases g6) g7 rfl hd (hk_nx g (Nat.eq_of_beq_eq_true hck.1.2) hl hR hq hk hn)
  · exact absurd hck (by decide)
set_option maxHeartbeats 4000000 in
theorem hk_o_getfield (X : hk_Cx p l R s m meth c ex B vX H0 dC dI d cd call own ini mx C S bs) {u0 : Nat} {b : Nat} {cc : Int32} {tl : List Nat} (hck : hk_chk cd own ini mx bs (pc, .getfield u0, nx, a, b, cc, tl) = true)
    (g : hk_gf h a b st (fun s9 => (hk_PP p l e R s m args below meth c Qf ex B vX H0 dC dI cd mx C S) nx ls s9 h k n)) : hk_P1 p l e R s m args below meth c Qf ex B vX H0 dC dI pc mx C S ls st h k n := by
  intro H locs la hl hR hq hk hn
  have hX0 := X
  obtain ⟨hx, hbs, hml, hown, henv, hini, hchk, -, hroom⟩ := hX0
  have hVX := henv.2.2.2.2.2.2
  unfold hk_chk at hck
  dsimp only at hck
  split at hck
  · rename_i x hd
    rw [Bool.and_eq_true] at hck
    unfold hk_gf at g
    split at g
    · obtain ⟨h1, h2⟩ := hk_bif_1 g
      exact hk_s_get X hck.1 hd hR (Nat.eq_of_beq_eq_true h1) (hk_nx (hk_v_sp h2) (Nat.eq_of_beq_eq_true hck.2) hl hR hq hk hn)
    · exact absurd g id
  · exact absurd hck (by decide)
set_option maxHeartbeats 4000000 in
theorem hk_o_putfield (X : hk_Cx p l R s m meth c ex B vX H0 dC dI d cd call own ini mx C S bs) {u0 : Nat} {b : Nat} {cc : Int32} {tl : List Nat} (hck : hk_chk cd own ini mx bs (pc, .putfield u0, nx, a, b, cc, tl) = true)
    (g : (match (generalizing := false) tl with | tc :: _ => hk_pf h a b tc st (fun h' s9 => (hk_PP p l e R s m args below meth c Qf ex B vX H0 dC dI cd mx C S) nx ls s9 h' k n) | _ => False)) : hk_P1 p l e R s m args below meth c Qf ex B vX H0 dC dI pc mx C S ls st h k n := by
  intro H locs la hl hR hq hk hn
  have hX0 := X
  obtain ⟨hx, hbs, hml, hown, henv, hini, hchk, -, hroom⟩ := hX0
  have hVX := henv.2.2.2.2.2.2
  unfold hk_chk at hck
  dsimp only at hck
  try dsimp only at g
  split at hck
  · rename_i x hd
    rw [Bool.and_eq_true, Bool.and_eq_true, Bool.and_eq_true, Bool.and_eq_true] at hck
    obtain ⟨⟨⟨⟨h1, h2⟩, h3⟩, h4⟩, h5⟩ := hck
    split at h5
    · rename_i tc
      dsimp only at g
      unfold hk_pf at g
      split at g
      · obtain ⟨h6, h7⟩ := hk_bif_1 g
        rw [Bool.and_eq_true] at h6
        refine hk_s_put X h1 (hk_blt h3) h4 h5 hd hR (Nat.le_of_ble_eq_true h6.2) (Nat.eq_of_beq_eq_true h6.1) (hk_pfv_m (fun _ => trivial) h7) hq (fun H1 locs1 r1 r2 => ?_)
        exact hk_nx (hk_pfv_k h7) (Nat.eq_of_beq_eq_true h2) hl r1 r2 hk hn
      · exact absurd g id
    · exact absurd h5 (by decide)
  · exact absurd hck (by decide)
set_option maxHeartbeats 4000000 in
theorem hk_o_iaload (X : hk_Cx p l R s m meth c ex B vX H0 dC dI d cd call own ini mx C S bs)  {b : Nat} {cc : Int32} {tl : List Nat} (hck : hk_chk cd own ini mx bs (pc, .iaload, nx, a, b, cc, tl) = true)
    (g : hk_ald h 10 st (fun s9 => (hk_PP p l e R s m args below meth c Qf ex B vX H0 dC dI cd mx C S) nx ls s9 h k n)) : hk_P1 p l e R s m args below meth c Qf ex B vX H0 dC dI pc mx C S ls st h k n := by
  intro H locs la hl hR hq hk hn
  have hX0 := X
  obtain ⟨hx, hbs, hml, hown, henv, hini, hchk, -, hroom⟩ := hX0
  have hVX := henv.2.2.2.2.2.2
  unfold hk_chk at hck
  dsimp only at hck
  obtain ⟨hd, hN⟩ := hk_dn hck
  unfold hk_ald at g
  split at g
  · obtain ⟨h1, h2, h3⟩ := hk_bif_1 g
    have e1 := Nat.eq_of_beq_eq_true h1
    obtain ⟨cell, q1, q2, q3, q4, q5, q6⟩ := hk_arr (hR.2.2.2 _) (by rw [e1]; decide) (by rw [e1]; decide) (fun _ => by rw [e1]; decide)
    rw [e1] at q2
    exact W.iald hx hbs q1 q2 q3 (hk_inb h2 q4) (q6 _ (hk_ilt h2)) rfl rfl hd (hk_nx (hk_v_sp h3) hN hl hR hq hk hn)
  · exact absurd g id
set_option maxHeartbeats 4000000 in
theorem hk_o_laload (X : hk_Cx p l R s m meth c ex B vX H0 dC dI d cd call own ini mx C S bs)  {b : Nat} {cc : Int32} {tl : List Nat} (hck : hk_chk cd own ini mx bs (pc, .laload, nx, a, b, cc, tl) = true)
    (g : hk_ald h 11 st (fun s9 => (hk_PP p l e R s m args below meth c Qf ex B vX H0 dC dI cd mx C S) nx ls s9 h k n)) : hk_P1 p l e R s m args below meth c Qf ex B vX H0 dC dI pc mx C S ls st h k n := by
  intro H locs la hl hR hq hk hn
  have hX0 := X
  obtain ⟨hx, hbs, hml, hown, henv, hini, hchk, -, hroom⟩ := hX0
  have hVX := henv.2.2.2.2.2.2
  unfold hk_chk at hck
  dsimp only at hck
  obtain ⟨hd, hN⟩ := hk_dn hck
  unfold hk_ald at g
  split at g
  · obtain ⟨h1, h2, h3⟩ := hk_bif_1 g
    have e1 := Nat.eq_of_beq_eq_true h1
    obtain ⟨cell, q1, q2, q3, q4, q5, q6⟩ := hk_arr (hR.2.2.2 _) (by rw [e1]; decide) (by rw [e1]; decide) (fun _ => by rw [e1]; decide)
    rw [e1] at q2
    exact W.lald hx hbs q1 q2 q3 (hk_inb h2 q4) (q6 _ (hk_ilt h2)) rfl rfl hd (hk_nx (hk_v_sp h3) hN hl hR hq hk hn)
  · exact absurd g id
set_option maxHeartbeats 4000000 in
theorem hk_o_baload (X : hk_Cx p l R s m meth c ex B vX H0 dC dI d cd call own ini mx C S bs)  {b : Nat} {cc : Int32} {tl : List Nat} (hck : hk_chk cd own ini mx bs (pc, .baload, nx, a, b, cc, tl) = true)
    (g : hk_ald h 12 st (fun s9 => (hk_PP p l e R s m args below meth c Qf ex B vX H0 dC dI cd mx C S) nx ls s9 h k n)) : hk_P1 p l e R s m args below meth c Qf ex B vX H0 dC dI pc mx C S ls st h k n := by
  intro H locs la hl hR hq hk hn
  have hX0 := X
  obtain ⟨hx, hbs, hml, hown, henv, hini, hchk, -, hroom⟩ := hX0
  have hVX := henv.2.2.2.2.2.2
  unfold hk_chk at hck
  dsimp only at hck
  obtain ⟨hd, hN⟩ := hk_dn hck
  unfold hk_ald at g
  split at g
  · obtain ⟨h1, h2, h3⟩ := hk_bif_1 g
    have e1 := Nat.eq_of_beq_eq_true h1
    obtain ⟨cell, q1, q2, q3, q4, q5, q6⟩ := hk_arr (hR.2.2.2 _) (by rw [e1]; decide) (by rw [e1]; decide) (fun _ => by rw [e1]; decide)
    rw [e1] at q2
    exact W.bald hx hbs q1 q2 q3 (hk_inb h2 q4) (q6 _ (hk_ilt h2)) rfl rfl hd (hk_nx (hk_v_sp h3) hN hl hR hq hk hn)
  · exact absurd g id
set_option maxHeartbeats 4000000 in
theorem hk_o_aaload (X : hk_Cx p l R s m meth c ex B vX H0 dC dI d cd call own ini mx C S bs)  {b : Nat} {cc : Int32} {tl : List Nat} (hck : hk_chk cd own ini mx bs (pc, .aaload, nx, a, b, cc, tl) = true)
    (g : hk_ald2 h st (fun s9 => (hk_PP p l e R s m args below meth c Qf ex B vX H0 dC dI cd mx C S) nx ls s9 h k n)) : hk_P1 p l e R s m args below meth c Qf ex B vX H0 dC dI pc mx C S ls st h k n := by
  intro H locs la hl hR hq hk hn
  have hX0 := X
  obtain ⟨hx, hbs, hml, hown, henv, hini, hchk, -, hroom⟩ := hX0
  have hVX := henv.2.2.2.2.2.2
  unfold hk_chk at hck
  dsimp only at hck
  obtain ⟨hd, hN⟩ := hk_dn hck
  unfold hk_ald2 at g
  split at g
  · obtain ⟨h1, h2, h3⟩ := hk_bif_1 g
    rw [Bool.and_eq_true, Bool.and_eq_true] at h1
    have g1 := Nat.le_of_ble_eq_true h1.1.1
    have g2 := Nat.le_of_ble_eq_true h1.1.2
    have g3 := Nat.le_of_ble_eq_true h1.2
    obtain ⟨cell, q1, q2, q3, q4, q5, q6⟩ := hk_arr (hR.2.2.2 _) (by omega) g2 (fun z => by omega)
    rw [hk_aty_r g1 g2] at q2
    exact W.aald hx hbs q1 q2 rfl q3 (hk_inb h2 q4) (q6 _ (hk_ilt h2)) rfl rfl hd (hk_nx (hk_v_sp h3) hN hl hR hq hk hn)
  · exact absurd g id
set_option maxHeartbeats 4000000 in
theorem hk_o_iastore (X : hk_Cx p l R s m meth c ex B vX H0 dC dI d cd call own ini mx C S bs)  {b : Nat} {cc : Int32} {tl : List Nat} (hck : hk_chk cd own ini mx bs (pc, .iastore, nx, a, b, cc, tl) = true)
    (g : hk_ast h 10 st (fun h' s9 => (hk_PP p l e R s m args below meth c Qf ex B vX H0 dC dI cd mx C S) nx ls s9 h' k n)) : hk_P1 p l e R s m args below meth c Qf ex B vX H0 dC dI pc mx C S ls st h k n := by
  intro H locs la hl hR hq hk hn
  have hX0 := X
  obtain ⟨hx, hbs, hml, hown, henv, hini, hchk, -, hroom⟩ := hX0
  have hVX := henv.2.2.2.2.2.2
  unfold hk_chk at hck
  dsimp only at hck
  obtain ⟨hd, hN⟩ := hk_dn hck
  unfold hk_ast at g
  split at g
  · obtain ⟨h1, h2, h3⟩ := hk_bif_1 g
    rw [Bool.and_eq_true] at h1
    exact hk_s_ast X (Or.inl ⟨rfl, hd⟩) hR (Nat.le_of_ble_eq_true h1.2) (Nat.eq_of_beq_eq_true h1.1) h2 h3 hq (fun v' H1 locs1 r0 r1 r2 => hk_nx r0 hN hl r1 r2 hk hn)
  · exact absurd g id
set_option maxHeartbeats 4000000 in
theorem hk_o_lastore (X : hk_Cx p l R s m meth c ex B vX H0 dC dI d cd call own ini mx C S bs)  {b : Nat} {cc : Int32} {tl : List Nat} (hck : hk_chk cd own ini mx bs (pc, .lastore, nx, a, b, cc, tl) = true)
    (g : hk_ast h 11 st (fun h' s9 => (hk_PP p l e R s m args below meth c Qf ex B vX H0 dC dI cd mx C S) nx ls s9 h' k n)) : hk_P1 p l e R s m args below meth c Qf ex B vX H0 dC dI pc mx C S ls st h k n := by
  intro H locs la hl hR hq hk hn
  have hX0 := X
  obtain ⟨hx, hbs, hml, hown, henv, hini, hchk, -, hroom⟩ := hX0
  have hVX := henv.2.2.2.2.2.2
  unfold hk_chk at hck
  dsimp only at hck
  obtain ⟨hd, hN⟩ := hk_dn hck
  unfold hk_ast at g
  split at g
  · obtain ⟨h1, h2, h3⟩ := hk_bif_1 g
    rw [Bool.and_eq_true] at h1
    exact hk_s_ast X (Or.inr (Or.inl ⟨rfl, hd⟩)) hR (Nat.le_of_ble_eq_true h1.2) (Nat.eq_of_beq_eq_true h1.1) h2 h3 hq (fun v' H1 locs1 r0 r1 r2 => hk_nx r0 hN hl r1 r2 hk hn)
  · exact absurd g id
set_option maxHeartbeats 4000000 in
theorem hk_o_bastore (X : hk_Cx p l R s m meth c ex B vX H0 dC dI d cd call own ini mx C S bs)  {b : Nat} {cc : Int32} {tl : List Nat} (hck : hk_chk cd own ini mx bs (pc, .bastore, nx, a, b, cc, tl) = true)
    (g : hk_ast h 12 st (fun h' s9 => (hk_PP p l e R s m args below meth c Qf ex B vX H0 dC dI cd mx C S) nx ls s9 h' k n)) : hk_P1 p l e R s m args below meth c Qf ex B vX H0 dC dI pc mx C S ls st h k n := by
  intro H locs la hl hR hq hk hn
  have hX0 := X
  obtain ⟨hx, hbs, hml, hown, henv, hini, hchk, -, hroom⟩ := hX0
  have hVX := henv.2.2.2.2.2.2
  unfold hk_chk at hck
  dsimp only at hck
  obtain ⟨hd, hN⟩ := hk_dn hck
  unfold hk_ast at g
  split at g
  · obtain ⟨h1, h2, h3⟩ := hk_bif_1 g
    rw [Bool.and_eq_true] at h1
    exact hk_s_ast X (Or.inr (Or.inr ⟨rfl, hd⟩)) hR (Nat.le_of_ble_eq_true h1.2) (Nat.eq_of_beq_eq_true h1.1) h2 h3 hq (fun v' H1 locs1 r0 r1 r2 => hk_nx r0 hN hl r1 r2 hk hn)
  · exact absurd g id
set_option maxHeartbeats 4000000 in
theorem hk_o_aastore (X : hk_Cx p l R s m meth c ex B vX H0 dC dI d cd call own ini mx C S bs)  {b : Nat} {cc : Int32} {tl : List Nat} (hck : hk_chk cd own ini mx bs (pc, .aastore, nx, a, b, cc, tl) = true)
    (g : hk_ast2 h st (fun h' s9 => (hk_PP p l e R s m args below meth c Qf ex B vX H0 dC dI cd mx C S) nx ls s9 h' k n)) : hk_P1 p l e R s m args below meth c Qf ex B vX H0 dC dI pc mx C S ls st h k n := by
  intro H locs la hl hR hq hk hn
  have hX0 := X
  obtain ⟨hx, hbs, hml, hown, henv, hini, hchk, -, hroom⟩ := hX0
  have hVX := henv.2.2.2.2.2.2
  unfold hk_chk at hck
  dsimp only at hck
  obtain ⟨hd, hN⟩ := hk_dn hck
  unfold hk_ast2 at g
  split at g
  · obtain ⟨h1, h2, h3⟩ := hk_bif_1 g
    simp only [Bool.and_eq_true] at h1
    exact hk_s_ast2 X (v := .ref _) hd hR (Nat.le_of_ble_eq_true h1.1.1.2) (Nat.le_of_ble_eq_true h1.1.1.1.1) (Nat.le_of_ble_eq_true h1.1.1.1.2) h2 (Or.inr ⟨_, rfl, Nat.le_of_ble_eq_true h1.2, Nat.eq_of_beq_eq_true h1.1.2⟩) hq (fun H1 locs1 r1 r2 => hk_nx h3 hN hl r1 r2 hk hn)
  · obtain ⟨h1, h2, h3⟩ := hk_bif_1 g
    simp only [Bool.and_eq_true] at h1
    exact hk_s_ast2 X (v := .null) hd hR (Nat.le_of_ble_eq_true h1.2) (Nat.le_of_ble_eq_true h1.1.1) (Nat.le_of_ble_eq_true h1.1.2) h2 (Or.inl rfl) hq (fun H1 locs1 r1 r2 => hk_nx h3 hN hl r1 r2 hk hn)
  · exact absurd g id
set_option maxHeartbeats 4000000 in
theorem hk_o_arraylength (X : hk_Cx p l R s m meth c ex B vX H0 dC dI d cd call own ini mx C S bs)  {b : Nat} {cc : Int32} {tl : List Nat} (hck : hk_chk cd own ini mx bs (pc, .arraylength, nx, a, b, cc, tl) = true)
    (g : hk_len h st (fun s9 => (hk_PP p l e R s m args below meth c Qf ex B vX H0 dC dI cd mx C S) nx ls s9 h k n)) : hk_P1 p l e R s m args below meth c Qf ex B vX H0 dC dI pc mx C S ls st h k n := by
  intro H locs la hl hR hq hk hn
  have hX0 := X
  obtain ⟨hx, hbs, hml, hown, henv, hini, hchk, -, hroom⟩ := hX0
  have hVX := henv.2.2.2.2.2.2
  unfold hk_chk at hck
  dsimp only at hck
  obtain ⟨hd, hN⟩ := hk_dn hck
  unfold hk_len at g
  split at g
  · obtain ⟨h1, h2⟩ := hk_bif_1 g
    rw [Bool.and_eq_true] at h1
    have g1 := Nat.le_of_ble_eq_true h1.1
    have g2 := Nat.le_of_ble_eq_true h1.2
    rename_i q r
    obtain ⟨cell, q1, q2, q3, q4, q5, q6⟩ := hk_arr (hR.2.2.2 q) g1 (by omega) (fun z => g2)
    exact W.alen hx hbs q1 q2 q5 rfl rfl hd (hk_nx h2 hN hl hR hq hk hn)
  · exact absurd g id
set_option maxHeartbeats 4000000 in
theorem hk_o_fadd (X : hk_Cx p l R s m meth c ex B vX H0 dC dI d cd call own ini mx C S bs)  {b : Nat} {cc : Int32} {tl : List Nat} (hck : hk_chk cd own ini mx bs (pc, .fadd, nx, a, b, cc, tl) = true)
    (g : hk_m2 hk_max st (fun s9 => (hk_PP p l e R s m args below meth c Qf ex B vX H0 dC dI cd mx C S) nx ls s9 h k n)) : hk_P1 p l e R s m args below meth c Qf ex B vX H0 dC dI pc mx C S ls st h k n := by
  intro H locs la hl hR hq hk hn
  have hX0 := X
  obtain ⟨hx, hbs, hml, hown, henv, hini, hchk, -, hroom⟩ := hX0
  have hVX := henv.2.2.2.2.2.2
  unfold hk_chk at hck
  dsimp only at hck
  split at hck
  · rename_i x hd
    rw [Bool.and_eq_true] at hck
    obtain ⟨q, -, h2, h3⟩ := hk_any hck.1 hk_xL_ok
    simp only [Bool.and_eq_true] at h2
    unfold hk_xOK at h3
    rw [Nat.eq_of_beq_eq_true h2.1.1, Nat.eq_of_beq_eq_true h2.1.2, Nat.eq_of_beq_eq_true h2.2] at h3
    unfold hk_m2 at g
    split at g
    · obtain ⟨h6, h7⟩ := hk_bif_1 g
      have hcs := Nat.le_of_ble_eq_true h6
      rename_i r
      have hcs2 := hk_cs_eq (ex := ex) (B := B) hVX r
      have hrl := hroom.2.1
      exact va_mmax hx hbs (by rw [hml]; exact hl.1.symm) hown (hk_word X (hk_w_in h3)) (henv.1 _ hk_xs_max rfl args) (henv.1 _ hk_xi rfl args) (henv.1 _ hk_xc_max rfl args) (Nat.le_trans (Nat.succ_le_succ (Nat.zero_le d)) hroom.1) (by rw [hcs2]; omega) (Nat.le_trans hk hroom.2.2.1) (Nat.le_trans hn hroom.2.2.2) hd (hk_nx h7 (Nat.eq_of_beq_eq_true hck.2) hl hR hq hk hn)
    · exact absurd g id
  · exact absurd hck (by decide)
set_option maxHeartbeats 4000000 in
theorem hk_o_fsub (X : hk_Cx p l R s m meth c ex B vX H0 dC dI d cd call own ini mx C S bs)  {b : Nat} {cc : Int32} {tl : List Nat} (hck : hk_chk cd own ini mx bs (pc, .fsub, nx, a, b, cc, tl) = true)
    (g : hk_m2 hk_min st (fun s9 => (hk_PP p l e R s m args below meth c Qf ex B vX H0 dC dI cd mx C S) nx ls s9 h k n)) : hk_P1 p l e R s m args below meth c Qf ex B vX H0 dC dI pc mx C S ls st h k n := by
  intro H locs la hl hR hq hk hn
  have hX0 := X
  obtain ⟨hx, hbs, hml, hown, henv, hini, hchk, -, hroom⟩ := hX0
  have hVX := henv.2.2.2.2.2.2
  unfold hk_chk at hck
  dsimp only at hck
  split at hck
  · rename_i x hd
    rw [Bool.and_eq_true] at hck
    obtain ⟨q, -, h2, h3⟩ := hk_any hck.1 hk_xL_ok
    simp only [Bool.and_eq_true] at h2
    unfold hk_xOK at h3
    rw [Nat.eq_of_beq_eq_true h2.1.1, Nat.eq_of_beq_eq_true h2.1.2, Nat.eq_of_beq_eq_true h2.2] at h3
    unfold hk_m2 at g
    split at g
    · obtain ⟨h6, h7⟩ := hk_bif_1 g
      have hcs := Nat.le_of_ble_eq_true h6
      rename_i r
      have hcs2 := hk_cs_eq (ex := ex) (B := B) hVX r
      have hrl := hroom.2.1
      exact va_mmin hx hbs (by rw [hml]; exact hl.1.symm) hown (hk_word X (hk_w_in h3)) (henv.1 _ hk_xs_min rfl args) (henv.1 _ hk_xi rfl args) (henv.1 _ hk_xc_min rfl args) (Nat.le_trans (Nat.succ_le_succ (Nat.zero_le d)) hroom.1) (by rw [hcs2]; omega) (Nat.le_trans hk hroom.2.2.1) (Nat.le_trans hn hroom.2.2.2) hd (hk_nx h7 (Nat.eq_of_beq_eq_true hck.2) hl hR hq hk hn)
    · exact absurd g id
  · exact absurd hck (by decide)
set_option maxHeartbeats 4000000 in
theorem hk_o_fneg (X : hk_Cx p l R s m meth c ex B vX H0 dC dI d cd call own ini mx C S bs)  {b : Nat} {cc : Int32} {tl : List Nat} (hck : hk_chk cd own ini mx bs (pc, .fneg, nx, a, b, cc, tl) = true)
    (g : hk_m1 hk_abs st (fun s9 => (hk_PP p l e R s m args below meth c Qf ex B vX H0 dC dI cd mx C S) nx ls s9 h k n)) : hk_P1 p l e R s m args below meth c Qf ex B vX H0 dC dI pc mx C S ls st h k n := by
  intro H locs la hl hR hq hk hn
  have hX0 := X
  obtain ⟨hx, hbs, hml, hown, henv, hini, hchk, -, hroom⟩ := hX0
  have hVX := henv.2.2.2.2.2.2
  unfold hk_chk at hck
  dsimp only at hck
  split at hck
  · rename_i x hd
    rw [Bool.and_eq_true] at hck
    obtain ⟨q, -, h2, h3⟩ := hk_any hck.1 hk_xL_ok
    simp only [Bool.and_eq_true] at h2
    unfold hk_xOK at h3
    rw [Nat.eq_of_beq_eq_true h2.1.1, Nat.eq_of_beq_eq_true h2.1.2, Nat.eq_of_beq_eq_true h2.2] at h3
    unfold hk_m1 at g
    split at g
    · obtain ⟨h6, h7⟩ := hk_bif_1 g
      have hcs := Nat.le_of_ble_eq_true h6
      rename_i r
      have hcs2 := hk_cs_eq (ex := ex) (B := B) hVX r
      have hrl := hroom.2.1
      exact va_mabs hx hbs (by rw [hml]; exact hl.1.symm) hown (hk_word X (hk_w_in h3)) (henv.1 _ hk_xs_abs rfl args) (henv.1 _ hk_xi rfl args) (henv.1 _ hk_xc_abs rfl args) (Nat.le_trans (Nat.succ_le_succ (Nat.zero_le d)) hroom.1) (by rw [hcs2]; omega) (Nat.le_trans hk hroom.2.2.1) (Nat.le_trans hn hroom.2.2.2) hd (hk_nx h7 (Nat.eq_of_beq_eq_true hck.2) hl hR hq hk hn)
    · exact absurd g id
  · exact absurd hck (by decide)
set_option maxHeartbeats 4000000 in
theorem hk_o_new (X : hk_Cx p l R s m meth c ex B vX H0 dC dI d cd call own ini mx C S bs) {u0 : Nat} {b : Nat} {cc : Int32} {tl : List Nat} (hck : hk_chk cd own ini mx bs (pc, .new u0, nx, a, b, cc, tl) = true)
    (g : (k + 1 ≤ C ∧ n + b ≤ S) ∧ (hk_PP p l e R s m args below meth c Qf ex B vX H0 dC dI cd mx C S) nx ls (.ref h.1 :: st) (hk_nw h (a, b, hk_dft a)) (k + 1) (n + b)) : hk_P1 p l e R s m args below meth c Qf ex B vX H0 dC dI pc mx C S ls st h k n := by
  intro H locs la hl hR hq hk hn
  have hX0 := X
  obtain ⟨hx, hbs, hml, hown, henv, hini, hchk, -, hroom⟩ := hX0
  have hVX := henv.2.2.2.2.2.2
  unfold hk_chk at hck
  dsimp only at hck
  split at hck
  · rename_i x hd
    rw [Bool.and_eq_true, Bool.and_eq_true] at hck
    exact hk_s_new X hck.1.1 (Nat.eq_of_beq_eq_true hck.2) hd hR g.1.1 g.1.2 (fun H1 r1 => hk_nx g.2 (Nat.eq_of_beq_eq_true hck.1.2) hl r1 hq g.1.1 g.1.2)
  · exact absurd hck (by decide)
set_option maxHeartbeats 4000000 in
theorem hk_o_newarray (X : hk_Cx p l R s m meth c ex B vX H0 dC dI d cd call own ini mx C S bs) {u0 : ArrayType} {b : Nat} {cc : Int32} {tl : List Nat} (hck : hk_chk cd own ini mx bs (pc, .newarray u0, nx, a, b, cc, tl) = true)
    (g : hk_nar h a C S k n st (fun h' s9 n' => (hk_PP p l e R s m args below meth c Qf ex B vX H0 dC dI cd mx C S) nx ls s9 h' (k + 1) n')) : hk_P1 p l e R s m args below meth c Qf ex B vX H0 dC dI pc mx C S ls st h k n := by
  intro H locs la hl hR hq hk hn
  have hX0 := X
  obtain ⟨hx, hbs, hml, hown, henv, hini, hchk, -, hroom⟩ := hX0
  have hVX := henv.2.2.2.2.2.2
  unfold hk_chk at hck
  dsimp only at hck
  unfold hk_nar at g
  split at g
  · have g1 := g.1
    split at hck
    · rename_i hd; rw [Bool.and_eq_true] at hck
      have ea := Nat.eq_of_beq_eq_true hck.1
      exact hk_s_na X (Or.inl ⟨ea, hd⟩) hR g.1 (fun H1 r1 => hk_nx g.2 (Nat.eq_of_beq_eq_true hck.2) hl r1 hq g1.2.2.1 g1.2.2.2)
    · rename_i hd; rw [Bool.and_eq_true] at hck
      have ea := Nat.eq_of_beq_eq_true hck.1
      exact hk_s_na X (Or.inr (Or.inl ⟨ea, hd⟩)) hR g.1 (fun H1 r1 => hk_nx g.2 (Nat.eq_of_beq_eq_true hck.2) hl r1 hq g1.2.2.1 g1.2.2.2)
    · rename_i hd; rw [Bool.and_eq_true] at hck
      have ea := Nat.eq_of_beq_eq_true hck.1
      exact hk_s_na X (Or.inr (Or.inr ⟨ea, hd⟩)) hR g.1 (fun H1 r1 => hk_nx g.2 (Nat.eq_of_beq_eq_true hck.2) hl r1 hq g1.2.2.1 g1.2.2.2)
    · exact absurd hck (by decide)
  · exact absurd g id
set_option maxHeartbeats 4000000 in
theorem hk_o_anewarray (X : hk_Cx p l R s m meth c ex B vX H0 dC dI d cd call own ini mx C S bs) {u0 : Nat} {b : Nat} {cc : Int32} {tl : List Nat} (hck : hk_chk cd own ini mx bs (pc, .anewarray u0, nx, a, b, cc, tl) = true)
    (g : hk_nar h a C S k n st (fun h' s9 n' => (hk_PP p l e R s m args below meth c Qf ex B vX H0 dC dI cd mx C S) nx ls s9 h' (k + 1) n')) : hk_P1 p l e R s m args below meth c Qf ex B vX H0 dC dI pc mx C S ls st h k n := by
  intro H locs la hl hR hq hk hn
  have hX0 := X
  obtain ⟨hx, hbs, hml, hown, henv, hini, hchk, -, hroom⟩ := hX0
  have hVX := henv.2.2.2.2.2.2
  unfold hk_chk at hck
  dsimp only at hck
  unfold hk_nar at g
  split at g
  · have g1 := g.1
    split at hck
    · rename_i hd; rw [Bool.and_eq_true] at hck
      exact hk_s_an X hck.1 hd hR g.1 (fun H1 r1 => hk_nx g.2 (Nat.eq_of_beq_eq_true hck.2) hl r1 hq g1.2.2.1 g1.2.2.2)
    · exact absurd hck (by decide)
  · exact absurd g id
set_option maxHeartbeats 4000000 in
theorem hk_o_invokedynamic (X : hk_Cx p l R s m meth c ex B vX H0 dC dI d cd call own ini mx C S bs) {u0 : Nat} {b : Nat} {cc : Int32} {tl : List Nat} (hck : hk_chk cd own ini mx bs (pc, .invokedynamic u0, nx, a, b, cc, tl) = true)
    (g : (match (generalizing := false) st with | .ref x :: r => bif Nat.ble 38 x && Nat.ble (hk_cs r) 8 then (hk_PP p l e R s m args below meth c Qf ex B vX H0 dC dI cd mx C S) nx ls r h k n else False | _ => False)) : hk_P1 p l e R s m args below meth c Qf ex B vX H0 dC dI pc mx C S ls st h k n := by
  intro H locs la hl hR hq hk hn
  have hX0 := X
  obtain ⟨hx, hbs, hml, hown, henv, hini, hchk, -, hroom⟩ := hX0
  have hVX := henv.2.2.2.2.2.2
  unfold hk_chk at hck
  dsimp only at hck
  try dsimp only at g
  split at hck
  · rename_i x hd
    rw [Bool.and_eq_true] at hck
    obtain ⟨q, -, h2, h3⟩ := hk_any hck.1 hk_oL_ok
    simp only [Bool.and_eq_true] at h2
    unfold hk_ok1 at h3
    rw [Nat.eq_of_beq_eq_true h2.1, Nat.eq_of_beq_eq_true h2.2] at h3
    split at g
    · obtain ⟨h6, h7⟩ := hk_bif_1 g
      rw [Bool.and_eq_true] at h6
      have hcs := Nat.le_of_ble_eq_true h6.2
      rename_i y r
      have hcs2 := hk_cs_eq (ex := ex) (B := B) hVX r
      refine W.objInit hx hbs hown (hk_word X (hk_w_in h3)) (henv.1 _ hk_obji.1 rfl args) (henv.1 _ hk_obji.2 rfl args) rfl (by rw [hml]; exact hl.1) rfl hd (Nat.le_trans (Nat.succ_le_succ (Nat.zero_le d)) hroom.1) ?_ (hk_nx h7 (Nat.eq_of_beq_eq_true hck.2) hl hR hq hk hn)
      rw [hcs2]
      have := hroom.2.1
      show 2 * 0 + _ + _ ≤ _
      omega
    · exact absurd g id
  · exact absurd hck (by decide)
set_option maxHeartbeats 4000000 in
theorem hk_o_invokeinterface (X : hk_Cx p l R s m meth c ex B vX H0 dC dI d cd call own ini mx C S bs) {u0 : Nat} {u1 : Nat} {b : Nat} {cc : Int32} {tl : List Nat} (hck : hk_chk cd own ini mx bs (pc, .invokeinterface u0 u1, nx, a, b, cc, tl) = true)
    (g : hk_cpy h st (fun h' s9 => (hk_PP p l e R s m args below meth c Qf ex B vX H0 dC dI cd mx C S) nx ls s9 h' k n)) : hk_P1 p l e R s m args below meth c Qf ex B vX H0 dC dI pc mx C S ls st h k n := by
  intro H locs la hl hR hq hk hn
  have hX0 := X
  obtain ⟨hx, hbs, hml, hown, henv, hini, hchk, -, hroom⟩ := hX0
  have hVX := henv.2.2.2.2.2.2
  unfold hk_chk at hck
  dsimp only at hck
  split at hck
  · rename_i x hd
    rw [Bool.and_eq_true] at hck
    unfold hk_cpy at g
    split at g
    · obtain ⟨h6, ⟨g1, g2, g3, g4, g5, g6⟩, h8⟩ := hk_bif_1 g
      simp only [Bool.and_eq_true] at h6
      obtain ⟨⟨⟨⟨t1, t2⟩, t3⟩, t4⟩, t5⟩ := h6
      exact hk_s_cpy X hck.1 hd hR (Nat.eq_of_beq_eq_true t1) (Nat.eq_of_beq_eq_true t2) (Nat.le_of_ble_eq_true t3) (Nat.le_of_ble_eq_true t4) (Nat.le_of_ble_eq_true t5) g1 g2 g3 g4 g5 g6 hl.1 hq (fun H1 locs1 r1 r2 => hk_nx h8 (Nat.eq_of_beq_eq_true hck.2) hl r1 r2 hk hn)
    · exact absurd g id
  · exact absurd hck (by decide)
set_option maxHeartbeats 4000000 in
theorem hk_o_invokevirtual (X : hk_Cx p l R s m meth c ex B vX H0 dC dI d cd call own ini mx C S bs) {u0 : Nat} {b : Nat} {cc : Int32} {tl : List Nat} (hck : hk_chk cd own ini mx bs (pc, .invokevirtual u0, nx, a, b, cc, tl) = true)
    (g : hk_pop (b + 1) st [] (fun as r => bif Nat.ble (hk_cs r) 8 then hk_rc h as (match (generalizing := false) tl with | t :: _ => t | _ => 99) (hk_alc tl C S k n (fun k' n' => call a as h (fun v h' => hk_rv v r (fun s9 => (hk_PP p l e R s m args below meth c Qf ex B vX H0 dC dI cd mx C S) nx ls s9 h' k' n')))) else False)) : hk_P1 p l e R s m args below meth c Qf ex B vX H0 dC dI pc mx C S ls st h k n := by
  intro H locs la hl hR hq hk hn
  have hX0 := X
  obtain ⟨hx, hbs, hml, hown, henv, hini, hchk, -, hroom⟩ := hX0
  have hVX := henv.2.2.2.2.2.2
  unfold hk_chk at hck
  dsimp only at hck
  split at hck
  · rename_i x hd
    rw [Bool.and_eq_true, Bool.and_eq_true, Bool.and_eq_true] at hck
    obtain ⟨⟨⟨h1, h2⟩, h3⟩, h4⟩ := hck
    have h3 := of_decide_eq_true h3
    split at h4
    · rename_i t ka na cd' rt' k' n' mx' hM
      simp only [Bool.and_eq_true] at h4
      obtain ⟨as, r, e1, e2, g2⟩ := hk_pop_sp g
      obtain ⟨h6, g3⟩ := hk_bif_1 g2
      rw [List.append_nil] at g3
      subst e1
      cases as with
      | nil => exact absurd g3 id
      | cons v as =>
        cases v <;> first | exact absurd g3 id | skip
        rename_i y
        obtain ⟨h7, g4⟩ := hk_bif_1 g3
        have hlen : as.length = b := by simp at e2; exact e2
        have ek := Nat.eq_of_beq_eq_true h4.1.2
        have en := Nat.eq_of_beq_eq_true h4.2
        have et := Nat.eq_of_beq_eq_true h4.1.1
        subst ek; subst en; subst et
        have hst : ((.ref y :: as).reverse ++ r : List Value).map (hk_cv ex B vX) = (as.map (hk_cv ex B vX)).reverse ++ .ref (hk_ad ex B y) :: r.map (hk_cv ex B vX) := by simp [hk_cv]
        rw [hst]
        obtain ⟨k1, n1, hk1, hn1, ek1, en1, g5⟩ := hk_alc_sp g4 hk hn
        subst ek1; subst en1
        refine hk_s_virt X h1 h3 hM hd hR (Nat.eq_of_beq_eq_true h7) (hk_mo9 h1) hlen (Nat.le_of_ble_eq_true h6) g5 hl.1 hq hk1 hn1 (fun rv h' H1 locs1 r0 r1 r2 => ?_)
        cases rv with
        | none => exact hk_nx r0 (Nat.eq_of_beq_eq_true h2) hl r1 r2 hk1 hn1
        | some v => exact hk_nx (st := v :: r) r0 (Nat.eq_of_beq_eq_true h2) hl r1 r2 hk1 hn1
    · exact absurd h4 (by decide)
  · exact absurd hck (by decide)
set_option maxHeartbeats 4000000 in
theorem hk_o_invokestatic (X : hk_Cx p l R s m meth c ex B vX H0 dC dI d cd call own ini mx C S bs) {u0 : Nat} {b : Nat} {cc : Int32} {tl : List Nat} (hck : hk_chk cd own ini mx bs (pc, .invokestatic u0, nx, a, b, cc, tl) = true)
    (g : hk_pop b st [] (fun as r => bif Nat.ble (hk_cs r) 8 then hk_alc tl C S k n (fun k' n' => call a as h (fun v h' => hk_rv v r (fun s9 => (hk_PP p l e R s m args below meth c Qf ex B vX H0 dC dI cd mx C S) nx ls s9 h' k' n'))) else False)) : hk_P1 p l e R s m args below meth c Qf ex B vX H0 dC dI pc mx C S ls st h k n := by
  intro H locs la hl hR hq hk hn
  have hX0 := X
  obtain ⟨hx, hbs, hml, hown, henv, hini, hchk, -, hroom⟩ := hX0
  have hVX := henv.2.2.2.2.2.2
  unfold hk_chk at hck
  dsimp only at hck
  split at hck
  · rename_i x hd
    rw [Bool.and_eq_true, Bool.and_eq_true, Bool.and_eq_true] at hck
    obtain ⟨⟨⟨h1, h2⟩, h3⟩, h4⟩ := hck
    have h3 := of_decide_eq_true h3
    split at h4
    · rename_i t ka na cd' rt' k' n' mx' hM
      simp only [Bool.and_eq_true] at h4
      obtain ⟨as, r, e1, e2, g2⟩ := hk_pop_sp g
      obtain ⟨h6, g3⟩ := hk_bif_1 g2
      rw [List.append_nil] at g3
      subst e1
      · have g4 := g3
        have hlen : as.length = b := e2
        have ek := Nat.eq_of_beq_eq_true h4.1
        have en := Nat.eq_of_beq_eq_true h4.2
        subst ek; subst en
        have hst : (as.reverse ++ r : List Value).map (hk_cv ex B vX) = (as.map (hk_cv ex B vX)).reverse ++ r.map (hk_cv ex B vX) := by simp
        rw [hst]
        obtain ⟨k1, n1, hk1, hn1, ek1, en1, g5⟩ := hk_alc_sp g4 hk hn
        subst ek1; subst en1
        refine hk_s_stat X h1 h3 hM hd hR  hlen (Nat.le_of_ble_eq_true h6) g5 hl.1 hq hk1 hn1 (fun rv h' H1 locs1 r0 r1 r2 => ?_)
        cases rv with
        | none => exact hk_nx r0 (Nat.eq_of_beq_eq_true h2) hl r1 r2 hk1 hn1
        | some v => exact hk_nx (st := v :: r) r0 (Nat.eq_of_beq_eq_true h2) hl r1 r2 hk1 hn1
    · exact absurd h4 (by decide)
  · exact absurd hck (by decide)
set_option maxHeartbeats 4000000 in
theorem hk_o_invokespecial (X : hk_Cx p l R s m meth c ex B vX H0 dC dI d cd call own ini mx C S bs) {u0 : Nat} {b : Nat} {cc : Int32} {tl : List Nat} (hck : hk_chk cd own ini mx bs (pc, .invokespecial u0, nx, a, b, cc, tl) = true)
    (g : hk_pop (b + 1) st [] (fun as r => bif Nat.ble (hk_cs r) 8 then hk_rn as (hk_alc tl C S k n (fun k' n' => call a as h (fun v h' => hk_rv v r (fun s9 => (hk_PP p l e R s m args below meth c Qf ex B vX H0 dC dI cd mx C S) nx ls s9 h' k' n')))) else False)) : hk_P1 p l e R s m args below meth c Qf ex B vX H0 dC dI pc mx C S ls st h k n := by
  intro H locs la hl hR hq hk hn
  have hX0 := X
  obtain ⟨hx, hbs, hml, hown, henv, hini, hchk, -, hroom⟩ := hX0
  have hVX := henv.2.2.2.2.2.2
  unfold hk_chk at hck
  dsimp only at hck
  split at hck
  · rename_i x hd
    rw [Bool.and_eq_true, Bool.and_eq_true, Bool.and_eq_true] at hck
    obtain ⟨⟨⟨h1, h2⟩, h3⟩, h4⟩ := hck
    have h3 := of_decide_eq_true h3
    split at h4
    · rename_i t ka na cd' rt' k' n' mx' hM
      simp only [Bool.and_eq_true] at h4
      obtain ⟨as, r, e1, e2, g2⟩ := hk_pop_sp g
      obtain ⟨h6, g3⟩ := hk_bif_1 g2
      rw [List.append_nil] at g3
      subst e1
      cases as with
      | nil => exact absurd g3 id
      | cons v as =>
        cases v <;> first | exact absurd g3 id | skip
        rename_i y
        obtain ⟨h7, g4⟩ := hk_bif_1 g3
        have hlen : as.length = b := by simp at e2; exact e2
        have ek := Nat.eq_of_beq_eq_true h4.1
        have en := Nat.eq_of_beq_eq_true h4.2
        subst ek; subst en
        have hst : ((.ref y :: as).reverse ++ r : List Value).map (hk_cv ex B vX) = (as.map (hk_cv ex B vX)).reverse ++ .ref (hk_ad ex B y) :: r.map (hk_cv ex B vX) := by simp [hk_cv]
        rw [hst]
        obtain ⟨k1, n1, hk1, hn1, ek1, en1, g5⟩ := hk_alc_sp g4 hk hn
        subst ek1; subst en1
        refine hk_s_spec X h1 h3 hM hd hR  hlen (Nat.le_of_ble_eq_true h6) g5 hl.1 hq hk1 hn1 (fun rv h' H1 locs1 r0 r1 r2 => ?_)
        cases rv with
        | none => exact hk_nx r0 (Nat.eq_of_beq_eq_true h2) hl r1 r2 hk1 hn1
        | some v => exact hk_nx (st := v :: r) r0 (Nat.eq_of_beq_eq_true h2) hl r1 r2 hk1 hn1
    · exact absurd h4 (by decide)
  · exact absurd hck (by decide)
set_option maxHeartbeats 4000000 in
theorem hk_o_ireturn {rt : Option FieldType} {Q : hk_Q} (hI : ∀ ty (v : Int32) (h : hk_Hp) (H : Heap) (locs : List Loc) (k n : Nat) (la : Array Slot) (pc : Nat), rt = some ty → Q (some (.int v)) h → narrow ty (.int v) = .int v → hk_Rel ex B vX H0 dC dI s H h → (∀ q ∈ locs, B ≤ q.base) → k ≤ C → n ≤ S → decode bs pc = .ok (.ireturn, 1) → W p l e R s m args below meth c H locs k n Qf (F0 m pc la [.int v])) (X : hk_Cx p l R s m meth c ex B vX H0 dC dI d cd call own ini mx C S bs)  {b : Nat} {cc : Int32} {tl : List Nat} (hck : hk_chk cd own ini mx bs (pc, .ireturn, nx, a, b, cc, tl) = true)
    (g : hk_ret rt st (fun v => Q v h)) : hk_P1 p l e R s m args below meth c Qf ex B vX H0 dC dI pc mx C S ls st h k n := by
  intro H locs la hl hR hq hk hn
  have hX0 := X
  obtain ⟨hx, hbs, hml, hown, henv, hini, hchk, -, hroom⟩ := hX0
  have hVX := henv.2.2.2.2.2.2
  unfold hk_chk at hck
  dsimp only at hck
  have hd := of_decide_eq_true hck
  unfold hk_ret at g
  split at g
  · exact hI .int _ h H locs k n la pc rfl g rfl hR hq hk hn hd
  · exact hI _ _ h H locs k n la pc rfl g.2 g.1 hR hq hk hn hd
  · exact absurd g id
set_option maxHeartbeats 4000000 in
theorem hk_o_return_ {rt : Option FieldType} {Q : hk_Q} (hV : ∀ (h : hk_Hp) (H : Heap) (locs : List Loc) (k n : Nat) (la : Array Slot) (pc : Nat), rt = none → Q none h → hk_Rel ex B vX H0 dC dI s H h → (∀ q ∈ locs, B ≤ q.base) → k ≤ C → n ≤ S → decode bs pc = .ok (.return_, 1) → W p l e R s m args below meth c H locs k n Qf (F0 m pc la [])) (X : hk_Cx p l R s m meth c ex B vX H0 dC dI d cd call own ini mx C S bs)  {b : Nat} {cc : Int32} {tl : List Nat} (hck : hk_chk cd own ini mx bs (pc, .return_, nx, a, b, cc, tl) = true)
    (g : (match (generalizing := false) rt, st with | none, [] => Q none h | _, _ => False)) : hk_P1 p l e R s m args below meth c Qf ex B vX H0 dC dI pc mx C S ls st h k n := by
  intro H locs la hl hR hq hk hn
  have hX0 := X
  obtain ⟨hx, hbs, hml, hown, henv, hini, hchk, -, hroom⟩ := hX0
  have hVX := henv.2.2.2.2.2.2
  unfold hk_chk at hck
  dsimp only at hck
  have hd := of_decide_eq_true hck
  try dsimp only at g
  split at g
  · exact hV h H locs k n la pc rfl g hR hq hk hn hd
  · exact absurd g id
set_option maxHeartbeats 4000000 in
theorem hk_close {rt : Option FieldType} {Q : hk_Q} (X : hk_Cx p l R s m meth c ex B vX H0 dC dI d cd call own ini mx C S bs)
    (hI : ∀ ty (v : Int32) (h : hk_Hp) (H : Heap) (locs : List Loc) (k n : Nat) (la : Array Slot) (pc : Nat), rt = some ty → Q (some (.int v)) h → narrow ty (.int v) = .int v → hk_Rel ex B vX H0 dC dI s H h → (∀ q ∈ locs, B ≤ q.base) → k ≤ C → n ≤ S → decode bs pc = .ok (.ireturn, 1) → W p l e R s m args below meth c H locs k n Qf (F0 m pc la [.int v]))
    (hV : ∀ (h : hk_Hp) (H : Heap) (locs : List Loc) (k n : Nat) (la : Array Slot) (pc : Nat), rt = none → Q none h → hk_Rel ex B vX H0 dC dI s H h → (∀ q ∈ locs, B ≤ q.base) → k ≤ C → n ≤ S → decode bs pc = .ok (.return_, 1) → W p l e R s m args below meth c H locs k n Qf (F0 m pc la []))
    (ip : Nat) (ls : hk_Ls) (st : List Value) (h : hk_Hp) (k n : Nat) (g : hk_step rt C S hk_dft cd call Q (hk_PP p l e R s m args below meth c Qf ex B vX H0 dC dI cd mx C S) ip ls st h k n) : hk_PP p l e R s m args below meth c Qf ex B vX H0 dC dI cd mx C S ip ls st h k n := by
  unfold hk_step at g
  cases he : hk_at cd ip with
  | none => rw [he] at g; exact absurd g id
  | some en =>
    rw [he] at g
    have hck := X.2.2.2.2.2.2.1 ip en he
    have hpc : hk_pc cd ip = en.1 := by unfold hk_pc; rw [he]
    show hk_P1 p l e R s m args below meth c Qf ex B vX H0 dC dI (hk_pc cd ip) mx C S ls st h k n
    rw [hpc]
    obtain ⟨pc, i, nx, a, b, cc, tl⟩ := en
    dsimp only at g ⊢
    cases i
    case aconst_null => exact hk_o_aconst_null X hck g
    case iconst => exact hk_o_iconst X hck g
    case lconst => exact hk_o_lconst X hck g
    case ldc => exact hk_o_ldc X hck g
    case iload => exact hk_o_iload X hck g
    case lload => exact hk_o_lload X hck g
    case aload => exact hk_o_aload X hck g
    case istore => exact hk_o_istore X hck g
    case lstore => exact hk_o_lstore X hck g
    case astore => exact hk_o_astore X hck g
    case iinc => exact hk_o_iinc X hck g
    case pop => exact hk_o_pop X hck g
    case dup => exact hk_o_dup X hck g
    case iadd => exact hk_o_iadd X hck g
    case isub => exact hk_o_isub X hck g
    case imul => exact hk_o_imul X hck g
    case iand => exact hk_o_iand X hck g
    case ior => exact hk_o_ior X hck g
    case ixor => exact hk_o_ixor X hck g
    case ishl => exact hk_o_ishl X hck g
    case ishr => exact hk_o_ishr X hck g
    case iushr => exact hk_o_iushr X hck g
    case idiv => exact hk_o_idiv X hck g
    case irem => exact hk_o_irem X hck g
    case ineg => exact hk_o_ineg X hck g
    case i2l => exact hk_o_i2l X hck g
    case i2b => exact hk_o_i2b X hck g
    case i2s => exact hk_o_i2s X hck g
    case i2c => exact hk_o_i2c X hck g
    case l2i => exact hk_o_l2i X hck g
    case ladd => exact hk_o_ladd X hck g
    case lsub => exact hk_o_lsub X hck g
    case lmul => exact hk_o_lmul X hck g
    case land => exact hk_o_land X hck g
    case lor => exact hk_o_lor X hck g
    case lcmp => exact hk_o_lcmp X hck g
    case lshl => exact hk_o_lshl X hck g
    case lshr => exact hk_o_lshr X hck g
    case lushr => exact hk_o_lushr X hck g
    case goto => exact hk_o_goto X hck g
    case ifCond => exact hk_o_ifCond X hck g
    case if_icmp => exact hk_o_if_icmp X hck g
    case ifnull => exact hk_o_ifnull X hck g
    case ifnonnull => exact hk_o_ifnonnull X hck g
    case tableswitch => exact hk_o_tableswitch X hck g
    case getstatic => exact hk_o_getstatic X hck g
    case getfield => exact hk_o_getfield X hck g
    case putfield => exact hk_o_putfield X hck g
    case iaload => exact hk_o_iaload X hck g
    case laload => exact hk_o_laload X hck g
    case baload => exact hk_o_baload X hck g
    case aaload => exact hk_o_aaload X hck g
    case iastore => exact hk_o_iastore X hck g
    case lastore => exact hk_o_lastore X hck g
    case bastore => exact hk_o_bastore X hck g
    case aastore => exact hk_o_aastore X hck g
    case arraylength => exact hk_o_arraylength X hck g
    case fadd => exact hk_o_fadd X hck g
    case fsub => exact hk_o_fsub X hck g
    case fneg => exact hk_o_fneg X hck g
    case new => exact hk_o_new X hck g
    case newarray => exact hk_o_newarray X hck g
    case anewarray => exact hk_o_anewarray X hck g
    case invokedynamic => exact hk_o_invokedynamic X hck g
    case invokeinterface => exact hk_o_invokeinterface X hck g
    case invokevirtual => exact hk_o_invokevirtual X hck g
    case invokestatic => exact hk_o_invokestatic X hck g
    case invokespecial => exact hk_o_invokespecial X hck g
    case ireturn => exact hk_o_ireturn hI X hck g
    case return_ => exact hk_o_return_ hV X hck g
    all_goals exact absurd g id
end Snd6
