/-! the law, from its entry: what the start gives to the small machine -/
def hk_h0 (X : hk_D) : hk_Hp := (38, fun a => bif Nat.ble a 37 then hk_ext X a else (99, 0, fun _ => .null))
/-- the claim of the law in the small machine -/
def hk_Law : Prop := ∀ X : hk_D, X.2.2.2.2.2.2.1 ≤ 320 → hk_wp (some .boolean) 217 4215 hk_dft hcdLAW (hk_call 60) (fun r _ => r = some (.int 1)) 0 [(0, .ref 0)] [] (hk_h0 X) 0 0
def hk_sby (j : Nat) : List Int32 := match j with
  | 0 => [104, 97, 116]
  | 1 => [112, 105, 110, 110, 101, 100]
  | 2 => [115, 116, 114, 97, 119]
  | 3 => [116, 105, 101, 100]
  | 4 => [102, 101, 97, 116, 104, 101, 114, 101, 100]
  | 5 => [102, 101, 108, 116]
  | 6 => [119, 111, 114, 116, 104]
  | 7 => [111, 102]
  | 8 => [111, 110]
  | 9 => [112, 101, 114, 115, 111, 110]
  | 10 => [115, 112, 101, 101, 100]
  | 11 => [119, 105, 110, 100]
  | 12 => [110, 111, 114, 116, 104]
  | 13 => [101, 97, 115, 116]
  | 14 => [115, 111, 117, 116, 104]
  | 15 => [119, 101, 115, 116]
  | _ => [110, 111, 119]
def hk_six (j : Nat) : Nat := match j with
  | 0 => 122
  | 1 => 124
  | 2 => 126
  | 3 => 128
  | 4 => 130
  | 5 => 132
  | 6 => 88
  | 7 => 102
  | 8 => 110
  | 9 => 51
  | 10 => 82
  | 11 => 63
  | 12 => 134
  | 13 => 136
  | 14 => 138
  | 15 => 140
  | _ => 68
def hk_stx (j : Nat) : String := match j with
  | 0 => "hat"
  | 1 => "pinned"
  | 2 => "straw"
  | 3 => "tied"
  | 4 => "feathered"
  | 5 => "felt"
  | 6 => "worth"
  | 7 => "of"
  | 8 => "on"
  | 9 => "person"
  | 10 => "speed"
  | 11 => "wind"
  | 12 => "north"
  | 13 => "east"
  | 14 => "south"
  | 15 => "west"
  | _ => "now"
theorem hk_nd_eq : ∀ (l : List Int32) (k : Nat), hk_nd l k = l.getD k 0
  | [], _ => rfl
  | a :: l, 0 => rfl
  | a :: l, k + 1 => by
    have := hk_nd_eq l k
    simpa [hk_nd, hk_nth] using this

theorem hk_ext_s : ∀ j, j < 17 → ∀ X, hk_ext X (4 + j) = (9, 2, fun k => match k with | 0 => .ref (21 + j) | _ => .int 0)
  | 0, _ => fun _ => rfl
  | 1, _ => fun _ => rfl
  | 2, _ => fun _ => rfl
  | 3, _ => fun _ => rfl
  | 4, _ => fun _ => rfl
  | 5, _ => fun _ => rfl
  | 6, _ => fun _ => rfl
  | 7, _ => fun _ => rfl
  | 8, _ => fun _ => rfl
  | 9, _ => fun _ => rfl
  | 10, _ => fun _ => rfl
  | 11, _ => fun _ => rfl
  | 12, _ => fun _ => rfl
  | 13, _ => fun _ => rfl
  | 14, _ => fun _ => rfl
  | 15, _ => fun _ => rfl
  | 16, _ => fun _ => rfl
  | j + 17, h => absurd h (by omega)
theorem hk_ext_b : ∀ j, j < 17 → ∀ X, hk_ext X (21 + j) = (12, (hk_sby j).length, fun k => .int (hk_nd (hk_sby j) k))
  | 0, _ => fun _ => rfl
  | 1, _ => fun _ => rfl
  | 2, _ => fun _ => rfl
  | 3, _ => fun _ => rfl
  | 4, _ => fun _ => rfl
  | 5, _ => fun _ => rfl
  | 6, _ => fun _ => rfl
  | 7, _ => fun _ => rfl
  | 8, _ => fun _ => rfl
  | 9, _ => fun _ => rfl
  | 10, _ => fun _ => rfl
  | 11, _ => fun _ => rfl
  | 12, _ => fun _ => rfl
  | 13, _ => fun _ => rfl
  | 14, _ => fun _ => rfl
  | 15, _ => fun _ => rfl
  | 16, _ => fun _ => rfl
  | j + 17, h => absurd h (by omega)
theorem hk_sL_eq : ∀ e ∈ hk_sL, ∃ j, j < 17 ∧ e.1 = 6 ∧ e.2.1 = hk_six j ∧ e.2.2.1 = 4 + j ∧ e.2.2.2.1 = hk_stx j := by decide +kernel
def hk_st (j : Nat) : Term := .string "HatFields$Tape" (hk_six j)
def hk_atoms (j : Nat) : List Cond := [.exactly (hk_st j) "java/lang/String", .eq (.field (hk_st j) "java/lang/String" "coder" "B") (.int 0), .arrayOf (.field (hk_st j) "java/lang/String" "value" "[B") .byte, .eq (.length (.field (hk_st j) "java/lang/String" "value" "[B")) (.int (Int32.ofNat (hk_sby j).length))] ++ (List.range (hk_sby j).length).map (fun k => .eq (.elem (.field (hk_st j) "java/lang/String" "value" "[B") (.int (Int32.ofNat k))) (.int ((hk_sby j).getD k 0)))
def hk_flat : List Cond := flatC (Jvm.Cond.and given_1 narrow_1)
set_option maxRecDepth 100000 in
theorem hk_at0 : ∀ c ∈ hk_atoms 0, c ∈ hk_flat := by decide +kernel
set_option maxRecDepth 100000 in
theorem hk_at1 : ∀ c ∈ hk_atoms 1, c ∈ hk_flat := by decide +kernel
set_option maxRecDepth 100000 in
theorem hk_at2 : ∀ c ∈ hk_atoms 2, c ∈ hk_flat := by decide +kernel
set_option maxRecDepth 100000 in
theorem hk_at3 : ∀ c ∈ hk_atoms 3, c ∈ hk_flat := by decide +kernel
set_option maxRecDepth 100000 in
theorem hk_at4 : ∀ c ∈ hk_atoms 4, c ∈ hk_flat := by decide +kernel
set_option maxRecDepth 100000 in
theorem hk_at5 : ∀ c ∈ hk_atoms 5, c ∈ hk_flat := by decide +kernel
set_option maxRecDepth 100000 in
theorem hk_at6 : ∀ c ∈ hk_atoms 6, c ∈ hk_flat := by decide +kernel
set_option maxRecDepth 100000 in
theorem hk_at7 : ∀ c ∈ hk_atoms 7, c ∈ hk_flat := by decide +kernel
set_option maxRecDepth 100000 in
theorem hk_at8 : ∀ c ∈ hk_atoms 8, c ∈ hk_flat := by decide +kernel
set_option maxRecDepth 100000 in
theorem hk_at9 : ∀ c ∈ hk_atoms 9, c ∈ hk_flat := by decide +kernel
set_option maxRecDepth 100000 in
theorem hk_at10 : ∀ c ∈ hk_atoms 10, c ∈ hk_flat := by decide +kernel
set_option maxRecDepth 100000 in
theorem hk_at11 : ∀ c ∈ hk_atoms 11, c ∈ hk_flat := by decide +kernel
set_option maxRecDepth 100000 in
theorem hk_at12 : ∀ c ∈ hk_atoms 12, c ∈ hk_flat := by decide +kernel
set_option maxRecDepth 100000 in
theorem hk_at13 : ∀ c ∈ hk_atoms 13, c ∈ hk_flat := by decide +kernel
set_option maxRecDepth 100000 in
theorem hk_at14 : ∀ c ∈ hk_atoms 14, c ∈ hk_flat := by decide +kernel
set_option maxRecDepth 100000 in
theorem hk_at15 : ∀ c ∈ hk_atoms 15, c ∈ hk_flat := by decide +kernel
set_option maxRecDepth 100000 in
theorem hk_at16 : ∀ c ∈ hk_atoms 16, c ∈ hk_flat := by decide +kernel
theorem hk_ats : ∀ j, j < 17 → ∀ c ∈ hk_atoms j, c ∈ hk_flat
  | 0, _ => hk_at0
  | 1, _ => hk_at1
  | 2, _ => hk_at2
  | 3, _ => hk_at3
  | 4, _ => hk_at4
  | 5, _ => hk_at5
  | 6, _ => hk_at6
  | 7, _ => hk_at7
  | 8, _ => hk_at8
  | 9, _ => hk_at9
  | 10, _ => hk_at10
  | 11, _ => hk_at11
  | 12, _ => hk_at12
  | 13, _ => hk_at13
  | 14, _ => hk_at14
  | 15, _ => hk_at15
  | 16, _ => hk_at16
  | j + 17, h => absurd h (by omega)
def hk_tabs (C n : String) (l : List Int32) : List Cond := [.arrayOf (.static C n "[I") .int, .eq (.length (.static C n "[I")) (.int (Int32.ofNat l.length))] ++ (List.range l.length).map (fun k => .eq (.elem (.static C n "[I") (.int (Int32.ofNat k))) (.int (l.getD k 0)))
def hk_above : List Int32 := [0, 0, 0, 1, 2, 0]
def hk_bodies : List Int32 := [10, 11, 12, 13, 10, 20, 12, 13, 30, 11, 12, 31, 51, 20, 50, 13, 40, 41, 12, 31, 10, 11, 61, 60]
set_option maxRecDepth 100000 in
theorem hk_tabA : ∀ c ∈ hk_tabs "HatFields$Hat" "ABOVE" hk_above, c ∈ hk_flat := by decide +kernel
set_option maxRecDepth 100000 in
theorem hk_tabB : ∀ c ∈ hk_tabs "HatFields$Actor" "BODIES" hk_bodies, c ∈ hk_flat := by decide +kernel
theorem hk_tabC : Cond.eq (.static "java/lang/String" "COMPACT_STRINGS" "Z") (.int 1) ∈ hk_flat ∧ Cond.isRef (.static "jdk/internal/util/Preconditions" "SIOOBE_FORMATTER" "Ljava/util/function/BiFunction;") ∈ hk_flat := by decide +kernel
theorem hk_ls0 : Cond.laysStatic "HatFields$Hat" "ABOVE" "[I" ∈ lw_tbl := hk_tb_in (k := 4) (hk_nth_in (n := 24) rfl)
theorem hk_li0 : Cond.initialized "HatFields$Hat" ∈ lw_tbl := hk_tb_in (k := 1) (hk_nth_in (n := 4) rfl)
theorem hk_ls1 : Cond.laysStatic "HatFields$Actor" "BODIES" "[I" ∈ lw_tbl := hk_tb_in (k := 4) (hk_nth_in (n := 42) rfl)
theorem hk_li1 : Cond.initialized "HatFields$Actor" ∈ lw_tbl := hk_tb_in (k := 1) (hk_nth_in (n := 6) rfl)
theorem hk_ls2 : Cond.laysStatic "java/lang/String" "COMPACT_STRINGS" "Z" ∈ lw_tbl := hk_tb_in (k := 2) (hk_nth_in (n := 46) rfl)
theorem hk_li2 : Cond.initialized "java/lang/String" ∈ lw_tbl := hk_tb_in (k := 1) (hk_nth_in (n := 9) rfl)
theorem hk_ls3 : Cond.laysStatic "jdk/internal/util/Preconditions" "SIOOBE_FORMATTER" "Ljava/util/function/BiFunction;" ∈ lw_tbl := hk_tb_in (k := 2) (hk_nth_in (n := 62) rfl)
theorem hk_li3 : Cond.initialized "jdk/internal/util/Preconditions" ∈ lw_tbl := hk_tb_in (k := 1) (hk_nth_in (n := 11) rfl)
theorem hk_ins : ∀ t, t < 9 → ∃ nn, Cond.instantiable (hk_cn t) nn ∈ lw_tbl
  | 0, _ => ⟨6, hk_tb_in (k := 1) (hk_nth_in (n := 147) rfl)⟩
  | 1, _ => ⟨5, hk_tb_in (k := 1) (hk_nth_in (n := 52) rfl)⟩
  | 2, _ => ⟨2, hk_tb_in (k := 1) (hk_nth_in (n := 35) rfl)⟩
  | 3, _ => ⟨7, hk_tb_in (k := 1) (hk_nth_in (n := 26) rfl)⟩
  | 4, _ => ⟨2, hk_tb_in (k := 3) (hk_nth_in (n := 217) rfl)⟩
  | 5, _ => ⟨2, hk_tb_in (k := 1) (hk_nth_in (n := 173) rfl)⟩
  | 6, _ => ⟨6, hk_tb_in (k := 1) (hk_nth_in (n := 116) rfl)⟩
  | 7, _ => ⟨12, hk_tb_in (k := 1) (hk_nth_in (n := 18) rfl)⟩
  | 8, _ => ⟨51, hk_tb_in (k := 4) (hk_nth_in (n := 74) rfl)⟩
  | t + 9, h => absurd h (by omega)
theorem hk_srf : ∀ j, j < 17 → Cond.stringRef "HatFields$Tape" (hk_six j) (hk_stx j) ∈ lw_tbl
  | 0, _ => hk_tb_in (k := 2) (hk_nth_in (n := 32) rfl)
  | 1, _ => hk_tb_in (k := 2) (hk_nth_in (n := 85) rfl)
  | 2, _ => hk_tb_in (k := 2) (hk_nth_in (n := 86) rfl)
  | 3, _ => hk_tb_in (k := 2) (hk_nth_in (n := 87) rfl)
  | 4, _ => hk_tb_in (k := 2) (hk_nth_in (n := 88) rfl)
  | 5, _ => hk_tb_in (k := 2) (hk_nth_in (n := 89) rfl)
  | 6, _ => hk_tb_in (k := 2) (hk_nth_in (n := 102) rfl)
  | 7, _ => hk_tb_in (k := 2) (hk_nth_in (n := 115) rfl)
  | 8, _ => hk_tb_in (k := 2) (hk_nth_in (n := 120) rfl)
  | 9, _ => hk_tb_in (k := 2) (hk_nth_in (n := 129) rfl)
  | 10, _ => hk_tb_in (k := 2) (hk_nth_in (n := 134) rfl)
  | 11, _ => hk_tb_in (k := 2) (hk_nth_in (n := 139) rfl)
  | 12, _ => hk_tb_in (k := 2) (hk_nth_in (n := 148) rfl)
  | 13, _ => hk_tb_in (k := 2) (hk_nth_in (n := 149) rfl)
  | 14, _ => hk_tb_in (k := 2) (hk_nth_in (n := 150) rfl)
  | 15, _ => hk_tb_in (k := 2) (hk_nth_in (n := 151) rfl)
  | 16, _ => hk_tb_in (k := 2) (hk_nth_in (n := 153) rfl)
  | j + 17, h => absurd h (by omega)
section Law0
variable {s : State} {args : Array Value}
/-- a table of ints that nobody writes -/
theorem hk_tab1 {C n : String} {l : List Int32} (hN : l.length < 2 ^ 31) (hfl : ∀ c ∈ hk_flat, c.before args s = true) (ht : ∀ c ∈ hk_tabs C n l, c ∈ hk_flat) (hl : (Cond.laysStatic C n "[I").before args s = true) (hi : (Cond.initialized C).before args s = true) :
    ∃ t : Nat, va_Z C n "[I" (.ref t) (fun q => s.heap.size ≤ q) s s.heap ∧ va_T .int t l.length (fun k => .int (hk_nd l k)) (fun q => s.heap.size ≤ q) s s.heap := by
  have hA : ∀ a : Nat, a < s.heap.size → ¬ (fun q : Nat => s.heap.size ≤ q) a := fun a h => Nat.not_le.mpr h
  have h1 := hfl _ (ht (.arrayOf (.static C n "[I") .int) (by simp [hk_tabs]))
  have h2 := hfl _ (ht (.eq (.length (.static C n "[I")) (.int (Int32.ofNat l.length))) (by simp [hk_tabs]))
  have h3 : ∀ k, k < l.length → (Cond.eq (.elem (.static C n "[I") (.int (Int32.ofNat k))) (.int (l.getD k 0))).before args s = true := fun k hk => hfl _ (ht _ (by
    unfold hk_tabs
    exact List.mem_append_right _ (List.mem_map.mpr ⟨k, List.mem_range.mpr hk, rfl⟩)))
  obtain ⟨t, g1, g2⟩ := va_Tof (A := fun q => s.heap.size ≤ q) (f := fun k => .int (hk_nd l k)) hN h1 (va_eqt h2) (fun j hj => by rw [hk_nd_eq]; exact va_eqt (h3 j hj)) hA
  exact ⟨t, va_Zref hl hi g1 hA, g2⟩
/-- a text constant -/
theorem hk_str1 {j : Nat} (hj : j < 17) (hfl : ∀ c ∈ hk_flat, c.before args s = true) (hw : (Cond.stringRef "HatFields$Tape" (hk_six j) (hk_stx j)).before args s = true) :
    ∃ q : Nat × Nat, vk_R "HatFields$Tape" (hk_six j) (hk_stx j) q.1 s ∧ va_O "java/lang/String" q.1 (fun q => s.heap.size ≤ q) s s.heap ∧ va_OF "java/lang/String" "coder" "B" (.int 0) q.1 (fun q => s.heap.size ≤ q) s s.heap ∧ va_OF "java/lang/String" "value" "[B" (.ref q.2) q.1 (fun q => s.heap.size ≤ q) s s.heap ∧ va_T .byte q.2 (hk_sby j).length (fun k => .int (hk_nd (hk_sby j) k)) (fun q => s.heap.size ≤ q) s s.heap := by
  have hA : ∀ a : Nat, a < s.heap.size → ¬ (fun q : Nat => s.heap.size ≤ q) a := fun a h => Nat.not_le.mpr h
  have ha := hk_ats j hj
  have h1 := hfl _ (ha (.exactly (hk_st j) "java/lang/String") (by simp [hk_atoms]))
  have h2 := hfl _ (ha (.eq (.field (hk_st j) "java/lang/String" "coder" "B") (.int 0)) (by simp [hk_atoms]))
  have h3 := hfl _ (ha (.arrayOf (.field (hk_st j) "java/lang/String" "value" "[B") .byte) (by simp [hk_atoms]))
  have h4 := hfl _ (ha (.eq (.length (.field (hk_st j) "java/lang/String" "value" "[B")) (.int (Int32.ofNat (hk_sby j).length))) (by simp [hk_atoms]))
  have h5 : ∀ k, k < (hk_sby j).length → (Cond.eq (.elem (.field (hk_st j) "java/lang/String" "value" "[B") (.int (Int32.ofNat k))) (.int ((hk_sby j).getD k 0))).before args s = true := fun k hk => hfl _ (ha _ (by
    unfold hk_atoms
    exact List.mem_append_right _ (List.mem_map.mpr ⟨k, List.mem_range.mpr hk, rfl⟩)))
  have hlen : (hk_sby j).length < 2 ^ 31 := by
    have : ∀ j, j < 17 → (hk_sby j).length < 20 := by decide +kernel
    have := this j hj
    omega
  obtain ⟨adK, adV, hS, hv⟩ := vk_Sof (args := args) (s := s) (N := 1) (tm := fun _ => hk_st j) (len := [(hk_sby j).length]) (byt := [hk_sby j]) (A := fun q => s.heap.size ≤ q) (fun i hi => by rw [show i = 0 by omega]; exact hlen) (fun _ _ => h1) (fun _ _ => h2) (fun _ _ => h3) (fun i hi => by rw [show i = 0 by omega]; exact h4) (fun i hi k hk => by rw [show i = 0 by omega] at hk ⊢; exact h5 k hk) (fun i k hi hk hne => absurd (show i = k by omega) hne) hA
  obtain ⟨g1, g2, g3, g4⟩ := hS.1 0 (by omega)
  have hev := hv 0 (by omega)
  refine ⟨(adK 0, adV 0), ?_, g1, g2, g3, ?_⟩
  · refine ⟨?_, ?_⟩
    · have h0 := hw
      simp only [Cond.before, Cond.holds, Cond.value] at h0 ⊢
      exact h0
    · rw [Term.string_eval_of_vm (args := #[]) (rfl : s.vm = s.vm)]
      exact hev
  · have e : (fun k => Value.int (hk_nd (hk_sby j) k)) = fun k => Value.int (([hk_sby j].getD 0 []).getD k 0) := by
      funext k
      rw [hk_nd_eq]; rfl
    rw [e]
    exact g4
end Law0
