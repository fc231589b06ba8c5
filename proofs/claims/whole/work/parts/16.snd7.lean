/-! SOUNDNESS, 7: calls by their depth; the law from its entry -/
def hk_239 : List Nat := [0, 1, 2, 3, 4, 5, 6, 7, 8, 9, 10, 11, 12, 13, 14, 15, 16, 17, 18, 19, 20, 21, 22, 23, 24, 25, 26, 27, 28, 29, 30, 31, 32, 33, 34, 35, 36, 37, 38, 39, 40, 41, 42, 43, 44, 45, 46, 47, 48, 49, 50, 51, 52, 53, 54, 55, 56, 57, 58, 59, 60, 61, 62, 63, 64, 65, 66, 67, 68, 69, 70, 71, 72, 73, 74, 75, 76, 77, 78, 79, 80, 81, 82, 83, 84, 85, 86, 87, 88, 89, 90, 91, 92, 93, 94, 95, 96, 97, 98, 99, 100, 101, 102, 103, 104, 105, 106, 107, 108, 109, 110, 111, 112, 113, 114, 115, 116, 117, 118, 119, 120, 121, 122, 123, 124, 125, 126, 127, 128, 129, 130, 131, 132, 133, 134, 135, 136, 137, 138, 139, 140, 141, 142, 143, 144, 145, 146, 147, 148, 149, 150, 151, 152, 153, 154, 155, 156, 157, 158, 159, 160, 161, 162, 163, 164, 165, 166, 167, 168, 169, 170, 171, 172, 173, 174, 175, 176, 177, 178, 179, 180, 181, 182, 183, 184, 185, 186, 187, 188, 189, 190, 191, 192, 193, 194, 195, 196, 197, 198, 199, 200, 201, 202, 203, 204, 205, 206, 207, 208, 209, 210, 211, 212, 213, 214, 215, 216, 217, 218, 219, 220, 221, 222, 223, 224, 225, 226, 227, 228, 229, 230, 231, 232, 233, 234, 235]
set_option maxRecDepth 100000 in
theorem hk_chs : ∀ M ∈ hk_239, hk_chM M = true := List.forall_mem_cons.mpr ⟨hk_ch0, List.forall_mem_cons.mpr ⟨hk_ch1, List.forall_mem_cons.mpr ⟨hk_ch2, List.forall_mem_cons.mpr ⟨hk_ch3, List.forall_mem_cons.mpr ⟨hk_ch4, List.forall_mem_cons.mpr ⟨hk_ch5, List.forall_mem_cons.mpr ⟨hk_ch6, List.forall_mem_cons.mpr ⟨hk_ch7, List.forall_mem_cons.mpr ⟨hk_ch8, List.forall_mem_cons.mpr ⟨hk_ch9, List.forall_mem_cons.mpr ⟨hk_ch10, List.forall_mem_cons.mpr ⟨hk_ch11, List.forall_mem_cons.mpr ⟨hk_ch12, List.forall_mem_cons.mpr ⟨hk_ch13, List.forall_mem_cons.mpr ⟨hk_ch14, List.forall_mem_cons.mpr ⟨hk_ch15, List.forall_mem_cons.mpr ⟨hk_ch16, List.forall_mem_cons.mpr ⟨hk_ch17, List.forall_mem_cons.mpr ⟨hk_ch18, List.forall_mem_cons.mpr ⟨hk_ch19, List.forall_mem_cons.mpr ⟨hk_ch20, List.forall_mem_cons.mpr ⟨hk_ch21, List.forall_mem_cons.mpr ⟨hk_ch22, List.forall_mem_cons.mpr ⟨hk_ch23, List.forall_mem_cons.mpr ⟨hk_ch24, List.forall_mem_cons.mpr ⟨hk_ch25, List.forall_mem_cons.mpr ⟨hk_ch26, List.forall_mem_cons.mpr ⟨hk_ch27, List.forall_mem_cons.mpr ⟨hk_ch28, List.forall_mem_cons.mpr ⟨hk_ch29, List.forall_mem_cons.mpr ⟨hk_ch30, List.forall_mem_cons.mpr ⟨hk_ch31, List.forall_mem_cons.mpr ⟨hk_ch32, List.forall_mem_cons.mpr ⟨hk_ch33, List.forall_mem_cons.mpr ⟨hk_ch34, List.forall_mem_cons.mpr ⟨hk_ch35, List.forall_mem_cons.mpr ⟨hk_ch36, List.forall_mem_cons.mpr ⟨hk_ch37, List.forall_mem_cons.mpr ⟨hk_ch38, List.forall_mem_cons.mpr ⟨hk_ch39, List.forall_mem_cons.mpr ⟨hk_ch40, List.forall_mem_cons.mpr ⟨hk_ch41, List.forall_mem_cons.mpr ⟨hk_ch42, List.forall_mem_cons.mpr ⟨hk_ch43, List.forall_mem_cons.mpr ⟨hk_ch44, List.forall_mem_cons.mpr ⟨hk_ch45, List.forall_mem_cons.mpr ⟨hk_ch46, List.forall_mem_cons.mpr ⟨hk_ch47, List.forall_mem_cons.mpr ⟨hk_ch48, List.forall_mem_cons.mpr ⟨hk_ch49, List.forall_mem_cons.mpr ⟨hk_ch50, List.forall_mem_cons.mpr ⟨hk_ch51, List.forall_mem_cons.mpr ⟨hk_ch52, List.forall_mem_cons.mpr ⟨hk_ch53, List.forall_mem_cons.mpr ⟨hk_ch54, List.forall_mem_cons.mpr ⟨hk_ch55, List.forall_mem_cons.mpr ⟨hk_ch56, List.forall_mem_cons.mpr ⟨hk_ch57, List.forall_mem_cons.mpr ⟨hk_ch58, List.forall_mem_cons.mpr ⟨hk_ch59, List.forall_mem_cons.mpr ⟨hk_ch60, List.forall_mem_cons.mpr ⟨hk_ch61, List.forall_mem_cons.mpr ⟨hk_ch62, List.forall_mem_cons.mpr ⟨hk_ch63, List.forall_mem_cons.mpr ⟨hk_ch64, List.forall_mem_cons.mpr ⟨hk_ch65, List.forall_mem_cons.mpr ⟨hk_ch66, List.forall_mem_cons.mpr ⟨hk_ch67, List.forall_mem_cons.mpr ⟨hk_ch68, List.forall_mem_cons.mpr ⟨hk_ch69, List.forall_mem_cons.mpr ⟨hk_ch70, List.forall_mem_cons.mpr ⟨hk_ch71, List.forall_mem_cons.mpr ⟨hk_ch72, List.forall_mem_cons.mpr ⟨hk_ch73, List.forall_mem_cons.mpr ⟨hk_ch74, List.forall_mem_cons.mpr ⟨hk_ch75, List.forall_mem_cons.mpr ⟨hk_ch76, List.forall_mem_cons.mpr ⟨hk_ch77, List.forall_mem_cons.mpr ⟨hk_ch78, List.forall_mem_cons.mpr ⟨hk_ch79, List.forall_mem_cons.mpr ⟨hk_ch80, List.forall_mem_cons.mpr ⟨hk_ch81, List.forall_mem_cons.mpr ⟨hk_ch82, List.forall_mem_cons.mpr ⟨hk_ch83, List.forall_mem_cons.mpr ⟨hk_ch84, List.forall_mem_cons.mpr ⟨hk_ch85, List.forall_mem_cons.mpr ⟨hk_ch86, List.forall_mem_cons.mpr ⟨hk_ch87, List.forall_mem_cons.mpr ⟨hk_ch88, List.forall_mem_cons.mpr ⟨hk_ch89, List.forall_mem_cons.mpr ⟨hk_ch90, List.forall_mem_cons.mpr ⟨hk_ch91, List.forall_mem_cons.mpr ⟨hk_ch92, List.forall_mem_cons.mpr ⟨hk_ch93, List.forall_mem_cons.mpr ⟨hk_ch94, List.forall_mem_cons.mpr ⟨hk_ch95, List.forall_mem_cons.mpr ⟨hk_ch96, List.forall_mem_cons.mpr ⟨hk_ch97, List.forall_mem_cons.mpr ⟨hk_ch98, List.forall_mem_cons.mpr ⟨hk_ch99, List.forall_mem_cons.mpr ⟨hk_ch100, List.forall_mem_cons.mpr ⟨hk_ch101, List.forall_mem_cons.mpr ⟨hk_ch102, List.forall_mem_cons.mpr ⟨hk_ch103, List.forall_mem_cons.mpr ⟨hk_ch104, List.forall_mem_cons.mpr ⟨hk_ch105, List.forall_mem_cons.mpr ⟨hk_ch106, List.forall_mem_cons.mpr ⟨hk_ch107, List.forall_mem_cons.mpr ⟨hk_ch108, List.forall_mem_cons.mpr ⟨hk_ch109, List.forall_mem_cons.mpr ⟨hk_ch110, List.forall_mem_cons.mpr ⟨hk_ch111, List.forall_mem_cons.mpr ⟨hk_ch112, List.forall_mem_cons.mpr ⟨hk_ch113, List.forall_mem_cons.mpr ⟨hk_ch114, List.forall_mem_cons.mpr ⟨hk_ch115, List.forall_mem_cons.mpr ⟨hk_ch116, List.forall_mem_cons.mpr ⟨hk_ch117, List.forall_mem_cons.mpr ⟨hk_ch118, List.forall_mem_cons.mpr ⟨hk_ch119, List.forall_mem_cons.mpr ⟨hk_ch120, List.forall_mem_cons.mpr ⟨hk_ch121, List.forall_mem_cons.mpr ⟨hk_ch122, List.forall_mem_cons.mpr ⟨hk_ch123, List.forall_mem_cons.mpr ⟨hk_ch124, List.forall_mem_cons.mpr ⟨hk_ch125, List.forall_mem_cons.mpr ⟨hk_ch126, List.forall_mem_cons.mpr ⟨hk_ch127, List.forall_mem_cons.mpr ⟨hk_ch128, List.forall_mem_cons.mpr ⟨hk_ch129, List.forall_mem_cons.mpr ⟨hk_ch130, List.forall_mem_cons.mpr ⟨hk_ch131, List.forall_mem_cons.mpr ⟨hk_ch132, List.forall_mem_cons.mpr ⟨hk_ch133, List.forall_mem_cons.mpr ⟨hk_ch134, List.forall_mem_cons.mpr ⟨hk_ch135, List.forall_mem_cons.mpr ⟨hk_ch136, List.forall_mem_cons.mpr ⟨hk_ch137, List.forall_mem_cons.mpr ⟨hk_ch138, List.forall_mem_cons.mpr ⟨hk_ch139, List.forall_mem_cons.mpr ⟨hk_ch140, List.forall_mem_cons.mpr ⟨hk_ch141, List.forall_mem_cons.mpr ⟨hk_ch142, List.forall_mem_cons.mpr ⟨hk_ch143, List.forall_mem_cons.mpr ⟨hk_ch144, List.forall_mem_cons.mpr ⟨hk_ch145, List.forall_mem_cons.mpr ⟨hk_ch146, List.forall_mem_cons.mpr ⟨hk_ch147, List.forall_mem_cons.mpr ⟨hk_ch148, List.forall_mem_cons.mpr ⟨hk_ch149, List.forall_mem_cons.mpr ⟨hk_ch150, List.forall_mem_cons.mpr ⟨hk_ch151, List.forall_mem_cons.mpr ⟨hk_ch152, List.forall_mem_cons.mpr ⟨hk_ch153, List.forall_mem_cons.mpr ⟨hk_ch154, List.forall_mem_cons.mpr ⟨hk_ch155, List.forall_mem_cons.mpr ⟨hk_ch156, List.forall_mem_cons.mpr ⟨hk_ch157, List.forall_mem_cons.mpr ⟨hk_ch158, List.forall_mem_cons.mpr ⟨hk_ch159, List.forall_mem_cons.mpr ⟨hk_ch160, List.forall_mem_cons.mpr ⟨hk_ch161, List.forall_mem_cons.mpr ⟨hk_ch162, List.forall_mem_cons.mpr ⟨hk_ch163, List.forall_mem_cons.mpr ⟨hk_ch164, List.forall_mem_cons.mpr ⟨hk_ch165, List.forall_mem_cons.mpr ⟨hk_ch166, List.forall_mem_cons.mpr ⟨hk_ch167, List.forall_mem_cons.mpr ⟨hk_ch168, List.forall_mem_cons.mpr ⟨hk_ch169, List.forall_mem_cons.mpr ⟨hk_ch170, List.forall_mem_cons.mpr ⟨hk_ch171, List.forall_mem_cons.mpr ⟨hk_ch172, List.forall_mem_cons.mpr ⟨hk_ch173, List.forall_mem_cons.mpr ⟨hk_ch174, List.forall_mem_cons.mpr ⟨hk_ch175, List.forall_mem_cons.mpr ⟨hk_ch176, List.forall_mem_cons.mpr ⟨hk_ch177, List.forall_mem_cons.mpr ⟨hk_ch178, List.forall_mem_cons.mpr ⟨hk_ch179, List.forall_mem_cons.mpr ⟨hk_ch180, List.forall_mem_cons.mpr ⟨hk_ch181, List.forall_mem_cons.mpr ⟨hk_ch182, List.forall_mem_cons.mpr ⟨hk_ch183, List.forall_mem_cons.mpr ⟨hk_ch184, List.forall_mem_cons.mpr ⟨hk_ch185, List.forall_mem_cons.mpr ⟨hk_ch186, List.forall_mem_cons.mpr ⟨hk_ch187, List.forall_mem_cons.mpr ⟨hk_ch188, List.forall_mem_cons.mpr ⟨hk_ch189, List.forall_mem_cons.mpr ⟨hk_ch190, List.forall_mem_cons.mpr ⟨hk_ch191, List.forall_mem_cons.mpr ⟨hk_ch192, List.forall_mem_cons.mpr ⟨hk_ch193, List.forall_mem_cons.mpr ⟨hk_ch194, List.forall_mem_cons.mpr ⟨hk_ch195, List.forall_mem_cons.mpr ⟨hk_ch196, List.forall_mem_cons.mpr ⟨hk_ch197, List.forall_mem_cons.mpr ⟨hk_ch198, List.forall_mem_cons.mpr ⟨hk_ch199, List.forall_mem_cons.mpr ⟨hk_ch200, List.forall_mem_cons.mpr ⟨hk_ch201, List.forall_mem_cons.mpr ⟨hk_ch202, List.forall_mem_cons.mpr ⟨hk_ch203, List.forall_mem_cons.mpr ⟨hk_ch204, List.forall_mem_cons.mpr ⟨hk_ch205, List.forall_mem_cons.mpr ⟨hk_ch206, List.forall_mem_cons.mpr ⟨hk_ch207, List.forall_mem_cons.mpr ⟨hk_ch208, List.forall_mem_cons.mpr ⟨hk_ch209, List.forall_mem_cons.mpr ⟨hk_ch210, List.forall_mem_cons.mpr ⟨hk_ch211, List.forall_mem_cons.mpr ⟨hk_ch212, List.forall_mem_cons.mpr ⟨hk_ch213, List.forall_mem_cons.mpr ⟨hk_ch214, List.forall_mem_cons.mpr ⟨hk_ch215, List.forall_mem_cons.mpr ⟨hk_ch216, List.forall_mem_cons.mpr ⟨hk_ch217, List.forall_mem_cons.mpr ⟨hk_ch218, List.forall_mem_cons.mpr ⟨hk_ch219, List.forall_mem_cons.mpr ⟨hk_ch220, List.forall_mem_cons.mpr ⟨hk_ch221, List.forall_mem_cons.mpr ⟨hk_ch222, List.forall_mem_cons.mpr ⟨hk_ch223, List.forall_mem_cons.mpr ⟨hk_ch224, List.forall_mem_cons.mpr ⟨hk_ch225, List.forall_mem_cons.mpr ⟨hk_ch226, List.forall_mem_cons.mpr ⟨hk_ch227, List.forall_mem_cons.mpr ⟨hk_ch228, List.forall_mem_cons.mpr ⟨hk_ch229, List.forall_mem_cons.mpr ⟨hk_ch230, List.forall_mem_cons.mpr ⟨hk_ch231, List.forall_mem_cons.mpr ⟨hk_ch232, List.forall_mem_cons.mpr ⟨hk_ch233, List.forall_mem_cons.mpr ⟨hk_ch234, List.forall_mem_cons.mpr ⟨hk_ch235, fun _ h => absurd h List.not_mem_nil⟩⟩⟩⟩⟩⟩⟩⟩⟩⟩⟩⟩⟩⟩⟩⟩⟩⟩⟩⟩⟩⟩⟩⟩⟩⟩⟩⟩⟩⟩⟩⟩⟩⟩⟩⟩⟩⟩⟩⟩⟩⟩⟩⟩⟩⟩⟩⟩⟩⟩⟩⟩⟩⟩⟩⟩⟩⟩⟩⟩⟩⟩⟩⟩⟩⟩⟩⟩⟩⟩⟩⟩⟩⟩⟩⟩⟩⟩⟩⟩⟩⟩⟩⟩⟩⟩⟩⟩⟩⟩⟩⟩⟩⟩⟩⟩⟩⟩⟩⟩⟩⟩⟩⟩⟩⟩⟩⟩⟩⟩⟩⟩⟩⟩⟩⟩⟩⟩⟩⟩⟩⟩⟩⟩⟩⟩⟩⟩⟩⟩⟩⟩⟩⟩⟩⟩⟩⟩⟩⟩⟩⟩⟩⟩⟩⟩⟩⟩⟩⟩⟩⟩⟩⟩⟩⟩⟩⟩⟩⟩⟩⟩⟩⟩⟩⟩⟩⟩⟩⟩⟩⟩⟩⟩⟩⟩⟩⟩⟩⟩⟩⟩⟩⟩⟩⟩⟩⟩⟩⟩⟩⟩⟩⟩⟩⟩⟩⟩⟩⟩⟩⟩⟩⟩⟩⟩⟩⟩⟩⟩⟩⟩⟩⟩⟩⟩⟩⟩⟩⟩⟩⟩⟩⟩⟩⟩⟩⟩⟩⟩⟩⟩⟩⟩⟩⟩
theorem hk_in239 : ∀ M, M < 236 → M ∈ hk_239 := by decide +kernel
theorem hk_pn0 : plainName "HatFields$Actor" = true := by decide
theorem hk_pn1 : plainName "HatFields$Hat" = true := by decide
theorem hk_pn2 : plainName "HatFields$Person" = true := by decide
theorem hk_pn3 : plainName "HatFields$Plain" = true := by decide
theorem hk_pn4 : plainName "HatFields$Row" = true := by decide
theorem hk_pn5 : plainName "HatFields$Shelf" = true := by decide
theorem hk_pn6 : plainName "HatFields$Tape" = true := by decide
theorem hk_pn7 : plainName "HatFields" = true := by decide
theorem hk_pn8 : plainName "HatFieldsModel" = true := by decide
theorem hk_pn9 : plainName "java/lang/String" = true := by decide
theorem hk_pn10 : plainName "HatFieldsLaw" = true := by decide
theorem hk_pn11 : plainName "java/lang/StringLatin1" = true := by decide
theorem hk_pn12 : plainName "jdk/internal/util/Preconditions" = true := by decide
theorem hk_pn14 : plainName "java/lang/Integer" = true := by decide
theorem hk_mt_o : ∀ M, M < 237 → hk_mo M < 15 ∧ hk_mo M ≠ 13 := by decide +kernel
theorem hk_pn : ∀ t, t < 15 ∧ t ≠ 13 → plainName (hk_cn t) = true
  | 0, _ => hk_pn0
  | 1, _ => hk_pn1
  | 2, _ => hk_pn2
  | 3, _ => hk_pn3
  | 4, _ => hk_pn4
  | 5, _ => hk_pn5
  | 6, _ => hk_pn6
  | 7, _ => hk_pn7
  | 8, _ => hk_pn8
  | 9, _ => hk_pn9
  | 10, _ => hk_pn10
  | 11, _ => hk_pn11
  | 12, _ => hk_pn12
  | 13, h => absurd rfl h.2
  | 14, _ => hk_pn14
  | n + 15, h => absurd h.1 (by omega)
theorem hk_mt_b : ∀ M, M < 237 → (hk_my M).cls = hk_cn (hk_mo M) := by decide +kernel
theorem hk_mt_c : ∀ M, M < 237 → (hk_nth hk_bds M).map (fun e => e.2.2.2.2) = some (hk_ml M) := by decide +kernel
theorem hk_mt_ok (M : Nat) (h : M < 237) : plainName (hk_my M).cls = true ∧ (hk_my M).cls = hk_cn (hk_mo M) ∧ (hk_nth hk_bds M).map (fun e => e.2.2.2.2) = some (hk_ml M) := ⟨by rw [hk_mt_b M h]; exact hk_pn _ (hk_mt_o M h), hk_mt_b M h, hk_mt_c M h⟩
theorem hk_bds_lt : ∀ {M : Nat} {q : hk_Cd × Option FieldType × Nat × Nat × Nat}, hk_nth hk_bds M = some q → M < 237 := by
  have key : ∀ {α : Type} (l : List α) (M : Nat) (q : α), hk_nth l M = some q → M < l.length := by
    intro α l
    induction l with
    | nil => intro M q h; cases h
    | cons a l ih =>
      intro M q h
      cases M with
      | zero => simp
      | succ M => have := ih M q h; simp; omega
  intro M q h
  exact key hk_bds M q h
theorem hk_at_in {cd : hk_Cd} {ip : Nat} {e : hk_In} (h : hk_at cd ip = some e) : ∃ l ∈ cd, e ∈ l := by
  unfold hk_at at h
  split at h
  · cases h
  · rename_i l hl
    exact ⟨l, hk_nth_in hl, hk_nth_in h⟩
theorem hk_chk_all {M : Nat} (hM : M < 237) (ip : Nat) (e : hk_In) (h : hk_at (hk_mc M) ip = some e) : hk_chk (hk_mc M) (hk_mo M) (decide ((hk_my M).name = "<init>")) (hk_ml M) (hk_mb M) e = true := by
  obtain ⟨l, h1, h2⟩ := hk_at_in h
  by_cases h9 : M < 236
  · have h3 := hk_chs M (hk_in239 M h9)
    unfold hk_chM at h3
    rw [Bool.and_eq_true] at h3
    exact List.all_eq_true.mp (List.all_eq_true.mp h3.1 l h1) e h2
  · have e9 : M = 236 := by omega
    subst e9
    exact List.all_eq_true.mp (hk_chLAW l h1) e h2
theorem hk_pc0 {M : Nat} (hM : M < 237) : hk_pc (hk_mc M) 0 = 0 := by
  by_cases h9 : M < 236
  · have h3 := hk_chs M (hk_in239 M h9)
    unfold hk_chM at h3
    rw [Bool.and_eq_true] at h3
    exact Nat.eq_of_beq_eq_true h3.2
  · have e9 : M = 236 := by omega
    subst e9
    rfl
section Snd7
variable {ex : Nat → Nat} {B : Nat} {vX : Value} {H0 : Heap} {dC : Nat → ClassId} {dI : Nat → Nat → Nat}
theorem hk_sl_len (hX : vX = .null ∨ ∃ a, vX = .ref a) : ∀ (vs : List Value), (lg_sl (vs.map (hk_cv ex B vX))).length = hk_cs vs
  | [] => rfl
  | v :: vs => by
    have ih := hk_sl_len hX vs
    unfold lg_sl at ih ⊢
    rw [List.map_cons, List.flatMap_cons, List.length_append, ih, hk_cv_cat hX]
    show _ = v.category + hk_cs vs
    rcases lv_cat v with h | h <;> rw [h] <;> rfl
theorem hk_args_eq (hX : vX = .null ∨ ∃ a, vX = .ref a) : ∀ (vs : List Value) (i : Nat), lv_args i (vs.map (hk_cv ex B vX)) = hk_cvl ex B vX (lv_args i vs)
  | [], _ => rfl
  | v :: vs, i => by
    unfold hk_cvl
    rw [List.map_cons, lv_args, lv_args, List.map_cons, hk_cv_cat hX, hk_args_eq hX vs]
    rfl
set_option maxHeartbeats 4000000 in
theorem hk_sound (l : Launch) : ∀ (d M : Nat) (as : List Value) (h : hk_Hp) (Q : hk_Q), hk_call d M as h Q → hk_Mt l ex B vX H0 dC dI d M as h Q
  | 0, _, _, _, _, g => absurd g id
  | d + 1, M, as, h, Q, g => by
    intro cd rt C S mx hM
    unfold hk_call at g
    rw [hM] at g
    obtain ⟨g1, g2⟩ := hk_bif_1 g
    rw [hk_ent_eq] at g2
    have h240 := hk_bds_lt hM
    obtain ⟨hp1, hp2, hp3⟩ := hk_mt_ok M h240
    rw [hM] at hp3
    have hp3 : mx = hk_ml M := Option.some.inj hp3
    have hmr : hk_mr M = rt := by unfold hk_mr; rw [hM]
    have hmc : hk_mc M = cd := by unfold hk_mc; rw [hM]
    refine Met.ofW (cc := hk_mb M) (maxL := hk_ml M) (ret := hk_mr M) hp1 rfl ?_
    intro p e s m args below meth c s₁ Bd hml hv
    obtain ⟨rfl, henv, hR⟩ := hv
    have hVX := henv.2.2.2.2.2.2
    have hlocks := Bd.notSynchronized
    have hown : s.vm.findClass (hk_cn (hk_mo M)) = some m.cls := by rw [← hp2]; exact findClass_of_methodNamed Bd.named
    have X : hk_Cx p l (hk_rm (d + 1) C S) s m meth c ex B vX H0 dC dI d cd (hk_call d) (hk_mo M) (decide ((hk_my M).name = "<init>")) (hk_ml M) C S (hk_mb M) := by
      refine ⟨Bd.exec, Bd.bytes, hml, hown, henv, fun z => ?_, fun ip e he => ?_, fun M as h Q => hk_sound l d M as h Q, ⟨Nat.le_refl _, Nat.le_refl _, Nat.le_refl _, Nat.le_refl _⟩⟩
      · rw [← of_decide_eq_true z]; exact (name_of_methodNamed Bd.named Bd.method).1
      · rw [← hmc] at he ⊢; exact hk_chk_all h240 ip e he
    have fin : ∀ (r : Option Value) (h1 : hk_Hp) (H : Heap), hk_qe Q r h1 → hk_Rel ex B vX H0 dC dI s H h1 → ∀ t : State, t.heap = H → s.WarmedH t.vm → ∃ r' h', (Outcome.returned (r.map (hk_cv ex B vX))) = .returned (r'.map (hk_cv ex B vX)) ∧ Q r' h' ∧ hk_Rel ex B vX H0 dC dI t t.heap h' := by
      intro r h1 H ⟨h2, hev, hQ⟩ hR1 t ht hW
      exact ⟨r, h2, rfl, hQ, by rw [ht]; exact hk_Rel_moved hW.alike (hk_Rel_ev hR1 hev)⟩
    have hw := g2 _ (hk_close (e := e) (args := (as.map (hk_cv ex B vX)).toArray) (below := below) (Qf := MQ below (fun _ _ o t => ∃ r h', o = .returned (r.map (hk_cv ex B vX)) ∧ Q r h' ∧ hk_Rel ex B vX H0 dC dI t t.heap h') (as.map (hk_cv ex B vX)).toArray s C S (fun q => B ≤ q)) X
      (fun ty v h1 H locs k n la pc hty hQ hnr hR1 hlo hk hn hd => W.widen hk hn (W.zret Bd.exec Bd.bytes (by rw [Bd.returns, hmr]; exact hty) hnr (fin _ h1 H hQ hR1) hlo hd))
      (fun h1 H locs k n la pc hty hQ hR1 hlo hk hn hd => W.widen hk hn (W.vret Bd.exec Bd.bytes (by rw [Bd.returns, hmr]; exact hty) (fin _ h1 H hQ hR1) hlo hd)))
    rw [lg_entry_eq]
    have hlen : (lg_sl (as.map (hk_cv ex B vX))).length ≤ hk_ml M := by rw [hk_sl_len hVX, ← hp3]; exact Nat.le_of_ble_eq_true g1
    have hl := lv_entry (as.map (hk_cv ex B vX)) hlen
    rw [hk_args_eq hVX] at hl
    have := hw s.heap [] _ hl hR (fun q hq => absurd hq List.not_mem_nil) (Nat.zero_le _) (Nat.zero_le _)
    rw [← hmc, hk_pc0 h240] at this
    exact this
end Snd7
