def xc_sh : List nb_S := [.inr (7, [some (some 1), none, some (some 2), some none, some none, some (some 36), some (some 61), some (some 64), some (some 69)]),
  .inl (1, 400),
  .inr (5, [some (some 3), none]),
  .inl (0, 4),
  .inr (4, [none, some (some 5), some (some 6), some (some 7), some (some 8), some (some 9), none, none, none, none, some (some 13), some (some 14), some (some 15), some (some 16), none, some (some 17), some (some 18), some (some 19)]),
  .inl (0, 8),
  .inl (0, 8),
  .inl (0, 8),
  .inl (0, 8),
  .inr (6, [none, some (some 10), some (some 11), none, some (some 12)]),
  .inl (0, 6),
  .inl (0, 6),
  .inl (0, 4),
  .inl (0, 3),
  .inl (0, 3),
  .inl (0, 4),
  .inl (0, 4),
  .inl (0, 6),
  .inl (0, 6),
  .inl (0, 6),
  .inr (4, [none, some (some 21), some (some 22), some (some 23), some (some 24), some (some 25), none, none, none, none, some (some 29), some (some 30), some (some 31), some (some 32), none, some (some 33), some (some 34), some (some 35)]),
  .inl (0, 8),
  .inl (0, 8),
  .inl (0, 8),
  .inl (0, 8),
  .inr (6, [none, some (some 26), some (some 27), none, some (some 28)]),
  .inl (0, 6),
  .inl (0, 6),
  .inl (0, 4),
  .inl (0, 3),
  .inl (0, 3),
  .inl (0, 4),
  .inl (0, 4),
  .inl (0, 6),
  .inl (0, 6),
  .inl (0, 6),
  .inr (0, [some none, some (some 53), some (some 54), none, some (some 55), some (some 56), some (some 57), none, none, none, none, some (some 58), some (some 59), some (some 60)]),
  .inr (4, [none, some (some 38), some (some 39), some (some 40), some (some 41), some (some 42), none, none, none, none, some (some 46), some (some 47), some (some 48), some (some 49), none, some (some 50), some (some 51), some (some 52)]),
  .inl (0, 8),
  .inl (0, 8),
  .inl (0, 8),
  .inl (0, 8),
  .inr (6, [none, some (some 43), some (some 44), none, some (some 45)]),
  .inl (0, 6),
  .inl (0, 6),
  .inl (0, 4),
  .inl (0, 3),
  .inl (0, 3),
  .inl (0, 4),
  .inl (0, 4),
  .inl (0, 6),
  .inl (0, 6),
  .inl (0, 6),
  .inl (0, 8),
  .inl (0, 8),
  .inl (0, 9),
  .inl (0, 9),
  .inl (0, 9),
  .inl (0, 4),
  .inl (0, 4),
  .inl (0, 4),
  .inr (2, [none, none, some (some 62), some (some 63)]),
  .inl (0, 3),
  .inl (0, 3),
  .inr (1, [none, none, some (some 65), some (some 66), some (some 67), some (some 68), none, none, none]),
  .inl (0, 4),
  .inl (0, 4),
  .inl (0, 4),
  .inl (0, 4),
  .inr (3, [some (some 70), none, some (some 71), some (some 75), none]),
  .inl (2, 8),
  .inr (6, [none, some (some 72), some (some 73), none, some (some 74)]),
  .inl (0, 6),
  .inl (0, 6),
  .inl (0, 4),
  .inr (6, [none, some (some 76), some (some 77), none, some (some 78)]),
  .inl (0, 6),
  .inl (0, 6),
  .inl (0, 4)]
def xm_sh : List nb_S := [.inr (8, [none, some (some 1), some (some 2), some (some 3), some (some 4), some (some 5), some (some 6), some (some 7), some (some 8), some (some 9), some (some 10), some (some 11), some (some 12), some (some 13), some (some 14), some (some 15), some (some 16), some (some 17), some (some 18), some (some 19), some (some 20), some (some 21), some (some 22), some (some 23), none, none, some (some 24), none, some (some 25), none, none, none, none, some (some 26), some (some 27), some (some 28), none, some (some 29), some (some 30), some (some 31)]),
  .inl (0, 400),
  .inl (0, 2),
  .inl (0, 16),
  .inl (0, 16),
  .inl (0, 16),
  .inl (0, 16),
  .inl (0, 2),
  .inl (0, 6),
  .inl (0, 6),
  .inl (0, 2),
  .inl (0, 2),
  .inl (0, 2),
  .inl (0, 6),
  .inl (0, 6),
  .inl (0, 2),
  .inl (0, 12),
  .inl (0, 12),
  .inl (0, 12),
  .inl (0, 4),
  .inl (0, 24),
  .inl (0, 24),
  .inl (0, 4),
  .inl (0, 16),
  .inl (0, 8),
  .inl (0, 4),
  .inl (0, 3),
  .inl (0, 4),
  .inl (0, 8),
  .inl (0, 4),
  .inl (0, 4),
  .inl (0, 4)]
def xc_pty (p : Nat) : Bool := p == 4 || p == 20 || p == 37
theorem x_pty_c {p : Nat} (h : xc_pty p = true) : p = 4 ∨ p = 20 ∨ p = 37 := by simpa [xc_pty, or_assoc] using h
theorem x_pty_lt {p : Nat} (h : xc_pty p = true) : p < 2 ^ 31 := by rcases x_pty_c h with rfl | rfl | rfl <;> decide
theorem sx_pty_0 {p : Nat} (h : xc_pty p = true) : xc_sh[p]? = some (.inr (4, [none, some (some (p + 1)), some (some (p + 2)), some (some (p + 3)), some (some (p + 4)), some (some (p + 5)), none, none, none, none, some (some (p + 9)), some (some (p + 10)), some (some (p + 11)), some (some (p + 12)), none, some (some (p + 13)), some (some (p + 14)), some (some (p + 15))])) := by rcases x_pty_c h with rfl | rfl | rfl <;> rfl
theorem sx_pty_1 {p : Nat} (h : xc_pty p = true) : xc_sh[p + 1]? = some (.inl (0, 8)) := by rcases x_pty_c h with rfl | rfl | rfl <;> rfl
theorem sx_pty_2 {p : Nat} (h : xc_pty p = true) : xc_sh[p + 2]? = some (.inl (0, 8)) := by rcases x_pty_c h with rfl | rfl | rfl <;> rfl
theorem sx_pty_3 {p : Nat} (h : xc_pty p = true) : xc_sh[p + 3]? = some (.inl (0, 8)) := by rcases x_pty_c h with rfl | rfl | rfl <;> rfl
theorem sx_pty_4 {p : Nat} (h : xc_pty p = true) : xc_sh[p + 4]? = some (.inl (0, 8)) := by rcases x_pty_c h with rfl | rfl | rfl <;> rfl
theorem sx_pty_5 {p : Nat} (h : xc_pty p = true) : xc_sh[p + 5]? = some (.inr (6, [none, some (some (p + 6)), some (some (p + 7)), none, some (some (p + 8))])) := by rcases x_pty_c h with rfl | rfl | rfl <;> rfl
theorem sx_pty_6 {p : Nat} (h : xc_pty p = true) : xc_sh[p + 6]? = some (.inl (0, 6)) := by rcases x_pty_c h with rfl | rfl | rfl <;> rfl
theorem sx_pty_7 {p : Nat} (h : xc_pty p = true) : xc_sh[p + 7]? = some (.inl (0, 6)) := by rcases x_pty_c h with rfl | rfl | rfl <;> rfl
theorem sx_pty_8 {p : Nat} (h : xc_pty p = true) : xc_sh[p + 8]? = some (.inl (0, 4)) := by rcases x_pty_c h with rfl | rfl | rfl <;> rfl
theorem sx_pty_9 {p : Nat} (h : xc_pty p = true) : xc_sh[p + 9]? = some (.inl (0, 3)) := by rcases x_pty_c h with rfl | rfl | rfl <;> rfl
theorem sx_pty_10 {p : Nat} (h : xc_pty p = true) : xc_sh[p + 10]? = some (.inl (0, 3)) := by rcases x_pty_c h with rfl | rfl | rfl <;> rfl
theorem sx_pty_11 {p : Nat} (h : xc_pty p = true) : xc_sh[p + 11]? = some (.inl (0, 4)) := by rcases x_pty_c h with rfl | rfl | rfl <;> rfl
theorem sx_pty_12 {p : Nat} (h : xc_pty p = true) : xc_sh[p + 12]? = some (.inl (0, 4)) := by rcases x_pty_c h with rfl | rfl | rfl <;> rfl
theorem sx_pty_13 {p : Nat} (h : xc_pty p = true) : xc_sh[p + 13]? = some (.inl (0, 6)) := by rcases x_pty_c h with rfl | rfl | rfl <;> rfl
theorem sx_pty_14 {p : Nat} (h : xc_pty p = true) : xc_sh[p + 14]? = some (.inl (0, 6)) := by rcases x_pty_c h with rfl | rfl | rfl <;> rfl
theorem sx_pty_15 {p : Nat} (h : xc_pty p = true) : xc_sh[p + 15]? = some (.inl (0, 6)) := by rcases x_pty_c h with rfl | rfl | rfl <;> rfl
def xc_tld (p : Nat) : Bool := p == 9 || p == 25 || p == 42 || p == 71 || p == 75
theorem x_tld_c {p : Nat} (h : xc_tld p = true) : p = 9 ∨ p = 25 ∨ p = 42 ∨ p = 71 ∨ p = 75 := by simpa [xc_tld, or_assoc] using h
theorem x_tld_lt {p : Nat} (h : xc_tld p = true) : p < 2 ^ 31 := by rcases x_tld_c h with rfl | rfl | rfl | rfl | rfl <;> decide
theorem sx_tld_0 {p : Nat} (h : xc_tld p = true) : xc_sh[p]? = some (.inr (6, [none, some (some (p + 1)), some (some (p + 2)), none, some (some (p + 3))])) := by rcases x_tld_c h with rfl | rfl | rfl | rfl | rfl <;> rfl
theorem sx_tld_1 {p : Nat} (h : xc_tld p = true) : xc_sh[p + 1]? = some (.inl (0, 6)) := by rcases x_tld_c h with rfl | rfl | rfl | rfl | rfl <;> rfl
theorem sx_tld_2 {p : Nat} (h : xc_tld p = true) : xc_sh[p + 2]? = some (.inl (0, 6)) := by rcases x_tld_c h with rfl | rfl | rfl | rfl | rfl <;> rfl
theorem sx_tld_3 {p : Nat} (h : xc_tld p = true) : xc_sh[p + 3]? = some (.inl (0, 4)) := by rcases x_tld_c h with rfl | rfl | rfl | rfl | rfl <;> rfl
theorem x_tld_of {p : Nat} (h : xc_pty p = true) : xc_tld (p + 5) = true := by rcases x_pty_c h with rfl | rfl | rfl <;> rfl
def xc_nf : List (String × Nat × String × String × String × String) := [("NobodyFirst$Evening", 73, "NobodyFirst$Told", "signs", "I", "NobodyFirst"),
  ("NobodyFirst$History", 32, "NobodyFirst$Told", "signs", "I", "NobodyFirst"),
  ("NobodyFirst", 227, "NobodyFirst$Told", "signs", "I", "NobodyFirst"),
  ("NobodyFirst$Evening", 76, "NobodyFirst$Told", "signMinute", "[I", "NobodyFirst"),
  ("NobodyFirst$Evening", 77, "NobodyFirst$Told", "signWorth", "[I", "NobodyFirst"),
  ("NobodyFirst$History", 41, "NobodyFirst$Told", "words", "I", "NobodyFirst"),
  ("NobodyFirst$Evening", 127, "NobodyFirst$Told", "words", "I", "NobodyFirst"),
  ("NobodyFirst", 233, "NobodyFirst$Told", "words", "I", "NobodyFirst"),
  ("NobodyFirst$Evening", 130, "NobodyFirst$Told", "wordMinute", "[I", "NobodyFirst"),
  ("NobodyFirst$Evening", 59, "NobodyFirst$Party", "guests", "I", "NobodyFirst"),
  ("NobodyFirst$Game", 41, "NobodyFirst$Party", "guests", "I", "NobodyFirst"),
  ("NobodyFirst", 78, "NobodyFirst$Party", "guests", "I", "NobodyFirst"),
  ("NobodyFirst$Evening", 62, "NobodyFirst$Party", "pair", "[I", "NobodyFirst"),
  ("NobodyFirst$Game", 46, "NobodyFirst$Party", "pair", "[I", "NobodyFirst"),
  ("NobodyFirst", 92, "NobodyFirst$Party", "pair", "[I", "NobodyFirst"),
  ("NobodyFirst$Evening", 66, "NobodyFirst$Party", "wouldGo", "[I", "NobodyFirst"),
  ("NobodyFirst$Game", 49, "NobodyFirst$Party", "wouldGo", "[I", "NobodyFirst"),
  ("NobodyFirst", 96, "NobodyFirst$Party", "wouldGo", "[I", "NobodyFirst"),
  ("NobodyFirst$Game", 56, "NobodyFirst$Party", "ownShame", "[I", "NobodyFirst"),
  ("NobodyFirst", 99, "NobodyFirst$Party", "ownShame", "[I", "NobodyFirst"),
  ("NobodyFirst$Evening", 139, "NobodyFirst$Party", "ownShame", "[I", "NobodyFirst"),
  ("NobodyFirst$Evening", 65, "NobodyFirst$Party", "kind", "[I", "NobodyFirst"),
  ("NobodyFirst", 102, "NobodyFirst$Party", "kind", "[I", "NobodyFirst"),
  ("NobodyFirst$Evening", 69, "NobodyFirst$Party", "told", "LNobodyFirst$Told;", "NobodyFirst"),
  ("NobodyFirst$Reader", 57, "NobodyFirst$Party", "told", "LNobodyFirst$Told;", "NobodyFirst"),
  ("NobodyFirst", 213, "NobodyFirst$Party", "told", "LNobodyFirst$Told;", "NobodyFirst"),
  ("NobodyFirst$Evening", 142, "NobodyFirst$Party", "drawsBy", "I", "NobodyFirst"),
  ("NobodyFirst$Evening", 145, "NobodyFirst$Party", "hall", "I", "NobodyFirst"),
  ("NobodyFirst$Evening", 158, "NobodyFirst$Party", "end", "I", "NobodyFirst"),
  ("NobodyFirst$Giving", 26, "NobodyFirst$Party", "offers", "I", "NobodyFirst"),
  ("NobodyFirst", 143, "NobodyFirst$Party", "offers", "I", "NobodyFirst"),
  ("NobodyFirst$Giving", 62, "NobodyFirst$Party", "offerWorth", "[I", "NobodyFirst"),
  ("NobodyFirst$Giving", 68, "NobodyFirst$Party", "offerCost", "[I", "NobodyFirst"),
  ("NobodyFirst", 180, "NobodyFirst$Party", "ifMeant", "[I", "NobodyFirst"),
  ("NobodyFirst", 183, "NobodyFirst$Party", "ifNot", "[I", "NobodyFirst"),
  ("NobodyFirst", 253, "NobodyFirst$Party", "looks", "I", "NobodyFirst"),
  ("NobodyFirst", 84, "NobodyFirst$Giving", "known", "Z", "NobodyFirst"),
  ("NobodyFirst", 150, "NobodyFirst$Giving", "least", "I", "NobodyFirst"),
  ("NobodyFirst", 156, "NobodyFirst$Game", "pairs", "I", "NobodyFirst"),
  ("NobodyFirst", 171, "NobodyFirst$Game", "firstRest", "[I", "NobodyFirst"),
  ("NobodyFirst", 168, "NobodyFirst$Game", "restsFound", "I", "NobodyFirst"),
  ("NobodyFirst", 174, "NobodyFirst$Game", "leastOfRests", "I", "NobodyFirst"),
  ("NobodyFirst", 177, "NobodyFirst$Game", "leastOfAll", "I", "NobodyFirst"),
  ("NobodyFirst", 236, "NobodyFirst$History", "steps", "I", "NobodyFirst"),
  ("NobodyFirst", 247, "NobodyFirst$History", "kept", "I", "NobodyFirst")]
def xc_nm : List (String × Nat × MethodName × String) := [("NobodyFirst", 19, yX5_init, "NobodyFirst"),
  ("NobodyFirst", 26, yX4_init, "NobodyFirst"),
  ("NobodyFirst$Party", 30, yX6_init, "NobodyFirst"),
  ("NobodyFirst", 36, yX0_init, "NobodyFirst"),
  ("NobodyFirst$Evening", 11, yX4_init, "NobodyFirst"),
  ("NobodyFirst", 43, yX2_init, "NobodyFirst"),
  ("NobodyFirst", 50, yX1_init, "NobodyFirst"),
  ("NobodyFirst", 57, yX3_init, "NobodyFirst"),
  ("NobodyFirst$History", 21, yX6_init, "NobodyFirst"),
  ("NobodyFirst$Party", 80, yX7_within, "NobodyFirst")]
def nb_tab0 (k : Nat) : Int32 := ([4, 2, 1, 2, 1, 2, 3, 3] : List Int32).getD k 0
def nb_tab1 (k : Nat) : Int32 := ([0, 0, 0, 0, 0, 1, 0, 0, 0, 0, 0, 0, 0, 0, 0, 0, 0, 0, 0, 0, 1, 0, 0, 0, 1, 0, 0, 0, 0, 0, 0, 0] : List Int32).getD k 0
def nb_tab2 (k : Nat) : Int32 := ([3, 359, 199, 5, 359, 99, 0, 0, 359, 0, 0, 0, 99, 60, 0, 0, 359, 0, 0, 0, 99, 999, 0, 0, 3, 99, 99, 0, 7, 359, 1, 0] : List Int32).getD k 0
def nb_tab3 (k : Nat) : Int32 := ([103, 115, 119, 108, 98, 99, 117, 121] : List Int32).getD k 0
def xc_Z (A : Nat → Prop) (tb : Nat → Nat) (U : State) (H : Heap) : Prop :=
  (∀ q ∈ xc_nf, va_Nw (.fieldLinkNest q.1 q.2.1 q.2.2.1 q.2.2.2.1 q.2.2.2.2.1 q.2.2.2.2.2) U) ∧ (∀ q ∈ xc_nm, va_Nw (.methodLinkNest q.1 q.2.1 q.2.2.1 q.2.2.2) U) ∧
  (va_Z "NobodyFirst$Reader" "HOW_MANY" "[I" (.ref (tb 0)) A U H ∧ va_T .int (tb 0) 8 (fun k => .int (nb_tab0 k)) A U H) ∧
  (va_Z "NobodyFirst$Reader" "LEAST" "[I" (.ref (tb 1)) A U H ∧ va_T .int (tb 1) 32 (fun k => .int (nb_tab1 k)) A U H) ∧
  (va_Z "NobodyFirst$Reader" "MOST" "[I" (.ref (tb 2)) A U H ∧ va_T .int (tb 2) 32 (fun k => .int (nb_tab2 k)) A U H) ∧
  (vk_R "NobodyFirst$Reader" 24 "gswlbcuy" (tb 3) U ∧ va_O "java/lang/String" (tb 3) A U H ∧ va_OF "java/lang/String" "coder" "B" (.int 0) (tb 3) A U H ∧ va_OF "java/lang/String" "value" "[B" (.ref (tb 4)) (tb 3) A U H ∧ va_T .byte (tb 4) 8 (fun k => .int (nb_tab3 k)) A U H ∧ va_Z "java/lang/String" "COMPACT_STRINGS" "Z" (.int 1) A U H)
theorem xc_Zok {A : Nat → Prop} {tb : Nat → Nat} : nb_Zok A (xc_Z A tb) := by
  refine ⟨fun s U H hw h => ?_, fun u U H hv h => ?_, fun U H H1 hq h => ?_⟩
  · obtain ⟨h1, h2, h3, h4, h5, h6, h7, h8, h9, h10, h11⟩ := h
    exact ⟨fun q hq => va_Nw.warmF hw (h1 q hq), fun q hq => va_Nw.warmM hw (h2 q hq), ⟨h3.1.moved hw.alike, h3.2.moved hw.alike⟩, ⟨h4.1.moved hw.alike, h4.2.moved hw.alike⟩, ⟨h5.1.moved hw.alike, h5.2.moved hw.alike⟩, vk_R.warm hw h6, h7.moved hw.alike, h8.moved hw.alike, h9.moved hw.alike, h10.moved hw.alike, h11.moved hw.alike⟩
  · obtain ⟨h1, h2, h3, h4, h5, h6, h7, h8, h9, h10, h11⟩ := h
    have ha : u.vm.Alike U.vm := hv ▸ Vm.Alike.refl u.vm
    exact ⟨fun q hq => va_Nw.same rfl hv (h1 q hq), fun q hq => va_Nw.same rfl hv (h2 q hq), ⟨h3.1.moved ha, h3.2.moved ha⟩, ⟨h4.1.moved ha, h4.2.moved ha⟩, ⟨h5.1.moved ha, h5.2.moved ha⟩, vk_R.same hv.symm h6, h7.moved ha, h8.moved ha, h9.moved ha, h10.moved ha, h11.moved ha⟩
  · obtain ⟨h1, h2, h3, h4, h5, h6, h7, h8, h9, h10, h11⟩ := h
    exact ⟨h1, h2, ⟨h3.1.kept hq, h3.2.kept hq⟩, ⟨h4.1.kept hq, h4.2.kept hq⟩, ⟨h5.1.kept hq, h5.2.kept hq⟩, h6, h7.kept hq, h8.kept hq, h9.kept hq, h10.kept hq, h11.kept hq⟩
theorem nb_Tok {A : Nat → Prop} : nb_Zok A (fun _ _ => True) := ⟨fun _ _ _ _ _ => trivial, fun _ _ _ _ _ => trivial, fun _ _ _ _ _ => trivial⟩
def nb_min (x y : Int32) : Int32 := if y < x then y else x
def nb_abs (x : Int32) : Int32 := if 0 ≤ x then x else 0 - x
def nb_01 (v : Int32) : Bool := v == 0 || v == 1
theorem nb_01_n {v : Int32} (h : nb_01 v = true) : narrow .boolean (.int v) = .int v := by
  have : v = 0 ∨ v = 1 := by simpa [nb_01] using h
  rcases this with rfl | rfl <;> rfl
theorem nb_fv_d {ad : Nat → Nat} {σ : nb_St} {k j P : Nat} (h : P < 2 ^ 31) : nb_fv ad (nb_st σ k j (nI P)) k j (some none) = .ref (ad P) := by
  show Value.ref (ad (nb_st σ k j (nI P) k j).toNatClampNeg) = _
  rw [nb_st_s, nI_clamp h]
theorem nb_out0_3 {y : Int32} (h0 : ¬ y = 0) (h1 : ¬ y = 1) (h2 : ¬ y = 2) (h3 : ¬ y = 3) : y.toInt < 0 ∨ 3 < y.toInt := by
  have f : ∀ k : Int32, ¬ y = k → ¬ y.toInt = k.toInt := fun k h e => h (Int32.toInt_inj.mp e)
  have g0 : ¬ y.toInt = 0 := f 0 h0
  have g1 : ¬ y.toInt = 1 := f 1 h1
  have g2 : ¬ y.toInt = 2 := f 2 h2
  have g3 : ¬ y.toInt = 3 := f 3 h3
  omega
theorem nb_out0_7 {y : Int32} (h0 : ¬ y = 0) (h1 : ¬ y = 1) (h2 : ¬ y = 2) (h3 : ¬ y = 3) (h4 : ¬ y = 4) (h5 : ¬ y = 5) (h6 : ¬ y = 6) (h7 : ¬ y = 7) : y.toInt < 0 ∨ 7 < y.toInt := by
  have f : ∀ k : Int32, ¬ y = k → ¬ y.toInt = k.toInt := fun k h e => h (Int32.toInt_inj.mp e)
  have g0 : ¬ y.toInt = 0 := f 0 h0
  have g1 : ¬ y.toInt = 1 := f 1 h1
  have g2 : ¬ y.toInt = 2 := f 2 h2
  have g3 : ¬ y.toInt = 3 := f 3 h3
  have g4 : ¬ y.toInt = 4 := f 4 h4
  have g5 : ¬ y.toInt = 5 := f 5 h5
  have g6 : ¬ y.toInt = 6 := f 6 h6
  have g7 : ¬ y.toInt = 7 := f 7 h7
  omega
theorem nb_out0_8 {y : Int32} (h0 : ¬ y = 0) (h1 : ¬ y = 1) (h2 : ¬ y = 2) (h3 : ¬ y = 3) (h4 : ¬ y = 4) (h5 : ¬ y = 5) (h6 : ¬ y = 6) (h7 : ¬ y = 7) (h8 : ¬ y = 8) : y.toInt < 0 ∨ 8 < y.toInt := by
  have f : ∀ k : Int32, ¬ y = k → ¬ y.toInt = k.toInt := fun k h e => h (Int32.toInt_inj.mp e)
  have g0 : ¬ y.toInt = 0 := f 0 h0
  have g1 : ¬ y.toInt = 1 := f 1 h1
  have g2 : ¬ y.toInt = 2 := f 2 h2
  have g3 : ¬ y.toInt = 3 := f 3 h3
  have g4 : ¬ y.toInt = 4 := f 4 h4
  have g5 : ¬ y.toInt = 5 := f 5 h5
  have g6 : ¬ y.toInt = 6 := f 6 h6
  have g7 : ¬ y.toInt = 7 := f 7 h7
  have g8 : ¬ y.toInt = 8 := f 8 h8
  omega
theorem nb_out0_27 {y : Int32} (h0 : ¬ y = 0) (h1 : ¬ y = 1) (h2 : ¬ y = 2) (h3 : ¬ y = 3) (h4 : ¬ y = 4) (h5 : ¬ y = 5) (h6 : ¬ y = 6) (h7 : ¬ y = 7) (h8 : ¬ y = 8) (h9 : ¬ y = 9) (h10 : ¬ y = 10) (h11 : ¬ y = 11) (h12 : ¬ y = 12) (h13 : ¬ y = 13) (h14 : ¬ y = 14) (h15 : ¬ y = 15) (h16 : ¬ y = 16) (h17 : ¬ y = 17) (h18 : ¬ y = 18) (h19 : ¬ y = 19) (h20 : ¬ y = 20) (h21 : ¬ y = 21) (h22 : ¬ y = 22) (h23 : ¬ y = 23) (h24 : ¬ y = 24) (h25 : ¬ y = 25) (h26 : ¬ y = 26) (h27 : ¬ y = 27) : y.toInt < 0 ∨ 27 < y.toInt := by
  have f : ∀ k : Int32, ¬ y = k → ¬ y.toInt = k.toInt := fun k h e => h (Int32.toInt_inj.mp e)
  have g0 : ¬ y.toInt = 0 := f 0 h0
  have g1 : ¬ y.toInt = 1 := f 1 h1
  have g2 : ¬ y.toInt = 2 := f 2 h2
  have g3 : ¬ y.toInt = 3 := f 3 h3
  have g4 : ¬ y.toInt = 4 := f 4 h4
  have g5 : ¬ y.toInt = 5 := f 5 h5
  have g6 : ¬ y.toInt = 6 := f 6 h6
  have g7 : ¬ y.toInt = 7 := f 7 h7
  have g8 : ¬ y.toInt = 8 := f 8 h8
  have g9 : ¬ y.toInt = 9 := f 9 h9
  have g10 : ¬ y.toInt = 10 := f 10 h10
  have g11 : ¬ y.toInt = 11 := f 11 h11
  have g12 : ¬ y.toInt = 12 := f 12 h12
  have g13 : ¬ y.toInt = 13 := f 13 h13
  have g14 : ¬ y.toInt = 14 := f 14 h14
  have g15 : ¬ y.toInt = 15 := f 15 h15
  have g16 : ¬ y.toInt = 16 := f 16 h16
  have g17 : ¬ y.toInt = 17 := f 17 h17
  have g18 : ¬ y.toInt = 18 := f 18 h18
  have g19 : ¬ y.toInt = 19 := f 19 h19
  have g20 : ¬ y.toInt = 20 := f 20 h20
  have g21 : ¬ y.toInt = 21 := f 21 h21
  have g22 : ¬ y.toInt = 22 := f 22 h22
  have g23 : ¬ y.toInt = 23 := f 23 h23
  have g24 : ¬ y.toInt = 24 := f 24 h24
  have g25 : ¬ y.toInt = 25 := f 25 h25
  have g26 : ¬ y.toInt = 26 := f 26 h26
  have g27 : ¬ y.toInt = 27 := f 27 h27
  omega
theorem nb_out98_121 {y : Int32} (h98 : ¬ y = 98) (h99 : ¬ y = 99) (h100 : ¬ y = 100) (h101 : ¬ y = 101) (h102 : ¬ y = 102) (h103 : ¬ y = 103) (h104 : ¬ y = 104) (h105 : ¬ y = 105) (h106 : ¬ y = 106) (h107 : ¬ y = 107) (h108 : ¬ y = 108) (h109 : ¬ y = 109) (h110 : ¬ y = 110) (h111 : ¬ y = 111) (h112 : ¬ y = 112) (h113 : ¬ y = 113) (h114 : ¬ y = 114) (h115 : ¬ y = 115) (h116 : ¬ y = 116) (h117 : ¬ y = 117) (h118 : ¬ y = 118) (h119 : ¬ y = 119) (h120 : ¬ y = 120) (h121 : ¬ y = 121) : y.toInt < 98 ∨ 121 < y.toInt := by
  have f : ∀ k : Int32, ¬ y = k → ¬ y.toInt = k.toInt := fun k h e => h (Int32.toInt_inj.mp e)
  have g98 : ¬ y.toInt = 98 := f 98 h98
  have g99 : ¬ y.toInt = 99 := f 99 h99
  have g100 : ¬ y.toInt = 100 := f 100 h100
  have g101 : ¬ y.toInt = 101 := f 101 h101
  have g102 : ¬ y.toInt = 102 := f 102 h102
  have g103 : ¬ y.toInt = 103 := f 103 h103
  have g104 : ¬ y.toInt = 104 := f 104 h104
  have g105 : ¬ y.toInt = 105 := f 105 h105
  have g106 : ¬ y.toInt = 106 := f 106 h106
  have g107 : ¬ y.toInt = 107 := f 107 h107
  have g108 : ¬ y.toInt = 108 := f 108 h108
  have g109 : ¬ y.toInt = 109 := f 109 h109
  have g110 : ¬ y.toInt = 110 := f 110 h110
  have g111 : ¬ y.toInt = 111 := f 111 h111
  have g112 : ¬ y.toInt = 112 := f 112 h112
  have g113 : ¬ y.toInt = 113 := f 113 h113
  have g114 : ¬ y.toInt = 114 := f 114 h114
  have g115 : ¬ y.toInt = 115 := f 115 h115
  have g116 : ¬ y.toInt = 116 := f 116 h116
  have g117 : ¬ y.toInt = 117 := f 117 h117
  have g118 : ¬ y.toInt = 118 := f 118 h118
  have g119 : ¬ y.toInt = 119 := f 119 h119
  have g120 : ¬ y.toInt = 120 := f 120 h120
  have g121 : ¬ y.toInt = 121 := f 121 h121
  omega
