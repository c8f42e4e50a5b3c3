theorem pL0 : (0 : Int32) = nI 0 := rfl
theorem pL1 : (1 : Int32) = nI 1 := rfl
theorem pL2 : (2 : Int32) = nI 2 := rfl
theorem pL3 : (3 : Int32) = nI 3 := rfl
theorem pL4 : (4 : Int32) = nI 4 := rfl
theorem pL5 : (5 : Int32) = nI 5 := rfl
theorem pL6 : (6 : Int32) = nI 6 := rfl
theorem pL7 : (7 : Int32) = nI 7 := rfl
theorem pL8 : (8 : Int32) = nI 8 := rfl
theorem pL9 : (9 : Int32) = nI 9 := rfl
theorem pL10 : (10 : Int32) = nI 10 := rfl
theorem pL11 : (11 : Int32) = nI 11 := rfl
theorem pL12 : (12 : Int32) = nI 12 := rfl
theorem pL13 : (13 : Int32) = nI 13 := rfl
theorem pL15 : (15 : Int32) = nI 15 := rfl
theorem pL20 : (20 : Int32) = nI 20 := rfl
theorem pL30 : (30 : Int32) = nI 30 := rfl
theorem pL99 : (99 : Int32) = nI 99 := rfl
theorem pL100 : (100 : Int32) = nI 100 := rfl
theorem pL180 : (180 : Int32) = nI 180 := rfl
theorem pL240 : (240 : Int32) = nI 240 := rfl
theorem pL255 : (255 : Int32) = nI 255 := rfl
theorem pL350 : (350 : Int32) = nI 350 := rfl
theorem pL359 : (359 : Int32) = nI 359 := rfl
theorem pL719 : (719 : Int32) = nI 719 := rfl
theorem pL720 : (720 : Int32) = nI 720 := rfl
theorem pL999 : (999 : Int32) = nI 999 := rfl
theorem pL9999 : (9999 : Int32) = nI 9999 := rfl
theorem pL99999 : (99999 : Int32) = nI 99999 := rfl
theorem pL100000 : (100000 : Int32) = nI 100000 := rfl
theorem pL1000000 : (1000000 : Int32) = nI 1000000 := rfl
theorem nb_e1 {A0 R : Type} {f : (A0 → Option R) → A0 → Option R} {P : R → Prop} (I : Nat → A0 → Prop) (g : Nat) (hs : ∀ (ag : A0 → Option R) (j : Nat) (a0 : A0), I j a0 → (∃ r, f ag a0 = some r ∧ P r) ∨ (j < g ∧ ∃ b0, I (j + 1) b0 ∧ f ag a0 = ag b0)) {n : Nat} (hn : g < n) {a0 : A0} (h0 : I 0 a0) : ∃ r, nb_lp1 f n a0 = some r ∧ P r := by
  have key : ∀ (d j n : Nat) (a0 : A0), g ≤ j + d → d < n → I j a0 → ∃ r, nb_lp1 f n a0 = some r ∧ P r := by
    intro d
    induction d with
    | zero =>
      intro j n a0 hj hn hI
      obtain ⟨m, rfl⟩ : ∃ m, n = m + 1 := ⟨n - 1, by omega⟩
      rcases hs (nb_lp1 f m) j a0 hI with h | ⟨h, -⟩
      · exact h
      · omega
    | succ d ih =>
      intro j n a0 hj hn hI
      obtain ⟨m, rfl⟩ : ∃ m, n = m + 1 := ⟨n - 1, by omega⟩
      rcases hs (nb_lp1 f m) j a0 hI with h | ⟨h, b0, hb, e⟩
      · exact h
      · obtain ⟨r, h1, h2⟩ := ih (j + 1) m b0 (by omega) (by omega) hb
        exact ⟨r, e.trans h1, h2⟩
  exact key g 0 n a0 (by omega) hn h0
theorem nb_e2 {A0 A1 R : Type} {f : (A0 → A1 → Option R) → A0 → A1 → Option R} {P : R → Prop} (I : Nat → A0 → A1 → Prop) (g : Nat) (hs : ∀ (ag : A0 → A1 → Option R) (j : Nat) (a0 : A0) (a1 : A1), I j a0 a1 → (∃ r, f ag a0 a1 = some r ∧ P r) ∨ (j < g ∧ ∃ b0 b1, I (j + 1) b0 b1 ∧ f ag a0 a1 = ag b0 b1)) {n : Nat} (hn : g < n) {a0 : A0} {a1 : A1} (h0 : I 0 a0 a1) : ∃ r, nb_lp2 f n a0 a1 = some r ∧ P r := by
  have key : ∀ (d j n : Nat) (a0 : A0) (a1 : A1), g ≤ j + d → d < n → I j a0 a1 → ∃ r, nb_lp2 f n a0 a1 = some r ∧ P r := by
    intro d
    induction d with
    | zero =>
      intro j n a0 a1 hj hn hI
      obtain ⟨m, rfl⟩ : ∃ m, n = m + 1 := ⟨n - 1, by omega⟩
      rcases hs (nb_lp2 f m) j a0 a1 hI with h | ⟨h, -⟩
      · exact h
      · omega
    | succ d ih =>
      intro j n a0 a1 hj hn hI
      obtain ⟨m, rfl⟩ : ∃ m, n = m + 1 := ⟨n - 1, by omega⟩
      rcases hs (nb_lp2 f m) j a0 a1 hI with h | ⟨h, b0, b1, hb, e⟩
      · exact h
      · obtain ⟨r, h1, h2⟩ := ih (j + 1) m b0 b1 (by omega) (by omega) hb
        exact ⟨r, e.trans h1, h2⟩
  exact key g 0 n a0 a1 (by omega) hn h0
theorem nb_e3 {A0 A1 A2 R : Type} {f : (A0 → A1 → A2 → Option R) → A0 → A1 → A2 → Option R} {P : R → Prop} (I : Nat → A0 → A1 → A2 → Prop) (g : Nat) (hs : ∀ (ag : A0 → A1 → A2 → Option R) (j : Nat) (a0 : A0) (a1 : A1) (a2 : A2), I j a0 a1 a2 → (∃ r, f ag a0 a1 a2 = some r ∧ P r) ∨ (j < g ∧ ∃ b0 b1 b2, I (j + 1) b0 b1 b2 ∧ f ag a0 a1 a2 = ag b0 b1 b2)) {n : Nat} (hn : g < n) {a0 : A0} {a1 : A1} {a2 : A2} (h0 : I 0 a0 a1 a2) : ∃ r, nb_lp3 f n a0 a1 a2 = some r ∧ P r := by
  have key : ∀ (d j n : Nat) (a0 : A0) (a1 : A1) (a2 : A2), g ≤ j + d → d < n → I j a0 a1 a2 → ∃ r, nb_lp3 f n a0 a1 a2 = some r ∧ P r := by
    intro d
    induction d with
    | zero =>
      intro j n a0 a1 a2 hj hn hI
      obtain ⟨m, rfl⟩ : ∃ m, n = m + 1 := ⟨n - 1, by omega⟩
      rcases hs (nb_lp3 f m) j a0 a1 a2 hI with h | ⟨h, -⟩
      · exact h
      · omega
    | succ d ih =>
      intro j n a0 a1 a2 hj hn hI
      obtain ⟨m, rfl⟩ : ∃ m, n = m + 1 := ⟨n - 1, by omega⟩
      rcases hs (nb_lp3 f m) j a0 a1 a2 hI with h | ⟨h, b0, b1, b2, hb, e⟩
      · exact h
      · obtain ⟨r, h1, h2⟩ := ih (j + 1) m b0 b1 b2 (by omega) (by omega) hb
        exact ⟨r, e.trans h1, h2⟩
  exact key g 0 n a0 a1 a2 (by omega) hn h0
theorem nb_e4 {A0 A1 A2 A3 R : Type} {f : (A0 → A1 → A2 → A3 → Option R) → A0 → A1 → A2 → A3 → Option R} {P : R → Prop} (I : Nat → A0 → A1 → A2 → A3 → Prop) (g : Nat) (hs : ∀ (ag : A0 → A1 → A2 → A3 → Option R) (j : Nat) (a0 : A0) (a1 : A1) (a2 : A2) (a3 : A3), I j a0 a1 a2 a3 → (∃ r, f ag a0 a1 a2 a3 = some r ∧ P r) ∨ (j < g ∧ ∃ b0 b1 b2 b3, I (j + 1) b0 b1 b2 b3 ∧ f ag a0 a1 a2 a3 = ag b0 b1 b2 b3)) {n : Nat} (hn : g < n) {a0 : A0} {a1 : A1} {a2 : A2} {a3 : A3} (h0 : I 0 a0 a1 a2 a3) : ∃ r, nb_lp4 f n a0 a1 a2 a3 = some r ∧ P r := by
  have key : ∀ (d j n : Nat) (a0 : A0) (a1 : A1) (a2 : A2) (a3 : A3), g ≤ j + d → d < n → I j a0 a1 a2 a3 → ∃ r, nb_lp4 f n a0 a1 a2 a3 = some r ∧ P r := by
    intro d
    induction d with
    | zero =>
      intro j n a0 a1 a2 a3 hj hn hI
      obtain ⟨m, rfl⟩ : ∃ m, n = m + 1 := ⟨n - 1, by omega⟩
      rcases hs (nb_lp4 f m) j a0 a1 a2 a3 hI with h | ⟨h, -⟩
      · exact h
      · omega
    | succ d ih =>
      intro j n a0 a1 a2 a3 hj hn hI
      obtain ⟨m, rfl⟩ : ∃ m, n = m + 1 := ⟨n - 1, by omega⟩
      rcases hs (nb_lp4 f m) j a0 a1 a2 a3 hI with h | ⟨h, b0, b1, b2, b3, hb, e⟩
      · exact h
      · obtain ⟨r, h1, h2⟩ := ih (j + 1) m b0 b1 b2 b3 (by omega) (by omega) hb
        exact ⟨r, e.trans h1, h2⟩
  exact key g 0 n a0 a1 a2 a3 (by omega) hn h0
theorem nb_e5 {A0 A1 A2 A3 A4 R : Type} {f : (A0 → A1 → A2 → A3 → A4 → Option R) → A0 → A1 → A2 → A3 → A4 → Option R} {P : R → Prop} (I : Nat → A0 → A1 → A2 → A3 → A4 → Prop) (g : Nat) (hs : ∀ (ag : A0 → A1 → A2 → A3 → A4 → Option R) (j : Nat) (a0 : A0) (a1 : A1) (a2 : A2) (a3 : A3) (a4 : A4), I j a0 a1 a2 a3 a4 → (∃ r, f ag a0 a1 a2 a3 a4 = some r ∧ P r) ∨ (j < g ∧ ∃ b0 b1 b2 b3 b4, I (j + 1) b0 b1 b2 b3 b4 ∧ f ag a0 a1 a2 a3 a4 = ag b0 b1 b2 b3 b4)) {n : Nat} (hn : g < n) {a0 : A0} {a1 : A1} {a2 : A2} {a3 : A3} {a4 : A4} (h0 : I 0 a0 a1 a2 a3 a4) : ∃ r, nb_lp5 f n a0 a1 a2 a3 a4 = some r ∧ P r := by
  have key : ∀ (d j n : Nat) (a0 : A0) (a1 : A1) (a2 : A2) (a3 : A3) (a4 : A4), g ≤ j + d → d < n → I j a0 a1 a2 a3 a4 → ∃ r, nb_lp5 f n a0 a1 a2 a3 a4 = some r ∧ P r := by
    intro d
    induction d with
    | zero =>
      intro j n a0 a1 a2 a3 a4 hj hn hI
      obtain ⟨m, rfl⟩ : ∃ m, n = m + 1 := ⟨n - 1, by omega⟩
      rcases hs (nb_lp5 f m) j a0 a1 a2 a3 a4 hI with h | ⟨h, -⟩
      · exact h
      · omega
    | succ d ih =>
      intro j n a0 a1 a2 a3 a4 hj hn hI
      obtain ⟨m, rfl⟩ : ∃ m, n = m + 1 := ⟨n - 1, by omega⟩
      rcases hs (nb_lp5 f m) j a0 a1 a2 a3 a4 hI with h | ⟨h, b0, b1, b2, b3, b4, hb, e⟩
      · exact h
      · obtain ⟨r, h1, h2⟩ := ih (j + 1) m b0 b1 b2 b3 b4 (by omega) (by omega) hb
        exact ⟨r, e.trans h1, h2⟩
  exact key g 0 n a0 a1 a2 a3 a4 (by omega) hn h0
theorem nb_e6 {A0 A1 A2 A3 A4 A5 R : Type} {f : (A0 → A1 → A2 → A3 → A4 → A5 → Option R) → A0 → A1 → A2 → A3 → A4 → A5 → Option R} {P : R → Prop} (I : Nat → A0 → A1 → A2 → A3 → A4 → A5 → Prop) (g : Nat) (hs : ∀ (ag : A0 → A1 → A2 → A3 → A4 → A5 → Option R) (j : Nat) (a0 : A0) (a1 : A1) (a2 : A2) (a3 : A3) (a4 : A4) (a5 : A5), I j a0 a1 a2 a3 a4 a5 → (∃ r, f ag a0 a1 a2 a3 a4 a5 = some r ∧ P r) ∨ (j < g ∧ ∃ b0 b1 b2 b3 b4 b5, I (j + 1) b0 b1 b2 b3 b4 b5 ∧ f ag a0 a1 a2 a3 a4 a5 = ag b0 b1 b2 b3 b4 b5)) {n : Nat} (hn : g < n) {a0 : A0} {a1 : A1} {a2 : A2} {a3 : A3} {a4 : A4} {a5 : A5} (h0 : I 0 a0 a1 a2 a3 a4 a5) : ∃ r, nb_lp6 f n a0 a1 a2 a3 a4 a5 = some r ∧ P r := by
  have key : ∀ (d j n : Nat) (a0 : A0) (a1 : A1) (a2 : A2) (a3 : A3) (a4 : A4) (a5 : A5), g ≤ j + d → d < n → I j a0 a1 a2 a3 a4 a5 → ∃ r, nb_lp6 f n a0 a1 a2 a3 a4 a5 = some r ∧ P r := by
    intro d
    induction d with
    | zero =>
      intro j n a0 a1 a2 a3 a4 a5 hj hn hI
      obtain ⟨m, rfl⟩ : ∃ m, n = m + 1 := ⟨n - 1, by omega⟩
      rcases hs (nb_lp6 f m) j a0 a1 a2 a3 a4 a5 hI with h | ⟨h, -⟩
      · exact h
      · omega
    | succ d ih =>
      intro j n a0 a1 a2 a3 a4 a5 hj hn hI
      obtain ⟨m, rfl⟩ : ∃ m, n = m + 1 := ⟨n - 1, by omega⟩
      rcases hs (nb_lp6 f m) j a0 a1 a2 a3 a4 a5 hI with h | ⟨h, b0, b1, b2, b3, b4, b5, hb, e⟩
      · exact h
      · obtain ⟨r, h1, h2⟩ := ih (j + 1) m b0 b1 b2 b3 b4 b5 (by omega) (by omega) hb
        exact ⟨r, e.trans h1, h2⟩
  exact key g 0 n a0 a1 a2 a3 a4 a5 (by omega) hn h0
theorem nb_e7 {A0 A1 A2 A3 A4 A5 A6 R : Type} {f : (A0 → A1 → A2 → A3 → A4 → A5 → A6 → Option R) → A0 → A1 → A2 → A3 → A4 → A5 → A6 → Option R} {P : R → Prop} (I : Nat → A0 → A1 → A2 → A3 → A4 → A5 → A6 → Prop) (g : Nat) (hs : ∀ (ag : A0 → A1 → A2 → A3 → A4 → A5 → A6 → Option R) (j : Nat) (a0 : A0) (a1 : A1) (a2 : A2) (a3 : A3) (a4 : A4) (a5 : A5) (a6 : A6), I j a0 a1 a2 a3 a4 a5 a6 → (∃ r, f ag a0 a1 a2 a3 a4 a5 a6 = some r ∧ P r) ∨ (j < g ∧ ∃ b0 b1 b2 b3 b4 b5 b6, I (j + 1) b0 b1 b2 b3 b4 b5 b6 ∧ f ag a0 a1 a2 a3 a4 a5 a6 = ag b0 b1 b2 b3 b4 b5 b6)) {n : Nat} (hn : g < n) {a0 : A0} {a1 : A1} {a2 : A2} {a3 : A3} {a4 : A4} {a5 : A5} {a6 : A6} (h0 : I 0 a0 a1 a2 a3 a4 a5 a6) : ∃ r, nb_lp7 f n a0 a1 a2 a3 a4 a5 a6 = some r ∧ P r := by
  have key : ∀ (d j n : Nat) (a0 : A0) (a1 : A1) (a2 : A2) (a3 : A3) (a4 : A4) (a5 : A5) (a6 : A6), g ≤ j + d → d < n → I j a0 a1 a2 a3 a4 a5 a6 → ∃ r, nb_lp7 f n a0 a1 a2 a3 a4 a5 a6 = some r ∧ P r := by
    intro d
    induction d with
    | zero =>
      intro j n a0 a1 a2 a3 a4 a5 a6 hj hn hI
      obtain ⟨m, rfl⟩ : ∃ m, n = m + 1 := ⟨n - 1, by omega⟩
      rcases hs (nb_lp7 f m) j a0 a1 a2 a3 a4 a5 a6 hI with h | ⟨h, -⟩
      · exact h
      · omega
    | succ d ih =>
      intro j n a0 a1 a2 a3 a4 a5 a6 hj hn hI
      obtain ⟨m, rfl⟩ : ∃ m, n = m + 1 := ⟨n - 1, by omega⟩
      rcases hs (nb_lp7 f m) j a0 a1 a2 a3 a4 a5 a6 hI with h | ⟨h, b0, b1, b2, b3, b4, b5, b6, hb, e⟩
      · exact h
      · obtain ⟨r, h1, h2⟩ := ih (j + 1) m b0 b1 b2 b3 b4 b5 b6 (by omega) (by omega) hb
        exact ⟨r, e.trans h1, h2⟩
  exact key g 0 n a0 a1 a2 a3 a4 a5 a6 (by omega) hn h0
theorem nb_e8 {A0 A1 A2 A3 A4 A5 A6 A7 R : Type} {f : (A0 → A1 → A2 → A3 → A4 → A5 → A6 → A7 → Option R) → A0 → A1 → A2 → A3 → A4 → A5 → A6 → A7 → Option R} {P : R → Prop} (I : Nat → A0 → A1 → A2 → A3 → A4 → A5 → A6 → A7 → Prop) (g : Nat) (hs : ∀ (ag : A0 → A1 → A2 → A3 → A4 → A5 → A6 → A7 → Option R) (j : Nat) (a0 : A0) (a1 : A1) (a2 : A2) (a3 : A3) (a4 : A4) (a5 : A5) (a6 : A6) (a7 : A7), I j a0 a1 a2 a3 a4 a5 a6 a7 → (∃ r, f ag a0 a1 a2 a3 a4 a5 a6 a7 = some r ∧ P r) ∨ (j < g ∧ ∃ b0 b1 b2 b3 b4 b5 b6 b7, I (j + 1) b0 b1 b2 b3 b4 b5 b6 b7 ∧ f ag a0 a1 a2 a3 a4 a5 a6 a7 = ag b0 b1 b2 b3 b4 b5 b6 b7)) {n : Nat} (hn : g < n) {a0 : A0} {a1 : A1} {a2 : A2} {a3 : A3} {a4 : A4} {a5 : A5} {a6 : A6} {a7 : A7} (h0 : I 0 a0 a1 a2 a3 a4 a5 a6 a7) : ∃ r, nb_lp8 f n a0 a1 a2 a3 a4 a5 a6 a7 = some r ∧ P r := by
  have key : ∀ (d j n : Nat) (a0 : A0) (a1 : A1) (a2 : A2) (a3 : A3) (a4 : A4) (a5 : A5) (a6 : A6) (a7 : A7), g ≤ j + d → d < n → I j a0 a1 a2 a3 a4 a5 a6 a7 → ∃ r, nb_lp8 f n a0 a1 a2 a3 a4 a5 a6 a7 = some r ∧ P r := by
    intro d
    induction d with
    | zero =>
      intro j n a0 a1 a2 a3 a4 a5 a6 a7 hj hn hI
      obtain ⟨m, rfl⟩ : ∃ m, n = m + 1 := ⟨n - 1, by omega⟩
      rcases hs (nb_lp8 f m) j a0 a1 a2 a3 a4 a5 a6 a7 hI with h | ⟨h, -⟩
      · exact h
      · omega
    | succ d ih =>
      intro j n a0 a1 a2 a3 a4 a5 a6 a7 hj hn hI
      obtain ⟨m, rfl⟩ : ∃ m, n = m + 1 := ⟨n - 1, by omega⟩
      rcases hs (nb_lp8 f m) j a0 a1 a2 a3 a4 a5 a6 a7 hI with h | ⟨h, b0, b1, b2, b3, b4, b5, b6, b7, hb, e⟩
      · exact h
      · obtain ⟨r, h1, h2⟩ := ih (j + 1) m b0 b1 b2 b3 b4 b5 b6 b7 (by omega) (by omega) hb
        exact ⟨r, e.trans h1, h2⟩
  exact key g 0 n a0 a1 a2 a3 a4 a5 a6 a7 (by omega) hn h0

theorem pn_g {R : Type} {k : Option R} : nb_g true k = k := nb_g_t rfl
theorem pn_b2 {A B R : Type} {a : A} {b : B} {f : A → B → Option R} : nb_b2 (some (a, b)) f = f a b := rfl
theorem pn_leT {a b : Nat} (h : a ≤ b) (hb : b < 2 ^ 31) : (nI a ≤ nI b) = True := eq_true (nI_le h hb)
theorem pn_leF {a b : Nat} (h : b < a) (hb : a < 2 ^ 31) : (nI a ≤ nI b) = False := eq_false (nI_ge h hb)
theorem pn_ltT {a b : Nat} (h : a < b) (hb : b < 2 ^ 31) : (nI a < nI b) = True := eq_true (nI_lt h hb)
theorem pn_ltF {a b : Nat} (h : b ≤ a) (hb : a < 2 ^ 31) : (nI a < nI b) = False := eq_false (nI_nlt h hb)
theorem pn_eqT {a b : Nat} (h : a = b) : (nI a = nI b) = True := eq_true (congrArg nI h)
theorem pn_eqF {a b : Nat} (h : a ≠ b) (ha : a < 2 ^ 31) (hb : b < 2 ^ 31) : (nI a = nI b) = False := eq_false (fun e => h ((nI_eq ha hb).mp e))
theorem pn_x {R : Type} {x : Option R} {v : R} (h : ∃ r, x = some r ∧ r = v) : x = some v := by
  obtain ⟨r, h1, rfl⟩ := h
  exact h1
def su (f : Nat → Nat) : Nat → Nat
  | 0 => 0
  | n + 1 => su f n + f n
def sp (f : Nat → Nat) : Nat → Nat
  | 0 => 1
  | n + 1 => sp f n * f n
theorem su_le {f : Nat → Nat} {B : Nat} : ∀ n, (∀ k, k < n → f k ≤ B) → su f n ≤ n * B
  | 0, _ => by simp [su]
  | n + 1, h => by
    have h1 := su_le n (fun k hk => h k (by omega))
    have h2 := h n (by omega)
    rw [Nat.succ_mul]
    show su f n + f n ≤ _
    omega
theorem su_c {f g : Nat → Nat} : ∀ n, (∀ k, k < n → f k = g k) → su f n = su g n
  | 0, _ => rfl
  | n + 1, h => by
    show su f n + f n = su g n + g n
    rw [su_c n (fun k hk => h k (by omega)), h n (by omega)]
theorem sp_le {f : Nat → Nat} {B : Nat} : ∀ n, (∀ k, k < n → f k ≤ B) → sp f n ≤ B ^ n
  | 0, _ => by simp [sp]
  | n + 1, h => by
    have h1 := sp_le n (fun k hk => h k (by omega))
    have h2 := h n (by omega)
    rw [Nat.pow_succ]
    exact Nat.mul_le_mul h1 h2
