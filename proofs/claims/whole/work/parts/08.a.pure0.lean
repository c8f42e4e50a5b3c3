theorem nb_s1 {A0 R : Type} {f : (A0 → Option R) → A0 → Option R} {r : Option R} (g : Nat) (v0 : Nat → A0) (hs : ∀ (ag : A0 → Option R) (j : Nat), j < g → f ag (v0 j) = ag (v0 (j + 1))) (he : ∀ ag : A0 → Option R, f ag (v0 g) = r) (n : Nat) (hn : g < n) : nb_lp1 f n (v0 0) = r := by
  have key : ∀ (d j n : Nat), j + d = g → d < n → nb_lp1 f n (v0 j) = r := by
    intro d
    induction d with
    | zero =>
      intro j n hj hn
      obtain ⟨m, rfl⟩ : ∃ m, n = m + 1 := ⟨n - 1, by omega⟩
      have hjg : j = g := by omega
      subst hjg
      exact he _
    | succ d ih =>
      intro j n hj hn
      obtain ⟨m, rfl⟩ : ∃ m, n = m + 1 := ⟨n - 1, by omega⟩
      show f (nb_lp1 f m) (v0 j) = r
      rw [hs _ j (by omega)]
      exact ih (j + 1) m (by omega) (by omega)
  exact key g 0 n (by omega) hn
theorem nb_s2 {A0 A1 R : Type} {f : (A0 → A1 → Option R) → A0 → A1 → Option R} {r : Option R} (g : Nat) (v0 : Nat → A0) (v1 : Nat → A1) (hs : ∀ (ag : A0 → A1 → Option R) (j : Nat), j < g → f ag (v0 j) (v1 j) = ag (v0 (j + 1)) (v1 (j + 1))) (he : ∀ ag : A0 → A1 → Option R, f ag (v0 g) (v1 g) = r) (n : Nat) (hn : g < n) : nb_lp2 f n (v0 0) (v1 0) = r := by
  have key : ∀ (d j n : Nat), j + d = g → d < n → nb_lp2 f n (v0 j) (v1 j) = r := by
    intro d
    induction d with
    | zero =>
      intro j n hj hn
      obtain ⟨m, rfl⟩ : ∃ m, n = m + 1 := ⟨n - 1, by omega⟩
      have hjg : j = g := by omega
      subst hjg
      exact he _
    | succ d ih =>
      intro j n hj hn
      obtain ⟨m, rfl⟩ : ∃ m, n = m + 1 := ⟨n - 1, by omega⟩
      show f (nb_lp2 f m) (v0 j) (v1 j) = r
      rw [hs _ j (by omega)]
      exact ih (j + 1) m (by omega) (by omega)
  exact key g 0 n (by omega) hn
theorem nb_s3 {A0 A1 A2 R : Type} {f : (A0 → A1 → A2 → Option R) → A0 → A1 → A2 → Option R} {r : Option R} (g : Nat) (v0 : Nat → A0) (v1 : Nat → A1) (v2 : Nat → A2) (hs : ∀ (ag : A0 → A1 → A2 → Option R) (j : Nat), j < g → f ag (v0 j) (v1 j) (v2 j) = ag (v0 (j + 1)) (v1 (j + 1)) (v2 (j + 1))) (he : ∀ ag : A0 → A1 → A2 → Option R, f ag (v0 g) (v1 g) (v2 g) = r) (n : Nat) (hn : g < n) : nb_lp3 f n (v0 0) (v1 0) (v2 0) = r := by
  have key : ∀ (d j n : Nat), j + d = g → d < n → nb_lp3 f n (v0 j) (v1 j) (v2 j) = r := by
    intro d
    induction d with
    | zero =>
      intro j n hj hn
      obtain ⟨m, rfl⟩ : ∃ m, n = m + 1 := ⟨n - 1, by omega⟩
      have hjg : j = g := by omega
      subst hjg
      exact he _
    | succ d ih =>
      intro j n hj hn
      obtain ⟨m, rfl⟩ : ∃ m, n = m + 1 := ⟨n - 1, by omega⟩
      show f (nb_lp3 f m) (v0 j) (v1 j) (v2 j) = r
      rw [hs _ j (by omega)]
      exact ih (j + 1) m (by omega) (by omega)
  exact key g 0 n (by omega) hn
theorem nb_s4 {A0 A1 A2 A3 R : Type} {f : (A0 → A1 → A2 → A3 → Option R) → A0 → A1 → A2 → A3 → Option R} {r : Option R} (g : Nat) (v0 : Nat → A0) (v1 : Nat → A1) (v2 : Nat → A2) (v3 : Nat → A3) (hs : ∀ (ag : A0 → A1 → A2 → A3 → Option R) (j : Nat), j < g → f ag (v0 j) (v1 j) (v2 j) (v3 j) = ag (v0 (j + 1)) (v1 (j + 1)) (v2 (j + 1)) (v3 (j + 1))) (he : ∀ ag : A0 → A1 → A2 → A3 → Option R, f ag (v0 g) (v1 g) (v2 g) (v3 g) = r) (n : Nat) (hn : g < n) : nb_lp4 f n (v0 0) (v1 0) (v2 0) (v3 0) = r := by
  have key : ∀ (d j n : Nat), j + d = g → d < n → nb_lp4 f n (v0 j) (v1 j) (v2 j) (v3 j) = r := by
    intro d
    induction d with
    | zero =>
      intro j n hj hn
      obtain ⟨m, rfl⟩ : ∃ m, n = m + 1 := ⟨n - 1, by omega⟩
      have hjg : j = g := by omega
      subst hjg
      exact he _
    | succ d ih =>
      intro j n hj hn
      obtain ⟨m, rfl⟩ : ∃ m, n = m + 1 := ⟨n - 1, by omega⟩
      show f (nb_lp4 f m) (v0 j) (v1 j) (v2 j) (v3 j) = r
      rw [hs _ j (by omega)]
      exact ih (j + 1) m (by omega) (by omega)
  exact key g 0 n (by omega) hn
theorem nb_s5 {A0 A1 A2 A3 A4 R : Type} {f : (A0 → A1 → A2 → A3 → A4 → Option R) → A0 → A1 → A2 → A3 → A4 → Option R} {r : Option R} (g : Nat) (v0 : Nat → A0) (v1 : Nat → A1) (v2 : Nat → A2) (v3 : Nat → A3) (v4 : Nat → A4) (hs : ∀ (ag : A0 → A1 → A2 → A3 → A4 → Option R) (j : Nat), j < g → f ag (v0 j) (v1 j) (v2 j) (v3 j) (v4 j) = ag (v0 (j + 1)) (v1 (j + 1)) (v2 (j + 1)) (v3 (j + 1)) (v4 (j + 1))) (he : ∀ ag : A0 → A1 → A2 → A3 → A4 → Option R, f ag (v0 g) (v1 g) (v2 g) (v3 g) (v4 g) = r) (n : Nat) (hn : g < n) : nb_lp5 f n (v0 0) (v1 0) (v2 0) (v3 0) (v4 0) = r := by
  have key : ∀ (d j n : Nat), j + d = g → d < n → nb_lp5 f n (v0 j) (v1 j) (v2 j) (v3 j) (v4 j) = r := by
    intro d
    induction d with
    | zero =>
      intro j n hj hn
      obtain ⟨m, rfl⟩ : ∃ m, n = m + 1 := ⟨n - 1, by omega⟩
      have hjg : j = g := by omega
      subst hjg
      exact he _
    | succ d ih =>
      intro j n hj hn
      obtain ⟨m, rfl⟩ : ∃ m, n = m + 1 := ⟨n - 1, by omega⟩
      show f (nb_lp5 f m) (v0 j) (v1 j) (v2 j) (v3 j) (v4 j) = r
      rw [hs _ j (by omega)]
      exact ih (j + 1) m (by omega) (by omega)
  exact key g 0 n (by omega) hn
theorem nb_s6 {A0 A1 A2 A3 A4 A5 R : Type} {f : (A0 → A1 → A2 → A3 → A4 → A5 → Option R) → A0 → A1 → A2 → A3 → A4 → A5 → Option R} {r : Option R} (g : Nat) (v0 : Nat → A0) (v1 : Nat → A1) (v2 : Nat → A2) (v3 : Nat → A3) (v4 : Nat → A4) (v5 : Nat → A5) (hs : ∀ (ag : A0 → A1 → A2 → A3 → A4 → A5 → Option R) (j : Nat), j < g → f ag (v0 j) (v1 j) (v2 j) (v3 j) (v4 j) (v5 j) = ag (v0 (j + 1)) (v1 (j + 1)) (v2 (j + 1)) (v3 (j + 1)) (v4 (j + 1)) (v5 (j + 1))) (he : ∀ ag : A0 → A1 → A2 → A3 → A4 → A5 → Option R, f ag (v0 g) (v1 g) (v2 g) (v3 g) (v4 g) (v5 g) = r) (n : Nat) (hn : g < n) : nb_lp6 f n (v0 0) (v1 0) (v2 0) (v3 0) (v4 0) (v5 0) = r := by
  have key : ∀ (d j n : Nat), j + d = g → d < n → nb_lp6 f n (v0 j) (v1 j) (v2 j) (v3 j) (v4 j) (v5 j) = r := by
    intro d
    induction d with
    | zero =>
      intro j n hj hn
      obtain ⟨m, rfl⟩ : ∃ m, n = m + 1 := ⟨n - 1, by omega⟩
      have hjg : j = g := by omega
      subst hjg
      exact he _
    | succ d ih =>
      intro j n hj hn
      obtain ⟨m, rfl⟩ : ∃ m, n = m + 1 := ⟨n - 1, by omega⟩
      show f (nb_lp6 f m) (v0 j) (v1 j) (v2 j) (v3 j) (v4 j) (v5 j) = r
      rw [hs _ j (by omega)]
      exact ih (j + 1) m (by omega) (by omega)
  exact key g 0 n (by omega) hn
theorem nb_s7 {A0 A1 A2 A3 A4 A5 A6 R : Type} {f : (A0 → A1 → A2 → A3 → A4 → A5 → A6 → Option R) → A0 → A1 → A2 → A3 → A4 → A5 → A6 → Option R} {r : Option R} (g : Nat) (v0 : Nat → A0) (v1 : Nat → A1) (v2 : Nat → A2) (v3 : Nat → A3) (v4 : Nat → A4) (v5 : Nat → A5) (v6 : Nat → A6) (hs : ∀ (ag : A0 → A1 → A2 → A3 → A4 → A5 → A6 → Option R) (j : Nat), j < g → f ag (v0 j) (v1 j) (v2 j) (v3 j) (v4 j) (v5 j) (v6 j) = ag (v0 (j + 1)) (v1 (j + 1)) (v2 (j + 1)) (v3 (j + 1)) (v4 (j + 1)) (v5 (j + 1)) (v6 (j + 1))) (he : ∀ ag : A0 → A1 → A2 → A3 → A4 → A5 → A6 → Option R, f ag (v0 g) (v1 g) (v2 g) (v3 g) (v4 g) (v5 g) (v6 g) = r) (n : Nat) (hn : g < n) : nb_lp7 f n (v0 0) (v1 0) (v2 0) (v3 0) (v4 0) (v5 0) (v6 0) = r := by
  have key : ∀ (d j n : Nat), j + d = g → d < n → nb_lp7 f n (v0 j) (v1 j) (v2 j) (v3 j) (v4 j) (v5 j) (v6 j) = r := by
    intro d
    induction d with
    | zero =>
      intro j n hj hn
      obtain ⟨m, rfl⟩ : ∃ m, n = m + 1 := ⟨n - 1, by omega⟩
      have hjg : j = g := by omega
      subst hjg
      exact he _
    | succ d ih =>
      intro j n hj hn
      obtain ⟨m, rfl⟩ : ∃ m, n = m + 1 := ⟨n - 1, by omega⟩
      show f (nb_lp7 f m) (v0 j) (v1 j) (v2 j) (v3 j) (v4 j) (v5 j) (v6 j) = r
      rw [hs _ j (by omega)]
      exact ih (j + 1) m (by omega) (by omega)
  exact key g 0 n (by omega) hn
theorem nb_s8 {A0 A1 A2 A3 A4 A5 A6 A7 R : Type} {f : (A0 → A1 → A2 → A3 → A4 → A5 → A6 → A7 → Option R) → A0 → A1 → A2 → A3 → A4 → A5 → A6 → A7 → Option R} {r : Option R} (g : Nat) (v0 : Nat → A0) (v1 : Nat → A1) (v2 : Nat → A2) (v3 : Nat → A3) (v4 : Nat → A4) (v5 : Nat → A5) (v6 : Nat → A6) (v7 : Nat → A7) (hs : ∀ (ag : A0 → A1 → A2 → A3 → A4 → A5 → A6 → A7 → Option R) (j : Nat), j < g → f ag (v0 j) (v1 j) (v2 j) (v3 j) (v4 j) (v5 j) (v6 j) (v7 j) = ag (v0 (j + 1)) (v1 (j + 1)) (v2 (j + 1)) (v3 (j + 1)) (v4 (j + 1)) (v5 (j + 1)) (v6 (j + 1)) (v7 (j + 1))) (he : ∀ ag : A0 → A1 → A2 → A3 → A4 → A5 → A6 → A7 → Option R, f ag (v0 g) (v1 g) (v2 g) (v3 g) (v4 g) (v5 g) (v6 g) (v7 g) = r) (n : Nat) (hn : g < n) : nb_lp8 f n (v0 0) (v1 0) (v2 0) (v3 0) (v4 0) (v5 0) (v6 0) (v7 0) = r := by
  have key : ∀ (d j n : Nat), j + d = g → d < n → nb_lp8 f n (v0 j) (v1 j) (v2 j) (v3 j) (v4 j) (v5 j) (v6 j) (v7 j) = r := by
    intro d
    induction d with
    | zero =>
      intro j n hj hn
      obtain ⟨m, rfl⟩ : ∃ m, n = m + 1 := ⟨n - 1, by omega⟩
      have hjg : j = g := by omega
      subst hjg
      exact he _
    | succ d ih =>
      intro j n hj hn
      obtain ⟨m, rfl⟩ : ∃ m, n = m + 1 := ⟨n - 1, by omega⟩
      show f (nb_lp8 f m) (v0 j) (v1 j) (v2 j) (v3 j) (v4 j) (v5 j) (v6 j) (v7 j) = r
      rw [hs _ j (by omega)]
      exact ih (j + 1) m (by omega) (by omega)
  exact key g 0 n (by omega) hn
theorem pu_in {j n : Nat} (h : j < n) (hn : n < 2 ^ 31) : nb_in (nI j) n = true := by
  unfold nb_in
  rw [nI_toInt (by omega)]
  exact decide_eq_true ⟨by omega, by omega⟩
theorem pu_ix {j : Nat} (h : j < 2 ^ 31) : nb_ix (nI j) = j := nI_clamp h
theorem pu_within {N : Nat} {σ : nb_St} {a b c : Int32} : fX7_within N σ a b c = some (if b ≤ a ∧ a ≤ c then 1 else 0) := by
  simp only [fX7_within, nb_let]
  by_cases h1 : a < b
  · rw [if_pos h1, if_neg (fun h => absurd h1 (Int32.not_lt.mpr h.1))]
  · rw [if_neg h1]
    by_cases h2 : c < a
    · rw [if_pos h2, if_neg (fun h => absurd h2 (Int32.not_lt.mpr h.2))]
    · rw [if_neg h2, if_pos ⟨Int32.not_lt.mp h1, Int32.not_lt.mp h2⟩]
theorem pu_cmp_lt {x y : Int64} : lg_cmp x y < 0 ↔ x < y := by
  rw [← Int32.not_le, lg_cmp_ge, Int64.not_le]
theorem pu_cmp_gt {x y : Int64} : 0 < lg_cmp x y ↔ y < x := by
  unfold lg_cmp
  by_cases h : y < x
  · simp [h]
  · by_cases h2 : x = y <;> simp [h, h2]
theorem pu_cmp_eq {x y : Int64} : lg_cmp x y = 0 ↔ x = y := by
  unfold lg_cmp
  by_cases h : y < x
  · simp only [gt_iff_lt, h, if_true]
    constructor
    · intro h3; exact absurd h3 (by decide)
    · intro h3; subst h3; exact absurd h (Int64.lt_irrefl)
  · by_cases h2 : x = y
    · simp [h2]
    · simp [h, h2]
theorem pu_in64 {N : Nat} {σ : nb_St} {a b c : Int64} : fX8_in N σ a b c = some (if b ≤ a ∧ a ≤ c then 1 else 0) := by
  simp only [fX8_in, nb_let]
  by_cases h1 : a < b
  · rw [if_pos (pu_cmp_lt.mpr h1), if_neg (fun h => absurd h1 (Int64.not_lt.mpr h.1))]
  · rw [if_neg (fun h => h1 (pu_cmp_lt.mp h))]
    by_cases h2 : c < a
    · rw [if_pos (pu_cmp_gt.mpr h2), if_neg (fun h => absurd h2 (Int64.not_lt.mpr h.2))]
    · rw [if_neg (fun h => h2 (pu_cmp_gt.mp h)), if_pos ⟨Int64.not_lt.mp h1, Int64.not_lt.mp h2⟩]
theorem pu_le64 {a b : Int32} : a.toInt64 ≤ b.toInt64 ↔ a ≤ b := by
  rw [Int64.le_iff_toInt_le, Int32.le_iff_toInt_le, Int32.toInt_toInt64, Int32.toInt_toInt64]
theorem pu_inI {N : Nat} {σ : nb_St} {a b c : Int32} : fX8_in N σ a.toInt64 b.toInt64 c.toInt64 = some (if b ≤ a ∧ a ≤ c then 1 else 0) := by
  rw [pu_in64]
  simp only [pu_le64]
theorem pu_inL {N : Nat} {σ : nb_St} {a b c : Int32} {x y : Int64} (hx : x = b.toInt64) (hy : y = c.toInt64) : fX8_in N σ a.toInt64 x y = some (if b ≤ a ∧ a ≤ c then 1 else 0) := by
  subst hx; subst hy; exact pu_inI
theorem pu_isMinute {N : Nat} {σ : nb_St} {a : Int32} : fX8_isMinute N σ a = some (if 0 ≤ a ∧ a ≤ 359 then 1 else 0) := by
  unfold fX8_isMinute
  rw [pu_inL (b := 0) (c := 359) (by decide) (by decide)]
  by_cases h : (0 : Int32) ≤ a ∧ a ≤ 359 <;> simp [h, nb_b, nb_g, nb_01]
theorem pu_isTime {N : Nat} {σ : nb_St} {a : Int32} : fX8_isTime N σ a = some (if 0 ≤ a ∧ a ≤ 719 then 1 else 0) := by
  unfold fX8_isTime
  rw [pu_inL (b := 0) (c := 719) (by decide) (by decide)]
  by_cases h : (0 : Int32) ≤ a ∧ a ≤ 719 <;> simp [h, nb_b, nb_g, nb_01]
theorem pu_leave_fin : ∀ k, k < 19 → ∀ r, r < 20 → ∀ i, i < 20 → fX7_leave 30 (fun _ _ => 0) (nI (k + 2)) (nI r) (nI i) = fX8_leave 30 (fun _ _ => 0) (nI (k + 2)) (nI r) (nI i) ∧ (fX7_leave 30 (fun _ _ => 0) (nI (k + 2)) (nI r) (nI i)).isSome = true := by decide +kernel

theorem pu_z7_leave {N : Nat} {σ σ' : nb_St} {a b c : Int32} : fX7_leave N σ a b c = fX7_leave N σ' a b c := by simp only [fX7_leave, fX7_within, fX7_leftAlone, fJ9_floorMod_7cf53]
theorem pu_z8_leave {N : Nat} {σ σ' : nb_St} {a b c : Int32} : fX8_leave N σ a b c = fX8_leave N σ' a b c := by simp only [fX8_leave, fX8_in, fX8_around]
theorem pu_leave_k : ∀ k, k < 19 → (nI (k + 2) ≤ 20 ∧ 2 ≤ nI (k + 2) ∧ nI (k + 2) - 1 ≤ 19 ∧ nI (k + 2) - 1 - 1 ≤ 19 ∧ nI (k + 2) - 2 ≤ 19) := by decide +kernel
theorem pu_b1 {A R : Type} {a : A} {f : A → Option R} : nb_b (some a) f = f a := rfl
theorem pu_leave_bad7 {k : Nat} (hk : k < 19) {σ : nb_St} {a1 a2 : Int32} (h : ¬ (0 ≤ a1 ∧ a1 ≤ 19) ∨ ¬ (0 ≤ a2 ∧ a2 ≤ 19)) : fX7_leave 30 σ (nI (k + 2)) a1 a2 = some (-1) := by
  obtain ⟨h1, h2, h3, h4, h5⟩ := pu_leave_k k hk
  have key : ∀ (v : Int32) (z : Option Int32), v - 1 ≤ 19 → (nb_b (some (if (0 : Int32) ≤ a1 ∧ a1 ≤ v - 1 then (1 : Int32) else 0)) fun r8 => if r8 = 0 then some (-1 : Int32) else nb_b (some (if (0 : Int32) ≤ a2 ∧ a2 ≤ nI (k + 2) - 1 then (1 : Int32) else 0)) fun r13 => if r13 = 0 then some (-1 : Int32) else z) = some (-1) := by
    intro v z hv
    rw [pu_b1]
    by_cases g1 : (0 : Int32) ≤ a1 ∧ a1 ≤ v - 1
    · rw [if_pos g1, if_neg (by decide), pu_b1]
      have g2 : ¬ ((0 : Int32) ≤ a2 ∧ a2 ≤ nI (k + 2) - 1) := by
        rcases h with h | h
        · exact absurd ⟨g1.1, Int32.le_trans g1.2 hv⟩ h
        · exact fun g => h ⟨g.1, Int32.le_trans g.2 h3⟩
      rw [if_neg g2, if_pos rfl]
    · rw [if_neg g1, if_pos rfl]
  simp only [fX7_leave, pu_within, nb_let]
  have hc : (2 : Int32) ≤ nI (k + 2) ∧ nI (k + 2) ≤ 20 := ⟨h2, h1⟩
  rw [pu_b1, if_pos hc, if_neg (by decide)]
  split
  · exact key _ _ h4
  · exact key _ _ h3
theorem pu_leave_bad8 {k : Nat} (hk : k < 19) {σ : nb_St} {a1 a2 : Int32} (h : ¬ (0 ≤ a1 ∧ a1 ≤ 19) ∨ ¬ (0 ≤ a2 ∧ a2 ≤ 19)) : fX8_leave 30 σ (nI (k + 2)) a1 a2 = some (-1) := by
  obtain ⟨h1, h2, h3, h4, h5⟩ := pu_leave_k k hk
  have e0 : (0 : Int64) = (0 : Int32).toInt64 := by decide
  have i1 : ∀ v : Int32, fX8_in 30 σ a1.toInt64 (0 : Int64) v.toInt64 = some (if 0 ≤ a1 ∧ a1 ≤ v then 1 else 0) := fun v => pu_inL e0 rfl
  have i2 : ∀ v : Int32, fX8_in 30 σ a2.toInt64 (0 : Int64) v.toInt64 = some (if 0 ≤ a2 ∧ a2 ≤ v then 1 else 0) := fun v => pu_inL e0 rfl
  have i0 : fX8_in 30 σ (nI (k + 2)).toInt64 (2 : Int64) (20 : Int64) = some (if (2 : Int32) ≤ nI (k + 2) ∧ nI (k + 2) ≤ 20 then 1 else 0) := pu_inL (by decide) (by decide)
  have key : ∀ (v : Int32) (z : Option Int32), v ≤ 19 → (nb_b (some (if (0 : Int32) ≤ a1 ∧ a1 ≤ v then (1 : Int32) else 0)) fun r10 => if r10 = 0 then some (-1 : Int32) else nb_b (some (if (0 : Int32) ≤ a2 ∧ a2 ≤ nI (k + 2) - 1 then (1 : Int32) else 0)) fun r13 => if r13 = 0 then some (-1 : Int32) else z) = some (-1) := by
    intro v z hv
    rw [pu_b1]
    by_cases g1 : (0 : Int32) ≤ a1 ∧ a1 ≤ v
    · rw [if_pos g1, if_neg (by decide), pu_b1]
      have g2 : ¬ ((0 : Int32) ≤ a2 ∧ a2 ≤ nI (k + 2) - 1) := by
        rcases h with h | h
        · exact absurd ⟨g1.1, Int32.le_trans g1.2 hv⟩ h
        · exact fun g => h ⟨g.1, Int32.le_trans g.2 h3⟩
      rw [if_neg g2, if_pos rfl]
    · rw [if_neg g1, if_pos rfl]
  simp only [fX8_leave, nb_let, i0]
  have hc : (2 : Int32) ≤ nI (k + 2) ∧ nI (k + 2) ≤ 20 := ⟨h2, h1⟩
  rw [pu_b1, if_pos hc, if_neg (by decide)]
  split
  · simp only [i1, i2]; exact key _ _ h3
  · simp only [i1, i2]; exact key _ _ h5
theorem pu_leave (σ τ : nb_St) (a0 a1 a2 : Int32) : ∃ (N : Nat) (r : Int32), fX7_leave N σ a0 a1 a2 = some r ∧ fX8_leave N τ a0 a1 a2 = some r := by
  refine ⟨30, ?_⟩
  by_cases h0 : (2 : Int32) ≤ a0 ∧ a0 ≤ 20
  · obtain ⟨j, hj, rfl⟩ := nI_of2 (M := 20) (n := 20) (by decide) (Int32.not_lt.mpr (Int32.le_trans (by decide) h0.1)) h0.2
    have hj2 : 2 ≤ j := by
      have := (nI_leI (a := 2) (b := j) (by decide) (by omega)).mp h0.1
      exact this
    obtain ⟨k, rfl⟩ : ∃ k, j = k + 2 := ⟨j - 2, by omega⟩
    by_cases h1 : (0 : Int32) ≤ a1 ∧ a1 ≤ 19
    · by_cases h2 : (0 : Int32) ≤ a2 ∧ a2 ≤ 19
      · obtain ⟨r, hr, rfl⟩ := nI_of2 (M := 19) (n := 19) (by decide) (Int32.not_lt.mpr h1.1) h1.2
        obtain ⟨i, hi, rfl⟩ := nI_of2 (M := 19) (n := 19) (by decide) (Int32.not_lt.mpr h2.1) h2.2
        obtain ⟨e1, e2⟩ := pu_leave_fin k (by omega) r (by omega) i (by omega)
        obtain ⟨z, hz⟩ := Option.isSome_iff_exists.mp e2
        exact ⟨z, pu_z7_leave.trans hz, pu_z8_leave.trans (e1.symm.trans hz)⟩
      · exact ⟨-1, pu_leave_bad7 (by omega) (Or.inr h2), pu_leave_bad8 (by omega) (Or.inr h2)⟩
    · exact ⟨-1, pu_leave_bad7 (by omega) (Or.inl h1), pu_leave_bad8 (by omega) (Or.inl h1)⟩
  · refine ⟨-1, ?_, ?_⟩
    · simp only [fX7_leave, pu_within]
      rw [pu_b1, if_neg h0, if_pos rfl]
    · simp only [fX8_leave, nb_let]
      rw [pu_inL (b := 2) (c := 20) (by decide) (by decide), pu_b1, if_neg h0, if_pos rfl]
