theorem pu_rem {a d : Nat} (ha : a < 2 ^ 31) (h0 : 0 < d) (hd : d < 2 ^ 31) : nb_rem (nI a) (nI d) = nI (a % d) := pk_rem ha h0 hd
theorem pu_half {x y : Nat} (hy : 0 < y) (hr : 0 < x % y) : 2 * (y % (x % y)) < y := by
  have h1 := Nat.mod_lt x hy
  have h2 := Nat.mod_lt y hr
  have h3 : y % (x % y) ≤ y - x % y := by
    rw [Nat.mod_eq_sub_mod (by omega)]
    exact Nat.mod_le _ _
  omega
def pu_gf (ag : Int32 → Int32 → Int32 → Option Int32) (x1 x2 x3 : Int32) : Option Int32 := nb_let (fun (_ : Unit) => nb_let (nb_max x1 (1 : Int32)) fun v8 => some v8) fun k6 => if (100 : Int32) ≤ x3 then k6 () else if x2 ≤ 0 then k6 () else nb_g (decide (¬ x2 = 0)) (nb_let (nb_rem x1 x2) fun x12 => ag x2 x12 (x3 + 1))
theorem pu_gf0 {ag : Int32 → Int32 → Int32 → Option Int32} {x i : Nat} (hi : i < 100) : pu_gf ag (nI x) (nI 0) (nI i) = some (nb_max (nI x) 1) := by
  simp only [pu_gf, nb_let]
  rw [if_neg (show ¬ (100 : Int32) ≤ nI i from nI_ge (b := 100) hi (by decide)), if_pos (by decide)]
theorem pu_gf1 {ag : Int32 → Int32 → Int32 → Option Int32} {x y i : Nat} (hi : i < 100) (hy : 0 < y) (hx : x < 2 ^ 31) (hy2 : y < 2 ^ 31) : pu_gf ag (nI x) (nI y) (nI i) = ag (nI y) (nI (x % y)) (nI (i + 1)) := by
  simp only [pu_gf, nb_let]
  rw [if_neg (show ¬ (100 : Int32) ≤ nI i from nI_ge (b := 100) hi (by decide)), if_neg (nI_nle hy hy2), nb_g_t (decide_eq_true (nI_ne0 hy hy2)), pu_rem hx hy hy2, nI_1]
theorem pu_gcdl : ∀ (m x y i N : Nat), y < 2 ^ m → 2 * m + i < 99 → 2 * m + 1 < N → x < 2 ^ 31 → y < 2 ^ 31 → nb_lp3 pu_gf N (nI x) (nI y) (nI i) = some (nb_max (nI (Nat.gcd x y)) 1) := by
  intro m
  induction m with
  | zero =>
    intro x y i N hy hi hN hx _
    obtain ⟨M, rfl⟩ : ∃ M, N = M + 1 := ⟨N - 1, by omega⟩
    have : y = 0 := by simpa using hy
    subst this
    show pu_gf (nb_lp3 pu_gf M) _ _ _ = _
    rw [pu_gf0 (by omega), Nat.gcd_zero_right]
  | succ m ih =>
    intro x y i N hy hi hN hx hy2
    obtain ⟨M, rfl⟩ : ∃ M, N = M + 2 := ⟨N - 2, by omega⟩
    show pu_gf (nb_lp3 pu_gf (M + 1)) _ _ _ = _
    by_cases h0 : y = 0
    · subst h0
      rw [pu_gf0 (by omega), Nat.gcd_zero_right]
    · have hyp : 0 < y := by omega
      have hr := Nat.mod_lt x hyp
      rw [pu_gf1 (by omega) hyp hx hy2]
      show pu_gf (nb_lp3 pu_gf M) _ _ _ = _
      by_cases h1 : x % y = 0
      · rw [h1, pu_gf0 (by omega)]
        have : Nat.gcd x y = y := by
          rw [Nat.gcd_comm, Nat.gcd_rec, h1, Nat.gcd_zero_left]
        rw [this]
      · have hrp : 0 < x % y := by omega
        have hh := pu_half hyp hrp
        have hlt := Nat.mod_lt y hrp
        rw [pu_gf1 (by omega) hrp hy2 (by omega), ih (x % y) (y % (x % y)) (i + 1 + 1) M (by rw [Nat.pow_succ] at hy; omega) (by omega) (by omega) (by omega) (by omega)]
        have e : Nat.gcd x y = Nat.gcd (x % y) (y % (x % y)) := by
          rw [Nat.gcd_comm x y, Nat.gcd_rec y x, Nat.gcd_rec (x % y) y, Nat.gcd_comm (y % (x % y)) (x % y)]
        rw [e]
theorem pu_gcd7 {N : Nat} {σ : nb_St} {x y : Nat} (hN : 64 < N) (hx : x < 2 ^ 31) (hy : y < 2 ^ 31) : fX7_greatestDivisor N σ (nI x) (nI y) = some (nb_max (nI (Nat.gcd x y)) 1) :=
  pu_gcdl 31 x y 0 N hy (by omega) (by omega) hx hy
