def pu_lf (a b : Int64) (c : Int32) (ag : Int64 → Int64 → Option Int64) (x1 x2 : Int64) : Option Int64 := if (lg_cmp x2 (0 : Int64)) = 0 then (if c = 0 then nb_g (decide (¬ x1 = 0)) (some (a / x1)) else nb_g (decide (¬ x1 = 0)) (some (b / x1))) else nb_g (decide (¬ x2 = 0)) (nb_let (nb_lrem x1 x2) fun x10 => ag x2 x10)
def pu_lr (a b : Int64) (c : Int32) (x1 : Int64) : Option Int64 := if c = 0 then nb_g (decide (¬ x1 = 0)) (some (a / x1)) else nb_g (decide (¬ x1 = 0)) (some (b / x1))
theorem pu_l0 {x : Nat} (h : 0 < x) (hx : x < 2 ^ 31) : ¬ lN x = 0 := fun e => by
  have := (lN_eq (a := x) (b := 0) hx (by decide)).mp e
  omega
theorem pu_lf0 {a b : Int64} {c : Int32} {ag : Int64 → Int64 → Option Int64} {x : Int64} : pu_lf a b c ag x (lN 0) = pu_lr a b c x := by
  unfold pu_lf pu_lr
  rw [if_pos (show lg_cmp (lN 0) (0 : Int64) = 0 from pu_cmp_eq.mpr rfl)]
theorem pu_lf1 {a b : Int64} {c : Int32} {ag : Int64 → Int64 → Option Int64} {x y : Nat} (hy : 0 < y) (hx : x < 2 ^ 31) (hy2 : y < 2 ^ 31) : pu_lf a b c ag (lN x) (lN y) = ag (lN y) (lN (x % y)) := by
  have h0 := pu_l0 hy hy2
  have e : nb_lrem (lN x) (lN y) = lN (x % y) := pk_lRem (by omega) hy (by omega)
  simp only [pu_lf, nb_let]
  rw [if_neg (fun q => h0 (pu_cmp_eq.mp q)), nb_g_t (decide_eq_true h0), e]
theorem pu_lowl {a b : Int64} {c : Int32} : ∀ (m x y N : Nat), y < 2 ^ m → 2 * m + 1 < N → x < 2 ^ 31 → y < 2 ^ 31 → nb_lp2 (pu_lf a b c) N (lN x) (lN y) = pu_lr a b c (lN (Nat.gcd x y)) := by
  intro m
  induction m with
  | zero =>
    intro x y N hy hN hx _
    obtain ⟨M, rfl⟩ : ∃ M, N = M + 1 := ⟨N - 1, by omega⟩
    have : y = 0 := by simpa using hy
    subst this
    show pu_lf a b c (nb_lp2 (pu_lf a b c) M) _ _ = _
    rw [pu_lf0, Nat.gcd_zero_right]
  | succ m ih =>
    intro x y N hy hN hx hy2
    obtain ⟨M, rfl⟩ : ∃ M, N = M + 2 := ⟨N - 2, by omega⟩
    show pu_lf a b c (nb_lp2 (pu_lf a b c) (M + 1)) _ _ = _
    by_cases h0 : y = 0
    · subst h0
      rw [pu_lf0, Nat.gcd_zero_right]
    · have hyp : 0 < y := by omega
      have hr := Nat.mod_lt x hyp
      rw [pu_lf1 hyp hx hy2]
      show pu_lf a b c (nb_lp2 (pu_lf a b c) M) _ _ = _
      by_cases h1 : x % y = 0
      · rw [h1, pu_lf0]
        have : Nat.gcd x y = y := by
          rw [Nat.gcd_comm, Nat.gcd_rec, h1, Nat.gcd_zero_left]
        rw [this]
      · have hrp : 0 < x % y := by omega
        have hh := pu_half hyp hrp
        have hlt := Nat.mod_lt y hrp
        rw [pu_lf1 hrp hy2 (by omega), ih (x % y) (y % (x % y)) M (by rw [Nat.pow_succ] at hy; omega) (by omega) (by omega) (by omega)]
        have e : Nat.gcd x y = Nat.gcd (x % y) (y % (x % y)) := by
          rw [Nat.gcd_comm x y, Nat.gcd_rec y x, Nat.gcd_rec (x % y) y, Nat.gcd_comm (y % (x % y)) (x % y)]
        rw [e]
theorem pu_lowest8 {N : Nat} {τ : nb_St} {x y : Nat} {c : Int32} (hN : 64 < N) (hx : x < 2 ^ 31) (hy0 : 0 < y) (hy : y < 2 ^ 31) : fX8_lowest N τ (lN x) (lN y) c = some (lN ((if c = 0 then x else y) / Nat.gcd x y)) := by
  have hg : 0 < Nat.gcd x y := Nat.gcd_pos_of_pos_right _ hy0
  have hgl : Nat.gcd x y < 2 ^ 31 := Nat.lt_of_le_of_lt (Nat.gcd_le_right _ hy0) hy
  have h := pu_lowl (a := lN x) (b := lN y) (c := c) 31 x y N hy (by omega) hx hy
  have h2 : fX8_lowest N τ (lN x) (lN y) c = nb_lp2 (pu_lf (lN x) (lN y) c) N (lN x) (lN y) := rfl
  rw [h2, h]
  unfold pu_lr
  rw [nb_g_t (decide_eq_true (pu_l0 hg hgl)), nb_g_t (decide_eq_true (pu_l0 hg hgl)), pk_lDiv (by omega) hg (by omega), pk_lDiv (by omega) hg (by omega)]
  split <;> rfl
theorem pu_lowest7 {N : Nat} {σ : nb_St} {x y : Nat} {c : Int32} (hN : 64 < N) (hx : x < 2 ^ 31) (hy0 : 0 < y) (hy : y < 2 ^ 31) : fX7_inLowestTerms N σ (nI x) (nI y) c = some (nI ((if c = 0 then x else y) / Nat.gcd x y)) := by
  have hg : 0 < Nat.gcd x y := Nat.gcd_pos_of_pos_right _ hy0
  have hgl : Nat.gcd x y < 2 ^ 31 := Nat.lt_of_le_of_lt (Nat.gcd_le_right _ hy0) hy
  have hm : nb_max (nI (Nat.gcd x y)) 1 = nI (Nat.gcd x y) := by
    unfold nb_max
    rw [if_neg (show ¬ nI (Nat.gcd x y) < (1 : Int32) from nI_nlt (b := 1) hg hgl)]
  have h0 : (0 : Int32) < nI y := nI_lt (a := 0) hy0 hy
  simp only [fX7_inLowestTerms, nb_let]
  rw [if_pos h0, pu_gcd7 hN hy hx, pu_b1, Nat.gcd_comm y x, hm, nb_g_t (decide_eq_true (nI_ne0 hg hgl)), nb_g_t (decide_eq_true (nI_ne0 hg hgl)), pk_div hx hg hgl, pk_div hy hg hgl]
  split <;> rfl
