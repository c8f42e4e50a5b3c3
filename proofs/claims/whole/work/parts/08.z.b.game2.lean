section
section
variable (W S : Nat → Nat) (m : Nat)
def gSL (c : Nat) : Nat → Nat := fun k => dg 6 m c k
def grs (c : Nat) : Bool := gm_rest W S m (gSL m c)
def gsu (c : Nat) : Nat := gsm W S m (gSL m c)
def grn (n : Nat) : Nat := su (fun c => if grs W S m c = true then 1 else 0) n
def gmR : Nat → Nat
  | 0 => 100000
  | n + 1 => if grs W S m n = true then min (gmR n) (gsu W S m n) else gmR n
def gmA : Nat → Nat
  | 0 => 100000
  | n + 1 => min (gmA n) (gsu W S m n)
def gfr : Nat → Nat
  | 0 => 0
  | n + 1 => if grs W S m n = true ∧ grn W S m n = 0 then n else gfr n
end
theorem gSL_le {m c k : Nat} : gSL m c k ≤ 5 := by
  have := dg_lt (b := 6) (o := m) (c := c) (k := k) (by omega)
  unfold gSL; omega
theorem grn_s {W S : Nat → Nat} {m n : Nat} : grn W S m (n + 1) = grn W S m n + if grs W S m n = true then 1 else 0 := rfl
theorem grn_le {W S : Nat → Nat} {m n : Nat} : grn W S m n ≤ n := by
  have := su_le (f := fun c => if grs W S m c = true then 1 else 0) (B := 1) n (fun k _ => by
    show (if grs W S m k = true then 1 else 0) ≤ 1
    split <;> omega)
  unfold grn
  omega
theorem gmR_le {W S : Nat → Nat} {m : Nat} : ∀ n, gmR W S m n ≤ 100000
  | 0 => Nat.le_refl _
  | n + 1 => by
    have := gmR_le (W := W) (S := S) (m := m) n
    unfold gmR
    split <;> omega
theorem gmA_le {W S : Nat → Nat} {m : Nat} : ∀ n, gmA W S m n ≤ 100000
  | 0 => Nat.le_refl _
  | n + 1 => by
    have := gmA_le (W := W) (S := S) (m := m) n
    unfold gmA
    omega
theorem gmA_R {W S : Nat → Nat} {m : Nat} : ∀ n, gmA W S m n ≤ gmR W S m n
  | 0 => Nat.le_refl _
  | n + 1 => by
    have := gmA_R (W := W) (S := S) (m := m) n
    unfold gmA gmR
    split <;> omega
theorem gfr_first {W S : Nat → Nat} {m j : Nat} (h0 : grn W S m j = 0) (h1 : grs W S m j = true) : ∀ n, j < n → gfr W S m n = j ∧ 0 < grn W S m n
  | 0, h => absurd h (by omega)
  | n + 1, h => by
    unfold gfr
    rw [grn_s]
    by_cases c : n = j
    · subst c
      rw [if_pos ⟨h1, h0⟩, if_pos h1]
      exact ⟨rfl, by omega⟩
    · obtain ⟨q1, q2⟩ := gfr_first h0 h1 n (by omega)
      rw [if_neg (fun q => by omega)]
      exact ⟨q1, by omega⟩
/-- W and S of the pairs, in their order -/
def pmx (P f : Nat → Nat) (p : Nat) : Nat → Nat
  | 0 => 0
  | n + 1 => if P n = p then max (pmx P f p n) (f n) else pmx P f p n
theorem pmx_le {P f : Nat → Nat} {p B : Nat} : ∀ n, (∀ k, k < n → f k ≤ B) → pmx P f p n ≤ B
  | 0, _ => Nat.zero_le _
  | n + 1, h => by
    have h1 := pmx_le (P := P) (p := p) n (fun k hk => h k (by omega))
    have h2 := h n (by omega)
    unfold pmx
    split <;> omega
def gml (P W S : Nat → Nat) (g : Nat) : Nat → Nat × (Nat → Nat) × (Nat → Nat)
  | 0 => (0, zz1, zz1)
  | p + 1 => if hpn P g p = true then ((gml P W S g p).1 + 1, us (gml P W S g p).2.1 (gml P W S g p).1 (pmx P W p g), us (gml P W S g p).2.2 (gml P W S g p).1 (pmx P S p g)) else gml P W S g p
theorem gml_le {P W S : Nat → Nat} {g : Nat} (hW : ∀ k, k < g → W k ≤ 359) (hS : ∀ k, k < g → S k ≤ 199) : ∀ p, (gml P W S g p).1 ≤ p ∧ (∀ k, k < (gml P W S g p).1 → (gml P W S g p).2.1 k ≤ 359) ∧ ∀ k, k < (gml P W S g p).1 → (gml P W S g p).2.2 k ≤ 199
  | 0 => ⟨Nat.le_refl _, fun k hk => absurd hk (Nat.not_lt_zero _), fun k hk => absurd hk (Nat.not_lt_zero _)⟩
  | p + 1 => by
    obtain ⟨h1, h2, h3⟩ := gml_le (P := P) hW hS p
    unfold gml
    by_cases c : hpn P g p = true
    · rw [if_pos c]
      refine ⟨by show (gml P W S g p).1 + 1 ≤ p + 1; omega, fun k hk => ?_, fun k hk => ?_⟩
      · have hk : k < (gml P W S g p).1 + 1 := hk
        show us (gml P W S g p).2.1 (gml P W S g p).1 (pmx P W p g) k ≤ 359
        by_cases q : k = (gml P W S g p).1
        · rw [q, us_s]; exact pmx_le g hW
        · rw [us_n q]; exact h2 k (by omega)
      · have hk : k < (gml P W S g p).1 + 1 := hk
        show us (gml P W S g p).2.2 (gml P W S g p).1 (pmx P S p g) k ≤ 199
        by_cases q : k = (gml P W S g p).1
        · rw [q, us_s]; exact pmx_le g hS
        · rw [us_n q]; exact h3 k (by omega)
    · rw [if_neg c]
      exact ⟨by omega, h2, h3⟩
theorem hpn_b {P : Nat → Nat} {n p : Nat} : hpn P (n + 1) p = (hpn P n p || P n == p) := rfl
theorem pz_gather {N : Nat} {σ : nb_St} {q g : Nat} {P W S : Nat → Nat} (hN : 10 < N) (hq : q = 4 ∨ q = 20) (hg : σ q 0 = nI g) (hg8 : g ≤ 8) (hP : ∀ k, k < g → σ (q + 1) k = nI (P k) ∧ P k < 4) (hW : ∀ k, k < g → σ (q + 2) k = nI (W k) ∧ W k ≤ 359) (hS : ∀ k, k < g → σ (q + 3) k = nI (S k) ∧ S k ≤ 199) : ∃ r, fX1_gather N σ q = some r ∧ (∀ k, k ≠ 64 → k ≠ 65 → k ≠ 66 → r k = σ k) ∧ r 64 0 = nI 0 ∧ r 64 1 = nI (gml P W S g 4).1 ∧ (∀ k, k < (gml P W S g 4).1 → r 65 k = nI ((gml P W S g 4).2.1 k)) ∧ ∀ k, k < (gml P W S g 4).1 → r 66 k = nI ((gml P W S g 4).2.2 k) := by
  have hW2 : ∀ k, k < g → W k ≤ 359 := fun k hk => (hW k hk).2
  have hS2 : ∀ k, k < g → S k ≤ 199 := fun k hk => (hS k hk).2
  unfold fX1_gather
  simp only [nb_let]
  refine nb_e2 (I := fun p x s => p ≤ 4 ∧ x = nI p ∧ (∀ k, k ≠ 64 → k ≠ 65 → k ≠ 66 → s k = σ k) ∧ s 64 0 = nI 0 ∧ s 64 1 = nI (gml P W S g p).1 ∧ (∀ k, k < (gml P W S g p).1 → s 65 k = nI ((gml P W S g p).2.1 k)) ∧ ∀ k, k < (gml P W S g p).1 → s 66 k = nI ((gml P W S g p).2.2 k)) 4 ?_ (by omega) ⟨by omega, rfl, fun k k1 _ _ => by rw [nb_st_k k1, nb_st_k k1], ?_, ?_, fun k hk => absurd hk (Nat.not_lt_zero _), fun k hk => absurd hk (Nat.not_lt_zero _)⟩
  · rintro ag p x s ⟨hp, rfl, f1, f2, f3, f4, f5⟩
    obtain ⟨m, hm⟩ : ∃ m, m = (gml P W S g p).1 := ⟨_, rfl⟩
    have ml := (gml_le (P := P) hW2 hS2 p).1
    have gs1 : gml P W S g (p + 1) = if hpn P g p = true then ((gml P W S g p).1 + 1, us (gml P W S g p).2.1 (gml P W S g p).1 (pmx P W p g), us (gml P W S g p).2.2 (gml P W S g p).1 (pmx P S p g)) else gml P W S g p := rfl
    rw [← hm] at f3 f4 f5 ml gs1
    by_cases hlt : p < 4
    · right
      refine ⟨hlt, ?_⟩
      simp (disch := omega) only [pn_g, pu_b1, pn_b2, pn_leT, pn_leF, pn_ltT, pn_ltF, pn_eqT, pn_eqF, pu_in, pu_ix, nI_add, pk_mul, pk_sub, ↓reduceIte, Bool.false_eq_true, if_false, if_true, nb_st_s, nb_st_k, nb_st_n, nb_sa_s, nb_sa_n, pL0, pL1, pL2, pL3, pL4, pL5, pL6, pL7, pL8, pL9, pL10, pL11, pL12, pL13, pL15, pL20, pL30, pL99, pL100, pL180, pL240, pL255, pL350, pL359, pL719, pL720, pL999, pL9999, pL99999, pL100000, pL1000000, f3]
      refine nb_c3 (K := fun v => ∃ (b0 : Int32) (b1 : nb_St), (p + 1 ≤ 4 ∧ b0 = nI (p + 1) ∧ (∀ k, k ≠ 64 → k ≠ 65 → k ≠ 66 → b1 k = σ k) ∧ b1 64 0 = nI 0 ∧ b1 64 1 = nI (gml P W S g (p + 1)).1 ∧ (∀ k, k < (gml P W S g (p + 1)).1 → b1 65 k = nI ((gml P W S g (p + 1)).2.1 k)) ∧ ∀ k, k < (gml P W S g (p + 1)).1 → b1 66 k = nI ((gml P W S g (p + 1)).2.2 k)) ∧ v = ag b0 b1) (I := fun i x y (t : nb_St) => i ≤ g ∧ y = nI i ∧ (∃ c, x = nI c ∧ c ≤ i ∧ (0 < c ↔ hpn P i p = true)) ∧ (∀ k, k ≠ 65 → k ≠ 66 → t k = s k) ∧ (∀ k, k < m → t 65 k = s 65 k) ∧ (∀ k, k < m → t 66 k = s 66 k) ∧ t 65 m = nI (pmx P W p i) ∧ t 66 m = nI (pmx P S p i)) g ?_ (by omega) ⟨by omega, rfl, ⟨0, rfl, by omega, ⟨fun q => absurd q (by omega), fun q => absurd (show false = true from q) (by decide)⟩⟩, fun k k1 k2 => by rw [nb_st_k k2, nb_st_k k1], fun k hk => by rw [nb_st_k (by decide), nb_st_n (Or.inr (by omega))], fun k hk => by rw [nb_st_n (Or.inr (by omega)), nb_st_k (by decide)], by rw [nb_st_k (by decide), nb_st_s]; rfl, by rw [nb_st_s]; rfl⟩
      rintro ag2 i x y t ⟨hi, rfl, ⟨c, rfl, c1, c2⟩, g1, g2, g3, g4, g5⟩
      have tq : t q 0 = nI g := by rw [g1 q (by omega) (by omega), f1 q (by omega) (by omega) (by omega)]; exact hg
      have t1 : t 64 1 = nI m := by rw [g1 64 (by decide) (by decide)]; exact f3
      by_cases hlt2 : i < g
      · right
        obtain ⟨p1, p2⟩ := hP i hlt2
        obtain ⟨w1, w2⟩ := hW i hlt2
        obtain ⟨s1, s2⟩ := hS i hlt2
        have u1 : t (q + 1) i = nI (P i) := by rw [g1 _ (by omega) (by omega), f1 _ (by omega) (by omega) (by omega)]; exact p1
        have u2 : t (q + 2) i = nI (W i) := by rw [g1 _ (by omega) (by omega), f1 _ (by omega) (by omega) (by omega)]; exact w1
        have u3 : t (q + 3) i = nI (S i) := by rw [g1 _ (by omega) (by omega), f1 _ (by omega) (by omega) (by omega)]; exact s1
        have b1 := pmx_le (P := P) (f := W) (p := p) (B := 359) i (fun k hk => hW2 k (by omega))
        have b2 := pmx_le (P := P) (f := S) (p := p) (B := 199) i (fun k hk => hS2 k (by omega))
        have x1 : pmx P W p (i + 1) = if P i = p then max (pmx P W p i) (W i) else pmx P W p i := rfl
        have x2 : pmx P S p (i + 1) = if P i = p then max (pmx P S p i) (S i) else pmx P S p i := rfl
        by_cases cp : P i = p
        · rw [if_pos cp] at x1 x2
          have hd : (nI (P i) = nI p) = True := eq_true (by rw [cp])
          have n65 : q + 3 ≠ 65 := by omega
          refine ⟨hlt2, nI (c + 1), nI (i + 1), nb_st (nb_st t 65 m (nI (max (pmx P W p i) (W i)))) 66 m (nI (max (pmx P S p i) (S i))), ⟨by omega, rfl, ⟨c + 1, rfl, by omega, ?_⟩, fun k k1 k2 => by rw [nb_st_k k2, nb_st_k k1]; exact g1 k k1 k2, fun k hk => by rw [nb_st_k (by decide), nb_st_n (Or.inr (by omega))]; exact g2 k hk, fun k hk => by rw [nb_st_n (Or.inr (by omega)), nb_st_k (by decide)]; exact g3 k hk, by rw [nb_st_k (by decide), nb_st_s, x1], by rw [nb_st_s, x2]⟩, ?_⟩
          · rw [hpn_b, Bool.or_eq_true, beq_iff_eq]
            exact ⟨fun _ => Or.inr cp, fun _ => by omega⟩
          · simp (disch := omega) only [pn_g, pu_b1, pn_b2, pn_leT, pn_leF, pn_ltT, pn_ltF, pn_eqT, pn_eqF, pu_in, pu_ix, nI_add, pk_mul, pk_sub, ↓reduceIte, Bool.false_eq_true, if_false, if_true, nb_st_s, nb_st_k, nb_st_n, nb_sa_s, nb_sa_n, pL0, pL1, pL2, pL3, pL4, pL5, pL6, pL7, pL8, pL9, pL10, pL11, pL12, pL13, pL15, pL20, pL30, pL99, pL100, pL180, pL240, pL255, pL350, pL359, pL719, pL720, pL999, pL9999, pL99999, pL100000, pL1000000, tq, u1, hd, t1, g4, u2, g5, u3, pu_maxN]
        · rw [if_neg cp] at x1 x2
          refine ⟨hlt2, nI c, nI (i + 1), t, ⟨by omega, rfl, ⟨c, rfl, by omega, ?_⟩, g1, g2, g3, by rw [x1]; exact g4, by rw [x2]; exact g5⟩, ?_⟩
          · rw [hpn_b, Bool.or_eq_true, beq_iff_eq, c2]
            exact ⟨fun q => Or.inl q, fun q => q.resolve_right cp⟩
          · simp (disch := omega) only [pn_g, pu_b1, pn_b2, pn_leT, pn_leF, pn_ltT, pn_ltF, pn_eqT, pn_eqF, pu_in, pu_ix, nI_add, pk_mul, pk_sub, ↓reduceIte, Bool.false_eq_true, if_false, if_true, nb_st_s, nb_st_k, nb_st_n, nb_sa_s, nb_sa_n, pL0, pL1, pL2, pL3, pL4, pL5, pL6, pL7, pL8, pL9, pL10, pL11, pL12, pL13, pL15, pL20, pL30, pL99, pL100, pL180, pL240, pL255, pL350, pL359, pL719, pL720, pL999, pL9999, pL99999, pL100000, pL1000000, tq, u1]
      · left
        have : i = g := by omega
        subst this
        by_cases cc : hpn P i p = true
        · have c3 := c2.mpr cc
          rw [if_pos cc] at gs1
          refine ⟨nI (p + 1), nb_st t 64 1 (nI (m + 1)), ⟨by omega, rfl, fun k k1 k2 k3 => by rw [nb_st_k k1, g1 k k2 k3]; exact f1 k k1 k2 k3, by rw [nb_st_n (by decide), g1 64 (by decide) (by decide)]; exact f2, by rw [nb_st_s, gs1], fun k hk => ?_, fun k hk => ?_⟩, ?_⟩
          · rw [gs1] at hk ⊢
            have hk : k < m + 1 := hk
            rw [nb_st_k (by decide)]
            show t 65 k = nI (us (gml P W S i p).2.1 m (pmx P W p i) k)
            by_cases q : k = m
            · subst q; rw [us_s]; exact g4
            · rw [us_n q, g2 k (by omega)]; exact f4 k (by omega)
          · rw [gs1] at hk ⊢
            have hk : k < m + 1 := hk
            rw [nb_st_k (by decide)]
            show t 66 k = nI (us (gml P W S i p).2.2 m (pmx P S p i) k)
            by_cases q : k = m
            · subst q; rw [us_s]; exact g5
            · rw [us_n q, g3 k (by omega)]; exact f5 k (by omega)
          · simp (disch := omega) only [pn_g, pu_b1, pn_b2, pn_leT, pn_leF, pn_ltT, pn_ltF, pn_eqT, pn_eqF, pu_in, pu_ix, nI_add, pk_mul, pk_sub, ↓reduceIte, Bool.false_eq_true, if_false, if_true, nb_st_s, nb_st_k, nb_st_n, nb_sa_s, nb_sa_n, pL0, pL1, pL2, pL3, pL4, pL5, pL6, pL7, pL8, pL9, pL10, pL11, pL12, pL13, pL15, pL20, pL30, pL99, pL100, pL180, pL240, pL255, pL350, pL359, pL719, pL720, pL999, pL9999, pL99999, pL100000, pL1000000, tq, t1]
        · have c3 : c = 0 := by
            by_cases c0 : 0 < c
            · exact absurd (c2.mp c0) cc
            · omega
          subst c3
          rw [if_neg cc] at gs1
          refine ⟨nI (p + 1), t, ⟨by omega, rfl, fun k k1 k2 k3 => by rw [g1 k k2 k3]; exact f1 k k1 k2 k3, by rw [g1 64 (by decide) (by decide)]; exact f2, by rw [gs1, ← hm]; exact t1, fun k hk => ?_, fun k hk => ?_⟩, ?_⟩
          · rw [gs1, ← hm] at hk
            rw [gs1, g2 k hk]
            exact f4 k hk
          · rw [gs1, ← hm] at hk
            rw [gs1, g3 k hk]
            exact f5 k hk
          · simp (disch := omega) only [pn_g, pu_b1, pn_b2, pn_leT, pn_leF, pn_ltT, pn_ltF, pn_eqT, pn_eqF, pu_in, pu_ix, nI_add, pk_mul, pk_sub, ↓reduceIte, Bool.false_eq_true, if_false, if_true, nb_st_s, nb_st_k, nb_st_n, nb_sa_s, nb_sa_n, pL0, pL1, pL2, pL3, pL4, pL5, pL6, pL7, pL8, pL9, pL10, pL11, pL12, pL13, pL15, pL20, pL30, pL99, pL100, pL180, pL240, pL255, pL350, pL359, pL719, pL720, pL999, pL9999, pL99999, pL100000, pL1000000, tq]
    · left
      have : p = 4 := by omega
      subst this
      rw [hm] at f3 f4 f5
      refine ⟨s, ?_, f1, f2, f3, f4, f5⟩
      simp (disch := omega) only [pn_g, pu_b1, pn_b2, pn_leT, pn_leF, pn_ltT, pn_ltF, pn_eqT, pn_eqF, pu_in, pu_ix, nI_add, pk_mul, pk_sub, ↓reduceIte, Bool.false_eq_true, if_false, if_true, nb_st_s, nb_st_k, nb_st_n, nb_sa_s, nb_sa_n, pL0, pL1, pL2, pL3, pL4, pL5, pL6, pL7, pL8, pL9, pL10, pL11, pL12, pL13, pL15, pL20, pL30, pL99, pL100, pL180, pL240, pL255, pL350, pL359, pL719, pL720, pL999, pL9999, pL99999, pL100000, pL1000000]
  · rw [nb_st_n (by decide), nb_st_s]; rfl
  · rw [nb_st_s]; rfl
theorem pz_lay8 {N : Nat} {τ : nb_St} {g : Nat} {P W S : Nat → Nat} (hN : 10 < N) (hg : τ 2 0 = nI g) (hg8 : g ≤ 8) (hP : ∀ k, k < g → τ 3 k = nI (P k) ∧ P k < 4) (hW : ∀ k, k < g → τ 4 k = nI (W k) ∧ W k ≤ 359) (hS : ∀ k, k < g → τ 5 k = nI (S k) ∧ S k ≤ 199) : ∃ r, fX8_layGame N τ = some r ∧ (∀ k, k ≠ 0 → k ≠ 29 → k ≠ 30 → r k = τ k) ∧ (∀ j, j ≠ 36 → r 0 j = τ 0 j) ∧ r 0 36 = nI (gml P W S g 4).1 ∧ (∀ k, k < (gml P W S g 4).1 → r 29 k = nI ((gml P W S g 4).2.1 k)) ∧ ∀ k, k < (gml P W S g 4).1 → r 30 k = nI ((gml P W S g 4).2.2 k) := by
  have hW2 : ∀ k, k < g → W k ≤ 359 := fun k hk => (hW k hk).2
  have hS2 : ∀ k, k < g → S k ≤ 199 := fun k hk => (hS k hk).2
  unfold fX8_layGame
  simp only [nb_let]
  refine nb_e2 (I := fun p x s => p ≤ 4 ∧ x = nI p ∧ (∀ k, k ≠ 0 → k ≠ 29 → k ≠ 30 → s k = τ k) ∧ (∀ j, j ≠ 36 → s 0 j = τ 0 j) ∧ s 0 36 = nI (gml P W S g p).1 ∧ (∀ k, k < (gml P W S g p).1 → s 29 k = nI ((gml P W S g p).2.1 k)) ∧ ∀ k, k < (gml P W S g p).1 → s 30 k = nI ((gml P W S g p).2.2 k)) 4 ?_ (by omega) ⟨by omega, rfl, fun k k1 _ _ => nb_st_k k1, fun j hj => nb_st_n (Or.inr hj), nb_st_s, fun k hk => absurd hk (Nat.not_lt_zero _), fun k hk => absurd hk (Nat.not_lt_zero _)⟩
  rintro ag p x s ⟨hp, rfl, f1, f2, f3, f4, f5⟩
  obtain ⟨m, hm⟩ : ∃ m, m = (gml P W S g p).1 := ⟨_, rfl⟩
  have ml := (gml_le (P := P) hW2 hS2 p).1
  have gs1 : gml P W S g (p + 1) = if hpn P g p = true then ((gml P W S g p).1 + 1, us (gml P W S g p).2.1 (gml P W S g p).1 (pmx P W p g), us (gml P W S g p).2.2 (gml P W S g p).1 (pmx P S p g)) else gml P W S g p := rfl
  rw [← hm] at f3 f4 f5 ml gs1
  have tq : s 2 0 = nI g := by rw [f1 2 (by decide) (by decide) (by decide)]; exact hg
  have m4 : (-4 : Int32) < 0 := by decide
  have hneg : ∀ {a : Nat}, a < 1000 → ¬ nI a ≤ -4 := fun {a} ha q => by
    rw [Int32.le_iff_toInt_le, nI_toInt (by omega), show (-4 : Int32).toInt = -4 from by decide] at q
    omega
  by_cases hlt : p < 4
  · right
    refine ⟨hlt, ?_⟩
    rw [if_neg (show ¬ (4 : Int32) ≤ nI p from nI_ge (b := 4) hlt (by omega))]
    refine nb_c3 (K := fun v => ∃ (b0 : Int32) (b1 : nb_St), (p + 1 ≤ 4 ∧ b0 = nI (p + 1) ∧ (∀ k, k ≠ 0 → k ≠ 29 → k ≠ 30 → b1 k = τ k) ∧ (∀ j, j ≠ 36 → b1 0 j = τ 0 j) ∧ b1 0 36 = nI (gml P W S g (p + 1)).1 ∧ (∀ k, k < (gml P W S g (p + 1)).1 → b1 29 k = nI ((gml P W S g (p + 1)).2.1 k)) ∧ ∀ k, k < (gml P W S g (p + 1)).1 → b1 30 k = nI ((gml P W S g (p + 1)).2.2 k)) ∧ v = ag b0 b1) (I := fun i x y w => i ≤ g ∧ w = nI i ∧ ((hpn P i p = true ∧ x = nI (pmx P W p i) ∧ y = nI (pmx P S p i)) ∨ (¬ hpn P i p = true ∧ x = -4 ∧ y = -4 ∧ pmx P W p i = 0 ∧ pmx P S p i = 0))) g ?_ (by omega) ⟨by omega, rfl, Or.inr ⟨fun q => absurd (show false = true from q) (by decide), rfl, rfl, rfl, rfl⟩⟩
    rintro ag2 i x y w ⟨hi, rfl, hx⟩
    by_cases hlt2 : i < g
    · right
      refine ⟨hlt2, ?_⟩
      obtain ⟨p1, p2⟩ := hP i hlt2
      obtain ⟨w1, w2⟩ := hW i hlt2
      obtain ⟨s1, s2⟩ := hS i hlt2
      have u1 : s 3 i = nI (P i) := by rw [f1 _ (by decide) (by decide) (by decide)]; exact p1
      have u2 : s 4 i = nI (W i) := by rw [f1 _ (by decide) (by decide) (by decide)]; exact w1
      have u3 : s 5 i = nI (S i) := by rw [f1 _ (by decide) (by decide) (by decide)]; exact s1
      have b1 := pmx_le (P := P) (f := W) (p := p) (B := 359) i (fun k hk => hW2 k (by omega))
      have b2 := pmx_le (P := P) (f := S) (p := p) (B := 199) i (fun k hk => hS2 k (by omega))
      have x1 : pmx P W p (i + 1) = if P i = p then max (pmx P W p i) (W i) else pmx P W p i := rfl
      have x2 : pmx P S p (i + 1) = if P i = p then max (pmx P S p i) (S i) else pmx P S p i := rfl
      have g0 : nb_in (0 : Int32) 2 = true := by decide
      have i0 : nb_ix (0 : Int32) = 0 := rfl
      rw [nb_g_t g0, i0, tq, if_neg (nI_ge hlt2 (by omega))]
      simp only [nb_g_t (pu_in (show i < 16 by omega) (show 16 < 2 ^ 31 by omega)), pu_ix (show i < 2 ^ 31 by omega), u1, u2, u3, nI_1]
      by_cases cp : P i = p
      · rw [if_pos cp] at x1 x2
        have hp1 : hpn P (i + 1) p = true := by rw [hpn_b, Bool.or_eq_true, beq_iff_eq]; exact Or.inr cp
        refine ⟨nI (pmx P W p (i + 1)), nI (pmx P S p (i + 1)), nI (i + 1), ⟨by omega, rfl, Or.inl ⟨hp1, rfl, rfl⟩⟩, ?_⟩
        rw [x1, x2, if_pos (show nI (P i) = nI p by rw [cp]), if_pos (show nI (P i) = nI p by rw [cp])]
        rcases hx with ⟨-, rfl, rfl⟩ | ⟨-, rfl, rfl, z1, z2⟩
        · by_cases cw : W i ≤ pmx P W p i
          · rw [if_pos (nI_le cw (by omega)), Nat.max_eq_left cw]
            by_cases cs : S i ≤ pmx P S p i
            · rw [if_pos (nI_le cs (by omega)), Nat.max_eq_left cs]
            · rw [if_neg (nI_ge (by omega) (by omega)), Nat.max_eq_right (by omega)]
          · rw [if_neg (nI_ge (by omega) (by omega)), Nat.max_eq_right (by omega)]
            by_cases cs : S i ≤ pmx P S p i
            · rw [if_pos (nI_le cs (by omega)), Nat.max_eq_left cs, if_pos (show nI (P i) = nI p by rw [cp])]
            · rw [if_neg (nI_ge (by omega) (by omega)), Nat.max_eq_right (by omega), if_pos (show nI (P i) = nI p by rw [cp])]
        · rw [z1, z2, if_neg (hneg (by omega)), if_neg (hneg (by omega)), Nat.max_eq_right (by omega), Nat.max_eq_right (by omega), if_pos (show nI (P i) = nI p by rw [cp])]
      · rw [if_neg cp] at x1 x2
        have hp1 : hpn P (i + 1) p = true ↔ hpn P i p = true := by
          rw [hpn_b, Bool.or_eq_true, beq_iff_eq]
          exact ⟨fun q => q.resolve_right cp, Or.inl⟩
        have hn : ¬ nI (P i) = nI p := fun q => cp ((nI_eq (by omega) (by omega)).mp q)
        refine ⟨x, y, nI (i + 1), ⟨by omega, rfl, ?_⟩, ?_⟩
        · rw [hp1, x1, x2]; exact hx
        · rw [if_neg hn, if_neg hn]
    · left
      have : i = g := by omega
      subst this
      have g0 : nb_in (0 : Int32) 2 = true := by decide
      have i0 : nb_ix (0 : Int32) = 0 := rfl
      have b1 := pmx_le (P := P) (f := W) (p := p) (B := 359) i hW2
      have b2 := pmx_le (P := P) (f := S) (p := p) (B := 199) i hS2
      rcases hx with ⟨cc, rfl, rfl⟩ | ⟨cc, rfl, rfl, z1, z2⟩
      · rw [if_pos cc] at gs1
        refine ⟨nI (p + 1), nb_st (nb_st (nb_st s 29 m (nI (pmx P W p i))) 30 m (nI (pmx P S p i))) 0 36 (nI (m + 1)), ⟨by omega, rfl, fun k k1 k2 k3 => by rw [nb_st_k k1, nb_st_k k3, nb_st_k k2]; exact f1 k k1 k2 k3, fun j hj => by rw [nb_st_n (Or.inr hj), nb_st_k (by decide), nb_st_k (by decide)]; exact f2 j hj, by rw [nb_st_s, gs1], fun k hk => ?_, fun k hk => ?_⟩, ?_⟩
        · rw [gs1] at hk ⊢
          have hk : k < m + 1 := hk
          rw [nb_st_k (by decide), nb_st_k (by decide)]
          show _ = nI (us (gml P W S i p).2.1 m (pmx P W p i) k)
          by_cases q : k = m
          · subst q; rw [us_s, nb_st_s]
          · rw [us_n q, nb_st_n (Or.inr q)]; exact f4 k (by omega)
        · rw [gs1] at hk ⊢
          have hk : k < m + 1 := hk
          rw [nb_st_k (by decide)]
          show _ = nI (us (gml P W S i p).2.2 m (pmx P S p i) k)
          by_cases q : k = m
          · subst q; rw [us_s, nb_st_s]
          · rw [us_n q, nb_st_n (Or.inr q), nb_st_k (by decide)]; exact f5 k (by omega)
        · simp (disch := omega) only [pn_g, pu_b1, pn_b2, pn_leT, pn_leF, pn_ltT, pn_ltF, pn_eqT, pn_eqF, pu_in, pu_ix, nI_add, pk_mul, pk_sub, ↓reduceIte, Bool.false_eq_true, if_false, if_true, nb_st_s, nb_st_k, nb_st_n, nb_sa_s, nb_sa_n, pL0, pL1, pL2, pL3, pL4, pL5, pL6, pL7, pL8, pL9, pL10, pL11, pL12, pL13, pL15, pL20, pL30, pL99, pL100, pL180, pL240, pL255, pL350, pL359, pL719, pL720, pL999, pL9999, pL99999, pL100000, pL1000000, tq, f3]
      · rw [if_neg cc] at gs1
        refine ⟨nI (p + 1), s, ⟨by omega, rfl, f1, f2, by rw [gs1, ← hm]; exact f3, fun k hk => ?_, fun k hk => ?_⟩, ?_⟩
        · rw [gs1, ← hm] at hk
          rw [gs1]
          exact f4 k hk
        · rw [gs1, ← hm] at hk
          rw [gs1]
          exact f5 k hk
        · rw [nb_g_t g0, i0, tq, if_pos (nI_le (Nat.le_refl _) (by omega)), if_pos m4, nI_1]
  · left
    have : p = 4 := by omega
    subst this
    rw [hm] at f3 f4 f5
    refine ⟨s, ?_, f1, f2, f3, f4, f5⟩
    simp (disch := omega) only [pn_g, pu_b1, pn_b2, pn_leT, pn_leF, pn_ltT, pn_ltF, pn_eqT, pn_eqF, pu_in, pu_ix, nI_add, pk_mul, pk_sub, ↓reduceIte, Bool.false_eq_true, if_false, if_true, nb_st_s, nb_st_k, nb_st_n, nb_sa_s, nb_sa_n, pL0, pL1, pL2, pL3, pL4, pL5, pL6, pL7, pL8, pL9, pL10, pL11, pL12, pL13, pL15, pL20, pL30, pL99, pL100, pL180, pL240, pL255, pL350, pL359, pL719, pL720, pL999, pL9999, pL99999, pL100000, pL1000000]
end
