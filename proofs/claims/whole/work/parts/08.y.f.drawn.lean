section
def dXv (z k i : Nat) : Nat := 7919 * z + 6151 * i + 3571 * k + 1
def dX (z k i : Nat) : Bool := decide (dXv z k i * dXv z k i % 65521 % 10 < 6)
theorem dXv_le {z k i : Nat} (hz : z ≤ 9999) (hk : k < 9) (hi : i < 8) : dXv z k i < 100000000 := by
  unfold dXv; omega
theorem dX_cmp {z k i : Nat} (hz : z ≤ 9999) (hk : k < 9) (hi : i < 8) : (0 ≤ lg_cmp (nb_lrem (nb_lrem (lN (dXv z k i) * lN (dXv z k i)) (65521 : Int64)) (10 : Int64)) (6 : Int64)) ↔ ¬ dX z k i = true := by
  have hb := dXv_le hz hk hi
  have hb2 : dXv z k i * dXv z k i < 10000000000000000 := by
    have := Nat.mul_lt_mul'' hb hb
    omega
  have e1 : nb_lrem (lN (dXv z k i * dXv z k i)) (65521 : Int64) = lN (dXv z k i * dXv z k i % 65521) := pk_lRem (b := 65521) (by omega) (by omega) (by omega)
  have h2 : dXv z k i * dXv z k i % 65521 < 65521 := Nat.mod_lt _ (by omega)
  have e2 : nb_lrem (lN (dXv z k i * dXv z k i % 65521)) (10 : Int64) = lN (dXv z k i * dXv z k i % 65521 % 10) := pk_lRem (b := 10) (by omega) (by omega) (by omega)
  rw [lN_mul, e1, e2, lg_cmp_ge]
  have h3 : dXv z k i * dXv z k i % 65521 % 10 < 10 := Nat.mod_lt _ (by omega)
  have e3 : ((6 : Int64) ≤ lN (dXv z k i * dXv z k i % 65521 % 10)) ↔ 6 ≤ dXv z k i * dXv z k i % 65521 % 10 := lN_le (a := 6) (by omega) (by omega)
  rw [e3]
  unfold dX
  rw [decide_eq_true_iff]
  omega
theorem pw_counts {N : Nat} {r : nb_St} {z i k : Nat} (h : r 0 32 = nI z) (hz : z ≤ 9999) (hk : k < 9) (hi : i < 8) : fX8_counts N r (nI i) (nI k) = some (if dX z k i = true then nI 1 else nI 0) := by
  have hc := dX_cmp hz hk hi
  have e : ((((7919 : Int64) * ((nI z)).toInt64) + ((6151 : Int64) * ((nI i).toInt64))) + ((3571 : Int64) * ((nI k).toInt64))) + (1 : Int64) = lN (dXv z k i) := by
    rw [nI_l (by omega), nI_l (by omega), nI_l (by omega), show (7919 : Int64) = lN 7919 from rfl, show (6151 : Int64) = lN 6151 from rfl, show (3571 : Int64) = lN 3571 from rfl, show (1 : Int64) = lN 1 from rfl, lN_mul, lN_mul, lN_mul, lN_add, lN_add, lN_add]
    rfl
  unfold fX8_counts
  simp only [nb_let]
  rw [h, if_pos (nI_pos' (by omega)), e]
  by_cases c : dX z k i = true
  · rw [if_neg (fun q => hc.mp q c), if_pos c]; rfl
  · rw [if_pos (hc.mpr c), if_neg c]; rfl
def dXn (z k : Nat) : Nat → Nat → Bool
  | 0 => fun _ => false
  | n + 1 => if dX z k n = true then fun q => dXn z k n q || n == q else dXn z k n
theorem dXn_t {z k q : Nat} : ∀ n, dXn z k n q = true ↔ q < n ∧ dX z k q = true
  | 0 => by
    constructor
    · intro h; cases h
    · rintro ⟨h, -⟩; omega
  | n + 1 => by
    have ih := dXn_t (z := z) (k := k) (q := q) n
    unfold dXn
    by_cases c : dX z k n = true
    · rw [if_pos c]
      show (dXn z k n q || n == q) = true ↔ _
      rw [Bool.or_eq_true, ih, beq_iff_eq]
      constructor
      · rintro (⟨a, b⟩ | b)
        · exact ⟨by omega, b⟩
        · subst b; exact ⟨by omega, c⟩
      · rintro ⟨a, b⟩
        by_cases hq : q = n
        · exact Or.inr hq.symm
        · exact Or.inl ⟨by omega, b⟩
    · rw [if_neg c, ih]
      constructor
      · rintro ⟨a, b⟩; exact ⟨by omega, b⟩
      · rintro ⟨a, b⟩
        by_cases hq : q = n
        · subst hq; exact absurd b c
        · exact ⟨by omega, b⟩
theorem pv_draw {N : Nat} {r : nb_St} {p g n z : Nat} {M V : Nat → Nat} {X : Nat → Nat → Bool} (hN : 10 < N) (hp : p = 4 ∨ p = 20) (h0 : r 36 0 = nI p) (hg : r p 0 = nI g) (hg8 : g ≤ 8) (hs : eps9 r n M V X) (hz : z ≤ 9999) : ∃ s, fX0_drawWhoHears N r (nI z) = some s ∧ (∀ k, k ≠ 57 → s k = r k) ∧ ∀ k, k < n → s 57 k = hb (dXn z k g) := by
  obtain ⟨s1, s2, s3, s4, s5, s6, s7⟩ := hs
  have hq := xc_q hp
  unfold fX0_drawWhoHears
  refine nb_e2 (I := fun j x s => j ≤ n ∧ x = nI j ∧ (∀ k, k ≠ 57 → s k = r k) ∧ ∀ k, k < j → s 57 k = hb (dXn z k g)) n ?_ (by omega) ⟨by omega, rfl, fun _ _ => rfl, fun k hk => absurd hk (by omega)⟩
  rintro ag j x s ⟨hj, rfl, f1, f2⟩
  have q3 : s 36 3 = nI n := by rw [f1 36 (by decide)]; exact s1
  by_cases hlt : j < n
  · right
    refine ⟨hlt, ?_⟩
    simp only [nb_let]
    rw [q3, if_neg (nI_ge hlt (by omega)), nb_g_t (pu_in (by omega) (by omega)), pu_ix (by omega)]
    refine nb_c2 (K := fun v => ∃ (b0 : Int32) (b1 : nb_St), (j + 1 ≤ n ∧ b0 = nI (j + 1) ∧ (∀ k, k ≠ 57 → b1 k = r k) ∧ ∀ k, k < j + 1 → b1 57 k = hb (dXn z k g)) ∧ v = ag b0 b1) (I := fun i x (t : nb_St) => i ≤ g ∧ x = nI i ∧ (∀ k, k ≠ 57 → t k = r k) ∧ (∀ k, k < j → t 57 k = hb (dXn z k g)) ∧ t 57 j = hb (dXn z j i)) g ?_ (by omega) ⟨by omega, rfl, fun k hk => by rw [nb_st_k hk]; exact f1 k hk, fun k hk => by rw [nb_st_n (Or.inr (by omega))]; exact f2 k hk, by rw [nb_st_s]; exact hb_none.symm⟩
    rintro ag2 i x t ⟨hi, rfl, g1, g2, g3⟩
    have y0 : t 36 0 = nI p := by rw [g1 36 (by decide)]; exact h0
    have y1 : t p 0 = nI g := by rw [g1 p (by omega)]; exact hg
    by_cases hlt2 : i < g
    · right
      have hc := dX_cmp (k := j) (i := i) hz (by omega) (by omega)
      have e : ((((7919 : Int64) * ((nI z).toInt64)) + ((((6151 : Int32) * nI i)).toInt64)) + ((((3571 : Int32) * nI j)).toInt64)) + (1 : Int64) = lN (dXv z j i) := by
        rw [show (6151 : Int32) = nI 6151 from rfl, show (3571 : Int32) = nI 3571 from rfl, pk_mul, pk_mul, nI_l (by omega), nI_l (by omega), nI_l (by omega), show (7919 : Int64) = lN 7919 from rfl, show (1 : Int64) = lN 1 from rfl, lN_mul, lN_add, lN_add, lN_add]
        rfl
      refine ⟨hlt2, ?_⟩
      rw [y0, pu_ix (by omega), nb_g_t hq, y1, if_neg (nI_ge hlt2 (by omega)), e, nb_g_t (pu_in (by omega) (by omega)), nb_g_t (pu_in (by omega) (by omega)), g3, show (1 : Int32) = nI 1 from rfl, hb_or (by omega), nI_add]
      have u : dXn z j (i + 1) = if dX z j i = true then fun q => dXn z j i q || i == q else dXn z j i := rfl
      by_cases c : dX z j i = true
      · rw [if_neg (fun q => hc.mp q c)]
        refine ⟨nI (i + 1), _, ⟨by omega, rfl, fun k hk => by rw [nb_st_k hk]; exact g1 k hk, fun k hk => by rw [nb_st_n (Or.inr (by omega))]; exact g2 k hk, ?_⟩, rfl⟩
        rw [nb_st_s, u, if_pos c]
      · rw [if_pos (hc.mpr c)]
        refine ⟨nI (i + 1), t, ⟨by omega, rfl, g1, g2, ?_⟩, rfl⟩
        rw [u, if_neg c]
        exact g3
    · left
      have : i = g := by omega
      subst this
      refine ⟨nI (j + 1), t, ⟨by omega, rfl, g1, fun k hk => ?_⟩, ?_⟩
      · by_cases c : k = j
        · subst c; exact g3
        · exact g2 k (by omega)
      · rw [y0, pu_ix (by omega), nb_g_t hq, y1, if_pos (nI_le (Nat.le_refl _) (by omega)), show (1 : Int32) = nI 1 from rfl, nI_add]
  · left
    have : j = n := by omega
    subst this
    refine ⟨s, ?_, f1, f2⟩
    simp only [nb_let]
    rw [q3, if_pos (nI_le (Nat.le_refl _) (by omega))]
theorem pp_drawn {GV GM : nb_St → nb_St → Prop} (ok : pr_ok GV GM) {σ τ : nb_St} (h : pr_Rel GV GM σ τ) (i t : Int32) : ∃ (N : Nat) (r : Int32) (σo τo : nb_St), fX7_drawn N σ i t = some (r, σo) ∧ fX8_drawn N τ i t = some (r, τo) ∧ pr_Rel GV GM σo τo := by
  obtain ⟨p, d, n, g, o, w, a, b, e, kk, hpd, l3, l4, ht, hg, hp, hto, hdo, hz1, hz2, hk, hgm, hgv⟩ := id h
  have hc : cl σ τ p d g o w a b := ⟨hpd, l3, hg, hp, hto⟩
  have hl := pr_laid hpd l3
  have hpp := pr_pd_p hpd
  have g8 := hp.1
  have o3 := hp.2.1
  have a6 := hto.1
  have hp4 : p = 4 ∨ p = 20 := by rcases hpd with ⟨q, -⟩ | ⟨q, -⟩ <;> omega
  have p1 := hp.2.2.2.1
  have p2 := hp.2.2.2.2.1
  obtain ⟨N, hN⟩ : ∃ N : Nat, N = 3000 := ⟨_, rfl⟩
  have hN1 : 1000 < N := by omega
  have hN2 : 10 < N := by omega
  refine ⟨N, ?_⟩
  have i1 : ∀ τ, fX8_in N τ i.toInt64 (0 : Int64) (9999 : Int64) = some (if 0 ≤ i ∧ i ≤ 9999 then 1 else 0) := fun τ => pu_inL (by decide) (by decide)
  have i2 : ∀ τ, fX8_in N τ t.toInt64 (0 : Int64) (1 : Int64) = some (if 0 ≤ t ∧ t ≤ 1 then 1 else 0) := fun τ => pu_inL (by decide) (by decide)
  by_cases hi : (0 : Int32) ≤ i ∧ i ≤ 9999
  · obtain ⟨z, z1, z2, rfl⟩ := pr_rng_of (a := 0) (b := 9999) (by omega) (by omega) hi.1 hi.2
    by_cases htt : (0 : Int32) ≤ t ∧ t ≤ 1
    · obtain ⟨D, hD⟩ : ∃ D, D = eD τ 8 0 719 (dX z) ff1 zz1 := ⟨_, rfl⟩
      obtain ⟨r, e1, e2, e3⟩ := pv_prep (N := N) hN2 hc
      obtain ⟨d1, d2, d3, d4, d5, d6, d7, d8⟩ := e2
      have rg : r p 0 = nI g := by rw [d1 p (by omega) (by omega)]; exact p1
      obtain ⟨s, c1, c2, c3⟩ := pv_draw (N := N) (z := z) hN2 hp4 d2 rg g8 e3 z2
      obtain ⟨s1, s2, s3, s4, s5, s6, s7⟩ := e3
      have g2 : epd σ τ s p g a 8 0 719 := by
        refine ⟨fun k k1 k2 => by rw [c2 k (by omega)]; exact d1 k k1 k2, ?_, ?_, d4, ?_, fun k hk => ?_, fun k hk => ?_, d8⟩
        · rw [c2 36 (by decide)]; exact d2
        · rw [c2 36 (by decide)]; exact d3
        · rw [c2 36 (by decide)]; exact d5
        · rw [c2 53 (by decide)]; exact d6 k hk
        · rw [c2 54 (by decide)]; exact d7 k hk
      have g3 : eps9 s a (tv τ 20 6) (tv τ 21 6) (fun k => dXn z k g) := by
        unfold eps9
        rw [c2 36 (by decide), c2 55 (by decide), c2 56 (by decide)]
        exact ⟨s1, s2, s3, s4, s5, s6, c3⟩
      obtain ⟨r1, f1, zz, G, f2, f3, f4, f5, f6, f7⟩ := pv_run (X := dX z) (on := ff1) (gv := zz1) hN1 hc g2 g3 (fun i hi t => by
        rw [← he_plain (X := dX z)]
        exact su_c a (fun k hk => pn_ite (and_congr Iff.rfl (by rw [dXn_t]; exact ⟨fun q => q.2, fun q => ⟨hi, q⟩⟩))))
      obtain ⟨t0, y1, y2, y3, y4, y5, y6, y7, y8⟩ := pw_as (N := N) (τ := τ) hN2
      have hr : rfm τ (nb_st t0 0 32 (nI z)) := ⟨fun k a b => by rw [nb_st_k (by omega)]; exact y2 k (by omega) (by omega), fun j a b => by rw [nb_st_n (by omega)]; exact y3 j a⟩
      have her : er (nb_st t0 0 32 (nI z)) (eD τ 8 0 719 (dX z) ff1 zz1) 8 := er_of hc hr (fun i hi => by
        rw [nb_st_n (by decide), y4]
        exact ⟨fun q => absurd q (nI_m4 (by omega)), fun q => by omega⟩) (fun q => by omega) (by omega) (by omega) (fun t ht => by
        rw [nb_st_n (by decide), y6]
        constructor
        · rintro (q | q)
          · exact (nI_eq (by omega) (by omega)).mp q
          · exact absurd q (nI_m4 (by omega))
        · intro q; exact Or.inl (by rw [q])) (fun i hi k hk N => pw_counts nb_st_s z2 (by omega) (by omega)) (fun k hk => by rw [nb_st_k (by decide), y8 k (by omega), if_neg ff_f]) (fun k _ => zz_le)
      obtain ⟨t1, x1, zz', G', x2, x3, x4, x5, x6, x7⟩ := pw_run hN1 hc hr her
      rw [← hD] at f4 f5 x4 x5
      have hu := ev_u f4 x4
      have hGG : ∀ k, k < eg D → G' k = G k := fun k hk => (hu k hk).2.symm
      have u1 := pv_all hN2 f5
      have u2 := pv_last hN2 f5
      have u3 := pw_all hN2 x5
      have u4 := pw_last hN2 x5
      rw [eal_c hGG] at u3
      rw [emG_c _ hGG] at u4
      refine ⟨if t = 0 then nI (emG G (eg D)) else nI (eal G (tv τ 4 8) (nb_ix (τ 12 0)) (eg D)), r1, t1, ?_, ?_, pr_ev ok h f3 x3⟩
      · simp only [fX7_drawn, nb_let, pu_within]
        rw [pu_b1, if_pos hi, if_neg (by decide), pu_b1, if_pos htt, if_neg (by decide), hl, nb_g_t hpp, e1, pu_b1, c1, pu_b1, f1, pu_b1, u2, u1, pu_b1, pu_b1]
        split <;> rfl
      · simp only [fX8_drawn, nb_let]
        rw [i1, pu_b1, if_pos hi, if_neg (by decide), i2, pu_b1, if_pos htt, if_neg (by decide), y1, pu_b1, x1, pu_b1, u4, u3, pu_b1, pu_b1]
        split <;> rfl
    · refine ⟨-1, σ, τ, ?_, ?_, h⟩
      · simp only [fX7_drawn, nb_let, pu_within]
        rw [pu_b1, if_pos hi, if_neg (by decide), pu_b1, if_neg htt, if_pos rfl]
      · simp only [fX8_drawn, nb_let]
        rw [i1, pu_b1, if_pos hi, if_neg (by decide), i2, pu_b1, if_neg htt, if_pos rfl]
  · refine ⟨-1, σ, τ, ?_, ?_, h⟩
    · simp only [fX7_drawn, nb_let, pu_within]
      rw [pu_b1, if_neg hi, if_pos rfl]
    · simp only [fX8_drawn, nb_let]
      rw [i1, pu_b1, if_neg hi, if_pos rfl]
end
