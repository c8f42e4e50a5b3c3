section
theorem us_s {f : Nat → Nat} {i x : Nat} : us f i x i = x := if_pos rfl
theorem us_n {f : Nat → Nat} {i x k : Nat} (h : k ≠ i) : us f i x k = f k := if_neg h
def cn4 (z : Nat → Nat) (l : Nat) : Nat := su (fun p => if l < z p then 1 else 0) 4
theorem cn4_lt {z : Nat → Nat} {l l' p : Nat} (h : l < l') (hp : p < 4) (he : z p = l') : cn4 z l' < cn4 z l := by
  unfold cn4
  simp only [su]
  have m0 : ∀ x : Nat, (if l' < x then 1 else 0) ≤ (if l < x then 1 else 0) := fun x => by
    by_cases c : l' < x
    · rw [if_pos c, if_pos (by omega)]
      exact Nat.le_refl _
    · rw [if_neg c]
      exact Nat.zero_le _
  have e1 : (if l' < z p then 1 else 0) = 0 := if_neg (by omega)
  have e2 : (if l < z p then 1 else 0) = 1 := if_pos (by omega)
  have n0 := m0 (z 0)
  have n1 := m0 (z 1)
  have n2 := m0 (z 2)
  have n3 := m0 (z 3)
  match p, hp with
  | 0, _ => omega
  | 1, _ => omega
  | 2, _ => omega
  | 3, _ => omega
  | p + 4, hp => exact absurd hp (by omega)
theorem cn4_0 {z : Nat → Nat} {l : Nat} (h : cn4 z l = 0) : ∀ p, p < 4 → ¬ l < z p := by
  intro p hp c
  have e2 : (if l < z p then 1 else 0) = 1 := if_pos c
  unfold cn4 at h
  simp only [su] at h
  match p, hp with
  | 0, _ => omega
  | 1, _ => omega
  | 2, _ => omega
  | 3, _ => omega
  | p + 4, hp => exact absurd hp (by omega)
theorem cn4_4 {z : Nat → Nat} {l : Nat} : cn4 z l ≤ 4 := by
  have := su_le (f := fun p => if l < z p then 1 else 0) (B := 1) 4 (fun k _ => by
    show (if l < z k then 1 else 0) ≤ 1
    split <;> omega)
  unfold cn4
  omega
theorem pv_after {N : Nat} {σ : nb_St} {q : Nat} {D : eT} {z : Nat → Nat} {s : Nat} (J : Nat → Prop) (hN : 10 < N) (h : ec σ q D) (hz : ∀ p, p < 4 → σ 59 p = nI (z p)) (hz2 : ∀ p, p < 4 → z p ≤ 100000) (hJ : ∀ l p, p < 4 → J l → l < z p → z p ≤ l + eH D → J (z p)) (hs : J s) (hs2 : s ≤ 100000) : ∃ r, fX0_goesAfter N σ (nI s) = some r ∧ ∃ l, r = nI (l + eH D) ∧ l ≤ 100000 ∧ J l ∧ ∀ p, p < 4 → ¬ (l < z p ∧ z p ≤ l + eH D) := by
  obtain ⟨⟨a1, a2, a3, a4, a5, a6, a7, a8, a9, a10, a11, a12, a13, a14, a15, a16, a17, a18, a19, a20⟩, -, -⟩ := h
  have hq := xc_q a1
  unfold fX0_goesAfter
  refine nb_e2 (I := fun j x w => j ≤ 4 ∧ w = nI j ∧ ∃ l, x = nI l ∧ l ≤ 100000 ∧ J l ∧ ((∀ p, p < 4 → ¬ (l < z p ∧ z p ≤ l + eH D)) ∨ cn4 z l + j ≤ 4)) 4 ?_ (by omega) ⟨by omega, rfl, s, rfl, hs2, hs, Or.inr (by have := cn4_4 (z := z) (l := s); omega)⟩
  rintro ag j x w ⟨hj, rfl, l, rfl, l1, l2, l3⟩
  by_cases hlt : j < 4
  · right
    refine ⟨hlt, ?_⟩
    rw [if_neg (show ¬ (4 : Int32) ≤ nI j from nI_ge (b := 4) hlt (by omega))]
    refine nb_c2 (K := fun v => ∃ b0 b1, (j + 1 ≤ 4 ∧ b1 = nI (j + 1) ∧ ∃ l', b0 = nI l' ∧ l' ≤ 100000 ∧ J l' ∧ ((∀ p, p < 4 → ¬ (l' < z p ∧ z p ≤ l' + eH D)) ∨ cn4 z l' + (j + 1) ≤ 4)) ∧ v = ag b0 b1) (I := fun i x w => i ≤ 4 ∧ w = nI i ∧ ∃ l', x = nI l' ∧ l' ≤ 100000 ∧ J l' ∧ ((l' = l ∧ ∀ p, p < i → ¬ (l < z p ∧ z p ≤ l + eH D)) ∨ (l < l' ∧ (∃ p, p < 4 ∧ z p = l') ∧ ¬ ∀ p, p < 4 → ¬ (l < z p ∧ z p ≤ l + eH D)))) 4 ?_ (by omega) ⟨by omega, rfl, l, rfl, l1, l2, Or.inl ⟨rfl, fun p hp => absurd hp (by omega)⟩⟩
    rintro ag2 i x w ⟨hi, rfl, l', rfl, m1, m2, m3⟩
    by_cases hlt2 : i < 4
    · right
      have r1 := hz i hlt2
      have r2 := hz2 i hlt2
      by_cases c : l' < z i ∧ z i ≤ l' + eH D
      · refine ⟨hlt2, nI (z i), nI (i + 1), ⟨by omega, rfl, z i, rfl, r2, hJ l' i hlt2 m2 c.1 c.2, Or.inr ⟨?_, ⟨i, hlt2, rfl⟩, ?_⟩⟩, ?_⟩
        · rcases m3 with ⟨m3, -⟩ | ⟨m3, -⟩ <;> omega
        · rcases m3 with ⟨m3, -⟩ | ⟨-, -, m4⟩
          · subst m3
            exact fun e => e i hlt2 c
          · exact m4
        · obtain ⟨c1, c2⟩ := c
          simp (disch := omega) only [pn_g, pu_b1, pn_b2, pn_leT, pn_leF, pn_ltT, pn_ltF, pn_eqT, pn_eqF, pu_in, pu_ix, nI_add, pk_mul, pk_sub, ↓reduceIte, Bool.false_eq_true, if_false, if_true, nb_st_s, nb_st_k, nb_st_n, nb_sa_s, nb_sa_n, pL0, pL1, pL2, pL3, pL4, pL5, pL6, pL7, pL8, pL9, pL10, pL11, pL12, pL13, pL15, pL20, pL30, pL99, pL100, pL180, pL240, pL255, pL350, pL359, pL719, pL720, pL999, pL9999, pL99999, pL100000, pL1000000, nb_let, a2, hq, a16, r1]
      · refine ⟨hlt2, nI l', nI (i + 1), ⟨by omega, rfl, l', rfl, m1, m2, ?_⟩, ?_⟩
        · rcases m3 with ⟨m3, m4⟩ | m3
          · left
            refine ⟨m3, fun p hp => ?_⟩
            by_cases hpi : p = i
            · subst hpi; rw [← m3]; exact c
            · exact m4 p (by omega)
          · exact Or.inr m3
        · by_cases c1 : z i ≤ l'
          · simp (disch := omega) only [pn_g, pu_b1, pn_b2, pn_leT, pn_leF, pn_ltT, pn_ltF, pn_eqT, pn_eqF, pu_in, pu_ix, nI_add, pk_mul, pk_sub, ↓reduceIte, Bool.false_eq_true, if_false, if_true, nb_st_s, nb_st_k, nb_st_n, nb_sa_s, nb_sa_n, pL0, pL1, pL2, pL3, pL4, pL5, pL6, pL7, pL8, pL9, pL10, pL11, pL12, pL13, pL15, pL20, pL30, pL99, pL100, pL180, pL240, pL255, pL350, pL359, pL719, pL720, pL999, pL9999, pL99999, pL100000, pL1000000, nb_let, a2, hq, a16, r1]
          · have c2 : l' + eH D < z i := by omega
            simp (disch := omega) only [pn_g, pu_b1, pn_b2, pn_leT, pn_leF, pn_ltT, pn_ltF, pn_eqT, pn_eqF, pu_in, pu_ix, nI_add, pk_mul, pk_sub, ↓reduceIte, Bool.false_eq_true, if_false, if_true, nb_st_s, nb_st_k, nb_st_n, nb_sa_s, nb_sa_n, pL0, pL1, pL2, pL3, pL4, pL5, pL6, pL7, pL8, pL9, pL10, pL11, pL12, pL13, pL15, pL20, pL30, pL99, pL100, pL180, pL240, pL255, pL350, pL359, pL719, pL720, pL999, pL9999, pL99999, pL100000, pL1000000, nb_let, a2, hq, a16, r1]
    · left
      have : i = 4 := by omega
      subst this
      refine ⟨nI l', nI (j + 1), ⟨by omega, rfl, l', rfl, m1, m2, ?_⟩, ?_⟩
      · rcases m3 with ⟨m3, m4⟩ | ⟨m3, ⟨p, p1, p2⟩, m4⟩
        · subst m3; exact Or.inl m4
        · right
          have := cn4_lt m3 p1 p2
          rcases l3 with l3 | l3
          · exact absurd l3 m4
          · omega
      · rw [if_pos (show (4 : Int32) ≤ nI 4 by decide), nI_1]
  · left
    have : j = 4 := by omega
    subst this
    refine ⟨nI (l + eH D), ?_, l, rfl, l1, l2, ?_⟩
    · simp (disch := omega) only [pn_g, pu_b1, pn_b2, pn_leT, pn_leF, pn_ltT, pn_ltF, pn_eqT, pn_eqF, pu_in, pu_ix, nI_add, pk_mul, pk_sub, ↓reduceIte, Bool.false_eq_true, if_false, if_true, nb_st_s, nb_st_k, nb_st_n, nb_sa_s, nb_sa_n, pL0, pL1, pL2, pL3, pL4, pL5, pL6, pL7, pL8, pL9, pL10, pL11, pL12, pL13, pL15, pL20, pL30, pL99, pL100, pL180, pL240, pL255, pL350, pL359, pL719, pL720, pL999, pL9999, pL99999, pL100000, pL1000000, nb_let, a2, hq, a16]
    · rcases l3 with l3 | l3
      · exact l3
      · intro p hp e
        exact cn4_0 (z := z) (l := l) (by omega) p hp e.1
theorem efin_end {D : eT} {z z' : Nat → Nat} {m : Nat} (h : ein D z m) (hm : m ≤ eB D) (hB : eB D < 1000) (hc : m = eB D ∨ ∀ k, k < eg D → z (eP D k) < m) (h1 : ∀ k, k < eg D → z (eP D k) < m → z' (eP D k) = z (eP D k)) (h2 : ∀ k, k < eg D → ¬ z (eP D k) < m → z' (eP D k) = eB D) : efin D z' := by
  by_cases c : m = eB D
  · subst c
    have hs : ein D z' (eB D + 1) := by
      refine ein_step h hB (fun k hk a _ => h2 k hk (by omega)) (fun k hk a => h1 k hk ?_)
      rcases h k hk with ⟨b, -⟩ | ⟨b, -⟩
      · exact b
      · exact absurd ⟨b, Or.inl rfl⟩ a
    exact ein_fin hs (by omega)
  · have hall : ∀ k, k < eg D → z (eP D k) < m := by
      rcases hc with hc | hc
      · exact absurd hc c
      · exact hc
    have e : ∀ u k, k < eg D → (z (eP D k) < u ↔ z' (eP D k) < u) := fun u k hk => by rw [h1 k hk (hall k hk)]
    intro k hk
    rcases h k hk with ⟨b1, b2, b3, b4⟩ | ⟨b1, -⟩
    · rw [h1 k hk b1]
      refine ⟨by omega, (eat_c (e _)).mp b3, fun t ht q => b4 t ht ((eat_c (e _)).mpr q)⟩
    · have := hall k hk; omega
theorem ego_of {D : eT} {z : Nat → Nat} {s l k0 : Nat} (hk0 : k0 < eg D) (hs : z (eP D k0) = s) (h1 : s ≤ l) (h2 : ∀ t, s ≤ t → t < l + eH D → ∃ k, k < eg D ∧ z (eP D k) ≤ t ∧ t < z (eP D k) + eH D) (h3 : ∀ k, k < eg D → ¬ (l < z (eP D k) ∧ z (eP D k) ≤ l + eH D)) : ego D z s (l + eH D) := by
  refine ⟨by omega, fun k hk c => ?_, fun t a b c => ?_⟩
  · have := h3 k hk; omega
  · obtain ⟨k, q1, q2, q3⟩ := h2 t a b
    have := c k q1 q2
    omega
theorem pv_goes {N : Nat} {σ : nb_St} {q : Nat} {D : eT} {z : Nat → Nat} {p : Nat} (hN : 10 < N) (h : ec σ q D) (hz : ∀ p, p < 4 → σ 59 p = nI (z p)) (hz2 : ∀ p, p < 4 → z p ≤ 100000) (hab : ∀ p, p < 4 → hpn (eP D) (eg D) p = false → z p = 100000) (hfin : efin D z) (hp : p < 4) : ∃ r, fX0_goesAfter N σ (nI (z p)) = some r ∧ ∃ G, r = nI G ∧ ∀ k, k < eg D → eP D k = p → ego D z (z p) G := by
  have hH := h.1.2.2.2.2.2.2.2.2.2.2.2.2.2.2.2.2.1
  have hB := h.1.2.2.2.2.2.2.2.2.2.2.2.2.2.2.2.2.2.2.1
  have hP := h.1.2.2.2.2.2.2.1
  by_cases c : hpn (eP D) (eg D) p = true
  · obtain ⟨k0, e1, e2⟩ := (hpn_t _).mp c
    have e3 : z (eP D k0) = z p := by rw [e2]
    have e4 := (hfin k0 e1).1
    obtain ⟨r, g1, l, g2, g3, g4, g5⟩ := pv_after (s := z p) (fun l => l ≤ 719 ∧ z p ≤ l ∧ ∀ t, z p ≤ t → t < l + eH D → ∃ k, k < eg D ∧ z (eP D k) ≤ t ∧ t < z (eP D k) + eH D) hN h hz hz2 (fun l p' hp' ⟨j1, j2, j3⟩ c1 c2 => by
      have hpr : hpn (eP D) (eg D) p' = true := by
        cases cc : hpn (eP D) (eg D) p' with
        | true => rfl
        | false => have := hab p' hp' cc; omega
      obtain ⟨k1, d1, d2⟩ := (hpn_t _).mp hpr
      have d3 := (hfin k1 d1).1
      rw [d2] at d3
      refine ⟨by omega, by omega, fun t t1 t2 => ?_⟩
      by_cases ct : t < l + eH D
      · exact j3 t t1 ct
      · exact ⟨k1, d1, by rw [d2]; omega, by rw [d2]; omega⟩) ⟨by omega, Nat.le_refl _, fun t t1 t2 => ⟨k0, e1, by omega, by omega⟩⟩ (hz2 p hp)
    refine ⟨r, g1, l + eH D, g2, fun k hk hkp => ego_of e1 e3 g4.2.1 g4.2.2 (fun k hk => g5 _ (hP k hk))⟩
  · obtain ⟨r, g1, l, g2, g3, g4, g5⟩ := pv_after (s := z p) (fun l => l = 100000) hN h hz hz2 (fun l p' hp' j c1 c2 => by have := hz2 p' hp'; omega) (hab p hp (by simpa using c)) (hz2 p hp)
    exact ⟨r, g1, l + eH D, g2, fun k hk hkp => absurd ((hpn_t _).mpr ⟨k, hk, hkp⟩) c⟩
theorem pv_fill {N : Nat} {σ : nb_St} {k n : Nat} {v : Int32} (hN : n < N) (hn : n < 2 ^ 30) : ∃ r, fJ7_fill_53178 N σ k n v = some r ∧ (∀ a, a ≠ k → r a = σ a) ∧ ∀ j, j < n → r k j = v := by
  unfold fJ7_fill_53178
  simp only [nb_let]
  refine nb_e2 (I := fun j x s => j ≤ n ∧ x = nI j ∧ (∀ a, a ≠ k → s a = σ a) ∧ ∀ i, i < j → s k i = v) n ?_ (by omega) ⟨by omega, rfl, fun _ _ => rfl, fun i hi => absurd hi (by omega)⟩
  rintro ag j x s ⟨hj, rfl, f1, f2⟩
  by_cases hlt : j < n
  · right
    refine ⟨hlt, nI (j + 1), nb_st s k j v, ⟨by omega, rfl, fun a ha => by rw [nb_st_k ha]; exact f1 a ha, fun i hi => ?_⟩, ?_⟩
    · by_cases c : i = j
      · subst c; exact nb_st_s
      · rw [nb_st_n (Or.inr c)]; exact f2 i (by omega)
    · rw [if_neg (show ¬ Int32.ofNat n ≤ nI j from nI_ge hlt (by omega)), nb_g_t (pu_in hlt (by omega)), pu_ix (by omega), nI_1]
  · left
    have : j = n := by omega
    subst this
    refine ⟨s, ?_, f1, f2⟩
    rw [if_pos (show Int32.ofNat j ≤ nI j from Int32.le_refl _)]
theorem pv_pass {N : Nat} {σ : nb_St} {q : Nat} {D : eT} (hN : 1000 < N) (h : ec σ q D) : ∃ r, fX0_pass N σ = some r ∧ ∃ z G, ef σ r ∧ (∀ p, p < 4 → r 59 p = nI (z p)) ∧ (∀ p, p < 4 → z p ≤ 100000) ∧ (∀ k, k < eg D → r 60 (eP D k) = nI (G k)) ∧ ev D z G := by
  have hB := h.1.2.2.2.2.2.2.2.2.2.2.2.2.2.2.2.2.2.2.1
  have h8 := h.1.2.2.2.2.2.2.2.2.2.2.2.2.2.2.2.2.2.2.2
  have h7 := h.1.2.2.2.2.2.2.2.2.2.2.2.2.2.2.2.2.2.1
  have hP := h.1.2.2.2.2.2.2.1
  unfold fX0_pass
  simp only [nb_let]
  rw [lka_0]
  obtain ⟨s0, e0, f1, f2⟩ := pv_fill (N := N) (σ := lka σ 0 0) (k := 59) (n := 4) (v := 100000) (by omega) (by omega)
  rw [e0, pu_b1]
  have ef0 : ef σ s0 := ⟨fun k c1 _ c3 _ => by rw [f1 k c3, lka_k c1], fun j c1 c2 => by rw [f1 36 (by decide), lka_j c1 c2]⟩
  have ct0 : ∀ n, ectn D (fun _ => 100000) 0 n = 0 := by
    intro n
    induction n with
    | zero => rfl
    | succ n ih =>
      show ectn D (fun _ => 100000) 0 n + (if 100000 < 0 then 1 else 0) = 0
      rw [ih]; rfl
  have hs0 : ∀ n, hsn (eP D) (fun _ => 100000) 0 n = fun _ => false := by
    intro n
    induction n with
    | zero => rfl
    | succ n ih =>
      unfold hsn
      rw [if_neg (by omega), ih]
  refine nb_e3 (I := fun j x w s => w = nI j ∧ ∃ m z, x = nI m ∧ j ≤ m ∧ m ≤ eB D ∧ ef σ s ∧ ek s D z m ∧ ein D z m ∧ ∀ p, p < 4 → hpn (eP D) (eg D) p = false → z p = 100000) 800 ?_ (by omega) ⟨rfl, 0, fun _ => 100000, rfl, by omega, by omega, ef0, ⟨f2, fun p hp => Nat.le_refl _, ?_, ?_⟩, ?_, fun p hp _ => rfl⟩
  · rintro ag j x w s ⟨rfl, m, z, rfl, hjm, hmB, efs, hek, hin, hab⟩
    obtain ⟨k1, k2, k3, k4⟩ := id hek
    have s7 : s 36 7 = nI (eB D) := by rw [efs.2 7 (by decide) (by decide)]; exact h7
    have s8 : s 36 8 = bm (hpn (eP D) (eg D)) := by rw [efs.2 8 (by decide) (by decide)]; exact h8
    by_cases cB : m = eB D
    · left
      have hcase : m = eB D ∨ ∀ k, k < eg D → z (eP D k) < m := Or.inl cB
      simp (disch := omega) only [pn_g, pu_b1, pn_b2, pn_leT, pn_leF, pn_ltT, pn_ltF, pn_eqT, pn_eqF, pu_in, pu_ix, nI_add, pk_mul, pk_sub, ↓reduceIte, Bool.false_eq_true, if_false, if_true, nb_st_s, nb_st_k, nb_st_n, nb_sa_s, nb_sa_n, pL0, pL1, pL2, pL3, pL4, pL5, pL6, pL7, pL8, pL9, pL10, pL11, pL12, pL13, pL15, pL20, pL30, pL99, pL100, pL180, pL240, pL255, pL350, pL359, pL719, pL720, pL999, pL9999, pL99999, pL100000, pL1000000, s7]
      refine nb_e2 (I := fun j w s' => j ≤ 4 ∧ w = nI j ∧ (∀ k, k ≠ 59 → s' k = s k) ∧ ∀ p, p < 4 → s' 59 p = if p < j ∧ eik D z m p = true then nI (eB D) else nI (z p)) 4 ?_ (by omega) ⟨by omega, rfl, fun _ _ => rfl, fun p hp => ?_⟩
      · rintro ag j w s' ⟨hj, rfl, g1, g2⟩
        by_cases hlt : j < 4
        · right
          have hss : fX0_sits N s' (nI j) = some (if eik D z m j = true then 1 else 0) := pv_sits (by rw [g1 36 (by decide)]; exact s8) (by rw [g1 36 (by decide)]; exact k3) hlt
          by_cases c : eik D z m j = true
          · refine ⟨hlt, nI (j + 1), nb_st s' 59 j (nI (eB D)), ⟨by omega, rfl, fun k hk => by rw [nb_st_k hk]; exact g1 k hk, fun p hp => ?_⟩, ?_⟩
            · by_cases c2 : p = j
              · subst c2
                rw [nb_st_s, if_pos ⟨by omega, c⟩]
              · rw [nb_st_n (Or.inr c2), g2 p hp]
                have : (p < j ∧ eik D z m p = true) ↔ (p < j + 1 ∧ eik D z m p = true) := by
                  constructor
                  · rintro ⟨x1, x2⟩; exact ⟨by omega, x2⟩
                  · rintro ⟨x1, x2⟩; exact ⟨by omega, x2⟩
                exact pn_ite this
            · simp (disch := omega) only [pn_g, pu_b1, pn_b2, pn_leT, pn_leF, pn_ltT, pn_ltF, pn_eqT, pn_eqF, pu_in, pu_ix, nI_add, pk_mul, pk_sub, ↓reduceIte, Bool.false_eq_true, if_false, if_true, nb_st_s, nb_st_k, nb_st_n, nb_sa_s, nb_sa_n, pL0, pL1, pL2, pL3, pL4, pL5, pL6, pL7, pL8, pL9, pL10, pL11, pL12, pL13, pL15, pL20, pL30, pL99, pL100, pL180, pL240, pL255, pL350, pL359, pL719, pL720, pL999, pL9999, pL99999, pL100000, pL1000000, hss, c, g1 36 (by decide), s7]
          · refine ⟨hlt, nI (j + 1), s', ⟨by omega, rfl, g1, fun p hp => ?_⟩, ?_⟩
            · rw [g2 p hp]
              have : (p < j ∧ eik D z m p = true) ↔ (p < j + 1 ∧ eik D z m p = true) := by
                constructor
                · rintro ⟨x1, x2⟩; exact ⟨by omega, x2⟩
                · rintro ⟨x1, x2⟩
                  by_cases c2 : p = j
                  · subst c2; exact absurd x2 c
                  · exact ⟨by omega, x2⟩
              exact pn_ite this
            · simp (disch := omega) only [pn_g, pu_b1, pn_b2, pn_leT, pn_leF, pn_ltT, pn_ltF, pn_eqT, pn_eqF, pu_in, pu_ix, nI_add, pk_mul, pk_sub, ↓reduceIte, Bool.false_eq_true, if_false, if_true, nb_st_s, nb_st_k, nb_st_n, nb_sa_s, nb_sa_n, pL0, pL1, pL2, pL3, pL4, pL5, pL6, pL7, pL8, pL9, pL10, pL11, pL12, pL13, pL15, pL20, pL30, pL99, pL100, pL180, pL240, pL255, pL350, pL359, pL719, pL720, pL999, pL9999, pL99999, pL100000, pL1000000, hss, c]
        · left
          have : j = 4 := by omega
          subst this
          obtain ⟨z', hz'⟩ : ∃ z' : Nat → Nat, z' = fun p => if eik D z m p = true then eB D else z p := ⟨_, rfl⟩
          have z1 : ∀ p, p < 4 → s' 59 p = nI (z' p) := fun p hp => by
            rw [g2 p hp, hz']
            show _ = nI (if eik D z m p = true then eB D else z p)
            by_cases c : eik D z m p = true
            · rw [if_pos ⟨hp, c⟩, if_pos c]
            · rw [if_neg (fun e => c e.2), if_neg c]
          have z2 : ∀ p, p < 4 → z' p ≤ 100000 := fun p hp => by
            rw [hz']
            show (if eik D z m p = true then eB D else z p) ≤ 100000
            have := k2 p hp
            split <;> omega
          have z3 : ∀ p, p < 4 → hpn (eP D) (eg D) p = false → z' p = 100000 := fun p hp c => by
            rw [hz']
            show (if eik D z m p = true then eB D else z p) = 100000
            rw [if_neg (fun e => by obtain ⟨k, e1, e2⟩ := eik_n e; rw [(hpn_t _).mpr ⟨k, e1, e2⟩] at c; exact absurd c (by decide))]
            exact hab p hp c
          have hfin : efin D z' := by
            refine efin_end hin hmB (by omega) hcase (fun k hk c => ?_) (fun k hk c => ?_)
            · rw [hz']; exact if_neg (fun e => (eik_k hk).mp e c)
            · rw [hz']; exact if_pos ((eik_k hk).mpr c)
          have efs1 : ef σ s' := ⟨fun k c1 c2 c3 c4 => by rw [g1 k c3]; exact efs.1 k c1 c2 c3 c4, fun j c1 c2 => by rw [g1 36 (by decide)]; exact efs.2 j c1 c2⟩
          simp (disch := omega) only [pn_g, pu_b1, pn_b2, pn_leT, pn_leF, pn_ltT, pn_ltF, pn_eqT, pn_eqF, pu_in, pu_ix, nI_add, pk_mul, pk_sub, ↓reduceIte, Bool.false_eq_true, if_false, if_true, nb_st_s, nb_st_k, nb_st_n, nb_sa_s, nb_sa_n, pL0, pL1, pL2, pL3, pL4, pL5, pL6, pL7, pL8, pL9, pL10, pL11, pL12, pL13, pL15, pL20, pL30, pL99, pL100, pL180, pL240, pL255, pL350, pL359, pL719, pL720, pL999, pL9999, pL99999, pL100000, pL1000000]
          refine nb_e2 (I := fun j w t => j ≤ 4 ∧ w = nI j ∧ (∀ k, k ≠ 60 → t k = s' k) ∧ ∃ G : Nat → Nat, ∀ p, p < j → t 60 p = nI (G p) ∧ ∀ k, k < eg D → eP D k = p → ego D z' (z' p) (G p)) 4 ?_ (by omega) ⟨by omega, rfl, fun _ _ => rfl, fun _ => 0, fun p hp => absurd hp (by omega)⟩
          rintro ag j w t ⟨hj, rfl, t1, G, t2⟩
          by_cases hlt : j < 4
          · right
            have eft : ef σ t := ⟨fun k c1 c2 c3 c4 => by rw [t1 k c4]; exact efs1.1 k c1 c2 c3 c4, fun j c1 c2 => by rw [t1 36 (by decide)]; exact efs1.2 j c1 c2⟩
            have tz : ∀ p, p < 4 → t 59 p = nI (z' p) := fun p hp => by rw [t1 59 (by decide)]; exact z1 p hp
            obtain ⟨r, r1, G', r2, r3⟩ := pv_goes (p := j) (show 10 < N by omega) (ec_f h eft) tz z2 z3 hfin hlt
            refine ⟨hlt, nI (j + 1), nb_st t 60 j (nI G'), ⟨by omega, rfl, fun k hk => by rw [nb_st_k hk]; exact t1 k hk, us G j G', fun p hp => ?_⟩, ?_⟩
            · by_cases c2 : p = j
              · subst c2
                rw [nb_st_s, us_s]
                exact ⟨rfl, r3⟩
              · rw [nb_st_n (Or.inr c2), us_n c2]
                exact t2 p (by omega)
            · have q1 := tz j hlt
              simp (disch := omega) only [pn_g, pu_b1, pn_b2, pn_leT, pn_leF, pn_ltT, pn_ltF, pn_eqT, pn_eqF, pu_in, pu_ix, nI_add, pk_mul, pk_sub, ↓reduceIte, Bool.false_eq_true, if_false, if_true, nb_st_s, nb_st_k, nb_st_n, nb_sa_s, nb_sa_n, pL0, pL1, pL2, pL3, pL4, pL5, pL6, pL7, pL8, pL9, pL10, pL11, pL12, pL13, pL15, pL20, pL30, pL99, pL100, pL180, pL240, pL255, pL350, pL359, pL719, pL720, pL999, pL9999, pL99999, pL100000, pL1000000, q1, r1, r2]
          · left
            have : j = 4 := by omega
            subst this
            refine ⟨t, ?_, z', fun k => G (eP D k), ?_, fun p hp => by rw [t1 59 (by decide)]; exact z1 p hp, z2, fun k hk => (t2 _ (hP k hk)).1, hfin, fun k hk => (t2 _ (hP k hk)).2 k hk rfl⟩
            · simp (disch := omega) only [pn_g, pu_b1, pn_b2, pn_leT, pn_leF, pn_ltT, pn_ltF, pn_eqT, pn_eqF, pu_in, pu_ix, nI_add, pk_mul, pk_sub, ↓reduceIte, Bool.false_eq_true, if_false, if_true, nb_st_s, nb_st_k, nb_st_n, nb_sa_s, nb_sa_n, pL0, pL1, pL2, pL3, pL4, pL5, pL6, pL7, pL8, pL9, pL10, pL11, pL12, pL13, pL15, pL20, pL30, pL99, pL100, pL180, pL240, pL255, pL350, pL359, pL719, pL720, pL999, pL9999, pL99999, pL100000, pL1000000]
            · exact ⟨fun k c1 c2 c3 c4 => by rw [t1 k c4]; exact efs1.1 k c1 c2 c3 c4, fun j c1 c2 => by rw [t1 36 (by decide)]; exact efs1.2 j c1 c2⟩
      · rw [if_neg (by omega)]
        exact k1 p hp
    · have hN10 : 10 < N := by omega
      by_cases cA : bm (hsn (eP D) z m (eg D)) = bm (hpn (eP D) (eg D))
      · left
        have hcase : m = eB D ∨ ∀ k, k < eg D → z (eP D k) < m := Or.inr (fun k hk => by
          have c1 := bm_eq.mp cA _ (hP k hk)
          rw [(hpn_t (P := eP D) (p := eP D k) (eg D)).mpr ⟨k, hk, rfl⟩] at c1
          obtain ⟨k', d1, d2, d3⟩ := (hsn_t _).mp c1
          exact d3)
        simp (disch := omega) only [pn_g, pu_b1, pn_b2, pn_leT, pn_leF, pn_ltT, pn_ltF, pn_eqT, pn_eqF, pu_in, pu_ix, nI_add, pk_mul, pk_sub, ↓reduceIte, Bool.false_eq_true, if_false, if_true, nb_st_s, nb_st_k, nb_st_n, nb_sa_s, nb_sa_n, pL0, pL1, pL2, pL3, pL4, pL5, pL6, pL7, pL8, pL9, pL10, pL11, pL12, pL13, pL15, pL20, pL30, pL99, pL100, pL180, pL240, pL255, pL350, pL359, pL719, pL720, pL999, pL9999, pL99999, pL100000, pL1000000, s7, s8, k3, cA]
        refine nb_e2 (I := fun j w s' => j ≤ 4 ∧ w = nI j ∧ (∀ k, k ≠ 59 → s' k = s k) ∧ ∀ p, p < 4 → s' 59 p = if p < j ∧ eik D z m p = true then nI (eB D) else nI (z p)) 4 ?_ (by omega) ⟨by omega, rfl, fun _ _ => rfl, fun p hp => ?_⟩
        · rintro ag j w s' ⟨hj, rfl, g1, g2⟩
          by_cases hlt : j < 4
          · right
            have hss : fX0_sits N s' (nI j) = some (if eik D z m j = true then 1 else 0) := pv_sits (by rw [g1 36 (by decide)]; exact s8) (by rw [g1 36 (by decide)]; exact k3) hlt
            by_cases c : eik D z m j = true
            · refine ⟨hlt, nI (j + 1), nb_st s' 59 j (nI (eB D)), ⟨by omega, rfl, fun k hk => by rw [nb_st_k hk]; exact g1 k hk, fun p hp => ?_⟩, ?_⟩
              · by_cases c2 : p = j
                · subst c2
                  rw [nb_st_s, if_pos ⟨by omega, c⟩]
                · rw [nb_st_n (Or.inr c2), g2 p hp]
                  have : (p < j ∧ eik D z m p = true) ↔ (p < j + 1 ∧ eik D z m p = true) := by
                    constructor
                    · rintro ⟨x1, x2⟩; exact ⟨by omega, x2⟩
                    · rintro ⟨x1, x2⟩; exact ⟨by omega, x2⟩
                  exact pn_ite this
              · simp (disch := omega) only [pn_g, pu_b1, pn_b2, pn_leT, pn_leF, pn_ltT, pn_ltF, pn_eqT, pn_eqF, pu_in, pu_ix, nI_add, pk_mul, pk_sub, ↓reduceIte, Bool.false_eq_true, if_false, if_true, nb_st_s, nb_st_k, nb_st_n, nb_sa_s, nb_sa_n, pL0, pL1, pL2, pL3, pL4, pL5, pL6, pL7, pL8, pL9, pL10, pL11, pL12, pL13, pL15, pL20, pL30, pL99, pL100, pL180, pL240, pL255, pL350, pL359, pL719, pL720, pL999, pL9999, pL99999, pL100000, pL1000000, hss, c, g1 36 (by decide), s7]
            · refine ⟨hlt, nI (j + 1), s', ⟨by omega, rfl, g1, fun p hp => ?_⟩, ?_⟩
              · rw [g2 p hp]
                have : (p < j ∧ eik D z m p = true) ↔ (p < j + 1 ∧ eik D z m p = true) := by
                  constructor
                  · rintro ⟨x1, x2⟩; exact ⟨by omega, x2⟩
                  · rintro ⟨x1, x2⟩
                    by_cases c2 : p = j
                    · subst c2; exact absurd x2 c
                    · exact ⟨by omega, x2⟩
                exact pn_ite this
              · simp (disch := omega) only [pn_g, pu_b1, pn_b2, pn_leT, pn_leF, pn_ltT, pn_ltF, pn_eqT, pn_eqF, pu_in, pu_ix, nI_add, pk_mul, pk_sub, ↓reduceIte, Bool.false_eq_true, if_false, if_true, nb_st_s, nb_st_k, nb_st_n, nb_sa_s, nb_sa_n, pL0, pL1, pL2, pL3, pL4, pL5, pL6, pL7, pL8, pL9, pL10, pL11, pL12, pL13, pL15, pL20, pL30, pL99, pL100, pL180, pL240, pL255, pL350, pL359, pL719, pL720, pL999, pL9999, pL99999, pL100000, pL1000000, hss, c]
          · left
            have : j = 4 := by omega
            subst this
            obtain ⟨z', hz'⟩ : ∃ z' : Nat → Nat, z' = fun p => if eik D z m p = true then eB D else z p := ⟨_, rfl⟩
            have z1 : ∀ p, p < 4 → s' 59 p = nI (z' p) := fun p hp => by
              rw [g2 p hp, hz']
              show _ = nI (if eik D z m p = true then eB D else z p)
              by_cases c : eik D z m p = true
              · rw [if_pos ⟨hp, c⟩, if_pos c]
              · rw [if_neg (fun e => c e.2), if_neg c]
            have z2 : ∀ p, p < 4 → z' p ≤ 100000 := fun p hp => by
              rw [hz']
              show (if eik D z m p = true then eB D else z p) ≤ 100000
              have := k2 p hp
              split <;> omega
            have z3 : ∀ p, p < 4 → hpn (eP D) (eg D) p = false → z' p = 100000 := fun p hp c => by
              rw [hz']
              show (if eik D z m p = true then eB D else z p) = 100000
              rw [if_neg (fun e => by obtain ⟨k, e1, e2⟩ := eik_n e; rw [(hpn_t _).mpr ⟨k, e1, e2⟩] at c; exact absurd c (by decide))]
              exact hab p hp c
            have hfin : efin D z' := by
              refine efin_end hin hmB (by omega) hcase (fun k hk c => ?_) (fun k hk c => ?_)
              · rw [hz']; exact if_neg (fun e => (eik_k hk).mp e c)
              · rw [hz']; exact if_pos ((eik_k hk).mpr c)
            have efs1 : ef σ s' := ⟨fun k c1 c2 c3 c4 => by rw [g1 k c3]; exact efs.1 k c1 c2 c3 c4, fun j c1 c2 => by rw [g1 36 (by decide)]; exact efs.2 j c1 c2⟩
            simp (disch := omega) only [pn_g, pu_b1, pn_b2, pn_leT, pn_leF, pn_ltT, pn_ltF, pn_eqT, pn_eqF, pu_in, pu_ix, nI_add, pk_mul, pk_sub, ↓reduceIte, Bool.false_eq_true, if_false, if_true, nb_st_s, nb_st_k, nb_st_n, nb_sa_s, nb_sa_n, pL0, pL1, pL2, pL3, pL4, pL5, pL6, pL7, pL8, pL9, pL10, pL11, pL12, pL13, pL15, pL20, pL30, pL99, pL100, pL180, pL240, pL255, pL350, pL359, pL719, pL720, pL999, pL9999, pL99999, pL100000, pL1000000]
            refine nb_e2 (I := fun j w t => j ≤ 4 ∧ w = nI j ∧ (∀ k, k ≠ 60 → t k = s' k) ∧ ∃ G : Nat → Nat, ∀ p, p < j → t 60 p = nI (G p) ∧ ∀ k, k < eg D → eP D k = p → ego D z' (z' p) (G p)) 4 ?_ (by omega) ⟨by omega, rfl, fun _ _ => rfl, fun _ => 0, fun p hp => absurd hp (by omega)⟩
            rintro ag j w t ⟨hj, rfl, t1, G, t2⟩
            by_cases hlt : j < 4
            · right
              have eft : ef σ t := ⟨fun k c1 c2 c3 c4 => by rw [t1 k c4]; exact efs1.1 k c1 c2 c3 c4, fun j c1 c2 => by rw [t1 36 (by decide)]; exact efs1.2 j c1 c2⟩
              have tz : ∀ p, p < 4 → t 59 p = nI (z' p) := fun p hp => by rw [t1 59 (by decide)]; exact z1 p hp
              obtain ⟨r, r1, G', r2, r3⟩ := pv_goes (p := j) (show 10 < N by omega) (ec_f h eft) tz z2 z3 hfin hlt
              refine ⟨hlt, nI (j + 1), nb_st t 60 j (nI G'), ⟨by omega, rfl, fun k hk => by rw [nb_st_k hk]; exact t1 k hk, us G j G', fun p hp => ?_⟩, ?_⟩
              · by_cases c2 : p = j
                · subst c2
                  rw [nb_st_s, us_s]
                  exact ⟨rfl, r3⟩
                · rw [nb_st_n (Or.inr c2), us_n c2]
                  exact t2 p (by omega)
              · have q1 := tz j hlt
                simp (disch := omega) only [pn_g, pu_b1, pn_b2, pn_leT, pn_leF, pn_ltT, pn_ltF, pn_eqT, pn_eqF, pu_in, pu_ix, nI_add, pk_mul, pk_sub, ↓reduceIte, Bool.false_eq_true, if_false, if_true, nb_st_s, nb_st_k, nb_st_n, nb_sa_s, nb_sa_n, pL0, pL1, pL2, pL3, pL4, pL5, pL6, pL7, pL8, pL9, pL10, pL11, pL12, pL13, pL15, pL20, pL30, pL99, pL100, pL180, pL240, pL255, pL350, pL359, pL719, pL720, pL999, pL9999, pL99999, pL100000, pL1000000, q1, r1, r2]
            · left
              have : j = 4 := by omega
              subst this
              refine ⟨t, ?_, z', fun k => G (eP D k), ?_, fun p hp => by rw [t1 59 (by decide)]; exact z1 p hp, z2, fun k hk => (t2 _ (hP k hk)).1, hfin, fun k hk => (t2 _ (hP k hk)).2 k hk rfl⟩
              · simp (disch := omega) only [pn_g, pu_b1, pn_b2, pn_leT, pn_leF, pn_ltT, pn_ltF, pn_eqT, pn_eqF, pu_in, pu_ix, nI_add, pk_mul, pk_sub, ↓reduceIte, Bool.false_eq_true, if_false, if_true, nb_st_s, nb_st_k, nb_st_n, nb_sa_s, nb_sa_n, pL0, pL1, pL2, pL3, pL4, pL5, pL6, pL7, pL8, pL9, pL10, pL11, pL12, pL13, pL15, pL20, pL30, pL99, pL100, pL180, pL240, pL255, pL350, pL359, pL719, pL720, pL999, pL9999, pL99999, pL100000, pL1000000]
              · exact ⟨fun k c1 c2 c3 c4 => by rw [t1 k c4]; exact efs1.1 k c1 c2 c3 c4, fun j c1 c2 => by rw [t1 36 (by decide)]; exact efs1.2 j c1 c2⟩
        · rw [if_neg (by omega)]
          exact k1 p hp
      · right
        obtain ⟨r, r1, m', z', s', rfl, r3, r4, r5, r6, r7, r8⟩ := pv_on hN10 (ec_f h efs) hek hin (by omega)
        refine ⟨by omega, nI m', nI (j + 1), s', ⟨rfl, m', z', rfl, by omega, r4, ef_t efs r5, r6, r7, ?_⟩, ?_⟩
        · intro p hp c
          rw [r8 p hp c]
          exact hab p hp c
        · simp (disch := omega) only [pn_g, pu_b1, pn_b2, pn_leT, pn_leF, pn_ltT, pn_ltF, pn_eqT, pn_eqF, pu_in, pu_ix, nI_add, pk_mul, pk_sub, ↓reduceIte, Bool.false_eq_true, if_false, if_true, nb_st_s, nb_st_k, nb_st_n, nb_sa_s, nb_sa_n, pL0, pL1, pL2, pL3, pL4, pL5, pL6, pL7, pL8, pL9, pL10, pL11, pL12, pL13, pL15, pL20, pL30, pL99, pL100, pL180, pL240, pL255, pL350, pL359, pL719, pL720, pL999, pL9999, pL99999, pL100000, pL1000000, s7, s8, k3, cA, r1]
  · show s0 36 9 = _
    rw [f1 36 (by decide), lka_r9, hs0, bm_none]
    rfl
  · show s0 36 10 = _
    rw [f1 36 (by decide), lka_r10]
    unfold ect
    rw [ct0]
    rfl
  · intro k hk
    right
    exact ⟨by show 1000 ≤ 100000; omega, fun t ht => absurd ht (by omega)⟩
end
