section
theorem hsn_any {D : eT} {z : Nat → Nat} {m : Nat} (hP : ∀ k, k < eg D → eP D k < 4) : bm (hsn (eP D) z m (eg D)) = 0 ↔ ect D z m = 0 := by
  rw [bm_zero]
  have key : ∀ n, ectn D z m n = 0 ↔ ∀ k, k < n → ¬ z (eP D k) < m := by
    intro n
    induction n with
    | zero =>
      constructor
      · intro _ k hk; omega
      · intro _; rfl
    | succ n ih =>
      have e : ectn D z m (n + 1) = ectn D z m n + (if z (eP D n) < m then 1 else 0) := rfl
      rw [e]
      constructor
      · intro q k hk
        by_cases hkn : k = n
        · subst hkn
          intro c
          rw [if_pos c] at q
          omega
        · exact ih.mp (by omega) k (by omega)
      · intro q
        rw [if_neg (q n (by omega)), ih.mpr (fun k hk => q k (by omega))]
  unfold ect
  rw [key]
  constructor
  · intro q k hk c
    have h1 : hsn (eP D) z m (eg D) (eP D k) = true := (hsn_t _).mpr ⟨k, hk, rfl, c⟩
    rw [q _ (hP k hk)] at h1
    exact absurd h1 (by decide)
  · intro q p hp
    cases a : hsn (eP D) z m (eg D) p with
    | false => rfl
    | true =>
      obtain ⟨k, h1, h2, h3⟩ := (hsn_t _).mp a
      rw [← h2] at h3
      exact absurd h3 (q k h1)
theorem hsn_oth {D : eT} {z : Nat → Nat} {i m : Nat} (hP : ∀ k, k < eg D → eP D k < 4) : (∀ q, q < 4 → q = eP D i ∨ hpn (eP D) (eg D) q = false ∨ hsn (eP D) z m (eg D) q = true) ↔ eoth D z i m = true := by
  rw [eoth_t]
  constructor
  · intro h k hk
    rcases h _ (hP k hk) with a | a | a
    · exact Or.inl a
    · rw [(hpn_t (P := eP D) (p := eP D k) (eg D)).mpr ⟨k, hk, rfl⟩] at a
      exact absurd a (by decide)
    · obtain ⟨j, h1, h2, h3⟩ := (hsn_t _).mp a
      exact Or.inr h3
  · intro h p hp
    by_cases a : hpn (eP D) (eg D) p = true
    · obtain ⟨k, h1, h2⟩ := (hpn_t _).mp a
      rcases h k h1 with c | c
      · exact Or.inl (h2.symm.trans c)
      · rw [h2] at c
        exact Or.inr (Or.inr ((hsn_t _).mpr ⟨k, h1, h2, c⟩))
    · exact Or.inr (Or.inl (by simpa using a))
theorem ectn_le {D : eT} {z : Nat → Nat} {m n : Nat} : ectn D z m n ≤ n := by
  have := su_le (f := fun k => if z (eP D k) < m then 1 else 0) (B := 1) n (fun k _ => by
    show (if z (eP D k) < m then 1 else 0) ≤ 1
    split <;> omega)
  unfold ectn
  omega
theorem ew_le {σ : nb_St} {q : Nat} {D : eT} (h : ec σ q D) {i t : Nat} (hi : i < eg D) : ew D i t ≤ 40 := by
  obtain ⟨-, -, b, Y, w1, w2, w3, w4, w5⟩ := h
  rw [w5 i hi]
  have := su_le (f := fun k => if Y k ≤ t then 10 else 0) (B := 10) b (fun k _ => by
    show (if Y k ≤ t then 10 else 0) ≤ 10
    split <;> omega)
  split <;> omega
theorem epf_le {σ : nb_St} {q : Nat} {D : eT} (h : ec σ q D) {z : Nat → Nat} {i m : Nat} (hi : i < eg D) : epf D z i m ≤ 100000 := by
  have h1 := ew_le h (t := m) hi
  obtain ⟨⟨a1, a2, a3, a4, a5, a6, a7, a8, a9, a10, a11, a12, a13, a14, a15, a16, a17, a18, a19, a20⟩, -, -⟩ := h
  have h2 := a11 i hi
  have h3 := a13 i hi
  unfold epf esh
  split
  · omega
  · split <;> omega
theorem pv_from {N : Nat} {σ : nb_St} {q : Nat} {D : eT} {z : Nat → Nat} {i m : Nat} (hN : 10 < N) (h : ec σ q D) (h9 : σ 36 9 = bm (hsn (eP D) z m (eg D))) (h10 : σ 36 10 = nI (ect D z m)) (hi : i < eg D) (hm : m < 1000) : fX0_pressesFrom N σ (nI i) (nI m) = some (nI (epf D z i m)) := by
  have hle : ect D z m ≤ 8 := Nat.le_trans ectn_le h.1.2.2.2.2.1
  have hsh := pv_shame (t := m) hN h h10 hle hi hm
  have hw := ew_le h (t := m) hi
  obtain ⟨⟨a1, a2, a3, a4, a5, a6, a7, a8, a9, a10, a11, a12, a13, a14, a15, a16, a17, a18, a19, a20⟩, -, -⟩ := h
  have hq := xc_q a1
  have k1 := a8 i hi
  have k2 := a9 i hi
  have k3 := a10 i hi
  have k4 := a11 i hi
  have k5 := a13 i hi
  have k6 := a6 i hi
  have k7 := a7 i hi
  have hsh2 : fX0_shameAt N σ (nI i) (nI m) = some (nI (esh D z i m)) := hsh
  have hb : esh D z i m ≤ 300 := by unfold esh; omega
  have hz := hsn_any (z := z) (m := m) a7
  have ho := hsn_oth (z := z) (i := i) (m := m) a7
  have hm4 := bm_oth (f := hpn (eP D) (eg D)) (h := hsn (eP D) z m (eg D)) (p := eP D i) k7
  rw [ho] at hm4
  have g8 : nb_in (nI i) 8 = true := pu_in (by omega) (by omega)
  unfold fX0_pressesFrom
  simp only [nb_let, g8, pn_g]
  rw [pu_ix (by omega), k1, a2, pu_ix (by omega), nb_g_t hq, k6, a20, h9, k3, hsh2, pu_b1]
  unfold epf
  by_cases c4 : eK D i = 4
  · rw [if_pos (show nI (eK D i) = (4 : Int32) by rw [c4]; rfl)]
    cases co : eoth D z i m with
    | true =>
      rw [if_pos (hm4.mpr co), if_neg (show ¬ nI (eK D i) = (3 : Int32) by rw [c4]; decide), if_neg (show ¬ nI (eK D i) = (5 : Int32) by rw [c4]; decide), if_neg (by simp), if_neg (by omega), nI_add]
    | false =>
      rw [if_neg (fun e => by rw [hm4.mp e] at co; exact absurd co (by decide)), if_pos ⟨c4, rfl⟩]
      rfl
  · rw [if_neg (show ¬ nI (eK D i) = (4 : Int32) from fun e => c4 ((nI_eq (b := 4) (by omega) (by omega)).mp e)), if_neg (show ¬ (eK D i = 4 ∧ eoth D z i m = false) from fun e => c4 e.1)]
    by_cases c3 : eK D i = 3
    · rw [if_pos (show nI (eK D i) = (3 : Int32) by rw [c3]; rfl), if_pos (Or.inl c3)]
    · rw [if_neg (show ¬ nI (eK D i) = (3 : Int32) from fun e => c3 ((nI_eq (b := 3) (by omega) (by omega)).mp e))]
      by_cases c5 : eK D i = 5
      · rw [if_pos (show nI (eK D i) = (5 : Int32) by rw [c5]; rfl)]
        by_cases c0 : ect D z m = 0
        · rw [if_pos (hz.mpr c0), if_neg (by omega), nI_add]
        · rw [if_neg (fun e => c0 (hz.mp e)), if_pos (by omega)]
      · rw [if_neg (show ¬ nI (eK D i) = (5 : Int32) from fun e => c5 ((nI_eq (b := 5) (by omega) (by omega)).mp e)), if_neg (by omega), nI_add]
theorem emx_b {D : eT} {f : Nat → Nat} {p B : Nat} : ∀ n, (∀ i, i < n → f i ≤ B) → emx D f p n ≤ B := fun n h => (emx_le n).mpr (fun i hi _ => h i hi)
theorem emn_b {D : eT} {f : Nat → Nat} {p : Nat} : ∀ n, emn D f p n ≤ 100000
  | 0 => Nat.le_refl _
  | n + 1 => by
    have := emn_b (D := D) (f := f) (p := p) n
    unfold emn
    split <;> omega
theorem pv_pair {N : Nat} {σ : nb_St} {q : Nat} {D : eT} {z : Nat → Nat} {p m : Nat} (hN : 10 < N) (h : ec σ q D) (h9 : σ 36 9 = bm (hsn (eP D) z m (eg D))) (h10 : σ 36 10 = nI (ect D z m)) (hp : p < 4) (hm : m < 1000) : fX0_pairFrom N σ (nI p) (nI m) = some (nI (epp D z p m)) := by
  have hfr : ∀ i, i < eg D → fX0_pressesFrom N σ (nI i) (nI m) = some (nI (epf D z i m)) := fun i hi => pv_from hN h h9 h10 hi hm
  have hle : ∀ i, i < eg D → epf D z i m ≤ 100000 := fun i hi => epf_le h hi
  obtain ⟨⟨a1, a2, a3, a4, a5, a6, a7, a8, a9, a10, a11, a12, a13, a14, a15, a16, a17, a18, a19, a20⟩, -, -⟩ := h
  have hq := xc_q a1
  obtain ⟨f, hf⟩ : ∃ f : Nat → Nat, f = fun i => epf D z i m := ⟨_, rfl⟩
  have hfr2 : ∀ i, i < eg D → fX0_pressesFrom N σ (nI i) (nI m) = some (nI (f i)) := by rw [hf]; exact hfr
  have hle2 : ∀ i, i < eg D → f i ≤ 100000 := by rw [hf]; exact hle
  unfold epp
  rw [← hf]
  apply pn_x
  unfold fX0_pairFrom
  refine nb_e3 (I := fun j x y w => j ≤ eg D ∧ w = nI j ∧ x = nI (emx D f p j) ∧ y = nI (emn D f p j)) (eg D) ?_ (by omega) ⟨by omega, rfl, rfl, rfl⟩
  rintro ag j x y w ⟨hj, rfl, rfl, rfl⟩
  have b1 := emx_b (D := D) (f := f) (p := p) (B := 100000) j (fun i hi => hle2 i (by omega))
  have b2 := emn_b (D := D) (f := f) (p := p) j
  by_cases hlt : j < eg D
  · right
    have r1 := a6 j hlt
    have r2 := a7 j hlt
    have r3 := a8 j hlt
    have r4 := a9 j hlt
    have r5 := hfr2 j hlt
    have r6 := hle2 j hlt
    refine ⟨hlt, nI (emx D f p (j + 1)), nI (emn D f p (j + 1)), nI (j + 1), ⟨by omega, rfl, rfl, rfl⟩, ?_⟩
    have u1 : emx D f p (j + 1) = if eP D j = p then max (emx D f p j) (f j) else emx D f p j := rfl
    have u2 : emn D f p (j + 1) = if eP D j = p ∧ eK D j = 3 then min (emn D f p j) (f j) else emn D f p j := rfl
    rw [u1, u2]
    by_cases cp : eP D j = p
    · by_cases ck : eK D j = 3
      · rw [if_pos cp, if_pos ⟨cp, ck⟩]
        simp (disch := omega) only [pn_g, pu_b1, pn_b2, pn_leT, pn_leF, pn_ltT, pn_ltF, pn_eqT, pn_eqF, pu_in, pu_ix, nI_add, pk_mul, pk_sub, ↓reduceIte, Bool.false_eq_true, if_false, if_true, nb_st_s, nb_st_k, nb_st_n, nb_sa_s, nb_sa_n, pL0, pL1, pL2, pL3, pL4, pL5, pL6, pL7, pL8, pL9, pL10, pL11, pL12, pL13, pL15, pL20, pL30, pL99, pL100, pL180, pL240, pL255, pL350, pL359, pL719, pL720, pL999, pL9999, pL99999, pL100000, pL1000000, nb_let, a2, hq, a3, r1, r3, r5, cp, ck, pu_maxN, pu_minN]
      · rw [if_pos cp, if_neg (fun e => ck e.2)]
        simp (disch := omega) only [pn_g, pu_b1, pn_b2, pn_leT, pn_leF, pn_ltT, pn_ltF, pn_eqT, pn_eqF, pu_in, pu_ix, nI_add, pk_mul, pk_sub, ↓reduceIte, Bool.false_eq_true, if_false, if_true, nb_st_s, nb_st_k, nb_st_n, nb_sa_s, nb_sa_n, pL0, pL1, pL2, pL3, pL4, pL5, pL6, pL7, pL8, pL9, pL10, pL11, pL12, pL13, pL15, pL20, pL30, pL99, pL100, pL180, pL240, pL255, pL350, pL359, pL719, pL720, pL999, pL9999, pL99999, pL100000, pL1000000, nb_let, a2, hq, a3, r1, r3, r5, cp, ck, pu_maxN, pu_minN]
    · rw [if_neg cp, if_neg (fun e => cp e.1)]
      simp (disch := omega) only [pn_g, pu_b1, pn_b2, pn_leT, pn_leF, pn_ltT, pn_ltF, pn_eqT, pn_eqF, pu_in, pu_ix, nI_add, pk_mul, pk_sub, ↓reduceIte, Bool.false_eq_true, if_false, if_true, nb_st_s, nb_st_k, nb_st_n, nb_sa_s, nb_sa_n, pL0, pL1, pL2, pL3, pL4, pL5, pL6, pL7, pL8, pL9, pL10, pL11, pL12, pL13, pL15, pL20, pL30, pL99, pL100, pL180, pL240, pL255, pL350, pL359, pL719, pL720, pL999, pL9999, pL99999, pL100000, pL1000000, nb_let, a2, hq, a3, r1, cp]
  · left
    have : j = eg D := by omega
    subst this
    refine ⟨_, ?_, rfl⟩
    simp (disch := omega) only [pn_g, pu_b1, pn_b2, pn_leT, pn_leF, pn_ltT, pn_ltF, pn_eqT, pn_eqF, pu_in, pu_ix, nI_add, pk_mul, pk_sub, ↓reduceIte, Bool.false_eq_true, if_false, if_true, nb_st_s, nb_st_k, nb_st_n, nb_sa_s, nb_sa_n, pL0, pL1, pL2, pL3, pL4, pL5, pL6, pL7, pL8, pL9, pL10, pL11, pL12, pL13, pL15, pL20, pL30, pL99, pL100, pL180, pL240, pL255, pL350, pL359, pL719, pL720, pL999, pL9999, pL99999, pL100000, pL1000000, nb_let, a2, hq, a3, pu_minN]
def lka (σ : nb_St) (a b : Int32) : nb_St := fun x y => if x = 36 ∧ y = 9 then a else if x = 36 ∧ y = 10 then b else σ x y
theorem lka_0 {σ : nb_St} {a b : Int32} : nb_st (nb_st σ 36 9 a) 36 10 b = lka σ a b := by
  funext x y
  unfold nb_st lka
  by_cases h : x = 36 ∧ y = 9
  · obtain ⟨rfl, rfl⟩ := h; simp
  · by_cases h2 : x = 36 ∧ y = 10
    · obtain ⟨rfl, rfl⟩ := h2; simp
    · rw [if_neg h2, if_neg h, if_neg h, if_neg h2]
theorem lka_9 {σ : nb_St} {a b c : Int32} : nb_st (lka σ a b) 36 9 c = lka σ c b := by
  funext x y
  unfold nb_st lka
  by_cases h : x = 36 ∧ y = 9
  · rw [if_pos h, if_pos h]
  · rw [if_neg h, if_neg h, if_neg h]
theorem lka_10 {σ : nb_St} {a b c : Int32} : nb_st (lka σ a b) 36 10 c = lka σ a c := by
  funext x y
  unfold nb_st lka
  by_cases h : x = 36 ∧ y = 10
  · obtain ⟨rfl, rfl⟩ := h; simp
  · rw [if_neg h]
    by_cases h2 : x = 36 ∧ y = 9
    · rw [if_pos h2, if_pos h2]
    · rw [if_neg h2, if_neg h2, if_neg h, if_neg h]
theorem lka_r9 {σ : nb_St} {a b : Int32} : lka σ a b 36 9 = a := rfl
theorem lka_r10 {σ : nb_St} {a b : Int32} : lka σ a b 36 10 = b := rfl
theorem lka_k {σ : nb_St} {a b : Int32} {k : Nat} (h : k ≠ 36) : lka σ a b k = σ k := by
  funext y
  unfold lka
  rw [if_neg (fun e => h e.1), if_neg (fun e => h e.1)]
theorem lka_j {σ : nb_St} {a b : Int32} {j : Nat} (h : j ≠ 9) (h2 : j ≠ 10) : lka σ a b 36 j = σ 36 j := by
  unfold lka
  rw [if_neg (fun e => h e.2), if_neg (fun e => h2 e.2)]
theorem lka_f {σ : nb_St} {a b : Int32} : ef σ (lka σ a b) := ⟨fun k h _ _ _ => lka_k h, fun j h1 h2 => lka_j h1 h2⟩
theorem pv_look {N : Nat} {σ : nb_St} {q : Nat} {D : eT} {z : Nat → Nat} {m : Nat} (hN : 10 < N) (h : ec σ q D) (hz : ∀ p, p < 4 → σ 59 p = nI (z p)) (hz2 : ∀ p, p < 4 → z p ≤ 100000) (hm : m ≤ 1000) : fX0_lookAt N σ (nI m) = some (lka σ (bm (hsn (eP D) z m (eg D))) (nI (ect D z m))) := by
  obtain ⟨⟨a1, a2, a3, a4, a5, a6, a7, a8, a9, a10, a11, a12, a13, a14, a15, a16, a17, a18, a19, a20⟩, -, -⟩ := h
  have hq := xc_q a1
  apply pn_x
  unfold fX0_lookAt
  simp only [nb_let]
  rw [lka_0]
  refine nb_e2 (I := fun j x s => j ≤ eg D ∧ x = nI j ∧ s = lka σ (bm (hsn (eP D) z m j)) (nI (ectn D z m j))) (eg D) ?_ (by omega) ⟨by omega, rfl, rfl⟩
  rintro ag j x s ⟨hj, rfl, rfl⟩
  have b1 := ectn_le (D := D) (z := z) (m := m) (n := j)
  by_cases hlt : j < eg D
  · right
    have r1 := a6 j hlt
    have r2 := a7 j hlt
    have r3 := hz _ r2
    have r4 := hz2 _ r2
    refine ⟨hlt, nI (j + 1), lka σ (bm (hsn (eP D) z m (j + 1))) (nI (ectn D z m (j + 1))), ⟨by omega, rfl, rfl⟩, ?_⟩
    have u1 : ectn D z m (j + 1) = ectn D z m j + (if z (eP D j) < m then 1 else 0) := rfl
    have u2 : hsn (eP D) z m (j + 1) = if z (eP D j) < m then fun p => hsn (eP D) z m j p || eP D j == p else hsn (eP D) z m j := rfl
    rw [u1, u2]
    by_cases c : z (eP D j) < m
    · rw [if_pos c, if_pos c]
      simp (disch := omega) only [pn_g, pu_b1, pn_b2, pn_leT, pn_leF, pn_ltT, pn_ltF, pn_eqT, pn_eqF, pu_in, pu_ix, nI_add, pk_mul, pk_sub, ↓reduceIte, Bool.false_eq_true, if_false, if_true, nb_st_s, nb_st_k, nb_st_n, nb_sa_s, nb_sa_n, pL0, pL1, pL2, pL3, pL4, pL5, pL6, pL7, pL8, pL9, pL10, pL11, pL12, pL13, pL15, pL20, pL30, pL99, pL100, pL180, pL240, pL255, pL350, pL359, pL719, pL720, pL999, pL9999, pL99999, pL100000, pL1000000, nb_let, lka_k, lka_j, lka_r9, lka_r10, lka_9, lka_10, a2, hq, a3, r1, r3, bm_or]
    · rw [if_neg c, if_neg c]
      simp (disch := omega) only [pn_g, pu_b1, pn_b2, pn_leT, pn_leF, pn_ltT, pn_ltF, pn_eqT, pn_eqF, pu_in, pu_ix, nI_add, pk_mul, pk_sub, ↓reduceIte, Bool.false_eq_true, if_false, if_true, nb_st_s, nb_st_k, nb_st_n, nb_sa_s, nb_sa_n, pL0, pL1, pL2, pL3, pL4, pL5, pL6, pL7, pL8, pL9, pL10, pL11, pL12, pL13, pL15, pL20, pL30, pL99, pL100, pL180, pL240, pL255, pL350, pL359, pL719, pL720, pL999, pL9999, pL99999, pL100000, pL1000000, nb_let, lka_k, lka_j, lka_r9, lka_r10, lka_9, lka_10, a2, hq, a3, r1, r3, Nat.add_zero]
  · left
    have : j = eg D := by omega
    subst this
    refine ⟨_, ?_, rfl⟩
    simp (disch := omega) only [pn_g, pu_b1, pn_b2, pn_leT, pn_leF, pn_ltT, pn_ltF, pn_eqT, pn_eqF, pu_in, pu_ix, nI_add, pk_mul, pk_sub, ↓reduceIte, Bool.false_eq_true, if_false, if_true, nb_st_s, nb_st_k, nb_st_n, nb_sa_s, nb_sa_n, pL0, pL1, pL2, pL3, pL4, pL5, pL6, pL7, pL8, pL9, pL10, pL11, pL12, pL13, pL15, pL20, pL30, pL99, pL100, pL180, pL240, pL255, pL350, pL359, pL719, pL720, pL999, pL9999, pL99999, pL100000, pL1000000, nb_let, lka_k, lka_j, a2, hq, a3]
    rfl
end
