section
theorem pn_ite {c d : Prop} [Decidable c] [Decidable d] {A : Type} {x y : A} (h : c ↔ d) : (if c then x else y) = if d then x else y := by
  by_cases hc : c
  · rw [if_pos hc, if_pos (h.mp hc)]
  · rw [if_neg hc, if_neg (fun q => hc (h.mpr q))]
/-- the next minute behind m at which a sign or word is told -/
def nxt (n : Nat) (M : Nat → Nat) (m x : Nat) : Prop := m < x ∧ x ≤ 100000 ∧ ∀ k, k < n → M k ≤ m ∨ x ≤ M k
theorem pv_next {N : Nat} {σ : nb_St} {q : Nat} {D : eT} {n : Nat} {M V : Nat → Nat} {X : Nat → Nat → Bool} {b : Nat} {Y : Nat → Nat} {m : Nat} (hN : 10 < N) (h0 : ec0 σ q D) (hs : ecs σ D n M V X) (hw : ecw σ q D b Y) (hm : m < 1000) : ∃ r, fX0_nextChange N σ (nI m) = some r ∧ ∃ x, r = nI x ∧ nxt n M m x ∧ nxt b Y m x := by
  obtain ⟨a1, a2, a3, a4, a5, a6, a7, a8, a9, a10, a11, a12, a13, a14, a15, a16, a17, a18, a19, a20⟩ := h0
  obtain ⟨s1, s2, s3, s4, s5, s6, s7, s8⟩ := hs
  obtain ⟨w1, w2, w3, w4, w5⟩ := hw
  have hq := xc_q a1
  unfold fX0_nextChange
  refine nb_e2 (I := fun j x w => j ≤ n ∧ w = nI j ∧ ∃ y, x = nI y ∧ nxt j M m y) n ?_ (by omega) ⟨by omega, rfl, 100000, rfl, by omega, by omega, fun k hk => absurd hk (by omega)⟩
  rintro ag j x w ⟨hj, rfl, y, rfl, y1, y2, y3⟩
  by_cases hlt : j < n
  · right
    have r1 := s3 j hlt
    have r2 := s4 j hlt
    by_cases c : M j ≤ m
    · refine ⟨hlt, nI y, nI (j + 1), ⟨by omega, rfl, y, rfl, y1, y2, fun k hk => ?_⟩, ?_⟩
      · by_cases hkj : k = j
        · subst hkj; exact Or.inl c
        · exact y3 k (by omega)
      · simp (disch := omega) only [pn_g, pu_b1, pn_b2, pn_leT, pn_leF, pn_ltT, pn_ltF, pn_eqT, pn_eqF, pu_in, pu_ix, nI_add, pk_mul, pk_sub, ↓reduceIte, Bool.false_eq_true, if_false, if_true, nb_st_s, nb_st_k, nb_st_n, nb_sa_s, nb_sa_n, pL0, pL1, pL2, pL3, pL4, pL5, pL6, pL7, pL8, pL9, pL10, pL11, pL12, pL13, pL15, pL20, pL30, pL99, pL100, pL180, pL240, pL255, pL350, pL359, pL719, pL720, pL999, pL9999, pL99999, pL100000, pL1000000, nb_let, s1, r1, c]
    · refine ⟨hlt, nI (min y (M j)), nI (j + 1), ⟨by omega, rfl, min y (M j), rfl, by omega, by omega, fun k hk => ?_⟩, ?_⟩
      · by_cases hkj : k = j
        · subst hkj; omega
        · have := y3 k (by omega); omega
      · simp (disch := omega) only [pn_g, pu_b1, pn_b2, pn_leT, pn_leF, pn_ltT, pn_ltF, pn_eqT, pn_eqF, pu_in, pu_ix, nI_add, pk_mul, pk_sub, ↓reduceIte, Bool.false_eq_true, if_false, if_true, nb_st_s, nb_st_k, nb_st_n, nb_sa_s, nb_sa_n, pL0, pL1, pL2, pL3, pL4, pL5, pL6, pL7, pL8, pL9, pL10, pL11, pL12, pL13, pL15, pL20, pL30, pL99, pL100, pL180, pL240, pL255, pL350, pL359, pL719, pL720, pL999, pL9999, pL99999, pL100000, pL1000000, nb_let, s1, r1, pu_minN]
  · left
    have : j = n := by omega
    subst this
    simp (disch := omega) only [pn_g, pu_b1, pn_b2, pn_leT, pn_leF, pn_ltT, pn_ltF, pn_eqT, pn_eqF, pu_in, pu_ix, nI_add, pk_mul, pk_sub, ↓reduceIte, Bool.false_eq_true, if_false, if_true, nb_st_s, nb_st_k, nb_st_n, nb_sa_s, nb_sa_n, pL0, pL1, pL2, pL3, pL4, pL5, pL6, pL7, pL8, pL9, pL10, pL11, pL12, pL13, pL15, pL20, pL30, pL99, pL100, pL180, pL240, pL255, pL350, pL359, pL719, pL720, pL999, pL9999, pL99999, pL100000, pL1000000, nb_let, s1]
    refine nb_e2 (I := fun i x w => i ≤ b ∧ w = nI i ∧ ∃ u, x = nI u ∧ nxt j M m u ∧ nxt i Y m u) b ?_ (by omega) ⟨by omega, rfl, y, rfl, ⟨y1, y2, y3⟩, y1, y2, fun k hk => absurd hk (by omega)⟩
    rintro ag i x w ⟨hi, rfl, u, rfl, ⟨u1, u2, u3⟩, u4, u5, u6⟩
    by_cases hlt : i < b
    · right
      have r1 := w3 i hlt
      have r2 := w4 i hlt
      by_cases c : Y i ≤ m
      · refine ⟨hlt, nI u, nI (i + 1), ⟨by omega, rfl, u, rfl, ⟨u1, u2, u3⟩, u4, u5, fun k hk => ?_⟩, ?_⟩
        · by_cases hkj : k = i
          · subst hkj; exact Or.inl c
          · exact u6 k (by omega)
        · simp (disch := omega) only [pn_g, pu_b1, pn_b2, pn_leT, pn_leF, pn_ltT, pn_ltF, pn_eqT, pn_eqF, pu_in, pu_ix, nI_add, pk_mul, pk_sub, ↓reduceIte, Bool.false_eq_true, if_false, if_true, nb_st_s, nb_st_k, nb_st_n, nb_sa_s, nb_sa_n, pL0, pL1, pL2, pL3, pL4, pL5, pL6, pL7, pL8, pL9, pL10, pL11, pL12, pL13, pL15, pL20, pL30, pL99, pL100, pL180, pL240, pL255, pL350, pL359, pL719, pL720, pL999, pL9999, pL99999, pL100000, pL1000000, nb_let, a2, hq, w1, r1, c]
      · refine ⟨hlt, nI (min u (Y i)), nI (i + 1), ⟨by omega, rfl, min u (Y i), rfl, ⟨by omega, by omega, fun k hk => by have := u3 k hk; omega⟩, by omega, by omega, fun k hk => ?_⟩, ?_⟩
        · by_cases hkj : k = i
          · subst hkj; omega
          · have := u6 k (by omega); omega
        · simp (disch := omega) only [pn_g, pu_b1, pn_b2, pn_leT, pn_leF, pn_ltT, pn_ltF, pn_eqT, pn_eqF, pu_in, pu_ix, nI_add, pk_mul, pk_sub, ↓reduceIte, Bool.false_eq_true, if_false, if_true, nb_st_s, nb_st_k, nb_st_n, nb_sa_s, nb_sa_n, pL0, pL1, pL2, pL3, pL4, pL5, pL6, pL7, pL8, pL9, pL10, pL11, pL12, pL13, pL15, pL20, pL30, pL99, pL100, pL180, pL240, pL255, pL350, pL359, pL719, pL720, pL999, pL9999, pL99999, pL100000, pL1000000, nb_let, a2, hq, w1, r1, pu_minN]
    · left
      have : i = b := by omega
      subst this
      refine ⟨nI u, ?_, u, rfl, ⟨u1, u2, u3⟩, u4, u5, u6⟩
      simp (disch := omega) only [pn_g, pu_b1, pn_b2, pn_leT, pn_leF, pn_ltT, pn_ltF, pn_eqT, pn_eqF, pu_in, pu_ix, nI_add, pk_mul, pk_sub, ↓reduceIte, Bool.false_eq_true, if_false, if_true, nb_st_s, nb_st_k, nb_st_n, nb_sa_s, nb_sa_n, pL0, pL1, pL2, pL3, pL4, pL5, pL6, pL7, pL8, pL9, pL10, pL11, pL12, pL13, pL15, pL20, pL30, pL99, pL100, pL180, pL240, pL255, pL350, pL359, pL719, pL720, pL999, pL9999, pL99999, pL100000, pL1000000, nb_let, a2, hq, w1]
theorem nxt_s {σ : nb_St} {D : eT} {n : Nat} {M V : Nat → Nat} {X : Nat → Nat → Bool} {m x i t : Nat} (hs : ecs σ D n M V X) (h : nxt n M m x) (hi : i < eg D) (h1 : m ≤ t) (h2 : t < x) : es D i t = es D i m := by
  obtain ⟨s1, s2, s3, s4, s5, s6, s7, s8⟩ := hs
  rw [s8 i hi, s8 i hi]
  have : su (fun k => if M k ≤ t ∧ X k i = true then V k else 0) n = su (fun k => if M k ≤ m ∧ X k i = true then V k else 0) n := su_c n (fun k hk => by
    have h3 := h.2.2 k hk
    have : M k ≤ t ↔ M k ≤ m := by omega
    exact pn_ite (and_congr this Iff.rfl))
  rw [this]
theorem nxt_w {σ : nb_St} {q : Nat} {D : eT} {b : Nat} {Y : Nat → Nat} {m x i t : Nat} (hw : ecw σ q D b Y) (h : nxt b Y m x) (hi : i < eg D) (h1 : m ≤ t) (h2 : t < x) : ew D i t = ew D i m := by
  obtain ⟨w1, w2, w3, w4, w5⟩ := hw
  rw [w5 i hi, w5 i hi]
  have : su (fun k => if Y k ≤ t then 10 else 0) b = su (fun k => if Y k ≤ m then 10 else 0) b := su_c b (fun k hk => by
    have h3 := h.2.2 k hk
    have : Y k ≤ t ↔ Y k ≤ m := by omega
    exact pn_ite this)
  rw [this]
def eik (D : eT) (z : Nat → Nat) (m p : Nat) : Bool := hpn (eP D) (eg D) p && !(hsn (eP D) z m (eg D) p)
theorem eik_k {D : eT} {z : Nat → Nat} {m k : Nat} (hk : k < eg D) : eik D z m (eP D k) = true ↔ ¬ z (eP D k) < m := by
  have h1 : hpn (eP D) (eg D) (eP D k) = true := (hpn_t _).mpr ⟨k, hk, rfl⟩
  have h2 : hsn (eP D) z m (eg D) (eP D k) = true ↔ z (eP D k) < m := by
    rw [hsn_t]
    constructor
    · rintro ⟨j, a, b, c⟩; exact c
    · intro c; exact ⟨k, hk, rfl, c⟩
  unfold eik
  rw [h1, Bool.true_and, ← h2]
  cases hsn (eP D) z m (eg D) (eP D k) <;> simp
theorem eik_n {D : eT} {z : Nat → Nat} {m p : Nat} (h : eik D z m p = true) : ∃ k, k < eg D ∧ eP D k = p := by
  unfold eik at h
  rw [Bool.and_eq_true] at h
  exact (hpn_t _).mp h.1
theorem pv_sits {N : Nat} {σ : nb_St} {D : eT} {z : Nat → Nat} {m p : Nat} (h8 : σ 36 8 = bm (hpn (eP D) (eg D))) (h9 : σ 36 9 = bm (hsn (eP D) z m (eg D))) (hp : p < 4) : fX0_sits N σ (nI p) = some (if eik D z m p = true then 1 else 0) := by
  unfold fX0_sits
  rw [h8, h9]
  have := bm_sit (f := hpn (eP D) (eg D)) (h := hsn (eP D) z m (eg D)) hp
  unfold eik
  by_cases c : hpn (eP D) (eg D) p = true ∧ hsn (eP D) z m (eg D) p = false
  · rw [if_pos (this.mpr c), c.1, c.2]
    rfl
  · rw [if_neg (fun e => c (this.mp e)), if_neg]
    intro e
    rw [Bool.and_eq_true] at e
    exact c ⟨e.1, by simpa using e.2⟩
def ek (σ : nb_St) (D : eT) (z : Nat → Nat) (m : Nat) : Prop := (∀ p, p < 4 → σ 59 p = nI (z p)) ∧ (∀ p, p < 4 → z p ≤ 100000) ∧ σ 36 9 = bm (hsn (eP D) z m (eg D)) ∧ σ 36 10 = nI (ect D z m)
theorem epp_le {σ : nb_St} {q : Nat} {D : eT} (h : ec σ q D) {z : Nat → Nat} {p m : Nat} : epp D z p m ≤ 100000 := by
  have := emn_b (D := D) (f := fun i => epf D z i m) (p := p) (eg D)
  unfold epp
  omega
def erd (D : eT) (z : Nat → Nat) (m p : Nat) : Nat := if eik D z m p = true then max m (epp D z p m) else 100000
def efs (D : eT) (z : Nat → Nat) (m u : Nat) : Nat → Nat
  | 0 => u
  | n + 1 => min (efs D z m u n) (erd D z m n)
theorem efs_b {D : eT} {z : Nat → Nat} {m u : Nat} (hm : m < 1000) (hu : m < u) : ∀ n, efs D z m u n ≤ u ∧ m ≤ efs D z m u n ∧ ∀ p, p < n → efs D z m u n ≤ erd D z m p
  | 0 => ⟨Nat.le_refl _, Nat.le_of_lt hu, fun p hp => absurd hp (by omega)⟩
  | n + 1 => by
    obtain ⟨h1, h2, h3⟩ := efs_b (D := D) (z := z) hm hu n
    have h4 : m ≤ erd D z m n := by
      unfold erd
      split <;> omega
    have e : efs D z m u (n + 1) = min (efs D z m u n) (erd D z m n) := rfl
    rw [e]
    refine ⟨by omega, by omega, fun p hp => ?_⟩
    by_cases c : p = n
    · subst c; omega
    · have := h3 p (by omega); omega
theorem pv_on {N : Nat} {σ : nb_St} {q : Nat} {D : eT} {z : Nat → Nat} {m : Nat} (hN : 10 < N) (h : ec σ q D) (hk : ek σ D z m) (hi : ein D z m) (hm : m < eB D) : ∃ r, fX0_goOnFrom N σ (nI m) = some r ∧ ∃ m' z' σ', r = (nI m', σ') ∧ m < m' ∧ m' ≤ eB D ∧ ef σ σ' ∧ ek σ' D z' m' ∧ ein D z' m' ∧ ∀ p, p < 4 → hpn (eP D) (eg D) p = false → z' p = z p := by
  obtain ⟨h0, ⟨n, M, V, X, hs⟩, b, Y, hw⟩ := id h
  obtain ⟨k1, k2, k3, k4⟩ := hk
  obtain ⟨a1, a2, a3, a4, a5, a6, a7, a8, a9, a10, a11, a12, a13, a14, a15, a16, a17, a18, a19, a20⟩ := id h0
  obtain ⟨r, e1, x, rfl, x1, x2⟩ := pv_next (m := m) hN h0 hs hw (by omega)
  obtain ⟨u, hu⟩ : ∃ u, u = min x (eB D) := ⟨_, rfl⟩
  have hx1 := x1.1
  have hx2 := x1.2.1
  have hsw : ∀ i, i < eg D → ∀ t, m ≤ t → t < u → es D i t = es D i m ∧ ew D i t = ew D i m := fun i hi t h1 h2 => ⟨nxt_s hs x1 hi h1 (by omega), nxt_w hw x2 hi h1 (by omega)⟩
  have hrd : ∀ p, p < 4 → erd D z m p ≤ 100000 := fun p hp => by
    have := epp_le h (z := z) (p := p) (m := m)
    unfold erd
    split <;> omega
  have hsk : ∀ k, k < eg D → (1000 ≤ z (eP D k) ↔ eik D z m (eP D k) = true) := fun k hk => by
    rw [eik_k hk]
    rcases hi k hk with ⟨c1, c2, -⟩ | ⟨c1, -⟩ <;> omega
  unfold fX0_goOnFrom
  rw [e1, pu_b1, a18, pu_minN (by omega) (by omega), ← hu]
  simp only [nb_let]
  have hu2 : m < u := by omega
  have hfb := efs_b (D := D) (z := z) (u := u) (show m < 1000 by omega) hu2
  refine nb_e3 (I := fun j x w s => j ≤ 4 ∧ w = nI j ∧ x = nI (efs D z m u j) ∧ (∀ k, k ≠ 58 → s k = σ k) ∧ ∀ p, p < j → s 58 p = nI (erd D z m p)) 4 ?_ (by omega) ⟨by omega, rfl, rfl, fun _ _ => rfl, fun p hp => absurd hp (by omega)⟩
  rintro ag j x w s ⟨hj, rfl, rfl, f1, f2⟩
  obtain ⟨t1, t2, t3⟩ := hfb j
  by_cases hlt : j < 4
  · right
    have r0 := hrd j hlt
    have efj : ef σ s := ⟨fun k _ h2 _ _ => f1 k h2, fun j _ _ => by rw [f1 36 (by decide)]⟩
    have hss : fX0_sits N s (nI j) = some (if eik D z m j = true then 1 else 0) := pv_sits (by rw [f1 36 (by decide)]; exact a20) (by rw [f1 36 (by decide)]; exact k3) hlt
    have hpf : fX0_pairFrom N s (nI j) (nI m) = some (nI (epp D z j m)) := pv_pair hN (ec_f h efj) (by rw [f1 36 (by decide)]; exact k3) (by rw [f1 36 (by decide)]; exact k4) hlt (by omega)
    have r1 := epp_le h (z := z) (p := j) (m := m)
    refine ⟨hlt, nI (efs D z m u (j + 1)), nI (j + 1), nb_st s 58 j (nI (erd D z m j)), ⟨by omega, rfl, rfl, fun k hk => by rw [nb_st_k hk]; exact f1 k hk, fun p hp => ?_⟩, ?_⟩
    · by_cases c : p = j
      · subst c; exact nb_st_s
      · rw [nb_st_n (Or.inr c)]; exact f2 p (by omega)
    · have ee : efs D z m u (j + 1) = min (efs D z m u j) (erd D z m j) := rfl
      rw [ee]
      by_cases c : eik D z m j = true
      · have e2 : erd D z m j = max m (epp D z j m) := if_pos c
        rw [e2] at r0 ⊢
        simp (disch := omega) only [pn_g, pu_b1, pn_b2, pn_leT, pn_leF, pn_ltT, pn_ltF, pn_eqT, pn_eqF, pu_in, pu_ix, nI_add, pk_mul, pk_sub, ↓reduceIte, Bool.false_eq_true, if_false, if_true, nb_st_s, nb_st_k, nb_st_n, nb_sa_s, nb_sa_n, pL0, pL1, pL2, pL3, pL4, pL5, pL6, pL7, pL8, pL9, pL10, pL11, pL12, pL13, pL15, pL20, pL30, pL99, pL100, pL180, pL240, pL255, pL350, pL359, pL719, pL720, pL999, pL9999, pL99999, pL100000, pL1000000, hss, hpf, c, pu_maxN, pu_minN]
      · have e2 : erd D z m j = 100000 := if_neg c
        rw [e2]
        simp (disch := omega) only [pn_g, pu_b1, pn_b2, pn_leT, pn_leF, pn_ltT, pn_ltF, pn_eqT, pn_eqF, pu_in, pu_ix, nI_add, pk_mul, pk_sub, ↓reduceIte, Bool.false_eq_true, if_false, if_true, nb_st_s, nb_st_k, nb_st_n, nb_sa_s, nb_sa_n, pL0, pL1, pL2, pL3, pL4, pL5, pL6, pL7, pL8, pL9, pL10, pL11, pL12, pL13, pL15, pL20, pL30, pL99, pL100, pL180, pL240, pL255, pL350, pL359, pL719, pL720, pL999, pL9999, pL99999, pL100000, pL1000000, hss, c, pu_minN]
  · left
    have : j = 4 := by omega
    subst this
    have efs0 : ef σ s := ⟨fun k _ h2 _ _ => f1 k h2, fun j _ _ => by rw [f1 36 (by decide)]⟩
    by_cases cu : efs D z m u 4 < u
    · simp (disch := omega) only [pn_g, pu_b1, pn_b2, pn_leT, pn_leF, pn_ltT, pn_ltF, pn_eqT, pn_eqF, pu_in, pu_ix, nI_add, pk_mul, pk_sub, ↓reduceIte, Bool.false_eq_true, if_false, if_true, nb_st_s, nb_st_k, nb_st_n, nb_sa_s, nb_sa_n, pL0, pL1, pL2, pL3, pL4, pL5, pL6, pL7, pL8, pL9, pL10, pL11, pL12, pL13, pL15, pL20, pL30, pL99, pL100, pL180, pL240, pL255, pL350, pL359, pL719, pL720, pL999, pL9999, pL99999, pL100000, pL1000000]
      refine nb_e2 (I := fun j w s' => j ≤ 4 ∧ w = nI j ∧ (∀ k, k ≠ 59 → s' k = s k) ∧ ∀ p, p < 4 → s' 59 p = if p < j ∧ erd D z m p ≤ efs D z m u 4 then nI (efs D z m u 4) else nI (z p)) 4 ?_ (by omega) ⟨by omega, rfl, fun _ _ => rfl, fun p hp => ?_⟩
      · rintro ag j w s' ⟨hj, rfl, g1, g2⟩
        by_cases hlt : j < 4
        · right
          have r0 := hrd j hlt
          have q1 := f2 j hlt
          by_cases c : erd D z m j ≤ efs D z m u 4
          · refine ⟨hlt, nI (j + 1), nb_st s' 59 j (nI (efs D z m u 4)), ⟨by omega, rfl, fun k hk => by rw [nb_st_k hk]; exact g1 k hk, fun p hp => ?_⟩, ?_⟩
            · by_cases c2 : p = j
              · subst c2
                rw [nb_st_s, if_pos ⟨by omega, c⟩]
              · rw [nb_st_n (Or.inr c2), g2 p hp]
                have : (p < j ∧ erd D z m p ≤ efs D z m u 4) ↔ (p < j + 1 ∧ erd D z m p ≤ efs D z m u 4) := by omega
                exact pn_ite this
            · simp (disch := omega) only [pn_g, pu_b1, pn_b2, pn_leT, pn_leF, pn_ltT, pn_ltF, pn_eqT, pn_eqF, pu_in, pu_ix, nI_add, pk_mul, pk_sub, ↓reduceIte, Bool.false_eq_true, if_false, if_true, nb_st_s, nb_st_k, nb_st_n, nb_sa_s, nb_sa_n, pL0, pL1, pL2, pL3, pL4, pL5, pL6, pL7, pL8, pL9, pL10, pL11, pL12, pL13, pL15, pL20, pL30, pL99, pL100, pL180, pL240, pL255, pL350, pL359, pL719, pL720, pL999, pL9999, pL99999, pL100000, pL1000000, nb_let, g1 58 (by decide), q1]
          · refine ⟨hlt, nI (j + 1), s', ⟨by omega, rfl, g1, fun p hp => ?_⟩, ?_⟩
            · rw [g2 p hp]
              have : (p < j ∧ erd D z m p ≤ efs D z m u 4) ↔ (p < j + 1 ∧ erd D z m p ≤ efs D z m u 4) := by
                by_cases c2 : p = j
                · subst c2; omega
                · omega
              exact pn_ite this
            · simp (disch := omega) only [pn_g, pu_b1, pn_b2, pn_leT, pn_leF, pn_ltT, pn_ltF, pn_eqT, pn_eqF, pu_in, pu_ix, nI_add, pk_mul, pk_sub, ↓reduceIte, Bool.false_eq_true, if_false, if_true, nb_st_s, nb_st_k, nb_st_n, nb_sa_s, nb_sa_n, pL0, pL1, pL2, pL3, pL4, pL5, pL6, pL7, pL8, pL9, pL10, pL11, pL12, pL13, pL15, pL20, pL30, pL99, pL100, pL180, pL240, pL255, pL350, pL359, pL719, pL720, pL999, pL9999, pL99999, pL100000, pL1000000, nb_let, g1 58 (by decide), q1]
        · left
          have : j = 4 := by omega
          subst this
          obtain ⟨z', hz'⟩ : ∃ z' : Nat → Nat, z' = fun p => if erd D z m p ≤ efs D z m u 4 then efs D z m u 4 else z p := ⟨_, rfl⟩
          have z1 : ∀ p, p < 4 → s' 59 p = nI (z' p) := fun p hp => by
            rw [g2 p hp, hz']
            show _ = nI (if erd D z m p ≤ efs D z m u 4 then efs D z m u 4 else z p)
            by_cases c : erd D z m p ≤ efs D z m u 4
            · rw [if_pos ⟨hp, c⟩, if_pos c]
            · rw [if_neg (fun e => c e.2), if_neg c]
          have z2 : ∀ p, p < 4 → z' p ≤ 100000 := fun p hp => by
            rw [hz']
            show (if erd D z m p ≤ efs D z m u 4 then efs D z m u 4 else z p) ≤ 100000
            have := k2 p hp
            split <;> omega
          have efs1 : ef σ s' := ⟨fun k h1 h2 h3 h4 => by rw [g1 k h3, f1 k h2], fun j h1 h2 => by rw [g1 36 (by decide), f1 36 (by decide)]⟩
          have hl := pv_look (N := N) (m := efs D z m u 4 + 1) hN (ec_f h efs1) z1 z2 (by omega)
          refine ⟨(nI (efs D z m u 4 + 1), lka s' (bm (hsn (eP D) z' (efs D z m u 4 + 1) (eg D))) (nI (ect D z' (efs D z m u 4 + 1)))), ?_, efs D z m u 4 + 1, z', _, rfl, by omega, by omega, ef_t efs1 lka_f, ⟨fun p hp => by rw [lka_k (by decide)]; exact z1 p hp, z2, rfl, rfl⟩, ?_, fun p hp c => ?_⟩
          · simp (disch := omega) only [pn_g, pu_b1, pn_b2, pn_leT, pn_leF, pn_ltT, pn_ltF, pn_eqT, pn_eqF, pu_in, pu_ix, nI_add, pk_mul, pk_sub, ↓reduceIte, Bool.false_eq_true, if_false, if_true, nb_st_s, nb_st_k, nb_st_n, nb_sa_s, nb_sa_n, pL0, pL1, pL2, pL3, pL4, pL5, pL6, pL7, pL8, pL9, pL10, pL11, pL12, pL13, pL15, pL20, pL30, pL99, pL100, pL180, pL240, pL255, pL350, pL359, pL719, pL720, pL999, pL9999, pL99999, pL100000, pL1000000, nb_let, hl]
          · have key : ∀ k, k < eg D → 1000 ≤ z (eP D k) → erd D z m (eP D k) = max m (epp D z (eP D k) m) := fun k hk c => if_pos ((hsk k hk).mp c)
            have key2 : ∀ k, k < eg D → ¬ 1000 ≤ z (eP D k) → erd D z m (eP D k) = 100000 := fun k hk c => if_neg (fun e => c ((hsk k hk).mpr e))
            refine ein_leap1 (u := u) hi t2 cu (by omega) (by omega) hsw (fun k hk c => ?_) (fun k hk c c2 => ?_) (fun k hk c => ?_)
            · rw [← key k hk c]
              exact t3 _ (a7 k hk)
            · rw [← key k hk c] at c2
              rw [hz']
              exact if_pos c2
            · rw [hz']
              apply if_neg
              intro e
              by_cases c1 : 1000 ≤ z (eP D k)
              · rw [key k hk c1] at e
                exact c ⟨c1, e⟩
              · rw [key2 k hk c1] at e
                omega
          · have e : erd D z m p = 100000 := if_neg (fun e => by obtain ⟨k, e1, e2⟩ := eik_n e; rw [(hpn_t _).mpr ⟨k, e1, e2⟩] at c; exact absurd c (by decide))
            rw [hz']
            exact if_neg (by omega)
      · rw [if_neg (by omega), f1 59 (by decide)]
        exact k1 p hp
    · have eu : efs D z m u 4 = u := by omega
      refine ⟨(nI u, s), ?_, u, z, s, rfl, hu2, by omega, efs0, ?_, ?_, fun _ _ _ => rfl⟩
      · simp (disch := omega) only [pn_g, pu_b1, pn_b2, pn_leT, pn_leF, pn_ltT, pn_ltF, pn_eqT, pn_eqF, pu_in, pu_ix, nI_add, pk_mul, pk_sub, ↓reduceIte, Bool.false_eq_true, if_false, if_true, nb_st_s, nb_st_k, nb_st_n, nb_sa_s, nb_sa_n, pL0, pL1, pL2, pL3, pL4, pL5, pL6, pL7, pL8, pL9, pL10, pL11, pL12, pL13, pL15, pL20, pL30, pL99, pL100, pL180, pL240, pL255, pL350, pL359, pL719, pL720, pL999, pL9999, pL99999, pL100000, pL1000000, eu]
      · refine ⟨fun p hp => by rw [f1 59 (by decide)]; exact k1 p hp, k2, ?_, ?_⟩
        · rw [f1 36 (by decide), k3]
          exact hsn_c _ (fun k hk => (ein_z hi (by omega) (by omega) k hk).symm)
        · rw [f1 36 (by decide), k4]
          congr 1
          exact ectn_c _ (fun k hk => (ein_z hi (by omega) (by omega) k hk).symm)
      · refine ein_leap0 hi (by omega) (by omega) (by omega) hsw (fun k hk c => ?_)
        have key : erd D z m (eP D k) = max m (epp D z (eP D k) m) := if_pos ((hsk k hk).mp c)
        rw [← key, ← eu]
        have := t3 _ (a7 k hk)
        omega
end
