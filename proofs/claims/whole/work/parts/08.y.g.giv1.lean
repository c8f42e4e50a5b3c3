section
def dg (b o c k : Nat) : Nat := c / b ^ (o - 1 - k) % b
theorem dg_lt {b o c k : Nat} (hb : 0 < b) : dg b o c k < b := Nat.mod_lt _ hb
theorem pu_cn0 {o : Nat} : nI o - (1 : Int32) = pu_cn o 0 := by
  unfold pu_cn
  by_cases h : 0 < o
  · rw [if_pos h, pu_pred h]; rfl
  · rw [if_neg h, show o = 0 by omega]; decide
theorem pu_cnT {o j : Nat} (h : j < o) : pu_cn o j = nI (o - 1 - j) := if_pos h
theorem pu_cnF {o : Nat} : pu_cn o o = -1 := if_neg (by omega)
theorem dv_s {b c j : Nat} : c / b ^ j / b = c / b ^ (j + 1) := by rw [Nat.div_div_eq_div_mul, Nat.pow_succ]
theorem dv_le {b c j : Nat} : c / b ^ j ≤ c := Nat.div_le_self _ _
theorem pv_choose {N : Nat} {s : nb_St} {c o : Nat} (hN : 10 < N) (hc : c < 10000) (ho : o ≤ 3) : ∃ r, fX2_choose N s (nI c) (nI o) = some r ∧ (∀ k, k ≠ 62 → r k = s k) ∧ ∀ k, k < o → r 62 k = nI (dg 13 o c k) := by
  unfold fX2_choose
  simp only [nb_let]
  rw [pu_cn0]
  refine nb_e3 (I := fun j x y t => j ≤ o ∧ y = pu_cn o j ∧ x = nI (c / 13 ^ j) ∧ (∀ k, k ≠ 62 → t k = s k) ∧ ∀ k, o - j ≤ k → k < o → t 62 k = nI (dg 13 o c k)) o ?_ (by omega) ⟨by omega, rfl, by rw [Nat.pow_zero, Nat.div_one], fun _ _ => rfl, fun k h1 h2 => absurd h1 (by omega)⟩
  rintro ag j x y t ⟨hj, rfl, rfl, f1, f2⟩
  have hle := dv_le (b := 13) (c := c) (j := j)
  by_cases hlt : j < o
  · right
    refine ⟨hlt, nI (c / 13 ^ (j + 1)), pu_cn o (j + 1), nb_st t 62 (o - 1 - j) (nI (dg 13 o c (o - 1 - j))), ⟨by omega, rfl, rfl, fun k hk => by rw [nb_st_k hk]; exact f1 k hk, fun k h1 h2 => ?_⟩, ?_⟩
    · by_cases q : k = o - 1 - j
      · subst q; exact nb_st_s
      · rw [nb_st_n (Or.inr q)]; exact f2 k (by omega) h2
    · have e : dg 13 o c (o - 1 - j) = c / 13 ^ j % 13 := by
        unfold dg
        rw [show o - 1 - (o - 1 - j) = j by omega]
      rw [pu_cn_s hlt, pu_cnT hlt, e, ← dv_s, if_neg (nI_pos (by omega)), nb_g_t (pu_in (by omega) (by omega)), pu_ix (by omega), show (13 : Int32) = nI 13 from rfl, pu_rem (by omega) (by omega) (by omega), pk_div (by omega) (by omega) (by omega)]
  · left
    have : j = o := by omega
    subst this
    refine ⟨t, ?_, f1, fun k hk => f2 k (by omega) hk⟩
    rw [pu_cnF, if_pos (by decide)]
def gon (o c k : Nat) : Bool := !(dg 13 o c k == 0)
def ggv (o c k : Nat) : Nat := 30 * (dg 13 o c k - 1)
theorem gon_t {o c k : Nat} : gon o c k = true ↔ dg 13 o c k ≠ 0 := by
  unfold gon
  cases h : dg 13 o c k == 0 with
  | true => simp at h; simp [h]
  | false => simp at h; simp [h]
theorem ggv_le {o c k : Nat} : ggv o c k ≤ 359 := by
  have := dg_lt (b := 13) (o := o) (c := c) (k := k) (by omega)
  unfold ggv; omega
def gco (τ : nb_St) (o c : Nat) : Nat := su (fun k => if dg 13 o c k = 0 then 0 else tv τ 9 3 k) o
def gvl (τ : nb_St) (o c v : Nat) : Prop := ∃ u, etot τ (eD τ 8 0 719 tt2 (gon o c) (ggv o c)) u ∧ v = gco τ o c + u
theorem gvl_u {τ : nb_St} {o c v v' : Nat} (h : gvl τ o c v) (h' : gvl τ o c v') : v = v' := by
  obtain ⟨u, h1, rfl⟩ := h
  obtain ⟨u', h1', rfl⟩ := h'
  rw [etot_u h1 h1']
theorem gco_le {σ τ : nb_St} {p d g o w a b c : Nat} (h : cl σ τ p d g o w a b) : gco τ o c ≤ 3 * 999 := by
  obtain ⟨n1, n2, n3, n4, n5, n6, n7, n8, n9, n10, n11, -⟩ := cl_n (bus := 8) (bf := 0) (B := 719) (X := tt2) (on := ff1) (gv := zz1) h rfl
  have ho := h.2.2.2.1.2.1
  have := su_le (f := fun k => if dg 13 o c k = 0 then 0 else tv τ 9 3 k) (B := 999) o (fun k hk => by
    show (if dg 13 o c k = 0 then 0 else tv τ 9 3 k) ≤ 999
    have := (n11 k hk).1
    split <;> omega)
  exact Nat.le_trans this (Nat.mul_le_mul_right _ ho)
/-- cells that an evening or a giving may change -/
def pg (σ s : nb_St) : Prop := ∀ k, k ≠ 36 → (k < 53 ∨ 63 < k) → s k = σ k
theorem pg_r {σ : nb_St} : pg σ σ := fun _ _ _ => rfl
theorem pg_t {σ s t : nb_St} (h : pg σ s) (h' : pg s t) : pg σ t := fun k a b => (h' k a b).trans (h k a b)
theorem pg_e {σ s : nb_St} (h : pe σ s) : pg σ s := fun k a b => h k a (by omega)
theorem cl_g {σ τ σ' : nb_St} {p d g o w a b : Nat} (h : cl σ τ p d g o w a b) (hσ : pg σ σ') : cl σ' τ p d g o w a b := by
  obtain ⟨h1, h2, h3, h4, h5⟩ := h
  have hp : p = 4 ∨ p = 20 := by rcases h1 with ⟨h1, -⟩ | ⟨h1, -⟩ <;> omega
  refine ⟨h1, by rw [hσ 0 (by decide) (by decide)]; exact h2, h3, pr_pt_c h4 (fun k _ _ => hσ _ (by omega) (by omega)) (fun k a b => rfl), ?_⟩
  exact pr_told_c h5 (hσ _ (by omega) (by omega)) (hσ _ (by omega) (by omega)) (hσ _ (by omega) (by omega)) (hσ _ (by omega) (by omega)) (fun k a b => rfl)
def ep1 (s τ : nb_St) (p g a : Nat) : Prop := epd s τ s p g a 8 0 719 ∧ (∀ k, k < a → s 55 k = nI (tv τ 20 6 k)) ∧ (∀ k, k < a → s 56 k = nI (tv τ 21 6 k)) ∧ ∀ k, k < a → s 57 k = hb (fun _ => true)
theorem ep1_c {s s' τ : nb_St} {p g a : Nat} (h : ep1 s τ p g a) (h1 : ∀ j, j = 0 ∨ j = 7 ∨ j = 8 → s' 36 j = s 36 j) (h2 : ∀ k, 53 ≤ k → k ≤ 57 → s' k = s k) : ep1 s' τ p g a := by
  obtain ⟨⟨d1, d2, d3, d4, d5, d6, d7, d8⟩, a1, a2, a3⟩ := h
  refine ⟨⟨pe_r, by rw [h1 0 (by omega)]; exact d2, by rw [h1 7 (by omega)]; exact d3, d4, by rw [h1 8 (by omega)]; exact d5, ?_, ?_, d8⟩, ?_, ?_, ?_⟩
  · rw [h2 53 (by decide) (by decide)]; exact d6
  · rw [h2 54 (by decide) (by decide)]; exact d7
  · rw [h2 55 (by decide) (by decide)]; exact a1
  · rw [h2 56 (by decide) (by decide)]; exact a2
  · rw [h2 57 (by decide) (by decide)]; exact a3
theorem pv_give {N : Nat} {s τ : nb_St} {p d g o w a b c : Nat} (hN : 10 < N) (h : cl s τ p d g o w a b) (h1 : ep1 s τ p g a) (h62 : ∀ k, k < o → s 62 k = nI (dg 13 o c k)) : ∃ r, fX2_giveChosen N s p = some r ∧ r.1 = nI (gco τ o c) ∧ ep1 r.2 τ p g a ∧ (∀ k, k ≠ 36 → k ≠ 55 → k ≠ 56 → k ≠ 57 → r.2 k = s k) ∧ ∃ n M V, eps9 r.2 n M V tt2 ∧ ∀ t, su (fun k => if M k ≤ t then V k else 0) n = su (fun k => if tv τ 20 6 k ≤ t then tv τ 21 6 k else 0) a + su (fun k => if gon o c k = true ∧ ggv o c k ≤ t then tv τ 8 3 k else 0) o := by
  obtain ⟨n1, n2, n3, n4, n5, n6, n7, n8, n9, n10, n11, n12, n13, -⟩ := cl_n (bus := 8) (bf := 0) (B := 719) (X := tt2) (on := ff1) (gv := zz1) h rfl
  have o3 := h.2.2.2.1.2.1
  have a6 := h.2.2.2.2.1
  have ta := h.2.2.2.2.2.2.1
  have so : s p 9 = nI o := h.2.2.2.1.2.2.2.2.2.2.2.2.2.2.2.2.1
  have hq := xc_q n1
  have i0 := h1.1.2.1
  obtain ⟨f, hf⟩ : ∃ f : Nat → Nat, f = fun k => if dg 13 o c k = 0 then 0 else tv τ 9 3 k := ⟨_, rfl⟩
  unfold fX2_giveChosen fX0_dropAddedSigns
  simp only [nb_let]
  rw [i0, pu_ix (by omega), nb_g_t hq, pu_b1]
  unfold gco
  rw [← hf]
  have hf9 : ∀ j, j ≤ o → su f j ≤ 2997 := fun j hj => by
    have := su_le (f := f) (B := 999) j (fun k hk => by
      rw [hf]
      show (if dg 13 o c k = 0 then 0 else tv τ 9 3 k) ≤ 999
      have := (n11 k (by omega)).1
      split <;> omega)
    omega
  refine nb_e3 (I := fun j x y t => j ≤ o ∧ y = nI j ∧ x = nI (su f j) ∧ (∀ k, k ≠ 36 → k ≠ 55 → k ≠ 56 → k ≠ 57 → t k = s k) ∧ (∀ i, i ≠ 3 → t 36 i = s 36 i) ∧ ∃ n M V, n ≤ a + j ∧ a ≤ n ∧ eps9 t n M V tt2 ∧ (∀ k, k < a → M k = tv τ 20 6 k ∧ V k = tv τ 21 6 k) ∧ ∀ u, su (fun k => if M k ≤ u then V k else 0) n = su (fun k => if tv τ 20 6 k ≤ u then tv τ 21 6 k else 0) a + su (fun k => if gon o c k = true ∧ ggv o c k ≤ u then tv τ 8 3 k else 0) j) o ?_ (by omega) ⟨by omega, rfl, rfl, fun k k1 _ _ _ => nb_st_k k1, fun i hi => nb_st_n (Or.inr hi), a, tv τ 20 6, tv τ 21 6, by omega, by omega, ⟨by rw [nb_st_s]; exact ta, by omega, ?_, fun k hk => (n12 k hk).1, ?_, fun k hk => (n13 k hk).1, ?_⟩, fun k hk => ⟨rfl, rfl⟩, fun u => rfl⟩
  · rintro ag j x y t ⟨hj, rfl, rfl, f1, f2, n, M, V, m1, m2, m3, m4, m5⟩
    have q0 : t p 9 = nI o := by rw [f1 p (by omega) (by omega) (by omega) (by omega)]; exact so
    have q9 := hf9 j hj
    by_cases hlt : j < o
    · right
      have q1 : t 62 j = nI (dg 13 o c j) := by rw [f1 62 (by decide) (by decide) (by decide) (by decide)]; exact h62 j hlt
      have q2 := dg_lt (b := 13) (o := o) (c := c) (k := j) (by omega)
      obtain ⟨w1, -, w2⟩ := n10 j hlt
      obtain ⟨w3, -, w4⟩ := n11 j hlt
      have q3 : t (p + 9) j = nI (tv τ 8 3 j) := by rw [f1 _ (by omega) (by omega) (by omega) (by omega)]; exact w2
      have sf : su f (j + 1) = su f j + f j := rfl
      have sg : ∀ u, su (fun k => if gon o c k = true ∧ ggv o c k ≤ u then tv τ 8 3 k else 0) (j + 1) = su (fun k => if gon o c k = true ∧ ggv o c k ≤ u then tv τ 8 3 k else 0) j + (if gon o c j = true ∧ ggv o c j ≤ u then tv τ 8 3 j else 0) := fun u => rfl
      by_cases c0 : dg 13 o c j = 0
      · have fj : f j = 0 := by rw [hf]; exact if_pos c0
        refine ⟨hlt, nI (su f (j + 1)), nI (j + 1), t, ⟨by omega, rfl, rfl, f1, f2, n, M, V, by omega, m2, m3, m4, fun u => ?_⟩, ?_⟩
        · rw [sg, if_neg (fun q => gon_t.mp q.1 c0), Nat.add_zero]; exact m5 u
        · rw [sf, fj]
          simp (disch := omega) only [pn_g, pu_b1, pn_b2, pn_leT, pn_leF, pn_ltT, pn_ltF, pn_eqT, pn_eqF, pu_in, pu_ix, nI_add, pk_mul, pk_sub, ↓reduceIte, Bool.false_eq_true, if_false, if_true, nb_st_s, nb_st_k, nb_st_n, nb_sa_s, nb_sa_n, pL0, pL1, pL2, pL3, pL4, pL5, pL6, pL7, pL8, pL9, pL10, pL11, pL12, pL13, pL15, pL20, pL30, pL99, pL100, pL180, pL240, pL255, pL350, pL359, pL719, pL720, pL999, pL9999, pL99999, pL100000, pL1000000, q0, q1, c0, Nat.add_zero]
      · have fj : f j = tv τ 9 3 j := by rw [hf]; exact if_neg c0
        obtain ⟨r, e1, e2, e3, e4⟩ := pv_add (N := N) (m := 30 * (dg 13 o c j - 1)) (v := tv τ 8 3 j) m3 (by omega) (by omega) w1
        have q5 : r (p + 10) j = nI (tv τ 9 3 j) := by rw [e2 _ (by omega) (by omega) (by omega) (by omega), f1 _ (by omega) (by omega) (by omega) (by omega)]; exact w4
        refine ⟨hlt, nI (su f (j + 1)), nI (j + 1), r, ⟨by omega, rfl, rfl, fun k k1 k2 k3 k4 => by rw [e2 k k1 k2 k3 k4]; exact f1 k k1 k2 k3 k4, fun i hi => by rw [e3 i hi]; exact f2 i hi, n + 1, us M n (30 * (dg 13 o c j - 1)), us V n (tv τ 8 3 j), by omega, by omega, e4, fun k hk => by rw [us_n (by omega), us_n (by omega)]; exact m4 k hk, fun u => ?_⟩, ?_⟩
        · rw [sg]
          have ss : su (fun k => if us M n (30 * (dg 13 o c j - 1)) k ≤ u then us V n (tv τ 8 3 j) k else 0) (n + 1) = su (fun k => if us M n (30 * (dg 13 o c j - 1)) k ≤ u then us V n (tv τ 8 3 j) k else 0) n + (if us M n (30 * (dg 13 o c j - 1)) n ≤ u then us V n (tv τ 8 3 j) n else 0) := rfl
          rw [ss, us_s, us_s, su_c n (fun k hk => by rw [us_n (show k ≠ n by omega), us_n (show k ≠ n by omega)]), m5 u, Nat.add_assoc]
          congr 2
          exact pn_ite ⟨fun q => ⟨gon_t.mpr c0, q⟩, fun q => q.2⟩
        · rw [sf, fj]
          simp (disch := omega) only [pn_g, pu_b1, pn_b2, pn_leT, pn_leF, pn_ltT, pn_ltF, pn_eqT, pn_eqF, pu_in, pu_ix, nI_add, pk_mul, pk_sub, ↓reduceIte, Bool.false_eq_true, if_false, if_true, nb_st_s, nb_st_k, nb_st_n, nb_sa_s, nb_sa_n, pL0, pL1, pL2, pL3, pL4, pL5, pL6, pL7, pL8, pL9, pL10, pL11, pL12, pL13, pL15, pL20, pL30, pL99, pL100, pL180, pL240, pL255, pL350, pL359, pL719, pL720, pL999, pL9999, pL99999, pL100000, pL1000000, q0, q1, q3, e1, q5]
    · left
      have : j = o := by omega
      subst this
      obtain ⟨⟨d1, d2, d3, d4, d5, d6, d7, d8⟩, -⟩ := h1
      obtain ⟨y1, y2, y3, y4, y5, y6, y7⟩ := id m3
      refine ⟨(nI (su f j), t), ?_, rfl, ⟨⟨pe_r, (f2 0 (by decide)).trans d2, (f2 7 (by decide)).trans d3, d4, (f2 8 (by decide)).trans d5, ?_, ?_, d8⟩, fun k hk => ?_, fun k hk => ?_, fun k hk => y7 k (by omega)⟩, f1, n, M, V, m3, m5⟩
      · simp (disch := omega) only [pn_g, pu_b1, pn_b2, pn_leT, pn_leF, pn_ltT, pn_ltF, pn_eqT, pn_eqF, pu_in, pu_ix, nI_add, pk_mul, pk_sub, ↓reduceIte, Bool.false_eq_true, if_false, if_true, nb_st_s, nb_st_k, nb_st_n, nb_sa_s, nb_sa_n, pL0, pL1, pL2, pL3, pL4, pL5, pL6, pL7, pL8, pL9, pL10, pL11, pL12, pL13, pL15, pL20, pL30, pL99, pL100, pL180, pL240, pL255, pL350, pL359, pL719, pL720, pL999, pL9999, pL99999, pL100000, pL1000000, q0]
      · show ∀ k, k < g → t 53 k = _
        rw [f1 53 (by decide) (by decide) (by decide) (by decide)]; exact d6
      · show ∀ k, k < g → t 54 k = _
        rw [f1 54 (by decide) (by decide) (by decide) (by decide)]; exact d7
      · rw [← (m4 k hk).1]; exact y3 k (by omega)
      · rw [← (m4 k hk).2]; exact y5 k (by omega)
  · rw [nb_st_k (by decide)]; exact h1.2.1
  · rw [nb_st_k (by decide)]; exact h1.2.2.1
  · rw [nb_st_k (by decide)]; exact h1.2.2.2
end
