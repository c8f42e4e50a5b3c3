section
theorem su_tt {M V : Nat → Nat} {t i n : Nat} : su (fun k => if M k ≤ t ∧ tt2 k i = true then V k else 0) n = su (fun k => if M k ≤ t then V k else 0) n := su_c n (fun k _ => pn_ite ⟨fun q => q.1, fun q => ⟨q, rfl⟩⟩)
/-- one way of giving, class -/
theorem q7_give {N : Nat} {s τ : nb_St} {p d g o w a b c : Nat} (hN : 1000 < N) (h : cl s τ p d g o w a b) (h1 : ep1 s τ p g a) (hc : c < 10000) : ∃ t v0 x u, fX2_choose N s (nI c) (s p 9) = some t ∧ fX2_giveChosen N t p = some (nI v0, x) ∧ fX0_pass N x = some u ∧ (∃ v1, fX0_wastedByAll N u = some (nI v1) ∧ v1 ≤ 9000 ∧ gvl τ o c (v0 + v1)) ∧ v0 ≤ 2997 ∧ ep1 u τ p g a ∧ (∀ k, k ≠ 36 → (k < 53 ∨ 60 < k) → k ≠ 62 → u k = s k) ∧ ∀ k, k < o → u 62 k = nI (dg 13 o c k) := by
  have o3 := h.2.2.2.1.2.1
  have so : s p 9 = nI o := h.2.2.2.1.2.2.2.2.2.2.2.2.2.2.2.2.1
  have hp : p = 4 ∨ p = 20 := by rcases h.1 with ⟨q, -⟩ | ⟨q, -⟩ <;> omega
  rw [so]
  obtain ⟨t, t1, t2, t3⟩ := pv_choose (N := N) (s := s) (c := c) (o := o) (by omega) hc o3
  have clt : cl t τ p d g o w a b := cl_g h (fun k _ _ => t2 k (by omega))
  have ept : ep1 t τ p g a := ep1_c h1 (fun j _ => by rw [t2 36 (by decide)]) (fun k _ _ => t2 k (by omega))
  obtain ⟨⟨v, x⟩, x1, x2, x3, x4, n, M, V, x5, x6⟩ := pv_give (N := N) (c := c) (by omega) clt ept t3
  have x2 : v = nI (gco τ o c) := x2
  subst x2
  have x3 : ep1 x τ p g a := x3
  have x4 : ∀ k, k ≠ 36 → k ≠ 55 → k ≠ 56 → k ≠ 57 → x k = t k := x4
  have x5 : eps9 x n M V tt2 := x5
  have clx : cl x τ p d g o w a b := cl_g clt (fun k k1 k2 => x4 k k1 (by omega) (by omega) (by omega))
  obtain ⟨u, u1, z, G, u2, u3, u4, u5, u6, u7⟩ := pv_run (X := tt2) (on := gon o c) (gv := ggv o c) hN clx x3.1 x5 (fun i hi t => by rw [su_tt, su_tt]; exact x6 t)
  obtain ⟨v1, w1, w2, w3⟩ := ecx_tot (N := N) (by omega) u5 u4
  refine ⟨t, gco τ o c, x, u, t1, x1, u1, ⟨v1, w3, w1, v1, w2, rfl⟩, gco_le h, ep1_c x3 (fun j hj => u2.2 j (by omega) (by omega)) (fun k k1 k2 => u2.1 k (by omega) (by omega) (by omega) (by omega)), fun k k1 k2 k3 => ?_, fun k hk => ?_⟩
  · rw [u3 k k1 k2, x4 k k1 (by omega) (by omega) (by omega), t2 k k3]
  · rw [u3 62 (by decide) (by decide), x4 62 (by decide) (by decide) (by decide) (by decide)]; exact t3 k hk
theorem su_rev3 {f : Nat → Nat} {o : Nat} (h : o ≤ 3) : su (fun i => f (o - 1 - i)) o = su f o := by
  have : o = 0 ∨ o = 1 ∨ o = 2 ∨ o = 3 := by omega
  rcases this with rfl | rfl | rfl | rfl
  · rfl
  · rfl
  · show 0 + f 1 + f 0 = 0 + f 0 + f 1
    omega
  · show 0 + f 2 + f 1 + f 0 = 0 + f 0 + f 1 + f 2
    omega
/-- one way of giving, reference -/
theorem q8_give {N : Nat} {σ τ : nb_St} {p d g o w a b c : Nat} (hN : 1000 < N) (h : cl σ τ p d g o w a b) (hc : c < 10000) : ∃ r, fX8_givenBy N τ (nI c) = some r ∧ ∃ v, r.1 = nI v ∧ rfm τ r.2 ∧ v ≤ 12000 ∧ gvl τ o c v ∧ ∀ k, k < o → r.2 26 k = if gon o c k = true then nI (ggv o c k) else -4 := by
  obtain ⟨n1, n2, n3, n4, n5, n6, n7, n8, n9, n10, n11, -⟩ := cl_n (bus := 8) (bf := 0) (B := 719) (X := tt2) (on := ff1) (gv := zz1) h rfl
  have o3 := h.2.2.2.1.2.1
  have hg := h.2.2.2.1.1
  have τo : τ 7 0 = nI o := h.2.2.2.1.2.2.2.2.2.2.2.2.2.2.2.2.2.1
  obtain ⟨r0, e1, e2, e3, e4, e5, e6, e7, e8⟩ := pw_as (N := N) (τ := τ) (by omega)
  have r7 : r0 7 0 = nI o := by rw [e2 7 (by decide) (by decide)]; exact τo
  obtain ⟨f, hf⟩ : ∃ f : Nat → Nat, f = fun k => if dg 13 o c k = 0 then 0 else tv τ 9 3 k := ⟨_, rfl⟩
  obtain ⟨h9, hh9⟩ : ∃ h9 : Nat → Nat, h9 = fun i => f (o - 1 - i) := ⟨_, rfl⟩
  have hf1 : ∀ k, k < o → f k ≤ 999 := fun k hk => by
    rw [hf]
    show (if dg 13 o c k = 0 then 0 else tv τ 9 3 k) ≤ 999
    have := (n11 k hk).1
    split <;> omega
  have hf9 : ∀ j, j ≤ o → su h9 j ≤ 2997 := fun j hj => by
    have := su_le (f := h9) (B := 999) j (fun k hk => by rw [hh9]; exact hf1 _ (by omega))
    omega
  unfold fX8_givenBy
  simp only [nb_let]
  rw [e1, pu_b1, nb_g_t (by decide), show nb_ix (0 : Int32) = 0 from rfl, r7, pu_cn0]
  refine nb_e4 (I := fun j x y u s => j ≤ o ∧ u = pu_cn o j ∧ x = nI (c / 13 ^ j) ∧ y = nI (su h9 j) ∧ (∀ k, k ≠ 26 → s k = r0 k) ∧ ∀ k, o - j ≤ k → k < o → s 26 k = if gon o c k = true then nI (ggv o c k) else -4) o ?_ (by omega) ⟨by omega, rfl, by rw [Nat.pow_zero, Nat.div_one], rfl, fun _ _ => rfl, fun k h1 h2 => absurd h1 (by omega)⟩
  rintro ag j x y u s ⟨hj, rfl, rfl, rfl, f1, f2⟩
  have hle := dv_le (b := 13) (c := c) (j := j)
  by_cases hlt : j < o
  · right
    have q9 := hf9 j hj
    have e : dg 13 o c (o - 1 - j) = c / 13 ^ j % 13 := by
      unfold dg
      rw [show o - 1 - (o - 1 - j) = j by omega]
    have dl := dg_lt (b := 13) (o := o) (c := c) (k := o - 1 - j) (by omega)
    have sh : su h9 (j + 1) = su h9 j + h9 j := rfl
    have hj9 : h9 j = f (o - 1 - j) := by rw [hh9]
    have w9 : s 9 (o - 1 - j) = nI (tv τ 9 3 (o - 1 - j)) := by rw [f1 9 (by decide), e2 9 (by decide) (by decide)]; exact (n11 _ (by omega)).2.1
    refine ⟨hlt, nI (c / 13 ^ (j + 1)), nI (su h9 (j + 1)), pu_cn o (j + 1), nb_st s 26 (o - 1 - j) (if gon o c (o - 1 - j) = true then nI (ggv o c (o - 1 - j)) else -4), ⟨by omega, rfl, rfl, rfl, fun k hk => by rw [nb_st_k hk]; exact f1 k hk, fun k h1 h2 => ?_⟩, ?_⟩
    · by_cases q : k = o - 1 - j
      · subst q; exact nb_st_s
      · rw [nb_st_n (Or.inr q)]; exact f2 k (by omega) h2
    · rw [pu_cn_s hlt, pu_cnT hlt, ← dv_s, if_neg (nI_pos (by omega)), show (13 : Int32) = nI 13 from rfl, pu_rem (by omega) (by omega) (by omega), pk_div (by omega) (by omega) (by omega), ← e, nb_g_t (pu_in (by omega) (by omega)), nb_g_t (pu_in (by omega) (by omega)), pu_ix (by omega), sh, hj9]
      by_cases c0 : dg 13 o c (o - 1 - j) = 0
      · have fj : f (o - 1 - j) = 0 := by rw [hf]; exact if_pos c0
        rw [if_pos (show nI (dg 13 o c (o - 1 - j)) = 0 by rw [c0]; rfl), if_pos (show nI (dg 13 o c (o - 1 - j)) = 0 by rw [c0]; rfl), if_neg (fun q => gon_t.mp q c0), fj, show (0 : Int32) = nI 0 from rfl, nI_add]
      · have fj : f (o - 1 - j) = tv τ 9 3 (o - 1 - j) := by rw [hf]; exact if_neg c0
        have hn : ¬ nI (dg 13 o c (o - 1 - j)) = 0 := nI_ne0 (by omega) (by omega)
        rw [if_neg hn, if_neg hn, if_pos (gon_t.mpr c0), fj, nb_st_k (by decide), w9, nI_add, show (1 : Int32) = nI 1 from rfl, pk_sub (by omega), show (30 : Int32) = nI 30 from rfl, pk_mul, nb_g_t (pu_in (by omega) (by omega)), nb_g_t (pu_in (n := 6) (by omega) (by omega))]
        rfl
  · left
    have : j = o := by omega
    subst this
    have hr : rfm τ s := ⟨fun k a b => by rw [f1 k (by omega)]; exact e2 k (by omega) (by omega), fun i a b => by rw [f1 0 (by decide)]; exact e3 i a⟩
    have her : er s (eD τ 8 0 719 tt2 (gon j c) (ggv j c)) 8 := er_of h hr (fun i hi => by
      rw [f1 0 (by decide), e4]
      exact ⟨fun q => absurd q (nI_m4 (by omega)), fun q => by omega⟩) (fun q => by omega) (by omega) (by omega) (fun t ht => by
      rw [f1 0 (by decide), e6]
      constructor
      · rintro (q | q)
        · exact (nI_eq (by omega) (by omega)).mp q
        · exact absurd q (nI_m4 (by omega))
      · intro q; exact Or.inl (by rw [q])) (fun i hi k hk N => by rw [pw_c1 (by rw [f1 0 (by decide)]; exact e7), if_pos rfl]) (fun k hk => f2 k (by omega) hk) (fun k _ => ggv_le)
    obtain ⟨r', x1, z, G, x2, x3, x4, x5, x6, x7⟩ := pw_run hN h hr her
    obtain ⟨v1, w1, w2, w3⟩ := erx_tot (N := N) (by omega) x5 x4
    have hs : su h9 j = gco τ j c := by
      unfold gco
      rw [hh9, su_rev3 o3, hf]
    have q9 := hf9 j hj
    refine ⟨(nI (su h9 j + v1), r'), ?_, su h9 j + v1, rfl, x3, by omega, ⟨v1, w2, by rw [hs]⟩, fun k hk => ?_⟩
    · rw [pu_cnF, if_pos (by decide), x1, pu_b1, w3, pu_b1, nI_add]
    · show r' 26 k = _
      rw [x2 26 (by decide) (by decide)]; exact f2 k (by omega) hk
def lmn (vf : Nat → Nat) : Nat → Nat × Nat
  | 0 => (100000, 0)
  | j + 1 => if vf j < (lmn vf j).1 then (vf j, j) else lmn vf j
theorem lmn_c {vf vf' : Nat → Nat} : ∀ n, (∀ k, k < n → vf k = vf' k) → lmn vf n = lmn vf' n
  | 0, _ => rfl
  | n + 1, h => by
    show (if vf n < (lmn vf n).1 then (vf n, n) else lmn vf n) = if vf' n < (lmn vf' n).1 then (vf' n, n) else lmn vf' n
    rw [lmn_c n (fun k hk => h k (by omega)), h n (by omega)]
theorem lmn_le {vf : Nat → Nat} : ∀ n, (lmn vf n).1 ≤ 100000 ∧ (lmn vf n).2 ≤ n ∧ (0 < n → (lmn vf n).2 < n)
  | 0 => ⟨Nat.le_refl _, Nat.le_refl _, fun h => absurd h (by omega)⟩
  | n + 1 => by
    obtain ⟨h1, h2, h3⟩ := lmn_le (vf := vf) n
    unfold lmn
    by_cases c : vf n < (lmn vf n).1
    · rw [if_pos c]
      exact ⟨by show vf n ≤ 100000; omega, by show n ≤ n + 1; omega, fun _ => by show n < n + 1; omega⟩
    · rw [if_neg c]
      exact ⟨h1, by omega, fun _ => by omega⟩
def gw (σ τ : nb_St) : Prop := ∃ vf : Nat → Nat, (∀ c, c < 13 ^ nb_ix (τ 7 0) → gvl τ (nb_ix (τ 7 0)) c (vf c)) ∧ σ 61 1 = nI (lmn vf (13 ^ nb_ix (τ 7 0))).1 ∧ ∀ k, k < nb_ix (τ 7 0) → σ 63 k = nI (dg 13 (nb_ix (τ 7 0)) (lmn vf (13 ^ nb_ix (τ 7 0))).2 k)
def GV (σ τ : nb_St) : Prop := σ 61 0 = 0 ∨ (¬ σ 61 0 = 0 ∧ gw σ τ)
theorem etot_c {τ τ' : nb_St} {D : eT} {v : Nat} (h4 : ∀ j, j < 8 → τ' 4 j = τ 4 j) (h12 : τ' 12 0 = τ 12 0) (h : etot τ D v) : etot τ' D v := by
  obtain ⟨z, G, h1, rfl⟩ := h
  refine ⟨z, G, h1, ?_⟩
  rw [h12, tv_c h4]
theorem gvl_c {τ τ' : nb_St} {o c v : Nat} (h : ∀ k, 2 ≤ k → k ≤ 23 → ∀ j, j < (if k = 19 ∨ k = 22 then 1 else if k = 20 ∨ k = 21 then 6 else if k = 23 then 4 else if k = 8 ∨ k = 9 then 3 else if 3 ≤ k ∧ k ≤ 6 then 8 else 1) → τ' k j = τ k j) (hv : gvl τ o c v) : gvl τ' o c v := by
  obtain ⟨u, h1, rfl⟩ := hv
  have t9 : tv τ' 9 3 = tv τ 9 3 := tv_c (fun j hj => h 9 (by decide) (by decide) j (by simpa using hj))
  refine ⟨u, ?_, ?_⟩
  · rw [eD_c (τ := τ) (τ' := τ') (fun k k1 k2 j hj => h k k1 k2 j ?_)]
    · exact etot_c (fun j hj => h 4 (by decide) (by decide) j (by simpa using hj)) (h 12 (by decide) (by decide) 0 (by decide)) h1
    · revert hj
      by_cases c8 : k = 8 ∨ k = 9
      · rcases c8 with rfl | rfl
        · simp
        · simp; omega
      · simp only [show ¬ k = 8 from fun q => c8 (Or.inl q), show ¬ k = 9 from fun q => c8 (Or.inr q), or_self, if_false]
        exact id
  · unfold gco
    rw [t9]
theorem GV_c {σ σ' τ τ' : nb_St} (h1 : σ' 61 = σ 61) (h2 : σ' 63 = σ 63) (h : ∀ k, 2 ≤ k → k ≤ 23 → ∀ j, j < (if k = 19 ∨ k = 22 then 1 else if k = 20 ∨ k = 21 then 6 else if k = 23 then 4 else if k = 8 ∨ k = 9 then 3 else if 3 ≤ k ∧ k ≤ 6 then 8 else 1) → τ' k j = τ k j) (hv : GV σ τ) : GV σ' τ' := by
  unfold GV gw at *
  rw [h1, h2, h 7 (by decide) (by decide) 0 (by decide)]
  rcases hv with hv | ⟨hv, vf, v1, v2⟩
  · exact Or.inl hv
  · exact Or.inr ⟨hv, vf, fun c hc => gvl_c h (v1 c hc), v2⟩
theorem GV_ok1 : ∀ σ τ, σ 61 0 = 0 → GV σ τ := fun σ τ h => Or.inl h
theorem GV_ok2 : ∀ σ σ' τ τ', σ' 61 = σ 61 → σ' 63 = σ 63 → (∀ k, 2 ≤ k → k ≤ 23 → ∀ j, j < (if k = 19 ∨ k = 22 then 1 else if k = 20 ∨ k = 21 then 6 else if k = 23 then 4 else 24) → τ' k j = τ k j) → GV σ τ → GV σ' τ' := fun σ σ' τ τ' h1 h2 h3 h4 => GV_c h1 h2 (fun k k1 k2 j hj => h3 k k1 k2 j (by
  revert hj
  by_cases c1 : k = 19 ∨ k = 22
  · simp only [c1, if_true]; exact id
  · by_cases c2 : k = 20 ∨ k = 21
    · simp only [c1, c2, if_true, if_false]; exact id
    · by_cases c3 : k = 23
      · simp only [c1, c2, c3, if_true, if_false]; exact id
      · simp only [c1, c2, c3, if_false]
        intro hj
        split at hj
        · omega
        · split at hj <;> omega)) h4
end
