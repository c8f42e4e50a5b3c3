section
/-- one item of the class, told by its letter's number: readNumbers, then enter -/
def stp (N : Nat) (σ τ : nb_St) (d n k L : Nat) : Prop :=
  ((∃ σ', (fX5_readNumbers N σ (nI n) (nI L) = some (nI 0, σ') ∨ ∃ σf, fX5_readNumbers N σ (nI n) (nI L) = some (nI 1, σf) ∧ fX5_enter N σf (nI L) d = some (nI 0, σ')) ∧ fcl d σ σ') ∧ ∃ τ', fX8_item N τ = some (nI 0, τ') ∧ hf τ τ') ∨
  ∃ σf σ' τ' k' g' o' w' a' b', fX5_readNumbers N σ (nI n) (nI L) = some (nI 1, σf) ∧ fX5_enter N σf (nI L) d = some (nI 1, σ') ∧ fX8_item N τ = some (nI 1, τ') ∧ prr σ' τ' d g' o' w' a' b' ∧ σ' 2 1 = nI k' ∧ τ' 0 27 = nI k' ∧ k < k' ∧ k' ≤ n ∧ fcl d σ σ' ∧ hf τ τ'
theorem st_g {N : Nat} {σ τ : nb_St} {d n k g o w a b : Nat} {B : Nat → Nat} (hN : 10 < N) (hd : d = 4 ∨ d = 20) (ht : tx σ τ n B) (hs : σ 2 1 = nI k) (hk : τ 0 27 = nI k) (hkn : k < n) (hb : B k = 103) (h : prr σ τ d g o w a b) : stp N σ τ d n k 0 := by
  obtain ⟨⟨x, σf⟩, e1, e2, e3⟩ := pr_nums7 (L := 0) hN ht hs hkn (by decide)
  have e2 : ∀ a, a ≠ 2 → a ≠ 3 → σf a = σ a := e2
  have i8 := i8_g (N := N) hN ht hk hkn hb h.1.2.2.2.2.1 h.1.1
  have bad : ∀ v k', okr B n 4 (k + 1) 0 v k' → k < k' ∧ k' ≤ n := fun v k' q => by
    obtain ⟨z1, z2, -⟩ := pq_le q.1
    exact ⟨by omega, z2 (by decide)⟩
  rcases e3 with ⟨e4, v, k', e5, e6, e7⟩ | ⟨e4, e5⟩
  · have e4 : x = nI 1 := e4
    have e5 : okr B n 4 (k + 1) 0 v k' := e5
    have e6 : ∀ j, j < 4 → σf 3 j = nI (v j) := e6
    have e7 : σf 2 1 = nI k' := e7
    rw [e4] at e1
    rcases i8 with ⟨τ', f1, f2, f3⟩ | ⟨v2, k2, τf, f1, f2, f3, f4, f5⟩
    · have hprr : prr σf τ d g o w a b := prr_c h (fun k _ _ => e2 k (by omega) (by omega)) (fun _ _ _ => rfl)
      have q2 : ∀ j, j < 4 → lo8 (4 * 0 + j) ≤ v j ∧ v j ≤ hi8 (4 * 0 + j) := e5.2
      have q3 := e6
      have en := (c7_g (N := N) hd hprr (q3 0 (by decide)) (q3 1 (by decide)) (q3 2 (by decide)) (q3 3 (by decide)) (q2 0 (by decide)) (q2 1 (by decide)) (q2 2 (by decide)) (q2 3 (by decide))).2 (f3 v k' e5)
      exact Or.inl ⟨⟨σf, Or.inr ⟨σf, e1, en⟩, fcl_n e2⟩, τ', f1, hf_f f2⟩
    · obtain ⟨u1, u2⟩ := pq_u f1.1 e5.1
      subst u1
      have q2 : ∀ j, j < 4 → lo8 (4 * 0 + j) ≤ v2 j ∧ v2 j ≤ hi8 (4 * 0 + j) := f1.2
      have q3 : ∀ j, j < 4 → σf 3 j = nI (v2 j) := fun j hj => by rw [u2 j hj]; exact e6 j hj
      have hprr : prr σf τf d g o w a b := prr_c h (fun k _ _ => e2 k (by omega) (by omega)) (fun k _ _ => f3.1 k (by omega) (by omega))
      have en := (c7_g (N := N) hd hprr (q3 0 (by decide)) (q3 1 (by decide)) (q3 2 (by decide)) (q3 3 (by decide)) (q2 0 (by decide)) (q2 1 (by decide)) (q2 2 (by decide)) (q2 3 (by decide))).1 f2
      have up := u9_g hd hprr (q2 0 (by decide)) (q2 1 (by decide)) (q2 2 (by decide)) (q2 3 (by decide)) f2
      obtain ⟨bk1, bk2⟩ := bad v2 k2 f1
      exact Or.inr ⟨σf, _, _, k2, _, _, _, _, _, e1, en, f5, up, by simp (disch := omega) only [nb_st_k, nb_st_n]; exact e7, by simp (disch := omega) only [nb_st_k, nb_st_n]; exact f4, bk1, bk2, fcl_t (fcl_t (fcl_t (fcl_t (fcl_t (fcl_n e2) (fcl_st (by omega) (by omega))) (fcl_st (by omega) (by omega))) (fcl_st (by omega) (by omega))) (fcl_st (by omega) (by omega))) (fcl_st (by omega) (by omega)), hf_t (hf_t (hf_t (hf_t (hf_t (hf_f f3) (hf_st (by decide) (by decide) (by show 8 ≤ _; omega) (by show _ < 2 * 8; omega))) (hf_st (by decide) (by decide) (by show 8 ≤ _; omega) (by show _ < 2 * 8; omega))) (hf_st (by decide) (by decide) (by show 8 ≤ _; omega) (by show _ < 2 * 8; omega))) (hf_st (by decide) (by decide) (by show 8 ≤ _; omega) (by show _ < 2 * 8; omega))) (hf_st (by decide) (by decide) (by show 1 ≤ _; omega) (by show _ < 2 * 1; omega))⟩
  · have e4 : x = nI 0 := e4
    rw [e4] at e1
    rcases i8 with ⟨τ', f1, f2, f3⟩ | ⟨v2, k2, τf, f1, -⟩
    · exact Or.inl ⟨⟨σf, Or.inl e1, fcl_n e2⟩, τ', f1, hf_f f2⟩
    · exact absurd ⟨v2, k2, f1⟩ e5
theorem st_s {N : Nat} {σ τ : nb_St} {d n k g o w a b : Nat} {B : Nat → Nat} (hN : 10 < N) (hd : d = 4 ∨ d = 20) (ht : tx σ τ n B) (hs : σ 2 1 = nI k) (hk : τ 0 27 = nI k) (hkn : k < n) (hb : B k = 115) (h : prr σ τ d g o w a b) : stp N σ τ d n k 1 := by
  obtain ⟨⟨x, σf⟩, e1, e2, e3⟩ := pr_nums7 (L := 1) hN ht hs hkn (by decide)
  have e2 : ∀ a, a ≠ 2 → a ≠ 3 → σf a = σ a := e2
  have i8 := i8_s (N := N) hN ht hk hkn hb h.2.2.2.2.1 h.2.1
  have bad : ∀ v k', okr B n 2 (k + 1) 1 v k' → k < k' ∧ k' ≤ n := fun v k' q => by
    obtain ⟨z1, z2, -⟩ := pq_le q.1
    exact ⟨by omega, z2 (by decide)⟩
  rcases e3 with ⟨e4, v, k', e5, e6, e7⟩ | ⟨e4, e5⟩
  · have e4 : x = nI 1 := e4
    have e5 : okr B n 2 (k + 1) 1 v k' := e5
    have e6 : ∀ j, j < 2 → σf 3 j = nI (v j) := e6
    have e7 : σf 2 1 = nI k' := e7
    rw [e4] at e1
    rcases i8 with ⟨τ', f1, f2, f3⟩ | ⟨v2, k2, τf, f1, f2, f3, f4, f5⟩
    · have hprr : prr σf τ d g o w a b := prr_c h (fun k _ _ => e2 k (by omega) (by omega)) (fun _ _ _ => rfl)
      have q2 : ∀ j, j < 2 → lo8 (4 * 1 + j) ≤ v j ∧ v j ≤ hi8 (4 * 1 + j) := e5.2
      have q3 := e6
      have en := (c7_s (N := N) hd hprr (q3 0 (by decide)) (q3 1 (by decide)) (q2 0 (by decide)) (q2 1 (by decide))).2 (f3 v k' e5)
      exact Or.inl ⟨⟨σf, Or.inr ⟨σf, e1, en⟩, fcl_n e2⟩, τ', f1, hf_f f2⟩
    · obtain ⟨u1, u2⟩ := pq_u f1.1 e5.1
      subst u1
      have q2 : ∀ j, j < 2 → lo8 (4 * 1 + j) ≤ v2 j ∧ v2 j ≤ hi8 (4 * 1 + j) := f1.2
      have q3 : ∀ j, j < 2 → σf 3 j = nI (v2 j) := fun j hj => by rw [u2 j hj]; exact e6 j hj
      have hprr : prr σf τf d g o w a b := prr_c h (fun k _ _ => e2 k (by omega) (by omega)) (fun k _ _ => f3.1 k (by omega) (by omega))
      have en := (c7_s (N := N) hd hprr (q3 0 (by decide)) (q3 1 (by decide)) (q2 0 (by decide)) (q2 1 (by decide))).1 f2
      have up := u9_s hd hprr (q2 0 (by decide)) (q2 1 (by decide)) f2
      obtain ⟨bk1, bk2⟩ := bad v2 k2 f1
      exact Or.inr ⟨σf, _, _, k2, _, _, _, _, _, e1, en, f5, up, by simp (disch := omega) only [nb_st_k, nb_st_n]; exact e7, by simp (disch := omega) only [nb_st_k, nb_st_n]; exact f4, bk1, bk2, fcl_t (fcl_t (fcl_t (fcl_n e2) (fcl_st (by omega) (by omega))) (fcl_st (by omega) (by omega))) (fcl_st (by omega) (by omega)), hf_t (hf_t (hf_t (hf_f f3) (hf_st (by decide) (by decide) (by show 6 ≤ _; omega) (by show _ < 2 * 6; omega))) (hf_st (by decide) (by decide) (by show 6 ≤ _; omega) (by show _ < 2 * 6; omega))) (hf_st (by decide) (by decide) (by show 1 ≤ _; omega) (by show _ < 2 * 1; omega))⟩
  · have e4 : x = nI 0 := e4
    rw [e4] at e1
    rcases i8 with ⟨τ', f1, f2, f3⟩ | ⟨v2, k2, τf, f1, -⟩
    · exact Or.inl ⟨⟨σf, Or.inl e1, fcl_n e2⟩, τ', f1, hf_f f2⟩
    · exact absurd ⟨v2, k2, f1⟩ e5
theorem st_w {N : Nat} {σ τ : nb_St} {d n k g o w a b : Nat} {B : Nat → Nat} (hN : 10 < N) (hd : d = 4 ∨ d = 20) (ht : tx σ τ n B) (hs : σ 2 1 = nI k) (hk : τ 0 27 = nI k) (hkn : k < n) (hb : B k = 119) (h : prr σ τ d g o w a b) : stp N σ τ d n k 2 := by
  obtain ⟨⟨x, σf⟩, e1, e2, e3⟩ := pr_nums7 (L := 2) hN ht hs hkn (by decide)
  have e2 : ∀ a, a ≠ 2 → a ≠ 3 → σf a = σ a := e2
  have i8 := i8_w (N := N) hN ht hk hkn hb h.2.2.2.2.2.2.1 h.2.2.1
  have bad : ∀ v k', okr B n 1 (k + 1) 2 v k' → k < k' ∧ k' ≤ n := fun v k' q => by
    obtain ⟨z1, z2, -⟩ := pq_le q.1
    exact ⟨by omega, z2 (by decide)⟩
  rcases e3 with ⟨e4, v, k', e5, e6, e7⟩ | ⟨e4, e5⟩
  · have e4 : x = nI 1 := e4
    have e5 : okr B n 1 (k + 1) 2 v k' := e5
    have e6 : ∀ j, j < 1 → σf 3 j = nI (v j) := e6
    have e7 : σf 2 1 = nI k' := e7
    rw [e4] at e1
    rcases i8 with ⟨τ', f1, f2, f3⟩ | ⟨v2, k2, τf, f1, f2, f3, f4, f5⟩
    · have hprr : prr σf τ d g o w a b := prr_c h (fun k _ _ => e2 k (by omega) (by omega)) (fun _ _ _ => rfl)
      have q2 : ∀ j, j < 1 → lo8 (4 * 2 + j) ≤ v j ∧ v j ≤ hi8 (4 * 2 + j) := e5.2
      have q3 := e6
      have en := (c7_w (N := N) hd hprr (q3 0 (by decide)) (q2 0 (by decide))).2 (f3 v k' e5)
      exact Or.inl ⟨⟨σf, Or.inr ⟨σf, e1, en⟩, fcl_n e2⟩, τ', f1, hf_f f2⟩
    · obtain ⟨u1, u2⟩ := pq_u f1.1 e5.1
      subst u1
      have q2 : ∀ j, j < 1 → lo8 (4 * 2 + j) ≤ v2 j ∧ v2 j ≤ hi8 (4 * 2 + j) := f1.2
      have q3 : ∀ j, j < 1 → σf 3 j = nI (v2 j) := fun j hj => by rw [u2 j hj]; exact e6 j hj
      have hprr : prr σf τf d g o w a b := prr_c h (fun k _ _ => e2 k (by omega) (by omega)) (fun k _ _ => f3.1 k (by omega) (by omega))
      have en := (c7_w (N := N) hd hprr (q3 0 (by decide)) (q2 0 (by decide))).1 f2
      have up := u9_w hd hprr (q2 0 (by decide)) f2
      obtain ⟨bk1, bk2⟩ := bad v2 k2 f1
      exact Or.inr ⟨σf, _, _, k2, _, _, _, _, _, e1, en, f5, up, by simp (disch := omega) only [nb_st_k, nb_st_n]; exact e7, by simp (disch := omega) only [nb_st_k, nb_st_n]; exact f4, bk1, bk2, fcl_t (fcl_t (fcl_n e2) (fcl_st (by omega) (by omega))) (fcl_st (by omega) (by omega)), hf_t (hf_t (hf_f f3) (hf_st (by decide) (by decide) (by show 4 ≤ _; omega) (by show _ < 2 * 4; omega))) (hf_st (by decide) (by decide) (by show 1 ≤ _; omega) (by show _ < 2 * 1; omega))⟩
  · have e4 : x = nI 0 := e4
    rw [e4] at e1
    rcases i8 with ⟨τ', f1, f2, f3⟩ | ⟨v2, k2, τf, f1, -⟩
    · exact Or.inl ⟨⟨σf, Or.inl e1, fcl_n e2⟩, τ', f1, hf_f f2⟩
    · exact absurd ⟨v2, k2, f1⟩ e5
theorem st_l {N : Nat} {σ τ : nb_St} {d n k g o w a b : Nat} {B : Nat → Nat} (hN : 10 < N) (hd : d = 4 ∨ d = 20) (ht : tx σ τ n B) (hs : σ 2 1 = nI k) (hk : τ 0 27 = nI k) (hkn : k < n) (hb : B k = 108) (h : prr σ τ d g o w a b) : stp N σ τ d n k 3 := by
  obtain ⟨⟨x, σf⟩, e1, e2, e3⟩ := pr_nums7 (L := 3) hN ht hs hkn (by decide)
  have e2 : ∀ a, a ≠ 2 → a ≠ 3 → σf a = σ a := e2
  have i8 := i8_l (N := N) hN ht hk hkn hb
  have bad : ∀ v k', okr B n 2 (k + 1) 3 v k' → k < k' ∧ k' ≤ n := fun v k' q => by
    obtain ⟨z1, z2, -⟩ := pq_le q.1
    exact ⟨by omega, z2 (by decide)⟩
  rcases e3 with ⟨e4, v, k', e5, e6, e7⟩ | ⟨e4, e5⟩
  · have e4 : x = nI 1 := e4
    have e5 : okr B n 2 (k + 1) 3 v k' := e5
    have e6 : ∀ j, j < 2 → σf 3 j = nI (v j) := e6
    have e7 : σf 2 1 = nI k' := e7
    rw [e4] at e1
    rcases i8 with ⟨τ', f1, f2, f3⟩ | ⟨v2, k2, τf, f1, f2, f3, f4, f5⟩
    · have hprr : prr σf τ d g o w a b := prr_c h (fun k _ _ => e2 k (by omega) (by omega)) (fun _ _ _ => rfl)
      have q2 : ∀ j, j < 2 → lo8 (4 * 3 + j) ≤ v j ∧ v j ≤ hi8 (4 * 3 + j) := e5.2
      have q3 := e6
      have en := (c7_l (N := N) hd hprr (q3 0 (by decide)) (q3 1 (by decide)) (q2 0 (by decide)) (q2 1 (by decide))).2 (f3 v k' e5)
      exact Or.inl ⟨⟨σf, Or.inr ⟨σf, e1, en⟩, fcl_n e2⟩, τ', f1, hf_f f2⟩
    · obtain ⟨u1, u2⟩ := pq_u f1.1 e5.1
      subst u1
      have q2 : ∀ j, j < 2 → lo8 (4 * 3 + j) ≤ v2 j ∧ v2 j ≤ hi8 (4 * 3 + j) := f1.2
      have q3 : ∀ j, j < 2 → σf 3 j = nI (v2 j) := fun j hj => by rw [u2 j hj]; exact e6 j hj
      have hprr : prr σf τf d g o w a b := prr_c h (fun k _ _ => e2 k (by omega) (by omega)) (fun k _ _ => f3.1 k (by omega) (by omega))
      have en := (c7_l (N := N) hd hprr (q3 0 (by decide)) (q3 1 (by decide)) (q2 0 (by decide)) (q2 1 (by decide))).1 f2
      have up := u9_l hd hprr (q2 0 (by decide)) (q2 1 (by decide)) f2
      obtain ⟨bk1, bk2⟩ := bad v2 k2 f1
      exact Or.inr ⟨σf, _, _, k2, _, _, _, _, _, e1, en, f5, up, by simp (disch := omega) only [nb_st_k, nb_st_n]; exact e7, by simp (disch := omega) only [nb_st_k, nb_st_n]; exact f4, bk1, bk2, fcl_t (fcl_t (fcl_n e2) (fcl_st (by omega) (by omega))) (fcl_st (by omega) (by omega)), hf_t (hf_t (hf_f f3) (hf_st (by decide) (by decide) (by show 1 ≤ _; omega) (by show _ < 2 * 1; omega))) (hf_st (by decide) (by decide) (by show 1 ≤ _; omega) (by show _ < 2 * 1; omega))⟩
  · have e4 : x = nI 0 := e4
    rw [e4] at e1
    rcases i8 with ⟨τ', f1, f2, f3⟩ | ⟨v2, k2, τf, f1, -⟩
    · exact Or.inl ⟨⟨σf, Or.inl e1, fcl_n e2⟩, τ', f1, hf_f f2⟩
    · exact absurd ⟨v2, k2, f1⟩ e5
theorem st_b {N : Nat} {σ τ : nb_St} {d n k g o w a b : Nat} {B : Nat → Nat} (hN : 10 < N) (hd : d = 4 ∨ d = 20) (ht : tx σ τ n B) (hs : σ 2 1 = nI k) (hk : τ 0 27 = nI k) (hkn : k < n) (hb : B k = 98) (h : prr σ τ d g o w a b) : stp N σ τ d n k 4 := by
  obtain ⟨⟨x, σf⟩, e1, e2, e3⟩ := pr_nums7 (L := 4) hN ht hs hkn (by decide)
  have e2 : ∀ a, a ≠ 2 → a ≠ 3 → σf a = σ a := e2
  have i8 := i8_b (N := N) hN ht hk hkn hb
  have bad : ∀ v k', okr B n 1 (k + 1) 4 v k' → k < k' ∧ k' ≤ n := fun v k' q => by
    obtain ⟨z1, z2, -⟩ := pq_le q.1
    exact ⟨by omega, z2 (by decide)⟩
  rcases e3 with ⟨e4, v, k', e5, e6, e7⟩ | ⟨e4, e5⟩
  · have e4 : x = nI 1 := e4
    have e5 : okr B n 1 (k + 1) 4 v k' := e5
    have e6 : ∀ j, j < 1 → σf 3 j = nI (v j) := e6
    have e7 : σf 2 1 = nI k' := e7
    rw [e4] at e1
    rcases i8 with ⟨τ', f1, f2, f3⟩ | ⟨v2, k2, τf, f1, f2, f3, f4, f5⟩
    · have hprr : prr σf τ d g o w a b := prr_c h (fun k _ _ => e2 k (by omega) (by omega)) (fun _ _ _ => rfl)
      have q2 : ∀ j, j < 1 → lo8 (4 * 4 + j) ≤ v j ∧ v j ≤ hi8 (4 * 4 + j) := e5.2
      have q3 := e6
      have en := (c7_b (N := N) hd hprr (q3 0 (by decide)) (q2 0 (by decide))).2 (f3 v k' e5)
      exact Or.inl ⟨⟨σf, Or.inr ⟨σf, e1, en⟩, fcl_n e2⟩, τ', f1, hf_f f2⟩
    · obtain ⟨u1, u2⟩ := pq_u f1.1 e5.1
      subst u1
      have q2 : ∀ j, j < 1 → lo8 (4 * 4 + j) ≤ v2 j ∧ v2 j ≤ hi8 (4 * 4 + j) := f1.2
      have q3 : ∀ j, j < 1 → σf 3 j = nI (v2 j) := fun j hj => by rw [u2 j hj]; exact e6 j hj
      have hprr : prr σf τf d g o w a b := prr_c h (fun k _ _ => e2 k (by omega) (by omega)) (fun k _ _ => f3.1 k (by omega) (by omega))
      have en := (c7_b (N := N) hd hprr (q3 0 (by decide)) (q2 0 (by decide))).1 f2
      have up := u9_b hd hprr (q2 0 (by decide)) f2
      obtain ⟨bk1, bk2⟩ := bad v2 k2 f1
      exact Or.inr ⟨σf, _, _, k2, _, _, _, _, _, e1, en, f5, up, by simp (disch := omega) only [nb_st_k, nb_st_n]; exact e7, by simp (disch := omega) only [nb_st_k, nb_st_n]; exact f4, bk1, bk2, fcl_t (fcl_n e2) (fcl_st (by omega) (by omega)), hf_t (hf_f f3) (hf_st (by decide) (by decide) (by show 1 ≤ _; omega) (by show _ < 2 * 1; omega))⟩
  · have e4 : x = nI 0 := e4
    rw [e4] at e1
    rcases i8 with ⟨τ', f1, f2, f3⟩ | ⟨v2, k2, τf, f1, -⟩
    · exact Or.inl ⟨⟨σf, Or.inl e1, fcl_n e2⟩, τ', f1, hf_f f2⟩
    · exact absurd ⟨v2, k2, f1⟩ e5
theorem st_c {N : Nat} {σ τ : nb_St} {d n k g o w a b : Nat} {B : Nat → Nat} (hN : 10 < N) (hd : d = 4 ∨ d = 20) (ht : tx σ τ n B) (hs : σ 2 1 = nI k) (hk : τ 0 27 = nI k) (hkn : k < n) (hb : B k = 99) (h : prr σ τ d g o w a b) : stp N σ τ d n k 5 := by
  obtain ⟨⟨x, σf⟩, e1, e2, e3⟩ := pr_nums7 (L := 5) hN ht hs hkn (by decide)
  have e2 : ∀ a, a ≠ 2 → a ≠ 3 → σf a = σ a := e2
  have i8 := i8_c (N := N) hN ht hk hkn hb h.1.2.2.2.2.2.2.2.2.2.2.2.2.2.1 h.1.2.1
  have bad : ∀ v k', okr B n 2 (k + 1) 5 v k' → k < k' ∧ k' ≤ n := fun v k' q => by
    obtain ⟨z1, z2, -⟩ := pq_le q.1
    exact ⟨by omega, z2 (by decide)⟩
  rcases e3 with ⟨e4, v, k', e5, e6, e7⟩ | ⟨e4, e5⟩
  · have e4 : x = nI 1 := e4
    have e5 : okr B n 2 (k + 1) 5 v k' := e5
    have e6 : ∀ j, j < 2 → σf 3 j = nI (v j) := e6
    have e7 : σf 2 1 = nI k' := e7
    rw [e4] at e1
    rcases i8 with ⟨τ', f1, f2, f3⟩ | ⟨v2, k2, τf, f1, f2, f3, f4, f5⟩
    · have hprr : prr σf τ d g o w a b := prr_c h (fun k _ _ => e2 k (by omega) (by omega)) (fun _ _ _ => rfl)
      have q2 : ∀ j, j < 2 → lo8 (4 * 5 + j) ≤ v j ∧ v j ≤ hi8 (4 * 5 + j) := e5.2
      have q3 := e6
      have en := (c7_c (N := N) hd hprr (q3 0 (by decide)) (q3 1 (by decide)) (q2 0 (by decide)) (q2 1 (by decide))).2 (f3 v k' e5)
      exact Or.inl ⟨⟨σf, Or.inr ⟨σf, e1, en⟩, fcl_n e2⟩, τ', f1, hf_f f2⟩
    · obtain ⟨u1, u2⟩ := pq_u f1.1 e5.1
      subst u1
      have q2 : ∀ j, j < 2 → lo8 (4 * 5 + j) ≤ v2 j ∧ v2 j ≤ hi8 (4 * 5 + j) := f1.2
      have q3 : ∀ j, j < 2 → σf 3 j = nI (v2 j) := fun j hj => by rw [u2 j hj]; exact e6 j hj
      have hprr : prr σf τf d g o w a b := prr_c h (fun k _ _ => e2 k (by omega) (by omega)) (fun k _ _ => f3.1 k (by omega) (by omega))
      have en := (c7_c (N := N) hd hprr (q3 0 (by decide)) (q3 1 (by decide)) (q2 0 (by decide)) (q2 1 (by decide))).1 f2
      have up := u9_c hd hprr (q2 0 (by decide)) (q2 1 (by decide)) f2
      obtain ⟨bk1, bk2⟩ := bad v2 k2 f1
      exact Or.inr ⟨σf, _, _, k2, _, _, _, _, _, e1, en, f5, up, by simp (disch := omega) only [nb_st_k, nb_st_n]; exact e7, by simp (disch := omega) only [nb_st_k, nb_st_n]; exact f4, bk1, bk2, fcl_t (fcl_t (fcl_t (fcl_n e2) (fcl_st (by omega) (by omega))) (fcl_st (by omega) (by omega))) (fcl_st (by omega) (by omega)), hf_t (hf_t (hf_t (hf_f f3) (hf_st (by decide) (by decide) (by show 3 ≤ _; omega) (by show _ < 2 * 3; omega))) (hf_st (by decide) (by decide) (by show 3 ≤ _; omega) (by show _ < 2 * 3; omega))) (hf_st (by decide) (by decide) (by show 1 ≤ _; omega) (by show _ < 2 * 1; omega))⟩
  · have e4 : x = nI 0 := e4
    rw [e4] at e1
    rcases i8 with ⟨τ', f1, f2, f3⟩ | ⟨v2, k2, τf, f1, -⟩
    · exact Or.inl ⟨⟨σf, Or.inl e1, fcl_n e2⟩, τ', f1, hf_f f2⟩
    · exact absurd ⟨v2, k2, f1⟩ e5
theorem st_u {N : Nat} {σ τ : nb_St} {d n k g o w a b : Nat} {B : Nat → Nat} (hN : 10 < N) (hd : d = 4 ∨ d = 20) (ht : tx σ τ n B) (hs : σ 2 1 = nI k) (hk : τ 0 27 = nI k) (hkn : k < n) (hb : B k = 117) (h : prr σ τ d g o w a b) : stp N σ τ d n k 6 := by
  obtain ⟨⟨x, σf⟩, e1, e2, e3⟩ := pr_nums7 (L := 6) hN ht hs hkn (by decide)
  have e2 : ∀ a, a ≠ 2 → a ≠ 3 → σf a = σ a := e2
  have i8 := i8_u (N := N) hN ht hk hkn hb
  have bad : ∀ v k', okr B n 3 (k + 1) 6 v k' → k < k' ∧ k' ≤ n := fun v k' q => by
    obtain ⟨z1, z2, -⟩ := pq_le q.1
    exact ⟨by omega, z2 (by decide)⟩
  rcases e3 with ⟨e4, v, k', e5, e6, e7⟩ | ⟨e4, e5⟩
  · have e4 : x = nI 1 := e4
    have e5 : okr B n 3 (k + 1) 6 v k' := e5
    have e6 : ∀ j, j < 3 → σf 3 j = nI (v j) := e6
    have e7 : σf 2 1 = nI k' := e7
    rw [e4] at e1
    rcases i8 with ⟨τ', f1, f2, f3⟩ | ⟨v2, k2, τf, f1, f2, f3, f4, f5⟩
    · have hprr : prr σf τ d g o w a b := prr_c h (fun k _ _ => e2 k (by omega) (by omega)) (fun _ _ _ => rfl)
      have q2 : ∀ j, j < 3 → lo8 (4 * 6 + j) ≤ v j ∧ v j ≤ hi8 (4 * 6 + j) := e5.2
      have q3 := e6
      have en := (c7_u (N := N) hd hprr (q3 0 (by decide)) (q3 1 (by decide)) (q3 2 (by decide)) (q2 0 (by decide)) (q2 1 (by decide)) (q2 2 (by decide))).2 (f3 v k' e5)
      exact Or.inl ⟨⟨σf, Or.inr ⟨σf, e1, en⟩, fcl_n e2⟩, τ', f1, hf_f f2⟩
    · obtain ⟨u1, u2⟩ := pq_u f1.1 e5.1
      subst u1
      have q2 : ∀ j, j < 3 → lo8 (4 * 6 + j) ≤ v2 j ∧ v2 j ≤ hi8 (4 * 6 + j) := f1.2
      have q3 : ∀ j, j < 3 → σf 3 j = nI (v2 j) := fun j hj => by rw [u2 j hj]; exact e6 j hj
      have hprr : prr σf τf d g o w a b := prr_c h (fun k _ _ => e2 k (by omega) (by omega)) (fun k _ _ => f3.1 k (by omega) (by omega))
      have en := (c7_u (N := N) hd hprr (q3 0 (by decide)) (q3 1 (by decide)) (q3 2 (by decide)) (q2 0 (by decide)) (q2 1 (by decide)) (q2 2 (by decide))).1 f2
      have up := u9_u hd hprr (q2 0 (by decide)) (q2 1 (by decide)) (q2 2 (by decide)) f2
      obtain ⟨bk1, bk2⟩ := bad v2 k2 f1
      have w0 : 1 ≤ v2 0 ∧ v2 0 ≤ 3 := q2 0 (by decide)
      exact Or.inr ⟨σf, _, _, k2, _, _, _, _, _, e1, en, f5, up, by simp (disch := omega) only [nb_st_k, nb_st_n]; exact e7, by simp (disch := omega) only [nb_st_k, nb_st_n]; exact f4, bk1, bk2, fcl_t (fcl_t (fcl_n e2) (fcl_st (by omega) (by omega))) (fcl_st (by omega) (by omega)), hf_t (hf_t (hf_f f3) (hf_st (by decide) (by decide) (by show 3 ≤ _; omega) (by show _ < 2 * 3; omega))) (hf_st (by decide) (by decide) (by show 3 ≤ _; omega) (by show _ < 2 * 3; omega))⟩
  · have e4 : x = nI 0 := e4
    rw [e4] at e1
    rcases i8 with ⟨τ', f1, f2, f3⟩ | ⟨v2, k2, τf, f1, -⟩
    · exact Or.inl ⟨⟨σf, Or.inl e1, fcl_n e2⟩, τ', f1, hf_f f2⟩
    · exact absurd ⟨v2, k2, f1⟩ e5
theorem st_y {N : Nat} {σ τ : nb_St} {d n k g o w a b : Nat} {B : Nat → Nat} (hN : 10 < N) (hd : d = 4 ∨ d = 20) (ht : tx σ τ n B) (hs : σ 2 1 = nI k) (hk : τ 0 27 = nI k) (hkn : k < n) (hb : B k = 121) (h : prr σ τ d g o w a b) : stp N σ τ d n k 7 := by
  obtain ⟨⟨x, σf⟩, e1, e2, e3⟩ := pr_nums7 (L := 7) hN ht hs hkn (by decide)
  have e2 : ∀ a, a ≠ 2 → a ≠ 3 → σf a = σ a := e2
  have i8 := i8_y (N := N) hN ht hk hkn hb h.1.2.2.2.2.2.2.2.2.2.2.2.2.2.2.2.2.2.1 h.1.2.2.1 h.1.2.2.2.2.1 h.1.1
  have bad : ∀ v k', okr B n 3 (k + 1) 7 v k' → k < k' ∧ k' ≤ n := fun v k' q => by
    obtain ⟨z1, z2, -⟩ := pq_le q.1
    exact ⟨by omega, z2 (by decide)⟩
  rcases e3 with ⟨e4, v, k', e5, e6, e7⟩ | ⟨e4, e5⟩
  · have e4 : x = nI 1 := e4
    have e5 : okr B n 3 (k + 1) 7 v k' := e5
    have e6 : ∀ j, j < 3 → σf 3 j = nI (v j) := e6
    have e7 : σf 2 1 = nI k' := e7
    rw [e4] at e1
    rcases i8 with ⟨τ', f1, f2, f3⟩ | ⟨v2, k2, τf, f1, f2, f3, f4, f5⟩
    · have hprr : prr σf τ d g o w a b := prr_c h (fun k _ _ => e2 k (by omega) (by omega)) (fun _ _ _ => rfl)
      have q2 : ∀ j, j < 3 → lo8 (4 * 7 + j) ≤ v j ∧ v j ≤ hi8 (4 * 7 + j) := e5.2
      have q3 := e6
      have en := (c7_y (N := N) hd hprr (q3 0 (by decide)) (q3 1 (by decide)) (q3 2 (by decide)) (q2 0 (by decide)) (q2 1 (by decide)) (q2 2 (by decide))).2 (f3 v k' e5)
      exact Or.inl ⟨⟨σf, Or.inr ⟨σf, e1, en⟩, fcl_n e2⟩, τ', f1, hf_f f2⟩
    · obtain ⟨u1, u2⟩ := pq_u f1.1 e5.1
      subst u1
      have q2 : ∀ j, j < 3 → lo8 (4 * 7 + j) ≤ v2 j ∧ v2 j ≤ hi8 (4 * 7 + j) := f1.2
      have q3 : ∀ j, j < 3 → σf 3 j = nI (v2 j) := fun j hj => by rw [u2 j hj]; exact e6 j hj
      have hprr : prr σf τf d g o w a b := prr_c h (fun k _ _ => e2 k (by omega) (by omega)) (fun k _ _ => f3.1 k (by omega) (by omega))
      have en := (c7_y (N := N) hd hprr (q3 0 (by decide)) (q3 1 (by decide)) (q3 2 (by decide)) (q2 0 (by decide)) (q2 1 (by decide)) (q2 2 (by decide))).1 f2
      have up := u9_y hd hprr (q2 0 (by decide)) (q2 1 (by decide)) (q2 2 (by decide)) f2
      obtain ⟨bk1, bk2⟩ := bad v2 k2 f1
      exact Or.inr ⟨σf, _, _, k2, _, _, _, _, _, e1, en, f5, up, by simp (disch := omega) only [nb_st_k, nb_st_n]; exact e7, by simp (disch := omega) only [nb_st_k, nb_st_n]; exact f4, bk1, bk2, fcl_t (fcl_t (fcl_t (fcl_t (fcl_n e2) (fcl_st (by omega) (by omega))) (fcl_st (by omega) (by omega))) (fcl_st (by omega) (by omega))) (fcl_st (by omega) (by omega)), hf_t (hf_t (hf_t (hf_t (hf_f f3) (hf_st (by decide) (by decide) (by show 6 ≤ _; omega) (by show _ < 2 * 6; omega))) (hf_st (by decide) (by decide) (by show 6 ≤ _; omega) (by show _ < 2 * 6; omega))) (hf_st (by decide) (by decide) (by show 6 ≤ _; omega) (by show _ < 2 * 6; omega))) (hf_st (by decide) (by decide) (by show 1 ≤ _; omega) (by show _ < 2 * 1; omega))⟩
  · have e4 : x = nI 0 := e4
    rw [e4] at e1
    rcases i8 with ⟨τ', f1, f2, f3⟩ | ⟨v2, k2, τf, f1, -⟩
    · exact Or.inl ⟨⟨σf, Or.inl e1, fcl_n e2⟩, τ', f1, hf_f f2⟩
    · exact absurd ⟨v2, k2, f1⟩ e5
theorem i8_none {N : Nat} {σ τ : nb_St} {n k : Nat} {B : Nat → Nat} (ht : tx σ τ n B) (hk : τ 0 27 = nI k) (hkn : k < n) (hb : ∀ L, L < 8 → tb8 L ≠ B k) : ∃ τ', fX8_item N τ = some (nI 0, τ') ∧ hf τ τ' := by
  have n4 := ht.1
  have hbl := (ht.2.2 k hkn).1
  have hby : fX8_byteAt N τ (nI k) = some (nI (B k)) := by
    have := pr_byteAt (N := N) (k := k) ht rff_r (by omega)
    unfold bA at this
    rw [if_pos hkn] at this
    exact this
  have hne : ∀ c : Nat, c < 8 → ¬ nI (B k) = nI (tb8 c) := fun c hc q => hb c hc ((nI_eq (by omega) (by have := (tab3_n c hc).2; omega)).mp q).symm
  refine ⟨nb_st τ 0 27 (nI (k + 1)), ?_, hf_f rff_p⟩
  unfold fX8_item
  rw [hk, hby, pu_b1, nI_1]
  dsimp only [nb_let]
  rw [if_neg (show ¬ nI (B k) = (98 : Int32) from hne 4 (by decide))]
  rw [if_neg (show ¬ nI (B k) = (99 : Int32) from hne 5 (by decide))]
  by_cases z100 : nI (B k) = (100 : Int32)
  · rw [if_pos z100]; rfl
  rw [if_neg z100]
  by_cases z101 : nI (B k) = (101 : Int32)
  · rw [if_pos z101]; rfl
  rw [if_neg z101]
  by_cases z102 : nI (B k) = (102 : Int32)
  · rw [if_pos z102]; rfl
  rw [if_neg z102]
  rw [if_neg (show ¬ nI (B k) = (103 : Int32) from hne 0 (by decide))]
  by_cases z104 : nI (B k) = (104 : Int32)
  · rw [if_pos z104]; rfl
  rw [if_neg z104]
  by_cases z105 : nI (B k) = (105 : Int32)
  · rw [if_pos z105]; rfl
  rw [if_neg z105]
  by_cases z106 : nI (B k) = (106 : Int32)
  · rw [if_pos z106]; rfl
  rw [if_neg z106]
  by_cases z107 : nI (B k) = (107 : Int32)
  · rw [if_pos z107]; rfl
  rw [if_neg z107]
  rw [if_neg (show ¬ nI (B k) = (108 : Int32) from hne 3 (by decide))]
  by_cases z109 : nI (B k) = (109 : Int32)
  · rw [if_pos z109]; rfl
  rw [if_neg z109]
  by_cases z110 : nI (B k) = (110 : Int32)
  · rw [if_pos z110]; rfl
  rw [if_neg z110]
  by_cases z111 : nI (B k) = (111 : Int32)
  · rw [if_pos z111]; rfl
  rw [if_neg z111]
  by_cases z112 : nI (B k) = (112 : Int32)
  · rw [if_pos z112]; rfl
  rw [if_neg z112]
  by_cases z113 : nI (B k) = (113 : Int32)
  · rw [if_pos z113]; rfl
  rw [if_neg z113]
  by_cases z114 : nI (B k) = (114 : Int32)
  · rw [if_pos z114]; rfl
  rw [if_neg z114]
  rw [if_neg (show ¬ nI (B k) = (115 : Int32) from hne 1 (by decide))]
  by_cases z116 : nI (B k) = (116 : Int32)
  · rw [if_pos z116]; rfl
  rw [if_neg z116]
  rw [if_neg (show ¬ nI (B k) = (117 : Int32) from hne 6 (by decide))]
  by_cases z118 : nI (B k) = (118 : Int32)
  · rw [if_pos z118]; rfl
  rw [if_neg z118]
  rw [if_neg (show ¬ nI (B k) = (119 : Int32) from hne 2 (by decide))]
  by_cases z120 : nI (B k) = (120 : Int32)
  · rw [if_pos z120]; rfl
  rw [if_neg z120]
  rw [if_neg (show ¬ nI (B k) = (121 : Int32) from hne 7 (by decide))]
  rfl
theorem st_all {N : Nat} {σ τ : nb_St} {d n k L g o w a b : Nat} {B : Nat → Nat} (hN : 10 < N) (hd : d = 4 ∨ d = 20) (ht : tx σ τ n B) (hs : σ 2 1 = nI k) (hk : τ 0 27 = nI k) (hkn : k < n) (hL : L < 8) (hb : tb8 L = B k) (h : prr σ τ d g o w a b) : stp N σ τ d n k L := by
  have : L = 0 ∨ L = 1 ∨ L = 2 ∨ L = 3 ∨ L = 4 ∨ L = 5 ∨ L = 6 ∨ L = 7 := by omega
  rcases this with rfl | rfl | rfl | rfl | rfl | rfl | rfl | rfl
  · exact st_g hN hd ht hs hk hkn hb.symm h
  · exact st_s hN hd ht hs hk hkn hb.symm h
  · exact st_w hN hd ht hs hk hkn hb.symm h
  · exact st_l hN hd ht hs hk hkn hb.symm h
  · exact st_b hN hd ht hs hk hkn hb.symm h
  · exact st_c hN hd ht hs hk hkn hb.symm h
  · exact st_u hN hd ht hs hk hkn hb.symm h
  · exact st_y hN hd ht hs hk hkn hb.symm h
end
