def pr_text (σ τ : nb_St) (n : Nat) : Prop := n ≤ 400 ∧ σ 0 1 = nI n ∧ τ 0 0 = nI n ∧ ∀ k, k < n → τ 1 k = σ 1 k &&& 255 ∧ (σ 1 k).toInt8.toInt32 = σ 1 k
/-- a party without its signs and words: class at p, reference in its half s -/
def pr_pt (σ τ : nb_St) (p s g o w : Nat) : Prop := g ≤ 8 ∧ o ≤ 3 ∧ w ≤ 6 ∧ σ p 0 = nI g ∧ τ 2 s = nI g ∧
  (∀ k, k < g → σ (p + 1) k = τ 3 (8 * s + k) ∧ pr_rng (σ (p + 1) k) 0 3 ∧ σ (p + 2) k = τ 4 (8 * s + k) ∧ pr_rng (σ (p + 2) k) 0 359 ∧ σ (p + 3) k = τ 5 (8 * s + k) ∧ pr_rng (σ (p + 3) k) 0 199 ∧ σ (p + 4) k = τ 6 (8 * s + k) ∧ pr_rng (σ (p + 4) k) 0 5) ∧
  σ p 6 = τ 10 s ∧ pr_rng (σ p 6) 0 99 ∧ σ p 7 = τ 11 s ∧ pr_rng (σ p 7) 0 60 ∧ σ p 8 = τ 12 s ∧ pr_rng (σ p 8) 0 359 ∧
  σ p 9 = nI o ∧ τ 7 s = nI o ∧ (∀ k, k < o → σ (p + 9) k = τ 8 (3 * s + k) ∧ pr_rng (σ (p + 9) k) 1 99 ∧ σ (p + 10) k = τ 9 (3 * s + k) ∧ pr_rng (σ (p + 10) k) 0 999) ∧
  (∀ k, k < 3 → σ (p + 11) (k + 1) = τ 13 (3 * s + k) ∧ pr_rng (σ (p + 11) (k + 1)) 0 99 ∧ σ (p + 12) (k + 1) = τ 14 (3 * s + k) ∧ pr_rng (σ (p + 12) (k + 1)) 0 99) ∧
  σ p 14 = nI w ∧ τ 15 s = nI w ∧ ∀ k, k < w → σ (p + 13) k = τ 16 (6 * s + k) ∧ pr_rng (σ (p + 13) k) 0 7 ∧ σ (p + 14) k = τ 17 (6 * s + k) ∧ pr_rng (σ (p + 14) k) 0 359 ∧ σ (p + 15) k = τ 18 (6 * s + k) ∧ pr_rng (σ (p + 15) k) 0 1
def pr_kept (σ τ : nb_St) (n : Nat) : Prop := n ≤ 2 ∧ σ 69 4 = nI n ∧ τ 0 24 = nI n ∧ (1 ≤ n → ∃ a b, pr_told σ τ 71 2 a b) ∧ (2 ≤ n → ∃ a b, pr_told σ τ 75 3 a b)
theorem pr_told_c {σ σ' τ τ' : nb_St} {q s a b : Nat} (h : pr_told σ τ q s a b) (h0 : σ' q = σ q) (h1 : σ' (q + 1) = σ (q + 1)) (h2 : σ' (q + 2) = σ (q + 2)) (h3 : σ' (q + 3) = σ (q + 3)) (t : ∀ k, 19 ≤ k → k ≤ 23 → τ' k = τ k) : pr_told σ' τ' q s a b := by
  unfold pr_told at *
  rw [h0, h1, h2, h3, t 19 (by decide) (by decide), t 20 (by decide) (by decide), t 21 (by decide) (by decide), t 22 (by decide) (by decide), t 23 (by decide) (by decide)]
  exact h
theorem pr_pt_c {σ σ' τ τ' : nb_St} {p s g o w : Nat} (h : pr_pt σ τ p s g o w) (hσ : ∀ k, k ≤ 15 → (k < 5 ∨ 8 < k) → σ' (p + k) = σ (p + k)) (t : ∀ k, 2 ≤ k → k ≤ 18 → τ' k = τ k) : pr_pt σ' τ' p s g o w := by
  have h0 : σ' p = σ p := hσ 0 (by decide) (by decide)
  unfold pr_pt at *
  rw [h0, hσ 1 (by decide) (by decide), hσ 2 (by decide) (by decide), hσ 3 (by decide) (by decide), hσ 4 (by decide) (by decide), hσ 9 (by decide) (by decide), hσ 10 (by decide) (by decide), hσ 11 (by decide) (by decide), hσ 12 (by decide) (by decide), hσ 13 (by decide) (by decide), hσ 14 (by decide) (by decide), hσ 15 (by decide) (by decide)]
  rw [t 2 (by decide) (by decide), t 3 (by decide) (by decide), t 4 (by decide) (by decide), t 5 (by decide) (by decide), t 6 (by decide) (by decide), t 7 (by decide) (by decide), t 8 (by decide) (by decide), t 9 (by decide) (by decide), t 10 (by decide) (by decide), t 11 (by decide) (by decide), t 12 (by decide) (by decide), t 13 (by decide) (by decide), t 14 (by decide) (by decide), t 15 (by decide) (by decide), t 16 (by decide) (by decide), t 17 (by decide) (by decide), t 18 (by decide) (by decide)]
  exact h
theorem pr_text_c {σ σ' τ τ' : nb_St} {n : Nat} (h : pr_text σ τ n) (h0 : σ' 0 1 = σ 0 1) (h1 : σ' 1 = σ 1) (t0 : τ' 0 0 = τ 0 0) (t1 : τ' 1 = τ 1) : pr_text σ' τ' n := by
  unfold pr_text at *
  rw [h0, h1, t0, t1]
  exact h
theorem pr_done_c {σ σ' τ τ' : nb_St} {n : Nat} (h : pr_done σ τ n) (h0 : σ' 69 1 = σ 69 1) (h1 : σ' 70 = σ 70) (t0 : τ' 0 25 = τ 0 25) (t1 : τ' 24 = τ 24) : pr_done σ' τ' n := by
  unfold pr_done at *
  rw [h0, h1, t0, t1]
  exact h
theorem pr_kept_c {σ σ' τ τ' : nb_St} {n : Nat} (h : pr_kept σ τ n) (h0 : σ' 69 4 = σ 69 4) (h1 : ∀ k, 71 ≤ k → k ≤ 78 → σ' k = σ k) (t0 : τ' 0 24 = τ 0 24) (t1 : ∀ k, 19 ≤ k → k ≤ 23 → ∀ j, (if k = 19 ∨ k = 22 then 2 else if k = 23 then 8 else 12) ≤ j → τ' k j = τ k j) : pr_kept σ' τ' n := by
  obtain ⟨g0, g1, g2, g3, g4⟩ := h
  have mv : ∀ (q s a b : Nat), (q = 71 ∧ s = 2) ∨ (q = 75 ∧ s = 3) → pr_told σ τ q s a b → pr_told σ' τ' q s a b := by
    intro q s a b hq ht
    have hs : 2 ≤ s := by omega
    obtain ⟨c1, c2, c3, c4, c5, c6, c7, c8⟩ := ht
    have e0 : σ' q = σ q := h1 q (by omega) (by omega)
    have e1 : σ' (q + 1) = σ (q + 1) := h1 _ (by omega) (by omega)
    have e2 : σ' (q + 2) = σ (q + 2) := h1 _ (by omega) (by omega)
    have e3 : σ' (q + 3) = σ (q + 3) := h1 _ (by omega) (by omega)
    refine ⟨c1, c2, by rw [e0]; exact c3, by rw [t1 19 (by decide) (by decide) s (by simpa using hs)]; exact c4, by rw [e0]; exact c5, by rw [t1 22 (by decide) (by decide) s (by simpa using hs)]; exact c6, fun k hk => ?_, fun k hk => ?_⟩
    · rw [e1, e2, t1 20 (by decide) (by decide) _ (by simp; omega), t1 21 (by decide) (by decide) _ (by simp; omega)]
      exact c7 k hk
    · rw [e3, t1 23 (by decide) (by decide) _ (by simp; omega)]
      exact c8 k hk
  refine ⟨g0, by rw [h0]; exact g1, by rw [t0]; exact g2, fun hn => ?_, fun hn => ?_⟩
  · obtain ⟨a, b, ht⟩ := g3 hn
    exact ⟨a, b, mv 71 2 a b (by omega) ht⟩
  · obtain ⟨a, b, ht⟩ := g4 hn
    exact ⟨a, b, mv 75 3 a b (by omega) ht⟩
def pr_pd (p d : Nat) : Prop := (p = 4 ∧ d = 20) ∨ (p = 20 ∧ d = 4)
/-- class and reference stand alike: GV of what is kept of the giving, GM of what is kept of the game -/
def pr_rel (GV GM : nb_St → nb_St → Prop) (σ τ : nb_St) (p d n g o w a b e kk : Nat) : Prop :=
  pr_pd p d ∧ σ 0 3 = nI p ∧ σ 0 4 = nI d ∧ pr_text σ τ n ∧ 1 ≤ g ∧ pr_pt σ τ p 0 g o w ∧ pr_told σ τ (p + 5) 0 a b ∧ pr_done σ τ e ∧ pr_z (τ 24) e ≤ a ∧ e - pr_z (τ 24) e ≤ b ∧ pr_kept σ τ kk ∧ GM σ τ ∧ GV σ τ
def pr_Rel (GV GM : nb_St → nb_St → Prop) (σ τ : nb_St) : Prop := ∃ p d n g o w a b e kk, pr_rel GV GM σ τ p d n g o w a b e kk
def pr_ok (GV GM : nb_St → nb_St → Prop) : Prop := (∀ σ τ, σ 61 0 = 0 → GV σ τ) ∧ (∀ σ σ' τ τ', σ' 61 = σ 61 → σ' 63 = σ 63 → (∀ k, 2 ≤ k → k ≤ 23 → ∀ j, j < (if k = 19 ∨ k = 22 then 1 else if k = 20 ∨ k = 21 then 6 else if k = 23 then 4 else 24) → τ' k j = τ k j) → GV σ τ → GV σ' τ') ∧ ∀ σ σ' τ τ', σ' 64 = σ 64 → σ' 65 = σ 65 → σ' 66 = σ 66 → σ' 68 = σ 68 → (∀ k, 2 ≤ k → k ≤ 6 → τ' k = τ k) → GM σ τ → GM σ' τ'
theorem pr_pd_p {p d : Nat} (h : pr_pd p d) : xc_pty p = true := by rcases h with ⟨rfl, -⟩ | ⟨rfl, -⟩ <;> rfl
theorem pr_laid {σ : nb_St} {p d : Nat} (h : pr_pd p d) (hσ : σ 0 3 = nI p) : nb_ix (σ 0 3) = p := by
  rw [hσ]
  exact pu_ix (by rcases h with ⟨rfl, -⟩ | ⟨rfl, -⟩ <;> decide)
theorem pp_wipe {GV GM : nb_St → nb_St → Prop} (ok : pr_ok GV GM) {σ τ : nb_St} (h : pr_Rel GV GM σ τ) : ∃ (N : Nat) (r : Int32) (σo τo : nb_St), fX7_wipe N σ = some (r, σo) ∧ fX8_wipe N τ = some (r, τo) ∧ pr_Rel GV GM σo τo := by
  obtain ⟨p, d, n, g, o, w, a, b, e, kk, hpd, l3, l4, ht, hg, hp, hto, hdo, hz1, hz2, hk, hgm, hgv⟩ := h
  refine ⟨0, σ 0 1, nb_st σ 0 1 0, nb_st τ 0 0 0, rfl, ?_, p, d, 0, g, o, w, a, b, e, kk, hpd, ?_, ?_, ?_, hg, ?_, ?_, ?_, ?_, ?_, ?_, ?_, ?_⟩
  · show some (τ 0 0, nb_st τ 0 0 0) = _
    rw [ht.2.1, ht.2.2.1]
  · rw [nb_st_n (by decide)]; exact l3
  · rw [nb_st_n (by decide)]; exact l4
  · exact ⟨by decide, nb_st_s, nb_st_s, fun k hk => absurd hk (by omega)⟩
  · have h4 : 4 ≤ p := by rcases hpd with ⟨rfl, -⟩ | ⟨rfl, -⟩ <;> decide
    exact pr_pt_c hp (fun k _ _ => nb_st_k (by omega)) (fun k h1 _ => nb_st_k (by omega))
  · exact pr_told_c hto (nb_st_k (by omega)) (nb_st_k (by omega)) (nb_st_k (by omega)) (nb_st_k (by omega)) (fun k h1 _ => nb_st_k (by omega))
  · exact pr_done_c hdo (by rw [nb_st_k (by decide)]) (nb_st_k (by decide)) (nb_st_n (by decide)) (nb_st_k (by decide))
  · rw [nb_st_k (by decide)]; exact hz1
  · rw [nb_st_k (by decide)]; exact hz2
  · exact pr_kept_c hk (by rw [nb_st_k (by decide)]) (fun k h1 _ => nb_st_k (by omega)) (nb_st_n (by decide)) (fun k h1 _ j _ => by rw [nb_st_k (by omega)])
  · exact ok.2.2 _ _ _ _ (nb_st_k (by decide)) (nb_st_k (by decide)) (nb_st_k (by decide)) (nb_st_k (by decide)) (fun k h1 _ => nb_st_k (by omega)) hgm
  · exact ok.2.1 _ _ _ _ (nb_st_k (by decide)) (nb_st_k (by decide)) (fun k h1 _ j _ => by rw [nb_st_k (by omega)]) hgv
