section
abbrev eT : Type := Nat × (Nat → Nat) × (Nat → Nat) × (Nat → Nat) × (Nat → Nat) × Nat × Nat × (Nat → Nat → Nat) × (Nat → Nat → Nat) × Nat
def eg (D : eT) : Nat := D.1
def eP (D : eT) : Nat → Nat := D.2.1
def eK (D : eT) : Nat → Nat := D.2.2.1
def eF (D : eT) : Nat → Nat := D.2.2.2.1
def eS (D : eT) : Nat → Nat := D.2.2.2.2.1
def eL (D : eT) : Nat := D.2.2.2.2.2.1
def eH (D : eT) : Nat := D.2.2.2.2.2.2.1
def es (D : eT) : Nat → Nat → Nat := D.2.2.2.2.2.2.2.1
def ew (D : eT) : Nat → Nat → Nat := D.2.2.2.2.2.2.2.2.1
def eB (D : eT) : Nat := D.2.2.2.2.2.2.2.2.2
def ectn (D : eT) (z : Nat → Nat) (t n : Nat) : Nat := su (fun k => if z (eP D k) < t then 1 else 0) n
def ect (D : eT) (z : Nat → Nat) (t : Nat) : Nat := ectn D z t (eg D)
def esh (D : eT) (z : Nat → Nat) (i t : Nat) : Nat := (eS D i - (es D i t + eL D * ect D z t)) + ew D i t
def eoth (D : eT) (z : Nat → Nat) (i t : Nat) : Bool := decide (∀ k, k < eg D → eP D k = eP D i ∨ z (eP D k) < t)
theorem eoth_t {D : eT} {z : Nat → Nat} {i t : Nat} : eoth D z i t = true ↔ ∀ k, k < eg D → eP D k = eP D i ∨ z (eP D k) < t := decide_eq_true_iff
def epr (D : eT) (z : Nat → Nat) (i t : Nat) : Prop := if eK D i = 3 then eF D i ≤ t else (eF D i + esh D z i t ≤ t ∧ (eK D i = 4 → eoth D z i t = true)) ∨ (eK D i = 5 ∧ eF D i ≤ t ∧ 0 < ect D z t)
def eps (D : eT) (z : Nat → Nat) (p t : Nat) : Prop := (∀ i, i < eg D → eP D i = p → epr D z i t) ∨ ∃ i, i < eg D ∧ eP D i = p ∧ eK D i = 3 ∧ epr D z i t
def eat (D : eT) (z : Nat → Nat) (p t : Nat) : Prop := t = eB D ∨ eps D z p t
def ein (D : eT) (z : Nat → Nat) (m : Nat) : Prop := ∀ k, k < eg D → (z (eP D k) < m ∧ z (eP D k) < 1000 ∧ eat D z (eP D k) (z (eP D k)) ∧ ∀ t, t < z (eP D k) → ¬ eat D z (eP D k) t) ∨ (1000 ≤ z (eP D k) ∧ ∀ t, t < m → ¬ eat D z (eP D k) t)
def efin (D : eT) (z : Nat → Nat) : Prop := ∀ k, k < eg D → z (eP D k) ≤ eB D ∧ eat D z (eP D k) (z (eP D k)) ∧ ∀ t, t < z (eP D k) → ¬ eat D z (eP D k) t
theorem ectn_c {D : eT} {z z' : Nat → Nat} {t t' : Nat} : ∀ n, (∀ k, k < n → (z (eP D k) < t ↔ z' (eP D k) < t')) → ectn D z t n = ectn D z' t' n := fun n h => su_c n (fun k hk => by
  by_cases c : z (eP D k) < t
  · rw [if_pos c, if_pos ((h k hk).mp c)]
  · rw [if_neg c, if_neg (fun q => c ((h k hk).mpr q))])
theorem eoth_c {D : eT} {z z' : Nat → Nat} {i t t' : Nat} (h : ∀ k, k < eg D → (z (eP D k) < t ↔ z' (eP D k) < t')) : eoth D z i t = eoth D z' i t' := by
  have : eoth D z i t = true ↔ eoth D z' i t' = true := by
    rw [eoth_t, eoth_t]
    constructor
    · intro q k hk
      rcases q k hk with q | q
      · exact Or.inl q
      · exact Or.inr ((h k hk).mp q)
    · intro q k hk
      rcases q k hk with q | q
      · exact Or.inl q
      · exact Or.inr ((h k hk).mpr q)
  cases a : eoth D z i t <;> cases b : eoth D z' i t' <;> simp_all
theorem epr_c {D : eT} {z z' : Nat → Nat} {i t : Nat} (h : ∀ k, k < eg D → (z (eP D k) < t ↔ z' (eP D k) < t)) : epr D z i t ↔ epr D z' i t := by
  unfold epr esh ect
  rw [ectn_c _ h, eoth_c h]
theorem eps_c {D : eT} {z z' : Nat → Nat} {p t : Nat} (h : ∀ k, k < eg D → (z (eP D k) < t ↔ z' (eP D k) < t)) : eps D z p t ↔ eps D z' p t := by
  unfold eps
  constructor
  · rintro (q | ⟨i, a, b, c, d⟩)
    · exact Or.inl (fun i a b => (epr_c h).mp (q i a b))
    · exact Or.inr ⟨i, a, b, c, (epr_c h).mp d⟩
  · rintro (q | ⟨i, a, b, c, d⟩)
    · exact Or.inl (fun i a b => (epr_c h).mpr (q i a b))
    · exact Or.inr ⟨i, a, b, c, (epr_c h).mpr d⟩
theorem eat_c {D : eT} {z z' : Nat → Nat} {p t : Nat} (h : ∀ k, k < eg D → (z (eP D k) < t ↔ z' (eP D k) < t)) : eat D z p t ↔ eat D z' p t := by
  unfold eat
  rw [eps_c h]
theorem ein_fin {D : eT} {z : Nat → Nat} {m : Nat} (h : ein D z m) (hm : eB D < m) : efin D z := by
  intro k hk
  rcases h k hk with ⟨a, b, c, d⟩ | ⟨a, b⟩
  · refine ⟨?_, c, d⟩
    by_cases q : z (eP D k) ≤ eB D
    · exact q
    · exact absurd (Or.inl rfl) (d (eB D) (by omega))
  · exact absurd (Or.inl rfl) (b (eB D) hm)
theorem efin_u {D : eT} {z z' : Nat → Nat} (h : efin D z) (h' : efin D z') : ∀ k, k < eg D → z (eP D k) = z' (eP D k) := by
  have key : ∀ t, ∀ k, k < eg D → (z (eP D k) < t ↔ z' (eP D k) < t) := by
    intro t
    induction t with
    | zero => intro k _; omega
    | succ t ih =>
      intro k hk
      have e := eat_c (D := D) (p := eP D k) ih
      have i1 := ih k hk
      obtain ⟨a1, a2, a3⟩ := h k hk
      obtain ⟨b1, b2, b3⟩ := h' k hk
      constructor
      · intro q
        by_cases c : z (eP D k) < t
        · have := i1.mp c; omega
        · have c2 : z (eP D k) = t := by omega
          rw [c2] at a2
          by_cases c3 : z' (eP D k) < t + 1
          · exact c3
          · exact absurd (e.mp a2) (b3 t (by omega))
      · intro q
        by_cases c : z' (eP D k) < t
        · have := i1.mpr c; omega
        · have c2 : z' (eP D k) = t := by omega
          rw [c2] at b2
          by_cases c3 : z (eP D k) < t + 1
          · exact c3
          · exact absurd (e.mpr b2) (a3 t (by omega))
  intro k hk
  have h1 := key (z (eP D k) + 1) k hk
  have h2 := key (z' (eP D k) + 1) k hk
  omega
/-- who stands at t, stands: one step of a minute -/
theorem ein_step {D : eT} {z z' : Nat → Nat} {t : Nat} (h : ein D z t) (ht : t < 1000) (h1 : ∀ k, k < eg D → 1000 ≤ z (eP D k) → eat D z (eP D k) t → z' (eP D k) = t) (h2 : ∀ k, k < eg D → ¬ (1000 ≤ z (eP D k) ∧ eat D z (eP D k) t) → z' (eP D k) = z (eP D k)) : ein D z' (t + 1) := by
  have hlt : ∀ u, u ≤ t → ∀ k, k < eg D → (z (eP D k) < u ↔ z' (eP D k) < u) := by
    intro u hu k hk
    by_cases c : 1000 ≤ z (eP D k) ∧ eat D z (eP D k) t
    · have := h1 k hk c.1 c.2
      omega
    · rw [h2 k hk c]
  intro k hk
  rcases h k hk with ⟨a, b, c, d⟩ | ⟨a, b⟩
  · have e := h2 k hk (fun q => by omega)
    left
    rw [e]
    exact ⟨by omega, b, (eat_c (hlt _ (by omega))).mp c, fun u hu q => d u hu ((eat_c (hlt _ (by omega))).mpr q)⟩
  · by_cases c : eat D z (eP D k) t
    · left
      rw [h1 k hk a c]
      exact ⟨by omega, by omega, (eat_c (hlt _ (by omega))).mp c, fun u hu q => b u hu ((eat_c (hlt _ (by omega))).mpr q)⟩
    · right
      rw [h2 k hk (fun q => c q.2)]
      refine ⟨a, fun u hu q => ?_⟩
      have q := (eat_c (hlt u (by omega))).mpr q
      by_cases hut : u = t
      · subst hut; exact c q
      · exact b u (by omega) q
/-- nobody stands from m to u -/
theorem ein_skip {D : eT} {z : Nat → Nat} {m u : Nat} (h : ein D z m) (hmu : m ≤ u) (h1 : ∀ k, k < eg D → 1000 ≤ z (eP D k) → ∀ t, m ≤ t → t < u → ¬ eat D z (eP D k) t) : ein D z u := by
  intro k hk
  rcases h k hk with ⟨a, b, c, d⟩ | ⟨a, b⟩
  · exact Or.inl ⟨by omega, b, c, d⟩
  · refine Or.inr ⟨a, fun t ht => ?_⟩
    by_cases c : t < m
    · exact b t c
    · exact h1 k hk a t (by omega) ht
def epf (D : eT) (z : Nat → Nat) (i m : Nat) : Nat := if eK D i = 4 ∧ eoth D z i m = false then 100000 else if eK D i = 3 ∨ (eK D i = 5 ∧ 0 < ect D z m) then eF D i else eF D i + esh D z i m
theorem epf_ok {D : eT} {z : Nat → Nat} {i m t : Nat} (hz : ∀ k, k < eg D → (z (eP D k) < t ↔ z (eP D k) < m)) (ht : t < 1000) (h1 : es D i t = es D i m) (h2 : ew D i t = ew D i m) : epr D z i t ↔ epf D z i m ≤ t := by
  have e1 : ect D z t = ect D z m := ectn_c _ hz
  have e2 : eoth D z i t = eoth D z i m := eoth_c hz
  have e3 : esh D z i t = esh D z i m := by
    unfold esh
    rw [e1, h1, h2]
  unfold epr epf
  rw [e1, e2, e3]
  by_cases k3 : eK D i = 3
  · rw [if_pos k3, if_neg (by omega), if_pos (Or.inl k3)]
  · rw [if_neg k3]
    by_cases k4 : eK D i = 4
    · cases ho : eoth D z i m with
      | true =>
        rw [if_neg (by simp), if_neg (by omega)]
        constructor
        · rintro (q | q)
          · exact q.1
          · omega
        · intro q; exact Or.inl ⟨q, fun _ => rfl⟩
      | false =>
        rw [if_pos ⟨k4, rfl⟩]
        constructor
        · rintro (q | q)
          · exact absurd (q.2 k4) (by decide)
          · omega
        · intro q; omega
    · rw [if_neg (fun q => k4 q.1)]
      by_cases k5 : eK D i = 5 ∧ 0 < ect D z m
      · rw [if_pos (Or.inr k5)]
        constructor
        · rintro (q | q)
          · have := q.1; omega
          · exact q.2.1
        · intro q; exact Or.inr ⟨k5.1, q, k5.2⟩
      · rw [if_neg (by rintro (q | q); exact k3 q; exact k5 q)]
        constructor
        · rintro (q | q)
          · exact q.1
          · exact absurd ⟨q.1, q.2.2⟩ k5
        · intro q; exact Or.inl ⟨q, fun q4 => absurd q4 k4⟩
def emx (D : eT) (f : Nat → Nat) (p : Nat) : Nat → Nat
  | 0 => 0
  | n + 1 => if eP D n = p then max (emx D f p n) (f n) else emx D f p n
def emn (D : eT) (f : Nat → Nat) (p : Nat) : Nat → Nat
  | 0 => 100000
  | n + 1 => if eP D n = p ∧ eK D n = 3 then min (emn D f p n) (f n) else emn D f p n
theorem emx_le {D : eT} {f : Nat → Nat} {p t : Nat} : ∀ n, emx D f p n ≤ t ↔ ∀ i, i < n → eP D i = p → f i ≤ t
  | 0 => by simp [emx]
  | n + 1 => by
    have ih := emx_le (D := D) (f := f) (p := p) (t := t) n
    unfold emx
    by_cases c : eP D n = p
    · rw [if_pos c]
      constructor
      · intro q i hi hp
        by_cases hin : i = n
        · subst hin; omega
        · exact ih.mp (by omega) i (by omega) hp
      · intro q
        have q1 := ih.mpr (fun i hi hp => q i (by omega) hp)
        have q2 := q n (by omega) c
        omega
    · rw [if_neg c, ih]
      constructor
      · intro q i hi hp
        by_cases hin : i = n
        · subst hin; exact absurd hp c
        · exact q i (by omega) hp
      · intro q i hi hp; exact q i (by omega) hp
theorem emn_le {D : eT} {f : Nat → Nat} {p t : Nat} (ht : t < 100000) : ∀ n, emn D f p n ≤ t ↔ ∃ i, i < n ∧ eP D i = p ∧ eK D i = 3 ∧ f i ≤ t
  | 0 => by
    constructor
    · intro q
      have : emn D f p 0 = 100000 := rfl
      omega
    · rintro ⟨i, q, -⟩; omega
  | n + 1 => by
    have ih := emn_le (D := D) (f := f) (p := p) ht n
    unfold emn
    by_cases c : eP D n = p ∧ eK D n = 3
    · rw [if_pos c]
      constructor
      · intro q
        by_cases q1 : emn D f p n ≤ t
        · obtain ⟨i, a, b⟩ := ih.mp q1
          exact ⟨i, by omega, b⟩
        · exact ⟨n, by omega, c.1, c.2, by omega⟩
      · rintro ⟨i, a, b, b2, b3⟩
        by_cases hin : i = n
        · subst hin; omega
        · have := ih.mpr ⟨i, by omega, b, b2, b3⟩
          omega
    · rw [if_neg c, ih]
      constructor
      · rintro ⟨i, a, b⟩; exact ⟨i, by omega, b⟩
      · rintro ⟨i, a, b, b2, b3⟩
        by_cases hin : i = n
        · subst hin; exact absurd ⟨b, b2⟩ c
        · exact ⟨i, by omega, b, b2, b3⟩
def epp (D : eT) (z : Nat → Nat) (p m : Nat) : Nat := min (emx D (fun i => epf D z i m) p (eg D)) (emn D (fun i => epf D z i m) p (eg D))
theorem epp_ok {D : eT} {z : Nat → Nat} {p m t : Nat} (hz : ∀ k, k < eg D → (z (eP D k) < t ↔ z (eP D k) < m)) (ht : t < 1000) (h1 : ∀ i, i < eg D → es D i t = es D i m) (h2 : ∀ i, i < eg D → ew D i t = ew D i m) : eps D z p t ↔ epp D z p m ≤ t := by
  have e1 := emx_le (D := D) (f := fun i => epf D z i m) (p := p) (t := t) (eg D)
  have e2 := emn_le (D := D) (f := fun i => epf D z i m) (p := p) (t := t) (by omega) (eg D)
  have e3 : epp D z p m ≤ t ↔ emx D (fun i => epf D z i m) p (eg D) ≤ t ∨ emn D (fun i => epf D z i m) p (eg D) ≤ t := by
    unfold epp; omega
  rw [e3, e1, e2]
  unfold eps
  constructor
  · rintro (q | ⟨i, a, b, c, d⟩)
    · exact Or.inl (fun i a b => (epf_ok hz ht (h1 i a) (h2 i a)).mp (q i a b))
    · exact Or.inr ⟨i, a, b, c, (epf_ok hz ht (h1 i a) (h2 i a)).mp d⟩
  · rintro (q | ⟨i, a, b, c, d⟩)
    · exact Or.inl (fun i a b => (epf_ok hz ht (h1 i a) (h2 i a)).mpr (q i a b))
    · exact Or.inr ⟨i, a, b, c, (epf_ok hz ht (h1 i a) (h2 i a)).mpr d⟩
theorem ein_z {D : eT} {z : Nat → Nat} {m t : Nat} (h : ein D z m) (h1 : m ≤ t) (h2 : t < 1000) : ∀ k, k < eg D → (z (eP D k) < t ↔ z (eP D k) < m) := by
  intro k hk
  rcases h k hk with ⟨a, -⟩ | ⟨a, -⟩ <;> omega
/-- the class's leap, nobody stands -/
theorem ein_leap0 {D : eT} {z : Nat → Nat} {m u : Nat} (h : ein D z m) (hmu : m ≤ u) (hu : u ≤ eB D) (hB : eB D < 1000) (h1 : ∀ i, i < eg D → ∀ t, m ≤ t → t < u → es D i t = es D i m ∧ ew D i t = ew D i m) (hr : ∀ k, k < eg D → 1000 ≤ z (eP D k) → u ≤ max m (epp D z (eP D k) m)) : ein D z u := by
  refine ein_skip h hmu (fun k hk a t h2 h3 => ?_)
  rintro (q | q)
  · omega
  · have := (epp_ok (ein_z h h2 (by omega)) (by omega) (fun i hi => (h1 i hi t h2 h3).1) (fun i hi => (h1 i hi t h2 h3).2)).mp q
    have := hr k hk a
    omega
/-- the class's leap, some stand at f -/
theorem ein_leap1 {D : eT} {z z' : Nat → Nat} {m u f : Nat} (h : ein D z m) (hmf : m ≤ f) (hfu : f < u) (hu : u ≤ eB D) (hB : eB D < 1000) (h1 : ∀ i, i < eg D → ∀ t, m ≤ t → t < u → es D i t = es D i m ∧ ew D i t = ew D i m) (hr : ∀ k, k < eg D → 1000 ≤ z (eP D k) → f ≤ max m (epp D z (eP D k) m)) (h2 : ∀ k, k < eg D → 1000 ≤ z (eP D k) → max m (epp D z (eP D k) m) ≤ f → z' (eP D k) = f) (h3 : ∀ k, k < eg D → ¬ (1000 ≤ z (eP D k) ∧ max m (epp D z (eP D k) m) ≤ f) → z' (eP D k) = z (eP D k)) : ein D z' (f + 1) := by
  have hf : ein D z f := ein_leap0 h hmf (by omega) hB (fun i hi t a b => h1 i hi t a (by omega)) hr
  have key : ∀ k, k < eg D → (eat D z (eP D k) f ↔ max m (epp D z (eP D k) m) ≤ f) := by
    intro k hk
    have := epp_ok (p := eP D k) (ein_z h hmf (by omega)) (by omega) (fun i hi => (h1 i hi f hmf hfu).1) (fun i hi => (h1 i hi f hmf hfu).2)
    unfold eat
    rw [this]
    omega
  exact ein_step hf (by omega) (fun k hk a b => h2 k hk a ((key k hk).mp b)) (fun k hk a => h3 k hk (fun q => a ⟨q.1, (key k hk).mpr q.2⟩))
def eou (D : eT) (z : Nat → Nat) (t : Nat) : Prop := ∀ k, k < eg D → z (eP D k) ≤ t → z (eP D k) + eH D ≤ t
def ego (D : eT) (z : Nat → Nat) (s G : Nat) : Prop := s ≤ G ∧ eou D z G ∧ ∀ t, s ≤ t → t < G → ¬ eou D z t
theorem ego_u {D : eT} {z z' : Nat → Nat} (hz : ∀ k, k < eg D → z (eP D k) = z' (eP D k)) {s G G' : Nat} (h : ego D z s G) (h' : ego D z' s G') : G = G' := by
  have e : ∀ t, eou D z t ↔ eou D z' t := by
    intro t
    constructor
    · intro q k hk; rw [← hz k hk]; exact q k hk
    · intro q k hk; rw [hz k hk]; exact q k hk
  obtain ⟨a, b, c⟩ := h
  obtain ⟨a', b', c'⟩ := h'
  rcases Nat.lt_trichotomy G G' with q | q | q
  · exact absurd ((e G).mp b) (c' G a q)
  · exact q
  · exact absurd ((e G').mpr b') (c G' a' q)
def ev (D : eT) (z G : Nat → Nat) : Prop := efin D z ∧ ∀ k, k < eg D → ego D z (z (eP D k)) (G k)
theorem ev_u {D : eT} {z z' G G' : Nat → Nat} (h : ev D z G) (h' : ev D z' G') : ∀ k, k < eg D → z (eP D k) = z' (eP D k) ∧ G k = G' k := by
  have e := efin_u h.1 h'.1
  intro k hk
  refine ⟨e k hk, ego_u e (h.2 k hk) ?_⟩
  rw [e k hk]
  exact h'.2 k hk
theorem ego_le {D : eT} {z : Nat → Nat} {s G M : Nat} (h : ego D z s G) (hs : s ≤ M) (hz : ∀ k, k < eg D → z (eP D k) ≤ M) : G ≤ M + eH D := by
  obtain ⟨a, b, c⟩ := h
  by_cases q : G ≤ M + eH D
  · exact q
  · exact absurd (fun k hk _ => by have := hz k hk; omega) (c (M + eH D) (by omega) (by omega))
theorem ev_le {D : eT} {z G : Nat → Nat} (h : ev D z G) (hB : eB D ≤ 719) : ∀ k, k < eg D → z (eP D k) ≤ 719 ∧ G k ≤ 719 + eH D := by
  intro k hk
  have h1 : ∀ k, k < eg D → z (eP D k) ≤ 719 := fun k hk => by have := (h.1 k hk).1; omega
  exact ⟨h1 k hk, ego_le (h.2 k hk) (h1 k hk) h1⟩
end
