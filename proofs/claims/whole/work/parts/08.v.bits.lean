theorem nb_c1 {A0 R : Type} {f : (A0 → Option R) → A0 → Option R} {K : Option R → Prop} (I : Nat → A0 → Prop) (g : Nat) (hs : ∀ (ag : A0 → Option R) (j : Nat) (a0 : A0), I j a0 → K (f ag a0) ∨ (j < g ∧ ∃ b0, I (j + 1) b0 ∧ f ag a0 = ag b0)) {n : Nat} (hn : g < n) {a0 : A0} (h0 : I 0 a0) : K (nb_lp1 f n a0) := by
  have key : ∀ (d j n : Nat) (a0 : A0), g ≤ j + d → d < n → I j a0 → K (nb_lp1 f n a0) := by
    intro d
    induction d with
    | zero =>
      intro j n a0 hj hn hI
      obtain ⟨m, rfl⟩ : ∃ m, n = m + 1 := ⟨n - 1, by omega⟩
      rcases hs (nb_lp1 f m) j a0 hI with h | ⟨h, -⟩
      · exact h
      · omega
    | succ d ih =>
      intro j n a0 hj hn hI
      obtain ⟨m, rfl⟩ : ∃ m, n = m + 1 := ⟨n - 1, by omega⟩
      rcases hs (nb_lp1 f m) j a0 hI with h | ⟨h, b0, hb, e⟩
      · exact h
      · have h1 := ih (j + 1) m b0 (by omega) (by omega) hb
        rw [← e] at h1
        exact h1
  exact key g 0 n a0 (by omega) hn h0
theorem nb_c2 {A0 A1 R : Type} {f : (A0 → A1 → Option R) → A0 → A1 → Option R} {K : Option R → Prop} (I : Nat → A0 → A1 → Prop) (g : Nat) (hs : ∀ (ag : A0 → A1 → Option R) (j : Nat) (a0 : A0) (a1 : A1), I j a0 a1 → K (f ag a0 a1) ∨ (j < g ∧ ∃ b0 b1, I (j + 1) b0 b1 ∧ f ag a0 a1 = ag b0 b1)) {n : Nat} (hn : g < n) {a0 : A0} {a1 : A1} (h0 : I 0 a0 a1) : K (nb_lp2 f n a0 a1) := by
  have key : ∀ (d j n : Nat) (a0 : A0) (a1 : A1), g ≤ j + d → d < n → I j a0 a1 → K (nb_lp2 f n a0 a1) := by
    intro d
    induction d with
    | zero =>
      intro j n a0 a1 hj hn hI
      obtain ⟨m, rfl⟩ : ∃ m, n = m + 1 := ⟨n - 1, by omega⟩
      rcases hs (nb_lp2 f m) j a0 a1 hI with h | ⟨h, -⟩
      · exact h
      · omega
    | succ d ih =>
      intro j n a0 a1 hj hn hI
      obtain ⟨m, rfl⟩ : ∃ m, n = m + 1 := ⟨n - 1, by omega⟩
      rcases hs (nb_lp2 f m) j a0 a1 hI with h | ⟨h, b0, b1, hb, e⟩
      · exact h
      · have h1 := ih (j + 1) m b0 b1 (by omega) (by omega) hb
        rw [← e] at h1
        exact h1
  exact key g 0 n a0 a1 (by omega) hn h0
theorem nb_c3 {A0 A1 A2 R : Type} {f : (A0 → A1 → A2 → Option R) → A0 → A1 → A2 → Option R} {K : Option R → Prop} (I : Nat → A0 → A1 → A2 → Prop) (g : Nat) (hs : ∀ (ag : A0 → A1 → A2 → Option R) (j : Nat) (a0 : A0) (a1 : A1) (a2 : A2), I j a0 a1 a2 → K (f ag a0 a1 a2) ∨ (j < g ∧ ∃ b0 b1 b2, I (j + 1) b0 b1 b2 ∧ f ag a0 a1 a2 = ag b0 b1 b2)) {n : Nat} (hn : g < n) {a0 : A0} {a1 : A1} {a2 : A2} (h0 : I 0 a0 a1 a2) : K (nb_lp3 f n a0 a1 a2) := by
  have key : ∀ (d j n : Nat) (a0 : A0) (a1 : A1) (a2 : A2), g ≤ j + d → d < n → I j a0 a1 a2 → K (nb_lp3 f n a0 a1 a2) := by
    intro d
    induction d with
    | zero =>
      intro j n a0 a1 a2 hj hn hI
      obtain ⟨m, rfl⟩ : ∃ m, n = m + 1 := ⟨n - 1, by omega⟩
      rcases hs (nb_lp3 f m) j a0 a1 a2 hI with h | ⟨h, -⟩
      · exact h
      · omega
    | succ d ih =>
      intro j n a0 a1 a2 hj hn hI
      obtain ⟨m, rfl⟩ : ∃ m, n = m + 1 := ⟨n - 1, by omega⟩
      rcases hs (nb_lp3 f m) j a0 a1 a2 hI with h | ⟨h, b0, b1, b2, hb, e⟩
      · exact h
      · have h1 := ih (j + 1) m b0 b1 b2 (by omega) (by omega) hb
        rw [← e] at h1
        exact h1
  exact key g 0 n a0 a1 a2 (by omega) hn h0
theorem nb_c4 {A0 A1 A2 A3 R : Type} {f : (A0 → A1 → A2 → A3 → Option R) → A0 → A1 → A2 → A3 → Option R} {K : Option R → Prop} (I : Nat → A0 → A1 → A2 → A3 → Prop) (g : Nat) (hs : ∀ (ag : A0 → A1 → A2 → A3 → Option R) (j : Nat) (a0 : A0) (a1 : A1) (a2 : A2) (a3 : A3), I j a0 a1 a2 a3 → K (f ag a0 a1 a2 a3) ∨ (j < g ∧ ∃ b0 b1 b2 b3, I (j + 1) b0 b1 b2 b3 ∧ f ag a0 a1 a2 a3 = ag b0 b1 b2 b3)) {n : Nat} (hn : g < n) {a0 : A0} {a1 : A1} {a2 : A2} {a3 : A3} (h0 : I 0 a0 a1 a2 a3) : K (nb_lp4 f n a0 a1 a2 a3) := by
  have key : ∀ (d j n : Nat) (a0 : A0) (a1 : A1) (a2 : A2) (a3 : A3), g ≤ j + d → d < n → I j a0 a1 a2 a3 → K (nb_lp4 f n a0 a1 a2 a3) := by
    intro d
    induction d with
    | zero =>
      intro j n a0 a1 a2 a3 hj hn hI
      obtain ⟨m, rfl⟩ : ∃ m, n = m + 1 := ⟨n - 1, by omega⟩
      rcases hs (nb_lp4 f m) j a0 a1 a2 a3 hI with h | ⟨h, -⟩
      · exact h
      · omega
    | succ d ih =>
      intro j n a0 a1 a2 a3 hj hn hI
      obtain ⟨m, rfl⟩ : ∃ m, n = m + 1 := ⟨n - 1, by omega⟩
      rcases hs (nb_lp4 f m) j a0 a1 a2 a3 hI with h | ⟨h, b0, b1, b2, b3, hb, e⟩
      · exact h
      · have h1 := ih (j + 1) m b0 b1 b2 b3 (by omega) (by omega) hb
        rw [← e] at h1
        exact h1
  exact key g 0 n a0 a1 a2 a3 (by omega) hn h0

section
def bm4 (a b c d : Bool) : Int32 := (if a then 1 else 0) + (if b then 2 else 0) + (if c then 4 else 0) + (if d then 8 else 0)
def bsel (a b c d : Bool) : Nat → Bool
  | 0 => a
  | 1 => b
  | 2 => c
  | _ => d
theorem bsel_f {f : Nat → Bool} {p : Nat} (h : p < 4) : bsel (f 0) (f 1) (f 2) (f 3) p = f p := by
  match p, h with
  | 0, _ => rfl
  | 1, _ => rfl
  | 2, _ => rfl
  | 3, _ => rfl
  | p + 4, h => exact absurd h (by omega)
def bm (f : Nat → Bool) : Int32 := bm4 (f 0) (f 1) (f 2) (f 3)
theorem bm4_or : ∀ (a b c d : Bool) (p : Nat), p < 4 → bm4 a b c d ||| (nI 1 <<< (nI p &&& 31)) = bm4 (a || p == 0) (b || p == 1) (c || p == 2) (d || p == 3) := by
  intro a b c d
  revert a b c d
  decide +kernel
theorem bm_or {f : Nat → Bool} {p : Nat} (h : p < 4) : bm f ||| (nI 1 <<< (nI p &&& 31)) = bm (fun q => f q || p == q) := bm4_or _ _ _ _ p h
theorem bm4_sit : ∀ (a b c d a' b' c' d' : Bool) (p : Nat), p < 4 → (((((bm4 a b c d &&& (bm4 a' b' c' d' ^^^ (-1))) >>> (nI p &&& 31)) &&& 1) = 1) ↔ (bsel a b c d p = true ∧ bsel a' b' c' d' p = false)) := by decide +kernel
theorem bm_sit {f h : Nat → Bool} {p : Nat} (hp : p < 4) : ((((bm f &&& (bm h ^^^ (-1))) >>> (nI p &&& 31)) &&& 1) = 1) ↔ (f p = true ∧ h p = false) := by
  have := bm4_sit (f 0) (f 1) (f 2) (f 3) (h 0) (h 1) (h 2) (h 3) p hp
  rw [bsel_f hp, bsel_f hp] at this
  exact this
theorem bm4_oth : ∀ (a b c d a' b' c' d' : Bool) (p : Nat), p < 4 → ((((bm4 a b c d &&& (bm4 a' b' c' d' ^^^ (-1))) &&& (((1 : Int32) <<< (nI p &&& 31)) ^^^ (-1))) = 0) ↔ (∀ q, q < 4 → q = p ∨ bsel a b c d q = false ∨ bsel a' b' c' d' q = true)) := by decide +kernel
theorem bm_oth {f h : Nat → Bool} {p : Nat} (hp : p < 4) : (((bm f &&& (bm h ^^^ (-1))) &&& (((1 : Int32) <<< (nI p &&& 31)) ^^^ (-1))) = 0) ↔ ∀ q, q < 4 → q = p ∨ f q = false ∨ h q = true := by
  have := bm4_oth (f 0) (f 1) (f 2) (f 3) (h 0) (h 1) (h 2) (h 3) p hp
  unfold bm
  rw [this]
  constructor
  · intro x q hq
    have := x q hq
    rw [bsel_f hq, bsel_f hq] at this
    exact this
  · intro x q hq
    rw [bsel_f hq, bsel_f hq]
    exact x q hq
theorem bm4_zero : ∀ (a b c d : Bool), (bm4 a b c d = 0) ↔ ∀ q, q < 4 → bsel a b c d q = false := by decide +kernel
theorem bm_zero {f : Nat → Bool} : bm f = 0 ↔ ∀ q, q < 4 → f q = false := by
  unfold bm
  rw [bm4_zero]
  constructor
  · intro x q hq; rw [← bsel_f (f := f) hq]; exact x q hq
  · intro x q hq; rw [bsel_f hq]; exact x q hq
theorem bm4_eq : ∀ (a b c d a' b' c' d' : Bool), (bm4 a b c d = bm4 a' b' c' d') ↔ ∀ q, q < 4 → bsel a b c d q = bsel a' b' c' d' q := by decide +kernel
theorem bm_eq {f h : Nat → Bool} : bm f = bm h ↔ ∀ q, q < 4 → f q = h q := by
  unfold bm
  rw [bm4_eq]
  constructor
  · intro x q hq; rw [← bsel_f (f := f) hq, ← bsel_f (f := h) hq]; exact x q hq
  · intro x q hq; rw [bsel_f hq, bsel_f hq]; exact x q hq
theorem bm4_has : ∀ (a b c d : Bool) (p : Nat), p < 4 → ((((bm4 a b c d) >>> (nI p &&& 31)) &&& 1) = 1 ↔ bsel a b c d p = true) := by decide +kernel
theorem bm_has {f : Nat → Bool} {p : Nat} (hp : p < 4) : (((bm f) >>> (nI p &&& 31)) &&& 1) = 1 ↔ f p = true := by
  have := bm4_has (f 0) (f 1) (f 2) (f 3) p hp
  rw [bsel_f hp] at this
  exact this
def hb8 (a b c d a' b' c' d' : Bool) : Int32 := (if a then 1 else 0) + (if b then 2 else 0) + (if c then 4 else 0) + (if d then 8 else 0) + ((if a' then 16 else 0) + (if b' then 32 else 0) + (if c' then 64 else 0) + (if d' then 128 else 0))
def hsel (a b c d a' b' c' d' : Bool) : Nat → Bool
  | 0 => a
  | 1 => b
  | 2 => c
  | 3 => d
  | 4 => a'
  | 5 => b'
  | 6 => c'
  | _ => d'
theorem hsel_f {f : Nat → Bool} {p : Nat} (h : p < 8) : hsel (f 0) (f 1) (f 2) (f 3) (f 4) (f 5) (f 6) (f 7) p = f p := by
  match p, h with
  | 0, _ => rfl
  | 1, _ => rfl
  | 2, _ => rfl
  | 3, _ => rfl
  | 4, _ => rfl
  | 5, _ => rfl
  | 6, _ => rfl
  | 7, _ => rfl
  | p + 8, h => exact absurd h (by omega)
def hb (f : Nat → Bool) : Int32 := hb8 (f 0) (f 1) (f 2) (f 3) (f 4) (f 5) (f 6) (f 7)
theorem hb8_or : ∀ (a b c d a' b' c' d' : Bool) (p : Nat), p < 8 → hb8 a b c d a' b' c' d' ||| (nI 1 <<< (nI p &&& 31)) = hb8 (a || p == 0) (b || p == 1) (c || p == 2) (d || p == 3) (a' || p == 4) (b' || p == 5) (c' || p == 6) (d' || p == 7) := by decide +kernel
theorem hb_or {f : Nat → Bool} {p : Nat} (h : p < 8) : hb f ||| (nI 1 <<< (nI p &&& 31)) = hb (fun q => f q || p == q) := hb8_or _ _ _ _ _ _ _ _ p h
theorem hb8_has : ∀ (a b c d a' b' c' d' : Bool) (p : Nat), p < 8 → ((((hb8 a b c d a' b' c' d') >>> (nI p &&& 31)) &&& nI 1) = nI 1 ↔ hsel a b c d a' b' c' d' p = true) := by decide +kernel
theorem hb_has {f : Nat → Bool} {p : Nat} (hp : p < 8) : (((hb f) >>> (nI p &&& 31)) &&& nI 1) = nI 1 ↔ f p = true := by
  have := hb8_has (f 0) (f 1) (f 2) (f 3) (f 4) (f 5) (f 6) (f 7) p hp
  rw [hsel_f hp] at this
  exact this
theorem hb_all : hb (fun _ => true) = nI 255 := by decide +kernel
theorem hb_none : hb (fun _ => false) = nI 0 := by decide +kernel
theorem bm_none : bm (fun _ => false) = nI 0 := by decide +kernel
def hpn (P : Nat → Nat) : Nat → Nat → Bool
  | 0 => fun _ => false
  | n + 1 => fun p => hpn P n p || P n == p
theorem hpn_t {P : Nat → Nat} {p : Nat} : ∀ n, hpn P n p = true ↔ ∃ k, k < n ∧ P k = p
  | 0 => by
    constructor
    · intro h; cases h
    · rintro ⟨k, h, -⟩; omega
  | n + 1 => by
    have ih := hpn_t (P := P) (p := p) n
    show (hpn P n p || P n == p) = true ↔ _
    rw [Bool.or_eq_true, ih, beq_iff_eq]
    constructor
    · rintro (⟨k, a, b⟩ | b)
      · exact ⟨k, by omega, b⟩
      · exact ⟨n, by omega, b⟩
    · rintro ⟨k, a, b⟩
      by_cases hk : k = n
      · subst hk; exact Or.inr b
      · exact Or.inl ⟨k, by omega, b⟩
theorem hpn_s {P : Nat → Nat} {n : Nat} (h : P n < 4) : bm (hpn P n) ||| (nI 1 <<< (nI (P n) &&& 31)) = bm (hpn P (n + 1)) := bm_or h
def hsn (P z : Nat → Nat) (m : Nat) : Nat → Nat → Bool
  | 0 => fun _ => false
  | n + 1 => if z (P n) < m then fun p => hsn P z m n p || P n == p else hsn P z m n
theorem hsn_t {P z : Nat → Nat} {m p : Nat} : ∀ n, hsn P z m n p = true ↔ ∃ k, k < n ∧ P k = p ∧ z p < m
  | 0 => by
    constructor
    · intro h; cases h
    · rintro ⟨k, h, -⟩; omega
  | n + 1 => by
    have ih := hsn_t (P := P) (z := z) (m := m) (p := p) n
    unfold hsn
    by_cases c : z (P n) < m
    · rw [if_pos c]
      show (hsn P z m n p || P n == p) = true ↔ _
      rw [Bool.or_eq_true, ih, beq_iff_eq]
      constructor
      · rintro (⟨k, a, b⟩ | b)
        · exact ⟨k, by omega, b⟩
        · exact ⟨n, by omega, b, by rw [← b]; exact c⟩
      · rintro ⟨k, a, b, b2⟩
        by_cases hk : k = n
        · subst hk; exact Or.inr b
        · exact Or.inl ⟨k, by omega, b, b2⟩
    · rw [if_neg c, ih]
      constructor
      · rintro ⟨k, a, b⟩; exact ⟨k, by omega, b⟩
      · rintro ⟨k, a, b, b2⟩
        by_cases hk : k = n
        · subst hk; rw [b] at c; exact absurd b2 c
        · exact ⟨k, by omega, b, b2⟩
theorem hsn_c {P z : Nat → Nat} {m m' : Nat} (n : Nat) (h : ∀ k, k < n → (z (P k) < m ↔ z (P k) < m')) : bm (hsn P z m n) = bm (hsn P z m' n) := by
  apply bm_eq.mpr
  intro q _
  have : hsn P z m n q = true ↔ hsn P z m' n q = true := by
    rw [hsn_t, hsn_t]
    constructor
    · rintro ⟨k, a, b, c⟩; exact ⟨k, a, b, by rw [← b] at c ⊢; exact (h k a).mp c⟩
    · rintro ⟨k, a, b, c⟩; exact ⟨k, a, b, by rw [← b] at c ⊢; exact (h k a).mpr c⟩
  cases a : hsn P z m n q <;> cases b : hsn P z m' n q <;> simp_all
theorem pu_maxN {a b : Nat} (ha : a < 2 ^ 31) (hb : b < 2 ^ 31) : nb_max (nI a) (nI b) = nI (max a b) := by
  unfold nb_max
  by_cases h : a < b
  · rw [if_pos (nI_lt h hb), Nat.max_eq_right (by omega)]
  · rw [if_neg (nI_nlt (by omega) ha), Nat.max_eq_left (by omega)]
theorem pu_minN {a b : Nat} (ha : a < 2 ^ 31) (hb : b < 2 ^ 31) : nb_min (nI a) (nI b) = nI (min a b) := by
  unfold nb_min
  by_cases h : b < a
  · rw [if_pos (nI_lt h ha), Nat.min_eq_right (by omega)]
  · rw [if_neg (nI_nlt (by omega) hb), Nat.min_eq_left (by omega)]
theorem pu_maxS {a b : Nat} (ha : a < 2 ^ 30) (hb : b < 2 ^ 30) : nb_max (nI a - nI b) (nI 0) = nI (a - b) := by
  by_cases h : b ≤ a
  · rw [pk_sub h, pu_maxN (by omega) (by omega), Nat.max_eq_left (by omega)]
  · unfold nb_max
    rw [if_pos (show nI a - nI b < nI 0 from pk_sneg hb (by omega)), show a - b = 0 by omega]
theorem pu_subsub {a b c : Nat} : nI a - nI b - nI c = nI a - nI (b + c) := by
  rw [← nI_add]
  generalize nI a = x
  generalize nI b = y
  generalize nI c = w
  rw [Int32.sub_eq_add_neg, Int32.sub_eq_add_neg, Int32.sub_eq_add_neg, Int32.neg_add, Int32.add_assoc, Int32.sub_eq_add_neg]
end
