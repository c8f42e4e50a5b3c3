/-! A system's state as numbers: cell k of the world, its slot (or place) j. A world is a list of shapes. -/
abbrev nb_St : Type := Nat → Nat → Int32
def nb_st (σ : nb_St) (k j : Nat) (v : Int32) : nb_St := fun a b => if a = k ∧ b = j then v else σ a b
def nb_sa (σ : nb_St) (k : Nat) (f : Nat → Int32) : nb_St := fun a => if a = k then f else σ a
theorem nb_st_s {σ : nb_St} {k j : Nat} {v : Int32} : nb_st σ k j v k j = v := by simp [nb_st]
theorem nb_st_n {σ : nb_St} {k j a b : Nat} {v : Int32} (h : a ≠ k ∨ b ≠ j) : nb_st σ k j v a b = σ a b := by
  unfold nb_st
  rw [if_neg]
  rintro ⟨h1, h2⟩
  rcases h with h | h
  · exact h h1
  · exact h h2
theorem nb_st_k {σ : nb_St} {k j a : Nat} {v : Int32} (h : a ≠ k) : nb_st σ k j v a = σ a := by
  funext b
  exact nb_st_n (Or.inl h)
theorem nb_st_u {σ : nb_St} {k j : Nat} {v : Int32} : nb_st σ k j v k = upd (σ k) j v := by
  funext b
  simp [nb_st, upd]
theorem nb_sa_s {σ : nb_St} {k : Nat} {f : Nat → Int32} : nb_sa σ k f k = f := by simp [nb_sa]
theorem nb_sa_n {σ : nb_St} {k a : Nat} {f : Nat → Int32} (h : a ≠ k) : nb_sa σ k f a = σ a := by simp [nb_sa, h]
def nb_let {α β : Type} (x : α) (f : α → β) : β := f x
theorem nb_let_e {α β : Type} {x : α} {f : α → β} {y : β} (h : nb_let x f = y) : ∃ z, z = x ∧ f z = y := ⟨x, rfl, h⟩
def nb_g {R : Type} (b : Bool) (k : Option R) : Option R := if b = true then k else none
theorem nb_g_e {R : Type} {b : Bool} {k : Option R} {r : R} (h : nb_g b k = some r) : b = true ∧ k = some r := by
  unfold nb_g at h
  split at h
  · exact ⟨by assumption, h⟩
  · cases h
theorem nb_g_t {R : Type} {b : Bool} {k : Option R} (h : b = true) : nb_g b k = k := by unfold nb_g; rw [if_pos h]
/-- a call that may not come back is none -/
def nb_b {A R : Type} (x : Option A) (f : A → Option R) : Option R := match x with
  | none => none
  | some a => f a
theorem nb_b_e {A R : Type} {x : Option A} {f : A → Option R} {r : R} (h : nb_b x f = some r) : ∃ a, x = some a ∧ f a = some r := by
  cases x with
  | none => cases h
  | some a => exact ⟨a, rfl, h⟩
def nb_b2 {A B R : Type} (x : Option (A × B)) (f : A → B → Option R) : Option R := match x with
  | none => none
  | some a => f a.1 a.2
theorem nb_b2_e {A B R : Type} {x : Option (A × B)} {f : A → B → Option R} {r : R} (h : nb_b2 x f = some r) : ∃ a b, x = some (a, b) ∧ f a b = some r := by
  cases x with
  | none => cases h
  | some a => exact ⟨a.1, a.2, rfl, h⟩
theorem nb_b_s {A R : Type} {x : Option A} {a : A} {f : A → Option R} (h : x = some a) : nb_b x f = f a := by subst h; rfl
theorem nb_b2_s {A B R : Type} {x : Option (A × B)} {a : A} {b : B} {f : A → B → Option R} (h : x = some (a, b)) : nb_b2 x f = f a b := by subst h; rfl
def nb_in (i : Int32) (n : Nat) : Bool := decide (0 ≤ i.toInt ∧ i.toInt < n)
theorem nb_in_v {i : Int32} {n : Nat} (h : nb_in i n = true) : vp_in i n := vp_in_iff.mpr (of_decide_eq_true h)
abbrev nb_ix (i : Int32) : Nat := i.toNatClampNeg
def nb_rem (x y : Int32) : Int32 := x - x / y * y
def nb_lrem (x y : Int64) : Int64 := x - x / y * y
def nb_max (x y : Int32) : Int32 := if x < y then y else x
abbrev nb_K : Type := Option (Option Nat)
abbrev nb_S : Type := (Nat × Nat) ⊕ (Nat × List nb_K)
def nb_fv (ad : Nat → Nat) (σ : nb_St) (k j : Nat) (f : nb_K) : Value := match f with
  | none => .int (σ k j)
  | some none => .ref (ad (σ k j).toNatClampNeg)
  | some (some q) => .ref (ad q)
def nb_fs (ad : Nat → Nat) (σ : nb_St) (k : Nat) : Nat → List nb_K → List Value
  | _, [] => []
  | j, f :: fs => nb_fv ad σ k j f :: nb_fs ad σ k (j + 1) fs
theorem nb_fs_get {ad : Nat → Nat} {σ : nb_St} {k : Nat} : ∀ (fl : List nb_K) (j i : Nat), (nb_fs ad σ k j fl)[i]? = (fl[i]?).map (nb_fv ad σ k (j + i))
  | [], j, i => by simp [nb_fs]
  | f :: fs, j, 0 => by simp [nb_fs]
  | f :: fs, j, i + 1 => by
    rw [nb_fs, List.getElem?_cons_succ, List.getElem?_cons_succ, nb_fs_get fs (j + 1) i]
    rw [show j + 1 + i = j + (i + 1) by omega]
theorem nb_fs_len {ad : Nat → Nat} {σ : nb_St} {k : Nat} : ∀ (fl : List nb_K) (j : Nat), (nb_fs ad σ k j fl).length = fl.length
  | [], j => rfl
  | f :: fs, j => by rw [nb_fs, List.length_cons, List.length_cons, nb_fs_len fs (j + 1)]
def nb_ce (ad : Nat → Nat) (cA : Nat → ClassId) (σ : nb_St) (k : Nat) (s : nb_S) : Nat × va_E := match s with
  | .inl x => (ad k, .inl (cA x.1, x.2, .inl (σ k)))
  | .inr y => (ad k, .inr (y.1, nb_fs ad σ k 0 y.2))
def nb_cg (ad : Nat → Nat) (cA : Nat → ClassId) (σ : nb_St) : Nat → List nb_S → va_W
  | _, [] => []
  | k, s :: t => nb_ce ad cA σ k s :: nb_cg ad cA σ (k + 1) t
def nb_cs (sh : List nb_S) (ad : Nat → Nat) (cA : Nat → ClassId) (σ : nb_St) : va_W := nb_cg ad cA σ 0 sh
theorem nb_cg_get {ad : Nat → Nat} {cA : Nat → ClassId} {σ : nb_St} : ∀ (sh : List nb_S) (j i : Nat), (nb_cg ad cA σ j sh)[i]? = (sh[i]?).map (nb_ce ad cA σ (j + i))
  | [], j, i => by simp [nb_cg]
  | s :: t, j, 0 => by simp [nb_cg]
  | s :: t, j, i + 1 => by
    rw [nb_cg, List.getElem?_cons_succ, List.getElem?_cons_succ, nb_cg_get t (j + 1) i]
    rw [show j + 1 + i = j + (i + 1) by omega]
theorem nb_cs_at {sh : List nb_S} {ad : Nat → Nat} {cA : Nat → ClassId} {σ : nb_St} {k : Nat} : (nb_cs sh ad cA σ)[k]? = (sh[k]?).map (nb_ce ad cA σ k) := by
  unfold nb_cs
  rw [nb_cg_get, Nat.zero_add]
theorem nb_cs_get {sh : List nb_S} {ad : Nat → Nat} {cA : Nat → ClassId} {σ : nb_St} {k : Nat} {s : nb_S} (h : sh[k]? = some s) : (nb_cs sh ad cA σ)[k]? = some (nb_ce ad cA σ k s) := by
  rw [nb_cs_at, h]
  rfl
theorem nb_cs_of {sh : List nb_S} {ad : Nat → Nat} {cA : Nat → ClassId} {σ : nb_St} {k : Nat} {q : Nat × va_E} (h : (nb_cs sh ad cA σ)[k]? = some q) : ∃ s, sh[k]? = some s ∧ q = nb_ce ad cA σ k s := by
  rw [nb_cs_at] at h
  cases hs : sh[k]? with
  | none => rw [hs] at h; cases h
  | some s => rw [hs] at h; exact ⟨s, rfl, (Option.some.inj h).symm⟩
theorem nb_ce_ad {ad : Nat → Nat} {cA : Nat → ClassId} {σ : nb_St} {k : Nat} {s : nb_S} : (nb_ce ad cA σ k s).1 = ad k := by
  cases s <;> rfl
theorem nb_ce_of {ad : Nat → Nat} {cA : Nat → ClassId} {σ σ' : nb_St} {k : Nat} {s : nb_S} (h : σ' k = σ k) : nb_ce ad cA σ' k s = nb_ce ad cA σ k s := by
  cases s with
  | inl x => simp only [nb_ce, h]
  | inr y =>
    have key : ∀ (fl : List nb_K) (j : Nat), nb_fs ad σ' k j fl = nb_fs ad σ k j fl := by
      intro fl
      induction fl with
      | nil => intro j; rfl
      | cons f fl ih =>
        intro j
        rw [nb_fs, nb_fs, ih]
        congr 1
        cases f with
        | none => simp only [nb_fv, h]
        | some f => cases f <;> simp only [nb_fv, h]
    simp only [nb_ce, key]
theorem nb_cs_set {sh : List nb_S} {ad : Nat → Nat} {cA : Nat → ClassId} {σ σ' : nb_St} {k : Nat} {s : nb_S} {e : Nat × va_E} (hs : sh[k]? = some s) (hk : ∀ j, j ≠ k → σ' j = σ j) (he : nb_ce ad cA σ' k s = e) : (nb_cs sh ad cA σ).set k e = nb_cs sh ad cA σ' := by
  apply List.ext_getElem?
  intro i
  by_cases hi : i = k
  · subst hi
    rw [nb_cs_get hs, he, List.getElem?_set_self]
    exact (List.getElem?_eq_some_iff.mp (nb_cs_get (ad := ad) (cA := cA) (σ := σ) hs)).1
  · rw [List.getElem?_set_ne (Ne.symm hi)]
    rw [nb_cs_at, nb_cs_at]
    cases sh[i]? with
    | none => rfl
    | some t => simp only [Option.map_some, nb_ce_of (hk i hi)]
def nb_A (sh : List nb_S) (ad : Nat → Nat) : Nat → Prop := fun q => ∃ k, k < sh.length ∧ q = ad k
def nb_inj (sh : List nb_S) (ad : Nat → Nat) : Prop := ∀ i j, i < sh.length → j < sh.length → ad i = ad j → i = j
theorem nb_D {sh : List nb_S} {ad : Nat → Nat} {cA : Nat → ClassId} {σ : nb_St} (h : nb_inj sh ad) : va_D (nb_A sh ad) (nb_cs sh ad cA σ) := by
  refine ⟨fun i j p q hp hq e => ?_, fun k q hq => ?_⟩
  · obtain ⟨s, hs, rfl⟩ := nb_cs_of hp
    obtain ⟨t, ht, rfl⟩ := nb_cs_of hq
    rw [nb_ce_ad, nb_ce_ad] at e
    exact h i j (List.getElem?_eq_some_iff.mp hs).1 (List.getElem?_eq_some_iff.mp ht).1 e
  · obtain ⟨s, hs, rfl⟩ := nb_cs_of hq
    exact ⟨k, (List.getElem?_eq_some_iff.mp hs).1, nb_ce_ad⟩
abbrev nb_G : Type := va_G × (Nat → Nat) × (Nat → ClassId)
def nb_ty (cA : Nat → ClassId) : List (ClassId × FieldType) := [(cA 0, .int), (cA 1, .byte), (cA 2, .boolean)]
def nb_Zok (A : Nat → Prop) (Z : State → Heap → Prop) : Prop := (∀ (u U : State) (H : Heap), u.WarmedH U.vm → Z u H → Z U H) ∧ (∀ (u U : State) (H : Heap), u.vm = U.vm → Z u H → Z U H) ∧ ∀ (U : State) (H H1 : Heap), (∀ a : Nat, a < H.size → ¬ A a → H1[a]? = H[a]?) → Z U H → Z U H1
def nb_Wp (G : nb_G) (sh : List nb_S) (Z : State → Heap → Prop) (σ : nb_St) (U : State) : Prop := va_P G.1 vwCl (nb_cs sh G.2.1 G.2.2 σ) U.heap ∧ va_K G.1 vwCl (nb_ty G.2.2) U ∧ Z U U.heap
def nb_W (G : nb_G) (sh : List nb_S) (H0 : Heap) (σ : nb_St) (H : Heap) (locs : List Loc) : Prop := va_P G.1 vwCl (nb_cs sh G.2.1 G.2.2 σ) H ∧ va_S (nb_A sh G.2.1) H0 H locs
def nb_Pc (G : nb_G) (sh : List nb_S) (Z : State → Heap → Prop) (σ : nb_St) (av : List Value) : Array Value → State → Prop := va_Pc av (nb_Wp G sh Z σ)
def nb_Qi (G : nb_G) (sh : List nb_S) (Z : State → Heap → Prop) (r : Int32) (σ : nb_St) : Array Value → State → Outcome → State → Prop := va_Qi (fun r' (_ : Unit) => r' = r) (fun _ t => nb_Wp G sh Z σ t) (nb_A sh G.2.1)
def nb_Ql (G : nb_G) (sh : List nb_S) (Z : State → Heap → Prop) (r : Int64) (σ : nb_St) : Array Value → State → Outcome → State → Prop := va_Ql (fun r' (_ : Unit) => r' = r) (fun _ t => nb_Wp G sh Z σ t) (nb_A sh G.2.1)
def nb_Qv (G : nb_G) (sh : List nb_S) (Z : State → Heap → Prop) (σ : nb_St) : Array Value → State → Outcome → State → Prop := va_Qv (fun (_ : Unit) => True) (fun _ t => nb_Wp G sh Z σ t) (nb_A sh G.2.1)
def nb_Qr (G : nb_G) (sh : List nb_S) (Z : State → Heap → Prop) (r : Nat) (σ : nb_St) : Array Value → State → Outcome → State → Prop := va_Qr (fun (_ : Unit) => True) (fun _ a t => a = G.2.1 r ∧ nb_Wp G sh Z σ t) (nb_A sh G.2.1)
theorem nb_blind {G : nb_G} {sh : List nb_S} {Z : State → Heap → Prop} {σ : nb_St} {av : List Value} (hZo : nb_Zok (nb_A sh G.2.1) Z) : FrameBlind (nb_Pc G sh Z σ av) := by
  intro a U g mk h
  obtain ⟨h0, h1, h2, h3⟩ := h
  exact ⟨h0, h1, va_K.moved (u := U) (U := U.calling g mk a) (Vm.Alike.refl U.vm) h2, hZo.2.1 U (U.calling g mk a) U.heap rfl h3⟩
theorem nb_ofWF {l : Launch} {y : MethodName} {ws ws' : List Cond} {rm : Room} {Pc : Array Value → State → Prop} {Qc : Array Value → State → Outcome → State → Prop} {mc ms : Nat} {free : Addr → Prop} {cc : ByteArray} {maxL : Nat} {ret : Option FieldType}
    (hy : plainFor y = true) (hw : ws = Cond.code y cc maxL ret :: ws')
    (body : ∀ p e s m args below meth c s₁, BodyLoose p l y (headSpec ws rm) cc maxL ret e s m args below meth c s₁ → c.maxLocals = maxL → Pc args s →
      W p l e (headSpec ws rm).room s m args below meth c s.heap [] 0 0 (MQ below Qc args s mc ms free) (entryFrame m args maxL)) : Met l y ws rm Pc Qc mc ms free := by
  refine MetFree.of_bodySF (code := cc) (maxLocals := maxL) (ret := ret) hy ?_ ?_
  · intro args s m h hn
    obtain ⟨meth, c, h1, h2, h3, h4, h5, h6, -, -⟩ := Cond.code_spec hn (atoms_spec (ws := ws) h _ (by rw [hw]; exact List.mem_cons_self))
    exact ⟨meth, c, h1, h2, h3, h4, h5, h6⟩
  · intro p e s m args below meth c s₁ B hml hP _
    have hh0 : s₁.heap = s.heap := by rw [B.state]; rfl
    obtain ⟨t, a1, o, b1, b2, b3⟩ := body p e s m args below meth c s₁ B hml hP s₁ hh0 (Stand.of_body B)
    exact ⟨t, o, a1, b1, b2, ⟨b3.1, b3.2⟩⟩
section NBR
variable {p : Program} {l : Launch} {e : Env} {R : Room} {s : State} {m : MethodId} {args : Array Value} {below : List Frame} {meth : Method} {c : Code} {H H0 : Heap} {locs : List Loc} {cells slots : Nat} {Q : State → Prop} {cc : ByteArray} {pc : Nat} {ls : Array Slot} {rest : List Value} {G : nb_G} {sh : List nb_S} {Z : State → Heap → Prop} {σ σ' : nb_St}
theorem nb_fs_set {ad : Nat → Nat} {k j : Nat} {f : nb_K} {x : Int32} {v : Value} {fl : List nb_K} (hf : fl[j]? = some f) (hv : nb_fv ad (nb_st σ k j x) k j f = v) : nb_fs ad (nb_st σ k j x) k 0 fl = (nb_fs ad σ k 0 fl).set j v := by
  have hj : j < fl.length := (List.getElem?_eq_some_iff.mp hf).1
  apply List.ext_getElem?
  intro i
  by_cases hi : i = j
  · subst hi
    rw [nb_fs_get, hf, List.getElem?_set_self (by rw [nb_fs_len]; exact hj)]
    simp only [Option.map_some, Nat.zero_add, hv]
  · rw [List.getElem?_set_ne (Ne.symm hi), nb_fs_get, nb_fs_get]
    cases fl[i]? with
    | none => rfl
    | some g =>
      simp only [Option.map_some, Nat.zero_add]
      cases g with
      | none => simp only [nb_fv, nb_st_n (Or.inr hi)]
      | some g => cases g <;> simp only [nb_fv, nb_st_n (Or.inr hi)]

theorem nb_get (hx : p.tables.exec = Jvm.exec) (hb : c.code = cc) {own ref C : String} {T : u_T} {N ci index : Nat} {Ts : List Cond} (hts : ∀ w ∈ Ts, w.before args s = true) (hin : ∀ w ∈ u_ws C T N, w ∈ Ts) (hown : s.vm.findClass own = some m.cls) (hK : va_K G.1 vwCl (nb_ty G.2.2) s) (hW : nb_W G sh H0 σ H locs) (k : Nat) {fl : List nb_K} (hs : sh[k]? = some (.inr (ci, fl))) (hc : vwCl[ci]? = some (C, T, N)) (j : Nat) (hj : j < N) (hlink : (Cond.fieldLink own index ref (T j).2.1 (T j).2.2.1).before args s = true) (hsame : ∀ x, s.fieldFound? (T j).1 (T j).2.1 (T j).2.2.1 = some x → s.fieldFound? ref (T j).2.1 (T j).2.2.1 = some x) {f : nb_K} (hf : fl[j]? = some f) {v : Value} (hv : nb_fv G.2.1 σ k j f = v) (hdg : decode cc pc = .ok (.getfield index, 3))
    (kk : W p l e R s m args below meth c H locs cells slots Q (F0 m (pc + 3) ls (v :: rest))) : W p l e R s m args below meth c H locs cells slots Q (F0 m pc ls (.ref (G.2.1 k) :: rest)) :=
  va_get hx hb hts hin hown hK hW.1 k (show (nb_cs sh G.2.1 G.2.2 σ)[k]? = some (G.2.1 k, .inr (ci, nb_fs G.2.1 σ k 0 fl)) from nb_cs_get hs) hc j hj hlink hsame (v := v) (by rw [nb_fs_get, hf]; simp only [Option.map_some, Nat.zero_add, hv]) hdg kk
theorem nb_put (hx : p.tables.exec = Jvm.exec) (hb : c.code = cc) {own ref C : String} {T : u_T} {N ci index : Nat} {Ts : List Cond} (hts : ∀ w ∈ Ts, w.before args s = true) (hin : ∀ w ∈ u_ws C T N, w ∈ Ts) (hown : s.vm.findClass own = some m.cls) (hK : va_K G.1 vwCl (nb_ty G.2.2) s) (ty0 : Nat → FieldType) (hty : ∀ k, k < N → parseFieldDescriptor (T k).2.2.1 = some (ty0 k)) (hnm : ∀ a, a < N → ∀ b, b < N → a ≠ b → (T a).2.1 ≠ (T b).2.1) (hinj : nb_inj sh G.2.1) (hW : nb_W G sh H0 σ H locs) (k : Nat) {fl : List nb_K} (hs : sh[k]? = some (.inr (ci, fl))) (hc : vwCl[ci]? = some (C, T, N)) (j : Nat) (hj : j < N) (hlink : (Cond.fieldLink own index ref (T j).2.1 (T j).2.2.1).before args s = true) (hsame : ∀ x, s.fieldFound? (T j).1 (T j).2.1 (T j).2.2.1 = some x → s.fieldFound? ref (T j).2.1 (T j).2.2.1 = some x) (hfin : (T j).2.2.2 = false) {ty : FieldType} {v : Value} (hd : parseFieldDescriptor (T j).2.2.1 = some ty) (hn : narrow ty v = v) (hfit : fits ty v = true) {f : nb_K} (hf : fl[j]? = some f) {x : Int32} (hv : nb_fv G.2.1 (nb_st σ k j x) k j f = v) (hσ : σ' = nb_st σ k j x) (hdg : decode cc pc = .ok (.putfield index, 3))
    (kk : ∀ (H1 : Heap) (locs1 : List Loc), nb_W G sh H0 σ' H1 locs1 → W p l e R s m args below meth c H1 locs1 cells slots Q (F0 m (pc + 3) ls rest)) : W p l e R s m args below meth c H locs cells slots Q (F0 m pc ls (v :: .ref (G.2.1 k) :: rest)) := by
  have he : (nb_cs sh G.2.1 G.2.2 σ).set k (G.2.1 k, .inr (ci, (nb_fs G.2.1 σ k 0 fl).set j v)) = nb_cs sh G.2.1 G.2.2 (nb_st σ k j x) := nb_cs_set hs (fun i hi => nb_st_k hi) (by simp only [nb_ce, nb_fs_set hf hv])
  subst hσ
  refine va_put hx hb hts hin ty0 hty hnm hown hK hW.1 (nb_D hinj) hW.2 k (show (nb_cs sh G.2.1 G.2.2 σ)[k]? = some (G.2.1 k, .inr (ci, nb_fs G.2.1 σ k 0 fl)) from nb_cs_get hs) hc j hj hlink hsame hfin hd hn hfit (by rw [nb_fs_len]; exact (List.getElem?_eq_some_iff.mp hf).1) hdg (fun H1 locs1 hP _ hS => kk H1 locs1 ⟨?_, hS⟩)
  rw [he] at hP
  exact hP
theorem nb_getN (hx : p.tables.exec = Jvm.exec) (hb : c.code = cc) {own ref C host : String} {T : u_T} {N ci index : Nat} {Ts : List Cond} (hts : ∀ w ∈ Ts, w.before args s = true) (hin : ∀ w ∈ u_ws C T N, w ∈ Ts) (hown : s.vm.findClass own = some m.cls) (hK : va_K G.1 vwCl (nb_ty G.2.2) s) (hW : nb_W G sh H0 σ H locs) (k : Nat) {fl : List nb_K} (hs : sh[k]? = some (.inr (ci, fl))) (hc : vwCl[ci]? = some (C, T, N)) (j : Nat) (hj : j < N) (hlink : (Cond.fieldLinkNest own index ref (T j).2.1 (T j).2.2.1 host).before args s = true) (hsame : ∀ x, s.fieldFound? (T j).1 (T j).2.1 (T j).2.2.1 = some x → s.fieldFound? ref (T j).2.1 (T j).2.2.1 = some x) {f : nb_K} (hf : fl[j]? = some f) {v : Value} (hv : nb_fv G.2.1 σ k j f = v) (hdg : decode cc pc = .ok (.getfield index, 3))
    (kk : W p l e R s m args below meth c H locs cells slots Q (F0 m (pc + 3) ls (v :: rest))) : W p l e R s m args below meth c H locs cells slots Q (F0 m pc ls (.ref (G.2.1 k) :: rest)) :=
  va_getN hx hb hts hin hown hK hW.1 k (show (nb_cs sh G.2.1 G.2.2 σ)[k]? = some (G.2.1 k, .inr (ci, nb_fs G.2.1 σ k 0 fl)) from nb_cs_get hs) hc j hj hlink hsame (v := v) (by rw [nb_fs_get, hf]; simp only [Option.map_some, Nat.zero_add, hv]) hdg kk
theorem nb_putN (hx : p.tables.exec = Jvm.exec) (hb : c.code = cc) {own ref C host : String} {T : u_T} {N ci index : Nat} {Ts : List Cond} (hts : ∀ w ∈ Ts, w.before args s = true) (hin : ∀ w ∈ u_ws C T N, w ∈ Ts) (hown : s.vm.findClass own = some m.cls) (hK : va_K G.1 vwCl (nb_ty G.2.2) s) (ty0 : Nat → FieldType) (hty : ∀ k, k < N → parseFieldDescriptor (T k).2.2.1 = some (ty0 k)) (hnm : ∀ a, a < N → ∀ b, b < N → a ≠ b → (T a).2.1 ≠ (T b).2.1) (hinj : nb_inj sh G.2.1) (hW : nb_W G sh H0 σ H locs) (k : Nat) {fl : List nb_K} (hs : sh[k]? = some (.inr (ci, fl))) (hc : vwCl[ci]? = some (C, T, N)) (j : Nat) (hj : j < N) (hlink : (Cond.fieldLinkNest own index ref (T j).2.1 (T j).2.2.1 host).before args s = true) (hsame : ∀ x, s.fieldFound? (T j).1 (T j).2.1 (T j).2.2.1 = some x → s.fieldFound? ref (T j).2.1 (T j).2.2.1 = some x) (hfin : (T j).2.2.2 = false) {ty : FieldType} {v : Value} (hd : parseFieldDescriptor (T j).2.2.1 = some ty) (hn : narrow ty v = v) (hfit : fits ty v = true) {f : nb_K} (hf : fl[j]? = some f) {x : Int32} (hv : nb_fv G.2.1 (nb_st σ k j x) k j f = v) (hσ : σ' = nb_st σ k j x) (hdg : decode cc pc = .ok (.putfield index, 3))
    (kk : ∀ (H1 : Heap) (locs1 : List Loc), nb_W G sh H0 σ' H1 locs1 → W p l e R s m args below meth c H1 locs1 cells slots Q (F0 m (pc + 3) ls rest)) : W p l e R s m args below meth c H locs cells slots Q (F0 m pc ls (v :: .ref (G.2.1 k) :: rest)) := by
  have he : (nb_cs sh G.2.1 G.2.2 σ).set k (G.2.1 k, .inr (ci, (nb_fs G.2.1 σ k 0 fl).set j v)) = nb_cs sh G.2.1 G.2.2 (nb_st σ k j x) := nb_cs_set hs (fun i hi => nb_st_k hi) (by simp only [nb_ce, nb_fs_set hf hv])
  subst hσ
  refine va_putN hx hb hts hin ty0 hty hnm hown hK hW.1 (nb_D hinj) hW.2 k (show (nb_cs sh G.2.1 G.2.2 σ)[k]? = some (G.2.1 k, .inr (ci, nb_fs G.2.1 σ k 0 fl)) from nb_cs_get hs) hc j hj hlink hsame hfin hd hn hfit (by rw [nb_fs_len]; exact (List.getElem?_eq_some_iff.mp hf).1) hdg (fun H1 locs1 hP _ hS => kk H1 locs1 ⟨?_, hS⟩)
  rw [he] at hP
  exact hP
theorem nb_iald (hx : p.tables.exec = Jvm.exec) (hb : c.code = cc) (hK : va_K G.1 vwCl (nb_ty G.2.2) s) (hW : nb_W G sh H0 σ H locs) (k : Nat) {n : Nat} (hs : sh[k]? = some (.inl (0, n))) {i : Int32} (hin : nb_in i n = true) (hdg : decode cc pc = .ok (.iaload, 1))
    (kk : W p l e R s m args below meth c H locs cells slots Q (F0 m (pc + 1) ls (.int (σ k (nb_ix i)) :: rest))) : W p l e R s m args below meth c H locs cells slots Q (F0 m pc ls (.int i :: .ref (G.2.1 k) :: rest)) :=
  va_iald hx hb hK hW.1 k 0 (show (nb_cs sh G.2.1 G.2.2 σ)[k]? = some (G.2.1 k, .inl (G.2.2 0, n, .inl (σ k))) from nb_cs_get hs) rfl (nb_in_v hin) hdg kk
theorem nb_bald (hx : p.tables.exec = Jvm.exec) (hb : c.code = cc) (hK : va_K G.1 vwCl (nb_ty G.2.2) s) (hW : nb_W G sh H0 σ H locs) (k : Nat) {n : Nat} (hs : sh[k]? = some (.inl (1, n))) {i : Int32} (hin : nb_in i n = true) (hdg : decode cc pc = .ok (.baload, 1))
    (kk : W p l e R s m args below meth c H locs cells slots Q (F0 m (pc + 1) ls (.int (σ k (nb_ix i)) :: rest))) : W p l e R s m args below meth c H locs cells slots Q (F0 m pc ls (.int i :: .ref (G.2.1 k) :: rest)) :=
  va_bald hx hb hK hW.1 k 1 (show (nb_cs sh G.2.1 G.2.2 σ)[k]? = some (G.2.1 k, .inl (G.2.2 1, n, .inl (σ k))) from nb_cs_get hs) rfl (nb_in_v hin) hdg kk
theorem nb_zald (hx : p.tables.exec = Jvm.exec) (hb : c.code = cc) (hK : va_K G.1 vwCl (nb_ty G.2.2) s) (hW : nb_W G sh H0 σ H locs) (k : Nat) {n : Nat} (hs : sh[k]? = some (.inl (2, n))) {i : Int32} (hin : nb_in i n = true) (hdg : decode cc pc = .ok (.baload, 1))
    (kk : W p l e R s m args below meth c H locs cells slots Q (F0 m (pc + 1) ls (.int (σ k (nb_ix i)) :: rest))) : W p l e R s m args below meth c H locs cells slots Q (F0 m pc ls (.int i :: .ref (G.2.1 k) :: rest)) :=
  va_zald hx hb hK hW.1 k 2 (show (nb_cs sh G.2.1 G.2.2 σ)[k]? = some (G.2.1 k, .inl (G.2.2 2, n, .inl (σ k))) from nb_cs_get hs) rfl (nb_in_v hin) hdg kk
theorem nb_iast (hx : p.tables.exec = Jvm.exec) (hb : c.code = cc) (hK : va_K G.1 vwCl (nb_ty G.2.2) s) (hinj : nb_inj sh G.2.1) (hW : nb_W G sh H0 σ H locs) (k : Nat) {n : Nat} (hs : sh[k]? = some (.inl (0, n))) {i x : Int32} (hin : nb_in i n = true) (hσ : σ' = nb_st σ k (nb_ix i) x) (hdg : decode cc pc = .ok (.iastore, 1))
    (kk : ∀ (H1 : Heap) (locs1 : List Loc), nb_W G sh H0 σ' H1 locs1 → W p l e R s m args below meth c H1 locs1 cells slots Q (F0 m (pc + 1) ls rest)) : W p l e R s m args below meth c H locs cells slots Q (F0 m pc ls (.int x :: .int i :: .ref (G.2.1 k) :: rest)) := by
  have he : (nb_cs sh G.2.1 G.2.2 σ).set k (G.2.1 k, .inl (G.2.2 0, n, .inl (upd (σ k) i.toNatClampNeg x))) = nb_cs sh G.2.1 G.2.2 (nb_st σ k (nb_ix i) x) := nb_cs_set hs (fun i hi => nb_st_k hi) (by simp only [nb_ce, nb_st_u])
  subst hσ
  refine va_iast hx hb hK hW.1 (nb_D hinj) hW.2 k 0 (show (nb_cs sh G.2.1 G.2.2 σ)[k]? = some (G.2.1 k, .inl (G.2.2 0, n, .inl (σ k))) from nb_cs_get hs) rfl (nb_in_v hin) hdg (fun H1 locs1 hP _ hS => kk H1 locs1 ⟨?_, hS⟩)
  rw [he] at hP
  exact hP
theorem nb_bast (hx : p.tables.exec = Jvm.exec) (hb : c.code = cc) (hK : va_K G.1 vwCl (nb_ty G.2.2) s) (hinj : nb_inj sh G.2.1) (hW : nb_W G sh H0 σ H locs) (k : Nat) {n : Nat} (hs : sh[k]? = some (.inl (1, n))) {i x : Int32} (hin : nb_in i n = true) (hσ : σ' = nb_st σ k (nb_ix i) (vp_nar .byte x)) (hdg : decode cc pc = .ok (.bastore, 1))
    (kk : ∀ (H1 : Heap) (locs1 : List Loc), nb_W G sh H0 σ' H1 locs1 → W p l e R s m args below meth c H1 locs1 cells slots Q (F0 m (pc + 1) ls rest)) : W p l e R s m args below meth c H locs cells slots Q (F0 m pc ls (.int x :: .int i :: .ref (G.2.1 k) :: rest)) := by
  have he : (nb_cs sh G.2.1 G.2.2 σ).set k (G.2.1 k, .inl (G.2.2 1, n, .inl (upd (σ k) i.toNatClampNeg (vp_nar .byte x)))) = nb_cs sh G.2.1 G.2.2 (nb_st σ k (nb_ix i) (vp_nar .byte x)) := nb_cs_set hs (fun i hi => nb_st_k hi) (by simp only [nb_ce, nb_st_u])
  subst hσ
  refine va_bast hx hb hK hW.1 (nb_D hinj) hW.2 k 1 (show (nb_cs sh G.2.1 G.2.2 σ)[k]? = some (G.2.1 k, .inl (G.2.2 1, n, .inl (σ k))) from nb_cs_get hs) rfl (nb_in_v hin) hdg (fun H1 locs1 hP _ hS => kk H1 locs1 ⟨?_, hS⟩)
  rw [he] at hP
  exact hP
theorem nb_zast (hx : p.tables.exec = Jvm.exec) (hb : c.code = cc) (hK : va_K G.1 vwCl (nb_ty G.2.2) s) (hinj : nb_inj sh G.2.1) (hW : nb_W G sh H0 σ H locs) (k : Nat) {n : Nat} (hs : sh[k]? = some (.inl (2, n))) {i x : Int32} (hin : nb_in i n = true) (hσ : σ' = nb_st σ k (nb_ix i) (vp_nar .boolean x)) (hdg : decode cc pc = .ok (.bastore, 1))
    (kk : ∀ (H1 : Heap) (locs1 : List Loc), nb_W G sh H0 σ' H1 locs1 → W p l e R s m args below meth c H1 locs1 cells slots Q (F0 m (pc + 1) ls rest)) : W p l e R s m args below meth c H locs cells slots Q (F0 m pc ls (.int x :: .int i :: .ref (G.2.1 k) :: rest)) := by
  have he : (nb_cs sh G.2.1 G.2.2 σ).set k (G.2.1 k, .inl (G.2.2 2, n, .inl (upd (σ k) i.toNatClampNeg (vp_nar .boolean x)))) = nb_cs sh G.2.1 G.2.2 (nb_st σ k (nb_ix i) (vp_nar .boolean x)) := nb_cs_set hs (fun i hi => nb_st_k hi) (by simp only [nb_ce, nb_st_u])
  subst hσ
  refine va_zast hx hb hK hW.1 (nb_D hinj) hW.2 k 2 (show (nb_cs sh G.2.1 G.2.2 σ)[k]? = some (G.2.1 k, .inl (G.2.2 2, n, .inl (σ k))) from nb_cs_get hs) rfl (nb_in_v hin) hdg (fun H1 locs1 hP _ hS => kk H1 locs1 ⟨?_, hS⟩)
  rw [he] at hP
  exact hP
theorem nb_alen (hx : p.tables.exec = Jvm.exec) (hb : c.code = cc) (hK : va_K G.1 vwCl (nb_ty G.2.2) s) (hW : nb_W G sh H0 σ H locs) (k : Nat) {n : Nat} (hs : sh[k]? = some (.inl (0, n))) (hdg : decode cc pc = .ok (.arraylength, 1))
    (kk : W p l e R s m args below meth c H locs cells slots Q (F0 m (pc + 1) ls (.int (Int32.ofNat n) :: rest))) : W p l e R s m args below meth c H locs cells slots Q (F0 m pc ls (.ref (G.2.1 k) :: rest)) :=
  va_alen hx hb hK hW.1 k 0 (ty := .int) (show (nb_cs sh G.2.1 G.2.2 σ)[k]? = some (G.2.1 k, .inl (G.2.2 0, n, .inl (σ k))) from nb_cs_get hs) rfl rfl hdg kk
theorem nb_copy (hx : p.tables.exec = Jvm.exec) (hb : c.code = cc) (hml : c.maxLocals = ls.size) {own : String} {index : Nat} (hown : s.vm.findClass own = some m.cls) (hlink : (Cond.methodLink own index arraycopyName).before args s = true) (hnat : (Cond.native arraycopyName).before args s = true) (hstat : (Cond.static arraycopyName).before args s = true) (hini : (Cond.initialized "java/lang/System").before args s = true)
    (hK : va_K G.1 vwCl (nb_ty G.2.2) s) (hinj : nb_inj sh G.2.1) (hW : nb_W G sh H0 σ H locs) (k0 k1 : Nat) {n0 n1 : Nat} (hs0 : sh[k0]? = some (.inl (0, n0))) (hs1 : sh[k1]? = some (.inl (0, n1)))
    {sp dp n : Int32} (h1 : ¬ sp < 0) (h2 : ¬ dp < 0) (h3 : ¬ n < 0) (h4 : sp.toNatClampNeg + n.toNatClampNeg ≤ n0) (h5 : dp.toNatClampNeg + n.toNatClampNeg ≤ n1)
    (hframes : 1 ≤ R.frames) (hlocals : (rest.map fun v => v.category).sum + (nativeFrameWords "java/lang/System" "arraycopy" 5 + 11) ≤ R.locals) (hσ : σ' = nb_sa σ k1 (va_cpy (σ k0) (σ k1) (nb_ix sp) (nb_ix dp) (nb_ix n))) (hdg : decode cc pc = .ok (.invokestatic index, 3))
    (kk : ∀ (H1 : Heap) (locs1 : List Loc), nb_W G sh H0 σ' H1 locs1 → W p l e R s m args below meth c H1 locs1 cells slots Q (F0 m (pc + 3) ls rest)) : W p l e R s m args below meth c H locs cells slots Q (F0 m pc ls (.int n :: .int dp :: .ref (G.2.1 k1) :: .int sp :: .ref (G.2.1 k0) :: rest)) := by
  have he : (nb_cs sh G.2.1 G.2.2 σ).set k1 (G.2.1 k1, .inl (G.2.2 0, n1, .inl (va_cpy (σ k0) (σ k1) sp.toNatClampNeg dp.toNatClampNeg n.toNatClampNeg))) = nb_cs sh G.2.1 G.2.2 (nb_sa σ k1 (va_cpy (σ k0) (σ k1) (nb_ix sp) (nb_ix dp) (nb_ix n))) := nb_cs_set hs1 (fun i hi => nb_sa_n hi) (by simp only [nb_ce, nb_sa_s])
  subst hσ
  refine va_copyi hx hb hml hown hlink hnat hstat hini hK hW.1 (nb_D hinj) hW.2 k0 k1 0 0 (ty := .int) (show (nb_cs sh G.2.1 G.2.2 σ)[k0]? = some (G.2.1 k0, .inl (G.2.2 0, n0, .inl (σ k0))) from nb_cs_get hs0) (show (nb_cs sh G.2.1 G.2.2 σ)[k1]? = some (G.2.1 k1, .inl (G.2.2 0, n1, .inl (σ k1))) from nb_cs_get hs1) rfl rfl rfl h1 h2 h3 h4 h5 (fun _ _ => rfl) hframes hlocals hdg (fun H1 locs1 hP _ hS => kk H1 locs1 ⟨?_, hS⟩)
  rw [he] at hP
  exact hP
theorem nb_end {t : State} (hK : va_K G.1 vwCl (nb_ty G.2.2) s) (hZ : Z s s.heap) (hZo : nb_Zok (nb_A sh G.2.1) Z) (hW : nb_W G sh s.heap σ H locs) (ht : t.heap = H) (hw : s.WarmedH t.vm) : nb_Wp G sh Z σ t := by
  refine ⟨by rw [ht]; exact hW.1, va_K.moved hw.alike hK, ?_⟩
  rw [ht]
  exact hZo.2.2 t s.heap H (fun a h1 h2 => hW.2.2.1 a h1 h2) (hZo.1 s t s.heap hw hZ)
theorem nb_preV {k ci : Nat} {fl : List nb_K} {q : vw_C} {As : List Value} (hK : va_K G.1 vwCl (nb_ty G.2.2) s) (hZ : Z s s.heap) (hZo : nb_Zok (nb_A sh G.2.1) Z) (hW : nb_W G sh s.heap σ H locs) (hs : sh[k]? = some (.inr (ci, fl))) (hc : vwCl[ci]? = some q) : PreV s H q.1 (G.2.1 k) (nb_Pc G sh Z σ (.ref (G.2.1 k) :: As)) As :=
  ⟨nb_blind hZo, va_recv hK hW.1 (ci := ci) (q0 := k) (fs := nb_fs G.2.1 σ k 0 fl) hc (nb_cs_get hs), fun _ hU hw => ⟨rfl, nb_end hK hZ hZo hW hU hw⟩⟩
theorem nb_preVO {E : String} {a : Nat} {As : List Value} (hK : va_K G.1 vwCl (nb_ty G.2.2) s) (hZ : Z s s.heap) (hZo : nb_Zok (nb_A sh G.2.1) Z) (hW : nb_W G sh s.heap σ H locs) (hO : va_O E a (nb_A sh G.2.1) s s.heap) : PreV s H E a (nb_Pc G sh Z σ (.ref a :: As)) As :=
  ⟨nb_blind hZo, by obtain ⟨cell, h1, h2, h3, -⟩ := hO.kept hW.2.2.1; exact ⟨cell, h1, h2, h3⟩, fun _ hU hw => ⟨rfl, nb_end hK hZ hZo hW hU hw⟩⟩
theorem nb_preS {As : List Value} (hK : va_K G.1 vwCl (nb_ty G.2.2) s) (hZ : Z s s.heap) (hZo : nb_Zok (nb_A sh G.2.1) Z) (hW : nb_W G sh s.heap σ H locs) : PreS s H (nb_Pc G sh Z σ As) As :=
  ⟨nb_blind hZo, fun _ hU hw => ⟨rfl, nb_end hK hZ hZo hW hU hw⟩⟩

theorem nb_ri {v r : Int32} {σ1 : nb_St} (hx : p.tables.exec = Jvm.exec) (hb : c.code = cc) (hr : meth.sig.returnType = some .int) (hlocks : meth.locks = false) (hK : va_K G.1 vwCl (nb_ty G.2.2) s) (hZ : Z s s.heap) (hZo : nb_Zok (nb_A sh G.2.1) Z) (hW : nb_W G sh s.heap σ H locs)  (hf : some (v, σ) = some (r, σ1)) (hdg : decode cc pc = .ok (.ireturn, 1)) : W p l e R s m args below meth c H locs 0 0 (MQ below (nb_Qi G sh Z r σ1) args s 0 0 (nb_A sh G.2.1)) (F0 m pc ls [.int v]) := by
  cases hf
  exact W.iret hx hb hr  (fun t ht hw => ⟨⟨v, (), rfl, rfl, nb_end hK hZ hZo hW ht hw⟩, hW.2.F ht⟩) hW.2.2.2 hdg
theorem nb_rip {v r : Int32} (hx : p.tables.exec = Jvm.exec) (hb : c.code = cc) (hr : meth.sig.returnType = some .int) (hlocks : meth.locks = false) (hK : va_K G.1 vwCl (nb_ty G.2.2) s) (hZ : Z s s.heap) (hZo : nb_Zok (nb_A sh G.2.1) Z) (hW : nb_W G sh s.heap σ H locs)  (hf : some v = some r) (hdg : decode cc pc = .ok (.ireturn, 1)) : W p l e R s m args below meth c H locs 0 0 (MQ below (nb_Qi G sh Z r σ) args s 0 0 (nb_A sh G.2.1)) (F0 m pc ls [.int v]) := by
  cases hf
  exact W.iret hx hb hr  (fun t ht hw => ⟨⟨v, (), rfl, rfl, nb_end hK hZ hZo hW ht hw⟩, hW.2.F ht⟩) hW.2.2.2 hdg
theorem nb_rz {v r : Int32} {σ1 : nb_St} (hx : p.tables.exec = Jvm.exec) (hb : c.code = cc) (hr : meth.sig.returnType = some .boolean) (hlocks : meth.locks = false) (hK : va_K G.1 vwCl (nb_ty G.2.2) s) (hZ : Z s s.heap) (hZo : nb_Zok (nb_A sh G.2.1) Z) (hW : nb_W G sh s.heap σ H locs) (hn : narrow .boolean (.int v) = .int v) (hf : some (v, σ) = some (r, σ1)) (hdg : decode cc pc = .ok (.ireturn, 1)) : W p l e R s m args below meth c H locs 0 0 (MQ below (nb_Qi G sh Z r σ1) args s 0 0 (nb_A sh G.2.1)) (F0 m pc ls [.int v]) := by
  cases hf
  exact W.zret hx hb hr hn (fun t ht hw => ⟨⟨v, (), rfl, rfl, nb_end hK hZ hZo hW ht hw⟩, hW.2.F ht⟩) hW.2.2.2 hdg
theorem nb_rzp {v r : Int32} (hx : p.tables.exec = Jvm.exec) (hb : c.code = cc) (hr : meth.sig.returnType = some .boolean) (hlocks : meth.locks = false) (hK : va_K G.1 vwCl (nb_ty G.2.2) s) (hZ : Z s s.heap) (hZo : nb_Zok (nb_A sh G.2.1) Z) (hW : nb_W G sh s.heap σ H locs) (hn : narrow .boolean (.int v) = .int v) (hf : some v = some r) (hdg : decode cc pc = .ok (.ireturn, 1)) : W p l e R s m args below meth c H locs 0 0 (MQ below (nb_Qi G sh Z r σ) args s 0 0 (nb_A sh G.2.1)) (F0 m pc ls [.int v]) := by
  cases hf
  exact W.zret hx hb hr hn (fun t ht hw => ⟨⟨v, (), rfl, rfl, nb_end hK hZ hZo hW ht hw⟩, hW.2.F ht⟩) hW.2.2.2 hdg
theorem nb_ry {ty : FieldType} {v r : Int32} {σ1 : nb_St} (hx : p.tables.exec = Jvm.exec) (hb : c.code = cc) (hr : meth.sig.returnType = some ty) (hlocks : meth.locks = false) (hK : va_K G.1 vwCl (nb_ty G.2.2) s) (hZ : Z s s.heap) (hZo : nb_Zok (nb_A sh G.2.1) Z) (hW : nb_W G sh s.heap σ H locs) (hn : narrow ty (.int v) = .int v) (hf : some (v, σ) = some (r, σ1)) (hdg : decode cc pc = .ok (.ireturn, 1)) : W p l e R s m args below meth c H locs 0 0 (MQ below (nb_Qi G sh Z r σ1) args s 0 0 (nb_A sh G.2.1)) (F0 m pc ls [.int v]) := by
  cases hf
  exact W.zret hx hb hr hn (fun t ht hw => ⟨⟨v, (), rfl, rfl, nb_end hK hZ hZo hW ht hw⟩, hW.2.F ht⟩) hW.2.2.2 hdg
theorem nb_ryp {ty : FieldType} {v r : Int32} (hx : p.tables.exec = Jvm.exec) (hb : c.code = cc) (hr : meth.sig.returnType = some ty) (hlocks : meth.locks = false) (hK : va_K G.1 vwCl (nb_ty G.2.2) s) (hZ : Z s s.heap) (hZo : nb_Zok (nb_A sh G.2.1) Z) (hW : nb_W G sh s.heap σ H locs) (hn : narrow ty (.int v) = .int v) (hf : some v = some r) (hdg : decode cc pc = .ok (.ireturn, 1)) : W p l e R s m args below meth c H locs 0 0 (MQ below (nb_Qi G sh Z r σ) args s 0 0 (nb_A sh G.2.1)) (F0 m pc ls [.int v]) := by
  cases hf
  exact W.zret hx hb hr hn (fun t ht hw => ⟨⟨v, (), rfl, rfl, nb_end hK hZ hZo hW ht hw⟩, hW.2.F ht⟩) hW.2.2.2 hdg
theorem nb_rl {v r : Int64} {σ1 : nb_St} (hx : p.tables.exec = Jvm.exec) (hb : c.code = cc) (hr : meth.sig.returnType = some .long) (hlocks : meth.locks = false) (hK : va_K G.1 vwCl (nb_ty G.2.2) s) (hZ : Z s s.heap) (hZo : nb_Zok (nb_A sh G.2.1) Z) (hW : nb_W G sh s.heap σ H locs)  (hf : some (v, σ) = some (r, σ1)) (hdg : decode cc pc = .ok (.lreturn, 1)) : W p l e R s m args below meth c H locs 0 0 (MQ below (nb_Ql G sh Z r σ1) args s 0 0 (nb_A sh G.2.1)) (F0 m pc ls [.long v]) := by
  cases hf
  exact W.lret hx hb hr  (fun t ht hw => ⟨⟨v, (), rfl, rfl, nb_end hK hZ hZo hW ht hw⟩, hW.2.F ht⟩) hW.2.2.2 hdg
theorem nb_rlp {v r : Int64} (hx : p.tables.exec = Jvm.exec) (hb : c.code = cc) (hr : meth.sig.returnType = some .long) (hlocks : meth.locks = false) (hK : va_K G.1 vwCl (nb_ty G.2.2) s) (hZ : Z s s.heap) (hZo : nb_Zok (nb_A sh G.2.1) Z) (hW : nb_W G sh s.heap σ H locs)  (hf : some v = some r) (hdg : decode cc pc = .ok (.lreturn, 1)) : W p l e R s m args below meth c H locs 0 0 (MQ below (nb_Ql G sh Z r σ) args s 0 0 (nb_A sh G.2.1)) (F0 m pc ls [.long v]) := by
  cases hf
  exact W.lret hx hb hr  (fun t ht hw => ⟨⟨v, (), rfl, rfl, nb_end hK hZ hZo hW ht hw⟩, hW.2.F ht⟩) hW.2.2.2 hdg
theorem nb_rv {σ1 : nb_St} (hx : p.tables.exec = Jvm.exec) (hb : c.code = cc) (hr : meth.sig.returnType = none) (hlocks : meth.locks = false) (hK : va_K G.1 vwCl (nb_ty G.2.2) s) (hZ : Z s s.heap) (hZo : nb_Zok (nb_A sh G.2.1) Z) (hW : nb_W G sh s.heap σ H locs) (hf : some σ = some σ1) (hdg : decode cc pc = .ok (.return_, 1)) : W p l e R s m args below meth c H locs 0 0 (MQ below (nb_Qv G sh Z σ1) args s 0 0 (nb_A sh G.2.1)) (F0 m pc ls []) := by
  cases hf
  exact W.vret hx hb hr (fun t ht hw => ⟨⟨(), rfl, trivial, nb_end hK hZ hZo hW ht hw⟩, hW.2.F ht⟩) hW.2.2.2 hdg
theorem nb_rr {k r : Nat} {C : String} (hx : p.tables.exec = Jvm.exec) (hb : c.code = cc) (hr : meth.sig.returnType = some (.object C)) (hlocks : meth.locks = false) (hK : va_K G.1 vwCl (nb_ty G.2.2) s) (hZ : Z s s.heap) (hZo : nb_Zok (nb_A sh G.2.1) Z) (hW : nb_W G sh s.heap σ H locs) (hf : some k = some r) (hdg : decode cc pc = .ok (.areturn, 1)) : W p l e R s m args below meth c H locs 0 0 (MQ below (nb_Qr G sh Z r σ) args s 0 0 (nb_A sh G.2.1)) (F0 m pc ls [.ref (G.2.1 k)]) := by
  cases hf
  exact W.aret hx hb hr (Or.inl ⟨_, rfl⟩) (Or.inr ⟨_, rfl⟩) (fun t ht hw => ⟨⟨(), G.2.1 k, rfl, trivial, rfl, nb_end hK hZ hZo hW ht hw⟩, hW.2.F ht⟩) hW.2.2.2 hdg
theorem nb_ci {st0 : List Value} {a : Array Value} {r : Int32} {σ1 : nb_St} (hW : nb_W G sh H0 σ H locs) (hr : va_Run p l e R s m args below meth c H locs cells slots 0 0 (F0 m pc ls st0) rest (nb_Qi G sh Z r σ1 a) (nb_A sh G.2.1)) (kk : ∀ (H1 : Heap) (locs1 : List Loc), nb_W G sh H0 σ1 H1 locs1 → W p l e R s m args below meth c H1 locs1 cells slots Q (F0 m (pc + 3) ls (.int r :: rest))) : W p l e R s m args below meth c H locs cells slots Q (F0 m pc ls st0) :=
  va_calli hr hW.2 (fun _ _ h => h) (fun _ h => h) (fun r' u t H1 locs1 ht hvm hw hB hz hk hS => by subst hw; exact kk H1 locs1 ⟨by rw [← ht]; exact hB.1, hS⟩)
theorem nb_cl {st0 : List Value} {a : Array Value} {r : Int64} {σ1 : nb_St} (hW : nb_W G sh H0 σ H locs) (hr : va_Run p l e R s m args below meth c H locs cells slots 0 0 (F0 m pc ls st0) rest (nb_Ql G sh Z r σ1 a) (nb_A sh G.2.1)) (kk : ∀ (H1 : Heap) (locs1 : List Loc), nb_W G sh H0 σ1 H1 locs1 → W p l e R s m args below meth c H1 locs1 cells slots Q (F0 m (pc + 3) ls (.long r :: rest))) : W p l e R s m args below meth c H locs cells slots Q (F0 m pc ls st0) :=
  va_calll hr hW.2 (fun _ _ h => h) (fun _ h => h) (fun r' u t H1 locs1 ht hvm hw hB hz hk hS => by subst hw; exact kk H1 locs1 ⟨by rw [← ht]; exact hB.1, hS⟩)
theorem nb_cv {st0 : List Value} {a : Array Value} {σ1 : nb_St} (hW : nb_W G sh H0 σ H locs) (hr : va_Run p l e R s m args below meth c H locs cells slots 0 0 (F0 m pc ls st0) rest (nb_Qv G sh Z σ1 a) (nb_A sh G.2.1)) (kk : ∀ (H1 : Heap) (locs1 : List Loc), nb_W G sh H0 σ1 H1 locs1 → W p l e R s m args below meth c H1 locs1 cells slots Q (F0 m (pc + 3) ls rest)) : W p l e R s m args below meth c H locs cells slots Q (F0 m pc ls st0) :=
  va_callv hr hW.2 (fun _ _ h => h) (fun _ h => h) (fun u t H1 locs1 ht hvm hw hB hz hk hS => kk H1 locs1 ⟨by rw [← ht]; exact hB.1, hS⟩)
theorem nb_cr {st0 : List Value} {a : Array Value} {r : Nat} {σ1 : nb_St} (hW : nb_W G sh H0 σ H locs) (hr : va_Run p l e R s m args below meth c H locs cells slots 0 0 (F0 m pc ls st0) rest (nb_Qr G sh Z r σ1 a) (nb_A sh G.2.1)) (kk : ∀ (H1 : Heap) (locs1 : List Loc), nb_W G sh H0 σ1 H1 locs1 → W p l e R s m args below meth c H1 locs1 cells slots Q (F0 m (pc + 3) ls (.ref (G.2.1 r) :: rest))) : W p l e R s m args below meth c H locs cells slots Q (F0 m pc ls st0) :=
  va_callr hr hW.2 (fun _ _ h => h) (fun _ h => h) (fun u ra t H1 locs1 ht hvm hw hB hz hk hS => by obtain ⟨rfl, hB⟩ := hB; exact kk H1 locs1 ⟨by rw [← ht]; exact hB.1, hS⟩)
theorem nb_nami {x y : Int32} (h : y = x) (k : W p l e R s m args below meth c H locs cells slots Q (F0 m pc ls (.int y :: rest))) : W p l e R s m args below meth c H locs cells slots Q (F0 m pc ls (.int x :: rest)) := h ▸ k
theorem nb_naml {x y : Int64} (h : y = x) (k : W p l e R s m args below meth c H locs cells slots Q (F0 m pc ls (.long y :: rest))) : W p l e R s m args below meth c H locs cells slots Q (F0 m pc ls (.long x :: rest)) := h ▸ k
theorem nb_irem (hx : p.tables.exec = Jvm.exec) (hb : c.code = cc) {x y : Int32} (hdg : decode cc pc = .ok (.irem, 1)) (hne : ¬ y = 0) (k : W p l e R s m args below meth c H locs cells slots Q (F0 m (pc + 1) ls (.int (nb_rem x y) :: rest))) : W p l e R s m args below meth c H locs cells slots Q (F0 m pc ls (.int y :: .int x :: rest)) := lv_irem hx hb hdg hne k
theorem nb_lremr (hx : p.tables.exec = Jvm.exec) (hb : c.code = cc) {x y : Int64} (hdg : decode cc pc = .ok (.lrem, 1)) (hne : ¬ y = 0) (k : W p l e R s m args below meth c H locs cells slots Q (F0 m (pc + 1) ls (.long (nb_lrem x y) :: rest))) : W p l e R s m args below meth c H locs cells slots Q (F0 m pc ls (.long y :: .long x :: rest)) := lv_lrem hx hb hdg hne k
end NBR
def nb_lp1 {A0 R : Type} (f : (A0 → Option R) → A0 → Option R) : Nat → A0 → Option R
  | 0, _ => none
  | n + 1, a0 => f (nb_lp1 f n) a0
theorem nb_w1 {A0 R : Type} {f : (A0 → Option R) → A0 → Option R} {r : R} {P : A0 → Prop} (h : ∀ ag : A0 → Option R, (∀ a0, ag a0 = some r → P a0) → ∀ a0, f ag a0 = some r → P a0) : ∀ (n : Nat) (a0 : A0), nb_lp1 f n a0 = some r → P a0
  | 0, a0, q => by cases q
  | n + 1, a0, q => h (nb_lp1 f n) (fun a0 q => nb_w1 h n a0 q) a0 q
theorem nb_i1 {A0 R : Type} {f : (A0 → Option R) → A0 → Option R} {r : Option R} (I : A0 → Prop) (μ : A0 → Nat) (h : ∀ (ag : A0 → Option R) (a0 : A0), I a0 → (∀ b0, I b0 → μ b0 < μ a0 → ag b0 = r) → f ag a0 = r) : ∀ (n : Nat) (a0 : A0), μ a0 < n → I a0 → nb_lp1 f n a0 = r
  | 0, a0, q, _ => by omega
  | n + 1, a0, q, i => h (nb_lp1 f n) a0 i (fun b0 i2 q2 => nb_i1 I μ h n b0 (by omega) i2)
def nb_lp2 {A0 A1 R : Type} (f : (A0 → A1 → Option R) → A0 → A1 → Option R) : Nat → A0 → A1 → Option R
  | 0, _, _ => none
  | n + 1, a0, a1 => f (nb_lp2 f n) a0 a1
theorem nb_w2 {A0 A1 R : Type} {f : (A0 → A1 → Option R) → A0 → A1 → Option R} {r : R} {P : A0 → A1 → Prop} (h : ∀ ag : A0 → A1 → Option R, (∀ a0 a1, ag a0 a1 = some r → P a0 a1) → ∀ a0 a1, f ag a0 a1 = some r → P a0 a1) : ∀ (n : Nat) (a0 : A0) (a1 : A1), nb_lp2 f n a0 a1 = some r → P a0 a1
  | 0, a0, a1, q => by cases q
  | n + 1, a0, a1, q => h (nb_lp2 f n) (fun a0 a1 q => nb_w2 h n a0 a1 q) a0 a1 q
theorem nb_i2 {A0 A1 R : Type} {f : (A0 → A1 → Option R) → A0 → A1 → Option R} {r : Option R} (I : A0 → A1 → Prop) (μ : A0 → A1 → Nat) (h : ∀ (ag : A0 → A1 → Option R) (a0 : A0) (a1 : A1), I a0 a1 → (∀ b0 b1, I b0 b1 → μ b0 b1 < μ a0 a1 → ag b0 b1 = r) → f ag a0 a1 = r) : ∀ (n : Nat) (a0 : A0) (a1 : A1), μ a0 a1 < n → I a0 a1 → nb_lp2 f n a0 a1 = r
  | 0, a0, a1, q, _ => by omega
  | n + 1, a0, a1, q, i => h (nb_lp2 f n) a0 a1 i (fun b0 b1 i2 q2 => nb_i2 I μ h n b0 b1 (by omega) i2)
def nb_lp3 {A0 A1 A2 R : Type} (f : (A0 → A1 → A2 → Option R) → A0 → A1 → A2 → Option R) : Nat → A0 → A1 → A2 → Option R
  | 0, _, _, _ => none
  | n + 1, a0, a1, a2 => f (nb_lp3 f n) a0 a1 a2
theorem nb_w3 {A0 A1 A2 R : Type} {f : (A0 → A1 → A2 → Option R) → A0 → A1 → A2 → Option R} {r : R} {P : A0 → A1 → A2 → Prop} (h : ∀ ag : A0 → A1 → A2 → Option R, (∀ a0 a1 a2, ag a0 a1 a2 = some r → P a0 a1 a2) → ∀ a0 a1 a2, f ag a0 a1 a2 = some r → P a0 a1 a2) : ∀ (n : Nat) (a0 : A0) (a1 : A1) (a2 : A2), nb_lp3 f n a0 a1 a2 = some r → P a0 a1 a2
  | 0, a0, a1, a2, q => by cases q
  | n + 1, a0, a1, a2, q => h (nb_lp3 f n) (fun a0 a1 a2 q => nb_w3 h n a0 a1 a2 q) a0 a1 a2 q
theorem nb_i3 {A0 A1 A2 R : Type} {f : (A0 → A1 → A2 → Option R) → A0 → A1 → A2 → Option R} {r : Option R} (I : A0 → A1 → A2 → Prop) (μ : A0 → A1 → A2 → Nat) (h : ∀ (ag : A0 → A1 → A2 → Option R) (a0 : A0) (a1 : A1) (a2 : A2), I a0 a1 a2 → (∀ b0 b1 b2, I b0 b1 b2 → μ b0 b1 b2 < μ a0 a1 a2 → ag b0 b1 b2 = r) → f ag a0 a1 a2 = r) : ∀ (n : Nat) (a0 : A0) (a1 : A1) (a2 : A2), μ a0 a1 a2 < n → I a0 a1 a2 → nb_lp3 f n a0 a1 a2 = r
  | 0, a0, a1, a2, q, _ => by omega
  | n + 1, a0, a1, a2, q, i => h (nb_lp3 f n) a0 a1 a2 i (fun b0 b1 b2 i2 q2 => nb_i3 I μ h n b0 b1 b2 (by omega) i2)
def nb_lp4 {A0 A1 A2 A3 R : Type} (f : (A0 → A1 → A2 → A3 → Option R) → A0 → A1 → A2 → A3 → Option R) : Nat → A0 → A1 → A2 → A3 → Option R
  | 0, _, _, _, _ => none
  | n + 1, a0, a1, a2, a3 => f (nb_lp4 f n) a0 a1 a2 a3
theorem nb_w4 {A0 A1 A2 A3 R : Type} {f : (A0 → A1 → A2 → A3 → Option R) → A0 → A1 → A2 → A3 → Option R} {r : R} {P : A0 → A1 → A2 → A3 → Prop} (h : ∀ ag : A0 → A1 → A2 → A3 → Option R, (∀ a0 a1 a2 a3, ag a0 a1 a2 a3 = some r → P a0 a1 a2 a3) → ∀ a0 a1 a2 a3, f ag a0 a1 a2 a3 = some r → P a0 a1 a2 a3) : ∀ (n : Nat) (a0 : A0) (a1 : A1) (a2 : A2) (a3 : A3), nb_lp4 f n a0 a1 a2 a3 = some r → P a0 a1 a2 a3
  | 0, a0, a1, a2, a3, q => by cases q
  | n + 1, a0, a1, a2, a3, q => h (nb_lp4 f n) (fun a0 a1 a2 a3 q => nb_w4 h n a0 a1 a2 a3 q) a0 a1 a2 a3 q
theorem nb_i4 {A0 A1 A2 A3 R : Type} {f : (A0 → A1 → A2 → A3 → Option R) → A0 → A1 → A2 → A3 → Option R} {r : Option R} (I : A0 → A1 → A2 → A3 → Prop) (μ : A0 → A1 → A2 → A3 → Nat) (h : ∀ (ag : A0 → A1 → A2 → A3 → Option R) (a0 : A0) (a1 : A1) (a2 : A2) (a3 : A3), I a0 a1 a2 a3 → (∀ b0 b1 b2 b3, I b0 b1 b2 b3 → μ b0 b1 b2 b3 < μ a0 a1 a2 a3 → ag b0 b1 b2 b3 = r) → f ag a0 a1 a2 a3 = r) : ∀ (n : Nat) (a0 : A0) (a1 : A1) (a2 : A2) (a3 : A3), μ a0 a1 a2 a3 < n → I a0 a1 a2 a3 → nb_lp4 f n a0 a1 a2 a3 = r
  | 0, a0, a1, a2, a3, q, _ => by omega
  | n + 1, a0, a1, a2, a3, q, i => h (nb_lp4 f n) a0 a1 a2 a3 i (fun b0 b1 b2 b3 i2 q2 => nb_i4 I μ h n b0 b1 b2 b3 (by omega) i2)
def nb_lp5 {A0 A1 A2 A3 A4 R : Type} (f : (A0 → A1 → A2 → A3 → A4 → Option R) → A0 → A1 → A2 → A3 → A4 → Option R) : Nat → A0 → A1 → A2 → A3 → A4 → Option R
  | 0, _, _, _, _, _ => none
  | n + 1, a0, a1, a2, a3, a4 => f (nb_lp5 f n) a0 a1 a2 a3 a4
theorem nb_w5 {A0 A1 A2 A3 A4 R : Type} {f : (A0 → A1 → A2 → A3 → A4 → Option R) → A0 → A1 → A2 → A3 → A4 → Option R} {r : R} {P : A0 → A1 → A2 → A3 → A4 → Prop} (h : ∀ ag : A0 → A1 → A2 → A3 → A4 → Option R, (∀ a0 a1 a2 a3 a4, ag a0 a1 a2 a3 a4 = some r → P a0 a1 a2 a3 a4) → ∀ a0 a1 a2 a3 a4, f ag a0 a1 a2 a3 a4 = some r → P a0 a1 a2 a3 a4) : ∀ (n : Nat) (a0 : A0) (a1 : A1) (a2 : A2) (a3 : A3) (a4 : A4), nb_lp5 f n a0 a1 a2 a3 a4 = some r → P a0 a1 a2 a3 a4
  | 0, a0, a1, a2, a3, a4, q => by cases q
  | n + 1, a0, a1, a2, a3, a4, q => h (nb_lp5 f n) (fun a0 a1 a2 a3 a4 q => nb_w5 h n a0 a1 a2 a3 a4 q) a0 a1 a2 a3 a4 q
theorem nb_i5 {A0 A1 A2 A3 A4 R : Type} {f : (A0 → A1 → A2 → A3 → A4 → Option R) → A0 → A1 → A2 → A3 → A4 → Option R} {r : Option R} (I : A0 → A1 → A2 → A3 → A4 → Prop) (μ : A0 → A1 → A2 → A3 → A4 → Nat) (h : ∀ (ag : A0 → A1 → A2 → A3 → A4 → Option R) (a0 : A0) (a1 : A1) (a2 : A2) (a3 : A3) (a4 : A4), I a0 a1 a2 a3 a4 → (∀ b0 b1 b2 b3 b4, I b0 b1 b2 b3 b4 → μ b0 b1 b2 b3 b4 < μ a0 a1 a2 a3 a4 → ag b0 b1 b2 b3 b4 = r) → f ag a0 a1 a2 a3 a4 = r) : ∀ (n : Nat) (a0 : A0) (a1 : A1) (a2 : A2) (a3 : A3) (a4 : A4), μ a0 a1 a2 a3 a4 < n → I a0 a1 a2 a3 a4 → nb_lp5 f n a0 a1 a2 a3 a4 = r
  | 0, a0, a1, a2, a3, a4, q, _ => by omega
  | n + 1, a0, a1, a2, a3, a4, q, i => h (nb_lp5 f n) a0 a1 a2 a3 a4 i (fun b0 b1 b2 b3 b4 i2 q2 => nb_i5 I μ h n b0 b1 b2 b3 b4 (by omega) i2)
def nb_lp6 {A0 A1 A2 A3 A4 A5 R : Type} (f : (A0 → A1 → A2 → A3 → A4 → A5 → Option R) → A0 → A1 → A2 → A3 → A4 → A5 → Option R) : Nat → A0 → A1 → A2 → A3 → A4 → A5 → Option R
  | 0, _, _, _, _, _, _ => none
  | n + 1, a0, a1, a2, a3, a4, a5 => f (nb_lp6 f n) a0 a1 a2 a3 a4 a5
theorem nb_w6 {A0 A1 A2 A3 A4 A5 R : Type} {f : (A0 → A1 → A2 → A3 → A4 → A5 → Option R) → A0 → A1 → A2 → A3 → A4 → A5 → Option R} {r : R} {P : A0 → A1 → A2 → A3 → A4 → A5 → Prop} (h : ∀ ag : A0 → A1 → A2 → A3 → A4 → A5 → Option R, (∀ a0 a1 a2 a3 a4 a5, ag a0 a1 a2 a3 a4 a5 = some r → P a0 a1 a2 a3 a4 a5) → ∀ a0 a1 a2 a3 a4 a5, f ag a0 a1 a2 a3 a4 a5 = some r → P a0 a1 a2 a3 a4 a5) : ∀ (n : Nat) (a0 : A0) (a1 : A1) (a2 : A2) (a3 : A3) (a4 : A4) (a5 : A5), nb_lp6 f n a0 a1 a2 a3 a4 a5 = some r → P a0 a1 a2 a3 a4 a5
  | 0, a0, a1, a2, a3, a4, a5, q => by cases q
  | n + 1, a0, a1, a2, a3, a4, a5, q => h (nb_lp6 f n) (fun a0 a1 a2 a3 a4 a5 q => nb_w6 h n a0 a1 a2 a3 a4 a5 q) a0 a1 a2 a3 a4 a5 q
theorem nb_i6 {A0 A1 A2 A3 A4 A5 R : Type} {f : (A0 → A1 → A2 → A3 → A4 → A5 → Option R) → A0 → A1 → A2 → A3 → A4 → A5 → Option R} {r : Option R} (I : A0 → A1 → A2 → A3 → A4 → A5 → Prop) (μ : A0 → A1 → A2 → A3 → A4 → A5 → Nat) (h : ∀ (ag : A0 → A1 → A2 → A3 → A4 → A5 → Option R) (a0 : A0) (a1 : A1) (a2 : A2) (a3 : A3) (a4 : A4) (a5 : A5), I a0 a1 a2 a3 a4 a5 → (∀ b0 b1 b2 b3 b4 b5, I b0 b1 b2 b3 b4 b5 → μ b0 b1 b2 b3 b4 b5 < μ a0 a1 a2 a3 a4 a5 → ag b0 b1 b2 b3 b4 b5 = r) → f ag a0 a1 a2 a3 a4 a5 = r) : ∀ (n : Nat) (a0 : A0) (a1 : A1) (a2 : A2) (a3 : A3) (a4 : A4) (a5 : A5), μ a0 a1 a2 a3 a4 a5 < n → I a0 a1 a2 a3 a4 a5 → nb_lp6 f n a0 a1 a2 a3 a4 a5 = r
  | 0, a0, a1, a2, a3, a4, a5, q, _ => by omega
  | n + 1, a0, a1, a2, a3, a4, a5, q, i => h (nb_lp6 f n) a0 a1 a2 a3 a4 a5 i (fun b0 b1 b2 b3 b4 b5 i2 q2 => nb_i6 I μ h n b0 b1 b2 b3 b4 b5 (by omega) i2)
def nb_lp7 {A0 A1 A2 A3 A4 A5 A6 R : Type} (f : (A0 → A1 → A2 → A3 → A4 → A5 → A6 → Option R) → A0 → A1 → A2 → A3 → A4 → A5 → A6 → Option R) : Nat → A0 → A1 → A2 → A3 → A4 → A5 → A6 → Option R
  | 0, _, _, _, _, _, _, _ => none
  | n + 1, a0, a1, a2, a3, a4, a5, a6 => f (nb_lp7 f n) a0 a1 a2 a3 a4 a5 a6
theorem nb_w7 {A0 A1 A2 A3 A4 A5 A6 R : Type} {f : (A0 → A1 → A2 → A3 → A4 → A5 → A6 → Option R) → A0 → A1 → A2 → A3 → A4 → A5 → A6 → Option R} {r : R} {P : A0 → A1 → A2 → A3 → A4 → A5 → A6 → Prop} (h : ∀ ag : A0 → A1 → A2 → A3 → A4 → A5 → A6 → Option R, (∀ a0 a1 a2 a3 a4 a5 a6, ag a0 a1 a2 a3 a4 a5 a6 = some r → P a0 a1 a2 a3 a4 a5 a6) → ∀ a0 a1 a2 a3 a4 a5 a6, f ag a0 a1 a2 a3 a4 a5 a6 = some r → P a0 a1 a2 a3 a4 a5 a6) : ∀ (n : Nat) (a0 : A0) (a1 : A1) (a2 : A2) (a3 : A3) (a4 : A4) (a5 : A5) (a6 : A6), nb_lp7 f n a0 a1 a2 a3 a4 a5 a6 = some r → P a0 a1 a2 a3 a4 a5 a6
  | 0, a0, a1, a2, a3, a4, a5, a6, q => by cases q
  | n + 1, a0, a1, a2, a3, a4, a5, a6, q => h (nb_lp7 f n) (fun a0 a1 a2 a3 a4 a5 a6 q => nb_w7 h n a0 a1 a2 a3 a4 a5 a6 q) a0 a1 a2 a3 a4 a5 a6 q
theorem nb_i7 {A0 A1 A2 A3 A4 A5 A6 R : Type} {f : (A0 → A1 → A2 → A3 → A4 → A5 → A6 → Option R) → A0 → A1 → A2 → A3 → A4 → A5 → A6 → Option R} {r : Option R} (I : A0 → A1 → A2 → A3 → A4 → A5 → A6 → Prop) (μ : A0 → A1 → A2 → A3 → A4 → A5 → A6 → Nat) (h : ∀ (ag : A0 → A1 → A2 → A3 → A4 → A5 → A6 → Option R) (a0 : A0) (a1 : A1) (a2 : A2) (a3 : A3) (a4 : A4) (a5 : A5) (a6 : A6), I a0 a1 a2 a3 a4 a5 a6 → (∀ b0 b1 b2 b3 b4 b5 b6, I b0 b1 b2 b3 b4 b5 b6 → μ b0 b1 b2 b3 b4 b5 b6 < μ a0 a1 a2 a3 a4 a5 a6 → ag b0 b1 b2 b3 b4 b5 b6 = r) → f ag a0 a1 a2 a3 a4 a5 a6 = r) : ∀ (n : Nat) (a0 : A0) (a1 : A1) (a2 : A2) (a3 : A3) (a4 : A4) (a5 : A5) (a6 : A6), μ a0 a1 a2 a3 a4 a5 a6 < n → I a0 a1 a2 a3 a4 a5 a6 → nb_lp7 f n a0 a1 a2 a3 a4 a5 a6 = r
  | 0, a0, a1, a2, a3, a4, a5, a6, q, _ => by omega
  | n + 1, a0, a1, a2, a3, a4, a5, a6, q, i => h (nb_lp7 f n) a0 a1 a2 a3 a4 a5 a6 i (fun b0 b1 b2 b3 b4 b5 b6 i2 q2 => nb_i7 I μ h n b0 b1 b2 b3 b4 b5 b6 (by omega) i2)
def nb_lp8 {A0 A1 A2 A3 A4 A5 A6 A7 R : Type} (f : (A0 → A1 → A2 → A3 → A4 → A5 → A6 → A7 → Option R) → A0 → A1 → A2 → A3 → A4 → A5 → A6 → A7 → Option R) : Nat → A0 → A1 → A2 → A3 → A4 → A5 → A6 → A7 → Option R
  | 0, _, _, _, _, _, _, _, _ => none
  | n + 1, a0, a1, a2, a3, a4, a5, a6, a7 => f (nb_lp8 f n) a0 a1 a2 a3 a4 a5 a6 a7
theorem nb_w8 {A0 A1 A2 A3 A4 A5 A6 A7 R : Type} {f : (A0 → A1 → A2 → A3 → A4 → A5 → A6 → A7 → Option R) → A0 → A1 → A2 → A3 → A4 → A5 → A6 → A7 → Option R} {r : R} {P : A0 → A1 → A2 → A3 → A4 → A5 → A6 → A7 → Prop} (h : ∀ ag : A0 → A1 → A2 → A3 → A4 → A5 → A6 → A7 → Option R, (∀ a0 a1 a2 a3 a4 a5 a6 a7, ag a0 a1 a2 a3 a4 a5 a6 a7 = some r → P a0 a1 a2 a3 a4 a5 a6 a7) → ∀ a0 a1 a2 a3 a4 a5 a6 a7, f ag a0 a1 a2 a3 a4 a5 a6 a7 = some r → P a0 a1 a2 a3 a4 a5 a6 a7) : ∀ (n : Nat) (a0 : A0) (a1 : A1) (a2 : A2) (a3 : A3) (a4 : A4) (a5 : A5) (a6 : A6) (a7 : A7), nb_lp8 f n a0 a1 a2 a3 a4 a5 a6 a7 = some r → P a0 a1 a2 a3 a4 a5 a6 a7
  | 0, a0, a1, a2, a3, a4, a5, a6, a7, q => by cases q
  | n + 1, a0, a1, a2, a3, a4, a5, a6, a7, q => h (nb_lp8 f n) (fun a0 a1 a2 a3 a4 a5 a6 a7 q => nb_w8 h n a0 a1 a2 a3 a4 a5 a6 a7 q) a0 a1 a2 a3 a4 a5 a6 a7 q
theorem nb_i8 {A0 A1 A2 A3 A4 A5 A6 A7 R : Type} {f : (A0 → A1 → A2 → A3 → A4 → A5 → A6 → A7 → Option R) → A0 → A1 → A2 → A3 → A4 → A5 → A6 → A7 → Option R} {r : Option R} (I : A0 → A1 → A2 → A3 → A4 → A5 → A6 → A7 → Prop) (μ : A0 → A1 → A2 → A3 → A4 → A5 → A6 → A7 → Nat) (h : ∀ (ag : A0 → A1 → A2 → A3 → A4 → A5 → A6 → A7 → Option R) (a0 : A0) (a1 : A1) (a2 : A2) (a3 : A3) (a4 : A4) (a5 : A5) (a6 : A6) (a7 : A7), I a0 a1 a2 a3 a4 a5 a6 a7 → (∀ b0 b1 b2 b3 b4 b5 b6 b7, I b0 b1 b2 b3 b4 b5 b6 b7 → μ b0 b1 b2 b3 b4 b5 b6 b7 < μ a0 a1 a2 a3 a4 a5 a6 a7 → ag b0 b1 b2 b3 b4 b5 b6 b7 = r) → f ag a0 a1 a2 a3 a4 a5 a6 a7 = r) : ∀ (n : Nat) (a0 : A0) (a1 : A1) (a2 : A2) (a3 : A3) (a4 : A4) (a5 : A5) (a6 : A6) (a7 : A7), μ a0 a1 a2 a3 a4 a5 a6 a7 < n → I a0 a1 a2 a3 a4 a5 a6 a7 → nb_lp8 f n a0 a1 a2 a3 a4 a5 a6 a7 = r
  | 0, a0, a1, a2, a3, a4, a5, a6, a7, q, _ => by omega
  | n + 1, a0, a1, a2, a3, a4, a5, a6, a7, q, i => h (nb_lp8 f n) a0 a1 a2 a3 a4 a5 a6 a7 i (fun b0 b1 b2 b3 b4 b5 b6 b7 i2 q2 => nb_i8 I μ h n b0 b1 b2 b3 b4 b5 b6 b7 (by omega) i2)
