def sh_X6 : List nb_S := [.inr (6, [none, some (some 1), some (some 2), none, some (some 3)]), .inl (0, 6), .inl (0, 6), .inl (0, 4)]
def s0_X6 : nb_St := fun _ _ => 0
def rmX6_init : Room := { frames := 1, cells := 3, slots := 16, locals := 20 }
def vsX6_init : List Cond := .code yX6_init cX6_init 1 none :: xT
set_option maxHeartbeats 4000000 in
set_option maxRecDepth 100000 in
theorem c_X6_init (l : Launch) (D : va_G) (cA : Nat → ClassId) (h0 sz : Nat) : Met l yX6_init vsX6_init rmX6_init (va_Pc [.ref h0] (fun U => U.heap.size = sz ∧ va_P D vwCl [(h0, .inr (6, [.int 0, .null, .null, .int 0, .null]))] U.heap ∧ va_K D vwCl (nb_ty cA) U ∧ nb_NM U ∧ va_D (fun _ => True) [(h0, .inr (6, [.int 0, .null, .null, .int 0, .null]))])) (va_Qv (fun ad : Nat → Nat => ad 0 = h0) (fun ad t => va_P D vwCl (nb_cs sh_X6 ad cA s0_X6) t.heap ∧ va_K D vwCl (nb_ty cA) t ∧ va_D (va_A [(h0, .inr (6, [.int 0, .null, .null, .int 0, .null]))] sz) (nb_cs sh_X6 ad cA s0_X6)) (va_A [(h0, .inr (6, [.int 0, .null, .null, .int 0, .null]))] sz)) 3 16 (va_A [(h0, .inr (6, [.int 0, .null, .null, .int 0, .null]))] sz) := by
  refine Met.ofW (cc := cX6_init) (maxL := 1) (ret := none) (by decide) rfl ?_
  intro p e s m args below meth c s₁ B hml hv
  obtain ⟨rfl, hsz, hP, hK, hN, hD0⟩ := hv
  have hx := B.exec
  have hb := B.bytes
  have hr := B.returns
  have hts : ∀ w ∈ xT, w.before _ s = true := fun w h9 => atoms_spec (ws := vsX6_init) B.pre w (List.mem_cons_of_mem _ h9)
  have hown : s.vm.findClass RX6 = some m.cls := findClass_of_methodNamed B.named
  have hlocks := B.notSynchronized
  have hin : meth.name = "<init>" := (name_of_methodNamed B.named B.method).1
  subst hsz
  have hD := hD0.self (sz := s.heap.size)
  generalize hAe : va_A [(h0, .inr (6, [.int 0, .null, .null, .int 0, .null]))] s.heap.size = A at hD ⊢
  have hA : ∀ q : Nat, s.heap.size ≤ q → A q := fun q h => by rw [← hAe]; exact Or.inr h
  have hS : va_S A s.heap s.heap [] := va_S.rf
  have hP : va_P D vwCl [(h0, .inr (6, [.int 0, .null, .null, .int 0, .null]))] s.heap := hP
  have hl := lv_entry ([.ref h0]) (n := 1) (Nat.le_of_ble_eq_true rfl)
  rw [lg_entry_eq]
  generalize (lg_sl ([.ref h0]) ++ List.replicate (1 - (lg_sl ([.ref h0])).length) Slot.unset).toArray = ls at hl ⊢
  have hl : lv_has ls 1 [(0, .ref h0)] := hl
  refine lv_aload_n hx hb dX6_init_0 rfl (lv_at hl 0 rfl) ?_
  refine W.objInit hx hb hown (hts _ tw1_52) (hts _ tw1_24) (hts _ tw1_25) rfl (by rw [hml]; exact hl.1) rfl dX6_init_1 (Nat.le_of_ble_eq_true rfl) (Nat.le_of_ble_eq_true rfl) ?_
  refine W.eq (g2 := F0 m 4 ls []) rfl ?_
  refine lv_aload_n hx hb dX6_init_4 rfl (lv_at hl 0 rfl) ?_
  refine lv_iconst (v := (0 : Int32)) hx hb dX6_init_5 (by decide) ?_
  refine va_put (D := D) (ci := 6) (v := .int (0 : Int32)) (ty := .int) (C := RX6) (T := TX6) (N := 5) hx hb hts inT_X6 tyX6 tyX6_ok nmX6 hown hK hP hD hS 0 rfl rfl 0 (by decide) (hts _ tw1_53) (fun _ h9 => h9) rfl (by decide +kernel) rfl rfl (Nat.le_of_ble_eq_true rfl) dX6_init_6 (fun H locs hP hD hS => ?_)
  have hP : va_P D vwCl ((h0, .inr (6, [.int 0, .null, .null, .int 0, .null])) :: ([] : va_W)) H := hP
  have hD : va_D A ((h0, .inr (6, [.int 0, .null, .null, .int 0, .null])) :: ([] : va_W)) := hD
  refine lv_aload_n hx hb dX6_init_9 rfl (lv_at hl 0 rfl) ?_
  refine lv_bipush (v := (6 : Int32)) hx hb dX6_init_10 (by decide) ?_
  refine nb_newi (N' := 6) hx hb (hts _ tw1_40) hK hP hD hS hA (by decide) (by decide) (by decide) (Nat.le_of_ble_eq_true rfl) (Nat.le_of_ble_eq_true rfl) dX6_init_12 (fun q1 H hP hD hS => ?_)
  obtain ⟨R2, eR2⟩ : ∃ z : va_W, z = ([] : va_W) ++ [(q1, .inl (cA 0, 6, .inl (fun _ => 0)))] := ⟨_, rfl⟩
  have hP : va_P D vwCl ((h0, .inr (6, [.int 0, .null, .null, .int 0, .null])) :: R2) H := by rw [eR2]; exact hP
  have hD : va_D A ((h0, .inr (6, [.int 0, .null, .null, .int 0, .null])) :: R2) := by rw [eR2]; exact hD
  refine W.widen (k := 1) (n := 6) (Nat.le_of_ble_eq_true rfl) (Nat.le_of_ble_eq_true rfl) ?_
  refine va_putF (D := D) (ci := 6) (v := .ref q1) (ty := (.array .int)) (C := RX6) (T := TX6) (N := 5) hx hb hts inT_X6 tyX6 tyX6_ok nmX6 hown hK hP hD hS 0 rfl rfl 1 (by decide) (hts _ tw1_57) (fun _ h9 => h9) rfl hin rfl (by decide +kernel) rfl rfl (Nat.le_of_ble_eq_true rfl) dX6_init_14 (fun H locs hP hD hS => ?_)
  have hP : va_P D vwCl ((h0, .inr (6, [.int 0, .ref q1, .null, .int 0, .null])) :: R2) H := hP
  have hD : va_D A ((h0, .inr (6, [.int 0, .ref q1, .null, .int 0, .null])) :: R2) := hD
  refine lv_aload_n hx hb dX6_init_17 rfl (lv_at hl 0 rfl) ?_
  refine lv_bipush (v := (6 : Int32)) hx hb dX6_init_18 (by decide) ?_
  refine nb_newi (N' := 6) hx hb (hts _ tw1_40) hK hP hD hS hA (by decide) (by decide) (by decide) (Nat.le_of_ble_eq_true rfl) (Nat.le_of_ble_eq_true rfl) dX6_init_20 (fun q3 H hP hD hS => ?_)
  obtain ⟨R4, eR4⟩ : ∃ z : va_W, z = R2 ++ [(q3, .inl (cA 0, 6, .inl (fun _ => 0)))] := ⟨_, rfl⟩
  have hP : va_P D vwCl ((h0, .inr (6, [.int 0, .ref q1, .null, .int 0, .null])) :: R4) H := by rw [eR4]; exact hP
  have hD : va_D A ((h0, .inr (6, [.int 0, .ref q1, .null, .int 0, .null])) :: R4) := by rw [eR4]; exact hD
  refine W.widen (k := 2) (n := 12) (Nat.le_of_ble_eq_true rfl) (Nat.le_of_ble_eq_true rfl) ?_
  refine va_putF (D := D) (ci := 6) (v := .ref q3) (ty := (.array .int)) (C := RX6) (T := TX6) (N := 5) hx hb hts inT_X6 tyX6 tyX6_ok nmX6 hown hK hP hD hS 0 rfl rfl 2 (by decide) (hts _ tw1_59) (fun _ h9 => h9) rfl hin rfl (by decide +kernel) rfl rfl (Nat.le_of_ble_eq_true rfl) dX6_init_22 (fun H locs hP hD hS => ?_)
  have hP : va_P D vwCl ((h0, .inr (6, [.int 0, .ref q1, .ref q3, .int 0, .null])) :: R4) H := hP
  have hD : va_D A ((h0, .inr (6, [.int 0, .ref q1, .ref q3, .int 0, .null])) :: R4) := hD
  refine lv_aload_n hx hb dX6_init_25 rfl (lv_at hl 0 rfl) ?_
  refine lv_iconst (v := (0 : Int32)) hx hb dX6_init_26 (by decide) ?_
  refine va_put (D := D) (ci := 6) (v := .int (0 : Int32)) (ty := .int) (C := RX6) (T := TX6) (N := 5) hx hb hts inT_X6 tyX6 tyX6_ok nmX6 hown hK hP hD hS 0 rfl rfl 3 (by decide) (hts _ tw1_61) (fun _ h9 => h9) rfl (by decide +kernel) rfl rfl (Nat.le_of_ble_eq_true rfl) dX6_init_27 (fun H locs hP hD hS => ?_)
  have hP : va_P D vwCl ((h0, .inr (6, [.int 0, .ref q1, .ref q3, .int 0, .null])) :: R4) H := hP
  have hD : va_D A ((h0, .inr (6, [.int 0, .ref q1, .ref q3, .int 0, .null])) :: R4) := hD
  refine lv_aload_n hx hb dX6_init_30 rfl (lv_at hl 0 rfl) ?_
  refine lv_iconst (v := (4 : Int32)) hx hb dX6_init_31 (by decide) ?_
  refine nb_newi (N' := 4) hx hb (hts _ tw1_40) hK hP hD hS hA (by decide) (by decide) (by decide) (Nat.le_of_ble_eq_true rfl) (Nat.le_of_ble_eq_true rfl) dX6_init_32 (fun q5 H hP hD hS => ?_)
  obtain ⟨R6, eR6⟩ : ∃ z : va_W, z = R4 ++ [(q5, .inl (cA 0, 4, .inl (fun _ => 0)))] := ⟨_, rfl⟩
  have hP : va_P D vwCl ((h0, .inr (6, [.int 0, .ref q1, .ref q3, .int 0, .null])) :: R6) H := by rw [eR6]; exact hP
  have hD : va_D A ((h0, .inr (6, [.int 0, .ref q1, .ref q3, .int 0, .null])) :: R6) := by rw [eR6]; exact hD
  refine W.widen (k := 3) (n := 16) (Nat.le_of_ble_eq_true rfl) (Nat.le_of_ble_eq_true rfl) ?_
  refine va_putF (D := D) (ci := 6) (v := .ref q5) (ty := (.array .int)) (C := RX6) (T := TX6) (N := 5) hx hb hts inT_X6 tyX6 tyX6_ok nmX6 hown hK hP hD hS 0 rfl rfl 4 (by decide) (hts _ tw1_65) (fun _ h9 => h9) rfl hin rfl (by decide +kernel) rfl rfl (Nat.le_of_ble_eq_true rfl) dX6_init_34 (fun H locs hP hD hS => ?_)
  have hP : va_P D vwCl ((h0, .inr (6, [.int 0, .ref q1, .ref q3, .int 0, .ref q5])) :: R6) H := hP
  have hD : va_D A ((h0, .inr (6, [.int 0, .ref q1, .ref q3, .int 0, .ref q5])) :: R6) := hD
  have hPu : va_P D vwCl (nb_cs sh_X6 (fun k : Nat => cond (Nat.ble 3 k) (q5) (cond (Nat.ble 2 k) (q3) (cond (Nat.ble 1 k) (q1) (h0)))) cA s0_X6) H := by
    rw [eR6, eR4, eR2] at hP
    exact hP
  have hDu : va_D A (nb_cs sh_X6 (fun k : Nat => cond (Nat.ble 3 k) (q5) (cond (Nat.ble 2 k) (q3) (cond (Nat.ble 1 k) (q1) (h0)))) cA s0_X6) := by
    rw [eR6, eR4, eR2] at hD
    exact hD
  exact W.vret hx hb hr (fun t ht hW => ⟨⟨(fun k : Nat => cond (Nat.ble 3 k) (q5) (cond (Nat.ble 2 k) (q3) (cond (Nat.ble 1 k) (q1) (h0)))), rfl, rfl, by rw [ht]; exact hPu, va_K.moved hW.alike hK, hDu⟩, hS.F ht⟩) hS.2.2 dX6_init_37
def sh_X5 : List nb_S := [.inr (5, [some (some 1), none]), .inl (0, 4)]
def s0_X5 : nb_St := fun _ _ => 0
def rmX5_init : Room := { frames := 1, cells := 1, slots := 4, locals := 20 }
def vsX5_init : List Cond := .code yX5_init cX5_init 1 none :: xT
set_option maxHeartbeats 4000000 in
set_option maxRecDepth 100000 in
theorem c_X5_init (l : Launch) (D : va_G) (cA : Nat → ClassId) (h0 sz : Nat) : Met l yX5_init vsX5_init rmX5_init (va_Pc [.ref h0] (fun U => U.heap.size = sz ∧ va_P D vwCl [(h0, .inr (5, [.null, .int 0]))] U.heap ∧ va_K D vwCl (nb_ty cA) U ∧ nb_NM U ∧ va_D (fun _ => True) [(h0, .inr (5, [.null, .int 0]))])) (va_Qv (fun ad : Nat → Nat => ad 0 = h0) (fun ad t => va_P D vwCl (nb_cs sh_X5 ad cA s0_X5) t.heap ∧ va_K D vwCl (nb_ty cA) t ∧ va_D (va_A [(h0, .inr (5, [.null, .int 0]))] sz) (nb_cs sh_X5 ad cA s0_X5)) (va_A [(h0, .inr (5, [.null, .int 0]))] sz)) 1 4 (va_A [(h0, .inr (5, [.null, .int 0]))] sz) := by
  refine Met.ofW (cc := cX5_init) (maxL := 1) (ret := none) (by decide) rfl ?_
  intro p e s m args below meth c s₁ B hml hv
  obtain ⟨rfl, hsz, hP, hK, hN, hD0⟩ := hv
  have hx := B.exec
  have hb := B.bytes
  have hr := B.returns
  have hts : ∀ w ∈ xT, w.before _ s = true := fun w h9 => atoms_spec (ws := vsX5_init) B.pre w (List.mem_cons_of_mem _ h9)
  have hown : s.vm.findClass RX5 = some m.cls := findClass_of_methodNamed B.named
  have hlocks := B.notSynchronized
  have hin : meth.name = "<init>" := (name_of_methodNamed B.named B.method).1
  subst hsz
  have hD := hD0.self (sz := s.heap.size)
  generalize hAe : va_A [(h0, .inr (5, [.null, .int 0]))] s.heap.size = A at hD ⊢
  have hA : ∀ q : Nat, s.heap.size ≤ q → A q := fun q h => by rw [← hAe]; exact Or.inr h
  have hS : va_S A s.heap s.heap [] := va_S.rf
  have hP : va_P D vwCl [(h0, .inr (5, [.null, .int 0]))] s.heap := hP
  have hl := lv_entry ([.ref h0]) (n := 1) (Nat.le_of_ble_eq_true rfl)
  rw [lg_entry_eq]
  generalize (lg_sl ([.ref h0]) ++ List.replicate (1 - (lg_sl ([.ref h0])).length) Slot.unset).toArray = ls at hl ⊢
  have hl : lv_has ls 1 [(0, .ref h0)] := hl
  refine lv_aload_n hx hb dX5_init_0 rfl (lv_at hl 0 rfl) ?_
  refine W.objInit hx hb hown (hts _ tw1_31) (hts _ tw1_24) (hts _ tw1_25) rfl (by rw [hml]; exact hl.1) rfl dX5_init_1 (Nat.le_of_ble_eq_true rfl) (Nat.le_of_ble_eq_true rfl) ?_
  refine W.eq (g2 := F0 m 4 ls []) rfl ?_
  refine lv_aload_n hx hb dX5_init_4 rfl (lv_at hl 0 rfl) ?_
  refine lv_iconst (v := (4 : Int32)) hx hb dX5_init_5 (by decide) ?_
  refine nb_newi (N' := 4) hx hb (hts _ tw1_40) hK hP hD hS hA (by decide) (by decide) (by decide) (Nat.le_of_ble_eq_true rfl) (Nat.le_of_ble_eq_true rfl) dX5_init_6 (fun q1 H hP hD hS => ?_)
  obtain ⟨R2, eR2⟩ : ∃ z : va_W, z = ([] : va_W) ++ [(q1, .inl (cA 0, 4, .inl (fun _ => 0)))] := ⟨_, rfl⟩
  have hP : va_P D vwCl ((h0, .inr (5, [.null, .int 0])) :: R2) H := by rw [eR2]; exact hP
  have hD : va_D A ((h0, .inr (5, [.null, .int 0])) :: R2) := by rw [eR2]; exact hD
  refine W.widen (k := 1) (n := 4) (Nat.le_of_ble_eq_true rfl) (Nat.le_of_ble_eq_true rfl) ?_
  refine va_putF (D := D) (ci := 5) (v := .ref q1) (ty := (.array .int)) (C := RX5) (T := TX5) (N := 2) hx hb hts inT_X5 tyX5 tyX5_ok nmX5 hown hK hP hD hS 0 rfl rfl 0 (by decide) (hts _ tw1_32) (fun _ h9 => h9) rfl hin rfl (by decide +kernel) rfl rfl (Nat.le_of_ble_eq_true rfl) dX5_init_8 (fun H locs hP hD hS => ?_)
  have hP : va_P D vwCl ((h0, .inr (5, [.ref q1, .int 0])) :: R2) H := hP
  have hD : va_D A ((h0, .inr (5, [.ref q1, .int 0])) :: R2) := hD
  refine lv_aload_n hx hb dX5_init_11 rfl (lv_at hl 0 rfl) ?_
  refine lv_iconst (v := (0 : Int32)) hx hb dX5_init_12 (by decide) ?_
  refine va_put (D := D) (ci := 5) (v := .int (0 : Int32)) (ty := .int) (C := RX5) (T := TX5) (N := 2) hx hb hts inT_X5 tyX5 tyX5_ok nmX5 hown hK hP hD hS 0 rfl rfl 1 (by decide) (hts _ tw1_33) (fun _ h9 => h9) rfl (by decide +kernel) rfl rfl (Nat.le_of_ble_eq_true rfl) dX5_init_13 (fun H locs hP hD hS => ?_)
  have hP : va_P D vwCl ((h0, .inr (5, [.ref q1, .int 0])) :: R2) H := hP
  have hD : va_D A ((h0, .inr (5, [.ref q1, .int 0])) :: R2) := hD
  have hPu : va_P D vwCl (nb_cs sh_X5 (fun k : Nat => cond (Nat.ble 1 k) (q1) (h0)) cA s0_X5) H := by
    rw [eR2] at hP
    exact hP
  have hDu : va_D A (nb_cs sh_X5 (fun k : Nat => cond (Nat.ble 1 k) (q1) (h0)) cA s0_X5) := by
    rw [eR2] at hD
    exact hD
  exact W.vret hx hb hr (fun t ht hW => ⟨⟨(fun k : Nat => cond (Nat.ble 1 k) (q1) (h0)), rfl, rfl, by rw [ht]; exact hPu, va_K.moved hW.alike hK, hDu⟩, hS.F ht⟩) hS.2.2 dX5_init_16
def sh_X2 : List nb_S := [.inr (2, [none, none, some (some 1), some (some 2)]), .inl (0, 3), .inl (0, 3)]
def s0_X2 : nb_St := fun _ _ => 0
def rmX2_init : Room := { frames := 1, cells := 2, slots := 6, locals := 20 }
def vsX2_init : List Cond := .code yX2_init cX2_init 1 none :: xT
set_option maxHeartbeats 4000000 in
set_option maxRecDepth 100000 in
theorem c_X2_init (l : Launch) (D : va_G) (cA : Nat → ClassId) (h0 sz : Nat) : Met l yX2_init vsX2_init rmX2_init (va_Pc [.ref h0] (fun U => U.heap.size = sz ∧ va_P D vwCl [(h0, .inr (2, [.int 0, .int 0, .null, .null]))] U.heap ∧ va_K D vwCl (nb_ty cA) U ∧ nb_NM U ∧ va_D (fun _ => True) [(h0, .inr (2, [.int 0, .int 0, .null, .null]))])) (va_Qv (fun ad : Nat → Nat => ad 0 = h0) (fun ad t => va_P D vwCl (nb_cs sh_X2 ad cA s0_X2) t.heap ∧ va_K D vwCl (nb_ty cA) t ∧ va_D (va_A [(h0, .inr (2, [.int 0, .int 0, .null, .null]))] sz) (nb_cs sh_X2 ad cA s0_X2)) (va_A [(h0, .inr (2, [.int 0, .int 0, .null, .null]))] sz)) 2 6 (va_A [(h0, .inr (2, [.int 0, .int 0, .null, .null]))] sz) := by
  refine Met.ofW (cc := cX2_init) (maxL := 1) (ret := none) (by decide) rfl ?_
  intro p e s m args below meth c s₁ B hml hv
  obtain ⟨rfl, hsz, hP, hK, hN, hD0⟩ := hv
  have hx := B.exec
  have hb := B.bytes
  have hr := B.returns
  have hts : ∀ w ∈ xT, w.before _ s = true := fun w h9 => atoms_spec (ws := vsX2_init) B.pre w (List.mem_cons_of_mem _ h9)
  have hown : s.vm.findClass RX2 = some m.cls := findClass_of_methodNamed B.named
  have hlocks := B.notSynchronized
  have hin : meth.name = "<init>" := (name_of_methodNamed B.named B.method).1
  subst hsz
  have hD := hD0.self (sz := s.heap.size)
  generalize hAe : va_A [(h0, .inr (2, [.int 0, .int 0, .null, .null]))] s.heap.size = A at hD ⊢
  have hA : ∀ q : Nat, s.heap.size ≤ q → A q := fun q h => by rw [← hAe]; exact Or.inr h
  have hS : va_S A s.heap s.heap [] := va_S.rf
  have hP : va_P D vwCl [(h0, .inr (2, [.int 0, .int 0, .null, .null]))] s.heap := hP
  have hl := lv_entry ([.ref h0]) (n := 1) (Nat.le_of_ble_eq_true rfl)
  rw [lg_entry_eq]
  generalize (lg_sl ([.ref h0]) ++ List.replicate (1 - (lg_sl ([.ref h0])).length) Slot.unset).toArray = ls at hl ⊢
  have hl : lv_has ls 1 [(0, .ref h0)] := hl
  refine lv_aload_n hx hb dX2_init_0 rfl (lv_at hl 0 rfl) ?_
  refine W.objInit hx hb hown (hts _ tw1_216) (hts _ tw1_24) (hts _ tw1_25) rfl (by rw [hml]; exact hl.1) rfl dX2_init_1 (Nat.le_of_ble_eq_true rfl) (Nat.le_of_ble_eq_true rfl) ?_
  refine W.eq (g2 := F0 m 4 ls []) rfl ?_
  refine lv_aload_n hx hb dX2_init_4 rfl (lv_at hl 0 rfl) ?_
  refine lv_iconst (v := (0 : Int32)) hx hb dX2_init_5 (by decide) ?_
  refine va_put (D := D) (ci := 2) (v := .int (0 : Int32)) (ty := .boolean) (C := RX2) (T := TX2) (N := 4) hx hb hts inT_X2 tyX2 tyX2_ok nmX2 hown hK hP hD hS 0 rfl rfl 0 (by decide) (hts _ tw1_217) (fun _ h9 => h9) rfl (by decide +kernel) rfl rfl (Nat.le_of_ble_eq_true rfl) dX2_init_6 (fun H locs hP hD hS => ?_)
  have hP : va_P D vwCl ((h0, .inr (2, [.int 0, .int 0, .null, .null])) :: ([] : va_W)) H := hP
  have hD : va_D A ((h0, .inr (2, [.int 0, .int 0, .null, .null])) :: ([] : va_W)) := hD
  refine lv_aload_n hx hb dX2_init_9 rfl (lv_at hl 0 rfl) ?_
  refine lv_iconst (v := (0 : Int32)) hx hb dX2_init_10 (by decide) ?_
  refine va_put (D := D) (ci := 2) (v := .int (0 : Int32)) (ty := .int) (C := RX2) (T := TX2) (N := 4) hx hb hts inT_X2 tyX2 tyX2_ok nmX2 hown hK hP hD hS 0 rfl rfl 1 (by decide) (hts _ tw1_219) (fun _ h9 => h9) rfl (by decide +kernel) rfl rfl (Nat.le_of_ble_eq_true rfl) dX2_init_11 (fun H locs hP hD hS => ?_)
  have hP : va_P D vwCl ((h0, .inr (2, [.int 0, .int 0, .null, .null])) :: ([] : va_W)) H := hP
  have hD : va_D A ((h0, .inr (2, [.int 0, .int 0, .null, .null])) :: ([] : va_W)) := hD
  refine lv_aload_n hx hb dX2_init_14 rfl (lv_at hl 0 rfl) ?_
  refine lv_iconst (v := (3 : Int32)) hx hb dX2_init_15 (by decide) ?_
  refine nb_newi (N' := 3) hx hb (hts _ tw1_40) hK hP hD hS hA (by decide) (by decide) (by decide) (Nat.le_of_ble_eq_true rfl) (Nat.le_of_ble_eq_true rfl) dX2_init_16 (fun q1 H hP hD hS => ?_)
  obtain ⟨R2, eR2⟩ : ∃ z : va_W, z = ([] : va_W) ++ [(q1, .inl (cA 0, 3, .inl (fun _ => 0)))] := ⟨_, rfl⟩
  have hP : va_P D vwCl ((h0, .inr (2, [.int 0, .int 0, .null, .null])) :: R2) H := by rw [eR2]; exact hP
  have hD : va_D A ((h0, .inr (2, [.int 0, .int 0, .null, .null])) :: R2) := by rw [eR2]; exact hD
  refine W.widen (k := 1) (n := 3) (Nat.le_of_ble_eq_true rfl) (Nat.le_of_ble_eq_true rfl) ?_
  refine va_putF (D := D) (ci := 2) (v := .ref q1) (ty := (.array .int)) (C := RX2) (T := TX2) (N := 4) hx hb hts inT_X2 tyX2 tyX2_ok nmX2 hown hK hP hD hS 0 rfl rfl 2 (by decide) (hts _ tw1_221) (fun _ h9 => h9) rfl hin rfl (by decide +kernel) rfl rfl (Nat.le_of_ble_eq_true rfl) dX2_init_18 (fun H locs hP hD hS => ?_)
  have hP : va_P D vwCl ((h0, .inr (2, [.int 0, .int 0, .ref q1, .null])) :: R2) H := hP
  have hD : va_D A ((h0, .inr (2, [.int 0, .int 0, .ref q1, .null])) :: R2) := hD
  refine lv_aload_n hx hb dX2_init_21 rfl (lv_at hl 0 rfl) ?_
  refine lv_iconst (v := (3 : Int32)) hx hb dX2_init_22 (by decide) ?_
  refine nb_newi (N' := 3) hx hb (hts _ tw1_40) hK hP hD hS hA (by decide) (by decide) (by decide) (Nat.le_of_ble_eq_true rfl) (Nat.le_of_ble_eq_true rfl) dX2_init_23 (fun q3 H hP hD hS => ?_)
  obtain ⟨R4, eR4⟩ : ∃ z : va_W, z = R2 ++ [(q3, .inl (cA 0, 3, .inl (fun _ => 0)))] := ⟨_, rfl⟩
  have hP : va_P D vwCl ((h0, .inr (2, [.int 0, .int 0, .ref q1, .null])) :: R4) H := by rw [eR4]; exact hP
  have hD : va_D A ((h0, .inr (2, [.int 0, .int 0, .ref q1, .null])) :: R4) := by rw [eR4]; exact hD
  refine W.widen (k := 2) (n := 6) (Nat.le_of_ble_eq_true rfl) (Nat.le_of_ble_eq_true rfl) ?_
  refine va_putF (D := D) (ci := 2) (v := .ref q3) (ty := (.array .int)) (C := RX2) (T := TX2) (N := 4) hx hb hts inT_X2 tyX2 tyX2_ok nmX2 hown hK hP hD hS 0 rfl rfl 3 (by decide) (hts _ tw1_222) (fun _ h9 => h9) rfl hin rfl (by decide +kernel) rfl rfl (Nat.le_of_ble_eq_true rfl) dX2_init_25 (fun H locs hP hD hS => ?_)
  have hP : va_P D vwCl ((h0, .inr (2, [.int 0, .int 0, .ref q1, .ref q3])) :: R4) H := hP
  have hD : va_D A ((h0, .inr (2, [.int 0, .int 0, .ref q1, .ref q3])) :: R4) := hD
  have hPu : va_P D vwCl (nb_cs sh_X2 (fun k : Nat => cond (Nat.ble 2 k) (q3) (cond (Nat.ble 1 k) (q1) (h0))) cA s0_X2) H := by
    rw [eR4, eR2] at hP
    exact hP
  have hDu : va_D A (nb_cs sh_X2 (fun k : Nat => cond (Nat.ble 2 k) (q3) (cond (Nat.ble 1 k) (q1) (h0))) cA s0_X2) := by
    rw [eR4, eR2] at hD
    exact hD
  exact W.vret hx hb hr (fun t ht hW => ⟨⟨(fun k : Nat => cond (Nat.ble 2 k) (q3) (cond (Nat.ble 1 k) (q1) (h0))), rfl, rfl, by rw [ht]; exact hPu, va_K.moved hW.alike hK, hDu⟩, hS.F ht⟩) hS.2.2 dX2_init_28
def sh_X1 : List nb_S := [.inr (1, [none, none, some (some 1), some (some 2), some (some 3), some (some 4), none, none, none]), .inl (0, 4), .inl (0, 4), .inl (0, 4), .inl (0, 4)]
def s0_X1 : nb_St := fun _ _ => 0
def rmX1_init : Room := { frames := 1, cells := 4, slots := 16, locals := 20 }
def vsX1_init : List Cond := .code yX1_init cX1_init 1 none :: xT
set_option maxHeartbeats 4000000 in
set_option maxRecDepth 100000 in
theorem c_X1_init (l : Launch) (D : va_G) (cA : Nat → ClassId) (h0 sz : Nat) : Met l yX1_init vsX1_init rmX1_init (va_Pc [.ref h0] (fun U => U.heap.size = sz ∧ va_P D vwCl [(h0, .inr (1, [.int 0, .int 0, .null, .null, .null, .null, .int 0, .int 0, .int 0]))] U.heap ∧ va_K D vwCl (nb_ty cA) U ∧ nb_NM U ∧ va_D (fun _ => True) [(h0, .inr (1, [.int 0, .int 0, .null, .null, .null, .null, .int 0, .int 0, .int 0]))])) (va_Qv (fun ad : Nat → Nat => ad 0 = h0) (fun ad t => va_P D vwCl (nb_cs sh_X1 ad cA s0_X1) t.heap ∧ va_K D vwCl (nb_ty cA) t ∧ va_D (va_A [(h0, .inr (1, [.int 0, .int 0, .null, .null, .null, .null, .int 0, .int 0, .int 0]))] sz) (nb_cs sh_X1 ad cA s0_X1)) (va_A [(h0, .inr (1, [.int 0, .int 0, .null, .null, .null, .null, .int 0, .int 0, .int 0]))] sz)) 4 16 (va_A [(h0, .inr (1, [.int 0, .int 0, .null, .null, .null, .null, .int 0, .int 0, .int 0]))] sz) := by
  refine Met.ofW (cc := cX1_init) (maxL := 1) (ret := none) (by decide) rfl ?_
  intro p e s m args below meth c s₁ B hml hv
  obtain ⟨rfl, hsz, hP, hK, hN, hD0⟩ := hv
  have hx := B.exec
  have hb := B.bytes
  have hr := B.returns
  have hts : ∀ w ∈ xT, w.before _ s = true := fun w h9 => atoms_spec (ws := vsX1_init) B.pre w (List.mem_cons_of_mem _ h9)
  have hown : s.vm.findClass RX1 = some m.cls := findClass_of_methodNamed B.named
  have hlocks := B.notSynchronized
  have hin : meth.name = "<init>" := (name_of_methodNamed B.named B.method).1
  subst hsz
  have hD := hD0.self (sz := s.heap.size)
  generalize hAe : va_A [(h0, .inr (1, [.int 0, .int 0, .null, .null, .null, .null, .int 0, .int 0, .int 0]))] s.heap.size = A at hD ⊢
  have hA : ∀ q : Nat, s.heap.size ≤ q → A q := fun q h => by rw [← hAe]; exact Or.inr h
  have hS : va_S A s.heap s.heap [] := va_S.rf
  have hP : va_P D vwCl [(h0, .inr (1, [.int 0, .int 0, .null, .null, .null, .null, .int 0, .int 0, .int 0]))] s.heap := hP
  have hl := lv_entry ([.ref h0]) (n := 1) (Nat.le_of_ble_eq_true rfl)
  rw [lg_entry_eq]
  generalize (lg_sl ([.ref h0]) ++ List.replicate (1 - (lg_sl ([.ref h0])).length) Slot.unset).toArray = ls at hl ⊢
  have hl : lv_has ls 1 [(0, .ref h0)] := hl
  refine lv_aload_n hx hb dX1_init_0 rfl (lv_at hl 0 rfl) ?_
  refine W.objInit hx hb hown (hts _ tw1_237) (hts _ tw1_24) (hts _ tw1_25) rfl (by rw [hml]; exact hl.1) rfl dX1_init_1 (Nat.le_of_ble_eq_true rfl) (Nat.le_of_ble_eq_true rfl) ?_
  refine W.eq (g2 := F0 m 4 ls []) rfl ?_
  refine lv_aload_n hx hb dX1_init_4 rfl (lv_at hl 0 rfl) ?_
  refine lv_iconst (v := (0 : Int32)) hx hb dX1_init_5 (by decide) ?_
  refine va_put (D := D) (ci := 1) (v := .int (0 : Int32)) (ty := .boolean) (C := RX1) (T := TX1) (N := 9) hx hb hts inT_X1 tyX1 tyX1_ok nmX1 hown hK hP hD hS 0 rfl rfl 0 (by decide) (hts _ tw1_238) (fun _ h9 => h9) rfl (by decide +kernel) rfl rfl (Nat.le_of_ble_eq_true rfl) dX1_init_6 (fun H locs hP hD hS => ?_)
  have hP : va_P D vwCl ((h0, .inr (1, [.int 0, .int 0, .null, .null, .null, .null, .int 0, .int 0, .int 0])) :: ([] : va_W)) H := hP
  have hD : va_D A ((h0, .inr (1, [.int 0, .int 0, .null, .null, .null, .null, .int 0, .int 0, .int 0])) :: ([] : va_W)) := hD
  refine lv_aload_n hx hb dX1_init_9 rfl (lv_at hl 0 rfl) ?_
  refine lv_iconst (v := (0 : Int32)) hx hb dX1_init_10 (by decide) ?_
  refine va_put (D := D) (ci := 1) (v := .int (0 : Int32)) (ty := .int) (C := RX1) (T := TX1) (N := 9) hx hb hts inT_X1 tyX1 tyX1_ok nmX1 hown hK hP hD hS 0 rfl rfl 1 (by decide) (hts _ tw1_239) (fun _ h9 => h9) rfl (by decide +kernel) rfl rfl (Nat.le_of_ble_eq_true rfl) dX1_init_11 (fun H locs hP hD hS => ?_)
  have hP : va_P D vwCl ((h0, .inr (1, [.int 0, .int 0, .null, .null, .null, .null, .int 0, .int 0, .int 0])) :: ([] : va_W)) H := hP
  have hD : va_D A ((h0, .inr (1, [.int 0, .int 0, .null, .null, .null, .null, .int 0, .int 0, .int 0])) :: ([] : va_W)) := hD
  refine lv_aload_n hx hb dX1_init_14 rfl (lv_at hl 0 rfl) ?_
  refine lv_iconst (v := (4 : Int32)) hx hb dX1_init_15 (by decide) ?_
  refine nb_newi (N' := 4) hx hb (hts _ tw1_40) hK hP hD hS hA (by decide) (by decide) (by decide) (Nat.le_of_ble_eq_true rfl) (Nat.le_of_ble_eq_true rfl) dX1_init_16 (fun q1 H hP hD hS => ?_)
  obtain ⟨R2, eR2⟩ : ∃ z : va_W, z = ([] : va_W) ++ [(q1, .inl (cA 0, 4, .inl (fun _ => 0)))] := ⟨_, rfl⟩
  have hP : va_P D vwCl ((h0, .inr (1, [.int 0, .int 0, .null, .null, .null, .null, .int 0, .int 0, .int 0])) :: R2) H := by rw [eR2]; exact hP
  have hD : va_D A ((h0, .inr (1, [.int 0, .int 0, .null, .null, .null, .null, .int 0, .int 0, .int 0])) :: R2) := by rw [eR2]; exact hD
  refine W.widen (k := 1) (n := 4) (Nat.le_of_ble_eq_true rfl) (Nat.le_of_ble_eq_true rfl) ?_
  refine va_putF (D := D) (ci := 1) (v := .ref q1) (ty := (.array .int)) (C := RX1) (T := TX1) (N := 9) hx hb hts inT_X1 tyX1 tyX1_ok nmX1 hown hK hP hD hS 0 rfl rfl 2 (by decide) (hts _ tw2_1) (fun _ h9 => h9) rfl hin rfl (by decide +kernel) rfl rfl (Nat.le_of_ble_eq_true rfl) dX1_init_18 (fun H locs hP hD hS => ?_)
  have hP : va_P D vwCl ((h0, .inr (1, [.int 0, .int 0, .ref q1, .null, .null, .null, .int 0, .int 0, .int 0])) :: R2) H := hP
  have hD : va_D A ((h0, .inr (1, [.int 0, .int 0, .ref q1, .null, .null, .null, .int 0, .int 0, .int 0])) :: R2) := hD
  refine lv_aload_n hx hb dX1_init_21 rfl (lv_at hl 0 rfl) ?_
  refine lv_iconst (v := (4 : Int32)) hx hb dX1_init_22 (by decide) ?_
  refine nb_newi (N' := 4) hx hb (hts _ tw1_40) hK hP hD hS hA (by decide) (by decide) (by decide) (Nat.le_of_ble_eq_true rfl) (Nat.le_of_ble_eq_true rfl) dX1_init_23 (fun q3 H hP hD hS => ?_)
  obtain ⟨R4, eR4⟩ : ∃ z : va_W, z = R2 ++ [(q3, .inl (cA 0, 4, .inl (fun _ => 0)))] := ⟨_, rfl⟩
  have hP : va_P D vwCl ((h0, .inr (1, [.int 0, .int 0, .ref q1, .null, .null, .null, .int 0, .int 0, .int 0])) :: R4) H := by rw [eR4]; exact hP
  have hD : va_D A ((h0, .inr (1, [.int 0, .int 0, .ref q1, .null, .null, .null, .int 0, .int 0, .int 0])) :: R4) := by rw [eR4]; exact hD
  refine W.widen (k := 2) (n := 8) (Nat.le_of_ble_eq_true rfl) (Nat.le_of_ble_eq_true rfl) ?_
  refine va_putF (D := D) (ci := 1) (v := .ref q3) (ty := (.array .int)) (C := RX1) (T := TX1) (N := 9) hx hb hts inT_X1 tyX1 tyX1_ok nmX1 hown hK hP hD hS 0 rfl rfl 3 (by decide) (hts _ tw2_2) (fun _ h9 => h9) rfl hin rfl (by decide +kernel) rfl rfl (Nat.le_of_ble_eq_true rfl) dX1_init_25 (fun H locs hP hD hS => ?_)
  have hP : va_P D vwCl ((h0, .inr (1, [.int 0, .int 0, .ref q1, .ref q3, .null, .null, .int 0, .int 0, .int 0])) :: R4) H := hP
  have hD : va_D A ((h0, .inr (1, [.int 0, .int 0, .ref q1, .ref q3, .null, .null, .int 0, .int 0, .int 0])) :: R4) := hD
  refine lv_aload_n hx hb dX1_init_28 rfl (lv_at hl 0 rfl) ?_
  refine lv_iconst (v := (4 : Int32)) hx hb dX1_init_29 (by decide) ?_
  refine nb_newi (N' := 4) hx hb (hts _ tw1_40) hK hP hD hS hA (by decide) (by decide) (by decide) (Nat.le_of_ble_eq_true rfl) (Nat.le_of_ble_eq_true rfl) dX1_init_30 (fun q5 H hP hD hS => ?_)
  obtain ⟨R6, eR6⟩ : ∃ z : va_W, z = R4 ++ [(q5, .inl (cA 0, 4, .inl (fun _ => 0)))] := ⟨_, rfl⟩
  have hP : va_P D vwCl ((h0, .inr (1, [.int 0, .int 0, .ref q1, .ref q3, .null, .null, .int 0, .int 0, .int 0])) :: R6) H := by rw [eR6]; exact hP
  have hD : va_D A ((h0, .inr (1, [.int 0, .int 0, .ref q1, .ref q3, .null, .null, .int 0, .int 0, .int 0])) :: R6) := by rw [eR6]; exact hD
  refine W.widen (k := 3) (n := 12) (Nat.le_of_ble_eq_true rfl) (Nat.le_of_ble_eq_true rfl) ?_
  refine va_putF (D := D) (ci := 1) (v := .ref q5) (ty := (.array .int)) (C := RX1) (T := TX1) (N := 9) hx hb hts inT_X1 tyX1 tyX1_ok nmX1 hown hK hP hD hS 0 rfl rfl 4 (by decide) (hts _ tw2_3) (fun _ h9 => h9) rfl hin rfl (by decide +kernel) rfl rfl (Nat.le_of_ble_eq_true rfl) dX1_init_32 (fun H locs hP hD hS => ?_)
  have hP : va_P D vwCl ((h0, .inr (1, [.int 0, .int 0, .ref q1, .ref q3, .ref q5, .null, .int 0, .int 0, .int 0])) :: R6) H := hP
  have hD : va_D A ((h0, .inr (1, [.int 0, .int 0, .ref q1, .ref q3, .ref q5, .null, .int 0, .int 0, .int 0])) :: R6) := hD
  refine lv_aload_n hx hb dX1_init_35 rfl (lv_at hl 0 rfl) ?_
  refine lv_iconst (v := (4 : Int32)) hx hb dX1_init_36 (by decide) ?_
  refine nb_newi (N' := 4) hx hb (hts _ tw1_40) hK hP hD hS hA (by decide) (by decide) (by decide) (Nat.le_of_ble_eq_true rfl) (Nat.le_of_ble_eq_true rfl) dX1_init_37 (fun q7 H hP hD hS => ?_)
  obtain ⟨R8, eR8⟩ : ∃ z : va_W, z = R6 ++ [(q7, .inl (cA 0, 4, .inl (fun _ => 0)))] := ⟨_, rfl⟩
  have hP : va_P D vwCl ((h0, .inr (1, [.int 0, .int 0, .ref q1, .ref q3, .ref q5, .null, .int 0, .int 0, .int 0])) :: R8) H := by rw [eR8]; exact hP
  have hD : va_D A ((h0, .inr (1, [.int 0, .int 0, .ref q1, .ref q3, .ref q5, .null, .int 0, .int 0, .int 0])) :: R8) := by rw [eR8]; exact hD
  refine W.widen (k := 4) (n := 16) (Nat.le_of_ble_eq_true rfl) (Nat.le_of_ble_eq_true rfl) ?_
  refine va_putF (D := D) (ci := 1) (v := .ref q7) (ty := (.array .int)) (C := RX1) (T := TX1) (N := 9) hx hb hts inT_X1 tyX1 tyX1_ok nmX1 hown hK hP hD hS 0 rfl rfl 5 (by decide) (hts _ tw2_4) (fun _ h9 => h9) rfl hin rfl (by decide +kernel) rfl rfl (Nat.le_of_ble_eq_true rfl) dX1_init_39 (fun H locs hP hD hS => ?_)
  have hP : va_P D vwCl ((h0, .inr (1, [.int 0, .int 0, .ref q1, .ref q3, .ref q5, .ref q7, .int 0, .int 0, .int 0])) :: R8) H := hP
  have hD : va_D A ((h0, .inr (1, [.int 0, .int 0, .ref q1, .ref q3, .ref q5, .ref q7, .int 0, .int 0, .int 0])) :: R8) := hD
  refine lv_aload_n hx hb dX1_init_42 rfl (lv_at hl 0 rfl) ?_
  refine lv_iconst (v := (0 : Int32)) hx hb dX1_init_43 (by decide) ?_
  refine va_put (D := D) (ci := 1) (v := .int (0 : Int32)) (ty := .int) (C := RX1) (T := TX1) (N := 9) hx hb hts inT_X1 tyX1 tyX1_ok nmX1 hown hK hP hD hS 0 rfl rfl 6 (by decide) (hts _ tw2_6) (fun _ h9 => h9) rfl (by decide +kernel) rfl rfl (Nat.le_of_ble_eq_true rfl) dX1_init_44 (fun H locs hP hD hS => ?_)
  have hP : va_P D vwCl ((h0, .inr (1, [.int 0, .int 0, .ref q1, .ref q3, .ref q5, .ref q7, .int 0, .int 0, .int 0])) :: R8) H := hP
  have hD : va_D A ((h0, .inr (1, [.int 0, .int 0, .ref q1, .ref q3, .ref q5, .ref q7, .int 0, .int 0, .int 0])) :: R8) := hD
  refine lv_aload_n hx hb dX1_init_47 rfl (lv_at hl 0 rfl) ?_
  refine lv_iconst (v := (0 : Int32)) hx hb dX1_init_48 (by decide) ?_
  refine va_put (D := D) (ci := 1) (v := .int (0 : Int32)) (ty := .int) (C := RX1) (T := TX1) (N := 9) hx hb hts inT_X1 tyX1 tyX1_ok nmX1 hown hK hP hD hS 0 rfl rfl 7 (by decide) (hts _ tw2_8) (fun _ h9 => h9) rfl (by decide +kernel) rfl rfl (Nat.le_of_ble_eq_true rfl) dX1_init_49 (fun H locs hP hD hS => ?_)
  have hP : va_P D vwCl ((h0, .inr (1, [.int 0, .int 0, .ref q1, .ref q3, .ref q5, .ref q7, .int 0, .int 0, .int 0])) :: R8) H := hP
  have hD : va_D A ((h0, .inr (1, [.int 0, .int 0, .ref q1, .ref q3, .ref q5, .ref q7, .int 0, .int 0, .int 0])) :: R8) := hD
  refine lv_aload_n hx hb dX1_init_52 rfl (lv_at hl 0 rfl) ?_
  refine lv_iconst (v := (0 : Int32)) hx hb dX1_init_53 (by decide) ?_
  refine va_put (D := D) (ci := 1) (v := .int (0 : Int32)) (ty := .int) (C := RX1) (T := TX1) (N := 9) hx hb hts inT_X1 tyX1 tyX1_ok nmX1 hown hK hP hD hS 0 rfl rfl 8 (by decide) (hts _ tw2_10) (fun _ h9 => h9) rfl (by decide +kernel) rfl rfl (Nat.le_of_ble_eq_true rfl) dX1_init_54 (fun H locs hP hD hS => ?_)
  have hP : va_P D vwCl ((h0, .inr (1, [.int 0, .int 0, .ref q1, .ref q3, .ref q5, .ref q7, .int 0, .int 0, .int 0])) :: R8) H := hP
  have hD : va_D A ((h0, .inr (1, [.int 0, .int 0, .ref q1, .ref q3, .ref q5, .ref q7, .int 0, .int 0, .int 0])) :: R8) := hD
  have hPu : va_P D vwCl (nb_cs sh_X1 (fun k : Nat => cond (Nat.ble 4 k) (q7) (cond (Nat.ble 3 k) (q5) (cond (Nat.ble 2 k) (q3) (cond (Nat.ble 1 k) (q1) (h0))))) cA s0_X1) H := by
    rw [eR8, eR6, eR4, eR2] at hP
    exact hP
  have hDu : va_D A (nb_cs sh_X1 (fun k : Nat => cond (Nat.ble 4 k) (q7) (cond (Nat.ble 3 k) (q5) (cond (Nat.ble 2 k) (q3) (cond (Nat.ble 1 k) (q1) (h0))))) cA s0_X1) := by
    rw [eR8, eR6, eR4, eR2] at hD
    exact hD
  exact W.vret hx hb hr (fun t ht hW => ⟨⟨(fun k : Nat => cond (Nat.ble 4 k) (q7) (cond (Nat.ble 3 k) (q5) (cond (Nat.ble 2 k) (q3) (cond (Nat.ble 1 k) (q1) (h0))))), rfl, rfl, by rw [ht]; exact hPu, va_K.moved hW.alike hK, hDu⟩, hS.F ht⟩) hS.2.2 dX1_init_57
def sh_X3 : List nb_S := [.inr (3, [some (some 1), none, some (some 2), some (some 6), none]), .inl (2, 8), .inr (6, [none, some (some 3), some (some 4), none, some (some 5)]), .inl (0, 6), .inl (0, 6), .inl (0, 4), .inr (6, [none, some (some 7), some (some 8), none, some (some 9)]), .inl (0, 6), .inl (0, 6), .inl (0, 4)]
def s0_X3 : nb_St := fun k j => cond (Nat.ble 6 k) (s0_X6 (k - 6) j) (cond (Nat.ble 2 k) (s0_X6 (k - 2) j) (cond (Nat.ble 1 k) (0) (0)))
def rmX3_init : Room := { frames := 2, cells := 9, slots := 50, locals := 40 }
def vsX3_init : List Cond := .code yX3_init cX3_init 1 none :: xT
set_option maxHeartbeats 4000000 in
set_option maxRecDepth 100000 in
theorem c_X3_init (l : Launch) (D : va_G) (cA : Nat → ClassId) (h0 sz : Nat) : Met l yX3_init vsX3_init rmX3_init (va_Pc [.ref h0] (fun U => U.heap.size = sz ∧ va_P D vwCl [(h0, .inr (3, [.null, .int 0, .null, .null, .int 0]))] U.heap ∧ va_K D vwCl (nb_ty cA) U ∧ nb_NM U ∧ va_D (fun _ => True) [(h0, .inr (3, [.null, .int 0, .null, .null, .int 0]))])) (va_Qv (fun ad : Nat → Nat => ad 0 = h0) (fun ad t => va_P D vwCl (nb_cs sh_X3 ad cA s0_X3) t.heap ∧ va_K D vwCl (nb_ty cA) t ∧ va_D (va_A [(h0, .inr (3, [.null, .int 0, .null, .null, .int 0]))] sz) (nb_cs sh_X3 ad cA s0_X3)) (va_A [(h0, .inr (3, [.null, .int 0, .null, .null, .int 0]))] sz)) 9 50 (va_A [(h0, .inr (3, [.null, .int 0, .null, .null, .int 0]))] sz) := by
  refine Met.ofW (cc := cX3_init) (maxL := 1) (ret := none) (by decide) rfl ?_
  intro p e s m args below meth c s₁ B hml hv
  obtain ⟨rfl, hsz, hP, hK, hN, hD0⟩ := hv
  have hx := B.exec
  have hb := B.bytes
  have hr := B.returns
  have hts : ∀ w ∈ xT, w.before _ s = true := fun w h9 => atoms_spec (ws := vsX3_init) B.pre w (List.mem_cons_of_mem _ h9)
  have hown : s.vm.findClass RX3 = some m.cls := findClass_of_methodNamed B.named
  have hlocks := B.notSynchronized
  have hin : meth.name = "<init>" := (name_of_methodNamed B.named B.method).1
  subst hsz
  have hD := hD0.self (sz := s.heap.size)
  generalize hAe : va_A [(h0, .inr (3, [.null, .int 0, .null, .null, .int 0]))] s.heap.size = A at hD ⊢
  have hA : ∀ q : Nat, s.heap.size ≤ q → A q := fun q h => by rw [← hAe]; exact Or.inr h
  have hS : va_S A s.heap s.heap [] := va_S.rf
  have hP : va_P D vwCl [(h0, .inr (3, [.null, .int 0, .null, .null, .int 0]))] s.heap := hP
  have hl := lv_entry ([.ref h0]) (n := 1) (Nat.le_of_ble_eq_true rfl)
  rw [lg_entry_eq]
  generalize (lg_sl ([.ref h0]) ++ List.replicate (1 - (lg_sl ([.ref h0])).length) Slot.unset).toArray = ls at hl ⊢
  have hl : lv_has ls 1 [(0, .ref h0)] := hl
  refine lv_aload_n hx hb dX3_init_0 rfl (lv_at hl 0 rfl) ?_
  refine W.objInit hx hb hown (hts _ tw2_36) (hts _ tw1_24) (hts _ tw1_25) rfl (by rw [hml]; exact hl.1) rfl dX3_init_1 (Nat.le_of_ble_eq_true rfl) (Nat.le_of_ble_eq_true rfl) ?_
  refine W.eq (g2 := F0 m 4 ls []) rfl ?_
  refine lv_aload_n hx hb dX3_init_4 rfl (lv_at hl 0 rfl) ?_
  refine lv_bipush (v := (8 : Int32)) hx hb dX3_init_5 (by decide) ?_
  refine nb_newz (N' := 8) hx hb (hts _ tw2_57) hK hP hD hS hA (by decide) (by decide) (by decide) (Nat.le_of_ble_eq_true rfl) (Nat.le_of_ble_eq_true rfl) dX3_init_7 (fun q1 H hP hD hS => ?_)
  obtain ⟨R2, eR2⟩ : ∃ z : va_W, z = ([] : va_W) ++ [(q1, .inl (cA 2, 8, .inl (fun _ => 0)))] := ⟨_, rfl⟩
  have hP : va_P D vwCl ((h0, .inr (3, [.null, .int 0, .null, .null, .int 0])) :: R2) H := by rw [eR2]; exact hP
  have hD : va_D A ((h0, .inr (3, [.null, .int 0, .null, .null, .int 0])) :: R2) := by rw [eR2]; exact hD
  refine W.widen (k := 1) (n := 8) (Nat.le_of_ble_eq_true rfl) (Nat.le_of_ble_eq_true rfl) ?_
  refine va_putF (D := D) (ci := 3) (v := .ref q1) (ty := (.array .boolean)) (C := RX3) (T := TX3) (N := 5) hx hb hts inT_X3 tyX3 tyX3_ok nmX3 hown hK hP hD hS 0 rfl rfl 0 (by decide) (hts _ tw2_39) (fun _ h9 => h9) rfl hin rfl (by decide +kernel) rfl rfl (Nat.le_of_ble_eq_true rfl) dX3_init_9 (fun H locs hP hD hS => ?_)
  have hP : va_P D vwCl ((h0, .inr (3, [.ref q1, .int 0, .null, .null, .int 0])) :: R2) H := hP
  have hD : va_D A ((h0, .inr (3, [.ref q1, .int 0, .null, .null, .int 0])) :: R2) := hD
  refine lv_aload_n hx hb dX3_init_12 rfl (lv_at hl 0 rfl) ?_
  refine lv_iconst (v := (0 : Int32)) hx hb dX3_init_13 (by decide) ?_
  refine va_put (D := D) (ci := 3) (v := .int (0 : Int32)) (ty := .int) (C := RX3) (T := TX3) (N := 5) hx hb hts inT_X3 tyX3 tyX3_ok nmX3 hown hK hP hD hS 0 rfl rfl 1 (by decide) (hts _ tw2_40) (fun _ h9 => h9) rfl (by decide +kernel) rfl rfl (Nat.le_of_ble_eq_true rfl) dX3_init_14 (fun H locs hP hD hS => ?_)
  have hP : va_P D vwCl ((h0, .inr (3, [.ref q1, .int 0, .null, .null, .int 0])) :: R2) H := hP
  have hD : va_D A ((h0, .inr (3, [.ref q1, .int 0, .null, .null, .int 0])) :: R2) := hD
  refine lv_aload_n hx hb dX3_init_17 rfl (lv_at hl 0 rfl) ?_
  refine va_new (ci := 6) (fs := [.int 0, .null, .null, .int 0, .null]) (C := RX6) (T := TX6) (N := 5) hx hb hts inT_X6 tyX6 tyX6_ok hown (hts _ tw2_37) (hts _ tw1_48) (hts _ tw1_4) hK hP hD hS hA rfl (fun j hj => by rcases (show j = 0 ∨ j = 1 ∨ j = 2 ∨ j = 3 ∨ j = 4 by omega) with rfl | rfl | rfl | rfl | rfl <;> rfl) (Nat.le_of_ble_eq_true rfl) (Nat.le_of_ble_eq_true rfl) dX3_init_18 (fun q3 H hP hD hS => ?_)
  refine W.widen (k := 2) (n := 13) (Nat.le_of_ble_eq_true rfl) (Nat.le_of_ble_eq_true rfl) ?_
  refine lv_dup hx hb dX3_init_21 rfl ?_
  have hP : va_P D vwCl (((h0, .inr (3, [.ref q1, .int 0, .null, .null, .int 0])) :: R2) ++ [(q3, .inr (6, [.int 0, .null, .null, .int 0, .null]))]) H := hP
  have hD : va_D A (((h0, .inr (3, [.ref q1, .int 0, .null, .null, .int 0])) :: R2) ++ [(q3, .inr (6, [.int 0, .null, .null, .int 0, .null]))]) := hD
  have hPc := nb_lastP hP
  have hDc := nb_lastD hD
  have hFc := nb_freeL hD hS hA
  refine va_callv (va_runIN (As := []) (rest := [.ref q3, .ref h0]) ⟨hx, hb, hml, hown, hts⟩ (c_X6_init l D cA q3 H.size) ⟨va_cnB (host := "NobodyFirst") 0 hts (xg_P tw1_51) rfl rfl rfl (hN ("NobodyFirst$History", 21, yX6_init, "NobodyFirst") (by decide +kernel)) (hts _ tw1_4) (by decide +kernel) ⟨Nat.le_of_ble_eq_true rfl, Nat.le_of_ble_eq_true rfl⟩, rfl, hts _ tw1_50⟩ (nb_preI hK hN hPc hDc) rfl rfl hl.1 rfl (lv_room (Nat.le_of_ble_eq_true rfl)) dX3_init_22 ⟨Nat.le_of_ble_eq_true rfl, Nat.le_of_ble_eq_true rfl⟩) hS (fun q _ h => hFc q h) hFc (fun ad4 t H1 locs ht hvm hw hB hz1 hk1 hS => ?_)
  have hw : ad4 0 = q3 := hw
  subst hw
  obtain ⟨hP1, hK1, hD1⟩ := hB
  rw [ht] at hP1
  obtain ⟨hP, hD⟩ := nb_joinL hP hD hk1 hFc hP1 hD1
  generalize H1 = H at hP hS ⊢
  obtain ⟨R5, eR5⟩ : ∃ z : va_W, z = R2 ++ nb_cs sh_X6 ad4 cA s0_X6 := ⟨_, rfl⟩
  have hP : va_P D vwCl ((h0, .inr (3, [.ref q1, .int 0, .null, .null, .int 0])) :: R5) H := by rw [eR5]; exact hP
  have hD : va_D A ((h0, .inr (3, [.ref q1, .int 0, .null, .null, .int 0])) :: R5) := by rw [eR5]; exact hD
  refine W.widen (k := 5) (n := 29) (Nat.le_of_ble_eq_true rfl) (Nat.le_of_ble_eq_true rfl) ?_
  refine va_putF (D := D) (ci := 3) (v := .ref (ad4 0)) (ty := (.object "NobodyFirst$Told")) (C := RX3) (T := TX3) (N := 5) hx hb hts inT_X3 tyX3 tyX3_ok nmX3 hown hK hP hD hS 0 rfl rfl 2 (by decide) (hts _ tw2_42) (fun _ h9 => h9) rfl hin rfl (by decide +kernel) rfl rfl (Nat.le_of_ble_eq_true rfl) dX3_init_25 (fun H locs hP hD hS => ?_)
  have hP : va_P D vwCl ((h0, .inr (3, [.ref q1, .int 0, .ref (ad4 0), .null, .int 0])) :: R5) H := hP
  have hD : va_D A ((h0, .inr (3, [.ref q1, .int 0, .ref (ad4 0), .null, .int 0])) :: R5) := hD
  refine lv_aload_n hx hb dX3_init_28 rfl (lv_at hl 0 rfl) ?_
  refine va_new (ci := 6) (fs := [.int 0, .null, .null, .int 0, .null]) (C := RX6) (T := TX6) (N := 5) hx hb hts inT_X6 tyX6 tyX6_ok hown (hts _ tw2_37) (hts _ tw1_48) (hts _ tw1_4) hK hP hD hS hA rfl (fun j hj => by rcases (show j = 0 ∨ j = 1 ∨ j = 2 ∨ j = 3 ∨ j = 4 by omega) with rfl | rfl | rfl | rfl | rfl <;> rfl) (Nat.le_of_ble_eq_true rfl) (Nat.le_of_ble_eq_true rfl) dX3_init_29 (fun q6 H hP hD hS => ?_)
  refine W.widen (k := 6) (n := 34) (Nat.le_of_ble_eq_true rfl) (Nat.le_of_ble_eq_true rfl) ?_
  refine lv_dup hx hb dX3_init_32 rfl ?_
  have hP : va_P D vwCl (((h0, .inr (3, [.ref q1, .int 0, .ref (ad4 0), .null, .int 0])) :: R5) ++ [(q6, .inr (6, [.int 0, .null, .null, .int 0, .null]))]) H := hP
  have hD : va_D A (((h0, .inr (3, [.ref q1, .int 0, .ref (ad4 0), .null, .int 0])) :: R5) ++ [(q6, .inr (6, [.int 0, .null, .null, .int 0, .null]))]) := hD
  have hPc := nb_lastP hP
  have hDc := nb_lastD hD
  have hFc := nb_freeL hD hS hA
  refine va_callv (va_runIN (As := []) (rest := [.ref q6, .ref h0]) ⟨hx, hb, hml, hown, hts⟩ (c_X6_init l D cA q6 H.size) ⟨va_cnB (host := "NobodyFirst") 0 hts (xg_P tw1_51) rfl rfl rfl (hN ("NobodyFirst$History", 21, yX6_init, "NobodyFirst") (by decide +kernel)) (hts _ tw1_4) (by decide +kernel) ⟨Nat.le_of_ble_eq_true rfl, Nat.le_of_ble_eq_true rfl⟩, rfl, hts _ tw1_50⟩ (nb_preI hK hN hPc hDc) rfl rfl hl.1 rfl (lv_room (Nat.le_of_ble_eq_true rfl)) dX3_init_33 ⟨Nat.le_of_ble_eq_true rfl, Nat.le_of_ble_eq_true rfl⟩) hS (fun q _ h => hFc q h) hFc (fun ad7 t H1 locs ht hvm hw hB hz1 hk1 hS => ?_)
  have hw : ad7 0 = q6 := hw
  subst hw
  obtain ⟨hP1, hK1, hD1⟩ := hB
  rw [ht] at hP1
  obtain ⟨hP, hD⟩ := nb_joinL hP hD hk1 hFc hP1 hD1
  generalize H1 = H at hP hS ⊢
  obtain ⟨R8, eR8⟩ : ∃ z : va_W, z = R5 ++ nb_cs sh_X6 ad7 cA s0_X6 := ⟨_, rfl⟩
  have hP : va_P D vwCl ((h0, .inr (3, [.ref q1, .int 0, .ref (ad4 0), .null, .int 0])) :: R8) H := by rw [eR8]; exact hP
  have hD : va_D A ((h0, .inr (3, [.ref q1, .int 0, .ref (ad4 0), .null, .int 0])) :: R8) := by rw [eR8]; exact hD
  refine W.widen (k := 9) (n := 50) (Nat.le_of_ble_eq_true rfl) (Nat.le_of_ble_eq_true rfl) ?_
  refine va_putF (D := D) (ci := 3) (v := .ref (ad7 0)) (ty := (.object "NobodyFirst$Told")) (C := RX3) (T := TX3) (N := 5) hx hb hts inT_X3 tyX3 tyX3_ok nmX3 hown hK hP hD hS 0 rfl rfl 3 (by decide) (hts _ tw2_43) (fun _ h9 => h9) rfl hin rfl (by decide +kernel) rfl rfl (Nat.le_of_ble_eq_true rfl) dX3_init_36 (fun H locs hP hD hS => ?_)
  have hP : va_P D vwCl ((h0, .inr (3, [.ref q1, .int 0, .ref (ad4 0), .ref (ad7 0), .int 0])) :: R8) H := hP
  have hD : va_D A ((h0, .inr (3, [.ref q1, .int 0, .ref (ad4 0), .ref (ad7 0), .int 0])) :: R8) := hD
  refine lv_aload_n hx hb dX3_init_39 rfl (lv_at hl 0 rfl) ?_
  refine lv_iconst (v := (0 : Int32)) hx hb dX3_init_40 (by decide) ?_
  refine va_put (D := D) (ci := 3) (v := .int (0 : Int32)) (ty := .int) (C := RX3) (T := TX3) (N := 5) hx hb hts inT_X3 tyX3 tyX3_ok nmX3 hown hK hP hD hS 0 rfl rfl 4 (by decide) (hts _ tw2_44) (fun _ h9 => h9) rfl (by decide +kernel) rfl rfl (Nat.le_of_ble_eq_true rfl) dX3_init_41 (fun H locs hP hD hS => ?_)
  have hP : va_P D vwCl ((h0, .inr (3, [.ref q1, .int 0, .ref (ad4 0), .ref (ad7 0), .int 0])) :: R8) H := hP
  have hD : va_D A ((h0, .inr (3, [.ref q1, .int 0, .ref (ad4 0), .ref (ad7 0), .int 0])) :: R8) := hD
  have hPu : va_P D vwCl (nb_cs sh_X3 (fun k : Nat => cond (Nat.ble 6 k) (ad7 (k - 6)) (cond (Nat.ble 2 k) (ad4 (k - 2)) (cond (Nat.ble 1 k) (q1) (h0)))) cA s0_X3) H := by
    rw [eR8, eR5, eR2] at hP
    exact hP
  have hDu : va_D A (nb_cs sh_X3 (fun k : Nat => cond (Nat.ble 6 k) (ad7 (k - 6)) (cond (Nat.ble 2 k) (ad4 (k - 2)) (cond (Nat.ble 1 k) (q1) (h0)))) cA s0_X3) := by
    rw [eR8, eR5, eR2] at hD
    exact hD
  exact W.vret hx hb hr (fun t ht hW => ⟨⟨(fun k : Nat => cond (Nat.ble 6 k) (ad7 (k - 6)) (cond (Nat.ble 2 k) (ad4 (k - 2)) (cond (Nat.ble 1 k) (q1) (h0)))), rfl, rfl, by rw [ht]; exact hPu, va_K.moved hW.alike hK, hDu⟩, hS.F ht⟩) hS.2.2 dX3_init_44
def sh_X4 : List nb_S := [.inr (4, [none, some (some 1), some (some 2), some (some 3), some (some 4), some (some 5), none, none, none, none, some (some 9), some (some 10), some (some 11), some (some 12), none, some (some 13), some (some 14), some (some 15)]), .inl (0, 8), .inl (0, 8), .inl (0, 8), .inl (0, 8), .inr (6, [none, some (some 6), some (some 7), none, some (some 8)]), .inl (0, 6), .inl (0, 6), .inl (0, 4), .inl (0, 3), .inl (0, 3), .inl (0, 4), .inl (0, 4), .inl (0, 6), .inl (0, 6), .inl (0, 6)]
def s0_X4 : nb_St := fun k j => cond (Nat.ble 15 k) (0) (cond (Nat.ble 14 k) (0) (cond (Nat.ble 13 k) (0) (cond (Nat.ble 12 k) (0) (cond (Nat.ble 11 k) (0) (cond (Nat.ble 10 k) (0) (cond (Nat.ble 9 k) (0) (cond (Nat.ble 5 k) (s0_X6 (k - 5) j) (cond (Nat.ble 4 k) (0) (cond (Nat.ble 3 k) (0) (cond (Nat.ble 2 k) (0) (cond (Nat.ble 1 k) (0) (cond (Nat.beq j 6) 15 (cond (Nat.beq j 7) 20 (cond (Nat.beq j 8) 240 (0)))))))))))))))
def rmX4_init : Room := { frames := 2, cells := 15, slots := 85, locals := 40 }
def vsX4_init : List Cond := .code yX4_init cX4_init 1 none :: xT
set_option maxHeartbeats 4000000 in
set_option maxRecDepth 100000 in
theorem c_X4_init (l : Launch) (D : va_G) (cA : Nat → ClassId) (h0 sz : Nat) : Met l yX4_init vsX4_init rmX4_init (va_Pc [.ref h0] (fun U => U.heap.size = sz ∧ va_P D vwCl [(h0, .inr (4, [.int 0, .null, .null, .null, .null, .null, .int 0, .int 0, .int 0, .int 0, .null, .null, .null, .null, .int 0, .null, .null, .null]))] U.heap ∧ va_K D vwCl (nb_ty cA) U ∧ nb_NM U ∧ va_D (fun _ => True) [(h0, .inr (4, [.int 0, .null, .null, .null, .null, .null, .int 0, .int 0, .int 0, .int 0, .null, .null, .null, .null, .int 0, .null, .null, .null]))])) (va_Qv (fun ad : Nat → Nat => ad 0 = h0) (fun ad t => va_P D vwCl (nb_cs sh_X4 ad cA s0_X4) t.heap ∧ va_K D vwCl (nb_ty cA) t ∧ va_D (va_A [(h0, .inr (4, [.int 0, .null, .null, .null, .null, .null, .int 0, .int 0, .int 0, .int 0, .null, .null, .null, .null, .int 0, .null, .null, .null]))] sz) (nb_cs sh_X4 ad cA s0_X4)) (va_A [(h0, .inr (4, [.int 0, .null, .null, .null, .null, .null, .int 0, .int 0, .int 0, .int 0, .null, .null, .null, .null, .int 0, .null, .null, .null]))] sz)) 15 85 (va_A [(h0, .inr (4, [.int 0, .null, .null, .null, .null, .null, .int 0, .int 0, .int 0, .int 0, .null, .null, .null, .null, .int 0, .null, .null, .null]))] sz) := by
  refine Met.ofW (cc := cX4_init) (maxL := 1) (ret := none) (by decide) rfl ?_
  intro p e s m args below meth c s₁ B hml hv
  obtain ⟨rfl, hsz, hP, hK, hN, hD0⟩ := hv
  have hx := B.exec
  have hb := B.bytes
  have hr := B.returns
  have hts : ∀ w ∈ xT, w.before _ s = true := fun w h9 => atoms_spec (ws := vsX4_init) B.pre w (List.mem_cons_of_mem _ h9)
  have hown : s.vm.findClass RX4 = some m.cls := findClass_of_methodNamed B.named
  have hlocks := B.notSynchronized
  have hin : meth.name = "<init>" := (name_of_methodNamed B.named B.method).1
  subst hsz
  have hD := hD0.self (sz := s.heap.size)
  generalize hAe : va_A [(h0, .inr (4, [.int 0, .null, .null, .null, .null, .null, .int 0, .int 0, .int 0, .int 0, .null, .null, .null, .null, .int 0, .null, .null, .null]))] s.heap.size = A at hD ⊢
  have hA : ∀ q : Nat, s.heap.size ≤ q → A q := fun q h => by rw [← hAe]; exact Or.inr h
  have hS : va_S A s.heap s.heap [] := va_S.rf
  have hP : va_P D vwCl [(h0, .inr (4, [.int 0, .null, .null, .null, .null, .null, .int 0, .int 0, .int 0, .int 0, .null, .null, .null, .null, .int 0, .null, .null, .null]))] s.heap := hP
  have hl := lv_entry ([.ref h0]) (n := 1) (Nat.le_of_ble_eq_true rfl)
  rw [lg_entry_eq]
  generalize (lg_sl ([.ref h0]) ++ List.replicate (1 - (lg_sl ([.ref h0])).length) Slot.unset).toArray = ls at hl ⊢
  have hl : lv_has ls 1 [(0, .ref h0)] := hl
  refine lv_aload_n hx hb dX4_init_0 rfl (lv_at hl 0 rfl) ?_
  refine W.objInit hx hb hown (hts _ tw1_46) (hts _ tw1_24) (hts _ tw1_25) rfl (by rw [hml]; exact hl.1) rfl dX4_init_1 (Nat.le_of_ble_eq_true rfl) (Nat.le_of_ble_eq_true rfl) ?_
  refine W.eq (g2 := F0 m 4 ls []) rfl ?_
  refine lv_aload_n hx hb dX4_init_4 rfl (lv_at hl 0 rfl) ?_
  refine lv_iconst (v := (0 : Int32)) hx hb dX4_init_5 (by decide) ?_
  refine va_put (D := D) (ci := 4) (v := .int (0 : Int32)) (ty := .int) (C := RX4) (T := TX4) (N := 18) hx hb hts inT_X4 tyX4 tyX4_ok nmX4 hown hK hP hD hS 0 rfl rfl 0 (by decide) (hts _ tw1_78) (fun _ h9 => h9) rfl (by decide +kernel) rfl rfl (Nat.le_of_ble_eq_true rfl) dX4_init_6 (fun H locs hP hD hS => ?_)
  have hP : va_P D vwCl ((h0, .inr (4, [.int 0, .null, .null, .null, .null, .null, .int 0, .int 0, .int 0, .int 0, .null, .null, .null, .null, .int 0, .null, .null, .null])) :: ([] : va_W)) H := hP
  have hD : va_D A ((h0, .inr (4, [.int 0, .null, .null, .null, .null, .null, .int 0, .int 0, .int 0, .int 0, .null, .null, .null, .null, .int 0, .null, .null, .null])) :: ([] : va_W)) := hD
  refine lv_aload_n hx hb dX4_init_9 rfl (lv_at hl 0 rfl) ?_
  refine lv_bipush (v := (8 : Int32)) hx hb dX4_init_10 (by decide) ?_
  refine nb_newi (N' := 8) hx hb (hts _ tw1_40) hK hP hD hS hA (by decide) (by decide) (by decide) (Nat.le_of_ble_eq_true rfl) (Nat.le_of_ble_eq_true rfl) dX4_init_12 (fun q1 H hP hD hS => ?_)
  obtain ⟨R2, eR2⟩ : ∃ z : va_W, z = ([] : va_W) ++ [(q1, .inl (cA 0, 8, .inl (fun _ => 0)))] := ⟨_, rfl⟩
  have hP : va_P D vwCl ((h0, .inr (4, [.int 0, .null, .null, .null, .null, .null, .int 0, .int 0, .int 0, .int 0, .null, .null, .null, .null, .int 0, .null, .null, .null])) :: R2) H := by rw [eR2]; exact hP
  have hD : va_D A ((h0, .inr (4, [.int 0, .null, .null, .null, .null, .null, .int 0, .int 0, .int 0, .int 0, .null, .null, .null, .null, .int 0, .null, .null, .null])) :: R2) := by rw [eR2]; exact hD
  refine W.widen (k := 1) (n := 8) (Nat.le_of_ble_eq_true rfl) (Nat.le_of_ble_eq_true rfl) ?_
  refine va_putF (D := D) (ci := 4) (v := .ref q1) (ty := (.array .int)) (C := RX4) (T := TX4) (N := 18) hx hb hts inT_X4 tyX4 tyX4_ok nmX4 hown hK hP hD hS 0 rfl rfl 1 (by decide) (hts _ tw1_82) (fun _ h9 => h9) rfl hin rfl (by decide +kernel) rfl rfl (Nat.le_of_ble_eq_true rfl) dX4_init_14 (fun H locs hP hD hS => ?_)
  have hP : va_P D vwCl ((h0, .inr (4, [.int 0, .ref q1, .null, .null, .null, .null, .int 0, .int 0, .int 0, .int 0, .null, .null, .null, .null, .int 0, .null, .null, .null])) :: R2) H := hP
  have hD : va_D A ((h0, .inr (4, [.int 0, .ref q1, .null, .null, .null, .null, .int 0, .int 0, .int 0, .int 0, .null, .null, .null, .null, .int 0, .null, .null, .null])) :: R2) := hD
  refine lv_aload_n hx hb dX4_init_17 rfl (lv_at hl 0 rfl) ?_
  refine lv_bipush (v := (8 : Int32)) hx hb dX4_init_18 (by decide) ?_
  refine nb_newi (N' := 8) hx hb (hts _ tw1_40) hK hP hD hS hA (by decide) (by decide) (by decide) (Nat.le_of_ble_eq_true rfl) (Nat.le_of_ble_eq_true rfl) dX4_init_20 (fun q3 H hP hD hS => ?_)
  obtain ⟨R4, eR4⟩ : ∃ z : va_W, z = R2 ++ [(q3, .inl (cA 0, 8, .inl (fun _ => 0)))] := ⟨_, rfl⟩
  have hP : va_P D vwCl ((h0, .inr (4, [.int 0, .ref q1, .null, .null, .null, .null, .int 0, .int 0, .int 0, .int 0, .null, .null, .null, .null, .int 0, .null, .null, .null])) :: R4) H := by rw [eR4]; exact hP
  have hD : va_D A ((h0, .inr (4, [.int 0, .ref q1, .null, .null, .null, .null, .int 0, .int 0, .int 0, .int 0, .null, .null, .null, .null, .int 0, .null, .null, .null])) :: R4) := by rw [eR4]; exact hD
  refine W.widen (k := 2) (n := 16) (Nat.le_of_ble_eq_true rfl) (Nat.le_of_ble_eq_true rfl) ?_
  refine va_putF (D := D) (ci := 4) (v := .ref q3) (ty := (.array .int)) (C := RX4) (T := TX4) (N := 18) hx hb hts inT_X4 tyX4 tyX4_ok nmX4 hown hK hP hD hS 0 rfl rfl 2 (by decide) (hts _ tw1_86) (fun _ h9 => h9) rfl hin rfl (by decide +kernel) rfl rfl (Nat.le_of_ble_eq_true rfl) dX4_init_22 (fun H locs hP hD hS => ?_)
  have hP : va_P D vwCl ((h0, .inr (4, [.int 0, .ref q1, .ref q3, .null, .null, .null, .int 0, .int 0, .int 0, .int 0, .null, .null, .null, .null, .int 0, .null, .null, .null])) :: R4) H := hP
  have hD : va_D A ((h0, .inr (4, [.int 0, .ref q1, .ref q3, .null, .null, .null, .int 0, .int 0, .int 0, .int 0, .null, .null, .null, .null, .int 0, .null, .null, .null])) :: R4) := hD
  refine lv_aload_n hx hb dX4_init_25 rfl (lv_at hl 0 rfl) ?_
  refine lv_bipush (v := (8 : Int32)) hx hb dX4_init_26 (by decide) ?_
  refine nb_newi (N' := 8) hx hb (hts _ tw1_40) hK hP hD hS hA (by decide) (by decide) (by decide) (Nat.le_of_ble_eq_true rfl) (Nat.le_of_ble_eq_true rfl) dX4_init_28 (fun q5 H hP hD hS => ?_)
  obtain ⟨R6, eR6⟩ : ∃ z : va_W, z = R4 ++ [(q5, .inl (cA 0, 8, .inl (fun _ => 0)))] := ⟨_, rfl⟩
  have hP : va_P D vwCl ((h0, .inr (4, [.int 0, .ref q1, .ref q3, .null, .null, .null, .int 0, .int 0, .int 0, .int 0, .null, .null, .null, .null, .int 0, .null, .null, .null])) :: R6) H := by rw [eR6]; exact hP
  have hD : va_D A ((h0, .inr (4, [.int 0, .ref q1, .ref q3, .null, .null, .null, .int 0, .int 0, .int 0, .int 0, .null, .null, .null, .null, .int 0, .null, .null, .null])) :: R6) := by rw [eR6]; exact hD
  refine W.widen (k := 3) (n := 24) (Nat.le_of_ble_eq_true rfl) (Nat.le_of_ble_eq_true rfl) ?_
  refine va_putF (D := D) (ci := 4) (v := .ref q5) (ty := (.array .int)) (C := RX4) (T := TX4) (N := 18) hx hb hts inT_X4 tyX4 tyX4_ok nmX4 hown hK hP hD hS 0 rfl rfl 3 (by decide) (hts _ tw1_90) (fun _ h9 => h9) rfl hin rfl (by decide +kernel) rfl rfl (Nat.le_of_ble_eq_true rfl) dX4_init_30 (fun H locs hP hD hS => ?_)
  have hP : va_P D vwCl ((h0, .inr (4, [.int 0, .ref q1, .ref q3, .ref q5, .null, .null, .int 0, .int 0, .int 0, .int 0, .null, .null, .null, .null, .int 0, .null, .null, .null])) :: R6) H := hP
  have hD : va_D A ((h0, .inr (4, [.int 0, .ref q1, .ref q3, .ref q5, .null, .null, .int 0, .int 0, .int 0, .int 0, .null, .null, .null, .null, .int 0, .null, .null, .null])) :: R6) := hD
  refine lv_aload_n hx hb dX4_init_33 rfl (lv_at hl 0 rfl) ?_
  refine lv_bipush (v := (8 : Int32)) hx hb dX4_init_34 (by decide) ?_
  refine nb_newi (N' := 8) hx hb (hts _ tw1_40) hK hP hD hS hA (by decide) (by decide) (by decide) (Nat.le_of_ble_eq_true rfl) (Nat.le_of_ble_eq_true rfl) dX4_init_36 (fun q7 H hP hD hS => ?_)
  obtain ⟨R8, eR8⟩ : ∃ z : va_W, z = R6 ++ [(q7, .inl (cA 0, 8, .inl (fun _ => 0)))] := ⟨_, rfl⟩
  have hP : va_P D vwCl ((h0, .inr (4, [.int 0, .ref q1, .ref q3, .ref q5, .null, .null, .int 0, .int 0, .int 0, .int 0, .null, .null, .null, .null, .int 0, .null, .null, .null])) :: R8) H := by rw [eR8]; exact hP
  have hD : va_D A ((h0, .inr (4, [.int 0, .ref q1, .ref q3, .ref q5, .null, .null, .int 0, .int 0, .int 0, .int 0, .null, .null, .null, .null, .int 0, .null, .null, .null])) :: R8) := by rw [eR8]; exact hD
  refine W.widen (k := 4) (n := 32) (Nat.le_of_ble_eq_true rfl) (Nat.le_of_ble_eq_true rfl) ?_
  refine va_putF (D := D) (ci := 4) (v := .ref q7) (ty := (.array .int)) (C := RX4) (T := TX4) (N := 18) hx hb hts inT_X4 tyX4 tyX4_ok nmX4 hown hK hP hD hS 0 rfl rfl 4 (by decide) (hts _ tw1_94) (fun _ h9 => h9) rfl hin rfl (by decide +kernel) rfl rfl (Nat.le_of_ble_eq_true rfl) dX4_init_38 (fun H locs hP hD hS => ?_)
  have hP : va_P D vwCl ((h0, .inr (4, [.int 0, .ref q1, .ref q3, .ref q5, .ref q7, .null, .int 0, .int 0, .int 0, .int 0, .null, .null, .null, .null, .int 0, .null, .null, .null])) :: R8) H := hP
  have hD : va_D A ((h0, .inr (4, [.int 0, .ref q1, .ref q3, .ref q5, .ref q7, .null, .int 0, .int 0, .int 0, .int 0, .null, .null, .null, .null, .int 0, .null, .null, .null])) :: R8) := hD
  refine lv_aload_n hx hb dX4_init_41 rfl (lv_at hl 0 rfl) ?_
  refine va_new (ci := 6) (fs := [.int 0, .null, .null, .int 0, .null]) (C := RX6) (T := TX6) (N := 5) hx hb hts inT_X6 tyX6 tyX6_ok hown (hts _ tw1_47) (hts _ tw1_48) (hts _ tw1_4) hK hP hD hS hA rfl (fun j hj => by rcases (show j = 0 ∨ j = 1 ∨ j = 2 ∨ j = 3 ∨ j = 4 by omega) with rfl | rfl | rfl | rfl | rfl <;> rfl) (Nat.le_of_ble_eq_true rfl) (Nat.le_of_ble_eq_true rfl) dX4_init_42 (fun q9 H hP hD hS => ?_)
  refine W.widen (k := 5) (n := 37) (Nat.le_of_ble_eq_true rfl) (Nat.le_of_ble_eq_true rfl) ?_
  refine lv_dup hx hb dX4_init_45 rfl ?_
  have hP : va_P D vwCl (((h0, .inr (4, [.int 0, .ref q1, .ref q3, .ref q5, .ref q7, .null, .int 0, .int 0, .int 0, .int 0, .null, .null, .null, .null, .int 0, .null, .null, .null])) :: R8) ++ [(q9, .inr (6, [.int 0, .null, .null, .int 0, .null]))]) H := hP
  have hD : va_D A (((h0, .inr (4, [.int 0, .ref q1, .ref q3, .ref q5, .ref q7, .null, .int 0, .int 0, .int 0, .int 0, .null, .null, .null, .null, .int 0, .null, .null, .null])) :: R8) ++ [(q9, .inr (6, [.int 0, .null, .null, .int 0, .null]))]) := hD
  have hPc := nb_lastP hP
  have hDc := nb_lastD hD
  have hFc := nb_freeL hD hS hA
  refine va_callv (va_runIN (As := []) (rest := [.ref q9, .ref h0]) ⟨hx, hb, hml, hown, hts⟩ (c_X6_init l D cA q9 H.size) ⟨va_cnB (host := "NobodyFirst") 0 hts (xg_P tw1_51) rfl rfl rfl (hN ("NobodyFirst$Party", 30, yX6_init, "NobodyFirst") (by decide +kernel)) (hts _ tw1_4) (by decide +kernel) ⟨Nat.le_of_ble_eq_true rfl, Nat.le_of_ble_eq_true rfl⟩, rfl, hts _ tw1_50⟩ (nb_preI hK hN hPc hDc) rfl rfl hl.1 rfl (lv_room (Nat.le_of_ble_eq_true rfl)) dX4_init_46 ⟨Nat.le_of_ble_eq_true rfl, Nat.le_of_ble_eq_true rfl⟩) hS (fun q _ h => hFc q h) hFc (fun ad10 t H1 locs ht hvm hw hB hz1 hk1 hS => ?_)
  have hw : ad10 0 = q9 := hw
  subst hw
  obtain ⟨hP1, hK1, hD1⟩ := hB
  rw [ht] at hP1
  obtain ⟨hP, hD⟩ := nb_joinL hP hD hk1 hFc hP1 hD1
  generalize H1 = H at hP hS ⊢
  obtain ⟨R11, eR11⟩ : ∃ z : va_W, z = R8 ++ nb_cs sh_X6 ad10 cA s0_X6 := ⟨_, rfl⟩
  have hP : va_P D vwCl ((h0, .inr (4, [.int 0, .ref q1, .ref q3, .ref q5, .ref q7, .null, .int 0, .int 0, .int 0, .int 0, .null, .null, .null, .null, .int 0, .null, .null, .null])) :: R11) H := by rw [eR11]; exact hP
  have hD : va_D A ((h0, .inr (4, [.int 0, .ref q1, .ref q3, .ref q5, .ref q7, .null, .int 0, .int 0, .int 0, .int 0, .null, .null, .null, .null, .int 0, .null, .null, .null])) :: R11) := by rw [eR11]; exact hD
  refine W.widen (k := 8) (n := 53) (Nat.le_of_ble_eq_true rfl) (Nat.le_of_ble_eq_true rfl) ?_
  refine va_putF (D := D) (ci := 4) (v := .ref (ad10 0)) (ty := (.object "NobodyFirst$Told")) (C := RX4) (T := TX4) (N := 18) hx hb hts inT_X4 tyX4 tyX4_ok nmX4 hown hK hP hD hS 0 rfl rfl 5 (by decide) (hts _ tw1_97) (fun _ h9 => h9) rfl hin rfl (by decide +kernel) rfl rfl (Nat.le_of_ble_eq_true rfl) dX4_init_49 (fun H locs hP hD hS => ?_)
  have hP : va_P D vwCl ((h0, .inr (4, [.int 0, .ref q1, .ref q3, .ref q5, .ref q7, .ref (ad10 0), .int 0, .int 0, .int 0, .int 0, .null, .null, .null, .null, .int 0, .null, .null, .null])) :: R11) H := hP
  have hD : va_D A ((h0, .inr (4, [.int 0, .ref q1, .ref q3, .ref q5, .ref q7, .ref (ad10 0), .int 0, .int 0, .int 0, .int 0, .null, .null, .null, .null, .int 0, .null, .null, .null])) :: R11) := hD
  refine lv_aload_n hx hb dX4_init_52 rfl (lv_at hl 0 rfl) ?_
  refine lv_bipush (v := (15 : Int32)) hx hb dX4_init_53 (by decide) ?_
  refine va_put (D := D) (ci := 4) (v := .int (15 : Int32)) (ty := .int) (C := RX4) (T := TX4) (N := 18) hx hb hts inT_X4 tyX4 tyX4_ok nmX4 hown hK hP hD hS 0 rfl rfl 6 (by decide) (hts _ tw1_101) (fun _ h9 => h9) rfl (by decide +kernel) rfl rfl (Nat.le_of_ble_eq_true rfl) dX4_init_55 (fun H locs hP hD hS => ?_)
  have hP : va_P D vwCl ((h0, .inr (4, [.int 0, .ref q1, .ref q3, .ref q5, .ref q7, .ref (ad10 0), .int 15, .int 0, .int 0, .int 0, .null, .null, .null, .null, .int 0, .null, .null, .null])) :: R11) H := hP
  have hD : va_D A ((h0, .inr (4, [.int 0, .ref q1, .ref q3, .ref q5, .ref q7, .ref (ad10 0), .int 15, .int 0, .int 0, .int 0, .null, .null, .null, .null, .int 0, .null, .null, .null])) :: R11) := hD
  refine lv_aload_n hx hb dX4_init_58 rfl (lv_at hl 0 rfl) ?_
  refine lv_bipush (v := (20 : Int32)) hx hb dX4_init_59 (by decide) ?_
  refine va_put (D := D) (ci := 4) (v := .int (20 : Int32)) (ty := .int) (C := RX4) (T := TX4) (N := 18) hx hb hts inT_X4 tyX4 tyX4_ok nmX4 hown hK hP hD hS 0 rfl rfl 7 (by decide) (hts _ tw1_103) (fun _ h9 => h9) rfl (by decide +kernel) rfl rfl (Nat.le_of_ble_eq_true rfl) dX4_init_61 (fun H locs hP hD hS => ?_)
  have hP : va_P D vwCl ((h0, .inr (4, [.int 0, .ref q1, .ref q3, .ref q5, .ref q7, .ref (ad10 0), .int 15, .int 20, .int 0, .int 0, .null, .null, .null, .null, .int 0, .null, .null, .null])) :: R11) H := hP
  have hD : va_D A ((h0, .inr (4, [.int 0, .ref q1, .ref q3, .ref q5, .ref q7, .ref (ad10 0), .int 15, .int 20, .int 0, .int 0, .null, .null, .null, .null, .int 0, .null, .null, .null])) :: R11) := hD
  refine lv_aload_n hx hb dX4_init_64 rfl (lv_at hl 0 rfl) ?_
  refine lv_sipush (v := (240 : Int32)) hx hb dX4_init_65 (by decide) ?_
  refine va_put (D := D) (ci := 4) (v := .int (240 : Int32)) (ty := .int) (C := RX4) (T := TX4) (N := 18) hx hb hts inT_X4 tyX4 tyX4_ok nmX4 hown hK hP hD hS 0 rfl rfl 8 (by decide) (hts _ tw1_105) (fun _ h9 => h9) rfl (by decide +kernel) rfl rfl (Nat.le_of_ble_eq_true rfl) dX4_init_68 (fun H locs hP hD hS => ?_)
  have hP : va_P D vwCl ((h0, .inr (4, [.int 0, .ref q1, .ref q3, .ref q5, .ref q7, .ref (ad10 0), .int 15, .int 20, .int 240, .int 0, .null, .null, .null, .null, .int 0, .null, .null, .null])) :: R11) H := hP
  have hD : va_D A ((h0, .inr (4, [.int 0, .ref q1, .ref q3, .ref q5, .ref q7, .ref (ad10 0), .int 15, .int 20, .int 240, .int 0, .null, .null, .null, .null, .int 0, .null, .null, .null])) :: R11) := hD
  refine lv_aload_n hx hb dX4_init_71 rfl (lv_at hl 0 rfl) ?_
  refine lv_iconst (v := (0 : Int32)) hx hb dX4_init_72 (by decide) ?_
  refine va_put (D := D) (ci := 4) (v := .int (0 : Int32)) (ty := .int) (C := RX4) (T := TX4) (N := 18) hx hb hts inT_X4 tyX4 tyX4_ok nmX4 hown hK hP hD hS 0 rfl rfl 9 (by decide) (hts _ tw1_107) (fun _ h9 => h9) rfl (by decide +kernel) rfl rfl (Nat.le_of_ble_eq_true rfl) dX4_init_73 (fun H locs hP hD hS => ?_)
  have hP : va_P D vwCl ((h0, .inr (4, [.int 0, .ref q1, .ref q3, .ref q5, .ref q7, .ref (ad10 0), .int 15, .int 20, .int 240, .int 0, .null, .null, .null, .null, .int 0, .null, .null, .null])) :: R11) H := hP
  have hD : va_D A ((h0, .inr (4, [.int 0, .ref q1, .ref q3, .ref q5, .ref q7, .ref (ad10 0), .int 15, .int 20, .int 240, .int 0, .null, .null, .null, .null, .int 0, .null, .null, .null])) :: R11) := hD
  refine lv_aload_n hx hb dX4_init_76 rfl (lv_at hl 0 rfl) ?_
  refine lv_iconst (v := (3 : Int32)) hx hb dX4_init_77 (by decide) ?_
  refine nb_newi (N' := 3) hx hb (hts _ tw1_40) hK hP hD hS hA (by decide) (by decide) (by decide) (Nat.le_of_ble_eq_true rfl) (Nat.le_of_ble_eq_true rfl) dX4_init_78 (fun q12 H hP hD hS => ?_)
  obtain ⟨R13, eR13⟩ : ∃ z : va_W, z = R11 ++ [(q12, .inl (cA 0, 3, .inl (fun _ => 0)))] := ⟨_, rfl⟩
  have hP : va_P D vwCl ((h0, .inr (4, [.int 0, .ref q1, .ref q3, .ref q5, .ref q7, .ref (ad10 0), .int 15, .int 20, .int 240, .int 0, .null, .null, .null, .null, .int 0, .null, .null, .null])) :: R13) H := by rw [eR13]; exact hP
  have hD : va_D A ((h0, .inr (4, [.int 0, .ref q1, .ref q3, .ref q5, .ref q7, .ref (ad10 0), .int 15, .int 20, .int 240, .int 0, .null, .null, .null, .null, .int 0, .null, .null, .null])) :: R13) := by rw [eR13]; exact hD
  refine W.widen (k := 9) (n := 56) (Nat.le_of_ble_eq_true rfl) (Nat.le_of_ble_eq_true rfl) ?_
  refine va_putF (D := D) (ci := 4) (v := .ref q12) (ty := (.array .int)) (C := RX4) (T := TX4) (N := 18) hx hb hts inT_X4 tyX4 tyX4_ok nmX4 hown hK hP hD hS 0 rfl rfl 10 (by decide) (hts _ tw1_110) (fun _ h9 => h9) rfl hin rfl (by decide +kernel) rfl rfl (Nat.le_of_ble_eq_true rfl) dX4_init_80 (fun H locs hP hD hS => ?_)
  have hP : va_P D vwCl ((h0, .inr (4, [.int 0, .ref q1, .ref q3, .ref q5, .ref q7, .ref (ad10 0), .int 15, .int 20, .int 240, .int 0, .ref q12, .null, .null, .null, .int 0, .null, .null, .null])) :: R13) H := hP
  have hD : va_D A ((h0, .inr (4, [.int 0, .ref q1, .ref q3, .ref q5, .ref q7, .ref (ad10 0), .int 15, .int 20, .int 240, .int 0, .ref q12, .null, .null, .null, .int 0, .null, .null, .null])) :: R13) := hD
  refine lv_aload_n hx hb dX4_init_83 rfl (lv_at hl 0 rfl) ?_
  refine lv_iconst (v := (3 : Int32)) hx hb dX4_init_84 (by decide) ?_
  refine nb_newi (N' := 3) hx hb (hts _ tw1_40) hK hP hD hS hA (by decide) (by decide) (by decide) (Nat.le_of_ble_eq_true rfl) (Nat.le_of_ble_eq_true rfl) dX4_init_85 (fun q14 H hP hD hS => ?_)
  obtain ⟨R15, eR15⟩ : ∃ z : va_W, z = R13 ++ [(q14, .inl (cA 0, 3, .inl (fun _ => 0)))] := ⟨_, rfl⟩
  have hP : va_P D vwCl ((h0, .inr (4, [.int 0, .ref q1, .ref q3, .ref q5, .ref q7, .ref (ad10 0), .int 15, .int 20, .int 240, .int 0, .ref q12, .null, .null, .null, .int 0, .null, .null, .null])) :: R15) H := by rw [eR15]; exact hP
  have hD : va_D A ((h0, .inr (4, [.int 0, .ref q1, .ref q3, .ref q5, .ref q7, .ref (ad10 0), .int 15, .int 20, .int 240, .int 0, .ref q12, .null, .null, .null, .int 0, .null, .null, .null])) :: R15) := by rw [eR15]; exact hD
  refine W.widen (k := 10) (n := 59) (Nat.le_of_ble_eq_true rfl) (Nat.le_of_ble_eq_true rfl) ?_
  refine va_putF (D := D) (ci := 4) (v := .ref q14) (ty := (.array .int)) (C := RX4) (T := TX4) (N := 18) hx hb hts inT_X4 tyX4 tyX4_ok nmX4 hown hK hP hD hS 0 rfl rfl 11 (by decide) (hts _ tw1_112) (fun _ h9 => h9) rfl hin rfl (by decide +kernel) rfl rfl (Nat.le_of_ble_eq_true rfl) dX4_init_87 (fun H locs hP hD hS => ?_)
  have hP : va_P D vwCl ((h0, .inr (4, [.int 0, .ref q1, .ref q3, .ref q5, .ref q7, .ref (ad10 0), .int 15, .int 20, .int 240, .int 0, .ref q12, .ref q14, .null, .null, .int 0, .null, .null, .null])) :: R15) H := hP
  have hD : va_D A ((h0, .inr (4, [.int 0, .ref q1, .ref q3, .ref q5, .ref q7, .ref (ad10 0), .int 15, .int 20, .int 240, .int 0, .ref q12, .ref q14, .null, .null, .int 0, .null, .null, .null])) :: R15) := hD
  refine lv_aload_n hx hb dX4_init_90 rfl (lv_at hl 0 rfl) ?_
  refine lv_iconst (v := (4 : Int32)) hx hb dX4_init_91 (by decide) ?_
  refine nb_newi (N' := 4) hx hb (hts _ tw1_40) hK hP hD hS hA (by decide) (by decide) (by decide) (Nat.le_of_ble_eq_true rfl) (Nat.le_of_ble_eq_true rfl) dX4_init_92 (fun q16 H hP hD hS => ?_)
  obtain ⟨R17, eR17⟩ : ∃ z : va_W, z = R15 ++ [(q16, .inl (cA 0, 4, .inl (fun _ => 0)))] := ⟨_, rfl⟩
  have hP : va_P D vwCl ((h0, .inr (4, [.int 0, .ref q1, .ref q3, .ref q5, .ref q7, .ref (ad10 0), .int 15, .int 20, .int 240, .int 0, .ref q12, .ref q14, .null, .null, .int 0, .null, .null, .null])) :: R17) H := by rw [eR17]; exact hP
  have hD : va_D A ((h0, .inr (4, [.int 0, .ref q1, .ref q3, .ref q5, .ref q7, .ref (ad10 0), .int 15, .int 20, .int 240, .int 0, .ref q12, .ref q14, .null, .null, .int 0, .null, .null, .null])) :: R17) := by rw [eR17]; exact hD
  refine W.widen (k := 11) (n := 63) (Nat.le_of_ble_eq_true rfl) (Nat.le_of_ble_eq_true rfl) ?_
  refine va_putF (D := D) (ci := 4) (v := .ref q16) (ty := (.array .int)) (C := RX4) (T := TX4) (N := 18) hx hb hts inT_X4 tyX4 tyX4_ok nmX4 hown hK hP hD hS 0 rfl rfl 12 (by decide) (hts _ tw1_114) (fun _ h9 => h9) rfl hin rfl (by decide +kernel) rfl rfl (Nat.le_of_ble_eq_true rfl) dX4_init_94 (fun H locs hP hD hS => ?_)
  have hP : va_P D vwCl ((h0, .inr (4, [.int 0, .ref q1, .ref q3, .ref q5, .ref q7, .ref (ad10 0), .int 15, .int 20, .int 240, .int 0, .ref q12, .ref q14, .ref q16, .null, .int 0, .null, .null, .null])) :: R17) H := hP
  have hD : va_D A ((h0, .inr (4, [.int 0, .ref q1, .ref q3, .ref q5, .ref q7, .ref (ad10 0), .int 15, .int 20, .int 240, .int 0, .ref q12, .ref q14, .ref q16, .null, .int 0, .null, .null, .null])) :: R17) := hD
  refine lv_aload_n hx hb dX4_init_97 rfl (lv_at hl 0 rfl) ?_
  refine lv_iconst (v := (4 : Int32)) hx hb dX4_init_98 (by decide) ?_
  refine nb_newi (N' := 4) hx hb (hts _ tw1_40) hK hP hD hS hA (by decide) (by decide) (by decide) (Nat.le_of_ble_eq_true rfl) (Nat.le_of_ble_eq_true rfl) dX4_init_99 (fun q18 H hP hD hS => ?_)
  obtain ⟨R19, eR19⟩ : ∃ z : va_W, z = R17 ++ [(q18, .inl (cA 0, 4, .inl (fun _ => 0)))] := ⟨_, rfl⟩
  have hP : va_P D vwCl ((h0, .inr (4, [.int 0, .ref q1, .ref q3, .ref q5, .ref q7, .ref (ad10 0), .int 15, .int 20, .int 240, .int 0, .ref q12, .ref q14, .ref q16, .null, .int 0, .null, .null, .null])) :: R19) H := by rw [eR19]; exact hP
  have hD : va_D A ((h0, .inr (4, [.int 0, .ref q1, .ref q3, .ref q5, .ref q7, .ref (ad10 0), .int 15, .int 20, .int 240, .int 0, .ref q12, .ref q14, .ref q16, .null, .int 0, .null, .null, .null])) :: R19) := by rw [eR19]; exact hD
  refine W.widen (k := 12) (n := 67) (Nat.le_of_ble_eq_true rfl) (Nat.le_of_ble_eq_true rfl) ?_
  refine va_putF (D := D) (ci := 4) (v := .ref q18) (ty := (.array .int)) (C := RX4) (T := TX4) (N := 18) hx hb hts inT_X4 tyX4 tyX4_ok nmX4 hown hK hP hD hS 0 rfl rfl 13 (by decide) (hts _ tw1_116) (fun _ h9 => h9) rfl hin rfl (by decide +kernel) rfl rfl (Nat.le_of_ble_eq_true rfl) dX4_init_101 (fun H locs hP hD hS => ?_)
  have hP : va_P D vwCl ((h0, .inr (4, [.int 0, .ref q1, .ref q3, .ref q5, .ref q7, .ref (ad10 0), .int 15, .int 20, .int 240, .int 0, .ref q12, .ref q14, .ref q16, .ref q18, .int 0, .null, .null, .null])) :: R19) H := hP
  have hD : va_D A ((h0, .inr (4, [.int 0, .ref q1, .ref q3, .ref q5, .ref q7, .ref (ad10 0), .int 15, .int 20, .int 240, .int 0, .ref q12, .ref q14, .ref q16, .ref q18, .int 0, .null, .null, .null])) :: R19) := hD
  refine lv_aload_n hx hb dX4_init_104 rfl (lv_at hl 0 rfl) ?_
  refine lv_iconst (v := (0 : Int32)) hx hb dX4_init_105 (by decide) ?_
  refine va_put (D := D) (ci := 4) (v := .int (0 : Int32)) (ty := .int) (C := RX4) (T := TX4) (N := 18) hx hb hts inT_X4 tyX4 tyX4_ok nmX4 hown hK hP hD hS 0 rfl rfl 14 (by decide) (hts _ tw1_118) (fun _ h9 => h9) rfl (by decide +kernel) rfl rfl (Nat.le_of_ble_eq_true rfl) dX4_init_106 (fun H locs hP hD hS => ?_)
  have hP : va_P D vwCl ((h0, .inr (4, [.int 0, .ref q1, .ref q3, .ref q5, .ref q7, .ref (ad10 0), .int 15, .int 20, .int 240, .int 0, .ref q12, .ref q14, .ref q16, .ref q18, .int 0, .null, .null, .null])) :: R19) H := hP
  have hD : va_D A ((h0, .inr (4, [.int 0, .ref q1, .ref q3, .ref q5, .ref q7, .ref (ad10 0), .int 15, .int 20, .int 240, .int 0, .ref q12, .ref q14, .ref q16, .ref q18, .int 0, .null, .null, .null])) :: R19) := hD
  refine lv_aload_n hx hb dX4_init_109 rfl (lv_at hl 0 rfl) ?_
  refine lv_bipush (v := (6 : Int32)) hx hb dX4_init_110 (by decide) ?_
  refine nb_newi (N' := 6) hx hb (hts _ tw1_40) hK hP hD hS hA (by decide) (by decide) (by decide) (Nat.le_of_ble_eq_true rfl) (Nat.le_of_ble_eq_true rfl) dX4_init_112 (fun q20 H hP hD hS => ?_)
  obtain ⟨R21, eR21⟩ : ∃ z : va_W, z = R19 ++ [(q20, .inl (cA 0, 6, .inl (fun _ => 0)))] := ⟨_, rfl⟩
  have hP : va_P D vwCl ((h0, .inr (4, [.int 0, .ref q1, .ref q3, .ref q5, .ref q7, .ref (ad10 0), .int 15, .int 20, .int 240, .int 0, .ref q12, .ref q14, .ref q16, .ref q18, .int 0, .null, .null, .null])) :: R21) H := by rw [eR21]; exact hP
  have hD : va_D A ((h0, .inr (4, [.int 0, .ref q1, .ref q3, .ref q5, .ref q7, .ref (ad10 0), .int 15, .int 20, .int 240, .int 0, .ref q12, .ref q14, .ref q16, .ref q18, .int 0, .null, .null, .null])) :: R21) := by rw [eR21]; exact hD
  refine W.widen (k := 13) (n := 73) (Nat.le_of_ble_eq_true rfl) (Nat.le_of_ble_eq_true rfl) ?_
  refine va_putF (D := D) (ci := 4) (v := .ref q20) (ty := (.array .int)) (C := RX4) (T := TX4) (N := 18) hx hb hts inT_X4 tyX4 tyX4_ok nmX4 hown hK hP hD hS 0 rfl rfl 15 (by decide) (hts _ tw1_120) (fun _ h9 => h9) rfl hin rfl (by decide +kernel) rfl rfl (Nat.le_of_ble_eq_true rfl) dX4_init_114 (fun H locs hP hD hS => ?_)
  have hP : va_P D vwCl ((h0, .inr (4, [.int 0, .ref q1, .ref q3, .ref q5, .ref q7, .ref (ad10 0), .int 15, .int 20, .int 240, .int 0, .ref q12, .ref q14, .ref q16, .ref q18, .int 0, .ref q20, .null, .null])) :: R21) H := hP
  have hD : va_D A ((h0, .inr (4, [.int 0, .ref q1, .ref q3, .ref q5, .ref q7, .ref (ad10 0), .int 15, .int 20, .int 240, .int 0, .ref q12, .ref q14, .ref q16, .ref q18, .int 0, .ref q20, .null, .null])) :: R21) := hD
  refine lv_aload_n hx hb dX4_init_117 rfl (lv_at hl 0 rfl) ?_
  refine lv_bipush (v := (6 : Int32)) hx hb dX4_init_118 (by decide) ?_
  refine nb_newi (N' := 6) hx hb (hts _ tw1_40) hK hP hD hS hA (by decide) (by decide) (by decide) (Nat.le_of_ble_eq_true rfl) (Nat.le_of_ble_eq_true rfl) dX4_init_120 (fun q22 H hP hD hS => ?_)
  obtain ⟨R23, eR23⟩ : ∃ z : va_W, z = R21 ++ [(q22, .inl (cA 0, 6, .inl (fun _ => 0)))] := ⟨_, rfl⟩
  have hP : va_P D vwCl ((h0, .inr (4, [.int 0, .ref q1, .ref q3, .ref q5, .ref q7, .ref (ad10 0), .int 15, .int 20, .int 240, .int 0, .ref q12, .ref q14, .ref q16, .ref q18, .int 0, .ref q20, .null, .null])) :: R23) H := by rw [eR23]; exact hP
  have hD : va_D A ((h0, .inr (4, [.int 0, .ref q1, .ref q3, .ref q5, .ref q7, .ref (ad10 0), .int 15, .int 20, .int 240, .int 0, .ref q12, .ref q14, .ref q16, .ref q18, .int 0, .ref q20, .null, .null])) :: R23) := by rw [eR23]; exact hD
  refine W.widen (k := 14) (n := 79) (Nat.le_of_ble_eq_true rfl) (Nat.le_of_ble_eq_true rfl) ?_
  refine va_putF (D := D) (ci := 4) (v := .ref q22) (ty := (.array .int)) (C := RX4) (T := TX4) (N := 18) hx hb hts inT_X4 tyX4 tyX4_ok nmX4 hown hK hP hD hS 0 rfl rfl 16 (by decide) (hts _ tw1_121) (fun _ h9 => h9) rfl hin rfl (by decide +kernel) rfl rfl (Nat.le_of_ble_eq_true rfl) dX4_init_122 (fun H locs hP hD hS => ?_)
  have hP : va_P D vwCl ((h0, .inr (4, [.int 0, .ref q1, .ref q3, .ref q5, .ref q7, .ref (ad10 0), .int 15, .int 20, .int 240, .int 0, .ref q12, .ref q14, .ref q16, .ref q18, .int 0, .ref q20, .ref q22, .null])) :: R23) H := hP
  have hD : va_D A ((h0, .inr (4, [.int 0, .ref q1, .ref q3, .ref q5, .ref q7, .ref (ad10 0), .int 15, .int 20, .int 240, .int 0, .ref q12, .ref q14, .ref q16, .ref q18, .int 0, .ref q20, .ref q22, .null])) :: R23) := hD
  refine lv_aload_n hx hb dX4_init_125 rfl (lv_at hl 0 rfl) ?_
  refine lv_bipush (v := (6 : Int32)) hx hb dX4_init_126 (by decide) ?_
  refine nb_newi (N' := 6) hx hb (hts _ tw1_40) hK hP hD hS hA (by decide) (by decide) (by decide) (Nat.le_of_ble_eq_true rfl) (Nat.le_of_ble_eq_true rfl) dX4_init_128 (fun q24 H hP hD hS => ?_)
  obtain ⟨R25, eR25⟩ : ∃ z : va_W, z = R23 ++ [(q24, .inl (cA 0, 6, .inl (fun _ => 0)))] := ⟨_, rfl⟩
  have hP : va_P D vwCl ((h0, .inr (4, [.int 0, .ref q1, .ref q3, .ref q5, .ref q7, .ref (ad10 0), .int 15, .int 20, .int 240, .int 0, .ref q12, .ref q14, .ref q16, .ref q18, .int 0, .ref q20, .ref q22, .null])) :: R25) H := by rw [eR25]; exact hP
  have hD : va_D A ((h0, .inr (4, [.int 0, .ref q1, .ref q3, .ref q5, .ref q7, .ref (ad10 0), .int 15, .int 20, .int 240, .int 0, .ref q12, .ref q14, .ref q16, .ref q18, .int 0, .ref q20, .ref q22, .null])) :: R25) := by rw [eR25]; exact hD
  refine W.widen (k := 15) (n := 85) (Nat.le_of_ble_eq_true rfl) (Nat.le_of_ble_eq_true rfl) ?_
  refine va_putF (D := D) (ci := 4) (v := .ref q24) (ty := (.array .int)) (C := RX4) (T := TX4) (N := 18) hx hb hts inT_X4 tyX4 tyX4_ok nmX4 hown hK hP hD hS 0 rfl rfl 17 (by decide) (hts _ tw1_122) (fun _ h9 => h9) rfl hin rfl (by decide +kernel) rfl rfl (Nat.le_of_ble_eq_true rfl) dX4_init_130 (fun H locs hP hD hS => ?_)
  have hP : va_P D vwCl ((h0, .inr (4, [.int 0, .ref q1, .ref q3, .ref q5, .ref q7, .ref (ad10 0), .int 15, .int 20, .int 240, .int 0, .ref q12, .ref q14, .ref q16, .ref q18, .int 0, .ref q20, .ref q22, .ref q24])) :: R25) H := hP
  have hD : va_D A ((h0, .inr (4, [.int 0, .ref q1, .ref q3, .ref q5, .ref q7, .ref (ad10 0), .int 15, .int 20, .int 240, .int 0, .ref q12, .ref q14, .ref q16, .ref q18, .int 0, .ref q20, .ref q22, .ref q24])) :: R25) := hD
  have hPu : va_P D vwCl (nb_cs sh_X4 (fun k : Nat => cond (Nat.ble 15 k) (q24) (cond (Nat.ble 14 k) (q22) (cond (Nat.ble 13 k) (q20) (cond (Nat.ble 12 k) (q18) (cond (Nat.ble 11 k) (q16) (cond (Nat.ble 10 k) (q14) (cond (Nat.ble 9 k) (q12) (cond (Nat.ble 5 k) (ad10 (k - 5)) (cond (Nat.ble 4 k) (q7) (cond (Nat.ble 3 k) (q5) (cond (Nat.ble 2 k) (q3) (cond (Nat.ble 1 k) (q1) (h0))))))))))))) cA s0_X4) H := by
    rw [eR25, eR23, eR21, eR19, eR17, eR15, eR13, eR11, eR8, eR6, eR4, eR2] at hP
    exact hP
  have hDu : va_D A (nb_cs sh_X4 (fun k : Nat => cond (Nat.ble 15 k) (q24) (cond (Nat.ble 14 k) (q22) (cond (Nat.ble 13 k) (q20) (cond (Nat.ble 12 k) (q18) (cond (Nat.ble 11 k) (q16) (cond (Nat.ble 10 k) (q14) (cond (Nat.ble 9 k) (q12) (cond (Nat.ble 5 k) (ad10 (k - 5)) (cond (Nat.ble 4 k) (q7) (cond (Nat.ble 3 k) (q5) (cond (Nat.ble 2 k) (q3) (cond (Nat.ble 1 k) (q1) (h0))))))))))))) cA s0_X4) := by
    rw [eR25, eR23, eR21, eR19, eR17, eR15, eR13, eR11, eR8, eR6, eR4, eR2] at hD
    exact hD
  exact W.vret hx hb hr (fun t ht hW => ⟨⟨(fun k : Nat => cond (Nat.ble 15 k) (q24) (cond (Nat.ble 14 k) (q22) (cond (Nat.ble 13 k) (q20) (cond (Nat.ble 12 k) (q18) (cond (Nat.ble 11 k) (q16) (cond (Nat.ble 10 k) (q14) (cond (Nat.ble 9 k) (q12) (cond (Nat.ble 5 k) (ad10 (k - 5)) (cond (Nat.ble 4 k) (q7) (cond (Nat.ble 3 k) (q5) (cond (Nat.ble 2 k) (q3) (cond (Nat.ble 1 k) (q1) (h0))))))))))))), rfl, rfl, by rw [ht]; exact hPu, va_K.moved hW.alike hK, hDu⟩, hS.F ht⟩) hS.2.2 dX4_init_133
def sh_X0 : List nb_S := [.inr (0, [some none, some (some 17), some (some 18), none, some (some 19), some (some 20), some (some 21), none, none, none, none, some (some 22), some (some 23), some (some 24)]), .inr (4, [none, some (some 2), some (some 3), some (some 4), some (some 5), some (some 6), none, none, none, none, some (some 10), some (some 11), some (some 12), some (some 13), none, some (some 14), some (some 15), some (some 16)]), .inl (0, 8), .inl (0, 8), .inl (0, 8), .inl (0, 8), .inr (6, [none, some (some 7), some (some 8), none, some (some 9)]), .inl (0, 6), .inl (0, 6), .inl (0, 4), .inl (0, 3), .inl (0, 3), .inl (0, 4), .inl (0, 4), .inl (0, 6), .inl (0, 6), .inl (0, 6), .inl (0, 8), .inl (0, 8), .inl (0, 9), .inl (0, 9), .inl (0, 9), .inl (0, 4), .inl (0, 4), .inl (0, 4)]
def s0_X0 : nb_St := fun k j => cond (Nat.ble 24 k) (0) (cond (Nat.ble 23 k) (0) (cond (Nat.ble 22 k) (0) (cond (Nat.ble 21 k) (0) (cond (Nat.ble 20 k) (0) (cond (Nat.ble 19 k) (0) (cond (Nat.ble 18 k) (0) (cond (Nat.ble 17 k) (0) (cond (Nat.ble 1 k) (s0_X4 (k - 1) j) (cond (Nat.beq j 0) 1 (cond (Nat.beq j 7) 719 (0)))))))))))
def rmX0_init : Room := { frames := 3, cells := 24, slots := 158, locals := 60 }
def vsX0_init : List Cond := .code yX0_init cX0_init 1 none :: xT
set_option maxHeartbeats 4000000 in
set_option maxRecDepth 100000 in
theorem c_X0_init (l : Launch) (D : va_G) (cA : Nat → ClassId) (h0 sz : Nat) : Met l yX0_init vsX0_init rmX0_init (va_Pc [.ref h0] (fun U => U.heap.size = sz ∧ va_P D vwCl [(h0, .inr (0, [.null, .null, .null, .int 0, .null, .null, .null, .int 0, .int 0, .int 0, .int 0, .null, .null, .null]))] U.heap ∧ va_K D vwCl (nb_ty cA) U ∧ nb_NM U ∧ va_D (fun _ => True) [(h0, .inr (0, [.null, .null, .null, .int 0, .null, .null, .null, .int 0, .int 0, .int 0, .int 0, .null, .null, .null]))])) (va_Qv (fun ad : Nat → Nat => ad 0 = h0) (fun ad t => va_P D vwCl (nb_cs sh_X0 ad cA s0_X0) t.heap ∧ va_K D vwCl (nb_ty cA) t ∧ va_D (va_A [(h0, .inr (0, [.null, .null, .null, .int 0, .null, .null, .null, .int 0, .int 0, .int 0, .int 0, .null, .null, .null]))] sz) (nb_cs sh_X0 ad cA s0_X0)) (va_A [(h0, .inr (0, [.null, .null, .null, .int 0, .null, .null, .null, .int 0, .int 0, .int 0, .int 0, .null, .null, .null]))] sz)) 24 158 (va_A [(h0, .inr (0, [.null, .null, .null, .int 0, .null, .null, .null, .int 0, .int 0, .int 0, .int 0, .null, .null, .null]))] sz) := by
  refine Met.ofW (cc := cX0_init) (maxL := 1) (ret := none) (by decide) rfl ?_
  intro p e s m args below meth c s₁ B hml hv
  obtain ⟨rfl, hsz, hP, hK, hN, hD0⟩ := hv
  have hx := B.exec
  have hb := B.bytes
  have hr := B.returns
  have hts : ∀ w ∈ xT, w.before _ s = true := fun w h9 => atoms_spec (ws := vsX0_init) B.pre w (List.mem_cons_of_mem _ h9)
  have hown : s.vm.findClass RX0 = some m.cls := findClass_of_methodNamed B.named
  have hlocks := B.notSynchronized
  have hin : meth.name = "<init>" := (name_of_methodNamed B.named B.method).1
  subst hsz
  have hD := hD0.self (sz := s.heap.size)
  generalize hAe : va_A [(h0, .inr (0, [.null, .null, .null, .int 0, .null, .null, .null, .int 0, .int 0, .int 0, .int 0, .null, .null, .null]))] s.heap.size = A at hD ⊢
  have hA : ∀ q : Nat, s.heap.size ≤ q → A q := fun q h => by rw [← hAe]; exact Or.inr h
  have hS : va_S A s.heap s.heap [] := va_S.rf
  have hP : va_P D vwCl [(h0, .inr (0, [.null, .null, .null, .int 0, .null, .null, .null, .int 0, .int 0, .int 0, .int 0, .null, .null, .null]))] s.heap := hP
  have hl := lv_entry ([.ref h0]) (n := 1) (Nat.le_of_ble_eq_true rfl)
  rw [lg_entry_eq]
  generalize (lg_sl ([.ref h0]) ++ List.replicate (1 - (lg_sl ([.ref h0])).length) Slot.unset).toArray = ls at hl ⊢
  have hl : lv_has ls 1 [(0, .ref h0)] := hl
  refine lv_aload_n hx hb dX0_init_0 rfl (lv_at hl 0 rfl) ?_
  refine W.objInit hx hb hown (hts _ tw1_165) (hts _ tw1_24) (hts _ tw1_25) rfl (by rw [hml]; exact hl.1) rfl dX0_init_1 (Nat.le_of_ble_eq_true rfl) (Nat.le_of_ble_eq_true rfl) ?_
  refine W.eq (g2 := F0 m 4 ls []) rfl ?_
  refine lv_aload_n hx hb dX0_init_4 rfl (lv_at hl 0 rfl) ?_
  refine va_new (ci := 4) (fs := [.int 0, .null, .null, .null, .null, .null, .int 0, .int 0, .int 0, .int 0, .null, .null, .null, .null, .int 0, .null, .null, .null]) (C := RX4) (T := TX4) (N := 18) hx hb hts inT_X4 tyX4 tyX4_ok hown (hts _ tw1_166) (hts _ tw1_42) (hts _ tw1_3) hK hP hD hS hA rfl (fun j hj => by rcases (show j = 0 ∨ j = 1 ∨ j = 2 ∨ j = 3 ∨ j = 4 ∨ j = 5 ∨ j = 6 ∨ j = 7 ∨ j = 8 ∨ j = 9 ∨ j = 10 ∨ j = 11 ∨ j = 12 ∨ j = 13 ∨ j = 14 ∨ j = 15 ∨ j = 16 ∨ j = 17 by omega) with rfl | rfl | rfl | rfl | rfl | rfl | rfl | rfl | rfl | rfl | rfl | rfl | rfl | rfl | rfl | rfl | rfl | rfl <;> rfl) (Nat.le_of_ble_eq_true rfl) (Nat.le_of_ble_eq_true rfl) dX0_init_5 (fun q1 H hP hD hS => ?_)
  refine W.widen (k := 1) (n := 18) (Nat.le_of_ble_eq_true rfl) (Nat.le_of_ble_eq_true rfl) ?_
  refine lv_dup hx hb dX0_init_8 rfl ?_
  have hP : va_P D vwCl (((h0, .inr (0, [.null, .null, .null, .int 0, .null, .null, .null, .int 0, .int 0, .int 0, .int 0, .null, .null, .null])) :: ([] : va_W)) ++ [(q1, .inr (4, [.int 0, .null, .null, .null, .null, .null, .int 0, .int 0, .int 0, .int 0, .null, .null, .null, .null, .int 0, .null, .null, .null]))]) H := hP
  have hD : va_D A (((h0, .inr (0, [.null, .null, .null, .int 0, .null, .null, .null, .int 0, .int 0, .int 0, .int 0, .null, .null, .null])) :: ([] : va_W)) ++ [(q1, .inr (4, [.int 0, .null, .null, .null, .null, .null, .int 0, .int 0, .int 0, .int 0, .null, .null, .null, .null, .int 0, .null, .null, .null]))]) := hD
  have hPc := nb_lastP hP
  have hDc := nb_lastD hD
  have hFc := nb_freeL hD hS hA
  refine va_callv (va_runIN (As := []) (rest := [.ref q1, .ref h0]) ⟨hx, hb, hml, hown, hts⟩ (c_X4_init l D cA q1 H.size) ⟨va_cnB (host := "NobodyFirst") 0 hts (xg_P tw1_45) rfl rfl rfl (hN ("NobodyFirst$Evening", 11, yX4_init, "NobodyFirst") (by decide +kernel)) (hts _ tw1_3) (by decide +kernel) ⟨Nat.le_of_ble_eq_true rfl, Nat.le_of_ble_eq_true rfl⟩, rfl, hts _ tw1_44⟩ (nb_preI hK hN hPc hDc) rfl rfl hl.1 rfl (lv_room (Nat.le_of_ble_eq_true rfl)) dX0_init_9 ⟨Nat.le_of_ble_eq_true rfl, Nat.le_of_ble_eq_true rfl⟩) hS (fun q _ h => hFc q h) hFc (fun ad2 t H1 locs ht hvm hw hB hz1 hk1 hS => ?_)
  have hw : ad2 0 = q1 := hw
  subst hw
  obtain ⟨hP1, hK1, hD1⟩ := hB
  rw [ht] at hP1
  obtain ⟨hP, hD⟩ := nb_joinL hP hD hk1 hFc hP1 hD1
  generalize H1 = H at hP hS ⊢
  obtain ⟨R3, eR3⟩ : ∃ z : va_W, z = ([] : va_W) ++ nb_cs sh_X4 ad2 cA s0_X4 := ⟨_, rfl⟩
  have hP : va_P D vwCl ((h0, .inr (0, [.null, .null, .null, .int 0, .null, .null, .null, .int 0, .int 0, .int 0, .int 0, .null, .null, .null])) :: R3) H := by rw [eR3]; exact hP
  have hD : va_D A ((h0, .inr (0, [.null, .null, .null, .int 0, .null, .null, .null, .int 0, .int 0, .int 0, .int 0, .null, .null, .null])) :: R3) := by rw [eR3]; exact hD
  refine W.widen (k := 16) (n := 103) (Nat.le_of_ble_eq_true rfl) (Nat.le_of_ble_eq_true rfl) ?_
  refine va_put (D := D) (ci := 0) (v := .ref (ad2 0)) (ty := (.object "NobodyFirst$Party")) (C := RX0) (T := TX0) (N := 14) hx hb hts inT_X0 tyX0 tyX0_ok nmX0 hown hK hP hD hS 0 rfl rfl 0 (by decide) (hts _ tw1_168) (fun _ h9 => h9) rfl (by decide +kernel) rfl rfl (Nat.le_of_ble_eq_true rfl) dX0_init_12 (fun H locs hP hD hS => ?_)
  have hP : va_P D vwCl ((h0, .inr (0, [.ref (ad2 0), .null, .null, .int 0, .null, .null, .null, .int 0, .int 0, .int 0, .int 0, .null, .null, .null])) :: R3) H := hP
  have hD : va_D A ((h0, .inr (0, [.ref (ad2 0), .null, .null, .int 0, .null, .null, .null, .int 0, .int 0, .int 0, .int 0, .null, .null, .null])) :: R3) := hD
  refine lv_aload_n hx hb dX0_init_15 rfl (lv_at hl 0 rfl) ?_
  refine lv_bipush (v := (8 : Int32)) hx hb dX0_init_16 (by decide) ?_
  refine nb_newi (N' := 8) hx hb (hts _ tw1_40) hK hP hD hS hA (by decide) (by decide) (by decide) (Nat.le_of_ble_eq_true rfl) (Nat.le_of_ble_eq_true rfl) dX0_init_18 (fun q4 H hP hD hS => ?_)
  obtain ⟨R5, eR5⟩ : ∃ z : va_W, z = R3 ++ [(q4, .inl (cA 0, 8, .inl (fun _ => 0)))] := ⟨_, rfl⟩
  have hP : va_P D vwCl ((h0, .inr (0, [.ref (ad2 0), .null, .null, .int 0, .null, .null, .null, .int 0, .int 0, .int 0, .int 0, .null, .null, .null])) :: R5) H := by rw [eR5]; exact hP
  have hD : va_D A ((h0, .inr (0, [.ref (ad2 0), .null, .null, .int 0, .null, .null, .null, .int 0, .int 0, .int 0, .int 0, .null, .null, .null])) :: R5) := by rw [eR5]; exact hD
  refine W.widen (k := 17) (n := 111) (Nat.le_of_ble_eq_true rfl) (Nat.le_of_ble_eq_true rfl) ?_
  refine va_putF (D := D) (ci := 0) (v := .ref q4) (ty := (.array .int)) (C := RX0) (T := TX0) (N := 14) hx hb hts inT_X0 tyX0 tyX0_ok nmX0 hown hK hP hD hS 0 rfl rfl 1 (by decide) (hts _ tw1_169) (fun _ h9 => h9) rfl hin rfl (by decide +kernel) rfl rfl (Nat.le_of_ble_eq_true rfl) dX0_init_20 (fun H locs hP hD hS => ?_)
  have hP : va_P D vwCl ((h0, .inr (0, [.ref (ad2 0), .ref q4, .null, .int 0, .null, .null, .null, .int 0, .int 0, .int 0, .int 0, .null, .null, .null])) :: R5) H := hP
  have hD : va_D A ((h0, .inr (0, [.ref (ad2 0), .ref q4, .null, .int 0, .null, .null, .null, .int 0, .int 0, .int 0, .int 0, .null, .null, .null])) :: R5) := hD
  refine lv_aload_n hx hb dX0_init_23 rfl (lv_at hl 0 rfl) ?_
  refine lv_bipush (v := (8 : Int32)) hx hb dX0_init_24 (by decide) ?_
  refine nb_newi (N' := 8) hx hb (hts _ tw1_40) hK hP hD hS hA (by decide) (by decide) (by decide) (Nat.le_of_ble_eq_true rfl) (Nat.le_of_ble_eq_true rfl) dX0_init_26 (fun q6 H hP hD hS => ?_)
  obtain ⟨R7, eR7⟩ : ∃ z : va_W, z = R5 ++ [(q6, .inl (cA 0, 8, .inl (fun _ => 0)))] := ⟨_, rfl⟩
  have hP : va_P D vwCl ((h0, .inr (0, [.ref (ad2 0), .ref q4, .null, .int 0, .null, .null, .null, .int 0, .int 0, .int 0, .int 0, .null, .null, .null])) :: R7) H := by rw [eR7]; exact hP
  have hD : va_D A ((h0, .inr (0, [.ref (ad2 0), .ref q4, .null, .int 0, .null, .null, .null, .int 0, .int 0, .int 0, .int 0, .null, .null, .null])) :: R7) := by rw [eR7]; exact hD
  refine W.widen (k := 18) (n := 119) (Nat.le_of_ble_eq_true rfl) (Nat.le_of_ble_eq_true rfl) ?_
  refine va_putF (D := D) (ci := 0) (v := .ref q6) (ty := (.array .int)) (C := RX0) (T := TX0) (N := 14) hx hb hts inT_X0 tyX0 tyX0_ok nmX0 hown hK hP hD hS 0 rfl rfl 2 (by decide) (hts _ tw1_170) (fun _ h9 => h9) rfl hin rfl (by decide +kernel) rfl rfl (Nat.le_of_ble_eq_true rfl) dX0_init_28 (fun H locs hP hD hS => ?_)
  have hP : va_P D vwCl ((h0, .inr (0, [.ref (ad2 0), .ref q4, .ref q6, .int 0, .null, .null, .null, .int 0, .int 0, .int 0, .int 0, .null, .null, .null])) :: R7) H := hP
  have hD : va_D A ((h0, .inr (0, [.ref (ad2 0), .ref q4, .ref q6, .int 0, .null, .null, .null, .int 0, .int 0, .int 0, .int 0, .null, .null, .null])) :: R7) := hD
  refine lv_aload_n hx hb dX0_init_31 rfl (lv_at hl 0 rfl) ?_
  refine lv_iconst (v := (0 : Int32)) hx hb dX0_init_32 (by decide) ?_
  refine va_put (D := D) (ci := 0) (v := .int (0 : Int32)) (ty := .int) (C := RX0) (T := TX0) (N := 14) hx hb hts inT_X0 tyX0 tyX0_ok nmX0 hown hK hP hD hS 0 rfl rfl 3 (by decide) (hts _ tw1_171) (fun _ h9 => h9) rfl (by decide +kernel) rfl rfl (Nat.le_of_ble_eq_true rfl) dX0_init_33 (fun H locs hP hD hS => ?_)
  have hP : va_P D vwCl ((h0, .inr (0, [.ref (ad2 0), .ref q4, .ref q6, .int 0, .null, .null, .null, .int 0, .int 0, .int 0, .int 0, .null, .null, .null])) :: R7) H := hP
  have hD : va_D A ((h0, .inr (0, [.ref (ad2 0), .ref q4, .ref q6, .int 0, .null, .null, .null, .int 0, .int 0, .int 0, .int 0, .null, .null, .null])) :: R7) := hD
  refine lv_aload_n hx hb dX0_init_36 rfl (lv_at hl 0 rfl) ?_
  refine lv_bipush (v := (9 : Int32)) hx hb dX0_init_37 (by decide) ?_
  refine nb_newi (N' := 9) hx hb (hts _ tw1_40) hK hP hD hS hA (by decide) (by decide) (by decide) (Nat.le_of_ble_eq_true rfl) (Nat.le_of_ble_eq_true rfl) dX0_init_39 (fun q8 H hP hD hS => ?_)
  obtain ⟨R9, eR9⟩ : ∃ z : va_W, z = R7 ++ [(q8, .inl (cA 0, 9, .inl (fun _ => 0)))] := ⟨_, rfl⟩
  have hP : va_P D vwCl ((h0, .inr (0, [.ref (ad2 0), .ref q4, .ref q6, .int 0, .null, .null, .null, .int 0, .int 0, .int 0, .int 0, .null, .null, .null])) :: R9) H := by rw [eR9]; exact hP
  have hD : va_D A ((h0, .inr (0, [.ref (ad2 0), .ref q4, .ref q6, .int 0, .null, .null, .null, .int 0, .int 0, .int 0, .int 0, .null, .null, .null])) :: R9) := by rw [eR9]; exact hD
  refine W.widen (k := 19) (n := 128) (Nat.le_of_ble_eq_true rfl) (Nat.le_of_ble_eq_true rfl) ?_
  refine va_putF (D := D) (ci := 0) (v := .ref q8) (ty := (.array .int)) (C := RX0) (T := TX0) (N := 14) hx hb hts inT_X0 tyX0 tyX0_ok nmX0 hown hK hP hD hS 0 rfl rfl 4 (by decide) (hts _ tw1_172) (fun _ h9 => h9) rfl hin rfl (by decide +kernel) rfl rfl (Nat.le_of_ble_eq_true rfl) dX0_init_41 (fun H locs hP hD hS => ?_)
  have hP : va_P D vwCl ((h0, .inr (0, [.ref (ad2 0), .ref q4, .ref q6, .int 0, .ref q8, .null, .null, .int 0, .int 0, .int 0, .int 0, .null, .null, .null])) :: R9) H := hP
  have hD : va_D A ((h0, .inr (0, [.ref (ad2 0), .ref q4, .ref q6, .int 0, .ref q8, .null, .null, .int 0, .int 0, .int 0, .int 0, .null, .null, .null])) :: R9) := hD
  refine lv_aload_n hx hb dX0_init_44 rfl (lv_at hl 0 rfl) ?_
  refine lv_bipush (v := (9 : Int32)) hx hb dX0_init_45 (by decide) ?_
  refine nb_newi (N' := 9) hx hb (hts _ tw1_40) hK hP hD hS hA (by decide) (by decide) (by decide) (Nat.le_of_ble_eq_true rfl) (Nat.le_of_ble_eq_true rfl) dX0_init_47 (fun q10 H hP hD hS => ?_)
  obtain ⟨R11, eR11⟩ : ∃ z : va_W, z = R9 ++ [(q10, .inl (cA 0, 9, .inl (fun _ => 0)))] := ⟨_, rfl⟩
  have hP : va_P D vwCl ((h0, .inr (0, [.ref (ad2 0), .ref q4, .ref q6, .int 0, .ref q8, .null, .null, .int 0, .int 0, .int 0, .int 0, .null, .null, .null])) :: R11) H := by rw [eR11]; exact hP
  have hD : va_D A ((h0, .inr (0, [.ref (ad2 0), .ref q4, .ref q6, .int 0, .ref q8, .null, .null, .int 0, .int 0, .int 0, .int 0, .null, .null, .null])) :: R11) := by rw [eR11]; exact hD
  refine W.widen (k := 20) (n := 137) (Nat.le_of_ble_eq_true rfl) (Nat.le_of_ble_eq_true rfl) ?_
  refine va_putF (D := D) (ci := 0) (v := .ref q10) (ty := (.array .int)) (C := RX0) (T := TX0) (N := 14) hx hb hts inT_X0 tyX0 tyX0_ok nmX0 hown hK hP hD hS 0 rfl rfl 5 (by decide) (hts _ tw1_173) (fun _ h9 => h9) rfl hin rfl (by decide +kernel) rfl rfl (Nat.le_of_ble_eq_true rfl) dX0_init_49 (fun H locs hP hD hS => ?_)
  have hP : va_P D vwCl ((h0, .inr (0, [.ref (ad2 0), .ref q4, .ref q6, .int 0, .ref q8, .ref q10, .null, .int 0, .int 0, .int 0, .int 0, .null, .null, .null])) :: R11) H := hP
  have hD : va_D A ((h0, .inr (0, [.ref (ad2 0), .ref q4, .ref q6, .int 0, .ref q8, .ref q10, .null, .int 0, .int 0, .int 0, .int 0, .null, .null, .null])) :: R11) := hD
  refine lv_aload_n hx hb dX0_init_52 rfl (lv_at hl 0 rfl) ?_
  refine lv_bipush (v := (9 : Int32)) hx hb dX0_init_53 (by decide) ?_
  refine nb_newi (N' := 9) hx hb (hts _ tw1_40) hK hP hD hS hA (by decide) (by decide) (by decide) (Nat.le_of_ble_eq_true rfl) (Nat.le_of_ble_eq_true rfl) dX0_init_55 (fun q12 H hP hD hS => ?_)
  obtain ⟨R13, eR13⟩ : ∃ z : va_W, z = R11 ++ [(q12, .inl (cA 0, 9, .inl (fun _ => 0)))] := ⟨_, rfl⟩
  have hP : va_P D vwCl ((h0, .inr (0, [.ref (ad2 0), .ref q4, .ref q6, .int 0, .ref q8, .ref q10, .null, .int 0, .int 0, .int 0, .int 0, .null, .null, .null])) :: R13) H := by rw [eR13]; exact hP
  have hD : va_D A ((h0, .inr (0, [.ref (ad2 0), .ref q4, .ref q6, .int 0, .ref q8, .ref q10, .null, .int 0, .int 0, .int 0, .int 0, .null, .null, .null])) :: R13) := by rw [eR13]; exact hD
  refine W.widen (k := 21) (n := 146) (Nat.le_of_ble_eq_true rfl) (Nat.le_of_ble_eq_true rfl) ?_
  refine va_putF (D := D) (ci := 0) (v := .ref q12) (ty := (.array .int)) (C := RX0) (T := TX0) (N := 14) hx hb hts inT_X0 tyX0 tyX0_ok nmX0 hown hK hP hD hS 0 rfl rfl 6 (by decide) (hts _ tw1_174) (fun _ h9 => h9) rfl hin rfl (by decide +kernel) rfl rfl (Nat.le_of_ble_eq_true rfl) dX0_init_57 (fun H locs hP hD hS => ?_)
  have hP : va_P D vwCl ((h0, .inr (0, [.ref (ad2 0), .ref q4, .ref q6, .int 0, .ref q8, .ref q10, .ref q12, .int 0, .int 0, .int 0, .int 0, .null, .null, .null])) :: R13) H := hP
  have hD : va_D A ((h0, .inr (0, [.ref (ad2 0), .ref q4, .ref q6, .int 0, .ref q8, .ref q10, .ref q12, .int 0, .int 0, .int 0, .int 0, .null, .null, .null])) :: R13) := hD
  refine lv_aload_n hx hb dX0_init_60 rfl (lv_at hl 0 rfl) ?_
  refine lv_sipush (v := (719 : Int32)) hx hb dX0_init_61 (by decide) ?_
  refine va_put (D := D) (ci := 0) (v := .int (719 : Int32)) (ty := .int) (C := RX0) (T := TX0) (N := 14) hx hb hts inT_X0 tyX0 tyX0_ok nmX0 hown hK hP hD hS 0 rfl rfl 7 (by decide) (hts _ tw1_175) (fun _ h9 => h9) rfl (by decide +kernel) rfl rfl (Nat.le_of_ble_eq_true rfl) dX0_init_64 (fun H locs hP hD hS => ?_)
  have hP : va_P D vwCl ((h0, .inr (0, [.ref (ad2 0), .ref q4, .ref q6, .int 0, .ref q8, .ref q10, .ref q12, .int 719, .int 0, .int 0, .int 0, .null, .null, .null])) :: R13) H := hP
  have hD : va_D A ((h0, .inr (0, [.ref (ad2 0), .ref q4, .ref q6, .int 0, .ref q8, .ref q10, .ref q12, .int 719, .int 0, .int 0, .int 0, .null, .null, .null])) :: R13) := hD
  refine lv_aload_n hx hb dX0_init_67 rfl (lv_at hl 0 rfl) ?_
  refine lv_iconst (v := (0 : Int32)) hx hb dX0_init_68 (by decide) ?_
  refine va_put (D := D) (ci := 0) (v := .int (0 : Int32)) (ty := .int) (C := RX0) (T := TX0) (N := 14) hx hb hts inT_X0 tyX0 tyX0_ok nmX0 hown hK hP hD hS 0 rfl rfl 8 (by decide) (hts _ tw1_176) (fun _ h9 => h9) rfl (by decide +kernel) rfl rfl (Nat.le_of_ble_eq_true rfl) dX0_init_69 (fun H locs hP hD hS => ?_)
  have hP : va_P D vwCl ((h0, .inr (0, [.ref (ad2 0), .ref q4, .ref q6, .int 0, .ref q8, .ref q10, .ref q12, .int 719, .int 0, .int 0, .int 0, .null, .null, .null])) :: R13) H := hP
  have hD : va_D A ((h0, .inr (0, [.ref (ad2 0), .ref q4, .ref q6, .int 0, .ref q8, .ref q10, .ref q12, .int 719, .int 0, .int 0, .int 0, .null, .null, .null])) :: R13) := hD
  refine lv_aload_n hx hb dX0_init_72 rfl (lv_at hl 0 rfl) ?_
  refine lv_iconst (v := (0 : Int32)) hx hb dX0_init_73 (by decide) ?_
  refine va_put (D := D) (ci := 0) (v := .int (0 : Int32)) (ty := .int) (C := RX0) (T := TX0) (N := 14) hx hb hts inT_X0 tyX0 tyX0_ok nmX0 hown hK hP hD hS 0 rfl rfl 9 (by decide) (hts _ tw1_177) (fun _ h9 => h9) rfl (by decide +kernel) rfl rfl (Nat.le_of_ble_eq_true rfl) dX0_init_74 (fun H locs hP hD hS => ?_)
  have hP : va_P D vwCl ((h0, .inr (0, [.ref (ad2 0), .ref q4, .ref q6, .int 0, .ref q8, .ref q10, .ref q12, .int 719, .int 0, .int 0, .int 0, .null, .null, .null])) :: R13) H := hP
  have hD : va_D A ((h0, .inr (0, [.ref (ad2 0), .ref q4, .ref q6, .int 0, .ref q8, .ref q10, .ref q12, .int 719, .int 0, .int 0, .int 0, .null, .null, .null])) :: R13) := hD
  refine lv_aload_n hx hb dX0_init_77 rfl (lv_at hl 0 rfl) ?_
  refine lv_iconst (v := (0 : Int32)) hx hb dX0_init_78 (by decide) ?_
  refine va_put (D := D) (ci := 0) (v := .int (0 : Int32)) (ty := .int) (C := RX0) (T := TX0) (N := 14) hx hb hts inT_X0 tyX0 tyX0_ok nmX0 hown hK hP hD hS 0 rfl rfl 10 (by decide) (hts _ tw1_178) (fun _ h9 => h9) rfl (by decide +kernel) rfl rfl (Nat.le_of_ble_eq_true rfl) dX0_init_79 (fun H locs hP hD hS => ?_)
  have hP : va_P D vwCl ((h0, .inr (0, [.ref (ad2 0), .ref q4, .ref q6, .int 0, .ref q8, .ref q10, .ref q12, .int 719, .int 0, .int 0, .int 0, .null, .null, .null])) :: R13) H := hP
  have hD : va_D A ((h0, .inr (0, [.ref (ad2 0), .ref q4, .ref q6, .int 0, .ref q8, .ref q10, .ref q12, .int 719, .int 0, .int 0, .int 0, .null, .null, .null])) :: R13) := hD
  refine lv_aload_n hx hb dX0_init_82 rfl (lv_at hl 0 rfl) ?_
  refine lv_iconst (v := (4 : Int32)) hx hb dX0_init_83 (by decide) ?_
  refine nb_newi (N' := 4) hx hb (hts _ tw1_40) hK hP hD hS hA (by decide) (by decide) (by decide) (Nat.le_of_ble_eq_true rfl) (Nat.le_of_ble_eq_true rfl) dX0_init_84 (fun q14 H hP hD hS => ?_)
  obtain ⟨R15, eR15⟩ : ∃ z : va_W, z = R13 ++ [(q14, .inl (cA 0, 4, .inl (fun _ => 0)))] := ⟨_, rfl⟩
  have hP : va_P D vwCl ((h0, .inr (0, [.ref (ad2 0), .ref q4, .ref q6, .int 0, .ref q8, .ref q10, .ref q12, .int 719, .int 0, .int 0, .int 0, .null, .null, .null])) :: R15) H := by rw [eR15]; exact hP
  have hD : va_D A ((h0, .inr (0, [.ref (ad2 0), .ref q4, .ref q6, .int 0, .ref q8, .ref q10, .ref q12, .int 719, .int 0, .int 0, .int 0, .null, .null, .null])) :: R15) := by rw [eR15]; exact hD
  refine W.widen (k := 22) (n := 150) (Nat.le_of_ble_eq_true rfl) (Nat.le_of_ble_eq_true rfl) ?_
  refine va_putF (D := D) (ci := 0) (v := .ref q14) (ty := (.array .int)) (C := RX0) (T := TX0) (N := 14) hx hb hts inT_X0 tyX0 tyX0_ok nmX0 hown hK hP hD hS 0 rfl rfl 11 (by decide) (hts _ tw1_179) (fun _ h9 => h9) rfl hin rfl (by decide +kernel) rfl rfl (Nat.le_of_ble_eq_true rfl) dX0_init_86 (fun H locs hP hD hS => ?_)
  have hP : va_P D vwCl ((h0, .inr (0, [.ref (ad2 0), .ref q4, .ref q6, .int 0, .ref q8, .ref q10, .ref q12, .int 719, .int 0, .int 0, .int 0, .ref q14, .null, .null])) :: R15) H := hP
  have hD : va_D A ((h0, .inr (0, [.ref (ad2 0), .ref q4, .ref q6, .int 0, .ref q8, .ref q10, .ref q12, .int 719, .int 0, .int 0, .int 0, .ref q14, .null, .null])) :: R15) := hD
  refine lv_aload_n hx hb dX0_init_89 rfl (lv_at hl 0 rfl) ?_
  refine lv_iconst (v := (4 : Int32)) hx hb dX0_init_90 (by decide) ?_
  refine nb_newi (N' := 4) hx hb (hts _ tw1_40) hK hP hD hS hA (by decide) (by decide) (by decide) (Nat.le_of_ble_eq_true rfl) (Nat.le_of_ble_eq_true rfl) dX0_init_91 (fun q16 H hP hD hS => ?_)
  obtain ⟨R17, eR17⟩ : ∃ z : va_W, z = R15 ++ [(q16, .inl (cA 0, 4, .inl (fun _ => 0)))] := ⟨_, rfl⟩
  have hP : va_P D vwCl ((h0, .inr (0, [.ref (ad2 0), .ref q4, .ref q6, .int 0, .ref q8, .ref q10, .ref q12, .int 719, .int 0, .int 0, .int 0, .ref q14, .null, .null])) :: R17) H := by rw [eR17]; exact hP
  have hD : va_D A ((h0, .inr (0, [.ref (ad2 0), .ref q4, .ref q6, .int 0, .ref q8, .ref q10, .ref q12, .int 719, .int 0, .int 0, .int 0, .ref q14, .null, .null])) :: R17) := by rw [eR17]; exact hD
  refine W.widen (k := 23) (n := 154) (Nat.le_of_ble_eq_true rfl) (Nat.le_of_ble_eq_true rfl) ?_
  refine va_putF (D := D) (ci := 0) (v := .ref q16) (ty := (.array .int)) (C := RX0) (T := TX0) (N := 14) hx hb hts inT_X0 tyX0 tyX0_ok nmX0 hown hK hP hD hS 0 rfl rfl 12 (by decide) (hts _ tw1_180) (fun _ h9 => h9) rfl hin rfl (by decide +kernel) rfl rfl (Nat.le_of_ble_eq_true rfl) dX0_init_93 (fun H locs hP hD hS => ?_)
  have hP : va_P D vwCl ((h0, .inr (0, [.ref (ad2 0), .ref q4, .ref q6, .int 0, .ref q8, .ref q10, .ref q12, .int 719, .int 0, .int 0, .int 0, .ref q14, .ref q16, .null])) :: R17) H := hP
  have hD : va_D A ((h0, .inr (0, [.ref (ad2 0), .ref q4, .ref q6, .int 0, .ref q8, .ref q10, .ref q12, .int 719, .int 0, .int 0, .int 0, .ref q14, .ref q16, .null])) :: R17) := hD
  refine lv_aload_n hx hb dX0_init_96 rfl (lv_at hl 0 rfl) ?_
  refine lv_iconst (v := (4 : Int32)) hx hb dX0_init_97 (by decide) ?_
  refine nb_newi (N' := 4) hx hb (hts _ tw1_40) hK hP hD hS hA (by decide) (by decide) (by decide) (Nat.le_of_ble_eq_true rfl) (Nat.le_of_ble_eq_true rfl) dX0_init_98 (fun q18 H hP hD hS => ?_)
  obtain ⟨R19, eR19⟩ : ∃ z : va_W, z = R17 ++ [(q18, .inl (cA 0, 4, .inl (fun _ => 0)))] := ⟨_, rfl⟩
  have hP : va_P D vwCl ((h0, .inr (0, [.ref (ad2 0), .ref q4, .ref q6, .int 0, .ref q8, .ref q10, .ref q12, .int 719, .int 0, .int 0, .int 0, .ref q14, .ref q16, .null])) :: R19) H := by rw [eR19]; exact hP
  have hD : va_D A ((h0, .inr (0, [.ref (ad2 0), .ref q4, .ref q6, .int 0, .ref q8, .ref q10, .ref q12, .int 719, .int 0, .int 0, .int 0, .ref q14, .ref q16, .null])) :: R19) := by rw [eR19]; exact hD
  refine W.widen (k := 24) (n := 158) (Nat.le_of_ble_eq_true rfl) (Nat.le_of_ble_eq_true rfl) ?_
  refine va_putF (D := D) (ci := 0) (v := .ref q18) (ty := (.array .int)) (C := RX0) (T := TX0) (N := 14) hx hb hts inT_X0 tyX0 tyX0_ok nmX0 hown hK hP hD hS 0 rfl rfl 13 (by decide) (hts _ tw1_181) (fun _ h9 => h9) rfl hin rfl (by decide +kernel) rfl rfl (Nat.le_of_ble_eq_true rfl) dX0_init_100 (fun H locs hP hD hS => ?_)
  have hP : va_P D vwCl ((h0, .inr (0, [.ref (ad2 0), .ref q4, .ref q6, .int 0, .ref q8, .ref q10, .ref q12, .int 719, .int 0, .int 0, .int 0, .ref q14, .ref q16, .ref q18])) :: R19) H := hP
  have hD : va_D A ((h0, .inr (0, [.ref (ad2 0), .ref q4, .ref q6, .int 0, .ref q8, .ref q10, .ref q12, .int 719, .int 0, .int 0, .int 0, .ref q14, .ref q16, .ref q18])) :: R19) := hD
  have hPu : va_P D vwCl (nb_cs sh_X0 (fun k : Nat => cond (Nat.ble 24 k) (q18) (cond (Nat.ble 23 k) (q16) (cond (Nat.ble 22 k) (q14) (cond (Nat.ble 21 k) (q12) (cond (Nat.ble 20 k) (q10) (cond (Nat.ble 19 k) (q8) (cond (Nat.ble 18 k) (q6) (cond (Nat.ble 17 k) (q4) (cond (Nat.ble 1 k) (ad2 (k - 1)) (h0)))))))))) cA s0_X0) H := by
    rw [eR19, eR17, eR15, eR13, eR11, eR9, eR7, eR5, eR3] at hP
    exact hP
  have hDu : va_D A (nb_cs sh_X0 (fun k : Nat => cond (Nat.ble 24 k) (q18) (cond (Nat.ble 23 k) (q16) (cond (Nat.ble 22 k) (q14) (cond (Nat.ble 21 k) (q12) (cond (Nat.ble 20 k) (q10) (cond (Nat.ble 19 k) (q8) (cond (Nat.ble 18 k) (q6) (cond (Nat.ble 17 k) (q4) (cond (Nat.ble 1 k) (ad2 (k - 1)) (h0)))))))))) cA s0_X0) := by
    rw [eR19, eR17, eR15, eR13, eR11, eR9, eR7, eR5, eR3] at hD
    exact hD
  exact W.vret hx hb hr (fun t ht hW => ⟨⟨(fun k : Nat => cond (Nat.ble 24 k) (q18) (cond (Nat.ble 23 k) (q16) (cond (Nat.ble 22 k) (q14) (cond (Nat.ble 21 k) (q12) (cond (Nat.ble 20 k) (q10) (cond (Nat.ble 19 k) (q8) (cond (Nat.ble 18 k) (q6) (cond (Nat.ble 17 k) (q4) (cond (Nat.ble 1 k) (ad2 (k - 1)) (h0)))))))))), rfl, rfl, by rw [ht]; exact hPu, va_K.moved hW.alike hK, hDu⟩, hS.F ht⟩) hS.2.2 dX0_init_103
