def s0_X7 : nb_St := fun k j => cond (Nat.beq k 36 && Nat.beq j 0) 37 (cond (Nat.ble 69 k) (s0_X3 (k - 69) j) (cond (Nat.ble 64 k) (s0_X1 (k - 64) j) (cond (Nat.ble 61 k) (s0_X2 (k - 61) j) (cond (Nat.ble 36 k) (s0_X0 (k - 36) j) (cond (Nat.ble 20 k) (s0_X4 (k - 20) j) (cond (Nat.ble 4 k) (s0_X4 (k - 4) j) (cond (Nat.ble 2 k) (s0_X5 (k - 2) j) (cond (Nat.ble 1 k) (0) (cond (Nat.beq j 3) 4 (cond (Nat.beq j 4) 20 (0)))))))))))
def rmX7_init : Room := { frames := 4, cells := 78, slots := 874, locals := 80 }
def vsX7_init : List Cond := .code yX7_init cX7_init 1 none :: xT
def fX7_init (N : Nat) : Option nb_St :=
  nb_let (nb_ix (s0_X7 0 3)) fun p1 =>
  nb_g (xc_pty p1) (
  nb_b2 (fX4_addGuest N s0_X7 p1 (0 : Int32) (200 : Int32) (30 : Int32) (0 : Int32)) fun r5 σ4 =>
  nb_let (nb_ix (σ4 0 3)) fun p6 =>
  nb_g (xc_pty p6) (
  nb_b2 (fX4_addGuest N σ4 p6 (1 : Int32) (210 : Int32) (40 : Int32) (0 : Int32)) fun r10 σ9 =>
  nb_let (nb_ix (σ9 0 3)) fun p11 =>
  nb_g (xc_pty p11) (
  nb_b (fX1_gather N σ9 p11) fun σ14 =>
  some σ14)))
set_option maxHeartbeats 8000000 in
set_option maxRecDepth 100000 in
theorem c_X7_init (l : Launch) (D : va_G) (cA : Nat → ClassId) (tb : Nat → Nat) (h0 sz : Nat) {N : Nat} {σo : nb_St} (hf : fX7_init N = some σo) : Met l yX7_init vsX7_init rmX7_init (va_Pc [.ref h0] (fun U => U.heap.size = sz ∧ va_P D vwCl [(h0, .inr (7, [.null, .int 0, .null, .null, .null, .null, .null, .null, .null]))] U.heap ∧ va_K D vwCl (nb_ty cA) U ∧ va_D (fun _ => True) [(h0, .inr (7, [.null, .int 0, .null, .null, .null, .null, .null, .null, .null]))] ∧ xc_Z (va_A [(h0, .inr (7, [.null, .int 0, .null, .null, .null, .null, .null, .null, .null]))] sz) tb U U.heap)) (va_Qv (fun ad : Nat → Nat => ad 0 = h0) (fun ad t => va_P D vwCl (nb_cs xc_sh ad cA σo) t.heap ∧ va_K D vwCl (nb_ty cA) t ∧ va_D (va_A [(h0, .inr (7, [.null, .int 0, .null, .null, .null, .null, .null, .null, .null]))] sz) (nb_cs xc_sh ad cA σo)) (va_A [(h0, .inr (7, [.null, .int 0, .null, .null, .null, .null, .null, .null, .null]))] sz)) 78 874 (va_A [(h0, .inr (7, [.null, .int 0, .null, .null, .null, .null, .null, .null, .null]))] sz) := by
  refine Met.ofW (cc := cX7_init) (maxL := 1) (ret := none) (by decide) rfl ?_
  intro p e s m args below meth c s₁ B hml hv
  obtain ⟨rfl, hsz, hP, hK, hD0, hZ⟩ := hv
  have hN : nb_NM s := hZ.2.1
  have hx := B.exec
  have hb := B.bytes
  have hr := B.returns
  have hts : ∀ w ∈ xT, w.before _ s = true := fun w h9 => atoms_spec (ws := vsX7_init) B.pre w (List.mem_cons_of_mem _ h9)
  have hown : s.vm.findClass RX7 = some m.cls := findClass_of_methodNamed B.named
  have hlocks := B.notSynchronized
  have hin : meth.name = "<init>" := (name_of_methodNamed B.named B.method).1
  subst hsz
  have hD := hD0.self (sz := s.heap.size)
  generalize hAe : va_A [(h0, .inr (7, [.null, .int 0, .null, .null, .null, .null, .null, .null, .null]))] s.heap.size = A at hD hZ ⊢
  have hA : ∀ q : Nat, s.heap.size ≤ q → A q := fun q h => by rw [← hAe]; exact Or.inr h
  have hS : va_S A s.heap s.heap [] := va_S.rf
  have hP : va_P D vwCl [(h0, .inr (7, [.null, .int 0, .null, .null, .null, .null, .null, .null, .null]))] s.heap := hP
  have hl := lv_entry ([.ref h0]) (n := 1) (Nat.le_of_ble_eq_true rfl)
  rw [lg_entry_eq]
  generalize (lg_sl ([.ref h0]) ++ List.replicate (1 - (lg_sl ([.ref h0])).length) Slot.unset).toArray = ls at hl ⊢
  have hl : lv_has ls 1 [(0, .ref h0)] := hl
  refine lv_aload_n hx hb dX7_init_0 rfl (lv_at hl 0 rfl) ?_
  refine W.objInit hx hb hown (hts _ tw1_23) (hts _ tw1_24) (hts _ tw1_25) rfl (by rw [hml]; exact hl.1) rfl dX7_init_1 (Nat.le_of_ble_eq_true rfl) (Nat.le_of_ble_eq_true rfl) ?_
  refine W.eq (g2 := F0 m 4 ls []) rfl ?_
  refine lv_aload_n hx hb dX7_init_4 rfl (lv_at hl 0 rfl) ?_
  refine lv_sipush (v := (400 : Int32)) hx hb dX7_init_5 (by decide) ?_
  refine nb_newb (N' := 400) hx hb (hts _ tw1_39) hK hP hD hS hA (by decide) (by decide) (by decide) (Nat.le_of_ble_eq_true rfl) (Nat.le_of_ble_eq_true rfl) dX7_init_8 (fun q1 H hP hD hS => ?_)
  obtain ⟨R2, eR2⟩ : ∃ z : va_W, z = ([] : va_W) ++ [(q1, .inl (cA 1, 400, .inl (fun _ => 0)))] := ⟨_, rfl⟩
  have hP : va_P D vwCl ((h0, .inr (7, [.null, .int 0, .null, .null, .null, .null, .null, .null, .null])) :: R2) H := by rw [eR2]; exact hP
  have hD : va_D A ((h0, .inr (7, [.null, .int 0, .null, .null, .null, .null, .null, .null, .null])) :: R2) := by rw [eR2]; exact hD
  refine W.widen (k := 1) (n := 400) (Nat.le_of_ble_eq_true rfl) (Nat.le_of_ble_eq_true rfl) ?_
  refine va_putF (D := D) (ci := 7) (v := .ref q1) (ty := (.array .byte)) (C := RX7) (T := TX7) (N := 9) hx hb hts inT_X7 tyX7 tyX7_ok nmX7 hown hK hP hD hS 0 rfl rfl 0 (by decide) (hts _ tw2_69) (fun _ h9 => h9) rfl hin rfl (by decide +kernel) rfl rfl (Nat.le_of_ble_eq_true rfl) dX7_init_10 (fun H locs hP hD hS => ?_)
  have hP : va_P D vwCl ((h0, .inr (7, [.ref q1, .int 0, .null, .null, .null, .null, .null, .null, .null])) :: R2) H := hP
  have hD : va_D A ((h0, .inr (7, [.ref q1, .int 0, .null, .null, .null, .null, .null, .null, .null])) :: R2) := hD
  refine lv_aload_n hx hb dX7_init_13 rfl (lv_at hl 0 rfl) ?_
  refine lv_iconst (v := (0 : Int32)) hx hb dX7_init_14 (by decide) ?_
  refine va_put (D := D) (ci := 7) (v := .int (0 : Int32)) (ty := .int) (C := RX7) (T := TX7) (N := 9) hx hb hts inT_X7 tyX7 tyX7_ok nmX7 hown hK hP hD hS 0 rfl rfl 1 (by decide) (hts _ tw2_70) (fun _ h9 => h9) rfl (by decide +kernel) rfl rfl (Nat.le_of_ble_eq_true rfl) dX7_init_15 (fun H locs hP hD hS => ?_)
  have hP : va_P D vwCl ((h0, .inr (7, [.ref q1, .int 0, .null, .null, .null, .null, .null, .null, .null])) :: R2) H := hP
  have hD : va_D A ((h0, .inr (7, [.ref q1, .int 0, .null, .null, .null, .null, .null, .null, .null])) :: R2) := hD
  refine lv_aload_n hx hb dX7_init_18 rfl (lv_at hl 0 rfl) ?_
  refine va_new (ci := 5) (fs := [.null, .int 0]) (C := RX5) (T := TX5) (N := 2) hx hb hts inT_X5 tyX5 tyX5_ok hown (hts _ tw1_26) (hts _ tw1_27) (hts _ tw1_2) hK hP hD hS hA rfl (fun j hj => by rcases (show j = 0 ∨ j = 1 by omega) with rfl | rfl <;> rfl) (Nat.le_of_ble_eq_true rfl) (Nat.le_of_ble_eq_true rfl) dX7_init_19 (fun q3 H hP hD hS => ?_)
  refine W.widen (k := 2) (n := 402) (Nat.le_of_ble_eq_true rfl) (Nat.le_of_ble_eq_true rfl) ?_
  refine lv_dup hx hb dX7_init_22 rfl ?_
  have hP : va_P D vwCl (((h0, .inr (7, [.ref q1, .int 0, .null, .null, .null, .null, .null, .null, .null])) :: R2) ++ [(q3, .inr (5, [.null, .int 0]))]) H := hP
  have hD : va_D A (((h0, .inr (7, [.ref q1, .int 0, .null, .null, .null, .null, .null, .null, .null])) :: R2) ++ [(q3, .inr (5, [.null, .int 0]))]) := hD
  have hPc := nb_lastP hP
  have hDc := nb_lastD hD
  have hFc := nb_freeL hD hS hA
  refine va_callv (va_runIN (As := []) (rest := [.ref q3, .ref h0]) ⟨hx, hb, hml, hown, hts⟩ (c_X5_init l D cA q3 H.size) ⟨va_cnB (host := "NobodyFirst") 0 hts (xg_P tw1_30) rfl rfl rfl (hN ("NobodyFirst", 19, yX5_init, "NobodyFirst") (by decide +kernel)) (hts _ tw1_2) (by decide +kernel) ⟨Nat.le_of_ble_eq_true rfl, Nat.le_of_ble_eq_true rfl⟩, rfl, hts _ tw1_29⟩ (nb_preI hK hN hPc hDc) rfl rfl hl.1 rfl (lv_room (Nat.le_of_ble_eq_true rfl)) dX7_init_23 ⟨Nat.le_of_ble_eq_true rfl, Nat.le_of_ble_eq_true rfl⟩) hS (fun q _ h => hFc q h) hFc (fun ad4 t H1 locs ht hvm hw hB hz1 hk1 hS => ?_)
  have hw : ad4 0 = q3 := hw
  subst hw
  obtain ⟨hP1, hK1, hD1⟩ := hB
  rw [ht] at hP1
  obtain ⟨hP, hD⟩ := nb_joinL hP hD hk1 hFc hP1 hD1
  generalize H1 = H at hP hS ⊢
  obtain ⟨R5, eR5⟩ : ∃ z : va_W, z = R2 ++ nb_cs sh_X5 ad4 cA s0_X5 := ⟨_, rfl⟩
  have hP : va_P D vwCl ((h0, .inr (7, [.ref q1, .int 0, .null, .null, .null, .null, .null, .null, .null])) :: R5) H := by rw [eR5]; exact hP
  have hD : va_D A ((h0, .inr (7, [.ref q1, .int 0, .null, .null, .null, .null, .null, .null, .null])) :: R5) := by rw [eR5]; exact hD
  refine W.widen (k := 3) (n := 406) (Nat.le_of_ble_eq_true rfl) (Nat.le_of_ble_eq_true rfl) ?_
  refine va_putF (D := D) (ci := 7) (v := .ref (ad4 0)) (ty := (.object "NobodyFirst$Reader")) (C := RX7) (T := TX7) (N := 9) hx hb hts inT_X7 tyX7 tyX7_ok nmX7 hown hK hP hD hS 0 rfl rfl 2 (by decide) (hts _ tw2_71) (fun _ h9 => h9) rfl hin rfl (by decide +kernel) rfl rfl (Nat.le_of_ble_eq_true rfl) dX7_init_26 (fun H locs hP hD hS => ?_)
  have hP : va_P D vwCl ((h0, .inr (7, [.ref q1, .int 0, .ref (ad4 0), .null, .null, .null, .null, .null, .null])) :: R5) H := hP
  have hD : va_D A ((h0, .inr (7, [.ref q1, .int 0, .ref (ad4 0), .null, .null, .null, .null, .null, .null])) :: R5) := hD
  refine lv_aload_n hx hb dX7_init_29 rfl (lv_at hl 0 rfl) ?_
  refine va_new (ci := 4) (fs := [.int 0, .null, .null, .null, .null, .null, .int 0, .int 0, .int 0, .int 0, .null, .null, .null, .null, .int 0, .null, .null, .null]) (C := RX4) (T := TX4) (N := 18) hx hb hts inT_X4 tyX4 tyX4_ok hown (hts _ tw1_41) (hts _ tw1_42) (hts _ tw1_3) hK hP hD hS hA rfl (fun j hj => by rcases (show j = 0 ∨ j = 1 ∨ j = 2 ∨ j = 3 ∨ j = 4 ∨ j = 5 ∨ j = 6 ∨ j = 7 ∨ j = 8 ∨ j = 9 ∨ j = 10 ∨ j = 11 ∨ j = 12 ∨ j = 13 ∨ j = 14 ∨ j = 15 ∨ j = 16 ∨ j = 17 by omega) with rfl | rfl | rfl | rfl | rfl | rfl | rfl | rfl | rfl | rfl | rfl | rfl | rfl | rfl | rfl | rfl | rfl | rfl <;> rfl) (Nat.le_of_ble_eq_true rfl) (Nat.le_of_ble_eq_true rfl) dX7_init_30 (fun q6 H hP hD hS => ?_)
  refine W.widen (k := 4) (n := 424) (Nat.le_of_ble_eq_true rfl) (Nat.le_of_ble_eq_true rfl) ?_
  refine lv_dup hx hb dX7_init_33 rfl ?_
  have hP : va_P D vwCl (((h0, .inr (7, [.ref q1, .int 0, .ref (ad4 0), .null, .null, .null, .null, .null, .null])) :: R5) ++ [(q6, .inr (4, [.int 0, .null, .null, .null, .null, .null, .int 0, .int 0, .int 0, .int 0, .null, .null, .null, .null, .int 0, .null, .null, .null]))]) H := hP
  have hD : va_D A (((h0, .inr (7, [.ref q1, .int 0, .ref (ad4 0), .null, .null, .null, .null, .null, .null])) :: R5) ++ [(q6, .inr (4, [.int 0, .null, .null, .null, .null, .null, .int 0, .int 0, .int 0, .int 0, .null, .null, .null, .null, .int 0, .null, .null, .null]))]) := hD
  have hPc := nb_lastP hP
  have hDc := nb_lastD hD
  have hFc := nb_freeL hD hS hA
  refine va_callv (va_runIN (As := []) (rest := [.ref q6, .ref h0]) ⟨hx, hb, hml, hown, hts⟩ (c_X4_init l D cA q6 H.size) ⟨va_cnB (host := "NobodyFirst") 0 hts (xg_P tw1_45) rfl rfl rfl (hN ("NobodyFirst", 26, yX4_init, "NobodyFirst") (by decide +kernel)) (hts _ tw1_3) (by decide +kernel) ⟨Nat.le_of_ble_eq_true rfl, Nat.le_of_ble_eq_true rfl⟩, rfl, hts _ tw1_44⟩ (nb_preI hK hN hPc hDc) rfl rfl hl.1 rfl (lv_room (Nat.le_of_ble_eq_true rfl)) dX7_init_34 ⟨Nat.le_of_ble_eq_true rfl, Nat.le_of_ble_eq_true rfl⟩) hS (fun q _ h => hFc q h) hFc (fun ad7 t H1 locs ht hvm hw hB hz1 hk1 hS => ?_)
  have hw : ad7 0 = q6 := hw
  subst hw
  obtain ⟨hP1, hK1, hD1⟩ := hB
  rw [ht] at hP1
  obtain ⟨hP, hD⟩ := nb_joinL hP hD hk1 hFc hP1 hD1
  generalize H1 = H at hP hS ⊢
  obtain ⟨R8, eR8⟩ : ∃ z : va_W, z = R5 ++ nb_cs sh_X4 ad7 cA s0_X4 := ⟨_, rfl⟩
  have hP : va_P D vwCl ((h0, .inr (7, [.ref q1, .int 0, .ref (ad4 0), .null, .null, .null, .null, .null, .null])) :: R8) H := by rw [eR8]; exact hP
  have hD : va_D A ((h0, .inr (7, [.ref q1, .int 0, .ref (ad4 0), .null, .null, .null, .null, .null, .null])) :: R8) := by rw [eR8]; exact hD
  refine W.widen (k := 19) (n := 509) (Nat.le_of_ble_eq_true rfl) (Nat.le_of_ble_eq_true rfl) ?_
  refine va_put (D := D) (ci := 7) (v := .ref (ad7 0)) (ty := (.object "NobodyFirst$Party")) (C := RX7) (T := TX7) (N := 9) hx hb hts inT_X7 tyX7 tyX7_ok nmX7 hown hK hP hD hS 0 rfl rfl 3 (by decide) (hts _ tw2_72) (fun _ h9 => h9) rfl (by decide +kernel) rfl rfl (Nat.le_of_ble_eq_true rfl) dX7_init_37 (fun H locs hP hD hS => ?_)
  have hP : va_P D vwCl ((h0, .inr (7, [.ref q1, .int 0, .ref (ad4 0), .ref (ad7 0), .null, .null, .null, .null, .null])) :: R8) H := hP
  have hD : va_D A ((h0, .inr (7, [.ref q1, .int 0, .ref (ad4 0), .ref (ad7 0), .null, .null, .null, .null, .null])) :: R8) := hD
  refine lv_aload_n hx hb dX7_init_40 rfl (lv_at hl 0 rfl) ?_
  refine va_new (ci := 4) (fs := [.int 0, .null, .null, .null, .null, .null, .int 0, .int 0, .int 0, .int 0, .null, .null, .null, .null, .int 0, .null, .null, .null]) (C := RX4) (T := TX4) (N := 18) hx hb hts inT_X4 tyX4 tyX4_ok hown (hts _ tw1_41) (hts _ tw1_42) (hts _ tw1_3) hK hP hD hS hA rfl (fun j hj => by rcases (show j = 0 ∨ j = 1 ∨ j = 2 ∨ j = 3 ∨ j = 4 ∨ j = 5 ∨ j = 6 ∨ j = 7 ∨ j = 8 ∨ j = 9 ∨ j = 10 ∨ j = 11 ∨ j = 12 ∨ j = 13 ∨ j = 14 ∨ j = 15 ∨ j = 16 ∨ j = 17 by omega) with rfl | rfl | rfl | rfl | rfl | rfl | rfl | rfl | rfl | rfl | rfl | rfl | rfl | rfl | rfl | rfl | rfl | rfl <;> rfl) (Nat.le_of_ble_eq_true rfl) (Nat.le_of_ble_eq_true rfl) dX7_init_41 (fun q9 H hP hD hS => ?_)
  refine W.widen (k := 20) (n := 527) (Nat.le_of_ble_eq_true rfl) (Nat.le_of_ble_eq_true rfl) ?_
  refine lv_dup hx hb dX7_init_44 rfl ?_
  have hP : va_P D vwCl (((h0, .inr (7, [.ref q1, .int 0, .ref (ad4 0), .ref (ad7 0), .null, .null, .null, .null, .null])) :: R8) ++ [(q9, .inr (4, [.int 0, .null, .null, .null, .null, .null, .int 0, .int 0, .int 0, .int 0, .null, .null, .null, .null, .int 0, .null, .null, .null]))]) H := hP
  have hD : va_D A (((h0, .inr (7, [.ref q1, .int 0, .ref (ad4 0), .ref (ad7 0), .null, .null, .null, .null, .null])) :: R8) ++ [(q9, .inr (4, [.int 0, .null, .null, .null, .null, .null, .int 0, .int 0, .int 0, .int 0, .null, .null, .null, .null, .int 0, .null, .null, .null]))]) := hD
  have hPc := nb_lastP hP
  have hDc := nb_lastD hD
  have hFc := nb_freeL hD hS hA
  refine va_callv (va_runIN (As := []) (rest := [.ref q9, .ref h0]) ⟨hx, hb, hml, hown, hts⟩ (c_X4_init l D cA q9 H.size) ⟨va_cnB (host := "NobodyFirst") 0 hts (xg_P tw1_45) rfl rfl rfl (hN ("NobodyFirst", 26, yX4_init, "NobodyFirst") (by decide +kernel)) (hts _ tw1_3) (by decide +kernel) ⟨Nat.le_of_ble_eq_true rfl, Nat.le_of_ble_eq_true rfl⟩, rfl, hts _ tw1_44⟩ (nb_preI hK hN hPc hDc) rfl rfl hl.1 rfl (lv_room (Nat.le_of_ble_eq_true rfl)) dX7_init_45 ⟨Nat.le_of_ble_eq_true rfl, Nat.le_of_ble_eq_true rfl⟩) hS (fun q _ h => hFc q h) hFc (fun ad10 t H1 locs ht hvm hw hB hz1 hk1 hS => ?_)
  have hw : ad10 0 = q9 := hw
  subst hw
  obtain ⟨hP1, hK1, hD1⟩ := hB
  rw [ht] at hP1
  obtain ⟨hP, hD⟩ := nb_joinL hP hD hk1 hFc hP1 hD1
  generalize H1 = H at hP hS ⊢
  obtain ⟨R11, eR11⟩ : ∃ z : va_W, z = R8 ++ nb_cs sh_X4 ad10 cA s0_X4 := ⟨_, rfl⟩
  have hP : va_P D vwCl ((h0, .inr (7, [.ref q1, .int 0, .ref (ad4 0), .ref (ad7 0), .null, .null, .null, .null, .null])) :: R11) H := by rw [eR11]; exact hP
  have hD : va_D A ((h0, .inr (7, [.ref q1, .int 0, .ref (ad4 0), .ref (ad7 0), .null, .null, .null, .null, .null])) :: R11) := by rw [eR11]; exact hD
  refine W.widen (k := 35) (n := 612) (Nat.le_of_ble_eq_true rfl) (Nat.le_of_ble_eq_true rfl) ?_
  refine va_put (D := D) (ci := 7) (v := .ref (ad10 0)) (ty := (.object "NobodyFirst$Party")) (C := RX7) (T := TX7) (N := 9) hx hb hts inT_X7 tyX7 tyX7_ok nmX7 hown hK hP hD hS 0 rfl rfl 4 (by decide) (hts _ tw2_73) (fun _ h9 => h9) rfl (by decide +kernel) rfl rfl (Nat.le_of_ble_eq_true rfl) dX7_init_48 (fun H locs hP hD hS => ?_)
  have hP : va_P D vwCl ((h0, .inr (7, [.ref q1, .int 0, .ref (ad4 0), .ref (ad7 0), .ref (ad10 0), .null, .null, .null, .null])) :: R11) H := hP
  have hD : va_D A ((h0, .inr (7, [.ref q1, .int 0, .ref (ad4 0), .ref (ad7 0), .ref (ad10 0), .null, .null, .null, .null])) :: R11) := hD
  refine lv_aload_n hx hb dX7_init_51 rfl (lv_at hl 0 rfl) ?_
  refine va_new (ci := 0) (fs := [.null, .null, .null, .int 0, .null, .null, .null, .int 0, .int 0, .int 0, .int 0, .null, .null, .null]) (C := RX0) (T := TX0) (N := 14) hx hb hts inT_X0 tyX0 tyX0_ok hown (hts _ tw1_160) (hts _ tw1_161) (hts _ tw1_5) hK hP hD hS hA rfl (fun j hj => by rcases (show j = 0 ∨ j = 1 ∨ j = 2 ∨ j = 3 ∨ j = 4 ∨ j = 5 ∨ j = 6 ∨ j = 7 ∨ j = 8 ∨ j = 9 ∨ j = 10 ∨ j = 11 ∨ j = 12 ∨ j = 13 by omega) with rfl | rfl | rfl | rfl | rfl | rfl | rfl | rfl | rfl | rfl | rfl | rfl | rfl | rfl <;> rfl) (Nat.le_of_ble_eq_true rfl) (Nat.le_of_ble_eq_true rfl) dX7_init_52 (fun q12 H hP hD hS => ?_)
  refine W.widen (k := 36) (n := 626) (Nat.le_of_ble_eq_true rfl) (Nat.le_of_ble_eq_true rfl) ?_
  refine lv_dup hx hb dX7_init_55 rfl ?_
  have hP : va_P D vwCl (((h0, .inr (7, [.ref q1, .int 0, .ref (ad4 0), .ref (ad7 0), .ref (ad10 0), .null, .null, .null, .null])) :: R11) ++ [(q12, .inr (0, [.null, .null, .null, .int 0, .null, .null, .null, .int 0, .int 0, .int 0, .int 0, .null, .null, .null]))]) H := hP
  have hD : va_D A (((h0, .inr (7, [.ref q1, .int 0, .ref (ad4 0), .ref (ad7 0), .ref (ad10 0), .null, .null, .null, .null])) :: R11) ++ [(q12, .inr (0, [.null, .null, .null, .int 0, .null, .null, .null, .int 0, .int 0, .int 0, .int 0, .null, .null, .null]))]) := hD
  have hPc := nb_lastP hP
  have hDc := nb_lastD hD
  have hFc := nb_freeL hD hS hA
  refine va_callv (va_runIN (As := []) (rest := [.ref q12, .ref h0]) ⟨hx, hb, hml, hown, hts⟩ (c_X0_init l D cA q12 H.size) ⟨va_cnB (host := "NobodyFirst") 0 hts (xg_P tw1_164) rfl rfl rfl (hN ("NobodyFirst", 36, yX0_init, "NobodyFirst") (by decide +kernel)) (hts _ tw1_5) (by decide +kernel) ⟨Nat.le_of_ble_eq_true rfl, Nat.le_of_ble_eq_true rfl⟩, rfl, hts _ tw1_163⟩ (nb_preI hK hN hPc hDc) rfl rfl hl.1 rfl (lv_room (Nat.le_of_ble_eq_true rfl)) dX7_init_56 ⟨Nat.le_of_ble_eq_true rfl, Nat.le_of_ble_eq_true rfl⟩) hS (fun q _ h => hFc q h) hFc (fun ad13 t H1 locs ht hvm hw hB hz1 hk1 hS => ?_)
  have hw : ad13 0 = q12 := hw
  subst hw
  obtain ⟨hP1, hK1, hD1⟩ := hB
  rw [ht] at hP1
  obtain ⟨hP, hD⟩ := nb_joinL hP hD hk1 hFc hP1 hD1
  generalize H1 = H at hP hS ⊢
  obtain ⟨R14, eR14⟩ : ∃ z : va_W, z = R11 ++ nb_cs sh_X0 ad13 cA s0_X0 := ⟨_, rfl⟩
  have hP : va_P D vwCl ((h0, .inr (7, [.ref q1, .int 0, .ref (ad4 0), .ref (ad7 0), .ref (ad10 0), .null, .null, .null, .null])) :: R14) H := by rw [eR14]; exact hP
  have hD : va_D A ((h0, .inr (7, [.ref q1, .int 0, .ref (ad4 0), .ref (ad7 0), .ref (ad10 0), .null, .null, .null, .null])) :: R14) := by rw [eR14]; exact hD
  refine W.widen (k := 60) (n := 784) (Nat.le_of_ble_eq_true rfl) (Nat.le_of_ble_eq_true rfl) ?_
  refine va_putF (D := D) (ci := 7) (v := .ref (ad13 0)) (ty := (.object "NobodyFirst$Evening")) (C := RX7) (T := TX7) (N := 9) hx hb hts inT_X7 tyX7 tyX7_ok nmX7 hown hK hP hD hS 0 rfl rfl 5 (by decide) (hts _ tw2_74) (fun _ h9 => h9) rfl hin rfl (by decide +kernel) rfl rfl (Nat.le_of_ble_eq_true rfl) dX7_init_59 (fun H locs hP hD hS => ?_)
  have hP : va_P D vwCl ((h0, .inr (7, [.ref q1, .int 0, .ref (ad4 0), .ref (ad7 0), .ref (ad10 0), .ref (ad13 0), .null, .null, .null])) :: R14) H := hP
  have hD : va_D A ((h0, .inr (7, [.ref q1, .int 0, .ref (ad4 0), .ref (ad7 0), .ref (ad10 0), .ref (ad13 0), .null, .null, .null])) :: R14) := hD
  refine lv_aload_n hx hb dX7_init_62 rfl (lv_at hl 0 rfl) ?_
  refine va_new (ci := 2) (fs := [.int 0, .int 0, .null, .null]) (C := RX2) (T := TX2) (N := 4) hx hb hts inT_X2 tyX2 tyX2_ok hown (hts _ tw1_211) (hts _ tw1_212) (hts _ tw1_6) hK hP hD hS hA rfl (fun j hj => by rcases (show j = 0 ∨ j = 1 ∨ j = 2 ∨ j = 3 by omega) with rfl | rfl | rfl | rfl <;> rfl) (Nat.le_of_ble_eq_true rfl) (Nat.le_of_ble_eq_true rfl) dX7_init_63 (fun q15 H hP hD hS => ?_)
  refine W.widen (k := 61) (n := 788) (Nat.le_of_ble_eq_true rfl) (Nat.le_of_ble_eq_true rfl) ?_
  refine lv_dup hx hb dX7_init_66 rfl ?_
  have hP : va_P D vwCl (((h0, .inr (7, [.ref q1, .int 0, .ref (ad4 0), .ref (ad7 0), .ref (ad10 0), .ref (ad13 0), .null, .null, .null])) :: R14) ++ [(q15, .inr (2, [.int 0, .int 0, .null, .null]))]) H := hP
  have hD : va_D A (((h0, .inr (7, [.ref q1, .int 0, .ref (ad4 0), .ref (ad7 0), .ref (ad10 0), .ref (ad13 0), .null, .null, .null])) :: R14) ++ [(q15, .inr (2, [.int 0, .int 0, .null, .null]))]) := hD
  have hPc := nb_lastP hP
  have hDc := nb_lastD hD
  have hFc := nb_freeL hD hS hA
  refine va_callv (va_runIN (As := []) (rest := [.ref q15, .ref h0]) ⟨hx, hb, hml, hown, hts⟩ (c_X2_init l D cA q15 H.size) ⟨va_cnB (host := "NobodyFirst") 0 hts (xg_P tw1_215) rfl rfl rfl (hN ("NobodyFirst", 43, yX2_init, "NobodyFirst") (by decide +kernel)) (hts _ tw1_6) (by decide +kernel) ⟨Nat.le_of_ble_eq_true rfl, Nat.le_of_ble_eq_true rfl⟩, rfl, hts _ tw1_214⟩ (nb_preI hK hN hPc hDc) rfl rfl hl.1 rfl (lv_room (Nat.le_of_ble_eq_true rfl)) dX7_init_67 ⟨Nat.le_of_ble_eq_true rfl, Nat.le_of_ble_eq_true rfl⟩) hS (fun q _ h => hFc q h) hFc (fun ad16 t H1 locs ht hvm hw hB hz1 hk1 hS => ?_)
  have hw : ad16 0 = q15 := hw
  subst hw
  obtain ⟨hP1, hK1, hD1⟩ := hB
  rw [ht] at hP1
  obtain ⟨hP, hD⟩ := nb_joinL hP hD hk1 hFc hP1 hD1
  generalize H1 = H at hP hS ⊢
  obtain ⟨R17, eR17⟩ : ∃ z : va_W, z = R14 ++ nb_cs sh_X2 ad16 cA s0_X2 := ⟨_, rfl⟩
  have hP : va_P D vwCl ((h0, .inr (7, [.ref q1, .int 0, .ref (ad4 0), .ref (ad7 0), .ref (ad10 0), .ref (ad13 0), .null, .null, .null])) :: R17) H := by rw [eR17]; exact hP
  have hD : va_D A ((h0, .inr (7, [.ref q1, .int 0, .ref (ad4 0), .ref (ad7 0), .ref (ad10 0), .ref (ad13 0), .null, .null, .null])) :: R17) := by rw [eR17]; exact hD
  refine W.widen (k := 63) (n := 794) (Nat.le_of_ble_eq_true rfl) (Nat.le_of_ble_eq_true rfl) ?_
  refine va_putF (D := D) (ci := 7) (v := .ref (ad16 0)) (ty := (.object "NobodyFirst$Giving")) (C := RX7) (T := TX7) (N := 9) hx hb hts inT_X7 tyX7 tyX7_ok nmX7 hown hK hP hD hS 0 rfl rfl 6 (by decide) (hts _ tw2_75) (fun _ h9 => h9) rfl hin rfl (by decide +kernel) rfl rfl (Nat.le_of_ble_eq_true rfl) dX7_init_70 (fun H locs hP hD hS => ?_)
  have hP : va_P D vwCl ((h0, .inr (7, [.ref q1, .int 0, .ref (ad4 0), .ref (ad7 0), .ref (ad10 0), .ref (ad13 0), .ref (ad16 0), .null, .null])) :: R17) H := hP
  have hD : va_D A ((h0, .inr (7, [.ref q1, .int 0, .ref (ad4 0), .ref (ad7 0), .ref (ad10 0), .ref (ad13 0), .ref (ad16 0), .null, .null])) :: R17) := hD
  refine lv_aload_n hx hb dX7_init_73 rfl (lv_at hl 0 rfl) ?_
  refine va_new (ci := 1) (fs := [.int 0, .int 0, .null, .null, .null, .null, .int 0, .int 0, .int 0]) (C := RX1) (T := TX1) (N := 9) hx hb hts inT_X1 tyX1 tyX1_ok hown (hts _ tw1_232) (hts _ tw1_233) (hts _ tw1_7) hK hP hD hS hA rfl (fun j hj => by rcases (show j = 0 ∨ j = 1 ∨ j = 2 ∨ j = 3 ∨ j = 4 ∨ j = 5 ∨ j = 6 ∨ j = 7 ∨ j = 8 by omega) with rfl | rfl | rfl | rfl | rfl | rfl | rfl | rfl | rfl <;> rfl) (Nat.le_of_ble_eq_true rfl) (Nat.le_of_ble_eq_true rfl) dX7_init_74 (fun q18 H hP hD hS => ?_)
  refine W.widen (k := 64) (n := 803) (Nat.le_of_ble_eq_true rfl) (Nat.le_of_ble_eq_true rfl) ?_
  refine lv_dup hx hb dX7_init_77 rfl ?_
  have hP : va_P D vwCl (((h0, .inr (7, [.ref q1, .int 0, .ref (ad4 0), .ref (ad7 0), .ref (ad10 0), .ref (ad13 0), .ref (ad16 0), .null, .null])) :: R17) ++ [(q18, .inr (1, [.int 0, .int 0, .null, .null, .null, .null, .int 0, .int 0, .int 0]))]) H := hP
  have hD : va_D A (((h0, .inr (7, [.ref q1, .int 0, .ref (ad4 0), .ref (ad7 0), .ref (ad10 0), .ref (ad13 0), .ref (ad16 0), .null, .null])) :: R17) ++ [(q18, .inr (1, [.int 0, .int 0, .null, .null, .null, .null, .int 0, .int 0, .int 0]))]) := hD
  have hPc := nb_lastP hP
  have hDc := nb_lastD hD
  have hFc := nb_freeL hD hS hA
  refine va_callv (va_runIN (As := []) (rest := [.ref q18, .ref h0]) ⟨hx, hb, hml, hown, hts⟩ (c_X1_init l D cA q18 H.size) ⟨va_cnB (host := "NobodyFirst") 0 hts (xg_P tw1_236) rfl rfl rfl (hN ("NobodyFirst", 50, yX1_init, "NobodyFirst") (by decide +kernel)) (hts _ tw1_7) (by decide +kernel) ⟨Nat.le_of_ble_eq_true rfl, Nat.le_of_ble_eq_true rfl⟩, rfl, hts _ tw1_235⟩ (nb_preI hK hN hPc hDc) rfl rfl hl.1 rfl (lv_room (Nat.le_of_ble_eq_true rfl)) dX7_init_78 ⟨Nat.le_of_ble_eq_true rfl, Nat.le_of_ble_eq_true rfl⟩) hS (fun q _ h => hFc q h) hFc (fun ad19 t H1 locs ht hvm hw hB hz1 hk1 hS => ?_)
  have hw : ad19 0 = q18 := hw
  subst hw
  obtain ⟨hP1, hK1, hD1⟩ := hB
  rw [ht] at hP1
  obtain ⟨hP, hD⟩ := nb_joinL hP hD hk1 hFc hP1 hD1
  generalize H1 = H at hP hS ⊢
  obtain ⟨R20, eR20⟩ : ∃ z : va_W, z = R17 ++ nb_cs sh_X1 ad19 cA s0_X1 := ⟨_, rfl⟩
  have hP : va_P D vwCl ((h0, .inr (7, [.ref q1, .int 0, .ref (ad4 0), .ref (ad7 0), .ref (ad10 0), .ref (ad13 0), .ref (ad16 0), .null, .null])) :: R20) H := by rw [eR20]; exact hP
  have hD : va_D A ((h0, .inr (7, [.ref q1, .int 0, .ref (ad4 0), .ref (ad7 0), .ref (ad10 0), .ref (ad13 0), .ref (ad16 0), .null, .null])) :: R20) := by rw [eR20]; exact hD
  refine W.widen (k := 68) (n := 819) (Nat.le_of_ble_eq_true rfl) (Nat.le_of_ble_eq_true rfl) ?_
  refine va_putF (D := D) (ci := 7) (v := .ref (ad19 0)) (ty := (.object "NobodyFirst$Game")) (C := RX7) (T := TX7) (N := 9) hx hb hts inT_X7 tyX7 tyX7_ok nmX7 hown hK hP hD hS 0 rfl rfl 7 (by decide) (hts _ tw2_76) (fun _ h9 => h9) rfl hin rfl (by decide +kernel) rfl rfl (Nat.le_of_ble_eq_true rfl) dX7_init_81 (fun H locs hP hD hS => ?_)
  have hP : va_P D vwCl ((h0, .inr (7, [.ref q1, .int 0, .ref (ad4 0), .ref (ad7 0), .ref (ad10 0), .ref (ad13 0), .ref (ad16 0), .ref (ad19 0), .null])) :: R20) H := hP
  have hD : va_D A ((h0, .inr (7, [.ref q1, .int 0, .ref (ad4 0), .ref (ad7 0), .ref (ad10 0), .ref (ad13 0), .ref (ad16 0), .ref (ad19 0), .null])) :: R20) := hD
  refine lv_aload_n hx hb dX7_init_84 rfl (lv_at hl 0 rfl) ?_
  refine va_new (ci := 3) (fs := [.null, .int 0, .null, .null, .int 0]) (C := RX3) (T := TX3) (N := 5) hx hb hts inT_X3 tyX3 tyX3_ok hown (hts _ tw2_31) (hts _ tw2_32) (hts _ tw1_8) hK hP hD hS hA rfl (fun j hj => by rcases (show j = 0 ∨ j = 1 ∨ j = 2 ∨ j = 3 ∨ j = 4 by omega) with rfl | rfl | rfl | rfl | rfl <;> rfl) (Nat.le_of_ble_eq_true rfl) (Nat.le_of_ble_eq_true rfl) dX7_init_85 (fun q21 H hP hD hS => ?_)
  refine W.widen (k := 69) (n := 824) (Nat.le_of_ble_eq_true rfl) (Nat.le_of_ble_eq_true rfl) ?_
  refine lv_dup hx hb dX7_init_88 rfl ?_
  have hP : va_P D vwCl (((h0, .inr (7, [.ref q1, .int 0, .ref (ad4 0), .ref (ad7 0), .ref (ad10 0), .ref (ad13 0), .ref (ad16 0), .ref (ad19 0), .null])) :: R20) ++ [(q21, .inr (3, [.null, .int 0, .null, .null, .int 0]))]) H := hP
  have hD : va_D A (((h0, .inr (7, [.ref q1, .int 0, .ref (ad4 0), .ref (ad7 0), .ref (ad10 0), .ref (ad13 0), .ref (ad16 0), .ref (ad19 0), .null])) :: R20) ++ [(q21, .inr (3, [.null, .int 0, .null, .null, .int 0]))]) := hD
  have hPc := nb_lastP hP
  have hDc := nb_lastD hD
  have hFc := nb_freeL hD hS hA
  refine va_callv (va_runIN (As := []) (rest := [.ref q21, .ref h0]) ⟨hx, hb, hml, hown, hts⟩ (c_X3_init l D cA q21 H.size) ⟨va_cnB (host := "NobodyFirst") 0 hts (xg_P tw2_35) rfl rfl rfl (hN ("NobodyFirst", 57, yX3_init, "NobodyFirst") (by decide +kernel)) (hts _ tw1_8) (by decide +kernel) ⟨Nat.le_of_ble_eq_true rfl, Nat.le_of_ble_eq_true rfl⟩, rfl, hts _ tw2_34⟩ (nb_preI hK hN hPc hDc) rfl rfl hl.1 rfl (lv_room (Nat.le_of_ble_eq_true rfl)) dX7_init_89 ⟨Nat.le_of_ble_eq_true rfl, Nat.le_of_ble_eq_true rfl⟩) hS (fun q _ h => hFc q h) hFc (fun ad22 t H1 locs ht hvm hw hB hz1 hk1 hS => ?_)
  have hw : ad22 0 = q21 := hw
  subst hw
  obtain ⟨hP1, hK1, hD1⟩ := hB
  rw [ht] at hP1
  obtain ⟨hP, hD⟩ := nb_joinL hP hD hk1 hFc hP1 hD1
  generalize H1 = H at hP hS ⊢
  obtain ⟨R23, eR23⟩ : ∃ z : va_W, z = R20 ++ nb_cs sh_X3 ad22 cA s0_X3 := ⟨_, rfl⟩
  have hP : va_P D vwCl ((h0, .inr (7, [.ref q1, .int 0, .ref (ad4 0), .ref (ad7 0), .ref (ad10 0), .ref (ad13 0), .ref (ad16 0), .ref (ad19 0), .null])) :: R23) H := by rw [eR23]; exact hP
  have hD : va_D A ((h0, .inr (7, [.ref q1, .int 0, .ref (ad4 0), .ref (ad7 0), .ref (ad10 0), .ref (ad13 0), .ref (ad16 0), .ref (ad19 0), .null])) :: R23) := by rw [eR23]; exact hD
  refine W.widen (k := 78) (n := 874) (Nat.le_of_ble_eq_true rfl) (Nat.le_of_ble_eq_true rfl) ?_
  refine va_putF (D := D) (ci := 7) (v := .ref (ad22 0)) (ty := (.object "NobodyFirst$History")) (C := RX7) (T := TX7) (N := 9) hx hb hts inT_X7 tyX7 tyX7_ok nmX7 hown hK hP hD hS 0 rfl rfl 8 (by decide) (hts _ tw2_77) (fun _ h9 => h9) rfl hin rfl (by decide +kernel) rfl rfl (Nat.le_of_ble_eq_true rfl) dX7_init_92 (fun H locs hP hD hS => ?_)
  have hP : va_P D vwCl ((h0, .inr (7, [.ref q1, .int 0, .ref (ad4 0), .ref (ad7 0), .ref (ad10 0), .ref (ad13 0), .ref (ad16 0), .ref (ad19 0), .ref (ad22 0)])) :: R23) H := hP
  have hD : va_D A ((h0, .inr (7, [.ref q1, .int 0, .ref (ad4 0), .ref (ad7 0), .ref (ad10 0), .ref (ad13 0), .ref (ad16 0), .ref (ad19 0), .ref (ad22 0)])) :: R23) := hD
  have hPu : va_P D vwCl (nb_cs xc_sh (fun k : Nat => cond (Nat.ble 69 k) (ad22 (k - 69)) (cond (Nat.ble 64 k) (ad19 (k - 64)) (cond (Nat.ble 61 k) (ad16 (k - 61)) (cond (Nat.ble 36 k) (ad13 (k - 36)) (cond (Nat.ble 20 k) (ad10 (k - 20)) (cond (Nat.ble 4 k) (ad7 (k - 4)) (cond (Nat.ble 2 k) (ad4 (k - 2)) (cond (Nat.ble 1 k) (q1) (h0))))))))) cA s0_X7) H := by
    rw [eR23, eR20, eR17, eR14, eR11, eR8, eR5, eR2] at hP
    exact hP
  have hDu : va_D A (nb_cs xc_sh (fun k : Nat => cond (Nat.ble 69 k) (ad22 (k - 69)) (cond (Nat.ble 64 k) (ad19 (k - 64)) (cond (Nat.ble 61 k) (ad16 (k - 61)) (cond (Nat.ble 36 k) (ad13 (k - 36)) (cond (Nat.ble 20 k) (ad10 (k - 20)) (cond (Nat.ble 4 k) (ad7 (k - 4)) (cond (Nat.ble 2 k) (ad4 (k - 2)) (cond (Nat.ble 1 k) (q1) (h0))))))))) cA s0_X7) := by
    rw [eR23, eR20, eR17, eR14, eR11, eR8, eR5, eR2] at hD
    exact hD
  have ha0 : (fun k : Nat => cond (Nat.ble 69 k) (ad22 (k - 69)) (cond (Nat.ble 64 k) (ad19 (k - 64)) (cond (Nat.ble 61 k) (ad16 (k - 61)) (cond (Nat.ble 36 k) (ad13 (k - 36)) (cond (Nat.ble 20 k) (ad10 (k - 20)) (cond (Nat.ble 4 k) (ad7 (k - 4)) (cond (Nat.ble 2 k) (ad4 (k - 2)) (cond (Nat.ble 1 k) (q1) (h0))))))))) 0 = h0 := rfl
  generalize (fun k : Nat => cond (Nat.ble 69 k) (ad22 (k - 69)) (cond (Nat.ble 64 k) (ad19 (k - 64)) (cond (Nat.ble 61 k) (ad16 (k - 61)) (cond (Nat.ble 36 k) (ad13 (k - 36)) (cond (Nat.ble 20 k) (ad10 (k - 20)) (cond (Nat.ble 4 k) (ad7 (k - 4)) (cond (Nat.ble 2 k) (ad4 (k - 2)) (cond (Nat.ble 1 k) (q1) (h0))))))))) = ad at hPu hDu ha0
  clear hP hD
  subst ha0
  have hinj := nb_inj_of hDu
  have hAu := nb_A_of hDu
  have hAd : ∀ a, a < s.heap.size → A a → nb_A xc_sh ad a := by
    intro a h1 h2
    rw [← hAe] at h2
    rcases h2 with ⟨k, e, h2⟩ | h2
    · cases k with
      | zero => cases h2; exact ⟨0, by decide, rfl⟩
      | succ k => cases h2
    · omega
  have hZu := xc_Z_narrow hZ hAu
  have hZo := xc_Zok (A := nb_A xc_sh ad) (tb := tb)
  obtain ⟨G, eG⟩ : ∃ G : nb_G, G = (D, ad, cA) := ⟨_, rfl⟩
  have eD : D = G.1 := by rw [eG]
  have ea : ad = G.2.1 := by rw [eG]
  have ec : cA = G.2.2 := by rw [eG]
  clear eG
  subst eD
  subst ea
  subst ec
  have hP := hPu
  unfold fX7_init at hf
  refine lv_aload_n hx hb dX7_init_95 rfl (lv_at hl 0 rfl) ?_
  obtain ⟨p1, ep1, hf⟩ := nb_let_e hf
  obtain ⟨hp2, hf⟩ := nb_g_e hf
  refine nl_get (C := RX7) (T := TX7) (N := 9) hx hb hts inT_X7 hown hK hP 0 rfl rfl 3 (by decide) (hts _ tw2_72) (fun _ h9 => h9) rfl (v := .ref (G.2.1 p1)) (by rw [ep1]; rfl) dX7_init_96 ?_
  refine lv_iconst (v := (0 : Int32)) hx hb dX7_init_99 (by decide) ?_
  refine lv_sipush (v := (200 : Int32)) hx hb dX7_init_100 (by decide) ?_
  refine lv_bipush (v := (30 : Int32)) hx hb dX7_init_103 (by decide) ?_
  refine lv_iconst (v := (0 : Int32)) hx hb dX7_init_105 (by decide) ?_
  obtain ⟨r5, σ4, hc3, hf⟩ := nb_b2_e hf
  refine nl_ci hS hAu (va_runV (As := [.int (0 : Int32), .int (200 : Int32), .int (30 : Int32), .int (0 : Int32)]) (rest := []) ⟨hx, hb, hml, hown, hts⟩ (c_X4_addGuest l (tb := tb) hinj hZo (N := N) hc3 hp2) (cwV 4 hts (xg_V tw2_58 tw2_59 tw2_60 tw1_3 tw2_61) rfl rfl rfl (by decide +kernel) ⟨Nat.le_of_ble_eq_true rfl, Nat.le_of_ble_eq_true rfl⟩) (nl_preV hK hZu hZo hP hS hAd (k := p1) (sx_pty_0 hp2) rfl) rfl rfl hl.1 rfl (lv_room (Nat.le_of_ble_eq_true rfl)) dX7_init_106 ⟨Nat.le_of_ble_eq_true rfl, Nat.le_of_ble_eq_true rfl⟩) (fun H locs hP hk hS => ?_)
  refine lv_pop hx hb dX7_init_109 rfl ?_
  refine lv_aload_n hx hb dX7_init_110 rfl (lv_at hl 0 rfl) ?_
  obtain ⟨p6, ep6, hf⟩ := nb_let_e hf
  obtain ⟨hp7, hf⟩ := nb_g_e hf
  refine nl_get (C := RX7) (T := TX7) (N := 9) hx hb hts inT_X7 hown hK hP 0 rfl rfl 3 (by decide) (hts _ tw2_72) (fun _ h9 => h9) rfl (v := .ref (G.2.1 p6)) (by rw [ep6]; rfl) dX7_init_111 ?_
  refine lv_iconst (v := (1 : Int32)) hx hb dX7_init_114 (by decide) ?_
  refine lv_sipush (v := (210 : Int32)) hx hb dX7_init_115 (by decide) ?_
  refine lv_bipush (v := (40 : Int32)) hx hb dX7_init_118 (by decide) ?_
  refine lv_iconst (v := (0 : Int32)) hx hb dX7_init_120 (by decide) ?_
  obtain ⟨r10, σ9, hc8, hf⟩ := nb_b2_e hf
  refine nl_ci hS hAu (va_runV (As := [.int (1 : Int32), .int (210 : Int32), .int (40 : Int32), .int (0 : Int32)]) (rest := []) ⟨hx, hb, hml, hown, hts⟩ (c_X4_addGuest l (tb := tb) hinj hZo (N := N) hc8 hp7) (cwV 4 hts (xg_V tw2_58 tw2_59 tw2_60 tw1_3 tw2_61) rfl rfl rfl (by decide +kernel) ⟨Nat.le_of_ble_eq_true rfl, Nat.le_of_ble_eq_true rfl⟩) (nl_preV hK hZu hZo hP hS hAd (k := p6) (sx_pty_0 hp7) rfl) rfl rfl hl.1 rfl (lv_room (Nat.le_of_ble_eq_true rfl)) dX7_init_121 ⟨Nat.le_of_ble_eq_true rfl, Nat.le_of_ble_eq_true rfl⟩) (fun H locs hP hk hS => ?_)
  refine lv_pop hx hb dX7_init_124 rfl ?_
  refine lv_aload_n hx hb dX7_init_125 rfl (lv_at hl 0 rfl) ?_
  refine nl_get (C := RX7) (T := TX7) (N := 9) hx hb hts inT_X7 hown hK hP 0 rfl rfl 7 (by decide) (hts _ tw2_76) (fun _ h9 => h9) rfl (v := .ref (G.2.1 64)) rfl dX7_init_126 ?_
  refine lv_aload_n hx hb dX7_init_129 rfl (lv_at hl 0 rfl) ?_
  obtain ⟨p11, ep11, hf⟩ := nb_let_e hf
  obtain ⟨hp12, hf⟩ := nb_g_e hf
  refine nl_get (C := RX7) (T := TX7) (N := 9) hx hb hts inT_X7 hown hK hP 0 rfl rfl 3 (by decide) (hts _ tw2_72) (fun _ h9 => h9) rfl (v := .ref (G.2.1 p11)) (by rw [ep11]; rfl) dX7_init_130 ?_
  obtain ⟨σ14, hc13, hf⟩ := nb_b_e hf
  refine nl_cv hS hAu (va_runV (As := [.ref (G.2.1 p11)]) (rest := []) ⟨hx, hb, hml, hown, hts⟩ (c_X1_gather l (tb := tb) hinj hZo (N := N) hc13 hp12) (cwV 1 hts (xg_V tw2_62 tw2_63 tw2_64 tw1_7 tw2_65) rfl rfl rfl (by decide +kernel) ⟨Nat.le_of_ble_eq_true rfl, Nat.le_of_ble_eq_true rfl⟩) (nl_preV hK hZu hZo hP hS hAd (k := 64) rfl rfl) rfl rfl hl.1 rfl (lv_room (Nat.le_of_ble_eq_true rfl)) dX7_init_133 ⟨Nat.le_of_ble_eq_true rfl, Nat.le_of_ble_eq_true rfl⟩) (fun H locs hP hk hS => ?_)
  cases hf
  exact W.vret hx hb hr (fun t ht hW => ⟨⟨G.2.1, rfl, rfl, by rw [ht]; exact hP, va_K.moved hW.alike hK, nb_D_of hinj hAu⟩, hS.F ht⟩) hS.2.2 dX7_init_136
