def fX4_clear (N : Nat) (σ : nb_St) (p0 : Nat) : Option nb_St :=
  nb_let (nb_st σ p0 0 (0 : Int32)) fun σ1 =>
  nb_b (fX6_clear N σ1 (p0 + 5)) fun σ3 =>
  nb_let (nb_st σ3 p0 6 (15 : Int32)) fun σ4 =>
  nb_let (nb_st σ4 p0 7 (20 : Int32)) fun σ5 =>
  nb_let (nb_st σ5 p0 8 (240 : Int32)) fun σ6 =>
  nb_let (nb_st σ6 p0 9 (0 : Int32)) fun σ7 =>
  nb_b (fJ7_fill_53178 N σ7 (p0 + 11) 4 (0 : Int32)) fun σ9 =>
  nb_b (fJ7_fill_53178 N σ9 (p0 + 12) 4 (0 : Int32)) fun σ11 =>
  nb_let (nb_st σ11 p0 14 (0 : Int32)) fun σ12 =>
  some σ12
def rmX4_clear : Room := { frames := 1, cells := 0, slots := 0, locals := 23 }
def vsX4_clear : List Cond := .code yX4_clear cX4_clear 1 none :: xT
set_option maxHeartbeats 4000000 in
set_option maxRecDepth 100000 in
theorem c_X4_clear (l : Launch) {G : nb_G} {tb : Nat → Nat} (hinj : nb_inj xc_sh G.2.1) (hZo : nb_Zok (nb_A xc_sh G.2.1) (xc_Z (nb_A xc_sh G.2.1) tb)) {N : Nat} {σ : nb_St} {p0 : Nat} {σo : nb_St} (hf : fX4_clear N σ p0 = some σo) (hp0 : xc_pty p0 = true) : Met l yX4_clear vsX4_clear rmX4_clear (nb_Pc G xc_sh (xc_Z (nb_A xc_sh G.2.1) tb) σ [.ref (G.2.1 p0)]) (nb_Qv G xc_sh (xc_Z (nb_A xc_sh G.2.1) tb) σo) 0 0 (nb_A xc_sh G.2.1) := by
  refine Met.ofW (cc := cX4_clear) (maxL := 1) (ret := none) (by decide) rfl ?_
  intro p e s m args below meth c s₁ B hml hv
  obtain ⟨rfl, hP, hK, hZ⟩ := hv
  have hx := B.exec
  have hb := B.bytes
  have hr := B.returns
  have hts : ∀ w ∈ xT, w.before _ s = true := fun w h9 => atoms_spec (ws := vsX4_clear) B.pre w (List.mem_cons_of_mem _ h9)
  have hown : s.vm.findClass RX4 = some m.cls := findClass_of_methodNamed B.named
  have hlocks := B.notSynchronized
  have hW : nb_W G xc_sh s.heap σ s.heap [] := ⟨hP, va_S.rf⟩
  have hl := lv_entry ([.ref (G.2.1 p0)]) (n := 1) (Nat.le_of_ble_eq_true rfl)
  rw [lg_entry_eq]
  generalize (lg_sl ([.ref (G.2.1 p0)]) ++ List.replicate (1 - (lg_sl ([.ref (G.2.1 p0)])).length) Slot.unset).toArray = ls at hl ⊢
  have hl : lv_has ls 1 [(0, .ref (G.2.1 p0))] := hl
  show W p l e rmX4_clear s m ([.ref (G.2.1 p0)]).toArray below meth c s.heap [] 0 0 (MQ below (nb_Qv G xc_sh (xc_Z (nb_A xc_sh G.2.1) tb) σo) ([.ref (G.2.1 p0)]).toArray s 0 0 (nb_A xc_sh G.2.1)) (F0 m 0 ls [])
  generalize hargs : ([.ref (G.2.1 p0)] : List Value).toArray = args at hts ⊢
  unfold fX4_clear at hf
  obtain ⟨H, eH⟩ : ∃ H, H = s.heap := ⟨_, rfl⟩
  obtain ⟨locs, eL⟩ : ∃ L : List Loc, L = [] := ⟨_, rfl⟩
  have hW : nb_W G xc_sh s.heap σ H locs := by rw [eH, eL]; exact hW
  suffices hgo : W p l e rmX4_clear s m args below meth c H locs 0 0 (MQ below (nb_Qv G xc_sh (xc_Z (nb_A xc_sh G.2.1) tb) σo) args s 0 0 (nb_A xc_sh G.2.1)) (F0 m 0 ls []) by rw [eH, eL] at hgo; exact hgo
  clear eH eL
  refine lv_aload_n hx hb dX4_clear_0 rfl (lv_at hl 0 rfl) ?_
  refine lv_iconst (v := (0 : Int32)) hx hb dX4_clear_1 (by decide) ?_
  obtain ⟨σ1, eσ1, hf⟩ := nb_let_e hf
  refine nb_put (C := RX4) (T := TX4) (N := 18) hx hb hts inT_X4 hown hK tyX4 tyX4_ok nmX4 hinj hW p0 (sx_pty_0 hp0) rfl 0 (by decide) (hts _ tw1_78) (fun _ h9 => h9) rfl (ty := .int) (by decide +kernel) rfl rfl rfl (x := (0 : Int32)) (by show Value.int _ = _; rw [nb_st_s]) eσ1 dX4_clear_2 (fun H locs hW => ?_)
  refine lv_aload_n hx hb dX4_clear_5 rfl (lv_at hl 0 rfl) ?_
  refine nb_get (C := RX4) (T := TX4) (N := 18) hx hb hts inT_X4 hown hK hW p0 (sx_pty_0 hp0) rfl 5 (by decide) (hts _ tw1_97) (fun _ h9 => h9) rfl (v := .ref (G.2.1 (p0 + 5))) rfl dX4_clear_6 ?_
  obtain ⟨σ3, hc2, hf⟩ := nb_b_e hf
  refine nb_cv hW (va_runV (As := []) (rest := []) ⟨hx, hb, hml, hown, hts⟩ (c_X6_clear l hinj hZo (N := N) hc2 (x_tld_of hp0)) (cwV 0 hts (xg_V tw2_120 tw2_121 tw2_122 tw1_4 tw2_123) rfl rfl rfl (by decide +kernel) ⟨Nat.le_of_ble_eq_true rfl, Nat.le_of_ble_eq_true rfl⟩) (nb_preV hK hZ hZo hW (k := (p0 + 5)) (sx_pty_5 hp0) rfl) rfl rfl hl.1 rfl (lv_room (Nat.le_of_ble_eq_true rfl)) dX4_clear_9 ⟨Nat.zero_le _, Nat.zero_le _⟩) (fun H locs hW => ?_)
  refine lv_aload_n hx hb dX4_clear_12 rfl (lv_at hl 0 rfl) ?_
  refine lv_bipush (v := (15 : Int32)) hx hb dX4_clear_13 (by decide) ?_
  obtain ⟨σ4, eσ4, hf⟩ := nb_let_e hf
  refine nb_put (C := RX4) (T := TX4) (N := 18) hx hb hts inT_X4 hown hK tyX4 tyX4_ok nmX4 hinj hW p0 (sx_pty_0 hp0) rfl 6 (by decide) (hts _ tw1_101) (fun _ h9 => h9) rfl (ty := .int) (by decide +kernel) rfl rfl rfl (x := (15 : Int32)) (by show Value.int _ = _; rw [nb_st_s]) eσ4 dX4_clear_15 (fun H locs hW => ?_)
  refine lv_aload_n hx hb dX4_clear_18 rfl (lv_at hl 0 rfl) ?_
  refine lv_bipush (v := (20 : Int32)) hx hb dX4_clear_19 (by decide) ?_
  obtain ⟨σ5, eσ5, hf⟩ := nb_let_e hf
  refine nb_put (C := RX4) (T := TX4) (N := 18) hx hb hts inT_X4 hown hK tyX4 tyX4_ok nmX4 hinj hW p0 (sx_pty_0 hp0) rfl 7 (by decide) (hts _ tw1_103) (fun _ h9 => h9) rfl (ty := .int) (by decide +kernel) rfl rfl rfl (x := (20 : Int32)) (by show Value.int _ = _; rw [nb_st_s]) eσ5 dX4_clear_21 (fun H locs hW => ?_)
  refine lv_aload_n hx hb dX4_clear_24 rfl (lv_at hl 0 rfl) ?_
  refine lv_sipush (v := (240 : Int32)) hx hb dX4_clear_25 (by decide) ?_
  obtain ⟨σ6, eσ6, hf⟩ := nb_let_e hf
  refine nb_put (C := RX4) (T := TX4) (N := 18) hx hb hts inT_X4 hown hK tyX4 tyX4_ok nmX4 hinj hW p0 (sx_pty_0 hp0) rfl 8 (by decide) (hts _ tw1_105) (fun _ h9 => h9) rfl (ty := .int) (by decide +kernel) rfl rfl rfl (x := (240 : Int32)) (by show Value.int _ = _; rw [nb_st_s]) eσ6 dX4_clear_28 (fun H locs hW => ?_)
  refine lv_aload_n hx hb dX4_clear_31 rfl (lv_at hl 0 rfl) ?_
  refine lv_iconst (v := (0 : Int32)) hx hb dX4_clear_32 (by decide) ?_
  obtain ⟨σ7, eσ7, hf⟩ := nb_let_e hf
  refine nb_put (C := RX4) (T := TX4) (N := 18) hx hb hts inT_X4 hown hK tyX4 tyX4_ok nmX4 hinj hW p0 (sx_pty_0 hp0) rfl 9 (by decide) (hts _ tw1_107) (fun _ h9 => h9) rfl (ty := .int) (by decide +kernel) rfl rfl rfl (x := (0 : Int32)) (by show Value.int _ = _; rw [nb_st_s]) eσ7 dX4_clear_33 (fun H locs hW => ?_)
  refine lv_aload_n hx hb dX4_clear_36 rfl (lv_at hl 0 rfl) ?_
  refine nb_get (C := RX4) (T := TX4) (N := 18) hx hb hts inT_X4 hown hK hW p0 (sx_pty_0 hp0) rfl 12 (by decide) (hts _ tw1_114) (fun _ h9 => h9) rfl (v := .ref (G.2.1 (p0 + 11))) rfl dX4_clear_37 ?_
  refine lv_iconst (v := (0 : Int32)) hx hb dX4_clear_40 (by decide) ?_
  obtain ⟨σ9, hc8, hf⟩ := nb_b_e hf
  refine nb_cv hW (va_runS (As := [.ref (G.2.1 (p0 + 11)), .int (0 : Int32)]) (rest := []) ⟨hx, hb, hml, hown, hts⟩ (c_J7_fill_53178 l hinj hZo (N := N) hc8 (sx_pty_11 hp0)) (va_cwS 2 hts (xg_S tw2_124 tw2_125 tw1_11 tw2_126) rfl rfl rfl (by decide +kernel) ⟨Nat.le_of_ble_eq_true rfl, Nat.le_of_ble_eq_true rfl⟩) (nb_preS hK hZ hZo hW) rfl rfl hl.1 rfl (lv_room (Nat.le_of_ble_eq_true rfl)) dX4_clear_41 ⟨Nat.zero_le _, Nat.zero_le _⟩) (fun H locs hW => ?_)
  refine lv_aload_n hx hb dX4_clear_44 rfl (lv_at hl 0 rfl) ?_
  refine nb_get (C := RX4) (T := TX4) (N := 18) hx hb hts inT_X4 hown hK hW p0 (sx_pty_0 hp0) rfl 13 (by decide) (hts _ tw1_116) (fun _ h9 => h9) rfl (v := .ref (G.2.1 (p0 + 12))) rfl dX4_clear_45 ?_
  refine lv_iconst (v := (0 : Int32)) hx hb dX4_clear_48 (by decide) ?_
  obtain ⟨σ11, hc10, hf⟩ := nb_b_e hf
  refine nb_cv hW (va_runS (As := [.ref (G.2.1 (p0 + 12)), .int (0 : Int32)]) (rest := []) ⟨hx, hb, hml, hown, hts⟩ (c_J7_fill_53178 l hinj hZo (N := N) hc10 (sx_pty_12 hp0)) (va_cwS 2 hts (xg_S tw2_124 tw2_125 tw1_11 tw2_126) rfl rfl rfl (by decide +kernel) ⟨Nat.le_of_ble_eq_true rfl, Nat.le_of_ble_eq_true rfl⟩) (nb_preS hK hZ hZo hW) rfl rfl hl.1 rfl (lv_room (Nat.le_of_ble_eq_true rfl)) dX4_clear_49 ⟨Nat.zero_le _, Nat.zero_le _⟩) (fun H locs hW => ?_)
  refine lv_aload_n hx hb dX4_clear_52 rfl (lv_at hl 0 rfl) ?_
  refine lv_iconst (v := (0 : Int32)) hx hb dX4_clear_53 (by decide) ?_
  obtain ⟨σ12, eσ12, hf⟩ := nb_let_e hf
  refine nb_put (C := RX4) (T := TX4) (N := 18) hx hb hts inT_X4 hown hK tyX4 tyX4_ok nmX4 hinj hW p0 (sx_pty_0 hp0) rfl 14 (by decide) (hts _ tw1_118) (fun _ h9 => h9) rfl (ty := .int) (by decide +kernel) rfl rfl rfl (x := (0 : Int32)) (by show Value.int _ = _; rw [nb_st_s]) eσ12 dX4_clear_54 (fun H locs hW => ?_)
  exact nb_rv hx hb hr hlocks hK hZ hZo hW hf dX4_clear_57
def fX4_addGuest (N : Nat) (σ : nb_St) (p0 : Nat) (a0 : Int32) (a1 : Int32) (a2 : Int32) (a3 : Int32) : Option (Int32 × nb_St) :=
  (if (σ p0 0) < (8 : Int32) then
  nb_g (nb_in (σ p0 0) 8) (
  nb_let (nb_st σ (p0 + 1) (nb_ix (σ p0 0)) a0) fun σ3 =>
  nb_g (nb_in (σ3 p0 0) 8) (
  nb_let (nb_st σ3 (p0 + 2) (nb_ix (σ3 p0 0)) a1) fun σ5 =>
  nb_g (nb_in (σ5 p0 0) 8) (
  nb_let (nb_st σ5 (p0 + 3) (nb_ix (σ5 p0 0)) a2) fun σ7 =>
  nb_g (nb_in (σ7 p0 0) 8) (
  nb_let (nb_st σ7 (p0 + 4) (nb_ix (σ7 p0 0)) a3) fun σ9 =>
  nb_let (nb_st σ9 p0 0 ((σ9 p0 0) + (1 : Int32))) fun σ10 =>
  some ((1 : Int32), σ10)))))
  else
  some ((0 : Int32), σ))
def rmX4_addGuest : Room := { frames := 0, cells := 0, slots := 0, locals := 0 }
def vsX4_addGuest : List Cond := .code yX4_addGuest cX4_addGuest 5 (some .boolean) :: xT
set_option maxHeartbeats 4000000 in
set_option maxRecDepth 100000 in
theorem c_X4_addGuest (l : Launch) {G : nb_G} {tb : Nat → Nat} (hinj : nb_inj xc_sh G.2.1) (hZo : nb_Zok (nb_A xc_sh G.2.1) (xc_Z (nb_A xc_sh G.2.1) tb)) {N : Nat} {σ : nb_St} {p0 : Nat} {a0 : Int32} {a1 : Int32} {a2 : Int32} {a3 : Int32} {ro : Int32} {σo : nb_St} (hf : fX4_addGuest N σ p0 a0 a1 a2 a3 = some (ro, σo)) (hp0 : xc_pty p0 = true) : Met l yX4_addGuest vsX4_addGuest rmX4_addGuest (nb_Pc G xc_sh (xc_Z (nb_A xc_sh G.2.1) tb) σ [.ref (G.2.1 p0), .int a0, .int a1, .int a2, .int a3]) (nb_Qi G xc_sh (xc_Z (nb_A xc_sh G.2.1) tb) ro σo) 0 0 (nb_A xc_sh G.2.1) := by
  refine Met.ofW (cc := cX4_addGuest) (maxL := 5) (ret := (some .boolean)) (by decide) rfl ?_
  intro p e s m args below meth c s₁ B hml hv
  obtain ⟨rfl, hP, hK, hZ⟩ := hv
  have hx := B.exec
  have hb := B.bytes
  have hr := B.returns
  have hts : ∀ w ∈ xT, w.before _ s = true := fun w h9 => atoms_spec (ws := vsX4_addGuest) B.pre w (List.mem_cons_of_mem _ h9)
  have hown : s.vm.findClass RX4 = some m.cls := findClass_of_methodNamed B.named
  have hlocks := B.notSynchronized
  have hW : nb_W G xc_sh s.heap σ s.heap [] := ⟨hP, va_S.rf⟩
  have hl := lv_entry ([.ref (G.2.1 p0), .int a0, .int a1, .int a2, .int a3]) (n := 5) (Nat.le_of_ble_eq_true rfl)
  rw [lg_entry_eq]
  generalize (lg_sl ([.ref (G.2.1 p0), .int a0, .int a1, .int a2, .int a3]) ++ List.replicate (5 - (lg_sl ([.ref (G.2.1 p0), .int a0, .int a1, .int a2, .int a3])).length) Slot.unset).toArray = ls at hl ⊢
  have hl : lv_has ls 5 [(0, .ref (G.2.1 p0)), (1, .int a0), (2, .int a1), (3, .int a2), (4, .int a3)] := hl
  show W p l e rmX4_addGuest s m ([.ref (G.2.1 p0), .int a0, .int a1, .int a2, .int a3]).toArray below meth c s.heap [] 0 0 (MQ below (nb_Qi G xc_sh (xc_Z (nb_A xc_sh G.2.1) tb) ro σo) ([.ref (G.2.1 p0), .int a0, .int a1, .int a2, .int a3]).toArray s 0 0 (nb_A xc_sh G.2.1)) (F0 m 0 ls [])
  generalize hargs : ([.ref (G.2.1 p0), .int a0, .int a1, .int a2, .int a3] : List Value).toArray = args at hts ⊢
  unfold fX4_addGuest at hf
  obtain ⟨H, eH⟩ : ∃ H, H = s.heap := ⟨_, rfl⟩
  obtain ⟨locs, eL⟩ : ∃ L : List Loc, L = [] := ⟨_, rfl⟩
  have hW : nb_W G xc_sh s.heap σ H locs := by rw [eH, eL]; exact hW
  suffices hgo : W p l e rmX4_addGuest s m args below meth c H locs 0 0 (MQ below (nb_Qi G xc_sh (xc_Z (nb_A xc_sh G.2.1) tb) ro σo) args s 0 0 (nb_A xc_sh G.2.1)) (F0 m 0 ls []) by rw [eH, eL] at hgo; exact hgo
  clear eH eL
  refine lv_aload_n hx hb dX4_addGuest_0 rfl (lv_at hl 0 rfl) ?_
  refine nb_get (C := RX4) (T := TX4) (N := 18) hx hb hts inT_X4 hown hK hW p0 (sx_pty_0 hp0) rfl 0 (by decide) (hts _ tw1_78) (fun _ h9 => h9) rfl (v := .int (σ p0 0)) rfl dX4_addGuest_1 ?_
  refine lv_bipush (v := (8 : Int32)) hx hb dX4_addGuest_4 (by decide) ?_
  refine lv_icmp_lt (tgt := 11) hx hb dX4_addGuest_6 (by decide) (fun c1 => ?_) (fun c1 => ?_)
  · rw [if_pos c1] at hf
    refine lv_aload_n hx hb dX4_addGuest_11 rfl (lv_at hl 0 rfl) ?_
    refine nb_get (C := RX4) (T := TX4) (N := 18) hx hb hts inT_X4 hown hK hW p0 (sx_pty_0 hp0) rfl 1 (by decide) (hts _ tw1_82) (fun _ h9 => h9) rfl (v := .ref (G.2.1 (p0 + 1))) rfl dX4_addGuest_12 ?_
    refine lv_aload_n hx hb dX4_addGuest_15 rfl (lv_at hl 0 rfl) ?_
    refine nb_get (C := RX4) (T := TX4) (N := 18) hx hb hts inT_X4 hown hK hW p0 (sx_pty_0 hp0) rfl 0 (by decide) (hts _ tw1_78) (fun _ h9 => h9) rfl (v := .int (σ p0 0)) rfl dX4_addGuest_16 ?_
    refine lv_iload_n hx hb dX4_addGuest_19 rfl (lv_at hl 1 rfl) ?_
    obtain ⟨g2, hf⟩ := nb_g_e hf
    obtain ⟨σ3, eσ3, hf⟩ := nb_let_e hf
    refine nb_iast hx hb hK hinj hW (p0 + 1) (sx_pty_1 hp0) g2 eσ3 dX4_addGuest_20 (fun H locs hW => ?_)
    refine lv_aload_n hx hb dX4_addGuest_21 rfl (lv_at hl 0 rfl) ?_
    refine nb_get (C := RX4) (T := TX4) (N := 18) hx hb hts inT_X4 hown hK hW p0 (sx_pty_0 hp0) rfl 2 (by decide) (hts _ tw1_86) (fun _ h9 => h9) rfl (v := .ref (G.2.1 (p0 + 2))) rfl dX4_addGuest_22 ?_
    refine lv_aload_n hx hb dX4_addGuest_25 rfl (lv_at hl 0 rfl) ?_
    refine nb_get (C := RX4) (T := TX4) (N := 18) hx hb hts inT_X4 hown hK hW p0 (sx_pty_0 hp0) rfl 0 (by decide) (hts _ tw1_78) (fun _ h9 => h9) rfl (v := .int (σ3 p0 0)) rfl dX4_addGuest_26 ?_
    refine lv_iload_n hx hb dX4_addGuest_29 rfl (lv_at hl 2 rfl) ?_
    obtain ⟨g4, hf⟩ := nb_g_e hf
    obtain ⟨σ5, eσ5, hf⟩ := nb_let_e hf
    refine nb_iast hx hb hK hinj hW (p0 + 2) (sx_pty_2 hp0) g4 eσ5 dX4_addGuest_30 (fun H locs hW => ?_)
    refine lv_aload_n hx hb dX4_addGuest_31 rfl (lv_at hl 0 rfl) ?_
    refine nb_get (C := RX4) (T := TX4) (N := 18) hx hb hts inT_X4 hown hK hW p0 (sx_pty_0 hp0) rfl 3 (by decide) (hts _ tw1_90) (fun _ h9 => h9) rfl (v := .ref (G.2.1 (p0 + 3))) rfl dX4_addGuest_32 ?_
    refine lv_aload_n hx hb dX4_addGuest_35 rfl (lv_at hl 0 rfl) ?_
    refine nb_get (C := RX4) (T := TX4) (N := 18) hx hb hts inT_X4 hown hK hW p0 (sx_pty_0 hp0) rfl 0 (by decide) (hts _ tw1_78) (fun _ h9 => h9) rfl (v := .int (σ5 p0 0)) rfl dX4_addGuest_36 ?_
    refine lv_iload_n hx hb dX4_addGuest_39 rfl (lv_at hl 3 rfl) ?_
    obtain ⟨g6, hf⟩ := nb_g_e hf
    obtain ⟨σ7, eσ7, hf⟩ := nb_let_e hf
    refine nb_iast hx hb hK hinj hW (p0 + 3) (sx_pty_3 hp0) g6 eσ7 dX4_addGuest_40 (fun H locs hW => ?_)
    refine lv_aload_n hx hb dX4_addGuest_41 rfl (lv_at hl 0 rfl) ?_
    refine nb_get (C := RX4) (T := TX4) (N := 18) hx hb hts inT_X4 hown hK hW p0 (sx_pty_0 hp0) rfl 4 (by decide) (hts _ tw1_94) (fun _ h9 => h9) rfl (v := .ref (G.2.1 (p0 + 4))) rfl dX4_addGuest_42 ?_
    refine lv_aload_n hx hb dX4_addGuest_45 rfl (lv_at hl 0 rfl) ?_
    refine nb_get (C := RX4) (T := TX4) (N := 18) hx hb hts inT_X4 hown hK hW p0 (sx_pty_0 hp0) rfl 0 (by decide) (hts _ tw1_78) (fun _ h9 => h9) rfl (v := .int (σ7 p0 0)) rfl dX4_addGuest_46 ?_
    refine lv_iload hx hb dX4_addGuest_49 (lv_at hl 4 rfl) ?_
    obtain ⟨g8, hf⟩ := nb_g_e hf
    obtain ⟨σ9, eσ9, hf⟩ := nb_let_e hf
    refine nb_iast hx hb hK hinj hW (p0 + 4) (sx_pty_4 hp0) g8 eσ9 dX4_addGuest_51 (fun H locs hW => ?_)
    refine lv_aload_n hx hb dX4_addGuest_52 rfl (lv_at hl 0 rfl) ?_
    refine lv_dup hx hb dX4_addGuest_53 rfl ?_
    refine nb_get (C := RX4) (T := TX4) (N := 18) hx hb hts inT_X4 hown hK hW p0 (sx_pty_0 hp0) rfl 0 (by decide) (hts _ tw1_78) (fun _ h9 => h9) rfl (v := .int (σ9 p0 0)) rfl dX4_addGuest_54 ?_
    refine lv_iconst (v := (1 : Int32)) hx hb dX4_addGuest_57 (by decide) ?_
    refine lv_iadd hx hb dX4_addGuest_58 ?_
    obtain ⟨σ10, eσ10, hf⟩ := nb_let_e hf
    refine nb_put (C := RX4) (T := TX4) (N := 18) hx hb hts inT_X4 hown hK tyX4 tyX4_ok nmX4 hinj hW p0 (sx_pty_0 hp0) rfl 0 (by decide) (hts _ tw1_78) (fun _ h9 => h9) rfl (ty := .int) (by decide +kernel) rfl rfl rfl (x := ((σ9 p0 0) + (1 : Int32))) (by show Value.int _ = _; rw [nb_st_s]) eσ10 dX4_addGuest_59 (fun H locs hW => ?_)
    refine lv_iconst (v := (1 : Int32)) hx hb dX4_addGuest_62 (by decide) ?_
    exact nb_rz hx hb hr hlocks hK hZ hZo hW rfl hf dX4_addGuest_63
  · rw [if_neg c1] at hf
    refine lv_iconst (v := (0 : Int32)) hx hb dX4_addGuest_9 (by decide) ?_
    exact nb_rz hx hb hr hlocks hK hZ hZo hW rfl hf dX4_addGuest_10
def fX4_setHall (N : Nat) (σ : nb_St) (p0 : Nat) (a0 : Int32) (a1 : Int32) : Option (Int32 × nb_St) :=
  nb_let (nb_st σ p0 6 a0) fun σ1 =>
  nb_let (nb_st σ1 p0 7 a1) fun σ2 =>
  some ((1 : Int32), σ2)
def rmX4_setHall : Room := { frames := 0, cells := 0, slots := 0, locals := 0 }
def vsX4_setHall : List Cond := .code yX4_setHall cX4_setHall 3 (some .boolean) :: xT
set_option maxHeartbeats 4000000 in
set_option maxRecDepth 100000 in
theorem c_X4_setHall (l : Launch) {G : nb_G} {tb : Nat → Nat} (hinj : nb_inj xc_sh G.2.1) (hZo : nb_Zok (nb_A xc_sh G.2.1) (xc_Z (nb_A xc_sh G.2.1) tb)) {N : Nat} {σ : nb_St} {p0 : Nat} {a0 : Int32} {a1 : Int32} {ro : Int32} {σo : nb_St} (hf : fX4_setHall N σ p0 a0 a1 = some (ro, σo)) (hp0 : xc_pty p0 = true) : Met l yX4_setHall vsX4_setHall rmX4_setHall (nb_Pc G xc_sh (xc_Z (nb_A xc_sh G.2.1) tb) σ [.ref (G.2.1 p0), .int a0, .int a1]) (nb_Qi G xc_sh (xc_Z (nb_A xc_sh G.2.1) tb) ro σo) 0 0 (nb_A xc_sh G.2.1) := by
  refine Met.ofW (cc := cX4_setHall) (maxL := 3) (ret := (some .boolean)) (by decide) rfl ?_
  intro p e s m args below meth c s₁ B hml hv
  obtain ⟨rfl, hP, hK, hZ⟩ := hv
  have hx := B.exec
  have hb := B.bytes
  have hr := B.returns
  have hts : ∀ w ∈ xT, w.before _ s = true := fun w h9 => atoms_spec (ws := vsX4_setHall) B.pre w (List.mem_cons_of_mem _ h9)
  have hown : s.vm.findClass RX4 = some m.cls := findClass_of_methodNamed B.named
  have hlocks := B.notSynchronized
  have hW : nb_W G xc_sh s.heap σ s.heap [] := ⟨hP, va_S.rf⟩
  have hl := lv_entry ([.ref (G.2.1 p0), .int a0, .int a1]) (n := 3) (Nat.le_of_ble_eq_true rfl)
  rw [lg_entry_eq]
  generalize (lg_sl ([.ref (G.2.1 p0), .int a0, .int a1]) ++ List.replicate (3 - (lg_sl ([.ref (G.2.1 p0), .int a0, .int a1])).length) Slot.unset).toArray = ls at hl ⊢
  have hl : lv_has ls 3 [(0, .ref (G.2.1 p0)), (1, .int a0), (2, .int a1)] := hl
  show W p l e rmX4_setHall s m ([.ref (G.2.1 p0), .int a0, .int a1]).toArray below meth c s.heap [] 0 0 (MQ below (nb_Qi G xc_sh (xc_Z (nb_A xc_sh G.2.1) tb) ro σo) ([.ref (G.2.1 p0), .int a0, .int a1]).toArray s 0 0 (nb_A xc_sh G.2.1)) (F0 m 0 ls [])
  generalize hargs : ([.ref (G.2.1 p0), .int a0, .int a1] : List Value).toArray = args at hts ⊢
  unfold fX4_setHall at hf
  obtain ⟨H, eH⟩ : ∃ H, H = s.heap := ⟨_, rfl⟩
  obtain ⟨locs, eL⟩ : ∃ L : List Loc, L = [] := ⟨_, rfl⟩
  have hW : nb_W G xc_sh s.heap σ H locs := by rw [eH, eL]; exact hW
  suffices hgo : W p l e rmX4_setHall s m args below meth c H locs 0 0 (MQ below (nb_Qi G xc_sh (xc_Z (nb_A xc_sh G.2.1) tb) ro σo) args s 0 0 (nb_A xc_sh G.2.1)) (F0 m 0 ls []) by rw [eH, eL] at hgo; exact hgo
  clear eH eL
  refine lv_aload_n hx hb dX4_setHall_0 rfl (lv_at hl 0 rfl) ?_
  refine lv_iload_n hx hb dX4_setHall_1 rfl (lv_at hl 1 rfl) ?_
  obtain ⟨σ1, eσ1, hf⟩ := nb_let_e hf
  refine nb_put (C := RX4) (T := TX4) (N := 18) hx hb hts inT_X4 hown hK tyX4 tyX4_ok nmX4 hinj hW p0 (sx_pty_0 hp0) rfl 6 (by decide) (hts _ tw1_101) (fun _ h9 => h9) rfl (ty := .int) (by decide +kernel) rfl rfl rfl (x := a0) (by show Value.int _ = _; rw [nb_st_s]) eσ1 dX4_setHall_2 (fun H locs hW => ?_)
  refine lv_aload_n hx hb dX4_setHall_5 rfl (lv_at hl 0 rfl) ?_
  refine lv_iload_n hx hb dX4_setHall_6 rfl (lv_at hl 2 rfl) ?_
  obtain ⟨σ2, eσ2, hf⟩ := nb_let_e hf
  refine nb_put (C := RX4) (T := TX4) (N := 18) hx hb hts inT_X4 hown hK tyX4 tyX4_ok nmX4 hinj hW p0 (sx_pty_0 hp0) rfl 7 (by decide) (hts _ tw1_103) (fun _ h9 => h9) rfl (ty := .int) (by decide +kernel) rfl rfl rfl (x := a1) (by show Value.int _ = _; rw [nb_st_s]) eσ2 dX4_setHall_7 (fun H locs hW => ?_)
  refine lv_iconst (v := (1 : Int32)) hx hb dX4_setHall_10 (by decide) ?_
  exact nb_rz hx hb hr hlocks hK hZ hZo hW rfl hf dX4_setHall_11
def fX4_setEnd (N : Nat) (σ : nb_St) (p0 : Nat) (a0 : Int32) : Option (Int32 × nb_St) :=
  nb_let (nb_st σ p0 8 a0) fun σ1 =>
  some ((1 : Int32), σ1)
def rmX4_setEnd : Room := { frames := 0, cells := 0, slots := 0, locals := 0 }
def vsX4_setEnd : List Cond := .code yX4_setEnd cX4_setEnd 2 (some .boolean) :: xT
set_option maxHeartbeats 4000000 in
set_option maxRecDepth 100000 in
theorem c_X4_setEnd (l : Launch) {G : nb_G} {tb : Nat → Nat} (hinj : nb_inj xc_sh G.2.1) (hZo : nb_Zok (nb_A xc_sh G.2.1) (xc_Z (nb_A xc_sh G.2.1) tb)) {N : Nat} {σ : nb_St} {p0 : Nat} {a0 : Int32} {ro : Int32} {σo : nb_St} (hf : fX4_setEnd N σ p0 a0 = some (ro, σo)) (hp0 : xc_pty p0 = true) : Met l yX4_setEnd vsX4_setEnd rmX4_setEnd (nb_Pc G xc_sh (xc_Z (nb_A xc_sh G.2.1) tb) σ [.ref (G.2.1 p0), .int a0]) (nb_Qi G xc_sh (xc_Z (nb_A xc_sh G.2.1) tb) ro σo) 0 0 (nb_A xc_sh G.2.1) := by
  refine Met.ofW (cc := cX4_setEnd) (maxL := 2) (ret := (some .boolean)) (by decide) rfl ?_
  intro p e s m args below meth c s₁ B hml hv
  obtain ⟨rfl, hP, hK, hZ⟩ := hv
  have hx := B.exec
  have hb := B.bytes
  have hr := B.returns
  have hts : ∀ w ∈ xT, w.before _ s = true := fun w h9 => atoms_spec (ws := vsX4_setEnd) B.pre w (List.mem_cons_of_mem _ h9)
  have hown : s.vm.findClass RX4 = some m.cls := findClass_of_methodNamed B.named
  have hlocks := B.notSynchronized
  have hW : nb_W G xc_sh s.heap σ s.heap [] := ⟨hP, va_S.rf⟩
  have hl := lv_entry ([.ref (G.2.1 p0), .int a0]) (n := 2) (Nat.le_of_ble_eq_true rfl)
  rw [lg_entry_eq]
  generalize (lg_sl ([.ref (G.2.1 p0), .int a0]) ++ List.replicate (2 - (lg_sl ([.ref (G.2.1 p0), .int a0])).length) Slot.unset).toArray = ls at hl ⊢
  have hl : lv_has ls 2 [(0, .ref (G.2.1 p0)), (1, .int a0)] := hl
  show W p l e rmX4_setEnd s m ([.ref (G.2.1 p0), .int a0]).toArray below meth c s.heap [] 0 0 (MQ below (nb_Qi G xc_sh (xc_Z (nb_A xc_sh G.2.1) tb) ro σo) ([.ref (G.2.1 p0), .int a0]).toArray s 0 0 (nb_A xc_sh G.2.1)) (F0 m 0 ls [])
  generalize hargs : ([.ref (G.2.1 p0), .int a0] : List Value).toArray = args at hts ⊢
  unfold fX4_setEnd at hf
  obtain ⟨H, eH⟩ : ∃ H, H = s.heap := ⟨_, rfl⟩
  obtain ⟨locs, eL⟩ : ∃ L : List Loc, L = [] := ⟨_, rfl⟩
  have hW : nb_W G xc_sh s.heap σ H locs := by rw [eH, eL]; exact hW
  suffices hgo : W p l e rmX4_setEnd s m args below meth c H locs 0 0 (MQ below (nb_Qi G xc_sh (xc_Z (nb_A xc_sh G.2.1) tb) ro σo) args s 0 0 (nb_A xc_sh G.2.1)) (F0 m 0 ls []) by rw [eH, eL] at hgo; exact hgo
  clear eH eL
  refine lv_aload_n hx hb dX4_setEnd_0 rfl (lv_at hl 0 rfl) ?_
  refine lv_iload_n hx hb dX4_setEnd_1 rfl (lv_at hl 1 rfl) ?_
  obtain ⟨σ1, eσ1, hf⟩ := nb_let_e hf
  refine nb_put (C := RX4) (T := TX4) (N := 18) hx hb hts inT_X4 hown hK tyX4 tyX4_ok nmX4 hinj hW p0 (sx_pty_0 hp0) rfl 8 (by decide) (hts _ tw1_105) (fun _ h9 => h9) rfl (ty := .int) (by decide +kernel) rfl rfl rfl (x := a0) (by show Value.int _ = _; rw [nb_st_s]) eσ1 dX4_setEnd_2 (fun H locs hW => ?_)
  refine lv_iconst (v := (1 : Int32)) hx hb dX4_setEnd_5 (by decide) ?_
  exact nb_rz hx hb hr hlocks hK hZ hZo hW rfl hf dX4_setEnd_6
def fX4_addOffer (N : Nat) (σ : nb_St) (p0 : Nat) (a0 : Int32) (a1 : Int32) : Option (Int32 × nb_St) :=
  (if (σ p0 9) < (3 : Int32) then
  nb_g (nb_in (σ p0 9) 3) (
  nb_let (nb_st σ (p0 + 9) (nb_ix (σ p0 9)) a0) fun σ3 =>
  nb_g (nb_in (σ3 p0 9) 3) (
  nb_let (nb_st σ3 (p0 + 10) (nb_ix (σ3 p0 9)) a1) fun σ5 =>
  nb_let (nb_st σ5 p0 9 ((σ5 p0 9) + (1 : Int32))) fun σ6 =>
  some ((1 : Int32), σ6)))
  else
  some ((0 : Int32), σ))
def rmX4_addOffer : Room := { frames := 0, cells := 0, slots := 0, locals := 0 }
def vsX4_addOffer : List Cond := .code yX4_addOffer cX4_addOffer 3 (some .boolean) :: xT
set_option maxHeartbeats 4000000 in
set_option maxRecDepth 100000 in
theorem c_X4_addOffer (l : Launch) {G : nb_G} {tb : Nat → Nat} (hinj : nb_inj xc_sh G.2.1) (hZo : nb_Zok (nb_A xc_sh G.2.1) (xc_Z (nb_A xc_sh G.2.1) tb)) {N : Nat} {σ : nb_St} {p0 : Nat} {a0 : Int32} {a1 : Int32} {ro : Int32} {σo : nb_St} (hf : fX4_addOffer N σ p0 a0 a1 = some (ro, σo)) (hp0 : xc_pty p0 = true) : Met l yX4_addOffer vsX4_addOffer rmX4_addOffer (nb_Pc G xc_sh (xc_Z (nb_A xc_sh G.2.1) tb) σ [.ref (G.2.1 p0), .int a0, .int a1]) (nb_Qi G xc_sh (xc_Z (nb_A xc_sh G.2.1) tb) ro σo) 0 0 (nb_A xc_sh G.2.1) := by
  refine Met.ofW (cc := cX4_addOffer) (maxL := 3) (ret := (some .boolean)) (by decide) rfl ?_
  intro p e s m args below meth c s₁ B hml hv
  obtain ⟨rfl, hP, hK, hZ⟩ := hv
  have hx := B.exec
  have hb := B.bytes
  have hr := B.returns
  have hts : ∀ w ∈ xT, w.before _ s = true := fun w h9 => atoms_spec (ws := vsX4_addOffer) B.pre w (List.mem_cons_of_mem _ h9)
  have hown : s.vm.findClass RX4 = some m.cls := findClass_of_methodNamed B.named
  have hlocks := B.notSynchronized
  have hW : nb_W G xc_sh s.heap σ s.heap [] := ⟨hP, va_S.rf⟩
  have hl := lv_entry ([.ref (G.2.1 p0), .int a0, .int a1]) (n := 3) (Nat.le_of_ble_eq_true rfl)
  rw [lg_entry_eq]
  generalize (lg_sl ([.ref (G.2.1 p0), .int a0, .int a1]) ++ List.replicate (3 - (lg_sl ([.ref (G.2.1 p0), .int a0, .int a1])).length) Slot.unset).toArray = ls at hl ⊢
  have hl : lv_has ls 3 [(0, .ref (G.2.1 p0)), (1, .int a0), (2, .int a1)] := hl
  show W p l e rmX4_addOffer s m ([.ref (G.2.1 p0), .int a0, .int a1]).toArray below meth c s.heap [] 0 0 (MQ below (nb_Qi G xc_sh (xc_Z (nb_A xc_sh G.2.1) tb) ro σo) ([.ref (G.2.1 p0), .int a0, .int a1]).toArray s 0 0 (nb_A xc_sh G.2.1)) (F0 m 0 ls [])
  generalize hargs : ([.ref (G.2.1 p0), .int a0, .int a1] : List Value).toArray = args at hts ⊢
  unfold fX4_addOffer at hf
  obtain ⟨H, eH⟩ : ∃ H, H = s.heap := ⟨_, rfl⟩
  obtain ⟨locs, eL⟩ : ∃ L : List Loc, L = [] := ⟨_, rfl⟩
  have hW : nb_W G xc_sh s.heap σ H locs := by rw [eH, eL]; exact hW
  suffices hgo : W p l e rmX4_addOffer s m args below meth c H locs 0 0 (MQ below (nb_Qi G xc_sh (xc_Z (nb_A xc_sh G.2.1) tb) ro σo) args s 0 0 (nb_A xc_sh G.2.1)) (F0 m 0 ls []) by rw [eH, eL] at hgo; exact hgo
  clear eH eL
  refine lv_aload_n hx hb dX4_addOffer_0 rfl (lv_at hl 0 rfl) ?_
  refine nb_get (C := RX4) (T := TX4) (N := 18) hx hb hts inT_X4 hown hK hW p0 (sx_pty_0 hp0) rfl 9 (by decide) (hts _ tw1_107) (fun _ h9 => h9) rfl (v := .int (σ p0 9)) rfl dX4_addOffer_1 ?_
  refine lv_iconst (v := (3 : Int32)) hx hb dX4_addOffer_4 (by decide) ?_
  refine lv_icmp_lt (tgt := 10) hx hb dX4_addOffer_5 (by decide) (fun c1 => ?_) (fun c1 => ?_)
  · rw [if_pos c1] at hf
    refine lv_aload_n hx hb dX4_addOffer_10 rfl (lv_at hl 0 rfl) ?_
    refine nb_get (C := RX4) (T := TX4) (N := 18) hx hb hts inT_X4 hown hK hW p0 (sx_pty_0 hp0) rfl 10 (by decide) (hts _ tw1_110) (fun _ h9 => h9) rfl (v := .ref (G.2.1 (p0 + 9))) rfl dX4_addOffer_11 ?_
    refine lv_aload_n hx hb dX4_addOffer_14 rfl (lv_at hl 0 rfl) ?_
    refine nb_get (C := RX4) (T := TX4) (N := 18) hx hb hts inT_X4 hown hK hW p0 (sx_pty_0 hp0) rfl 9 (by decide) (hts _ tw1_107) (fun _ h9 => h9) rfl (v := .int (σ p0 9)) rfl dX4_addOffer_15 ?_
    refine lv_iload_n hx hb dX4_addOffer_18 rfl (lv_at hl 1 rfl) ?_
    obtain ⟨g2, hf⟩ := nb_g_e hf
    obtain ⟨σ3, eσ3, hf⟩ := nb_let_e hf
    refine nb_iast hx hb hK hinj hW (p0 + 9) (sx_pty_9 hp0) g2 eσ3 dX4_addOffer_19 (fun H locs hW => ?_)
    refine lv_aload_n hx hb dX4_addOffer_20 rfl (lv_at hl 0 rfl) ?_
    refine nb_get (C := RX4) (T := TX4) (N := 18) hx hb hts inT_X4 hown hK hW p0 (sx_pty_0 hp0) rfl 11 (by decide) (hts _ tw1_112) (fun _ h9 => h9) rfl (v := .ref (G.2.1 (p0 + 10))) rfl dX4_addOffer_21 ?_
    refine lv_aload_n hx hb dX4_addOffer_24 rfl (lv_at hl 0 rfl) ?_
    refine nb_get (C := RX4) (T := TX4) (N := 18) hx hb hts inT_X4 hown hK hW p0 (sx_pty_0 hp0) rfl 9 (by decide) (hts _ tw1_107) (fun _ h9 => h9) rfl (v := .int (σ3 p0 9)) rfl dX4_addOffer_25 ?_
    refine lv_iload_n hx hb dX4_addOffer_28 rfl (lv_at hl 2 rfl) ?_
    obtain ⟨g4, hf⟩ := nb_g_e hf
    obtain ⟨σ5, eσ5, hf⟩ := nb_let_e hf
    refine nb_iast hx hb hK hinj hW (p0 + 10) (sx_pty_10 hp0) g4 eσ5 dX4_addOffer_29 (fun H locs hW => ?_)
    refine lv_aload_n hx hb dX4_addOffer_30 rfl (lv_at hl 0 rfl) ?_
    refine lv_dup hx hb dX4_addOffer_31 rfl ?_
    refine nb_get (C := RX4) (T := TX4) (N := 18) hx hb hts inT_X4 hown hK hW p0 (sx_pty_0 hp0) rfl 9 (by decide) (hts _ tw1_107) (fun _ h9 => h9) rfl (v := .int (σ5 p0 9)) rfl dX4_addOffer_32 ?_
    refine lv_iconst (v := (1 : Int32)) hx hb dX4_addOffer_35 (by decide) ?_
    refine lv_iadd hx hb dX4_addOffer_36 ?_
    obtain ⟨σ6, eσ6, hf⟩ := nb_let_e hf
    refine nb_put (C := RX4) (T := TX4) (N := 18) hx hb hts inT_X4 hown hK tyX4 tyX4_ok nmX4 hinj hW p0 (sx_pty_0 hp0) rfl 9 (by decide) (hts _ tw1_107) (fun _ h9 => h9) rfl (ty := .int) (by decide +kernel) rfl rfl rfl (x := ((σ5 p0 9) + (1 : Int32))) (by show Value.int _ = _; rw [nb_st_s]) eσ6 dX4_addOffer_37 (fun H locs hW => ?_)
    refine lv_iconst (v := (1 : Int32)) hx hb dX4_addOffer_40 (by decide) ?_
    exact nb_rz hx hb hr hlocks hK hZ hZo hW rfl hf dX4_addOffer_41
  · rw [if_neg c1] at hf
    refine lv_iconst (v := (0 : Int32)) hx hb dX4_addOffer_8 (by decide) ?_
    exact nb_rz hx hb hr hlocks hK hZ hZo hW rfl hf dX4_addOffer_9
def fX4_setCustom (N : Nat) (σ : nb_St) (p0 : Nat) (a0 : Int32) (a1 : Int32) (a2 : Int32) : Option (Int32 × nb_St) :=
  nb_b (fX7_within N σ a0 (1 : Int32) (3 : Int32)) fun r2 =>
  (if r2 = 0 then
  some ((0 : Int32), σ)
  else
  nb_g (nb_in a0 4) (
  nb_let (nb_st σ (p0 + 11) (nb_ix a0) a1) fun σ5 =>
  nb_g (nb_in a0 4) (
  nb_let (nb_st σ5 (p0 + 12) (nb_ix a0) a2) fun σ7 =>
  some ((1 : Int32), σ7))))
def rmX4_setCustom : Room := { frames := 1, cells := 0, slots := 0, locals := 22 }
def vsX4_setCustom : List Cond := .code yX4_setCustom cX4_setCustom 4 (some .boolean) :: xT
set_option maxHeartbeats 4000000 in
set_option maxRecDepth 100000 in
theorem c_X4_setCustom (l : Launch) {G : nb_G} {tb : Nat → Nat} (hinj : nb_inj xc_sh G.2.1) (hZo : nb_Zok (nb_A xc_sh G.2.1) (xc_Z (nb_A xc_sh G.2.1) tb)) {N : Nat} {σ : nb_St} {p0 : Nat} {a0 : Int32} {a1 : Int32} {a2 : Int32} {ro : Int32} {σo : nb_St} (hf : fX4_setCustom N σ p0 a0 a1 a2 = some (ro, σo)) (hp0 : xc_pty p0 = true) : Met l yX4_setCustom vsX4_setCustom rmX4_setCustom (nb_Pc G xc_sh (xc_Z (nb_A xc_sh G.2.1) tb) σ [.ref (G.2.1 p0), .int a0, .int a1, .int a2]) (nb_Qi G xc_sh (xc_Z (nb_A xc_sh G.2.1) tb) ro σo) 0 0 (nb_A xc_sh G.2.1) := by
  refine Met.ofW (cc := cX4_setCustom) (maxL := 4) (ret := (some .boolean)) (by decide) rfl ?_
  intro p e s m args below meth c s₁ B hml hv
  obtain ⟨rfl, hP, hK, hZ⟩ := hv
  have hx := B.exec
  have hb := B.bytes
  have hr := B.returns
  have hts : ∀ w ∈ xT, w.before _ s = true := fun w h9 => atoms_spec (ws := vsX4_setCustom) B.pre w (List.mem_cons_of_mem _ h9)
  have hown : s.vm.findClass RX4 = some m.cls := findClass_of_methodNamed B.named
  have hlocks := B.notSynchronized
  have hW : nb_W G xc_sh s.heap σ s.heap [] := ⟨hP, va_S.rf⟩
  have hl := lv_entry ([.ref (G.2.1 p0), .int a0, .int a1, .int a2]) (n := 4) (Nat.le_of_ble_eq_true rfl)
  rw [lg_entry_eq]
  generalize (lg_sl ([.ref (G.2.1 p0), .int a0, .int a1, .int a2]) ++ List.replicate (4 - (lg_sl ([.ref (G.2.1 p0), .int a0, .int a1, .int a2])).length) Slot.unset).toArray = ls at hl ⊢
  have hl : lv_has ls 4 [(0, .ref (G.2.1 p0)), (1, .int a0), (2, .int a1), (3, .int a2)] := hl
  show W p l e rmX4_setCustom s m ([.ref (G.2.1 p0), .int a0, .int a1, .int a2]).toArray below meth c s.heap [] 0 0 (MQ below (nb_Qi G xc_sh (xc_Z (nb_A xc_sh G.2.1) tb) ro σo) ([.ref (G.2.1 p0), .int a0, .int a1, .int a2]).toArray s 0 0 (nb_A xc_sh G.2.1)) (F0 m 0 ls [])
  generalize hargs : ([.ref (G.2.1 p0), .int a0, .int a1, .int a2] : List Value).toArray = args at hts ⊢
  unfold fX4_setCustom at hf
  obtain ⟨H, eH⟩ : ∃ H, H = s.heap := ⟨_, rfl⟩
  obtain ⟨locs, eL⟩ : ∃ L : List Loc, L = [] := ⟨_, rfl⟩
  have hW : nb_W G xc_sh s.heap σ H locs := by rw [eH, eL]; exact hW
  suffices hgo : W p l e rmX4_setCustom s m args below meth c H locs 0 0 (MQ below (nb_Qi G xc_sh (xc_Z (nb_A xc_sh G.2.1) tb) ro σo) args s 0 0 (nb_A xc_sh G.2.1)) (F0 m 0 ls []) by rw [eH, eL] at hgo; exact hgo
  clear eH eL
  refine lv_iload_n hx hb dX4_setCustom_0 rfl (lv_at hl 1 rfl) ?_
  refine lv_iconst (v := (1 : Int32)) hx hb dX4_setCustom_1 (by decide) ?_
  refine lv_iconst (v := (3 : Int32)) hx hb dX4_setCustom_2 (by decide) ?_
  obtain ⟨r2, hc1, hf⟩ := nb_b_e hf
  refine nb_ci hW (va_runSN (As := [.int a0, .int (1 : Int32), .int (3 : Int32)]) (rest := []) ⟨hx, hb, hml, hown, hts⟩ (c_X7_within l hinj hZo (N := N) hc1 ) ⟨va_cnB (host := "NobodyFirst") 3 hts (xg_P tw2_103) rfl rfl rfl (hZ.2.1 ("NobodyFirst$Party", 80, yX7_within, "NobodyFirst") (by decide +kernel)) (hts _ tw1_1) (by decide +kernel) ⟨Nat.le_of_ble_eq_true rfl, Nat.le_of_ble_eq_true rfl⟩, hts _ tw2_102, trivial⟩ (nb_preS hK hZ hZo hW) rfl rfl hl.1 rfl (lv_room (Nat.le_of_ble_eq_true rfl)) dX4_setCustom_3 ⟨Nat.zero_le _, Nat.zero_le _⟩) (fun H locs hW => ?_)
  refine lv_if_ne (tgt := 11) hx hb dX4_setCustom_6 (by decide) (fun c3 => ?_) (fun c3 => ?_)
  · rw [if_neg c3] at hf
    refine lv_aload_n hx hb dX4_setCustom_11 rfl (lv_at hl 0 rfl) ?_
    refine nb_get (C := RX4) (T := TX4) (N := 18) hx hb hts inT_X4 hown hK hW p0 (sx_pty_0 hp0) rfl 12 (by decide) (hts _ tw1_114) (fun _ h9 => h9) rfl (v := .ref (G.2.1 (p0 + 11))) rfl dX4_setCustom_12 ?_
    refine lv_iload_n hx hb dX4_setCustom_15 rfl (lv_at hl 1 rfl) ?_
    refine lv_iload_n hx hb dX4_setCustom_16 rfl (lv_at hl 2 rfl) ?_
    obtain ⟨g4, hf⟩ := nb_g_e hf
    obtain ⟨σ5, eσ5, hf⟩ := nb_let_e hf
    refine nb_iast hx hb hK hinj hW (p0 + 11) (sx_pty_11 hp0) g4 eσ5 dX4_setCustom_17 (fun H locs hW => ?_)
    refine lv_aload_n hx hb dX4_setCustom_18 rfl (lv_at hl 0 rfl) ?_
    refine nb_get (C := RX4) (T := TX4) (N := 18) hx hb hts inT_X4 hown hK hW p0 (sx_pty_0 hp0) rfl 13 (by decide) (hts _ tw1_116) (fun _ h9 => h9) rfl (v := .ref (G.2.1 (p0 + 12))) rfl dX4_setCustom_19 ?_
    refine lv_iload_n hx hb dX4_setCustom_22 rfl (lv_at hl 1 rfl) ?_
    refine lv_iload_n hx hb dX4_setCustom_23 rfl (lv_at hl 3 rfl) ?_
    obtain ⟨g6, hf⟩ := nb_g_e hf
    obtain ⟨σ7, eσ7, hf⟩ := nb_let_e hf
    refine nb_iast hx hb hK hinj hW (p0 + 12) (sx_pty_12 hp0) g6 eσ7 dX4_setCustom_24 (fun H locs hW => ?_)
    refine lv_iconst (v := (1 : Int32)) hx hb dX4_setCustom_25 (by decide) ?_
    exact nb_rz hx hb hr hlocks hK hZ hZo hW rfl hf dX4_setCustom_26
  · rw [if_pos c3] at hf
    refine lv_iconst (v := (0 : Int32)) hx hb dX4_setCustom_9 (by decide) ?_
    exact nb_rz hx hb hr hlocks hK hZ hZo hW rfl hf dX4_setCustom_10
def fX4_addLook (N : Nat) (σ : nb_St) (p0 : Nat) (a0 : Int32) (a1 : Int32) (a2 : Int32) : Option (Int32 × nb_St) :=
  nb_let (fun (_u : Unit) =>
  some ((0 : Int32), σ)) fun k1 =>
  (if (6 : Int32) ≤ (σ p0 14) then
  k1 ()
  else
  (if a0 < (σ p0 0) then
  nb_g (nb_in (σ p0 14) 6) (
  nb_let (nb_st σ (p0 + 13) (nb_ix (σ p0 14)) a0) fun σ6 =>
  nb_g (nb_in (σ6 p0 14) 6) (
  nb_let (nb_st σ6 (p0 + 14) (nb_ix (σ6 p0 14)) a1) fun σ8 =>
  nb_g (nb_in (σ8 p0 14) 6) (
  nb_let (nb_st σ8 (p0 + 15) (nb_ix (σ8 p0 14)) a2) fun σ10 =>
  nb_let (nb_st σ10 p0 14 ((σ10 p0 14) + (1 : Int32))) fun σ11 =>
  some ((1 : Int32), σ11))))
  else
  k1 ()))
def rmX4_addLook : Room := { frames := 0, cells := 0, slots := 0, locals := 0 }
def vsX4_addLook : List Cond := .code yX4_addLook cX4_addLook 4 (some .boolean) :: xT
set_option maxHeartbeats 4000000 in
set_option maxRecDepth 100000 in
theorem c_X4_addLook (l : Launch) {G : nb_G} {tb : Nat → Nat} (hinj : nb_inj xc_sh G.2.1) (hZo : nb_Zok (nb_A xc_sh G.2.1) (xc_Z (nb_A xc_sh G.2.1) tb)) {N : Nat} {σ : nb_St} {p0 : Nat} {a0 : Int32} {a1 : Int32} {a2 : Int32} {ro : Int32} {σo : nb_St} (hf : fX4_addLook N σ p0 a0 a1 a2 = some (ro, σo)) (hp0 : xc_pty p0 = true) : Met l yX4_addLook vsX4_addLook rmX4_addLook (nb_Pc G xc_sh (xc_Z (nb_A xc_sh G.2.1) tb) σ [.ref (G.2.1 p0), .int a0, .int a1, .int a2]) (nb_Qi G xc_sh (xc_Z (nb_A xc_sh G.2.1) tb) ro σo) 0 0 (nb_A xc_sh G.2.1) := by
  refine Met.ofW (cc := cX4_addLook) (maxL := 4) (ret := (some .boolean)) (by decide) rfl ?_
  intro p e s m args below meth c s₁ B hml hv
  obtain ⟨rfl, hP, hK, hZ⟩ := hv
  have hx := B.exec
  have hb := B.bytes
  have hr := B.returns
  have hts : ∀ w ∈ xT, w.before _ s = true := fun w h9 => atoms_spec (ws := vsX4_addLook) B.pre w (List.mem_cons_of_mem _ h9)
  have hown : s.vm.findClass RX4 = some m.cls := findClass_of_methodNamed B.named
  have hlocks := B.notSynchronized
  have hW : nb_W G xc_sh s.heap σ s.heap [] := ⟨hP, va_S.rf⟩
  have hl := lv_entry ([.ref (G.2.1 p0), .int a0, .int a1, .int a2]) (n := 4) (Nat.le_of_ble_eq_true rfl)
  rw [lg_entry_eq]
  generalize (lg_sl ([.ref (G.2.1 p0), .int a0, .int a1, .int a2]) ++ List.replicate (4 - (lg_sl ([.ref (G.2.1 p0), .int a0, .int a1, .int a2])).length) Slot.unset).toArray = ls at hl ⊢
  have hl : lv_has ls 4 [(0, .ref (G.2.1 p0)), (1, .int a0), (2, .int a1), (3, .int a2)] := hl
  show W p l e rmX4_addLook s m ([.ref (G.2.1 p0), .int a0, .int a1, .int a2]).toArray below meth c s.heap [] 0 0 (MQ below (nb_Qi G xc_sh (xc_Z (nb_A xc_sh G.2.1) tb) ro σo) ([.ref (G.2.1 p0), .int a0, .int a1, .int a2]).toArray s 0 0 (nb_A xc_sh G.2.1)) (F0 m 0 ls [])
  generalize hargs : ([.ref (G.2.1 p0), .int a0, .int a1, .int a2] : List Value).toArray = args at hts ⊢
  unfold fX4_addLook at hf
  obtain ⟨H, eH⟩ : ∃ H, H = s.heap := ⟨_, rfl⟩
  obtain ⟨locs, eL⟩ : ∃ L : List Loc, L = [] := ⟨_, rfl⟩
  have hW : nb_W G xc_sh s.heap σ H locs := by rw [eH, eL]; exact hW
  suffices hgo : W p l e rmX4_addLook s m args below meth c H locs 0 0 (MQ below (nb_Qi G xc_sh (xc_Z (nb_A xc_sh G.2.1) tb) ro σo) args s 0 0 (nb_A xc_sh G.2.1)) (F0 m 0 ls []) by rw [eH, eL] at hgo; exact hgo
  clear eH eL
  refine lv_aload_n hx hb dX4_addLook_0 rfl (lv_at hl 0 rfl) ?_
  refine nb_get (C := RX4) (T := TX4) (N := 18) hx hb hts inT_X4 hown hK hW p0 (sx_pty_0 hp0) rfl 14 (by decide) (hts _ tw1_118) (fun _ h9 => h9) rfl (v := .int (σ p0 14)) rfl dX4_addLook_1 ?_
  refine lv_bipush (v := (6 : Int32)) hx hb dX4_addLook_4 (by decide) ?_
  obtain ⟨k1, ek1, hf⟩ := nb_let_e hf
  have w2 : ∀ (_u : Unit) (H : Heap) (locs : List Loc) (ls : Array Slot), k1 _u = some (ro, σo) → nb_W G xc_sh s.heap σ H locs → lv_has ls 4 [] → W p l e rmX4_addLook s m args below meth c H locs 0 0 (MQ below (nb_Qi G xc_sh (xc_Z (nb_A xc_sh G.2.1) tb) ro σo) args s 0 0 (nb_A xc_sh G.2.1)) (F0 m 17 ls []) := by
    intro _u H locs ls hf hW hl
    have hf := (congrFun ek1 _u).symm.trans hf
    refine lv_iconst (v := (0 : Int32)) hx hb dX4_addLook_17 (by decide) ?_
    exact nb_rz hx hb hr hlocks hK hZ hZo hW rfl hf dX4_addLook_18
  clear ek1
  refine lv_icmp_ge (tgt := 17) hx hb dX4_addLook_6 (by decide) (fun c3 => ?_) (fun c3 => ?_)
  · rw [if_pos c3] at hf
    exact w2 ()  _ _ _ hf hW (lv_sub hl [] rfl)
  · rw [if_neg c3] at hf
    refine lv_iload_n hx hb dX4_addLook_9 rfl (lv_at hl 1 rfl) ?_
    refine lv_aload_n hx hb dX4_addLook_10 rfl (lv_at hl 0 rfl) ?_
    refine nb_get (C := RX4) (T := TX4) (N := 18) hx hb hts inT_X4 hown hK hW p0 (sx_pty_0 hp0) rfl 0 (by decide) (hts _ tw1_78) (fun _ h9 => h9) rfl (v := .int (σ p0 0)) rfl dX4_addLook_11 ?_
    refine lv_icmp_lt (tgt := 19) hx hb dX4_addLook_14 (by decide) (fun c4 => ?_) (fun c4 => ?_)
    · rw [if_pos c4] at hf
      refine lv_aload_n hx hb dX4_addLook_19 rfl (lv_at hl 0 rfl) ?_
      refine nb_get (C := RX4) (T := TX4) (N := 18) hx hb hts inT_X4 hown hK hW p0 (sx_pty_0 hp0) rfl 15 (by decide) (hts _ tw1_120) (fun _ h9 => h9) rfl (v := .ref (G.2.1 (p0 + 13))) rfl dX4_addLook_20 ?_
      refine lv_aload_n hx hb dX4_addLook_23 rfl (lv_at hl 0 rfl) ?_
      refine nb_get (C := RX4) (T := TX4) (N := 18) hx hb hts inT_X4 hown hK hW p0 (sx_pty_0 hp0) rfl 14 (by decide) (hts _ tw1_118) (fun _ h9 => h9) rfl (v := .int (σ p0 14)) rfl dX4_addLook_24 ?_
      refine lv_iload_n hx hb dX4_addLook_27 rfl (lv_at hl 1 rfl) ?_
      obtain ⟨g5, hf⟩ := nb_g_e hf
      obtain ⟨σ6, eσ6, hf⟩ := nb_let_e hf
      refine nb_iast hx hb hK hinj hW (p0 + 13) (sx_pty_13 hp0) g5 eσ6 dX4_addLook_28 (fun H locs hW => ?_)
      refine lv_aload_n hx hb dX4_addLook_29 rfl (lv_at hl 0 rfl) ?_
      refine nb_get (C := RX4) (T := TX4) (N := 18) hx hb hts inT_X4 hown hK hW p0 (sx_pty_0 hp0) rfl 16 (by decide) (hts _ tw1_121) (fun _ h9 => h9) rfl (v := .ref (G.2.1 (p0 + 14))) rfl dX4_addLook_30 ?_
      refine lv_aload_n hx hb dX4_addLook_33 rfl (lv_at hl 0 rfl) ?_
      refine nb_get (C := RX4) (T := TX4) (N := 18) hx hb hts inT_X4 hown hK hW p0 (sx_pty_0 hp0) rfl 14 (by decide) (hts _ tw1_118) (fun _ h9 => h9) rfl (v := .int (σ6 p0 14)) rfl dX4_addLook_34 ?_
      refine lv_iload_n hx hb dX4_addLook_37 rfl (lv_at hl 2 rfl) ?_
      obtain ⟨g7, hf⟩ := nb_g_e hf
      obtain ⟨σ8, eσ8, hf⟩ := nb_let_e hf
      refine nb_iast hx hb hK hinj hW (p0 + 14) (sx_pty_14 hp0) g7 eσ8 dX4_addLook_38 (fun H locs hW => ?_)
      refine lv_aload_n hx hb dX4_addLook_39 rfl (lv_at hl 0 rfl) ?_
      refine nb_get (C := RX4) (T := TX4) (N := 18) hx hb hts inT_X4 hown hK hW p0 (sx_pty_0 hp0) rfl 17 (by decide) (hts _ tw1_122) (fun _ h9 => h9) rfl (v := .ref (G.2.1 (p0 + 15))) rfl dX4_addLook_40 ?_
      refine lv_aload_n hx hb dX4_addLook_43 rfl (lv_at hl 0 rfl) ?_
      refine nb_get (C := RX4) (T := TX4) (N := 18) hx hb hts inT_X4 hown hK hW p0 (sx_pty_0 hp0) rfl 14 (by decide) (hts _ tw1_118) (fun _ h9 => h9) rfl (v := .int (σ8 p0 14)) rfl dX4_addLook_44 ?_
      refine lv_iload_n hx hb dX4_addLook_47 rfl (lv_at hl 3 rfl) ?_
      obtain ⟨g9, hf⟩ := nb_g_e hf
      obtain ⟨σ10, eσ10, hf⟩ := nb_let_e hf
      refine nb_iast hx hb hK hinj hW (p0 + 15) (sx_pty_15 hp0) g9 eσ10 dX4_addLook_48 (fun H locs hW => ?_)
      refine lv_aload_n hx hb dX4_addLook_49 rfl (lv_at hl 0 rfl) ?_
      refine lv_dup hx hb dX4_addLook_50 rfl ?_
      refine nb_get (C := RX4) (T := TX4) (N := 18) hx hb hts inT_X4 hown hK hW p0 (sx_pty_0 hp0) rfl 14 (by decide) (hts _ tw1_118) (fun _ h9 => h9) rfl (v := .int (σ10 p0 14)) rfl dX4_addLook_51 ?_
      refine lv_iconst (v := (1 : Int32)) hx hb dX4_addLook_54 (by decide) ?_
      refine lv_iadd hx hb dX4_addLook_55 ?_
      obtain ⟨σ11, eσ11, hf⟩ := nb_let_e hf
      refine nb_put (C := RX4) (T := TX4) (N := 18) hx hb hts inT_X4 hown hK tyX4 tyX4_ok nmX4 hinj hW p0 (sx_pty_0 hp0) rfl 14 (by decide) (hts _ tw1_118) (fun _ h9 => h9) rfl (ty := .int) (by decide +kernel) rfl rfl rfl (x := ((σ10 p0 14) + (1 : Int32))) (by show Value.int _ = _; rw [nb_st_s]) eσ11 dX4_addLook_56 (fun H locs hW => ?_)
      refine lv_iconst (v := (1 : Int32)) hx hb dX4_addLook_59 (by decide) ?_
      exact nb_rz hx hb hr hlocks hK hZ hZo hW rfl hf dX4_addLook_60
    · rw [if_neg c4] at hf
      exact w2 ()  _ _ _ hf hW (lv_sub hl [] rfl)
def fX4_weightOfLook (N : Nat) (σ : nb_St) (a0 : Int32) (a1 : Int32) : Option Int32 :=
  (if a1 = 0 then
  (if a0 = 0 then
  some (7 : Int32)
  else
  some (3 : Int32))
  else
  (if a0 = 0 then
  some (10 : Int32)
  else
  some (0 : Int32)))
def rmX4_weightOfLook : Room := { frames := 0, cells := 0, slots := 0, locals := 0 }
def vsX4_weightOfLook : List Cond := .code yX4_weightOfLook cX4_weightOfLook 2 (some .int) :: xT
set_option maxHeartbeats 4000000 in
set_option maxRecDepth 100000 in
theorem c_X4_weightOfLook (l : Launch) {G : nb_G} {tb : Nat → Nat} (hinj : nb_inj xc_sh G.2.1) (hZo : nb_Zok (nb_A xc_sh G.2.1) (xc_Z (nb_A xc_sh G.2.1) tb)) {N : Nat} {σ : nb_St} {a0 : Int32} {a1 : Int32} {ro : Int32} (hf : fX4_weightOfLook N σ a0 a1 = some ro)  : Met l yX4_weightOfLook vsX4_weightOfLook rmX4_weightOfLook (nb_Pc G xc_sh (xc_Z (nb_A xc_sh G.2.1) tb) σ [.int a0, .int a1]) (nb_Qi G xc_sh (xc_Z (nb_A xc_sh G.2.1) tb) ro σ) 0 0 (nb_A xc_sh G.2.1) := by
  refine Met.ofW (cc := cX4_weightOfLook) (maxL := 2) (ret := (some .int)) (by decide) rfl ?_
  intro p e s m args below meth c s₁ B hml hv
  obtain ⟨rfl, hP, hK, hZ⟩ := hv
  have hx := B.exec
  have hb := B.bytes
  have hr := B.returns
  have hts : ∀ w ∈ xT, w.before _ s = true := fun w h9 => atoms_spec (ws := vsX4_weightOfLook) B.pre w (List.mem_cons_of_mem _ h9)
  have hown : s.vm.findClass RX4 = some m.cls := findClass_of_methodNamed B.named
  have hlocks := B.notSynchronized
  have hW : nb_W G xc_sh s.heap σ s.heap [] := ⟨hP, va_S.rf⟩
  have hl := lv_entry ([.int a0, .int a1]) (n := 2) (Nat.le_of_ble_eq_true rfl)
  rw [lg_entry_eq]
  generalize (lg_sl ([.int a0, .int a1]) ++ List.replicate (2 - (lg_sl ([.int a0, .int a1])).length) Slot.unset).toArray = ls at hl ⊢
  have hl : lv_has ls 2 [(0, .int a0), (1, .int a1)] := hl
  show W p l e rmX4_weightOfLook s m ([.int a0, .int a1]).toArray below meth c s.heap [] 0 0 (MQ below (nb_Qi G xc_sh (xc_Z (nb_A xc_sh G.2.1) tb) ro σ) ([.int a0, .int a1]).toArray s 0 0 (nb_A xc_sh G.2.1)) (F0 m 0 ls [])
  generalize hargs : ([.int a0, .int a1] : List Value).toArray = args at hts ⊢
  unfold fX4_weightOfLook at hf
  obtain ⟨H, eH⟩ : ∃ H, H = s.heap := ⟨_, rfl⟩
  obtain ⟨locs, eL⟩ : ∃ L : List Loc, L = [] := ⟨_, rfl⟩
  have hW : nb_W G xc_sh s.heap σ H locs := by rw [eH, eL]; exact hW
  suffices hgo : W p l e rmX4_weightOfLook s m args below meth c H locs 0 0 (MQ below (nb_Qi G xc_sh (xc_Z (nb_A xc_sh G.2.1) tb) ro σ) args s 0 0 (nb_A xc_sh G.2.1)) (F0 m 0 ls []) by rw [eH, eL] at hgo; exact hgo
  clear eH eL
  refine lv_iload_n hx hb dX4_weightOfLook_0 rfl (lv_at hl 1 rfl) ?_
  refine lv_if_eq (tgt := 15) hx hb dX4_weightOfLook_1 (by decide) (fun c1 => ?_) (fun c1 => ?_)
  · rw [if_pos c1] at hf
    refine lv_iload_n hx hb dX4_weightOfLook_15 rfl (lv_at hl 0 rfl) ?_
    refine lv_if_eq (tgt := 23) hx hb dX4_weightOfLook_16 (by decide) (fun c2 => ?_) (fun c2 => ?_)
    · rw [if_pos c2] at hf
      refine lv_bipush (v := (7 : Int32)) hx hb dX4_weightOfLook_23 (by decide) ?_
      exact nb_rip hx hb hr hlocks hK hZ hZo hW  hf dX4_weightOfLook_25
    · rw [if_neg c2] at hf
      refine lv_iconst (v := (3 : Int32)) hx hb dX4_weightOfLook_19 (by decide) ?_
      refine lv_goto (tgt := 25) hx hb dX4_weightOfLook_20 (by decide) ?_
      exact nb_rip hx hb hr hlocks hK hZ hZo hW  hf dX4_weightOfLook_25
  · rw [if_neg c1] at hf
    refine lv_iload_n hx hb dX4_weightOfLook_4 rfl (lv_at hl 0 rfl) ?_
    refine lv_if_eq (tgt := 12) hx hb dX4_weightOfLook_5 (by decide) (fun c3 => ?_) (fun c3 => ?_)
    · rw [if_pos c3] at hf
      refine lv_bipush (v := (10 : Int32)) hx hb dX4_weightOfLook_12 (by decide) ?_
      exact nb_rip hx hb hr hlocks hK hZ hZo hW  hf dX4_weightOfLook_14
    · rw [if_neg c3] at hf
      refine lv_iconst (v := (0 : Int32)) hx hb dX4_weightOfLook_8 (by decide) ?_
      refine lv_goto (tgt := 14) hx hb dX4_weightOfLook_9 (by decide) ?_
      exact nb_rip hx hb hr hlocks hK hZ hZo hW  hf dX4_weightOfLook_14
def fX4_weightOfLooks (N : Nat) (σ : nb_St) (p0 : Nat) (a0 : Int32) (a1 : Int32) : Option Int32 :=
  nb_lp2 (R := Int32) (fun ag3 (x1 : Int32) (x2 : Int32) =>
  (if (σ p0 14) ≤ x2 then
  some x1
  else
  nb_g (nb_in x2 6) (
  nb_let (fun (x9 : Int32) =>
  ag3 x9 (x2 + 1)) fun k7 =>
  (if (σ (p0 + 13) (nb_ix x2)) = a0 then
  nb_g (nb_in x2 6) (
  nb_let (fun (v14 : Int32) =>
  nb_g (nb_in x2 6) (
  nb_let (fun (v18 : Int32) =>
  nb_b (fX4_weightOfLook N σ v14 v18) fun r20 =>
  nb_let (x1 * r20) fun x21 =>
  k7 x21) fun k16 =>
  (if a1 ≤ (σ (p0 + 14) (nb_ix x2)) then
  k16 (0 : Int32)
  else
  k16 (1 : Int32)))) fun k12 =>
  (if (σ (p0 + 15) (nb_ix x2)) = (1 : Int32) then
  k12 (1 : Int32)
  else
  k12 (0 : Int32)))
  else
  k7 x1)))) N (1 : Int32) (0 : Int32)
def rmX4_weightOfLooks : Room := { frames := 1, cells := 0, slots := 0, locals := 21 }
def vsX4_weightOfLooks : List Cond := .code yX4_weightOfLooks cX4_weightOfLooks 5 (some .int) :: xT
set_option maxHeartbeats 4000000 in
set_option maxRecDepth 100000 in
theorem c_X4_weightOfLooks (l : Launch) {G : nb_G} {tb : Nat → Nat} (hinj : nb_inj xc_sh G.2.1) (hZo : nb_Zok (nb_A xc_sh G.2.1) (xc_Z (nb_A xc_sh G.2.1) tb)) {N : Nat} {σ : nb_St} {p0 : Nat} {a0 : Int32} {a1 : Int32} {ro : Int32} (hf : fX4_weightOfLooks N σ p0 a0 a1 = some ro) (hp0 : xc_pty p0 = true) : Met l yX4_weightOfLooks vsX4_weightOfLooks rmX4_weightOfLooks (nb_Pc G xc_sh (xc_Z (nb_A xc_sh G.2.1) tb) σ [.ref (G.2.1 p0), .int a0, .int a1]) (nb_Qi G xc_sh (xc_Z (nb_A xc_sh G.2.1) tb) ro σ) 0 0 (nb_A xc_sh G.2.1) := by
  refine Met.ofW (cc := cX4_weightOfLooks) (maxL := 5) (ret := (some .int)) (by decide) rfl ?_
  intro p e s m args below meth c s₁ B hml hv
  obtain ⟨rfl, hP, hK, hZ⟩ := hv
  have hx := B.exec
  have hb := B.bytes
  have hr := B.returns
  have hts : ∀ w ∈ xT, w.before _ s = true := fun w h9 => atoms_spec (ws := vsX4_weightOfLooks) B.pre w (List.mem_cons_of_mem _ h9)
  have hown : s.vm.findClass RX4 = some m.cls := findClass_of_methodNamed B.named
  have hlocks := B.notSynchronized
  have hW : nb_W G xc_sh s.heap σ s.heap [] := ⟨hP, va_S.rf⟩
  have hl := lv_entry ([.ref (G.2.1 p0), .int a0, .int a1]) (n := 5) (Nat.le_of_ble_eq_true rfl)
  rw [lg_entry_eq]
  generalize (lg_sl ([.ref (G.2.1 p0), .int a0, .int a1]) ++ List.replicate (5 - (lg_sl ([.ref (G.2.1 p0), .int a0, .int a1])).length) Slot.unset).toArray = ls at hl ⊢
  have hl : lv_has ls 5 [(0, .ref (G.2.1 p0)), (1, .int a0), (2, .int a1)] := hl
  show W p l e rmX4_weightOfLooks s m ([.ref (G.2.1 p0), .int a0, .int a1]).toArray below meth c s.heap [] 0 0 (MQ below (nb_Qi G xc_sh (xc_Z (nb_A xc_sh G.2.1) tb) ro σ) ([.ref (G.2.1 p0), .int a0, .int a1]).toArray s 0 0 (nb_A xc_sh G.2.1)) (F0 m 0 ls [])
  generalize hargs : ([.ref (G.2.1 p0), .int a0, .int a1] : List Value).toArray = args at hts ⊢
  unfold fX4_weightOfLooks at hf
  obtain ⟨H, eH⟩ : ∃ H, H = s.heap := ⟨_, rfl⟩
  obtain ⟨locs, eL⟩ : ∃ L : List Loc, L = [] := ⟨_, rfl⟩
  have hW : nb_W G xc_sh s.heap σ H locs := by rw [eH, eL]; exact hW
  suffices hgo : W p l e rmX4_weightOfLooks s m args below meth c H locs 0 0 (MQ below (nb_Qi G xc_sh (xc_Z (nb_A xc_sh G.2.1) tb) ro σ) args s 0 0 (nb_A xc_sh G.2.1)) (F0 m 0 ls []) by rw [eH, eL] at hgo; exact hgo
  clear eH eL
  refine lv_iconst (v := (1 : Int32)) hx hb dX4_weightOfLooks_0 (by decide) ?_
  refine lv_istore_n (lv' := [(3, .int (1 : Int32)), (0, .ref (G.2.1 p0)), (1, .int a0), (2, .int a1)]) hx hb dX4_weightOfLooks_1 rfl hl (by decide) rfl (fun ls hl => ?_)
  refine lv_iconst (v := (0 : Int32)) hx hb dX4_weightOfLooks_2 (by decide) ?_
  refine lv_istore (lv' := [(4, .int (0 : Int32)), (3, .int (1 : Int32)), (0, .ref (G.2.1 p0)), (1, .int a0), (2, .int a1)]) hx hb dX4_weightOfLooks_3 hl (by decide) rfl (fun ls hl => ?_)
  refine nb_w2 (P := fun (x1 : Int32) (x2 : Int32) => ∀ (H : Heap) (locs : List Loc) (ls : Array Slot), nb_W G xc_sh s.heap σ H locs → lv_has ls 5 [(0, .ref (G.2.1 p0)), (1, .int a0), (2, .int a1), (3, .int x1), (4, .int x2)] → W p l e rmX4_weightOfLooks s m args below meth c H locs 0 0 (MQ below (nb_Qi G xc_sh (xc_Z (nb_A xc_sh G.2.1) tb) ro σ) args s 0 0 (nb_A xc_sh G.2.1)) (F0 m 5 ls [])) ?_ N _ _ hf H locs ls hW (lv_sub hl [2, 3, 4, 1, 0] rfl)
  intro ag3 ih4 x1 x2 hf H locs ls hW hl
  refine lv_iload hx hb dX4_weightOfLooks_5 (lv_at hl 4 rfl) ?_
  refine lv_aload_n hx hb dX4_weightOfLooks_7 rfl (lv_at hl 0 rfl) ?_
  refine nb_get (C := RX4) (T := TX4) (N := 18) hx hb hts inT_X4 hown hK hW p0 (sx_pty_0 hp0) rfl 14 (by decide) (hts _ tw1_118) (fun _ h9 => h9) rfl (v := .int (σ p0 14)) rfl dX4_weightOfLooks_8 ?_
  refine lv_icmp_ge (tgt := 69) hx hb dX4_weightOfLooks_11 (by decide) (fun c5 => ?_) (fun c5 => ?_)
  · rw [if_pos c5] at hf
    refine lv_iload_n hx hb dX4_weightOfLooks_69 rfl (lv_at hl 3 rfl) ?_
    exact nb_rip hx hb hr hlocks hK hZ hZo hW  hf dX4_weightOfLooks_70
  · rw [if_neg c5] at hf
    refine lv_aload_n hx hb dX4_weightOfLooks_14 rfl (lv_at hl 0 rfl) ?_
    refine nb_get (C := RX4) (T := TX4) (N := 18) hx hb hts inT_X4 hown hK hW p0 (sx_pty_0 hp0) rfl 15 (by decide) (hts _ tw1_120) (fun _ h9 => h9) rfl (v := .ref (G.2.1 (p0 + 13))) rfl dX4_weightOfLooks_15 ?_
    refine lv_iload hx hb dX4_weightOfLooks_18 (lv_at hl 4 rfl) ?_
    obtain ⟨g6, hf⟩ := nb_g_e hf
    refine nb_iald hx hb hK hW (p0 + 13) (sx_pty_13 hp0) g6 dX4_weightOfLooks_20 ?_
    refine lv_iload_n hx hb dX4_weightOfLooks_21 rfl (lv_at hl 1 rfl) ?_
    obtain ⟨k7, ek7, hf⟩ := nb_let_e hf
    have w8 : ∀ (x9 : Int32) (H : Heap) (locs : List Loc) (ls : Array Slot), k7 x9 = some ro → nb_W G xc_sh s.heap σ H locs → lv_has ls 5 [(0, .ref (G.2.1 p0)), (1, .int a0), (2, .int a1), (3, .int x9), (4, .int x2)] → W p l e rmX4_weightOfLooks s m args below meth c H locs 0 0 (MQ below (nb_Qi G xc_sh (xc_Z (nb_A xc_sh G.2.1) tb) ro σ) args s 0 0 (nb_A xc_sh G.2.1)) (F0 m 63 ls []) := by
      intro x9 H locs ls hf hW hl
      have hf := (congrFun ek7 x9).symm.trans hf
      refine lv_iinc (v := (x2 + 1)) (lv' := [(4, .int (x2 + 1)), (0, .ref (G.2.1 p0)), (1, .int a0), (2, .int a1), (3, .int x9)]) hx hb dX4_weightOfLooks_63 hl (k := 4) rfl rfl (by decide) rfl (fun ls hl => ?_)
      refine lv_goto (tgt := 5) hx hb dX4_weightOfLooks_66 (by decide) ?_
      exact ih4 _ _ hf _ _ _ hW (lv_sub hl [1, 2, 3, 4, 0] rfl)
    clear ek7
    refine lv_icmp_ne (tgt := 63) hx hb dX4_weightOfLooks_22 (by decide) (fun c10 => ?_) (fun c10 => ?_)
    · rw [if_neg c10] at hf
      exact w8 _ _ _ _ hf hW (lv_sub hl [0, 1, 2, 3, 4] rfl)
    · rw [if_pos c10] at hf
      refine lv_iload_n hx hb dX4_weightOfLooks_25 rfl (lv_at hl 3 rfl) ?_
      refine lv_aload_n hx hb dX4_weightOfLooks_26 rfl (lv_at hl 0 rfl) ?_
      refine nb_get (C := RX4) (T := TX4) (N := 18) hx hb hts inT_X4 hown hK hW p0 (sx_pty_0 hp0) rfl 17 (by decide) (hts _ tw1_122) (fun _ h9 => h9) rfl (v := .ref (G.2.1 (p0 + 15))) rfl dX4_weightOfLooks_27 ?_
      refine lv_iload hx hb dX4_weightOfLooks_30 (lv_at hl 4 rfl) ?_
      obtain ⟨g11, hf⟩ := nb_g_e hf
      refine nb_iald hx hb hK hW (p0 + 15) (sx_pty_15 hp0) g11 dX4_weightOfLooks_32 ?_
      refine lv_iconst (v := (1 : Int32)) hx hb dX4_weightOfLooks_33 (by decide) ?_
      obtain ⟨k12, ek12, hf⟩ := nb_let_e hf
      have w13 : ∀ (v14 : Int32) (H : Heap) (locs : List Loc) (ls : Array Slot), k12 v14 = some ro → nb_W G xc_sh s.heap σ H locs → lv_has ls 5 [(0, .ref (G.2.1 p0)), (1, .int a0), (2, .int a1), (4, .int x2)] → W p l e rmX4_weightOfLooks s m args below meth c H locs 0 0 (MQ below (nb_Qi G xc_sh (xc_Z (nb_A xc_sh G.2.1) tb) ro σ) args s 0 0 (nb_A xc_sh G.2.1)) (F0 m 42 ls [.int v14, .int x1]) := by
        intro v14 H locs ls hf hW hl
        have hf := (congrFun ek12 v14).symm.trans hf
        refine lv_aload_n hx hb dX4_weightOfLooks_42 rfl (lv_at hl 0 rfl) ?_
        refine nb_get (C := RX4) (T := TX4) (N := 18) hx hb hts inT_X4 hown hK hW p0 (sx_pty_0 hp0) rfl 16 (by decide) (hts _ tw1_121) (fun _ h9 => h9) rfl (v := .ref (G.2.1 (p0 + 14))) rfl dX4_weightOfLooks_43 ?_
        refine lv_iload hx hb dX4_weightOfLooks_46 (lv_at hl 3 rfl) ?_
        obtain ⟨g15, hf⟩ := nb_g_e hf
        refine nb_iald hx hb hK hW (p0 + 14) (sx_pty_14 hp0) g15 dX4_weightOfLooks_48 ?_
        refine lv_iload_n hx hb dX4_weightOfLooks_49 rfl (lv_at hl 2 rfl) ?_
        obtain ⟨k16, ek16, hf⟩ := nb_let_e hf
        have w17 : ∀ (v18 : Int32) (H : Heap) (locs : List Loc) (ls : Array Slot), k16 v18 = some ro → nb_W G xc_sh s.heap σ H locs → lv_has ls 5 [(0, .ref (G.2.1 p0)), (1, .int a0), (2, .int a1), (4, .int x2)] → W p l e rmX4_weightOfLooks s m args below meth c H locs 0 0 (MQ below (nb_Qi G xc_sh (xc_Z (nb_A xc_sh G.2.1) tb) ro σ) args s 0 0 (nb_A xc_sh G.2.1)) (F0 m 58 ls [.int v18, .int v14, .int x1]) := by
          intro v18 H locs ls hf hW hl
          have hf := (congrFun ek16 v18).symm.trans hf
          obtain ⟨r20, hc19, hf⟩ := nb_b_e hf
          refine nb_ci hW (va_runS (As := [.int v14, .int v18]) (rest := [.int x1]) ⟨hx, hb, hml, hown, hts⟩ (c_X4_weightOfLook l hinj hZo (N := N) hc19 ) (va_cwS 2 hts (xg_S tw4_35 tw4_36 tw1_3 tw4_37) rfl rfl rfl (by decide +kernel) ⟨Nat.le_of_ble_eq_true rfl, Nat.le_of_ble_eq_true rfl⟩) (nb_preS hK hZ hZo hW) rfl rfl hl.1 rfl (lv_room (Nat.le_of_ble_eq_true rfl)) dX4_weightOfLooks_58 ⟨Nat.zero_le _, Nat.zero_le _⟩) (fun H locs hW => ?_)
          refine lv_imul hx hb dX4_weightOfLooks_61 ?_
          obtain ⟨x21, ex21, hf⟩ := nb_let_e hf
          refine nb_nami ex21 ?_
          refine lv_istore_n (lv' := [(3, .int x21), (0, .ref (G.2.1 p0)), (1, .int a0), (2, .int a1), (4, .int x2)]) hx hb dX4_weightOfLooks_62 rfl hl (by decide) rfl (fun ls hl => ?_)
          exact w8 _ _ _ _ hf hW (lv_sub hl [1, 2, 3, 0, 4] rfl)
        clear ek16
        refine lv_icmp_ge (tgt := 57) hx hb dX4_weightOfLooks_50 (by decide) (fun c22 => ?_) (fun c22 => ?_)
        · rw [if_pos c22] at hf
          refine lv_iconst (v := (0 : Int32)) hx hb dX4_weightOfLooks_57 (by decide) ?_
          exact w17 _ _ _ _ hf hW (lv_sub hl [0, 1, 2, 3] rfl)
        · rw [if_neg c22] at hf
          refine lv_iconst (v := (1 : Int32)) hx hb dX4_weightOfLooks_53 (by decide) ?_
          refine lv_goto (tgt := 58) hx hb dX4_weightOfLooks_54 (by decide) ?_
          exact w17 _ _ _ _ hf hW (lv_sub hl [0, 1, 2, 3] rfl)
      clear ek12
      refine lv_icmp_ne (tgt := 41) hx hb dX4_weightOfLooks_34 (by decide) (fun c23 => ?_) (fun c23 => ?_)
      · rw [if_neg c23] at hf
        refine lv_iconst (v := (0 : Int32)) hx hb dX4_weightOfLooks_41 (by decide) ?_
        exact w13 _ _ _ _ hf hW (lv_sub hl [0, 1, 2, 4] rfl)
      · rw [if_pos c23] at hf
        refine lv_iconst (v := (1 : Int32)) hx hb dX4_weightOfLooks_37 (by decide) ?_
        refine lv_goto (tgt := 42) hx hb dX4_weightOfLooks_38 (by decide) ?_
        exact w13 _ _ _ _ hf hW (lv_sub hl [0, 1, 2, 4] rfl)
