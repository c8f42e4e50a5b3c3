def fX7_write (N : Nat) (σ : nb_St) (a0 : Int32) (a1 : Int64) : Option (Int32 × nb_St) :=
  nb_b (fX7_within N σ a0 (1 : Int32) (8 : Int32)) fun r2 =>
  (if r2 = 0 then
  some ((-1 : Int32), σ)
  else
  (if ((σ 0 1) + a0) ≤ (400 : Int32) then
  nb_let (a0 - (1 : Int32)) fun x5 =>
  nb_lp2 (R := (Int32 × nb_St)) (fun ag8 (x6 : Int32) (σ7 : nb_St) =>
  (if x6 < 0 then
  some ((σ7 0 1), σ7)
  else
  nb_g (nb_in (σ7 0 1) 400) (
  nb_let (nb_st σ7 1 (nb_ix (σ7 0 1)) (vp_nar .byte (((((a1 >>> ((((8 : Int32) * x6)).toInt64 &&& 63))).toInt32)).toInt8.toInt32))) fun σ12 =>
  nb_let (nb_st σ12 0 1 ((σ12 0 1) + (1 : Int32))) fun σ13 =>
  ag8 (x6 + (-1)) σ13))) N x5 σ
  else
  some ((-3 : Int32), σ)))
def rmX7_write : Room := { frames := 1, cells := 0, slots := 0, locals := 22 }
def vsX7_write : List Cond := .code yX7_write cX7_write 5 (some .int) :: xT
set_option maxHeartbeats 4000000 in
set_option maxRecDepth 100000 in
theorem c_X7_write (l : Launch) {G : nb_G} {tb : Nat → Nat} (hinj : nb_inj xc_sh G.2.1) (hZo : nb_Zok (nb_A xc_sh G.2.1) (xc_Z (nb_A xc_sh G.2.1) tb)) {N : Nat} {σ : nb_St} {a0 : Int32} {a1 : Int64} {ro : Int32} {σo : nb_St} (hf : fX7_write N σ a0 a1 = some (ro, σo))  : Met l yX7_write vsX7_write rmX7_write (nb_Pc G xc_sh (xc_Z (nb_A xc_sh G.2.1) tb) σ [.ref (G.2.1 0), .int a0, .long a1]) (nb_Qi G xc_sh (xc_Z (nb_A xc_sh G.2.1) tb) ro σo) 0 0 (nb_A xc_sh G.2.1) := by
  refine Met.ofW (cc := cX7_write) (maxL := 5) (ret := (some .int)) (by decide) rfl ?_
  intro p e s m args below meth c s₁ B hml hv
  obtain ⟨rfl, hP, hK, hZ⟩ := hv
  have hx := B.exec
  have hb := B.bytes
  have hr := B.returns
  have hts : ∀ w ∈ xT, w.before _ s = true := fun w h9 => atoms_spec (ws := vsX7_write) B.pre w (List.mem_cons_of_mem _ h9)
  have hown : s.vm.findClass RX7 = some m.cls := findClass_of_methodNamed B.named
  have hlocks := B.notSynchronized
  have hW : nb_W G xc_sh s.heap σ s.heap [] := ⟨hP, va_S.rf⟩
  have hl := lv_entry ([.ref (G.2.1 0), .int a0, .long a1]) (n := 5) (Nat.le_of_ble_eq_true rfl)
  rw [lg_entry_eq]
  generalize (lg_sl ([.ref (G.2.1 0), .int a0, .long a1]) ++ List.replicate (5 - (lg_sl ([.ref (G.2.1 0), .int a0, .long a1])).length) Slot.unset).toArray = ls at hl ⊢
  have hl : lv_has ls 5 [(0, .ref (G.2.1 0)), (1, .int a0), (2, .long a1)] := hl
  show W p l e rmX7_write s m ([.ref (G.2.1 0), .int a0, .long a1]).toArray below meth c s.heap [] 0 0 (MQ below (nb_Qi G xc_sh (xc_Z (nb_A xc_sh G.2.1) tb) ro σo) ([.ref (G.2.1 0), .int a0, .long a1]).toArray s 0 0 (nb_A xc_sh G.2.1)) (F0 m 0 ls [])
  generalize hargs : ([.ref (G.2.1 0), .int a0, .long a1] : List Value).toArray = args at hts ⊢
  unfold fX7_write at hf
  obtain ⟨H, eH⟩ : ∃ H, H = s.heap := ⟨_, rfl⟩
  obtain ⟨locs, eL⟩ : ∃ L : List Loc, L = [] := ⟨_, rfl⟩
  have hW : nb_W G xc_sh s.heap σ H locs := by rw [eH, eL]; exact hW
  suffices hgo : W p l e rmX7_write s m args below meth c H locs 0 0 (MQ below (nb_Qi G xc_sh (xc_Z (nb_A xc_sh G.2.1) tb) ro σo) args s 0 0 (nb_A xc_sh G.2.1)) (F0 m 0 ls []) by rw [eH, eL] at hgo; exact hgo
  clear eH eL
  refine lv_iload_n hx hb dX7_write_0 rfl (lv_at hl 1 rfl) ?_
  refine lv_iconst (v := (1 : Int32)) hx hb dX7_write_1 (by decide) ?_
  refine lv_bipush (v := (8 : Int32)) hx hb dX7_write_2 (by decide) ?_
  obtain ⟨r2, hc1, hf⟩ := nb_b_e hf
  refine nb_ci hW (va_runS (As := [.int a0, .int (1 : Int32), .int (8 : Int32)]) (rest := []) ⟨hx, hb, hml, hown, hts⟩ (c_X7_within l hinj hZo (N := N) hc1 ) (va_cwS 3 hts (xg_S tw2_101 tw2_102 tw1_1 tw2_103) rfl rfl rfl (by decide +kernel) ⟨Nat.le_of_ble_eq_true rfl, Nat.le_of_ble_eq_true rfl⟩) (nb_preS hK hZ hZo hW) rfl rfl hl.1 rfl (lv_room (Nat.le_of_ble_eq_true rfl)) dX7_write_4 ⟨Nat.zero_le _, Nat.zero_le _⟩) (fun H locs hW => ?_)
  refine lv_if_ne (tgt := 12) hx hb dX7_write_7 (by decide) (fun c3 => ?_) (fun c3 => ?_)
  · rw [if_neg c3] at hf
    refine lv_aload_n hx hb dX7_write_12 rfl (lv_at hl 0 rfl) ?_
    refine nb_get (C := RX7) (T := TX7) (N := 9) hx hb hts inT_X7 hown hK hW 0 rfl rfl 1 (by decide) (hts _ tw2_70) (fun _ h9 => h9) rfl (v := .int (σ 0 1)) rfl dX7_write_13 ?_
    refine lv_iload_n hx hb dX7_write_16 rfl (lv_at hl 1 rfl) ?_
    refine lv_iadd hx hb dX7_write_17 ?_
    refine lv_sipush (v := (400 : Int32)) hx hb dX7_write_18 (by decide) ?_
    refine lv_icmp_le (tgt := 27) hx hb dX7_write_21 (by decide) (fun c4 => ?_) (fun c4 => ?_)
    · rw [if_pos c4] at hf
      refine lv_iload_n hx hb dX7_write_27 rfl (lv_at hl 1 rfl) ?_
      refine lv_iconst (v := (1 : Int32)) hx hb dX7_write_28 (by decide) ?_
      refine lv_isub hx hb dX7_write_29 ?_
      obtain ⟨x5, ex5, hf⟩ := nb_let_e hf
      refine nb_nami ex5 ?_
      refine lv_istore (lv' := [(4, .int x5), (0, .ref (G.2.1 0)), (1, .int a0), (2, .long a1)]) hx hb dX7_write_30 hl (by decide) rfl (fun ls hl => ?_)
      refine nb_w2 (P := fun (x6 : Int32) (σ7 : nb_St) => ∀ (H : Heap) (locs : List Loc) (ls : Array Slot), nb_W G xc_sh s.heap σ7 H locs → lv_has ls 5 [(0, .ref (G.2.1 0)), (2, .long a1), (4, .int x6)] → W p l e rmX7_write s m args below meth c H locs 0 0 (MQ below (nb_Qi G xc_sh (xc_Z (nb_A xc_sh G.2.1) tb) ro σo) args s 0 0 (nb_A xc_sh G.2.1)) (F0 m 32 ls [])) ?_ N _ _ hf H locs ls hW (lv_sub hl [1, 3, 0] rfl)
      intro ag8 ih9 x6 σ7 hf H locs ls hW hl
      refine lv_iload hx hb dX7_write_32 (lv_at hl 2 rfl) ?_
      refine lv_if_lt (tgt := 71) hx hb dX7_write_34 (by decide) (fun c10 => ?_) (fun c10 => ?_)
      · rw [if_pos c10] at hf
        refine lv_aload_n hx hb dX7_write_71 rfl (lv_at hl 0 rfl) ?_
        refine nb_get (C := RX7) (T := TX7) (N := 9) hx hb hts inT_X7 hown hK hW 0 rfl rfl 1 (by decide) (hts _ tw2_70) (fun _ h9 => h9) rfl (v := .int (σ7 0 1)) rfl dX7_write_72 ?_
        exact nb_ri hx hb hr hlocks hK hZ hZo hW  hf dX7_write_75
      · rw [if_neg c10] at hf
        refine lv_aload_n hx hb dX7_write_37 rfl (lv_at hl 0 rfl) ?_
        refine nb_get (C := RX7) (T := TX7) (N := 9) hx hb hts inT_X7 hown hK hW 0 rfl rfl 0 (by decide) (hts _ tw2_69) (fun _ h9 => h9) rfl (v := .ref (G.2.1 1)) rfl dX7_write_38 ?_
        refine lv_aload_n hx hb dX7_write_41 rfl (lv_at hl 0 rfl) ?_
        refine nb_get (C := RX7) (T := TX7) (N := 9) hx hb hts inT_X7 hown hK hW 0 rfl rfl 1 (by decide) (hts _ tw2_70) (fun _ h9 => h9) rfl (v := .int (σ7 0 1)) rfl dX7_write_42 ?_
        refine lv_lload_n hx hb dX7_write_45 rfl (lv_at hl 1 rfl) ?_
        refine lv_bipush (v := (8 : Int32)) hx hb dX7_write_46 (by decide) ?_
        refine lv_iload hx hb dX7_write_48 (lv_at hl 2 rfl) ?_
        refine lv_imul hx hb dX7_write_50 ?_
        refine lv_lshr hx hb dX7_write_51 rfl ?_
        refine lv_l2i hx hb dX7_write_52 rfl ?_
        refine lv_i2b hx hb dX7_write_53 rfl ?_
        obtain ⟨g11, hf⟩ := nb_g_e hf
        obtain ⟨σ12, eσ12, hf⟩ := nb_let_e hf
        refine nb_bast hx hb hK hinj hW 1 rfl g11 eσ12 dX7_write_54 (fun H locs hW => ?_)
        refine lv_aload_n hx hb dX7_write_55 rfl (lv_at hl 0 rfl) ?_
        refine lv_dup hx hb dX7_write_56 rfl ?_
        refine nb_get (C := RX7) (T := TX7) (N := 9) hx hb hts inT_X7 hown hK hW 0 rfl rfl 1 (by decide) (hts _ tw2_70) (fun _ h9 => h9) rfl (v := .int (σ12 0 1)) rfl dX7_write_57 ?_
        refine lv_iconst (v := (1 : Int32)) hx hb dX7_write_60 (by decide) ?_
        refine lv_iadd hx hb dX7_write_61 ?_
        obtain ⟨σ13, eσ13, hf⟩ := nb_let_e hf
        refine nb_put (C := RX7) (T := TX7) (N := 9) hx hb hts inT_X7 hown hK tyX7 tyX7_ok nmX7 hinj hW 0 rfl rfl 1 (by decide) (hts _ tw2_70) (fun _ h9 => h9) rfl (ty := .int) (by decide +kernel) rfl rfl rfl (x := ((σ12 0 1) + (1 : Int32))) (by show Value.int _ = _; rw [nb_st_s]) eσ13 dX7_write_62 (fun H locs hW => ?_)
        refine lv_iinc (v := (x6 + (-1))) (lv' := [(4, .int (x6 + (-1))), (0, .ref (G.2.1 0)), (2, .long a1)]) hx hb dX7_write_65 hl (k := 2) rfl rfl (by decide) rfl (fun ls hl => ?_)
        refine lv_goto (tgt := 32) hx hb dX7_write_68 (by decide) ?_
        exact ih9 _ _ hf _ _ _ hW (lv_sub hl [1, 2, 0] rfl)
    · rw [if_neg c4] at hf
      refine lv_bipush (v := (-3 : Int32)) hx hb dX7_write_24 (by decide) ?_
      exact nb_ri hx hb hr hlocks hK hZ hZo hW  hf dX7_write_26
  · rw [if_pos c3] at hf
    refine lv_iconst (v := (-1 : Int32)) hx hb dX7_write_10 (by decide) ?_
    exact nb_ri hx hb hr hlocks hK hZ hZo hW  hf dX7_write_11
def fX7_wipe (N : Nat) (σ : nb_St)  : Option (Int32 × nb_St) :=
  nb_let (σ 0 1) fun x1 =>
  nb_let (nb_st σ 0 1 (0 : Int32)) fun σ2 =>
  some (x1, σ2)
def rmX7_wipe : Room := { frames := 0, cells := 0, slots := 0, locals := 0 }
def vsX7_wipe : List Cond := .code yX7_wipe cX7_wipe 2 (some .int) :: xT
set_option maxHeartbeats 4000000 in
set_option maxRecDepth 100000 in
theorem c_X7_wipe (l : Launch) {G : nb_G} {tb : Nat → Nat} (hinj : nb_inj xc_sh G.2.1) (hZo : nb_Zok (nb_A xc_sh G.2.1) (xc_Z (nb_A xc_sh G.2.1) tb)) {N : Nat} {σ : nb_St}  {ro : Int32} {σo : nb_St} (hf : fX7_wipe N σ = some (ro, σo))  : Met l yX7_wipe vsX7_wipe rmX7_wipe (nb_Pc G xc_sh (xc_Z (nb_A xc_sh G.2.1) tb) σ [.ref (G.2.1 0)]) (nb_Qi G xc_sh (xc_Z (nb_A xc_sh G.2.1) tb) ro σo) 0 0 (nb_A xc_sh G.2.1) := by
  refine Met.ofW (cc := cX7_wipe) (maxL := 2) (ret := (some .int)) (by decide) rfl ?_
  intro p e s m args below meth c s₁ B hml hv
  obtain ⟨rfl, hP, hK, hZ⟩ := hv
  have hx := B.exec
  have hb := B.bytes
  have hr := B.returns
  have hts : ∀ w ∈ xT, w.before _ s = true := fun w h9 => atoms_spec (ws := vsX7_wipe) B.pre w (List.mem_cons_of_mem _ h9)
  have hown : s.vm.findClass RX7 = some m.cls := findClass_of_methodNamed B.named
  have hlocks := B.notSynchronized
  have hW : nb_W G xc_sh s.heap σ s.heap [] := ⟨hP, va_S.rf⟩
  have hl := lv_entry ([.ref (G.2.1 0)]) (n := 2) (Nat.le_of_ble_eq_true rfl)
  rw [lg_entry_eq]
  generalize (lg_sl ([.ref (G.2.1 0)]) ++ List.replicate (2 - (lg_sl ([.ref (G.2.1 0)])).length) Slot.unset).toArray = ls at hl ⊢
  have hl : lv_has ls 2 [(0, .ref (G.2.1 0))] := hl
  show W p l e rmX7_wipe s m ([.ref (G.2.1 0)]).toArray below meth c s.heap [] 0 0 (MQ below (nb_Qi G xc_sh (xc_Z (nb_A xc_sh G.2.1) tb) ro σo) ([.ref (G.2.1 0)]).toArray s 0 0 (nb_A xc_sh G.2.1)) (F0 m 0 ls [])
  generalize hargs : ([.ref (G.2.1 0)] : List Value).toArray = args at hts ⊢
  unfold fX7_wipe at hf
  obtain ⟨H, eH⟩ : ∃ H, H = s.heap := ⟨_, rfl⟩
  obtain ⟨locs, eL⟩ : ∃ L : List Loc, L = [] := ⟨_, rfl⟩
  have hW : nb_W G xc_sh s.heap σ H locs := by rw [eH, eL]; exact hW
  suffices hgo : W p l e rmX7_wipe s m args below meth c H locs 0 0 (MQ below (nb_Qi G xc_sh (xc_Z (nb_A xc_sh G.2.1) tb) ro σo) args s 0 0 (nb_A xc_sh G.2.1)) (F0 m 0 ls []) by rw [eH, eL] at hgo; exact hgo
  clear eH eL
  refine lv_aload_n hx hb dX7_wipe_0 rfl (lv_at hl 0 rfl) ?_
  refine nb_get (C := RX7) (T := TX7) (N := 9) hx hb hts inT_X7 hown hK hW 0 rfl rfl 1 (by decide) (hts _ tw2_70) (fun _ h9 => h9) rfl (v := .int (σ 0 1)) rfl dX7_wipe_1 ?_
  obtain ⟨x1, ex1, hf⟩ := nb_let_e hf
  refine nb_nami ex1 ?_
  refine lv_istore_n (lv' := [(1, .int x1), (0, .ref (G.2.1 0))]) hx hb dX7_wipe_4 rfl hl (by decide) rfl (fun ls hl => ?_)
  refine lv_aload_n hx hb dX7_wipe_5 rfl (lv_at hl 1 rfl) ?_
  refine lv_iconst (v := (0 : Int32)) hx hb dX7_wipe_6 (by decide) ?_
  obtain ⟨σ2, eσ2, hf⟩ := nb_let_e hf
  refine nb_put (C := RX7) (T := TX7) (N := 9) hx hb hts inT_X7 hown hK tyX7 tyX7_ok nmX7 hinj hW 0 rfl rfl 1 (by decide) (hts _ tw2_70) (fun _ h9 => h9) rfl (ty := .int) (by decide +kernel) rfl rfl rfl (x := (0 : Int32)) (by show Value.int _ = _; rw [nb_st_s]) eσ2 dX7_wipe_7 (fun H locs hW => ?_)
  refine lv_iload_n hx hb dX7_wipe_10 rfl (lv_at hl 0 rfl) ?_
  exact nb_ri hx hb hr hlocks hK hZ hZo hW  hf dX7_wipe_11
def fX7_fault (N : Nat) (σ : nb_St)  : Option (Int32 × nb_St) :=
  nb_let (nb_ix (σ 0 4)) fun p1 =>
  nb_g (xc_pty p1) (
  nb_b2 (fX5_firstFault N σ (σ 0 1) p1) fun r4 σ5 =>
  some (r4, σ5))
def rmX7_fault : Room := { frames := 5, cells := 0, slots := 0, locals := 117 }
def vsX7_fault : List Cond := .code yX7_fault cX7_fault 1 (some .int) :: xT
set_option maxHeartbeats 4000000 in
set_option maxRecDepth 100000 in
theorem c_X7_fault (l : Launch) {G : nb_G} {tb : Nat → Nat} (hinj : nb_inj xc_sh G.2.1) (hZo : nb_Zok (nb_A xc_sh G.2.1) (xc_Z (nb_A xc_sh G.2.1) tb)) {N : Nat} {σ : nb_St}  {ro : Int32} {σo : nb_St} (hf : fX7_fault N σ = some (ro, σo))  : Met l yX7_fault vsX7_fault rmX7_fault (nb_Pc G xc_sh (xc_Z (nb_A xc_sh G.2.1) tb) σ [.ref (G.2.1 0)]) (nb_Qi G xc_sh (xc_Z (nb_A xc_sh G.2.1) tb) ro σo) 0 0 (nb_A xc_sh G.2.1) := by
  refine Met.ofW (cc := cX7_fault) (maxL := 1) (ret := (some .int)) (by decide) rfl ?_
  intro p e s m args below meth c s₁ B hml hv
  obtain ⟨rfl, hP, hK, hZ⟩ := hv
  have hx := B.exec
  have hb := B.bytes
  have hr := B.returns
  have hts : ∀ w ∈ xT, w.before _ s = true := fun w h9 => atoms_spec (ws := vsX7_fault) B.pre w (List.mem_cons_of_mem _ h9)
  have hown : s.vm.findClass RX7 = some m.cls := findClass_of_methodNamed B.named
  have hlocks := B.notSynchronized
  have hW : nb_W G xc_sh s.heap σ s.heap [] := ⟨hP, va_S.rf⟩
  have hl := lv_entry ([.ref (G.2.1 0)]) (n := 1) (Nat.le_of_ble_eq_true rfl)
  rw [lg_entry_eq]
  generalize (lg_sl ([.ref (G.2.1 0)]) ++ List.replicate (1 - (lg_sl ([.ref (G.2.1 0)])).length) Slot.unset).toArray = ls at hl ⊢
  have hl : lv_has ls 1 [(0, .ref (G.2.1 0))] := hl
  show W p l e rmX7_fault s m ([.ref (G.2.1 0)]).toArray below meth c s.heap [] 0 0 (MQ below (nb_Qi G xc_sh (xc_Z (nb_A xc_sh G.2.1) tb) ro σo) ([.ref (G.2.1 0)]).toArray s 0 0 (nb_A xc_sh G.2.1)) (F0 m 0 ls [])
  generalize hargs : ([.ref (G.2.1 0)] : List Value).toArray = args at hts ⊢
  unfold fX7_fault at hf
  obtain ⟨H, eH⟩ : ∃ H, H = s.heap := ⟨_, rfl⟩
  obtain ⟨locs, eL⟩ : ∃ L : List Loc, L = [] := ⟨_, rfl⟩
  have hW : nb_W G xc_sh s.heap σ H locs := by rw [eH, eL]; exact hW
  suffices hgo : W p l e rmX7_fault s m args below meth c H locs 0 0 (MQ below (nb_Qi G xc_sh (xc_Z (nb_A xc_sh G.2.1) tb) ro σo) args s 0 0 (nb_A xc_sh G.2.1)) (F0 m 0 ls []) by rw [eH, eL] at hgo; exact hgo
  clear eH eL
  refine lv_aload_n hx hb dX7_fault_0 rfl (lv_at hl 0 rfl) ?_
  refine nb_get (C := RX7) (T := TX7) (N := 9) hx hb hts inT_X7 hown hK hW 0 rfl rfl 2 (by decide) (hts _ tw2_71) (fun _ h9 => h9) rfl (v := .ref (G.2.1 2)) rfl dX7_fault_1 ?_
  refine lv_aload_n hx hb dX7_fault_4 rfl (lv_at hl 0 rfl) ?_
  refine nb_get (C := RX7) (T := TX7) (N := 9) hx hb hts inT_X7 hown hK hW 0 rfl rfl 0 (by decide) (hts _ tw2_69) (fun _ h9 => h9) rfl (v := .ref (G.2.1 1)) rfl dX7_fault_5 ?_
  refine lv_aload_n hx hb dX7_fault_8 rfl (lv_at hl 0 rfl) ?_
  refine nb_get (C := RX7) (T := TX7) (N := 9) hx hb hts inT_X7 hown hK hW 0 rfl rfl 1 (by decide) (hts _ tw2_70) (fun _ h9 => h9) rfl (v := .int (σ 0 1)) rfl dX7_fault_9 ?_
  refine lv_aload_n hx hb dX7_fault_12 rfl (lv_at hl 0 rfl) ?_
  obtain ⟨p1, ep1, hf⟩ := nb_let_e hf
  obtain ⟨hp2, hf⟩ := nb_g_e hf
  refine nb_get (C := RX7) (T := TX7) (N := 9) hx hb hts inT_X7 hown hK hW 0 rfl rfl 4 (by decide) (hts _ tw2_73) (fun _ h9 => h9) rfl (v := .ref (G.2.1 p1)) (by rw [ep1]; rfl) dX7_fault_13 ?_
  obtain ⟨r4, σ5, hc3, hf⟩ := nb_b2_e hf
  refine nb_ci hW (va_runV (As := [.ref (G.2.1 1), .int (σ 0 1), .ref (G.2.1 p1)]) (rest := []) ⟨hx, hb, hml, hown, hts⟩ (c_X5_firstFault l hinj hZo (N := N) hc3 hp2) (cwV 3 hts (xg_V tw2_112 tw2_113 tw2_114 tw1_2 tw2_115) rfl rfl rfl (by decide +kernel) ⟨Nat.le_of_ble_eq_true rfl, Nat.le_of_ble_eq_true rfl⟩) (nb_preV hK hZ hZo hW (k := 2) rfl rfl) rfl rfl hl.1 rfl (lv_room (Nat.le_of_ble_eq_true rfl)) dX7_fault_16 ⟨Nat.zero_le _, Nat.zero_le _⟩) (fun H locs hW => ?_)
  exact nb_ri hx hb hr hlocks hK hZ hZo hW  hf dX7_fault_19
def fX7_lay (N : Nat) (σ : nb_St)  : Option (Int32 × nb_St) :=
  nb_let (nb_ix (σ 0 4)) fun p1 =>
  nb_g (xc_pty p1) (
  nb_b2 (fX5_firstFault N σ (σ 0 1) p1) fun r4 σ5 =>
  nb_let (fun (_u : Unit) =>
  some ((-2 : Int32), σ5)) fun k6 =>
  (if r4 = (-4 : Int32) then
  nb_let (nb_ix (σ5 0 4)) fun p9 =>
  nb_g (xc_pty p9) (
  (if (σ5 p9 0) = 0 then
  k6 ()
  else
  nb_let (nb_ix (σ5 0 3)) fun p12 =>
  nb_g (xc_pty p12) (
  nb_let (nb_ix (σ5 0 4)) fun p14 =>
  nb_g (xc_pty p14) (
  nb_let (nb_st σ5 0 3 (nI p14)) fun σ16 =>
  nb_let (nb_st σ16 0 4 (nI p12)) fun σ17 =>
  nb_b (fX3_forget N σ17) fun σ19 =>
  nb_let (nb_st σ19 61 0 (0 : Int32)) fun σ20 =>
  nb_let (nb_ix (σ20 0 3)) fun p21 =>
  nb_g (xc_pty p21) (
  nb_b (fX1_gather N σ20 p21) fun σ24 =>
  nb_let (nb_ix (σ24 0 3)) fun p25 =>
  nb_g (xc_pty p25) (
  some ((σ24 p25 0), σ24)))))))
  else
  k6 ()))
def rmX7_lay : Room := { frames := 5, cells := 0, slots := 0, locals := 117 }
def vsX7_lay : List Cond := .code yX7_lay cX7_lay 2 (some .int) :: xT
set_option maxHeartbeats 4000000 in
set_option maxRecDepth 100000 in
theorem c_X7_lay (l : Launch) {G : nb_G} {tb : Nat → Nat} (hinj : nb_inj xc_sh G.2.1) (hZo : nb_Zok (nb_A xc_sh G.2.1) (xc_Z (nb_A xc_sh G.2.1) tb)) {N : Nat} {σ : nb_St}  {ro : Int32} {σo : nb_St} (hf : fX7_lay N σ = some (ro, σo))  : Met l yX7_lay vsX7_lay rmX7_lay (nb_Pc G xc_sh (xc_Z (nb_A xc_sh G.2.1) tb) σ [.ref (G.2.1 0)]) (nb_Qi G xc_sh (xc_Z (nb_A xc_sh G.2.1) tb) ro σo) 0 0 (nb_A xc_sh G.2.1) := by
  refine Met.ofW (cc := cX7_lay) (maxL := 2) (ret := (some .int)) (by decide) rfl ?_
  intro p e s m args below meth c s₁ B hml hv
  obtain ⟨rfl, hP, hK, hZ⟩ := hv
  have hx := B.exec
  have hb := B.bytes
  have hr := B.returns
  have hts : ∀ w ∈ xT, w.before _ s = true := fun w h9 => atoms_spec (ws := vsX7_lay) B.pre w (List.mem_cons_of_mem _ h9)
  have hown : s.vm.findClass RX7 = some m.cls := findClass_of_methodNamed B.named
  have hlocks := B.notSynchronized
  have hW : nb_W G xc_sh s.heap σ s.heap [] := ⟨hP, va_S.rf⟩
  have hl := lv_entry ([.ref (G.2.1 0)]) (n := 2) (Nat.le_of_ble_eq_true rfl)
  rw [lg_entry_eq]
  generalize (lg_sl ([.ref (G.2.1 0)]) ++ List.replicate (2 - (lg_sl ([.ref (G.2.1 0)])).length) Slot.unset).toArray = ls at hl ⊢
  have hl : lv_has ls 2 [(0, .ref (G.2.1 0))] := hl
  show W p l e rmX7_lay s m ([.ref (G.2.1 0)]).toArray below meth c s.heap [] 0 0 (MQ below (nb_Qi G xc_sh (xc_Z (nb_A xc_sh G.2.1) tb) ro σo) ([.ref (G.2.1 0)]).toArray s 0 0 (nb_A xc_sh G.2.1)) (F0 m 0 ls [])
  generalize hargs : ([.ref (G.2.1 0)] : List Value).toArray = args at hts ⊢
  unfold fX7_lay at hf
  obtain ⟨H, eH⟩ : ∃ H, H = s.heap := ⟨_, rfl⟩
  obtain ⟨locs, eL⟩ : ∃ L : List Loc, L = [] := ⟨_, rfl⟩
  have hW : nb_W G xc_sh s.heap σ H locs := by rw [eH, eL]; exact hW
  suffices hgo : W p l e rmX7_lay s m args below meth c H locs 0 0 (MQ below (nb_Qi G xc_sh (xc_Z (nb_A xc_sh G.2.1) tb) ro σo) args s 0 0 (nb_A xc_sh G.2.1)) (F0 m 0 ls []) by rw [eH, eL] at hgo; exact hgo
  clear eH eL
  refine lv_aload_n hx hb dX7_lay_0 rfl (lv_at hl 0 rfl) ?_
  refine nb_get (C := RX7) (T := TX7) (N := 9) hx hb hts inT_X7 hown hK hW 0 rfl rfl 2 (by decide) (hts _ tw2_71) (fun _ h9 => h9) rfl (v := .ref (G.2.1 2)) rfl dX7_lay_1 ?_
  refine lv_aload_n hx hb dX7_lay_4 rfl (lv_at hl 0 rfl) ?_
  refine nb_get (C := RX7) (T := TX7) (N := 9) hx hb hts inT_X7 hown hK hW 0 rfl rfl 0 (by decide) (hts _ tw2_69) (fun _ h9 => h9) rfl (v := .ref (G.2.1 1)) rfl dX7_lay_5 ?_
  refine lv_aload_n hx hb dX7_lay_8 rfl (lv_at hl 0 rfl) ?_
  refine nb_get (C := RX7) (T := TX7) (N := 9) hx hb hts inT_X7 hown hK hW 0 rfl rfl 1 (by decide) (hts _ tw2_70) (fun _ h9 => h9) rfl (v := .int (σ 0 1)) rfl dX7_lay_9 ?_
  refine lv_aload_n hx hb dX7_lay_12 rfl (lv_at hl 0 rfl) ?_
  obtain ⟨p1, ep1, hf⟩ := nb_let_e hf
  obtain ⟨hp2, hf⟩ := nb_g_e hf
  refine nb_get (C := RX7) (T := TX7) (N := 9) hx hb hts inT_X7 hown hK hW 0 rfl rfl 4 (by decide) (hts _ tw2_73) (fun _ h9 => h9) rfl (v := .ref (G.2.1 p1)) (by rw [ep1]; rfl) dX7_lay_13 ?_
  obtain ⟨r4, σ5, hc3, hf⟩ := nb_b2_e hf
  refine nb_ci hW (va_runV (As := [.ref (G.2.1 1), .int (σ 0 1), .ref (G.2.1 p1)]) (rest := []) ⟨hx, hb, hml, hown, hts⟩ (c_X5_firstFault l hinj hZo (N := N) hc3 hp2) (cwV 3 hts (xg_V tw2_112 tw2_113 tw2_114 tw1_2 tw2_115) rfl rfl rfl (by decide +kernel) ⟨Nat.le_of_ble_eq_true rfl, Nat.le_of_ble_eq_true rfl⟩) (nb_preV hK hZ hZo hW (k := 2) rfl rfl) rfl rfl hl.1 rfl (lv_room (Nat.le_of_ble_eq_true rfl)) dX7_lay_16 ⟨Nat.zero_le _, Nat.zero_le _⟩) (fun H locs hW => ?_)
  refine lv_bipush (v := (-4 : Int32)) hx hb dX7_lay_19 (by decide) ?_
  obtain ⟨k6, ek6, hf⟩ := nb_let_e hf
  have w7 : ∀ (_u : Unit) (H : Heap) (locs : List Loc) (ls : Array Slot), k6 _u = some (ro, σo) → nb_W G xc_sh s.heap σ5 H locs → lv_has ls 2 [] → W p l e rmX7_lay s m args below meth c H locs 0 0 (MQ below (nb_Qi G xc_sh (xc_Z (nb_A xc_sh G.2.1) tb) ro σo) args s 0 0 (nb_A xc_sh G.2.1)) (F0 m 34 ls []) := by
    intro _u H locs ls hf hW hl
    have hf := (congrFun ek6 _u).symm.trans hf
    refine lv_bipush (v := (-2 : Int32)) hx hb dX7_lay_34 (by decide) ?_
    exact nb_ri hx hb hr hlocks hK hZ hZo hW  hf dX7_lay_36
  clear ek6
  refine lv_icmp_ne (tgt := 34) hx hb dX7_lay_21 (by decide) (fun c8 => ?_) (fun c8 => ?_)
  · rw [if_neg c8] at hf
    exact w7 ()  _ _ _ hf hW (lv_sub hl [] rfl)
  · rw [if_pos c8] at hf
    refine lv_aload_n hx hb dX7_lay_24 rfl (lv_at hl 0 rfl) ?_
    obtain ⟨p9, ep9, hf⟩ := nb_let_e hf
    obtain ⟨hp10, hf⟩ := nb_g_e hf
    refine nb_get (C := RX7) (T := TX7) (N := 9) hx hb hts inT_X7 hown hK hW 0 rfl rfl 4 (by decide) (hts _ tw2_73) (fun _ h9 => h9) rfl (v := .ref (G.2.1 p9)) (by rw [ep9]; rfl) dX7_lay_25 ?_
    refine nb_getN (C := RX4) (T := TX4) (N := 18) (host := "NobodyFirst") hx hb hts inT_X4 hown hK hW p9 (sx_pty_0 hp10) rfl 0 (by decide) (va_Nw.use rfl (hZ.1 ("NobodyFirst", 78, "NobodyFirst$Party", "guests", "I", "NobodyFirst") (by decide +kernel))) (fun _ h9 => h9) rfl (v := .int (σ5 p9 0)) rfl dX7_lay_28 ?_
    refine lv_if_ne (tgt := 37) hx hb dX7_lay_31 (by decide) (fun c11 => ?_) (fun c11 => ?_)
    · rw [if_neg c11] at hf
      refine lv_aload_n hx hb dX7_lay_37 rfl (lv_at hl 0 rfl) ?_
      obtain ⟨p12, ep12, hf⟩ := nb_let_e hf
      obtain ⟨hp13, hf⟩ := nb_g_e hf
      refine nb_get (C := RX7) (T := TX7) (N := 9) hx hb hts inT_X7 hown hK hW 0 rfl rfl 3 (by decide) (hts _ tw2_72) (fun _ h9 => h9) rfl (v := .ref (G.2.1 p12)) (by rw [ep12]; rfl) dX7_lay_38 ?_
      refine lv_astore_n (lv' := [(1, .ref (G.2.1 p12)), (0, .ref (G.2.1 0))]) hx hb dX7_lay_41 rfl hl (by decide) rfl (fun ls hl => ?_)
      refine lv_aload_n hx hb dX7_lay_42 rfl (lv_at hl 1 rfl) ?_
      refine lv_aload_n hx hb dX7_lay_43 rfl (lv_at hl 1 rfl) ?_
      obtain ⟨p14, ep14, hf⟩ := nb_let_e hf
      obtain ⟨hp15, hf⟩ := nb_g_e hf
      refine nb_get (C := RX7) (T := TX7) (N := 9) hx hb hts inT_X7 hown hK hW 0 rfl rfl 4 (by decide) (hts _ tw2_73) (fun _ h9 => h9) rfl (v := .ref (G.2.1 p14)) (by rw [ep14]; rfl) dX7_lay_44 ?_
      obtain ⟨σ16, eσ16, hf⟩ := nb_let_e hf
      refine nb_put (C := RX7) (T := TX7) (N := 9) hx hb hts inT_X7 hown hK tyX7 tyX7_ok nmX7 hinj hW 0 rfl rfl 3 (by decide) (hts _ tw2_72) (fun _ h9 => h9) rfl (ty := (.object "NobodyFirst$Party")) (by decide +kernel) rfl rfl rfl (x := (nI p14)) (nb_fv_d (x_pty_lt hp15)) eσ16 dX7_lay_47 (fun H locs hW => ?_)
      refine lv_aload_n hx hb dX7_lay_50 rfl (lv_at hl 1 rfl) ?_
      refine lv_aload_n hx hb dX7_lay_51 rfl (lv_at hl 0 rfl) ?_
      obtain ⟨σ17, eσ17, hf⟩ := nb_let_e hf
      refine nb_put (C := RX7) (T := TX7) (N := 9) hx hb hts inT_X7 hown hK tyX7 tyX7_ok nmX7 hinj hW 0 rfl rfl 4 (by decide) (hts _ tw2_73) (fun _ h9 => h9) rfl (ty := (.object "NobodyFirst$Party")) (by decide +kernel) rfl rfl rfl (x := (nI p12)) (nb_fv_d (x_pty_lt hp13)) eσ17 dX7_lay_52 (fun H locs hW => ?_)
      refine lv_aload_n hx hb dX7_lay_55 rfl (lv_at hl 1 rfl) ?_
      refine nb_get (C := RX7) (T := TX7) (N := 9) hx hb hts inT_X7 hown hK hW 0 rfl rfl 8 (by decide) (hts _ tw2_77) (fun _ h9 => h9) rfl (v := .ref (G.2.1 69)) rfl dX7_lay_56 ?_
      obtain ⟨σ19, hc18, hf⟩ := nb_b_e hf
      refine nb_cv hW (va_runV (As := []) (rest := []) ⟨hx, hb, hml, hown, hts⟩ (c_X3_forget l hinj hZo (N := N) hc18 ) (cwV 0 hts (xg_V tw3_24 tw3_25 tw3_26 tw1_8 tw3_27) rfl rfl rfl (by decide +kernel) ⟨Nat.le_of_ble_eq_true rfl, Nat.le_of_ble_eq_true rfl⟩) (nb_preV hK hZ hZo hW (k := 69) rfl rfl) rfl rfl hl.1 rfl (lv_room (Nat.le_of_ble_eq_true rfl)) dX7_lay_59 ⟨Nat.zero_le _, Nat.zero_le _⟩) (fun H locs hW => ?_)
      refine lv_aload_n hx hb dX7_lay_62 rfl (lv_at hl 1 rfl) ?_
      refine nb_get (C := RX7) (T := TX7) (N := 9) hx hb hts inT_X7 hown hK hW 0 rfl rfl 6 (by decide) (hts _ tw2_75) (fun _ h9 => h9) rfl (v := .ref (G.2.1 61)) rfl dX7_lay_63 ?_
      refine lv_iconst (v := (0 : Int32)) hx hb dX7_lay_66 (by decide) ?_
      obtain ⟨σ20, eσ20, hf⟩ := nb_let_e hf
      refine nb_putN (C := RX2) (T := TX2) (N := 4) (host := "NobodyFirst") hx hb hts inT_X2 hown hK tyX2 tyX2_ok nmX2 hinj hW 61 rfl rfl 0 (by decide) (va_Nw.use rfl (hZ.1 ("NobodyFirst", 84, "NobodyFirst$Giving", "known", "Z", "NobodyFirst") (by decide +kernel))) (fun _ h9 => h9) rfl (ty := .boolean) (by decide +kernel) rfl rfl rfl (x := (0 : Int32)) (by show Value.int _ = _; rw [nb_st_s]) eσ20 dX7_lay_67 (fun H locs hW => ?_)
      refine lv_aload_n hx hb dX7_lay_70 rfl (lv_at hl 1 rfl) ?_
      refine nb_get (C := RX7) (T := TX7) (N := 9) hx hb hts inT_X7 hown hK hW 0 rfl rfl 7 (by decide) (hts _ tw2_76) (fun _ h9 => h9) rfl (v := .ref (G.2.1 64)) rfl dX7_lay_71 ?_
      refine lv_aload_n hx hb dX7_lay_74 rfl (lv_at hl 1 rfl) ?_
      obtain ⟨p21, ep21, hf⟩ := nb_let_e hf
      obtain ⟨hp22, hf⟩ := nb_g_e hf
      refine nb_get (C := RX7) (T := TX7) (N := 9) hx hb hts inT_X7 hown hK hW 0 rfl rfl 3 (by decide) (hts _ tw2_72) (fun _ h9 => h9) rfl (v := .ref (G.2.1 p21)) (by rw [ep21]; rfl) dX7_lay_75 ?_
      obtain ⟨σ24, hc23, hf⟩ := nb_b_e hf
      refine nb_cv hW (va_runV (As := [.ref (G.2.1 p21)]) (rest := []) ⟨hx, hb, hml, hown, hts⟩ (c_X1_gather l hinj hZo (N := N) hc23 hp22) (cwV 1 hts (xg_V tw2_62 tw2_63 tw2_64 tw1_7 tw2_65) rfl rfl rfl (by decide +kernel) ⟨Nat.le_of_ble_eq_true rfl, Nat.le_of_ble_eq_true rfl⟩) (nb_preV hK hZ hZo hW (k := 64) rfl rfl) rfl rfl hl.1 rfl (lv_room (Nat.le_of_ble_eq_true rfl)) dX7_lay_78 ⟨Nat.zero_le _, Nat.zero_le _⟩) (fun H locs hW => ?_)
      refine lv_aload_n hx hb dX7_lay_81 rfl (lv_at hl 1 rfl) ?_
      obtain ⟨p25, ep25, hf⟩ := nb_let_e hf
      obtain ⟨hp26, hf⟩ := nb_g_e hf
      refine nb_get (C := RX7) (T := TX7) (N := 9) hx hb hts inT_X7 hown hK hW 0 rfl rfl 3 (by decide) (hts _ tw2_72) (fun _ h9 => h9) rfl (v := .ref (G.2.1 p25)) (by rw [ep25]; rfl) dX7_lay_82 ?_
      refine nb_getN (C := RX4) (T := TX4) (N := 18) (host := "NobodyFirst") hx hb hts inT_X4 hown hK hW p25 (sx_pty_0 hp26) rfl 0 (by decide) (va_Nw.use rfl (hZ.1 ("NobodyFirst", 78, "NobodyFirst$Party", "guests", "I", "NobodyFirst") (by decide +kernel))) (fun _ h9 => h9) rfl (v := .int (σ24 p25 0)) rfl dX7_lay_85 ?_
      exact nb_ri hx hb hr hlocks hK hZ hZo hW  hf dX7_lay_88
    · rw [if_pos c11] at hf
      exact w7 ()  _ _ _ hf hW (lv_sub hl [] rfl)
def fX7_isGuest (N : Nat) (σ : nb_St) (a0 : Int32) : Option Int32 :=
  nb_let (nb_ix (σ 0 3)) fun p1 =>
  nb_g (xc_pty p1) (
  nb_b (fX7_within N σ a0 (0 : Int32) ((σ p1 0) - (1 : Int32))) fun r4 =>
  nb_g (nb_01 r4) (
  some r4))
def rmX7_isGuest : Room := { frames := 1, cells := 0, slots := 0, locals := 22 }
def vsX7_isGuest : List Cond := .code yX7_isGuest cX7_isGuest 2 (some .boolean) :: xT
set_option maxHeartbeats 4000000 in
set_option maxRecDepth 100000 in
theorem c_X7_isGuest (l : Launch) {G : nb_G} {tb : Nat → Nat} (hinj : nb_inj xc_sh G.2.1) (hZo : nb_Zok (nb_A xc_sh G.2.1) (xc_Z (nb_A xc_sh G.2.1) tb)) {N : Nat} {σ : nb_St} {a0 : Int32} {ro : Int32} (hf : fX7_isGuest N σ a0 = some ro)  : Met l yX7_isGuest vsX7_isGuest rmX7_isGuest (nb_Pc G xc_sh (xc_Z (nb_A xc_sh G.2.1) tb) σ [.ref (G.2.1 0), .int a0]) (nb_Qi G xc_sh (xc_Z (nb_A xc_sh G.2.1) tb) ro σ) 0 0 (nb_A xc_sh G.2.1) := by
  refine Met.ofW (cc := cX7_isGuest) (maxL := 2) (ret := (some .boolean)) (by decide) rfl ?_
  intro p e s m args below meth c s₁ B hml hv
  obtain ⟨rfl, hP, hK, hZ⟩ := hv
  have hx := B.exec
  have hb := B.bytes
  have hr := B.returns
  have hts : ∀ w ∈ xT, w.before _ s = true := fun w h9 => atoms_spec (ws := vsX7_isGuest) B.pre w (List.mem_cons_of_mem _ h9)
  have hown : s.vm.findClass RX7 = some m.cls := findClass_of_methodNamed B.named
  have hlocks := B.notSynchronized
  have hW : nb_W G xc_sh s.heap σ s.heap [] := ⟨hP, va_S.rf⟩
  have hl := lv_entry ([.ref (G.2.1 0), .int a0]) (n := 2) (Nat.le_of_ble_eq_true rfl)
  rw [lg_entry_eq]
  generalize (lg_sl ([.ref (G.2.1 0), .int a0]) ++ List.replicate (2 - (lg_sl ([.ref (G.2.1 0), .int a0])).length) Slot.unset).toArray = ls at hl ⊢
  have hl : lv_has ls 2 [(0, .ref (G.2.1 0)), (1, .int a0)] := hl
  show W p l e rmX7_isGuest s m ([.ref (G.2.1 0), .int a0]).toArray below meth c s.heap [] 0 0 (MQ below (nb_Qi G xc_sh (xc_Z (nb_A xc_sh G.2.1) tb) ro σ) ([.ref (G.2.1 0), .int a0]).toArray s 0 0 (nb_A xc_sh G.2.1)) (F0 m 0 ls [])
  generalize hargs : ([.ref (G.2.1 0), .int a0] : List Value).toArray = args at hts ⊢
  unfold fX7_isGuest at hf
  obtain ⟨H, eH⟩ : ∃ H, H = s.heap := ⟨_, rfl⟩
  obtain ⟨locs, eL⟩ : ∃ L : List Loc, L = [] := ⟨_, rfl⟩
  have hW : nb_W G xc_sh s.heap σ H locs := by rw [eH, eL]; exact hW
  suffices hgo : W p l e rmX7_isGuest s m args below meth c H locs 0 0 (MQ below (nb_Qi G xc_sh (xc_Z (nb_A xc_sh G.2.1) tb) ro σ) args s 0 0 (nb_A xc_sh G.2.1)) (F0 m 0 ls []) by rw [eH, eL] at hgo; exact hgo
  clear eH eL
  refine lv_iload_n hx hb dX7_isGuest_0 rfl (lv_at hl 1 rfl) ?_
  refine lv_iconst (v := (0 : Int32)) hx hb dX7_isGuest_1 (by decide) ?_
  refine lv_aload_n hx hb dX7_isGuest_2 rfl (lv_at hl 0 rfl) ?_
  obtain ⟨p1, ep1, hf⟩ := nb_let_e hf
  obtain ⟨hp2, hf⟩ := nb_g_e hf
  refine nb_get (C := RX7) (T := TX7) (N := 9) hx hb hts inT_X7 hown hK hW 0 rfl rfl 3 (by decide) (hts _ tw2_72) (fun _ h9 => h9) rfl (v := .ref (G.2.1 p1)) (by rw [ep1]; rfl) dX7_isGuest_3 ?_
  refine nb_getN (C := RX4) (T := TX4) (N := 18) (host := "NobodyFirst") hx hb hts inT_X4 hown hK hW p1 (sx_pty_0 hp2) rfl 0 (by decide) (va_Nw.use rfl (hZ.1 ("NobodyFirst", 78, "NobodyFirst$Party", "guests", "I", "NobodyFirst") (by decide +kernel))) (fun _ h9 => h9) rfl (v := .int (σ p1 0)) rfl dX7_isGuest_6 ?_
  refine lv_iconst (v := (1 : Int32)) hx hb dX7_isGuest_9 (by decide) ?_
  refine lv_isub hx hb dX7_isGuest_10 ?_
  obtain ⟨r4, hc3, hf⟩ := nb_b_e hf
  refine nb_ci hW (va_runS (As := [.int a0, .int (0 : Int32), .int ((σ p1 0) - (1 : Int32))]) (rest := []) ⟨hx, hb, hml, hown, hts⟩ (c_X7_within l hinj hZo (N := N) hc3 ) (va_cwS 3 hts (xg_S tw2_101 tw2_102 tw1_1 tw2_103) rfl rfl rfl (by decide +kernel) ⟨Nat.le_of_ble_eq_true rfl, Nat.le_of_ble_eq_true rfl⟩) (nb_preS hK hZ hZo hW) rfl rfl hl.1 rfl (lv_room (Nat.le_of_ble_eq_true rfl)) dX7_isGuest_11 ⟨Nat.zero_le _, Nat.zero_le _⟩) (fun H locs hW => ?_)
  obtain ⟨g5, hf⟩ := nb_g_e hf
  exact nb_rzp hx hb hr hlocks hK hZ hZo hW (nb_01_n g5) hf dX7_isGuest_14
def fX7_guest (N : Nat) (σ : nb_St) (a0 : Int32) (a1 : Int32) : Option Int32 :=
  nb_b (fX7_isGuest N σ a0) fun r2 =>
  (if r2 = 0 then
  some (-1 : Int32)
  else
  nb_let a1 fun y4 =>
  (if y4 = 0 then
  nb_let (nb_ix (σ 0 3)) fun p6 =>
  nb_g (xc_pty p6) (
  nb_g (nb_in a0 8) (
  some (σ (p6 + 1) (nb_ix a0))))
  else if y4 = 1 then
  nb_let (nb_ix (σ 0 3)) fun p10 =>
  nb_g (xc_pty p10) (
  nb_g (nb_in a0 8) (
  some (σ (p10 + 2) (nb_ix a0))))
  else if y4 = 2 then
  nb_let (nb_ix (σ 0 3)) fun p14 =>
  nb_g (xc_pty p14) (
  nb_g (nb_in a0 8) (
  some (σ (p14 + 3) (nb_ix a0))))
  else if y4 = 3 then
  nb_let (nb_ix (σ 0 3)) fun p18 =>
  nb_g (xc_pty p18) (
  nb_g (nb_in a0 8) (
  some (σ (p18 + 4) (nb_ix a0))))
  else 
  some (-1 : Int32)))
def rmX7_guest : Room := { frames := 2, cells := 0, slots := 0, locals := 43 }
def vsX7_guest : List Cond := .code yX7_guest cX7_guest 3 (some .int) :: xT
set_option maxHeartbeats 4000000 in
set_option maxRecDepth 100000 in
theorem c_X7_guest (l : Launch) {G : nb_G} {tb : Nat → Nat} (hinj : nb_inj xc_sh G.2.1) (hZo : nb_Zok (nb_A xc_sh G.2.1) (xc_Z (nb_A xc_sh G.2.1) tb)) {N : Nat} {σ : nb_St} {a0 : Int32} {a1 : Int32} {ro : Int32} (hf : fX7_guest N σ a0 a1 = some ro)  : Met l yX7_guest vsX7_guest rmX7_guest (nb_Pc G xc_sh (xc_Z (nb_A xc_sh G.2.1) tb) σ [.ref (G.2.1 0), .int a0, .int a1]) (nb_Qi G xc_sh (xc_Z (nb_A xc_sh G.2.1) tb) ro σ) 0 0 (nb_A xc_sh G.2.1) := by
  refine Met.ofW (cc := cX7_guest) (maxL := 3) (ret := (some .int)) (by decide) rfl ?_
  intro p e s m args below meth c s₁ B hml hv
  obtain ⟨rfl, hP, hK, hZ⟩ := hv
  have hx := B.exec
  have hb := B.bytes
  have hr := B.returns
  have hts : ∀ w ∈ xT, w.before _ s = true := fun w h9 => atoms_spec (ws := vsX7_guest) B.pre w (List.mem_cons_of_mem _ h9)
  have hown : s.vm.findClass RX7 = some m.cls := findClass_of_methodNamed B.named
  have hlocks := B.notSynchronized
  have hW : nb_W G xc_sh s.heap σ s.heap [] := ⟨hP, va_S.rf⟩
  have hl := lv_entry ([.ref (G.2.1 0), .int a0, .int a1]) (n := 3) (Nat.le_of_ble_eq_true rfl)
  rw [lg_entry_eq]
  generalize (lg_sl ([.ref (G.2.1 0), .int a0, .int a1]) ++ List.replicate (3 - (lg_sl ([.ref (G.2.1 0), .int a0, .int a1])).length) Slot.unset).toArray = ls at hl ⊢
  have hl : lv_has ls 3 [(0, .ref (G.2.1 0)), (1, .int a0), (2, .int a1)] := hl
  show W p l e rmX7_guest s m ([.ref (G.2.1 0), .int a0, .int a1]).toArray below meth c s.heap [] 0 0 (MQ below (nb_Qi G xc_sh (xc_Z (nb_A xc_sh G.2.1) tb) ro σ) ([.ref (G.2.1 0), .int a0, .int a1]).toArray s 0 0 (nb_A xc_sh G.2.1)) (F0 m 0 ls [])
  generalize hargs : ([.ref (G.2.1 0), .int a0, .int a1] : List Value).toArray = args at hts ⊢
  unfold fX7_guest at hf
  obtain ⟨H, eH⟩ : ∃ H, H = s.heap := ⟨_, rfl⟩
  obtain ⟨locs, eL⟩ : ∃ L : List Loc, L = [] := ⟨_, rfl⟩
  have hW : nb_W G xc_sh s.heap σ H locs := by rw [eH, eL]; exact hW
  suffices hgo : W p l e rmX7_guest s m args below meth c H locs 0 0 (MQ below (nb_Qi G xc_sh (xc_Z (nb_A xc_sh G.2.1) tb) ro σ) args s 0 0 (nb_A xc_sh G.2.1)) (F0 m 0 ls []) by rw [eH, eL] at hgo; exact hgo
  clear eH eL
  refine lv_aload_n hx hb dX7_guest_0 rfl (lv_at hl 0 rfl) ?_
  refine lv_iload_n hx hb dX7_guest_1 rfl (lv_at hl 1 rfl) ?_
  obtain ⟨r2, hc1, hf⟩ := nb_b_e hf
  refine nb_ci hW (va_runV (As := [.int a0]) (rest := []) ⟨hx, hb, hml, hown, hts⟩ (c_X7_isGuest l hinj hZo (N := N) hc1 ) (cwV 1 hts (xg_V tw3_32 tw3_34 tp1_3 tw1_1 tw3_35) rfl rfl rfl (by decide +kernel) ⟨Nat.le_of_ble_eq_true rfl, Nat.le_of_ble_eq_true rfl⟩) (nb_preV hK hZ hZo hW (k := 0) rfl rfl) rfl rfl hl.1 rfl (lv_room (Nat.le_of_ble_eq_true rfl)) dX7_guest_2 ⟨Nat.zero_le _, Nat.zero_le _⟩) (fun H locs hW => ?_)
  refine lv_if_ne (tgt := 10) hx hb dX7_guest_5 (by decide) (fun c3 => ?_) (fun c3 => ?_)
  · rw [if_neg c3] at hf
    refine lv_iload_n hx hb dX7_guest_10 rfl (lv_at hl 2 rfl) ?_
    obtain ⟨y4, ey4, hf⟩ := nb_let_e hf
    refine nb_nami ey4 ?_
    by_cases h5 : y4 = 0
    · rw [if_pos h5] at hf
      refine lv_tableIn (tgt := 40) (off := 29) hx hb dX7_guest_11 (by rw [h5]; decide) (by rw [h5]; decide) (by rw [h5]; decide) (by decide) ?_
      refine lv_aload_n hx hb dX7_guest_40 rfl (lv_at hl 0 rfl) ?_
      obtain ⟨p6, ep6, hf⟩ := nb_let_e hf
      obtain ⟨hp7, hf⟩ := nb_g_e hf
      refine nb_get (C := RX7) (T := TX7) (N := 9) hx hb hts inT_X7 hown hK hW 0 rfl rfl 3 (by decide) (hts _ tw2_72) (fun _ h9 => h9) rfl (v := .ref (G.2.1 p6)) (by rw [ep6]; rfl) dX7_guest_41 ?_
      refine nb_getN (C := RX4) (T := TX4) (N := 18) (host := "NobodyFirst") hx hb hts inT_X4 hown hK hW p6 (sx_pty_0 hp7) rfl 1 (by decide) (va_Nw.use rfl (hZ.1 ("NobodyFirst", 92, "NobodyFirst$Party", "pair", "[I", "NobodyFirst") (by decide +kernel))) (fun _ h9 => h9) rfl (v := .ref (G.2.1 (p6 + 1))) rfl dX7_guest_44 ?_
      refine lv_iload_n hx hb dX7_guest_47 rfl (lv_at hl 1 rfl) ?_
      obtain ⟨g8, hf⟩ := nb_g_e hf
      refine nb_iald hx hb hK hW (p6 + 1) (sx_pty_1 hp7) g8 dX7_guest_48 ?_
      exact nb_rip hx hb hr hlocks hK hZ hZo hW  hf dX7_guest_49
    rw [if_neg h5] at hf
    by_cases h9 : y4 = 1
    · rw [if_pos h9] at hf
      refine lv_tableIn (tgt := 50) (off := 39) hx hb dX7_guest_11 (by rw [h9]; decide) (by rw [h9]; decide) (by rw [h9]; decide) (by decide) ?_
      refine lv_aload_n hx hb dX7_guest_50 rfl (lv_at hl 0 rfl) ?_
      obtain ⟨p10, ep10, hf⟩ := nb_let_e hf
      obtain ⟨hp11, hf⟩ := nb_g_e hf
      refine nb_get (C := RX7) (T := TX7) (N := 9) hx hb hts inT_X7 hown hK hW 0 rfl rfl 3 (by decide) (hts _ tw2_72) (fun _ h9 => h9) rfl (v := .ref (G.2.1 p10)) (by rw [ep10]; rfl) dX7_guest_51 ?_
      refine nb_getN (C := RX4) (T := TX4) (N := 18) (host := "NobodyFirst") hx hb hts inT_X4 hown hK hW p10 (sx_pty_0 hp11) rfl 2 (by decide) (va_Nw.use rfl (hZ.1 ("NobodyFirst", 96, "NobodyFirst$Party", "wouldGo", "[I", "NobodyFirst") (by decide +kernel))) (fun _ h9 => h9) rfl (v := .ref (G.2.1 (p10 + 2))) rfl dX7_guest_54 ?_
      refine lv_iload_n hx hb dX7_guest_57 rfl (lv_at hl 1 rfl) ?_
      obtain ⟨g12, hf⟩ := nb_g_e hf
      refine nb_iald hx hb hK hW (p10 + 2) (sx_pty_2 hp11) g12 dX7_guest_58 ?_
      exact nb_rip hx hb hr hlocks hK hZ hZo hW  hf dX7_guest_59
    rw [if_neg h9] at hf
    by_cases h13 : y4 = 2
    · rw [if_pos h13] at hf
      refine lv_tableIn (tgt := 60) (off := 49) hx hb dX7_guest_11 (by rw [h13]; decide) (by rw [h13]; decide) (by rw [h13]; decide) (by decide) ?_
      refine lv_aload_n hx hb dX7_guest_60 rfl (lv_at hl 0 rfl) ?_
      obtain ⟨p14, ep14, hf⟩ := nb_let_e hf
      obtain ⟨hp15, hf⟩ := nb_g_e hf
      refine nb_get (C := RX7) (T := TX7) (N := 9) hx hb hts inT_X7 hown hK hW 0 rfl rfl 3 (by decide) (hts _ tw2_72) (fun _ h9 => h9) rfl (v := .ref (G.2.1 p14)) (by rw [ep14]; rfl) dX7_guest_61 ?_
      refine nb_getN (C := RX4) (T := TX4) (N := 18) (host := "NobodyFirst") hx hb hts inT_X4 hown hK hW p14 (sx_pty_0 hp15) rfl 3 (by decide) (va_Nw.use rfl (hZ.1 ("NobodyFirst", 99, "NobodyFirst$Party", "ownShame", "[I", "NobodyFirst") (by decide +kernel))) (fun _ h9 => h9) rfl (v := .ref (G.2.1 (p14 + 3))) rfl dX7_guest_64 ?_
      refine lv_iload_n hx hb dX7_guest_67 rfl (lv_at hl 1 rfl) ?_
      obtain ⟨g16, hf⟩ := nb_g_e hf
      refine nb_iald hx hb hK hW (p14 + 3) (sx_pty_3 hp15) g16 dX7_guest_68 ?_
      exact nb_rip hx hb hr hlocks hK hZ hZo hW  hf dX7_guest_69
    rw [if_neg h13] at hf
    by_cases h17 : y4 = 3
    · rw [if_pos h17] at hf
      refine lv_tableIn (tgt := 70) (off := 59) hx hb dX7_guest_11 (by rw [h17]; decide) (by rw [h17]; decide) (by rw [h17]; decide) (by decide) ?_
      refine lv_aload_n hx hb dX7_guest_70 rfl (lv_at hl 0 rfl) ?_
      obtain ⟨p18, ep18, hf⟩ := nb_let_e hf
      obtain ⟨hp19, hf⟩ := nb_g_e hf
      refine nb_get (C := RX7) (T := TX7) (N := 9) hx hb hts inT_X7 hown hK hW 0 rfl rfl 3 (by decide) (hts _ tw2_72) (fun _ h9 => h9) rfl (v := .ref (G.2.1 p18)) (by rw [ep18]; rfl) dX7_guest_71 ?_
      refine nb_getN (C := RX4) (T := TX4) (N := 18) (host := "NobodyFirst") hx hb hts inT_X4 hown hK hW p18 (sx_pty_0 hp19) rfl 4 (by decide) (va_Nw.use rfl (hZ.1 ("NobodyFirst", 102, "NobodyFirst$Party", "kind", "[I", "NobodyFirst") (by decide +kernel))) (fun _ h9 => h9) rfl (v := .ref (G.2.1 (p18 + 4))) rfl dX7_guest_74 ?_
      refine lv_iload_n hx hb dX7_guest_77 rfl (lv_at hl 1 rfl) ?_
      obtain ⟨g20, hf⟩ := nb_g_e hf
      refine nb_iald hx hb hK hW (p18 + 4) (sx_pty_4 hp19) g20 dX7_guest_78 ?_
      exact nb_rip hx hb hr hlocks hK hZ hZo hW  hf dX7_guest_79
    rw [if_neg h17] at hf
    refine lv_tableOut (tgt := 80) hx hb dX7_guest_11 (by exact nb_out0_3 h5 h9 h13 h17) (by decide) ?_
    refine lv_iconst (v := (-1 : Int32)) hx hb dX7_guest_80 (by decide) ?_
    exact nb_rip hx hb hr hlocks hK hZ hZo hW  hf dX7_guest_81
  · rw [if_pos c3] at hf
    refine lv_iconst (v := (-1 : Int32)) hx hb dX7_guest_8 (by decide) ?_
    exact nb_rip hx hb hr hlocks hK hZ hZo hW  hf dX7_guest_9
def fX7_passAsItIs (N : Nat) (σ : nb_St)  : Option nb_St :=
  nb_let (nb_ix (σ 0 3)) fun p1 =>
  nb_g (xc_pty p1) (
  nb_b (fX0_prepare N σ p1) fun σ4 =>
  nb_b (fX0_pass N σ4) fun σ6 =>
  some σ6)
def rmX7_passAsItIs : Room := { frames := 6, cells := 0, slots := 0, locals := 139 }
def vsX7_passAsItIs : List Cond := .code yX7_passAsItIs cX7_passAsItIs 1 none :: xT
set_option maxHeartbeats 4000000 in
set_option maxRecDepth 100000 in
theorem c_X7_passAsItIs (l : Launch) {G : nb_G} {tb : Nat → Nat} (hinj : nb_inj xc_sh G.2.1) (hZo : nb_Zok (nb_A xc_sh G.2.1) (xc_Z (nb_A xc_sh G.2.1) tb)) {N : Nat} {σ : nb_St}  {σo : nb_St} (hf : fX7_passAsItIs N σ = some σo)  : Met l yX7_passAsItIs vsX7_passAsItIs rmX7_passAsItIs (nb_Pc G xc_sh (xc_Z (nb_A xc_sh G.2.1) tb) σ [.ref (G.2.1 0)]) (nb_Qv G xc_sh (xc_Z (nb_A xc_sh G.2.1) tb) σo) 0 0 (nb_A xc_sh G.2.1) := by
  refine Met.ofW (cc := cX7_passAsItIs) (maxL := 1) (ret := none) (by decide) rfl ?_
  intro p e s m args below meth c s₁ B hml hv
  obtain ⟨rfl, hP, hK, hZ⟩ := hv
  have hx := B.exec
  have hb := B.bytes
  have hr := B.returns
  have hts : ∀ w ∈ xT, w.before _ s = true := fun w h9 => atoms_spec (ws := vsX7_passAsItIs) B.pre w (List.mem_cons_of_mem _ h9)
  have hown : s.vm.findClass RX7 = some m.cls := findClass_of_methodNamed B.named
  have hlocks := B.notSynchronized
  have hW : nb_W G xc_sh s.heap σ s.heap [] := ⟨hP, va_S.rf⟩
  have hl := lv_entry ([.ref (G.2.1 0)]) (n := 1) (Nat.le_of_ble_eq_true rfl)
  rw [lg_entry_eq]
  generalize (lg_sl ([.ref (G.2.1 0)]) ++ List.replicate (1 - (lg_sl ([.ref (G.2.1 0)])).length) Slot.unset).toArray = ls at hl ⊢
  have hl : lv_has ls 1 [(0, .ref (G.2.1 0))] := hl
  show W p l e rmX7_passAsItIs s m ([.ref (G.2.1 0)]).toArray below meth c s.heap [] 0 0 (MQ below (nb_Qv G xc_sh (xc_Z (nb_A xc_sh G.2.1) tb) σo) ([.ref (G.2.1 0)]).toArray s 0 0 (nb_A xc_sh G.2.1)) (F0 m 0 ls [])
  generalize hargs : ([.ref (G.2.1 0)] : List Value).toArray = args at hts ⊢
  unfold fX7_passAsItIs at hf
  obtain ⟨H, eH⟩ : ∃ H, H = s.heap := ⟨_, rfl⟩
  obtain ⟨locs, eL⟩ : ∃ L : List Loc, L = [] := ⟨_, rfl⟩
  have hW : nb_W G xc_sh s.heap σ H locs := by rw [eH, eL]; exact hW
  suffices hgo : W p l e rmX7_passAsItIs s m args below meth c H locs 0 0 (MQ below (nb_Qv G xc_sh (xc_Z (nb_A xc_sh G.2.1) tb) σo) args s 0 0 (nb_A xc_sh G.2.1)) (F0 m 0 ls []) by rw [eH, eL] at hgo; exact hgo
  clear eH eL
  refine lv_aload_n hx hb dX7_passAsItIs_0 rfl (lv_at hl 0 rfl) ?_
  refine nb_get (C := RX7) (T := TX7) (N := 9) hx hb hts inT_X7 hown hK hW 0 rfl rfl 5 (by decide) (hts _ tw2_74) (fun _ h9 => h9) rfl (v := .ref (G.2.1 36)) rfl dX7_passAsItIs_1 ?_
  refine lv_aload_n hx hb dX7_passAsItIs_4 rfl (lv_at hl 0 rfl) ?_
  obtain ⟨p1, ep1, hf⟩ := nb_let_e hf
  obtain ⟨hp2, hf⟩ := nb_g_e hf
  refine nb_get (C := RX7) (T := TX7) (N := 9) hx hb hts inT_X7 hown hK hW 0 rfl rfl 3 (by decide) (hts _ tw2_72) (fun _ h9 => h9) rfl (v := .ref (G.2.1 p1)) (by rw [ep1]; rfl) dX7_passAsItIs_5 ?_
  obtain ⟨σ4, hc3, hf⟩ := nb_b_e hf
  refine nb_cv hW (va_runV (As := [.ref (G.2.1 p1)]) (rest := []) ⟨hx, hb, hml, hown, hts⟩ (c_X0_prepare l hinj hZo (N := N) hc3 hp2) (cwV 1 hts (xg_V tw3_44 tw3_45 tw3_46 tw1_5 tw3_47) rfl rfl rfl (by decide +kernel) ⟨Nat.le_of_ble_eq_true rfl, Nat.le_of_ble_eq_true rfl⟩) (nb_preV hK hZ hZo hW (k := 36) rfl rfl) rfl rfl hl.1 rfl (lv_room (Nat.le_of_ble_eq_true rfl)) dX7_passAsItIs_8 ⟨Nat.zero_le _, Nat.zero_le _⟩) (fun H locs hW => ?_)
  refine lv_aload_n hx hb dX7_passAsItIs_11 rfl (lv_at hl 0 rfl) ?_
  refine nb_get (C := RX7) (T := TX7) (N := 9) hx hb hts inT_X7 hown hK hW 0 rfl rfl 5 (by decide) (hts _ tw2_74) (fun _ h9 => h9) rfl (v := .ref (G.2.1 36)) rfl dX7_passAsItIs_12 ?_
  obtain ⟨σ6, hc5, hf⟩ := nb_b_e hf
  refine nb_cv hW (va_runV (As := []) (rest := []) ⟨hx, hb, hml, hown, hts⟩ (c_X0_pass l hinj hZo (N := N) hc5 ) (cwV 0 hts (xg_V tw3_52 tw3_53 tw3_54 tw1_5 tw3_55) rfl rfl rfl (by decide +kernel) ⟨Nat.le_of_ble_eq_true rfl, Nat.le_of_ble_eq_true rfl⟩) (nb_preV hK hZ hZo hW (k := 36) rfl rfl) rfl rfl hl.1 rfl (lv_room (Nat.le_of_ble_eq_true rfl)) dX7_passAsItIs_15 ⟨Nat.zero_le _, Nat.zero_le _⟩) (fun H locs hW => ?_)
  exact nb_rv hx hb hr hlocks hK hZ hZo hW hf dX7_passAsItIs_18
def fX7_shame (N : Nat) (σ : nb_St) (a0 : Int32) (a1 : Int32) : Option (Int32 × nb_St) :=
  nb_b (fX7_isGuest N σ a0) fun r2 =>
  nb_let (fun (_u : Unit) =>
  some ((-1 : Int32), σ)) fun k3 =>
  (if r2 = 0 then
  k3 ()
  else
  nb_b (fX7_within N σ a1 (0 : Int32) (719 : Int32)) fun r7 =>
  (if r7 = 0 then
  k3 ()
  else
  nb_b (fX7_passAsItIs N σ) fun σ10 =>
  nb_b (fX0_lookAt N σ10 a1) fun σ12 =>
  nb_b (fX0_shameAt N σ12 a0 a1) fun r14 =>
  some (r14, σ12)))
def rmX7_shame : Room := { frames := 7, cells := 0, slots := 0, locals := 159 }
def vsX7_shame : List Cond := .code yX7_shame cX7_shame 3 (some .int) :: xT
set_option maxHeartbeats 4000000 in
set_option maxRecDepth 100000 in
theorem c_X7_shame (l : Launch) {G : nb_G} {tb : Nat → Nat} (hinj : nb_inj xc_sh G.2.1) (hZo : nb_Zok (nb_A xc_sh G.2.1) (xc_Z (nb_A xc_sh G.2.1) tb)) {N : Nat} {σ : nb_St} {a0 : Int32} {a1 : Int32} {ro : Int32} {σo : nb_St} (hf : fX7_shame N σ a0 a1 = some (ro, σo))  : Met l yX7_shame vsX7_shame rmX7_shame (nb_Pc G xc_sh (xc_Z (nb_A xc_sh G.2.1) tb) σ [.ref (G.2.1 0), .int a0, .int a1]) (nb_Qi G xc_sh (xc_Z (nb_A xc_sh G.2.1) tb) ro σo) 0 0 (nb_A xc_sh G.2.1) := by
  refine Met.ofW (cc := cX7_shame) (maxL := 3) (ret := (some .int)) (by decide) rfl ?_
  intro p e s m args below meth c s₁ B hml hv
  obtain ⟨rfl, hP, hK, hZ⟩ := hv
  have hx := B.exec
  have hb := B.bytes
  have hr := B.returns
  have hts : ∀ w ∈ xT, w.before _ s = true := fun w h9 => atoms_spec (ws := vsX7_shame) B.pre w (List.mem_cons_of_mem _ h9)
  have hown : s.vm.findClass RX7 = some m.cls := findClass_of_methodNamed B.named
  have hlocks := B.notSynchronized
  have hW : nb_W G xc_sh s.heap σ s.heap [] := ⟨hP, va_S.rf⟩
  have hl := lv_entry ([.ref (G.2.1 0), .int a0, .int a1]) (n := 3) (Nat.le_of_ble_eq_true rfl)
  rw [lg_entry_eq]
  generalize (lg_sl ([.ref (G.2.1 0), .int a0, .int a1]) ++ List.replicate (3 - (lg_sl ([.ref (G.2.1 0), .int a0, .int a1])).length) Slot.unset).toArray = ls at hl ⊢
  have hl : lv_has ls 3 [(0, .ref (G.2.1 0)), (1, .int a0), (2, .int a1)] := hl
  show W p l e rmX7_shame s m ([.ref (G.2.1 0), .int a0, .int a1]).toArray below meth c s.heap [] 0 0 (MQ below (nb_Qi G xc_sh (xc_Z (nb_A xc_sh G.2.1) tb) ro σo) ([.ref (G.2.1 0), .int a0, .int a1]).toArray s 0 0 (nb_A xc_sh G.2.1)) (F0 m 0 ls [])
  generalize hargs : ([.ref (G.2.1 0), .int a0, .int a1] : List Value).toArray = args at hts ⊢
  unfold fX7_shame at hf
  obtain ⟨H, eH⟩ : ∃ H, H = s.heap := ⟨_, rfl⟩
  obtain ⟨locs, eL⟩ : ∃ L : List Loc, L = [] := ⟨_, rfl⟩
  have hW : nb_W G xc_sh s.heap σ H locs := by rw [eH, eL]; exact hW
  suffices hgo : W p l e rmX7_shame s m args below meth c H locs 0 0 (MQ below (nb_Qi G xc_sh (xc_Z (nb_A xc_sh G.2.1) tb) ro σo) args s 0 0 (nb_A xc_sh G.2.1)) (F0 m 0 ls []) by rw [eH, eL] at hgo; exact hgo
  clear eH eL
  refine lv_aload_n hx hb dX7_shame_0 rfl (lv_at hl 0 rfl) ?_
  refine lv_iload_n hx hb dX7_shame_1 rfl (lv_at hl 1 rfl) ?_
  obtain ⟨r2, hc1, hf⟩ := nb_b_e hf
  refine nb_ci hW (va_runV (As := [.int a0]) (rest := []) ⟨hx, hb, hml, hown, hts⟩ (c_X7_isGuest l hinj hZo (N := N) hc1 ) (cwV 1 hts (xg_V tw3_32 tw3_34 tp1_3 tw1_1 tw3_35) rfl rfl rfl (by decide +kernel) ⟨Nat.le_of_ble_eq_true rfl, Nat.le_of_ble_eq_true rfl⟩) (nb_preV hK hZ hZo hW (k := 0) rfl rfl) rfl rfl hl.1 rfl (lv_room (Nat.le_of_ble_eq_true rfl)) dX7_shame_2 ⟨Nat.zero_le _, Nat.zero_le _⟩) (fun H locs hW => ?_)
  obtain ⟨k3, ek3, hf⟩ := nb_let_e hf
  have w4 : ∀ (_u : Unit) (H : Heap) (locs : List Loc) (ls : Array Slot), k3 _u = some (ro, σo) → nb_W G xc_sh s.heap σ H locs → lv_has ls 3 [] → W p l e rmX7_shame s m args below meth c H locs 0 0 (MQ below (nb_Qi G xc_sh (xc_Z (nb_A xc_sh G.2.1) tb) ro σo) args s 0 0 (nb_A xc_sh G.2.1)) (F0 m 19 ls []) := by
    intro _u H locs ls hf hW hl
    have hf := (congrFun ek3 _u).symm.trans hf
    refine lv_iconst (v := (-1 : Int32)) hx hb dX7_shame_19 (by decide) ?_
    exact nb_ri hx hb hr hlocks hK hZ hZo hW  hf dX7_shame_20
  clear ek3
  refine lv_if_eq (tgt := 19) hx hb dX7_shame_5 (by decide) (fun c5 => ?_) (fun c5 => ?_)
  · rw [if_pos c5] at hf
    exact w4 ()  _ _ _ hf hW (lv_sub hl [] rfl)
  · rw [if_neg c5] at hf
    refine lv_iload_n hx hb dX7_shame_8 rfl (lv_at hl 2 rfl) ?_
    refine lv_iconst (v := (0 : Int32)) hx hb dX7_shame_9 (by decide) ?_
    refine lv_sipush (v := (719 : Int32)) hx hb dX7_shame_10 (by decide) ?_
    obtain ⟨r7, hc6, hf⟩ := nb_b_e hf
    refine nb_ci hW (va_runS (As := [.int a1, .int (0 : Int32), .int (719 : Int32)]) (rest := []) ⟨hx, hb, hml, hown, hts⟩ (c_X7_within l hinj hZo (N := N) hc6 ) (va_cwS 3 hts (xg_S tw2_101 tw2_102 tw1_1 tw2_103) rfl rfl rfl (by decide +kernel) ⟨Nat.le_of_ble_eq_true rfl, Nat.le_of_ble_eq_true rfl⟩) (nb_preS hK hZ hZo hW) rfl rfl hl.1 rfl (lv_room (Nat.le_of_ble_eq_true rfl)) dX7_shame_13 ⟨Nat.zero_le _, Nat.zero_le _⟩) (fun H locs hW => ?_)
    refine lv_if_ne (tgt := 21) hx hb dX7_shame_16 (by decide) (fun c8 => ?_) (fun c8 => ?_)
    · rw [if_neg c8] at hf
      refine lv_aload_n hx hb dX7_shame_21 rfl (lv_at hl 0 rfl) ?_
      obtain ⟨σ10, hc9, hf⟩ := nb_b_e hf
      refine nb_cv hW (va_runV (As := []) (rest := []) ⟨hx, hb, hml, hown, hts⟩ (c_X7_passAsItIs l hinj hZo (N := N) hc9 ) (cwV 0 hts (xg_V tw3_40 tw3_42 tp1_4 tw1_1 tw3_43) rfl rfl rfl (by decide +kernel) ⟨Nat.le_of_ble_eq_true rfl, Nat.le_of_ble_eq_true rfl⟩) (nb_preV hK hZ hZo hW (k := 0) rfl rfl) rfl rfl hl.1 rfl (lv_room (Nat.le_of_ble_eq_true rfl)) dX7_shame_22 ⟨Nat.zero_le _, Nat.zero_le _⟩) (fun H locs hW => ?_)
      refine lv_aload_n hx hb dX7_shame_25 rfl (lv_at hl 0 rfl) ?_
      refine nb_get (C := RX7) (T := TX7) (N := 9) hx hb hts inT_X7 hown hK hW 0 rfl rfl 5 (by decide) (hts _ tw2_74) (fun _ h9 => h9) rfl (v := .ref (G.2.1 36)) rfl dX7_shame_26 ?_
      refine lv_iload_n hx hb dX7_shame_29 rfl (lv_at hl 2 rfl) ?_
      obtain ⟨σ12, hc11, hf⟩ := nb_b_e hf
      refine nb_cv hW (va_runV (As := [.int a1]) (rest := []) ⟨hx, hb, hml, hown, hts⟩ (c_X0_lookAt l hinj hZo (N := N) hc11 ) (cwV 1 hts (xg_V tw3_92 tw3_85 tw3_86 tw1_5 tw3_87) rfl rfl rfl (by decide +kernel) ⟨Nat.le_of_ble_eq_true rfl, Nat.le_of_ble_eq_true rfl⟩) (nb_preV hK hZ hZo hW (k := 36) rfl rfl) rfl rfl hl.1 rfl (lv_room (Nat.le_of_ble_eq_true rfl)) dX7_shame_30 ⟨Nat.zero_le _, Nat.zero_le _⟩) (fun H locs hW => ?_)
      refine lv_aload_n hx hb dX7_shame_33 rfl (lv_at hl 0 rfl) ?_
      refine nb_get (C := RX7) (T := TX7) (N := 9) hx hb hts inT_X7 hown hK hW 0 rfl rfl 5 (by decide) (hts _ tw2_74) (fun _ h9 => h9) rfl (v := .ref (G.2.1 36)) rfl dX7_shame_34 ?_
      refine lv_iload_n hx hb dX7_shame_37 rfl (lv_at hl 1 rfl) ?_
      refine lv_iload_n hx hb dX7_shame_38 rfl (lv_at hl 2 rfl) ?_
      obtain ⟨r14, hc13, hf⟩ := nb_b_e hf
      refine nb_ci hW (va_runV (As := [.int a0, .int a1]) (rest := []) ⟨hx, hb, hml, hown, hts⟩ (c_X0_shameAt l hinj hZo (N := N) hc13 ) (cwV 2 hts (xg_V tw3_93 tw3_80 tw3_81 tw1_5 tw3_82) rfl rfl rfl (by decide +kernel) ⟨Nat.le_of_ble_eq_true rfl, Nat.le_of_ble_eq_true rfl⟩) (nb_preV hK hZ hZo hW (k := 36) rfl rfl) rfl rfl hl.1 rfl (lv_room (Nat.le_of_ble_eq_true rfl)) dX7_shame_39 ⟨Nat.zero_le _, Nat.zero_le _⟩) (fun H locs hW => ?_)
      exact nb_ri hx hb hr hlocks hK hZ hZo hW  hf dX7_shame_42
    · rw [if_pos c8] at hf
      exact w4 ()  _ _ _ hf hW (lv_sub hl [] rfl)
def fX7_presses (N : Nat) (σ : nb_St) (a0 : Int32) (a1 : Int32) : Option (Int32 × nb_St) :=
  nb_b (fX7_isGuest N σ a0) fun r2 =>
  nb_let (fun (_u : Unit) =>
  some ((-1 : Int32), σ)) fun k3 =>
  (if r2 = 0 then
  k3 ()
  else
  nb_b (fX7_within N σ a1 (0 : Int32) (719 : Int32)) fun r7 =>
  (if r7 = 0 then
  k3 ()
  else
  nb_b (fX7_passAsItIs N σ) fun σ10 =>
  nb_b (fX0_lookAt N σ10 a1) fun σ12 =>
  nb_b (fX0_pressesFrom N σ12 a0 a1) fun r14 =>
  (if a1 < r14 then
  some ((0 : Int32), σ12)
  else
  some ((1 : Int32), σ12))))
def rmX7_presses : Room := { frames := 7, cells := 0, slots := 0, locals := 159 }
def vsX7_presses : List Cond := .code yX7_presses cX7_presses 3 (some .int) :: xT
set_option maxHeartbeats 4000000 in
set_option maxRecDepth 100000 in
theorem c_X7_presses (l : Launch) {G : nb_G} {tb : Nat → Nat} (hinj : nb_inj xc_sh G.2.1) (hZo : nb_Zok (nb_A xc_sh G.2.1) (xc_Z (nb_A xc_sh G.2.1) tb)) {N : Nat} {σ : nb_St} {a0 : Int32} {a1 : Int32} {ro : Int32} {σo : nb_St} (hf : fX7_presses N σ a0 a1 = some (ro, σo))  : Met l yX7_presses vsX7_presses rmX7_presses (nb_Pc G xc_sh (xc_Z (nb_A xc_sh G.2.1) tb) σ [.ref (G.2.1 0), .int a0, .int a1]) (nb_Qi G xc_sh (xc_Z (nb_A xc_sh G.2.1) tb) ro σo) 0 0 (nb_A xc_sh G.2.1) := by
  refine Met.ofW (cc := cX7_presses) (maxL := 3) (ret := (some .int)) (by decide) rfl ?_
  intro p e s m args below meth c s₁ B hml hv
  obtain ⟨rfl, hP, hK, hZ⟩ := hv
  have hx := B.exec
  have hb := B.bytes
  have hr := B.returns
  have hts : ∀ w ∈ xT, w.before _ s = true := fun w h9 => atoms_spec (ws := vsX7_presses) B.pre w (List.mem_cons_of_mem _ h9)
  have hown : s.vm.findClass RX7 = some m.cls := findClass_of_methodNamed B.named
  have hlocks := B.notSynchronized
  have hW : nb_W G xc_sh s.heap σ s.heap [] := ⟨hP, va_S.rf⟩
  have hl := lv_entry ([.ref (G.2.1 0), .int a0, .int a1]) (n := 3) (Nat.le_of_ble_eq_true rfl)
  rw [lg_entry_eq]
  generalize (lg_sl ([.ref (G.2.1 0), .int a0, .int a1]) ++ List.replicate (3 - (lg_sl ([.ref (G.2.1 0), .int a0, .int a1])).length) Slot.unset).toArray = ls at hl ⊢
  have hl : lv_has ls 3 [(0, .ref (G.2.1 0)), (1, .int a0), (2, .int a1)] := hl
  show W p l e rmX7_presses s m ([.ref (G.2.1 0), .int a0, .int a1]).toArray below meth c s.heap [] 0 0 (MQ below (nb_Qi G xc_sh (xc_Z (nb_A xc_sh G.2.1) tb) ro σo) ([.ref (G.2.1 0), .int a0, .int a1]).toArray s 0 0 (nb_A xc_sh G.2.1)) (F0 m 0 ls [])
  generalize hargs : ([.ref (G.2.1 0), .int a0, .int a1] : List Value).toArray = args at hts ⊢
  unfold fX7_presses at hf
  obtain ⟨H, eH⟩ : ∃ H, H = s.heap := ⟨_, rfl⟩
  obtain ⟨locs, eL⟩ : ∃ L : List Loc, L = [] := ⟨_, rfl⟩
  have hW : nb_W G xc_sh s.heap σ H locs := by rw [eH, eL]; exact hW
  suffices hgo : W p l e rmX7_presses s m args below meth c H locs 0 0 (MQ below (nb_Qi G xc_sh (xc_Z (nb_A xc_sh G.2.1) tb) ro σo) args s 0 0 (nb_A xc_sh G.2.1)) (F0 m 0 ls []) by rw [eH, eL] at hgo; exact hgo
  clear eH eL
  refine lv_aload_n hx hb dX7_presses_0 rfl (lv_at hl 0 rfl) ?_
  refine lv_iload_n hx hb dX7_presses_1 rfl (lv_at hl 1 rfl) ?_
  obtain ⟨r2, hc1, hf⟩ := nb_b_e hf
  refine nb_ci hW (va_runV (As := [.int a0]) (rest := []) ⟨hx, hb, hml, hown, hts⟩ (c_X7_isGuest l hinj hZo (N := N) hc1 ) (cwV 1 hts (xg_V tw3_32 tw3_34 tp1_3 tw1_1 tw3_35) rfl rfl rfl (by decide +kernel) ⟨Nat.le_of_ble_eq_true rfl, Nat.le_of_ble_eq_true rfl⟩) (nb_preV hK hZ hZo hW (k := 0) rfl rfl) rfl rfl hl.1 rfl (lv_room (Nat.le_of_ble_eq_true rfl)) dX7_presses_2 ⟨Nat.zero_le _, Nat.zero_le _⟩) (fun H locs hW => ?_)
  obtain ⟨k3, ek3, hf⟩ := nb_let_e hf
  have w4 : ∀ (_u : Unit) (H : Heap) (locs : List Loc) (ls : Array Slot), k3 _u = some (ro, σo) → nb_W G xc_sh s.heap σ H locs → lv_has ls 3 [] → W p l e rmX7_presses s m args below meth c H locs 0 0 (MQ below (nb_Qi G xc_sh (xc_Z (nb_A xc_sh G.2.1) tb) ro σo) args s 0 0 (nb_A xc_sh G.2.1)) (F0 m 19 ls []) := by
    intro _u H locs ls hf hW hl
    have hf := (congrFun ek3 _u).symm.trans hf
    refine lv_iconst (v := (-1 : Int32)) hx hb dX7_presses_19 (by decide) ?_
    exact nb_ri hx hb hr hlocks hK hZ hZo hW  hf dX7_presses_20
  clear ek3
  refine lv_if_eq (tgt := 19) hx hb dX7_presses_5 (by decide) (fun c5 => ?_) (fun c5 => ?_)
  · rw [if_pos c5] at hf
    exact w4 ()  _ _ _ hf hW (lv_sub hl [] rfl)
  · rw [if_neg c5] at hf
    refine lv_iload_n hx hb dX7_presses_8 rfl (lv_at hl 2 rfl) ?_
    refine lv_iconst (v := (0 : Int32)) hx hb dX7_presses_9 (by decide) ?_
    refine lv_sipush (v := (719 : Int32)) hx hb dX7_presses_10 (by decide) ?_
    obtain ⟨r7, hc6, hf⟩ := nb_b_e hf
    refine nb_ci hW (va_runS (As := [.int a1, .int (0 : Int32), .int (719 : Int32)]) (rest := []) ⟨hx, hb, hml, hown, hts⟩ (c_X7_within l hinj hZo (N := N) hc6 ) (va_cwS 3 hts (xg_S tw2_101 tw2_102 tw1_1 tw2_103) rfl rfl rfl (by decide +kernel) ⟨Nat.le_of_ble_eq_true rfl, Nat.le_of_ble_eq_true rfl⟩) (nb_preS hK hZ hZo hW) rfl rfl hl.1 rfl (lv_room (Nat.le_of_ble_eq_true rfl)) dX7_presses_13 ⟨Nat.zero_le _, Nat.zero_le _⟩) (fun H locs hW => ?_)
    refine lv_if_ne (tgt := 21) hx hb dX7_presses_16 (by decide) (fun c8 => ?_) (fun c8 => ?_)
    · rw [if_neg c8] at hf
      refine lv_aload_n hx hb dX7_presses_21 rfl (lv_at hl 0 rfl) ?_
      obtain ⟨σ10, hc9, hf⟩ := nb_b_e hf
      refine nb_cv hW (va_runV (As := []) (rest := []) ⟨hx, hb, hml, hown, hts⟩ (c_X7_passAsItIs l hinj hZo (N := N) hc9 ) (cwV 0 hts (xg_V tw3_40 tw3_42 tp1_4 tw1_1 tw3_43) rfl rfl rfl (by decide +kernel) ⟨Nat.le_of_ble_eq_true rfl, Nat.le_of_ble_eq_true rfl⟩) (nb_preV hK hZ hZo hW (k := 0) rfl rfl) rfl rfl hl.1 rfl (lv_room (Nat.le_of_ble_eq_true rfl)) dX7_presses_22 ⟨Nat.zero_le _, Nat.zero_le _⟩) (fun H locs hW => ?_)
      refine lv_aload_n hx hb dX7_presses_25 rfl (lv_at hl 0 rfl) ?_
      refine nb_get (C := RX7) (T := TX7) (N := 9) hx hb hts inT_X7 hown hK hW 0 rfl rfl 5 (by decide) (hts _ tw2_74) (fun _ h9 => h9) rfl (v := .ref (G.2.1 36)) rfl dX7_presses_26 ?_
      refine lv_iload_n hx hb dX7_presses_29 rfl (lv_at hl 2 rfl) ?_
      obtain ⟨σ12, hc11, hf⟩ := nb_b_e hf
      refine nb_cv hW (va_runV (As := [.int a1]) (rest := []) ⟨hx, hb, hml, hown, hts⟩ (c_X0_lookAt l hinj hZo (N := N) hc11 ) (cwV 1 hts (xg_V tw3_92 tw3_85 tw3_86 tw1_5 tw3_87) rfl rfl rfl (by decide +kernel) ⟨Nat.le_of_ble_eq_true rfl, Nat.le_of_ble_eq_true rfl⟩) (nb_preV hK hZ hZo hW (k := 36) rfl rfl) rfl rfl hl.1 rfl (lv_room (Nat.le_of_ble_eq_true rfl)) dX7_presses_30 ⟨Nat.zero_le _, Nat.zero_le _⟩) (fun H locs hW => ?_)
      refine lv_iload_n hx hb dX7_presses_33 rfl (lv_at hl 2 rfl) ?_
      refine lv_aload_n hx hb dX7_presses_34 rfl (lv_at hl 0 rfl) ?_
      refine nb_get (C := RX7) (T := TX7) (N := 9) hx hb hts inT_X7 hown hK hW 0 rfl rfl 5 (by decide) (hts _ tw2_74) (fun _ h9 => h9) rfl (v := .ref (G.2.1 36)) rfl dX7_presses_35 ?_
      refine lv_iload_n hx hb dX7_presses_38 rfl (lv_at hl 1 rfl) ?_
      refine lv_iload_n hx hb dX7_presses_39 rfl (lv_at hl 2 rfl) ?_
      obtain ⟨r14, hc13, hf⟩ := nb_b_e hf
      refine nb_ci hW (va_runV (As := [.int a0, .int a1]) (rest := [.int a1]) ⟨hx, hb, hml, hown, hts⟩ (c_X0_pressesFrom l hinj hZo (N := N) hc13 ) (cwV 2 hts (xg_V tw3_98 tw3_76 tw3_77 tw1_5 tw3_78) rfl rfl rfl (by decide +kernel) ⟨Nat.le_of_ble_eq_true rfl, Nat.le_of_ble_eq_true rfl⟩) (nb_preV hK hZ hZo hW (k := 36) rfl rfl) rfl rfl hl.1 rfl (lv_room (Nat.le_of_ble_eq_true rfl)) dX7_presses_40 ⟨Nat.zero_le _, Nat.zero_le _⟩) (fun H locs hW => ?_)
      refine lv_icmp_lt (tgt := 50) hx hb dX7_presses_43 (by decide) (fun c15 => ?_) (fun c15 => ?_)
      · rw [if_pos c15] at hf
        refine lv_iconst (v := (0 : Int32)) hx hb dX7_presses_50 (by decide) ?_
        exact nb_ri hx hb hr hlocks hK hZ hZo hW  hf dX7_presses_51
      · rw [if_neg c15] at hf
        refine lv_iconst (v := (1 : Int32)) hx hb dX7_presses_46 (by decide) ?_
        refine lv_goto (tgt := 51) hx hb dX7_presses_47 (by decide) ?_
        exact nb_ri hx hb hr hlocks hK hZ hZo hW  hf dX7_presses_51
    · rw [if_pos c8] at hf
      exact w4 ()  _ _ _ hf hW (lv_sub hl [] rfl)
def fX7_is (N : Nat) (σ : nb_St) (a0 : Int32) (a1 : Int32) : Option (Int32 × nb_St) :=
  nb_b (fX7_isGuest N σ a0) fun r2 =>
  nb_let (fun (_u : Unit) =>
  some ((-1 : Int32), σ)) fun k3 =>
  (if r2 = 0 then
  k3 ()
  else
  nb_b (fX7_within N σ a1 (0 : Int32) (999 : Int32)) fun r7 =>
  (if r7 = 0 then
  k3 ()
  else
  nb_b (fX7_passAsItIs N σ) fun σ10 =>
  nb_b (fX0_standsIn N σ10 a0) fun r12 =>
  (if r12 ≤ a1 then
  nb_b (fX0_goesIn N σ10 a0) fun r15 =>
  (if r15 ≤ a1 then
  some ((2 : Int32), σ10)
  else
  some ((1 : Int32), σ10))
  else
  some ((0 : Int32), σ10))))
def rmX7_is : Room := { frames := 7, cells := 0, slots := 0, locals := 159 }
def vsX7_is : List Cond := .code yX7_is cX7_is 3 (some .int) :: xT
set_option maxHeartbeats 4000000 in
set_option maxRecDepth 100000 in
theorem c_X7_is (l : Launch) {G : nb_G} {tb : Nat → Nat} (hinj : nb_inj xc_sh G.2.1) (hZo : nb_Zok (nb_A xc_sh G.2.1) (xc_Z (nb_A xc_sh G.2.1) tb)) {N : Nat} {σ : nb_St} {a0 : Int32} {a1 : Int32} {ro : Int32} {σo : nb_St} (hf : fX7_is N σ a0 a1 = some (ro, σo))  : Met l yX7_is vsX7_is rmX7_is (nb_Pc G xc_sh (xc_Z (nb_A xc_sh G.2.1) tb) σ [.ref (G.2.1 0), .int a0, .int a1]) (nb_Qi G xc_sh (xc_Z (nb_A xc_sh G.2.1) tb) ro σo) 0 0 (nb_A xc_sh G.2.1) := by
  refine Met.ofW (cc := cX7_is) (maxL := 3) (ret := (some .int)) (by decide) rfl ?_
  intro p e s m args below meth c s₁ B hml hv
  obtain ⟨rfl, hP, hK, hZ⟩ := hv
  have hx := B.exec
  have hb := B.bytes
  have hr := B.returns
  have hts : ∀ w ∈ xT, w.before _ s = true := fun w h9 => atoms_spec (ws := vsX7_is) B.pre w (List.mem_cons_of_mem _ h9)
  have hown : s.vm.findClass RX7 = some m.cls := findClass_of_methodNamed B.named
  have hlocks := B.notSynchronized
  have hW : nb_W G xc_sh s.heap σ s.heap [] := ⟨hP, va_S.rf⟩
  have hl := lv_entry ([.ref (G.2.1 0), .int a0, .int a1]) (n := 3) (Nat.le_of_ble_eq_true rfl)
  rw [lg_entry_eq]
  generalize (lg_sl ([.ref (G.2.1 0), .int a0, .int a1]) ++ List.replicate (3 - (lg_sl ([.ref (G.2.1 0), .int a0, .int a1])).length) Slot.unset).toArray = ls at hl ⊢
  have hl : lv_has ls 3 [(0, .ref (G.2.1 0)), (1, .int a0), (2, .int a1)] := hl
  show W p l e rmX7_is s m ([.ref (G.2.1 0), .int a0, .int a1]).toArray below meth c s.heap [] 0 0 (MQ below (nb_Qi G xc_sh (xc_Z (nb_A xc_sh G.2.1) tb) ro σo) ([.ref (G.2.1 0), .int a0, .int a1]).toArray s 0 0 (nb_A xc_sh G.2.1)) (F0 m 0 ls [])
  generalize hargs : ([.ref (G.2.1 0), .int a0, .int a1] : List Value).toArray = args at hts ⊢
  unfold fX7_is at hf
  obtain ⟨H, eH⟩ : ∃ H, H = s.heap := ⟨_, rfl⟩
  obtain ⟨locs, eL⟩ : ∃ L : List Loc, L = [] := ⟨_, rfl⟩
  have hW : nb_W G xc_sh s.heap σ H locs := by rw [eH, eL]; exact hW
  suffices hgo : W p l e rmX7_is s m args below meth c H locs 0 0 (MQ below (nb_Qi G xc_sh (xc_Z (nb_A xc_sh G.2.1) tb) ro σo) args s 0 0 (nb_A xc_sh G.2.1)) (F0 m 0 ls []) by rw [eH, eL] at hgo; exact hgo
  clear eH eL
  refine lv_aload_n hx hb dX7_is_0 rfl (lv_at hl 0 rfl) ?_
  refine lv_iload_n hx hb dX7_is_1 rfl (lv_at hl 1 rfl) ?_
  obtain ⟨r2, hc1, hf⟩ := nb_b_e hf
  refine nb_ci hW (va_runV (As := [.int a0]) (rest := []) ⟨hx, hb, hml, hown, hts⟩ (c_X7_isGuest l hinj hZo (N := N) hc1 ) (cwV 1 hts (xg_V tw3_32 tw3_34 tp1_3 tw1_1 tw3_35) rfl rfl rfl (by decide +kernel) ⟨Nat.le_of_ble_eq_true rfl, Nat.le_of_ble_eq_true rfl⟩) (nb_preV hK hZ hZo hW (k := 0) rfl rfl) rfl rfl hl.1 rfl (lv_room (Nat.le_of_ble_eq_true rfl)) dX7_is_2 ⟨Nat.zero_le _, Nat.zero_le _⟩) (fun H locs hW => ?_)
  obtain ⟨k3, ek3, hf⟩ := nb_let_e hf
  have w4 : ∀ (_u : Unit) (H : Heap) (locs : List Loc) (ls : Array Slot), k3 _u = some (ro, σo) → nb_W G xc_sh s.heap σ H locs → lv_has ls 3 [] → W p l e rmX7_is s m args below meth c H locs 0 0 (MQ below (nb_Qi G xc_sh (xc_Z (nb_A xc_sh G.2.1) tb) ro σo) args s 0 0 (nb_A xc_sh G.2.1)) (F0 m 19 ls []) := by
    intro _u H locs ls hf hW hl
    have hf := (congrFun ek3 _u).symm.trans hf
    refine lv_iconst (v := (-1 : Int32)) hx hb dX7_is_19 (by decide) ?_
    exact nb_ri hx hb hr hlocks hK hZ hZo hW  hf dX7_is_20
  clear ek3
  refine lv_if_eq (tgt := 19) hx hb dX7_is_5 (by decide) (fun c5 => ?_) (fun c5 => ?_)
  · rw [if_pos c5] at hf
    exact w4 ()  _ _ _ hf hW (lv_sub hl [] rfl)
  · rw [if_neg c5] at hf
    refine lv_iload_n hx hb dX7_is_8 rfl (lv_at hl 2 rfl) ?_
    refine lv_iconst (v := (0 : Int32)) hx hb dX7_is_9 (by decide) ?_
    refine lv_sipush (v := (999 : Int32)) hx hb dX7_is_10 (by decide) ?_
    obtain ⟨r7, hc6, hf⟩ := nb_b_e hf
    refine nb_ci hW (va_runS (As := [.int a1, .int (0 : Int32), .int (999 : Int32)]) (rest := []) ⟨hx, hb, hml, hown, hts⟩ (c_X7_within l hinj hZo (N := N) hc6 ) (va_cwS 3 hts (xg_S tw2_101 tw2_102 tw1_1 tw2_103) rfl rfl rfl (by decide +kernel) ⟨Nat.le_of_ble_eq_true rfl, Nat.le_of_ble_eq_true rfl⟩) (nb_preS hK hZ hZo hW) rfl rfl hl.1 rfl (lv_room (Nat.le_of_ble_eq_true rfl)) dX7_is_13 ⟨Nat.zero_le _, Nat.zero_le _⟩) (fun H locs hW => ?_)
    refine lv_if_ne (tgt := 21) hx hb dX7_is_16 (by decide) (fun c8 => ?_) (fun c8 => ?_)
    · rw [if_neg c8] at hf
      refine lv_aload_n hx hb dX7_is_21 rfl (lv_at hl 0 rfl) ?_
      obtain ⟨σ10, hc9, hf⟩ := nb_b_e hf
      refine nb_cv hW (va_runV (As := []) (rest := []) ⟨hx, hb, hml, hown, hts⟩ (c_X7_passAsItIs l hinj hZo (N := N) hc9 ) (cwV 0 hts (xg_V tw3_40 tw3_42 tp1_4 tw1_1 tw3_43) rfl rfl rfl (by decide +kernel) ⟨Nat.le_of_ble_eq_true rfl, Nat.le_of_ble_eq_true rfl⟩) (nb_preV hK hZ hZo hW (k := 0) rfl rfl) rfl rfl hl.1 rfl (lv_room (Nat.le_of_ble_eq_true rfl)) dX7_is_22 ⟨Nat.zero_le _, Nat.zero_le _⟩) (fun H locs hW => ?_)
      refine lv_iload_n hx hb dX7_is_25 rfl (lv_at hl 2 rfl) ?_
      refine lv_aload_n hx hb dX7_is_26 rfl (lv_at hl 0 rfl) ?_
      refine nb_get (C := RX7) (T := TX7) (N := 9) hx hb hts inT_X7 hown hK hW 0 rfl rfl 5 (by decide) (hts _ tw2_74) (fun _ h9 => h9) rfl (v := .ref (G.2.1 36)) rfl dX7_is_27 ?_
      refine lv_iload_n hx hb dX7_is_30 rfl (lv_at hl 1 rfl) ?_
      obtain ⟨r12, hc11, hf⟩ := nb_b_e hf
      refine nb_ci hW (va_runV (As := [.int a0]) (rest := [.int a1]) ⟨hx, hb, hml, hown, hts⟩ (c_X0_standsIn l hinj hZo (N := N) hc11 ) (cwV 1 hts (xg_V tw3_103 tw3_104 tw3_105 tw1_5 tw3_106) rfl rfl rfl (by decide +kernel) ⟨Nat.le_of_ble_eq_true rfl, Nat.le_of_ble_eq_true rfl⟩) (nb_preV hK hZ hZo hW (k := 36) rfl rfl) rfl rfl hl.1 rfl (lv_room (Nat.le_of_ble_eq_true rfl)) dX7_is_31 ⟨Nat.zero_le _, Nat.zero_le _⟩) (fun H locs hW => ?_)
      refine lv_icmp_ge (tgt := 39) hx hb dX7_is_34 (by decide) (fun c13 => ?_) (fun c13 => ?_)
      · rw [if_pos c13] at hf
        refine lv_iload_n hx hb dX7_is_39 rfl (lv_at hl 2 rfl) ?_
        refine lv_aload_n hx hb dX7_is_40 rfl (lv_at hl 0 rfl) ?_
        refine nb_get (C := RX7) (T := TX7) (N := 9) hx hb hts inT_X7 hown hK hW 0 rfl rfl 5 (by decide) (hts _ tw2_74) (fun _ h9 => h9) rfl (v := .ref (G.2.1 36)) rfl dX7_is_41 ?_
        refine lv_iload_n hx hb dX7_is_44 rfl (lv_at hl 1 rfl) ?_
        obtain ⟨r15, hc14, hf⟩ := nb_b_e hf
        refine nb_ci hW (va_runV (As := [.int a0]) (rest := [.int a1]) ⟨hx, hb, hml, hown, hts⟩ (c_X0_goesIn l hinj hZo (N := N) hc14 ) (cwV 1 hts (xg_V tw3_107 tw3_108 tw3_109 tw1_5 tw3_110) rfl rfl rfl (by decide +kernel) ⟨Nat.le_of_ble_eq_true rfl, Nat.le_of_ble_eq_true rfl⟩) (nb_preV hK hZ hZo hW (k := 36) rfl rfl) rfl rfl hl.1 rfl (lv_room (Nat.le_of_ble_eq_true rfl)) dX7_is_45 ⟨Nat.zero_le _, Nat.zero_le _⟩) (fun H locs hW => ?_)
        refine lv_icmp_ge (tgt := 55) hx hb dX7_is_48 (by decide) (fun c16 => ?_) (fun c16 => ?_)
        · rw [if_pos c16] at hf
          refine lv_iconst (v := (2 : Int32)) hx hb dX7_is_55 (by decide) ?_
          exact nb_ri hx hb hr hlocks hK hZ hZo hW  hf dX7_is_56
        · rw [if_neg c16] at hf
          refine lv_iconst (v := (1 : Int32)) hx hb dX7_is_51 (by decide) ?_
          refine lv_goto (tgt := 56) hx hb dX7_is_52 (by decide) ?_
          exact nb_ri hx hb hr hlocks hK hZ hZo hW  hf dX7_is_56
      · rw [if_neg c13] at hf
        refine lv_iconst (v := (0 : Int32)) hx hb dX7_is_37 (by decide) ?_
        exact nb_ri hx hb hr hlocks hK hZ hZo hW  hf dX7_is_38
    · rw [if_pos c8] at hf
      exact w4 ()  _ _ _ hf hW (lv_sub hl [] rfl)
def fX7_when (N : Nat) (σ : nb_St) (a0 : Int32) (a1 : Int32) : Option (Int32 × nb_St) :=
  nb_b (fX7_isGuest N σ a0) fun r2 =>
  nb_let (fun (_u : Unit) =>
  some ((-1 : Int32), σ)) fun k3 =>
  (if r2 = 0 then
  k3 ()
  else
  nb_b (fX7_within N σ a1 (0 : Int32) (1 : Int32)) fun r7 =>
  (if r7 = 0 then
  k3 ()
  else
  nb_b (fX7_passAsItIs N σ) fun σ10 =>
  (if a1 = 0 then
  nb_b (fX0_standsIn N σ10 a0) fun r15 =>
  some (r15, σ10)
  else
  nb_b (fX0_goesIn N σ10 a0) fun r13 =>
  some (r13, σ10))))
def rmX7_when : Room := { frames := 7, cells := 0, slots := 0, locals := 159 }
def vsX7_when : List Cond := .code yX7_when cX7_when 3 (some .int) :: xT
set_option maxHeartbeats 4000000 in
set_option maxRecDepth 100000 in
theorem c_X7_when (l : Launch) {G : nb_G} {tb : Nat → Nat} (hinj : nb_inj xc_sh G.2.1) (hZo : nb_Zok (nb_A xc_sh G.2.1) (xc_Z (nb_A xc_sh G.2.1) tb)) {N : Nat} {σ : nb_St} {a0 : Int32} {a1 : Int32} {ro : Int32} {σo : nb_St} (hf : fX7_when N σ a0 a1 = some (ro, σo))  : Met l yX7_when vsX7_when rmX7_when (nb_Pc G xc_sh (xc_Z (nb_A xc_sh G.2.1) tb) σ [.ref (G.2.1 0), .int a0, .int a1]) (nb_Qi G xc_sh (xc_Z (nb_A xc_sh G.2.1) tb) ro σo) 0 0 (nb_A xc_sh G.2.1) := by
  refine Met.ofW (cc := cX7_when) (maxL := 3) (ret := (some .int)) (by decide) rfl ?_
  intro p e s m args below meth c s₁ B hml hv
  obtain ⟨rfl, hP, hK, hZ⟩ := hv
  have hx := B.exec
  have hb := B.bytes
  have hr := B.returns
  have hts : ∀ w ∈ xT, w.before _ s = true := fun w h9 => atoms_spec (ws := vsX7_when) B.pre w (List.mem_cons_of_mem _ h9)
  have hown : s.vm.findClass RX7 = some m.cls := findClass_of_methodNamed B.named
  have hlocks := B.notSynchronized
  have hW : nb_W G xc_sh s.heap σ s.heap [] := ⟨hP, va_S.rf⟩
  have hl := lv_entry ([.ref (G.2.1 0), .int a0, .int a1]) (n := 3) (Nat.le_of_ble_eq_true rfl)
  rw [lg_entry_eq]
  generalize (lg_sl ([.ref (G.2.1 0), .int a0, .int a1]) ++ List.replicate (3 - (lg_sl ([.ref (G.2.1 0), .int a0, .int a1])).length) Slot.unset).toArray = ls at hl ⊢
  have hl : lv_has ls 3 [(0, .ref (G.2.1 0)), (1, .int a0), (2, .int a1)] := hl
  show W p l e rmX7_when s m ([.ref (G.2.1 0), .int a0, .int a1]).toArray below meth c s.heap [] 0 0 (MQ below (nb_Qi G xc_sh (xc_Z (nb_A xc_sh G.2.1) tb) ro σo) ([.ref (G.2.1 0), .int a0, .int a1]).toArray s 0 0 (nb_A xc_sh G.2.1)) (F0 m 0 ls [])
  generalize hargs : ([.ref (G.2.1 0), .int a0, .int a1] : List Value).toArray = args at hts ⊢
  unfold fX7_when at hf
  obtain ⟨H, eH⟩ : ∃ H, H = s.heap := ⟨_, rfl⟩
  obtain ⟨locs, eL⟩ : ∃ L : List Loc, L = [] := ⟨_, rfl⟩
  have hW : nb_W G xc_sh s.heap σ H locs := by rw [eH, eL]; exact hW
  suffices hgo : W p l e rmX7_when s m args below meth c H locs 0 0 (MQ below (nb_Qi G xc_sh (xc_Z (nb_A xc_sh G.2.1) tb) ro σo) args s 0 0 (nb_A xc_sh G.2.1)) (F0 m 0 ls []) by rw [eH, eL] at hgo; exact hgo
  clear eH eL
  refine lv_aload_n hx hb dX7_when_0 rfl (lv_at hl 0 rfl) ?_
  refine lv_iload_n hx hb dX7_when_1 rfl (lv_at hl 1 rfl) ?_
  obtain ⟨r2, hc1, hf⟩ := nb_b_e hf
  refine nb_ci hW (va_runV (As := [.int a0]) (rest := []) ⟨hx, hb, hml, hown, hts⟩ (c_X7_isGuest l hinj hZo (N := N) hc1 ) (cwV 1 hts (xg_V tw3_32 tw3_34 tp1_3 tw1_1 tw3_35) rfl rfl rfl (by decide +kernel) ⟨Nat.le_of_ble_eq_true rfl, Nat.le_of_ble_eq_true rfl⟩) (nb_preV hK hZ hZo hW (k := 0) rfl rfl) rfl rfl hl.1 rfl (lv_room (Nat.le_of_ble_eq_true rfl)) dX7_when_2 ⟨Nat.zero_le _, Nat.zero_le _⟩) (fun H locs hW => ?_)
  obtain ⟨k3, ek3, hf⟩ := nb_let_e hf
  have w4 : ∀ (_u : Unit) (H : Heap) (locs : List Loc) (ls : Array Slot), k3 _u = some (ro, σo) → nb_W G xc_sh s.heap σ H locs → lv_has ls 3 [] → W p l e rmX7_when s m args below meth c H locs 0 0 (MQ below (nb_Qi G xc_sh (xc_Z (nb_A xc_sh G.2.1) tb) ro σo) args s 0 0 (nb_A xc_sh G.2.1)) (F0 m 17 ls []) := by
    intro _u H locs ls hf hW hl
    have hf := (congrFun ek3 _u).symm.trans hf
    refine lv_iconst (v := (-1 : Int32)) hx hb dX7_when_17 (by decide) ?_
    exact nb_ri hx hb hr hlocks hK hZ hZo hW  hf dX7_when_18
  clear ek3
  refine lv_if_eq (tgt := 17) hx hb dX7_when_5 (by decide) (fun c5 => ?_) (fun c5 => ?_)
  · rw [if_pos c5] at hf
    exact w4 ()  _ _ _ hf hW (lv_sub hl [] rfl)
  · rw [if_neg c5] at hf
    refine lv_iload_n hx hb dX7_when_8 rfl (lv_at hl 2 rfl) ?_
    refine lv_iconst (v := (0 : Int32)) hx hb dX7_when_9 (by decide) ?_
    refine lv_iconst (v := (1 : Int32)) hx hb dX7_when_10 (by decide) ?_
    obtain ⟨r7, hc6, hf⟩ := nb_b_e hf
    refine nb_ci hW (va_runS (As := [.int a1, .int (0 : Int32), .int (1 : Int32)]) (rest := []) ⟨hx, hb, hml, hown, hts⟩ (c_X7_within l hinj hZo (N := N) hc6 ) (va_cwS 3 hts (xg_S tw2_101 tw2_102 tw1_1 tw2_103) rfl rfl rfl (by decide +kernel) ⟨Nat.le_of_ble_eq_true rfl, Nat.le_of_ble_eq_true rfl⟩) (nb_preS hK hZ hZo hW) rfl rfl hl.1 rfl (lv_room (Nat.le_of_ble_eq_true rfl)) dX7_when_11 ⟨Nat.zero_le _, Nat.zero_le _⟩) (fun H locs hW => ?_)
    refine lv_if_ne (tgt := 19) hx hb dX7_when_14 (by decide) (fun c8 => ?_) (fun c8 => ?_)
    · rw [if_neg c8] at hf
      refine lv_aload_n hx hb dX7_when_19 rfl (lv_at hl 0 rfl) ?_
      obtain ⟨σ10, hc9, hf⟩ := nb_b_e hf
      refine nb_cv hW (va_runV (As := []) (rest := []) ⟨hx, hb, hml, hown, hts⟩ (c_X7_passAsItIs l hinj hZo (N := N) hc9 ) (cwV 0 hts (xg_V tw3_40 tw3_42 tp1_4 tw1_1 tw3_43) rfl rfl rfl (by decide +kernel) ⟨Nat.le_of_ble_eq_true rfl, Nat.le_of_ble_eq_true rfl⟩) (nb_preV hK hZ hZo hW (k := 0) rfl rfl) rfl rfl hl.1 rfl (lv_room (Nat.le_of_ble_eq_true rfl)) dX7_when_20 ⟨Nat.zero_le _, Nat.zero_le _⟩) (fun H locs hW => ?_)
      refine lv_iload_n hx hb dX7_when_23 rfl (lv_at hl 2 rfl) ?_
      refine lv_if_ne (tgt := 38) hx hb dX7_when_24 (by decide) (fun c11 => ?_) (fun c11 => ?_)
      · rw [if_neg c11] at hf
        refine lv_aload_n hx hb dX7_when_38 rfl (lv_at hl 0 rfl) ?_
        refine nb_get (C := RX7) (T := TX7) (N := 9) hx hb hts inT_X7 hown hK hW 0 rfl rfl 5 (by decide) (hts _ tw2_74) (fun _ h9 => h9) rfl (v := .ref (G.2.1 36)) rfl dX7_when_39 ?_
        refine lv_iload_n hx hb dX7_when_42 rfl (lv_at hl 1 rfl) ?_
        obtain ⟨r13, hc12, hf⟩ := nb_b_e hf
        refine nb_ci hW (va_runV (As := [.int a0]) (rest := []) ⟨hx, hb, hml, hown, hts⟩ (c_X0_goesIn l hinj hZo (N := N) hc12 ) (cwV 1 hts (xg_V tw3_107 tw3_108 tw3_109 tw1_5 tw3_110) rfl rfl rfl (by decide +kernel) ⟨Nat.le_of_ble_eq_true rfl, Nat.le_of_ble_eq_true rfl⟩) (nb_preV hK hZ hZo hW (k := 36) rfl rfl) rfl rfl hl.1 rfl (lv_room (Nat.le_of_ble_eq_true rfl)) dX7_when_43 ⟨Nat.zero_le _, Nat.zero_le _⟩) (fun H locs hW => ?_)
        exact nb_ri hx hb hr hlocks hK hZ hZo hW  hf dX7_when_46
      · rw [if_pos c11] at hf
        refine lv_aload_n hx hb dX7_when_27 rfl (lv_at hl 0 rfl) ?_
        refine nb_get (C := RX7) (T := TX7) (N := 9) hx hb hts inT_X7 hown hK hW 0 rfl rfl 5 (by decide) (hts _ tw2_74) (fun _ h9 => h9) rfl (v := .ref (G.2.1 36)) rfl dX7_when_28 ?_
        refine lv_iload_n hx hb dX7_when_31 rfl (lv_at hl 1 rfl) ?_
        obtain ⟨r15, hc14, hf⟩ := nb_b_e hf
        refine nb_ci hW (va_runV (As := [.int a0]) (rest := []) ⟨hx, hb, hml, hown, hts⟩ (c_X0_standsIn l hinj hZo (N := N) hc14 ) (cwV 1 hts (xg_V tw3_103 tw3_104 tw3_105 tw1_5 tw3_106) rfl rfl rfl (by decide +kernel) ⟨Nat.le_of_ble_eq_true rfl, Nat.le_of_ble_eq_true rfl⟩) (nb_preV hK hZ hZo hW (k := 36) rfl rfl) rfl rfl hl.1 rfl (lv_room (Nat.le_of_ble_eq_true rfl)) dX7_when_32 ⟨Nat.zero_le _, Nat.zero_le _⟩) (fun H locs hW => ?_)
        refine lv_goto (tgt := 46) hx hb dX7_when_35 (by decide) ?_
        exact nb_ri hx hb hr hlocks hK hZ hZo hW  hf dX7_when_46
    · rw [if_pos c8] at hf
      exact w4 ()  _ _ _ hf hW (lv_sub hl [] rfl)
def fX7_wasted (N : Nat) (σ : nb_St) (a0 : Int32) : Option (Int32 × nb_St) :=
  nb_let (nb_ix (σ 0 3)) fun p1 =>
  nb_g (xc_pty p1) (
  nb_b (fX7_within N σ a0 (-2 : Int32) ((σ p1 0) - (1 : Int32))) fun r4 =>
  (if r4 = 0 then
  some ((-1 : Int32), σ)
  else
  nb_b (fX7_passAsItIs N σ) fun σ7 =>
  (if a0 = (-2 : Int32) then
  nb_b (fX0_wastedByAll N σ7) fun r15 =>
  some (r15, σ7)
  else
  (if a0 = (-1 : Int32) then
  nb_b (fX0_wastedByHost N σ7) fun r13 =>
  some (r13, σ7)
  else
  nb_b (fX0_wastedBy N σ7 a0) fun r11 =>
  some (r11, σ7)))))
def rmX7_wasted : Room := { frames := 7, cells := 0, slots := 0, locals := 159 }
def vsX7_wasted : List Cond := .code yX7_wasted cX7_wasted 2 (some .int) :: xT
set_option maxHeartbeats 4000000 in
set_option maxRecDepth 100000 in
theorem c_X7_wasted (l : Launch) {G : nb_G} {tb : Nat → Nat} (hinj : nb_inj xc_sh G.2.1) (hZo : nb_Zok (nb_A xc_sh G.2.1) (xc_Z (nb_A xc_sh G.2.1) tb)) {N : Nat} {σ : nb_St} {a0 : Int32} {ro : Int32} {σo : nb_St} (hf : fX7_wasted N σ a0 = some (ro, σo))  : Met l yX7_wasted vsX7_wasted rmX7_wasted (nb_Pc G xc_sh (xc_Z (nb_A xc_sh G.2.1) tb) σ [.ref (G.2.1 0), .int a0]) (nb_Qi G xc_sh (xc_Z (nb_A xc_sh G.2.1) tb) ro σo) 0 0 (nb_A xc_sh G.2.1) := by
  refine Met.ofW (cc := cX7_wasted) (maxL := 2) (ret := (some .int)) (by decide) rfl ?_
  intro p e s m args below meth c s₁ B hml hv
  obtain ⟨rfl, hP, hK, hZ⟩ := hv
  have hx := B.exec
  have hb := B.bytes
  have hr := B.returns
  have hts : ∀ w ∈ xT, w.before _ s = true := fun w h9 => atoms_spec (ws := vsX7_wasted) B.pre w (List.mem_cons_of_mem _ h9)
  have hown : s.vm.findClass RX7 = some m.cls := findClass_of_methodNamed B.named
  have hlocks := B.notSynchronized
  have hW : nb_W G xc_sh s.heap σ s.heap [] := ⟨hP, va_S.rf⟩
  have hl := lv_entry ([.ref (G.2.1 0), .int a0]) (n := 2) (Nat.le_of_ble_eq_true rfl)
  rw [lg_entry_eq]
  generalize (lg_sl ([.ref (G.2.1 0), .int a0]) ++ List.replicate (2 - (lg_sl ([.ref (G.2.1 0), .int a0])).length) Slot.unset).toArray = ls at hl ⊢
  have hl : lv_has ls 2 [(0, .ref (G.2.1 0)), (1, .int a0)] := hl
  show W p l e rmX7_wasted s m ([.ref (G.2.1 0), .int a0]).toArray below meth c s.heap [] 0 0 (MQ below (nb_Qi G xc_sh (xc_Z (nb_A xc_sh G.2.1) tb) ro σo) ([.ref (G.2.1 0), .int a0]).toArray s 0 0 (nb_A xc_sh G.2.1)) (F0 m 0 ls [])
  generalize hargs : ([.ref (G.2.1 0), .int a0] : List Value).toArray = args at hts ⊢
  unfold fX7_wasted at hf
  obtain ⟨H, eH⟩ : ∃ H, H = s.heap := ⟨_, rfl⟩
  obtain ⟨locs, eL⟩ : ∃ L : List Loc, L = [] := ⟨_, rfl⟩
  have hW : nb_W G xc_sh s.heap σ H locs := by rw [eH, eL]; exact hW
  suffices hgo : W p l e rmX7_wasted s m args below meth c H locs 0 0 (MQ below (nb_Qi G xc_sh (xc_Z (nb_A xc_sh G.2.1) tb) ro σo) args s 0 0 (nb_A xc_sh G.2.1)) (F0 m 0 ls []) by rw [eH, eL] at hgo; exact hgo
  clear eH eL
  refine lv_iload_n hx hb dX7_wasted_0 rfl (lv_at hl 1 rfl) ?_
  refine lv_bipush (v := (-2 : Int32)) hx hb dX7_wasted_1 (by decide) ?_
  refine lv_aload_n hx hb dX7_wasted_3 rfl (lv_at hl 0 rfl) ?_
  obtain ⟨p1, ep1, hf⟩ := nb_let_e hf
  obtain ⟨hp2, hf⟩ := nb_g_e hf
  refine nb_get (C := RX7) (T := TX7) (N := 9) hx hb hts inT_X7 hown hK hW 0 rfl rfl 3 (by decide) (hts _ tw2_72) (fun _ h9 => h9) rfl (v := .ref (G.2.1 p1)) (by rw [ep1]; rfl) dX7_wasted_4 ?_
  refine nb_getN (C := RX4) (T := TX4) (N := 18) (host := "NobodyFirst") hx hb hts inT_X4 hown hK hW p1 (sx_pty_0 hp2) rfl 0 (by decide) (va_Nw.use rfl (hZ.1 ("NobodyFirst", 78, "NobodyFirst$Party", "guests", "I", "NobodyFirst") (by decide +kernel))) (fun _ h9 => h9) rfl (v := .int (σ p1 0)) rfl dX7_wasted_7 ?_
  refine lv_iconst (v := (1 : Int32)) hx hb dX7_wasted_10 (by decide) ?_
  refine lv_isub hx hb dX7_wasted_11 ?_
  obtain ⟨r4, hc3, hf⟩ := nb_b_e hf
  refine nb_ci hW (va_runS (As := [.int a0, .int (-2 : Int32), .int ((σ p1 0) - (1 : Int32))]) (rest := []) ⟨hx, hb, hml, hown, hts⟩ (c_X7_within l hinj hZo (N := N) hc3 ) (va_cwS 3 hts (xg_S tw2_101 tw2_102 tw1_1 tw2_103) rfl rfl rfl (by decide +kernel) ⟨Nat.le_of_ble_eq_true rfl, Nat.le_of_ble_eq_true rfl⟩) (nb_preS hK hZ hZo hW) rfl rfl hl.1 rfl (lv_room (Nat.le_of_ble_eq_true rfl)) dX7_wasted_12 ⟨Nat.zero_le _, Nat.zero_le _⟩) (fun H locs hW => ?_)
  refine lv_if_ne (tgt := 20) hx hb dX7_wasted_15 (by decide) (fun c5 => ?_) (fun c5 => ?_)
  · rw [if_neg c5] at hf
    refine lv_aload_n hx hb dX7_wasted_20 rfl (lv_at hl 0 rfl) ?_
    obtain ⟨σ7, hc6, hf⟩ := nb_b_e hf
    refine nb_cv hW (va_runV (As := []) (rest := []) ⟨hx, hb, hml, hown, hts⟩ (c_X7_passAsItIs l hinj hZo (N := N) hc6 ) (cwV 0 hts (xg_V tw3_40 tw3_42 tp1_4 tw1_1 tw3_43) rfl rfl rfl (by decide +kernel) ⟨Nat.le_of_ble_eq_true rfl, Nat.le_of_ble_eq_true rfl⟩) (nb_preV hK hZ hZo hW (k := 0) rfl rfl) rfl rfl hl.1 rfl (lv_room (Nat.le_of_ble_eq_true rfl)) dX7_wasted_21 ⟨Nat.zero_le _, Nat.zero_le _⟩) (fun H locs hW => ?_)
    refine lv_iload_n hx hb dX7_wasted_24 rfl (lv_at hl 1 rfl) ?_
    refine lv_bipush (v := (-2 : Int32)) hx hb dX7_wasted_25 (by decide) ?_
    refine lv_icmp_ne (tgt := 38) hx hb dX7_wasted_27 (by decide) (fun c8 => ?_) (fun c8 => ?_)
    · rw [if_neg c8] at hf
      refine lv_iload_n hx hb dX7_wasted_38 rfl (lv_at hl 1 rfl) ?_
      refine lv_iconst (v := (-1 : Int32)) hx hb dX7_wasted_39 (by decide) ?_
      refine lv_icmp_ne (tgt := 53) hx hb dX7_wasted_40 (by decide) (fun c9 => ?_) (fun c9 => ?_)
      · rw [if_neg c9] at hf
        refine lv_aload_n hx hb dX7_wasted_53 rfl (lv_at hl 0 rfl) ?_
        refine nb_get (C := RX7) (T := TX7) (N := 9) hx hb hts inT_X7 hown hK hW 0 rfl rfl 5 (by decide) (hts _ tw2_74) (fun _ h9 => h9) rfl (v := .ref (G.2.1 36)) rfl dX7_wasted_54 ?_
        refine lv_iload_n hx hb dX7_wasted_57 rfl (lv_at hl 1 rfl) ?_
        obtain ⟨r11, hc10, hf⟩ := nb_b_e hf
        refine nb_ci hW (va_runV (As := [.int a0]) (rest := []) ⟨hx, hb, hml, hown, hts⟩ (c_X0_wastedBy l hinj hZo (N := N) hc10 ) (cwV 1 hts (xg_V tw3_140 tw3_136 tw3_137 tw1_5 tw3_138) rfl rfl rfl (by decide +kernel) ⟨Nat.le_of_ble_eq_true rfl, Nat.le_of_ble_eq_true rfl⟩) (nb_preV hK hZ hZo hW (k := 36) rfl rfl) rfl rfl hl.1 rfl (lv_room (Nat.le_of_ble_eq_true rfl)) dX7_wasted_58 ⟨Nat.zero_le _, Nat.zero_le _⟩) (fun H locs hW => ?_)
        exact nb_ri hx hb hr hlocks hK hZ hZo hW  hf dX7_wasted_61
      · rw [if_pos c9] at hf
        refine lv_aload_n hx hb dX7_wasted_43 rfl (lv_at hl 0 rfl) ?_
        refine nb_get (C := RX7) (T := TX7) (N := 9) hx hb hts inT_X7 hown hK hW 0 rfl rfl 5 (by decide) (hts _ tw2_74) (fun _ h9 => h9) rfl (v := .ref (G.2.1 36)) rfl dX7_wasted_44 ?_
        obtain ⟨r13, hc12, hf⟩ := nb_b_e hf
        refine nb_ci hW (va_runV (As := []) (rest := []) ⟨hx, hb, hml, hown, hts⟩ (c_X0_wastedByHost l hinj hZo (N := N) hc12 ) (cwV 0 hts (xg_V tw3_139 tw3_124 tw3_125 tw1_5 tw3_126) rfl rfl rfl (by decide +kernel) ⟨Nat.le_of_ble_eq_true rfl, Nat.le_of_ble_eq_true rfl⟩) (nb_preV hK hZ hZo hW (k := 36) rfl rfl) rfl rfl hl.1 rfl (lv_room (Nat.le_of_ble_eq_true rfl)) dX7_wasted_47 ⟨Nat.zero_le _, Nat.zero_le _⟩) (fun H locs hW => ?_)
        refine lv_goto (tgt := 61) hx hb dX7_wasted_50 (by decide) ?_
        exact nb_ri hx hb hr hlocks hK hZ hZo hW  hf dX7_wasted_61
    · rw [if_pos c8] at hf
      refine lv_aload_n hx hb dX7_wasted_30 rfl (lv_at hl 0 rfl) ?_
      refine nb_get (C := RX7) (T := TX7) (N := 9) hx hb hts inT_X7 hown hK hW 0 rfl rfl 5 (by decide) (hts _ tw2_74) (fun _ h9 => h9) rfl (v := .ref (G.2.1 36)) rfl dX7_wasted_31 ?_
      obtain ⟨r15, hc14, hf⟩ := nb_b_e hf
      refine nb_ci hW (va_runV (As := []) (rest := []) ⟨hx, hb, hml, hown, hts⟩ (c_X0_wastedByAll l hinj hZo (N := N) hc14 ) (cwV 0 hts (xg_V tw3_119 tw3_120 tw3_121 tw1_5 tw3_122) rfl rfl rfl (by decide +kernel) ⟨Nat.le_of_ble_eq_true rfl, Nat.le_of_ble_eq_true rfl⟩) (nb_preV hK hZ hZo hW (k := 36) rfl rfl) rfl rfl hl.1 rfl (lv_room (Nat.le_of_ble_eq_true rfl)) dX7_wasted_34 ⟨Nat.zero_le _, Nat.zero_le _⟩) (fun H locs hW => ?_)
      exact nb_ri hx hb hr hlocks hK hZ hZo hW  hf dX7_wasted_37
  · rw [if_pos c5] at hf
    refine lv_iconst (v := (-1 : Int32)) hx hb dX7_wasted_18 (by decide) ?_
    exact nb_ri hx hb hr hlocks hK hZ hZo hW  hf dX7_wasted_19
def fX7_allWithBus (N : Nat) (σ : nb_St) (a0 : Int32) (a1 : Int32) : Option (Int32 × nb_St) :=
  nb_let (nb_ix (σ 0 3)) fun p1 =>
  nb_g (xc_pty p1) (
  nb_b (fX0_prepare N σ p1) fun σ4 =>
  nb_b (fX0_makeBus N σ4 a0 a1) fun σ6 =>
  nb_b (fX0_pass N σ6) fun σ8 =>
  nb_b (fX0_wastedByAll N σ8) fun r10 =>
  some (r10, σ8))
def rmX7_allWithBus : Room := { frames := 6, cells := 0, slots := 0, locals := 139 }
def vsX7_allWithBus : List Cond := .code yX7_allWithBus cX7_allWithBus 3 (some .int) :: xT
set_option maxHeartbeats 4000000 in
set_option maxRecDepth 100000 in
theorem c_X7_allWithBus (l : Launch) {G : nb_G} {tb : Nat → Nat} (hinj : nb_inj xc_sh G.2.1) (hZo : nb_Zok (nb_A xc_sh G.2.1) (xc_Z (nb_A xc_sh G.2.1) tb)) {N : Nat} {σ : nb_St} {a0 : Int32} {a1 : Int32} {ro : Int32} {σo : nb_St} (hf : fX7_allWithBus N σ a0 a1 = some (ro, σo))  : Met l yX7_allWithBus vsX7_allWithBus rmX7_allWithBus (nb_Pc G xc_sh (xc_Z (nb_A xc_sh G.2.1) tb) σ [.ref (G.2.1 0), .int a0, .int a1]) (nb_Qi G xc_sh (xc_Z (nb_A xc_sh G.2.1) tb) ro σo) 0 0 (nb_A xc_sh G.2.1) := by
  refine Met.ofW (cc := cX7_allWithBus) (maxL := 3) (ret := (some .int)) (by decide) rfl ?_
  intro p e s m args below meth c s₁ B hml hv
  obtain ⟨rfl, hP, hK, hZ⟩ := hv
  have hx := B.exec
  have hb := B.bytes
  have hr := B.returns
  have hts : ∀ w ∈ xT, w.before _ s = true := fun w h9 => atoms_spec (ws := vsX7_allWithBus) B.pre w (List.mem_cons_of_mem _ h9)
  have hown : s.vm.findClass RX7 = some m.cls := findClass_of_methodNamed B.named
  have hlocks := B.notSynchronized
  have hW : nb_W G xc_sh s.heap σ s.heap [] := ⟨hP, va_S.rf⟩
  have hl := lv_entry ([.ref (G.2.1 0), .int a0, .int a1]) (n := 3) (Nat.le_of_ble_eq_true rfl)
  rw [lg_entry_eq]
  generalize (lg_sl ([.ref (G.2.1 0), .int a0, .int a1]) ++ List.replicate (3 - (lg_sl ([.ref (G.2.1 0), .int a0, .int a1])).length) Slot.unset).toArray = ls at hl ⊢
  have hl : lv_has ls 3 [(0, .ref (G.2.1 0)), (1, .int a0), (2, .int a1)] := hl
  show W p l e rmX7_allWithBus s m ([.ref (G.2.1 0), .int a0, .int a1]).toArray below meth c s.heap [] 0 0 (MQ below (nb_Qi G xc_sh (xc_Z (nb_A xc_sh G.2.1) tb) ro σo) ([.ref (G.2.1 0), .int a0, .int a1]).toArray s 0 0 (nb_A xc_sh G.2.1)) (F0 m 0 ls [])
  generalize hargs : ([.ref (G.2.1 0), .int a0, .int a1] : List Value).toArray = args at hts ⊢
  unfold fX7_allWithBus at hf
  obtain ⟨H, eH⟩ : ∃ H, H = s.heap := ⟨_, rfl⟩
  obtain ⟨locs, eL⟩ : ∃ L : List Loc, L = [] := ⟨_, rfl⟩
  have hW : nb_W G xc_sh s.heap σ H locs := by rw [eH, eL]; exact hW
  suffices hgo : W p l e rmX7_allWithBus s m args below meth c H locs 0 0 (MQ below (nb_Qi G xc_sh (xc_Z (nb_A xc_sh G.2.1) tb) ro σo) args s 0 0 (nb_A xc_sh G.2.1)) (F0 m 0 ls []) by rw [eH, eL] at hgo; exact hgo
  clear eH eL
  refine lv_aload_n hx hb dX7_allWithBus_0 rfl (lv_at hl 0 rfl) ?_
  refine nb_get (C := RX7) (T := TX7) (N := 9) hx hb hts inT_X7 hown hK hW 0 rfl rfl 5 (by decide) (hts _ tw2_74) (fun _ h9 => h9) rfl (v := .ref (G.2.1 36)) rfl dX7_allWithBus_1 ?_
  refine lv_aload_n hx hb dX7_allWithBus_4 rfl (lv_at hl 0 rfl) ?_
  obtain ⟨p1, ep1, hf⟩ := nb_let_e hf
  obtain ⟨hp2, hf⟩ := nb_g_e hf
  refine nb_get (C := RX7) (T := TX7) (N := 9) hx hb hts inT_X7 hown hK hW 0 rfl rfl 3 (by decide) (hts _ tw2_72) (fun _ h9 => h9) rfl (v := .ref (G.2.1 p1)) (by rw [ep1]; rfl) dX7_allWithBus_5 ?_
  obtain ⟨σ4, hc3, hf⟩ := nb_b_e hf
  refine nb_cv hW (va_runV (As := [.ref (G.2.1 p1)]) (rest := []) ⟨hx, hb, hml, hown, hts⟩ (c_X0_prepare l hinj hZo (N := N) hc3 hp2) (cwV 1 hts (xg_V tw3_44 tw3_45 tw3_46 tw1_5 tw3_47) rfl rfl rfl (by decide +kernel) ⟨Nat.le_of_ble_eq_true rfl, Nat.le_of_ble_eq_true rfl⟩) (nb_preV hK hZ hZo hW (k := 36) rfl rfl) rfl rfl hl.1 rfl (lv_room (Nat.le_of_ble_eq_true rfl)) dX7_allWithBus_8 ⟨Nat.zero_le _, Nat.zero_le _⟩) (fun H locs hW => ?_)
  refine lv_aload_n hx hb dX7_allWithBus_11 rfl (lv_at hl 0 rfl) ?_
  refine nb_get (C := RX7) (T := TX7) (N := 9) hx hb hts inT_X7 hown hK hW 0 rfl rfl 5 (by decide) (hts _ tw2_74) (fun _ h9 => h9) rfl (v := .ref (G.2.1 36)) rfl dX7_allWithBus_12 ?_
  refine lv_iload_n hx hb dX7_allWithBus_15 rfl (lv_at hl 1 rfl) ?_
  refine lv_iload_n hx hb dX7_allWithBus_16 rfl (lv_at hl 2 rfl) ?_
  obtain ⟨σ6, hc5, hf⟩ := nb_b_e hf
  refine nb_cv hW (va_runV (As := [.int a0, .int a1]) (rest := []) ⟨hx, hb, hml, hown, hts⟩ (c_X0_makeBus l hinj hZo (N := N) hc5 ) (cwV 2 hts (xg_V tw3_150 tw3_151 tw3_152 tw1_5 tw3_153) rfl rfl rfl (by decide +kernel) ⟨Nat.le_of_ble_eq_true rfl, Nat.le_of_ble_eq_true rfl⟩) (nb_preV hK hZ hZo hW (k := 36) rfl rfl) rfl rfl hl.1 rfl (lv_room (Nat.le_of_ble_eq_true rfl)) dX7_allWithBus_17 ⟨Nat.zero_le _, Nat.zero_le _⟩) (fun H locs hW => ?_)
  refine lv_aload_n hx hb dX7_allWithBus_20 rfl (lv_at hl 0 rfl) ?_
  refine nb_get (C := RX7) (T := TX7) (N := 9) hx hb hts inT_X7 hown hK hW 0 rfl rfl 5 (by decide) (hts _ tw2_74) (fun _ h9 => h9) rfl (v := .ref (G.2.1 36)) rfl dX7_allWithBus_21 ?_
  obtain ⟨σ8, hc7, hf⟩ := nb_b_e hf
  refine nb_cv hW (va_runV (As := []) (rest := []) ⟨hx, hb, hml, hown, hts⟩ (c_X0_pass l hinj hZo (N := N) hc7 ) (cwV 0 hts (xg_V tw3_52 tw3_53 tw3_54 tw1_5 tw3_55) rfl rfl rfl (by decide +kernel) ⟨Nat.le_of_ble_eq_true rfl, Nat.le_of_ble_eq_true rfl⟩) (nb_preV hK hZ hZo hW (k := 36) rfl rfl) rfl rfl hl.1 rfl (lv_room (Nat.le_of_ble_eq_true rfl)) dX7_allWithBus_24 ⟨Nat.zero_le _, Nat.zero_le _⟩) (fun H locs hW => ?_)
  refine lv_aload_n hx hb dX7_allWithBus_27 rfl (lv_at hl 0 rfl) ?_
  refine nb_get (C := RX7) (T := TX7) (N := 9) hx hb hts inT_X7 hown hK hW 0 rfl rfl 5 (by decide) (hts _ tw2_74) (fun _ h9 => h9) rfl (v := .ref (G.2.1 36)) rfl dX7_allWithBus_28 ?_
  obtain ⟨r10, hc9, hf⟩ := nb_b_e hf
  refine nb_ci hW (va_runV (As := []) (rest := []) ⟨hx, hb, hml, hown, hts⟩ (c_X0_wastedByAll l hinj hZo (N := N) hc9 ) (cwV 0 hts (xg_V tw3_119 tw3_120 tw3_121 tw1_5 tw3_122) rfl rfl rfl (by decide +kernel) ⟨Nat.le_of_ble_eq_true rfl, Nat.le_of_ble_eq_true rfl⟩) (nb_preV hK hZ hZo hW (k := 36) rfl rfl) rfl rfl hl.1 rfl (lv_room (Nat.le_of_ble_eq_true rfl)) dX7_allWithBus_31 ⟨Nat.zero_le _, Nat.zero_le _⟩) (fun H locs hW => ?_)
  exact nb_ri hx hb hr hlocks hK hZ hZo hW  hf dX7_allWithBus_34
def fX7_frees (N : Nat) (σ : nb_St) (a0 : Int32) (a1 : Int32) : Option (Int32 × nb_St) :=
  nb_b (fX7_isGuest N σ a0) fun r2 =>
  nb_let (fun (_u : Unit) =>
  some ((-1 : Int32), σ)) fun k3 =>
  (if r2 = 0 then
  k3 ()
  else
  nb_b (fX7_within N σ a1 (0 : Int32) (359 : Int32)) fun r7 =>
  (if r7 = 0 then
  k3 ()
  else
  nb_b (fX7_passAsItIs N σ) fun σ10 =>
  nb_b (fX0_wastedByAll N σ10) fun r12 =>
  nb_b2 (fX7_allWithBus N σ10 a0 a1) fun r14 σ15 =>
  some ((((100000 : Int32) + r12) - r14), σ15)))
def rmX7_frees : Room := { frames := 7, cells := 0, slots := 0, locals := 161 }
def vsX7_frees : List Cond := .code yX7_frees cX7_frees 3 (some .int) :: xT
set_option maxHeartbeats 4000000 in
set_option maxRecDepth 100000 in
theorem c_X7_frees (l : Launch) {G : nb_G} {tb : Nat → Nat} (hinj : nb_inj xc_sh G.2.1) (hZo : nb_Zok (nb_A xc_sh G.2.1) (xc_Z (nb_A xc_sh G.2.1) tb)) {N : Nat} {σ : nb_St} {a0 : Int32} {a1 : Int32} {ro : Int32} {σo : nb_St} (hf : fX7_frees N σ a0 a1 = some (ro, σo))  : Met l yX7_frees vsX7_frees rmX7_frees (nb_Pc G xc_sh (xc_Z (nb_A xc_sh G.2.1) tb) σ [.ref (G.2.1 0), .int a0, .int a1]) (nb_Qi G xc_sh (xc_Z (nb_A xc_sh G.2.1) tb) ro σo) 0 0 (nb_A xc_sh G.2.1) := by
  refine Met.ofW (cc := cX7_frees) (maxL := 3) (ret := (some .int)) (by decide) rfl ?_
  intro p e s m args below meth c s₁ B hml hv
  obtain ⟨rfl, hP, hK, hZ⟩ := hv
  have hx := B.exec
  have hb := B.bytes
  have hr := B.returns
  have hts : ∀ w ∈ xT, w.before _ s = true := fun w h9 => atoms_spec (ws := vsX7_frees) B.pre w (List.mem_cons_of_mem _ h9)
  have hown : s.vm.findClass RX7 = some m.cls := findClass_of_methodNamed B.named
  have hlocks := B.notSynchronized
  have hW : nb_W G xc_sh s.heap σ s.heap [] := ⟨hP, va_S.rf⟩
  have hl := lv_entry ([.ref (G.2.1 0), .int a0, .int a1]) (n := 3) (Nat.le_of_ble_eq_true rfl)
  rw [lg_entry_eq]
  generalize (lg_sl ([.ref (G.2.1 0), .int a0, .int a1]) ++ List.replicate (3 - (lg_sl ([.ref (G.2.1 0), .int a0, .int a1])).length) Slot.unset).toArray = ls at hl ⊢
  have hl : lv_has ls 3 [(0, .ref (G.2.1 0)), (1, .int a0), (2, .int a1)] := hl
  show W p l e rmX7_frees s m ([.ref (G.2.1 0), .int a0, .int a1]).toArray below meth c s.heap [] 0 0 (MQ below (nb_Qi G xc_sh (xc_Z (nb_A xc_sh G.2.1) tb) ro σo) ([.ref (G.2.1 0), .int a0, .int a1]).toArray s 0 0 (nb_A xc_sh G.2.1)) (F0 m 0 ls [])
  generalize hargs : ([.ref (G.2.1 0), .int a0, .int a1] : List Value).toArray = args at hts ⊢
  unfold fX7_frees at hf
  obtain ⟨H, eH⟩ : ∃ H, H = s.heap := ⟨_, rfl⟩
  obtain ⟨locs, eL⟩ : ∃ L : List Loc, L = [] := ⟨_, rfl⟩
  have hW : nb_W G xc_sh s.heap σ H locs := by rw [eH, eL]; exact hW
  suffices hgo : W p l e rmX7_frees s m args below meth c H locs 0 0 (MQ below (nb_Qi G xc_sh (xc_Z (nb_A xc_sh G.2.1) tb) ro σo) args s 0 0 (nb_A xc_sh G.2.1)) (F0 m 0 ls []) by rw [eH, eL] at hgo; exact hgo
  clear eH eL
  refine lv_aload_n hx hb dX7_frees_0 rfl (lv_at hl 0 rfl) ?_
  refine lv_iload_n hx hb dX7_frees_1 rfl (lv_at hl 1 rfl) ?_
  obtain ⟨r2, hc1, hf⟩ := nb_b_e hf
  refine nb_ci hW (va_runV (As := [.int a0]) (rest := []) ⟨hx, hb, hml, hown, hts⟩ (c_X7_isGuest l hinj hZo (N := N) hc1 ) (cwV 1 hts (xg_V tw3_32 tw3_34 tp1_3 tw1_1 tw3_35) rfl rfl rfl (by decide +kernel) ⟨Nat.le_of_ble_eq_true rfl, Nat.le_of_ble_eq_true rfl⟩) (nb_preV hK hZ hZo hW (k := 0) rfl rfl) rfl rfl hl.1 rfl (lv_room (Nat.le_of_ble_eq_true rfl)) dX7_frees_2 ⟨Nat.zero_le _, Nat.zero_le _⟩) (fun H locs hW => ?_)
  obtain ⟨k3, ek3, hf⟩ := nb_let_e hf
  have w4 : ∀ (_u : Unit) (H : Heap) (locs : List Loc) (ls : Array Slot), k3 _u = some (ro, σo) → nb_W G xc_sh s.heap σ H locs → lv_has ls 3 [] → W p l e rmX7_frees s m args below meth c H locs 0 0 (MQ below (nb_Qi G xc_sh (xc_Z (nb_A xc_sh G.2.1) tb) ro σo) args s 0 0 (nb_A xc_sh G.2.1)) (F0 m 19 ls []) := by
    intro _u H locs ls hf hW hl
    have hf := (congrFun ek3 _u).symm.trans hf
    refine lv_iconst (v := (-1 : Int32)) hx hb dX7_frees_19 (by decide) ?_
    exact nb_ri hx hb hr hlocks hK hZ hZo hW  hf dX7_frees_20
  clear ek3
  refine lv_if_eq (tgt := 19) hx hb dX7_frees_5 (by decide) (fun c5 => ?_) (fun c5 => ?_)
  · rw [if_pos c5] at hf
    exact w4 ()  _ _ _ hf hW (lv_sub hl [] rfl)
  · rw [if_neg c5] at hf
    refine lv_iload_n hx hb dX7_frees_8 rfl (lv_at hl 2 rfl) ?_
    refine lv_iconst (v := (0 : Int32)) hx hb dX7_frees_9 (by decide) ?_
    refine lv_sipush (v := (359 : Int32)) hx hb dX7_frees_10 (by decide) ?_
    obtain ⟨r7, hc6, hf⟩ := nb_b_e hf
    refine nb_ci hW (va_runS (As := [.int a1, .int (0 : Int32), .int (359 : Int32)]) (rest := []) ⟨hx, hb, hml, hown, hts⟩ (c_X7_within l hinj hZo (N := N) hc6 ) (va_cwS 3 hts (xg_S tw2_101 tw2_102 tw1_1 tw2_103) rfl rfl rfl (by decide +kernel) ⟨Nat.le_of_ble_eq_true rfl, Nat.le_of_ble_eq_true rfl⟩) (nb_preS hK hZ hZo hW) rfl rfl hl.1 rfl (lv_room (Nat.le_of_ble_eq_true rfl)) dX7_frees_13 ⟨Nat.zero_le _, Nat.zero_le _⟩) (fun H locs hW => ?_)
    refine lv_if_ne (tgt := 21) hx hb dX7_frees_16 (by decide) (fun c8 => ?_) (fun c8 => ?_)
    · rw [if_neg c8] at hf
      refine lv_aload_n hx hb dX7_frees_21 rfl (lv_at hl 0 rfl) ?_
      obtain ⟨σ10, hc9, hf⟩ := nb_b_e hf
      refine nb_cv hW (va_runV (As := []) (rest := []) ⟨hx, hb, hml, hown, hts⟩ (c_X7_passAsItIs l hinj hZo (N := N) hc9 ) (cwV 0 hts (xg_V tw3_40 tw3_42 tp1_4 tw1_1 tw3_43) rfl rfl rfl (by decide +kernel) ⟨Nat.le_of_ble_eq_true rfl, Nat.le_of_ble_eq_true rfl⟩) (nb_preV hK hZ hZo hW (k := 0) rfl rfl) rfl rfl hl.1 rfl (lv_room (Nat.le_of_ble_eq_true rfl)) dX7_frees_22 ⟨Nat.zero_le _, Nat.zero_le _⟩) (fun H locs hW => ?_)
      refine lv_ldc (own := RX7) (v := (100000 : Int32)) hx hb hown (hts _ tw3_145) dX7_frees_25 ?_
      refine lv_aload_n hx hb dX7_frees_27 rfl (lv_at hl 0 rfl) ?_
      refine nb_get (C := RX7) (T := TX7) (N := 9) hx hb hts inT_X7 hown hK hW 0 rfl rfl 5 (by decide) (hts _ tw2_74) (fun _ h9 => h9) rfl (v := .ref (G.2.1 36)) rfl dX7_frees_28 ?_
      obtain ⟨r12, hc11, hf⟩ := nb_b_e hf
      refine nb_ci hW (va_runV (As := []) (rest := [.int (100000 : Int32)]) ⟨hx, hb, hml, hown, hts⟩ (c_X0_wastedByAll l hinj hZo (N := N) hc11 ) (cwV 0 hts (xg_V tw3_119 tw3_120 tw3_121 tw1_5 tw3_122) rfl rfl rfl (by decide +kernel) ⟨Nat.le_of_ble_eq_true rfl, Nat.le_of_ble_eq_true rfl⟩) (nb_preV hK hZ hZo hW (k := 36) rfl rfl) rfl rfl hl.1 rfl (lv_room (Nat.le_of_ble_eq_true rfl)) dX7_frees_31 ⟨Nat.zero_le _, Nat.zero_le _⟩) (fun H locs hW => ?_)
      refine lv_iadd hx hb dX7_frees_34 ?_
      refine lv_aload_n hx hb dX7_frees_35 rfl (lv_at hl 0 rfl) ?_
      refine lv_iload_n hx hb dX7_frees_36 rfl (lv_at hl 1 rfl) ?_
      refine lv_iload_n hx hb dX7_frees_37 rfl (lv_at hl 2 rfl) ?_
      obtain ⟨r14, σ15, hc13, hf⟩ := nb_b2_e hf
      refine nb_ci hW (va_runV (As := [.int a0, .int a1]) (rest := [.int ((100000 : Int32) + r12)]) ⟨hx, hb, hml, hown, hts⟩ (c_X7_allWithBus l hinj hZo (N := N) hc13 ) (cwV 2 hts (xg_V tw3_146 tw3_148 tp1_10 tw1_1 tw3_149) rfl rfl rfl (by decide +kernel) ⟨Nat.le_of_ble_eq_true rfl, Nat.le_of_ble_eq_true rfl⟩) (nb_preV hK hZ hZo hW (k := 0) rfl rfl) rfl rfl hl.1 rfl (lv_room (Nat.le_of_ble_eq_true rfl)) dX7_frees_38 ⟨Nat.zero_le _, Nat.zero_le _⟩) (fun H locs hW => ?_)
      refine lv_isub hx hb dX7_frees_41 ?_
      exact nb_ri hx hb hr hlocks hK hZ hZo hW  hf dX7_frees_42
    · rw [if_pos c8] at hf
      exact w4 ()  _ _ _ hf hW (lv_sub hl [] rfl)
def fX7_madeUp (N : Nat) (σ : nb_St) (a0 : Int32) (a1 : Int32) : Option (Int32 × nb_St) :=
  nb_b (fX7_isGuest N σ a0) fun r2 =>
  nb_let (fun (_u : Unit) =>
  some ((-1 : Int32), σ)) fun k3 =>
  (if r2 = 0 then
  k3 ()
  else
  nb_b (fX7_within N σ a1 (0 : Int32) (1 : Int32)) fun r7 =>
  (if r7 = 0 then
  k3 ()
  else
  nb_b (fX7_passAsItIs N σ) fun σ10 =>
  nb_b (fX0_wastedByAll N σ10) fun r12 =>
  nb_lp4 (R := (Int32 × nb_St)) (fun ag17 (x13 : Int32) (x14 : Int32) (x15 : Int32) (σ16 : nb_St) =>
  (if (350 : Int32) < x15 then
  nb_let (fun (_u : Unit) =>
  some (x14, σ16)) fun k20 =>
  (if x14 = (-4 : Int32) then
  k20 ()
  else
  (if a1 = 0 then
  k20 ()
  else
  some ((((100000 : Int32) + r12) - x13), σ16)))
  else
  nb_b2 (fX7_allWithBus N σ16 a0 x15) fun r25 σ26 =>
  nb_let (fun (x29 : Int32) (x30 : Int32) =>
  ag17 x29 x30 (x15 + 10) σ26) fun k27 =>
  (if x13 ≤ r25 then
  k27 x13 x14
  else
  k27 r25 x15))) N r12 (-4 : Int32) (0 : Int32) σ10))
def rmX7_madeUp : Room := { frames := 7, cells := 0, slots := 0, locals := 161 }
def vsX7_madeUp : List Cond := .code yX7_madeUp cX7_madeUp 8 (some .int) :: xT
set_option maxHeartbeats 4000000 in
set_option maxRecDepth 100000 in
theorem c_X7_madeUp (l : Launch) {G : nb_G} {tb : Nat → Nat} (hinj : nb_inj xc_sh G.2.1) (hZo : nb_Zok (nb_A xc_sh G.2.1) (xc_Z (nb_A xc_sh G.2.1) tb)) {N : Nat} {σ : nb_St} {a0 : Int32} {a1 : Int32} {ro : Int32} {σo : nb_St} (hf : fX7_madeUp N σ a0 a1 = some (ro, σo))  : Met l yX7_madeUp vsX7_madeUp rmX7_madeUp (nb_Pc G xc_sh (xc_Z (nb_A xc_sh G.2.1) tb) σ [.ref (G.2.1 0), .int a0, .int a1]) (nb_Qi G xc_sh (xc_Z (nb_A xc_sh G.2.1) tb) ro σo) 0 0 (nb_A xc_sh G.2.1) := by
  refine Met.ofW (cc := cX7_madeUp) (maxL := 8) (ret := (some .int)) (by decide) rfl ?_
  intro p e s m args below meth c s₁ B hml hv
  obtain ⟨rfl, hP, hK, hZ⟩ := hv
  have hx := B.exec
  have hb := B.bytes
  have hr := B.returns
  have hts : ∀ w ∈ xT, w.before _ s = true := fun w h9 => atoms_spec (ws := vsX7_madeUp) B.pre w (List.mem_cons_of_mem _ h9)
  have hown : s.vm.findClass RX7 = some m.cls := findClass_of_methodNamed B.named
  have hlocks := B.notSynchronized
  have hW : nb_W G xc_sh s.heap σ s.heap [] := ⟨hP, va_S.rf⟩
  have hl := lv_entry ([.ref (G.2.1 0), .int a0, .int a1]) (n := 8) (Nat.le_of_ble_eq_true rfl)
  rw [lg_entry_eq]
  generalize (lg_sl ([.ref (G.2.1 0), .int a0, .int a1]) ++ List.replicate (8 - (lg_sl ([.ref (G.2.1 0), .int a0, .int a1])).length) Slot.unset).toArray = ls at hl ⊢
  have hl : lv_has ls 8 [(0, .ref (G.2.1 0)), (1, .int a0), (2, .int a1)] := hl
  show W p l e rmX7_madeUp s m ([.ref (G.2.1 0), .int a0, .int a1]).toArray below meth c s.heap [] 0 0 (MQ below (nb_Qi G xc_sh (xc_Z (nb_A xc_sh G.2.1) tb) ro σo) ([.ref (G.2.1 0), .int a0, .int a1]).toArray s 0 0 (nb_A xc_sh G.2.1)) (F0 m 0 ls [])
  generalize hargs : ([.ref (G.2.1 0), .int a0, .int a1] : List Value).toArray = args at hts ⊢
  unfold fX7_madeUp at hf
  obtain ⟨H, eH⟩ : ∃ H, H = s.heap := ⟨_, rfl⟩
  obtain ⟨locs, eL⟩ : ∃ L : List Loc, L = [] := ⟨_, rfl⟩
  have hW : nb_W G xc_sh s.heap σ H locs := by rw [eH, eL]; exact hW
  suffices hgo : W p l e rmX7_madeUp s m args below meth c H locs 0 0 (MQ below (nb_Qi G xc_sh (xc_Z (nb_A xc_sh G.2.1) tb) ro σo) args s 0 0 (nb_A xc_sh G.2.1)) (F0 m 0 ls []) by rw [eH, eL] at hgo; exact hgo
  clear eH eL
  refine lv_aload_n hx hb dX7_madeUp_0 rfl (lv_at hl 0 rfl) ?_
  refine lv_iload_n hx hb dX7_madeUp_1 rfl (lv_at hl 1 rfl) ?_
  obtain ⟨r2, hc1, hf⟩ := nb_b_e hf
  refine nb_ci hW (va_runV (As := [.int a0]) (rest := []) ⟨hx, hb, hml, hown, hts⟩ (c_X7_isGuest l hinj hZo (N := N) hc1 ) (cwV 1 hts (xg_V tw3_32 tw3_34 tp1_3 tw1_1 tw3_35) rfl rfl rfl (by decide +kernel) ⟨Nat.le_of_ble_eq_true rfl, Nat.le_of_ble_eq_true rfl⟩) (nb_preV hK hZ hZo hW (k := 0) rfl rfl) rfl rfl hl.1 rfl (lv_room (Nat.le_of_ble_eq_true rfl)) dX7_madeUp_2 ⟨Nat.zero_le _, Nat.zero_le _⟩) (fun H locs hW => ?_)
  obtain ⟨k3, ek3, hf⟩ := nb_let_e hf
  have w4 : ∀ (_u : Unit) (H : Heap) (locs : List Loc) (ls : Array Slot), k3 _u = some (ro, σo) → nb_W G xc_sh s.heap σ H locs → lv_has ls 8 [] → W p l e rmX7_madeUp s m args below meth c H locs 0 0 (MQ below (nb_Qi G xc_sh (xc_Z (nb_A xc_sh G.2.1) tb) ro σo) args s 0 0 (nb_A xc_sh G.2.1)) (F0 m 17 ls []) := by
    intro _u H locs ls hf hW hl
    have hf := (congrFun ek3 _u).symm.trans hf
    refine lv_iconst (v := (-1 : Int32)) hx hb dX7_madeUp_17 (by decide) ?_
    exact nb_ri hx hb hr hlocks hK hZ hZo hW  hf dX7_madeUp_18
  clear ek3
  refine lv_if_eq (tgt := 17) hx hb dX7_madeUp_5 (by decide) (fun c5 => ?_) (fun c5 => ?_)
  · rw [if_pos c5] at hf
    exact w4 ()  _ _ _ hf hW (lv_sub hl [] rfl)
  · rw [if_neg c5] at hf
    refine lv_iload_n hx hb dX7_madeUp_8 rfl (lv_at hl 2 rfl) ?_
    refine lv_iconst (v := (0 : Int32)) hx hb dX7_madeUp_9 (by decide) ?_
    refine lv_iconst (v := (1 : Int32)) hx hb dX7_madeUp_10 (by decide) ?_
    obtain ⟨r7, hc6, hf⟩ := nb_b_e hf
    refine nb_ci hW (va_runS (As := [.int a1, .int (0 : Int32), .int (1 : Int32)]) (rest := []) ⟨hx, hb, hml, hown, hts⟩ (c_X7_within l hinj hZo (N := N) hc6 ) (va_cwS 3 hts (xg_S tw2_101 tw2_102 tw1_1 tw2_103) rfl rfl rfl (by decide +kernel) ⟨Nat.le_of_ble_eq_true rfl, Nat.le_of_ble_eq_true rfl⟩) (nb_preS hK hZ hZo hW) rfl rfl hl.1 rfl (lv_room (Nat.le_of_ble_eq_true rfl)) dX7_madeUp_11 ⟨Nat.zero_le _, Nat.zero_le _⟩) (fun H locs hW => ?_)
    refine lv_if_ne (tgt := 19) hx hb dX7_madeUp_14 (by decide) (fun c8 => ?_) (fun c8 => ?_)
    · rw [if_neg c8] at hf
      refine lv_aload_n hx hb dX7_madeUp_19 rfl (lv_at hl 0 rfl) ?_
      obtain ⟨σ10, hc9, hf⟩ := nb_b_e hf
      refine nb_cv hW (va_runV (As := []) (rest := []) ⟨hx, hb, hml, hown, hts⟩ (c_X7_passAsItIs l hinj hZo (N := N) hc9 ) (cwV 0 hts (xg_V tw3_40 tw3_42 tp1_4 tw1_1 tw3_43) rfl rfl rfl (by decide +kernel) ⟨Nat.le_of_ble_eq_true rfl, Nat.le_of_ble_eq_true rfl⟩) (nb_preV hK hZ hZo hW (k := 0) rfl rfl) rfl rfl hl.1 rfl (lv_room (Nat.le_of_ble_eq_true rfl)) dX7_madeUp_20 ⟨Nat.zero_le _, Nat.zero_le _⟩) (fun H locs hW => ?_)
      refine lv_aload_n hx hb dX7_madeUp_23 rfl (lv_at hl 0 rfl) ?_
      refine nb_get (C := RX7) (T := TX7) (N := 9) hx hb hts inT_X7 hown hK hW 0 rfl rfl 5 (by decide) (hts _ tw2_74) (fun _ h9 => h9) rfl (v := .ref (G.2.1 36)) rfl dX7_madeUp_24 ?_
      obtain ⟨r12, hc11, hf⟩ := nb_b_e hf
      refine nb_ci hW (va_runV (As := []) (rest := []) ⟨hx, hb, hml, hown, hts⟩ (c_X0_wastedByAll l hinj hZo (N := N) hc11 ) (cwV 0 hts (xg_V tw3_119 tw3_120 tw3_121 tw1_5 tw3_122) rfl rfl rfl (by decide +kernel) ⟨Nat.le_of_ble_eq_true rfl, Nat.le_of_ble_eq_true rfl⟩) (nb_preV hK hZ hZo hW (k := 36) rfl rfl) rfl rfl hl.1 rfl (lv_room (Nat.le_of_ble_eq_true rfl)) dX7_madeUp_27 ⟨Nat.zero_le _, Nat.zero_le _⟩) (fun H locs hW => ?_)
      refine lv_istore_n (lv' := [(3, .int r12), (0, .ref (G.2.1 0)), (1, .int a0), (2, .int a1)]) hx hb dX7_madeUp_30 rfl hl (by decide) rfl (fun ls hl => ?_)
      refine lv_iload_n hx hb dX7_madeUp_31 rfl (lv_at hl 0 rfl) ?_
      refine lv_istore (lv' := [(4, .int r12), (3, .int r12), (0, .ref (G.2.1 0)), (1, .int a0), (2, .int a1)]) hx hb dX7_madeUp_32 hl (by decide) rfl (fun ls hl => ?_)
      refine lv_bipush (v := (-4 : Int32)) hx hb dX7_madeUp_34 (by decide) ?_
      refine lv_istore (lv' := [(5, .int (-4 : Int32)), (4, .int r12), (3, .int r12), (0, .ref (G.2.1 0)), (1, .int a0), (2, .int a1)]) hx hb dX7_madeUp_36 hl (by decide) rfl (fun ls hl => ?_)
      refine lv_iconst (v := (0 : Int32)) hx hb dX7_madeUp_38 (by decide) ?_
      refine lv_istore (lv' := [(6, .int (0 : Int32)), (5, .int (-4 : Int32)), (4, .int r12), (3, .int r12), (0, .ref (G.2.1 0)), (1, .int a0), (2, .int a1)]) hx hb dX7_madeUp_39 hl (by decide) rfl (fun ls hl => ?_)
      refine nb_w4 (P := fun (x13 : Int32) (x14 : Int32) (x15 : Int32) (σ16 : nb_St) => ∀ (H : Heap) (locs : List Loc) (ls : Array Slot), nb_W G xc_sh s.heap σ16 H locs → lv_has ls 8 [(0, .ref (G.2.1 0)), (1, .int a0), (2, .int a1), (3, .int r12), (4, .int x13), (5, .int x14), (6, .int x15)] → W p l e rmX7_madeUp s m args below meth c H locs 0 0 (MQ below (nb_Qi G xc_sh (xc_Z (nb_A xc_sh G.2.1) tb) ro σo) args s 0 0 (nb_A xc_sh G.2.1)) (F0 m 41 ls [])) ?_ N _ _ _ _ hf H locs ls hW (lv_sub hl [4, 5, 6, 3, 2, 1, 0] rfl)
      intro ag17 ih18 x13 x14 x15 σ16 hf H locs ls hW hl
      refine lv_iload hx hb dX7_madeUp_41 (lv_at hl 6 rfl) ?_
      refine lv_sipush (v := (350 : Int32)) hx hb dX7_madeUp_43 (by decide) ?_
      refine lv_icmp_gt (tgt := 79) hx hb dX7_madeUp_46 (by decide) (fun c19 => ?_) (fun c19 => ?_)
      · rw [if_pos c19] at hf
        refine lv_iload hx hb dX7_madeUp_79 (lv_at hl 5 rfl) ?_
        refine lv_bipush (v := (-4 : Int32)) hx hb dX7_madeUp_81 (by decide) ?_
        obtain ⟨k20, ek20, hf⟩ := nb_let_e hf
        have w21 : ∀ (_u : Unit) (H : Heap) (locs : List Loc) (ls : Array Slot), k20 _u = some (ro, σo) → nb_W G xc_sh s.heap σ16 H locs → lv_has ls 8 [(5, .int x14)] → W p l e rmX7_madeUp s m args below meth c H locs 0 0 (MQ below (nb_Qi G xc_sh (xc_Z (nb_A xc_sh G.2.1) tb) ro σo) args s 0 0 (nb_A xc_sh G.2.1)) (F0 m 90 ls []) := by
          intro _u H locs ls hf hW hl
          have hf := (congrFun ek20 _u).symm.trans hf
          refine lv_iload hx hb dX7_madeUp_90 (lv_at hl 0 rfl) ?_
          exact nb_ri hx hb hr hlocks hK hZ hZo hW  hf dX7_madeUp_92
        clear ek20
        refine lv_icmp_eq (tgt := 90) hx hb dX7_madeUp_83 (by decide) (fun c22 => ?_) (fun c22 => ?_)
        · rw [if_pos c22] at hf
          exact w21 ()  _ _ _ hf hW (lv_sub hl [5] rfl)
        · rw [if_neg c22] at hf
          refine lv_iload_n hx hb dX7_madeUp_86 rfl (lv_at hl 2 rfl) ?_
          refine lv_if_ne (tgt := 93) hx hb dX7_madeUp_87 (by decide) (fun c23 => ?_) (fun c23 => ?_)
          · rw [if_neg c23] at hf
            refine lv_ldc (own := RX7) (v := (100000 : Int32)) hx hb hown (hts _ tw3_145) dX7_madeUp_93 ?_
            refine lv_iload_n hx hb dX7_madeUp_95 rfl (lv_at hl 3 rfl) ?_
            refine lv_iadd hx hb dX7_madeUp_96 ?_
            refine lv_iload hx hb dX7_madeUp_97 (lv_at hl 4 rfl) ?_
            refine lv_isub hx hb dX7_madeUp_99 ?_
            exact nb_ri hx hb hr hlocks hK hZ hZo hW  hf dX7_madeUp_100
          · rw [if_pos c23] at hf
            exact w21 ()  _ _ _ hf hW (lv_sub hl [5] rfl)
      · rw [if_neg c19] at hf
        refine lv_aload_n hx hb dX7_madeUp_49 rfl (lv_at hl 0 rfl) ?_
        refine lv_iload_n hx hb dX7_madeUp_50 rfl (lv_at hl 1 rfl) ?_
        refine lv_iload hx hb dX7_madeUp_51 (lv_at hl 6 rfl) ?_
        obtain ⟨r25, σ26, hc24, hf⟩ := nb_b2_e hf
        refine nb_ci hW (va_runV (As := [.int a0, .int x15]) (rest := []) ⟨hx, hb, hml, hown, hts⟩ (c_X7_allWithBus l hinj hZo (N := N) hc24 ) (cwV 2 hts (xg_V tw3_146 tw3_148 tp1_10 tw1_1 tw3_149) rfl rfl rfl (by decide +kernel) ⟨Nat.le_of_ble_eq_true rfl, Nat.le_of_ble_eq_true rfl⟩) (nb_preV hK hZ hZo hW (k := 0) rfl rfl) rfl rfl hl.1 rfl (lv_room (Nat.le_of_ble_eq_true rfl)) dX7_madeUp_53 ⟨Nat.zero_le _, Nat.zero_le _⟩) (fun H locs hW => ?_)
        refine lv_istore (lv' := [(7, .int r25), (0, .ref (G.2.1 0)), (1, .int a0), (2, .int a1), (3, .int r12), (4, .int x13), (5, .int x14), (6, .int x15)]) hx hb dX7_madeUp_56 hl (by decide) rfl (fun ls hl => ?_)
        refine lv_iload hx hb dX7_madeUp_58 (lv_at hl 0 rfl) ?_
        refine lv_iload hx hb dX7_madeUp_60 (lv_at hl 5 rfl) ?_
        obtain ⟨k27, ek27, hf⟩ := nb_let_e hf
        have w28 : ∀ (x29 : Int32) (x30 : Int32) (H : Heap) (locs : List Loc) (ls : Array Slot), k27 x29 x30 = some (ro, σo) → nb_W G xc_sh s.heap σ26 H locs → lv_has ls 8 [(0, .ref (G.2.1 0)), (1, .int a0), (2, .int a1), (3, .int r12), (4, .int x29), (5, .int x30), (6, .int x15)] → W p l e rmX7_madeUp s m args below meth c H locs 0 0 (MQ below (nb_Qi G xc_sh (xc_Z (nb_A xc_sh G.2.1) tb) ro σo) args s 0 0 (nb_A xc_sh G.2.1)) (F0 m 73 ls []) := by
          intro x29 x30 H locs ls hf hW hl
          have hf := (congrFun (congrFun ek27 x29) x30).symm.trans hf
          refine lv_iinc (v := (x15 + 10)) (lv' := [(6, .int (x15 + 10)), (0, .ref (G.2.1 0)), (1, .int a0), (2, .int a1), (3, .int r12), (4, .int x29), (5, .int x30)]) hx hb dX7_madeUp_73 hl (k := 6) rfl rfl (by decide) rfl (fun ls hl => ?_)
          refine lv_goto (tgt := 41) hx hb dX7_madeUp_76 (by decide) ?_
          exact ih18 _ _ _ _ hf _ _ _ hW (lv_sub hl [1, 2, 3, 4, 5, 6, 0] rfl)
        clear ek27
        refine lv_icmp_ge (tgt := 73) hx hb dX7_madeUp_62 (by decide) (fun c31 => ?_) (fun c31 => ?_)
        · rw [if_pos c31] at hf
          exact w28 _ _ _ _ _ hf hW (lv_sub hl [1, 2, 3, 4, 5, 6, 7] rfl)
        · rw [if_neg c31] at hf
          refine lv_iload hx hb dX7_madeUp_65 (lv_at hl 0 rfl) ?_
          refine lv_istore (lv' := [(4, .int r25), (7, .int r25), (0, .ref (G.2.1 0)), (1, .int a0), (2, .int a1), (3, .int r12), (5, .int x14), (6, .int x15)]) hx hb dX7_madeUp_67 hl (by decide) rfl (fun ls hl => ?_)
          refine lv_iload hx hb dX7_madeUp_69 (lv_at hl 7 rfl) ?_
          refine lv_istore (lv' := [(5, .int x15), (4, .int r25), (7, .int r25), (0, .ref (G.2.1 0)), (1, .int a0), (2, .int a1), (3, .int r12), (6, .int x15)]) hx hb dX7_madeUp_71 hl (by decide) rfl (fun ls hl => ?_)
          exact w28 _ _ _ _ _ hf hW (lv_sub hl [3, 4, 5, 6, 1, 0, 7] rfl)
    · rw [if_pos c8] at hf
      exact w4 ()  _ _ _ hf hW (lv_sub hl [] rfl)
def fX7_allWithBell (N : Nat) (σ : nb_St) (a0 : Int32) : Option (Int32 × nb_St) :=
  nb_let (nb_ix (σ 0 3)) fun p1 =>
  nb_g (xc_pty p1) (
  nb_b (fX0_prepare N σ p1) fun σ4 =>
  nb_b (fX0_ringAt N σ4 a0) fun σ6 =>
  nb_b (fX0_pass N σ6) fun σ8 =>
  nb_b (fX0_wastedByAll N σ8) fun r10 =>
  some (r10, σ8))
def rmX7_allWithBell : Room := { frames := 6, cells := 0, slots := 0, locals := 139 }
def vsX7_allWithBell : List Cond := .code yX7_allWithBell cX7_allWithBell 2 (some .int) :: xT
set_option maxHeartbeats 4000000 in
set_option maxRecDepth 100000 in
theorem c_X7_allWithBell (l : Launch) {G : nb_G} {tb : Nat → Nat} (hinj : nb_inj xc_sh G.2.1) (hZo : nb_Zok (nb_A xc_sh G.2.1) (xc_Z (nb_A xc_sh G.2.1) tb)) {N : Nat} {σ : nb_St} {a0 : Int32} {ro : Int32} {σo : nb_St} (hf : fX7_allWithBell N σ a0 = some (ro, σo))  : Met l yX7_allWithBell vsX7_allWithBell rmX7_allWithBell (nb_Pc G xc_sh (xc_Z (nb_A xc_sh G.2.1) tb) σ [.ref (G.2.1 0), .int a0]) (nb_Qi G xc_sh (xc_Z (nb_A xc_sh G.2.1) tb) ro σo) 0 0 (nb_A xc_sh G.2.1) := by
  refine Met.ofW (cc := cX7_allWithBell) (maxL := 2) (ret := (some .int)) (by decide) rfl ?_
  intro p e s m args below meth c s₁ B hml hv
  obtain ⟨rfl, hP, hK, hZ⟩ := hv
  have hx := B.exec
  have hb := B.bytes
  have hr := B.returns
  have hts : ∀ w ∈ xT, w.before _ s = true := fun w h9 => atoms_spec (ws := vsX7_allWithBell) B.pre w (List.mem_cons_of_mem _ h9)
  have hown : s.vm.findClass RX7 = some m.cls := findClass_of_methodNamed B.named
  have hlocks := B.notSynchronized
  have hW : nb_W G xc_sh s.heap σ s.heap [] := ⟨hP, va_S.rf⟩
  have hl := lv_entry ([.ref (G.2.1 0), .int a0]) (n := 2) (Nat.le_of_ble_eq_true rfl)
  rw [lg_entry_eq]
  generalize (lg_sl ([.ref (G.2.1 0), .int a0]) ++ List.replicate (2 - (lg_sl ([.ref (G.2.1 0), .int a0])).length) Slot.unset).toArray = ls at hl ⊢
  have hl : lv_has ls 2 [(0, .ref (G.2.1 0)), (1, .int a0)] := hl
  show W p l e rmX7_allWithBell s m ([.ref (G.2.1 0), .int a0]).toArray below meth c s.heap [] 0 0 (MQ below (nb_Qi G xc_sh (xc_Z (nb_A xc_sh G.2.1) tb) ro σo) ([.ref (G.2.1 0), .int a0]).toArray s 0 0 (nb_A xc_sh G.2.1)) (F0 m 0 ls [])
  generalize hargs : ([.ref (G.2.1 0), .int a0] : List Value).toArray = args at hts ⊢
  unfold fX7_allWithBell at hf
  obtain ⟨H, eH⟩ : ∃ H, H = s.heap := ⟨_, rfl⟩
  obtain ⟨locs, eL⟩ : ∃ L : List Loc, L = [] := ⟨_, rfl⟩
  have hW : nb_W G xc_sh s.heap σ H locs := by rw [eH, eL]; exact hW
  suffices hgo : W p l e rmX7_allWithBell s m args below meth c H locs 0 0 (MQ below (nb_Qi G xc_sh (xc_Z (nb_A xc_sh G.2.1) tb) ro σo) args s 0 0 (nb_A xc_sh G.2.1)) (F0 m 0 ls []) by rw [eH, eL] at hgo; exact hgo
  clear eH eL
  refine lv_aload_n hx hb dX7_allWithBell_0 rfl (lv_at hl 0 rfl) ?_
  refine nb_get (C := RX7) (T := TX7) (N := 9) hx hb hts inT_X7 hown hK hW 0 rfl rfl 5 (by decide) (hts _ tw2_74) (fun _ h9 => h9) rfl (v := .ref (G.2.1 36)) rfl dX7_allWithBell_1 ?_
  refine lv_aload_n hx hb dX7_allWithBell_4 rfl (lv_at hl 0 rfl) ?_
  obtain ⟨p1, ep1, hf⟩ := nb_let_e hf
  obtain ⟨hp2, hf⟩ := nb_g_e hf
  refine nb_get (C := RX7) (T := TX7) (N := 9) hx hb hts inT_X7 hown hK hW 0 rfl rfl 3 (by decide) (hts _ tw2_72) (fun _ h9 => h9) rfl (v := .ref (G.2.1 p1)) (by rw [ep1]; rfl) dX7_allWithBell_5 ?_
  obtain ⟨σ4, hc3, hf⟩ := nb_b_e hf
  refine nb_cv hW (va_runV (As := [.ref (G.2.1 p1)]) (rest := []) ⟨hx, hb, hml, hown, hts⟩ (c_X0_prepare l hinj hZo (N := N) hc3 hp2) (cwV 1 hts (xg_V tw3_44 tw3_45 tw3_46 tw1_5 tw3_47) rfl rfl rfl (by decide +kernel) ⟨Nat.le_of_ble_eq_true rfl, Nat.le_of_ble_eq_true rfl⟩) (nb_preV hK hZ hZo hW (k := 36) rfl rfl) rfl rfl hl.1 rfl (lv_room (Nat.le_of_ble_eq_true rfl)) dX7_allWithBell_8 ⟨Nat.zero_le _, Nat.zero_le _⟩) (fun H locs hW => ?_)
  refine lv_aload_n hx hb dX7_allWithBell_11 rfl (lv_at hl 0 rfl) ?_
  refine nb_get (C := RX7) (T := TX7) (N := 9) hx hb hts inT_X7 hown hK hW 0 rfl rfl 5 (by decide) (hts _ tw2_74) (fun _ h9 => h9) rfl (v := .ref (G.2.1 36)) rfl dX7_allWithBell_12 ?_
  refine lv_iload_n hx hb dX7_allWithBell_15 rfl (lv_at hl 1 rfl) ?_
  obtain ⟨σ6, hc5, hf⟩ := nb_b_e hf
  refine nb_cv hW (va_runV (As := [.int a0]) (rest := []) ⟨hx, hb, hml, hown, hts⟩ (c_X0_ringAt l hinj hZo (N := N) hc5 ) (cwV 1 hts (xg_V tw3_166 tw3_167 tw3_168 tw1_5 tw3_169) rfl rfl rfl (by decide +kernel) ⟨Nat.le_of_ble_eq_true rfl, Nat.le_of_ble_eq_true rfl⟩) (nb_preV hK hZ hZo hW (k := 36) rfl rfl) rfl rfl hl.1 rfl (lv_room (Nat.le_of_ble_eq_true rfl)) dX7_allWithBell_16 ⟨Nat.zero_le _, Nat.zero_le _⟩) (fun H locs hW => ?_)
  refine lv_aload_n hx hb dX7_allWithBell_19 rfl (lv_at hl 0 rfl) ?_
  refine nb_get (C := RX7) (T := TX7) (N := 9) hx hb hts inT_X7 hown hK hW 0 rfl rfl 5 (by decide) (hts _ tw2_74) (fun _ h9 => h9) rfl (v := .ref (G.2.1 36)) rfl dX7_allWithBell_20 ?_
  obtain ⟨σ8, hc7, hf⟩ := nb_b_e hf
  refine nb_cv hW (va_runV (As := []) (rest := []) ⟨hx, hb, hml, hown, hts⟩ (c_X0_pass l hinj hZo (N := N) hc7 ) (cwV 0 hts (xg_V tw3_52 tw3_53 tw3_54 tw1_5 tw3_55) rfl rfl rfl (by decide +kernel) ⟨Nat.le_of_ble_eq_true rfl, Nat.le_of_ble_eq_true rfl⟩) (nb_preV hK hZ hZo hW (k := 36) rfl rfl) rfl rfl hl.1 rfl (lv_room (Nat.le_of_ble_eq_true rfl)) dX7_allWithBell_23 ⟨Nat.zero_le _, Nat.zero_le _⟩) (fun H locs hW => ?_)
  refine lv_aload_n hx hb dX7_allWithBell_26 rfl (lv_at hl 0 rfl) ?_
  refine nb_get (C := RX7) (T := TX7) (N := 9) hx hb hts inT_X7 hown hK hW 0 rfl rfl 5 (by decide) (hts _ tw2_74) (fun _ h9 => h9) rfl (v := .ref (G.2.1 36)) rfl dX7_allWithBell_27 ?_
  obtain ⟨r10, hc9, hf⟩ := nb_b_e hf
  refine nb_ci hW (va_runV (As := []) (rest := []) ⟨hx, hb, hml, hown, hts⟩ (c_X0_wastedByAll l hinj hZo (N := N) hc9 ) (cwV 0 hts (xg_V tw3_119 tw3_120 tw3_121 tw1_5 tw3_122) rfl rfl rfl (by decide +kernel) ⟨Nat.le_of_ble_eq_true rfl, Nat.le_of_ble_eq_true rfl⟩) (nb_preV hK hZ hZo hW (k := 36) rfl rfl) rfl rfl hl.1 rfl (lv_room (Nat.le_of_ble_eq_true rfl)) dX7_allWithBell_30 ⟨Nat.zero_le _, Nat.zero_le _⟩) (fun H locs hW => ?_)
  exact nb_ri hx hb hr hlocks hK hZ hZo hW  hf dX7_allWithBell_33
def fX7_bell (N : Nat) (σ : nb_St) (a0 : Int32) : Option (Int32 × nb_St) :=
  nb_b (fX7_within N σ a0 (0 : Int32) (719 : Int32)) fun r2 =>
  (if r2 = 0 then
  some ((-1 : Int32), σ)
  else
  nb_b2 (fX7_allWithBell N σ a0) fun r5 σ6 =>
  some (r5, σ6))
def rmX7_bell : Room := { frames := 7, cells := 0, slots := 0, locals := 160 }
def vsX7_bell : List Cond := .code yX7_bell cX7_bell 2 (some .int) :: xT
set_option maxHeartbeats 4000000 in
set_option maxRecDepth 100000 in
theorem c_X7_bell (l : Launch) {G : nb_G} {tb : Nat → Nat} (hinj : nb_inj xc_sh G.2.1) (hZo : nb_Zok (nb_A xc_sh G.2.1) (xc_Z (nb_A xc_sh G.2.1) tb)) {N : Nat} {σ : nb_St} {a0 : Int32} {ro : Int32} {σo : nb_St} (hf : fX7_bell N σ a0 = some (ro, σo))  : Met l yX7_bell vsX7_bell rmX7_bell (nb_Pc G xc_sh (xc_Z (nb_A xc_sh G.2.1) tb) σ [.ref (G.2.1 0), .int a0]) (nb_Qi G xc_sh (xc_Z (nb_A xc_sh G.2.1) tb) ro σo) 0 0 (nb_A xc_sh G.2.1) := by
  refine Met.ofW (cc := cX7_bell) (maxL := 2) (ret := (some .int)) (by decide) rfl ?_
  intro p e s m args below meth c s₁ B hml hv
  obtain ⟨rfl, hP, hK, hZ⟩ := hv
  have hx := B.exec
  have hb := B.bytes
  have hr := B.returns
  have hts : ∀ w ∈ xT, w.before _ s = true := fun w h9 => atoms_spec (ws := vsX7_bell) B.pre w (List.mem_cons_of_mem _ h9)
  have hown : s.vm.findClass RX7 = some m.cls := findClass_of_methodNamed B.named
  have hlocks := B.notSynchronized
  have hW : nb_W G xc_sh s.heap σ s.heap [] := ⟨hP, va_S.rf⟩
  have hl := lv_entry ([.ref (G.2.1 0), .int a0]) (n := 2) (Nat.le_of_ble_eq_true rfl)
  rw [lg_entry_eq]
  generalize (lg_sl ([.ref (G.2.1 0), .int a0]) ++ List.replicate (2 - (lg_sl ([.ref (G.2.1 0), .int a0])).length) Slot.unset).toArray = ls at hl ⊢
  have hl : lv_has ls 2 [(0, .ref (G.2.1 0)), (1, .int a0)] := hl
  show W p l e rmX7_bell s m ([.ref (G.2.1 0), .int a0]).toArray below meth c s.heap [] 0 0 (MQ below (nb_Qi G xc_sh (xc_Z (nb_A xc_sh G.2.1) tb) ro σo) ([.ref (G.2.1 0), .int a0]).toArray s 0 0 (nb_A xc_sh G.2.1)) (F0 m 0 ls [])
  generalize hargs : ([.ref (G.2.1 0), .int a0] : List Value).toArray = args at hts ⊢
  unfold fX7_bell at hf
  obtain ⟨H, eH⟩ : ∃ H, H = s.heap := ⟨_, rfl⟩
  obtain ⟨locs, eL⟩ : ∃ L : List Loc, L = [] := ⟨_, rfl⟩
  have hW : nb_W G xc_sh s.heap σ H locs := by rw [eH, eL]; exact hW
  suffices hgo : W p l e rmX7_bell s m args below meth c H locs 0 0 (MQ below (nb_Qi G xc_sh (xc_Z (nb_A xc_sh G.2.1) tb) ro σo) args s 0 0 (nb_A xc_sh G.2.1)) (F0 m 0 ls []) by rw [eH, eL] at hgo; exact hgo
  clear eH eL
  refine lv_iload_n hx hb dX7_bell_0 rfl (lv_at hl 1 rfl) ?_
  refine lv_iconst (v := (0 : Int32)) hx hb dX7_bell_1 (by decide) ?_
  refine lv_sipush (v := (719 : Int32)) hx hb dX7_bell_2 (by decide) ?_
  obtain ⟨r2, hc1, hf⟩ := nb_b_e hf
  refine nb_ci hW (va_runS (As := [.int a0, .int (0 : Int32), .int (719 : Int32)]) (rest := []) ⟨hx, hb, hml, hown, hts⟩ (c_X7_within l hinj hZo (N := N) hc1 ) (va_cwS 3 hts (xg_S tw2_101 tw2_102 tw1_1 tw2_103) rfl rfl rfl (by decide +kernel) ⟨Nat.le_of_ble_eq_true rfl, Nat.le_of_ble_eq_true rfl⟩) (nb_preS hK hZ hZo hW) rfl rfl hl.1 rfl (lv_room (Nat.le_of_ble_eq_true rfl)) dX7_bell_5 ⟨Nat.zero_le _, Nat.zero_le _⟩) (fun H locs hW => ?_)
  refine lv_if_ne (tgt := 13) hx hb dX7_bell_8 (by decide) (fun c3 => ?_) (fun c3 => ?_)
  · rw [if_neg c3] at hf
    refine lv_aload_n hx hb dX7_bell_13 rfl (lv_at hl 0 rfl) ?_
    refine lv_iload_n hx hb dX7_bell_14 rfl (lv_at hl 1 rfl) ?_
    obtain ⟨r5, σ6, hc4, hf⟩ := nb_b2_e hf
    refine nb_ci hW (va_runV (As := [.int a0]) (rest := []) ⟨hx, hb, hml, hown, hts⟩ (c_X7_allWithBell l hinj hZo (N := N) hc4 ) (cwV 1 hts (xg_V tw3_162 tw3_164 tp1_11 tw1_1 tw3_165) rfl rfl rfl (by decide +kernel) ⟨Nat.le_of_ble_eq_true rfl, Nat.le_of_ble_eq_true rfl⟩) (nb_preV hK hZ hZo hW (k := 0) rfl rfl) rfl rfl hl.1 rfl (lv_room (Nat.le_of_ble_eq_true rfl)) dX7_bell_15 ⟨Nat.zero_le _, Nat.zero_le _⟩) (fun H locs hW => ?_)
    exact nb_ri hx hb hr hlocks hK hZ hZo hW  hf dX7_bell_18
  · rw [if_pos c3] at hf
    refine lv_iconst (v := (-1 : Int32)) hx hb dX7_bell_11 (by decide) ?_
    exact nb_ri hx hb hr hlocks hK hZ hZo hW  hf dX7_bell_12
def fX7_best (N : Nat) (σ : nb_St) (a0 : Int32) : Option (Int32 × nb_St) :=
  nb_b (fX7_within N σ a0 (0 : Int32) (1 : Int32)) fun r2 =>
  (if r2 = 0 then
  some ((-1 : Int32), σ)
  else
  nb_b2 (fX7_allWithBell N σ (0 : Int32)) fun r5 σ6 =>
  nb_lp4 (R := (Int32 × nb_St)) (fun ag11 (x7 : Int32) (x8 : Int32) (x9 : Int32) (σ10 : nb_St) =>
  (if (350 : Int32) < x9 then
  (if a0 = 0 then
  some (x8, σ10)
  else
  some (x7, σ10))
  else
  nb_b2 (fX7_allWithBell N σ10 x9) fun r16 σ17 =>
  nb_let (fun (x20 : Int32) (x21 : Int32) =>
  ag11 x20 x21 (x9 + 10) σ17) fun k18 =>
  (if x7 ≤ r16 then
  k18 x7 x8
  else
  k18 r16 x9))) N r5 (0 : Int32) (10 : Int32) σ6)
def rmX7_best : Room := { frames := 7, cells := 0, slots := 0, locals := 160 }
def vsX7_best : List Cond := .code yX7_best cX7_best 6 (some .int) :: xT
set_option maxHeartbeats 4000000 in
set_option maxRecDepth 100000 in
theorem c_X7_best (l : Launch) {G : nb_G} {tb : Nat → Nat} (hinj : nb_inj xc_sh G.2.1) (hZo : nb_Zok (nb_A xc_sh G.2.1) (xc_Z (nb_A xc_sh G.2.1) tb)) {N : Nat} {σ : nb_St} {a0 : Int32} {ro : Int32} {σo : nb_St} (hf : fX7_best N σ a0 = some (ro, σo))  : Met l yX7_best vsX7_best rmX7_best (nb_Pc G xc_sh (xc_Z (nb_A xc_sh G.2.1) tb) σ [.ref (G.2.1 0), .int a0]) (nb_Qi G xc_sh (xc_Z (nb_A xc_sh G.2.1) tb) ro σo) 0 0 (nb_A xc_sh G.2.1) := by
  refine Met.ofW (cc := cX7_best) (maxL := 6) (ret := (some .int)) (by decide) rfl ?_
  intro p e s m args below meth c s₁ B hml hv
  obtain ⟨rfl, hP, hK, hZ⟩ := hv
  have hx := B.exec
  have hb := B.bytes
  have hr := B.returns
  have hts : ∀ w ∈ xT, w.before _ s = true := fun w h9 => atoms_spec (ws := vsX7_best) B.pre w (List.mem_cons_of_mem _ h9)
  have hown : s.vm.findClass RX7 = some m.cls := findClass_of_methodNamed B.named
  have hlocks := B.notSynchronized
  have hW : nb_W G xc_sh s.heap σ s.heap [] := ⟨hP, va_S.rf⟩
  have hl := lv_entry ([.ref (G.2.1 0), .int a0]) (n := 6) (Nat.le_of_ble_eq_true rfl)
  rw [lg_entry_eq]
  generalize (lg_sl ([.ref (G.2.1 0), .int a0]) ++ List.replicate (6 - (lg_sl ([.ref (G.2.1 0), .int a0])).length) Slot.unset).toArray = ls at hl ⊢
  have hl : lv_has ls 6 [(0, .ref (G.2.1 0)), (1, .int a0)] := hl
  show W p l e rmX7_best s m ([.ref (G.2.1 0), .int a0]).toArray below meth c s.heap [] 0 0 (MQ below (nb_Qi G xc_sh (xc_Z (nb_A xc_sh G.2.1) tb) ro σo) ([.ref (G.2.1 0), .int a0]).toArray s 0 0 (nb_A xc_sh G.2.1)) (F0 m 0 ls [])
  generalize hargs : ([.ref (G.2.1 0), .int a0] : List Value).toArray = args at hts ⊢
  unfold fX7_best at hf
  obtain ⟨H, eH⟩ : ∃ H, H = s.heap := ⟨_, rfl⟩
  obtain ⟨locs, eL⟩ : ∃ L : List Loc, L = [] := ⟨_, rfl⟩
  have hW : nb_W G xc_sh s.heap σ H locs := by rw [eH, eL]; exact hW
  suffices hgo : W p l e rmX7_best s m args below meth c H locs 0 0 (MQ below (nb_Qi G xc_sh (xc_Z (nb_A xc_sh G.2.1) tb) ro σo) args s 0 0 (nb_A xc_sh G.2.1)) (F0 m 0 ls []) by rw [eH, eL] at hgo; exact hgo
  clear eH eL
  refine lv_iload_n hx hb dX7_best_0 rfl (lv_at hl 1 rfl) ?_
  refine lv_iconst (v := (0 : Int32)) hx hb dX7_best_1 (by decide) ?_
  refine lv_iconst (v := (1 : Int32)) hx hb dX7_best_2 (by decide) ?_
  obtain ⟨r2, hc1, hf⟩ := nb_b_e hf
  refine nb_ci hW (va_runS (As := [.int a0, .int (0 : Int32), .int (1 : Int32)]) (rest := []) ⟨hx, hb, hml, hown, hts⟩ (c_X7_within l hinj hZo (N := N) hc1 ) (va_cwS 3 hts (xg_S tw2_101 tw2_102 tw1_1 tw2_103) rfl rfl rfl (by decide +kernel) ⟨Nat.le_of_ble_eq_true rfl, Nat.le_of_ble_eq_true rfl⟩) (nb_preS hK hZ hZo hW) rfl rfl hl.1 rfl (lv_room (Nat.le_of_ble_eq_true rfl)) dX7_best_3 ⟨Nat.zero_le _, Nat.zero_le _⟩) (fun H locs hW => ?_)
  refine lv_if_ne (tgt := 11) hx hb dX7_best_6 (by decide) (fun c3 => ?_) (fun c3 => ?_)
  · rw [if_neg c3] at hf
    refine lv_aload_n hx hb dX7_best_11 rfl (lv_at hl 0 rfl) ?_
    refine lv_iconst (v := (0 : Int32)) hx hb dX7_best_12 (by decide) ?_
    obtain ⟨r5, σ6, hc4, hf⟩ := nb_b2_e hf
    refine nb_ci hW (va_runV (As := [.int (0 : Int32)]) (rest := []) ⟨hx, hb, hml, hown, hts⟩ (c_X7_allWithBell l hinj hZo (N := N) hc4 ) (cwV 1 hts (xg_V tw3_162 tw3_164 tp1_11 tw1_1 tw3_165) rfl rfl rfl (by decide +kernel) ⟨Nat.le_of_ble_eq_true rfl, Nat.le_of_ble_eq_true rfl⟩) (nb_preV hK hZ hZo hW (k := 0) rfl rfl) rfl rfl hl.1 rfl (lv_room (Nat.le_of_ble_eq_true rfl)) dX7_best_13 ⟨Nat.zero_le _, Nat.zero_le _⟩) (fun H locs hW => ?_)
    refine lv_istore_n (lv' := [(2, .int r5), (0, .ref (G.2.1 0)), (1, .int a0)]) hx hb dX7_best_16 rfl hl (by decide) rfl (fun ls hl => ?_)
    refine lv_iconst (v := (0 : Int32)) hx hb dX7_best_17 (by decide) ?_
    refine lv_istore_n (lv' := [(3, .int (0 : Int32)), (2, .int r5), (0, .ref (G.2.1 0)), (1, .int a0)]) hx hb dX7_best_18 rfl hl (by decide) rfl (fun ls hl => ?_)
    refine lv_bipush (v := (10 : Int32)) hx hb dX7_best_19 (by decide) ?_
    refine lv_istore (lv' := [(4, .int (10 : Int32)), (3, .int (0 : Int32)), (2, .int r5), (0, .ref (G.2.1 0)), (1, .int a0)]) hx hb dX7_best_21 hl (by decide) rfl (fun ls hl => ?_)
    refine nb_w4 (P := fun (x7 : Int32) (x8 : Int32) (x9 : Int32) (σ10 : nb_St) => ∀ (H : Heap) (locs : List Loc) (ls : Array Slot), nb_W G xc_sh s.heap σ10 H locs → lv_has ls 6 [(0, .ref (G.2.1 0)), (1, .int a0), (2, .int x7), (3, .int x8), (4, .int x9)] → W p l e rmX7_best s m args below meth c H locs 0 0 (MQ below (nb_Qi G xc_sh (xc_Z (nb_A xc_sh G.2.1) tb) ro σo) args s 0 0 (nb_A xc_sh G.2.1)) (F0 m 23 ls [])) ?_ N _ _ _ _ hf H locs ls hW (lv_sub hl [3, 4, 2, 1, 0] rfl)
    intro ag11 ih12 x7 x8 x9 σ10 hf H locs ls hW hl
    refine lv_iload hx hb dX7_best_23 (lv_at hl 4 rfl) ?_
    refine lv_sipush (v := (350 : Int32)) hx hb dX7_best_25 (by decide) ?_
    refine lv_icmp_gt (tgt := 57) hx hb dX7_best_28 (by decide) (fun c13 => ?_) (fun c13 => ?_)
    · rw [if_pos c13] at hf
      refine lv_iload_n hx hb dX7_best_57 rfl (lv_at hl 1 rfl) ?_
      refine lv_if_ne (tgt := 65) hx hb dX7_best_58 (by decide) (fun c14 => ?_) (fun c14 => ?_)
      · rw [if_neg c14] at hf
        refine lv_iload_n hx hb dX7_best_65 rfl (lv_at hl 2 rfl) ?_
        exact nb_ri hx hb hr hlocks hK hZ hZo hW  hf dX7_best_66
      · rw [if_pos c14] at hf
        refine lv_iload_n hx hb dX7_best_61 rfl (lv_at hl 3 rfl) ?_
        refine lv_goto (tgt := 66) hx hb dX7_best_62 (by decide) ?_
        exact nb_ri hx hb hr hlocks hK hZ hZo hW  hf dX7_best_66
    · rw [if_neg c13] at hf
      refine lv_aload_n hx hb dX7_best_31 rfl (lv_at hl 0 rfl) ?_
      refine lv_iload hx hb dX7_best_32 (lv_at hl 4 rfl) ?_
      obtain ⟨r16, σ17, hc15, hf⟩ := nb_b2_e hf
      refine nb_ci hW (va_runV (As := [.int x9]) (rest := []) ⟨hx, hb, hml, hown, hts⟩ (c_X7_allWithBell l hinj hZo (N := N) hc15 ) (cwV 1 hts (xg_V tw3_162 tw3_164 tp1_11 tw1_1 tw3_165) rfl rfl rfl (by decide +kernel) ⟨Nat.le_of_ble_eq_true rfl, Nat.le_of_ble_eq_true rfl⟩) (nb_preV hK hZ hZo hW (k := 0) rfl rfl) rfl rfl hl.1 rfl (lv_room (Nat.le_of_ble_eq_true rfl)) dX7_best_34 ⟨Nat.zero_le _, Nat.zero_le _⟩) (fun H locs hW => ?_)
      refine lv_istore (lv' := [(5, .int r16), (0, .ref (G.2.1 0)), (1, .int a0), (2, .int x7), (3, .int x8), (4, .int x9)]) hx hb dX7_best_37 hl (by decide) rfl (fun ls hl => ?_)
      refine lv_iload hx hb dX7_best_39 (lv_at hl 0 rfl) ?_
      refine lv_iload_n hx hb dX7_best_41 rfl (lv_at hl 3 rfl) ?_
      obtain ⟨k18, ek18, hf⟩ := nb_let_e hf
      have w19 : ∀ (x20 : Int32) (x21 : Int32) (H : Heap) (locs : List Loc) (ls : Array Slot), k18 x20 x21 = some (ro, σo) → nb_W G xc_sh s.heap σ17 H locs → lv_has ls 6 [(0, .ref (G.2.1 0)), (1, .int a0), (2, .int x20), (3, .int x21), (4, .int x9)] → W p l e rmX7_best s m args below meth c H locs 0 0 (MQ below (nb_Qi G xc_sh (xc_Z (nb_A xc_sh G.2.1) tb) ro σo) args s 0 0 (nb_A xc_sh G.2.1)) (F0 m 51 ls []) := by
        intro x20 x21 H locs ls hf hW hl
        have hf := (congrFun (congrFun ek18 x20) x21).symm.trans hf
        refine lv_iinc (v := (x9 + 10)) (lv' := [(4, .int (x9 + 10)), (0, .ref (G.2.1 0)), (1, .int a0), (2, .int x20), (3, .int x21)]) hx hb dX7_best_51 hl (k := 4) rfl rfl (by decide) rfl (fun ls hl => ?_)
        refine lv_goto (tgt := 23) hx hb dX7_best_54 (by decide) ?_
        exact ih12 _ _ _ _ hf _ _ _ hW (lv_sub hl [1, 2, 3, 4, 0] rfl)
      clear ek18
      refine lv_icmp_ge (tgt := 51) hx hb dX7_best_42 (by decide) (fun c22 => ?_) (fun c22 => ?_)
      · rw [if_pos c22] at hf
        exact w19 _ _ _ _ _ hf hW (lv_sub hl [1, 2, 3, 4, 5] rfl)
      · rw [if_neg c22] at hf
        refine lv_iload hx hb dX7_best_45 (lv_at hl 0 rfl) ?_
        refine lv_istore_n (lv' := [(2, .int r16), (5, .int r16), (0, .ref (G.2.1 0)), (1, .int a0), (3, .int x8), (4, .int x9)]) hx hb dX7_best_47 rfl hl (by decide) rfl (fun ls hl => ?_)
        refine lv_iload hx hb dX7_best_48 (lv_at hl 5 rfl) ?_
        refine lv_istore_n (lv' := [(3, .int x9), (2, .int r16), (5, .int r16), (0, .ref (G.2.1 0)), (1, .int a0), (4, .int x9)]) hx hb dX7_best_50 rfl hl (by decide) rfl (fun ls hl => ?_)
        exact w19 _ _ _ _ _ hf hW (lv_sub hl [3, 4, 1, 0, 5] rfl)
  · rw [if_pos c3] at hf
    refine lv_iconst (v := (-1 : Int32)) hx hb dX7_best_9 (by decide) ?_
    exact nb_ri hx hb hr hlocks hK hZ hZo hW  hf dX7_best_10
def fX7_given (N : Nat) (σ : nb_St) (a0 : Int32) : Option (Int32 × nb_St) :=
  nb_let (nb_ix (σ 0 3)) fun p1 =>
  nb_g (xc_pty p1) (
  nb_b (fX7_within N σ a0 (-1 : Int32) ((σ p1 9) - (1 : Int32))) fun r4 =>
  (if r4 = 0 then
  some ((-1 : Int32), σ)
  else
  nb_let (nb_ix (σ 0 3)) fun p6 =>
  nb_g (xc_pty p6) (
  nb_b (fX2_reckon N σ p6) fun σ9 =>
  (if a0 = (-1 : Int32) then
  some ((σ9 61 1), σ9)
  else
  nb_b (fX2_minuteOf N σ9 a0) fun r12 =>
  some (r12, σ9)))))
def rmX7_given : Room := { frames := 7, cells := 0, slots := 0, locals := 164 }
def vsX7_given : List Cond := .code yX7_given cX7_given 2 (some .int) :: xT
set_option maxHeartbeats 4000000 in
set_option maxRecDepth 100000 in
theorem c_X7_given (l : Launch) {G : nb_G} {tb : Nat → Nat} (hinj : nb_inj xc_sh G.2.1) (hZo : nb_Zok (nb_A xc_sh G.2.1) (xc_Z (nb_A xc_sh G.2.1) tb)) {N : Nat} {σ : nb_St} {a0 : Int32} {ro : Int32} {σo : nb_St} (hf : fX7_given N σ a0 = some (ro, σo))  : Met l yX7_given vsX7_given rmX7_given (nb_Pc G xc_sh (xc_Z (nb_A xc_sh G.2.1) tb) σ [.ref (G.2.1 0), .int a0]) (nb_Qi G xc_sh (xc_Z (nb_A xc_sh G.2.1) tb) ro σo) 0 0 (nb_A xc_sh G.2.1) := by
  refine Met.ofW (cc := cX7_given) (maxL := 2) (ret := (some .int)) (by decide) rfl ?_
  intro p e s m args below meth c s₁ B hml hv
  obtain ⟨rfl, hP, hK, hZ⟩ := hv
  have hx := B.exec
  have hb := B.bytes
  have hr := B.returns
  have hts : ∀ w ∈ xT, w.before _ s = true := fun w h9 => atoms_spec (ws := vsX7_given) B.pre w (List.mem_cons_of_mem _ h9)
  have hown : s.vm.findClass RX7 = some m.cls := findClass_of_methodNamed B.named
  have hlocks := B.notSynchronized
  have hW : nb_W G xc_sh s.heap σ s.heap [] := ⟨hP, va_S.rf⟩
  have hl := lv_entry ([.ref (G.2.1 0), .int a0]) (n := 2) (Nat.le_of_ble_eq_true rfl)
  rw [lg_entry_eq]
  generalize (lg_sl ([.ref (G.2.1 0), .int a0]) ++ List.replicate (2 - (lg_sl ([.ref (G.2.1 0), .int a0])).length) Slot.unset).toArray = ls at hl ⊢
  have hl : lv_has ls 2 [(0, .ref (G.2.1 0)), (1, .int a0)] := hl
  show W p l e rmX7_given s m ([.ref (G.2.1 0), .int a0]).toArray below meth c s.heap [] 0 0 (MQ below (nb_Qi G xc_sh (xc_Z (nb_A xc_sh G.2.1) tb) ro σo) ([.ref (G.2.1 0), .int a0]).toArray s 0 0 (nb_A xc_sh G.2.1)) (F0 m 0 ls [])
  generalize hargs : ([.ref (G.2.1 0), .int a0] : List Value).toArray = args at hts ⊢
  unfold fX7_given at hf
  obtain ⟨H, eH⟩ : ∃ H, H = s.heap := ⟨_, rfl⟩
  obtain ⟨locs, eL⟩ : ∃ L : List Loc, L = [] := ⟨_, rfl⟩
  have hW : nb_W G xc_sh s.heap σ H locs := by rw [eH, eL]; exact hW
  suffices hgo : W p l e rmX7_given s m args below meth c H locs 0 0 (MQ below (nb_Qi G xc_sh (xc_Z (nb_A xc_sh G.2.1) tb) ro σo) args s 0 0 (nb_A xc_sh G.2.1)) (F0 m 0 ls []) by rw [eH, eL] at hgo; exact hgo
  clear eH eL
  refine lv_iload_n hx hb dX7_given_0 rfl (lv_at hl 1 rfl) ?_
  refine lv_iconst (v := (-1 : Int32)) hx hb dX7_given_1 (by decide) ?_
  refine lv_aload_n hx hb dX7_given_2 rfl (lv_at hl 0 rfl) ?_
  obtain ⟨p1, ep1, hf⟩ := nb_let_e hf
  obtain ⟨hp2, hf⟩ := nb_g_e hf
  refine nb_get (C := RX7) (T := TX7) (N := 9) hx hb hts inT_X7 hown hK hW 0 rfl rfl 3 (by decide) (hts _ tw2_72) (fun _ h9 => h9) rfl (v := .ref (G.2.1 p1)) (by rw [ep1]; rfl) dX7_given_3 ?_
  refine nb_getN (C := RX4) (T := TX4) (N := 18) (host := "NobodyFirst") hx hb hts inT_X4 hown hK hW p1 (sx_pty_0 hp2) rfl 9 (by decide) (va_Nw.use rfl (hZ.1 ("NobodyFirst", 143, "NobodyFirst$Party", "offers", "I", "NobodyFirst") (by decide +kernel))) (fun _ h9 => h9) rfl (v := .int (σ p1 9)) rfl dX7_given_6 ?_
  refine lv_iconst (v := (1 : Int32)) hx hb dX7_given_9 (by decide) ?_
  refine lv_isub hx hb dX7_given_10 ?_
  obtain ⟨r4, hc3, hf⟩ := nb_b_e hf
  refine nb_ci hW (va_runS (As := [.int a0, .int (-1 : Int32), .int ((σ p1 9) - (1 : Int32))]) (rest := []) ⟨hx, hb, hml, hown, hts⟩ (c_X7_within l hinj hZo (N := N) hc3 ) (va_cwS 3 hts (xg_S tw2_101 tw2_102 tw1_1 tw2_103) rfl rfl rfl (by decide +kernel) ⟨Nat.le_of_ble_eq_true rfl, Nat.le_of_ble_eq_true rfl⟩) (nb_preS hK hZ hZo hW) rfl rfl hl.1 rfl (lv_room (Nat.le_of_ble_eq_true rfl)) dX7_given_11 ⟨Nat.zero_le _, Nat.zero_le _⟩) (fun H locs hW => ?_)
  refine lv_if_ne (tgt := 19) hx hb dX7_given_14 (by decide) (fun c5 => ?_) (fun c5 => ?_)
  · rw [if_neg c5] at hf
    refine lv_aload_n hx hb dX7_given_19 rfl (lv_at hl 0 rfl) ?_
    refine nb_get (C := RX7) (T := TX7) (N := 9) hx hb hts inT_X7 hown hK hW 0 rfl rfl 6 (by decide) (hts _ tw2_75) (fun _ h9 => h9) rfl (v := .ref (G.2.1 61)) rfl dX7_given_20 ?_
    refine lv_aload_n hx hb dX7_given_23 rfl (lv_at hl 0 rfl) ?_
    obtain ⟨p6, ep6, hf⟩ := nb_let_e hf
    obtain ⟨hp7, hf⟩ := nb_g_e hf
    refine nb_get (C := RX7) (T := TX7) (N := 9) hx hb hts inT_X7 hown hK hW 0 rfl rfl 3 (by decide) (hts _ tw2_72) (fun _ h9 => h9) rfl (v := .ref (G.2.1 p6)) (by rw [ep6]; rfl) dX7_given_24 ?_
    refine lv_aload_n hx hb dX7_given_27 rfl (lv_at hl 0 rfl) ?_
    refine nb_get (C := RX7) (T := TX7) (N := 9) hx hb hts inT_X7 hown hK hW 0 rfl rfl 5 (by decide) (hts _ tw2_74) (fun _ h9 => h9) rfl (v := .ref (G.2.1 36)) rfl dX7_given_28 ?_
    obtain ⟨σ9, hc8, hf⟩ := nb_b_e hf
    refine nb_cv hW (va_runV (As := [.ref (G.2.1 p6), .ref (G.2.1 36)]) (rest := []) ⟨hx, hb, hml, hown, hts⟩ (c_X2_reckon l hinj hZo (N := N) hc8 hp7) (cwV 2 hts (xg_V tw3_178 tw3_179 tw3_180 tw1_6 tw3_181) rfl rfl rfl (by decide +kernel) ⟨Nat.le_of_ble_eq_true rfl, Nat.le_of_ble_eq_true rfl⟩) (nb_preV hK hZ hZo hW (k := 61) rfl rfl) rfl rfl hl.1 rfl (lv_room (Nat.le_of_ble_eq_true rfl)) dX7_given_31 ⟨Nat.zero_le _, Nat.zero_le _⟩) (fun H locs hW => ?_)
    refine lv_iload_n hx hb dX7_given_34 rfl (lv_at hl 1 rfl) ?_
    refine lv_iconst (v := (-1 : Int32)) hx hb dX7_given_35 (by decide) ?_
    refine lv_icmp_ne (tgt := 49) hx hb dX7_given_36 (by decide) (fun c10 => ?_) (fun c10 => ?_)
    · rw [if_neg c10] at hf
      refine lv_aload_n hx hb dX7_given_49 rfl (lv_at hl 0 rfl) ?_
      refine nb_get (C := RX7) (T := TX7) (N := 9) hx hb hts inT_X7 hown hK hW 0 rfl rfl 6 (by decide) (hts _ tw2_75) (fun _ h9 => h9) rfl (v := .ref (G.2.1 61)) rfl dX7_given_50 ?_
      refine lv_iload_n hx hb dX7_given_53 rfl (lv_at hl 1 rfl) ?_
      obtain ⟨r12, hc11, hf⟩ := nb_b_e hf
      refine nb_ci hW (va_runV (As := [.int a0]) (rest := []) ⟨hx, hb, hml, hown, hts⟩ (c_X2_minuteOf l hinj hZo (N := N) hc11 ) (cwV 1 hts (xg_V tw3_202 tw3_203 tw3_204 tw1_6 tw3_205) rfl rfl rfl (by decide +kernel) ⟨Nat.le_of_ble_eq_true rfl, Nat.le_of_ble_eq_true rfl⟩) (nb_preV hK hZ hZo hW (k := 61) rfl rfl) rfl rfl hl.1 rfl (lv_room (Nat.le_of_ble_eq_true rfl)) dX7_given_54 ⟨Nat.zero_le _, Nat.zero_le _⟩) (fun H locs hW => ?_)
      exact nb_ri hx hb hr hlocks hK hZ hZo hW  hf dX7_given_57
    · rw [if_pos c10] at hf
      refine lv_aload_n hx hb dX7_given_39 rfl (lv_at hl 0 rfl) ?_
      refine nb_get (C := RX7) (T := TX7) (N := 9) hx hb hts inT_X7 hown hK hW 0 rfl rfl 6 (by decide) (hts _ tw2_75) (fun _ h9 => h9) rfl (v := .ref (G.2.1 61)) rfl dX7_given_40 ?_
      refine nb_getN (C := RX2) (T := TX2) (N := 4) (host := "NobodyFirst") hx hb hts inT_X2 hown hK hW 61 rfl rfl 1 (by decide) (va_Nw.use rfl (hZ.1 ("NobodyFirst", 150, "NobodyFirst$Giving", "least", "I", "NobodyFirst") (by decide +kernel))) (fun _ h9 => h9) rfl (v := .int (σ9 61 1)) rfl dX7_given_43 ?_
      refine lv_goto (tgt := 57) hx hb dX7_given_46 (by decide) ?_
      exact nb_ri hx hb hr hlocks hK hZ hZo hW  hf dX7_given_57
  · rw [if_pos c5] at hf
    refine lv_iconst (v := (-1 : Int32)) hx hb dX7_given_17 (by decide) ?_
    exact nb_ri hx hb hr hlocks hK hZ hZo hW  hf dX7_given_18
def fX7_cost (N : Nat) (σ : nb_St) (a0 : Int32) (a1 : Int32) : Option (Int32 × nb_St) :=
  nb_b (fX7_within N σ a0 (0 : Int32) ((σ 64 1) - (1 : Int32))) fun r2 =>
  nb_let (fun (_u : Unit) =>
  some ((-1 : Int32), σ)) fun k3 =>
  (if r2 = 0 then
  k3 ()
  else
  nb_b (fX7_within N σ a1 (0 : Int32) (99999 : Int32)) fun r7 =>
  (if r7 = 0 then
  k3 ()
  else
  nb_b2 (fX1_chooseByFigures N σ a1) fun r10 σ11 =>
  (if r10 = 0 then
  some ((-1 : Int32), σ11)
  else
  nb_b (fX1_costOf N σ11 a0) fun r14 =>
  some (r14, σ11))))
def rmX7_cost : Room := { frames := 2, cells := 0, slots := 0, locals := 44 }
def vsX7_cost : List Cond := .code yX7_cost cX7_cost 3 (some .int) :: xT
set_option maxHeartbeats 4000000 in
set_option maxRecDepth 100000 in
theorem c_X7_cost (l : Launch) {G : nb_G} {tb : Nat → Nat} (hinj : nb_inj xc_sh G.2.1) (hZo : nb_Zok (nb_A xc_sh G.2.1) (xc_Z (nb_A xc_sh G.2.1) tb)) {N : Nat} {σ : nb_St} {a0 : Int32} {a1 : Int32} {ro : Int32} {σo : nb_St} (hf : fX7_cost N σ a0 a1 = some (ro, σo))  : Met l yX7_cost vsX7_cost rmX7_cost (nb_Pc G xc_sh (xc_Z (nb_A xc_sh G.2.1) tb) σ [.ref (G.2.1 0), .int a0, .int a1]) (nb_Qi G xc_sh (xc_Z (nb_A xc_sh G.2.1) tb) ro σo) 0 0 (nb_A xc_sh G.2.1) := by
  refine Met.ofW (cc := cX7_cost) (maxL := 3) (ret := (some .int)) (by decide) rfl ?_
  intro p e s m args below meth c s₁ B hml hv
  obtain ⟨rfl, hP, hK, hZ⟩ := hv
  have hx := B.exec
  have hb := B.bytes
  have hr := B.returns
  have hts : ∀ w ∈ xT, w.before _ s = true := fun w h9 => atoms_spec (ws := vsX7_cost) B.pre w (List.mem_cons_of_mem _ h9)
  have hown : s.vm.findClass RX7 = some m.cls := findClass_of_methodNamed B.named
  have hlocks := B.notSynchronized
  have hW : nb_W G xc_sh s.heap σ s.heap [] := ⟨hP, va_S.rf⟩
  have hl := lv_entry ([.ref (G.2.1 0), .int a0, .int a1]) (n := 3) (Nat.le_of_ble_eq_true rfl)
  rw [lg_entry_eq]
  generalize (lg_sl ([.ref (G.2.1 0), .int a0, .int a1]) ++ List.replicate (3 - (lg_sl ([.ref (G.2.1 0), .int a0, .int a1])).length) Slot.unset).toArray = ls at hl ⊢
  have hl : lv_has ls 3 [(0, .ref (G.2.1 0)), (1, .int a0), (2, .int a1)] := hl
  show W p l e rmX7_cost s m ([.ref (G.2.1 0), .int a0, .int a1]).toArray below meth c s.heap [] 0 0 (MQ below (nb_Qi G xc_sh (xc_Z (nb_A xc_sh G.2.1) tb) ro σo) ([.ref (G.2.1 0), .int a0, .int a1]).toArray s 0 0 (nb_A xc_sh G.2.1)) (F0 m 0 ls [])
  generalize hargs : ([.ref (G.2.1 0), .int a0, .int a1] : List Value).toArray = args at hts ⊢
  unfold fX7_cost at hf
  obtain ⟨H, eH⟩ : ∃ H, H = s.heap := ⟨_, rfl⟩
  obtain ⟨locs, eL⟩ : ∃ L : List Loc, L = [] := ⟨_, rfl⟩
  have hW : nb_W G xc_sh s.heap σ H locs := by rw [eH, eL]; exact hW
  suffices hgo : W p l e rmX7_cost s m args below meth c H locs 0 0 (MQ below (nb_Qi G xc_sh (xc_Z (nb_A xc_sh G.2.1) tb) ro σo) args s 0 0 (nb_A xc_sh G.2.1)) (F0 m 0 ls []) by rw [eH, eL] at hgo; exact hgo
  clear eH eL
  refine lv_iload_n hx hb dX7_cost_0 rfl (lv_at hl 1 rfl) ?_
  refine lv_iconst (v := (0 : Int32)) hx hb dX7_cost_1 (by decide) ?_
  refine lv_aload_n hx hb dX7_cost_2 rfl (lv_at hl 0 rfl) ?_
  refine nb_get (C := RX7) (T := TX7) (N := 9) hx hb hts inT_X7 hown hK hW 0 rfl rfl 7 (by decide) (hts _ tw2_76) (fun _ h9 => h9) rfl (v := .ref (G.2.1 64)) rfl dX7_cost_3 ?_
  refine nb_getN (C := RX1) (T := TX1) (N := 9) (host := "NobodyFirst") hx hb hts inT_X1 hown hK hW 64 rfl rfl 1 (by decide) (va_Nw.use rfl (hZ.1 ("NobodyFirst", 156, "NobodyFirst$Game", "pairs", "I", "NobodyFirst") (by decide +kernel))) (fun _ h9 => h9) rfl (v := .int (σ 64 1)) rfl dX7_cost_6 ?_
  refine lv_iconst (v := (1 : Int32)) hx hb dX7_cost_9 (by decide) ?_
  refine lv_isub hx hb dX7_cost_10 ?_
  obtain ⟨r2, hc1, hf⟩ := nb_b_e hf
  refine nb_ci hW (va_runS (As := [.int a0, .int (0 : Int32), .int ((σ 64 1) - (1 : Int32))]) (rest := []) ⟨hx, hb, hml, hown, hts⟩ (c_X7_within l hinj hZo (N := N) hc1 ) (va_cwS 3 hts (xg_S tw2_101 tw2_102 tw1_1 tw2_103) rfl rfl rfl (by decide +kernel) ⟨Nat.le_of_ble_eq_true rfl, Nat.le_of_ble_eq_true rfl⟩) (nb_preS hK hZ hZo hW) rfl rfl hl.1 rfl (lv_room (Nat.le_of_ble_eq_true rfl)) dX7_cost_11 ⟨Nat.zero_le _, Nat.zero_le _⟩) (fun H locs hW => ?_)
  obtain ⟨k3, ek3, hf⟩ := nb_let_e hf
  have w4 : ∀ (_u : Unit) (H : Heap) (locs : List Loc) (ls : Array Slot), k3 _u = some (ro, σo) → nb_W G xc_sh s.heap σ H locs → lv_has ls 3 [] → W p l e rmX7_cost s m args below meth c H locs 0 0 (MQ below (nb_Qi G xc_sh (xc_Z (nb_A xc_sh G.2.1) tb) ro σo) args s 0 0 (nb_A xc_sh G.2.1)) (F0 m 27 ls []) := by
    intro _u H locs ls hf hW hl
    have hf := (congrFun ek3 _u).symm.trans hf
    refine lv_iconst (v := (-1 : Int32)) hx hb dX7_cost_27 (by decide) ?_
    exact nb_ri hx hb hr hlocks hK hZ hZo hW  hf dX7_cost_28
  clear ek3
  refine lv_if_eq (tgt := 27) hx hb dX7_cost_14 (by decide) (fun c5 => ?_) (fun c5 => ?_)
  · rw [if_pos c5] at hf
    exact w4 ()  _ _ _ hf hW (lv_sub hl [] rfl)
  · rw [if_neg c5] at hf
    refine lv_iload_n hx hb dX7_cost_17 rfl (lv_at hl 2 rfl) ?_
    refine lv_iconst (v := (0 : Int32)) hx hb dX7_cost_18 (by decide) ?_
    refine lv_ldc (own := RX7) (v := (99999 : Int32)) hx hb hown (hts _ tw3_210) dX7_cost_19 ?_
    obtain ⟨r7, hc6, hf⟩ := nb_b_e hf
    refine nb_ci hW (va_runS (As := [.int a1, .int (0 : Int32), .int (99999 : Int32)]) (rest := []) ⟨hx, hb, hml, hown, hts⟩ (c_X7_within l hinj hZo (N := N) hc6 ) (va_cwS 3 hts (xg_S tw2_101 tw2_102 tw1_1 tw2_103) rfl rfl rfl (by decide +kernel) ⟨Nat.le_of_ble_eq_true rfl, Nat.le_of_ble_eq_true rfl⟩) (nb_preS hK hZ hZo hW) rfl rfl hl.1 rfl (lv_room (Nat.le_of_ble_eq_true rfl)) dX7_cost_21 ⟨Nat.zero_le _, Nat.zero_le _⟩) (fun H locs hW => ?_)
    refine lv_if_ne (tgt := 29) hx hb dX7_cost_24 (by decide) (fun c8 => ?_) (fun c8 => ?_)
    · rw [if_neg c8] at hf
      refine lv_aload_n hx hb dX7_cost_29 rfl (lv_at hl 0 rfl) ?_
      refine nb_get (C := RX7) (T := TX7) (N := 9) hx hb hts inT_X7 hown hK hW 0 rfl rfl 7 (by decide) (hts _ tw2_76) (fun _ h9 => h9) rfl (v := .ref (G.2.1 64)) rfl dX7_cost_30 ?_
      refine lv_iload_n hx hb dX7_cost_33 rfl (lv_at hl 2 rfl) ?_
      obtain ⟨r10, σ11, hc9, hf⟩ := nb_b2_e hf
      refine nb_ci hW (va_runV (As := [.int a1]) (rest := []) ⟨hx, hb, hml, hown, hts⟩ (c_X1_chooseByFigures l hinj hZo (N := N) hc9 ) (cwV 1 hts (xg_V tw3_211 tw3_212 tw3_213 tw1_7 tw3_214) rfl rfl rfl (by decide +kernel) ⟨Nat.le_of_ble_eq_true rfl, Nat.le_of_ble_eq_true rfl⟩) (nb_preV hK hZ hZo hW (k := 64) rfl rfl) rfl rfl hl.1 rfl (lv_room (Nat.le_of_ble_eq_true rfl)) dX7_cost_34 ⟨Nat.zero_le _, Nat.zero_le _⟩) (fun H locs hW => ?_)
      refine lv_if_ne (tgt := 42) hx hb dX7_cost_37 (by decide) (fun c12 => ?_) (fun c12 => ?_)
      · rw [if_neg c12] at hf
        refine lv_aload_n hx hb dX7_cost_42 rfl (lv_at hl 0 rfl) ?_
        refine nb_get (C := RX7) (T := TX7) (N := 9) hx hb hts inT_X7 hown hK hW 0 rfl rfl 7 (by decide) (hts _ tw2_76) (fun _ h9 => h9) rfl (v := .ref (G.2.1 64)) rfl dX7_cost_43 ?_
        refine lv_iload_n hx hb dX7_cost_46 rfl (lv_at hl 1 rfl) ?_
        obtain ⟨r14, hc13, hf⟩ := nb_b_e hf
        refine nb_ci hW (va_runV (As := [.int a0]) (rest := []) ⟨hx, hb, hml, hown, hts⟩ (c_X1_costOf l hinj hZo (N := N) hc13 ) (cwV 1 hts (xg_V tw3_215 tw3_216 tw3_217 tw1_7 tw3_218) rfl rfl rfl (by decide +kernel) ⟨Nat.le_of_ble_eq_true rfl, Nat.le_of_ble_eq_true rfl⟩) (nb_preV hK hZ hZo hW (k := 64) rfl rfl) rfl rfl hl.1 rfl (lv_room (Nat.le_of_ble_eq_true rfl)) dX7_cost_47 ⟨Nat.zero_le _, Nat.zero_le _⟩) (fun H locs hW => ?_)
        exact nb_ri hx hb hr hlocks hK hZ hZo hW  hf dX7_cost_50
      · rw [if_pos c12] at hf
        refine lv_iconst (v := (-1 : Int32)) hx hb dX7_cost_40 (by decide) ?_
        exact nb_ri hx hb hr hlocks hK hZ hZo hW  hf dX7_cost_41
    · rw [if_pos c8] at hf
      exact w4 ()  _ _ _ hf hW (lv_sub hl [] rfl)
def fX7_rests (N : Nat) (σ : nb_St) (a0 : Int32) : Option (Int32 × nb_St) :=
  nb_b (fX7_within N σ a0 (-1 : Int32) ((σ 64 1) - (1 : Int32))) fun r2 =>
  (if r2 = 0 then
  some ((-1 : Int32), σ)
  else
  nb_b (fX1_reckon N σ) fun σ5 =>
  (if a0 = (-1 : Int32) then
  some ((σ5 64 6), σ5)
  else
  (if (σ5 64 6) = 0 then
  some ((-4 : Int32), σ5)
  else
  nb_g (nb_in a0 4) (
  some ((σ5 68 (nb_ix a0)), σ5)))))
def rmX7_rests : Room := { frames := 6, cells := 0, slots := 0, locals := 134 }
def vsX7_rests : List Cond := .code yX7_rests cX7_rests 2 (some .int) :: xT
set_option maxHeartbeats 4000000 in
set_option maxRecDepth 100000 in
theorem c_X7_rests (l : Launch) {G : nb_G} {tb : Nat → Nat} (hinj : nb_inj xc_sh G.2.1) (hZo : nb_Zok (nb_A xc_sh G.2.1) (xc_Z (nb_A xc_sh G.2.1) tb)) {N : Nat} {σ : nb_St} {a0 : Int32} {ro : Int32} {σo : nb_St} (hf : fX7_rests N σ a0 = some (ro, σo))  : Met l yX7_rests vsX7_rests rmX7_rests (nb_Pc G xc_sh (xc_Z (nb_A xc_sh G.2.1) tb) σ [.ref (G.2.1 0), .int a0]) (nb_Qi G xc_sh (xc_Z (nb_A xc_sh G.2.1) tb) ro σo) 0 0 (nb_A xc_sh G.2.1) := by
  refine Met.ofW (cc := cX7_rests) (maxL := 2) (ret := (some .int)) (by decide) rfl ?_
  intro p e s m args below meth c s₁ B hml hv
  obtain ⟨rfl, hP, hK, hZ⟩ := hv
  have hx := B.exec
  have hb := B.bytes
  have hr := B.returns
  have hts : ∀ w ∈ xT, w.before _ s = true := fun w h9 => atoms_spec (ws := vsX7_rests) B.pre w (List.mem_cons_of_mem _ h9)
  have hown : s.vm.findClass RX7 = some m.cls := findClass_of_methodNamed B.named
  have hlocks := B.notSynchronized
  have hW : nb_W G xc_sh s.heap σ s.heap [] := ⟨hP, va_S.rf⟩
  have hl := lv_entry ([.ref (G.2.1 0), .int a0]) (n := 2) (Nat.le_of_ble_eq_true rfl)
  rw [lg_entry_eq]
  generalize (lg_sl ([.ref (G.2.1 0), .int a0]) ++ List.replicate (2 - (lg_sl ([.ref (G.2.1 0), .int a0])).length) Slot.unset).toArray = ls at hl ⊢
  have hl : lv_has ls 2 [(0, .ref (G.2.1 0)), (1, .int a0)] := hl
  show W p l e rmX7_rests s m ([.ref (G.2.1 0), .int a0]).toArray below meth c s.heap [] 0 0 (MQ below (nb_Qi G xc_sh (xc_Z (nb_A xc_sh G.2.1) tb) ro σo) ([.ref (G.2.1 0), .int a0]).toArray s 0 0 (nb_A xc_sh G.2.1)) (F0 m 0 ls [])
  generalize hargs : ([.ref (G.2.1 0), .int a0] : List Value).toArray = args at hts ⊢
  unfold fX7_rests at hf
  obtain ⟨H, eH⟩ : ∃ H, H = s.heap := ⟨_, rfl⟩
  obtain ⟨locs, eL⟩ : ∃ L : List Loc, L = [] := ⟨_, rfl⟩
  have hW : nb_W G xc_sh s.heap σ H locs := by rw [eH, eL]; exact hW
  suffices hgo : W p l e rmX7_rests s m args below meth c H locs 0 0 (MQ below (nb_Qi G xc_sh (xc_Z (nb_A xc_sh G.2.1) tb) ro σo) args s 0 0 (nb_A xc_sh G.2.1)) (F0 m 0 ls []) by rw [eH, eL] at hgo; exact hgo
  clear eH eL
  refine lv_iload_n hx hb dX7_rests_0 rfl (lv_at hl 1 rfl) ?_
  refine lv_iconst (v := (-1 : Int32)) hx hb dX7_rests_1 (by decide) ?_
  refine lv_aload_n hx hb dX7_rests_2 rfl (lv_at hl 0 rfl) ?_
  refine nb_get (C := RX7) (T := TX7) (N := 9) hx hb hts inT_X7 hown hK hW 0 rfl rfl 7 (by decide) (hts _ tw2_76) (fun _ h9 => h9) rfl (v := .ref (G.2.1 64)) rfl dX7_rests_3 ?_
  refine nb_getN (C := RX1) (T := TX1) (N := 9) (host := "NobodyFirst") hx hb hts inT_X1 hown hK hW 64 rfl rfl 1 (by decide) (va_Nw.use rfl (hZ.1 ("NobodyFirst", 156, "NobodyFirst$Game", "pairs", "I", "NobodyFirst") (by decide +kernel))) (fun _ h9 => h9) rfl (v := .int (σ 64 1)) rfl dX7_rests_6 ?_
  refine lv_iconst (v := (1 : Int32)) hx hb dX7_rests_9 (by decide) ?_
  refine lv_isub hx hb dX7_rests_10 ?_
  obtain ⟨r2, hc1, hf⟩ := nb_b_e hf
  refine nb_ci hW (va_runS (As := [.int a0, .int (-1 : Int32), .int ((σ 64 1) - (1 : Int32))]) (rest := []) ⟨hx, hb, hml, hown, hts⟩ (c_X7_within l hinj hZo (N := N) hc1 ) (va_cwS 3 hts (xg_S tw2_101 tw2_102 tw1_1 tw2_103) rfl rfl rfl (by decide +kernel) ⟨Nat.le_of_ble_eq_true rfl, Nat.le_of_ble_eq_true rfl⟩) (nb_preS hK hZ hZo hW) rfl rfl hl.1 rfl (lv_room (Nat.le_of_ble_eq_true rfl)) dX7_rests_11 ⟨Nat.zero_le _, Nat.zero_le _⟩) (fun H locs hW => ?_)
  refine lv_if_ne (tgt := 19) hx hb dX7_rests_14 (by decide) (fun c3 => ?_) (fun c3 => ?_)
  · rw [if_neg c3] at hf
    refine lv_aload_n hx hb dX7_rests_19 rfl (lv_at hl 0 rfl) ?_
    refine nb_get (C := RX7) (T := TX7) (N := 9) hx hb hts inT_X7 hown hK hW 0 rfl rfl 7 (by decide) (hts _ tw2_76) (fun _ h9 => h9) rfl (v := .ref (G.2.1 64)) rfl dX7_rests_20 ?_
    obtain ⟨σ5, hc4, hf⟩ := nb_b_e hf
    refine nb_cv hW (va_runV (As := []) (rest := []) ⟨hx, hb, hml, hown, hts⟩ (c_X1_reckon l hinj hZo (N := N) hc4 ) (cwV 0 hts (xg_V tw3_228 tw3_229 tw3_230 tw1_7 tw3_231) rfl rfl rfl (by decide +kernel) ⟨Nat.le_of_ble_eq_true rfl, Nat.le_of_ble_eq_true rfl⟩) (nb_preV hK hZ hZo hW (k := 64) rfl rfl) rfl rfl hl.1 rfl (lv_room (Nat.le_of_ble_eq_true rfl)) dX7_rests_23 ⟨Nat.zero_le _, Nat.zero_le _⟩) (fun H locs hW => ?_)
    refine lv_iload_n hx hb dX7_rests_26 rfl (lv_at hl 1 rfl) ?_
    refine lv_iconst (v := (-1 : Int32)) hx hb dX7_rests_27 (by decide) ?_
    refine lv_icmp_ne (tgt := 39) hx hb dX7_rests_28 (by decide) (fun c6 => ?_) (fun c6 => ?_)
    · rw [if_neg c6] at hf
      refine lv_aload_n hx hb dX7_rests_39 rfl (lv_at hl 0 rfl) ?_
      refine nb_get (C := RX7) (T := TX7) (N := 9) hx hb hts inT_X7 hown hK hW 0 rfl rfl 7 (by decide) (hts _ tw2_76) (fun _ h9 => h9) rfl (v := .ref (G.2.1 64)) rfl dX7_rests_40 ?_
      refine nb_getN (C := RX1) (T := TX1) (N := 9) (host := "NobodyFirst") hx hb hts inT_X1 hown hK hW 64 rfl rfl 6 (by decide) (va_Nw.use rfl (hZ.1 ("NobodyFirst", 168, "NobodyFirst$Game", "restsFound", "I", "NobodyFirst") (by decide +kernel))) (fun _ h9 => h9) rfl (v := .int (σ5 64 6)) rfl dX7_rests_43 ?_
      refine lv_if_ne (tgt := 54) hx hb dX7_rests_46 (by decide) (fun c7 => ?_) (fun c7 => ?_)
      · rw [if_neg c7] at hf
        refine lv_aload_n hx hb dX7_rests_54 rfl (lv_at hl 0 rfl) ?_
        refine nb_get (C := RX7) (T := TX7) (N := 9) hx hb hts inT_X7 hown hK hW 0 rfl rfl 7 (by decide) (hts _ tw2_76) (fun _ h9 => h9) rfl (v := .ref (G.2.1 64)) rfl dX7_rests_55 ?_
        refine nb_getN (C := RX1) (T := TX1) (N := 9) (host := "NobodyFirst") hx hb hts inT_X1 hown hK hW 64 rfl rfl 5 (by decide) (va_Nw.use rfl (hZ.1 ("NobodyFirst", 171, "NobodyFirst$Game", "firstRest", "[I", "NobodyFirst") (by decide +kernel))) (fun _ h9 => h9) rfl (v := .ref (G.2.1 68)) rfl dX7_rests_58 ?_
        refine lv_iload_n hx hb dX7_rests_61 rfl (lv_at hl 1 rfl) ?_
        obtain ⟨g8, hf⟩ := nb_g_e hf
        refine nb_iald hx hb hK hW 68 rfl g8 dX7_rests_62 ?_
        exact nb_ri hx hb hr hlocks hK hZ hZo hW  hf dX7_rests_63
      · rw [if_pos c7] at hf
        refine lv_bipush (v := (-4 : Int32)) hx hb dX7_rests_49 (by decide) ?_
        refine lv_goto (tgt := 63) hx hb dX7_rests_51 (by decide) ?_
        exact nb_ri hx hb hr hlocks hK hZ hZo hW  hf dX7_rests_63
    · rw [if_pos c6] at hf
      refine lv_aload_n hx hb dX7_rests_31 rfl (lv_at hl 0 rfl) ?_
      refine nb_get (C := RX7) (T := TX7) (N := 9) hx hb hts inT_X7 hown hK hW 0 rfl rfl 7 (by decide) (hts _ tw2_76) (fun _ h9 => h9) rfl (v := .ref (G.2.1 64)) rfl dX7_rests_32 ?_
      refine nb_getN (C := RX1) (T := TX1) (N := 9) (host := "NobodyFirst") hx hb hts inT_X1 hown hK hW 64 rfl rfl 6 (by decide) (va_Nw.use rfl (hZ.1 ("NobodyFirst", 168, "NobodyFirst$Game", "restsFound", "I", "NobodyFirst") (by decide +kernel))) (fun _ h9 => h9) rfl (v := .int (σ5 64 6)) rfl dX7_rests_35 ?_
      exact nb_ri hx hb hr hlocks hK hZ hZo hW  hf dX7_rests_38
  · rw [if_pos c3] at hf
    refine lv_iconst (v := (-1 : Int32)) hx hb dX7_rests_17 (by decide) ?_
    exact nb_ri hx hb hr hlocks hK hZ hZo hW  hf dX7_rests_18
def fX7_price (N : Nat) (σ : nb_St)  : Option (Int32 × nb_St) :=
  nb_b (fX1_reckon N σ) fun σ2 =>
  (if (σ2 64 6) = 0 then
  some ((-4 : Int32), σ2)
  else
  some (((σ2 64 7) - (σ2 64 8)), σ2))
def rmX7_price : Room := { frames := 6, cells := 0, slots := 0, locals := 134 }
def vsX7_price : List Cond := .code yX7_price cX7_price 1 (some .int) :: xT
set_option maxHeartbeats 4000000 in
set_option maxRecDepth 100000 in
theorem c_X7_price (l : Launch) {G : nb_G} {tb : Nat → Nat} (hinj : nb_inj xc_sh G.2.1) (hZo : nb_Zok (nb_A xc_sh G.2.1) (xc_Z (nb_A xc_sh G.2.1) tb)) {N : Nat} {σ : nb_St}  {ro : Int32} {σo : nb_St} (hf : fX7_price N σ = some (ro, σo))  : Met l yX7_price vsX7_price rmX7_price (nb_Pc G xc_sh (xc_Z (nb_A xc_sh G.2.1) tb) σ [.ref (G.2.1 0)]) (nb_Qi G xc_sh (xc_Z (nb_A xc_sh G.2.1) tb) ro σo) 0 0 (nb_A xc_sh G.2.1) := by
  refine Met.ofW (cc := cX7_price) (maxL := 1) (ret := (some .int)) (by decide) rfl ?_
  intro p e s m args below meth c s₁ B hml hv
  obtain ⟨rfl, hP, hK, hZ⟩ := hv
  have hx := B.exec
  have hb := B.bytes
  have hr := B.returns
  have hts : ∀ w ∈ xT, w.before _ s = true := fun w h9 => atoms_spec (ws := vsX7_price) B.pre w (List.mem_cons_of_mem _ h9)
  have hown : s.vm.findClass RX7 = some m.cls := findClass_of_methodNamed B.named
  have hlocks := B.notSynchronized
  have hW : nb_W G xc_sh s.heap σ s.heap [] := ⟨hP, va_S.rf⟩
  have hl := lv_entry ([.ref (G.2.1 0)]) (n := 1) (Nat.le_of_ble_eq_true rfl)
  rw [lg_entry_eq]
  generalize (lg_sl ([.ref (G.2.1 0)]) ++ List.replicate (1 - (lg_sl ([.ref (G.2.1 0)])).length) Slot.unset).toArray = ls at hl ⊢
  have hl : lv_has ls 1 [(0, .ref (G.2.1 0))] := hl
  show W p l e rmX7_price s m ([.ref (G.2.1 0)]).toArray below meth c s.heap [] 0 0 (MQ below (nb_Qi G xc_sh (xc_Z (nb_A xc_sh G.2.1) tb) ro σo) ([.ref (G.2.1 0)]).toArray s 0 0 (nb_A xc_sh G.2.1)) (F0 m 0 ls [])
  generalize hargs : ([.ref (G.2.1 0)] : List Value).toArray = args at hts ⊢
  unfold fX7_price at hf
  obtain ⟨H, eH⟩ : ∃ H, H = s.heap := ⟨_, rfl⟩
  obtain ⟨locs, eL⟩ : ∃ L : List Loc, L = [] := ⟨_, rfl⟩
  have hW : nb_W G xc_sh s.heap σ H locs := by rw [eH, eL]; exact hW
  suffices hgo : W p l e rmX7_price s m args below meth c H locs 0 0 (MQ below (nb_Qi G xc_sh (xc_Z (nb_A xc_sh G.2.1) tb) ro σo) args s 0 0 (nb_A xc_sh G.2.1)) (F0 m 0 ls []) by rw [eH, eL] at hgo; exact hgo
  clear eH eL
  refine lv_aload_n hx hb dX7_price_0 rfl (lv_at hl 0 rfl) ?_
  refine nb_get (C := RX7) (T := TX7) (N := 9) hx hb hts inT_X7 hown hK hW 0 rfl rfl 7 (by decide) (hts _ tw2_76) (fun _ h9 => h9) rfl (v := .ref (G.2.1 64)) rfl dX7_price_1 ?_
  obtain ⟨σ2, hc1, hf⟩ := nb_b_e hf
  refine nb_cv hW (va_runV (As := []) (rest := []) ⟨hx, hb, hml, hown, hts⟩ (c_X1_reckon l hinj hZo (N := N) hc1 ) (cwV 0 hts (xg_V tw3_228 tw3_229 tw3_230 tw1_7 tw3_231) rfl rfl rfl (by decide +kernel) ⟨Nat.le_of_ble_eq_true rfl, Nat.le_of_ble_eq_true rfl⟩) (nb_preV hK hZ hZo hW (k := 64) rfl rfl) rfl rfl hl.1 rfl (lv_room (Nat.le_of_ble_eq_true rfl)) dX7_price_4 ⟨Nat.zero_le _, Nat.zero_le _⟩) (fun H locs hW => ?_)
  refine lv_aload_n hx hb dX7_price_7 rfl (lv_at hl 0 rfl) ?_
  refine nb_get (C := RX7) (T := TX7) (N := 9) hx hb hts inT_X7 hown hK hW 0 rfl rfl 7 (by decide) (hts _ tw2_76) (fun _ h9 => h9) rfl (v := .ref (G.2.1 64)) rfl dX7_price_8 ?_
  refine nb_getN (C := RX1) (T := TX1) (N := 9) (host := "NobodyFirst") hx hb hts inT_X1 hown hK hW 64 rfl rfl 6 (by decide) (va_Nw.use rfl (hZ.1 ("NobodyFirst", 168, "NobodyFirst$Game", "restsFound", "I", "NobodyFirst") (by decide +kernel))) (fun _ h9 => h9) rfl (v := .int (σ2 64 6)) rfl dX7_price_11 ?_
  refine lv_if_ne (tgt := 22) hx hb dX7_price_14 (by decide) (fun c3 => ?_) (fun c3 => ?_)
  · rw [if_neg c3] at hf
    refine lv_aload_n hx hb dX7_price_22 rfl (lv_at hl 0 rfl) ?_
    refine nb_get (C := RX7) (T := TX7) (N := 9) hx hb hts inT_X7 hown hK hW 0 rfl rfl 7 (by decide) (hts _ tw2_76) (fun _ h9 => h9) rfl (v := .ref (G.2.1 64)) rfl dX7_price_23 ?_
    refine nb_getN (C := RX1) (T := TX1) (N := 9) (host := "NobodyFirst") hx hb hts inT_X1 hown hK hW 64 rfl rfl 7 (by decide) (va_Nw.use rfl (hZ.1 ("NobodyFirst", 174, "NobodyFirst$Game", "leastOfRests", "I", "NobodyFirst") (by decide +kernel))) (fun _ h9 => h9) rfl (v := .int (σ2 64 7)) rfl dX7_price_26 ?_
    refine lv_aload_n hx hb dX7_price_29 rfl (lv_at hl 0 rfl) ?_
    refine nb_get (C := RX7) (T := TX7) (N := 9) hx hb hts inT_X7 hown hK hW 0 rfl rfl 7 (by decide) (hts _ tw2_76) (fun _ h9 => h9) rfl (v := .ref (G.2.1 64)) rfl dX7_price_30 ?_
    refine nb_getN (C := RX1) (T := TX1) (N := 9) (host := "NobodyFirst") hx hb hts inT_X1 hown hK hW 64 rfl rfl 8 (by decide) (va_Nw.use rfl (hZ.1 ("NobodyFirst", 177, "NobodyFirst$Game", "leastOfAll", "I", "NobodyFirst") (by decide +kernel))) (fun _ h9 => h9) rfl (v := .int (σ2 64 8)) rfl dX7_price_33 ?_
    refine lv_isub hx hb dX7_price_36 ?_
    exact nb_ri hx hb hr hlocks hK hZ hZo hW  hf dX7_price_37
  · rw [if_pos c3] at hf
    refine lv_bipush (v := (-4 : Int32)) hx hb dX7_price_17 (by decide) ?_
    refine lv_goto (tgt := 37) hx hb dX7_price_19 (by decide) ?_
    exact nb_ri hx hb hr hlocks hK hZ hZo hW  hf dX7_price_37
def fX7_greatestDivisor (N : Nat) (σ : nb_St) (a0 : Int32) (a1 : Int32) : Option Int32 :=
  nb_lp3 (R := Int32) (fun ag4 (x1 : Int32) (x2 : Int32) (x3 : Int32) =>
  nb_let (fun (_u : Unit) =>
  nb_let (nb_max x1 (1 : Int32)) fun v8 =>
  some v8) fun k6 =>
  (if (100 : Int32) ≤ x3 then
  k6 ()
  else
  (if x2 ≤ 0 then
  k6 ()
  else
  nb_g (decide (¬ x2 = 0)) (
  nb_let (nb_rem x1 x2) fun x12 =>
  ag4 x2 x12 (x3 + 1))))) N a0 a1 (0 : Int32)
def rmX7_greatestDivisor : Room := { frames := 1, cells := 0, slots := 0, locals := 21 }
def vsX7_greatestDivisor : List Cond := .code yX7_greatestDivisor cX7_greatestDivisor 6 (some .int) :: xT
set_option maxHeartbeats 4000000 in
set_option maxRecDepth 100000 in
theorem c_X7_greatestDivisor (l : Launch) {G : nb_G} {tb : Nat → Nat} (hinj : nb_inj xc_sh G.2.1) (hZo : nb_Zok (nb_A xc_sh G.2.1) (xc_Z (nb_A xc_sh G.2.1) tb)) {N : Nat} {σ : nb_St} {a0 : Int32} {a1 : Int32} {ro : Int32} (hf : fX7_greatestDivisor N σ a0 a1 = some ro)  : Met l yX7_greatestDivisor vsX7_greatestDivisor rmX7_greatestDivisor (nb_Pc G xc_sh (xc_Z (nb_A xc_sh G.2.1) tb) σ [.int a0, .int a1]) (nb_Qi G xc_sh (xc_Z (nb_A xc_sh G.2.1) tb) ro σ) 0 0 (nb_A xc_sh G.2.1) := by
  refine Met.ofW (cc := cX7_greatestDivisor) (maxL := 6) (ret := (some .int)) (by decide) rfl ?_
  intro p e s m args below meth c s₁ B hml hv
  obtain ⟨rfl, hP, hK, hZ⟩ := hv
  have hx := B.exec
  have hb := B.bytes
  have hr := B.returns
  have hts : ∀ w ∈ xT, w.before _ s = true := fun w h9 => atoms_spec (ws := vsX7_greatestDivisor) B.pre w (List.mem_cons_of_mem _ h9)
  have hown : s.vm.findClass RX7 = some m.cls := findClass_of_methodNamed B.named
  have hlocks := B.notSynchronized
  have hW : nb_W G xc_sh s.heap σ s.heap [] := ⟨hP, va_S.rf⟩
  have hl := lv_entry ([.int a0, .int a1]) (n := 6) (Nat.le_of_ble_eq_true rfl)
  rw [lg_entry_eq]
  generalize (lg_sl ([.int a0, .int a1]) ++ List.replicate (6 - (lg_sl ([.int a0, .int a1])).length) Slot.unset).toArray = ls at hl ⊢
  have hl : lv_has ls 6 [(0, .int a0), (1, .int a1)] := hl
  show W p l e rmX7_greatestDivisor s m ([.int a0, .int a1]).toArray below meth c s.heap [] 0 0 (MQ below (nb_Qi G xc_sh (xc_Z (nb_A xc_sh G.2.1) tb) ro σ) ([.int a0, .int a1]).toArray s 0 0 (nb_A xc_sh G.2.1)) (F0 m 0 ls [])
  generalize hargs : ([.int a0, .int a1] : List Value).toArray = args at hts ⊢
  unfold fX7_greatestDivisor at hf
  obtain ⟨H, eH⟩ : ∃ H, H = s.heap := ⟨_, rfl⟩
  obtain ⟨locs, eL⟩ : ∃ L : List Loc, L = [] := ⟨_, rfl⟩
  have hW : nb_W G xc_sh s.heap σ H locs := by rw [eH, eL]; exact hW
  suffices hgo : W p l e rmX7_greatestDivisor s m args below meth c H locs 0 0 (MQ below (nb_Qi G xc_sh (xc_Z (nb_A xc_sh G.2.1) tb) ro σ) args s 0 0 (nb_A xc_sh G.2.1)) (F0 m 0 ls []) by rw [eH, eL] at hgo; exact hgo
  clear eH eL
  refine lv_iload_n hx hb dX7_greatestDivisor_0 rfl (lv_at hl 0 rfl) ?_
  refine lv_istore_n (lv' := [(2, .int a0), (0, .int a0), (1, .int a1)]) hx hb dX7_greatestDivisor_1 rfl hl (by decide) rfl (fun ls hl => ?_)
  refine lv_iload_n hx hb dX7_greatestDivisor_2 rfl (lv_at hl 2 rfl) ?_
  refine lv_istore_n (lv' := [(3, .int a1), (2, .int a0), (0, .int a0), (1, .int a1)]) hx hb dX7_greatestDivisor_3 rfl hl (by decide) rfl (fun ls hl => ?_)
  refine lv_iconst (v := (0 : Int32)) hx hb dX7_greatestDivisor_4 (by decide) ?_
  refine lv_istore (lv' := [(4, .int (0 : Int32)), (3, .int a1), (2, .int a0), (0, .int a0), (1, .int a1)]) hx hb dX7_greatestDivisor_5 hl (by decide) rfl (fun ls hl => ?_)
  refine nb_w3 (P := fun (x1 : Int32) (x2 : Int32) (x3 : Int32) => ∀ (H : Heap) (locs : List Loc) (ls : Array Slot), nb_W G xc_sh s.heap σ H locs → lv_has ls 6 [(2, .int x1), (3, .int x2), (4, .int x3)] → W p l e rmX7_greatestDivisor s m args below meth c H locs 0 0 (MQ below (nb_Qi G xc_sh (xc_Z (nb_A xc_sh G.2.1) tb) ro σ) args s 0 0 (nb_A xc_sh G.2.1)) (F0 m 7 ls [])) ?_ N _ _ _ hf H locs ls hW (lv_sub hl [2, 1, 0] rfl)
  intro ag4 ih5 x1 x2 x3 hf H locs ls hW hl
  refine lv_iload hx hb dX7_greatestDivisor_7 (lv_at hl 2 rfl) ?_
  refine lv_bipush (v := (100 : Int32)) hx hb dX7_greatestDivisor_9 (by decide) ?_
  obtain ⟨k6, ek6, hf⟩ := nb_let_e hf
  have w7 : ∀ (_u : Unit) (H : Heap) (locs : List Loc) (ls : Array Slot), k6 _u = some ro → nb_W G xc_sh s.heap σ H locs → lv_has ls 6 [(2, .int x1)] → W p l e rmX7_greatestDivisor s m args below meth c H locs 0 0 (MQ below (nb_Qi G xc_sh (xc_Z (nb_A xc_sh G.2.1) tb) ro σ) args s 0 0 (nb_A xc_sh G.2.1)) (F0 m 34 ls []) := by
    intro _u H locs ls hf hW hl
    have hf := (congrFun ek6 _u).symm.trans hf
    refine lv_iload_n hx hb dX7_greatestDivisor_34 rfl (lv_at hl 0 rfl) ?_
    refine lv_iconst (v := (1 : Int32)) hx hb dX7_greatestDivisor_35 (by decide) ?_
    refine va_mmax hx hb (hml.trans hl.1.symm) hown (hts _ tw4_26) (hts _ tw2_67) (hts _ tw1_9) (hts _ tw2_68) (Nat.le_of_ble_eq_true rfl) (Nat.le_of_ble_eq_true rfl) (Nat.zero_le _) (Nat.zero_le _) dX7_greatestDivisor_36 ?_
    show W p l e rmX7_greatestDivisor s m args below meth c H locs 0 0 (MQ below (nb_Qi G xc_sh (xc_Z (nb_A xc_sh G.2.1) tb) ro σ) args s 0 0 (nb_A xc_sh G.2.1)) (F0 m 39 ls [.int (nb_max x1 (1 : Int32))])
    obtain ⟨v8, ev8, hf⟩ := nb_let_e hf
    refine nb_nami ev8 ?_
    exact nb_rip hx hb hr hlocks hK hZ hZo hW  hf dX7_greatestDivisor_39
  clear ek6
  refine lv_icmp_ge (tgt := 34) hx hb dX7_greatestDivisor_11 (by decide) (fun c9 => ?_) (fun c9 => ?_)
  · rw [if_pos c9] at hf
    exact w7 ()  _ _ _ hf hW (lv_sub hl [0] rfl)
  · rw [if_neg c9] at hf
    refine lv_iload_n hx hb dX7_greatestDivisor_14 rfl (lv_at hl 1 rfl) ?_
    refine lv_if_le (tgt := 34) hx hb dX7_greatestDivisor_15 (by decide) (fun c10 => ?_) (fun c10 => ?_)
    · rw [if_pos c10] at hf
      exact w7 ()  _ _ _ hf hW (lv_sub hl [0] rfl)
    · rw [if_neg c10] at hf
      refine lv_iload_n hx hb dX7_greatestDivisor_18 rfl (lv_at hl 0 rfl) ?_
      refine lv_iload_n hx hb dX7_greatestDivisor_19 rfl (lv_at hl 1 rfl) ?_
      obtain ⟨g11, hf⟩ := nb_g_e hf
      refine nb_irem hx hb dX7_greatestDivisor_20 (of_decide_eq_true g11) ?_
      obtain ⟨x12, ex12, hf⟩ := nb_let_e hf
      refine nb_nami ex12 ?_
      refine lv_istore (lv' := [(5, .int x12), (2, .int x1), (3, .int x2), (4, .int x3)]) hx hb dX7_greatestDivisor_21 hl (by decide) rfl (fun ls hl => ?_)
      refine lv_iload_n hx hb dX7_greatestDivisor_23 rfl (lv_at hl 2 rfl) ?_
      refine lv_istore_n (lv' := [(2, .int x2), (5, .int x12), (3, .int x2), (4, .int x3)]) hx hb dX7_greatestDivisor_24 rfl hl (by decide) rfl (fun ls hl => ?_)
      refine lv_iload hx hb dX7_greatestDivisor_25 (lv_at hl 1 rfl) ?_
      refine lv_istore_n (lv' := [(3, .int x12), (2, .int x2), (5, .int x12), (4, .int x3)]) hx hb dX7_greatestDivisor_27 rfl hl (by decide) rfl (fun ls hl => ?_)
      refine lv_iinc (v := (x3 + 1)) (lv' := [(4, .int (x3 + 1)), (3, .int x12), (2, .int x2), (5, .int x12)]) hx hb dX7_greatestDivisor_28 hl (k := 3) rfl rfl (by decide) rfl (fun ls hl => ?_)
      refine lv_goto (tgt := 7) hx hb dX7_greatestDivisor_31 (by decide) ?_
      exact ih5 _ _ _ hf _ _ _ hW (lv_sub hl [2, 1, 0] rfl)
def fX7_inLowestTerms (N : Nat) (σ : nb_St) (a0 : Int32) (a1 : Int32) (a2 : Int32) : Option Int32 :=
  (if 0 < a1 then
  nb_b (fX7_greatestDivisor N σ a1 a0) fun r3 =>
  nb_let (fun (v6 : Int32) =>
  nb_g (decide (¬ r3 = 0)) (
  some (v6 / r3))) fun k4 =>
  (if a2 = 0 then
  k4 a0
  else
  k4 a1)
  else
  some (-4 : Int32))
def rmX7_inLowestTerms : Room := { frames := 2, cells := 0, slots := 0, locals := 46 }
def vsX7_inLowestTerms : List Cond := .code yX7_inLowestTerms cX7_inLowestTerms 4 (some .int) :: xT
set_option maxHeartbeats 4000000 in
set_option maxRecDepth 100000 in
theorem c_X7_inLowestTerms (l : Launch) {G : nb_G} {tb : Nat → Nat} (hinj : nb_inj xc_sh G.2.1) (hZo : nb_Zok (nb_A xc_sh G.2.1) (xc_Z (nb_A xc_sh G.2.1) tb)) {N : Nat} {σ : nb_St} {a0 : Int32} {a1 : Int32} {a2 : Int32} {ro : Int32} (hf : fX7_inLowestTerms N σ a0 a1 a2 = some ro)  : Met l yX7_inLowestTerms vsX7_inLowestTerms rmX7_inLowestTerms (nb_Pc G xc_sh (xc_Z (nb_A xc_sh G.2.1) tb) σ [.int a0, .int a1, .int a2]) (nb_Qi G xc_sh (xc_Z (nb_A xc_sh G.2.1) tb) ro σ) 0 0 (nb_A xc_sh G.2.1) := by
  refine Met.ofW (cc := cX7_inLowestTerms) (maxL := 4) (ret := (some .int)) (by decide) rfl ?_
  intro p e s m args below meth c s₁ B hml hv
  obtain ⟨rfl, hP, hK, hZ⟩ := hv
  have hx := B.exec
  have hb := B.bytes
  have hr := B.returns
  have hts : ∀ w ∈ xT, w.before _ s = true := fun w h9 => atoms_spec (ws := vsX7_inLowestTerms) B.pre w (List.mem_cons_of_mem _ h9)
  have hown : s.vm.findClass RX7 = some m.cls := findClass_of_methodNamed B.named
  have hlocks := B.notSynchronized
  have hW : nb_W G xc_sh s.heap σ s.heap [] := ⟨hP, va_S.rf⟩
  have hl := lv_entry ([.int a0, .int a1, .int a2]) (n := 4) (Nat.le_of_ble_eq_true rfl)
  rw [lg_entry_eq]
  generalize (lg_sl ([.int a0, .int a1, .int a2]) ++ List.replicate (4 - (lg_sl ([.int a0, .int a1, .int a2])).length) Slot.unset).toArray = ls at hl ⊢
  have hl : lv_has ls 4 [(0, .int a0), (1, .int a1), (2, .int a2)] := hl
  show W p l e rmX7_inLowestTerms s m ([.int a0, .int a1, .int a2]).toArray below meth c s.heap [] 0 0 (MQ below (nb_Qi G xc_sh (xc_Z (nb_A xc_sh G.2.1) tb) ro σ) ([.int a0, .int a1, .int a2]).toArray s 0 0 (nb_A xc_sh G.2.1)) (F0 m 0 ls [])
  generalize hargs : ([.int a0, .int a1, .int a2] : List Value).toArray = args at hts ⊢
  unfold fX7_inLowestTerms at hf
  obtain ⟨H, eH⟩ : ∃ H, H = s.heap := ⟨_, rfl⟩
  obtain ⟨locs, eL⟩ : ∃ L : List Loc, L = [] := ⟨_, rfl⟩
  have hW : nb_W G xc_sh s.heap σ H locs := by rw [eH, eL]; exact hW
  suffices hgo : W p l e rmX7_inLowestTerms s m args below meth c H locs 0 0 (MQ below (nb_Qi G xc_sh (xc_Z (nb_A xc_sh G.2.1) tb) ro σ) args s 0 0 (nb_A xc_sh G.2.1)) (F0 m 0 ls []) by rw [eH, eL] at hgo; exact hgo
  clear eH eL
  refine lv_iload_n hx hb dX7_inLowestTerms_0 rfl (lv_at hl 1 rfl) ?_
  refine lv_if_gt (tgt := 7) hx hb dX7_inLowestTerms_1 (by decide) (fun c1 => ?_) (fun c1 => ?_)
  · rw [if_pos c1] at hf
    refine lv_iload_n hx hb dX7_inLowestTerms_7 rfl (lv_at hl 1 rfl) ?_
    refine lv_iload_n hx hb dX7_inLowestTerms_8 rfl (lv_at hl 0 rfl) ?_
    obtain ⟨r3, hc2, hf⟩ := nb_b_e hf
    refine nb_ci hW (va_runS (As := [.int a1, .int a0]) (rest := []) ⟨hx, hb, hml, hown, hts⟩ (c_X7_greatestDivisor l hinj hZo (N := N) hc2 ) (va_cwS 2 hts (xg_S tw4_23 tw4_24 tw1_1 tw4_25) rfl rfl rfl (by decide +kernel) ⟨Nat.le_of_ble_eq_true rfl, Nat.le_of_ble_eq_true rfl⟩) (nb_preS hK hZ hZo hW) rfl rfl hl.1 rfl (lv_room (Nat.le_of_ble_eq_true rfl)) dX7_inLowestTerms_9 ⟨Nat.zero_le _, Nat.zero_le _⟩) (fun H locs hW => ?_)
    refine lv_istore_n (lv' := [(3, .int r3), (0, .int a0), (1, .int a1), (2, .int a2)]) hx hb dX7_inLowestTerms_12 rfl hl (by decide) rfl (fun ls hl => ?_)
    refine lv_iload_n hx hb dX7_inLowestTerms_13 rfl (lv_at hl 3 rfl) ?_
    obtain ⟨k4, ek4, hf⟩ := nb_let_e hf
    have w5 : ∀ (v6 : Int32) (H : Heap) (locs : List Loc) (ls : Array Slot), k4 v6 = some ro → nb_W G xc_sh s.heap σ H locs → lv_has ls 4 [(3, .int r3)] → W p l e rmX7_inLowestTerms s m args below meth c H locs 0 0 (MQ below (nb_Qi G xc_sh (xc_Z (nb_A xc_sh G.2.1) tb) ro σ) args s 0 0 (nb_A xc_sh G.2.1)) (F0 m 22 ls [.int v6]) := by
      intro v6 H locs ls hf hW hl
      have hf := (congrFun ek4 v6).symm.trans hf
      refine lv_iload_n hx hb dX7_inLowestTerms_22 rfl (lv_at hl 0 rfl) ?_
      obtain ⟨g7, hf⟩ := nb_g_e hf
      refine lv_idiv hx hb dX7_inLowestTerms_23 (of_decide_eq_true g7) ?_
      exact nb_rip hx hb hr hlocks hK hZ hZo hW  hf dX7_inLowestTerms_24
    clear ek4
    refine lv_if_ne (tgt := 21) hx hb dX7_inLowestTerms_14 (by decide) (fun c8 => ?_) (fun c8 => ?_)
    · rw [if_neg c8] at hf
      refine lv_iload_n hx hb dX7_inLowestTerms_21 rfl (lv_at hl 2 rfl) ?_
      exact w5 _ _ _ _ hf hW (lv_sub hl [0] rfl)
    · rw [if_pos c8] at hf
      refine lv_iload_n hx hb dX7_inLowestTerms_17 rfl (lv_at hl 1 rfl) ?_
      refine lv_goto (tgt := 22) hx hb dX7_inLowestTerms_18 (by decide) ?_
      exact w5 _ _ _ _ hf hW (lv_sub hl [0] rfl)
  · rw [if_neg c1] at hf
    refine lv_bipush (v := (-4 : Int32)) hx hb dX7_inLowestTerms_4 (by decide) ?_
    exact nb_rip hx hb hr hlocks hK hZ hZo hW  hf dX7_inLowestTerms_6
def fX7_meant (N : Nat) (σ : nb_St) (a0 : Int32) (a1 : Int32) : Option Int32 :=
  nb_b (fX7_within N σ a0 (1 : Int32) (3 : Int32)) fun r2 =>
  nb_let (fun (_u : Unit) =>
  some (-1 : Int32)) fun k3 =>
  (if r2 = 0 then
  k3 ()
  else
  nb_b (fX7_within N σ a1 (0 : Int32) (1 : Int32)) fun r7 =>
  (if r7 = 0 then
  k3 ()
  else
  nb_let (nb_ix (σ 0 3)) fun p9 =>
  nb_g (xc_pty p9) (
  nb_g (nb_in a0 4) (
  nb_let (nb_ix (σ 0 3)) fun p12 =>
  nb_g (xc_pty p12) (
  nb_g (nb_in a0 4) (
  nb_let (nb_ix (σ 0 3)) fun p15 =>
  nb_g (xc_pty p15) (
  nb_g (nb_in a0 4) (
  nb_b (fX7_inLowestTerms N σ (σ (p9 + 11) (nb_ix a0)) ((σ (p12 + 11) (nb_ix a0)) + (σ (p15 + 12) (nb_ix a0))) a1) fun r19 =>
  some r19))))))))
def rmX7_meant : Room := { frames := 3, cells := 0, slots := 0, locals := 69 }
def vsX7_meant : List Cond := .code yX7_meant cX7_meant 3 (some .int) :: xT
set_option maxHeartbeats 4000000 in
set_option maxRecDepth 100000 in
theorem c_X7_meant (l : Launch) {G : nb_G} {tb : Nat → Nat} (hinj : nb_inj xc_sh G.2.1) (hZo : nb_Zok (nb_A xc_sh G.2.1) (xc_Z (nb_A xc_sh G.2.1) tb)) {N : Nat} {σ : nb_St} {a0 : Int32} {a1 : Int32} {ro : Int32} (hf : fX7_meant N σ a0 a1 = some ro)  : Met l yX7_meant vsX7_meant rmX7_meant (nb_Pc G xc_sh (xc_Z (nb_A xc_sh G.2.1) tb) σ [.ref (G.2.1 0), .int a0, .int a1]) (nb_Qi G xc_sh (xc_Z (nb_A xc_sh G.2.1) tb) ro σ) 0 0 (nb_A xc_sh G.2.1) := by
  refine Met.ofW (cc := cX7_meant) (maxL := 3) (ret := (some .int)) (by decide) rfl ?_
  intro p e s m args below meth c s₁ B hml hv
  obtain ⟨rfl, hP, hK, hZ⟩ := hv
  have hx := B.exec
  have hb := B.bytes
  have hr := B.returns
  have hts : ∀ w ∈ xT, w.before _ s = true := fun w h9 => atoms_spec (ws := vsX7_meant) B.pre w (List.mem_cons_of_mem _ h9)
  have hown : s.vm.findClass RX7 = some m.cls := findClass_of_methodNamed B.named
  have hlocks := B.notSynchronized
  have hW : nb_W G xc_sh s.heap σ s.heap [] := ⟨hP, va_S.rf⟩
  have hl := lv_entry ([.ref (G.2.1 0), .int a0, .int a1]) (n := 3) (Nat.le_of_ble_eq_true rfl)
  rw [lg_entry_eq]
  generalize (lg_sl ([.ref (G.2.1 0), .int a0, .int a1]) ++ List.replicate (3 - (lg_sl ([.ref (G.2.1 0), .int a0, .int a1])).length) Slot.unset).toArray = ls at hl ⊢
  have hl : lv_has ls 3 [(0, .ref (G.2.1 0)), (1, .int a0), (2, .int a1)] := hl
  show W p l e rmX7_meant s m ([.ref (G.2.1 0), .int a0, .int a1]).toArray below meth c s.heap [] 0 0 (MQ below (nb_Qi G xc_sh (xc_Z (nb_A xc_sh G.2.1) tb) ro σ) ([.ref (G.2.1 0), .int a0, .int a1]).toArray s 0 0 (nb_A xc_sh G.2.1)) (F0 m 0 ls [])
  generalize hargs : ([.ref (G.2.1 0), .int a0, .int a1] : List Value).toArray = args at hts ⊢
  unfold fX7_meant at hf
  obtain ⟨H, eH⟩ : ∃ H, H = s.heap := ⟨_, rfl⟩
  obtain ⟨locs, eL⟩ : ∃ L : List Loc, L = [] := ⟨_, rfl⟩
  have hW : nb_W G xc_sh s.heap σ H locs := by rw [eH, eL]; exact hW
  suffices hgo : W p l e rmX7_meant s m args below meth c H locs 0 0 (MQ below (nb_Qi G xc_sh (xc_Z (nb_A xc_sh G.2.1) tb) ro σ) args s 0 0 (nb_A xc_sh G.2.1)) (F0 m 0 ls []) by rw [eH, eL] at hgo; exact hgo
  clear eH eL
  refine lv_iload_n hx hb dX7_meant_0 rfl (lv_at hl 1 rfl) ?_
  refine lv_iconst (v := (1 : Int32)) hx hb dX7_meant_1 (by decide) ?_
  refine lv_iconst (v := (3 : Int32)) hx hb dX7_meant_2 (by decide) ?_
  obtain ⟨r2, hc1, hf⟩ := nb_b_e hf
  refine nb_ci hW (va_runS (As := [.int a0, .int (1 : Int32), .int (3 : Int32)]) (rest := []) ⟨hx, hb, hml, hown, hts⟩ (c_X7_within l hinj hZo (N := N) hc1 ) (va_cwS 3 hts (xg_S tw2_101 tw2_102 tw1_1 tw2_103) rfl rfl rfl (by decide +kernel) ⟨Nat.le_of_ble_eq_true rfl, Nat.le_of_ble_eq_true rfl⟩) (nb_preS hK hZ hZo hW) rfl rfl hl.1 rfl (lv_room (Nat.le_of_ble_eq_true rfl)) dX7_meant_3 ⟨Nat.zero_le _, Nat.zero_le _⟩) (fun H locs hW => ?_)
  obtain ⟨k3, ek3, hf⟩ := nb_let_e hf
  have w4 : ∀ (_u : Unit) (H : Heap) (locs : List Loc) (ls : Array Slot), k3 _u = some ro → nb_W G xc_sh s.heap σ H locs → lv_has ls 3 [] → W p l e rmX7_meant s m args below meth c H locs 0 0 (MQ below (nb_Qi G xc_sh (xc_Z (nb_A xc_sh G.2.1) tb) ro σ) args s 0 0 (nb_A xc_sh G.2.1)) (F0 m 18 ls []) := by
    intro _u H locs ls hf hW hl
    have hf := (congrFun ek3 _u).symm.trans hf
    refine lv_iconst (v := (-1 : Int32)) hx hb dX7_meant_18 (by decide) ?_
    exact nb_rip hx hb hr hlocks hK hZ hZo hW  hf dX7_meant_19
  clear ek3
  refine lv_if_eq (tgt := 18) hx hb dX7_meant_6 (by decide) (fun c5 => ?_) (fun c5 => ?_)
  · rw [if_pos c5] at hf
    exact w4 ()  _ _ _ hf hW (lv_sub hl [] rfl)
  · rw [if_neg c5] at hf
    refine lv_iload_n hx hb dX7_meant_9 rfl (lv_at hl 2 rfl) ?_
    refine lv_iconst (v := (0 : Int32)) hx hb dX7_meant_10 (by decide) ?_
    refine lv_iconst (v := (1 : Int32)) hx hb dX7_meant_11 (by decide) ?_
    obtain ⟨r7, hc6, hf⟩ := nb_b_e hf
    refine nb_ci hW (va_runS (As := [.int a1, .int (0 : Int32), .int (1 : Int32)]) (rest := []) ⟨hx, hb, hml, hown, hts⟩ (c_X7_within l hinj hZo (N := N) hc6 ) (va_cwS 3 hts (xg_S tw2_101 tw2_102 tw1_1 tw2_103) rfl rfl rfl (by decide +kernel) ⟨Nat.le_of_ble_eq_true rfl, Nat.le_of_ble_eq_true rfl⟩) (nb_preS hK hZ hZo hW) rfl rfl hl.1 rfl (lv_room (Nat.le_of_ble_eq_true rfl)) dX7_meant_12 ⟨Nat.zero_le _, Nat.zero_le _⟩) (fun H locs hW => ?_)
    refine lv_if_ne (tgt := 20) hx hb dX7_meant_15 (by decide) (fun c8 => ?_) (fun c8 => ?_)
    · rw [if_neg c8] at hf
      refine lv_aload_n hx hb dX7_meant_20 rfl (lv_at hl 0 rfl) ?_
      obtain ⟨p9, ep9, hf⟩ := nb_let_e hf
      obtain ⟨hp10, hf⟩ := nb_g_e hf
      refine nb_get (C := RX7) (T := TX7) (N := 9) hx hb hts inT_X7 hown hK hW 0 rfl rfl 3 (by decide) (hts _ tw2_72) (fun _ h9 => h9) rfl (v := .ref (G.2.1 p9)) (by rw [ep9]; rfl) dX7_meant_21 ?_
      refine nb_getN (C := RX4) (T := TX4) (N := 18) (host := "NobodyFirst") hx hb hts inT_X4 hown hK hW p9 (sx_pty_0 hp10) rfl 12 (by decide) (va_Nw.use rfl (hZ.1 ("NobodyFirst", 180, "NobodyFirst$Party", "ifMeant", "[I", "NobodyFirst") (by decide +kernel))) (fun _ h9 => h9) rfl (v := .ref (G.2.1 (p9 + 11))) rfl dX7_meant_24 ?_
      refine lv_iload_n hx hb dX7_meant_27 rfl (lv_at hl 1 rfl) ?_
      obtain ⟨g11, hf⟩ := nb_g_e hf
      refine nb_iald hx hb hK hW (p9 + 11) (sx_pty_11 hp10) g11 dX7_meant_28 ?_
      refine lv_aload_n hx hb dX7_meant_29 rfl (lv_at hl 0 rfl) ?_
      obtain ⟨p12, ep12, hf⟩ := nb_let_e hf
      obtain ⟨hp13, hf⟩ := nb_g_e hf
      refine nb_get (C := RX7) (T := TX7) (N := 9) hx hb hts inT_X7 hown hK hW 0 rfl rfl 3 (by decide) (hts _ tw2_72) (fun _ h9 => h9) rfl (v := .ref (G.2.1 p12)) (by rw [ep12]; rfl) dX7_meant_30 ?_
      refine nb_getN (C := RX4) (T := TX4) (N := 18) (host := "NobodyFirst") hx hb hts inT_X4 hown hK hW p12 (sx_pty_0 hp13) rfl 12 (by decide) (va_Nw.use rfl (hZ.1 ("NobodyFirst", 180, "NobodyFirst$Party", "ifMeant", "[I", "NobodyFirst") (by decide +kernel))) (fun _ h9 => h9) rfl (v := .ref (G.2.1 (p12 + 11))) rfl dX7_meant_33 ?_
      refine lv_iload_n hx hb dX7_meant_36 rfl (lv_at hl 1 rfl) ?_
      obtain ⟨g14, hf⟩ := nb_g_e hf
      refine nb_iald hx hb hK hW (p12 + 11) (sx_pty_11 hp13) g14 dX7_meant_37 ?_
      refine lv_aload_n hx hb dX7_meant_38 rfl (lv_at hl 0 rfl) ?_
      obtain ⟨p15, ep15, hf⟩ := nb_let_e hf
      obtain ⟨hp16, hf⟩ := nb_g_e hf
      refine nb_get (C := RX7) (T := TX7) (N := 9) hx hb hts inT_X7 hown hK hW 0 rfl rfl 3 (by decide) (hts _ tw2_72) (fun _ h9 => h9) rfl (v := .ref (G.2.1 p15)) (by rw [ep15]; rfl) dX7_meant_39 ?_
      refine nb_getN (C := RX4) (T := TX4) (N := 18) (host := "NobodyFirst") hx hb hts inT_X4 hown hK hW p15 (sx_pty_0 hp16) rfl 13 (by decide) (va_Nw.use rfl (hZ.1 ("NobodyFirst", 183, "NobodyFirst$Party", "ifNot", "[I", "NobodyFirst") (by decide +kernel))) (fun _ h9 => h9) rfl (v := .ref (G.2.1 (p15 + 12))) rfl dX7_meant_42 ?_
      refine lv_iload_n hx hb dX7_meant_45 rfl (lv_at hl 1 rfl) ?_
      obtain ⟨g17, hf⟩ := nb_g_e hf
      refine nb_iald hx hb hK hW (p15 + 12) (sx_pty_12 hp16) g17 dX7_meant_46 ?_
      refine lv_iadd hx hb dX7_meant_47 ?_
      refine lv_iload_n hx hb dX7_meant_48 rfl (lv_at hl 2 rfl) ?_
      obtain ⟨r19, hc18, hf⟩ := nb_b_e hf
      refine nb_ci hW (va_runS (As := [.int (σ (p9 + 11) (nb_ix a0)), .int ((σ (p12 + 11) (nb_ix a0)) + (σ (p15 + 12) (nb_ix a0))), .int a1]) (rest := []) ⟨hx, hb, hml, hown, hts⟩ (c_X7_inLowestTerms l hinj hZo (N := N) hc18 ) (va_cwS 3 hts (xg_S tw4_20 tw4_21 tw1_1 tw4_22) rfl rfl rfl (by decide +kernel) ⟨Nat.le_of_ble_eq_true rfl, Nat.le_of_ble_eq_true rfl⟩) (nb_preS hK hZ hZo hW) rfl rfl hl.1 rfl (lv_room (Nat.le_of_ble_eq_true rfl)) dX7_meant_49 ⟨Nat.zero_le _, Nat.zero_le _⟩) (fun H locs hW => ?_)
      exact nb_rip hx hb hr hlocks hK hZ hZo hW  hf dX7_meant_52
    · rw [if_pos c8] at hf
      exact w4 ()  _ _ _ hf hW (lv_sub hl [] rfl)
def fX7_since (N : Nat) (σ : nb_St) (a0 : Int32) (a1 : Int32) (a2 : Int32) : Option Int32 :=
  nb_b (fX7_isGuest N σ a0) fun r2 =>
  nb_let (fun (_u : Unit) =>
  some (-1 : Int32)) fun k3 =>
  (if r2 = 0 then
  k3 ()
  else
  nb_b (fX7_within N σ a1 (0 : Int32) (11 : Int32)) fun r7 =>
  (if r7 = 0 then
  k3 ()
  else
  nb_b (fX7_within N σ a2 (0 : Int32) (1 : Int32)) fun r10 =>
  (if r10 = 0 then
  k3 ()
  else
  nb_lp2 (R := Int32) (fun ag14 (x12 : Int32) (x13 : Int32) =>
  (if (12 : Int32) ≤ x13 then
  nb_let (nb_ix (σ 0 3)) fun p17 =>
  nb_g (xc_pty p17) (
  nb_b (fX4_weightOfLooks N σ p17 a0 ((30 : Int32) * a1)) fun r20 =>
  nb_b (fX7_inLowestTerms N σ r20 x12 a2) fun r22 =>
  some r22)
  else
  nb_let (nb_ix (σ 0 3)) fun p23 =>
  nb_g (xc_pty p23) (
  nb_b (fX4_weightOfLooks N σ p23 a0 ((30 : Int32) * x13)) fun r26 =>
  nb_let (x12 + r26) fun x27 =>
  ag14 x27 (x13 + 1)))) N (0 : Int32) (0 : Int32))))
def rmX7_since : Room := { frames := 3, cells := 0, slots := 0, locals := 69 }
def vsX7_since : List Cond := .code yX7_since cX7_since 6 (some .int) :: xT
set_option maxHeartbeats 4000000 in
set_option maxRecDepth 100000 in
theorem c_X7_since (l : Launch) {G : nb_G} {tb : Nat → Nat} (hinj : nb_inj xc_sh G.2.1) (hZo : nb_Zok (nb_A xc_sh G.2.1) (xc_Z (nb_A xc_sh G.2.1) tb)) {N : Nat} {σ : nb_St} {a0 : Int32} {a1 : Int32} {a2 : Int32} {ro : Int32} (hf : fX7_since N σ a0 a1 a2 = some ro)  : Met l yX7_since vsX7_since rmX7_since (nb_Pc G xc_sh (xc_Z (nb_A xc_sh G.2.1) tb) σ [.ref (G.2.1 0), .int a0, .int a1, .int a2]) (nb_Qi G xc_sh (xc_Z (nb_A xc_sh G.2.1) tb) ro σ) 0 0 (nb_A xc_sh G.2.1) := by
  refine Met.ofW (cc := cX7_since) (maxL := 6) (ret := (some .int)) (by decide) rfl ?_
  intro p e s m args below meth c s₁ B hml hv
  obtain ⟨rfl, hP, hK, hZ⟩ := hv
  have hx := B.exec
  have hb := B.bytes
  have hr := B.returns
  have hts : ∀ w ∈ xT, w.before _ s = true := fun w h9 => atoms_spec (ws := vsX7_since) B.pre w (List.mem_cons_of_mem _ h9)
  have hown : s.vm.findClass RX7 = some m.cls := findClass_of_methodNamed B.named
  have hlocks := B.notSynchronized
  have hW : nb_W G xc_sh s.heap σ s.heap [] := ⟨hP, va_S.rf⟩
  have hl := lv_entry ([.ref (G.2.1 0), .int a0, .int a1, .int a2]) (n := 6) (Nat.le_of_ble_eq_true rfl)
  rw [lg_entry_eq]
  generalize (lg_sl ([.ref (G.2.1 0), .int a0, .int a1, .int a2]) ++ List.replicate (6 - (lg_sl ([.ref (G.2.1 0), .int a0, .int a1, .int a2])).length) Slot.unset).toArray = ls at hl ⊢
  have hl : lv_has ls 6 [(0, .ref (G.2.1 0)), (1, .int a0), (2, .int a1), (3, .int a2)] := hl
  show W p l e rmX7_since s m ([.ref (G.2.1 0), .int a0, .int a1, .int a2]).toArray below meth c s.heap [] 0 0 (MQ below (nb_Qi G xc_sh (xc_Z (nb_A xc_sh G.2.1) tb) ro σ) ([.ref (G.2.1 0), .int a0, .int a1, .int a2]).toArray s 0 0 (nb_A xc_sh G.2.1)) (F0 m 0 ls [])
  generalize hargs : ([.ref (G.2.1 0), .int a0, .int a1, .int a2] : List Value).toArray = args at hts ⊢
  unfold fX7_since at hf
  obtain ⟨H, eH⟩ : ∃ H, H = s.heap := ⟨_, rfl⟩
  obtain ⟨locs, eL⟩ : ∃ L : List Loc, L = [] := ⟨_, rfl⟩
  have hW : nb_W G xc_sh s.heap σ H locs := by rw [eH, eL]; exact hW
  suffices hgo : W p l e rmX7_since s m args below meth c H locs 0 0 (MQ below (nb_Qi G xc_sh (xc_Z (nb_A xc_sh G.2.1) tb) ro σ) args s 0 0 (nb_A xc_sh G.2.1)) (F0 m 0 ls []) by rw [eH, eL] at hgo; exact hgo
  clear eH eL
  refine lv_aload_n hx hb dX7_since_0 rfl (lv_at hl 0 rfl) ?_
  refine lv_iload_n hx hb dX7_since_1 rfl (lv_at hl 1 rfl) ?_
  obtain ⟨r2, hc1, hf⟩ := nb_b_e hf
  refine nb_ci hW (va_runV (As := [.int a0]) (rest := []) ⟨hx, hb, hml, hown, hts⟩ (c_X7_isGuest l hinj hZo (N := N) hc1 ) (cwV 1 hts (xg_V tw3_32 tw3_34 tp1_3 tw1_1 tw3_35) rfl rfl rfl (by decide +kernel) ⟨Nat.le_of_ble_eq_true rfl, Nat.le_of_ble_eq_true rfl⟩) (nb_preV hK hZ hZo hW (k := 0) rfl rfl) rfl rfl hl.1 rfl (lv_room (Nat.le_of_ble_eq_true rfl)) dX7_since_2 ⟨Nat.zero_le _, Nat.zero_le _⟩) (fun H locs hW => ?_)
  obtain ⟨k3, ek3, hf⟩ := nb_let_e hf
  have w4 : ∀ (_u : Unit) (H : Heap) (locs : List Loc) (ls : Array Slot), k3 _u = some ro → nb_W G xc_sh s.heap σ H locs → lv_has ls 6 [] → W p l e rmX7_since s m args below meth c H locs 0 0 (MQ below (nb_Qi G xc_sh (xc_Z (nb_A xc_sh G.2.1) tb) ro σ) args s 0 0 (nb_A xc_sh G.2.1)) (F0 m 27 ls []) := by
    intro _u H locs ls hf hW hl
    have hf := (congrFun ek3 _u).symm.trans hf
    refine lv_iconst (v := (-1 : Int32)) hx hb dX7_since_27 (by decide) ?_
    exact nb_rip hx hb hr hlocks hK hZ hZo hW  hf dX7_since_28
  clear ek3
  refine lv_if_eq (tgt := 27) hx hb dX7_since_5 (by decide) (fun c5 => ?_) (fun c5 => ?_)
  · rw [if_pos c5] at hf
    exact w4 ()  _ _ _ hf hW (lv_sub hl [] rfl)
  · rw [if_neg c5] at hf
    refine lv_iload_n hx hb dX7_since_8 rfl (lv_at hl 2 rfl) ?_
    refine lv_iconst (v := (0 : Int32)) hx hb dX7_since_9 (by decide) ?_
    refine lv_bipush (v := (11 : Int32)) hx hb dX7_since_10 (by decide) ?_
    obtain ⟨r7, hc6, hf⟩ := nb_b_e hf
    refine nb_ci hW (va_runS (As := [.int a1, .int (0 : Int32), .int (11 : Int32)]) (rest := []) ⟨hx, hb, hml, hown, hts⟩ (c_X7_within l hinj hZo (N := N) hc6 ) (va_cwS 3 hts (xg_S tw2_101 tw2_102 tw1_1 tw2_103) rfl rfl rfl (by decide +kernel) ⟨Nat.le_of_ble_eq_true rfl, Nat.le_of_ble_eq_true rfl⟩) (nb_preS hK hZ hZo hW) rfl rfl hl.1 rfl (lv_room (Nat.le_of_ble_eq_true rfl)) dX7_since_12 ⟨Nat.zero_le _, Nat.zero_le _⟩) (fun H locs hW => ?_)
    refine lv_if_eq (tgt := 27) hx hb dX7_since_15 (by decide) (fun c8 => ?_) (fun c8 => ?_)
    · rw [if_pos c8] at hf
      exact w4 ()  _ _ _ hf hW (lv_sub hl [] rfl)
    · rw [if_neg c8] at hf
      refine lv_iload_n hx hb dX7_since_18 rfl (lv_at hl 3 rfl) ?_
      refine lv_iconst (v := (0 : Int32)) hx hb dX7_since_19 (by decide) ?_
      refine lv_iconst (v := (1 : Int32)) hx hb dX7_since_20 (by decide) ?_
      obtain ⟨r10, hc9, hf⟩ := nb_b_e hf
      refine nb_ci hW (va_runS (As := [.int a2, .int (0 : Int32), .int (1 : Int32)]) (rest := []) ⟨hx, hb, hml, hown, hts⟩ (c_X7_within l hinj hZo (N := N) hc9 ) (va_cwS 3 hts (xg_S tw2_101 tw2_102 tw1_1 tw2_103) rfl rfl rfl (by decide +kernel) ⟨Nat.le_of_ble_eq_true rfl, Nat.le_of_ble_eq_true rfl⟩) (nb_preS hK hZ hZo hW) rfl rfl hl.1 rfl (lv_room (Nat.le_of_ble_eq_true rfl)) dX7_since_21 ⟨Nat.zero_le _, Nat.zero_le _⟩) (fun H locs hW => ?_)
      refine lv_if_ne (tgt := 29) hx hb dX7_since_24 (by decide) (fun c11 => ?_) (fun c11 => ?_)
      · rw [if_neg c11] at hf
        refine lv_iconst (v := (0 : Int32)) hx hb dX7_since_29 (by decide) ?_
        refine lv_istore (lv' := [(4, .int (0 : Int32)), (0, .ref (G.2.1 0)), (1, .int a0), (2, .int a1), (3, .int a2)]) hx hb dX7_since_30 hl (by decide) rfl (fun ls hl => ?_)
        refine lv_iconst (v := (0 : Int32)) hx hb dX7_since_32 (by decide) ?_
        refine lv_istore (lv' := [(5, .int (0 : Int32)), (4, .int (0 : Int32)), (0, .ref (G.2.1 0)), (1, .int a0), (2, .int a1), (3, .int a2)]) hx hb dX7_since_33 hl (by decide) rfl (fun ls hl => ?_)
        refine nb_w2 (P := fun (x12 : Int32) (x13 : Int32) => ∀ (H : Heap) (locs : List Loc) (ls : Array Slot), nb_W G xc_sh s.heap σ H locs → lv_has ls 6 [(0, .ref (G.2.1 0)), (1, .int a0), (2, .int a1), (3, .int a2), (4, .int x12), (5, .int x13)] → W p l e rmX7_since s m args below meth c H locs 0 0 (MQ below (nb_Qi G xc_sh (xc_Z (nb_A xc_sh G.2.1) tb) ro σ) args s 0 0 (nb_A xc_sh G.2.1)) (F0 m 35 ls [])) ?_ N _ _ hf H locs ls hW (lv_sub hl [2, 3, 4, 5, 1, 0] rfl)
        intro ag14 ih15 x12 x13 hf H locs ls hW hl
        refine lv_iload hx hb dX7_since_35 (lv_at hl 5 rfl) ?_
        refine lv_bipush (v := (12 : Int32)) hx hb dX7_since_37 (by decide) ?_
        refine lv_icmp_ge (tgt := 66) hx hb dX7_since_39 (by decide) (fun c16 => ?_) (fun c16 => ?_)
        · rw [if_pos c16] at hf
          refine lv_aload_n hx hb dX7_since_66 rfl (lv_at hl 0 rfl) ?_
          obtain ⟨p17, ep17, hf⟩ := nb_let_e hf
          obtain ⟨hp18, hf⟩ := nb_g_e hf
          refine nb_get (C := RX7) (T := TX7) (N := 9) hx hb hts inT_X7 hown hK hW 0 rfl rfl 3 (by decide) (hts _ tw2_72) (fun _ h9 => h9) rfl (v := .ref (G.2.1 p17)) (by rw [ep17]; rfl) dX7_since_67 ?_
          refine lv_iload_n hx hb dX7_since_70 rfl (lv_at hl 1 rfl) ?_
          refine lv_bipush (v := (30 : Int32)) hx hb dX7_since_71 (by decide) ?_
          refine lv_iload_n hx hb dX7_since_73 rfl (lv_at hl 2 rfl) ?_
          refine lv_imul hx hb dX7_since_74 ?_
          obtain ⟨r20, hc19, hf⟩ := nb_b_e hf
          refine nb_ci hW (va_runV (As := [.int a0, .int ((30 : Int32) * a1)]) (rest := []) ⟨hx, hb, hml, hown, hts⟩ (c_X4_weightOfLooks l hinj hZo (N := N) hc19 hp18) (cwV 2 hts (xg_V tw4_31 tw4_32 tw4_33 tw1_3 tw4_34) rfl rfl rfl (by decide +kernel) ⟨Nat.le_of_ble_eq_true rfl, Nat.le_of_ble_eq_true rfl⟩) (nb_preV hK hZ hZo hW (k := p17) (sx_pty_0 hp18) rfl) rfl rfl hl.1 rfl (lv_room (Nat.le_of_ble_eq_true rfl)) dX7_since_75 ⟨Nat.zero_le _, Nat.zero_le _⟩) (fun H locs hW => ?_)
          refine lv_iload hx hb dX7_since_78 (lv_at hl 4 rfl) ?_
          refine lv_iload_n hx hb dX7_since_80 rfl (lv_at hl 3 rfl) ?_
          obtain ⟨r22, hc21, hf⟩ := nb_b_e hf
          refine nb_ci hW (va_runS (As := [.int r20, .int x12, .int a2]) (rest := []) ⟨hx, hb, hml, hown, hts⟩ (c_X7_inLowestTerms l hinj hZo (N := N) hc21 ) (va_cwS 3 hts (xg_S tw4_20 tw4_21 tw1_1 tw4_22) rfl rfl rfl (by decide +kernel) ⟨Nat.le_of_ble_eq_true rfl, Nat.le_of_ble_eq_true rfl⟩) (nb_preS hK hZ hZo hW) rfl rfl hl.1 rfl (lv_room (Nat.le_of_ble_eq_true rfl)) dX7_since_81 ⟨Nat.zero_le _, Nat.zero_le _⟩) (fun H locs hW => ?_)
          exact nb_rip hx hb hr hlocks hK hZ hZo hW  hf dX7_since_84
        · rw [if_neg c16] at hf
          refine lv_iload hx hb dX7_since_42 (lv_at hl 4 rfl) ?_
          refine lv_aload_n hx hb dX7_since_44 rfl (lv_at hl 0 rfl) ?_
          obtain ⟨p23, ep23, hf⟩ := nb_let_e hf
          obtain ⟨hp24, hf⟩ := nb_g_e hf
          refine nb_get (C := RX7) (T := TX7) (N := 9) hx hb hts inT_X7 hown hK hW 0 rfl rfl 3 (by decide) (hts _ tw2_72) (fun _ h9 => h9) rfl (v := .ref (G.2.1 p23)) (by rw [ep23]; rfl) dX7_since_45 ?_
          refine lv_iload_n hx hb dX7_since_48 rfl (lv_at hl 1 rfl) ?_
          refine lv_bipush (v := (30 : Int32)) hx hb dX7_since_49 (by decide) ?_
          refine lv_iload hx hb dX7_since_51 (lv_at hl 5 rfl) ?_
          refine lv_imul hx hb dX7_since_53 ?_
          obtain ⟨r26, hc25, hf⟩ := nb_b_e hf
          refine nb_ci hW (va_runV (As := [.int a0, .int ((30 : Int32) * x13)]) (rest := [.int x12]) ⟨hx, hb, hml, hown, hts⟩ (c_X4_weightOfLooks l hinj hZo (N := N) hc25 hp24) (cwV 2 hts (xg_V tw4_31 tw4_32 tw4_33 tw1_3 tw4_34) rfl rfl rfl (by decide +kernel) ⟨Nat.le_of_ble_eq_true rfl, Nat.le_of_ble_eq_true rfl⟩) (nb_preV hK hZ hZo hW (k := p23) (sx_pty_0 hp24) rfl) rfl rfl hl.1 rfl (lv_room (Nat.le_of_ble_eq_true rfl)) dX7_since_54 ⟨Nat.zero_le _, Nat.zero_le _⟩) (fun H locs hW => ?_)
          refine lv_iadd hx hb dX7_since_57 ?_
          obtain ⟨x27, ex27, hf⟩ := nb_let_e hf
          refine nb_nami ex27 ?_
          refine lv_istore (lv' := [(4, .int x27), (0, .ref (G.2.1 0)), (1, .int a0), (2, .int a1), (3, .int a2), (5, .int x13)]) hx hb dX7_since_58 hl (by decide) rfl (fun ls hl => ?_)
          refine lv_iinc (v := (x13 + 1)) (lv' := [(5, .int (x13 + 1)), (4, .int x27), (0, .ref (G.2.1 0)), (1, .int a0), (2, .int a1), (3, .int a2)]) hx hb dX7_since_60 hl (k := 5) rfl rfl (by decide) rfl (fun ls hl => ?_)
          refine lv_goto (tgt := 35) hx hb dX7_since_63 (by decide) ?_
          exact ih15 _ _ hf _ _ _ hW (lv_sub hl [2, 3, 4, 5, 1, 0] rfl)
      · rw [if_pos c11] at hf
        exact w4 ()  _ _ _ hf hW (lv_sub hl [] rfl)
def fX7_leftAlone (N : Nat) (σ : nb_St) (a0 : Int32) (a1 : Int32) : Option Int32 :=
  nb_lp1 (R := Int32) (fun ag2 (x1 : Int32) =>
  (if a0 ≤ x1 then
  some (-4 : Int32)
  else
  nb_b (fJ9_floorMod_7cf53 N σ (a1 - x1) a0) fun r6 =>
  (if r6 = x1 then
  some x1
  else
  ag2 (x1 + 1)))) N (0 : Int32)
def rmX7_leftAlone : Room := { frames := 1, cells := 0, slots := 0, locals := 22 }
def vsX7_leftAlone : List Cond := .code yX7_leftAlone cX7_leftAlone 3 (some .int) :: xT
set_option maxHeartbeats 4000000 in
set_option maxRecDepth 100000 in
theorem c_X7_leftAlone (l : Launch) {G : nb_G} {tb : Nat → Nat} (hinj : nb_inj xc_sh G.2.1) (hZo : nb_Zok (nb_A xc_sh G.2.1) (xc_Z (nb_A xc_sh G.2.1) tb)) {N : Nat} {σ : nb_St} {a0 : Int32} {a1 : Int32} {ro : Int32} (hf : fX7_leftAlone N σ a0 a1 = some ro)  : Met l yX7_leftAlone vsX7_leftAlone rmX7_leftAlone (nb_Pc G xc_sh (xc_Z (nb_A xc_sh G.2.1) tb) σ [.int a0, .int a1]) (nb_Qi G xc_sh (xc_Z (nb_A xc_sh G.2.1) tb) ro σ) 0 0 (nb_A xc_sh G.2.1) := by
  refine Met.ofW (cc := cX7_leftAlone) (maxL := 3) (ret := (some .int)) (by decide) rfl ?_
  intro p e s m args below meth c s₁ B hml hv
  obtain ⟨rfl, hP, hK, hZ⟩ := hv
  have hx := B.exec
  have hb := B.bytes
  have hr := B.returns
  have hts : ∀ w ∈ xT, w.before _ s = true := fun w h9 => atoms_spec (ws := vsX7_leftAlone) B.pre w (List.mem_cons_of_mem _ h9)
  have hown : s.vm.findClass RX7 = some m.cls := findClass_of_methodNamed B.named
  have hlocks := B.notSynchronized
  have hW : nb_W G xc_sh s.heap σ s.heap [] := ⟨hP, va_S.rf⟩
  have hl := lv_entry ([.int a0, .int a1]) (n := 3) (Nat.le_of_ble_eq_true rfl)
  rw [lg_entry_eq]
  generalize (lg_sl ([.int a0, .int a1]) ++ List.replicate (3 - (lg_sl ([.int a0, .int a1])).length) Slot.unset).toArray = ls at hl ⊢
  have hl : lv_has ls 3 [(0, .int a0), (1, .int a1)] := hl
  show W p l e rmX7_leftAlone s m ([.int a0, .int a1]).toArray below meth c s.heap [] 0 0 (MQ below (nb_Qi G xc_sh (xc_Z (nb_A xc_sh G.2.1) tb) ro σ) ([.int a0, .int a1]).toArray s 0 0 (nb_A xc_sh G.2.1)) (F0 m 0 ls [])
  generalize hargs : ([.int a0, .int a1] : List Value).toArray = args at hts ⊢
  unfold fX7_leftAlone at hf
  obtain ⟨H, eH⟩ : ∃ H, H = s.heap := ⟨_, rfl⟩
  obtain ⟨locs, eL⟩ : ∃ L : List Loc, L = [] := ⟨_, rfl⟩
  have hW : nb_W G xc_sh s.heap σ H locs := by rw [eH, eL]; exact hW
  suffices hgo : W p l e rmX7_leftAlone s m args below meth c H locs 0 0 (MQ below (nb_Qi G xc_sh (xc_Z (nb_A xc_sh G.2.1) tb) ro σ) args s 0 0 (nb_A xc_sh G.2.1)) (F0 m 0 ls []) by rw [eH, eL] at hgo; exact hgo
  clear eH eL
  refine lv_iconst (v := (0 : Int32)) hx hb dX7_leftAlone_0 (by decide) ?_
  refine lv_istore_n (lv' := [(2, .int (0 : Int32)), (0, .int a0), (1, .int a1)]) hx hb dX7_leftAlone_1 rfl hl (by decide) rfl (fun ls hl => ?_)
  refine nb_w1 (P := fun (x1 : Int32) => ∀ (H : Heap) (locs : List Loc) (ls : Array Slot), nb_W G xc_sh s.heap σ H locs → lv_has ls 3 [(0, .int a0), (1, .int a1), (2, .int x1)] → W p l e rmX7_leftAlone s m args below meth c H locs 0 0 (MQ below (nb_Qi G xc_sh (xc_Z (nb_A xc_sh G.2.1) tb) ro σ) args s 0 0 (nb_A xc_sh G.2.1)) (F0 m 2 ls [])) ?_ N _ hf H locs ls hW (lv_sub hl [1, 2, 0] rfl)
  intro ag2 ih3 x1 hf H locs ls hW hl
  refine lv_iload_n hx hb dX7_leftAlone_2 rfl (lv_at hl 2 rfl) ?_
  refine lv_iload_n hx hb dX7_leftAlone_3 rfl (lv_at hl 0 rfl) ?_
  refine lv_icmp_ge (tgt := 26) hx hb dX7_leftAlone_4 (by decide) (fun c4 => ?_) (fun c4 => ?_)
  · rw [if_pos c4] at hf
    refine lv_bipush (v := (-4 : Int32)) hx hb dX7_leftAlone_26 (by decide) ?_
    exact nb_rip hx hb hr hlocks hK hZ hZo hW  hf dX7_leftAlone_28
  · rw [if_neg c4] at hf
    refine lv_iload_n hx hb dX7_leftAlone_7 rfl (lv_at hl 1 rfl) ?_
    refine lv_iload_n hx hb dX7_leftAlone_8 rfl (lv_at hl 2 rfl) ?_
    refine lv_isub hx hb dX7_leftAlone_9 ?_
    refine lv_iload_n hx hb dX7_leftAlone_10 rfl (lv_at hl 0 rfl) ?_
    obtain ⟨r6, hc5, hf⟩ := nb_b_e hf
    refine nb_ci hW (va_runS (As := [.int (a1 - x1), .int a0]) (rest := []) ⟨hx, hb, hml, hown, hts⟩ (c_J9_floorMod_7cf53 l hinj hZo (N := N) hc5 ) (va_cwS 2 hts (xg_S tw4_45 tw4_46 tw1_9 tw4_47) rfl rfl rfl (by decide +kernel) ⟨Nat.le_of_ble_eq_true rfl, Nat.le_of_ble_eq_true rfl⟩) (nb_preS hK hZ hZo hW) rfl rfl hl.1 rfl (lv_room (Nat.le_of_ble_eq_true rfl)) dX7_leftAlone_11 ⟨Nat.zero_le _, Nat.zero_le _⟩) (fun H locs hW => ?_)
    refine lv_iload_n hx hb dX7_leftAlone_14 rfl (lv_at hl 2 rfl) ?_
    refine lv_icmp_ne (tgt := 20) hx hb dX7_leftAlone_15 (by decide) (fun c7 => ?_) (fun c7 => ?_)
    · rw [if_neg c7] at hf
      refine lv_iinc (v := (x1 + 1)) (lv' := [(2, .int (x1 + 1)), (0, .int a0), (1, .int a1)]) hx hb dX7_leftAlone_20 hl (k := 2) rfl rfl (by decide) rfl (fun ls hl => ?_)
      refine lv_goto (tgt := 2) hx hb dX7_leftAlone_23 (by decide) ?_
      exact ih3 _ hf _ _ _ hW (lv_sub hl [1, 2, 0] rfl)
    · rw [if_pos c7] at hf
      refine lv_iload_n hx hb dX7_leftAlone_18 rfl (lv_at hl 2 rfl) ?_
      exact nb_rip hx hb hr hlocks hK hZ hZo hW  hf dX7_leftAlone_19
def fX7_leave (N : Nat) (σ : nb_St) (a0 : Int32) (a1 : Int32) (a2 : Int32) : Option Int32 :=
  nb_b (fX7_within N σ a0 (2 : Int32) (20 : Int32)) fun r2 =>
  (if r2 = 0 then
  some (-1 : Int32)
  else
  nb_let (fun (v6 : Int32) =>
  nb_b (fX7_within N σ a1 (0 : Int32) (v6 - (1 : Int32))) fun r8 =>
  nb_let (fun (_u : Unit) =>
  some (-1 : Int32)) fun k9 =>
  (if r8 = 0 then
  k9 ()
  else
  nb_b (fX7_within N σ a2 (0 : Int32) (a0 - (1 : Int32))) fun r13 =>
  (if r13 = 0 then
  k9 ()
  else
  (if a2 = v6 then
  nb_b (fX7_leftAlone N σ v6 a1) fun r21 =>
  some r21
  else
  nb_b (fJ9_floorMod_7cf53 N σ (a1 - a2) v6) fun r17 =>
  (if r17 = a2 then
  (if a0 = v6 then
  some (-4 : Int32)
  else
  some (a0 - (1 : Int32)))
  else
  some r17))))) fun k4 =>
  (if (nb_rem a0 (2 : Int32)) = 0 then
  k4 (a0 - (1 : Int32))
  else
  k4 a0))
def rmX7_leave : Room := { frames := 2, cells := 0, slots := 0, locals := 44 }
def vsX7_leave : List Cond := .code yX7_leave cX7_leave 6 (some .int) :: xT
set_option maxHeartbeats 4000000 in
set_option maxRecDepth 100000 in
theorem c_X7_leave (l : Launch) {G : nb_G} {tb : Nat → Nat} (hinj : nb_inj xc_sh G.2.1) (hZo : nb_Zok (nb_A xc_sh G.2.1) (xc_Z (nb_A xc_sh G.2.1) tb)) {N : Nat} {σ : nb_St} {a0 : Int32} {a1 : Int32} {a2 : Int32} {ro : Int32} (hf : fX7_leave N σ a0 a1 a2 = some ro)  : Met l yX7_leave vsX7_leave rmX7_leave (nb_Pc G xc_sh (xc_Z (nb_A xc_sh G.2.1) tb) σ [.ref (G.2.1 0), .int a0, .int a1, .int a2]) (nb_Qi G xc_sh (xc_Z (nb_A xc_sh G.2.1) tb) ro σ) 0 0 (nb_A xc_sh G.2.1) := by
  refine Met.ofW (cc := cX7_leave) (maxL := 6) (ret := (some .int)) (by decide) rfl ?_
  intro p e s m args below meth c s₁ B hml hv
  obtain ⟨rfl, hP, hK, hZ⟩ := hv
  have hx := B.exec
  have hb := B.bytes
  have hr := B.returns
  have hts : ∀ w ∈ xT, w.before _ s = true := fun w h9 => atoms_spec (ws := vsX7_leave) B.pre w (List.mem_cons_of_mem _ h9)
  have hown : s.vm.findClass RX7 = some m.cls := findClass_of_methodNamed B.named
  have hlocks := B.notSynchronized
  have hW : nb_W G xc_sh s.heap σ s.heap [] := ⟨hP, va_S.rf⟩
  have hl := lv_entry ([.ref (G.2.1 0), .int a0, .int a1, .int a2]) (n := 6) (Nat.le_of_ble_eq_true rfl)
  rw [lg_entry_eq]
  generalize (lg_sl ([.ref (G.2.1 0), .int a0, .int a1, .int a2]) ++ List.replicate (6 - (lg_sl ([.ref (G.2.1 0), .int a0, .int a1, .int a2])).length) Slot.unset).toArray = ls at hl ⊢
  have hl : lv_has ls 6 [(0, .ref (G.2.1 0)), (1, .int a0), (2, .int a1), (3, .int a2)] := hl
  show W p l e rmX7_leave s m ([.ref (G.2.1 0), .int a0, .int a1, .int a2]).toArray below meth c s.heap [] 0 0 (MQ below (nb_Qi G xc_sh (xc_Z (nb_A xc_sh G.2.1) tb) ro σ) ([.ref (G.2.1 0), .int a0, .int a1, .int a2]).toArray s 0 0 (nb_A xc_sh G.2.1)) (F0 m 0 ls [])
  generalize hargs : ([.ref (G.2.1 0), .int a0, .int a1, .int a2] : List Value).toArray = args at hts ⊢
  unfold fX7_leave at hf
  obtain ⟨H, eH⟩ : ∃ H, H = s.heap := ⟨_, rfl⟩
  obtain ⟨locs, eL⟩ : ∃ L : List Loc, L = [] := ⟨_, rfl⟩
  have hW : nb_W G xc_sh s.heap σ H locs := by rw [eH, eL]; exact hW
  suffices hgo : W p l e rmX7_leave s m args below meth c H locs 0 0 (MQ below (nb_Qi G xc_sh (xc_Z (nb_A xc_sh G.2.1) tb) ro σ) args s 0 0 (nb_A xc_sh G.2.1)) (F0 m 0 ls []) by rw [eH, eL] at hgo; exact hgo
  clear eH eL
  refine lv_iload_n hx hb dX7_leave_0 rfl (lv_at hl 1 rfl) ?_
  refine lv_iconst (v := (2 : Int32)) hx hb dX7_leave_1 (by decide) ?_
  refine lv_bipush (v := (20 : Int32)) hx hb dX7_leave_2 (by decide) ?_
  obtain ⟨r2, hc1, hf⟩ := nb_b_e hf
  refine nb_ci hW (va_runS (As := [.int a0, .int (2 : Int32), .int (20 : Int32)]) (rest := []) ⟨hx, hb, hml, hown, hts⟩ (c_X7_within l hinj hZo (N := N) hc1 ) (va_cwS 3 hts (xg_S tw2_101 tw2_102 tw1_1 tw2_103) rfl rfl rfl (by decide +kernel) ⟨Nat.le_of_ble_eq_true rfl, Nat.le_of_ble_eq_true rfl⟩) (nb_preS hK hZ hZo hW) rfl rfl hl.1 rfl (lv_room (Nat.le_of_ble_eq_true rfl)) dX7_leave_4 ⟨Nat.zero_le _, Nat.zero_le _⟩) (fun H locs hW => ?_)
  refine lv_if_ne (tgt := 12) hx hb dX7_leave_7 (by decide) (fun c3 => ?_) (fun c3 => ?_)
  · rw [if_neg c3] at hf
    refine lv_iload_n hx hb dX7_leave_12 rfl (lv_at hl 1 rfl) ?_
    refine lv_iconst (v := (2 : Int32)) hx hb dX7_leave_13 (by decide) ?_
    refine nb_irem hx hb dX7_leave_14 (by decide) ?_
    obtain ⟨k4, ek4, hf⟩ := nb_let_e hf
    have w5 : ∀ (v6 : Int32) (H : Heap) (locs : List Loc) (ls : Array Slot), k4 v6 = some ro → nb_W G xc_sh s.heap σ H locs → lv_has ls 6 [(1, .int a0), (2, .int a1), (3, .int a2)] → W p l e rmX7_leave s m args below meth c H locs 0 0 (MQ below (nb_Qi G xc_sh (xc_Z (nb_A xc_sh G.2.1) tb) ro σ) args s 0 0 (nb_A xc_sh G.2.1)) (F0 m 25 ls [.int v6]) := by
      intro v6 H locs ls hf hW hl
      have hf := (congrFun ek4 v6).symm.trans hf
      refine lv_istore (lv' := [(4, .int v6), (1, .int a0), (2, .int a1), (3, .int a2)]) hx hb dX7_leave_25 hl (by decide) rfl (fun ls hl => ?_)
      refine lv_iload_n hx hb dX7_leave_27 rfl (lv_at hl 2 rfl) ?_
      refine lv_iconst (v := (0 : Int32)) hx hb dX7_leave_28 (by decide) ?_
      refine lv_iload hx hb dX7_leave_29 (lv_at hl 0 rfl) ?_
      refine lv_iconst (v := (1 : Int32)) hx hb dX7_leave_31 (by decide) ?_
      refine lv_isub hx hb dX7_leave_32 ?_
      obtain ⟨r8, hc7, hf⟩ := nb_b_e hf
      refine nb_ci hW (va_runS (As := [.int a1, .int (0 : Int32), .int (v6 - (1 : Int32))]) (rest := []) ⟨hx, hb, hml, hown, hts⟩ (c_X7_within l hinj hZo (N := N) hc7 ) (va_cwS 3 hts (xg_S tw2_101 tw2_102 tw1_1 tw2_103) rfl rfl rfl (by decide +kernel) ⟨Nat.le_of_ble_eq_true rfl, Nat.le_of_ble_eq_true rfl⟩) (nb_preS hK hZ hZo hW) rfl rfl hl.1 rfl (lv_room (Nat.le_of_ble_eq_true rfl)) dX7_leave_33 ⟨Nat.zero_le _, Nat.zero_le _⟩) (fun H locs hW => ?_)
      obtain ⟨k9, ek9, hf⟩ := nb_let_e hf
      have w10 : ∀ (_u : Unit) (H : Heap) (locs : List Loc) (ls : Array Slot), k9 _u = some ro → nb_W G xc_sh s.heap σ H locs → lv_has ls 6 [] → W p l e rmX7_leave s m args below meth c H locs 0 0 (MQ below (nb_Qi G xc_sh (xc_Z (nb_A xc_sh G.2.1) tb) ro σ) args s 0 0 (nb_A xc_sh G.2.1)) (F0 m 50 ls []) := by
        intro _u H locs ls hf hW hl
        have hf := (congrFun ek9 _u).symm.trans hf
        refine lv_iconst (v := (-1 : Int32)) hx hb dX7_leave_50 (by decide) ?_
        exact nb_rip hx hb hr hlocks hK hZ hZo hW  hf dX7_leave_51
      clear ek9
      refine lv_if_eq (tgt := 50) hx hb dX7_leave_36 (by decide) (fun c11 => ?_) (fun c11 => ?_)
      · rw [if_pos c11] at hf
        exact w10 ()  _ _ _ hf hW (lv_sub hl [] rfl)
      · rw [if_neg c11] at hf
        refine lv_iload_n hx hb dX7_leave_39 rfl (lv_at hl 3 rfl) ?_
        refine lv_iconst (v := (0 : Int32)) hx hb dX7_leave_40 (by decide) ?_
        refine lv_iload_n hx hb dX7_leave_41 rfl (lv_at hl 1 rfl) ?_
        refine lv_iconst (v := (1 : Int32)) hx hb dX7_leave_42 (by decide) ?_
        refine lv_isub hx hb dX7_leave_43 ?_
        obtain ⟨r13, hc12, hf⟩ := nb_b_e hf
        refine nb_ci hW (va_runS (As := [.int a2, .int (0 : Int32), .int (a0 - (1 : Int32))]) (rest := []) ⟨hx, hb, hml, hown, hts⟩ (c_X7_within l hinj hZo (N := N) hc12 ) (va_cwS 3 hts (xg_S tw2_101 tw2_102 tw1_1 tw2_103) rfl rfl rfl (by decide +kernel) ⟨Nat.le_of_ble_eq_true rfl, Nat.le_of_ble_eq_true rfl⟩) (nb_preS hK hZ hZo hW) rfl rfl hl.1 rfl (lv_room (Nat.le_of_ble_eq_true rfl)) dX7_leave_44 ⟨Nat.zero_le _, Nat.zero_le _⟩) (fun H locs hW => ?_)
        refine lv_if_ne (tgt := 52) hx hb dX7_leave_47 (by decide) (fun c14 => ?_) (fun c14 => ?_)
        · rw [if_neg c14] at hf
          refine lv_iload_n hx hb dX7_leave_52 rfl (lv_at hl 3 rfl) ?_
          refine lv_iload hx hb dX7_leave_53 (lv_at hl 0 rfl) ?_
          refine lv_icmp_ne (tgt := 65) hx hb dX7_leave_55 (by decide) (fun c15 => ?_) (fun c15 => ?_)
          · rw [if_neg c15] at hf
            refine lv_iload_n hx hb dX7_leave_65 rfl (lv_at hl 2 rfl) ?_
            refine lv_iload_n hx hb dX7_leave_66 rfl (lv_at hl 3 rfl) ?_
            refine lv_isub hx hb dX7_leave_67 ?_
            refine lv_iload hx hb dX7_leave_68 (lv_at hl 0 rfl) ?_
            obtain ⟨r17, hc16, hf⟩ := nb_b_e hf
            refine nb_ci hW (va_runS (As := [.int (a1 - a2), .int v6]) (rest := []) ⟨hx, hb, hml, hown, hts⟩ (c_J9_floorMod_7cf53 l hinj hZo (N := N) hc16 ) (va_cwS 2 hts (xg_S tw4_45 tw4_46 tw1_9 tw4_47) rfl rfl rfl (by decide +kernel) ⟨Nat.le_of_ble_eq_true rfl, Nat.le_of_ble_eq_true rfl⟩) (nb_preS hK hZ hZo hW) rfl rfl hl.1 rfl (lv_room (Nat.le_of_ble_eq_true rfl)) dX7_leave_70 ⟨Nat.zero_le _, Nat.zero_le _⟩) (fun H locs hW => ?_)
            refine lv_istore (lv' := [(5, .int r17), (4, .int v6), (1, .int a0), (2, .int a1), (3, .int a2)]) hx hb dX7_leave_73 hl (by decide) rfl (fun ls hl => ?_)
            refine lv_iload hx hb dX7_leave_75 (lv_at hl 0 rfl) ?_
            refine lv_iload_n hx hb dX7_leave_77 rfl (lv_at hl 4 rfl) ?_
            refine lv_icmp_eq (tgt := 84) hx hb dX7_leave_78 (by decide) (fun c18 => ?_) (fun c18 => ?_)
            · rw [if_pos c18] at hf
              refine lv_iload_n hx hb dX7_leave_84 rfl (lv_at hl 2 rfl) ?_
              refine lv_iload hx hb dX7_leave_85 (lv_at hl 1 rfl) ?_
              refine lv_icmp_ne (tgt := 95) hx hb dX7_leave_87 (by decide) (fun c19 => ?_) (fun c19 => ?_)
              · rw [if_neg c19] at hf
                refine lv_iload_n hx hb dX7_leave_95 rfl (lv_at hl 2 rfl) ?_
                refine lv_iconst (v := (1 : Int32)) hx hb dX7_leave_96 (by decide) ?_
                refine lv_isub hx hb dX7_leave_97 ?_
                exact nb_rip hx hb hr hlocks hK hZ hZo hW  hf dX7_leave_98
              · rw [if_pos c19] at hf
                refine lv_bipush (v := (-4 : Int32)) hx hb dX7_leave_90 (by decide) ?_
                refine lv_goto (tgt := 98) hx hb dX7_leave_92 (by decide) ?_
                exact nb_rip hx hb hr hlocks hK hZ hZo hW  hf dX7_leave_98
            · rw [if_neg c18] at hf
              refine lv_iload hx hb dX7_leave_81 (lv_at hl 0 rfl) ?_
              exact nb_rip hx hb hr hlocks hK hZ hZo hW  hf dX7_leave_83
          · rw [if_pos c15] at hf
            refine lv_iload hx hb dX7_leave_58 (lv_at hl 0 rfl) ?_
            refine lv_iload_n hx hb dX7_leave_60 rfl (lv_at hl 2 rfl) ?_
            obtain ⟨r21, hc20, hf⟩ := nb_b_e hf
            refine nb_ci hW (va_runS (As := [.int v6, .int a1]) (rest := []) ⟨hx, hb, hml, hown, hts⟩ (c_X7_leftAlone l hinj hZo (N := N) hc20 ) (va_cwS 2 hts (xg_S tw4_42 tw4_43 tw1_1 tw4_44) rfl rfl rfl (by decide +kernel) ⟨Nat.le_of_ble_eq_true rfl, Nat.le_of_ble_eq_true rfl⟩) (nb_preS hK hZ hZo hW) rfl rfl hl.1 rfl (lv_room (Nat.le_of_ble_eq_true rfl)) dX7_leave_61 ⟨Nat.zero_le _, Nat.zero_le _⟩) (fun H locs hW => ?_)
            exact nb_rip hx hb hr hlocks hK hZ hZo hW  hf dX7_leave_64
        · rw [if_pos c14] at hf
          exact w10 ()  _ _ _ hf hW (lv_sub hl [] rfl)
    clear ek4
    refine lv_if_ne (tgt := 24) hx hb dX7_leave_15 (by decide) (fun c22 => ?_) (fun c22 => ?_)
    · rw [if_neg c22] at hf
      refine lv_iload_n hx hb dX7_leave_24 rfl (lv_at hl 1 rfl) ?_
      exact w5 _ _ _ _ hf hW (lv_sub hl [1, 2, 3] rfl)
    · rw [if_pos c22] at hf
      refine lv_iload_n hx hb dX7_leave_18 rfl (lv_at hl 1 rfl) ?_
      refine lv_iconst (v := (1 : Int32)) hx hb dX7_leave_19 (by decide) ?_
      refine lv_isub hx hb dX7_leave_20 ?_
      refine lv_goto (tgt := 25) hx hb dX7_leave_21 (by decide) ?_
      exact w5 _ _ _ _ hf hW (lv_sub hl [1, 2, 3] rfl)
  · rw [if_pos c3] at hf
    refine lv_iconst (v := (-1 : Int32)) hx hb dX7_leave_10 (by decide) ?_
    exact nb_rip hx hb hr hlocks hK hZ hZo hW  hf dX7_leave_11
def fX7_drawn (N : Nat) (σ : nb_St) (a0 : Int32) (a1 : Int32) : Option (Int32 × nb_St) :=
  nb_b (fX7_within N σ a0 (0 : Int32) (9999 : Int32)) fun r2 =>
  nb_let (fun (_u : Unit) =>
  some ((-1 : Int32), σ)) fun k3 =>
  (if r2 = 0 then
  k3 ()
  else
  nb_b (fX7_within N σ a1 (0 : Int32) (1 : Int32)) fun r7 =>
  (if r7 = 0 then
  k3 ()
  else
  nb_let (nb_ix (σ 0 3)) fun p9 =>
  nb_g (xc_pty p9) (
  nb_b (fX0_prepare N σ p9) fun σ12 =>
  nb_b (fX0_drawWhoHears N σ12 a0) fun σ14 =>
  nb_b (fX0_pass N σ14) fun σ16 =>
  (if a1 = 0 then
  nb_b (fX0_lastGoes N σ16) fun r21 =>
  some (r21, σ16)
  else
  nb_b (fX0_wastedByAll N σ16) fun r19 =>
  some (r19, σ16)))))
def rmX7_drawn : Room := { frames := 6, cells := 0, slots := 0, locals := 139 }
def vsX7_drawn : List Cond := .code yX7_drawn cX7_drawn 3 (some .int) :: xT
set_option maxHeartbeats 4000000 in
set_option maxRecDepth 100000 in
theorem c_X7_drawn (l : Launch) {G : nb_G} {tb : Nat → Nat} (hinj : nb_inj xc_sh G.2.1) (hZo : nb_Zok (nb_A xc_sh G.2.1) (xc_Z (nb_A xc_sh G.2.1) tb)) {N : Nat} {σ : nb_St} {a0 : Int32} {a1 : Int32} {ro : Int32} {σo : nb_St} (hf : fX7_drawn N σ a0 a1 = some (ro, σo))  : Met l yX7_drawn vsX7_drawn rmX7_drawn (nb_Pc G xc_sh (xc_Z (nb_A xc_sh G.2.1) tb) σ [.ref (G.2.1 0), .int a0, .int a1]) (nb_Qi G xc_sh (xc_Z (nb_A xc_sh G.2.1) tb) ro σo) 0 0 (nb_A xc_sh G.2.1) := by
  refine Met.ofW (cc := cX7_drawn) (maxL := 3) (ret := (some .int)) (by decide) rfl ?_
  intro p e s m args below meth c s₁ B hml hv
  obtain ⟨rfl, hP, hK, hZ⟩ := hv
  have hx := B.exec
  have hb := B.bytes
  have hr := B.returns
  have hts : ∀ w ∈ xT, w.before _ s = true := fun w h9 => atoms_spec (ws := vsX7_drawn) B.pre w (List.mem_cons_of_mem _ h9)
  have hown : s.vm.findClass RX7 = some m.cls := findClass_of_methodNamed B.named
  have hlocks := B.notSynchronized
  have hW : nb_W G xc_sh s.heap σ s.heap [] := ⟨hP, va_S.rf⟩
  have hl := lv_entry ([.ref (G.2.1 0), .int a0, .int a1]) (n := 3) (Nat.le_of_ble_eq_true rfl)
  rw [lg_entry_eq]
  generalize (lg_sl ([.ref (G.2.1 0), .int a0, .int a1]) ++ List.replicate (3 - (lg_sl ([.ref (G.2.1 0), .int a0, .int a1])).length) Slot.unset).toArray = ls at hl ⊢
  have hl : lv_has ls 3 [(0, .ref (G.2.1 0)), (1, .int a0), (2, .int a1)] := hl
  show W p l e rmX7_drawn s m ([.ref (G.2.1 0), .int a0, .int a1]).toArray below meth c s.heap [] 0 0 (MQ below (nb_Qi G xc_sh (xc_Z (nb_A xc_sh G.2.1) tb) ro σo) ([.ref (G.2.1 0), .int a0, .int a1]).toArray s 0 0 (nb_A xc_sh G.2.1)) (F0 m 0 ls [])
  generalize hargs : ([.ref (G.2.1 0), .int a0, .int a1] : List Value).toArray = args at hts ⊢
  unfold fX7_drawn at hf
  obtain ⟨H, eH⟩ : ∃ H, H = s.heap := ⟨_, rfl⟩
  obtain ⟨locs, eL⟩ : ∃ L : List Loc, L = [] := ⟨_, rfl⟩
  have hW : nb_W G xc_sh s.heap σ H locs := by rw [eH, eL]; exact hW
  suffices hgo : W p l e rmX7_drawn s m args below meth c H locs 0 0 (MQ below (nb_Qi G xc_sh (xc_Z (nb_A xc_sh G.2.1) tb) ro σo) args s 0 0 (nb_A xc_sh G.2.1)) (F0 m 0 ls []) by rw [eH, eL] at hgo; exact hgo
  clear eH eL
  refine lv_iload_n hx hb dX7_drawn_0 rfl (lv_at hl 1 rfl) ?_
  refine lv_iconst (v := (0 : Int32)) hx hb dX7_drawn_1 (by decide) ?_
  refine lv_sipush (v := (9999 : Int32)) hx hb dX7_drawn_2 (by decide) ?_
  obtain ⟨r2, hc1, hf⟩ := nb_b_e hf
  refine nb_ci hW (va_runS (As := [.int a0, .int (0 : Int32), .int (9999 : Int32)]) (rest := []) ⟨hx, hb, hml, hown, hts⟩ (c_X7_within l hinj hZo (N := N) hc1 ) (va_cwS 3 hts (xg_S tw2_101 tw2_102 tw1_1 tw2_103) rfl rfl rfl (by decide +kernel) ⟨Nat.le_of_ble_eq_true rfl, Nat.le_of_ble_eq_true rfl⟩) (nb_preS hK hZ hZo hW) rfl rfl hl.1 rfl (lv_room (Nat.le_of_ble_eq_true rfl)) dX7_drawn_5 ⟨Nat.zero_le _, Nat.zero_le _⟩) (fun H locs hW => ?_)
  obtain ⟨k3, ek3, hf⟩ := nb_let_e hf
  have w4 : ∀ (_u : Unit) (H : Heap) (locs : List Loc) (ls : Array Slot), k3 _u = some (ro, σo) → nb_W G xc_sh s.heap σ H locs → lv_has ls 3 [] → W p l e rmX7_drawn s m args below meth c H locs 0 0 (MQ below (nb_Qi G xc_sh (xc_Z (nb_A xc_sh G.2.1) tb) ro σo) args s 0 0 (nb_A xc_sh G.2.1)) (F0 m 20 ls []) := by
    intro _u H locs ls hf hW hl
    have hf := (congrFun ek3 _u).symm.trans hf
    refine lv_iconst (v := (-1 : Int32)) hx hb dX7_drawn_20 (by decide) ?_
    exact nb_ri hx hb hr hlocks hK hZ hZo hW  hf dX7_drawn_21
  clear ek3
  refine lv_if_eq (tgt := 20) hx hb dX7_drawn_8 (by decide) (fun c5 => ?_) (fun c5 => ?_)
  · rw [if_pos c5] at hf
    exact w4 ()  _ _ _ hf hW (lv_sub hl [] rfl)
  · rw [if_neg c5] at hf
    refine lv_iload_n hx hb dX7_drawn_11 rfl (lv_at hl 2 rfl) ?_
    refine lv_iconst (v := (0 : Int32)) hx hb dX7_drawn_12 (by decide) ?_
    refine lv_iconst (v := (1 : Int32)) hx hb dX7_drawn_13 (by decide) ?_
    obtain ⟨r7, hc6, hf⟩ := nb_b_e hf
    refine nb_ci hW (va_runS (As := [.int a1, .int (0 : Int32), .int (1 : Int32)]) (rest := []) ⟨hx, hb, hml, hown, hts⟩ (c_X7_within l hinj hZo (N := N) hc6 ) (va_cwS 3 hts (xg_S tw2_101 tw2_102 tw1_1 tw2_103) rfl rfl rfl (by decide +kernel) ⟨Nat.le_of_ble_eq_true rfl, Nat.le_of_ble_eq_true rfl⟩) (nb_preS hK hZ hZo hW) rfl rfl hl.1 rfl (lv_room (Nat.le_of_ble_eq_true rfl)) dX7_drawn_14 ⟨Nat.zero_le _, Nat.zero_le _⟩) (fun H locs hW => ?_)
    refine lv_if_ne (tgt := 22) hx hb dX7_drawn_17 (by decide) (fun c8 => ?_) (fun c8 => ?_)
    · rw [if_neg c8] at hf
      refine lv_aload_n hx hb dX7_drawn_22 rfl (lv_at hl 0 rfl) ?_
      refine nb_get (C := RX7) (T := TX7) (N := 9) hx hb hts inT_X7 hown hK hW 0 rfl rfl 5 (by decide) (hts _ tw2_74) (fun _ h9 => h9) rfl (v := .ref (G.2.1 36)) rfl dX7_drawn_23 ?_
      refine lv_aload_n hx hb dX7_drawn_26 rfl (lv_at hl 0 rfl) ?_
      obtain ⟨p9, ep9, hf⟩ := nb_let_e hf
      obtain ⟨hp10, hf⟩ := nb_g_e hf
      refine nb_get (C := RX7) (T := TX7) (N := 9) hx hb hts inT_X7 hown hK hW 0 rfl rfl 3 (by decide) (hts _ tw2_72) (fun _ h9 => h9) rfl (v := .ref (G.2.1 p9)) (by rw [ep9]; rfl) dX7_drawn_27 ?_
      obtain ⟨σ12, hc11, hf⟩ := nb_b_e hf
      refine nb_cv hW (va_runV (As := [.ref (G.2.1 p9)]) (rest := []) ⟨hx, hb, hml, hown, hts⟩ (c_X0_prepare l hinj hZo (N := N) hc11 hp10) (cwV 1 hts (xg_V tw3_44 tw3_45 tw3_46 tw1_5 tw3_47) rfl rfl rfl (by decide +kernel) ⟨Nat.le_of_ble_eq_true rfl, Nat.le_of_ble_eq_true rfl⟩) (nb_preV hK hZ hZo hW (k := 36) rfl rfl) rfl rfl hl.1 rfl (lv_room (Nat.le_of_ble_eq_true rfl)) dX7_drawn_30 ⟨Nat.zero_le _, Nat.zero_le _⟩) (fun H locs hW => ?_)
      refine lv_aload_n hx hb dX7_drawn_33 rfl (lv_at hl 0 rfl) ?_
      refine nb_get (C := RX7) (T := TX7) (N := 9) hx hb hts inT_X7 hown hK hW 0 rfl rfl 5 (by decide) (hts _ tw2_74) (fun _ h9 => h9) rfl (v := .ref (G.2.1 36)) rfl dX7_drawn_34 ?_
      refine lv_iload_n hx hb dX7_drawn_37 rfl (lv_at hl 1 rfl) ?_
      obtain ⟨σ14, hc13, hf⟩ := nb_b_e hf
      refine nb_cv hW (va_runV (As := [.int a0]) (rest := []) ⟨hx, hb, hml, hown, hts⟩ (c_X0_drawWhoHears l hinj hZo (N := N) hc13 ) (cwV 1 hts (xg_V tw4_52 tw4_53 tw4_54 tw1_5 tw4_55) rfl rfl rfl (by decide +kernel) ⟨Nat.le_of_ble_eq_true rfl, Nat.le_of_ble_eq_true rfl⟩) (nb_preV hK hZ hZo hW (k := 36) rfl rfl) rfl rfl hl.1 rfl (lv_room (Nat.le_of_ble_eq_true rfl)) dX7_drawn_38 ⟨Nat.zero_le _, Nat.zero_le _⟩) (fun H locs hW => ?_)
      refine lv_aload_n hx hb dX7_drawn_41 rfl (lv_at hl 0 rfl) ?_
      refine nb_get (C := RX7) (T := TX7) (N := 9) hx hb hts inT_X7 hown hK hW 0 rfl rfl 5 (by decide) (hts _ tw2_74) (fun _ h9 => h9) rfl (v := .ref (G.2.1 36)) rfl dX7_drawn_42 ?_
      obtain ⟨σ16, hc15, hf⟩ := nb_b_e hf
      refine nb_cv hW (va_runV (As := []) (rest := []) ⟨hx, hb, hml, hown, hts⟩ (c_X0_pass l hinj hZo (N := N) hc15 ) (cwV 0 hts (xg_V tw3_52 tw3_53 tw3_54 tw1_5 tw3_55) rfl rfl rfl (by decide +kernel) ⟨Nat.le_of_ble_eq_true rfl, Nat.le_of_ble_eq_true rfl⟩) (nb_preV hK hZ hZo hW (k := 36) rfl rfl) rfl rfl hl.1 rfl (lv_room (Nat.le_of_ble_eq_true rfl)) dX7_drawn_45 ⟨Nat.zero_le _, Nat.zero_le _⟩) (fun H locs hW => ?_)
      refine lv_iload_n hx hb dX7_drawn_48 rfl (lv_at hl 2 rfl) ?_
      refine lv_if_ne (tgt := 62) hx hb dX7_drawn_49 (by decide) (fun c17 => ?_) (fun c17 => ?_)
      · rw [if_neg c17] at hf
        refine lv_aload_n hx hb dX7_drawn_62 rfl (lv_at hl 0 rfl) ?_
        refine nb_get (C := RX7) (T := TX7) (N := 9) hx hb hts inT_X7 hown hK hW 0 rfl rfl 5 (by decide) (hts _ tw2_74) (fun _ h9 => h9) rfl (v := .ref (G.2.1 36)) rfl dX7_drawn_63 ?_
        obtain ⟨r19, hc18, hf⟩ := nb_b_e hf
        refine nb_ci hW (va_runV (As := []) (rest := []) ⟨hx, hb, hml, hown, hts⟩ (c_X0_wastedByAll l hinj hZo (N := N) hc18 ) (cwV 0 hts (xg_V tw3_119 tw3_120 tw3_121 tw1_5 tw3_122) rfl rfl rfl (by decide +kernel) ⟨Nat.le_of_ble_eq_true rfl, Nat.le_of_ble_eq_true rfl⟩) (nb_preV hK hZ hZo hW (k := 36) rfl rfl) rfl rfl hl.1 rfl (lv_room (Nat.le_of_ble_eq_true rfl)) dX7_drawn_66 ⟨Nat.zero_le _, Nat.zero_le _⟩) (fun H locs hW => ?_)
        exact nb_ri hx hb hr hlocks hK hZ hZo hW  hf dX7_drawn_69
      · rw [if_pos c17] at hf
        refine lv_aload_n hx hb dX7_drawn_52 rfl (lv_at hl 0 rfl) ?_
        refine nb_get (C := RX7) (T := TX7) (N := 9) hx hb hts inT_X7 hown hK hW 0 rfl rfl 5 (by decide) (hts _ tw2_74) (fun _ h9 => h9) rfl (v := .ref (G.2.1 36)) rfl dX7_drawn_53 ?_
        obtain ⟨r21, hc20, hf⟩ := nb_b_e hf
        refine nb_ci hW (va_runV (As := []) (rest := []) ⟨hx, hb, hml, hown, hts⟩ (c_X0_lastGoes l hinj hZo (N := N) hc20 ) (cwV 0 hts (xg_V tw4_60 tw3_128 tw3_129 tw1_5 tw3_130) rfl rfl rfl (by decide +kernel) ⟨Nat.le_of_ble_eq_true rfl, Nat.le_of_ble_eq_true rfl⟩) (nb_preV hK hZ hZo hW (k := 36) rfl rfl) rfl rfl hl.1 rfl (lv_room (Nat.le_of_ble_eq_true rfl)) dX7_drawn_56 ⟨Nat.zero_le _, Nat.zero_le _⟩) (fun H locs hW => ?_)
        refine lv_goto (tgt := 69) hx hb dX7_drawn_59 (by decide) ?_
        exact nb_ri hx hb hr hlocks hK hZ hZo hW  hf dX7_drawn_69
    · rw [if_pos c8] at hf
      exact w4 ()  _ _ _ hf hW (lv_sub hl [] rfl)
def fX7_sign (N : Nat) (σ : nb_St) (a0 : Int32) (a1 : Int32) : Option (Int32 × nb_St) :=
  nb_b (fX7_within N σ a0 (0 : Int32) (359 : Int32)) fun r2 =>
  nb_let (fun (_u : Unit) =>
  some ((-1 : Int32), σ)) fun k3 =>
  (if r2 = 0 then
  k3 ()
  else
  nb_b (fX7_within N σ a1 (1 : Int32) (99 : Int32)) fun r7 =>
  (if r7 = 0 then
  k3 ()
  else
  nb_let (nb_ix (σ 0 3)) fun p9 =>
  nb_g (xc_pty p9) (
  nb_b2 (fX6_addSign N σ (p9 + 5) a0 a1) fun r12 σ13 =>
  (if r12 = 0 then
  some ((-3 : Int32), σ13)
  else
  nb_b (fX3_note N σ13 (1 : Int32)) fun σ16 =>
  nb_let (nb_st σ16 61 0 (0 : Int32)) fun σ17 =>
  nb_let (nb_ix (σ17 0 3)) fun p18 =>
  nb_g (xc_pty p18) (
  some ((σ17 (p18 + 5) 0), σ17))))))
def rmX7_sign : Room := { frames := 1, cells := 0, slots := 0, locals := 22 }
def vsX7_sign : List Cond := .code yX7_sign cX7_sign 3 (some .int) :: xT
set_option maxHeartbeats 4000000 in
set_option maxRecDepth 100000 in
theorem c_X7_sign (l : Launch) {G : nb_G} {tb : Nat → Nat} (hinj : nb_inj xc_sh G.2.1) (hZo : nb_Zok (nb_A xc_sh G.2.1) (xc_Z (nb_A xc_sh G.2.1) tb)) {N : Nat} {σ : nb_St} {a0 : Int32} {a1 : Int32} {ro : Int32} {σo : nb_St} (hf : fX7_sign N σ a0 a1 = some (ro, σo))  : Met l yX7_sign vsX7_sign rmX7_sign (nb_Pc G xc_sh (xc_Z (nb_A xc_sh G.2.1) tb) σ [.ref (G.2.1 0), .int a0, .int a1]) (nb_Qi G xc_sh (xc_Z (nb_A xc_sh G.2.1) tb) ro σo) 0 0 (nb_A xc_sh G.2.1) := by
  refine Met.ofW (cc := cX7_sign) (maxL := 3) (ret := (some .int)) (by decide) rfl ?_
  intro p e s m args below meth c s₁ B hml hv
  obtain ⟨rfl, hP, hK, hZ⟩ := hv
  have hx := B.exec
  have hb := B.bytes
  have hr := B.returns
  have hts : ∀ w ∈ xT, w.before _ s = true := fun w h9 => atoms_spec (ws := vsX7_sign) B.pre w (List.mem_cons_of_mem _ h9)
  have hown : s.vm.findClass RX7 = some m.cls := findClass_of_methodNamed B.named
  have hlocks := B.notSynchronized
  have hW : nb_W G xc_sh s.heap σ s.heap [] := ⟨hP, va_S.rf⟩
  have hl := lv_entry ([.ref (G.2.1 0), .int a0, .int a1]) (n := 3) (Nat.le_of_ble_eq_true rfl)
  rw [lg_entry_eq]
  generalize (lg_sl ([.ref (G.2.1 0), .int a0, .int a1]) ++ List.replicate (3 - (lg_sl ([.ref (G.2.1 0), .int a0, .int a1])).length) Slot.unset).toArray = ls at hl ⊢
  have hl : lv_has ls 3 [(0, .ref (G.2.1 0)), (1, .int a0), (2, .int a1)] := hl
  show W p l e rmX7_sign s m ([.ref (G.2.1 0), .int a0, .int a1]).toArray below meth c s.heap [] 0 0 (MQ below (nb_Qi G xc_sh (xc_Z (nb_A xc_sh G.2.1) tb) ro σo) ([.ref (G.2.1 0), .int a0, .int a1]).toArray s 0 0 (nb_A xc_sh G.2.1)) (F0 m 0 ls [])
  generalize hargs : ([.ref (G.2.1 0), .int a0, .int a1] : List Value).toArray = args at hts ⊢
  unfold fX7_sign at hf
  obtain ⟨H, eH⟩ : ∃ H, H = s.heap := ⟨_, rfl⟩
  obtain ⟨locs, eL⟩ : ∃ L : List Loc, L = [] := ⟨_, rfl⟩
  have hW : nb_W G xc_sh s.heap σ H locs := by rw [eH, eL]; exact hW
  suffices hgo : W p l e rmX7_sign s m args below meth c H locs 0 0 (MQ below (nb_Qi G xc_sh (xc_Z (nb_A xc_sh G.2.1) tb) ro σo) args s 0 0 (nb_A xc_sh G.2.1)) (F0 m 0 ls []) by rw [eH, eL] at hgo; exact hgo
  clear eH eL
  refine lv_iload_n hx hb dX7_sign_0 rfl (lv_at hl 1 rfl) ?_
  refine lv_iconst (v := (0 : Int32)) hx hb dX7_sign_1 (by decide) ?_
  refine lv_sipush (v := (359 : Int32)) hx hb dX7_sign_2 (by decide) ?_
  obtain ⟨r2, hc1, hf⟩ := nb_b_e hf
  refine nb_ci hW (va_runS (As := [.int a0, .int (0 : Int32), .int (359 : Int32)]) (rest := []) ⟨hx, hb, hml, hown, hts⟩ (c_X7_within l hinj hZo (N := N) hc1 ) (va_cwS 3 hts (xg_S tw2_101 tw2_102 tw1_1 tw2_103) rfl rfl rfl (by decide +kernel) ⟨Nat.le_of_ble_eq_true rfl, Nat.le_of_ble_eq_true rfl⟩) (nb_preS hK hZ hZo hW) rfl rfl hl.1 rfl (lv_room (Nat.le_of_ble_eq_true rfl)) dX7_sign_5 ⟨Nat.zero_le _, Nat.zero_le _⟩) (fun H locs hW => ?_)
  obtain ⟨k3, ek3, hf⟩ := nb_let_e hf
  have w4 : ∀ (_u : Unit) (H : Heap) (locs : List Loc) (ls : Array Slot), k3 _u = some (ro, σo) → nb_W G xc_sh s.heap σ H locs → lv_has ls 3 [] → W p l e rmX7_sign s m args below meth c H locs 0 0 (MQ below (nb_Qi G xc_sh (xc_Z (nb_A xc_sh G.2.1) tb) ro σo) args s 0 0 (nb_A xc_sh G.2.1)) (F0 m 21 ls []) := by
    intro _u H locs ls hf hW hl
    have hf := (congrFun ek3 _u).symm.trans hf
    refine lv_iconst (v := (-1 : Int32)) hx hb dX7_sign_21 (by decide) ?_
    exact nb_ri hx hb hr hlocks hK hZ hZo hW  hf dX7_sign_22
  clear ek3
  refine lv_if_eq (tgt := 21) hx hb dX7_sign_8 (by decide) (fun c5 => ?_) (fun c5 => ?_)
  · rw [if_pos c5] at hf
    exact w4 ()  _ _ _ hf hW (lv_sub hl [] rfl)
  · rw [if_neg c5] at hf
    refine lv_iload_n hx hb dX7_sign_11 rfl (lv_at hl 2 rfl) ?_
    refine lv_iconst (v := (1 : Int32)) hx hb dX7_sign_12 (by decide) ?_
    refine lv_bipush (v := (99 : Int32)) hx hb dX7_sign_13 (by decide) ?_
    obtain ⟨r7, hc6, hf⟩ := nb_b_e hf
    refine nb_ci hW (va_runS (As := [.int a1, .int (1 : Int32), .int (99 : Int32)]) (rest := []) ⟨hx, hb, hml, hown, hts⟩ (c_X7_within l hinj hZo (N := N) hc6 ) (va_cwS 3 hts (xg_S tw2_101 tw2_102 tw1_1 tw2_103) rfl rfl rfl (by decide +kernel) ⟨Nat.le_of_ble_eq_true rfl, Nat.le_of_ble_eq_true rfl⟩) (nb_preS hK hZ hZo hW) rfl rfl hl.1 rfl (lv_room (Nat.le_of_ble_eq_true rfl)) dX7_sign_15 ⟨Nat.zero_le _, Nat.zero_le _⟩) (fun H locs hW => ?_)
    refine lv_if_ne (tgt := 23) hx hb dX7_sign_18 (by decide) (fun c8 => ?_) (fun c8 => ?_)
    · rw [if_neg c8] at hf
      refine lv_aload_n hx hb dX7_sign_23 rfl (lv_at hl 0 rfl) ?_
      obtain ⟨p9, ep9, hf⟩ := nb_let_e hf
      obtain ⟨hp10, hf⟩ := nb_g_e hf
      refine nb_get (C := RX7) (T := TX7) (N := 9) hx hb hts inT_X7 hown hK hW 0 rfl rfl 3 (by decide) (hts _ tw2_72) (fun _ h9 => h9) rfl (v := .ref (G.2.1 p9)) (by rw [ep9]; rfl) dX7_sign_24 ?_
      refine nb_getN (C := RX4) (T := TX4) (N := 18) (host := "NobodyFirst") hx hb hts inT_X4 hown hK hW p9 (sx_pty_0 hp10) rfl 5 (by decide) (va_Nw.use rfl (hZ.1 ("NobodyFirst", 213, "NobodyFirst$Party", "told", "LNobodyFirst$Told;", "NobodyFirst") (by decide +kernel))) (fun _ h9 => h9) rfl (v := .ref (G.2.1 (p9 + 5))) rfl dX7_sign_27 ?_
      refine lv_iload_n hx hb dX7_sign_30 rfl (lv_at hl 1 rfl) ?_
      refine lv_iload_n hx hb dX7_sign_31 rfl (lv_at hl 2 rfl) ?_
      obtain ⟨r12, σ13, hc11, hf⟩ := nb_b2_e hf
      refine nb_ci hW (va_runV (As := [.int a0, .int a1]) (rest := []) ⟨hx, hb, hml, hown, hts⟩ (c_X6_addSign l hinj hZo (N := N) hc11 (x_tld_of hp10)) (cwV 2 hts (xg_V tw4_65 tw2_232 tw2_233 tw1_4 tw2_234) rfl rfl rfl (by decide +kernel) ⟨Nat.le_of_ble_eq_true rfl, Nat.le_of_ble_eq_true rfl⟩) (nb_preV hK hZ hZo hW (k := (p9 + 5)) (sx_pty_5 hp10) rfl) rfl rfl hl.1 rfl (lv_room (Nat.le_of_ble_eq_true rfl)) dX7_sign_32 ⟨Nat.zero_le _, Nat.zero_le _⟩) (fun H locs hW => ?_)
      refine lv_if_ne (tgt := 41) hx hb dX7_sign_35 (by decide) (fun c14 => ?_) (fun c14 => ?_)
      · rw [if_neg c14] at hf
        refine lv_aload_n hx hb dX7_sign_41 rfl (lv_at hl 0 rfl) ?_
        refine nb_get (C := RX7) (T := TX7) (N := 9) hx hb hts inT_X7 hown hK hW 0 rfl rfl 8 (by decide) (hts _ tw2_77) (fun _ h9 => h9) rfl (v := .ref (G.2.1 69)) rfl dX7_sign_42 ?_
        refine lv_iconst (v := (1 : Int32)) hx hb dX7_sign_45 (by decide) ?_
        obtain ⟨σ16, hc15, hf⟩ := nb_b_e hf
        refine nb_cv hW (va_runV (As := [.int (1 : Int32)]) (rest := []) ⟨hx, hb, hml, hown, hts⟩ (c_X3_note l hinj hZo (N := N) hc15 ) (cwV 1 hts (xg_V tw4_66 tw4_67 tw4_68 tw1_8 tw4_69) rfl rfl rfl (by decide +kernel) ⟨Nat.le_of_ble_eq_true rfl, Nat.le_of_ble_eq_true rfl⟩) (nb_preV hK hZ hZo hW (k := 69) rfl rfl) rfl rfl hl.1 rfl (lv_room (Nat.le_of_ble_eq_true rfl)) dX7_sign_46 ⟨Nat.zero_le _, Nat.zero_le _⟩) (fun H locs hW => ?_)
        refine lv_aload_n hx hb dX7_sign_49 rfl (lv_at hl 0 rfl) ?_
        refine nb_get (C := RX7) (T := TX7) (N := 9) hx hb hts inT_X7 hown hK hW 0 rfl rfl 6 (by decide) (hts _ tw2_75) (fun _ h9 => h9) rfl (v := .ref (G.2.1 61)) rfl dX7_sign_50 ?_
        refine lv_iconst (v := (0 : Int32)) hx hb dX7_sign_53 (by decide) ?_
        obtain ⟨σ17, eσ17, hf⟩ := nb_let_e hf
        refine nb_putN (C := RX2) (T := TX2) (N := 4) (host := "NobodyFirst") hx hb hts inT_X2 hown hK tyX2 tyX2_ok nmX2 hinj hW 61 rfl rfl 0 (by decide) (va_Nw.use rfl (hZ.1 ("NobodyFirst", 84, "NobodyFirst$Giving", "known", "Z", "NobodyFirst") (by decide +kernel))) (fun _ h9 => h9) rfl (ty := .boolean) (by decide +kernel) rfl rfl rfl (x := (0 : Int32)) (by show Value.int _ = _; rw [nb_st_s]) eσ17 dX7_sign_54 (fun H locs hW => ?_)
        refine lv_aload_n hx hb dX7_sign_57 rfl (lv_at hl 0 rfl) ?_
        obtain ⟨p18, ep18, hf⟩ := nb_let_e hf
        obtain ⟨hp19, hf⟩ := nb_g_e hf
        refine nb_get (C := RX7) (T := TX7) (N := 9) hx hb hts inT_X7 hown hK hW 0 rfl rfl 3 (by decide) (hts _ tw2_72) (fun _ h9 => h9) rfl (v := .ref (G.2.1 p18)) (by rw [ep18]; rfl) dX7_sign_58 ?_
        refine nb_getN (C := RX4) (T := TX4) (N := 18) (host := "NobodyFirst") hx hb hts inT_X4 hown hK hW p18 (sx_pty_0 hp19) rfl 5 (by decide) (va_Nw.use rfl (hZ.1 ("NobodyFirst", 213, "NobodyFirst$Party", "told", "LNobodyFirst$Told;", "NobodyFirst") (by decide +kernel))) (fun _ h9 => h9) rfl (v := .ref (G.2.1 (p18 + 5))) rfl dX7_sign_61 ?_
        refine nb_getN (C := RX6) (T := TX6) (N := 5) (host := "NobodyFirst") hx hb hts inT_X6 hown hK hW (p18 + 5) (sx_pty_5 hp19) rfl 0 (by decide) (va_Nw.use rfl (hZ.1 ("NobodyFirst", 227, "NobodyFirst$Told", "signs", "I", "NobodyFirst") (by decide +kernel))) (fun _ h9 => h9) rfl (v := .int (σ17 (p18 + 5) 0)) rfl dX7_sign_64 ?_
        exact nb_ri hx hb hr hlocks hK hZ hZo hW  hf dX7_sign_67
      · rw [if_pos c14] at hf
        refine lv_bipush (v := (-3 : Int32)) hx hb dX7_sign_38 (by decide) ?_
        exact nb_ri hx hb hr hlocks hK hZ hZo hW  hf dX7_sign_40
    · rw [if_pos c8] at hf
      exact w4 ()  _ _ _ hf hW (lv_sub hl [] rfl)
def fX7_say (N : Nat) (σ : nb_St) (a0 : Int32) : Option (Int32 × nb_St) :=
  nb_b (fX7_within N σ a0 (0 : Int32) (359 : Int32)) fun r2 =>
  (if r2 = 0 then
  some ((-1 : Int32), σ)
  else
  nb_let (nb_ix (σ 0 3)) fun p4 =>
  nb_g (xc_pty p4) (
  nb_b2 (fX6_addWord N σ (p4 + 5) a0) fun r7 σ8 =>
  (if r7 = 0 then
  some ((-3 : Int32), σ8)
  else
  nb_b (fX3_note N σ8 (0 : Int32)) fun σ11 =>
  nb_let (nb_st σ11 61 0 (0 : Int32)) fun σ12 =>
  nb_let (nb_ix (σ12 0 3)) fun p13 =>
  nb_g (xc_pty p13) (
  some ((σ12 (p13 + 5) 3), σ12)))))
def rmX7_say : Room := { frames := 1, cells := 0, slots := 0, locals := 22 }
def vsX7_say : List Cond := .code yX7_say cX7_say 2 (some .int) :: xT
set_option maxHeartbeats 4000000 in
set_option maxRecDepth 100000 in
theorem c_X7_say (l : Launch) {G : nb_G} {tb : Nat → Nat} (hinj : nb_inj xc_sh G.2.1) (hZo : nb_Zok (nb_A xc_sh G.2.1) (xc_Z (nb_A xc_sh G.2.1) tb)) {N : Nat} {σ : nb_St} {a0 : Int32} {ro : Int32} {σo : nb_St} (hf : fX7_say N σ a0 = some (ro, σo))  : Met l yX7_say vsX7_say rmX7_say (nb_Pc G xc_sh (xc_Z (nb_A xc_sh G.2.1) tb) σ [.ref (G.2.1 0), .int a0]) (nb_Qi G xc_sh (xc_Z (nb_A xc_sh G.2.1) tb) ro σo) 0 0 (nb_A xc_sh G.2.1) := by
  refine Met.ofW (cc := cX7_say) (maxL := 2) (ret := (some .int)) (by decide) rfl ?_
  intro p e s m args below meth c s₁ B hml hv
  obtain ⟨rfl, hP, hK, hZ⟩ := hv
  have hx := B.exec
  have hb := B.bytes
  have hr := B.returns
  have hts : ∀ w ∈ xT, w.before _ s = true := fun w h9 => atoms_spec (ws := vsX7_say) B.pre w (List.mem_cons_of_mem _ h9)
  have hown : s.vm.findClass RX7 = some m.cls := findClass_of_methodNamed B.named
  have hlocks := B.notSynchronized
  have hW : nb_W G xc_sh s.heap σ s.heap [] := ⟨hP, va_S.rf⟩
  have hl := lv_entry ([.ref (G.2.1 0), .int a0]) (n := 2) (Nat.le_of_ble_eq_true rfl)
  rw [lg_entry_eq]
  generalize (lg_sl ([.ref (G.2.1 0), .int a0]) ++ List.replicate (2 - (lg_sl ([.ref (G.2.1 0), .int a0])).length) Slot.unset).toArray = ls at hl ⊢
  have hl : lv_has ls 2 [(0, .ref (G.2.1 0)), (1, .int a0)] := hl
  show W p l e rmX7_say s m ([.ref (G.2.1 0), .int a0]).toArray below meth c s.heap [] 0 0 (MQ below (nb_Qi G xc_sh (xc_Z (nb_A xc_sh G.2.1) tb) ro σo) ([.ref (G.2.1 0), .int a0]).toArray s 0 0 (nb_A xc_sh G.2.1)) (F0 m 0 ls [])
  generalize hargs : ([.ref (G.2.1 0), .int a0] : List Value).toArray = args at hts ⊢
  unfold fX7_say at hf
  obtain ⟨H, eH⟩ : ∃ H, H = s.heap := ⟨_, rfl⟩
  obtain ⟨locs, eL⟩ : ∃ L : List Loc, L = [] := ⟨_, rfl⟩
  have hW : nb_W G xc_sh s.heap σ H locs := by rw [eH, eL]; exact hW
  suffices hgo : W p l e rmX7_say s m args below meth c H locs 0 0 (MQ below (nb_Qi G xc_sh (xc_Z (nb_A xc_sh G.2.1) tb) ro σo) args s 0 0 (nb_A xc_sh G.2.1)) (F0 m 0 ls []) by rw [eH, eL] at hgo; exact hgo
  clear eH eL
  refine lv_iload_n hx hb dX7_say_0 rfl (lv_at hl 1 rfl) ?_
  refine lv_iconst (v := (0 : Int32)) hx hb dX7_say_1 (by decide) ?_
  refine lv_sipush (v := (359 : Int32)) hx hb dX7_say_2 (by decide) ?_
  obtain ⟨r2, hc1, hf⟩ := nb_b_e hf
  refine nb_ci hW (va_runS (As := [.int a0, .int (0 : Int32), .int (359 : Int32)]) (rest := []) ⟨hx, hb, hml, hown, hts⟩ (c_X7_within l hinj hZo (N := N) hc1 ) (va_cwS 3 hts (xg_S tw2_101 tw2_102 tw1_1 tw2_103) rfl rfl rfl (by decide +kernel) ⟨Nat.le_of_ble_eq_true rfl, Nat.le_of_ble_eq_true rfl⟩) (nb_preS hK hZ hZo hW) rfl rfl hl.1 rfl (lv_room (Nat.le_of_ble_eq_true rfl)) dX7_say_5 ⟨Nat.zero_le _, Nat.zero_le _⟩) (fun H locs hW => ?_)
  refine lv_if_ne (tgt := 13) hx hb dX7_say_8 (by decide) (fun c3 => ?_) (fun c3 => ?_)
  · rw [if_neg c3] at hf
    refine lv_aload_n hx hb dX7_say_13 rfl (lv_at hl 0 rfl) ?_
    obtain ⟨p4, ep4, hf⟩ := nb_let_e hf
    obtain ⟨hp5, hf⟩ := nb_g_e hf
    refine nb_get (C := RX7) (T := TX7) (N := 9) hx hb hts inT_X7 hown hK hW 0 rfl rfl 3 (by decide) (hts _ tw2_72) (fun _ h9 => h9) rfl (v := .ref (G.2.1 p4)) (by rw [ep4]; rfl) dX7_say_14 ?_
    refine nb_getN (C := RX4) (T := TX4) (N := 18) (host := "NobodyFirst") hx hb hts inT_X4 hown hK hW p4 (sx_pty_0 hp5) rfl 5 (by decide) (va_Nw.use rfl (hZ.1 ("NobodyFirst", 213, "NobodyFirst$Party", "told", "LNobodyFirst$Told;", "NobodyFirst") (by decide +kernel))) (fun _ h9 => h9) rfl (v := .ref (G.2.1 (p4 + 5))) rfl dX7_say_17 ?_
    refine lv_iload_n hx hb dX7_say_20 rfl (lv_at hl 1 rfl) ?_
    obtain ⟨r7, σ8, hc6, hf⟩ := nb_b2_e hf
    refine nb_ci hW (va_runV (As := [.int a0]) (rest := []) ⟨hx, hb, hml, hown, hts⟩ (c_X6_addWord l hinj hZo (N := N) hc6 (x_tld_of hp5)) (cwV 1 hts (xg_V tw4_74 tw2_236 tw2_237 tw1_4 tw2_238) rfl rfl rfl (by decide +kernel) ⟨Nat.le_of_ble_eq_true rfl, Nat.le_of_ble_eq_true rfl⟩) (nb_preV hK hZ hZo hW (k := (p4 + 5)) (sx_pty_5 hp5) rfl) rfl rfl hl.1 rfl (lv_room (Nat.le_of_ble_eq_true rfl)) dX7_say_21 ⟨Nat.zero_le _, Nat.zero_le _⟩) (fun H locs hW => ?_)
    refine lv_if_ne (tgt := 30) hx hb dX7_say_24 (by decide) (fun c9 => ?_) (fun c9 => ?_)
    · rw [if_neg c9] at hf
      refine lv_aload_n hx hb dX7_say_30 rfl (lv_at hl 0 rfl) ?_
      refine nb_get (C := RX7) (T := TX7) (N := 9) hx hb hts inT_X7 hown hK hW 0 rfl rfl 8 (by decide) (hts _ tw2_77) (fun _ h9 => h9) rfl (v := .ref (G.2.1 69)) rfl dX7_say_31 ?_
      refine lv_iconst (v := (0 : Int32)) hx hb dX7_say_34 (by decide) ?_
      obtain ⟨σ11, hc10, hf⟩ := nb_b_e hf
      refine nb_cv hW (va_runV (As := [.int (0 : Int32)]) (rest := []) ⟨hx, hb, hml, hown, hts⟩ (c_X3_note l hinj hZo (N := N) hc10 ) (cwV 1 hts (xg_V tw4_66 tw4_67 tw4_68 tw1_8 tw4_69) rfl rfl rfl (by decide +kernel) ⟨Nat.le_of_ble_eq_true rfl, Nat.le_of_ble_eq_true rfl⟩) (nb_preV hK hZ hZo hW (k := 69) rfl rfl) rfl rfl hl.1 rfl (lv_room (Nat.le_of_ble_eq_true rfl)) dX7_say_35 ⟨Nat.zero_le _, Nat.zero_le _⟩) (fun H locs hW => ?_)
      refine lv_aload_n hx hb dX7_say_38 rfl (lv_at hl 0 rfl) ?_
      refine nb_get (C := RX7) (T := TX7) (N := 9) hx hb hts inT_X7 hown hK hW 0 rfl rfl 6 (by decide) (hts _ tw2_75) (fun _ h9 => h9) rfl (v := .ref (G.2.1 61)) rfl dX7_say_39 ?_
      refine lv_iconst (v := (0 : Int32)) hx hb dX7_say_42 (by decide) ?_
      obtain ⟨σ12, eσ12, hf⟩ := nb_let_e hf
      refine nb_putN (C := RX2) (T := TX2) (N := 4) (host := "NobodyFirst") hx hb hts inT_X2 hown hK tyX2 tyX2_ok nmX2 hinj hW 61 rfl rfl 0 (by decide) (va_Nw.use rfl (hZ.1 ("NobodyFirst", 84, "NobodyFirst$Giving", "known", "Z", "NobodyFirst") (by decide +kernel))) (fun _ h9 => h9) rfl (ty := .boolean) (by decide +kernel) rfl rfl rfl (x := (0 : Int32)) (by show Value.int _ = _; rw [nb_st_s]) eσ12 dX7_say_43 (fun H locs hW => ?_)
      refine lv_aload_n hx hb dX7_say_46 rfl (lv_at hl 0 rfl) ?_
      obtain ⟨p13, ep13, hf⟩ := nb_let_e hf
      obtain ⟨hp14, hf⟩ := nb_g_e hf
      refine nb_get (C := RX7) (T := TX7) (N := 9) hx hb hts inT_X7 hown hK hW 0 rfl rfl 3 (by decide) (hts _ tw2_72) (fun _ h9 => h9) rfl (v := .ref (G.2.1 p13)) (by rw [ep13]; rfl) dX7_say_47 ?_
      refine nb_getN (C := RX4) (T := TX4) (N := 18) (host := "NobodyFirst") hx hb hts inT_X4 hown hK hW p13 (sx_pty_0 hp14) rfl 5 (by decide) (va_Nw.use rfl (hZ.1 ("NobodyFirst", 213, "NobodyFirst$Party", "told", "LNobodyFirst$Told;", "NobodyFirst") (by decide +kernel))) (fun _ h9 => h9) rfl (v := .ref (G.2.1 (p13 + 5))) rfl dX7_say_50 ?_
      refine nb_getN (C := RX6) (T := TX6) (N := 5) (host := "NobodyFirst") hx hb hts inT_X6 hown hK hW (p13 + 5) (sx_pty_5 hp14) rfl 3 (by decide) (va_Nw.use rfl (hZ.1 ("NobodyFirst", 233, "NobodyFirst$Told", "words", "I", "NobodyFirst") (by decide +kernel))) (fun _ h9 => h9) rfl (v := .int (σ12 (p13 + 5) 3)) rfl dX7_say_53 ?_
      exact nb_ri hx hb hr hlocks hK hZ hZo hW  hf dX7_say_56
    · rw [if_pos c9] at hf
      refine lv_bipush (v := (-3 : Int32)) hx hb dX7_say_27 (by decide) ?_
      exact nb_ri hx hb hr hlocks hK hZ hZo hW  hf dX7_say_29
  · rw [if_pos c3] at hf
    refine lv_iconst (v := (-1 : Int32)) hx hb dX7_say_11 (by decide) ?_
    exact nb_ri hx hb hr hlocks hK hZ hZo hW  hf dX7_say_12
def fX7_takeBack (N : Nat) (σ : nb_St)  : Option (Int32 × nb_St) :=
  (if (σ 69 1) = 0 then
  some ((-2 : Int32), σ)
  else
  nb_let (nb_ix (σ 0 3)) fun p2 =>
  nb_g (xc_pty p2) (
  nb_b (fX3_undo N σ (p2 + 5)) fun σ5 =>
  nb_let (nb_st σ5 61 0 (0 : Int32)) fun σ6 =>
  some ((σ6 69 1), σ6)))
def rmX7_takeBack : Room := { frames := 2, cells := 0, slots := 0, locals := 42 }
def vsX7_takeBack : List Cond := .code yX7_takeBack cX7_takeBack 1 (some .int) :: xT
set_option maxHeartbeats 4000000 in
set_option maxRecDepth 100000 in
theorem c_X7_takeBack (l : Launch) {G : nb_G} {tb : Nat → Nat} (hinj : nb_inj xc_sh G.2.1) (hZo : nb_Zok (nb_A xc_sh G.2.1) (xc_Z (nb_A xc_sh G.2.1) tb)) {N : Nat} {σ : nb_St}  {ro : Int32} {σo : nb_St} (hf : fX7_takeBack N σ = some (ro, σo))  : Met l yX7_takeBack vsX7_takeBack rmX7_takeBack (nb_Pc G xc_sh (xc_Z (nb_A xc_sh G.2.1) tb) σ [.ref (G.2.1 0)]) (nb_Qi G xc_sh (xc_Z (nb_A xc_sh G.2.1) tb) ro σo) 0 0 (nb_A xc_sh G.2.1) := by
  refine Met.ofW (cc := cX7_takeBack) (maxL := 1) (ret := (some .int)) (by decide) rfl ?_
  intro p e s m args below meth c s₁ B hml hv
  obtain ⟨rfl, hP, hK, hZ⟩ := hv
  have hx := B.exec
  have hb := B.bytes
  have hr := B.returns
  have hts : ∀ w ∈ xT, w.before _ s = true := fun w h9 => atoms_spec (ws := vsX7_takeBack) B.pre w (List.mem_cons_of_mem _ h9)
  have hown : s.vm.findClass RX7 = some m.cls := findClass_of_methodNamed B.named
  have hlocks := B.notSynchronized
  have hW : nb_W G xc_sh s.heap σ s.heap [] := ⟨hP, va_S.rf⟩
  have hl := lv_entry ([.ref (G.2.1 0)]) (n := 1) (Nat.le_of_ble_eq_true rfl)
  rw [lg_entry_eq]
  generalize (lg_sl ([.ref (G.2.1 0)]) ++ List.replicate (1 - (lg_sl ([.ref (G.2.1 0)])).length) Slot.unset).toArray = ls at hl ⊢
  have hl : lv_has ls 1 [(0, .ref (G.2.1 0))] := hl
  show W p l e rmX7_takeBack s m ([.ref (G.2.1 0)]).toArray below meth c s.heap [] 0 0 (MQ below (nb_Qi G xc_sh (xc_Z (nb_A xc_sh G.2.1) tb) ro σo) ([.ref (G.2.1 0)]).toArray s 0 0 (nb_A xc_sh G.2.1)) (F0 m 0 ls [])
  generalize hargs : ([.ref (G.2.1 0)] : List Value).toArray = args at hts ⊢
  unfold fX7_takeBack at hf
  obtain ⟨H, eH⟩ : ∃ H, H = s.heap := ⟨_, rfl⟩
  obtain ⟨locs, eL⟩ : ∃ L : List Loc, L = [] := ⟨_, rfl⟩
  have hW : nb_W G xc_sh s.heap σ H locs := by rw [eH, eL]; exact hW
  suffices hgo : W p l e rmX7_takeBack s m args below meth c H locs 0 0 (MQ below (nb_Qi G xc_sh (xc_Z (nb_A xc_sh G.2.1) tb) ro σo) args s 0 0 (nb_A xc_sh G.2.1)) (F0 m 0 ls []) by rw [eH, eL] at hgo; exact hgo
  clear eH eL
  refine lv_aload_n hx hb dX7_takeBack_0 rfl (lv_at hl 0 rfl) ?_
  refine nb_get (C := RX7) (T := TX7) (N := 9) hx hb hts inT_X7 hown hK hW 0 rfl rfl 8 (by decide) (hts _ tw2_77) (fun _ h9 => h9) rfl (v := .ref (G.2.1 69)) rfl dX7_takeBack_1 ?_
  refine nb_getN (C := RX3) (T := TX3) (N := 5) (host := "NobodyFirst") hx hb hts inT_X3 hown hK hW 69 rfl rfl 1 (by decide) (va_Nw.use rfl (hZ.1 ("NobodyFirst", 236, "NobodyFirst$History", "steps", "I", "NobodyFirst") (by decide +kernel))) (fun _ h9 => h9) rfl (v := .int (σ 69 1)) rfl dX7_takeBack_4 ?_
  refine lv_if_ne (tgt := 13) hx hb dX7_takeBack_7 (by decide) (fun c1 => ?_) (fun c1 => ?_)
  · rw [if_neg c1] at hf
    refine lv_aload_n hx hb dX7_takeBack_13 rfl (lv_at hl 0 rfl) ?_
    refine nb_get (C := RX7) (T := TX7) (N := 9) hx hb hts inT_X7 hown hK hW 0 rfl rfl 8 (by decide) (hts _ tw2_77) (fun _ h9 => h9) rfl (v := .ref (G.2.1 69)) rfl dX7_takeBack_14 ?_
    refine lv_aload_n hx hb dX7_takeBack_17 rfl (lv_at hl 0 rfl) ?_
    obtain ⟨p2, ep2, hf⟩ := nb_let_e hf
    obtain ⟨hp3, hf⟩ := nb_g_e hf
    refine nb_get (C := RX7) (T := TX7) (N := 9) hx hb hts inT_X7 hown hK hW 0 rfl rfl 3 (by decide) (hts _ tw2_72) (fun _ h9 => h9) rfl (v := .ref (G.2.1 p2)) (by rw [ep2]; rfl) dX7_takeBack_18 ?_
    refine nb_getN (C := RX4) (T := TX4) (N := 18) (host := "NobodyFirst") hx hb hts inT_X4 hown hK hW p2 (sx_pty_0 hp3) rfl 5 (by decide) (va_Nw.use rfl (hZ.1 ("NobodyFirst", 213, "NobodyFirst$Party", "told", "LNobodyFirst$Told;", "NobodyFirst") (by decide +kernel))) (fun _ h9 => h9) rfl (v := .ref (G.2.1 (p2 + 5))) rfl dX7_takeBack_21 ?_
    obtain ⟨σ5, hc4, hf⟩ := nb_b_e hf
    refine nb_cv hW (va_runV (As := [.ref (G.2.1 (p2 + 5))]) (rest := []) ⟨hx, hb, hml, hown, hts⟩ (c_X3_undo l hinj hZo (N := N) hc4 (x_tld_of hp3)) (cwV 1 hts (xg_V tw4_79 tw4_80 tw4_81 tw1_8 tw4_82) rfl rfl rfl (by decide +kernel) ⟨Nat.le_of_ble_eq_true rfl, Nat.le_of_ble_eq_true rfl⟩) (nb_preV hK hZ hZo hW (k := 69) rfl rfl) rfl rfl hl.1 rfl (lv_room (Nat.le_of_ble_eq_true rfl)) dX7_takeBack_24 ⟨Nat.zero_le _, Nat.zero_le _⟩) (fun H locs hW => ?_)
    refine lv_aload_n hx hb dX7_takeBack_27 rfl (lv_at hl 0 rfl) ?_
    refine nb_get (C := RX7) (T := TX7) (N := 9) hx hb hts inT_X7 hown hK hW 0 rfl rfl 6 (by decide) (hts _ tw2_75) (fun _ h9 => h9) rfl (v := .ref (G.2.1 61)) rfl dX7_takeBack_28 ?_
    refine lv_iconst (v := (0 : Int32)) hx hb dX7_takeBack_31 (by decide) ?_
    obtain ⟨σ6, eσ6, hf⟩ := nb_let_e hf
    refine nb_putN (C := RX2) (T := TX2) (N := 4) (host := "NobodyFirst") hx hb hts inT_X2 hown hK tyX2 tyX2_ok nmX2 hinj hW 61 rfl rfl 0 (by decide) (va_Nw.use rfl (hZ.1 ("NobodyFirst", 84, "NobodyFirst$Giving", "known", "Z", "NobodyFirst") (by decide +kernel))) (fun _ h9 => h9) rfl (ty := .boolean) (by decide +kernel) rfl rfl rfl (x := (0 : Int32)) (by show Value.int _ = _; rw [nb_st_s]) eσ6 dX7_takeBack_32 (fun H locs hW => ?_)
    refine lv_aload_n hx hb dX7_takeBack_35 rfl (lv_at hl 0 rfl) ?_
    refine nb_get (C := RX7) (T := TX7) (N := 9) hx hb hts inT_X7 hown hK hW 0 rfl rfl 8 (by decide) (hts _ tw2_77) (fun _ h9 => h9) rfl (v := .ref (G.2.1 69)) rfl dX7_takeBack_36 ?_
    refine nb_getN (C := RX3) (T := TX3) (N := 5) (host := "NobodyFirst") hx hb hts inT_X3 hown hK hW 69 rfl rfl 1 (by decide) (va_Nw.use rfl (hZ.1 ("NobodyFirst", 236, "NobodyFirst$History", "steps", "I", "NobodyFirst") (by decide +kernel))) (fun _ h9 => h9) rfl (v := .int (σ6 69 1)) rfl dX7_takeBack_39 ?_
    exact nb_ri hx hb hr hlocks hK hZ hZo hW  hf dX7_takeBack_42
  · rw [if_pos c1] at hf
    refine lv_bipush (v := (-2 : Int32)) hx hb dX7_takeBack_10 (by decide) ?_
    exact nb_ri hx hb hr hlocks hK hZ hZo hW  hf dX7_takeBack_12
def fX7_keep (N : Nat) (σ : nb_St)  : Option (Int32 × nb_St) :=
  nb_let (nb_ix (σ 0 3)) fun p1 =>
  nb_g (xc_pty p1) (
  nb_b2 (fX3_store N σ (p1 + 5)) fun r4 σ5 =>
  (if r4 = 0 then
  some ((-3 : Int32), σ5)
  else
  some ((σ5 69 4), σ5)))
def rmX7_keep : Room := { frames := 3, cells := 0, slots := 0, locals := 80 }
def vsX7_keep : List Cond := .code yX7_keep cX7_keep 1 (some .int) :: xT
set_option maxHeartbeats 4000000 in
set_option maxRecDepth 100000 in
theorem c_X7_keep (l : Launch) {G : nb_G} {tb : Nat → Nat} (hinj : nb_inj xc_sh G.2.1) (hZo : nb_Zok (nb_A xc_sh G.2.1) (xc_Z (nb_A xc_sh G.2.1) tb)) {N : Nat} {σ : nb_St}  {ro : Int32} {σo : nb_St} (hf : fX7_keep N σ = some (ro, σo))  : Met l yX7_keep vsX7_keep rmX7_keep (nb_Pc G xc_sh (xc_Z (nb_A xc_sh G.2.1) tb) σ [.ref (G.2.1 0)]) (nb_Qi G xc_sh (xc_Z (nb_A xc_sh G.2.1) tb) ro σo) 0 0 (nb_A xc_sh G.2.1) := by
  refine Met.ofW (cc := cX7_keep) (maxL := 1) (ret := (some .int)) (by decide) rfl ?_
  intro p e s m args below meth c s₁ B hml hv
  obtain ⟨rfl, hP, hK, hZ⟩ := hv
  have hx := B.exec
  have hb := B.bytes
  have hr := B.returns
  have hts : ∀ w ∈ xT, w.before _ s = true := fun w h9 => atoms_spec (ws := vsX7_keep) B.pre w (List.mem_cons_of_mem _ h9)
  have hown : s.vm.findClass RX7 = some m.cls := findClass_of_methodNamed B.named
  have hlocks := B.notSynchronized
  have hW : nb_W G xc_sh s.heap σ s.heap [] := ⟨hP, va_S.rf⟩
  have hl := lv_entry ([.ref (G.2.1 0)]) (n := 1) (Nat.le_of_ble_eq_true rfl)
  rw [lg_entry_eq]
  generalize (lg_sl ([.ref (G.2.1 0)]) ++ List.replicate (1 - (lg_sl ([.ref (G.2.1 0)])).length) Slot.unset).toArray = ls at hl ⊢
  have hl : lv_has ls 1 [(0, .ref (G.2.1 0))] := hl
  show W p l e rmX7_keep s m ([.ref (G.2.1 0)]).toArray below meth c s.heap [] 0 0 (MQ below (nb_Qi G xc_sh (xc_Z (nb_A xc_sh G.2.1) tb) ro σo) ([.ref (G.2.1 0)]).toArray s 0 0 (nb_A xc_sh G.2.1)) (F0 m 0 ls [])
  generalize hargs : ([.ref (G.2.1 0)] : List Value).toArray = args at hts ⊢
  unfold fX7_keep at hf
  obtain ⟨H, eH⟩ : ∃ H, H = s.heap := ⟨_, rfl⟩
  obtain ⟨locs, eL⟩ : ∃ L : List Loc, L = [] := ⟨_, rfl⟩
  have hW : nb_W G xc_sh s.heap σ H locs := by rw [eH, eL]; exact hW
  suffices hgo : W p l e rmX7_keep s m args below meth c H locs 0 0 (MQ below (nb_Qi G xc_sh (xc_Z (nb_A xc_sh G.2.1) tb) ro σo) args s 0 0 (nb_A xc_sh G.2.1)) (F0 m 0 ls []) by rw [eH, eL] at hgo; exact hgo
  clear eH eL
  refine lv_aload_n hx hb dX7_keep_0 rfl (lv_at hl 0 rfl) ?_
  refine nb_get (C := RX7) (T := TX7) (N := 9) hx hb hts inT_X7 hown hK hW 0 rfl rfl 8 (by decide) (hts _ tw2_77) (fun _ h9 => h9) rfl (v := .ref (G.2.1 69)) rfl dX7_keep_1 ?_
  refine lv_aload_n hx hb dX7_keep_4 rfl (lv_at hl 0 rfl) ?_
  obtain ⟨p1, ep1, hf⟩ := nb_let_e hf
  obtain ⟨hp2, hf⟩ := nb_g_e hf
  refine nb_get (C := RX7) (T := TX7) (N := 9) hx hb hts inT_X7 hown hK hW 0 rfl rfl 3 (by decide) (hts _ tw2_72) (fun _ h9 => h9) rfl (v := .ref (G.2.1 p1)) (by rw [ep1]; rfl) dX7_keep_5 ?_
  refine nb_getN (C := RX4) (T := TX4) (N := 18) (host := "NobodyFirst") hx hb hts inT_X4 hown hK hW p1 (sx_pty_0 hp2) rfl 5 (by decide) (va_Nw.use rfl (hZ.1 ("NobodyFirst", 213, "NobodyFirst$Party", "told", "LNobodyFirst$Told;", "NobodyFirst") (by decide +kernel))) (fun _ h9 => h9) rfl (v := .ref (G.2.1 (p1 + 5))) rfl dX7_keep_8 ?_
  obtain ⟨r4, σ5, hc3, hf⟩ := nb_b2_e hf
  refine nb_ci hW (va_runV (As := [.ref (G.2.1 (p1 + 5))]) (rest := []) ⟨hx, hb, hml, hown, hts⟩ (c_X3_store l hinj hZo (N := N) hc3 (x_tld_of hp2)) (cwV 1 hts (xg_V tw4_88 tw4_89 tw4_90 tw1_8 tw4_91) rfl rfl rfl (by decide +kernel) ⟨Nat.le_of_ble_eq_true rfl, Nat.le_of_ble_eq_true rfl⟩) (nb_preV hK hZ hZo hW (k := 69) rfl rfl) rfl rfl hl.1 rfl (lv_room (Nat.le_of_ble_eq_true rfl)) dX7_keep_11 ⟨Nat.zero_le _, Nat.zero_le _⟩) (fun H locs hW => ?_)
  refine lv_if_eq (tgt := 27) hx hb dX7_keep_14 (by decide) (fun c6 => ?_) (fun c6 => ?_)
  · rw [if_pos c6] at hf
    refine lv_bipush (v := (-3 : Int32)) hx hb dX7_keep_27 (by decide) ?_
    exact nb_ri hx hb hr hlocks hK hZ hZo hW  hf dX7_keep_29
  · rw [if_neg c6] at hf
    refine lv_aload_n hx hb dX7_keep_17 rfl (lv_at hl 0 rfl) ?_
    refine nb_get (C := RX7) (T := TX7) (N := 9) hx hb hts inT_X7 hown hK hW 0 rfl rfl 8 (by decide) (hts _ tw2_77) (fun _ h9 => h9) rfl (v := .ref (G.2.1 69)) rfl dX7_keep_18 ?_
    refine nb_getN (C := RX3) (T := TX3) (N := 5) (host := "NobodyFirst") hx hb hts inT_X3 hown hK hW 69 rfl rfl 4 (by decide) (va_Nw.use rfl (hZ.1 ("NobodyFirst", 247, "NobodyFirst$History", "kept", "I", "NobodyFirst") (by decide +kernel))) (fun _ h9 => h9) rfl (v := .int (σ5 69 4)) rfl dX7_keep_21 ?_
    refine lv_goto (tgt := 29) hx hb dX7_keep_24 (by decide) ?_
    exact nb_ri hx hb hr hlocks hK hZ hZo hW  hf dX7_keep_29
def fX7_back (N : Nat) (σ : nb_St)  : Option (Int32 × nb_St) :=
  nb_let (nb_ix (σ 0 3)) fun p1 =>
  nb_g (xc_pty p1) (
  nb_b2 (fX3_restore N σ (p1 + 5)) fun r4 σ5 =>
  (if r4 = 0 then
  some ((-2 : Int32), σ5)
  else
  nb_let (nb_st σ5 61 0 (0 : Int32)) fun σ7 =>
  some ((σ7 69 4), σ7)))
def rmX7_back : Room := { frames := 3, cells := 0, slots := 0, locals := 80 }
def vsX7_back : List Cond := .code yX7_back cX7_back 1 (some .int) :: xT
set_option maxHeartbeats 4000000 in
set_option maxRecDepth 100000 in
theorem c_X7_back (l : Launch) {G : nb_G} {tb : Nat → Nat} (hinj : nb_inj xc_sh G.2.1) (hZo : nb_Zok (nb_A xc_sh G.2.1) (xc_Z (nb_A xc_sh G.2.1) tb)) {N : Nat} {σ : nb_St}  {ro : Int32} {σo : nb_St} (hf : fX7_back N σ = some (ro, σo))  : Met l yX7_back vsX7_back rmX7_back (nb_Pc G xc_sh (xc_Z (nb_A xc_sh G.2.1) tb) σ [.ref (G.2.1 0)]) (nb_Qi G xc_sh (xc_Z (nb_A xc_sh G.2.1) tb) ro σo) 0 0 (nb_A xc_sh G.2.1) := by
  refine Met.ofW (cc := cX7_back) (maxL := 1) (ret := (some .int)) (by decide) rfl ?_
  intro p e s m args below meth c s₁ B hml hv
  obtain ⟨rfl, hP, hK, hZ⟩ := hv
  have hx := B.exec
  have hb := B.bytes
  have hr := B.returns
  have hts : ∀ w ∈ xT, w.before _ s = true := fun w h9 => atoms_spec (ws := vsX7_back) B.pre w (List.mem_cons_of_mem _ h9)
  have hown : s.vm.findClass RX7 = some m.cls := findClass_of_methodNamed B.named
  have hlocks := B.notSynchronized
  have hW : nb_W G xc_sh s.heap σ s.heap [] := ⟨hP, va_S.rf⟩
  have hl := lv_entry ([.ref (G.2.1 0)]) (n := 1) (Nat.le_of_ble_eq_true rfl)
  rw [lg_entry_eq]
  generalize (lg_sl ([.ref (G.2.1 0)]) ++ List.replicate (1 - (lg_sl ([.ref (G.2.1 0)])).length) Slot.unset).toArray = ls at hl ⊢
  have hl : lv_has ls 1 [(0, .ref (G.2.1 0))] := hl
  show W p l e rmX7_back s m ([.ref (G.2.1 0)]).toArray below meth c s.heap [] 0 0 (MQ below (nb_Qi G xc_sh (xc_Z (nb_A xc_sh G.2.1) tb) ro σo) ([.ref (G.2.1 0)]).toArray s 0 0 (nb_A xc_sh G.2.1)) (F0 m 0 ls [])
  generalize hargs : ([.ref (G.2.1 0)] : List Value).toArray = args at hts ⊢
  unfold fX7_back at hf
  obtain ⟨H, eH⟩ : ∃ H, H = s.heap := ⟨_, rfl⟩
  obtain ⟨locs, eL⟩ : ∃ L : List Loc, L = [] := ⟨_, rfl⟩
  have hW : nb_W G xc_sh s.heap σ H locs := by rw [eH, eL]; exact hW
  suffices hgo : W p l e rmX7_back s m args below meth c H locs 0 0 (MQ below (nb_Qi G xc_sh (xc_Z (nb_A xc_sh G.2.1) tb) ro σo) args s 0 0 (nb_A xc_sh G.2.1)) (F0 m 0 ls []) by rw [eH, eL] at hgo; exact hgo
  clear eH eL
  refine lv_aload_n hx hb dX7_back_0 rfl (lv_at hl 0 rfl) ?_
  refine nb_get (C := RX7) (T := TX7) (N := 9) hx hb hts inT_X7 hown hK hW 0 rfl rfl 8 (by decide) (hts _ tw2_77) (fun _ h9 => h9) rfl (v := .ref (G.2.1 69)) rfl dX7_back_1 ?_
  refine lv_aload_n hx hb dX7_back_4 rfl (lv_at hl 0 rfl) ?_
  obtain ⟨p1, ep1, hf⟩ := nb_let_e hf
  obtain ⟨hp2, hf⟩ := nb_g_e hf
  refine nb_get (C := RX7) (T := TX7) (N := 9) hx hb hts inT_X7 hown hK hW 0 rfl rfl 3 (by decide) (hts _ tw2_72) (fun _ h9 => h9) rfl (v := .ref (G.2.1 p1)) (by rw [ep1]; rfl) dX7_back_5 ?_
  refine nb_getN (C := RX4) (T := TX4) (N := 18) (host := "NobodyFirst") hx hb hts inT_X4 hown hK hW p1 (sx_pty_0 hp2) rfl 5 (by decide) (va_Nw.use rfl (hZ.1 ("NobodyFirst", 213, "NobodyFirst$Party", "told", "LNobodyFirst$Told;", "NobodyFirst") (by decide +kernel))) (fun _ h9 => h9) rfl (v := .ref (G.2.1 (p1 + 5))) rfl dX7_back_8 ?_
  obtain ⟨r4, σ5, hc3, hf⟩ := nb_b2_e hf
  refine nb_ci hW (va_runV (As := [.ref (G.2.1 (p1 + 5))]) (rest := []) ⟨hx, hb, hml, hown, hts⟩ (c_X3_restore l hinj hZo (N := N) hc3 (x_tld_of hp2)) (cwV 1 hts (xg_V tw4_105 tw4_106 tw4_107 tw1_8 tw4_108) rfl rfl rfl (by decide +kernel) ⟨Nat.le_of_ble_eq_true rfl, Nat.le_of_ble_eq_true rfl⟩) (nb_preV hK hZ hZo hW (k := 69) rfl rfl) rfl rfl hl.1 rfl (lv_room (Nat.le_of_ble_eq_true rfl)) dX7_back_11 ⟨Nat.zero_le _, Nat.zero_le _⟩) (fun H locs hW => ?_)
  refine lv_if_ne (tgt := 20) hx hb dX7_back_14 (by decide) (fun c6 => ?_) (fun c6 => ?_)
  · rw [if_neg c6] at hf
    refine lv_aload_n hx hb dX7_back_20 rfl (lv_at hl 0 rfl) ?_
    refine nb_get (C := RX7) (T := TX7) (N := 9) hx hb hts inT_X7 hown hK hW 0 rfl rfl 6 (by decide) (hts _ tw2_75) (fun _ h9 => h9) rfl (v := .ref (G.2.1 61)) rfl dX7_back_21 ?_
    refine lv_iconst (v := (0 : Int32)) hx hb dX7_back_24 (by decide) ?_
    obtain ⟨σ7, eσ7, hf⟩ := nb_let_e hf
    refine nb_putN (C := RX2) (T := TX2) (N := 4) (host := "NobodyFirst") hx hb hts inT_X2 hown hK tyX2 tyX2_ok nmX2 hinj hW 61 rfl rfl 0 (by decide) (va_Nw.use rfl (hZ.1 ("NobodyFirst", 84, "NobodyFirst$Giving", "known", "Z", "NobodyFirst") (by decide +kernel))) (fun _ h9 => h9) rfl (ty := .boolean) (by decide +kernel) rfl rfl rfl (x := (0 : Int32)) (by show Value.int _ = _; rw [nb_st_s]) eσ7 dX7_back_25 (fun H locs hW => ?_)
    refine lv_aload_n hx hb dX7_back_28 rfl (lv_at hl 0 rfl) ?_
    refine nb_get (C := RX7) (T := TX7) (N := 9) hx hb hts inT_X7 hown hK hW 0 rfl rfl 8 (by decide) (hts _ tw2_77) (fun _ h9 => h9) rfl (v := .ref (G.2.1 69)) rfl dX7_back_29 ?_
    refine nb_getN (C := RX3) (T := TX3) (N := 5) (host := "NobodyFirst") hx hb hts inT_X3 hown hK hW 69 rfl rfl 4 (by decide) (va_Nw.use rfl (hZ.1 ("NobodyFirst", 247, "NobodyFirst$History", "kept", "I", "NobodyFirst") (by decide +kernel))) (fun _ h9 => h9) rfl (v := .int (σ7 69 4)) rfl dX7_back_32 ?_
    exact nb_ri hx hb hr hlocks hK hZ hZo hW  hf dX7_back_35
  · rw [if_pos c6] at hf
    refine lv_bipush (v := (-2 : Int32)) hx hb dX7_back_17 (by decide) ?_
    exact nb_ri hx hb hr hlocks hK hZ hZo hW  hf dX7_back_19
def fX7_count (N : Nat) (σ : nb_St) (a0 : Int32) : Option Int32 :=
  nb_let a0 fun y1 =>
  (if y1 = 0 then
  nb_let (nb_ix (σ 0 3)) fun p3 =>
  nb_g (xc_pty p3) (
  some (σ p3 0))
  else if y1 = 1 then
  some (σ 64 1)
  else if y1 = 2 then
  nb_let (nb_ix (σ 0 3)) fun p7 =>
  nb_g (xc_pty p7) (
  some (σ (p7 + 5) 0))
  else if y1 = 3 then
  nb_let (nb_ix (σ 0 3)) fun p10 =>
  nb_g (xc_pty p10) (
  some (σ (p10 + 5) 3))
  else if y1 = 4 then
  nb_let (nb_ix (σ 0 3)) fun p13 =>
  nb_g (xc_pty p13) (
  some (σ p13 9))
  else if y1 = 5 then
  nb_let (nb_ix (σ 0 3)) fun p16 =>
  nb_g (xc_pty p16) (
  some (σ p16 14))
  else if y1 = 6 then
  some (σ 69 1)
  else if y1 = 7 then
  some (σ 69 4)
  else if y1 = 8 then
  some (σ 0 1)
  else 
  some (-1 : Int32))
def rmX7_count : Room := { frames := 0, cells := 0, slots := 0, locals := 0 }
def vsX7_count : List Cond := .code yX7_count cX7_count 2 (some .int) :: xT
set_option maxHeartbeats 4000000 in
set_option maxRecDepth 100000 in
theorem c_X7_count (l : Launch) {G : nb_G} {tb : Nat → Nat} (hinj : nb_inj xc_sh G.2.1) (hZo : nb_Zok (nb_A xc_sh G.2.1) (xc_Z (nb_A xc_sh G.2.1) tb)) {N : Nat} {σ : nb_St} {a0 : Int32} {ro : Int32} (hf : fX7_count N σ a0 = some ro)  : Met l yX7_count vsX7_count rmX7_count (nb_Pc G xc_sh (xc_Z (nb_A xc_sh G.2.1) tb) σ [.ref (G.2.1 0), .int a0]) (nb_Qi G xc_sh (xc_Z (nb_A xc_sh G.2.1) tb) ro σ) 0 0 (nb_A xc_sh G.2.1) := by
  refine Met.ofW (cc := cX7_count) (maxL := 2) (ret := (some .int)) (by decide) rfl ?_
  intro p e s m args below meth c s₁ B hml hv
  obtain ⟨rfl, hP, hK, hZ⟩ := hv
  have hx := B.exec
  have hb := B.bytes
  have hr := B.returns
  have hts : ∀ w ∈ xT, w.before _ s = true := fun w h9 => atoms_spec (ws := vsX7_count) B.pre w (List.mem_cons_of_mem _ h9)
  have hown : s.vm.findClass RX7 = some m.cls := findClass_of_methodNamed B.named
  have hlocks := B.notSynchronized
  have hW : nb_W G xc_sh s.heap σ s.heap [] := ⟨hP, va_S.rf⟩
  have hl := lv_entry ([.ref (G.2.1 0), .int a0]) (n := 2) (Nat.le_of_ble_eq_true rfl)
  rw [lg_entry_eq]
  generalize (lg_sl ([.ref (G.2.1 0), .int a0]) ++ List.replicate (2 - (lg_sl ([.ref (G.2.1 0), .int a0])).length) Slot.unset).toArray = ls at hl ⊢
  have hl : lv_has ls 2 [(0, .ref (G.2.1 0)), (1, .int a0)] := hl
  show W p l e rmX7_count s m ([.ref (G.2.1 0), .int a0]).toArray below meth c s.heap [] 0 0 (MQ below (nb_Qi G xc_sh (xc_Z (nb_A xc_sh G.2.1) tb) ro σ) ([.ref (G.2.1 0), .int a0]).toArray s 0 0 (nb_A xc_sh G.2.1)) (F0 m 0 ls [])
  generalize hargs : ([.ref (G.2.1 0), .int a0] : List Value).toArray = args at hts ⊢
  unfold fX7_count at hf
  obtain ⟨H, eH⟩ : ∃ H, H = s.heap := ⟨_, rfl⟩
  obtain ⟨locs, eL⟩ : ∃ L : List Loc, L = [] := ⟨_, rfl⟩
  have hW : nb_W G xc_sh s.heap σ H locs := by rw [eH, eL]; exact hW
  suffices hgo : W p l e rmX7_count s m args below meth c H locs 0 0 (MQ below (nb_Qi G xc_sh (xc_Z (nb_A xc_sh G.2.1) tb) ro σ) args s 0 0 (nb_A xc_sh G.2.1)) (F0 m 0 ls []) by rw [eH, eL] at hgo; exact hgo
  clear eH eL
  refine lv_iload_n hx hb dX7_count_0 rfl (lv_at hl 1 rfl) ?_
  obtain ⟨y1, ey1, hf⟩ := nb_let_e hf
  refine nb_nami ey1 ?_
  by_cases h2 : y1 = 0
  · rw [if_pos h2] at hf
    refine lv_tableIn (tgt := 52) (off := 51) hx hb dX7_count_1 (by rw [h2]; decide) (by rw [h2]; decide) (by rw [h2]; decide) (by decide) ?_
    refine lv_aload_n hx hb dX7_count_52 rfl (lv_at hl 0 rfl) ?_
    obtain ⟨p3, ep3, hf⟩ := nb_let_e hf
    obtain ⟨hp4, hf⟩ := nb_g_e hf
    refine nb_get (C := RX7) (T := TX7) (N := 9) hx hb hts inT_X7 hown hK hW 0 rfl rfl 3 (by decide) (hts _ tw2_72) (fun _ h9 => h9) rfl (v := .ref (G.2.1 p3)) (by rw [ep3]; rfl) dX7_count_53 ?_
    refine nb_getN (C := RX4) (T := TX4) (N := 18) (host := "NobodyFirst") hx hb hts inT_X4 hown hK hW p3 (sx_pty_0 hp4) rfl 0 (by decide) (va_Nw.use rfl (hZ.1 ("NobodyFirst", 78, "NobodyFirst$Party", "guests", "I", "NobodyFirst") (by decide +kernel))) (fun _ h9 => h9) rfl (v := .int (σ p3 0)) rfl dX7_count_56 ?_
    exact nb_rip hx hb hr hlocks hK hZ hZo hW  hf dX7_count_59
  rw [if_neg h2] at hf
  by_cases h5 : y1 = 1
  · rw [if_pos h5] at hf
    refine lv_tableIn (tgt := 60) (off := 59) hx hb dX7_count_1 (by rw [h5]; decide) (by rw [h5]; decide) (by rw [h5]; decide) (by decide) ?_
    refine lv_aload_n hx hb dX7_count_60 rfl (lv_at hl 0 rfl) ?_
    refine nb_get (C := RX7) (T := TX7) (N := 9) hx hb hts inT_X7 hown hK hW 0 rfl rfl 7 (by decide) (hts _ tw2_76) (fun _ h9 => h9) rfl (v := .ref (G.2.1 64)) rfl dX7_count_61 ?_
    refine nb_getN (C := RX1) (T := TX1) (N := 9) (host := "NobodyFirst") hx hb hts inT_X1 hown hK hW 64 rfl rfl 1 (by decide) (va_Nw.use rfl (hZ.1 ("NobodyFirst", 156, "NobodyFirst$Game", "pairs", "I", "NobodyFirst") (by decide +kernel))) (fun _ h9 => h9) rfl (v := .int (σ 64 1)) rfl dX7_count_64 ?_
    exact nb_rip hx hb hr hlocks hK hZ hZo hW  hf dX7_count_67
  rw [if_neg h5] at hf
  by_cases h6 : y1 = 2
  · rw [if_pos h6] at hf
    refine lv_tableIn (tgt := 68) (off := 67) hx hb dX7_count_1 (by rw [h6]; decide) (by rw [h6]; decide) (by rw [h6]; decide) (by decide) ?_
    refine lv_aload_n hx hb dX7_count_68 rfl (lv_at hl 0 rfl) ?_
    obtain ⟨p7, ep7, hf⟩ := nb_let_e hf
    obtain ⟨hp8, hf⟩ := nb_g_e hf
    refine nb_get (C := RX7) (T := TX7) (N := 9) hx hb hts inT_X7 hown hK hW 0 rfl rfl 3 (by decide) (hts _ tw2_72) (fun _ h9 => h9) rfl (v := .ref (G.2.1 p7)) (by rw [ep7]; rfl) dX7_count_69 ?_
    refine nb_getN (C := RX4) (T := TX4) (N := 18) (host := "NobodyFirst") hx hb hts inT_X4 hown hK hW p7 (sx_pty_0 hp8) rfl 5 (by decide) (va_Nw.use rfl (hZ.1 ("NobodyFirst", 213, "NobodyFirst$Party", "told", "LNobodyFirst$Told;", "NobodyFirst") (by decide +kernel))) (fun _ h9 => h9) rfl (v := .ref (G.2.1 (p7 + 5))) rfl dX7_count_72 ?_
    refine nb_getN (C := RX6) (T := TX6) (N := 5) (host := "NobodyFirst") hx hb hts inT_X6 hown hK hW (p7 + 5) (sx_pty_5 hp8) rfl 0 (by decide) (va_Nw.use rfl (hZ.1 ("NobodyFirst", 227, "NobodyFirst$Told", "signs", "I", "NobodyFirst") (by decide +kernel))) (fun _ h9 => h9) rfl (v := .int (σ (p7 + 5) 0)) rfl dX7_count_75 ?_
    exact nb_rip hx hb hr hlocks hK hZ hZo hW  hf dX7_count_78
  rw [if_neg h6] at hf
  by_cases h9 : y1 = 3
  · rw [if_pos h9] at hf
    refine lv_tableIn (tgt := 79) (off := 78) hx hb dX7_count_1 (by rw [h9]; decide) (by rw [h9]; decide) (by rw [h9]; decide) (by decide) ?_
    refine lv_aload_n hx hb dX7_count_79 rfl (lv_at hl 0 rfl) ?_
    obtain ⟨p10, ep10, hf⟩ := nb_let_e hf
    obtain ⟨hp11, hf⟩ := nb_g_e hf
    refine nb_get (C := RX7) (T := TX7) (N := 9) hx hb hts inT_X7 hown hK hW 0 rfl rfl 3 (by decide) (hts _ tw2_72) (fun _ h9 => h9) rfl (v := .ref (G.2.1 p10)) (by rw [ep10]; rfl) dX7_count_80 ?_
    refine nb_getN (C := RX4) (T := TX4) (N := 18) (host := "NobodyFirst") hx hb hts inT_X4 hown hK hW p10 (sx_pty_0 hp11) rfl 5 (by decide) (va_Nw.use rfl (hZ.1 ("NobodyFirst", 213, "NobodyFirst$Party", "told", "LNobodyFirst$Told;", "NobodyFirst") (by decide +kernel))) (fun _ h9 => h9) rfl (v := .ref (G.2.1 (p10 + 5))) rfl dX7_count_83 ?_
    refine nb_getN (C := RX6) (T := TX6) (N := 5) (host := "NobodyFirst") hx hb hts inT_X6 hown hK hW (p10 + 5) (sx_pty_5 hp11) rfl 3 (by decide) (va_Nw.use rfl (hZ.1 ("NobodyFirst", 233, "NobodyFirst$Told", "words", "I", "NobodyFirst") (by decide +kernel))) (fun _ h9 => h9) rfl (v := .int (σ (p10 + 5) 3)) rfl dX7_count_86 ?_
    exact nb_rip hx hb hr hlocks hK hZ hZo hW  hf dX7_count_89
  rw [if_neg h9] at hf
  by_cases h12 : y1 = 4
  · rw [if_pos h12] at hf
    refine lv_tableIn (tgt := 90) (off := 89) hx hb dX7_count_1 (by rw [h12]; decide) (by rw [h12]; decide) (by rw [h12]; decide) (by decide) ?_
    refine lv_aload_n hx hb dX7_count_90 rfl (lv_at hl 0 rfl) ?_
    obtain ⟨p13, ep13, hf⟩ := nb_let_e hf
    obtain ⟨hp14, hf⟩ := nb_g_e hf
    refine nb_get (C := RX7) (T := TX7) (N := 9) hx hb hts inT_X7 hown hK hW 0 rfl rfl 3 (by decide) (hts _ tw2_72) (fun _ h9 => h9) rfl (v := .ref (G.2.1 p13)) (by rw [ep13]; rfl) dX7_count_91 ?_
    refine nb_getN (C := RX4) (T := TX4) (N := 18) (host := "NobodyFirst") hx hb hts inT_X4 hown hK hW p13 (sx_pty_0 hp14) rfl 9 (by decide) (va_Nw.use rfl (hZ.1 ("NobodyFirst", 143, "NobodyFirst$Party", "offers", "I", "NobodyFirst") (by decide +kernel))) (fun _ h9 => h9) rfl (v := .int (σ p13 9)) rfl dX7_count_94 ?_
    exact nb_rip hx hb hr hlocks hK hZ hZo hW  hf dX7_count_97
  rw [if_neg h12] at hf
  by_cases h15 : y1 = 5
  · rw [if_pos h15] at hf
    refine lv_tableIn (tgt := 98) (off := 97) hx hb dX7_count_1 (by rw [h15]; decide) (by rw [h15]; decide) (by rw [h15]; decide) (by decide) ?_
    refine lv_aload_n hx hb dX7_count_98 rfl (lv_at hl 0 rfl) ?_
    obtain ⟨p16, ep16, hf⟩ := nb_let_e hf
    obtain ⟨hp17, hf⟩ := nb_g_e hf
    refine nb_get (C := RX7) (T := TX7) (N := 9) hx hb hts inT_X7 hown hK hW 0 rfl rfl 3 (by decide) (hts _ tw2_72) (fun _ h9 => h9) rfl (v := .ref (G.2.1 p16)) (by rw [ep16]; rfl) dX7_count_99 ?_
    refine nb_getN (C := RX4) (T := TX4) (N := 18) (host := "NobodyFirst") hx hb hts inT_X4 hown hK hW p16 (sx_pty_0 hp17) rfl 14 (by decide) (va_Nw.use rfl (hZ.1 ("NobodyFirst", 253, "NobodyFirst$Party", "looks", "I", "NobodyFirst") (by decide +kernel))) (fun _ h9 => h9) rfl (v := .int (σ p16 14)) rfl dX7_count_102 ?_
    exact nb_rip hx hb hr hlocks hK hZ hZo hW  hf dX7_count_105
  rw [if_neg h15] at hf
  by_cases h18 : y1 = 6
  · rw [if_pos h18] at hf
    refine lv_tableIn (tgt := 106) (off := 105) hx hb dX7_count_1 (by rw [h18]; decide) (by rw [h18]; decide) (by rw [h18]; decide) (by decide) ?_
    refine lv_aload_n hx hb dX7_count_106 rfl (lv_at hl 0 rfl) ?_
    refine nb_get (C := RX7) (T := TX7) (N := 9) hx hb hts inT_X7 hown hK hW 0 rfl rfl 8 (by decide) (hts _ tw2_77) (fun _ h9 => h9) rfl (v := .ref (G.2.1 69)) rfl dX7_count_107 ?_
    refine nb_getN (C := RX3) (T := TX3) (N := 5) (host := "NobodyFirst") hx hb hts inT_X3 hown hK hW 69 rfl rfl 1 (by decide) (va_Nw.use rfl (hZ.1 ("NobodyFirst", 236, "NobodyFirst$History", "steps", "I", "NobodyFirst") (by decide +kernel))) (fun _ h9 => h9) rfl (v := .int (σ 69 1)) rfl dX7_count_110 ?_
    exact nb_rip hx hb hr hlocks hK hZ hZo hW  hf dX7_count_113
  rw [if_neg h18] at hf
  by_cases h19 : y1 = 7
  · rw [if_pos h19] at hf
    refine lv_tableIn (tgt := 114) (off := 113) hx hb dX7_count_1 (by rw [h19]; decide) (by rw [h19]; decide) (by rw [h19]; decide) (by decide) ?_
    refine lv_aload_n hx hb dX7_count_114 rfl (lv_at hl 0 rfl) ?_
    refine nb_get (C := RX7) (T := TX7) (N := 9) hx hb hts inT_X7 hown hK hW 0 rfl rfl 8 (by decide) (hts _ tw2_77) (fun _ h9 => h9) rfl (v := .ref (G.2.1 69)) rfl dX7_count_115 ?_
    refine nb_getN (C := RX3) (T := TX3) (N := 5) (host := "NobodyFirst") hx hb hts inT_X3 hown hK hW 69 rfl rfl 4 (by decide) (va_Nw.use rfl (hZ.1 ("NobodyFirst", 247, "NobodyFirst$History", "kept", "I", "NobodyFirst") (by decide +kernel))) (fun _ h9 => h9) rfl (v := .int (σ 69 4)) rfl dX7_count_118 ?_
    exact nb_rip hx hb hr hlocks hK hZ hZo hW  hf dX7_count_121
  rw [if_neg h19] at hf
  by_cases h20 : y1 = 8
  · rw [if_pos h20] at hf
    refine lv_tableIn (tgt := 122) (off := 121) hx hb dX7_count_1 (by rw [h20]; decide) (by rw [h20]; decide) (by rw [h20]; decide) (by decide) ?_
    refine lv_aload_n hx hb dX7_count_122 rfl (lv_at hl 0 rfl) ?_
    refine nb_get (C := RX7) (T := TX7) (N := 9) hx hb hts inT_X7 hown hK hW 0 rfl rfl 1 (by decide) (hts _ tw2_70) (fun _ h9 => h9) rfl (v := .int (σ 0 1)) rfl dX7_count_123 ?_
    exact nb_rip hx hb hr hlocks hK hZ hZo hW  hf dX7_count_126
  rw [if_neg h20] at hf
  refine lv_tableOut (tgt := 127) hx hb dX7_count_1 (by exact nb_out0_8 h2 h5 h6 h9 h12 h15 h18 h19 h20) (by decide) ?_
  refine lv_iconst (v := (-1 : Int32)) hx hb dX7_count_127 (by decide) ?_
  exact nb_rip hx hb hr hlocks hK hZ hZo hW  hf dX7_count_128
