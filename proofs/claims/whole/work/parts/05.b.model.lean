def fX8_asItIs (N : Nat) (σ : nb_St)  : Option nb_St :=
  nb_let (nb_st σ 0 29 (-4 : Int32)) fun σ1 =>
  nb_let (nb_st σ1 0 30 (0 : Int32)) fun σ2 =>
  nb_let (nb_st σ2 0 31 (-4 : Int32)) fun σ3 =>
  nb_let (nb_st σ3 0 32 (-4 : Int32)) fun σ4 =>
  nb_lp2 (R := nb_St) (fun ag7 (x5 : Int32) (σ6 : nb_St) =>
  (if (3 : Int32) ≤ x5 then
  some σ6
  else
  nb_g (nb_in x5 3) (
  nb_let (nb_st σ6 26 (nb_ix x5) (-4 : Int32)) fun σ11 =>
  ag7 (x5 + 1) σ11))) N (0 : Int32) σ4
def rmX8_asItIs : Room := { frames := 0, cells := 0, slots := 0, locals := 0 }
def vsX8_asItIs : List Cond := .code yX8_asItIs cX8_asItIs 2 none :: xT
set_option maxHeartbeats 4000000 in
set_option maxRecDepth 100000 in
theorem c_X8_asItIs (l : Launch) {G : nb_G} {Z : State → Heap → Prop} (hinj : nb_inj xm_sh G.2.1) (hZo : nb_Zok (nb_A xm_sh G.2.1) Z) {N : Nat} {σ : nb_St}  {σo : nb_St} (hf : fX8_asItIs N σ = some σo)  : Met l yX8_asItIs vsX8_asItIs rmX8_asItIs (nb_Pc G xm_sh Z σ [.ref (G.2.1 0)]) (nb_Qv G xm_sh Z σo) 0 0 (nb_A xm_sh G.2.1) := by
  refine Met.ofW (cc := cX8_asItIs) (maxL := 2) (ret := none) (by decide) rfl ?_
  intro p e s m args below meth c s₁ B hml hv
  obtain ⟨rfl, hP, hK, hZ⟩ := hv
  have hx := B.exec
  have hb := B.bytes
  have hr := B.returns
  have hts : ∀ w ∈ xT, w.before _ s = true := fun w h9 => atoms_spec (ws := vsX8_asItIs) B.pre w (List.mem_cons_of_mem _ h9)
  have hown : s.vm.findClass RX8 = some m.cls := findClass_of_methodNamed B.named
  have hlocks := B.notSynchronized
  have hW : nb_W G xm_sh s.heap σ s.heap [] := ⟨hP, va_S.rf⟩
  have hl := lv_entry ([.ref (G.2.1 0)]) (n := 2) (Nat.le_of_ble_eq_true rfl)
  rw [lg_entry_eq]
  generalize (lg_sl ([.ref (G.2.1 0)]) ++ List.replicate (2 - (lg_sl ([.ref (G.2.1 0)])).length) Slot.unset).toArray = ls at hl ⊢
  have hl : lv_has ls 2 [(0, .ref (G.2.1 0))] := hl
  show W p l e rmX8_asItIs s m ([.ref (G.2.1 0)]).toArray below meth c s.heap [] 0 0 (MQ below (nb_Qv G xm_sh Z σo) ([.ref (G.2.1 0)]).toArray s 0 0 (nb_A xm_sh G.2.1)) (F0 m 0 ls [])
  generalize hargs : ([.ref (G.2.1 0)] : List Value).toArray = args at hts ⊢
  unfold fX8_asItIs at hf
  obtain ⟨H, eH⟩ : ∃ H, H = s.heap := ⟨_, rfl⟩
  obtain ⟨locs, eL⟩ : ∃ L : List Loc, L = [] := ⟨_, rfl⟩
  have hW : nb_W G xm_sh s.heap σ H locs := by rw [eH, eL]; exact hW
  suffices hgo : W p l e rmX8_asItIs s m args below meth c H locs 0 0 (MQ below (nb_Qv G xm_sh Z σo) args s 0 0 (nb_A xm_sh G.2.1)) (F0 m 0 ls []) by rw [eH, eL] at hgo; exact hgo
  clear eH eL
  refine lv_aload_n hx hb dX8_asItIs_0 rfl (lv_at hl 0 rfl) ?_
  refine lv_bipush (v := (-4 : Int32)) hx hb dX8_asItIs_1 (by decide) ?_
  obtain ⟨σ1, eσ1, hf⟩ := nb_let_e hf
  refine nb_put (C := RX8) (T := TX8) (N := 40) hx hb hts inT_X8 hown hK tyX8 tyX8_ok nmX8 hinj hW 0 rfl rfl 29 (by decide) (hts _ tw4_152) (fun _ h9 => h9) rfl (ty := .int) (by decide +kernel) rfl rfl rfl (x := (-4 : Int32)) (by show Value.int _ = _; rw [nb_st_s]) eσ1 dX8_asItIs_3 (fun H locs hW => ?_)
  refine lv_aload_n hx hb dX8_asItIs_6 rfl (lv_at hl 0 rfl) ?_
  refine lv_iconst (v := (0 : Int32)) hx hb dX8_asItIs_7 (by decide) ?_
  obtain ⟨σ2, eσ2, hf⟩ := nb_let_e hf
  refine nb_put (C := RX8) (T := TX8) (N := 40) hx hb hts inT_X8 hown hK tyX8 tyX8_ok nmX8 hinj hW 0 rfl rfl 30 (by decide) (hts _ tw4_153) (fun _ h9 => h9) rfl (ty := .int) (by decide +kernel) rfl rfl rfl (x := (0 : Int32)) (by show Value.int _ = _; rw [nb_st_s]) eσ2 dX8_asItIs_8 (fun H locs hW => ?_)
  refine lv_aload_n hx hb dX8_asItIs_11 rfl (lv_at hl 0 rfl) ?_
  refine lv_bipush (v := (-4 : Int32)) hx hb dX8_asItIs_12 (by decide) ?_
  obtain ⟨σ3, eσ3, hf⟩ := nb_let_e hf
  refine nb_put (C := RX8) (T := TX8) (N := 40) hx hb hts inT_X8 hown hK tyX8 tyX8_ok nmX8 hinj hW 0 rfl rfl 31 (by decide) (hts _ tw4_154) (fun _ h9 => h9) rfl (ty := .int) (by decide +kernel) rfl rfl rfl (x := (-4 : Int32)) (by show Value.int _ = _; rw [nb_st_s]) eσ3 dX8_asItIs_14 (fun H locs hW => ?_)
  refine lv_aload_n hx hb dX8_asItIs_17 rfl (lv_at hl 0 rfl) ?_
  refine lv_bipush (v := (-4 : Int32)) hx hb dX8_asItIs_18 (by decide) ?_
  obtain ⟨σ4, eσ4, hf⟩ := nb_let_e hf
  refine nb_put (C := RX8) (T := TX8) (N := 40) hx hb hts inT_X8 hown hK tyX8 tyX8_ok nmX8 hinj hW 0 rfl rfl 32 (by decide) (hts _ tw4_155) (fun _ h9 => h9) rfl (ty := .int) (by decide +kernel) rfl rfl rfl (x := (-4 : Int32)) (by show Value.int _ = _; rw [nb_st_s]) eσ4 dX8_asItIs_20 (fun H locs hW => ?_)
  refine lv_iconst (v := (0 : Int32)) hx hb dX8_asItIs_23 (by decide) ?_
  refine lv_istore_n (lv' := [(1, .int (0 : Int32)), (0, .ref (G.2.1 0))]) hx hb dX8_asItIs_24 rfl hl (by decide) rfl (fun ls hl => ?_)
  refine nb_w2 (P := fun (x5 : Int32) (σ6 : nb_St) => ∀ (H : Heap) (locs : List Loc) (ls : Array Slot), nb_W G xm_sh s.heap σ6 H locs → lv_has ls 2 [(0, .ref (G.2.1 0)), (1, .int x5)] → W p l e rmX8_asItIs s m args below meth c H locs 0 0 (MQ below (nb_Qv G xm_sh Z σo) args s 0 0 (nb_A xm_sh G.2.1)) (F0 m 25 ls [])) ?_ N _ _ hf H locs ls hW (lv_sub hl [1, 0] rfl)
  intro ag7 ih8 x5 σ6 hf H locs ls hW hl
  refine lv_iload_n hx hb dX8_asItIs_25 rfl (lv_at hl 1 rfl) ?_
  refine lv_iconst (v := (3 : Int32)) hx hb dX8_asItIs_26 (by decide) ?_
  refine lv_icmp_ge (tgt := 44) hx hb dX8_asItIs_27 (by decide) (fun c9 => ?_) (fun c9 => ?_)
  · rw [if_pos c9] at hf
    exact nb_rv hx hb hr hlocks hK hZ hZo hW hf dX8_asItIs_44
  · rw [if_neg c9] at hf
    refine lv_aload_n hx hb dX8_asItIs_30 rfl (lv_at hl 0 rfl) ?_
    refine nb_get (C := RX8) (T := TX8) (N := 40) hx hb hts inT_X8 hown hK hW 0 rfl rfl 33 (by decide) (hts _ tw4_156) (fun _ h9 => h9) rfl (v := .ref (G.2.1 26)) rfl dX8_asItIs_31 ?_
    refine lv_iload_n hx hb dX8_asItIs_34 rfl (lv_at hl 1 rfl) ?_
    refine lv_bipush (v := (-4 : Int32)) hx hb dX8_asItIs_35 (by decide) ?_
    obtain ⟨g10, hf⟩ := nb_g_e hf
    obtain ⟨σ11, eσ11, hf⟩ := nb_let_e hf
    refine nb_iast hx hb hK hinj hW 26 rfl g10 eσ11 dX8_asItIs_37 (fun H locs hW => ?_)
    refine lv_iinc (v := (x5 + 1)) (lv' := [(1, .int (x5 + 1)), (0, .ref (G.2.1 0))]) hx hb dX8_asItIs_38 hl (k := 1) rfl rfl (by decide) rfl (fun ls hl => ?_)
    refine lv_goto (tgt := 25) hx hb dX8_asItIs_41 (by decide) ?_
    exact ih8 _ _ hf _ _ _ hW (lv_sub hl [1, 0] rfl)
def fX8_counts (N : Nat) (σ : nb_St) (a0 : Int32) (a1 : Int32) : Option Int32 :=
  (if 0 ≤ (σ 0 32) then
  nb_let (((((7919 : Int64) * (((σ 0 32)).toInt64)) + ((6151 : Int64) * ((a0).toInt64))) + ((3571 : Int64) * ((a1).toInt64))) + (1 : Int64)) fun x2 =>
  (if 0 ≤ (lg_cmp (nb_lrem (nb_lrem (x2 * x2) (65521 : Int64)) (10 : Int64)) (6 : Int64)) then
  some (0 : Int32)
  else
  some (1 : Int32))
  else
  some (1 : Int32))
def rmX8_counts : Room := { frames := 0, cells := 0, slots := 0, locals := 0 }
def vsX8_counts : List Cond := .code yX8_counts cX8_counts 5 (some .boolean) :: xT
set_option maxHeartbeats 4000000 in
set_option maxRecDepth 100000 in
theorem c_X8_counts (l : Launch) {G : nb_G} {Z : State → Heap → Prop} (hinj : nb_inj xm_sh G.2.1) (hZo : nb_Zok (nb_A xm_sh G.2.1) Z) {N : Nat} {σ : nb_St} {a0 : Int32} {a1 : Int32} {ro : Int32} (hf : fX8_counts N σ a0 a1 = some ro)  : Met l yX8_counts vsX8_counts rmX8_counts (nb_Pc G xm_sh Z σ [.ref (G.2.1 0), .int a0, .int a1]) (nb_Qi G xm_sh Z ro σ) 0 0 (nb_A xm_sh G.2.1) := by
  refine Met.ofW (cc := cX8_counts) (maxL := 5) (ret := (some .boolean)) (by decide) rfl ?_
  intro p e s m args below meth c s₁ B hml hv
  obtain ⟨rfl, hP, hK, hZ⟩ := hv
  have hx := B.exec
  have hb := B.bytes
  have hr := B.returns
  have hts : ∀ w ∈ xT, w.before _ s = true := fun w h9 => atoms_spec (ws := vsX8_counts) B.pre w (List.mem_cons_of_mem _ h9)
  have hown : s.vm.findClass RX8 = some m.cls := findClass_of_methodNamed B.named
  have hlocks := B.notSynchronized
  have hW : nb_W G xm_sh s.heap σ s.heap [] := ⟨hP, va_S.rf⟩
  have hl := lv_entry ([.ref (G.2.1 0), .int a0, .int a1]) (n := 5) (Nat.le_of_ble_eq_true rfl)
  rw [lg_entry_eq]
  generalize (lg_sl ([.ref (G.2.1 0), .int a0, .int a1]) ++ List.replicate (5 - (lg_sl ([.ref (G.2.1 0), .int a0, .int a1])).length) Slot.unset).toArray = ls at hl ⊢
  have hl : lv_has ls 5 [(0, .ref (G.2.1 0)), (1, .int a0), (2, .int a1)] := hl
  show W p l e rmX8_counts s m ([.ref (G.2.1 0), .int a0, .int a1]).toArray below meth c s.heap [] 0 0 (MQ below (nb_Qi G xm_sh Z ro σ) ([.ref (G.2.1 0), .int a0, .int a1]).toArray s 0 0 (nb_A xm_sh G.2.1)) (F0 m 0 ls [])
  generalize hargs : ([.ref (G.2.1 0), .int a0, .int a1] : List Value).toArray = args at hts ⊢
  unfold fX8_counts at hf
  obtain ⟨H, eH⟩ : ∃ H, H = s.heap := ⟨_, rfl⟩
  obtain ⟨locs, eL⟩ : ∃ L : List Loc, L = [] := ⟨_, rfl⟩
  have hW : nb_W G xm_sh s.heap σ H locs := by rw [eH, eL]; exact hW
  suffices hgo : W p l e rmX8_counts s m args below meth c H locs 0 0 (MQ below (nb_Qi G xm_sh Z ro σ) args s 0 0 (nb_A xm_sh G.2.1)) (F0 m 0 ls []) by rw [eH, eL] at hgo; exact hgo
  clear eH eL
  refine lv_aload_n hx hb dX8_counts_0 rfl (lv_at hl 0 rfl) ?_
  refine nb_get (C := RX8) (T := TX8) (N := 40) hx hb hts inT_X8 hown hK hW 0 rfl rfl 32 (by decide) (hts _ tw4_155) (fun _ h9 => h9) rfl (v := .int (σ 0 32)) rfl dX8_counts_1 ?_
  refine lv_if_ge (tgt := 9) hx hb dX8_counts_4 (by decide) (fun c1 => ?_) (fun c1 => ?_)
  · rw [if_pos c1] at hf
    refine lv_ldc2 (own := RX8) (v := (7919 : Int64)) hx hb hown (hts _ tw5_110) dX8_counts_9 ?_
    refine lv_aload_n hx hb dX8_counts_12 rfl (lv_at hl 0 rfl) ?_
    refine nb_get (C := RX8) (T := TX8) (N := 40) hx hb hts inT_X8 hown hK hW 0 rfl rfl 32 (by decide) (hts _ tw4_155) (fun _ h9 => h9) rfl (v := .int (σ 0 32)) rfl dX8_counts_13 ?_
    refine lv_i2l hx hb dX8_counts_16 rfl ?_
    refine lv_lmul hx hb dX8_counts_17 ?_
    refine lv_ldc2 (own := RX8) (v := (6151 : Int64)) hx hb hown (hts _ tw5_111) dX8_counts_18 ?_
    refine lv_iload_n hx hb dX8_counts_21 rfl (lv_at hl 1 rfl) ?_
    refine lv_i2l hx hb dX8_counts_22 rfl ?_
    refine lv_lmul hx hb dX8_counts_23 ?_
    refine lv_ladd hx hb dX8_counts_24 ?_
    refine lv_ldc2 (own := RX8) (v := (3571 : Int64)) hx hb hown (hts _ tw5_112) dX8_counts_25 ?_
    refine lv_iload_n hx hb dX8_counts_28 rfl (lv_at hl 2 rfl) ?_
    refine lv_i2l hx hb dX8_counts_29 rfl ?_
    refine lv_lmul hx hb dX8_counts_30 ?_
    refine lv_ladd hx hb dX8_counts_31 ?_
    refine lv_lconst (v := (1 : Int64)) hx hb dX8_counts_32 (by decide) ?_
    refine lv_ladd hx hb dX8_counts_33 ?_
    obtain ⟨x2, ex2, hf⟩ := nb_let_e hf
    refine nb_naml ex2 ?_
    refine lv_lstore_n (lv' := [(3, .long x2), (0, .ref (G.2.1 0)), (1, .int a0), (2, .int a1)]) hx hb dX8_counts_34 rfl hl (by decide) rfl (fun ls hl => ?_)
    refine lv_lload_n hx hb dX8_counts_35 rfl (lv_at hl 0 rfl) ?_
    refine lv_lload_n hx hb dX8_counts_36 rfl (lv_at hl 0 rfl) ?_
    refine lv_lmul hx hb dX8_counts_37 ?_
    refine lv_ldc2 (own := RX8) (v := (65521 : Int64)) hx hb hown (hts _ tw5_113) dX8_counts_38 ?_
    refine nb_lremr hx hb dX8_counts_41 (by decide) ?_
    refine lv_ldc2 (own := RX8) (v := (10 : Int64)) hx hb hown (hts _ tw5_114) dX8_counts_42 ?_
    refine nb_lremr hx hb dX8_counts_45 (by decide) ?_
    refine lv_ldc2 (own := RX8) (v := (6 : Int64)) hx hb hown (hts _ tw5_115) dX8_counts_46 ?_
    refine W.lcmp hx hb dX8_counts_49 ?_
    refine lv_if_ge (tgt := 57) hx hb dX8_counts_50 (by decide) (fun c3 => ?_) (fun c3 => ?_)
    · rw [if_pos c3] at hf
      refine lv_iconst (v := (0 : Int32)) hx hb dX8_counts_57 (by decide) ?_
      exact nb_rzp hx hb hr hlocks hK hZ hZo hW rfl hf dX8_counts_58
    · rw [if_neg c3] at hf
      refine lv_iconst (v := (1 : Int32)) hx hb dX8_counts_53 (by decide) ?_
      refine lv_goto (tgt := 58) hx hb dX8_counts_54 (by decide) ?_
      exact nb_rzp hx hb hr hlocks hK hZ hZo hW rfl hf dX8_counts_58
  · rw [if_neg c1] at hf
    refine lv_iconst (v := (1 : Int32)) hx hb dX8_counts_7 (by decide) ?_
    exact nb_rzp hx hb hr hlocks hK hZ hZo hW rfl hf dX8_counts_8
def fX8_stoodAhead (N : Nat) (σ : nb_St) (a0 : Int32) : Option Int32 :=
  nb_lp2 (R := Int32) (fun ag3 (x1 : Int32) (x2 : Int32) =>
  nb_g (nb_in (0 : Int32) 2) (
  (if (σ 2 (nb_ix (0 : Int32))) ≤ x2 then
  some x1
  else
  nb_g (nb_in x2 16) (
  nb_g (nb_in (σ 3 (nb_ix x2)) 4) (
  nb_let (fun (v11 : Int32) =>
  nb_let (x1 + v11) fun x12 =>
  ag3 x12 (x2 + 1)) fun k9 =>
  (if a0 ≤ (σ 27 (nb_ix (σ 3 (nb_ix x2)))) then
  k9 (0 : Int32)
  else
  k9 (1 : Int32))))))) N (0 : Int32) (0 : Int32)
def rmX8_stoodAhead : Room := { frames := 0, cells := 0, slots := 0, locals := 0 }
def vsX8_stoodAhead : List Cond := .code yX8_stoodAhead cX8_stoodAhead 4 (some .int) :: xT
set_option maxHeartbeats 4000000 in
set_option maxRecDepth 100000 in
theorem c_X8_stoodAhead (l : Launch) {G : nb_G} {Z : State → Heap → Prop} (hinj : nb_inj xm_sh G.2.1) (hZo : nb_Zok (nb_A xm_sh G.2.1) Z) {N : Nat} {σ : nb_St} {a0 : Int32} {ro : Int32} (hf : fX8_stoodAhead N σ a0 = some ro)  : Met l yX8_stoodAhead vsX8_stoodAhead rmX8_stoodAhead (nb_Pc G xm_sh Z σ [.ref (G.2.1 0), .int a0]) (nb_Qi G xm_sh Z ro σ) 0 0 (nb_A xm_sh G.2.1) := by
  refine Met.ofW (cc := cX8_stoodAhead) (maxL := 4) (ret := (some .int)) (by decide) rfl ?_
  intro p e s m args below meth c s₁ B hml hv
  obtain ⟨rfl, hP, hK, hZ⟩ := hv
  have hx := B.exec
  have hb := B.bytes
  have hr := B.returns
  have hts : ∀ w ∈ xT, w.before _ s = true := fun w h9 => atoms_spec (ws := vsX8_stoodAhead) B.pre w (List.mem_cons_of_mem _ h9)
  have hown : s.vm.findClass RX8 = some m.cls := findClass_of_methodNamed B.named
  have hlocks := B.notSynchronized
  have hW : nb_W G xm_sh s.heap σ s.heap [] := ⟨hP, va_S.rf⟩
  have hl := lv_entry ([.ref (G.2.1 0), .int a0]) (n := 4) (Nat.le_of_ble_eq_true rfl)
  rw [lg_entry_eq]
  generalize (lg_sl ([.ref (G.2.1 0), .int a0]) ++ List.replicate (4 - (lg_sl ([.ref (G.2.1 0), .int a0])).length) Slot.unset).toArray = ls at hl ⊢
  have hl : lv_has ls 4 [(0, .ref (G.2.1 0)), (1, .int a0)] := hl
  show W p l e rmX8_stoodAhead s m ([.ref (G.2.1 0), .int a0]).toArray below meth c s.heap [] 0 0 (MQ below (nb_Qi G xm_sh Z ro σ) ([.ref (G.2.1 0), .int a0]).toArray s 0 0 (nb_A xm_sh G.2.1)) (F0 m 0 ls [])
  generalize hargs : ([.ref (G.2.1 0), .int a0] : List Value).toArray = args at hts ⊢
  unfold fX8_stoodAhead at hf
  obtain ⟨H, eH⟩ : ∃ H, H = s.heap := ⟨_, rfl⟩
  obtain ⟨locs, eL⟩ : ∃ L : List Loc, L = [] := ⟨_, rfl⟩
  have hW : nb_W G xm_sh s.heap σ H locs := by rw [eH, eL]; exact hW
  suffices hgo : W p l e rmX8_stoodAhead s m args below meth c H locs 0 0 (MQ below (nb_Qi G xm_sh Z ro σ) args s 0 0 (nb_A xm_sh G.2.1)) (F0 m 0 ls []) by rw [eH, eL] at hgo; exact hgo
  clear eH eL
  refine lv_iconst (v := (0 : Int32)) hx hb dX8_stoodAhead_0 (by decide) ?_
  refine lv_istore_n (lv' := [(2, .int (0 : Int32)), (0, .ref (G.2.1 0)), (1, .int a0)]) hx hb dX8_stoodAhead_1 rfl hl (by decide) rfl (fun ls hl => ?_)
  refine lv_iconst (v := (0 : Int32)) hx hb dX8_stoodAhead_2 (by decide) ?_
  refine lv_istore_n (lv' := [(3, .int (0 : Int32)), (2, .int (0 : Int32)), (0, .ref (G.2.1 0)), (1, .int a0)]) hx hb dX8_stoodAhead_3 rfl hl (by decide) rfl (fun ls hl => ?_)
  refine nb_w2 (P := fun (x1 : Int32) (x2 : Int32) => ∀ (H : Heap) (locs : List Loc) (ls : Array Slot), nb_W G xm_sh s.heap σ H locs → lv_has ls 4 [(0, .ref (G.2.1 0)), (1, .int a0), (2, .int x1), (3, .int x2)] → W p l e rmX8_stoodAhead s m args below meth c H locs 0 0 (MQ below (nb_Qi G xm_sh Z ro σ) args s 0 0 (nb_A xm_sh G.2.1)) (F0 m 4 ls [])) ?_ N _ _ hf H locs ls hW (lv_sub hl [2, 3, 1, 0] rfl)
  intro ag3 ih4 x1 x2 hf H locs ls hW hl
  refine lv_iload_n hx hb dX8_stoodAhead_4 rfl (lv_at hl 3 rfl) ?_
  refine lv_aload_n hx hb dX8_stoodAhead_5 rfl (lv_at hl 0 rfl) ?_
  refine nb_get (C := RX8) (T := TX8) (N := 40) hx hb hts inT_X8 hown hK hW 0 rfl rfl 2 (by decide) (hts _ tw4_125) (fun _ h9 => h9) rfl (v := .ref (G.2.1 2)) rfl dX8_stoodAhead_6 ?_
  refine lv_iconst (v := (0 : Int32)) hx hb dX8_stoodAhead_9 (by decide) ?_
  obtain ⟨g5, hf⟩ := nb_g_e hf
  refine nb_iald hx hb hK hW 2 rfl g5 dX8_stoodAhead_10 ?_
  refine lv_icmp_ge (tgt := 43) hx hb dX8_stoodAhead_11 (by decide) (fun c6 => ?_) (fun c6 => ?_)
  · rw [if_pos c6] at hf
    refine lv_iload_n hx hb dX8_stoodAhead_43 rfl (lv_at hl 2 rfl) ?_
    exact nb_rip hx hb hr hlocks hK hZ hZo hW  hf dX8_stoodAhead_44
  · rw [if_neg c6] at hf
    refine lv_iload_n hx hb dX8_stoodAhead_14 rfl (lv_at hl 2 rfl) ?_
    refine lv_aload_n hx hb dX8_stoodAhead_15 rfl (lv_at hl 0 rfl) ?_
    refine nb_get (C := RX8) (T := TX8) (N := 40) hx hb hts inT_X8 hown hK hW 0 rfl rfl 34 (by decide) (hts _ tw4_157) (fun _ h9 => h9) rfl (v := .ref (G.2.1 27)) rfl dX8_stoodAhead_16 ?_
    refine lv_aload_n hx hb dX8_stoodAhead_19 rfl (lv_at hl 0 rfl) ?_
    refine nb_get (C := RX8) (T := TX8) (N := 40) hx hb hts inT_X8 hown hK hW 0 rfl rfl 3 (by decide) (hts _ tw4_126) (fun _ h9 => h9) rfl (v := .ref (G.2.1 3)) rfl dX8_stoodAhead_20 ?_
    refine lv_iload_n hx hb dX8_stoodAhead_23 rfl (lv_at hl 3 rfl) ?_
    obtain ⟨g7, hf⟩ := nb_g_e hf
    refine nb_iald hx hb hK hW 3 rfl g7 dX8_stoodAhead_24 ?_
    obtain ⟨g8, hf⟩ := nb_g_e hf
    refine nb_iald hx hb hK hW 27 rfl g8 dX8_stoodAhead_25 ?_
    refine lv_iload_n hx hb dX8_stoodAhead_26 rfl (lv_at hl 1 rfl) ?_
    obtain ⟨k9, ek9, hf⟩ := nb_let_e hf
    have w10 : ∀ (v11 : Int32) (H : Heap) (locs : List Loc) (ls : Array Slot), k9 v11 = some ro → nb_W G xm_sh s.heap σ H locs → lv_has ls 4 [(0, .ref (G.2.1 0)), (1, .int a0), (3, .int x2)] → W p l e rmX8_stoodAhead s m args below meth c H locs 0 0 (MQ below (nb_Qi G xm_sh Z ro σ) args s 0 0 (nb_A xm_sh G.2.1)) (F0 m 35 ls [.int v11, .int x1]) := by
      intro v11 H locs ls hf hW hl
      have hf := (congrFun ek9 v11).symm.trans hf
      refine lv_iadd hx hb dX8_stoodAhead_35 ?_
      obtain ⟨x12, ex12, hf⟩ := nb_let_e hf
      refine nb_nami ex12 ?_
      refine lv_istore_n (lv' := [(2, .int x12), (0, .ref (G.2.1 0)), (1, .int a0), (3, .int x2)]) hx hb dX8_stoodAhead_36 rfl hl (by decide) rfl (fun ls hl => ?_)
      refine lv_iinc (v := (x2 + 1)) (lv' := [(3, .int (x2 + 1)), (2, .int x12), (0, .ref (G.2.1 0)), (1, .int a0)]) hx hb dX8_stoodAhead_37 hl (k := 3) rfl rfl (by decide) rfl (fun ls hl => ?_)
      refine lv_goto (tgt := 4) hx hb dX8_stoodAhead_40 (by decide) ?_
      exact ih4 _ _ hf _ _ _ hW (lv_sub hl [2, 3, 1, 0] rfl)
    clear ek9
    refine lv_icmp_ge (tgt := 34) hx hb dX8_stoodAhead_27 (by decide) (fun c13 => ?_) (fun c13 => ?_)
    · rw [if_pos c13] at hf
      refine lv_iconst (v := (0 : Int32)) hx hb dX8_stoodAhead_34 (by decide) ?_
      exact w10 _ _ _ _ hf hW (lv_sub hl [0, 1, 3] rfl)
    · rw [if_neg c13] at hf
      refine lv_iconst (v := (1 : Int32)) hx hb dX8_stoodAhead_30 (by decide) ?_
      refine lv_goto (tgt := 35) hx hb dX8_stoodAhead_31 (by decide) ?_
      exact w10 _ _ _ _ hf hW (lv_sub hl [0, 1, 3] rfl)
def fX8_shameOf (N : Nat) (σ : nb_St) (a0 : Int32) (a1 : Int32) : Option Int32 :=
  nb_g (nb_in a0 16) (
  nb_let (σ 5 (nb_ix a0)) fun x2 =>
  nb_lp2 (R := Int32) (fun ag5 (x3 : Int32) (x4 : Int32) =>
  nb_g (nb_in (0 : Int32) 4) (
  (if (σ 19 (nb_ix (0 : Int32))) ≤ x4 then
  nb_lp2 (R := Int32) (fun ag11 (x9 : Int32) (x10 : Int32) =>
  nb_g (nb_in (0 : Int32) 2) (
  (if (σ 7 (nb_ix (0 : Int32))) ≤ x10 then
  nb_g (nb_in (0 : Int32) 2) (
  nb_b (fX8_stoodAhead N σ a1) fun r17 =>
  nb_let (x9 - ((σ 10 (nb_ix (0 : Int32))) * r17)) fun x18 =>
  nb_let (fun (v21 : Int32) =>
  nb_lp2 (R := Int32) (fun ag24 (x22 : Int32) (x23 : Int32) =>
  nb_g (nb_in (0 : Int32) 4) (
  (if (σ 22 (nb_ix (0 : Int32))) ≤ x23 then
  some x22
  else
  nb_g (nb_in a0 16) (
  nb_let (fun (v31 : Int32) =>
  nb_let (x22 + v31) fun x32 =>
  ag24 x32 (x23 + 1)) fun k29 =>
  nb_let (fun (_u : Unit) =>
  k29 (0 : Int32)) fun k33 =>
  (if (σ 6 (nb_ix a0)) = (1 : Int32) then
  nb_g (nb_in x23 16) (
  (if a1 < (σ 23 (nb_ix x23)) then
  k33 ()
  else
  k29 (10 : Int32)))
  else
  k33 ()))))) N v21 (0 : Int32)) fun k19 =>
  (if 0 ≤ x18 then
  k19 x18
  else
  k19 (0 : Int32)))
  else
  nb_g (nb_in a0 16) (
  nb_let (fun (v42 : Int32) =>
  nb_let (x9 - v42) fun x43 =>
  ag11 x43 (x10 + 1)) fun k40 =>
  nb_let (fun (_u : Unit) =>
  k40 (0 : Int32)) fun k44 =>
  (if (σ 6 (nb_ix a0)) = (2 : Int32) then
  k44 ()
  else
  nb_g (nb_in x10 3) (
  (if (σ 26 (nb_ix x10)) < 0 then
  k44 ()
  else
  nb_g (nb_in x10 3) (
  (if a1 < (σ 26 (nb_ix x10)) then
  k44 ()
  else
  nb_g (nb_in x10 6) (
  k40 (σ 8 (nb_ix x10)))))))))))) N x3 (0 : Int32)
  else
  nb_g (nb_in a0 16) (
  nb_let (fun (v55 : Int32) =>
  nb_let (x3 - v55) fun x56 =>
  ag5 x56 (x4 + 1)) fun k53 =>
  nb_let (fun (_u : Unit) =>
  k53 (0 : Int32)) fun k57 =>
  (if (σ 6 (nb_ix a0)) = (2 : Int32) then
  k57 ()
  else
  nb_g (nb_in x4 24) (
  (if a1 < (σ 20 (nb_ix x4)) then
  k57 ()
  else
  nb_b (fX8_counts N σ a0 x4) fun r63 =>
  (if r63 = 0 then
  k57 ()
  else
  nb_g (nb_in x4 24) (
  k53 (σ 21 (nb_ix x4))))))))))) N x2 (0 : Int32))
def rmX8_shameOf : Room := { frames := 1, cells := 0, slots := 0, locals := 24 }
def vsX8_shameOf : List Cond := .code yX8_shameOf cX8_shameOf 5 (some .int) :: xT
set_option maxHeartbeats 4000000 in
set_option maxRecDepth 100000 in
theorem c_X8_shameOf (l : Launch) {G : nb_G} {Z : State → Heap → Prop} (hinj : nb_inj xm_sh G.2.1) (hZo : nb_Zok (nb_A xm_sh G.2.1) Z) {N : Nat} {σ : nb_St} {a0 : Int32} {a1 : Int32} {ro : Int32} (hf : fX8_shameOf N σ a0 a1 = some ro)  : Met l yX8_shameOf vsX8_shameOf rmX8_shameOf (nb_Pc G xm_sh Z σ [.ref (G.2.1 0), .int a0, .int a1]) (nb_Qi G xm_sh Z ro σ) 0 0 (nb_A xm_sh G.2.1) := by
  refine Met.ofW (cc := cX8_shameOf) (maxL := 5) (ret := (some .int)) (by decide) rfl ?_
  intro p e s m args below meth c s₁ B hml hv
  obtain ⟨rfl, hP, hK, hZ⟩ := hv
  have hx := B.exec
  have hb := B.bytes
  have hr := B.returns
  have hts : ∀ w ∈ xT, w.before _ s = true := fun w h9 => atoms_spec (ws := vsX8_shameOf) B.pre w (List.mem_cons_of_mem _ h9)
  have hown : s.vm.findClass RX8 = some m.cls := findClass_of_methodNamed B.named
  have hlocks := B.notSynchronized
  have hW : nb_W G xm_sh s.heap σ s.heap [] := ⟨hP, va_S.rf⟩
  have hl := lv_entry ([.ref (G.2.1 0), .int a0, .int a1]) (n := 5) (Nat.le_of_ble_eq_true rfl)
  rw [lg_entry_eq]
  generalize (lg_sl ([.ref (G.2.1 0), .int a0, .int a1]) ++ List.replicate (5 - (lg_sl ([.ref (G.2.1 0), .int a0, .int a1])).length) Slot.unset).toArray = ls at hl ⊢
  have hl : lv_has ls 5 [(0, .ref (G.2.1 0)), (1, .int a0), (2, .int a1)] := hl
  show W p l e rmX8_shameOf s m ([.ref (G.2.1 0), .int a0, .int a1]).toArray below meth c s.heap [] 0 0 (MQ below (nb_Qi G xm_sh Z ro σ) ([.ref (G.2.1 0), .int a0, .int a1]).toArray s 0 0 (nb_A xm_sh G.2.1)) (F0 m 0 ls [])
  generalize hargs : ([.ref (G.2.1 0), .int a0, .int a1] : List Value).toArray = args at hts ⊢
  unfold fX8_shameOf at hf
  obtain ⟨H, eH⟩ : ∃ H, H = s.heap := ⟨_, rfl⟩
  obtain ⟨locs, eL⟩ : ∃ L : List Loc, L = [] := ⟨_, rfl⟩
  have hW : nb_W G xm_sh s.heap σ H locs := by rw [eH, eL]; exact hW
  suffices hgo : W p l e rmX8_shameOf s m args below meth c H locs 0 0 (MQ below (nb_Qi G xm_sh Z ro σ) args s 0 0 (nb_A xm_sh G.2.1)) (F0 m 0 ls []) by rw [eH, eL] at hgo; exact hgo
  clear eH eL
  refine lv_aload_n hx hb dX8_shameOf_0 rfl (lv_at hl 0 rfl) ?_
  refine nb_get (C := RX8) (T := TX8) (N := 40) hx hb hts inT_X8 hown hK hW 0 rfl rfl 5 (by decide) (hts _ tw4_128) (fun _ h9 => h9) rfl (v := .ref (G.2.1 5)) rfl dX8_shameOf_1 ?_
  refine lv_iload_n hx hb dX8_shameOf_4 rfl (lv_at hl 1 rfl) ?_
  obtain ⟨g1, hf⟩ := nb_g_e hf
  refine nb_iald hx hb hK hW 5 rfl g1 dX8_shameOf_5 ?_
  obtain ⟨x2, ex2, hf⟩ := nb_let_e hf
  refine nb_nami ex2 ?_
  refine lv_istore_n (lv' := [(3, .int x2), (0, .ref (G.2.1 0)), (1, .int a0), (2, .int a1)]) hx hb dX8_shameOf_6 rfl hl (by decide) rfl (fun ls hl => ?_)
  refine lv_iconst (v := (0 : Int32)) hx hb dX8_shameOf_7 (by decide) ?_
  refine lv_istore (lv' := [(4, .int (0 : Int32)), (3, .int x2), (0, .ref (G.2.1 0)), (1, .int a0), (2, .int a1)]) hx hb dX8_shameOf_8 hl (by decide) rfl (fun ls hl => ?_)
  refine nb_w2 (P := fun (x3 : Int32) (x4 : Int32) => ∀ (H : Heap) (locs : List Loc) (ls : Array Slot), nb_W G xm_sh s.heap σ H locs → lv_has ls 5 [(0, .ref (G.2.1 0)), (1, .int a0), (2, .int a1), (3, .int x3), (4, .int x4)] → W p l e rmX8_shameOf s m args below meth c H locs 0 0 (MQ below (nb_Qi G xm_sh Z ro σ) args s 0 0 (nb_A xm_sh G.2.1)) (F0 m 10 ls [])) ?_ N _ _ hf H locs ls hW (lv_sub hl [2, 3, 4, 1, 0] rfl)
  intro ag5 ih6 x3 x4 hf H locs ls hW hl
  refine lv_iload hx hb dX8_shameOf_10 (lv_at hl 4 rfl) ?_
  refine lv_aload_n hx hb dX8_shameOf_12 rfl (lv_at hl 0 rfl) ?_
  refine nb_get (C := RX8) (T := TX8) (N := 40) hx hb hts inT_X8 hown hK hW 0 rfl rfl 19 (by decide) (hts _ tw4_142) (fun _ h9 => h9) rfl (v := .ref (G.2.1 19)) rfl dX8_shameOf_13 ?_
  refine lv_iconst (v := (0 : Int32)) hx hb dX8_shameOf_16 (by decide) ?_
  obtain ⟨g7, hf⟩ := nb_g_e hf
  refine nb_iald hx hb hK hW 19 rfl g7 dX8_shameOf_17 ?_
  refine lv_icmp_ge (tgt := 72) hx hb dX8_shameOf_18 (by decide) (fun c8 => ?_) (fun c8 => ?_)
  · rw [if_pos c8] at hf
    refine lv_iconst (v := (0 : Int32)) hx hb dX8_shameOf_72 (by decide) ?_
    refine lv_istore (lv' := [(4, .int (0 : Int32)), (0, .ref (G.2.1 0)), (1, .int a0), (2, .int a1), (3, .int x3)]) hx hb dX8_shameOf_73 hl (by decide) rfl (fun ls hl => ?_)
    refine nb_w2 (P := fun (x9 : Int32) (x10 : Int32) => ∀ (H : Heap) (locs : List Loc) (ls : Array Slot), nb_W G xm_sh s.heap σ H locs → lv_has ls 5 [(0, .ref (G.2.1 0)), (1, .int a0), (2, .int a1), (3, .int x9), (4, .int x10)] → W p l e rmX8_shameOf s m args below meth c H locs 0 0 (MQ below (nb_Qi G xm_sh Z ro σ) args s 0 0 (nb_A xm_sh G.2.1)) (F0 m 75 ls [])) ?_ N _ _ hf H locs ls hW (lv_sub hl [1, 2, 3, 4, 0] rfl)
    intro ag11 ih12 x9 x10 hf H locs ls hW hl
    refine lv_iload hx hb dX8_shameOf_75 (lv_at hl 4 rfl) ?_
    refine lv_aload_n hx hb dX8_shameOf_77 rfl (lv_at hl 0 rfl) ?_
    refine nb_get (C := RX8) (T := TX8) (N := 40) hx hb hts inT_X8 hown hK hW 0 rfl rfl 7 (by decide) (hts _ tw4_130) (fun _ h9 => h9) rfl (v := .ref (G.2.1 7)) rfl dX8_shameOf_78 ?_
    refine lv_iconst (v := (0 : Int32)) hx hb dX8_shameOf_81 (by decide) ?_
    obtain ⟨g13, hf⟩ := nb_g_e hf
    refine nb_iald hx hb hK hW 7 rfl g13 dX8_shameOf_82 ?_
    refine lv_icmp_ge (tgt := 137) hx hb dX8_shameOf_83 (by decide) (fun c14 => ?_) (fun c14 => ?_)
    · rw [if_pos c14] at hf
      refine lv_iload_n hx hb dX8_shameOf_137 rfl (lv_at hl 3 rfl) ?_
      refine lv_aload_n hx hb dX8_shameOf_138 rfl (lv_at hl 0 rfl) ?_
      refine nb_get (C := RX8) (T := TX8) (N := 40) hx hb hts inT_X8 hown hK hW 0 rfl rfl 10 (by decide) (hts _ tw4_133) (fun _ h9 => h9) rfl (v := .ref (G.2.1 10)) rfl dX8_shameOf_139 ?_
      refine lv_iconst (v := (0 : Int32)) hx hb dX8_shameOf_142 (by decide) ?_
      obtain ⟨g15, hf⟩ := nb_g_e hf
      refine nb_iald hx hb hK hW 10 rfl g15 dX8_shameOf_143 ?_
      refine lv_aload_n hx hb dX8_shameOf_144 rfl (lv_at hl 0 rfl) ?_
      refine lv_iload_n hx hb dX8_shameOf_145 rfl (lv_at hl 2 rfl) ?_
      obtain ⟨r17, hc16, hf⟩ := nb_b_e hf
      refine nb_ci hW (va_runV (As := [.int a1]) (rest := [.int (σ 10 (nb_ix (0 : Int32))), .int x9]) ⟨hx, hb, hml, hown, hts⟩ (c_X8_stoodAhead l hinj hZo (N := N) hc16 ) (cwV 1 hts (xg_V tw5_116 tw5_118 tp3_5 tw1_10 tw5_119) rfl rfl rfl (by decide +kernel) ⟨Nat.le_of_ble_eq_true rfl, Nat.le_of_ble_eq_true rfl⟩) (nb_preV hK hZ hZo hW (k := 0) rfl rfl) rfl rfl hl.1 rfl (lv_room (Nat.le_of_ble_eq_true rfl)) dX8_shameOf_146 ⟨Nat.zero_le _, Nat.zero_le _⟩) (fun H locs hW => ?_)
      refine lv_imul hx hb dX8_shameOf_149 ?_
      refine lv_isub hx hb dX8_shameOf_150 ?_
      obtain ⟨x18, ex18, hf⟩ := nb_let_e hf
      refine nb_nami ex18 ?_
      refine lv_istore_n (lv' := [(3, .int x18), (0, .ref (G.2.1 0)), (1, .int a0), (2, .int a1), (4, .int x10)]) hx hb dX8_shameOf_151 rfl hl (by decide) rfl (fun ls hl => ?_)
      refine lv_iload_n hx hb dX8_shameOf_152 rfl (lv_at hl 0 rfl) ?_
      obtain ⟨k19, ek19, hf⟩ := nb_let_e hf
      have w20 : ∀ (v21 : Int32) (H : Heap) (locs : List Loc) (ls : Array Slot), k19 v21 = some ro → nb_W G xm_sh s.heap σ H locs → lv_has ls 5 [(0, .ref (G.2.1 0)), (1, .int a0), (2, .int a1)] → W p l e rmX8_shameOf s m args below meth c H locs 0 0 (MQ below (nb_Qi G xm_sh Z ro σ) args s 0 0 (nb_A xm_sh G.2.1)) (F0 m 161 ls [.int v21]) := by
        intro v21 H locs ls hf hW hl
        have hf := (congrFun ek19 v21).symm.trans hf
        refine lv_istore_n (lv' := [(3, .int v21), (0, .ref (G.2.1 0)), (1, .int a0), (2, .int a1)]) hx hb dX8_shameOf_161 rfl hl (by decide) rfl (fun ls hl => ?_)
        refine lv_iconst (v := (0 : Int32)) hx hb dX8_shameOf_162 (by decide) ?_
        refine lv_istore (lv' := [(4, .int (0 : Int32)), (3, .int v21), (0, .ref (G.2.1 0)), (1, .int a0), (2, .int a1)]) hx hb dX8_shameOf_163 hl (by decide) rfl (fun ls hl => ?_)
        refine nb_w2 (P := fun (x22 : Int32) (x23 : Int32) => ∀ (H : Heap) (locs : List Loc) (ls : Array Slot), nb_W G xm_sh s.heap σ H locs → lv_has ls 5 [(0, .ref (G.2.1 0)), (1, .int a0), (2, .int a1), (3, .int x22), (4, .int x23)] → W p l e rmX8_shameOf s m args below meth c H locs 0 0 (MQ below (nb_Qi G xm_sh Z ro σ) args s 0 0 (nb_A xm_sh G.2.1)) (F0 m 165 ls [])) ?_ N _ _ hf H locs ls hW (lv_sub hl [2, 3, 4, 1, 0] rfl)
        intro ag24 ih25 x22 x23 hf H locs ls hW hl
        refine lv_iload hx hb dX8_shameOf_165 (lv_at hl 4 rfl) ?_
        refine lv_aload_n hx hb dX8_shameOf_167 rfl (lv_at hl 0 rfl) ?_
        refine nb_get (C := RX8) (T := TX8) (N := 40) hx hb hts inT_X8 hown hK hW 0 rfl rfl 22 (by decide) (hts _ tw4_145) (fun _ h9 => h9) rfl (v := .ref (G.2.1 22)) rfl dX8_shameOf_168 ?_
        refine lv_iconst (v := (0 : Int32)) hx hb dX8_shameOf_171 (by decide) ?_
        obtain ⟨g26, hf⟩ := nb_g_e hf
        refine nb_iald hx hb hK hW 22 rfl g26 dX8_shameOf_172 ?_
        refine lv_icmp_ge (tgt := 212) hx hb dX8_shameOf_173 (by decide) (fun c27 => ?_) (fun c27 => ?_)
        · rw [if_pos c27] at hf
          refine lv_iload_n hx hb dX8_shameOf_212 rfl (lv_at hl 3 rfl) ?_
          exact nb_rip hx hb hr hlocks hK hZ hZo hW  hf dX8_shameOf_213
        · rw [if_neg c27] at hf
          refine lv_iload_n hx hb dX8_shameOf_176 rfl (lv_at hl 3 rfl) ?_
          refine lv_aload_n hx hb dX8_shameOf_177 rfl (lv_at hl 0 rfl) ?_
          refine nb_get (C := RX8) (T := TX8) (N := 40) hx hb hts inT_X8 hown hK hW 0 rfl rfl 6 (by decide) (hts _ tw4_129) (fun _ h9 => h9) rfl (v := .ref (G.2.1 6)) rfl dX8_shameOf_178 ?_
          refine lv_iload_n hx hb dX8_shameOf_181 rfl (lv_at hl 1 rfl) ?_
          obtain ⟨g28, hf⟩ := nb_g_e hf
          refine nb_iald hx hb hK hW 6 rfl g28 dX8_shameOf_182 ?_
          refine lv_iconst (v := (1 : Int32)) hx hb dX8_shameOf_183 (by decide) ?_
          obtain ⟨k29, ek29, hf⟩ := nb_let_e hf
          have w30 : ∀ (v31 : Int32) (H : Heap) (locs : List Loc) (ls : Array Slot), k29 v31 = some ro → nb_W G xm_sh s.heap σ H locs → lv_has ls 5 [(0, .ref (G.2.1 0)), (1, .int a0), (2, .int a1), (4, .int x23)] → W p l e rmX8_shameOf s m args below meth c H locs 0 0 (MQ below (nb_Qi G xm_sh Z ro σ) args s 0 0 (nb_A xm_sh G.2.1)) (F0 m 204 ls [.int v31, .int x22]) := by
            intro v31 H locs ls hf hW hl
            have hf := (congrFun ek29 v31).symm.trans hf
            refine lv_iadd hx hb dX8_shameOf_204 ?_
            obtain ⟨x32, ex32, hf⟩ := nb_let_e hf
            refine nb_nami ex32 ?_
            refine lv_istore_n (lv' := [(3, .int x32), (0, .ref (G.2.1 0)), (1, .int a0), (2, .int a1), (4, .int x23)]) hx hb dX8_shameOf_205 rfl hl (by decide) rfl (fun ls hl => ?_)
            refine lv_iinc (v := (x23 + 1)) (lv' := [(4, .int (x23 + 1)), (3, .int x32), (0, .ref (G.2.1 0)), (1, .int a0), (2, .int a1)]) hx hb dX8_shameOf_206 hl (k := 4) rfl rfl (by decide) rfl (fun ls hl => ?_)
            refine lv_goto (tgt := 165) hx hb dX8_shameOf_209 (by decide) ?_
            exact ih25 _ _ hf _ _ _ hW (lv_sub hl [2, 3, 4, 1, 0] rfl)
          clear ek29
          obtain ⟨k33, ek33, hf⟩ := nb_let_e hf
          have w34 : ∀ (_u : Unit) (H : Heap) (locs : List Loc) (ls : Array Slot), k33 _u = some ro → nb_W G xm_sh s.heap σ H locs → lv_has ls 5 [(0, .ref (G.2.1 0)), (1, .int a0), (2, .int a1), (4, .int x23)] → W p l e rmX8_shameOf s m args below meth c H locs 0 0 (MQ below (nb_Qi G xm_sh Z ro σ) args s 0 0 (nb_A xm_sh G.2.1)) (F0 m 203 ls [.int x22]) := by
            intro _u H locs ls hf hW hl
            have hf := (congrFun ek33 _u).symm.trans hf
            refine lv_iconst (v := (0 : Int32)) hx hb dX8_shameOf_203 (by decide) ?_
            exact w30 _ _ _ _ hf hW (lv_sub hl [0, 1, 2, 3] rfl)
          clear ek33
          refine lv_icmp_ne (tgt := 203) hx hb dX8_shameOf_184 (by decide) (fun c35 => ?_) (fun c35 => ?_)
          · rw [if_neg c35] at hf
            exact w34 ()  _ _ _ hf hW (lv_sub hl [0, 1, 2, 4] rfl)
          · rw [if_pos c35] at hf
            refine lv_aload_n hx hb dX8_shameOf_187 rfl (lv_at hl 0 rfl) ?_
            refine nb_get (C := RX8) (T := TX8) (N := 40) hx hb hts inT_X8 hown hK hW 0 rfl rfl 23 (by decide) (hts _ tw4_146) (fun _ h9 => h9) rfl (v := .ref (G.2.1 23)) rfl dX8_shameOf_188 ?_
            refine lv_iload hx hb dX8_shameOf_191 (lv_at hl 4 rfl) ?_
            obtain ⟨g36, hf⟩ := nb_g_e hf
            refine nb_iald hx hb hK hW 23 rfl g36 dX8_shameOf_193 ?_
            refine lv_iload_n hx hb dX8_shameOf_194 rfl (lv_at hl 2 rfl) ?_
            refine lv_icmp_gt (tgt := 203) hx hb dX8_shameOf_195 (by decide) (fun c37 => ?_) (fun c37 => ?_)
            · rw [if_pos c37] at hf
              exact w34 ()  _ _ _ hf hW (lv_sub hl [0, 1, 2, 4] rfl)
            · rw [if_neg c37] at hf
              refine lv_bipush (v := (10 : Int32)) hx hb dX8_shameOf_198 (by decide) ?_
              refine lv_goto (tgt := 204) hx hb dX8_shameOf_200 (by decide) ?_
              exact w30 _ _ _ _ hf hW (lv_sub hl [0, 1, 2, 4] rfl)
      clear ek19
      refine lv_if_ge (tgt := 160) hx hb dX8_shameOf_153 (by decide) (fun c38 => ?_) (fun c38 => ?_)
      · rw [if_pos c38] at hf
        refine lv_iload_n hx hb dX8_shameOf_160 rfl (lv_at hl 0 rfl) ?_
        exact w20 _ _ _ _ hf hW (lv_sub hl [1, 2, 3] rfl)
      · rw [if_neg c38] at hf
        refine lv_iconst (v := (0 : Int32)) hx hb dX8_shameOf_156 (by decide) ?_
        refine lv_goto (tgt := 161) hx hb dX8_shameOf_157 (by decide) ?_
        exact w20 _ _ _ _ hf hW (lv_sub hl [1, 2, 3] rfl)
    · rw [if_neg c14] at hf
      refine lv_iload_n hx hb dX8_shameOf_86 rfl (lv_at hl 3 rfl) ?_
      refine lv_aload_n hx hb dX8_shameOf_87 rfl (lv_at hl 0 rfl) ?_
      refine nb_get (C := RX8) (T := TX8) (N := 40) hx hb hts inT_X8 hown hK hW 0 rfl rfl 6 (by decide) (hts _ tw4_129) (fun _ h9 => h9) rfl (v := .ref (G.2.1 6)) rfl dX8_shameOf_88 ?_
      refine lv_iload_n hx hb dX8_shameOf_91 rfl (lv_at hl 1 rfl) ?_
      obtain ⟨g39, hf⟩ := nb_g_e hf
      refine nb_iald hx hb hK hW 6 rfl g39 dX8_shameOf_92 ?_
      refine lv_iconst (v := (2 : Int32)) hx hb dX8_shameOf_93 (by decide) ?_
      obtain ⟨k40, ek40, hf⟩ := nb_let_e hf
      have w41 : ∀ (v42 : Int32) (H : Heap) (locs : List Loc) (ls : Array Slot), k40 v42 = some ro → nb_W G xm_sh s.heap σ H locs → lv_has ls 5 [(0, .ref (G.2.1 0)), (1, .int a0), (2, .int a1), (4, .int x10)] → W p l e rmX8_shameOf s m args below meth c H locs 0 0 (MQ below (nb_Qi G xm_sh Z ro σ) args s 0 0 (nb_A xm_sh G.2.1)) (F0 m 129 ls [.int v42, .int x9]) := by
        intro v42 H locs ls hf hW hl
        have hf := (congrFun ek40 v42).symm.trans hf
        refine lv_isub hx hb dX8_shameOf_129 ?_
        obtain ⟨x43, ex43, hf⟩ := nb_let_e hf
        refine nb_nami ex43 ?_
        refine lv_istore_n (lv' := [(3, .int x43), (0, .ref (G.2.1 0)), (1, .int a0), (2, .int a1), (4, .int x10)]) hx hb dX8_shameOf_130 rfl hl (by decide) rfl (fun ls hl => ?_)
        refine lv_iinc (v := (x10 + 1)) (lv' := [(4, .int (x10 + 1)), (3, .int x43), (0, .ref (G.2.1 0)), (1, .int a0), (2, .int a1)]) hx hb dX8_shameOf_131 hl (k := 4) rfl rfl (by decide) rfl (fun ls hl => ?_)
        refine lv_goto (tgt := 75) hx hb dX8_shameOf_134 (by decide) ?_
        exact ih12 _ _ hf _ _ _ hW (lv_sub hl [2, 3, 4, 1, 0] rfl)
      clear ek40
      obtain ⟨k44, ek44, hf⟩ := nb_let_e hf
      have w45 : ∀ (_u : Unit) (H : Heap) (locs : List Loc) (ls : Array Slot), k44 _u = some ro → nb_W G xm_sh s.heap σ H locs → lv_has ls 5 [(0, .ref (G.2.1 0)), (1, .int a0), (2, .int a1), (4, .int x10)] → W p l e rmX8_shameOf s m args below meth c H locs 0 0 (MQ below (nb_Qi G xm_sh Z ro σ) args s 0 0 (nb_A xm_sh G.2.1)) (F0 m 128 ls [.int x9]) := by
        intro _u H locs ls hf hW hl
        have hf := (congrFun ek44 _u).symm.trans hf
        refine lv_iconst (v := (0 : Int32)) hx hb dX8_shameOf_128 (by decide) ?_
        exact w41 _ _ _ _ hf hW (lv_sub hl [0, 1, 2, 3] rfl)
      clear ek44
      refine lv_icmp_eq (tgt := 128) hx hb dX8_shameOf_94 (by decide) (fun c46 => ?_) (fun c46 => ?_)
      · rw [if_pos c46] at hf
        exact w45 ()  _ _ _ hf hW (lv_sub hl [0, 1, 2, 4] rfl)
      · rw [if_neg c46] at hf
        refine lv_aload_n hx hb dX8_shameOf_97 rfl (lv_at hl 0 rfl) ?_
        refine nb_get (C := RX8) (T := TX8) (N := 40) hx hb hts inT_X8 hown hK hW 0 rfl rfl 33 (by decide) (hts _ tw4_156) (fun _ h9 => h9) rfl (v := .ref (G.2.1 26)) rfl dX8_shameOf_98 ?_
        refine lv_iload hx hb dX8_shameOf_101 (lv_at hl 4 rfl) ?_
        obtain ⟨g47, hf⟩ := nb_g_e hf
        refine nb_iald hx hb hK hW 26 rfl g47 dX8_shameOf_103 ?_
        refine lv_if_lt (tgt := 128) hx hb dX8_shameOf_104 (by decide) (fun c48 => ?_) (fun c48 => ?_)
        · rw [if_pos c48] at hf
          exact w45 ()  _ _ _ hf hW (lv_sub hl [0, 1, 2, 4] rfl)
        · rw [if_neg c48] at hf
          refine lv_aload_n hx hb dX8_shameOf_107 rfl (lv_at hl 0 rfl) ?_
          refine nb_get (C := RX8) (T := TX8) (N := 40) hx hb hts inT_X8 hown hK hW 0 rfl rfl 33 (by decide) (hts _ tw4_156) (fun _ h9 => h9) rfl (v := .ref (G.2.1 26)) rfl dX8_shameOf_108 ?_
          refine lv_iload hx hb dX8_shameOf_111 (lv_at hl 4 rfl) ?_
          obtain ⟨g49, hf⟩ := nb_g_e hf
          refine nb_iald hx hb hK hW 26 rfl g49 dX8_shameOf_113 ?_
          refine lv_iload_n hx hb dX8_shameOf_114 rfl (lv_at hl 2 rfl) ?_
          refine lv_icmp_gt (tgt := 128) hx hb dX8_shameOf_115 (by decide) (fun c50 => ?_) (fun c50 => ?_)
          · rw [if_pos c50] at hf
            exact w45 ()  _ _ _ hf hW (lv_sub hl [0, 1, 2, 4] rfl)
          · rw [if_neg c50] at hf
            refine lv_aload_n hx hb dX8_shameOf_118 rfl (lv_at hl 0 rfl) ?_
            refine nb_get (C := RX8) (T := TX8) (N := 40) hx hb hts inT_X8 hown hK hW 0 rfl rfl 8 (by decide) (hts _ tw4_131) (fun _ h9 => h9) rfl (v := .ref (G.2.1 8)) rfl dX8_shameOf_119 ?_
            refine lv_iload hx hb dX8_shameOf_122 (lv_at hl 4 rfl) ?_
            obtain ⟨g51, hf⟩ := nb_g_e hf
            refine nb_iald hx hb hK hW 8 rfl g51 dX8_shameOf_124 ?_
            refine lv_goto (tgt := 129) hx hb dX8_shameOf_125 (by decide) ?_
            exact w41 _ _ _ _ hf hW (lv_sub hl [0, 1, 2, 4] rfl)
  · rw [if_neg c8] at hf
    refine lv_iload_n hx hb dX8_shameOf_21 rfl (lv_at hl 3 rfl) ?_
    refine lv_aload_n hx hb dX8_shameOf_22 rfl (lv_at hl 0 rfl) ?_
    refine nb_get (C := RX8) (T := TX8) (N := 40) hx hb hts inT_X8 hown hK hW 0 rfl rfl 6 (by decide) (hts _ tw4_129) (fun _ h9 => h9) rfl (v := .ref (G.2.1 6)) rfl dX8_shameOf_23 ?_
    refine lv_iload_n hx hb dX8_shameOf_26 rfl (lv_at hl 1 rfl) ?_
    obtain ⟨g52, hf⟩ := nb_g_e hf
    refine nb_iald hx hb hK hW 6 rfl g52 dX8_shameOf_27 ?_
    refine lv_iconst (v := (2 : Int32)) hx hb dX8_shameOf_28 (by decide) ?_
    obtain ⟨k53, ek53, hf⟩ := nb_let_e hf
    have w54 : ∀ (v55 : Int32) (H : Heap) (locs : List Loc) (ls : Array Slot), k53 v55 = some ro → nb_W G xm_sh s.heap σ H locs → lv_has ls 5 [(0, .ref (G.2.1 0)), (1, .int a0), (2, .int a1), (4, .int x4)] → W p l e rmX8_shameOf s m args below meth c H locs 0 0 (MQ below (nb_Qi G xm_sh Z ro σ) args s 0 0 (nb_A xm_sh G.2.1)) (F0 m 64 ls [.int v55, .int x3]) := by
      intro v55 H locs ls hf hW hl
      have hf := (congrFun ek53 v55).symm.trans hf
      refine lv_isub hx hb dX8_shameOf_64 ?_
      obtain ⟨x56, ex56, hf⟩ := nb_let_e hf
      refine nb_nami ex56 ?_
      refine lv_istore_n (lv' := [(3, .int x56), (0, .ref (G.2.1 0)), (1, .int a0), (2, .int a1), (4, .int x4)]) hx hb dX8_shameOf_65 rfl hl (by decide) rfl (fun ls hl => ?_)
      refine lv_iinc (v := (x4 + 1)) (lv' := [(4, .int (x4 + 1)), (3, .int x56), (0, .ref (G.2.1 0)), (1, .int a0), (2, .int a1)]) hx hb dX8_shameOf_66 hl (k := 4) rfl rfl (by decide) rfl (fun ls hl => ?_)
      refine lv_goto (tgt := 10) hx hb dX8_shameOf_69 (by decide) ?_
      exact ih6 _ _ hf _ _ _ hW (lv_sub hl [2, 3, 4, 1, 0] rfl)
    clear ek53
    obtain ⟨k57, ek57, hf⟩ := nb_let_e hf
    have w58 : ∀ (_u : Unit) (H : Heap) (locs : List Loc) (ls : Array Slot), k57 _u = some ro → nb_W G xm_sh s.heap σ H locs → lv_has ls 5 [(0, .ref (G.2.1 0)), (1, .int a0), (2, .int a1), (4, .int x4)] → W p l e rmX8_shameOf s m args below meth c H locs 0 0 (MQ below (nb_Qi G xm_sh Z ro σ) args s 0 0 (nb_A xm_sh G.2.1)) (F0 m 63 ls [.int x3]) := by
      intro _u H locs ls hf hW hl
      have hf := (congrFun ek57 _u).symm.trans hf
      refine lv_iconst (v := (0 : Int32)) hx hb dX8_shameOf_63 (by decide) ?_
      exact w54 _ _ _ _ hf hW (lv_sub hl [0, 1, 2, 3] rfl)
    clear ek57
    refine lv_icmp_eq (tgt := 63) hx hb dX8_shameOf_29 (by decide) (fun c59 => ?_) (fun c59 => ?_)
    · rw [if_pos c59] at hf
      exact w58 ()  _ _ _ hf hW (lv_sub hl [0, 1, 2, 4] rfl)
    · rw [if_neg c59] at hf
      refine lv_aload_n hx hb dX8_shameOf_32 rfl (lv_at hl 0 rfl) ?_
      refine nb_get (C := RX8) (T := TX8) (N := 40) hx hb hts inT_X8 hown hK hW 0 rfl rfl 20 (by decide) (hts _ tw4_143) (fun _ h9 => h9) rfl (v := .ref (G.2.1 20)) rfl dX8_shameOf_33 ?_
      refine lv_iload hx hb dX8_shameOf_36 (lv_at hl 4 rfl) ?_
      obtain ⟨g60, hf⟩ := nb_g_e hf
      refine nb_iald hx hb hK hW 20 rfl g60 dX8_shameOf_38 ?_
      refine lv_iload_n hx hb dX8_shameOf_39 rfl (lv_at hl 2 rfl) ?_
      refine lv_icmp_gt (tgt := 63) hx hb dX8_shameOf_40 (by decide) (fun c61 => ?_) (fun c61 => ?_)
      · rw [if_pos c61] at hf
        exact w58 ()  _ _ _ hf hW (lv_sub hl [0, 1, 2, 4] rfl)
      · rw [if_neg c61] at hf
        refine lv_aload_n hx hb dX8_shameOf_43 rfl (lv_at hl 0 rfl) ?_
        refine lv_iload_n hx hb dX8_shameOf_44 rfl (lv_at hl 1 rfl) ?_
        refine lv_iload hx hb dX8_shameOf_45 (lv_at hl 4 rfl) ?_
        obtain ⟨r63, hc62, hf⟩ := nb_b_e hf
        refine nb_ci hW (va_runV (As := [.int a0, .int x4]) (rest := [.int x3]) ⟨hx, hb, hml, hown, hts⟩ (c_X8_counts l hinj hZo (N := N) hc62 ) (cwV 2 hts (xg_V tw5_106 tw5_108 tp3_4 tw1_10 tw5_109) rfl rfl rfl (by decide +kernel) ⟨Nat.le_of_ble_eq_true rfl, Nat.le_of_ble_eq_true rfl⟩) (nb_preV hK hZ hZo hW (k := 0) rfl rfl) rfl rfl hl.1 rfl (lv_room (Nat.le_of_ble_eq_true rfl)) dX8_shameOf_47 ⟨Nat.zero_le _, Nat.zero_le _⟩) (fun H locs hW => ?_)
        refine lv_if_eq (tgt := 63) hx hb dX8_shameOf_50 (by decide) (fun c64 => ?_) (fun c64 => ?_)
        · rw [if_pos c64] at hf
          exact w58 ()  _ _ _ hf hW (lv_sub hl [0, 1, 2, 4] rfl)
        · rw [if_neg c64] at hf
          refine lv_aload_n hx hb dX8_shameOf_53 rfl (lv_at hl 0 rfl) ?_
          refine nb_get (C := RX8) (T := TX8) (N := 40) hx hb hts inT_X8 hown hK hW 0 rfl rfl 21 (by decide) (hts _ tw4_144) (fun _ h9 => h9) rfl (v := .ref (G.2.1 21)) rfl dX8_shameOf_54 ?_
          refine lv_iload hx hb dX8_shameOf_57 (lv_at hl 4 rfl) ?_
          obtain ⟨g65, hf⟩ := nb_g_e hf
          refine nb_iald hx hb hK hW 21 rfl g65 dX8_shameOf_59 ?_
          refine lv_goto (tgt := 64) hx hb dX8_shameOf_60 (by decide) ?_
          exact w54 _ _ _ _ hf hW (lv_sub hl [0, 1, 2, 4] rfl)
def fX8_isBus (N : Nat) (σ : nb_St) (a0 : Int32) : Option Int32 :=
  nb_let (fun (_u : Unit) =>
  some (1 : Int32)) fun k1 =>
  (if a0 = (σ 0 29) then
  k1 ()
  else
  nb_g (nb_in a0 16) (
  (if (σ 6 (nb_ix a0)) = (3 : Int32) then
  k1 ()
  else
  some (0 : Int32))))
def rmX8_isBus : Room := { frames := 0, cells := 0, slots := 0, locals := 0 }
def vsX8_isBus : List Cond := .code yX8_isBus cX8_isBus 2 (some .boolean) :: xT
set_option maxHeartbeats 4000000 in
set_option maxRecDepth 100000 in
theorem c_X8_isBus (l : Launch) {G : nb_G} {Z : State → Heap → Prop} (hinj : nb_inj xm_sh G.2.1) (hZo : nb_Zok (nb_A xm_sh G.2.1) Z) {N : Nat} {σ : nb_St} {a0 : Int32} {ro : Int32} (hf : fX8_isBus N σ a0 = some ro)  : Met l yX8_isBus vsX8_isBus rmX8_isBus (nb_Pc G xm_sh Z σ [.ref (G.2.1 0), .int a0]) (nb_Qi G xm_sh Z ro σ) 0 0 (nb_A xm_sh G.2.1) := by
  refine Met.ofW (cc := cX8_isBus) (maxL := 2) (ret := (some .boolean)) (by decide) rfl ?_
  intro p e s m args below meth c s₁ B hml hv
  obtain ⟨rfl, hP, hK, hZ⟩ := hv
  have hx := B.exec
  have hb := B.bytes
  have hr := B.returns
  have hts : ∀ w ∈ xT, w.before _ s = true := fun w h9 => atoms_spec (ws := vsX8_isBus) B.pre w (List.mem_cons_of_mem _ h9)
  have hown : s.vm.findClass RX8 = some m.cls := findClass_of_methodNamed B.named
  have hlocks := B.notSynchronized
  have hW : nb_W G xm_sh s.heap σ s.heap [] := ⟨hP, va_S.rf⟩
  have hl := lv_entry ([.ref (G.2.1 0), .int a0]) (n := 2) (Nat.le_of_ble_eq_true rfl)
  rw [lg_entry_eq]
  generalize (lg_sl ([.ref (G.2.1 0), .int a0]) ++ List.replicate (2 - (lg_sl ([.ref (G.2.1 0), .int a0])).length) Slot.unset).toArray = ls at hl ⊢
  have hl : lv_has ls 2 [(0, .ref (G.2.1 0)), (1, .int a0)] := hl
  show W p l e rmX8_isBus s m ([.ref (G.2.1 0), .int a0]).toArray below meth c s.heap [] 0 0 (MQ below (nb_Qi G xm_sh Z ro σ) ([.ref (G.2.1 0), .int a0]).toArray s 0 0 (nb_A xm_sh G.2.1)) (F0 m 0 ls [])
  generalize hargs : ([.ref (G.2.1 0), .int a0] : List Value).toArray = args at hts ⊢
  unfold fX8_isBus at hf
  obtain ⟨H, eH⟩ : ∃ H, H = s.heap := ⟨_, rfl⟩
  obtain ⟨locs, eL⟩ : ∃ L : List Loc, L = [] := ⟨_, rfl⟩
  have hW : nb_W G xm_sh s.heap σ H locs := by rw [eH, eL]; exact hW
  suffices hgo : W p l e rmX8_isBus s m args below meth c H locs 0 0 (MQ below (nb_Qi G xm_sh Z ro σ) args s 0 0 (nb_A xm_sh G.2.1)) (F0 m 0 ls []) by rw [eH, eL] at hgo; exact hgo
  clear eH eL
  refine lv_iload_n hx hb dX8_isBus_0 rfl (lv_at hl 1 rfl) ?_
  refine lv_aload_n hx hb dX8_isBus_1 rfl (lv_at hl 0 rfl) ?_
  refine nb_get (C := RX8) (T := TX8) (N := 40) hx hb hts inT_X8 hown hK hW 0 rfl rfl 29 (by decide) (hts _ tw4_152) (fun _ h9 => h9) rfl (v := .int (σ 0 29)) rfl dX8_isBus_2 ?_
  obtain ⟨k1, ek1, hf⟩ := nb_let_e hf
  have w2 : ∀ (_u : Unit) (H : Heap) (locs : List Loc) (ls : Array Slot), k1 _u = some ro → nb_W G xm_sh s.heap σ H locs → lv_has ls 2 [] → W p l e rmX8_isBus s m args below meth c H locs 0 0 (MQ below (nb_Qi G xm_sh Z ro σ) args s 0 0 (nb_A xm_sh G.2.1)) (F0 m 18 ls []) := by
    intro _u H locs ls hf hW hl
    have hf := (congrFun ek1 _u).symm.trans hf
    refine lv_iconst (v := (1 : Int32)) hx hb dX8_isBus_18 (by decide) ?_
    refine lv_goto (tgt := 23) hx hb dX8_isBus_19 (by decide) ?_
    exact nb_rzp hx hb hr hlocks hK hZ hZo hW rfl hf dX8_isBus_23
  clear ek1
  refine lv_icmp_eq (tgt := 18) hx hb dX8_isBus_5 (by decide) (fun c3 => ?_) (fun c3 => ?_)
  · rw [if_pos c3] at hf
    exact w2 ()  _ _ _ hf hW (lv_sub hl [] rfl)
  · rw [if_neg c3] at hf
    refine lv_aload_n hx hb dX8_isBus_8 rfl (lv_at hl 0 rfl) ?_
    refine nb_get (C := RX8) (T := TX8) (N := 40) hx hb hts inT_X8 hown hK hW 0 rfl rfl 6 (by decide) (hts _ tw4_129) (fun _ h9 => h9) rfl (v := .ref (G.2.1 6)) rfl dX8_isBus_9 ?_
    refine lv_iload_n hx hb dX8_isBus_12 rfl (lv_at hl 1 rfl) ?_
    obtain ⟨g4, hf⟩ := nb_g_e hf
    refine nb_iald hx hb hK hW 6 rfl g4 dX8_isBus_13 ?_
    refine lv_iconst (v := (3 : Int32)) hx hb dX8_isBus_14 (by decide) ?_
    refine lv_icmp_ne (tgt := 22) hx hb dX8_isBus_15 (by decide) (fun c5 => ?_) (fun c5 => ?_)
    · rw [if_neg c5] at hf
      refine lv_iconst (v := (0 : Int32)) hx hb dX8_isBus_22 (by decide) ?_
      exact nb_rzp hx hb hr hlocks hK hZ hZo hW rfl hf dX8_isBus_23
    · rw [if_pos c5] at hf
      exact w2 ()  _ _ _ hf hW (lv_sub hl [] rfl)
def fX8_doesPress (N : Nat) (σ : nb_St) (a0 : Int32) (a1 : Int32) : Option Int32 :=
  nb_b (fX8_isBus N σ a0) fun r2 =>
  (if r2 = 0 then
  nb_g (nb_in a0 16) (
  nb_b (fX8_shameOf N σ a0 a1) fun r6 =>
  nb_let (fun (v9 : Int32) =>
  nb_g (nb_in a0 16) (
  (if (σ 6 (nb_ix a0)) = (4 : Int32) then
  nb_lp2 (R := Int32) (fun ag26 (x24 : Int32) (x25 : Int32) =>
  nb_g (nb_in (0 : Int32) 2) (
  (if (σ 2 (nb_ix (0 : Int32))) ≤ x25 then
  nb_let (fun (_u : Unit) =>
  some (0 : Int32)) fun k30 =>
  (if v9 = 0 then
  k30 ()
  else
  (if x24 = 0 then
  k30 ()
  else
  some (1 : Int32)))
  else
  nb_let (fun (v36 : Int32) =>
  ag26 v36 (x25 + 1)) fun k34 =>
  nb_let (fun (_u : Unit) =>
  k34 (0 : Int32)) fun k37 =>
  (if x24 = 0 then
  k37 ()
  else
  nb_g (nb_in x25 16) (
  nb_g (nb_in a0 16) (
  nb_let (fun (_u : Unit) =>
  k34 (1 : Int32)) fun k42 =>
  (if (σ 3 (nb_ix x25)) = (σ 3 (nb_ix a0)) then
  k42 ()
  else
  nb_g (nb_in x25 16) (
  nb_g (nb_in (σ 3 (nb_ix x25)) 4) (
  (if a1 ≤ (σ 27 (nb_ix (σ 3 (nb_ix x25)))) then
  k37 ()
  else
  k42 ())))))))))) N (1 : Int32) (0 : Int32)
  else
  nb_let (fun (_u : Unit) =>
  some (1 : Int32)) fun k12 =>
  (if v9 = 0 then
  nb_g (nb_in a0 16) (
  nb_let (fun (_u : Unit) =>
  some (0 : Int32)) fun k16 =>
  (if (σ 6 (nb_ix a0)) = (5 : Int32) then
  nb_g (nb_in a0 16) (
  (if a1 < (σ 4 (nb_ix a0)) then
  k16 ()
  else
  nb_b (fX8_stoodAhead N σ a1) fun r22 =>
  (if r22 ≤ 0 then
  k16 ()
  else
  k12 ())))
  else
  k16 ()))
  else
  k12 ())))) fun k7 =>
  (if a1 < ((σ 4 (nb_ix a0)) + r6) then
  k7 (0 : Int32)
  else
  k7 (1 : Int32)))
  else
  nb_let (fun (v51 : Int32) =>
  (if a1 < v51 then
  some (0 : Int32)
  else
  some (1 : Int32))) fun k49 =>
  (if a0 = (σ 0 29) then
  k49 (σ 0 30)
  else
  nb_g (nb_in a0 16) (
  k49 (σ 4 (nb_ix a0)))))
def rmX8_doesPress : Room := { frames := 2, cells := 0, slots := 0, locals := 48 }
def vsX8_doesPress : List Cond := .code yX8_doesPress cX8_doesPress 6 (some .boolean) :: xT
set_option maxHeartbeats 4000000 in
set_option maxRecDepth 100000 in
theorem c_X8_doesPress (l : Launch) {G : nb_G} {Z : State → Heap → Prop} (hinj : nb_inj xm_sh G.2.1) (hZo : nb_Zok (nb_A xm_sh G.2.1) Z) {N : Nat} {σ : nb_St} {a0 : Int32} {a1 : Int32} {ro : Int32} (hf : fX8_doesPress N σ a0 a1 = some ro)  : Met l yX8_doesPress vsX8_doesPress rmX8_doesPress (nb_Pc G xm_sh Z σ [.ref (G.2.1 0), .int a0, .int a1]) (nb_Qi G xm_sh Z ro σ) 0 0 (nb_A xm_sh G.2.1) := by
  refine Met.ofW (cc := cX8_doesPress) (maxL := 6) (ret := (some .boolean)) (by decide) rfl ?_
  intro p e s m args below meth c s₁ B hml hv
  obtain ⟨rfl, hP, hK, hZ⟩ := hv
  have hx := B.exec
  have hb := B.bytes
  have hr := B.returns
  have hts : ∀ w ∈ xT, w.before _ s = true := fun w h9 => atoms_spec (ws := vsX8_doesPress) B.pre w (List.mem_cons_of_mem _ h9)
  have hown : s.vm.findClass RX8 = some m.cls := findClass_of_methodNamed B.named
  have hlocks := B.notSynchronized
  have hW : nb_W G xm_sh s.heap σ s.heap [] := ⟨hP, va_S.rf⟩
  have hl := lv_entry ([.ref (G.2.1 0), .int a0, .int a1]) (n := 6) (Nat.le_of_ble_eq_true rfl)
  rw [lg_entry_eq]
  generalize (lg_sl ([.ref (G.2.1 0), .int a0, .int a1]) ++ List.replicate (6 - (lg_sl ([.ref (G.2.1 0), .int a0, .int a1])).length) Slot.unset).toArray = ls at hl ⊢
  have hl : lv_has ls 6 [(0, .ref (G.2.1 0)), (1, .int a0), (2, .int a1)] := hl
  show W p l e rmX8_doesPress s m ([.ref (G.2.1 0), .int a0, .int a1]).toArray below meth c s.heap [] 0 0 (MQ below (nb_Qi G xm_sh Z ro σ) ([.ref (G.2.1 0), .int a0, .int a1]).toArray s 0 0 (nb_A xm_sh G.2.1)) (F0 m 0 ls [])
  generalize hargs : ([.ref (G.2.1 0), .int a0, .int a1] : List Value).toArray = args at hts ⊢
  unfold fX8_doesPress at hf
  obtain ⟨H, eH⟩ : ∃ H, H = s.heap := ⟨_, rfl⟩
  obtain ⟨locs, eL⟩ : ∃ L : List Loc, L = [] := ⟨_, rfl⟩
  have hW : nb_W G xm_sh s.heap σ H locs := by rw [eH, eL]; exact hW
  suffices hgo : W p l e rmX8_doesPress s m args below meth c H locs 0 0 (MQ below (nb_Qi G xm_sh Z ro σ) args s 0 0 (nb_A xm_sh G.2.1)) (F0 m 0 ls []) by rw [eH, eL] at hgo; exact hgo
  clear eH eL
  refine lv_aload_n hx hb dX8_doesPress_0 rfl (lv_at hl 0 rfl) ?_
  refine lv_iload_n hx hb dX8_doesPress_1 rfl (lv_at hl 1 rfl) ?_
  obtain ⟨r2, hc1, hf⟩ := nb_b_e hf
  refine nb_ci hW (va_runV (As := [.int a0]) (rest := []) ⟨hx, hb, hml, hown, hts⟩ (c_X8_isBus l hinj hZo (N := N) hc1 ) (cwV 1 hts (xg_V tw5_98 tw5_100 tp3_2 tw1_10 tw5_101) rfl rfl rfl (by decide +kernel) ⟨Nat.le_of_ble_eq_true rfl, Nat.le_of_ble_eq_true rfl⟩) (nb_preV hK hZ hZo hW (k := 0) rfl rfl) rfl rfl hl.1 rfl (lv_room (Nat.le_of_ble_eq_true rfl)) dX8_doesPress_2 ⟨Nat.zero_le _, Nat.zero_le _⟩) (fun H locs hW => ?_)
  refine lv_if_eq (tgt := 39) hx hb dX8_doesPress_5 (by decide) (fun c3 => ?_) (fun c3 => ?_)
  · rw [if_pos c3] at hf
    refine lv_iload_n hx hb dX8_doesPress_39 rfl (lv_at hl 2 rfl) ?_
    refine lv_aload_n hx hb dX8_doesPress_40 rfl (lv_at hl 0 rfl) ?_
    refine nb_get (C := RX8) (T := TX8) (N := 40) hx hb hts inT_X8 hown hK hW 0 rfl rfl 4 (by decide) (hts _ tw4_127) (fun _ h9 => h9) rfl (v := .ref (G.2.1 4)) rfl dX8_doesPress_41 ?_
    refine lv_iload_n hx hb dX8_doesPress_44 rfl (lv_at hl 1 rfl) ?_
    obtain ⟨g4, hf⟩ := nb_g_e hf
    refine nb_iald hx hb hK hW 4 rfl g4 dX8_doesPress_45 ?_
    refine lv_aload_n hx hb dX8_doesPress_46 rfl (lv_at hl 0 rfl) ?_
    refine lv_iload_n hx hb dX8_doesPress_47 rfl (lv_at hl 1 rfl) ?_
    refine lv_iload_n hx hb dX8_doesPress_48 rfl (lv_at hl 2 rfl) ?_
    obtain ⟨r6, hc5, hf⟩ := nb_b_e hf
    refine nb_ci hW (va_runV (As := [.int a0, .int a1]) (rest := [.int (σ 4 (nb_ix a0)), .int a1]) ⟨hx, hb, hml, hown, hts⟩ (c_X8_shameOf l hinj hZo (N := N) hc5 ) (cwV 2 hts (xg_V tw5_102 tw5_104 tp3_3 tw1_10 tw5_105) rfl rfl rfl (by decide +kernel) ⟨Nat.le_of_ble_eq_true rfl, Nat.le_of_ble_eq_true rfl⟩) (nb_preV hK hZ hZo hW (k := 0) rfl rfl) rfl rfl hl.1 rfl (lv_room (Nat.le_of_ble_eq_true rfl)) dX8_doesPress_49 ⟨Nat.zero_le _, Nat.zero_le _⟩) (fun H locs hW => ?_)
    refine lv_iadd hx hb dX8_doesPress_52 ?_
    obtain ⟨k7, ek7, hf⟩ := nb_let_e hf
    have w8 : ∀ (v9 : Int32) (H : Heap) (locs : List Loc) (ls : Array Slot), k7 v9 = some ro → nb_W G xm_sh s.heap σ H locs → lv_has ls 6 [(0, .ref (G.2.1 0)), (1, .int a0), (2, .int a1)] → W p l e rmX8_doesPress s m args below meth c H locs 0 0 (MQ below (nb_Qi G xm_sh Z ro σ) args s 0 0 (nb_A xm_sh G.2.1)) (F0 m 61 ls [.int v9]) := by
      intro v9 H locs ls hf hW hl
      have hf := (congrFun ek7 v9).symm.trans hf
      refine lv_istore_n (lv' := [(3, .int v9), (0, .ref (G.2.1 0)), (1, .int a0), (2, .int a1)]) hx hb dX8_doesPress_61 rfl hl (by decide) rfl (fun ls hl => ?_)
      refine lv_aload_n hx hb dX8_doesPress_62 rfl (lv_at hl 1 rfl) ?_
      refine nb_get (C := RX8) (T := TX8) (N := 40) hx hb hts inT_X8 hown hK hW 0 rfl rfl 6 (by decide) (hts _ tw4_129) (fun _ h9 => h9) rfl (v := .ref (G.2.1 6)) rfl dX8_doesPress_63 ?_
      refine lv_iload_n hx hb dX8_doesPress_66 rfl (lv_at hl 2 rfl) ?_
      obtain ⟨g10, hf⟩ := nb_g_e hf
      refine nb_iald hx hb hK hW 6 rfl g10 dX8_doesPress_67 ?_
      refine lv_iconst (v := (4 : Int32)) hx hb dX8_doesPress_68 (by decide) ?_
      refine lv_icmp_ne (tgt := 154) hx hb dX8_doesPress_69 (by decide) (fun c11 => ?_) (fun c11 => ?_)
      · rw [if_neg c11] at hf
        refine lv_iload_n hx hb dX8_doesPress_154 rfl (lv_at hl 0 rfl) ?_
        obtain ⟨k12, ek12, hf⟩ := nb_let_e hf
        have w13 : ∀ (_u : Unit) (H : Heap) (locs : List Loc) (ls : Array Slot), k12 _u = some ro → nb_W G xm_sh s.heap σ H locs → lv_has ls 6 [] → W p l e rmX8_doesPress s m args below meth c H locs 0 0 (MQ below (nb_Qi G xm_sh Z ro σ) args s 0 0 (nb_A xm_sh G.2.1)) (F0 m 186 ls []) := by
          intro _u H locs ls hf hW hl
          have hf := (congrFun ek12 _u).symm.trans hf
          refine lv_iconst (v := (1 : Int32)) hx hb dX8_doesPress_186 (by decide) ?_
          refine lv_goto (tgt := 191) hx hb dX8_doesPress_187 (by decide) ?_
          exact nb_rzp hx hb hr hlocks hK hZ hZo hW rfl hf dX8_doesPress_191
        clear ek12
        refine lv_if_ne (tgt := 186) hx hb dX8_doesPress_155 (by decide) (fun c14 => ?_) (fun c14 => ?_)
        · rw [if_neg c14] at hf
          exact w13 ()  _ _ _ hf hW (lv_sub hl [] rfl)
        · rw [if_pos c14] at hf
          refine lv_aload_n hx hb dX8_doesPress_158 rfl (lv_at hl 1 rfl) ?_
          refine nb_get (C := RX8) (T := TX8) (N := 40) hx hb hts inT_X8 hown hK hW 0 rfl rfl 6 (by decide) (hts _ tw4_129) (fun _ h9 => h9) rfl (v := .ref (G.2.1 6)) rfl dX8_doesPress_159 ?_
          refine lv_iload_n hx hb dX8_doesPress_162 rfl (lv_at hl 2 rfl) ?_
          obtain ⟨g15, hf⟩ := nb_g_e hf
          refine nb_iald hx hb hK hW 6 rfl g15 dX8_doesPress_163 ?_
          refine lv_iconst (v := (5 : Int32)) hx hb dX8_doesPress_164 (by decide) ?_
          obtain ⟨k16, ek16, hf⟩ := nb_let_e hf
          have w17 : ∀ (_u : Unit) (H : Heap) (locs : List Loc) (ls : Array Slot), k16 _u = some ro → nb_W G xm_sh s.heap σ H locs → lv_has ls 6 [] → W p l e rmX8_doesPress s m args below meth c H locs 0 0 (MQ below (nb_Qi G xm_sh Z ro σ) args s 0 0 (nb_A xm_sh G.2.1)) (F0 m 190 ls []) := by
            intro _u H locs ls hf hW hl
            have hf := (congrFun ek16 _u).symm.trans hf
            refine lv_iconst (v := (0 : Int32)) hx hb dX8_doesPress_190 (by decide) ?_
            exact nb_rzp hx hb hr hlocks hK hZ hZo hW rfl hf dX8_doesPress_191
          clear ek16
          refine lv_icmp_ne (tgt := 190) hx hb dX8_doesPress_165 (by decide) (fun c18 => ?_) (fun c18 => ?_)
          · rw [if_neg c18] at hf
            exact w17 ()  _ _ _ hf hW (lv_sub hl [] rfl)
          · rw [if_pos c18] at hf
            refine lv_iload_n hx hb dX8_doesPress_168 rfl (lv_at hl 3 rfl) ?_
            refine lv_aload_n hx hb dX8_doesPress_169 rfl (lv_at hl 1 rfl) ?_
            refine nb_get (C := RX8) (T := TX8) (N := 40) hx hb hts inT_X8 hown hK hW 0 rfl rfl 4 (by decide) (hts _ tw4_127) (fun _ h9 => h9) rfl (v := .ref (G.2.1 4)) rfl dX8_doesPress_170 ?_
            refine lv_iload_n hx hb dX8_doesPress_173 rfl (lv_at hl 2 rfl) ?_
            obtain ⟨g19, hf⟩ := nb_g_e hf
            refine nb_iald hx hb hK hW 4 rfl g19 dX8_doesPress_174 ?_
            refine lv_icmp_lt (tgt := 190) hx hb dX8_doesPress_175 (by decide) (fun c20 => ?_) (fun c20 => ?_)
            · rw [if_pos c20] at hf
              exact w17 ()  _ _ _ hf hW (lv_sub hl [] rfl)
            · rw [if_neg c20] at hf
              refine lv_aload_n hx hb dX8_doesPress_178 rfl (lv_at hl 1 rfl) ?_
              refine lv_iload_n hx hb dX8_doesPress_179 rfl (lv_at hl 3 rfl) ?_
              obtain ⟨r22, hc21, hf⟩ := nb_b_e hf
              refine nb_ci hW (va_runV (As := [.int a1]) (rest := []) ⟨hx, hb, hml, hown, hts⟩ (c_X8_stoodAhead l hinj hZo (N := N) hc21 ) (cwV 1 hts (xg_V tw5_116 tw5_118 tp3_5 tw1_10 tw5_119) rfl rfl rfl (by decide +kernel) ⟨Nat.le_of_ble_eq_true rfl, Nat.le_of_ble_eq_true rfl⟩) (nb_preV hK hZ hZo hW (k := 0) rfl rfl) rfl rfl hl.1 rfl (lv_room (Nat.le_of_ble_eq_true rfl)) dX8_doesPress_180 ⟨Nat.zero_le _, Nat.zero_le _⟩) (fun H locs hW => ?_)
              refine lv_if_le (tgt := 190) hx hb dX8_doesPress_183 (by decide) (fun c23 => ?_) (fun c23 => ?_)
              · rw [if_pos c23] at hf
                exact w17 ()  _ _ _ hf hW (lv_sub hl [] rfl)
              · rw [if_neg c23] at hf
                exact w13 ()  _ _ _ hf hW (lv_sub hl [] rfl)
      · rw [if_pos c11] at hf
        refine lv_iconst (v := (1 : Int32)) hx hb dX8_doesPress_72 (by decide) ?_
        refine lv_istore (lv' := [(4, .int (1 : Int32)), (3, .int v9), (0, .ref (G.2.1 0)), (1, .int a0), (2, .int a1)]) hx hb dX8_doesPress_73 hl (by decide) rfl (fun ls hl => ?_)
        refine lv_iconst (v := (0 : Int32)) hx hb dX8_doesPress_75 (by decide) ?_
        refine lv_istore (lv' := [(5, .int (0 : Int32)), (4, .int (1 : Int32)), (3, .int v9), (0, .ref (G.2.1 0)), (1, .int a0), (2, .int a1)]) hx hb dX8_doesPress_76 hl (by decide) rfl (fun ls hl => ?_)
        refine nb_w2 (P := fun (x24 : Int32) (x25 : Int32) => ∀ (H : Heap) (locs : List Loc) (ls : Array Slot), nb_W G xm_sh s.heap σ H locs → lv_has ls 6 [(0, .ref (G.2.1 0)), (1, .int a0), (2, .int a1), (3, .int v9), (4, .int x24), (5, .int x25)] → W p l e rmX8_doesPress s m args below meth c H locs 0 0 (MQ below (nb_Qi G xm_sh Z ro σ) args s 0 0 (nb_A xm_sh G.2.1)) (F0 m 78 ls [])) ?_ N _ _ hf H locs ls hW (lv_sub hl [3, 4, 5, 2, 1, 0] rfl)
        intro ag26 ih27 x24 x25 hf H locs ls hW hl
        refine lv_iload hx hb dX8_doesPress_78 (lv_at hl 5 rfl) ?_
        refine lv_aload_n hx hb dX8_doesPress_80 rfl (lv_at hl 0 rfl) ?_
        refine nb_get (C := RX8) (T := TX8) (N := 40) hx hb hts inT_X8 hown hK hW 0 rfl rfl 2 (by decide) (hts _ tw4_125) (fun _ h9 => h9) rfl (v := .ref (G.2.1 2)) rfl dX8_doesPress_81 ?_
        refine lv_iconst (v := (0 : Int32)) hx hb dX8_doesPress_84 (by decide) ?_
        obtain ⟨g28, hf⟩ := nb_g_e hf
        refine nb_iald hx hb hK hW 2 rfl g28 dX8_doesPress_85 ?_
        refine lv_icmp_ge (tgt := 139) hx hb dX8_doesPress_86 (by decide) (fun c29 => ?_) (fun c29 => ?_)
        · rw [if_pos c29] at hf
          refine lv_iload_n hx hb dX8_doesPress_139 rfl (lv_at hl 3 rfl) ?_
          obtain ⟨k30, ek30, hf⟩ := nb_let_e hf
          have w31 : ∀ (_u : Unit) (H : Heap) (locs : List Loc) (ls : Array Slot), k30 _u = some ro → nb_W G xm_sh s.heap σ H locs → lv_has ls 6 [] → W p l e rmX8_doesPress s m args below meth c H locs 0 0 (MQ below (nb_Qi G xm_sh Z ro σ) args s 0 0 (nb_A xm_sh G.2.1)) (F0 m 152 ls []) := by
            intro _u H locs ls hf hW hl
            have hf := (congrFun ek30 _u).symm.trans hf
            refine lv_iconst (v := (0 : Int32)) hx hb dX8_doesPress_152 (by decide) ?_
            exact nb_rzp hx hb hr hlocks hK hZ hZo hW rfl hf dX8_doesPress_153
          clear ek30
          refine lv_if_eq (tgt := 152) hx hb dX8_doesPress_140 (by decide) (fun c32 => ?_) (fun c32 => ?_)
          · rw [if_pos c32] at hf
            exact w31 ()  _ _ _ hf hW (lv_sub hl [] rfl)
          · rw [if_neg c32] at hf
            refine lv_iload hx hb dX8_doesPress_143 (lv_at hl 4 rfl) ?_
            refine lv_if_eq (tgt := 152) hx hb dX8_doesPress_145 (by decide) (fun c33 => ?_) (fun c33 => ?_)
            · rw [if_pos c33] at hf
              exact w31 ()  _ _ _ hf hW (lv_sub hl [] rfl)
            · rw [if_neg c33] at hf
              refine lv_iconst (v := (1 : Int32)) hx hb dX8_doesPress_148 (by decide) ?_
              refine lv_goto (tgt := 153) hx hb dX8_doesPress_149 (by decide) ?_
              exact nb_rzp hx hb hr hlocks hK hZ hZo hW rfl hf dX8_doesPress_153
        · rw [if_neg c29] at hf
          refine lv_iload hx hb dX8_doesPress_89 (lv_at hl 4 rfl) ?_
          obtain ⟨k34, ek34, hf⟩ := nb_let_e hf
          have w35 : ∀ (v36 : Int32) (H : Heap) (locs : List Loc) (ls : Array Slot), k34 v36 = some ro → nb_W G xm_sh s.heap σ H locs → lv_has ls 6 [(0, .ref (G.2.1 0)), (1, .int a0), (2, .int a1), (3, .int v9), (5, .int x25)] → W p l e rmX8_doesPress s m args below meth c H locs 0 0 (MQ below (nb_Qi G xm_sh Z ro σ) args s 0 0 (nb_A xm_sh G.2.1)) (F0 m 131 ls [.int v36]) := by
            intro v36 H locs ls hf hW hl
            have hf := (congrFun ek34 v36).symm.trans hf
            refine lv_istore (lv' := [(4, .int v36), (0, .ref (G.2.1 0)), (1, .int a0), (2, .int a1), (3, .int v9), (5, .int x25)]) hx hb dX8_doesPress_131 hl (by decide) rfl (fun ls hl => ?_)
            refine lv_iinc (v := (x25 + 1)) (lv' := [(5, .int (x25 + 1)), (4, .int v36), (0, .ref (G.2.1 0)), (1, .int a0), (2, .int a1), (3, .int v9)]) hx hb dX8_doesPress_133 hl (k := 5) rfl rfl (by decide) rfl (fun ls hl => ?_)
            refine lv_goto (tgt := 78) hx hb dX8_doesPress_136 (by decide) ?_
            exact ih27 _ _ hf _ _ _ hW (lv_sub hl [2, 3, 4, 5, 1, 0] rfl)
          clear ek34
          obtain ⟨k37, ek37, hf⟩ := nb_let_e hf
          have w38 : ∀ (_u : Unit) (H : Heap) (locs : List Loc) (ls : Array Slot), k37 _u = some ro → nb_W G xm_sh s.heap σ H locs → lv_has ls 6 [(0, .ref (G.2.1 0)), (1, .int a0), (2, .int a1), (3, .int v9), (5, .int x25)] → W p l e rmX8_doesPress s m args below meth c H locs 0 0 (MQ below (nb_Qi G xm_sh Z ro σ) args s 0 0 (nb_A xm_sh G.2.1)) (F0 m 130 ls []) := by
            intro _u H locs ls hf hW hl
            have hf := (congrFun ek37 _u).symm.trans hf
            refine lv_iconst (v := (0 : Int32)) hx hb dX8_doesPress_130 (by decide) ?_
            exact w35 _ _ _ _ hf hW (lv_sub hl [0, 1, 2, 3, 4] rfl)
          clear ek37
          refine lv_if_eq (tgt := 130) hx hb dX8_doesPress_91 (by decide) (fun c39 => ?_) (fun c39 => ?_)
          · rw [if_pos c39] at hf
            exact w38 ()  _ _ _ hf hW (lv_sub hl [0, 1, 2, 3, 5] rfl)
          · rw [if_neg c39] at hf
            refine lv_aload_n hx hb dX8_doesPress_94 rfl (lv_at hl 0 rfl) ?_
            refine nb_get (C := RX8) (T := TX8) (N := 40) hx hb hts inT_X8 hown hK hW 0 rfl rfl 3 (by decide) (hts _ tw4_126) (fun _ h9 => h9) rfl (v := .ref (G.2.1 3)) rfl dX8_doesPress_95 ?_
            refine lv_iload hx hb dX8_doesPress_98 (lv_at hl 5 rfl) ?_
            obtain ⟨g40, hf⟩ := nb_g_e hf
            refine nb_iald hx hb hK hW 3 rfl g40 dX8_doesPress_100 ?_
            refine lv_aload_n hx hb dX8_doesPress_101 rfl (lv_at hl 0 rfl) ?_
            refine nb_get (C := RX8) (T := TX8) (N := 40) hx hb hts inT_X8 hown hK hW 0 rfl rfl 3 (by decide) (hts _ tw4_126) (fun _ h9 => h9) rfl (v := .ref (G.2.1 3)) rfl dX8_doesPress_102 ?_
            refine lv_iload_n hx hb dX8_doesPress_105 rfl (lv_at hl 1 rfl) ?_
            obtain ⟨g41, hf⟩ := nb_g_e hf
            refine nb_iald hx hb hK hW 3 rfl g41 dX8_doesPress_106 ?_
            obtain ⟨k42, ek42, hf⟩ := nb_let_e hf
            have w43 : ∀ (_u : Unit) (H : Heap) (locs : List Loc) (ls : Array Slot), k42 _u = some ro → nb_W G xm_sh s.heap σ H locs → lv_has ls 6 [(0, .ref (G.2.1 0)), (1, .int a0), (2, .int a1), (3, .int v9), (5, .int x25)] → W p l e rmX8_doesPress s m args below meth c H locs 0 0 (MQ below (nb_Qi G xm_sh Z ro σ) args s 0 0 (nb_A xm_sh G.2.1)) (F0 m 126 ls []) := by
              intro _u H locs ls hf hW hl
              have hf := (congrFun ek42 _u).symm.trans hf
              refine lv_iconst (v := (1 : Int32)) hx hb dX8_doesPress_126 (by decide) ?_
              refine lv_goto (tgt := 131) hx hb dX8_doesPress_127 (by decide) ?_
              exact w35 _ _ _ _ hf hW (lv_sub hl [0, 1, 2, 3, 4] rfl)
            clear ek42
            refine lv_icmp_eq (tgt := 126) hx hb dX8_doesPress_107 (by decide) (fun c44 => ?_) (fun c44 => ?_)
            · rw [if_pos c44] at hf
              exact w43 ()  _ _ _ hf hW (lv_sub hl [0, 1, 2, 3, 5] rfl)
            · rw [if_neg c44] at hf
              refine lv_aload_n hx hb dX8_doesPress_110 rfl (lv_at hl 0 rfl) ?_
              refine nb_get (C := RX8) (T := TX8) (N := 40) hx hb hts inT_X8 hown hK hW 0 rfl rfl 34 (by decide) (hts _ tw4_157) (fun _ h9 => h9) rfl (v := .ref (G.2.1 27)) rfl dX8_doesPress_111 ?_
              refine lv_aload_n hx hb dX8_doesPress_114 rfl (lv_at hl 0 rfl) ?_
              refine nb_get (C := RX8) (T := TX8) (N := 40) hx hb hts inT_X8 hown hK hW 0 rfl rfl 3 (by decide) (hts _ tw4_126) (fun _ h9 => h9) rfl (v := .ref (G.2.1 3)) rfl dX8_doesPress_115 ?_
              refine lv_iload hx hb dX8_doesPress_118 (lv_at hl 5 rfl) ?_
              obtain ⟨g45, hf⟩ := nb_g_e hf
              refine nb_iald hx hb hK hW 3 rfl g45 dX8_doesPress_120 ?_
              obtain ⟨g46, hf⟩ := nb_g_e hf
              refine nb_iald hx hb hK hW 27 rfl g46 dX8_doesPress_121 ?_
              refine lv_iload_n hx hb dX8_doesPress_122 rfl (lv_at hl 2 rfl) ?_
              refine lv_icmp_ge (tgt := 130) hx hb dX8_doesPress_123 (by decide) (fun c47 => ?_) (fun c47 => ?_)
              · rw [if_pos c47] at hf
                exact w38 ()  _ _ _ hf hW (lv_sub hl [0, 1, 2, 3, 5] rfl)
              · rw [if_neg c47] at hf
                exact w43 ()  _ _ _ hf hW (lv_sub hl [0, 1, 2, 3, 5] rfl)
    clear ek7
    refine lv_icmp_lt (tgt := 60) hx hb dX8_doesPress_53 (by decide) (fun c48 => ?_) (fun c48 => ?_)
    · rw [if_pos c48] at hf
      refine lv_iconst (v := (0 : Int32)) hx hb dX8_doesPress_60 (by decide) ?_
      exact w8 _ _ _ _ hf hW (lv_sub hl [0, 1, 2] rfl)
    · rw [if_neg c48] at hf
      refine lv_iconst (v := (1 : Int32)) hx hb dX8_doesPress_56 (by decide) ?_
      refine lv_goto (tgt := 61) hx hb dX8_doesPress_57 (by decide) ?_
      exact w8 _ _ _ _ hf hW (lv_sub hl [0, 1, 2] rfl)
  · rw [if_neg c3] at hf
    refine lv_iload_n hx hb dX8_doesPress_8 rfl (lv_at hl 2 rfl) ?_
    refine lv_iload_n hx hb dX8_doesPress_9 rfl (lv_at hl 1 rfl) ?_
    refine lv_aload_n hx hb dX8_doesPress_10 rfl (lv_at hl 0 rfl) ?_
    refine nb_get (C := RX8) (T := TX8) (N := 40) hx hb hts inT_X8 hown hK hW 0 rfl rfl 29 (by decide) (hts _ tw4_152) (fun _ h9 => h9) rfl (v := .int (σ 0 29)) rfl dX8_doesPress_11 ?_
    obtain ⟨k49, ek49, hf⟩ := nb_let_e hf
    have w50 : ∀ (v51 : Int32) (H : Heap) (locs : List Loc) (ls : Array Slot), k49 v51 = some ro → nb_W G xm_sh s.heap σ H locs → lv_has ls 6 [] → W p l e rmX8_doesPress s m args below meth c H locs 0 0 (MQ below (nb_Qi G xm_sh Z ro σ) args s 0 0 (nb_A xm_sh G.2.1)) (F0 m 30 ls [.int v51, .int a1]) := by
      intro v51 H locs ls hf hW hl
      have hf := (congrFun ek49 v51).symm.trans hf
      refine lv_icmp_lt (tgt := 37) hx hb dX8_doesPress_30 (by decide) (fun c52 => ?_) (fun c52 => ?_)
      · rw [if_pos c52] at hf
        refine lv_iconst (v := (0 : Int32)) hx hb dX8_doesPress_37 (by decide) ?_
        exact nb_rzp hx hb hr hlocks hK hZ hZo hW rfl hf dX8_doesPress_38
      · rw [if_neg c52] at hf
        refine lv_iconst (v := (1 : Int32)) hx hb dX8_doesPress_33 (by decide) ?_
        refine lv_goto (tgt := 38) hx hb dX8_doesPress_34 (by decide) ?_
        exact nb_rzp hx hb hr hlocks hK hZ hZo hW rfl hf dX8_doesPress_38
    clear ek49
    refine lv_icmp_ne (tgt := 24) hx hb dX8_doesPress_14 (by decide) (fun c53 => ?_) (fun c53 => ?_)
    · rw [if_neg c53] at hf
      refine lv_aload_n hx hb dX8_doesPress_24 rfl (lv_at hl 0 rfl) ?_
      refine nb_get (C := RX8) (T := TX8) (N := 40) hx hb hts inT_X8 hown hK hW 0 rfl rfl 4 (by decide) (hts _ tw4_127) (fun _ h9 => h9) rfl (v := .ref (G.2.1 4)) rfl dX8_doesPress_25 ?_
      refine lv_iload_n hx hb dX8_doesPress_28 rfl (lv_at hl 1 rfl) ?_
      obtain ⟨g54, hf⟩ := nb_g_e hf
      refine nb_iald hx hb hK hW 4 rfl g54 dX8_doesPress_29 ?_
      exact w50 _ _ _ _ hf hW (lv_sub hl [] rfl)
    · rw [if_pos c53] at hf
      refine lv_aload_n hx hb dX8_doesPress_17 rfl (lv_at hl 0 rfl) ?_
      refine nb_get (C := RX8) (T := TX8) (N := 40) hx hb hts inT_X8 hown hK hW 0 rfl rfl 30 (by decide) (hts _ tw4_153) (fun _ h9 => h9) rfl (v := .int (σ 0 30)) rfl dX8_doesPress_18 ?_
      refine lv_goto (tgt := 30) hx hb dX8_doesPress_21 (by decide) ?_
      exact w50 _ _ _ _ hf hW (lv_sub hl [] rfl)
def fX8_standsAt (N : Nat) (σ : nb_St) (a0 : Int32) (a1 : Int32) : Option Int32 :=
  nb_lp4 (R := Int32) (fun ag5 (x1 : Int32) (x2 : Int32) (x3 : Int32) (x4 : Int32) =>
  nb_g (nb_in (0 : Int32) 2) (
  (if (σ 2 (nb_ix (0 : Int32))) ≤ x4 then
  nb_let (fun (_u : Unit) =>
  some (0 : Int32)) fun k9 =>
  (if x3 = 0 then
  k9 ()
  else
  nb_let (fun (_u : Unit) =>
  some (1 : Int32)) fun k12 =>
  (if x1 = 0 then
  (if x2 = 0 then
  (if a1 = (719 : Int32) then
  k12 ()
  else
  (if a1 = (σ 0 31) then
  k12 ()
  else
  k9 ()))
  else
  k12 ())
  else
  k12 ()))
  else
  nb_g (nb_in x4 16) (
  nb_let (fun (x21 : Int32) (x22 : Int32) (x23 : Int32) =>
  ag5 x21 x22 x23 (x4 + 1)) fun k19 =>
  (if (σ 3 (nb_ix x4)) = a0 then
  nb_b (fX8_doesPress N σ x4 a1) fun r26 =>
  nb_let (fun (v29 : Int32) =>
  nb_let (fun (v32 : Int32) =>
  k19 v29 v32 (1 : Int32)) fun k30 =>
  nb_let (fun (_u : Unit) =>
  k30 (1 : Int32)) fun k33 =>
  (if x2 = 0 then
  nb_let (fun (_u : Unit) =>
  k30 (0 : Int32)) fun k36 =>
  (if r26 = 0 then
  k36 ()
  else
  nb_b (fX8_isBus N σ x4) fun r40 =>
  (if r40 = 0 then
  k36 ()
  else
  k33 ()))
  else
  k33 ())) fun k27 =>
  nb_let (fun (_u : Unit) =>
  k27 (0 : Int32)) fun k42 =>
  (if x1 = 0 then
  k42 ()
  else
  (if r26 = 0 then
  k42 ()
  else
  k27 (1 : Int32)))
  else
  k19 x1 x2 x3))))) N (1 : Int32) (0 : Int32) (0 : Int32) (0 : Int32)
def rmX8_standsAt : Room := { frames := 3, cells := 0, slots := 0, locals := 73 }
def vsX8_standsAt : List Cond := .code yX8_standsAt cX8_standsAt 8 (some .boolean) :: xT
set_option maxHeartbeats 4000000 in
set_option maxRecDepth 100000 in
theorem c_X8_standsAt (l : Launch) {G : nb_G} {Z : State → Heap → Prop} (hinj : nb_inj xm_sh G.2.1) (hZo : nb_Zok (nb_A xm_sh G.2.1) Z) {N : Nat} {σ : nb_St} {a0 : Int32} {a1 : Int32} {ro : Int32} (hf : fX8_standsAt N σ a0 a1 = some ro)  : Met l yX8_standsAt vsX8_standsAt rmX8_standsAt (nb_Pc G xm_sh Z σ [.ref (G.2.1 0), .int a0, .int a1]) (nb_Qi G xm_sh Z ro σ) 0 0 (nb_A xm_sh G.2.1) := by
  refine Met.ofW (cc := cX8_standsAt) (maxL := 8) (ret := (some .boolean)) (by decide) rfl ?_
  intro p e s m args below meth c s₁ B hml hv
  obtain ⟨rfl, hP, hK, hZ⟩ := hv
  have hx := B.exec
  have hb := B.bytes
  have hr := B.returns
  have hts : ∀ w ∈ xT, w.before _ s = true := fun w h9 => atoms_spec (ws := vsX8_standsAt) B.pre w (List.mem_cons_of_mem _ h9)
  have hown : s.vm.findClass RX8 = some m.cls := findClass_of_methodNamed B.named
  have hlocks := B.notSynchronized
  have hW : nb_W G xm_sh s.heap σ s.heap [] := ⟨hP, va_S.rf⟩
  have hl := lv_entry ([.ref (G.2.1 0), .int a0, .int a1]) (n := 8) (Nat.le_of_ble_eq_true rfl)
  rw [lg_entry_eq]
  generalize (lg_sl ([.ref (G.2.1 0), .int a0, .int a1]) ++ List.replicate (8 - (lg_sl ([.ref (G.2.1 0), .int a0, .int a1])).length) Slot.unset).toArray = ls at hl ⊢
  have hl : lv_has ls 8 [(0, .ref (G.2.1 0)), (1, .int a0), (2, .int a1)] := hl
  show W p l e rmX8_standsAt s m ([.ref (G.2.1 0), .int a0, .int a1]).toArray below meth c s.heap [] 0 0 (MQ below (nb_Qi G xm_sh Z ro σ) ([.ref (G.2.1 0), .int a0, .int a1]).toArray s 0 0 (nb_A xm_sh G.2.1)) (F0 m 0 ls [])
  generalize hargs : ([.ref (G.2.1 0), .int a0, .int a1] : List Value).toArray = args at hts ⊢
  unfold fX8_standsAt at hf
  obtain ⟨H, eH⟩ : ∃ H, H = s.heap := ⟨_, rfl⟩
  obtain ⟨locs, eL⟩ : ∃ L : List Loc, L = [] := ⟨_, rfl⟩
  have hW : nb_W G xm_sh s.heap σ H locs := by rw [eH, eL]; exact hW
  suffices hgo : W p l e rmX8_standsAt s m args below meth c H locs 0 0 (MQ below (nb_Qi G xm_sh Z ro σ) args s 0 0 (nb_A xm_sh G.2.1)) (F0 m 0 ls []) by rw [eH, eL] at hgo; exact hgo
  clear eH eL
  refine lv_iconst (v := (1 : Int32)) hx hb dX8_standsAt_0 (by decide) ?_
  refine lv_istore_n (lv' := [(3, .int (1 : Int32)), (0, .ref (G.2.1 0)), (1, .int a0), (2, .int a1)]) hx hb dX8_standsAt_1 rfl hl (by decide) rfl (fun ls hl => ?_)
  refine lv_iconst (v := (0 : Int32)) hx hb dX8_standsAt_2 (by decide) ?_
  refine lv_istore (lv' := [(4, .int (0 : Int32)), (3, .int (1 : Int32)), (0, .ref (G.2.1 0)), (1, .int a0), (2, .int a1)]) hx hb dX8_standsAt_3 hl (by decide) rfl (fun ls hl => ?_)
  refine lv_iconst (v := (0 : Int32)) hx hb dX8_standsAt_5 (by decide) ?_
  refine lv_istore (lv' := [(5, .int (0 : Int32)), (4, .int (0 : Int32)), (3, .int (1 : Int32)), (0, .ref (G.2.1 0)), (1, .int a0), (2, .int a1)]) hx hb dX8_standsAt_6 hl (by decide) rfl (fun ls hl => ?_)
  refine lv_iconst (v := (0 : Int32)) hx hb dX8_standsAt_8 (by decide) ?_
  refine lv_istore (lv' := [(6, .int (0 : Int32)), (5, .int (0 : Int32)), (4, .int (0 : Int32)), (3, .int (1 : Int32)), (0, .ref (G.2.1 0)), (1, .int a0), (2, .int a1)]) hx hb dX8_standsAt_9 hl (by decide) rfl (fun ls hl => ?_)
  refine nb_w4 (P := fun (x1 : Int32) (x2 : Int32) (x3 : Int32) (x4 : Int32) => ∀ (H : Heap) (locs : List Loc) (ls : Array Slot), nb_W G xm_sh s.heap σ H locs → lv_has ls 8 [(0, .ref (G.2.1 0)), (1, .int a0), (2, .int a1), (3, .int x1), (4, .int x2), (5, .int x3), (6, .int x4)] → W p l e rmX8_standsAt s m args below meth c H locs 0 0 (MQ below (nb_Qi G xm_sh Z ro σ) args s 0 0 (nb_A xm_sh G.2.1)) (F0 m 11 ls [])) ?_ N _ _ _ _ hf H locs ls hW (lv_sub hl [4, 5, 6, 3, 2, 1, 0] rfl)
  intro ag5 ih6 x1 x2 x3 x4 hf H locs ls hW hl
  refine lv_iload hx hb dX8_standsAt_11 (lv_at hl 6 rfl) ?_
  refine lv_aload_n hx hb dX8_standsAt_13 rfl (lv_at hl 0 rfl) ?_
  refine nb_get (C := RX8) (T := TX8) (N := 40) hx hb hts inT_X8 hown hK hW 0 rfl rfl 2 (by decide) (hts _ tw4_125) (fun _ h9 => h9) rfl (v := .ref (G.2.1 2)) rfl dX8_standsAt_14 ?_
  refine lv_iconst (v := (0 : Int32)) hx hb dX8_standsAt_17 (by decide) ?_
  obtain ⟨g7, hf⟩ := nb_g_e hf
  refine nb_iald hx hb hK hW 2 rfl g7 dX8_standsAt_18 ?_
  refine lv_icmp_ge (tgt := 92) hx hb dX8_standsAt_19 (by decide) (fun c8 => ?_) (fun c8 => ?_)
  · rw [if_pos c8] at hf
    refine lv_iload hx hb dX8_standsAt_92 (lv_at hl 5 rfl) ?_
    obtain ⟨k9, ek9, hf⟩ := nb_let_e hf
    have w10 : ∀ (_u : Unit) (H : Heap) (locs : List Loc) (ls : Array Slot), k9 _u = some ro → nb_W G xm_sh s.heap σ H locs → lv_has ls 8 [] → W p l e rmX8_standsAt s m args below meth c H locs 0 0 (MQ below (nb_Qi G xm_sh Z ro σ) args s 0 0 (nb_A xm_sh G.2.1)) (F0 m 125 ls []) := by
      intro _u H locs ls hf hW hl
      have hf := (congrFun ek9 _u).symm.trans hf
      refine lv_iconst (v := (0 : Int32)) hx hb dX8_standsAt_125 (by decide) ?_
      exact nb_rzp hx hb hr hlocks hK hZ hZo hW rfl hf dX8_standsAt_126
    clear ek9
    refine lv_if_eq (tgt := 125) hx hb dX8_standsAt_94 (by decide) (fun c11 => ?_) (fun c11 => ?_)
    · rw [if_pos c11] at hf
      exact w10 ()  _ _ _ hf hW (lv_sub hl [] rfl)
    · rw [if_neg c11] at hf
      refine lv_iload_n hx hb dX8_standsAt_97 rfl (lv_at hl 3 rfl) ?_
      obtain ⟨k12, ek12, hf⟩ := nb_let_e hf
      have w13 : ∀ (_u : Unit) (H : Heap) (locs : List Loc) (ls : Array Slot), k12 _u = some ro → nb_W G xm_sh s.heap σ H locs → lv_has ls 8 [] → W p l e rmX8_standsAt s m args below meth c H locs 0 0 (MQ below (nb_Qi G xm_sh Z ro σ) args s 0 0 (nb_A xm_sh G.2.1)) (F0 m 121 ls []) := by
        intro _u H locs ls hf hW hl
        have hf := (congrFun ek12 _u).symm.trans hf
        refine lv_iconst (v := (1 : Int32)) hx hb dX8_standsAt_121 (by decide) ?_
        refine lv_goto (tgt := 126) hx hb dX8_standsAt_122 (by decide) ?_
        exact nb_rzp hx hb hr hlocks hK hZ hZo hW rfl hf dX8_standsAt_126
      clear ek12
      refine lv_if_ne (tgt := 121) hx hb dX8_standsAt_98 (by decide) (fun c14 => ?_) (fun c14 => ?_)
      · rw [if_neg c14] at hf
        exact w13 ()  _ _ _ hf hW (lv_sub hl [] rfl)
      · rw [if_pos c14] at hf
        refine lv_iload hx hb dX8_standsAt_101 (lv_at hl 4 rfl) ?_
        refine lv_if_ne (tgt := 121) hx hb dX8_standsAt_103 (by decide) (fun c15 => ?_) (fun c15 => ?_)
        · rw [if_neg c15] at hf
          exact w13 ()  _ _ _ hf hW (lv_sub hl [] rfl)
        · rw [if_pos c15] at hf
          refine lv_iload_n hx hb dX8_standsAt_106 rfl (lv_at hl 2 rfl) ?_
          refine lv_sipush (v := (719 : Int32)) hx hb dX8_standsAt_107 (by decide) ?_
          refine lv_icmp_eq (tgt := 121) hx hb dX8_standsAt_110 (by decide) (fun c16 => ?_) (fun c16 => ?_)
          · rw [if_pos c16] at hf
            exact w13 ()  _ _ _ hf hW (lv_sub hl [] rfl)
          · rw [if_neg c16] at hf
            refine lv_iload_n hx hb dX8_standsAt_113 rfl (lv_at hl 2 rfl) ?_
            refine lv_aload_n hx hb dX8_standsAt_114 rfl (lv_at hl 0 rfl) ?_
            refine nb_get (C := RX8) (T := TX8) (N := 40) hx hb hts inT_X8 hown hK hW 0 rfl rfl 31 (by decide) (hts _ tw4_154) (fun _ h9 => h9) rfl (v := .int (σ 0 31)) rfl dX8_standsAt_115 ?_
            refine lv_icmp_ne (tgt := 125) hx hb dX8_standsAt_118 (by decide) (fun c17 => ?_) (fun c17 => ?_)
            · rw [if_neg c17] at hf
              exact w10 ()  _ _ _ hf hW (lv_sub hl [] rfl)
            · rw [if_pos c17] at hf
              exact w13 ()  _ _ _ hf hW (lv_sub hl [] rfl)
  · rw [if_neg c8] at hf
    refine lv_aload_n hx hb dX8_standsAt_22 rfl (lv_at hl 0 rfl) ?_
    refine nb_get (C := RX8) (T := TX8) (N := 40) hx hb hts inT_X8 hown hK hW 0 rfl rfl 3 (by decide) (hts _ tw4_126) (fun _ h9 => h9) rfl (v := .ref (G.2.1 3)) rfl dX8_standsAt_23 ?_
    refine lv_iload hx hb dX8_standsAt_26 (lv_at hl 6 rfl) ?_
    obtain ⟨g18, hf⟩ := nb_g_e hf
    refine nb_iald hx hb hK hW 3 rfl g18 dX8_standsAt_28 ?_
    refine lv_iload_n hx hb dX8_standsAt_29 rfl (lv_at hl 1 rfl) ?_
    obtain ⟨k19, ek19, hf⟩ := nb_let_e hf
    have w20 : ∀ (x21 : Int32) (x22 : Int32) (x23 : Int32) (H : Heap) (locs : List Loc) (ls : Array Slot), k19 x21 x22 x23 = some ro → nb_W G xm_sh s.heap σ H locs → lv_has ls 8 [(0, .ref (G.2.1 0)), (1, .int a0), (2, .int a1), (3, .int x21), (4, .int x22), (5, .int x23), (6, .int x4)] → W p l e rmX8_standsAt s m args below meth c H locs 0 0 (MQ below (nb_Qi G xm_sh Z ro σ) args s 0 0 (nb_A xm_sh G.2.1)) (F0 m 86 ls []) := by
      intro x21 x22 x23 H locs ls hf hW hl
      have hf := (congrFun (congrFun (congrFun ek19 x21) x22) x23).symm.trans hf
      refine lv_iinc (v := (x4 + 1)) (lv' := [(6, .int (x4 + 1)), (0, .ref (G.2.1 0)), (1, .int a0), (2, .int a1), (3, .int x21), (4, .int x22), (5, .int x23)]) hx hb dX8_standsAt_86 hl (k := 6) rfl rfl (by decide) rfl (fun ls hl => ?_)
      refine lv_goto (tgt := 11) hx hb dX8_standsAt_89 (by decide) ?_
      exact ih6 _ _ _ _ hf _ _ _ hW (lv_sub hl [1, 2, 3, 4, 5, 6, 0] rfl)
    clear ek19
    refine lv_icmp_ne (tgt := 86) hx hb dX8_standsAt_30 (by decide) (fun c24 => ?_) (fun c24 => ?_)
    · rw [if_neg c24] at hf
      exact w20 _ _ _ _ _ _ hf hW (lv_sub hl [0, 1, 2, 3, 4, 5, 6] rfl)
    · rw [if_pos c24] at hf
      refine lv_aload_n hx hb dX8_standsAt_33 rfl (lv_at hl 0 rfl) ?_
      refine lv_iload hx hb dX8_standsAt_34 (lv_at hl 6 rfl) ?_
      refine lv_iload_n hx hb dX8_standsAt_36 rfl (lv_at hl 2 rfl) ?_
      obtain ⟨r26, hc25, hf⟩ := nb_b_e hf
      refine nb_ci hW (va_runV (As := [.int x4, .int a1]) (rest := []) ⟨hx, hb, hml, hown, hts⟩ (c_X8_doesPress l hinj hZo (N := N) hc25 ) (cwV 2 hts (xg_V tw5_94 tw5_96 tp3_1 tw1_10 tw5_97) rfl rfl rfl (by decide +kernel) ⟨Nat.le_of_ble_eq_true rfl, Nat.le_of_ble_eq_true rfl⟩) (nb_preV hK hZ hZo hW (k := 0) rfl rfl) rfl rfl hl.1 rfl (lv_room (Nat.le_of_ble_eq_true rfl)) dX8_standsAt_37 ⟨Nat.zero_le _, Nat.zero_le _⟩) (fun H locs hW => ?_)
      refine lv_istore (lv' := [(7, .int r26), (0, .ref (G.2.1 0)), (1, .int a0), (2, .int a1), (3, .int x1), (4, .int x2), (5, .int x3), (6, .int x4)]) hx hb dX8_standsAt_40 hl (by decide) rfl (fun ls hl => ?_)
      refine lv_iconst (v := (1 : Int32)) hx hb dX8_standsAt_42 (by decide) ?_
      refine lv_istore (lv' := [(5, .int (1 : Int32)), (7, .int r26), (0, .ref (G.2.1 0)), (1, .int a0), (2, .int a1), (3, .int x1), (4, .int x2), (6, .int x4)]) hx hb dX8_standsAt_43 hl (by decide) rfl (fun ls hl => ?_)
      refine lv_iload_n hx hb dX8_standsAt_45 rfl (lv_at hl 5 rfl) ?_
      obtain ⟨k27, ek27, hf⟩ := nb_let_e hf
      have w28 : ∀ (v29 : Int32) (H : Heap) (locs : List Loc) (ls : Array Slot), k27 v29 = some ro → nb_W G xm_sh s.heap σ H locs → lv_has ls 8 [(0, .ref (G.2.1 0)), (1, .int a0), (2, .int a1), (4, .int x2), (5, .int (1 : Int32)), (6, .int x4), (7, .int r26)] → W p l e rmX8_standsAt s m args below meth c H locs 0 0 (MQ below (nb_Qi G xm_sh Z ro σ) args s 0 0 (nb_A xm_sh G.2.1)) (F0 m 59 ls [.int v29]) := by
        intro v29 H locs ls hf hW hl
        have hf := (congrFun ek27 v29).symm.trans hf
        refine lv_istore_n (lv' := [(3, .int v29), (0, .ref (G.2.1 0)), (1, .int a0), (2, .int a1), (4, .int x2), (5, .int (1 : Int32)), (6, .int x4), (7, .int r26)]) hx hb dX8_standsAt_59 rfl hl (by decide) rfl (fun ls hl => ?_)
        refine lv_iload hx hb dX8_standsAt_60 (lv_at hl 4 rfl) ?_
        obtain ⟨k30, ek30, hf⟩ := nb_let_e hf
        have w31 : ∀ (v32 : Int32) (H : Heap) (locs : List Loc) (ls : Array Slot), k30 v32 = some ro → nb_W G xm_sh s.heap σ H locs → lv_has ls 8 [(0, .ref (G.2.1 0)), (1, .int a0), (2, .int a1), (3, .int v29), (5, .int (1 : Int32)), (6, .int x4)] → W p l e rmX8_standsAt s m args below meth c H locs 0 0 (MQ below (nb_Qi G xm_sh Z ro σ) args s 0 0 (nb_A xm_sh G.2.1)) (F0 m 84 ls [.int v32]) := by
          intro v32 H locs ls hf hW hl
          have hf := (congrFun ek30 v32).symm.trans hf
          refine lv_istore (lv' := [(4, .int v32), (0, .ref (G.2.1 0)), (1, .int a0), (2, .int a1), (3, .int v29), (5, .int (1 : Int32)), (6, .int x4)]) hx hb dX8_standsAt_84 hl (by decide) rfl (fun ls hl => ?_)
          exact w20 _ _ _ _ _ _ hf hW (lv_sub hl [1, 2, 3, 4, 0, 5, 6] rfl)
        clear ek30
        obtain ⟨k33, ek33, hf⟩ := nb_let_e hf
        have w34 : ∀ (_u : Unit) (H : Heap) (locs : List Loc) (ls : Array Slot), k33 _u = some ro → nb_W G xm_sh s.heap σ H locs → lv_has ls 8 [(0, .ref (G.2.1 0)), (1, .int a0), (2, .int a1), (3, .int v29), (5, .int (1 : Int32)), (6, .int x4)] → W p l e rmX8_standsAt s m args below meth c H locs 0 0 (MQ below (nb_Qi G xm_sh Z ro σ) args s 0 0 (nb_A xm_sh G.2.1)) (F0 m 79 ls []) := by
          intro _u H locs ls hf hW hl
          have hf := (congrFun ek33 _u).symm.trans hf
          refine lv_iconst (v := (1 : Int32)) hx hb dX8_standsAt_79 (by decide) ?_
          refine lv_goto (tgt := 84) hx hb dX8_standsAt_80 (by decide) ?_
          exact w31 _ _ _ _ hf hW (lv_sub hl [0, 1, 2, 3, 4, 5] rfl)
        clear ek33
        refine lv_if_ne (tgt := 79) hx hb dX8_standsAt_62 (by decide) (fun c35 => ?_) (fun c35 => ?_)
        · rw [if_neg c35] at hf
          exact w34 ()  _ _ _ hf hW (lv_sub hl [1, 2, 3, 0, 5, 6] rfl)
        · rw [if_pos c35] at hf
          refine lv_iload hx hb dX8_standsAt_65 (lv_at hl 7 rfl) ?_
          obtain ⟨k36, ek36, hf⟩ := nb_let_e hf
          have w37 : ∀ (_u : Unit) (H : Heap) (locs : List Loc) (ls : Array Slot), k36 _u = some ro → nb_W G xm_sh s.heap σ H locs → lv_has ls 8 [(0, .ref (G.2.1 0)), (1, .int a0), (2, .int a1), (3, .int v29), (5, .int (1 : Int32)), (6, .int x4)] → W p l e rmX8_standsAt s m args below meth c H locs 0 0 (MQ below (nb_Qi G xm_sh Z ro σ) args s 0 0 (nb_A xm_sh G.2.1)) (F0 m 83 ls []) := by
            intro _u H locs ls hf hW hl
            have hf := (congrFun ek36 _u).symm.trans hf
            refine lv_iconst (v := (0 : Int32)) hx hb dX8_standsAt_83 (by decide) ?_
            exact w31 _ _ _ _ hf hW (lv_sub hl [0, 1, 2, 3, 4, 5] rfl)
          clear ek36
          refine lv_if_eq (tgt := 83) hx hb dX8_standsAt_67 (by decide) (fun c38 => ?_) (fun c38 => ?_)
          · rw [if_pos c38] at hf
            exact w37 ()  _ _ _ hf hW (lv_sub hl [1, 2, 3, 0, 5, 6] rfl)
          · rw [if_neg c38] at hf
            refine lv_aload_n hx hb dX8_standsAt_70 rfl (lv_at hl 1 rfl) ?_
            refine lv_iload hx hb dX8_standsAt_71 (lv_at hl 6 rfl) ?_
            obtain ⟨r40, hc39, hf⟩ := nb_b_e hf
            refine nb_ci hW (va_runV (As := [.int x4]) (rest := []) ⟨hx, hb, hml, hown, hts⟩ (c_X8_isBus l hinj hZo (N := N) hc39 ) (cwV 1 hts (xg_V tw5_98 tw5_100 tp3_2 tw1_10 tw5_101) rfl rfl rfl (by decide +kernel) ⟨Nat.le_of_ble_eq_true rfl, Nat.le_of_ble_eq_true rfl⟩) (nb_preV hK hZ hZo hW (k := 0) rfl rfl) rfl rfl hl.1 rfl (lv_room (Nat.le_of_ble_eq_true rfl)) dX8_standsAt_73 ⟨Nat.zero_le _, Nat.zero_le _⟩) (fun H locs hW => ?_)
            refine lv_if_eq (tgt := 83) hx hb dX8_standsAt_76 (by decide) (fun c41 => ?_) (fun c41 => ?_)
            · rw [if_pos c41] at hf
              exact w37 ()  _ _ _ hf hW (lv_sub hl [1, 2, 3, 0, 5, 6] rfl)
            · rw [if_neg c41] at hf
              exact w34 ()  _ _ _ hf hW (lv_sub hl [1, 2, 3, 0, 5, 6] rfl)
      clear ek27
      obtain ⟨k42, ek42, hf⟩ := nb_let_e hf
      have w43 : ∀ (_u : Unit) (H : Heap) (locs : List Loc) (ls : Array Slot), k42 _u = some ro → nb_W G xm_sh s.heap σ H locs → lv_has ls 8 [(0, .ref (G.2.1 0)), (1, .int a0), (2, .int a1), (4, .int x2), (5, .int (1 : Int32)), (6, .int x4), (7, .int r26)] → W p l e rmX8_standsAt s m args below meth c H locs 0 0 (MQ below (nb_Qi G xm_sh Z ro σ) args s 0 0 (nb_A xm_sh G.2.1)) (F0 m 58 ls []) := by
        intro _u H locs ls hf hW hl
        have hf := (congrFun ek42 _u).symm.trans hf
        refine lv_iconst (v := (0 : Int32)) hx hb dX8_standsAt_58 (by decide) ?_
        exact w28 _ _ _ _ hf hW (lv_sub hl [0, 1, 2, 3, 4, 5, 6] rfl)
      clear ek42
      refine lv_if_eq (tgt := 58) hx hb dX8_standsAt_46 (by decide) (fun c44 => ?_) (fun c44 => ?_)
      · rw [if_pos c44] at hf
        exact w43 ()  _ _ _ hf hW (lv_sub hl [2, 3, 4, 6, 0, 7, 1] rfl)
      · rw [if_neg c44] at hf
        refine lv_iload hx hb dX8_standsAt_49 (lv_at hl 1 rfl) ?_
        refine lv_if_eq (tgt := 58) hx hb dX8_standsAt_51 (by decide) (fun c45 => ?_) (fun c45 => ?_)
        · rw [if_pos c45] at hf
          exact w43 ()  _ _ _ hf hW (lv_sub hl [2, 3, 4, 6, 0, 7, 1] rfl)
        · rw [if_neg c45] at hf
          refine lv_iconst (v := (1 : Int32)) hx hb dX8_standsAt_54 (by decide) ?_
          refine lv_goto (tgt := 59) hx hb dX8_standsAt_55 (by decide) ?_
          exact w28 _ _ _ _ hf hW (lv_sub hl [2, 3, 4, 6, 0, 7, 1] rfl)
def fX8_goEvening (N : Nat) (σ : nb_St)  : Option nb_St :=
  nb_lp2 (R := nb_St) (fun ag3 (x1 : Int32) (σ2 : nb_St) =>
  (if (4 : Int32) ≤ x1 then
  nb_lp2 (R := nb_St) (fun ag8 (x6 : Int32) (σ7 : nb_St) =>
  (if (8 : Int32) ≤ x6 then
  nb_lp3 (R := nb_St) (fun ag14 (x11 : Int32) (x12 : Int32) (σ13 : nb_St) =>
  nb_g (nb_in (0 : Int32) 2) (
  (if ((719 : Int32) + (σ13 11 (nb_ix (0 : Int32)))) < x12 then
  some σ13
  else
  nb_lp2 (R := nb_St) (fun ag20 (x18 : Int32) (x19 : Int32) =>
  nb_let (fun (_u : Unit) =>
  nb_lp2 (R := nb_St) (fun ag26 (x24 : Int32) (σ25 : nb_St) =>
  (if (4 : Int32) ≤ x24 then
  nb_let (fun (v31 : Int32) =>
  nb_lp2 (R := nb_St) (fun ag34 (x32 : Int32) (σ33 : nb_St) =>
  nb_g (nb_in (0 : Int32) 2) (
  (if (σ33 2 (nb_ix (0 : Int32))) ≤ x32 then
  ag14 v31 (x12 + 1) σ33
  else
  nb_g (nb_in x32 16) (
  nb_g (nb_in (σ33 3 (nb_ix x32)) 4) (
  nb_let (fun (v42 : Int32) =>
  nb_let (fun (v45 : Int32) =>
  nb_g (nb_in x32 8) (
  nb_let (nb_st σ33 28 (nb_ix x32) v45) fun σ47 =>
  ag34 (x32 + 1) σ47)) fun k43 =>
  nb_let (fun (_u : Unit) =>
  nb_g (nb_in x32 8) (
  k43 (σ33 28 (nb_ix x32)))) fun k48 =>
  (if v42 = 0 then
  k48 ()
  else
  nb_g (nb_in (0 : Int32) 2) (
  (if (x12 - v31) < (σ33 11 (nb_ix (0 : Int32))) then
  k48 ()
  else
  k43 x12)))) fun k40 =>
  nb_let (fun (_u : Unit) =>
  k40 (0 : Int32)) fun k54 =>
  (if (σ33 27 (nb_ix (σ33 3 (nb_ix x32)))) = (1000000 : Int32) then
  k54 ()
  else
  nb_g (nb_in x32 8) (
  (if (σ33 28 (nb_ix x32)) = (1000000 : Int32) then
  k40 (1 : Int32)
  else
  k54 ())))))))) N (0 : Int32) σ25) fun k29 =>
  (if x18 = 0 then
  k29 x11
  else
  k29 x12)
  else
  nb_b (fX8_has N σ25 x18 x24) fun r61 =>
  nb_let (fun (v64 : Int32) =>
  nb_g (nb_in x24 4) (
  nb_let (nb_st σ25 27 (nb_ix x24) v64) fun σ66 =>
  ag26 (x24 + 1) σ66)) fun k62 =>
  (if r61 = 0 then
  nb_g (nb_in x24 4) (
  k62 (σ25 27 (nb_ix x24)))
  else
  k62 x12))) N (0 : Int32) σ13) fun k22 =>
  (if (4 : Int32) ≤ x19 then
  k22 ()
  else
  (if (719 : Int32) < x12 then
  k22 ()
  else
  nb_g (nb_in x19 4) (
  nb_let (fun (v74 : Int32) =>
  nb_let (x18 ||| v74) fun x75 =>
  ag20 x75 (x19 + 1)) fun k72 =>
  nb_let (fun (_u : Unit) =>
  k72 (0 : Int32)) fun k76 =>
  (if (σ13 27 (nb_ix x19)) = (1000000 : Int32) then
  nb_b (fX8_standsAt N σ13 x19 x12) fun r80 =>
  (if r80 = 0 then
  k76 ()
  else
  k72 ((1 : Int32) <<< (x19 &&& 31)))
  else
  k76 ()))))) N (0 : Int32) (0 : Int32)))) N (0 : Int32) (0 : Int32) σ7
  else
  nb_g (nb_in x6 8) (
  nb_let (nb_st σ7 28 (nb_ix x6) (1000000 : Int32)) fun σ83 =>
  ag8 (x6 + 1) σ83))) N (0 : Int32) σ2
  else
  nb_g (nb_in x1 4) (
  nb_let (nb_st σ2 27 (nb_ix x1) (1000000 : Int32)) fun σ85 =>
  ag3 (x1 + 1) σ85))) N (0 : Int32) σ
def rmX8_goEvening : Room := { frames := 4, cells := 0, slots := 0, locals := 100 }
def vsX8_goEvening : List Cond := .code yX8_goEvening cX8_goEvening 6 none :: xT
set_option maxHeartbeats 4000000 in
set_option maxRecDepth 100000 in
theorem c_X8_goEvening (l : Launch) {G : nb_G} {Z : State → Heap → Prop} (hinj : nb_inj xm_sh G.2.1) (hZo : nb_Zok (nb_A xm_sh G.2.1) Z) {N : Nat} {σ : nb_St}  {σo : nb_St} (hf : fX8_goEvening N σ = some σo)  : Met l yX8_goEvening vsX8_goEvening rmX8_goEvening (nb_Pc G xm_sh Z σ [.ref (G.2.1 0)]) (nb_Qv G xm_sh Z σo) 0 0 (nb_A xm_sh G.2.1) := by
  refine Met.ofW (cc := cX8_goEvening) (maxL := 6) (ret := none) (by decide) rfl ?_
  intro p e s m args below meth c s₁ B hml hv
  obtain ⟨rfl, hP, hK, hZ⟩ := hv
  have hx := B.exec
  have hb := B.bytes
  have hr := B.returns
  have hts : ∀ w ∈ xT, w.before _ s = true := fun w h9 => atoms_spec (ws := vsX8_goEvening) B.pre w (List.mem_cons_of_mem _ h9)
  have hown : s.vm.findClass RX8 = some m.cls := findClass_of_methodNamed B.named
  have hlocks := B.notSynchronized
  have hW : nb_W G xm_sh s.heap σ s.heap [] := ⟨hP, va_S.rf⟩
  have hl := lv_entry ([.ref (G.2.1 0)]) (n := 6) (Nat.le_of_ble_eq_true rfl)
  rw [lg_entry_eq]
  generalize (lg_sl ([.ref (G.2.1 0)]) ++ List.replicate (6 - (lg_sl ([.ref (G.2.1 0)])).length) Slot.unset).toArray = ls at hl ⊢
  have hl : lv_has ls 6 [(0, .ref (G.2.1 0))] := hl
  show W p l e rmX8_goEvening s m ([.ref (G.2.1 0)]).toArray below meth c s.heap [] 0 0 (MQ below (nb_Qv G xm_sh Z σo) ([.ref (G.2.1 0)]).toArray s 0 0 (nb_A xm_sh G.2.1)) (F0 m 0 ls [])
  generalize hargs : ([.ref (G.2.1 0)] : List Value).toArray = args at hts ⊢
  unfold fX8_goEvening at hf
  obtain ⟨H, eH⟩ : ∃ H, H = s.heap := ⟨_, rfl⟩
  obtain ⟨locs, eL⟩ : ∃ L : List Loc, L = [] := ⟨_, rfl⟩
  have hW : nb_W G xm_sh s.heap σ H locs := by rw [eH, eL]; exact hW
  suffices hgo : W p l e rmX8_goEvening s m args below meth c H locs 0 0 (MQ below (nb_Qv G xm_sh Z σo) args s 0 0 (nb_A xm_sh G.2.1)) (F0 m 0 ls []) by rw [eH, eL] at hgo; exact hgo
  clear eH eL
  refine lv_iconst (v := (0 : Int32)) hx hb dX8_goEvening_0 (by decide) ?_
  refine lv_istore_n (lv' := [(1, .int (0 : Int32)), (0, .ref (G.2.1 0))]) hx hb dX8_goEvening_1 rfl hl (by decide) rfl (fun ls hl => ?_)
  refine nb_w2 (P := fun (x1 : Int32) (σ2 : nb_St) => ∀ (H : Heap) (locs : List Loc) (ls : Array Slot), nb_W G xm_sh s.heap σ2 H locs → lv_has ls 6 [(0, .ref (G.2.1 0)), (1, .int x1)] → W p l e rmX8_goEvening s m args below meth c H locs 0 0 (MQ below (nb_Qv G xm_sh Z σo) args s 0 0 (nb_A xm_sh G.2.1)) (F0 m 2 ls [])) ?_ N _ _ hf H locs ls hW (lv_sub hl [1, 0] rfl)
  intro ag3 ih4 x1 σ2 hf H locs ls hW hl
  refine lv_iload_n hx hb dX8_goEvening_2 rfl (lv_at hl 1 rfl) ?_
  refine lv_iconst (v := (4 : Int32)) hx hb dX8_goEvening_3 (by decide) ?_
  refine lv_icmp_ge (tgt := 21) hx hb dX8_goEvening_4 (by decide) (fun c5 => ?_) (fun c5 => ?_)
  · rw [if_pos c5] at hf
    refine lv_iconst (v := (0 : Int32)) hx hb dX8_goEvening_21 (by decide) ?_
    refine lv_istore_n (lv' := [(1, .int (0 : Int32)), (0, .ref (G.2.1 0))]) hx hb dX8_goEvening_22 rfl hl (by decide) rfl (fun ls hl => ?_)
    refine nb_w2 (P := fun (x6 : Int32) (σ7 : nb_St) => ∀ (H : Heap) (locs : List Loc) (ls : Array Slot), nb_W G xm_sh s.heap σ7 H locs → lv_has ls 6 [(0, .ref (G.2.1 0)), (1, .int x6)] → W p l e rmX8_goEvening s m args below meth c H locs 0 0 (MQ below (nb_Qv G xm_sh Z σo) args s 0 0 (nb_A xm_sh G.2.1)) (F0 m 23 ls [])) ?_ N _ _ hf H locs ls hW (lv_sub hl [1, 0] rfl)
    intro ag8 ih9 x6 σ7 hf H locs ls hW hl
    refine lv_iload_n hx hb dX8_goEvening_23 rfl (lv_at hl 1 rfl) ?_
    refine lv_bipush (v := (8 : Int32)) hx hb dX8_goEvening_24 (by decide) ?_
    refine lv_icmp_ge (tgt := 43) hx hb dX8_goEvening_26 (by decide) (fun c10 => ?_) (fun c10 => ?_)
    · rw [if_pos c10] at hf
      refine lv_iconst (v := (0 : Int32)) hx hb dX8_goEvening_43 (by decide) ?_
      refine lv_istore_n (lv' := [(1, .int (0 : Int32)), (0, .ref (G.2.1 0))]) hx hb dX8_goEvening_44 rfl hl (by decide) rfl (fun ls hl => ?_)
      refine lv_iconst (v := (0 : Int32)) hx hb dX8_goEvening_45 (by decide) ?_
      refine lv_istore_n (lv' := [(2, .int (0 : Int32)), (1, .int (0 : Int32)), (0, .ref (G.2.1 0))]) hx hb dX8_goEvening_46 rfl hl (by decide) rfl (fun ls hl => ?_)
      refine nb_w3 (P := fun (x11 : Int32) (x12 : Int32) (σ13 : nb_St) => ∀ (H : Heap) (locs : List Loc) (ls : Array Slot), nb_W G xm_sh s.heap σ13 H locs → lv_has ls 6 [(0, .ref (G.2.1 0)), (1, .int x11), (2, .int x12)] → W p l e rmX8_goEvening s m args below meth c H locs 0 0 (MQ below (nb_Qv G xm_sh Z σo) args s 0 0 (nb_A xm_sh G.2.1)) (F0 m 47 ls [])) ?_ N _ _ _ hf H locs ls hW (lv_sub hl [2, 1, 0] rfl)
      intro ag14 ih15 x11 x12 σ13 hf H locs ls hW hl
      refine lv_iload_n hx hb dX8_goEvening_47 rfl (lv_at hl 2 rfl) ?_
      refine lv_sipush (v := (719 : Int32)) hx hb dX8_goEvening_48 (by decide) ?_
      refine lv_aload_n hx hb dX8_goEvening_51 rfl (lv_at hl 0 rfl) ?_
      refine nb_get (C := RX8) (T := TX8) (N := 40) hx hb hts inT_X8 hown hK hW 0 rfl rfl 11 (by decide) (hts _ tw4_134) (fun _ h9 => h9) rfl (v := .ref (G.2.1 11)) rfl dX8_goEvening_52 ?_
      refine lv_iconst (v := (0 : Int32)) hx hb dX8_goEvening_55 (by decide) ?_
      obtain ⟨g16, hf⟩ := nb_g_e hf
      refine nb_iald hx hb hK hW 11 rfl g16 dX8_goEvening_56 ?_
      refine lv_iadd hx hb dX8_goEvening_57 ?_
      refine lv_icmp_gt (tgt := 267) hx hb dX8_goEvening_58 (by decide) (fun c17 => ?_) (fun c17 => ?_)
      · rw [if_pos c17] at hf
        exact nb_rv hx hb hr hlocks hK hZ hZo hW hf dX8_goEvening_267
      · rw [if_neg c17] at hf
        refine lv_iconst (v := (0 : Int32)) hx hb dX8_goEvening_61 (by decide) ?_
        refine lv_istore_n (lv' := [(3, .int (0 : Int32)), (0, .ref (G.2.1 0)), (1, .int x11), (2, .int x12)]) hx hb dX8_goEvening_62 rfl hl (by decide) rfl (fun ls hl => ?_)
        refine lv_iconst (v := (0 : Int32)) hx hb dX8_goEvening_63 (by decide) ?_
        refine lv_istore (lv' := [(4, .int (0 : Int32)), (3, .int (0 : Int32)), (0, .ref (G.2.1 0)), (1, .int x11), (2, .int x12)]) hx hb dX8_goEvening_64 hl (by decide) rfl (fun ls hl => ?_)
        refine nb_w2 (P := fun (x18 : Int32) (x19 : Int32) => ∀ (H : Heap) (locs : List Loc) (ls : Array Slot), nb_W G xm_sh s.heap σ13 H locs → lv_has ls 6 [(0, .ref (G.2.1 0)), (1, .int x11), (2, .int x12), (3, .int x18), (4, .int x19)] → W p l e rmX8_goEvening s m args below meth c H locs 0 0 (MQ below (nb_Qv G xm_sh Z σo) args s 0 0 (nb_A xm_sh G.2.1)) (F0 m 66 ls [])) ?_ N _ _ hf H locs ls hW (lv_sub hl [2, 3, 4, 1, 0] rfl)
        intro ag20 ih21 x18 x19 hf H locs ls hW hl
        refine lv_iload hx hb dX8_goEvening_66 (lv_at hl 4 rfl) ?_
        refine lv_iconst (v := (4 : Int32)) hx hb dX8_goEvening_68 (by decide) ?_
        obtain ⟨k22, ek22, hf⟩ := nb_let_e hf
        have w23 : ∀ (_u : Unit) (H : Heap) (locs : List Loc) (ls : Array Slot), k22 _u = some σo → nb_W G xm_sh s.heap σ13 H locs → lv_has ls 6 [(0, .ref (G.2.1 0)), (1, .int x11), (2, .int x12), (3, .int x18)] → W p l e rmX8_goEvening s m args below meth c H locs 0 0 (MQ below (nb_Qv G xm_sh Z σo) args s 0 0 (nb_A xm_sh G.2.1)) (F0 m 118 ls []) := by
          intro _u H locs ls hf hW hl
          have hf := (congrFun ek22 _u).symm.trans hf
          refine lv_iconst (v := (0 : Int32)) hx hb dX8_goEvening_118 (by decide) ?_
          refine lv_istore (lv' := [(4, .int (0 : Int32)), (0, .ref (G.2.1 0)), (1, .int x11), (2, .int x12), (3, .int x18)]) hx hb dX8_goEvening_119 hl (by decide) rfl (fun ls hl => ?_)
          refine nb_w2 (P := fun (x24 : Int32) (σ25 : nb_St) => ∀ (H : Heap) (locs : List Loc) (ls : Array Slot), nb_W G xm_sh s.heap σ25 H locs → lv_has ls 6 [(0, .ref (G.2.1 0)), (1, .int x11), (2, .int x12), (3, .int x18), (4, .int x24)] → W p l e rmX8_goEvening s m args below meth c H locs 0 0 (MQ below (nb_Qv G xm_sh Z σo) args s 0 0 (nb_A xm_sh G.2.1)) (F0 m 121 ls [])) ?_ N _ _ hf H locs ls hW (lv_sub hl [1, 2, 3, 4, 0] rfl)
          intro ag26 ih27 x24 σ25 hf H locs ls hW hl
          refine lv_iload hx hb dX8_goEvening_121 (lv_at hl 4 rfl) ?_
          refine lv_iconst (v := (4 : Int32)) hx hb dX8_goEvening_123 (by decide) ?_
          refine lv_icmp_ge (tgt := 160) hx hb dX8_goEvening_124 (by decide) (fun c28 => ?_) (fun c28 => ?_)
          · rw [if_pos c28] at hf
            refine lv_iload_n hx hb dX8_goEvening_160 rfl (lv_at hl 3 rfl) ?_
            obtain ⟨k29, ek29, hf⟩ := nb_let_e hf
            have w30 : ∀ (v31 : Int32) (H : Heap) (locs : List Loc) (ls : Array Slot), k29 v31 = some σo → nb_W G xm_sh s.heap σ25 H locs → lv_has ls 6 [(0, .ref (G.2.1 0)), (2, .int x12)] → W p l e rmX8_goEvening s m args below meth c H locs 0 0 (MQ below (nb_Qv G xm_sh Z σo) args s 0 0 (nb_A xm_sh G.2.1)) (F0 m 169 ls [.int v31]) := by
              intro v31 H locs ls hf hW hl
              have hf := (congrFun ek29 v31).symm.trans hf
              refine lv_istore_n (lv' := [(1, .int v31), (0, .ref (G.2.1 0)), (2, .int x12)]) hx hb dX8_goEvening_169 rfl hl (by decide) rfl (fun ls hl => ?_)
              refine lv_iconst (v := (0 : Int32)) hx hb dX8_goEvening_170 (by decide) ?_
              refine lv_istore (lv' := [(4, .int (0 : Int32)), (1, .int v31), (0, .ref (G.2.1 0)), (2, .int x12)]) hx hb dX8_goEvening_171 hl (by decide) rfl (fun ls hl => ?_)
              refine nb_w2 (P := fun (x32 : Int32) (σ33 : nb_St) => ∀ (H : Heap) (locs : List Loc) (ls : Array Slot), nb_W G xm_sh s.heap σ33 H locs → lv_has ls 6 [(0, .ref (G.2.1 0)), (1, .int v31), (2, .int x12), (4, .int x32)] → W p l e rmX8_goEvening s m args below meth c H locs 0 0 (MQ below (nb_Qv G xm_sh Z σo) args s 0 0 (nb_A xm_sh G.2.1)) (F0 m 173 ls [])) ?_ N _ _ hf H locs ls hW (lv_sub hl [2, 1, 3, 0] rfl)
              intro ag34 ih35 x32 σ33 hf H locs ls hW hl
              refine lv_iload hx hb dX8_goEvening_173 (lv_at hl 3 rfl) ?_
              refine lv_aload_n hx hb dX8_goEvening_175 rfl (lv_at hl 0 rfl) ?_
              refine nb_get (C := RX8) (T := TX8) (N := 40) hx hb hts inT_X8 hown hK hW 0 rfl rfl 2 (by decide) (hts _ tw4_125) (fun _ h9 => h9) rfl (v := .ref (G.2.1 2)) rfl dX8_goEvening_176 ?_
              refine lv_iconst (v := (0 : Int32)) hx hb dX8_goEvening_179 (by decide) ?_
              obtain ⟨g36, hf⟩ := nb_g_e hf
              refine nb_iald hx hb hK hW 2 rfl g36 dX8_goEvening_180 ?_
              refine lv_icmp_ge (tgt := 261) hx hb dX8_goEvening_181 (by decide) (fun c37 => ?_) (fun c37 => ?_)
              · rw [if_pos c37] at hf
                refine lv_iinc (v := (x12 + 1)) (lv' := [(2, .int (x12 + 1)), (0, .ref (G.2.1 0)), (1, .int v31), (4, .int x32)]) hx hb dX8_goEvening_261 hl (k := 2) rfl rfl (by decide) rfl (fun ls hl => ?_)
                refine lv_goto (tgt := 47) hx hb dX8_goEvening_264 (by decide) ?_
                exact ih15 _ _ _ hf _ _ _ hW (lv_sub hl [1, 2, 0] rfl)
              · rw [if_neg c37] at hf
                refine lv_aload_n hx hb dX8_goEvening_184 rfl (lv_at hl 0 rfl) ?_
                refine nb_get (C := RX8) (T := TX8) (N := 40) hx hb hts inT_X8 hown hK hW 0 rfl rfl 34 (by decide) (hts _ tw4_157) (fun _ h9 => h9) rfl (v := .ref (G.2.1 27)) rfl dX8_goEvening_185 ?_
                refine lv_aload_n hx hb dX8_goEvening_188 rfl (lv_at hl 0 rfl) ?_
                refine nb_get (C := RX8) (T := TX8) (N := 40) hx hb hts inT_X8 hown hK hW 0 rfl rfl 3 (by decide) (hts _ tw4_126) (fun _ h9 => h9) rfl (v := .ref (G.2.1 3)) rfl dX8_goEvening_189 ?_
                refine lv_iload hx hb dX8_goEvening_192 (lv_at hl 3 rfl) ?_
                obtain ⟨g38, hf⟩ := nb_g_e hf
                refine nb_iald hx hb hK hW 3 rfl g38 dX8_goEvening_194 ?_
                obtain ⟨g39, hf⟩ := nb_g_e hf
                refine nb_iald hx hb hK hW 27 rfl g39 dX8_goEvening_195 ?_
                refine lv_ldc (own := RX8) (v := (1000000 : Int32)) hx hb hown (hts _ tw5_89) dX8_goEvening_196 ?_
                obtain ⟨k40, ek40, hf⟩ := nb_let_e hf
                have w41 : ∀ (v42 : Int32) (H : Heap) (locs : List Loc) (ls : Array Slot), k40 v42 = some σo → nb_W G xm_sh s.heap σ33 H locs → lv_has ls 6 [(0, .ref (G.2.1 0)), (1, .int v31), (2, .int x12), (4, .int x32)] → W p l e rmX8_goEvening s m args below meth c H locs 0 0 (MQ below (nb_Qv G xm_sh Z σo) args s 0 0 (nb_A xm_sh G.2.1)) (F0 m 218 ls [.int v42]) := by
                  intro v42 H locs ls hf hW hl
                  have hf := (congrFun ek40 v42).symm.trans hf
                  refine lv_istore (lv' := [(5, .int v42), (0, .ref (G.2.1 0)), (1, .int v31), (2, .int x12), (4, .int x32)]) hx hb dX8_goEvening_218 hl (by decide) rfl (fun ls hl => ?_)
                  refine lv_aload_n hx hb dX8_goEvening_220 rfl (lv_at hl 1 rfl) ?_
                  refine nb_get (C := RX8) (T := TX8) (N := 40) hx hb hts inT_X8 hown hK hW 0 rfl rfl 35 (by decide) (hts _ tw4_158) (fun _ h9 => h9) rfl (v := .ref (G.2.1 28)) rfl dX8_goEvening_221 ?_
                  refine lv_iload hx hb dX8_goEvening_224 (lv_at hl 4 rfl) ?_
                  refine lv_iload hx hb dX8_goEvening_226 (lv_at hl 0 rfl) ?_
                  obtain ⟨k43, ek43, hf⟩ := nb_let_e hf
                  have w44 : ∀ (v45 : Int32) (H : Heap) (locs : List Loc) (ls : Array Slot), k43 v45 = some σo → nb_W G xm_sh s.heap σ33 H locs → lv_has ls 6 [(0, .ref (G.2.1 0)), (1, .int v31), (2, .int x12), (4, .int x32)] → W p l e rmX8_goEvening s m args below meth c H locs 0 0 (MQ below (nb_Qv G xm_sh Z σo) args s 0 0 (nb_A xm_sh G.2.1)) (F0 m 254 ls [.int v45, .int x32, .ref (G.2.1 28)]) := by
                    intro v45 H locs ls hf hW hl
                    have hf := (congrFun ek43 v45).symm.trans hf
                    obtain ⟨g46, hf⟩ := nb_g_e hf
                    obtain ⟨σ47, eσ47, hf⟩ := nb_let_e hf
                    refine nb_iast hx hb hK hinj hW 28 rfl g46 eσ47 dX8_goEvening_254 (fun H locs hW => ?_)
                    refine lv_iinc (v := (x32 + 1)) (lv' := [(4, .int (x32 + 1)), (0, .ref (G.2.1 0)), (1, .int v31), (2, .int x12)]) hx hb dX8_goEvening_255 hl (k := 3) rfl rfl (by decide) rfl (fun ls hl => ?_)
                    refine lv_goto (tgt := 173) hx hb dX8_goEvening_258 (by decide) ?_
                    exact ih35 _ _ hf _ _ _ hW (lv_sub hl [1, 2, 3, 0] rfl)
                  clear ek43
                  obtain ⟨k48, ek48, hf⟩ := nb_let_e hf
                  have w49 : ∀ (_u : Unit) (H : Heap) (locs : List Loc) (ls : Array Slot), k48 _u = some σo → nb_W G xm_sh s.heap σ33 H locs → lv_has ls 6 [(0, .ref (G.2.1 0)), (1, .int v31), (2, .int x12), (4, .int x32)] → W p l e rmX8_goEvening s m args below meth c H locs 0 0 (MQ below (nb_Qv G xm_sh Z σo) args s 0 0 (nb_A xm_sh G.2.1)) (F0 m 247 ls [.int x32, .ref (G.2.1 28)]) := by
                    intro _u H locs ls hf hW hl
                    have hf := (congrFun ek48 _u).symm.trans hf
                    refine lv_aload_n hx hb dX8_goEvening_247 rfl (lv_at hl 0 rfl) ?_
                    refine nb_get (C := RX8) (T := TX8) (N := 40) hx hb hts inT_X8 hown hK hW 0 rfl rfl 35 (by decide) (hts _ tw4_158) (fun _ h9 => h9) rfl (v := .ref (G.2.1 28)) rfl dX8_goEvening_248 ?_
                    refine lv_iload hx hb dX8_goEvening_251 (lv_at hl 3 rfl) ?_
                    obtain ⟨g50, hf⟩ := nb_g_e hf
                    refine nb_iald hx hb hK hW 28 rfl g50 dX8_goEvening_253 ?_
                    exact w44 _ _ _ _ hf hW (lv_sub hl [0, 1, 2, 3] rfl)
                  clear ek48
                  refine lv_if_eq (tgt := 247) hx hb dX8_goEvening_228 (by decide) (fun c51 => ?_) (fun c51 => ?_)
                  · rw [if_pos c51] at hf
                    exact w49 ()  _ _ _ hf hW (lv_sub hl [1, 2, 3, 4] rfl)
                  · rw [if_neg c51] at hf
                    refine lv_iload_n hx hb dX8_goEvening_231 rfl (lv_at hl 3 rfl) ?_
                    refine lv_iload_n hx hb dX8_goEvening_232 rfl (lv_at hl 2 rfl) ?_
                    refine lv_isub hx hb dX8_goEvening_233 ?_
                    refine lv_aload_n hx hb dX8_goEvening_234 rfl (lv_at hl 1 rfl) ?_
                    refine nb_get (C := RX8) (T := TX8) (N := 40) hx hb hts inT_X8 hown hK hW 0 rfl rfl 11 (by decide) (hts _ tw4_134) (fun _ h9 => h9) rfl (v := .ref (G.2.1 11)) rfl dX8_goEvening_235 ?_
                    refine lv_iconst (v := (0 : Int32)) hx hb dX8_goEvening_238 (by decide) ?_
                    obtain ⟨g52, hf⟩ := nb_g_e hf
                    refine nb_iald hx hb hK hW 11 rfl g52 dX8_goEvening_239 ?_
                    refine lv_icmp_lt (tgt := 247) hx hb dX8_goEvening_240 (by decide) (fun c53 => ?_) (fun c53 => ?_)
                    · rw [if_pos c53] at hf
                      exact w49 ()  _ _ _ hf hW (lv_sub hl [1, 2, 3, 4] rfl)
                    · rw [if_neg c53] at hf
                      refine lv_iload_n hx hb dX8_goEvening_243 rfl (lv_at hl 3 rfl) ?_
                      refine lv_goto (tgt := 254) hx hb dX8_goEvening_244 (by decide) ?_
                      exact w44 _ _ _ _ hf hW (lv_sub hl [1, 2, 3, 4] rfl)
                clear ek40
                obtain ⟨k54, ek54, hf⟩ := nb_let_e hf
                have w55 : ∀ (_u : Unit) (H : Heap) (locs : List Loc) (ls : Array Slot), k54 _u = some σo → nb_W G xm_sh s.heap σ33 H locs → lv_has ls 6 [(0, .ref (G.2.1 0)), (1, .int v31), (2, .int x12), (4, .int x32)] → W p l e rmX8_goEvening s m args below meth c H locs 0 0 (MQ below (nb_Qv G xm_sh Z σo) args s 0 0 (nb_A xm_sh G.2.1)) (F0 m 217 ls []) := by
                  intro _u H locs ls hf hW hl
                  have hf := (congrFun ek54 _u).symm.trans hf
                  refine lv_iconst (v := (0 : Int32)) hx hb dX8_goEvening_217 (by decide) ?_
                  exact w41 _ _ _ _ hf hW (lv_sub hl [0, 1, 2, 3] rfl)
                clear ek54
                refine lv_icmp_eq (tgt := 217) hx hb dX8_goEvening_198 (by decide) (fun c56 => ?_) (fun c56 => ?_)
                · rw [if_pos c56] at hf
                  exact w55 ()  _ _ _ hf hW (lv_sub hl [0, 1, 2, 3] rfl)
                · rw [if_neg c56] at hf
                  refine lv_aload_n hx hb dX8_goEvening_201 rfl (lv_at hl 0 rfl) ?_
                  refine nb_get (C := RX8) (T := TX8) (N := 40) hx hb hts inT_X8 hown hK hW 0 rfl rfl 35 (by decide) (hts _ tw4_158) (fun _ h9 => h9) rfl (v := .ref (G.2.1 28)) rfl dX8_goEvening_202 ?_
                  refine lv_iload hx hb dX8_goEvening_205 (lv_at hl 3 rfl) ?_
                  obtain ⟨g57, hf⟩ := nb_g_e hf
                  refine nb_iald hx hb hK hW 28 rfl g57 dX8_goEvening_207 ?_
                  refine lv_ldc (own := RX8) (v := (1000000 : Int32)) hx hb hown (hts _ tw5_89) dX8_goEvening_208 ?_
                  refine lv_icmp_ne (tgt := 217) hx hb dX8_goEvening_210 (by decide) (fun c58 => ?_) (fun c58 => ?_)
                  · rw [if_neg c58] at hf
                    exact w55 ()  _ _ _ hf hW (lv_sub hl [0, 1, 2, 3] rfl)
                  · rw [if_pos c58] at hf
                    refine lv_iconst (v := (1 : Int32)) hx hb dX8_goEvening_213 (by decide) ?_
                    refine lv_goto (tgt := 218) hx hb dX8_goEvening_214 (by decide) ?_
                    exact w41 _ _ _ _ hf hW (lv_sub hl [0, 1, 2, 3] rfl)
            clear ek29
            refine lv_if_eq (tgt := 168) hx hb dX8_goEvening_161 (by decide) (fun c59 => ?_) (fun c59 => ?_)
            · rw [if_pos c59] at hf
              refine lv_iload_n hx hb dX8_goEvening_168 rfl (lv_at hl 1 rfl) ?_
              exact w30 _ _ _ _ hf hW (lv_sub hl [0, 2] rfl)
            · rw [if_neg c59] at hf
              refine lv_iload_n hx hb dX8_goEvening_164 rfl (lv_at hl 2 rfl) ?_
              refine lv_goto (tgt := 169) hx hb dX8_goEvening_165 (by decide) ?_
              exact w30 _ _ _ _ hf hW (lv_sub hl [0, 2] rfl)
          · rw [if_neg c28] at hf
            refine lv_aload_n hx hb dX8_goEvening_127 rfl (lv_at hl 0 rfl) ?_
            refine nb_get (C := RX8) (T := TX8) (N := 40) hx hb hts inT_X8 hown hK hW 0 rfl rfl 34 (by decide) (hts _ tw4_157) (fun _ h9 => h9) rfl (v := .ref (G.2.1 27)) rfl dX8_goEvening_128 ?_
            refine lv_iload hx hb dX8_goEvening_131 (lv_at hl 4 rfl) ?_
            refine lv_iload_n hx hb dX8_goEvening_133 rfl (lv_at hl 3 rfl) ?_
            refine lv_iload hx hb dX8_goEvening_134 (lv_at hl 4 rfl) ?_
            obtain ⟨r61, hc60, hf⟩ := nb_b_e hf
            refine nb_ci hW (va_runS (As := [.int x18, .int x24]) (rest := [.int x24, .ref (G.2.1 27)]) ⟨hx, hb, hml, hown, hts⟩ (c_X8_has l hinj hZo (N := N) hc60 ) (va_cwS 2 hts (xg_S tw5_120 tw5_121 tw1_10 tw5_122) rfl rfl rfl (by decide +kernel) ⟨Nat.le_of_ble_eq_true rfl, Nat.le_of_ble_eq_true rfl⟩) (nb_preS hK hZ hZo hW) rfl rfl hl.1 rfl (lv_room (Nat.le_of_ble_eq_true rfl)) dX8_goEvening_136 ⟨Nat.zero_le _, Nat.zero_le _⟩) (fun H locs hW => ?_)
            obtain ⟨k62, ek62, hf⟩ := nb_let_e hf
            have w63 : ∀ (v64 : Int32) (H : Heap) (locs : List Loc) (ls : Array Slot), k62 v64 = some σo → nb_W G xm_sh s.heap σ25 H locs → lv_has ls 6 [(0, .ref (G.2.1 0)), (1, .int x11), (2, .int x12), (3, .int x18), (4, .int x24)] → W p l e rmX8_goEvening s m args below meth c H locs 0 0 (MQ below (nb_Qv G xm_sh Z σo) args s 0 0 (nb_A xm_sh G.2.1)) (F0 m 153 ls [.int v64, .int x24, .ref (G.2.1 27)]) := by
              intro v64 H locs ls hf hW hl
              have hf := (congrFun ek62 v64).symm.trans hf
              obtain ⟨g65, hf⟩ := nb_g_e hf
              obtain ⟨σ66, eσ66, hf⟩ := nb_let_e hf
              refine nb_iast hx hb hK hinj hW 27 rfl g65 eσ66 dX8_goEvening_153 (fun H locs hW => ?_)
              refine lv_iinc (v := (x24 + 1)) (lv' := [(4, .int (x24 + 1)), (0, .ref (G.2.1 0)), (1, .int x11), (2, .int x12), (3, .int x18)]) hx hb dX8_goEvening_154 hl (k := 4) rfl rfl (by decide) rfl (fun ls hl => ?_)
              refine lv_goto (tgt := 121) hx hb dX8_goEvening_157 (by decide) ?_
              exact ih27 _ _ hf _ _ _ hW (lv_sub hl [1, 2, 3, 4, 0] rfl)
            clear ek62
            refine lv_if_eq (tgt := 146) hx hb dX8_goEvening_139 (by decide) (fun c67 => ?_) (fun c67 => ?_)
            · rw [if_pos c67] at hf
              refine lv_aload_n hx hb dX8_goEvening_146 rfl (lv_at hl 0 rfl) ?_
              refine nb_get (C := RX8) (T := TX8) (N := 40) hx hb hts inT_X8 hown hK hW 0 rfl rfl 34 (by decide) (hts _ tw4_157) (fun _ h9 => h9) rfl (v := .ref (G.2.1 27)) rfl dX8_goEvening_147 ?_
              refine lv_iload hx hb dX8_goEvening_150 (lv_at hl 4 rfl) ?_
              obtain ⟨g68, hf⟩ := nb_g_e hf
              refine nb_iald hx hb hK hW 27 rfl g68 dX8_goEvening_152 ?_
              exact w63 _ _ _ _ hf hW (lv_sub hl [0, 1, 2, 3, 4] rfl)
            · rw [if_neg c67] at hf
              refine lv_iload_n hx hb dX8_goEvening_142 rfl (lv_at hl 2 rfl) ?_
              refine lv_goto (tgt := 153) hx hb dX8_goEvening_143 (by decide) ?_
              exact w63 _ _ _ _ hf hW (lv_sub hl [0, 1, 2, 3, 4] rfl)
        clear ek22
        refine lv_icmp_ge (tgt := 118) hx hb dX8_goEvening_69 (by decide) (fun c69 => ?_) (fun c69 => ?_)
        · rw [if_pos c69] at hf
          exact w23 ()  _ _ _ hf hW (lv_sub hl [0, 1, 2, 3] rfl)
        · rw [if_neg c69] at hf
          refine lv_iload_n hx hb dX8_goEvening_72 rfl (lv_at hl 2 rfl) ?_
          refine lv_sipush (v := (719 : Int32)) hx hb dX8_goEvening_73 (by decide) ?_
          refine lv_icmp_gt (tgt := 118) hx hb dX8_goEvening_76 (by decide) (fun c70 => ?_) (fun c70 => ?_)
          · rw [if_pos c70] at hf
            exact w23 ()  _ _ _ hf hW (lv_sub hl [0, 1, 2, 3] rfl)
          · rw [if_neg c70] at hf
            refine lv_iload_n hx hb dX8_goEvening_79 rfl (lv_at hl 3 rfl) ?_
            refine lv_aload_n hx hb dX8_goEvening_80 rfl (lv_at hl 0 rfl) ?_
            refine nb_get (C := RX8) (T := TX8) (N := 40) hx hb hts inT_X8 hown hK hW 0 rfl rfl 34 (by decide) (hts _ tw4_157) (fun _ h9 => h9) rfl (v := .ref (G.2.1 27)) rfl dX8_goEvening_81 ?_
            refine lv_iload hx hb dX8_goEvening_84 (lv_at hl 4 rfl) ?_
            obtain ⟨g71, hf⟩ := nb_g_e hf
            refine nb_iald hx hb hK hW 27 rfl g71 dX8_goEvening_86 ?_
            refine lv_ldc (own := RX8) (v := (1000000 : Int32)) hx hb hown (hts _ tw5_89) dX8_goEvening_87 ?_
            obtain ⟨k72, ek72, hf⟩ := nb_let_e hf
            have w73 : ∀ (v74 : Int32) (H : Heap) (locs : List Loc) (ls : Array Slot), k72 v74 = some σo → nb_W G xm_sh s.heap σ13 H locs → lv_has ls 6 [(0, .ref (G.2.1 0)), (1, .int x11), (2, .int x12), (4, .int x19)] → W p l e rmX8_goEvening s m args below meth c H locs 0 0 (MQ below (nb_Qv G xm_sh Z σo) args s 0 0 (nb_A xm_sh G.2.1)) (F0 m 110 ls [.int v74, .int x18]) := by
              intro v74 H locs ls hf hW hl
              have hf := (congrFun ek72 v74).symm.trans hf
              refine lv_ior hx hb dX8_goEvening_110 ?_
              obtain ⟨x75, ex75, hf⟩ := nb_let_e hf
              refine nb_nami ex75 ?_
              refine lv_istore_n (lv' := [(3, .int x75), (0, .ref (G.2.1 0)), (1, .int x11), (2, .int x12), (4, .int x19)]) hx hb dX8_goEvening_111 rfl hl (by decide) rfl (fun ls hl => ?_)
              refine lv_iinc (v := (x19 + 1)) (lv' := [(4, .int (x19 + 1)), (3, .int x75), (0, .ref (G.2.1 0)), (1, .int x11), (2, .int x12)]) hx hb dX8_goEvening_112 hl (k := 4) rfl rfl (by decide) rfl (fun ls hl => ?_)
              refine lv_goto (tgt := 66) hx hb dX8_goEvening_115 (by decide) ?_
              exact ih21 _ _ hf _ _ _ hW (lv_sub hl [2, 3, 4, 1, 0] rfl)
            clear ek72
            obtain ⟨k76, ek76, hf⟩ := nb_let_e hf
            have w77 : ∀ (_u : Unit) (H : Heap) (locs : List Loc) (ls : Array Slot), k76 _u = some σo → nb_W G xm_sh s.heap σ13 H locs → lv_has ls 6 [(0, .ref (G.2.1 0)), (1, .int x11), (2, .int x12), (4, .int x19)] → W p l e rmX8_goEvening s m args below meth c H locs 0 0 (MQ below (nb_Qv G xm_sh Z σo) args s 0 0 (nb_A xm_sh G.2.1)) (F0 m 109 ls [.int x18]) := by
              intro _u H locs ls hf hW hl
              have hf := (congrFun ek76 _u).symm.trans hf
              refine lv_iconst (v := (0 : Int32)) hx hb dX8_goEvening_109 (by decide) ?_
              exact w73 _ _ _ _ hf hW (lv_sub hl [0, 1, 2, 3] rfl)
            clear ek76
            refine lv_icmp_ne (tgt := 109) hx hb dX8_goEvening_89 (by decide) (fun c78 => ?_) (fun c78 => ?_)
            · rw [if_neg c78] at hf
              exact w77 ()  _ _ _ hf hW (lv_sub hl [0, 1, 2, 4] rfl)
            · rw [if_pos c78] at hf
              refine lv_aload_n hx hb dX8_goEvening_92 rfl (lv_at hl 0 rfl) ?_
              refine lv_iload hx hb dX8_goEvening_93 (lv_at hl 4 rfl) ?_
              refine lv_iload_n hx hb dX8_goEvening_95 rfl (lv_at hl 2 rfl) ?_
              obtain ⟨r80, hc79, hf⟩ := nb_b_e hf
              refine nb_ci hW (va_runV (As := [.int x19, .int x12]) (rest := [.int x18]) ⟨hx, hb, hml, hown, hts⟩ (c_X8_standsAt l hinj hZo (N := N) hc79 ) (cwV 2 hts (xg_V tw5_90 tw5_92 tp3_0 tw1_10 tw5_93) rfl rfl rfl (by decide +kernel) ⟨Nat.le_of_ble_eq_true rfl, Nat.le_of_ble_eq_true rfl⟩) (nb_preV hK hZ hZo hW (k := 0) rfl rfl) rfl rfl hl.1 rfl (lv_room (Nat.le_of_ble_eq_true rfl)) dX8_goEvening_96 ⟨Nat.zero_le _, Nat.zero_le _⟩) (fun H locs hW => ?_)
              refine lv_if_eq (tgt := 109) hx hb dX8_goEvening_99 (by decide) (fun c81 => ?_) (fun c81 => ?_)
              · rw [if_pos c81] at hf
                exact w77 ()  _ _ _ hf hW (lv_sub hl [0, 1, 2, 4] rfl)
              · rw [if_neg c81] at hf
                refine lv_iconst (v := (1 : Int32)) hx hb dX8_goEvening_102 (by decide) ?_
                refine lv_iload hx hb dX8_goEvening_103 (lv_at hl 4 rfl) ?_
                refine lv_ishl hx hb dX8_goEvening_105 ?_
                refine lv_goto (tgt := 110) hx hb dX8_goEvening_106 (by decide) ?_
                exact w73 _ _ _ _ hf hW (lv_sub hl [0, 1, 2, 4] rfl)
    · rw [if_neg c10] at hf
      refine lv_aload_n hx hb dX8_goEvening_29 rfl (lv_at hl 0 rfl) ?_
      refine nb_get (C := RX8) (T := TX8) (N := 40) hx hb hts inT_X8 hown hK hW 0 rfl rfl 35 (by decide) (hts _ tw4_158) (fun _ h9 => h9) rfl (v := .ref (G.2.1 28)) rfl dX8_goEvening_30 ?_
      refine lv_iload_n hx hb dX8_goEvening_33 rfl (lv_at hl 1 rfl) ?_
      refine lv_ldc (own := RX8) (v := (1000000 : Int32)) hx hb hown (hts _ tw5_89) dX8_goEvening_34 ?_
      obtain ⟨g82, hf⟩ := nb_g_e hf
      obtain ⟨σ83, eσ83, hf⟩ := nb_let_e hf
      refine nb_iast hx hb hK hinj hW 28 rfl g82 eσ83 dX8_goEvening_36 (fun H locs hW => ?_)
      refine lv_iinc (v := (x6 + 1)) (lv' := [(1, .int (x6 + 1)), (0, .ref (G.2.1 0))]) hx hb dX8_goEvening_37 hl (k := 1) rfl rfl (by decide) rfl (fun ls hl => ?_)
      refine lv_goto (tgt := 23) hx hb dX8_goEvening_40 (by decide) ?_
      exact ih9 _ _ hf _ _ _ hW (lv_sub hl [1, 0] rfl)
  · rw [if_neg c5] at hf
    refine lv_aload_n hx hb dX8_goEvening_7 rfl (lv_at hl 0 rfl) ?_
    refine nb_get (C := RX8) (T := TX8) (N := 40) hx hb hts inT_X8 hown hK hW 0 rfl rfl 34 (by decide) (hts _ tw4_157) (fun _ h9 => h9) rfl (v := .ref (G.2.1 27)) rfl dX8_goEvening_8 ?_
    refine lv_iload_n hx hb dX8_goEvening_11 rfl (lv_at hl 1 rfl) ?_
    refine lv_ldc (own := RX8) (v := (1000000 : Int32)) hx hb hown (hts _ tw5_89) dX8_goEvening_12 ?_
    obtain ⟨g84, hf⟩ := nb_g_e hf
    obtain ⟨σ85, eσ85, hf⟩ := nb_let_e hf
    refine nb_iast hx hb hK hinj hW 27 rfl g84 eσ85 dX8_goEvening_14 (fun H locs hW => ?_)
    refine lv_iinc (v := (x1 + 1)) (lv' := [(1, .int (x1 + 1)), (0, .ref (G.2.1 0))]) hx hb dX8_goEvening_15 hl (k := 1) rfl rfl (by decide) rfl (fun ls hl => ?_)
    refine lv_goto (tgt := 2) hx hb dX8_goEvening_18 (by decide) ?_
    exact ih4 _ _ hf _ _ _ hW (lv_sub hl [1, 0] rfl)
def fX8_lastOf (N : Nat) (σ : nb_St)  : Option Int32 :=
  nb_lp2 (R := Int32) (fun ag3 (x1 : Int32) (x2 : Int32) =>
  nb_g (nb_in (0 : Int32) 2) (
  (if (σ 2 (nb_ix (0 : Int32))) ≤ x2 then
  some x1
  else
  nb_g (nb_in x2 8) (
  nb_let (fun (v10 : Int32) =>
  ag3 v10 (x2 + 1)) fun k8 =>
  (if (σ 28 (nb_ix x2)) ≤ x1 then
  k8 x1
  else
  nb_g (nb_in x2 8) (
  k8 (σ 28 (nb_ix x2)))))))) N (0 : Int32) (0 : Int32)
def rmX8_lastOf : Room := { frames := 0, cells := 0, slots := 0, locals := 0 }
def vsX8_lastOf : List Cond := .code yX8_lastOf cX8_lastOf 3 (some .int) :: xT
set_option maxHeartbeats 4000000 in
set_option maxRecDepth 100000 in
theorem c_X8_lastOf (l : Launch) {G : nb_G} {Z : State → Heap → Prop} (hinj : nb_inj xm_sh G.2.1) (hZo : nb_Zok (nb_A xm_sh G.2.1) Z) {N : Nat} {σ : nb_St}  {ro : Int32} (hf : fX8_lastOf N σ = some ro)  : Met l yX8_lastOf vsX8_lastOf rmX8_lastOf (nb_Pc G xm_sh Z σ [.ref (G.2.1 0)]) (nb_Qi G xm_sh Z ro σ) 0 0 (nb_A xm_sh G.2.1) := by
  refine Met.ofW (cc := cX8_lastOf) (maxL := 3) (ret := (some .int)) (by decide) rfl ?_
  intro p e s m args below meth c s₁ B hml hv
  obtain ⟨rfl, hP, hK, hZ⟩ := hv
  have hx := B.exec
  have hb := B.bytes
  have hr := B.returns
  have hts : ∀ w ∈ xT, w.before _ s = true := fun w h9 => atoms_spec (ws := vsX8_lastOf) B.pre w (List.mem_cons_of_mem _ h9)
  have hown : s.vm.findClass RX8 = some m.cls := findClass_of_methodNamed B.named
  have hlocks := B.notSynchronized
  have hW : nb_W G xm_sh s.heap σ s.heap [] := ⟨hP, va_S.rf⟩
  have hl := lv_entry ([.ref (G.2.1 0)]) (n := 3) (Nat.le_of_ble_eq_true rfl)
  rw [lg_entry_eq]
  generalize (lg_sl ([.ref (G.2.1 0)]) ++ List.replicate (3 - (lg_sl ([.ref (G.2.1 0)])).length) Slot.unset).toArray = ls at hl ⊢
  have hl : lv_has ls 3 [(0, .ref (G.2.1 0))] := hl
  show W p l e rmX8_lastOf s m ([.ref (G.2.1 0)]).toArray below meth c s.heap [] 0 0 (MQ below (nb_Qi G xm_sh Z ro σ) ([.ref (G.2.1 0)]).toArray s 0 0 (nb_A xm_sh G.2.1)) (F0 m 0 ls [])
  generalize hargs : ([.ref (G.2.1 0)] : List Value).toArray = args at hts ⊢
  unfold fX8_lastOf at hf
  obtain ⟨H, eH⟩ : ∃ H, H = s.heap := ⟨_, rfl⟩
  obtain ⟨locs, eL⟩ : ∃ L : List Loc, L = [] := ⟨_, rfl⟩
  have hW : nb_W G xm_sh s.heap σ H locs := by rw [eH, eL]; exact hW
  suffices hgo : W p l e rmX8_lastOf s m args below meth c H locs 0 0 (MQ below (nb_Qi G xm_sh Z ro σ) args s 0 0 (nb_A xm_sh G.2.1)) (F0 m 0 ls []) by rw [eH, eL] at hgo; exact hgo
  clear eH eL
  refine lv_iconst (v := (0 : Int32)) hx hb dX8_lastOf_0 (by decide) ?_
  refine lv_istore_n (lv' := [(1, .int (0 : Int32)), (0, .ref (G.2.1 0))]) hx hb dX8_lastOf_1 rfl hl (by decide) rfl (fun ls hl => ?_)
  refine lv_iconst (v := (0 : Int32)) hx hb dX8_lastOf_2 (by decide) ?_
  refine lv_istore_n (lv' := [(2, .int (0 : Int32)), (1, .int (0 : Int32)), (0, .ref (G.2.1 0))]) hx hb dX8_lastOf_3 rfl hl (by decide) rfl (fun ls hl => ?_)
  refine nb_w2 (P := fun (x1 : Int32) (x2 : Int32) => ∀ (H : Heap) (locs : List Loc) (ls : Array Slot), nb_W G xm_sh s.heap σ H locs → lv_has ls 3 [(0, .ref (G.2.1 0)), (1, .int x1), (2, .int x2)] → W p l e rmX8_lastOf s m args below meth c H locs 0 0 (MQ below (nb_Qi G xm_sh Z ro σ) args s 0 0 (nb_A xm_sh G.2.1)) (F0 m 4 ls [])) ?_ N _ _ hf H locs ls hW (lv_sub hl [2, 1, 0] rfl)
  intro ag3 ih4 x1 x2 hf H locs ls hW hl
  refine lv_iload_n hx hb dX8_lastOf_4 rfl (lv_at hl 2 rfl) ?_
  refine lv_aload_n hx hb dX8_lastOf_5 rfl (lv_at hl 0 rfl) ?_
  refine nb_get (C := RX8) (T := TX8) (N := 40) hx hb hts inT_X8 hown hK hW 0 rfl rfl 2 (by decide) (hts _ tw4_125) (fun _ h9 => h9) rfl (v := .ref (G.2.1 2)) rfl dX8_lastOf_6 ?_
  refine lv_iconst (v := (0 : Int32)) hx hb dX8_lastOf_9 (by decide) ?_
  obtain ⟨g5, hf⟩ := nb_g_e hf
  refine nb_iald hx hb hK hW 2 rfl g5 dX8_lastOf_10 ?_
  refine lv_icmp_ge (tgt := 41) hx hb dX8_lastOf_11 (by decide) (fun c6 => ?_) (fun c6 => ?_)
  · rw [if_pos c6] at hf
    refine lv_iload_n hx hb dX8_lastOf_41 rfl (lv_at hl 1 rfl) ?_
    exact nb_rip hx hb hr hlocks hK hZ hZo hW  hf dX8_lastOf_42
  · rw [if_neg c6] at hf
    refine lv_aload_n hx hb dX8_lastOf_14 rfl (lv_at hl 0 rfl) ?_
    refine nb_get (C := RX8) (T := TX8) (N := 40) hx hb hts inT_X8 hown hK hW 0 rfl rfl 35 (by decide) (hts _ tw4_158) (fun _ h9 => h9) rfl (v := .ref (G.2.1 28)) rfl dX8_lastOf_15 ?_
    refine lv_iload_n hx hb dX8_lastOf_18 rfl (lv_at hl 2 rfl) ?_
    obtain ⟨g7, hf⟩ := nb_g_e hf
    refine nb_iald hx hb hK hW 28 rfl g7 dX8_lastOf_19 ?_
    refine lv_iload_n hx hb dX8_lastOf_20 rfl (lv_at hl 1 rfl) ?_
    obtain ⟨k8, ek8, hf⟩ := nb_let_e hf
    have w9 : ∀ (v10 : Int32) (H : Heap) (locs : List Loc) (ls : Array Slot), k8 v10 = some ro → nb_W G xm_sh s.heap σ H locs → lv_has ls 3 [(0, .ref (G.2.1 0)), (2, .int x2)] → W p l e rmX8_lastOf s m args below meth c H locs 0 0 (MQ below (nb_Qi G xm_sh Z ro σ) args s 0 0 (nb_A xm_sh G.2.1)) (F0 m 34 ls [.int v10]) := by
      intro v10 H locs ls hf hW hl
      have hf := (congrFun ek8 v10).symm.trans hf
      refine lv_istore_n (lv' := [(1, .int v10), (0, .ref (G.2.1 0)), (2, .int x2)]) hx hb dX8_lastOf_34 rfl hl (by decide) rfl (fun ls hl => ?_)
      refine lv_iinc (v := (x2 + 1)) (lv' := [(2, .int (x2 + 1)), (1, .int v10), (0, .ref (G.2.1 0))]) hx hb dX8_lastOf_35 hl (k := 2) rfl rfl (by decide) rfl (fun ls hl => ?_)
      refine lv_goto (tgt := 4) hx hb dX8_lastOf_38 (by decide) ?_
      exact ih4 _ _ hf _ _ _ hW (lv_sub hl [2, 1, 0] rfl)
    clear ek8
    refine lv_icmp_le (tgt := 33) hx hb dX8_lastOf_21 (by decide) (fun c11 => ?_) (fun c11 => ?_)
    · rw [if_pos c11] at hf
      refine lv_iload_n hx hb dX8_lastOf_33 rfl (lv_at hl 1 rfl) ?_
      exact w9 _ _ _ _ hf hW (lv_sub hl [0, 2] rfl)
    · rw [if_neg c11] at hf
      refine lv_aload_n hx hb dX8_lastOf_24 rfl (lv_at hl 0 rfl) ?_
      refine nb_get (C := RX8) (T := TX8) (N := 40) hx hb hts inT_X8 hown hK hW 0 rfl rfl 35 (by decide) (hts _ tw4_158) (fun _ h9 => h9) rfl (v := .ref (G.2.1 28)) rfl dX8_lastOf_25 ?_
      refine lv_iload_n hx hb dX8_lastOf_28 rfl (lv_at hl 2 rfl) ?_
      obtain ⟨g12, hf⟩ := nb_g_e hf
      refine nb_iald hx hb hK hW 28 rfl g12 dX8_lastOf_29 ?_
      refine lv_goto (tgt := 34) hx hb dX8_lastOf_30 (by decide) ?_
      exact w9 _ _ _ _ hf hW (lv_sub hl [0, 2] rfl)
def fX8_away (N : Nat) (σ : nb_St) (a0 : Int32) (a1 : Int32) : Option Int32 :=
  (if a1 ≤ a0 then
  some (a0 - a1)
  else
  some (a1 - a0))
def rmX8_away : Room := { frames := 0, cells := 0, slots := 0, locals := 0 }
def vsX8_away : List Cond := .code yX8_away cX8_away 2 (some .int) :: xT
set_option maxHeartbeats 4000000 in
set_option maxRecDepth 100000 in
theorem c_X8_away (l : Launch) {G : nb_G} {Z : State → Heap → Prop} (hinj : nb_inj xm_sh G.2.1) (hZo : nb_Zok (nb_A xm_sh G.2.1) Z) {N : Nat} {σ : nb_St} {a0 : Int32} {a1 : Int32} {ro : Int32} (hf : fX8_away N σ a0 a1 = some ro)  : Met l yX8_away vsX8_away rmX8_away (nb_Pc G xm_sh Z σ [.int a0, .int a1]) (nb_Qi G xm_sh Z ro σ) 0 0 (nb_A xm_sh G.2.1) := by
  refine Met.ofW (cc := cX8_away) (maxL := 2) (ret := (some .int)) (by decide) rfl ?_
  intro p e s m args below meth c s₁ B hml hv
  obtain ⟨rfl, hP, hK, hZ⟩ := hv
  have hx := B.exec
  have hb := B.bytes
  have hr := B.returns
  have hts : ∀ w ∈ xT, w.before _ s = true := fun w h9 => atoms_spec (ws := vsX8_away) B.pre w (List.mem_cons_of_mem _ h9)
  have hown : s.vm.findClass RX8 = some m.cls := findClass_of_methodNamed B.named
  have hlocks := B.notSynchronized
  have hW : nb_W G xm_sh s.heap σ s.heap [] := ⟨hP, va_S.rf⟩
  have hl := lv_entry ([.int a0, .int a1]) (n := 2) (Nat.le_of_ble_eq_true rfl)
  rw [lg_entry_eq]
  generalize (lg_sl ([.int a0, .int a1]) ++ List.replicate (2 - (lg_sl ([.int a0, .int a1])).length) Slot.unset).toArray = ls at hl ⊢
  have hl : lv_has ls 2 [(0, .int a0), (1, .int a1)] := hl
  show W p l e rmX8_away s m ([.int a0, .int a1]).toArray below meth c s.heap [] 0 0 (MQ below (nb_Qi G xm_sh Z ro σ) ([.int a0, .int a1]).toArray s 0 0 (nb_A xm_sh G.2.1)) (F0 m 0 ls [])
  generalize hargs : ([.int a0, .int a1] : List Value).toArray = args at hts ⊢
  unfold fX8_away at hf
  obtain ⟨H, eH⟩ : ∃ H, H = s.heap := ⟨_, rfl⟩
  obtain ⟨locs, eL⟩ : ∃ L : List Loc, L = [] := ⟨_, rfl⟩
  have hW : nb_W G xm_sh s.heap σ H locs := by rw [eH, eL]; exact hW
  suffices hgo : W p l e rmX8_away s m args below meth c H locs 0 0 (MQ below (nb_Qi G xm_sh Z ro σ) args s 0 0 (nb_A xm_sh G.2.1)) (F0 m 0 ls []) by rw [eH, eL] at hgo; exact hgo
  clear eH eL
  refine lv_iload_n hx hb dX8_away_0 rfl (lv_at hl 0 rfl) ?_
  refine lv_iload_n hx hb dX8_away_1 rfl (lv_at hl 1 rfl) ?_
  refine lv_icmp_ge (tgt := 11) hx hb dX8_away_2 (by decide) (fun c1 => ?_) (fun c1 => ?_)
  · rw [if_pos c1] at hf
    refine lv_iload_n hx hb dX8_away_11 rfl (lv_at hl 0 rfl) ?_
    refine lv_iload_n hx hb dX8_away_12 rfl (lv_at hl 1 rfl) ?_
    refine lv_isub hx hb dX8_away_13 ?_
    exact nb_rip hx hb hr hlocks hK hZ hZo hW  hf dX8_away_14
  · rw [if_neg c1] at hf
    refine lv_iload_n hx hb dX8_away_5 rfl (lv_at hl 1 rfl) ?_
    refine lv_iload_n hx hb dX8_away_6 rfl (lv_at hl 0 rfl) ?_
    refine lv_isub hx hb dX8_away_7 ?_
    refine lv_goto (tgt := 14) hx hb dX8_away_8 (by decide) ?_
    exact nb_rip hx hb hr hlocks hK hZ hZo hW  hf dX8_away_14
def fX8_allWasted (N : Nat) (σ : nb_St)  : Option Int32 :=
  nb_b (fX8_lastOf N σ) fun r2 =>
  nb_g (nb_in (0 : Int32) 2) (
  nb_b (fX8_away N σ r2 (σ 12 (nb_ix (0 : Int32)))) fun r5 =>
  nb_lp2 (R := Int32) (fun ag8 (x6 : Int32) (x7 : Int32) =>
  nb_g (nb_in (0 : Int32) 2) (
  (if (σ 2 (nb_ix (0 : Int32))) ≤ x7 then
  some x6
  else
  nb_g (nb_in x7 8) (
  nb_g (nb_in x7 16) (
  nb_b (fX8_away N σ (σ 28 (nb_ix x7)) (σ 4 (nb_ix x7))) fun r15 =>
  nb_let (x6 + r15) fun x16 =>
  ag8 x16 (x7 + 1)))))) N r5 (0 : Int32))
def rmX8_allWasted : Room := { frames := 1, cells := 0, slots := 0, locals := 22 }
def vsX8_allWasted : List Cond := .code yX8_allWasted cX8_allWasted 3 (some .int) :: xT
set_option maxHeartbeats 4000000 in
set_option maxRecDepth 100000 in
theorem c_X8_allWasted (l : Launch) {G : nb_G} {Z : State → Heap → Prop} (hinj : nb_inj xm_sh G.2.1) (hZo : nb_Zok (nb_A xm_sh G.2.1) Z) {N : Nat} {σ : nb_St}  {ro : Int32} (hf : fX8_allWasted N σ = some ro)  : Met l yX8_allWasted vsX8_allWasted rmX8_allWasted (nb_Pc G xm_sh Z σ [.ref (G.2.1 0)]) (nb_Qi G xm_sh Z ro σ) 0 0 (nb_A xm_sh G.2.1) := by
  refine Met.ofW (cc := cX8_allWasted) (maxL := 3) (ret := (some .int)) (by decide) rfl ?_
  intro p e s m args below meth c s₁ B hml hv
  obtain ⟨rfl, hP, hK, hZ⟩ := hv
  have hx := B.exec
  have hb := B.bytes
  have hr := B.returns
  have hts : ∀ w ∈ xT, w.before _ s = true := fun w h9 => atoms_spec (ws := vsX8_allWasted) B.pre w (List.mem_cons_of_mem _ h9)
  have hown : s.vm.findClass RX8 = some m.cls := findClass_of_methodNamed B.named
  have hlocks := B.notSynchronized
  have hW : nb_W G xm_sh s.heap σ s.heap [] := ⟨hP, va_S.rf⟩
  have hl := lv_entry ([.ref (G.2.1 0)]) (n := 3) (Nat.le_of_ble_eq_true rfl)
  rw [lg_entry_eq]
  generalize (lg_sl ([.ref (G.2.1 0)]) ++ List.replicate (3 - (lg_sl ([.ref (G.2.1 0)])).length) Slot.unset).toArray = ls at hl ⊢
  have hl : lv_has ls 3 [(0, .ref (G.2.1 0))] := hl
  show W p l e rmX8_allWasted s m ([.ref (G.2.1 0)]).toArray below meth c s.heap [] 0 0 (MQ below (nb_Qi G xm_sh Z ro σ) ([.ref (G.2.1 0)]).toArray s 0 0 (nb_A xm_sh G.2.1)) (F0 m 0 ls [])
  generalize hargs : ([.ref (G.2.1 0)] : List Value).toArray = args at hts ⊢
  unfold fX8_allWasted at hf
  obtain ⟨H, eH⟩ : ∃ H, H = s.heap := ⟨_, rfl⟩
  obtain ⟨locs, eL⟩ : ∃ L : List Loc, L = [] := ⟨_, rfl⟩
  have hW : nb_W G xm_sh s.heap σ H locs := by rw [eH, eL]; exact hW
  suffices hgo : W p l e rmX8_allWasted s m args below meth c H locs 0 0 (MQ below (nb_Qi G xm_sh Z ro σ) args s 0 0 (nb_A xm_sh G.2.1)) (F0 m 0 ls []) by rw [eH, eL] at hgo; exact hgo
  clear eH eL
  refine lv_aload_n hx hb dX8_allWasted_0 rfl (lv_at hl 0 rfl) ?_
  obtain ⟨r2, hc1, hf⟩ := nb_b_e hf
  refine nb_ci hW (va_runV (As := []) (rest := []) ⟨hx, hb, hml, hown, hts⟩ (c_X8_lastOf l hinj hZo (N := N) hc1 ) (cwV 0 hts (xg_V tw5_144 tw5_146 tp3_7 tw1_10 tw5_147) rfl rfl rfl (by decide +kernel) ⟨Nat.le_of_ble_eq_true rfl, Nat.le_of_ble_eq_true rfl⟩) (nb_preV hK hZ hZo hW (k := 0) rfl rfl) rfl rfl hl.1 rfl (lv_room (Nat.le_of_ble_eq_true rfl)) dX8_allWasted_1 ⟨Nat.zero_le _, Nat.zero_le _⟩) (fun H locs hW => ?_)
  refine lv_aload_n hx hb dX8_allWasted_4 rfl (lv_at hl 0 rfl) ?_
  refine nb_get (C := RX8) (T := TX8) (N := 40) hx hb hts inT_X8 hown hK hW 0 rfl rfl 12 (by decide) (hts _ tw4_135) (fun _ h9 => h9) rfl (v := .ref (G.2.1 12)) rfl dX8_allWasted_5 ?_
  refine lv_iconst (v := (0 : Int32)) hx hb dX8_allWasted_8 (by decide) ?_
  obtain ⟨g3, hf⟩ := nb_g_e hf
  refine nb_iald hx hb hK hW 12 rfl g3 dX8_allWasted_9 ?_
  obtain ⟨r5, hc4, hf⟩ := nb_b_e hf
  refine nb_ci hW (va_runS (As := [.int r2, .int (σ 12 (nb_ix (0 : Int32)))]) (rest := []) ⟨hx, hb, hml, hown, hts⟩ (c_X8_away l hinj hZo (N := N) hc4 ) (va_cwS 2 hts (xg_S tw5_148 tw5_149 tw1_10 tw5_150) rfl rfl rfl (by decide +kernel) ⟨Nat.le_of_ble_eq_true rfl, Nat.le_of_ble_eq_true rfl⟩) (nb_preS hK hZ hZo hW) rfl rfl hl.1 rfl (lv_room (Nat.le_of_ble_eq_true rfl)) dX8_allWasted_10 ⟨Nat.zero_le _, Nat.zero_le _⟩) (fun H locs hW => ?_)
  refine lv_istore_n (lv' := [(1, .int r5), (0, .ref (G.2.1 0))]) hx hb dX8_allWasted_13 rfl hl (by decide) rfl (fun ls hl => ?_)
  refine lv_iconst (v := (0 : Int32)) hx hb dX8_allWasted_14 (by decide) ?_
  refine lv_istore_n (lv' := [(2, .int (0 : Int32)), (1, .int r5), (0, .ref (G.2.1 0))]) hx hb dX8_allWasted_15 rfl hl (by decide) rfl (fun ls hl => ?_)
  refine nb_w2 (P := fun (x6 : Int32) (x7 : Int32) => ∀ (H : Heap) (locs : List Loc) (ls : Array Slot), nb_W G xm_sh s.heap σ H locs → lv_has ls 3 [(0, .ref (G.2.1 0)), (1, .int x6), (2, .int x7)] → W p l e rmX8_allWasted s m args below meth c H locs 0 0 (MQ below (nb_Qi G xm_sh Z ro σ) args s 0 0 (nb_A xm_sh G.2.1)) (F0 m 16 ls [])) ?_ N _ _ hf H locs ls hW (lv_sub hl [2, 1, 0] rfl)
  intro ag8 ih9 x6 x7 hf H locs ls hW hl
  refine lv_iload_n hx hb dX8_allWasted_16 rfl (lv_at hl 2 rfl) ?_
  refine lv_aload_n hx hb dX8_allWasted_17 rfl (lv_at hl 0 rfl) ?_
  refine nb_get (C := RX8) (T := TX8) (N := 40) hx hb hts inT_X8 hown hK hW 0 rfl rfl 2 (by decide) (hts _ tw4_125) (fun _ h9 => h9) rfl (v := .ref (G.2.1 2)) rfl dX8_allWasted_18 ?_
  refine lv_iconst (v := (0 : Int32)) hx hb dX8_allWasted_21 (by decide) ?_
  obtain ⟨g10, hf⟩ := nb_g_e hf
  refine nb_iald hx hb hK hW 2 rfl g10 dX8_allWasted_22 ?_
  refine lv_icmp_ge (tgt := 50) hx hb dX8_allWasted_23 (by decide) (fun c11 => ?_) (fun c11 => ?_)
  · rw [if_pos c11] at hf
    refine lv_iload_n hx hb dX8_allWasted_50 rfl (lv_at hl 1 rfl) ?_
    exact nb_rip hx hb hr hlocks hK hZ hZo hW  hf dX8_allWasted_51
  · rw [if_neg c11] at hf
    refine lv_iload_n hx hb dX8_allWasted_26 rfl (lv_at hl 1 rfl) ?_
    refine lv_aload_n hx hb dX8_allWasted_27 rfl (lv_at hl 0 rfl) ?_
    refine nb_get (C := RX8) (T := TX8) (N := 40) hx hb hts inT_X8 hown hK hW 0 rfl rfl 35 (by decide) (hts _ tw4_158) (fun _ h9 => h9) rfl (v := .ref (G.2.1 28)) rfl dX8_allWasted_28 ?_
    refine lv_iload_n hx hb dX8_allWasted_31 rfl (lv_at hl 2 rfl) ?_
    obtain ⟨g12, hf⟩ := nb_g_e hf
    refine nb_iald hx hb hK hW 28 rfl g12 dX8_allWasted_32 ?_
    refine lv_aload_n hx hb dX8_allWasted_33 rfl (lv_at hl 0 rfl) ?_
    refine nb_get (C := RX8) (T := TX8) (N := 40) hx hb hts inT_X8 hown hK hW 0 rfl rfl 4 (by decide) (hts _ tw4_127) (fun _ h9 => h9) rfl (v := .ref (G.2.1 4)) rfl dX8_allWasted_34 ?_
    refine lv_iload_n hx hb dX8_allWasted_37 rfl (lv_at hl 2 rfl) ?_
    obtain ⟨g13, hf⟩ := nb_g_e hf
    refine nb_iald hx hb hK hW 4 rfl g13 dX8_allWasted_38 ?_
    obtain ⟨r15, hc14, hf⟩ := nb_b_e hf
    refine nb_ci hW (va_runS (As := [.int (σ 28 (nb_ix x7)), .int (σ 4 (nb_ix x7))]) (rest := [.int x6]) ⟨hx, hb, hml, hown, hts⟩ (c_X8_away l hinj hZo (N := N) hc14 ) (va_cwS 2 hts (xg_S tw5_148 tw5_149 tw1_10 tw5_150) rfl rfl rfl (by decide +kernel) ⟨Nat.le_of_ble_eq_true rfl, Nat.le_of_ble_eq_true rfl⟩) (nb_preS hK hZ hZo hW) rfl rfl hl.1 rfl (lv_room (Nat.le_of_ble_eq_true rfl)) dX8_allWasted_39 ⟨Nat.zero_le _, Nat.zero_le _⟩) (fun H locs hW => ?_)
    refine lv_iadd hx hb dX8_allWasted_42 ?_
    obtain ⟨x16, ex16, hf⟩ := nb_let_e hf
    refine nb_nami ex16 ?_
    refine lv_istore_n (lv' := [(1, .int x16), (0, .ref (G.2.1 0)), (2, .int x7)]) hx hb dX8_allWasted_43 rfl hl (by decide) rfl (fun ls hl => ?_)
    refine lv_iinc (v := (x7 + 1)) (lv' := [(2, .int (x7 + 1)), (1, .int x16), (0, .ref (G.2.1 0))]) hx hb dX8_allWasted_44 hl (k := 2) rfl rfl (by decide) rfl (fun ls hl => ?_)
    refine lv_goto (tgt := 16) hx hb dX8_allWasted_47 (by decide) ?_
    exact ih9 _ _ hf _ _ _ hW (lv_sub hl [2, 1, 0] rfl)
def fX8_goAsItIs (N : Nat) (σ : nb_St)  : Option nb_St :=
  nb_b (fX8_asItIs N σ) fun σ2 =>
  nb_b (fX8_goEvening N σ2) fun σ4 =>
  some σ4
def rmX8_goAsItIs : Room := { frames := 5, cells := 0, slots := 0, locals := 125 }
def vsX8_goAsItIs : List Cond := .code yX8_goAsItIs cX8_goAsItIs 1 none :: xT
set_option maxHeartbeats 4000000 in
set_option maxRecDepth 100000 in
theorem c_X8_goAsItIs (l : Launch) {G : nb_G} {Z : State → Heap → Prop} (hinj : nb_inj xm_sh G.2.1) (hZo : nb_Zok (nb_A xm_sh G.2.1) Z) {N : Nat} {σ : nb_St}  {σo : nb_St} (hf : fX8_goAsItIs N σ = some σo)  : Met l yX8_goAsItIs vsX8_goAsItIs rmX8_goAsItIs (nb_Pc G xm_sh Z σ [.ref (G.2.1 0)]) (nb_Qv G xm_sh Z σo) 0 0 (nb_A xm_sh G.2.1) := by
  refine Met.ofW (cc := cX8_goAsItIs) (maxL := 1) (ret := none) (by decide) rfl ?_
  intro p e s m args below meth c s₁ B hml hv
  obtain ⟨rfl, hP, hK, hZ⟩ := hv
  have hx := B.exec
  have hb := B.bytes
  have hr := B.returns
  have hts : ∀ w ∈ xT, w.before _ s = true := fun w h9 => atoms_spec (ws := vsX8_goAsItIs) B.pre w (List.mem_cons_of_mem _ h9)
  have hown : s.vm.findClass RX8 = some m.cls := findClass_of_methodNamed B.named
  have hlocks := B.notSynchronized
  have hW : nb_W G xm_sh s.heap σ s.heap [] := ⟨hP, va_S.rf⟩
  have hl := lv_entry ([.ref (G.2.1 0)]) (n := 1) (Nat.le_of_ble_eq_true rfl)
  rw [lg_entry_eq]
  generalize (lg_sl ([.ref (G.2.1 0)]) ++ List.replicate (1 - (lg_sl ([.ref (G.2.1 0)])).length) Slot.unset).toArray = ls at hl ⊢
  have hl : lv_has ls 1 [(0, .ref (G.2.1 0))] := hl
  show W p l e rmX8_goAsItIs s m ([.ref (G.2.1 0)]).toArray below meth c s.heap [] 0 0 (MQ below (nb_Qv G xm_sh Z σo) ([.ref (G.2.1 0)]).toArray s 0 0 (nb_A xm_sh G.2.1)) (F0 m 0 ls [])
  generalize hargs : ([.ref (G.2.1 0)] : List Value).toArray = args at hts ⊢
  unfold fX8_goAsItIs at hf
  obtain ⟨H, eH⟩ : ∃ H, H = s.heap := ⟨_, rfl⟩
  obtain ⟨locs, eL⟩ : ∃ L : List Loc, L = [] := ⟨_, rfl⟩
  have hW : nb_W G xm_sh s.heap σ H locs := by rw [eH, eL]; exact hW
  suffices hgo : W p l e rmX8_goAsItIs s m args below meth c H locs 0 0 (MQ below (nb_Qv G xm_sh Z σo) args s 0 0 (nb_A xm_sh G.2.1)) (F0 m 0 ls []) by rw [eH, eL] at hgo; exact hgo
  clear eH eL
  refine lv_aload_n hx hb dX8_goAsItIs_0 rfl (lv_at hl 0 rfl) ?_
  obtain ⟨σ2, hc1, hf⟩ := nb_b_e hf
  refine nb_cv hW (va_runV (As := []) (rest := []) ⟨hx, hb, hml, hown, hts⟩ (c_X8_asItIs l hinj hZo (N := N) hc1 ) (cwV 0 hts (xg_V tw5_81 tw5_83 tp2_14 tw1_10 tw5_84) rfl rfl rfl (by decide +kernel) ⟨Nat.le_of_ble_eq_true rfl, Nat.le_of_ble_eq_true rfl⟩) (nb_preV hK hZ hZo hW (k := 0) rfl rfl) rfl rfl hl.1 rfl (lv_room (Nat.le_of_ble_eq_true rfl)) dX8_goAsItIs_1 ⟨Nat.zero_le _, Nat.zero_le _⟩) (fun H locs hW => ?_)
  refine lv_aload_n hx hb dX8_goAsItIs_4 rfl (lv_at hl 0 rfl) ?_
  obtain ⟨σ4, hc3, hf⟩ := nb_b_e hf
  refine nb_cv hW (va_runV (As := []) (rest := []) ⟨hx, hb, hml, hown, hts⟩ (c_X8_goEvening l hinj hZo (N := N) hc3 ) (cwV 0 hts (xg_V tw5_85 tw5_87 tp2_15 tw1_10 tw5_88) rfl rfl rfl (by decide +kernel) ⟨Nat.le_of_ble_eq_true rfl, Nat.le_of_ble_eq_true rfl⟩) (nb_preV hK hZ hZo hW (k := 0) rfl rfl) rfl rfl hl.1 rfl (lv_room (Nat.le_of_ble_eq_true rfl)) dX8_goAsItIs_5 ⟨Nat.zero_le _, Nat.zero_le _⟩) (fun H locs hW => ?_)
  exact nb_rv hx hb hr hlocks hK hZ hZo hW hf dX8_goAsItIs_8
def fX8_isTime (N : Nat) (σ : nb_St) (a0 : Int32) : Option Int32 :=
  nb_b (fX8_in N σ ((a0).toInt64) (0 : Int64) (719 : Int64)) fun r2 =>
  nb_g (nb_01 r2) (
  some r2)
def rmX8_isTime : Room := { frames := 1, cells := 0, slots := 0, locals := 25 }
def vsX8_isTime : List Cond := .code yX8_isTime cX8_isTime 1 (some .boolean) :: xT
set_option maxHeartbeats 4000000 in
set_option maxRecDepth 100000 in
theorem c_X8_isTime (l : Launch) {G : nb_G} {Z : State → Heap → Prop} (hinj : nb_inj xm_sh G.2.1) (hZo : nb_Zok (nb_A xm_sh G.2.1) Z) {N : Nat} {σ : nb_St} {a0 : Int32} {ro : Int32} (hf : fX8_isTime N σ a0 = some ro)  : Met l yX8_isTime vsX8_isTime rmX8_isTime (nb_Pc G xm_sh Z σ [.int a0]) (nb_Qi G xm_sh Z ro σ) 0 0 (nb_A xm_sh G.2.1) := by
  refine Met.ofW (cc := cX8_isTime) (maxL := 1) (ret := (some .boolean)) (by decide) rfl ?_
  intro p e s m args below meth c s₁ B hml hv
  obtain ⟨rfl, hP, hK, hZ⟩ := hv
  have hx := B.exec
  have hb := B.bytes
  have hr := B.returns
  have hts : ∀ w ∈ xT, w.before _ s = true := fun w h9 => atoms_spec (ws := vsX8_isTime) B.pre w (List.mem_cons_of_mem _ h9)
  have hown : s.vm.findClass RX8 = some m.cls := findClass_of_methodNamed B.named
  have hlocks := B.notSynchronized
  have hW : nb_W G xm_sh s.heap σ s.heap [] := ⟨hP, va_S.rf⟩
  have hl := lv_entry ([.int a0]) (n := 1) (Nat.le_of_ble_eq_true rfl)
  rw [lg_entry_eq]
  generalize (lg_sl ([.int a0]) ++ List.replicate (1 - (lg_sl ([.int a0])).length) Slot.unset).toArray = ls at hl ⊢
  have hl : lv_has ls 1 [(0, .int a0)] := hl
  show W p l e rmX8_isTime s m ([.int a0]).toArray below meth c s.heap [] 0 0 (MQ below (nb_Qi G xm_sh Z ro σ) ([.int a0]).toArray s 0 0 (nb_A xm_sh G.2.1)) (F0 m 0 ls [])
  generalize hargs : ([.int a0] : List Value).toArray = args at hts ⊢
  unfold fX8_isTime at hf
  obtain ⟨H, eH⟩ : ∃ H, H = s.heap := ⟨_, rfl⟩
  obtain ⟨locs, eL⟩ : ∃ L : List Loc, L = [] := ⟨_, rfl⟩
  have hW : nb_W G xm_sh s.heap σ H locs := by rw [eH, eL]; exact hW
  suffices hgo : W p l e rmX8_isTime s m args below meth c H locs 0 0 (MQ below (nb_Qi G xm_sh Z ro σ) args s 0 0 (nb_A xm_sh G.2.1)) (F0 m 0 ls []) by rw [eH, eL] at hgo; exact hgo
  clear eH eL
  refine lv_iload_n hx hb dX8_isTime_0 rfl (lv_at hl 0 rfl) ?_
  refine lv_i2l hx hb dX8_isTime_1 rfl ?_
  refine lv_lconst (v := (0 : Int64)) hx hb dX8_isTime_2 (by decide) ?_
  refine lv_ldc2 (own := RX8) (v := (719 : Int64)) hx hb hown (hts _ tw5_76) dX8_isTime_3 ?_
  obtain ⟨r2, hc1, hf⟩ := nb_b_e hf
  refine nb_ci hW (va_runS (As := [.long ((a0).toInt64), .long (0 : Int64), .long (719 : Int64)]) (rest := []) ⟨hx, hb, hml, hown, hts⟩ (c_X8_in l hinj hZo (N := N) hc1 ) (va_cwS 3 hts (xg_S tw5_9 tw5_10 tw1_10 tw5_11) rfl rfl rfl (by decide +kernel) ⟨Nat.le_of_ble_eq_true rfl, Nat.le_of_ble_eq_true rfl⟩) (nb_preS hK hZ hZo hW) rfl rfl hl.1 rfl (lv_room (Nat.le_of_ble_eq_true rfl)) dX8_isTime_6 ⟨Nat.zero_le _, Nat.zero_le _⟩) (fun H locs hW => ?_)
  obtain ⟨g3, hf⟩ := nb_g_e hf
  exact nb_rzp hx hb hr hlocks hK hZ hZo hW (nb_01_n g3) hf dX8_isTime_9
def fX8_shame (N : Nat) (σ : nb_St) (a0 : Int32) (a1 : Int32) : Option (Int32 × nb_St) :=
  nb_b (fX8_isGuest N σ a0) fun r2 =>
  nb_let (fun (_u : Unit) =>
  some ((-1 : Int32), σ)) fun k3 =>
  (if r2 = 0 then
  k3 ()
  else
  nb_b (fX8_isTime N σ a1) fun r7 =>
  (if r7 = 0 then
  k3 ()
  else
  nb_b (fX8_goAsItIs N σ) fun σ10 =>
  nb_b (fX8_shameOf N σ10 a0 a1) fun r12 =>
  some (r12, σ10)))
def rmX8_shame : Room := { frames := 6, cells := 0, slots := 0, locals := 145 }
def vsX8_shame : List Cond := .code yX8_shame cX8_shame 3 (some .int) :: xT
set_option maxHeartbeats 4000000 in
set_option maxRecDepth 100000 in
theorem c_X8_shame (l : Launch) {G : nb_G} {Z : State → Heap → Prop} (hinj : nb_inj xm_sh G.2.1) (hZo : nb_Zok (nb_A xm_sh G.2.1) Z) {N : Nat} {σ : nb_St} {a0 : Int32} {a1 : Int32} {ro : Int32} {σo : nb_St} (hf : fX8_shame N σ a0 a1 = some (ro, σo))  : Met l yX8_shame vsX8_shame rmX8_shame (nb_Pc G xm_sh Z σ [.ref (G.2.1 0), .int a0, .int a1]) (nb_Qi G xm_sh Z ro σo) 0 0 (nb_A xm_sh G.2.1) := by
  refine Met.ofW (cc := cX8_shame) (maxL := 3) (ret := (some .int)) (by decide) rfl ?_
  intro p e s m args below meth c s₁ B hml hv
  obtain ⟨rfl, hP, hK, hZ⟩ := hv
  have hx := B.exec
  have hb := B.bytes
  have hr := B.returns
  have hts : ∀ w ∈ xT, w.before _ s = true := fun w h9 => atoms_spec (ws := vsX8_shame) B.pre w (List.mem_cons_of_mem _ h9)
  have hown : s.vm.findClass RX8 = some m.cls := findClass_of_methodNamed B.named
  have hlocks := B.notSynchronized
  have hW : nb_W G xm_sh s.heap σ s.heap [] := ⟨hP, va_S.rf⟩
  have hl := lv_entry ([.ref (G.2.1 0), .int a0, .int a1]) (n := 3) (Nat.le_of_ble_eq_true rfl)
  rw [lg_entry_eq]
  generalize (lg_sl ([.ref (G.2.1 0), .int a0, .int a1]) ++ List.replicate (3 - (lg_sl ([.ref (G.2.1 0), .int a0, .int a1])).length) Slot.unset).toArray = ls at hl ⊢
  have hl : lv_has ls 3 [(0, .ref (G.2.1 0)), (1, .int a0), (2, .int a1)] := hl
  show W p l e rmX8_shame s m ([.ref (G.2.1 0), .int a0, .int a1]).toArray below meth c s.heap [] 0 0 (MQ below (nb_Qi G xm_sh Z ro σo) ([.ref (G.2.1 0), .int a0, .int a1]).toArray s 0 0 (nb_A xm_sh G.2.1)) (F0 m 0 ls [])
  generalize hargs : ([.ref (G.2.1 0), .int a0, .int a1] : List Value).toArray = args at hts ⊢
  unfold fX8_shame at hf
  obtain ⟨H, eH⟩ : ∃ H, H = s.heap := ⟨_, rfl⟩
  obtain ⟨locs, eL⟩ : ∃ L : List Loc, L = [] := ⟨_, rfl⟩
  have hW : nb_W G xm_sh s.heap σ H locs := by rw [eH, eL]; exact hW
  suffices hgo : W p l e rmX8_shame s m args below meth c H locs 0 0 (MQ below (nb_Qi G xm_sh Z ro σo) args s 0 0 (nb_A xm_sh G.2.1)) (F0 m 0 ls []) by rw [eH, eL] at hgo; exact hgo
  clear eH eL
  refine lv_aload_n hx hb dX8_shame_0 rfl (lv_at hl 0 rfl) ?_
  refine lv_iload_n hx hb dX8_shame_1 rfl (lv_at hl 1 rfl) ?_
  obtain ⟨r2, hc1, hf⟩ := nb_b_e hf
  refine nb_ci hW (va_runV (As := [.int a0]) (rest := []) ⟨hx, hb, hml, hown, hts⟩ (c_X8_isGuest l hinj hZo (N := N) hc1 ) (cwV 1 hts (xg_V tw5_65 tw5_67 tp2_12 tw1_10 tw5_68) rfl rfl rfl (by decide +kernel) ⟨Nat.le_of_ble_eq_true rfl, Nat.le_of_ble_eq_true rfl⟩) (nb_preV hK hZ hZo hW (k := 0) rfl rfl) rfl rfl hl.1 rfl (lv_room (Nat.le_of_ble_eq_true rfl)) dX8_shame_2 ⟨Nat.zero_le _, Nat.zero_le _⟩) (fun H locs hW => ?_)
  obtain ⟨k3, ek3, hf⟩ := nb_let_e hf
  have w4 : ∀ (_u : Unit) (H : Heap) (locs : List Loc) (ls : Array Slot), k3 _u = some (ro, σo) → nb_W G xm_sh s.heap σ H locs → lv_has ls 3 [] → W p l e rmX8_shame s m args below meth c H locs 0 0 (MQ below (nb_Qi G xm_sh Z ro σo) args s 0 0 (nb_A xm_sh G.2.1)) (F0 m 15 ls []) := by
    intro _u H locs ls hf hW hl
    have hf := (congrFun ek3 _u).symm.trans hf
    refine lv_iconst (v := (-1 : Int32)) hx hb dX8_shame_15 (by decide) ?_
    exact nb_ri hx hb hr hlocks hK hZ hZo hW  hf dX8_shame_16
  clear ek3
  refine lv_if_eq (tgt := 15) hx hb dX8_shame_5 (by decide) (fun c5 => ?_) (fun c5 => ?_)
  · rw [if_pos c5] at hf
    exact w4 ()  _ _ _ hf hW (lv_sub hl [] rfl)
  · rw [if_neg c5] at hf
    refine lv_iload_n hx hb dX8_shame_8 rfl (lv_at hl 2 rfl) ?_
    obtain ⟨r7, hc6, hf⟩ := nb_b_e hf
    refine nb_ci hW (va_runS (As := [.int a1]) (rest := []) ⟨hx, hb, hml, hown, hts⟩ (c_X8_isTime l hinj hZo (N := N) hc6 ) (va_cwS 1 hts (xg_S tw5_73 tw5_74 tw1_10 tw5_75) rfl rfl rfl (by decide +kernel) ⟨Nat.le_of_ble_eq_true rfl, Nat.le_of_ble_eq_true rfl⟩) (nb_preS hK hZ hZo hW) rfl rfl hl.1 rfl (lv_room (Nat.le_of_ble_eq_true rfl)) dX8_shame_9 ⟨Nat.zero_le _, Nat.zero_le _⟩) (fun H locs hW => ?_)
    refine lv_if_ne (tgt := 17) hx hb dX8_shame_12 (by decide) (fun c8 => ?_) (fun c8 => ?_)
    · rw [if_neg c8] at hf
      refine lv_aload_n hx hb dX8_shame_17 rfl (lv_at hl 0 rfl) ?_
      obtain ⟨σ10, hc9, hf⟩ := nb_b_e hf
      refine nb_cv hW (va_runV (As := []) (rest := []) ⟨hx, hb, hml, hown, hts⟩ (c_X8_goAsItIs l hinj hZo (N := N) hc9 ) (cwV 0 hts (xg_V tw5_77 tw5_79 tp2_13 tw1_10 tw5_80) rfl rfl rfl (by decide +kernel) ⟨Nat.le_of_ble_eq_true rfl, Nat.le_of_ble_eq_true rfl⟩) (nb_preV hK hZ hZo hW (k := 0) rfl rfl) rfl rfl hl.1 rfl (lv_room (Nat.le_of_ble_eq_true rfl)) dX8_shame_18 ⟨Nat.zero_le _, Nat.zero_le _⟩) (fun H locs hW => ?_)
      refine lv_aload_n hx hb dX8_shame_21 rfl (lv_at hl 0 rfl) ?_
      refine lv_iload_n hx hb dX8_shame_22 rfl (lv_at hl 1 rfl) ?_
      refine lv_iload_n hx hb dX8_shame_23 rfl (lv_at hl 2 rfl) ?_
      obtain ⟨r12, hc11, hf⟩ := nb_b_e hf
      refine nb_ci hW (va_runV (As := [.int a0, .int a1]) (rest := []) ⟨hx, hb, hml, hown, hts⟩ (c_X8_shameOf l hinj hZo (N := N) hc11 ) (cwV 2 hts (xg_V tw5_102 tw5_104 tp3_3 tw1_10 tw5_105) rfl rfl rfl (by decide +kernel) ⟨Nat.le_of_ble_eq_true rfl, Nat.le_of_ble_eq_true rfl⟩) (nb_preV hK hZ hZo hW (k := 0) rfl rfl) rfl rfl hl.1 rfl (lv_room (Nat.le_of_ble_eq_true rfl)) dX8_shame_24 ⟨Nat.zero_le _, Nat.zero_le _⟩) (fun H locs hW => ?_)
      exact nb_ri hx hb hr hlocks hK hZ hZo hW  hf dX8_shame_27
    · rw [if_pos c8] at hf
      exact w4 ()  _ _ _ hf hW (lv_sub hl [] rfl)
def fX8_presses (N : Nat) (σ : nb_St) (a0 : Int32) (a1 : Int32) : Option (Int32 × nb_St) :=
  nb_b (fX8_isGuest N σ a0) fun r2 =>
  nb_let (fun (_u : Unit) =>
  some ((-1 : Int32), σ)) fun k3 =>
  (if r2 = 0 then
  k3 ()
  else
  nb_b (fX8_isTime N σ a1) fun r7 =>
  (if r7 = 0 then
  k3 ()
  else
  nb_b (fX8_goAsItIs N σ) fun σ10 =>
  nb_b (fX8_doesPress N σ10 a0 a1) fun r12 =>
  (if r12 = 0 then
  some ((0 : Int32), σ10)
  else
  some ((1 : Int32), σ10))))
def rmX8_presses : Room := { frames := 6, cells := 0, slots := 0, locals := 145 }
def vsX8_presses : List Cond := .code yX8_presses cX8_presses 3 (some .int) :: xT
set_option maxHeartbeats 4000000 in
set_option maxRecDepth 100000 in
theorem c_X8_presses (l : Launch) {G : nb_G} {Z : State → Heap → Prop} (hinj : nb_inj xm_sh G.2.1) (hZo : nb_Zok (nb_A xm_sh G.2.1) Z) {N : Nat} {σ : nb_St} {a0 : Int32} {a1 : Int32} {ro : Int32} {σo : nb_St} (hf : fX8_presses N σ a0 a1 = some (ro, σo))  : Met l yX8_presses vsX8_presses rmX8_presses (nb_Pc G xm_sh Z σ [.ref (G.2.1 0), .int a0, .int a1]) (nb_Qi G xm_sh Z ro σo) 0 0 (nb_A xm_sh G.2.1) := by
  refine Met.ofW (cc := cX8_presses) (maxL := 3) (ret := (some .int)) (by decide) rfl ?_
  intro p e s m args below meth c s₁ B hml hv
  obtain ⟨rfl, hP, hK, hZ⟩ := hv
  have hx := B.exec
  have hb := B.bytes
  have hr := B.returns
  have hts : ∀ w ∈ xT, w.before _ s = true := fun w h9 => atoms_spec (ws := vsX8_presses) B.pre w (List.mem_cons_of_mem _ h9)
  have hown : s.vm.findClass RX8 = some m.cls := findClass_of_methodNamed B.named
  have hlocks := B.notSynchronized
  have hW : nb_W G xm_sh s.heap σ s.heap [] := ⟨hP, va_S.rf⟩
  have hl := lv_entry ([.ref (G.2.1 0), .int a0, .int a1]) (n := 3) (Nat.le_of_ble_eq_true rfl)
  rw [lg_entry_eq]
  generalize (lg_sl ([.ref (G.2.1 0), .int a0, .int a1]) ++ List.replicate (3 - (lg_sl ([.ref (G.2.1 0), .int a0, .int a1])).length) Slot.unset).toArray = ls at hl ⊢
  have hl : lv_has ls 3 [(0, .ref (G.2.1 0)), (1, .int a0), (2, .int a1)] := hl
  show W p l e rmX8_presses s m ([.ref (G.2.1 0), .int a0, .int a1]).toArray below meth c s.heap [] 0 0 (MQ below (nb_Qi G xm_sh Z ro σo) ([.ref (G.2.1 0), .int a0, .int a1]).toArray s 0 0 (nb_A xm_sh G.2.1)) (F0 m 0 ls [])
  generalize hargs : ([.ref (G.2.1 0), .int a0, .int a1] : List Value).toArray = args at hts ⊢
  unfold fX8_presses at hf
  obtain ⟨H, eH⟩ : ∃ H, H = s.heap := ⟨_, rfl⟩
  obtain ⟨locs, eL⟩ : ∃ L : List Loc, L = [] := ⟨_, rfl⟩
  have hW : nb_W G xm_sh s.heap σ H locs := by rw [eH, eL]; exact hW
  suffices hgo : W p l e rmX8_presses s m args below meth c H locs 0 0 (MQ below (nb_Qi G xm_sh Z ro σo) args s 0 0 (nb_A xm_sh G.2.1)) (F0 m 0 ls []) by rw [eH, eL] at hgo; exact hgo
  clear eH eL
  refine lv_aload_n hx hb dX8_presses_0 rfl (lv_at hl 0 rfl) ?_
  refine lv_iload_n hx hb dX8_presses_1 rfl (lv_at hl 1 rfl) ?_
  obtain ⟨r2, hc1, hf⟩ := nb_b_e hf
  refine nb_ci hW (va_runV (As := [.int a0]) (rest := []) ⟨hx, hb, hml, hown, hts⟩ (c_X8_isGuest l hinj hZo (N := N) hc1 ) (cwV 1 hts (xg_V tw5_65 tw5_67 tp2_12 tw1_10 tw5_68) rfl rfl rfl (by decide +kernel) ⟨Nat.le_of_ble_eq_true rfl, Nat.le_of_ble_eq_true rfl⟩) (nb_preV hK hZ hZo hW (k := 0) rfl rfl) rfl rfl hl.1 rfl (lv_room (Nat.le_of_ble_eq_true rfl)) dX8_presses_2 ⟨Nat.zero_le _, Nat.zero_le _⟩) (fun H locs hW => ?_)
  obtain ⟨k3, ek3, hf⟩ := nb_let_e hf
  have w4 : ∀ (_u : Unit) (H : Heap) (locs : List Loc) (ls : Array Slot), k3 _u = some (ro, σo) → nb_W G xm_sh s.heap σ H locs → lv_has ls 3 [] → W p l e rmX8_presses s m args below meth c H locs 0 0 (MQ below (nb_Qi G xm_sh Z ro σo) args s 0 0 (nb_A xm_sh G.2.1)) (F0 m 15 ls []) := by
    intro _u H locs ls hf hW hl
    have hf := (congrFun ek3 _u).symm.trans hf
    refine lv_iconst (v := (-1 : Int32)) hx hb dX8_presses_15 (by decide) ?_
    exact nb_ri hx hb hr hlocks hK hZ hZo hW  hf dX8_presses_16
  clear ek3
  refine lv_if_eq (tgt := 15) hx hb dX8_presses_5 (by decide) (fun c5 => ?_) (fun c5 => ?_)
  · rw [if_pos c5] at hf
    exact w4 ()  _ _ _ hf hW (lv_sub hl [] rfl)
  · rw [if_neg c5] at hf
    refine lv_iload_n hx hb dX8_presses_8 rfl (lv_at hl 2 rfl) ?_
    obtain ⟨r7, hc6, hf⟩ := nb_b_e hf
    refine nb_ci hW (va_runS (As := [.int a1]) (rest := []) ⟨hx, hb, hml, hown, hts⟩ (c_X8_isTime l hinj hZo (N := N) hc6 ) (va_cwS 1 hts (xg_S tw5_73 tw5_74 tw1_10 tw5_75) rfl rfl rfl (by decide +kernel) ⟨Nat.le_of_ble_eq_true rfl, Nat.le_of_ble_eq_true rfl⟩) (nb_preS hK hZ hZo hW) rfl rfl hl.1 rfl (lv_room (Nat.le_of_ble_eq_true rfl)) dX8_presses_9 ⟨Nat.zero_le _, Nat.zero_le _⟩) (fun H locs hW => ?_)
    refine lv_if_ne (tgt := 17) hx hb dX8_presses_12 (by decide) (fun c8 => ?_) (fun c8 => ?_)
    · rw [if_neg c8] at hf
      refine lv_aload_n hx hb dX8_presses_17 rfl (lv_at hl 0 rfl) ?_
      obtain ⟨σ10, hc9, hf⟩ := nb_b_e hf
      refine nb_cv hW (va_runV (As := []) (rest := []) ⟨hx, hb, hml, hown, hts⟩ (c_X8_goAsItIs l hinj hZo (N := N) hc9 ) (cwV 0 hts (xg_V tw5_77 tw5_79 tp2_13 tw1_10 tw5_80) rfl rfl rfl (by decide +kernel) ⟨Nat.le_of_ble_eq_true rfl, Nat.le_of_ble_eq_true rfl⟩) (nb_preV hK hZ hZo hW (k := 0) rfl rfl) rfl rfl hl.1 rfl (lv_room (Nat.le_of_ble_eq_true rfl)) dX8_presses_18 ⟨Nat.zero_le _, Nat.zero_le _⟩) (fun H locs hW => ?_)
      refine lv_aload_n hx hb dX8_presses_21 rfl (lv_at hl 0 rfl) ?_
      refine lv_iload_n hx hb dX8_presses_22 rfl (lv_at hl 1 rfl) ?_
      refine lv_iload_n hx hb dX8_presses_23 rfl (lv_at hl 2 rfl) ?_
      obtain ⟨r12, hc11, hf⟩ := nb_b_e hf
      refine nb_ci hW (va_runV (As := [.int a0, .int a1]) (rest := []) ⟨hx, hb, hml, hown, hts⟩ (c_X8_doesPress l hinj hZo (N := N) hc11 ) (cwV 2 hts (xg_V tw5_94 tw5_96 tp3_1 tw1_10 tw5_97) rfl rfl rfl (by decide +kernel) ⟨Nat.le_of_ble_eq_true rfl, Nat.le_of_ble_eq_true rfl⟩) (nb_preV hK hZ hZo hW (k := 0) rfl rfl) rfl rfl hl.1 rfl (lv_room (Nat.le_of_ble_eq_true rfl)) dX8_presses_24 ⟨Nat.zero_le _, Nat.zero_le _⟩) (fun H locs hW => ?_)
      refine lv_if_eq (tgt := 34) hx hb dX8_presses_27 (by decide) (fun c13 => ?_) (fun c13 => ?_)
      · rw [if_pos c13] at hf
        refine lv_iconst (v := (0 : Int32)) hx hb dX8_presses_34 (by decide) ?_
        exact nb_ri hx hb hr hlocks hK hZ hZo hW  hf dX8_presses_35
      · rw [if_neg c13] at hf
        refine lv_iconst (v := (1 : Int32)) hx hb dX8_presses_30 (by decide) ?_
        refine lv_goto (tgt := 35) hx hb dX8_presses_31 (by decide) ?_
        exact nb_ri hx hb hr hlocks hK hZ hZo hW  hf dX8_presses_35
    · rw [if_pos c8] at hf
      exact w4 ()  _ _ _ hf hW (lv_sub hl [] rfl)
def fX8_is (N : Nat) (σ : nb_St) (a0 : Int32) (a1 : Int32) : Option (Int32 × nb_St) :=
  nb_b (fX8_isGuest N σ a0) fun r2 =>
  nb_let (fun (_u : Unit) =>
  some ((-1 : Int32), σ)) fun k3 =>
  (if r2 = 0 then
  k3 ()
  else
  nb_b (fX8_in N σ ((a1).toInt64) (0 : Int64) (999 : Int64)) fun r7 =>
  (if r7 = 0 then
  k3 ()
  else
  nb_b (fX8_goAsItIs N σ) fun σ10 =>
  nb_g (nb_in a0 16) (
  nb_g (nb_in (σ10 3 (nb_ix a0)) 4) (
  (if (σ10 27 (nb_ix (σ10 3 (nb_ix a0)))) ≤ a1 then
  nb_g (nb_in a0 8) (
  (if (σ10 28 (nb_ix a0)) ≤ a1 then
  some ((2 : Int32), σ10)
  else
  some ((1 : Int32), σ10)))
  else
  some ((0 : Int32), σ10))))))
def rmX8_is : Room := { frames := 6, cells := 0, slots := 0, locals := 145 }
def vsX8_is : List Cond := .code yX8_is cX8_is 3 (some .int) :: xT
set_option maxHeartbeats 4000000 in
set_option maxRecDepth 100000 in
theorem c_X8_is (l : Launch) {G : nb_G} {Z : State → Heap → Prop} (hinj : nb_inj xm_sh G.2.1) (hZo : nb_Zok (nb_A xm_sh G.2.1) Z) {N : Nat} {σ : nb_St} {a0 : Int32} {a1 : Int32} {ro : Int32} {σo : nb_St} (hf : fX8_is N σ a0 a1 = some (ro, σo))  : Met l yX8_is vsX8_is rmX8_is (nb_Pc G xm_sh Z σ [.ref (G.2.1 0), .int a0, .int a1]) (nb_Qi G xm_sh Z ro σo) 0 0 (nb_A xm_sh G.2.1) := by
  refine Met.ofW (cc := cX8_is) (maxL := 3) (ret := (some .int)) (by decide) rfl ?_
  intro p e s m args below meth c s₁ B hml hv
  obtain ⟨rfl, hP, hK, hZ⟩ := hv
  have hx := B.exec
  have hb := B.bytes
  have hr := B.returns
  have hts : ∀ w ∈ xT, w.before _ s = true := fun w h9 => atoms_spec (ws := vsX8_is) B.pre w (List.mem_cons_of_mem _ h9)
  have hown : s.vm.findClass RX8 = some m.cls := findClass_of_methodNamed B.named
  have hlocks := B.notSynchronized
  have hW : nb_W G xm_sh s.heap σ s.heap [] := ⟨hP, va_S.rf⟩
  have hl := lv_entry ([.ref (G.2.1 0), .int a0, .int a1]) (n := 3) (Nat.le_of_ble_eq_true rfl)
  rw [lg_entry_eq]
  generalize (lg_sl ([.ref (G.2.1 0), .int a0, .int a1]) ++ List.replicate (3 - (lg_sl ([.ref (G.2.1 0), .int a0, .int a1])).length) Slot.unset).toArray = ls at hl ⊢
  have hl : lv_has ls 3 [(0, .ref (G.2.1 0)), (1, .int a0), (2, .int a1)] := hl
  show W p l e rmX8_is s m ([.ref (G.2.1 0), .int a0, .int a1]).toArray below meth c s.heap [] 0 0 (MQ below (nb_Qi G xm_sh Z ro σo) ([.ref (G.2.1 0), .int a0, .int a1]).toArray s 0 0 (nb_A xm_sh G.2.1)) (F0 m 0 ls [])
  generalize hargs : ([.ref (G.2.1 0), .int a0, .int a1] : List Value).toArray = args at hts ⊢
  unfold fX8_is at hf
  obtain ⟨H, eH⟩ : ∃ H, H = s.heap := ⟨_, rfl⟩
  obtain ⟨locs, eL⟩ : ∃ L : List Loc, L = [] := ⟨_, rfl⟩
  have hW : nb_W G xm_sh s.heap σ H locs := by rw [eH, eL]; exact hW
  suffices hgo : W p l e rmX8_is s m args below meth c H locs 0 0 (MQ below (nb_Qi G xm_sh Z ro σo) args s 0 0 (nb_A xm_sh G.2.1)) (F0 m 0 ls []) by rw [eH, eL] at hgo; exact hgo
  clear eH eL
  refine lv_aload_n hx hb dX8_is_0 rfl (lv_at hl 0 rfl) ?_
  refine lv_iload_n hx hb dX8_is_1 rfl (lv_at hl 1 rfl) ?_
  obtain ⟨r2, hc1, hf⟩ := nb_b_e hf
  refine nb_ci hW (va_runV (As := [.int a0]) (rest := []) ⟨hx, hb, hml, hown, hts⟩ (c_X8_isGuest l hinj hZo (N := N) hc1 ) (cwV 1 hts (xg_V tw5_65 tw5_67 tp2_12 tw1_10 tw5_68) rfl rfl rfl (by decide +kernel) ⟨Nat.le_of_ble_eq_true rfl, Nat.le_of_ble_eq_true rfl⟩) (nb_preV hK hZ hZo hW (k := 0) rfl rfl) rfl rfl hl.1 rfl (lv_room (Nat.le_of_ble_eq_true rfl)) dX8_is_2 ⟨Nat.zero_le _, Nat.zero_le _⟩) (fun H locs hW => ?_)
  obtain ⟨k3, ek3, hf⟩ := nb_let_e hf
  have w4 : ∀ (_u : Unit) (H : Heap) (locs : List Loc) (ls : Array Slot), k3 _u = some (ro, σo) → nb_W G xm_sh s.heap σ H locs → lv_has ls 3 [] → W p l e rmX8_is s m args below meth c H locs 0 0 (MQ below (nb_Qi G xm_sh Z ro σo) args s 0 0 (nb_A xm_sh G.2.1)) (F0 m 20 ls []) := by
    intro _u H locs ls hf hW hl
    have hf := (congrFun ek3 _u).symm.trans hf
    refine lv_iconst (v := (-1 : Int32)) hx hb dX8_is_20 (by decide) ?_
    exact nb_ri hx hb hr hlocks hK hZ hZo hW  hf dX8_is_21
  clear ek3
  refine lv_if_eq (tgt := 20) hx hb dX8_is_5 (by decide) (fun c5 => ?_) (fun c5 => ?_)
  · rw [if_pos c5] at hf
    exact w4 ()  _ _ _ hf hW (lv_sub hl [] rfl)
  · rw [if_neg c5] at hf
    refine lv_iload_n hx hb dX8_is_8 rfl (lv_at hl 2 rfl) ?_
    refine lv_i2l hx hb dX8_is_9 rfl ?_
    refine lv_lconst (v := (0 : Int64)) hx hb dX8_is_10 (by decide) ?_
    refine lv_ldc2 (own := RX8) (v := (999 : Int64)) hx hb hown (hts _ tw5_131) dX8_is_11 ?_
    obtain ⟨r7, hc6, hf⟩ := nb_b_e hf
    refine nb_ci hW (va_runS (As := [.long ((a1).toInt64), .long (0 : Int64), .long (999 : Int64)]) (rest := []) ⟨hx, hb, hml, hown, hts⟩ (c_X8_in l hinj hZo (N := N) hc6 ) (va_cwS 3 hts (xg_S tw5_9 tw5_10 tw1_10 tw5_11) rfl rfl rfl (by decide +kernel) ⟨Nat.le_of_ble_eq_true rfl, Nat.le_of_ble_eq_true rfl⟩) (nb_preS hK hZ hZo hW) rfl rfl hl.1 rfl (lv_room (Nat.le_of_ble_eq_true rfl)) dX8_is_14 ⟨Nat.zero_le _, Nat.zero_le _⟩) (fun H locs hW => ?_)
    refine lv_if_ne (tgt := 22) hx hb dX8_is_17 (by decide) (fun c8 => ?_) (fun c8 => ?_)
    · rw [if_neg c8] at hf
      refine lv_aload_n hx hb dX8_is_22 rfl (lv_at hl 0 rfl) ?_
      obtain ⟨σ10, hc9, hf⟩ := nb_b_e hf
      refine nb_cv hW (va_runV (As := []) (rest := []) ⟨hx, hb, hml, hown, hts⟩ (c_X8_goAsItIs l hinj hZo (N := N) hc9 ) (cwV 0 hts (xg_V tw5_77 tw5_79 tp2_13 tw1_10 tw5_80) rfl rfl rfl (by decide +kernel) ⟨Nat.le_of_ble_eq_true rfl, Nat.le_of_ble_eq_true rfl⟩) (nb_preV hK hZ hZo hW (k := 0) rfl rfl) rfl rfl hl.1 rfl (lv_room (Nat.le_of_ble_eq_true rfl)) dX8_is_23 ⟨Nat.zero_le _, Nat.zero_le _⟩) (fun H locs hW => ?_)
      refine lv_iload_n hx hb dX8_is_26 rfl (lv_at hl 2 rfl) ?_
      refine lv_aload_n hx hb dX8_is_27 rfl (lv_at hl 0 rfl) ?_
      refine nb_get (C := RX8) (T := TX8) (N := 40) hx hb hts inT_X8 hown hK hW 0 rfl rfl 34 (by decide) (hts _ tw4_157) (fun _ h9 => h9) rfl (v := .ref (G.2.1 27)) rfl dX8_is_28 ?_
      refine lv_aload_n hx hb dX8_is_31 rfl (lv_at hl 0 rfl) ?_
      refine nb_get (C := RX8) (T := TX8) (N := 40) hx hb hts inT_X8 hown hK hW 0 rfl rfl 3 (by decide) (hts _ tw4_126) (fun _ h9 => h9) rfl (v := .ref (G.2.1 3)) rfl dX8_is_32 ?_
      refine lv_iload_n hx hb dX8_is_35 rfl (lv_at hl 1 rfl) ?_
      obtain ⟨g11, hf⟩ := nb_g_e hf
      refine nb_iald hx hb hK hW 3 rfl g11 dX8_is_36 ?_
      obtain ⟨g12, hf⟩ := nb_g_e hf
      refine nb_iald hx hb hK hW 27 rfl g12 dX8_is_37 ?_
      refine lv_icmp_ge (tgt := 45) hx hb dX8_is_38 (by decide) (fun c13 => ?_) (fun c13 => ?_)
      · rw [if_pos c13] at hf
        refine lv_iload_n hx hb dX8_is_45 rfl (lv_at hl 2 rfl) ?_
        refine lv_aload_n hx hb dX8_is_46 rfl (lv_at hl 0 rfl) ?_
        refine nb_get (C := RX8) (T := TX8) (N := 40) hx hb hts inT_X8 hown hK hW 0 rfl rfl 35 (by decide) (hts _ tw4_158) (fun _ h9 => h9) rfl (v := .ref (G.2.1 28)) rfl dX8_is_47 ?_
        refine lv_iload_n hx hb dX8_is_50 rfl (lv_at hl 1 rfl) ?_
        obtain ⟨g14, hf⟩ := nb_g_e hf
        refine nb_iald hx hb hK hW 28 rfl g14 dX8_is_51 ?_
        refine lv_icmp_ge (tgt := 59) hx hb dX8_is_52 (by decide) (fun c15 => ?_) (fun c15 => ?_)
        · rw [if_pos c15] at hf
          refine lv_iconst (v := (2 : Int32)) hx hb dX8_is_59 (by decide) ?_
          exact nb_ri hx hb hr hlocks hK hZ hZo hW  hf dX8_is_60
        · rw [if_neg c15] at hf
          refine lv_iconst (v := (1 : Int32)) hx hb dX8_is_55 (by decide) ?_
          refine lv_goto (tgt := 60) hx hb dX8_is_56 (by decide) ?_
          exact nb_ri hx hb hr hlocks hK hZ hZo hW  hf dX8_is_60
      · rw [if_neg c13] at hf
        refine lv_iconst (v := (0 : Int32)) hx hb dX8_is_41 (by decide) ?_
        refine lv_goto (tgt := 60) hx hb dX8_is_42 (by decide) ?_
        exact nb_ri hx hb hr hlocks hK hZ hZo hW  hf dX8_is_60
    · rw [if_pos c8] at hf
      exact w4 ()  _ _ _ hf hW (lv_sub hl [] rfl)
def fX8_when (N : Nat) (σ : nb_St) (a0 : Int32) (a1 : Int32) : Option (Int32 × nb_St) :=
  nb_b (fX8_isGuest N σ a0) fun r2 =>
  nb_let (fun (_u : Unit) =>
  some ((-1 : Int32), σ)) fun k3 =>
  (if r2 = 0 then
  k3 ()
  else
  nb_b (fX8_in N σ ((a1).toInt64) (0 : Int64) (1 : Int64)) fun r7 =>
  (if r7 = 0 then
  k3 ()
  else
  nb_b (fX8_goAsItIs N σ) fun σ10 =>
  (if a1 = 0 then
  nb_g (nb_in a0 16) (
  nb_g (nb_in (σ10 3 (nb_ix a0)) 4) (
  some ((σ10 27 (nb_ix (σ10 3 (nb_ix a0)))), σ10)))
  else
  nb_g (nb_in a0 8) (
  some ((σ10 28 (nb_ix a0)), σ10)))))
def rmX8_when : Room := { frames := 6, cells := 0, slots := 0, locals := 145 }
def vsX8_when : List Cond := .code yX8_when cX8_when 3 (some .int) :: xT
set_option maxHeartbeats 4000000 in
set_option maxRecDepth 100000 in
theorem c_X8_when (l : Launch) {G : nb_G} {Z : State → Heap → Prop} (hinj : nb_inj xm_sh G.2.1) (hZo : nb_Zok (nb_A xm_sh G.2.1) Z) {N : Nat} {σ : nb_St} {a0 : Int32} {a1 : Int32} {ro : Int32} {σo : nb_St} (hf : fX8_when N σ a0 a1 = some (ro, σo))  : Met l yX8_when vsX8_when rmX8_when (nb_Pc G xm_sh Z σ [.ref (G.2.1 0), .int a0, .int a1]) (nb_Qi G xm_sh Z ro σo) 0 0 (nb_A xm_sh G.2.1) := by
  refine Met.ofW (cc := cX8_when) (maxL := 3) (ret := (some .int)) (by decide) rfl ?_
  intro p e s m args below meth c s₁ B hml hv
  obtain ⟨rfl, hP, hK, hZ⟩ := hv
  have hx := B.exec
  have hb := B.bytes
  have hr := B.returns
  have hts : ∀ w ∈ xT, w.before _ s = true := fun w h9 => atoms_spec (ws := vsX8_when) B.pre w (List.mem_cons_of_mem _ h9)
  have hown : s.vm.findClass RX8 = some m.cls := findClass_of_methodNamed B.named
  have hlocks := B.notSynchronized
  have hW : nb_W G xm_sh s.heap σ s.heap [] := ⟨hP, va_S.rf⟩
  have hl := lv_entry ([.ref (G.2.1 0), .int a0, .int a1]) (n := 3) (Nat.le_of_ble_eq_true rfl)
  rw [lg_entry_eq]
  generalize (lg_sl ([.ref (G.2.1 0), .int a0, .int a1]) ++ List.replicate (3 - (lg_sl ([.ref (G.2.1 0), .int a0, .int a1])).length) Slot.unset).toArray = ls at hl ⊢
  have hl : lv_has ls 3 [(0, .ref (G.2.1 0)), (1, .int a0), (2, .int a1)] := hl
  show W p l e rmX8_when s m ([.ref (G.2.1 0), .int a0, .int a1]).toArray below meth c s.heap [] 0 0 (MQ below (nb_Qi G xm_sh Z ro σo) ([.ref (G.2.1 0), .int a0, .int a1]).toArray s 0 0 (nb_A xm_sh G.2.1)) (F0 m 0 ls [])
  generalize hargs : ([.ref (G.2.1 0), .int a0, .int a1] : List Value).toArray = args at hts ⊢
  unfold fX8_when at hf
  obtain ⟨H, eH⟩ : ∃ H, H = s.heap := ⟨_, rfl⟩
  obtain ⟨locs, eL⟩ : ∃ L : List Loc, L = [] := ⟨_, rfl⟩
  have hW : nb_W G xm_sh s.heap σ H locs := by rw [eH, eL]; exact hW
  suffices hgo : W p l e rmX8_when s m args below meth c H locs 0 0 (MQ below (nb_Qi G xm_sh Z ro σo) args s 0 0 (nb_A xm_sh G.2.1)) (F0 m 0 ls []) by rw [eH, eL] at hgo; exact hgo
  clear eH eL
  refine lv_aload_n hx hb dX8_when_0 rfl (lv_at hl 0 rfl) ?_
  refine lv_iload_n hx hb dX8_when_1 rfl (lv_at hl 1 rfl) ?_
  obtain ⟨r2, hc1, hf⟩ := nb_b_e hf
  refine nb_ci hW (va_runV (As := [.int a0]) (rest := []) ⟨hx, hb, hml, hown, hts⟩ (c_X8_isGuest l hinj hZo (N := N) hc1 ) (cwV 1 hts (xg_V tw5_65 tw5_67 tp2_12 tw1_10 tw5_68) rfl rfl rfl (by decide +kernel) ⟨Nat.le_of_ble_eq_true rfl, Nat.le_of_ble_eq_true rfl⟩) (nb_preV hK hZ hZo hW (k := 0) rfl rfl) rfl rfl hl.1 rfl (lv_room (Nat.le_of_ble_eq_true rfl)) dX8_when_2 ⟨Nat.zero_le _, Nat.zero_le _⟩) (fun H locs hW => ?_)
  obtain ⟨k3, ek3, hf⟩ := nb_let_e hf
  have w4 : ∀ (_u : Unit) (H : Heap) (locs : List Loc) (ls : Array Slot), k3 _u = some (ro, σo) → nb_W G xm_sh s.heap σ H locs → lv_has ls 3 [] → W p l e rmX8_when s m args below meth c H locs 0 0 (MQ below (nb_Qi G xm_sh Z ro σo) args s 0 0 (nb_A xm_sh G.2.1)) (F0 m 18 ls []) := by
    intro _u H locs ls hf hW hl
    have hf := (congrFun ek3 _u).symm.trans hf
    refine lv_iconst (v := (-1 : Int32)) hx hb dX8_when_18 (by decide) ?_
    exact nb_ri hx hb hr hlocks hK hZ hZo hW  hf dX8_when_19
  clear ek3
  refine lv_if_eq (tgt := 18) hx hb dX8_when_5 (by decide) (fun c5 => ?_) (fun c5 => ?_)
  · rw [if_pos c5] at hf
    exact w4 ()  _ _ _ hf hW (lv_sub hl [] rfl)
  · rw [if_neg c5] at hf
    refine lv_iload_n hx hb dX8_when_8 rfl (lv_at hl 2 rfl) ?_
    refine lv_i2l hx hb dX8_when_9 rfl ?_
    refine lv_lconst (v := (0 : Int64)) hx hb dX8_when_10 (by decide) ?_
    refine lv_lconst (v := (1 : Int64)) hx hb dX8_when_11 (by decide) ?_
    obtain ⟨r7, hc6, hf⟩ := nb_b_e hf
    refine nb_ci hW (va_runS (As := [.long ((a1).toInt64), .long (0 : Int64), .long (1 : Int64)]) (rest := []) ⟨hx, hb, hml, hown, hts⟩ (c_X8_in l hinj hZo (N := N) hc6 ) (va_cwS 3 hts (xg_S tw5_9 tw5_10 tw1_10 tw5_11) rfl rfl rfl (by decide +kernel) ⟨Nat.le_of_ble_eq_true rfl, Nat.le_of_ble_eq_true rfl⟩) (nb_preS hK hZ hZo hW) rfl rfl hl.1 rfl (lv_room (Nat.le_of_ble_eq_true rfl)) dX8_when_12 ⟨Nat.zero_le _, Nat.zero_le _⟩) (fun H locs hW => ?_)
    refine lv_if_ne (tgt := 20) hx hb dX8_when_15 (by decide) (fun c8 => ?_) (fun c8 => ?_)
    · rw [if_neg c8] at hf
      refine lv_aload_n hx hb dX8_when_20 rfl (lv_at hl 0 rfl) ?_
      obtain ⟨σ10, hc9, hf⟩ := nb_b_e hf
      refine nb_cv hW (va_runV (As := []) (rest := []) ⟨hx, hb, hml, hown, hts⟩ (c_X8_goAsItIs l hinj hZo (N := N) hc9 ) (cwV 0 hts (xg_V tw5_77 tw5_79 tp2_13 tw1_10 tw5_80) rfl rfl rfl (by decide +kernel) ⟨Nat.le_of_ble_eq_true rfl, Nat.le_of_ble_eq_true rfl⟩) (nb_preV hK hZ hZo hW (k := 0) rfl rfl) rfl rfl hl.1 rfl (lv_room (Nat.le_of_ble_eq_true rfl)) dX8_when_21 ⟨Nat.zero_le _, Nat.zero_le _⟩) (fun H locs hW => ?_)
      refine lv_iload_n hx hb dX8_when_24 rfl (lv_at hl 2 rfl) ?_
      refine lv_if_ne (tgt := 42) hx hb dX8_when_25 (by decide) (fun c11 => ?_) (fun c11 => ?_)
      · rw [if_neg c11] at hf
        refine lv_aload_n hx hb dX8_when_42 rfl (lv_at hl 0 rfl) ?_
        refine nb_get (C := RX8) (T := TX8) (N := 40) hx hb hts inT_X8 hown hK hW 0 rfl rfl 35 (by decide) (hts _ tw4_158) (fun _ h9 => h9) rfl (v := .ref (G.2.1 28)) rfl dX8_when_43 ?_
        refine lv_iload_n hx hb dX8_when_46 rfl (lv_at hl 1 rfl) ?_
        obtain ⟨g12, hf⟩ := nb_g_e hf
        refine nb_iald hx hb hK hW 28 rfl g12 dX8_when_47 ?_
        exact nb_ri hx hb hr hlocks hK hZ hZo hW  hf dX8_when_48
      · rw [if_pos c11] at hf
        refine lv_aload_n hx hb dX8_when_28 rfl (lv_at hl 0 rfl) ?_
        refine nb_get (C := RX8) (T := TX8) (N := 40) hx hb hts inT_X8 hown hK hW 0 rfl rfl 34 (by decide) (hts _ tw4_157) (fun _ h9 => h9) rfl (v := .ref (G.2.1 27)) rfl dX8_when_29 ?_
        refine lv_aload_n hx hb dX8_when_32 rfl (lv_at hl 0 rfl) ?_
        refine nb_get (C := RX8) (T := TX8) (N := 40) hx hb hts inT_X8 hown hK hW 0 rfl rfl 3 (by decide) (hts _ tw4_126) (fun _ h9 => h9) rfl (v := .ref (G.2.1 3)) rfl dX8_when_33 ?_
        refine lv_iload_n hx hb dX8_when_36 rfl (lv_at hl 1 rfl) ?_
        obtain ⟨g13, hf⟩ := nb_g_e hf
        refine nb_iald hx hb hK hW 3 rfl g13 dX8_when_37 ?_
        obtain ⟨g14, hf⟩ := nb_g_e hf
        refine nb_iald hx hb hK hW 27 rfl g14 dX8_when_38 ?_
        refine lv_goto (tgt := 48) hx hb dX8_when_39 (by decide) ?_
        exact nb_ri hx hb hr hlocks hK hZ hZo hW  hf dX8_when_48
    · rw [if_pos c8] at hf
      exact w4 ()  _ _ _ hf hW (lv_sub hl [] rfl)
