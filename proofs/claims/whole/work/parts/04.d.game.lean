def fX1_gather (N : Nat) (σ : nb_St) (q0 : Nat) : Option nb_St :=
  nb_let (nb_st σ 64 0 (0 : Int32)) fun σ1 =>
  nb_let (nb_st σ1 64 1 (0 : Int32)) fun σ2 =>
  nb_lp2 (R := nb_St) (fun ag5 (x3 : Int32) (σ4 : nb_St) =>
  (if (4 : Int32) ≤ x3 then
  some σ4
  else
  nb_g (nb_in (σ4 64 1) 4) (
  nb_let (nb_st σ4 65 (nb_ix (σ4 64 1)) (0 : Int32)) fun σ9 =>
  nb_g (nb_in (σ9 64 1) 4) (
  nb_let (nb_st σ9 66 (nb_ix (σ9 64 1)) (0 : Int32)) fun σ11 =>
  nb_lp3 (R := nb_St) (fun ag15 (x12 : Int32) (x13 : Int32) (σ14 : nb_St) =>
  (if (σ14 q0 0) ≤ x13 then
  nb_let (fun (σ20 : nb_St) =>
  ag5 (x3 + 1) σ20) fun k18 =>
  (if x12 ≤ 0 then
  k18 σ14
  else
  nb_let (nb_st σ14 64 1 ((σ14 64 1) + (1 : Int32))) fun σ22 =>
  k18 σ22)
  else
  nb_g (nb_in x13 8) (
  nb_let (fun (x26 : Int32) (σ27 : nb_St) =>
  ag15 x26 (x13 + 1) σ27) fun k24 =>
  (if (σ14 (q0 + 1) (nb_ix x13)) = x3 then
  nb_g (nb_in (σ14 64 1) 4) (
  nb_g (nb_in x13 8) (
  nb_let (nb_max (σ14 65 (nb_ix (σ14 64 1))) (σ14 (q0 + 2) (nb_ix x13))) fun v31 =>
  nb_g (nb_in (σ14 64 1) 4) (
  nb_let (nb_st σ14 65 (nb_ix (σ14 64 1)) v31) fun σ33 =>
  nb_g (nb_in (σ33 64 1) 4) (
  nb_g (nb_in x13 8) (
  nb_let (nb_max (σ33 66 (nb_ix (σ33 64 1))) (σ33 (q0 + 3) (nb_ix x13))) fun v36 =>
  nb_g (nb_in (σ33 64 1) 4) (
  nb_let (nb_st σ33 66 (nb_ix (σ33 64 1)) v36) fun σ38 =>
  k24 (x12 + 1) σ38))))))
  else
  k24 x12 σ14)))) N (0 : Int32) (0 : Int32) σ11)))) N (0 : Int32) σ2
def rmX1_gather : Room := { frames := 1, cells := 0, slots := 0, locals := 21 }
def vsX1_gather : List Cond := .code yX1_gather cX1_gather 5 none :: xT
set_option maxHeartbeats 4000000 in
set_option maxRecDepth 100000 in
theorem c_X1_gather (l : Launch) {G : nb_G} {tb : Nat → Nat} (hinj : nb_inj xc_sh G.2.1) (hZo : nb_Zok (nb_A xc_sh G.2.1) (xc_Z (nb_A xc_sh G.2.1) tb)) {N : Nat} {σ : nb_St} {q0 : Nat} {σo : nb_St} (hf : fX1_gather N σ q0 = some σo) (hq0 : xc_pty q0 = true) : Met l yX1_gather vsX1_gather rmX1_gather (nb_Pc G xc_sh (xc_Z (nb_A xc_sh G.2.1) tb) σ [.ref (G.2.1 64), .ref (G.2.1 q0)]) (nb_Qv G xc_sh (xc_Z (nb_A xc_sh G.2.1) tb) σo) 0 0 (nb_A xc_sh G.2.1) := by
  refine Met.ofW (cc := cX1_gather) (maxL := 5) (ret := none) (by decide) rfl ?_
  intro p e s m args below meth c s₁ B hml hv
  obtain ⟨rfl, hP, hK, hZ⟩ := hv
  have hx := B.exec
  have hb := B.bytes
  have hr := B.returns
  have hts : ∀ w ∈ xT, w.before _ s = true := fun w h9 => atoms_spec (ws := vsX1_gather) B.pre w (List.mem_cons_of_mem _ h9)
  have hown : s.vm.findClass RX1 = some m.cls := findClass_of_methodNamed B.named
  have hlocks := B.notSynchronized
  have hW : nb_W G xc_sh s.heap σ s.heap [] := ⟨hP, va_S.rf⟩
  have hl := lv_entry ([.ref (G.2.1 64), .ref (G.2.1 q0)]) (n := 5) (Nat.le_of_ble_eq_true rfl)
  rw [lg_entry_eq]
  generalize (lg_sl ([.ref (G.2.1 64), .ref (G.2.1 q0)]) ++ List.replicate (5 - (lg_sl ([.ref (G.2.1 64), .ref (G.2.1 q0)])).length) Slot.unset).toArray = ls at hl ⊢
  have hl : lv_has ls 5 [(0, .ref (G.2.1 64)), (1, .ref (G.2.1 q0))] := hl
  show W p l e rmX1_gather s m ([.ref (G.2.1 64), .ref (G.2.1 q0)]).toArray below meth c s.heap [] 0 0 (MQ below (nb_Qv G xc_sh (xc_Z (nb_A xc_sh G.2.1) tb) σo) ([.ref (G.2.1 64), .ref (G.2.1 q0)]).toArray s 0 0 (nb_A xc_sh G.2.1)) (F0 m 0 ls [])
  generalize hargs : ([.ref (G.2.1 64), .ref (G.2.1 q0)] : List Value).toArray = args at hts ⊢
  unfold fX1_gather at hf
  obtain ⟨H, eH⟩ : ∃ H, H = s.heap := ⟨_, rfl⟩
  obtain ⟨locs, eL⟩ : ∃ L : List Loc, L = [] := ⟨_, rfl⟩
  have hW : nb_W G xc_sh s.heap σ H locs := by rw [eH, eL]; exact hW
  suffices hgo : W p l e rmX1_gather s m args below meth c H locs 0 0 (MQ below (nb_Qv G xc_sh (xc_Z (nb_A xc_sh G.2.1) tb) σo) args s 0 0 (nb_A xc_sh G.2.1)) (F0 m 0 ls []) by rw [eH, eL] at hgo; exact hgo
  clear eH eL
  refine lv_aload_n hx hb dX1_gather_0 rfl (lv_at hl 0 rfl) ?_
  refine lv_iconst (v := (0 : Int32)) hx hb dX1_gather_1 (by decide) ?_
  obtain ⟨σ1, eσ1, hf⟩ := nb_let_e hf
  refine nb_put (C := RX1) (T := TX1) (N := 9) hx hb hts inT_X1 hown hK tyX1 tyX1_ok nmX1 hinj hW 64 rfl rfl 0 (by decide) (hts _ tw1_238) (fun _ h9 => h9) rfl (ty := .boolean) (by decide +kernel) rfl rfl rfl (x := (0 : Int32)) (by show Value.int _ = _; rw [nb_st_s]) eσ1 dX1_gather_2 (fun H locs hW => ?_)
  refine lv_aload_n hx hb dX1_gather_5 rfl (lv_at hl 0 rfl) ?_
  refine lv_iconst (v := (0 : Int32)) hx hb dX1_gather_6 (by decide) ?_
  obtain ⟨σ2, eσ2, hf⟩ := nb_let_e hf
  refine nb_put (C := RX1) (T := TX1) (N := 9) hx hb hts inT_X1 hown hK tyX1 tyX1_ok nmX1 hinj hW 64 rfl rfl 1 (by decide) (hts _ tw1_239) (fun _ h9 => h9) rfl (ty := .int) (by decide +kernel) rfl rfl rfl (x := (0 : Int32)) (by show Value.int _ = _; rw [nb_st_s]) eσ2 dX1_gather_7 (fun H locs hW => ?_)
  refine lv_iconst (v := (0 : Int32)) hx hb dX1_gather_10 (by decide) ?_
  refine lv_istore_n (lv' := [(2, .int (0 : Int32)), (0, .ref (G.2.1 64)), (1, .ref (G.2.1 q0))]) hx hb dX1_gather_11 rfl hl (by decide) rfl (fun ls hl => ?_)
  refine nb_w2 (P := fun (x3 : Int32) (σ4 : nb_St) => ∀ (H : Heap) (locs : List Loc) (ls : Array Slot), nb_W G xc_sh s.heap σ4 H locs → lv_has ls 5 [(0, .ref (G.2.1 64)), (1, .ref (G.2.1 q0)), (2, .int x3)] → W p l e rmX1_gather s m args below meth c H locs 0 0 (MQ below (nb_Qv G xc_sh (xc_Z (nb_A xc_sh G.2.1) tb) σo) args s 0 0 (nb_A xc_sh G.2.1)) (F0 m 12 ls [])) ?_ N _ _ hf H locs ls hW (lv_sub hl [1, 2, 0] rfl)
  intro ag5 ih6 x3 σ4 hf H locs ls hW hl
  refine lv_iload_n hx hb dX1_gather_12 rfl (lv_at hl 2 rfl) ?_
  refine lv_iconst (v := (4 : Int32)) hx hb dX1_gather_13 (by decide) ?_
  refine lv_icmp_ge (tgt := 147) hx hb dX1_gather_14 (by decide) (fun c7 => ?_) (fun c7 => ?_)
  · rw [if_pos c7] at hf
    exact nb_rv hx hb hr hlocks hK hZ hZo hW hf dX1_gather_147
  · rw [if_neg c7] at hf
    refine lv_iconst (v := (0 : Int32)) hx hb dX1_gather_17 (by decide) ?_
    refine lv_istore_n (lv' := [(3, .int (0 : Int32)), (0, .ref (G.2.1 64)), (1, .ref (G.2.1 q0)), (2, .int x3)]) hx hb dX1_gather_18 rfl hl (by decide) rfl (fun ls hl => ?_)
    refine lv_aload_n hx hb dX1_gather_19 rfl (lv_at hl 1 rfl) ?_
    refine nb_get (C := RX1) (T := TX1) (N := 9) hx hb hts inT_X1 hown hK hW 64 rfl rfl 2 (by decide) (hts _ tw2_1) (fun _ h9 => h9) rfl (v := .ref (G.2.1 65)) rfl dX1_gather_20 ?_
    refine lv_aload_n hx hb dX1_gather_23 rfl (lv_at hl 1 rfl) ?_
    refine nb_get (C := RX1) (T := TX1) (N := 9) hx hb hts inT_X1 hown hK hW 64 rfl rfl 1 (by decide) (hts _ tw1_239) (fun _ h9 => h9) rfl (v := .int (σ4 64 1)) rfl dX1_gather_24 ?_
    refine lv_iconst (v := (0 : Int32)) hx hb dX1_gather_27 (by decide) ?_
    obtain ⟨g8, hf⟩ := nb_g_e hf
    obtain ⟨σ9, eσ9, hf⟩ := nb_let_e hf
    refine nb_iast hx hb hK hinj hW 65 rfl g8 eσ9 dX1_gather_28 (fun H locs hW => ?_)
    refine lv_aload_n hx hb dX1_gather_29 rfl (lv_at hl 1 rfl) ?_
    refine nb_get (C := RX1) (T := TX1) (N := 9) hx hb hts inT_X1 hown hK hW 64 rfl rfl 3 (by decide) (hts _ tw2_2) (fun _ h9 => h9) rfl (v := .ref (G.2.1 66)) rfl dX1_gather_30 ?_
    refine lv_aload_n hx hb dX1_gather_33 rfl (lv_at hl 1 rfl) ?_
    refine nb_get (C := RX1) (T := TX1) (N := 9) hx hb hts inT_X1 hown hK hW 64 rfl rfl 1 (by decide) (hts _ tw1_239) (fun _ h9 => h9) rfl (v := .int (σ9 64 1)) rfl dX1_gather_34 ?_
    refine lv_iconst (v := (0 : Int32)) hx hb dX1_gather_37 (by decide) ?_
    obtain ⟨g10, hf⟩ := nb_g_e hf
    obtain ⟨σ11, eσ11, hf⟩ := nb_let_e hf
    refine nb_iast hx hb hK hinj hW 66 rfl g10 eσ11 dX1_gather_38 (fun H locs hW => ?_)
    refine lv_iconst (v := (0 : Int32)) hx hb dX1_gather_39 (by decide) ?_
    refine lv_istore (lv' := [(4, .int (0 : Int32)), (3, .int (0 : Int32)), (0, .ref (G.2.1 64)), (1, .ref (G.2.1 q0)), (2, .int x3)]) hx hb dX1_gather_40 hl (by decide) rfl (fun ls hl => ?_)
    refine nb_w3 (P := fun (x12 : Int32) (x13 : Int32) (σ14 : nb_St) => ∀ (H : Heap) (locs : List Loc) (ls : Array Slot), nb_W G xc_sh s.heap σ14 H locs → lv_has ls 5 [(0, .ref (G.2.1 64)), (1, .ref (G.2.1 q0)), (2, .int x3), (3, .int x12), (4, .int x13)] → W p l e rmX1_gather s m args below meth c H locs 0 0 (MQ below (nb_Qv G xc_sh (xc_Z (nb_A xc_sh G.2.1) tb) σo) args s 0 0 (nb_A xc_sh G.2.1)) (F0 m 42 ls [])) ?_ N _ _ _ hf H locs ls hW (lv_sub hl [2, 3, 4, 1, 0] rfl)
    intro ag15 ih16 x12 x13 σ14 hf H locs ls hW hl
    refine lv_iload hx hb dX1_gather_42 (lv_at hl 4 rfl) ?_
    refine lv_aload_n hx hb dX1_gather_44 rfl (lv_at hl 1 rfl) ?_
    refine nb_getN (C := RX4) (T := TX4) (N := 18) (host := "NobodyFirst") hx hb hts inT_X4 hown hK hW q0 (sx_pty_0 hq0) rfl 0 (by decide) (va_Nw.use rfl (hZ.1 ("NobodyFirst$Game", 41, "NobodyFirst$Party", "guests", "I", "NobodyFirst") (by decide +kernel))) (fun _ h9 => h9) rfl (v := .int (σ14 q0 0)) rfl dX1_gather_45 ?_
    refine lv_icmp_ge (tgt := 127) hx hb dX1_gather_48 (by decide) (fun c17 => ?_) (fun c17 => ?_)
    · rw [if_pos c17] at hf
      refine lv_iload_n hx hb dX1_gather_127 rfl (lv_at hl 3 rfl) ?_
      obtain ⟨k18, ek18, hf⟩ := nb_let_e hf
      have w19 : ∀ (σ20 : nb_St) (H : Heap) (locs : List Loc) (ls : Array Slot), k18 σ20 = some σo → nb_W G xc_sh s.heap σ20 H locs → lv_has ls 5 [(0, .ref (G.2.1 64)), (1, .ref (G.2.1 q0)), (2, .int x3)] → W p l e rmX1_gather s m args below meth c H locs 0 0 (MQ below (nb_Qv G xc_sh (xc_Z (nb_A xc_sh G.2.1) tb) σo) args s 0 0 (nb_A xc_sh G.2.1)) (F0 m 141 ls []) := by
        intro σ20 H locs ls hf hW hl
        have hf := (congrFun ek18 σ20).symm.trans hf
        refine lv_iinc (v := (x3 + 1)) (lv' := [(2, .int (x3 + 1)), (0, .ref (G.2.1 64)), (1, .ref (G.2.1 q0))]) hx hb dX1_gather_141 hl (k := 2) rfl rfl (by decide) rfl (fun ls hl => ?_)
        refine lv_goto (tgt := 12) hx hb dX1_gather_144 (by decide) ?_
        exact ih6 _ _ hf _ _ _ hW (lv_sub hl [1, 2, 0] rfl)
      clear ek18
      refine lv_if_le (tgt := 141) hx hb dX1_gather_128 (by decide) (fun c21 => ?_) (fun c21 => ?_)
      · rw [if_pos c21] at hf
        exact w19 _ _ _ _ hf hW (lv_sub hl [0, 1, 2] rfl)
      · rw [if_neg c21] at hf
        refine lv_aload_n hx hb dX1_gather_131 rfl (lv_at hl 0 rfl) ?_
        refine lv_dup hx hb dX1_gather_132 rfl ?_
        refine nb_get (C := RX1) (T := TX1) (N := 9) hx hb hts inT_X1 hown hK hW 64 rfl rfl 1 (by decide) (hts _ tw1_239) (fun _ h9 => h9) rfl (v := .int (σ14 64 1)) rfl dX1_gather_133 ?_
        refine lv_iconst (v := (1 : Int32)) hx hb dX1_gather_136 (by decide) ?_
        refine lv_iadd hx hb dX1_gather_137 ?_
        obtain ⟨σ22, eσ22, hf⟩ := nb_let_e hf
        refine nb_put (C := RX1) (T := TX1) (N := 9) hx hb hts inT_X1 hown hK tyX1 tyX1_ok nmX1 hinj hW 64 rfl rfl 1 (by decide) (hts _ tw1_239) (fun _ h9 => h9) rfl (ty := .int) (by decide +kernel) rfl rfl rfl (x := ((σ14 64 1) + (1 : Int32))) (by show Value.int _ = _; rw [nb_st_s]) eσ22 dX1_gather_138 (fun H locs hW => ?_)
        exact w19 _ _ _ _ hf hW (lv_sub hl [0, 1, 2] rfl)
    · rw [if_neg c17] at hf
      refine lv_aload_n hx hb dX1_gather_51 rfl (lv_at hl 1 rfl) ?_
      refine nb_getN (C := RX4) (T := TX4) (N := 18) (host := "NobodyFirst") hx hb hts inT_X4 hown hK hW q0 (sx_pty_0 hq0) rfl 1 (by decide) (va_Nw.use rfl (hZ.1 ("NobodyFirst$Game", 46, "NobodyFirst$Party", "pair", "[I", "NobodyFirst") (by decide +kernel))) (fun _ h9 => h9) rfl (v := .ref (G.2.1 (q0 + 1))) rfl dX1_gather_52 ?_
      refine lv_iload hx hb dX1_gather_55 (lv_at hl 4 rfl) ?_
      obtain ⟨g23, hf⟩ := nb_g_e hf
      refine nb_iald hx hb hK hW (q0 + 1) (sx_pty_1 hq0) g23 dX1_gather_57 ?_
      refine lv_iload_n hx hb dX1_gather_58 rfl (lv_at hl 2 rfl) ?_
      obtain ⟨k24, ek24, hf⟩ := nb_let_e hf
      have w25 : ∀ (x26 : Int32) (σ27 : nb_St) (H : Heap) (locs : List Loc) (ls : Array Slot), k24 x26 σ27 = some σo → nb_W G xc_sh s.heap σ27 H locs → lv_has ls 5 [(0, .ref (G.2.1 64)), (1, .ref (G.2.1 q0)), (2, .int x3), (3, .int x26), (4, .int x13)] → W p l e rmX1_gather s m args below meth c H locs 0 0 (MQ below (nb_Qv G xc_sh (xc_Z (nb_A xc_sh G.2.1) tb) σo) args s 0 0 (nb_A xc_sh G.2.1)) (F0 m 121 ls []) := by
        intro x26 σ27 H locs ls hf hW hl
        have hf := (congrFun (congrFun ek24 x26) σ27).symm.trans hf
        refine lv_iinc (v := (x13 + 1)) (lv' := [(4, .int (x13 + 1)), (0, .ref (G.2.1 64)), (1, .ref (G.2.1 q0)), (2, .int x3), (3, .int x26)]) hx hb dX1_gather_121 hl (k := 4) rfl rfl (by decide) rfl (fun ls hl => ?_)
        refine lv_goto (tgt := 42) hx hb dX1_gather_124 (by decide) ?_
        exact ih16 _ _ _ hf _ _ _ hW (lv_sub hl [1, 2, 3, 4, 0] rfl)
      clear ek24
      refine lv_icmp_ne (tgt := 121) hx hb dX1_gather_59 (by decide) (fun c28 => ?_) (fun c28 => ?_)
      · rw [if_neg c28] at hf
        exact w25 _ _ _ _ _ hf hW (lv_sub hl [0, 1, 2, 3, 4] rfl)
      · rw [if_pos c28] at hf
        refine lv_iinc (v := (x12 + 1)) (lv' := [(3, .int (x12 + 1)), (0, .ref (G.2.1 64)), (1, .ref (G.2.1 q0)), (2, .int x3), (4, .int x13)]) hx hb dX1_gather_62 hl (k := 3) rfl rfl (by decide) rfl (fun ls hl => ?_)
        refine lv_aload_n hx hb dX1_gather_65 rfl (lv_at hl 1 rfl) ?_
        refine nb_get (C := RX1) (T := TX1) (N := 9) hx hb hts inT_X1 hown hK hW 64 rfl rfl 2 (by decide) (hts _ tw2_1) (fun _ h9 => h9) rfl (v := .ref (G.2.1 65)) rfl dX1_gather_66 ?_
        refine lv_aload_n hx hb dX1_gather_69 rfl (lv_at hl 1 rfl) ?_
        refine nb_get (C := RX1) (T := TX1) (N := 9) hx hb hts inT_X1 hown hK hW 64 rfl rfl 1 (by decide) (hts _ tw1_239) (fun _ h9 => h9) rfl (v := .int (σ14 64 1)) rfl dX1_gather_70 ?_
        refine lv_aload_n hx hb dX1_gather_73 rfl (lv_at hl 1 rfl) ?_
        refine nb_get (C := RX1) (T := TX1) (N := 9) hx hb hts inT_X1 hown hK hW 64 rfl rfl 2 (by decide) (hts _ tw2_1) (fun _ h9 => h9) rfl (v := .ref (G.2.1 65)) rfl dX1_gather_74 ?_
        refine lv_aload_n hx hb dX1_gather_77 rfl (lv_at hl 1 rfl) ?_
        refine nb_get (C := RX1) (T := TX1) (N := 9) hx hb hts inT_X1 hown hK hW 64 rfl rfl 1 (by decide) (hts _ tw1_239) (fun _ h9 => h9) rfl (v := .int (σ14 64 1)) rfl dX1_gather_78 ?_
        obtain ⟨g29, hf⟩ := nb_g_e hf
        refine nb_iald hx hb hK hW 65 rfl g29 dX1_gather_81 ?_
        refine lv_aload_n hx hb dX1_gather_82 rfl (lv_at hl 2 rfl) ?_
        refine nb_getN (C := RX4) (T := TX4) (N := 18) (host := "NobodyFirst") hx hb hts inT_X4 hown hK hW q0 (sx_pty_0 hq0) rfl 2 (by decide) (va_Nw.use rfl (hZ.1 ("NobodyFirst$Game", 49, "NobodyFirst$Party", "wouldGo", "[I", "NobodyFirst") (by decide +kernel))) (fun _ h9 => h9) rfl (v := .ref (G.2.1 (q0 + 2))) rfl dX1_gather_83 ?_
        refine lv_iload hx hb dX1_gather_86 (lv_at hl 4 rfl) ?_
        obtain ⟨g30, hf⟩ := nb_g_e hf
        refine nb_iald hx hb hK hW (q0 + 2) (sx_pty_2 hq0) g30 dX1_gather_88 ?_
        refine va_mmax hx hb (hml.trans hl.1.symm) hown (hts _ tw2_66) (hts _ tw2_67) (hts _ tw1_9) (hts _ tw2_68) (Nat.le_of_ble_eq_true rfl) (Nat.le_of_ble_eq_true rfl) (Nat.zero_le _) (Nat.zero_le _) dX1_gather_89 ?_
        show W p l e rmX1_gather s m args below meth c H locs 0 0 (MQ below (nb_Qv G xc_sh (xc_Z (nb_A xc_sh G.2.1) tb) σo) args s 0 0 (nb_A xc_sh G.2.1)) (F0 m 92 ls [.int (nb_max (σ14 65 (nb_ix (σ14 64 1))) (σ14 (q0 + 2) (nb_ix x13))), .int (σ14 64 1), .ref (G.2.1 65)])
        obtain ⟨v31, ev31, hf⟩ := nb_let_e hf
        refine nb_nami ev31 ?_
        obtain ⟨g32, hf⟩ := nb_g_e hf
        obtain ⟨σ33, eσ33, hf⟩ := nb_let_e hf
        refine nb_iast hx hb hK hinj hW 65 rfl g32 eσ33 dX1_gather_92 (fun H locs hW => ?_)
        refine lv_aload_n hx hb dX1_gather_93 rfl (lv_at hl 1 rfl) ?_
        refine nb_get (C := RX1) (T := TX1) (N := 9) hx hb hts inT_X1 hown hK hW 64 rfl rfl 3 (by decide) (hts _ tw2_2) (fun _ h9 => h9) rfl (v := .ref (G.2.1 66)) rfl dX1_gather_94 ?_
        refine lv_aload_n hx hb dX1_gather_97 rfl (lv_at hl 1 rfl) ?_
        refine nb_get (C := RX1) (T := TX1) (N := 9) hx hb hts inT_X1 hown hK hW 64 rfl rfl 1 (by decide) (hts _ tw1_239) (fun _ h9 => h9) rfl (v := .int (σ33 64 1)) rfl dX1_gather_98 ?_
        refine lv_aload_n hx hb dX1_gather_101 rfl (lv_at hl 1 rfl) ?_
        refine nb_get (C := RX1) (T := TX1) (N := 9) hx hb hts inT_X1 hown hK hW 64 rfl rfl 3 (by decide) (hts _ tw2_2) (fun _ h9 => h9) rfl (v := .ref (G.2.1 66)) rfl dX1_gather_102 ?_
        refine lv_aload_n hx hb dX1_gather_105 rfl (lv_at hl 1 rfl) ?_
        refine nb_get (C := RX1) (T := TX1) (N := 9) hx hb hts inT_X1 hown hK hW 64 rfl rfl 1 (by decide) (hts _ tw1_239) (fun _ h9 => h9) rfl (v := .int (σ33 64 1)) rfl dX1_gather_106 ?_
        obtain ⟨g34, hf⟩ := nb_g_e hf
        refine nb_iald hx hb hK hW 66 rfl g34 dX1_gather_109 ?_
        refine lv_aload_n hx hb dX1_gather_110 rfl (lv_at hl 2 rfl) ?_
        refine nb_getN (C := RX4) (T := TX4) (N := 18) (host := "NobodyFirst") hx hb hts inT_X4 hown hK hW q0 (sx_pty_0 hq0) rfl 3 (by decide) (va_Nw.use rfl (hZ.1 ("NobodyFirst$Game", 56, "NobodyFirst$Party", "ownShame", "[I", "NobodyFirst") (by decide +kernel))) (fun _ h9 => h9) rfl (v := .ref (G.2.1 (q0 + 3))) rfl dX1_gather_111 ?_
        refine lv_iload hx hb dX1_gather_114 (lv_at hl 4 rfl) ?_
        obtain ⟨g35, hf⟩ := nb_g_e hf
        refine nb_iald hx hb hK hW (q0 + 3) (sx_pty_3 hq0) g35 dX1_gather_116 ?_
        refine va_mmax hx hb (hml.trans hl.1.symm) hown (hts _ tw2_66) (hts _ tw2_67) (hts _ tw1_9) (hts _ tw2_68) (Nat.le_of_ble_eq_true rfl) (Nat.le_of_ble_eq_true rfl) (Nat.zero_le _) (Nat.zero_le _) dX1_gather_117 ?_
        show W p l e rmX1_gather s m args below meth c H locs 0 0 (MQ below (nb_Qv G xc_sh (xc_Z (nb_A xc_sh G.2.1) tb) σo) args s 0 0 (nb_A xc_sh G.2.1)) (F0 m 120 ls [.int (nb_max (σ33 66 (nb_ix (σ33 64 1))) (σ33 (q0 + 3) (nb_ix x13))), .int (σ33 64 1), .ref (G.2.1 66)])
        obtain ⟨v36, ev36, hf⟩ := nb_let_e hf
        refine nb_nami ev36 ?_
        obtain ⟨g37, hf⟩ := nb_g_e hf
        obtain ⟨σ38, eσ38, hf⟩ := nb_let_e hf
        refine nb_iast hx hb hK hinj hW 66 rfl g37 eσ38 dX1_gather_120 (fun H locs hW => ?_)
        exact w25 _ _ _ _ _ hf hW (lv_sub hl [1, 2, 3, 0, 4] rfl)
def fX1_chooseByFigures (N : Nat) (σ : nb_St) (a0 : Int32) : Option (Int32 × nb_St) :=
  nb_lp3 (R := (Int32 × nb_St)) (fun ag4 (x1 : Int32) (x2 : Int32) (σ3 : nb_St) =>
  (if (σ3 64 1) ≤ x2 then
  some ((1 : Int32), σ3)
  else
  nb_g (nb_in x2 4) (
  nb_let (nb_st σ3 67 (nb_ix x2) (nb_rem x1 (10 : Int32))) fun σ8 =>
  nb_let (x1 / (10 : Int32)) fun x9 =>
  nb_g (nb_in x2 4) (
  (if (σ8 67 (nb_ix x2)) < (6 : Int32) then
  ag4 x9 (x2 + 1) σ8
  else
  some ((0 : Int32), σ8)))))) N a0 (0 : Int32) σ
def rmX1_chooseByFigures : Room := { frames := 0, cells := 0, slots := 0, locals := 0 }
def vsX1_chooseByFigures : List Cond := .code yX1_chooseByFigures cX1_chooseByFigures 4 (some .boolean) :: xT
set_option maxHeartbeats 4000000 in
set_option maxRecDepth 100000 in
theorem c_X1_chooseByFigures (l : Launch) {G : nb_G} {tb : Nat → Nat} (hinj : nb_inj xc_sh G.2.1) (hZo : nb_Zok (nb_A xc_sh G.2.1) (xc_Z (nb_A xc_sh G.2.1) tb)) {N : Nat} {σ : nb_St} {a0 : Int32} {ro : Int32} {σo : nb_St} (hf : fX1_chooseByFigures N σ a0 = some (ro, σo))  : Met l yX1_chooseByFigures vsX1_chooseByFigures rmX1_chooseByFigures (nb_Pc G xc_sh (xc_Z (nb_A xc_sh G.2.1) tb) σ [.ref (G.2.1 64), .int a0]) (nb_Qi G xc_sh (xc_Z (nb_A xc_sh G.2.1) tb) ro σo) 0 0 (nb_A xc_sh G.2.1) := by
  refine Met.ofW (cc := cX1_chooseByFigures) (maxL := 4) (ret := (some .boolean)) (by decide) rfl ?_
  intro p e s m args below meth c s₁ B hml hv
  obtain ⟨rfl, hP, hK, hZ⟩ := hv
  have hx := B.exec
  have hb := B.bytes
  have hr := B.returns
  have hts : ∀ w ∈ xT, w.before _ s = true := fun w h9 => atoms_spec (ws := vsX1_chooseByFigures) B.pre w (List.mem_cons_of_mem _ h9)
  have hown : s.vm.findClass RX1 = some m.cls := findClass_of_methodNamed B.named
  have hlocks := B.notSynchronized
  have hW : nb_W G xc_sh s.heap σ s.heap [] := ⟨hP, va_S.rf⟩
  have hl := lv_entry ([.ref (G.2.1 64), .int a0]) (n := 4) (Nat.le_of_ble_eq_true rfl)
  rw [lg_entry_eq]
  generalize (lg_sl ([.ref (G.2.1 64), .int a0]) ++ List.replicate (4 - (lg_sl ([.ref (G.2.1 64), .int a0])).length) Slot.unset).toArray = ls at hl ⊢
  have hl : lv_has ls 4 [(0, .ref (G.2.1 64)), (1, .int a0)] := hl
  show W p l e rmX1_chooseByFigures s m ([.ref (G.2.1 64), .int a0]).toArray below meth c s.heap [] 0 0 (MQ below (nb_Qi G xc_sh (xc_Z (nb_A xc_sh G.2.1) tb) ro σo) ([.ref (G.2.1 64), .int a0]).toArray s 0 0 (nb_A xc_sh G.2.1)) (F0 m 0 ls [])
  generalize hargs : ([.ref (G.2.1 64), .int a0] : List Value).toArray = args at hts ⊢
  unfold fX1_chooseByFigures at hf
  obtain ⟨H, eH⟩ : ∃ H, H = s.heap := ⟨_, rfl⟩
  obtain ⟨locs, eL⟩ : ∃ L : List Loc, L = [] := ⟨_, rfl⟩
  have hW : nb_W G xc_sh s.heap σ H locs := by rw [eH, eL]; exact hW
  suffices hgo : W p l e rmX1_chooseByFigures s m args below meth c H locs 0 0 (MQ below (nb_Qi G xc_sh (xc_Z (nb_A xc_sh G.2.1) tb) ro σo) args s 0 0 (nb_A xc_sh G.2.1)) (F0 m 0 ls []) by rw [eH, eL] at hgo; exact hgo
  clear eH eL
  refine lv_iload_n hx hb dX1_chooseByFigures_0 rfl (lv_at hl 1 rfl) ?_
  refine lv_istore_n (lv' := [(2, .int a0), (0, .ref (G.2.1 64)), (1, .int a0)]) hx hb dX1_chooseByFigures_1 rfl hl (by decide) rfl (fun ls hl => ?_)
  refine lv_iconst (v := (0 : Int32)) hx hb dX1_chooseByFigures_2 (by decide) ?_
  refine lv_istore_n (lv' := [(3, .int (0 : Int32)), (2, .int a0), (0, .ref (G.2.1 64)), (1, .int a0)]) hx hb dX1_chooseByFigures_3 rfl hl (by decide) rfl (fun ls hl => ?_)
  refine nb_w3 (P := fun (x1 : Int32) (x2 : Int32) (σ3 : nb_St) => ∀ (H : Heap) (locs : List Loc) (ls : Array Slot), nb_W G xc_sh s.heap σ3 H locs → lv_has ls 4 [(0, .ref (G.2.1 64)), (2, .int x1), (3, .int x2)] → W p l e rmX1_chooseByFigures s m args below meth c H locs 0 0 (MQ below (nb_Qi G xc_sh (xc_Z (nb_A xc_sh G.2.1) tb) ro σo) args s 0 0 (nb_A xc_sh G.2.1)) (F0 m 4 ls [])) ?_ N _ _ _ hf H locs ls hW (lv_sub hl [2, 1, 0] rfl)
  intro ag4 ih5 x1 x2 σ3 hf H locs ls hW hl
  refine lv_iload_n hx hb dX1_chooseByFigures_4 rfl (lv_at hl 2 rfl) ?_
  refine lv_aload_n hx hb dX1_chooseByFigures_5 rfl (lv_at hl 0 rfl) ?_
  refine nb_get (C := RX1) (T := TX1) (N := 9) hx hb hts inT_X1 hown hK hW 64 rfl rfl 1 (by decide) (hts _ tw1_239) (fun _ h9 => h9) rfl (v := .int (σ3 64 1)) rfl dX1_chooseByFigures_6 ?_
  refine lv_icmp_ge (tgt := 46) hx hb dX1_chooseByFigures_9 (by decide) (fun c6 => ?_) (fun c6 => ?_)
  · rw [if_pos c6] at hf
    refine lv_iconst (v := (1 : Int32)) hx hb dX1_chooseByFigures_46 (by decide) ?_
    exact nb_rz hx hb hr hlocks hK hZ hZo hW rfl hf dX1_chooseByFigures_47
  · rw [if_neg c6] at hf
    refine lv_aload_n hx hb dX1_chooseByFigures_12 rfl (lv_at hl 0 rfl) ?_
    refine nb_get (C := RX1) (T := TX1) (N := 9) hx hb hts inT_X1 hown hK hW 64 rfl rfl 4 (by decide) (hts _ tw2_3) (fun _ h9 => h9) rfl (v := .ref (G.2.1 67)) rfl dX1_chooseByFigures_13 ?_
    refine lv_iload_n hx hb dX1_chooseByFigures_16 rfl (lv_at hl 2 rfl) ?_
    refine lv_iload_n hx hb dX1_chooseByFigures_17 rfl (lv_at hl 1 rfl) ?_
    refine lv_bipush (v := (10 : Int32)) hx hb dX1_chooseByFigures_18 (by decide) ?_
    refine nb_irem hx hb dX1_chooseByFigures_20 (by decide) ?_
    obtain ⟨g7, hf⟩ := nb_g_e hf
    obtain ⟨σ8, eσ8, hf⟩ := nb_let_e hf
    refine nb_iast hx hb hK hinj hW 67 rfl g7 eσ8 dX1_chooseByFigures_21 (fun H locs hW => ?_)
    refine lv_iload_n hx hb dX1_chooseByFigures_22 rfl (lv_at hl 1 rfl) ?_
    refine lv_bipush (v := (10 : Int32)) hx hb dX1_chooseByFigures_23 (by decide) ?_
    refine lv_idiv hx hb dX1_chooseByFigures_25 (by decide) ?_
    obtain ⟨x9, ex9, hf⟩ := nb_let_e hf
    refine nb_nami ex9 ?_
    refine lv_istore_n (lv' := [(2, .int x9), (0, .ref (G.2.1 64)), (3, .int x2)]) hx hb dX1_chooseByFigures_26 rfl hl (by decide) rfl (fun ls hl => ?_)
    refine lv_aload_n hx hb dX1_chooseByFigures_27 rfl (lv_at hl 1 rfl) ?_
    refine nb_get (C := RX1) (T := TX1) (N := 9) hx hb hts inT_X1 hown hK hW 64 rfl rfl 4 (by decide) (hts _ tw2_3) (fun _ h9 => h9) rfl (v := .ref (G.2.1 67)) rfl dX1_chooseByFigures_28 ?_
    refine lv_iload_n hx hb dX1_chooseByFigures_31 rfl (lv_at hl 2 rfl) ?_
    obtain ⟨g10, hf⟩ := nb_g_e hf
    refine nb_iald hx hb hK hW 67 rfl g10 dX1_chooseByFigures_32 ?_
    refine lv_bipush (v := (6 : Int32)) hx hb dX1_chooseByFigures_33 (by decide) ?_
    refine lv_icmp_lt (tgt := 40) hx hb dX1_chooseByFigures_35 (by decide) (fun c11 => ?_) (fun c11 => ?_)
    · rw [if_pos c11] at hf
      refine lv_iinc (v := (x2 + 1)) (lv' := [(3, .int (x2 + 1)), (2, .int x9), (0, .ref (G.2.1 64))]) hx hb dX1_chooseByFigures_40 hl (k := 2) rfl rfl (by decide) rfl (fun ls hl => ?_)
      refine lv_goto (tgt := 4) hx hb dX1_chooseByFigures_43 (by decide) ?_
      exact ih5 _ _ _ hf _ _ _ hW (lv_sub hl [2, 1, 0] rfl)
    · rw [if_neg c11] at hf
      refine lv_iconst (v := (0 : Int32)) hx hb dX1_chooseByFigures_38 (by decide) ?_
      exact nb_rz hx hb hr hlocks hK hZ hZo hW rfl hf dX1_chooseByFigures_39
def fX1_isFirstAlone (N : Nat) (σ : nb_St) (a0 : Int32) : Option Int32 :=
  nb_lp1 (R := Int32) (fun ag2 (x1 : Int32) =>
  (if (σ 64 1) ≤ x1 then
  some (1 : Int32)
  else
  nb_let (fun (_u : Unit) =>
  ag2 (x1 + 1)) fun k5 =>
  (if x1 = a0 then
  k5 ()
  else
  nb_g (nb_in x1 4) (
  nb_g (nb_in a0 4) (
  (if (σ 67 (nb_ix a0)) < (σ 67 (nb_ix x1)) then
  k5 ()
  else
  some (0 : Int32))))))) N (0 : Int32)
def rmX1_isFirstAlone : Room := { frames := 0, cells := 0, slots := 0, locals := 0 }
def vsX1_isFirstAlone : List Cond := .code yX1_isFirstAlone cX1_isFirstAlone 3 (some .boolean) :: xT
set_option maxHeartbeats 4000000 in
set_option maxRecDepth 100000 in
theorem c_X1_isFirstAlone (l : Launch) {G : nb_G} {tb : Nat → Nat} (hinj : nb_inj xc_sh G.2.1) (hZo : nb_Zok (nb_A xc_sh G.2.1) (xc_Z (nb_A xc_sh G.2.1) tb)) {N : Nat} {σ : nb_St} {a0 : Int32} {ro : Int32} (hf : fX1_isFirstAlone N σ a0 = some ro)  : Met l yX1_isFirstAlone vsX1_isFirstAlone rmX1_isFirstAlone (nb_Pc G xc_sh (xc_Z (nb_A xc_sh G.2.1) tb) σ [.ref (G.2.1 64), .int a0]) (nb_Qi G xc_sh (xc_Z (nb_A xc_sh G.2.1) tb) ro σ) 0 0 (nb_A xc_sh G.2.1) := by
  refine Met.ofW (cc := cX1_isFirstAlone) (maxL := 3) (ret := (some .boolean)) (by decide) rfl ?_
  intro p e s m args below meth c s₁ B hml hv
  obtain ⟨rfl, hP, hK, hZ⟩ := hv
  have hx := B.exec
  have hb := B.bytes
  have hr := B.returns
  have hts : ∀ w ∈ xT, w.before _ s = true := fun w h9 => atoms_spec (ws := vsX1_isFirstAlone) B.pre w (List.mem_cons_of_mem _ h9)
  have hown : s.vm.findClass RX1 = some m.cls := findClass_of_methodNamed B.named
  have hlocks := B.notSynchronized
  have hW : nb_W G xc_sh s.heap σ s.heap [] := ⟨hP, va_S.rf⟩
  have hl := lv_entry ([.ref (G.2.1 64), .int a0]) (n := 3) (Nat.le_of_ble_eq_true rfl)
  rw [lg_entry_eq]
  generalize (lg_sl ([.ref (G.2.1 64), .int a0]) ++ List.replicate (3 - (lg_sl ([.ref (G.2.1 64), .int a0])).length) Slot.unset).toArray = ls at hl ⊢
  have hl : lv_has ls 3 [(0, .ref (G.2.1 64)), (1, .int a0)] := hl
  show W p l e rmX1_isFirstAlone s m ([.ref (G.2.1 64), .int a0]).toArray below meth c s.heap [] 0 0 (MQ below (nb_Qi G xc_sh (xc_Z (nb_A xc_sh G.2.1) tb) ro σ) ([.ref (G.2.1 64), .int a0]).toArray s 0 0 (nb_A xc_sh G.2.1)) (F0 m 0 ls [])
  generalize hargs : ([.ref (G.2.1 64), .int a0] : List Value).toArray = args at hts ⊢
  unfold fX1_isFirstAlone at hf
  obtain ⟨H, eH⟩ : ∃ H, H = s.heap := ⟨_, rfl⟩
  obtain ⟨locs, eL⟩ : ∃ L : List Loc, L = [] := ⟨_, rfl⟩
  have hW : nb_W G xc_sh s.heap σ H locs := by rw [eH, eL]; exact hW
  suffices hgo : W p l e rmX1_isFirstAlone s m args below meth c H locs 0 0 (MQ below (nb_Qi G xc_sh (xc_Z (nb_A xc_sh G.2.1) tb) ro σ) args s 0 0 (nb_A xc_sh G.2.1)) (F0 m 0 ls []) by rw [eH, eL] at hgo; exact hgo
  clear eH eL
  refine lv_iconst (v := (0 : Int32)) hx hb dX1_isFirstAlone_0 (by decide) ?_
  refine lv_istore_n (lv' := [(2, .int (0 : Int32)), (0, .ref (G.2.1 64)), (1, .int a0)]) hx hb dX1_isFirstAlone_1 rfl hl (by decide) rfl (fun ls hl => ?_)
  refine nb_w1 (P := fun (x1 : Int32) => ∀ (H : Heap) (locs : List Loc) (ls : Array Slot), nb_W G xc_sh s.heap σ H locs → lv_has ls 3 [(0, .ref (G.2.1 64)), (1, .int a0), (2, .int x1)] → W p l e rmX1_isFirstAlone s m args below meth c H locs 0 0 (MQ below (nb_Qi G xc_sh (xc_Z (nb_A xc_sh G.2.1) tb) ro σ) args s 0 0 (nb_A xc_sh G.2.1)) (F0 m 2 ls [])) ?_ N _ hf H locs ls hW (lv_sub hl [1, 2, 0] rfl)
  intro ag2 ih3 x1 hf H locs ls hW hl
  refine lv_iload_n hx hb dX1_isFirstAlone_2 rfl (lv_at hl 2 rfl) ?_
  refine lv_aload_n hx hb dX1_isFirstAlone_3 rfl (lv_at hl 0 rfl) ?_
  refine nb_get (C := RX1) (T := TX1) (N := 9) hx hb hts inT_X1 hown hK hW 64 rfl rfl 1 (by decide) (hts _ tw1_239) (fun _ h9 => h9) rfl (v := .int (σ 64 1)) rfl dX1_isFirstAlone_4 ?_
  refine lv_icmp_ge (tgt := 38) hx hb dX1_isFirstAlone_7 (by decide) (fun c4 => ?_) (fun c4 => ?_)
  · rw [if_pos c4] at hf
    refine lv_iconst (v := (1 : Int32)) hx hb dX1_isFirstAlone_38 (by decide) ?_
    exact nb_rzp hx hb hr hlocks hK hZ hZo hW rfl hf dX1_isFirstAlone_39
  · rw [if_neg c4] at hf
    refine lv_iload_n hx hb dX1_isFirstAlone_10 rfl (lv_at hl 2 rfl) ?_
    refine lv_iload_n hx hb dX1_isFirstAlone_11 rfl (lv_at hl 1 rfl) ?_
    obtain ⟨k5, ek5, hf⟩ := nb_let_e hf
    have w6 : ∀ (_u : Unit) (H : Heap) (locs : List Loc) (ls : Array Slot), k5 _u = some ro → nb_W G xc_sh s.heap σ H locs → lv_has ls 3 [(0, .ref (G.2.1 64)), (1, .int a0), (2, .int x1)] → W p l e rmX1_isFirstAlone s m args below meth c H locs 0 0 (MQ below (nb_Qi G xc_sh (xc_Z (nb_A xc_sh G.2.1) tb) ro σ) args s 0 0 (nb_A xc_sh G.2.1)) (F0 m 32 ls []) := by
      intro _u H locs ls hf hW hl
      have hf := (congrFun ek5 _u).symm.trans hf
      refine lv_iinc (v := (x1 + 1)) (lv' := [(2, .int (x1 + 1)), (0, .ref (G.2.1 64)), (1, .int a0)]) hx hb dX1_isFirstAlone_32 hl (k := 2) rfl rfl (by decide) rfl (fun ls hl => ?_)
      refine lv_goto (tgt := 2) hx hb dX1_isFirstAlone_35 (by decide) ?_
      exact ih3 _ hf _ _ _ hW (lv_sub hl [1, 2, 0] rfl)
    clear ek5
    refine lv_icmp_eq (tgt := 32) hx hb dX1_isFirstAlone_12 (by decide) (fun c7 => ?_) (fun c7 => ?_)
    · rw [if_pos c7] at hf
      exact w6 ()  _ _ _ hf hW (lv_sub hl [0, 1, 2] rfl)
    · rw [if_neg c7] at hf
      refine lv_aload_n hx hb dX1_isFirstAlone_15 rfl (lv_at hl 0 rfl) ?_
      refine nb_get (C := RX1) (T := TX1) (N := 9) hx hb hts inT_X1 hown hK hW 64 rfl rfl 4 (by decide) (hts _ tw2_3) (fun _ h9 => h9) rfl (v := .ref (G.2.1 67)) rfl dX1_isFirstAlone_16 ?_
      refine lv_iload_n hx hb dX1_isFirstAlone_19 rfl (lv_at hl 2 rfl) ?_
      obtain ⟨g8, hf⟩ := nb_g_e hf
      refine nb_iald hx hb hK hW 67 rfl g8 dX1_isFirstAlone_20 ?_
      refine lv_aload_n hx hb dX1_isFirstAlone_21 rfl (lv_at hl 0 rfl) ?_
      refine nb_get (C := RX1) (T := TX1) (N := 9) hx hb hts inT_X1 hown hK hW 64 rfl rfl 4 (by decide) (hts _ tw2_3) (fun _ h9 => h9) rfl (v := .ref (G.2.1 67)) rfl dX1_isFirstAlone_22 ?_
      refine lv_iload_n hx hb dX1_isFirstAlone_25 rfl (lv_at hl 1 rfl) ?_
      obtain ⟨g9, hf⟩ := nb_g_e hf
      refine nb_iald hx hb hK hW 67 rfl g9 dX1_isFirstAlone_26 ?_
      refine lv_icmp_gt (tgt := 32) hx hb dX1_isFirstAlone_27 (by decide) (fun c10 => ?_) (fun c10 => ?_)
      · rw [if_pos c10] at hf
        exact w6 ()  _ _ _ hf hW (lv_sub hl [0, 1, 2] rfl)
      · rw [if_neg c10] at hf
        refine lv_iconst (v := (0 : Int32)) hx hb dX1_isFirstAlone_30 (by decide) ?_
        exact nb_rzp hx hb hr hlocks hK hZ hZo hW rfl hf dX1_isFirstAlone_31
def fX1_costOf (N : Nat) (σ : nb_St) (a0 : Int32) : Option Int32 :=
  nb_g (nb_in a0 4) (
  nb_g (nb_in a0 4) (
  nb_let (nb_abs (((180 : Int32) + ((30 : Int32) * (σ 67 (nb_ix a0)))) - (σ 65 (nb_ix a0)))) fun v3 =>
  nb_b (fX1_isFirstAlone N σ a0) fun r5 =>
  (if r5 = 0 then
  some v3
  else
  nb_g (nb_in a0 4) (
  some (v3 + (σ 66 (nb_ix a0)))))))
def rmX1_costOf : Room := { frames := 1, cells := 0, slots := 0, locals := 22 }
def vsX1_costOf : List Cond := .code yX1_costOf cX1_costOf 3 (some .int) :: xT
set_option maxHeartbeats 4000000 in
set_option maxRecDepth 100000 in
theorem c_X1_costOf (l : Launch) {G : nb_G} {tb : Nat → Nat} (hinj : nb_inj xc_sh G.2.1) (hZo : nb_Zok (nb_A xc_sh G.2.1) (xc_Z (nb_A xc_sh G.2.1) tb)) {N : Nat} {σ : nb_St} {a0 : Int32} {ro : Int32} (hf : fX1_costOf N σ a0 = some ro)  : Met l yX1_costOf vsX1_costOf rmX1_costOf (nb_Pc G xc_sh (xc_Z (nb_A xc_sh G.2.1) tb) σ [.ref (G.2.1 64), .int a0]) (nb_Qi G xc_sh (xc_Z (nb_A xc_sh G.2.1) tb) ro σ) 0 0 (nb_A xc_sh G.2.1) := by
  refine Met.ofW (cc := cX1_costOf) (maxL := 3) (ret := (some .int)) (by decide) rfl ?_
  intro p e s m args below meth c s₁ B hml hv
  obtain ⟨rfl, hP, hK, hZ⟩ := hv
  have hx := B.exec
  have hb := B.bytes
  have hr := B.returns
  have hts : ∀ w ∈ xT, w.before _ s = true := fun w h9 => atoms_spec (ws := vsX1_costOf) B.pre w (List.mem_cons_of_mem _ h9)
  have hown : s.vm.findClass RX1 = some m.cls := findClass_of_methodNamed B.named
  have hlocks := B.notSynchronized
  have hW : nb_W G xc_sh s.heap σ s.heap [] := ⟨hP, va_S.rf⟩
  have hl := lv_entry ([.ref (G.2.1 64), .int a0]) (n := 3) (Nat.le_of_ble_eq_true rfl)
  rw [lg_entry_eq]
  generalize (lg_sl ([.ref (G.2.1 64), .int a0]) ++ List.replicate (3 - (lg_sl ([.ref (G.2.1 64), .int a0])).length) Slot.unset).toArray = ls at hl ⊢
  have hl : lv_has ls 3 [(0, .ref (G.2.1 64)), (1, .int a0)] := hl
  show W p l e rmX1_costOf s m ([.ref (G.2.1 64), .int a0]).toArray below meth c s.heap [] 0 0 (MQ below (nb_Qi G xc_sh (xc_Z (nb_A xc_sh G.2.1) tb) ro σ) ([.ref (G.2.1 64), .int a0]).toArray s 0 0 (nb_A xc_sh G.2.1)) (F0 m 0 ls [])
  generalize hargs : ([.ref (G.2.1 64), .int a0] : List Value).toArray = args at hts ⊢
  unfold fX1_costOf at hf
  obtain ⟨H, eH⟩ : ∃ H, H = s.heap := ⟨_, rfl⟩
  obtain ⟨locs, eL⟩ : ∃ L : List Loc, L = [] := ⟨_, rfl⟩
  have hW : nb_W G xc_sh s.heap σ H locs := by rw [eH, eL]; exact hW
  suffices hgo : W p l e rmX1_costOf s m args below meth c H locs 0 0 (MQ below (nb_Qi G xc_sh (xc_Z (nb_A xc_sh G.2.1) tb) ro σ) args s 0 0 (nb_A xc_sh G.2.1)) (F0 m 0 ls []) by rw [eH, eL] at hgo; exact hgo
  clear eH eL
  refine lv_sipush (v := (180 : Int32)) hx hb dX1_costOf_0 (by decide) ?_
  refine lv_bipush (v := (30 : Int32)) hx hb dX1_costOf_3 (by decide) ?_
  refine lv_aload_n hx hb dX1_costOf_5 rfl (lv_at hl 0 rfl) ?_
  refine nb_get (C := RX1) (T := TX1) (N := 9) hx hb hts inT_X1 hown hK hW 64 rfl rfl 4 (by decide) (hts _ tw2_3) (fun _ h9 => h9) rfl (v := .ref (G.2.1 67)) rfl dX1_costOf_6 ?_
  refine lv_iload_n hx hb dX1_costOf_9 rfl (lv_at hl 1 rfl) ?_
  obtain ⟨g1, hf⟩ := nb_g_e hf
  refine nb_iald hx hb hK hW 67 rfl g1 dX1_costOf_10 ?_
  refine lv_imul hx hb dX1_costOf_11 ?_
  refine lv_iadd hx hb dX1_costOf_12 ?_
  refine lv_aload_n hx hb dX1_costOf_13 rfl (lv_at hl 0 rfl) ?_
  refine nb_get (C := RX1) (T := TX1) (N := 9) hx hb hts inT_X1 hown hK hW 64 rfl rfl 2 (by decide) (hts _ tw2_1) (fun _ h9 => h9) rfl (v := .ref (G.2.1 65)) rfl dX1_costOf_14 ?_
  refine lv_iload_n hx hb dX1_costOf_17 rfl (lv_at hl 1 rfl) ?_
  obtain ⟨g2, hf⟩ := nb_g_e hf
  refine nb_iald hx hb hK hW 65 rfl g2 dX1_costOf_18 ?_
  refine lv_isub hx hb dX1_costOf_19 ?_
  refine va_mabs hx hb (hml.trans hl.1.symm) hown (hts _ tw3_219) (hts _ tw3_133) (hts _ tw1_9) (hts _ tw3_134) (Nat.le_of_ble_eq_true rfl) (Nat.le_of_ble_eq_true rfl) (Nat.zero_le _) (Nat.zero_le _) dX1_costOf_20 ?_
  show W p l e rmX1_costOf s m args below meth c H locs 0 0 (MQ below (nb_Qi G xc_sh (xc_Z (nb_A xc_sh G.2.1) tb) ro σ) args s 0 0 (nb_A xc_sh G.2.1)) (F0 m 23 ls [.int (nb_abs (((180 : Int32) + ((30 : Int32) * (σ 67 (nb_ix a0)))) - (σ 65 (nb_ix a0))))])
  obtain ⟨v3, ev3, hf⟩ := nb_let_e hf
  refine nb_nami ev3 ?_
  refine lv_istore_n (lv' := [(2, .int v3), (0, .ref (G.2.1 64)), (1, .int a0)]) hx hb dX1_costOf_23 rfl hl (by decide) rfl (fun ls hl => ?_)
  refine lv_aload_n hx hb dX1_costOf_24 rfl (lv_at hl 1 rfl) ?_
  refine lv_iload_n hx hb dX1_costOf_25 rfl (lv_at hl 2 rfl) ?_
  obtain ⟨r5, hc4, hf⟩ := nb_b_e hf
  refine nb_ci hW (va_runV (As := [.int a0]) (rest := []) ⟨hx, hb, hml, hown, hts⟩ (c_X1_isFirstAlone l hinj hZo (N := N) hc4 ) (cwV 1 hts (xg_V tw3_220 tw3_222 tp1_14 tw1_7 tw3_223) rfl rfl rfl (by decide +kernel) ⟨Nat.le_of_ble_eq_true rfl, Nat.le_of_ble_eq_true rfl⟩) (nb_preV hK hZ hZo hW (k := 64) rfl rfl) rfl rfl hl.1 rfl (lv_room (Nat.le_of_ble_eq_true rfl)) dX1_costOf_26 ⟨Nat.zero_le _, Nat.zero_le _⟩) (fun H locs hW => ?_)
  refine lv_if_eq (tgt := 43) hx hb dX1_costOf_29 (by decide) (fun c6 => ?_) (fun c6 => ?_)
  · rw [if_pos c6] at hf
    refine lv_iload_n hx hb dX1_costOf_43 rfl (lv_at hl 0 rfl) ?_
    exact nb_rip hx hb hr hlocks hK hZ hZo hW  hf dX1_costOf_44
  · rw [if_neg c6] at hf
    refine lv_iload_n hx hb dX1_costOf_32 rfl (lv_at hl 0 rfl) ?_
    refine lv_aload_n hx hb dX1_costOf_33 rfl (lv_at hl 1 rfl) ?_
    refine nb_get (C := RX1) (T := TX1) (N := 9) hx hb hts inT_X1 hown hK hW 64 rfl rfl 3 (by decide) (hts _ tw2_2) (fun _ h9 => h9) rfl (v := .ref (G.2.1 66)) rfl dX1_costOf_34 ?_
    refine lv_iload_n hx hb dX1_costOf_37 rfl (lv_at hl 2 rfl) ?_
    obtain ⟨g7, hf⟩ := nb_g_e hf
    refine nb_iald hx hb hK hW 66 rfl g7 dX1_costOf_38 ?_
    refine lv_iadd hx hb dX1_costOf_39 ?_
    refine lv_goto (tgt := 44) hx hb dX1_costOf_40 (by decide) ?_
    exact nb_rip hx hb hr hlocks hK hZ hZo hW  hf dX1_costOf_44
def fX1_choose (N : Nat) (σ : nb_St) (a0 : Int32) : Option nb_St :=
  nb_let ((σ 64 1) - (1 : Int32)) fun x1 =>
  nb_lp3 (R := nb_St) (fun ag5 (x2 : Int32) (x3 : Int32) (σ4 : nb_St) =>
  (if x3 < 0 then
  some σ4
  else
  nb_g (nb_in x3 4) (
  nb_let (nb_st σ4 67 (nb_ix x3) (nb_rem x2 (6 : Int32))) fun σ9 =>
  nb_let (x2 / (6 : Int32)) fun x10 =>
  ag5 x10 (x3 + (-1)) σ9))) N a0 x1 σ
def rmX1_choose : Room := { frames := 0, cells := 0, slots := 0, locals := 0 }
def vsX1_choose : List Cond := .code yX1_choose cX1_choose 4 none :: xT
set_option maxHeartbeats 4000000 in
set_option maxRecDepth 100000 in
theorem c_X1_choose (l : Launch) {G : nb_G} {tb : Nat → Nat} (hinj : nb_inj xc_sh G.2.1) (hZo : nb_Zok (nb_A xc_sh G.2.1) (xc_Z (nb_A xc_sh G.2.1) tb)) {N : Nat} {σ : nb_St} {a0 : Int32} {σo : nb_St} (hf : fX1_choose N σ a0 = some σo)  : Met l yX1_choose vsX1_choose rmX1_choose (nb_Pc G xc_sh (xc_Z (nb_A xc_sh G.2.1) tb) σ [.ref (G.2.1 64), .int a0]) (nb_Qv G xc_sh (xc_Z (nb_A xc_sh G.2.1) tb) σo) 0 0 (nb_A xc_sh G.2.1) := by
  refine Met.ofW (cc := cX1_choose) (maxL := 4) (ret := none) (by decide) rfl ?_
  intro p e s m args below meth c s₁ B hml hv
  obtain ⟨rfl, hP, hK, hZ⟩ := hv
  have hx := B.exec
  have hb := B.bytes
  have hr := B.returns
  have hts : ∀ w ∈ xT, w.before _ s = true := fun w h9 => atoms_spec (ws := vsX1_choose) B.pre w (List.mem_cons_of_mem _ h9)
  have hown : s.vm.findClass RX1 = some m.cls := findClass_of_methodNamed B.named
  have hlocks := B.notSynchronized
  have hW : nb_W G xc_sh s.heap σ s.heap [] := ⟨hP, va_S.rf⟩
  have hl := lv_entry ([.ref (G.2.1 64), .int a0]) (n := 4) (Nat.le_of_ble_eq_true rfl)
  rw [lg_entry_eq]
  generalize (lg_sl ([.ref (G.2.1 64), .int a0]) ++ List.replicate (4 - (lg_sl ([.ref (G.2.1 64), .int a0])).length) Slot.unset).toArray = ls at hl ⊢
  have hl : lv_has ls 4 [(0, .ref (G.2.1 64)), (1, .int a0)] := hl
  show W p l e rmX1_choose s m ([.ref (G.2.1 64), .int a0]).toArray below meth c s.heap [] 0 0 (MQ below (nb_Qv G xc_sh (xc_Z (nb_A xc_sh G.2.1) tb) σo) ([.ref (G.2.1 64), .int a0]).toArray s 0 0 (nb_A xc_sh G.2.1)) (F0 m 0 ls [])
  generalize hargs : ([.ref (G.2.1 64), .int a0] : List Value).toArray = args at hts ⊢
  unfold fX1_choose at hf
  obtain ⟨H, eH⟩ : ∃ H, H = s.heap := ⟨_, rfl⟩
  obtain ⟨locs, eL⟩ : ∃ L : List Loc, L = [] := ⟨_, rfl⟩
  have hW : nb_W G xc_sh s.heap σ H locs := by rw [eH, eL]; exact hW
  suffices hgo : W p l e rmX1_choose s m args below meth c H locs 0 0 (MQ below (nb_Qv G xc_sh (xc_Z (nb_A xc_sh G.2.1) tb) σo) args s 0 0 (nb_A xc_sh G.2.1)) (F0 m 0 ls []) by rw [eH, eL] at hgo; exact hgo
  clear eH eL
  refine lv_iload_n hx hb dX1_choose_0 rfl (lv_at hl 1 rfl) ?_
  refine lv_istore_n (lv' := [(2, .int a0), (0, .ref (G.2.1 64)), (1, .int a0)]) hx hb dX1_choose_1 rfl hl (by decide) rfl (fun ls hl => ?_)
  refine lv_aload_n hx hb dX1_choose_2 rfl (lv_at hl 1 rfl) ?_
  refine nb_get (C := RX1) (T := TX1) (N := 9) hx hb hts inT_X1 hown hK hW 64 rfl rfl 1 (by decide) (hts _ tw1_239) (fun _ h9 => h9) rfl (v := .int (σ 64 1)) rfl dX1_choose_3 ?_
  refine lv_iconst (v := (1 : Int32)) hx hb dX1_choose_6 (by decide) ?_
  refine lv_isub hx hb dX1_choose_7 ?_
  obtain ⟨x1, ex1, hf⟩ := nb_let_e hf
  refine nb_nami ex1 ?_
  refine lv_istore_n (lv' := [(3, .int x1), (2, .int a0), (0, .ref (G.2.1 64)), (1, .int a0)]) hx hb dX1_choose_8 rfl hl (by decide) rfl (fun ls hl => ?_)
  refine nb_w3 (P := fun (x2 : Int32) (x3 : Int32) (σ4 : nb_St) => ∀ (H : Heap) (locs : List Loc) (ls : Array Slot), nb_W G xc_sh s.heap σ4 H locs → lv_has ls 4 [(0, .ref (G.2.1 64)), (2, .int x2), (3, .int x3)] → W p l e rmX1_choose s m args below meth c H locs 0 0 (MQ below (nb_Qv G xc_sh (xc_Z (nb_A xc_sh G.2.1) tb) σo) args s 0 0 (nb_A xc_sh G.2.1)) (F0 m 9 ls [])) ?_ N _ _ _ hf H locs ls hW (lv_sub hl [2, 1, 0] rfl)
  intro ag5 ih6 x2 x3 σ4 hf H locs ls hW hl
  refine lv_iload_n hx hb dX1_choose_9 rfl (lv_at hl 2 rfl) ?_
  refine lv_if_lt (tgt := 34) hx hb dX1_choose_10 (by decide) (fun c7 => ?_) (fun c7 => ?_)
  · rw [if_pos c7] at hf
    exact nb_rv hx hb hr hlocks hK hZ hZo hW hf dX1_choose_34
  · rw [if_neg c7] at hf
    refine lv_aload_n hx hb dX1_choose_13 rfl (lv_at hl 0 rfl) ?_
    refine nb_get (C := RX1) (T := TX1) (N := 9) hx hb hts inT_X1 hown hK hW 64 rfl rfl 4 (by decide) (hts _ tw2_3) (fun _ h9 => h9) rfl (v := .ref (G.2.1 67)) rfl dX1_choose_14 ?_
    refine lv_iload_n hx hb dX1_choose_17 rfl (lv_at hl 2 rfl) ?_
    refine lv_iload_n hx hb dX1_choose_18 rfl (lv_at hl 1 rfl) ?_
    refine lv_bipush (v := (6 : Int32)) hx hb dX1_choose_19 (by decide) ?_
    refine nb_irem hx hb dX1_choose_21 (by decide) ?_
    obtain ⟨g8, hf⟩ := nb_g_e hf
    obtain ⟨σ9, eσ9, hf⟩ := nb_let_e hf
    refine nb_iast hx hb hK hinj hW 67 rfl g8 eσ9 dX1_choose_22 (fun H locs hW => ?_)
    refine lv_iload_n hx hb dX1_choose_23 rfl (lv_at hl 1 rfl) ?_
    refine lv_bipush (v := (6 : Int32)) hx hb dX1_choose_24 (by decide) ?_
    refine lv_idiv hx hb dX1_choose_26 (by decide) ?_
    obtain ⟨x10, ex10, hf⟩ := nb_let_e hf
    refine nb_nami ex10 ?_
    refine lv_istore_n (lv' := [(2, .int x10), (0, .ref (G.2.1 64)), (3, .int x3)]) hx hb dX1_choose_27 rfl hl (by decide) rfl (fun ls hl => ?_)
    refine lv_iinc (v := (x3 + (-1))) (lv' := [(3, .int (x3 + (-1))), (2, .int x10), (0, .ref (G.2.1 64))]) hx hb dX1_choose_28 hl (k := 2) rfl rfl (by decide) rfl (fun ls hl => ?_)
    refine lv_goto (tgt := 9) hx hb dX1_choose_31 (by decide) ?_
    exact ih6 _ _ _ hf _ _ _ hW (lv_sub hl [2, 1, 0] rfl)
def fX1_wouldRatherMove (N : Nat) (σ : nb_St) (a0 : Int32) : Option (Int32 × nb_St) :=
  nb_g (nb_in a0 4) (
  nb_let (σ 67 (nb_ix a0)) fun x2 =>
  nb_b (fX1_costOf N σ a0) fun r4 =>
  nb_lp3 (R := (Int32 × nb_St)) (fun ag8 (x5 : Int32) (x6 : Int32) (σ7 : nb_St) =>
  nb_let (fun (_u : Unit) =>
  nb_g (nb_in a0 4) (
  nb_let (nb_st σ7 67 (nb_ix a0) x2) fun σ13 =>
  nb_g (nb_01 x5) (
  some (x5, σ13)))) fun k10 =>
  (if (6 : Int32) ≤ x6 then
  k10 ()
  else
  (if x5 = 0 then
  nb_g (nb_in a0 4) (
  nb_let (nb_st σ7 67 (nb_ix a0) x6) fun σ18 =>
  nb_b (fX1_costOf N σ18 a0) fun r20 =>
  nb_let (fun (v23 : Int32) =>
  ag8 v23 (x6 + 1) σ18) fun k21 =>
  (if r4 ≤ r20 then
  k21 (0 : Int32)
  else
  k21 (1 : Int32)))
  else
  k10 ()))) N (0 : Int32) (0 : Int32) σ)
def rmX1_wouldRatherMove : Room := { frames := 2, cells := 0, slots := 0, locals := 44 }
def vsX1_wouldRatherMove : List Cond := .code yX1_wouldRatherMove cX1_wouldRatherMove 6 (some .boolean) :: xT
set_option maxHeartbeats 4000000 in
set_option maxRecDepth 100000 in
theorem c_X1_wouldRatherMove (l : Launch) {G : nb_G} {tb : Nat → Nat} (hinj : nb_inj xc_sh G.2.1) (hZo : nb_Zok (nb_A xc_sh G.2.1) (xc_Z (nb_A xc_sh G.2.1) tb)) {N : Nat} {σ : nb_St} {a0 : Int32} {ro : Int32} {σo : nb_St} (hf : fX1_wouldRatherMove N σ a0 = some (ro, σo))  : Met l yX1_wouldRatherMove vsX1_wouldRatherMove rmX1_wouldRatherMove (nb_Pc G xc_sh (xc_Z (nb_A xc_sh G.2.1) tb) σ [.ref (G.2.1 64), .int a0]) (nb_Qi G xc_sh (xc_Z (nb_A xc_sh G.2.1) tb) ro σo) 0 0 (nb_A xc_sh G.2.1) := by
  refine Met.ofW (cc := cX1_wouldRatherMove) (maxL := 6) (ret := (some .boolean)) (by decide) rfl ?_
  intro p e s m args below meth c s₁ B hml hv
  obtain ⟨rfl, hP, hK, hZ⟩ := hv
  have hx := B.exec
  have hb := B.bytes
  have hr := B.returns
  have hts : ∀ w ∈ xT, w.before _ s = true := fun w h9 => atoms_spec (ws := vsX1_wouldRatherMove) B.pre w (List.mem_cons_of_mem _ h9)
  have hown : s.vm.findClass RX1 = some m.cls := findClass_of_methodNamed B.named
  have hlocks := B.notSynchronized
  have hW : nb_W G xc_sh s.heap σ s.heap [] := ⟨hP, va_S.rf⟩
  have hl := lv_entry ([.ref (G.2.1 64), .int a0]) (n := 6) (Nat.le_of_ble_eq_true rfl)
  rw [lg_entry_eq]
  generalize (lg_sl ([.ref (G.2.1 64), .int a0]) ++ List.replicate (6 - (lg_sl ([.ref (G.2.1 64), .int a0])).length) Slot.unset).toArray = ls at hl ⊢
  have hl : lv_has ls 6 [(0, .ref (G.2.1 64)), (1, .int a0)] := hl
  show W p l e rmX1_wouldRatherMove s m ([.ref (G.2.1 64), .int a0]).toArray below meth c s.heap [] 0 0 (MQ below (nb_Qi G xc_sh (xc_Z (nb_A xc_sh G.2.1) tb) ro σo) ([.ref (G.2.1 64), .int a0]).toArray s 0 0 (nb_A xc_sh G.2.1)) (F0 m 0 ls [])
  generalize hargs : ([.ref (G.2.1 64), .int a0] : List Value).toArray = args at hts ⊢
  unfold fX1_wouldRatherMove at hf
  obtain ⟨H, eH⟩ : ∃ H, H = s.heap := ⟨_, rfl⟩
  obtain ⟨locs, eL⟩ : ∃ L : List Loc, L = [] := ⟨_, rfl⟩
  have hW : nb_W G xc_sh s.heap σ H locs := by rw [eH, eL]; exact hW
  suffices hgo : W p l e rmX1_wouldRatherMove s m args below meth c H locs 0 0 (MQ below (nb_Qi G xc_sh (xc_Z (nb_A xc_sh G.2.1) tb) ro σo) args s 0 0 (nb_A xc_sh G.2.1)) (F0 m 0 ls []) by rw [eH, eL] at hgo; exact hgo
  clear eH eL
  refine lv_aload_n hx hb dX1_wouldRatherMove_0 rfl (lv_at hl 0 rfl) ?_
  refine nb_get (C := RX1) (T := TX1) (N := 9) hx hb hts inT_X1 hown hK hW 64 rfl rfl 4 (by decide) (hts _ tw2_3) (fun _ h9 => h9) rfl (v := .ref (G.2.1 67)) rfl dX1_wouldRatherMove_1 ?_
  refine lv_iload_n hx hb dX1_wouldRatherMove_4 rfl (lv_at hl 1 rfl) ?_
  obtain ⟨g1, hf⟩ := nb_g_e hf
  refine nb_iald hx hb hK hW 67 rfl g1 dX1_wouldRatherMove_5 ?_
  obtain ⟨x2, ex2, hf⟩ := nb_let_e hf
  refine nb_nami ex2 ?_
  refine lv_istore_n (lv' := [(2, .int x2), (0, .ref (G.2.1 64)), (1, .int a0)]) hx hb dX1_wouldRatherMove_6 rfl hl (by decide) rfl (fun ls hl => ?_)
  refine lv_aload_n hx hb dX1_wouldRatherMove_7 rfl (lv_at hl 1 rfl) ?_
  refine lv_iload_n hx hb dX1_wouldRatherMove_8 rfl (lv_at hl 2 rfl) ?_
  obtain ⟨r4, hc3, hf⟩ := nb_b_e hf
  refine nb_ci hW (va_runV (As := [.int a0]) (rest := []) ⟨hx, hb, hml, hown, hts⟩ (c_X1_costOf l hinj hZo (N := N) hc3 ) (cwV 1 hts (xg_V tw4_1 tw3_216 tw3_217 tw1_7 tw3_218) rfl rfl rfl (by decide +kernel) ⟨Nat.le_of_ble_eq_true rfl, Nat.le_of_ble_eq_true rfl⟩) (nb_preV hK hZ hZo hW (k := 64) rfl rfl) rfl rfl hl.1 rfl (lv_room (Nat.le_of_ble_eq_true rfl)) dX1_wouldRatherMove_9 ⟨Nat.zero_le _, Nat.zero_le _⟩) (fun H locs hW => ?_)
  refine lv_istore_n (lv' := [(3, .int r4), (2, .int x2), (0, .ref (G.2.1 64)), (1, .int a0)]) hx hb dX1_wouldRatherMove_12 rfl hl (by decide) rfl (fun ls hl => ?_)
  refine lv_iconst (v := (0 : Int32)) hx hb dX1_wouldRatherMove_13 (by decide) ?_
  refine lv_istore (lv' := [(4, .int (0 : Int32)), (3, .int r4), (2, .int x2), (0, .ref (G.2.1 64)), (1, .int a0)]) hx hb dX1_wouldRatherMove_14 hl (by decide) rfl (fun ls hl => ?_)
  refine lv_iconst (v := (0 : Int32)) hx hb dX1_wouldRatherMove_16 (by decide) ?_
  refine lv_istore (lv' := [(5, .int (0 : Int32)), (4, .int (0 : Int32)), (3, .int r4), (2, .int x2), (0, .ref (G.2.1 64)), (1, .int a0)]) hx hb dX1_wouldRatherMove_17 hl (by decide) rfl (fun ls hl => ?_)
  refine nb_w3 (P := fun (x5 : Int32) (x6 : Int32) (σ7 : nb_St) => ∀ (H : Heap) (locs : List Loc) (ls : Array Slot), nb_W G xc_sh s.heap σ7 H locs → lv_has ls 6 [(0, .ref (G.2.1 64)), (1, .int a0), (2, .int x2), (3, .int r4), (4, .int x5), (5, .int x6)] → W p l e rmX1_wouldRatherMove s m args below meth c H locs 0 0 (MQ below (nb_Qi G xc_sh (xc_Z (nb_A xc_sh G.2.1) tb) ro σo) args s 0 0 (nb_A xc_sh G.2.1)) (F0 m 19 ls [])) ?_ N _ _ _ hf H locs ls hW (lv_sub hl [4, 5, 3, 2, 1, 0] rfl)
  intro ag8 ih9 x5 x6 σ7 hf H locs ls hW hl
  refine lv_iload hx hb dX1_wouldRatherMove_19 (lv_at hl 5 rfl) ?_
  refine lv_bipush (v := (6 : Int32)) hx hb dX1_wouldRatherMove_21 (by decide) ?_
  obtain ⟨k10, ek10, hf⟩ := nb_let_e hf
  have w11 : ∀ (_u : Unit) (H : Heap) (locs : List Loc) (ls : Array Slot), k10 _u = some (ro, σo) → nb_W G xc_sh s.heap σ7 H locs → lv_has ls 6 [(0, .ref (G.2.1 64)), (1, .int a0), (2, .int x2), (4, .int x5)] → W p l e rmX1_wouldRatherMove s m args below meth c H locs 0 0 (MQ below (nb_Qi G xc_sh (xc_Z (nb_A xc_sh G.2.1) tb) ro σo) args s 0 0 (nb_A xc_sh G.2.1)) (F0 m 61 ls []) := by
    intro _u H locs ls hf hW hl
    have hf := (congrFun ek10 _u).symm.trans hf
    refine lv_aload_n hx hb dX1_wouldRatherMove_61 rfl (lv_at hl 0 rfl) ?_
    refine nb_get (C := RX1) (T := TX1) (N := 9) hx hb hts inT_X1 hown hK hW 64 rfl rfl 4 (by decide) (hts _ tw2_3) (fun _ h9 => h9) rfl (v := .ref (G.2.1 67)) rfl dX1_wouldRatherMove_62 ?_
    refine lv_iload_n hx hb dX1_wouldRatherMove_65 rfl (lv_at hl 1 rfl) ?_
    refine lv_iload_n hx hb dX1_wouldRatherMove_66 rfl (lv_at hl 2 rfl) ?_
    obtain ⟨g12, hf⟩ := nb_g_e hf
    obtain ⟨σ13, eσ13, hf⟩ := nb_let_e hf
    refine nb_iast hx hb hK hinj hW 67 rfl g12 eσ13 dX1_wouldRatherMove_67 (fun H locs hW => ?_)
    refine lv_iload hx hb dX1_wouldRatherMove_68 (lv_at hl 3 rfl) ?_
    obtain ⟨g14, hf⟩ := nb_g_e hf
    exact nb_rz hx hb hr hlocks hK hZ hZo hW (nb_01_n g14) hf dX1_wouldRatherMove_70
  clear ek10
  refine lv_icmp_ge (tgt := 61) hx hb dX1_wouldRatherMove_23 (by decide) (fun c15 => ?_) (fun c15 => ?_)
  · rw [if_pos c15] at hf
    exact w11 ()  _ _ _ hf hW (lv_sub hl [0, 1, 2, 4] rfl)
  · rw [if_neg c15] at hf
    refine lv_iload hx hb dX1_wouldRatherMove_26 (lv_at hl 4 rfl) ?_
    refine lv_if_ne (tgt := 61) hx hb dX1_wouldRatherMove_28 (by decide) (fun c16 => ?_) (fun c16 => ?_)
    · rw [if_neg c16] at hf
      exact w11 ()  _ _ _ hf hW (lv_sub hl [0, 1, 2, 4] rfl)
    · rw [if_pos c16] at hf
      refine lv_aload_n hx hb dX1_wouldRatherMove_31 rfl (lv_at hl 0 rfl) ?_
      refine nb_get (C := RX1) (T := TX1) (N := 9) hx hb hts inT_X1 hown hK hW 64 rfl rfl 4 (by decide) (hts _ tw2_3) (fun _ h9 => h9) rfl (v := .ref (G.2.1 67)) rfl dX1_wouldRatherMove_32 ?_
      refine lv_iload_n hx hb dX1_wouldRatherMove_35 rfl (lv_at hl 1 rfl) ?_
      refine lv_iload hx hb dX1_wouldRatherMove_36 (lv_at hl 5 rfl) ?_
      obtain ⟨g17, hf⟩ := nb_g_e hf
      obtain ⟨σ18, eσ18, hf⟩ := nb_let_e hf
      refine nb_iast hx hb hK hinj hW 67 rfl g17 eσ18 dX1_wouldRatherMove_38 (fun H locs hW => ?_)
      refine lv_aload_n hx hb dX1_wouldRatherMove_39 rfl (lv_at hl 0 rfl) ?_
      refine lv_iload_n hx hb dX1_wouldRatherMove_40 rfl (lv_at hl 1 rfl) ?_
      obtain ⟨r20, hc19, hf⟩ := nb_b_e hf
      refine nb_ci hW (va_runV (As := [.int a0]) (rest := []) ⟨hx, hb, hml, hown, hts⟩ (c_X1_costOf l hinj hZo (N := N) hc19 ) (cwV 1 hts (xg_V tw4_1 tw3_216 tw3_217 tw1_7 tw3_218) rfl rfl rfl (by decide +kernel) ⟨Nat.le_of_ble_eq_true rfl, Nat.le_of_ble_eq_true rfl⟩) (nb_preV hK hZ hZo hW (k := 64) rfl rfl) rfl rfl hl.1 rfl (lv_room (Nat.le_of_ble_eq_true rfl)) dX1_wouldRatherMove_41 ⟨Nat.zero_le _, Nat.zero_le _⟩) (fun H locs hW => ?_)
      refine lv_iload_n hx hb dX1_wouldRatherMove_44 rfl (lv_at hl 3 rfl) ?_
      obtain ⟨k21, ek21, hf⟩ := nb_let_e hf
      have w22 : ∀ (v23 : Int32) (H : Heap) (locs : List Loc) (ls : Array Slot), k21 v23 = some (ro, σo) → nb_W G xc_sh s.heap σ18 H locs → lv_has ls 6 [(0, .ref (G.2.1 64)), (1, .int a0), (2, .int x2), (3, .int r4), (5, .int x6)] → W p l e rmX1_wouldRatherMove s m args below meth c H locs 0 0 (MQ below (nb_Qi G xc_sh (xc_Z (nb_A xc_sh G.2.1) tb) ro σo) args s 0 0 (nb_A xc_sh G.2.1)) (F0 m 53 ls [.int v23]) := by
        intro v23 H locs ls hf hW hl
        have hf := (congrFun ek21 v23).symm.trans hf
        refine lv_istore (lv' := [(4, .int v23), (0, .ref (G.2.1 64)), (1, .int a0), (2, .int x2), (3, .int r4), (5, .int x6)]) hx hb dX1_wouldRatherMove_53 hl (by decide) rfl (fun ls hl => ?_)
        refine lv_iinc (v := (x6 + 1)) (lv' := [(5, .int (x6 + 1)), (4, .int v23), (0, .ref (G.2.1 64)), (1, .int a0), (2, .int x2), (3, .int r4)]) hx hb dX1_wouldRatherMove_55 hl (k := 5) rfl rfl (by decide) rfl (fun ls hl => ?_)
        refine lv_goto (tgt := 19) hx hb dX1_wouldRatherMove_58 (by decide) ?_
        exact ih9 _ _ _ hf _ _ _ hW (lv_sub hl [2, 3, 4, 5, 1, 0] rfl)
      clear ek21
      refine lv_icmp_ge (tgt := 52) hx hb dX1_wouldRatherMove_45 (by decide) (fun c24 => ?_) (fun c24 => ?_)
      · rw [if_pos c24] at hf
        refine lv_iconst (v := (0 : Int32)) hx hb dX1_wouldRatherMove_52 (by decide) ?_
        exact w22 _ _ _ _ hf hW (lv_sub hl [0, 1, 2, 3, 5] rfl)
      · rw [if_neg c24] at hf
        refine lv_iconst (v := (1 : Int32)) hx hb dX1_wouldRatherMove_48 (by decide) ?_
        refine lv_goto (tgt := 53) hx hb dX1_wouldRatherMove_49 (by decide) ?_
        exact w22 _ _ _ _ hf hW (lv_sub hl [0, 1, 2, 3, 5] rfl)
def fX1_isRest (N : Nat) (σ : nb_St)  : Option (Int32 × nb_St) :=
  nb_lp2 (R := (Int32 × nb_St)) (fun ag3 (x1 : Int32) (σ2 : nb_St) =>
  (if (σ2 64 1) ≤ x1 then
  some ((1 : Int32), σ2)
  else
  nb_b2 (fX1_wouldRatherMove N σ2 x1) fun r7 σ8 =>
  (if r7 = 0 then
  ag3 (x1 + 1) σ8
  else
  some ((0 : Int32), σ8)))) N (0 : Int32) σ
def rmX1_isRest : Room := { frames := 3, cells := 0, slots := 0, locals := 69 }
def vsX1_isRest : List Cond := .code yX1_isRest cX1_isRest 2 (some .boolean) :: xT
set_option maxHeartbeats 4000000 in
set_option maxRecDepth 100000 in
theorem c_X1_isRest (l : Launch) {G : nb_G} {tb : Nat → Nat} (hinj : nb_inj xc_sh G.2.1) (hZo : nb_Zok (nb_A xc_sh G.2.1) (xc_Z (nb_A xc_sh G.2.1) tb)) {N : Nat} {σ : nb_St}  {ro : Int32} {σo : nb_St} (hf : fX1_isRest N σ = some (ro, σo))  : Met l yX1_isRest vsX1_isRest rmX1_isRest (nb_Pc G xc_sh (xc_Z (nb_A xc_sh G.2.1) tb) σ [.ref (G.2.1 64)]) (nb_Qi G xc_sh (xc_Z (nb_A xc_sh G.2.1) tb) ro σo) 0 0 (nb_A xc_sh G.2.1) := by
  refine Met.ofW (cc := cX1_isRest) (maxL := 2) (ret := (some .boolean)) (by decide) rfl ?_
  intro p e s m args below meth c s₁ B hml hv
  obtain ⟨rfl, hP, hK, hZ⟩ := hv
  have hx := B.exec
  have hb := B.bytes
  have hr := B.returns
  have hts : ∀ w ∈ xT, w.before _ s = true := fun w h9 => atoms_spec (ws := vsX1_isRest) B.pre w (List.mem_cons_of_mem _ h9)
  have hown : s.vm.findClass RX1 = some m.cls := findClass_of_methodNamed B.named
  have hlocks := B.notSynchronized
  have hW : nb_W G xc_sh s.heap σ s.heap [] := ⟨hP, va_S.rf⟩
  have hl := lv_entry ([.ref (G.2.1 64)]) (n := 2) (Nat.le_of_ble_eq_true rfl)
  rw [lg_entry_eq]
  generalize (lg_sl ([.ref (G.2.1 64)]) ++ List.replicate (2 - (lg_sl ([.ref (G.2.1 64)])).length) Slot.unset).toArray = ls at hl ⊢
  have hl : lv_has ls 2 [(0, .ref (G.2.1 64))] := hl
  show W p l e rmX1_isRest s m ([.ref (G.2.1 64)]).toArray below meth c s.heap [] 0 0 (MQ below (nb_Qi G xc_sh (xc_Z (nb_A xc_sh G.2.1) tb) ro σo) ([.ref (G.2.1 64)]).toArray s 0 0 (nb_A xc_sh G.2.1)) (F0 m 0 ls [])
  generalize hargs : ([.ref (G.2.1 64)] : List Value).toArray = args at hts ⊢
  unfold fX1_isRest at hf
  obtain ⟨H, eH⟩ : ∃ H, H = s.heap := ⟨_, rfl⟩
  obtain ⟨locs, eL⟩ : ∃ L : List Loc, L = [] := ⟨_, rfl⟩
  have hW : nb_W G xc_sh s.heap σ H locs := by rw [eH, eL]; exact hW
  suffices hgo : W p l e rmX1_isRest s m args below meth c H locs 0 0 (MQ below (nb_Qi G xc_sh (xc_Z (nb_A xc_sh G.2.1) tb) ro σo) args s 0 0 (nb_A xc_sh G.2.1)) (F0 m 0 ls []) by rw [eH, eL] at hgo; exact hgo
  clear eH eL
  refine lv_iconst (v := (0 : Int32)) hx hb dX1_isRest_0 (by decide) ?_
  refine lv_istore_n (lv' := [(1, .int (0 : Int32)), (0, .ref (G.2.1 64))]) hx hb dX1_isRest_1 rfl hl (by decide) rfl (fun ls hl => ?_)
  refine nb_w2 (P := fun (x1 : Int32) (σ2 : nb_St) => ∀ (H : Heap) (locs : List Loc) (ls : Array Slot), nb_W G xc_sh s.heap σ2 H locs → lv_has ls 2 [(0, .ref (G.2.1 64)), (1, .int x1)] → W p l e rmX1_isRest s m args below meth c H locs 0 0 (MQ below (nb_Qi G xc_sh (xc_Z (nb_A xc_sh G.2.1) tb) ro σo) args s 0 0 (nb_A xc_sh G.2.1)) (F0 m 2 ls [])) ?_ N _ _ hf H locs ls hW (lv_sub hl [1, 0] rfl)
  intro ag3 ih4 x1 σ2 hf H locs ls hW hl
  refine lv_iload_n hx hb dX1_isRest_2 rfl (lv_at hl 1 rfl) ?_
  refine lv_aload_n hx hb dX1_isRest_3 rfl (lv_at hl 0 rfl) ?_
  refine nb_get (C := RX1) (T := TX1) (N := 9) hx hb hts inT_X1 hown hK hW 64 rfl rfl 1 (by decide) (hts _ tw1_239) (fun _ h9 => h9) rfl (v := .int (σ2 64 1)) rfl dX1_isRest_4 ?_
  refine lv_icmp_ge (tgt := 26) hx hb dX1_isRest_7 (by decide) (fun c5 => ?_) (fun c5 => ?_)
  · rw [if_pos c5] at hf
    refine lv_iconst (v := (1 : Int32)) hx hb dX1_isRest_26 (by decide) ?_
    exact nb_rz hx hb hr hlocks hK hZ hZo hW rfl hf dX1_isRest_27
  · rw [if_neg c5] at hf
    refine lv_aload_n hx hb dX1_isRest_10 rfl (lv_at hl 0 rfl) ?_
    refine lv_iload_n hx hb dX1_isRest_11 rfl (lv_at hl 1 rfl) ?_
    obtain ⟨r7, σ8, hc6, hf⟩ := nb_b2_e hf
    refine nb_ci hW (va_runV (As := [.int x1]) (rest := []) ⟨hx, hb, hml, hown, hts⟩ (c_X1_wouldRatherMove l hinj hZo (N := N) hc6 ) (cwV 1 hts (xg_V tw4_7 tw4_9 tp2_2 tw1_7 tw4_10) rfl rfl rfl (by decide +kernel) ⟨Nat.le_of_ble_eq_true rfl, Nat.le_of_ble_eq_true rfl⟩) (nb_preV hK hZ hZo hW (k := 64) rfl rfl) rfl rfl hl.1 rfl (lv_room (Nat.le_of_ble_eq_true rfl)) dX1_isRest_12 ⟨Nat.zero_le _, Nat.zero_le _⟩) (fun H locs hW => ?_)
    refine lv_if_eq (tgt := 20) hx hb dX1_isRest_15 (by decide) (fun c9 => ?_) (fun c9 => ?_)
    · rw [if_pos c9] at hf
      refine lv_iinc (v := (x1 + 1)) (lv' := [(1, .int (x1 + 1)), (0, .ref (G.2.1 64))]) hx hb dX1_isRest_20 hl (k := 1) rfl rfl (by decide) rfl (fun ls hl => ?_)
      refine lv_goto (tgt := 2) hx hb dX1_isRest_23 (by decide) ?_
      exact ih4 _ _ hf _ _ _ hW (lv_sub hl [1, 0] rfl)
    · rw [if_neg c9] at hf
      refine lv_iconst (v := (0 : Int32)) hx hb dX1_isRest_18 (by decide) ?_
      exact nb_rz hx hb hr hlocks hK hZ hZo hW rfl hf dX1_isRest_19
def fX1_weighChoice (N : Nat) (σ : nb_St)  : Option nb_St :=
  nb_lp2 (R := nb_St) (fun ag3 (x1 : Int32) (x2 : Int32) =>
  (if (σ 64 1) ≤ x2 then
  nb_let (nb_min (σ 64 8) x1) fun v6 =>
  nb_let (nb_st σ 64 8 v6) fun σ7 =>
  nb_b2 (fX1_isRest N σ7) fun r9 σ10 =>
  (if r9 = 0 then
  some σ10
  else
  nb_let (fun (σ14 : nb_St) =>
  nb_let (nb_st σ14 64 6 ((σ14 64 6) + (1 : Int32))) fun σ15 =>
  nb_let (nb_min (σ15 64 7) x1) fun v16 =>
  nb_let (nb_st σ15 64 7 v16) fun σ17 =>
  some σ17) fun k12 =>
  (if (σ10 64 6) = 0 then
  nb_let (nb_sa σ10 68 (va_cpy (σ10 67) (σ10 68) (nb_ix (0 : Int32)) (nb_ix (0 : Int32)) (nb_ix (4 : Int32)))) fun σ19 =>
  k12 σ19
  else
  k12 σ10))
  else
  nb_b (fX1_costOf N σ x2) fun r21 =>
  nb_let (x1 + r21) fun x22 =>
  ag3 x22 (x2 + 1))) N (0 : Int32) (0 : Int32)
def rmX1_weighChoice : Room := { frames := 4, cells := 0, slots := 0, locals := 90 }
def vsX1_weighChoice : List Cond := .code yX1_weighChoice cX1_weighChoice 3 none :: xT
set_option maxHeartbeats 4000000 in
set_option maxRecDepth 100000 in
theorem c_X1_weighChoice (l : Launch) {G : nb_G} {tb : Nat → Nat} (hinj : nb_inj xc_sh G.2.1) (hZo : nb_Zok (nb_A xc_sh G.2.1) (xc_Z (nb_A xc_sh G.2.1) tb)) {N : Nat} {σ : nb_St}  {σo : nb_St} (hf : fX1_weighChoice N σ = some σo)  : Met l yX1_weighChoice vsX1_weighChoice rmX1_weighChoice (nb_Pc G xc_sh (xc_Z (nb_A xc_sh G.2.1) tb) σ [.ref (G.2.1 64)]) (nb_Qv G xc_sh (xc_Z (nb_A xc_sh G.2.1) tb) σo) 0 0 (nb_A xc_sh G.2.1) := by
  refine Met.ofW (cc := cX1_weighChoice) (maxL := 3) (ret := none) (by decide) rfl ?_
  intro p e s m args below meth c s₁ B hml hv
  obtain ⟨rfl, hP, hK, hZ⟩ := hv
  have hx := B.exec
  have hb := B.bytes
  have hr := B.returns
  have hts : ∀ w ∈ xT, w.before _ s = true := fun w h9 => atoms_spec (ws := vsX1_weighChoice) B.pre w (List.mem_cons_of_mem _ h9)
  have hown : s.vm.findClass RX1 = some m.cls := findClass_of_methodNamed B.named
  have hlocks := B.notSynchronized
  have hW : nb_W G xc_sh s.heap σ s.heap [] := ⟨hP, va_S.rf⟩
  have hl := lv_entry ([.ref (G.2.1 64)]) (n := 3) (Nat.le_of_ble_eq_true rfl)
  rw [lg_entry_eq]
  generalize (lg_sl ([.ref (G.2.1 64)]) ++ List.replicate (3 - (lg_sl ([.ref (G.2.1 64)])).length) Slot.unset).toArray = ls at hl ⊢
  have hl : lv_has ls 3 [(0, .ref (G.2.1 64))] := hl
  show W p l e rmX1_weighChoice s m ([.ref (G.2.1 64)]).toArray below meth c s.heap [] 0 0 (MQ below (nb_Qv G xc_sh (xc_Z (nb_A xc_sh G.2.1) tb) σo) ([.ref (G.2.1 64)]).toArray s 0 0 (nb_A xc_sh G.2.1)) (F0 m 0 ls [])
  generalize hargs : ([.ref (G.2.1 64)] : List Value).toArray = args at hts ⊢
  unfold fX1_weighChoice at hf
  obtain ⟨H, eH⟩ : ∃ H, H = s.heap := ⟨_, rfl⟩
  obtain ⟨locs, eL⟩ : ∃ L : List Loc, L = [] := ⟨_, rfl⟩
  have hW : nb_W G xc_sh s.heap σ H locs := by rw [eH, eL]; exact hW
  suffices hgo : W p l e rmX1_weighChoice s m args below meth c H locs 0 0 (MQ below (nb_Qv G xc_sh (xc_Z (nb_A xc_sh G.2.1) tb) σo) args s 0 0 (nb_A xc_sh G.2.1)) (F0 m 0 ls []) by rw [eH, eL] at hgo; exact hgo
  clear eH eL
  refine lv_iconst (v := (0 : Int32)) hx hb dX1_weighChoice_0 (by decide) ?_
  refine lv_istore_n (lv' := [(1, .int (0 : Int32)), (0, .ref (G.2.1 64))]) hx hb dX1_weighChoice_1 rfl hl (by decide) rfl (fun ls hl => ?_)
  refine lv_iconst (v := (0 : Int32)) hx hb dX1_weighChoice_2 (by decide) ?_
  refine lv_istore_n (lv' := [(2, .int (0 : Int32)), (1, .int (0 : Int32)), (0, .ref (G.2.1 64))]) hx hb dX1_weighChoice_3 rfl hl (by decide) rfl (fun ls hl => ?_)
  refine nb_w2 (P := fun (x1 : Int32) (x2 : Int32) => ∀ (H : Heap) (locs : List Loc) (ls : Array Slot), nb_W G xc_sh s.heap σ H locs → lv_has ls 3 [(0, .ref (G.2.1 64)), (1, .int x1), (2, .int x2)] → W p l e rmX1_weighChoice s m args below meth c H locs 0 0 (MQ below (nb_Qv G xc_sh (xc_Z (nb_A xc_sh G.2.1) tb) σo) args s 0 0 (nb_A xc_sh G.2.1)) (F0 m 4 ls [])) ?_ N _ _ hf H locs ls hW (lv_sub hl [2, 1, 0] rfl)
  intro ag3 ih4 x1 x2 hf H locs ls hW hl
  refine lv_iload_n hx hb dX1_weighChoice_4 rfl (lv_at hl 2 rfl) ?_
  refine lv_aload_n hx hb dX1_weighChoice_5 rfl (lv_at hl 0 rfl) ?_
  refine nb_get (C := RX1) (T := TX1) (N := 9) hx hb hts inT_X1 hown hK hW 64 rfl rfl 1 (by decide) (hts _ tw1_239) (fun _ h9 => h9) rfl (v := .int (σ 64 1)) rfl dX1_weighChoice_6 ?_
  refine lv_icmp_ge (tgt := 26) hx hb dX1_weighChoice_9 (by decide) (fun c5 => ?_) (fun c5 => ?_)
  · rw [if_pos c5] at hf
    refine lv_aload_n hx hb dX1_weighChoice_26 rfl (lv_at hl 0 rfl) ?_
    refine lv_aload_n hx hb dX1_weighChoice_27 rfl (lv_at hl 0 rfl) ?_
    refine nb_get (C := RX1) (T := TX1) (N := 9) hx hb hts inT_X1 hown hK hW 64 rfl rfl 8 (by decide) (hts _ tw2_10) (fun _ h9 => h9) rfl (v := .int (σ 64 8)) rfl dX1_weighChoice_28 ?_
    refine lv_iload_n hx hb dX1_weighChoice_31 rfl (lv_at hl 1 rfl) ?_
    refine va_mmin hx hb (hml.trans hl.1.symm) hown (hts _ tw4_2) (hts _ tw2_158) (hts _ tw1_9) (hts _ tw2_159) (Nat.le_of_ble_eq_true rfl) (Nat.le_of_ble_eq_true rfl) (Nat.zero_le _) (Nat.zero_le _) dX1_weighChoice_32 ?_
    show W p l e rmX1_weighChoice s m args below meth c H locs 0 0 (MQ below (nb_Qv G xc_sh (xc_Z (nb_A xc_sh G.2.1) tb) σo) args s 0 0 (nb_A xc_sh G.2.1)) (F0 m 35 ls [.int (nb_min (σ 64 8) x1), .ref (G.2.1 64)])
    obtain ⟨v6, ev6, hf⟩ := nb_let_e hf
    refine nb_nami ev6 ?_
    obtain ⟨σ7, eσ7, hf⟩ := nb_let_e hf
    refine nb_put (C := RX1) (T := TX1) (N := 9) hx hb hts inT_X1 hown hK tyX1 tyX1_ok nmX1 hinj hW 64 rfl rfl 8 (by decide) (hts _ tw2_10) (fun _ h9 => h9) rfl (ty := .int) (by decide +kernel) rfl rfl rfl (x := v6) (by show Value.int _ = _; rw [nb_st_s]) eσ7 dX1_weighChoice_35 (fun H locs hW => ?_)
    refine lv_aload_n hx hb dX1_weighChoice_38 rfl (lv_at hl 0 rfl) ?_
    obtain ⟨r9, σ10, hc8, hf⟩ := nb_b2_e hf
    refine nb_ci hW (va_runV (As := []) (rest := []) ⟨hx, hb, hml, hown, hts⟩ (c_X1_isRest l hinj hZo (N := N) hc8 ) (cwV 0 hts (xg_V tw4_3 tw4_5 tp2_1 tw1_7 tw4_6) rfl rfl rfl (by decide +kernel) ⟨Nat.le_of_ble_eq_true rfl, Nat.le_of_ble_eq_true rfl⟩) (nb_preV hK hZ hZo hW (k := 64) rfl rfl) rfl rfl hl.1 rfl (lv_room (Nat.le_of_ble_eq_true rfl)) dX1_weighChoice_39 ⟨Nat.zero_le _, Nat.zero_le _⟩) (fun H locs hW => ?_)
    refine lv_if_ne (tgt := 46) hx hb dX1_weighChoice_42 (by decide) (fun c11 => ?_) (fun c11 => ?_)
    · rw [if_neg c11] at hf
      refine lv_aload_n hx hb dX1_weighChoice_46 rfl (lv_at hl 0 rfl) ?_
      refine nb_get (C := RX1) (T := TX1) (N := 9) hx hb hts inT_X1 hown hK hW 64 rfl rfl 6 (by decide) (hts _ tw2_6) (fun _ h9 => h9) rfl (v := .int (σ10 64 6)) rfl dX1_weighChoice_47 ?_
      obtain ⟨k12, ek12, hf⟩ := nb_let_e hf
      have w13 : ∀ (σ14 : nb_St) (H : Heap) (locs : List Loc) (ls : Array Slot), k12 σ14 = some σo → nb_W G xc_sh s.heap σ14 H locs → lv_has ls 3 [(0, .ref (G.2.1 64)), (1, .int x1)] → W p l e rmX1_weighChoice s m args below meth c H locs 0 0 (MQ below (nb_Qv G xc_sh (xc_Z (nb_A xc_sh G.2.1) tb) σo) args s 0 0 (nb_A xc_sh G.2.1)) (F0 m 67 ls []) := by
        intro σ14 H locs ls hf hW hl
        have hf := (congrFun ek12 σ14).symm.trans hf
        refine lv_aload_n hx hb dX1_weighChoice_67 rfl (lv_at hl 0 rfl) ?_
        refine lv_dup hx hb dX1_weighChoice_68 rfl ?_
        refine nb_get (C := RX1) (T := TX1) (N := 9) hx hb hts inT_X1 hown hK hW 64 rfl rfl 6 (by decide) (hts _ tw2_6) (fun _ h9 => h9) rfl (v := .int (σ14 64 6)) rfl dX1_weighChoice_69 ?_
        refine lv_iconst (v := (1 : Int32)) hx hb dX1_weighChoice_72 (by decide) ?_
        refine lv_iadd hx hb dX1_weighChoice_73 ?_
        obtain ⟨σ15, eσ15, hf⟩ := nb_let_e hf
        refine nb_put (C := RX1) (T := TX1) (N := 9) hx hb hts inT_X1 hown hK tyX1 tyX1_ok nmX1 hinj hW 64 rfl rfl 6 (by decide) (hts _ tw2_6) (fun _ h9 => h9) rfl (ty := .int) (by decide +kernel) rfl rfl rfl (x := ((σ14 64 6) + (1 : Int32))) (by show Value.int _ = _; rw [nb_st_s]) eσ15 dX1_weighChoice_74 (fun H locs hW => ?_)
        refine lv_aload_n hx hb dX1_weighChoice_77 rfl (lv_at hl 0 rfl) ?_
        refine lv_aload_n hx hb dX1_weighChoice_78 rfl (lv_at hl 0 rfl) ?_
        refine nb_get (C := RX1) (T := TX1) (N := 9) hx hb hts inT_X1 hown hK hW 64 rfl rfl 7 (by decide) (hts _ tw2_8) (fun _ h9 => h9) rfl (v := .int (σ15 64 7)) rfl dX1_weighChoice_79 ?_
        refine lv_iload_n hx hb dX1_weighChoice_82 rfl (lv_at hl 1 rfl) ?_
        refine va_mmin hx hb (hml.trans hl.1.symm) hown (hts _ tw4_2) (hts _ tw2_158) (hts _ tw1_9) (hts _ tw2_159) (Nat.le_of_ble_eq_true rfl) (Nat.le_of_ble_eq_true rfl) (Nat.zero_le _) (Nat.zero_le _) dX1_weighChoice_83 ?_
        show W p l e rmX1_weighChoice s m args below meth c H locs 0 0 (MQ below (nb_Qv G xc_sh (xc_Z (nb_A xc_sh G.2.1) tb) σo) args s 0 0 (nb_A xc_sh G.2.1)) (F0 m 86 ls [.int (nb_min (σ15 64 7) x1), .ref (G.2.1 64)])
        obtain ⟨v16, ev16, hf⟩ := nb_let_e hf
        refine nb_nami ev16 ?_
        obtain ⟨σ17, eσ17, hf⟩ := nb_let_e hf
        refine nb_put (C := RX1) (T := TX1) (N := 9) hx hb hts inT_X1 hown hK tyX1 tyX1_ok nmX1 hinj hW 64 rfl rfl 7 (by decide) (hts _ tw2_8) (fun _ h9 => h9) rfl (ty := .int) (by decide +kernel) rfl rfl rfl (x := v16) (by show Value.int _ = _; rw [nb_st_s]) eσ17 dX1_weighChoice_86 (fun H locs hW => ?_)
        exact nb_rv hx hb hr hlocks hK hZ hZo hW hf dX1_weighChoice_89
      clear ek12
      refine lv_if_ne (tgt := 67) hx hb dX1_weighChoice_50 (by decide) (fun c18 => ?_) (fun c18 => ?_)
      · rw [if_neg c18] at hf
        exact w13 _ _ _ _ hf hW (lv_sub hl [0, 1] rfl)
      · rw [if_pos c18] at hf
        refine lv_aload_n hx hb dX1_weighChoice_53 rfl (lv_at hl 0 rfl) ?_
        refine nb_get (C := RX1) (T := TX1) (N := 9) hx hb hts inT_X1 hown hK hW 64 rfl rfl 4 (by decide) (hts _ tw2_3) (fun _ h9 => h9) rfl (v := .ref (G.2.1 67)) rfl dX1_weighChoice_54 ?_
        refine lv_iconst (v := (0 : Int32)) hx hb dX1_weighChoice_57 (by decide) ?_
        refine lv_aload_n hx hb dX1_weighChoice_58 rfl (lv_at hl 0 rfl) ?_
        refine nb_get (C := RX1) (T := TX1) (N := 9) hx hb hts inT_X1 hown hK hW 64 rfl rfl 5 (by decide) (hts _ tw2_4) (fun _ h9 => h9) rfl (v := .ref (G.2.1 68)) rfl dX1_weighChoice_59 ?_
        refine lv_iconst (v := (0 : Int32)) hx hb dX1_weighChoice_62 (by decide) ?_
        refine lv_iconst (v := (4 : Int32)) hx hb dX1_weighChoice_63 (by decide) ?_
        obtain ⟨σ19, eσ19, hf⟩ := nb_let_e hf
        refine nb_copy hx hb (hml.trans hl.1.symm) hown (hts _ tw4_11) (hts _ tw3_201) (hts _ tw3_200) (hts _ tw1_17) hK hinj hW 67 68 rfl rfl (by decide) (by decide) (by decide) (by decide) (by decide) (Nat.le_of_ble_eq_true rfl) (Nat.le_of_ble_eq_true rfl) eσ19 dX1_weighChoice_64 (fun H locs hW => ?_)
        exact w13 _ _ _ _ hf hW (lv_sub hl [0, 1] rfl)
    · rw [if_pos c11] at hf
      exact nb_rv hx hb hr hlocks hK hZ hZo hW hf dX1_weighChoice_45
  · rw [if_neg c5] at hf
    refine lv_iload_n hx hb dX1_weighChoice_12 rfl (lv_at hl 1 rfl) ?_
    refine lv_aload_n hx hb dX1_weighChoice_13 rfl (lv_at hl 0 rfl) ?_
    refine lv_iload_n hx hb dX1_weighChoice_14 rfl (lv_at hl 2 rfl) ?_
    obtain ⟨r21, hc20, hf⟩ := nb_b_e hf
    refine nb_ci hW (va_runV (As := [.int x2]) (rest := [.int x1]) ⟨hx, hb, hml, hown, hts⟩ (c_X1_costOf l hinj hZo (N := N) hc20 ) (cwV 1 hts (xg_V tw4_1 tw3_216 tw3_217 tw1_7 tw3_218) rfl rfl rfl (by decide +kernel) ⟨Nat.le_of_ble_eq_true rfl, Nat.le_of_ble_eq_true rfl⟩) (nb_preV hK hZ hZo hW (k := 64) rfl rfl) rfl rfl hl.1 rfl (lv_room (Nat.le_of_ble_eq_true rfl)) dX1_weighChoice_15 ⟨Nat.zero_le _, Nat.zero_le _⟩) (fun H locs hW => ?_)
    refine lv_iadd hx hb dX1_weighChoice_18 ?_
    obtain ⟨x22, ex22, hf⟩ := nb_let_e hf
    refine nb_nami ex22 ?_
    refine lv_istore_n (lv' := [(1, .int x22), (0, .ref (G.2.1 64)), (2, .int x2)]) hx hb dX1_weighChoice_19 rfl hl (by decide) rfl (fun ls hl => ?_)
    refine lv_iinc (v := (x2 + 1)) (lv' := [(2, .int (x2 + 1)), (1, .int x22), (0, .ref (G.2.1 64))]) hx hb dX1_weighChoice_20 hl (k := 2) rfl rfl (by decide) rfl (fun ls hl => ?_)
    refine lv_goto (tgt := 4) hx hb dX1_weighChoice_23 (by decide) ?_
    exact ih4 _ _ hf _ _ _ hW (lv_sub hl [2, 1, 0] rfl)
def fX1_reckon (N : Nat) (σ : nb_St)  : Option nb_St :=
  (if (σ 64 0) = 0 then
  nb_let (nb_st σ 64 6 (0 : Int32)) fun σ2 =>
  nb_let (nb_st σ2 64 7 (100000 : Int32)) fun σ3 =>
  nb_let (nb_st σ3 64 8 (100000 : Int32)) fun σ4 =>
  nb_lp2 (R := nb_St) (fun ag7 (x5 : Int32) (x6 : Int32) =>
  (if (σ4 64 1) ≤ x6 then
  nb_lp2 (R := nb_St) (fun ag12 (x10 : Int32) (σ11 : nb_St) =>
  (if x5 ≤ x10 then
  nb_let (nb_st σ11 64 0 (1 : Int32)) fun σ15 =>
  some σ15
  else
  nb_b (fX1_choose N σ11 x10) fun σ17 =>
  nb_b (fX1_weighChoice N σ17) fun σ19 =>
  ag12 (x10 + 1) σ19)) N (0 : Int32) σ4
  else
  nb_let (x5 * (6 : Int32)) fun x20 =>
  ag7 x20 (x6 + 1))) N (1 : Int32) (0 : Int32)
  else
  some σ)
def rmX1_reckon : Room := { frames := 5, cells := 0, slots := 0, locals := 112 }
def vsX1_reckon : List Cond := .code yX1_reckon cX1_reckon 3 none :: xT
set_option maxHeartbeats 4000000 in
set_option maxRecDepth 100000 in
theorem c_X1_reckon (l : Launch) {G : nb_G} {tb : Nat → Nat} (hinj : nb_inj xc_sh G.2.1) (hZo : nb_Zok (nb_A xc_sh G.2.1) (xc_Z (nb_A xc_sh G.2.1) tb)) {N : Nat} {σ : nb_St}  {σo : nb_St} (hf : fX1_reckon N σ = some σo)  : Met l yX1_reckon vsX1_reckon rmX1_reckon (nb_Pc G xc_sh (xc_Z (nb_A xc_sh G.2.1) tb) σ [.ref (G.2.1 64)]) (nb_Qv G xc_sh (xc_Z (nb_A xc_sh G.2.1) tb) σo) 0 0 (nb_A xc_sh G.2.1) := by
  refine Met.ofW (cc := cX1_reckon) (maxL := 3) (ret := none) (by decide) rfl ?_
  intro p e s m args below meth c s₁ B hml hv
  obtain ⟨rfl, hP, hK, hZ⟩ := hv
  have hx := B.exec
  have hb := B.bytes
  have hr := B.returns
  have hts : ∀ w ∈ xT, w.before _ s = true := fun w h9 => atoms_spec (ws := vsX1_reckon) B.pre w (List.mem_cons_of_mem _ h9)
  have hown : s.vm.findClass RX1 = some m.cls := findClass_of_methodNamed B.named
  have hlocks := B.notSynchronized
  have hW : nb_W G xc_sh s.heap σ s.heap [] := ⟨hP, va_S.rf⟩
  have hl := lv_entry ([.ref (G.2.1 64)]) (n := 3) (Nat.le_of_ble_eq_true rfl)
  rw [lg_entry_eq]
  generalize (lg_sl ([.ref (G.2.1 64)]) ++ List.replicate (3 - (lg_sl ([.ref (G.2.1 64)])).length) Slot.unset).toArray = ls at hl ⊢
  have hl : lv_has ls 3 [(0, .ref (G.2.1 64))] := hl
  show W p l e rmX1_reckon s m ([.ref (G.2.1 64)]).toArray below meth c s.heap [] 0 0 (MQ below (nb_Qv G xc_sh (xc_Z (nb_A xc_sh G.2.1) tb) σo) ([.ref (G.2.1 64)]).toArray s 0 0 (nb_A xc_sh G.2.1)) (F0 m 0 ls [])
  generalize hargs : ([.ref (G.2.1 64)] : List Value).toArray = args at hts ⊢
  unfold fX1_reckon at hf
  obtain ⟨H, eH⟩ : ∃ H, H = s.heap := ⟨_, rfl⟩
  obtain ⟨locs, eL⟩ : ∃ L : List Loc, L = [] := ⟨_, rfl⟩
  have hW : nb_W G xc_sh s.heap σ H locs := by rw [eH, eL]; exact hW
  suffices hgo : W p l e rmX1_reckon s m args below meth c H locs 0 0 (MQ below (nb_Qv G xc_sh (xc_Z (nb_A xc_sh G.2.1) tb) σo) args s 0 0 (nb_A xc_sh G.2.1)) (F0 m 0 ls []) by rw [eH, eL] at hgo; exact hgo
  clear eH eL
  refine lv_aload_n hx hb dX1_reckon_0 rfl (lv_at hl 0 rfl) ?_
  refine nb_get (C := RX1) (T := TX1) (N := 9) hx hb hts inT_X1 hown hK hW 64 rfl rfl 0 (by decide) (hts _ tw1_238) (fun _ h9 => h9) rfl (v := .int (σ 64 0)) rfl dX1_reckon_1 ?_
  refine lv_if_eq (tgt := 8) hx hb dX1_reckon_4 (by decide) (fun c1 => ?_) (fun c1 => ?_)
  · rw [if_pos c1] at hf
    refine lv_aload_n hx hb dX1_reckon_8 rfl (lv_at hl 0 rfl) ?_
    refine lv_iconst (v := (0 : Int32)) hx hb dX1_reckon_9 (by decide) ?_
    obtain ⟨σ2, eσ2, hf⟩ := nb_let_e hf
    refine nb_put (C := RX1) (T := TX1) (N := 9) hx hb hts inT_X1 hown hK tyX1 tyX1_ok nmX1 hinj hW 64 rfl rfl 6 (by decide) (hts _ tw2_6) (fun _ h9 => h9) rfl (ty := .int) (by decide +kernel) rfl rfl rfl (x := (0 : Int32)) (by show Value.int _ = _; rw [nb_st_s]) eσ2 dX1_reckon_10 (fun H locs hW => ?_)
    refine lv_aload_n hx hb dX1_reckon_13 rfl (lv_at hl 0 rfl) ?_
    refine lv_ldc (own := RX1) (v := (100000 : Int32)) hx hb hown (hts _ tw3_232) dX1_reckon_14 ?_
    obtain ⟨σ3, eσ3, hf⟩ := nb_let_e hf
    refine nb_put (C := RX1) (T := TX1) (N := 9) hx hb hts inT_X1 hown hK tyX1 tyX1_ok nmX1 hinj hW 64 rfl rfl 7 (by decide) (hts _ tw2_8) (fun _ h9 => h9) rfl (ty := .int) (by decide +kernel) rfl rfl rfl (x := (100000 : Int32)) (by show Value.int _ = _; rw [nb_st_s]) eσ3 dX1_reckon_16 (fun H locs hW => ?_)
    refine lv_aload_n hx hb dX1_reckon_19 rfl (lv_at hl 0 rfl) ?_
    refine lv_ldc (own := RX1) (v := (100000 : Int32)) hx hb hown (hts _ tw3_232) dX1_reckon_20 ?_
    obtain ⟨σ4, eσ4, hf⟩ := nb_let_e hf
    refine nb_put (C := RX1) (T := TX1) (N := 9) hx hb hts inT_X1 hown hK tyX1 tyX1_ok nmX1 hinj hW 64 rfl rfl 8 (by decide) (hts _ tw2_10) (fun _ h9 => h9) rfl (ty := .int) (by decide +kernel) rfl rfl rfl (x := (100000 : Int32)) (by show Value.int _ = _; rw [nb_st_s]) eσ4 dX1_reckon_22 (fun H locs hW => ?_)
    refine lv_iconst (v := (1 : Int32)) hx hb dX1_reckon_25 (by decide) ?_
    refine lv_istore_n (lv' := [(1, .int (1 : Int32)), (0, .ref (G.2.1 64))]) hx hb dX1_reckon_26 rfl hl (by decide) rfl (fun ls hl => ?_)
    refine lv_iconst (v := (0 : Int32)) hx hb dX1_reckon_27 (by decide) ?_
    refine lv_istore_n (lv' := [(2, .int (0 : Int32)), (1, .int (1 : Int32)), (0, .ref (G.2.1 64))]) hx hb dX1_reckon_28 rfl hl (by decide) rfl (fun ls hl => ?_)
    refine nb_w2 (P := fun (x5 : Int32) (x6 : Int32) => ∀ (H : Heap) (locs : List Loc) (ls : Array Slot), nb_W G xc_sh s.heap σ4 H locs → lv_has ls 3 [(0, .ref (G.2.1 64)), (1, .int x5), (2, .int x6)] → W p l e rmX1_reckon s m args below meth c H locs 0 0 (MQ below (nb_Qv G xc_sh (xc_Z (nb_A xc_sh G.2.1) tb) σo) args s 0 0 (nb_A xc_sh G.2.1)) (F0 m 29 ls [])) ?_ N _ _ hf H locs ls hW (lv_sub hl [2, 1, 0] rfl)
    intro ag7 ih8 x5 x6 hf H locs ls hW hl
    refine lv_iload_n hx hb dX1_reckon_29 rfl (lv_at hl 2 rfl) ?_
    refine lv_aload_n hx hb dX1_reckon_30 rfl (lv_at hl 0 rfl) ?_
    refine nb_get (C := RX1) (T := TX1) (N := 9) hx hb hts inT_X1 hown hK hW 64 rfl rfl 1 (by decide) (hts _ tw1_239) (fun _ h9 => h9) rfl (v := .int (σ4 64 1)) rfl dX1_reckon_31 ?_
    refine lv_icmp_ge (tgt := 48) hx hb dX1_reckon_34 (by decide) (fun c9 => ?_) (fun c9 => ?_)
    · rw [if_pos c9] at hf
      refine lv_iconst (v := (0 : Int32)) hx hb dX1_reckon_48 (by decide) ?_
      refine lv_istore_n (lv' := [(2, .int (0 : Int32)), (0, .ref (G.2.1 64)), (1, .int x5)]) hx hb dX1_reckon_49 rfl hl (by decide) rfl (fun ls hl => ?_)
      refine nb_w2 (P := fun (x10 : Int32) (σ11 : nb_St) => ∀ (H : Heap) (locs : List Loc) (ls : Array Slot), nb_W G xc_sh s.heap σ11 H locs → lv_has ls 3 [(0, .ref (G.2.1 64)), (1, .int x5), (2, .int x10)] → W p l e rmX1_reckon s m args below meth c H locs 0 0 (MQ below (nb_Qv G xc_sh (xc_Z (nb_A xc_sh G.2.1) tb) σo) args s 0 0 (nb_A xc_sh G.2.1)) (F0 m 50 ls [])) ?_ N _ _ hf H locs ls hW (lv_sub hl [1, 2, 0] rfl)
      intro ag12 ih13 x10 σ11 hf H locs ls hW hl
      refine lv_iload_n hx hb dX1_reckon_50 rfl (lv_at hl 2 rfl) ?_
      refine lv_iload_n hx hb dX1_reckon_51 rfl (lv_at hl 1 rfl) ?_
      refine lv_icmp_ge (tgt := 70) hx hb dX1_reckon_52 (by decide) (fun c14 => ?_) (fun c14 => ?_)
      · rw [if_pos c14] at hf
        refine lv_aload_n hx hb dX1_reckon_70 rfl (lv_at hl 0 rfl) ?_
        refine lv_iconst (v := (1 : Int32)) hx hb dX1_reckon_71 (by decide) ?_
        obtain ⟨σ15, eσ15, hf⟩ := nb_let_e hf
        refine nb_put (C := RX1) (T := TX1) (N := 9) hx hb hts inT_X1 hown hK tyX1 tyX1_ok nmX1 hinj hW 64 rfl rfl 0 (by decide) (hts _ tw1_238) (fun _ h9 => h9) rfl (ty := .boolean) (by decide +kernel) rfl rfl rfl (x := (1 : Int32)) (by show Value.int _ = _; rw [nb_st_s]) eσ15 dX1_reckon_72 (fun H locs hW => ?_)
        exact nb_rv hx hb hr hlocks hK hZ hZo hW hf dX1_reckon_75
      · rw [if_neg c14] at hf
        refine lv_aload_n hx hb dX1_reckon_55 rfl (lv_at hl 0 rfl) ?_
        refine lv_iload_n hx hb dX1_reckon_56 rfl (lv_at hl 2 rfl) ?_
        obtain ⟨σ17, hc16, hf⟩ := nb_b_e hf
        refine nb_cv hW (va_runV (As := [.int x10]) (rest := []) ⟨hx, hb, hml, hown, hts⟩ (c_X1_choose l hinj hZo (N := N) hc16 ) (cwV 1 hts (xg_V tw3_233 tw3_235 tp1_15 tw1_7 tw3_236) rfl rfl rfl (by decide +kernel) ⟨Nat.le_of_ble_eq_true rfl, Nat.le_of_ble_eq_true rfl⟩) (nb_preV hK hZ hZo hW (k := 64) rfl rfl) rfl rfl hl.1 rfl (lv_room (Nat.le_of_ble_eq_true rfl)) dX1_reckon_57 ⟨Nat.zero_le _, Nat.zero_le _⟩) (fun H locs hW => ?_)
        refine lv_aload_n hx hb dX1_reckon_60 rfl (lv_at hl 0 rfl) ?_
        obtain ⟨σ19, hc18, hf⟩ := nb_b_e hf
        refine nb_cv hW (va_runV (As := []) (rest := []) ⟨hx, hb, hml, hown, hts⟩ (c_X1_weighChoice l hinj hZo (N := N) hc18 ) (cwV 0 hts (xg_V tw3_237 tw3_239 tp2_0 tw1_7 tw4_0) rfl rfl rfl (by decide +kernel) ⟨Nat.le_of_ble_eq_true rfl, Nat.le_of_ble_eq_true rfl⟩) (nb_preV hK hZ hZo hW (k := 64) rfl rfl) rfl rfl hl.1 rfl (lv_room (Nat.le_of_ble_eq_true rfl)) dX1_reckon_61 ⟨Nat.zero_le _, Nat.zero_le _⟩) (fun H locs hW => ?_)
        refine lv_iinc (v := (x10 + 1)) (lv' := [(2, .int (x10 + 1)), (0, .ref (G.2.1 64)), (1, .int x5)]) hx hb dX1_reckon_64 hl (k := 2) rfl rfl (by decide) rfl (fun ls hl => ?_)
        refine lv_goto (tgt := 50) hx hb dX1_reckon_67 (by decide) ?_
        exact ih13 _ _ hf _ _ _ hW (lv_sub hl [1, 2, 0] rfl)
    · rw [if_neg c9] at hf
      refine lv_iload_n hx hb dX1_reckon_37 rfl (lv_at hl 1 rfl) ?_
      refine lv_bipush (v := (6 : Int32)) hx hb dX1_reckon_38 (by decide) ?_
      refine lv_imul hx hb dX1_reckon_40 ?_
      obtain ⟨x20, ex20, hf⟩ := nb_let_e hf
      refine nb_nami ex20 ?_
      refine lv_istore_n (lv' := [(1, .int x20), (0, .ref (G.2.1 64)), (2, .int x6)]) hx hb dX1_reckon_41 rfl hl (by decide) rfl (fun ls hl => ?_)
      refine lv_iinc (v := (x6 + 1)) (lv' := [(2, .int (x6 + 1)), (1, .int x20), (0, .ref (G.2.1 64))]) hx hb dX1_reckon_42 hl (k := 2) rfl rfl (by decide) rfl (fun ls hl => ?_)
      refine lv_goto (tgt := 29) hx hb dX1_reckon_45 (by decide) ?_
      exact ih8 _ _ hf _ _ _ hW (lv_sub hl [2, 1, 0] rfl)
  · rw [if_neg c1] at hf
    exact nb_rv hx hb hr hlocks hK hZ hZo hW hf dX1_reckon_7
