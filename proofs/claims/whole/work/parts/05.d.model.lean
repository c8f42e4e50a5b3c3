def fX8_price (N : Nat) (σ : nb_St)  : Option (Int32 × nb_St) :=
  nb_b (fX8_layGame N σ) fun σ2 =>
  nb_lp4 (R := (Int32 × nb_St)) (fun ag7 (x3 : Int32) (x4 : Int32) (x5 : Int32) (σ6 : nb_St) =>
  nb_b (fX8_codesOf N σ6) fun r10 =>
  (if r10 ≤ x5 then
  (if 0 ≤ x3 then
  some ((x3 - x4), σ6)
  else
  some ((-4 : Int32), σ6))
  else
  nb_b (fX8_takeSlots N σ6 x5) fun σ14 =>
  nb_b (fX8_sumOfCosts N σ14) fun r16 =>
  nb_let (fun (v19 : Int32) =>
  nb_b2 (fX8_isRest N σ14) fun r21 σ22 =>
  nb_let (fun (v25 : Int32) =>
  ag7 v25 v19 (x5 + 1) σ22) fun k23 =>
  nb_let (fun (_u : Unit) =>
  k23 x3) fun k26 =>
  (if r21 = 0 then
  k26 ()
  else
  nb_let (fun (_u : Unit) =>
  k23 r16) fun k29 =>
  (if x3 < 0 then
  k29 ()
  else
  (if x3 ≤ r16 then
  k26 ()
  else
  k29 ())))) fun k17 =>
  nb_let (fun (_u : Unit) =>
  k17 r16) fun k33 =>
  (if x4 < 0 then
  k33 ()
  else
  (if x4 ≤ r16 then
  k17 x4
  else
  k33 ())))) N (-4 : Int32) (-4 : Int32) (0 : Int32) σ2
def rmX8_price : Room := { frames := 3, cells := 0, slots := 0, locals := 69 }
def vsX8_price : List Cond := .code yX8_price cX8_price 5 (some .int) :: xT
set_option maxHeartbeats 4000000 in
set_option maxRecDepth 100000 in
theorem c_X8_price (l : Launch) {G : nb_G} {Z : State → Heap → Prop} (hinj : nb_inj xm_sh G.2.1) (hZo : nb_Zok (nb_A xm_sh G.2.1) Z) {N : Nat} {σ : nb_St}  {ro : Int32} {σo : nb_St} (hf : fX8_price N σ = some (ro, σo))  : Met l yX8_price vsX8_price rmX8_price (nb_Pc G xm_sh Z σ [.ref (G.2.1 0)]) (nb_Qi G xm_sh Z ro σo) 0 0 (nb_A xm_sh G.2.1) := by
  refine Met.ofW (cc := cX8_price) (maxL := 5) (ret := (some .int)) (by decide) rfl ?_
  intro p e s m args below meth c s₁ B hml hv
  obtain ⟨rfl, hP, hK, hZ⟩ := hv
  have hx := B.exec
  have hb := B.bytes
  have hr := B.returns
  have hts : ∀ w ∈ xT, w.before _ s = true := fun w h9 => atoms_spec (ws := vsX8_price) B.pre w (List.mem_cons_of_mem _ h9)
  have hown : s.vm.findClass RX8 = some m.cls := findClass_of_methodNamed B.named
  have hlocks := B.notSynchronized
  have hW : nb_W G xm_sh s.heap σ s.heap [] := ⟨hP, va_S.rf⟩
  have hl := lv_entry ([.ref (G.2.1 0)]) (n := 5) (Nat.le_of_ble_eq_true rfl)
  rw [lg_entry_eq]
  generalize (lg_sl ([.ref (G.2.1 0)]) ++ List.replicate (5 - (lg_sl ([.ref (G.2.1 0)])).length) Slot.unset).toArray = ls at hl ⊢
  have hl : lv_has ls 5 [(0, .ref (G.2.1 0))] := hl
  show W p l e rmX8_price s m ([.ref (G.2.1 0)]).toArray below meth c s.heap [] 0 0 (MQ below (nb_Qi G xm_sh Z ro σo) ([.ref (G.2.1 0)]).toArray s 0 0 (nb_A xm_sh G.2.1)) (F0 m 0 ls [])
  generalize hargs : ([.ref (G.2.1 0)] : List Value).toArray = args at hts ⊢
  unfold fX8_price at hf
  obtain ⟨H, eH⟩ : ∃ H, H = s.heap := ⟨_, rfl⟩
  obtain ⟨locs, eL⟩ : ∃ L : List Loc, L = [] := ⟨_, rfl⟩
  have hW : nb_W G xm_sh s.heap σ H locs := by rw [eH, eL]; exact hW
  suffices hgo : W p l e rmX8_price s m args below meth c H locs 0 0 (MQ below (nb_Qi G xm_sh Z ro σo) args s 0 0 (nb_A xm_sh G.2.1)) (F0 m 0 ls []) by rw [eH, eL] at hgo; exact hgo
  clear eH eL
  refine lv_aload_n hx hb dX8_price_0 rfl (lv_at hl 0 rfl) ?_
  obtain ⟨σ2, hc1, hf⟩ := nb_b_e hf
  refine nb_cv hW (va_runV (As := []) (rest := []) ⟨hx, hb, hml, hown, hts⟩ (c_X8_layGame l hinj hZo (N := N) hc1 ) (cwV 0 hts (xg_V tw5_189 tw5_191 tp3_11 tw1_10 tw5_192) rfl rfl rfl (by decide +kernel) ⟨Nat.le_of_ble_eq_true rfl, Nat.le_of_ble_eq_true rfl⟩) (nb_preV hK hZ hZo hW (k := 0) rfl rfl) rfl rfl hl.1 rfl (lv_room (Nat.le_of_ble_eq_true rfl)) dX8_price_1 ⟨Nat.zero_le _, Nat.zero_le _⟩) (fun H locs hW => ?_)
  refine lv_bipush (v := (-4 : Int32)) hx hb dX8_price_4 (by decide) ?_
  refine lv_istore_n (lv' := [(1, .int (-4 : Int32)), (0, .ref (G.2.1 0))]) hx hb dX8_price_6 rfl hl (by decide) rfl (fun ls hl => ?_)
  refine lv_bipush (v := (-4 : Int32)) hx hb dX8_price_7 (by decide) ?_
  refine lv_istore_n (lv' := [(2, .int (-4 : Int32)), (1, .int (-4 : Int32)), (0, .ref (G.2.1 0))]) hx hb dX8_price_9 rfl hl (by decide) rfl (fun ls hl => ?_)
  refine lv_iconst (v := (0 : Int32)) hx hb dX8_price_10 (by decide) ?_
  refine lv_istore_n (lv' := [(3, .int (0 : Int32)), (2, .int (-4 : Int32)), (1, .int (-4 : Int32)), (0, .ref (G.2.1 0))]) hx hb dX8_price_11 rfl hl (by decide) rfl (fun ls hl => ?_)
  refine nb_w4 (P := fun (x3 : Int32) (x4 : Int32) (x5 : Int32) (σ6 : nb_St) => ∀ (H : Heap) (locs : List Loc) (ls : Array Slot), nb_W G xm_sh s.heap σ6 H locs → lv_has ls 5 [(0, .ref (G.2.1 0)), (1, .int x3), (2, .int x4), (3, .int x5)] → W p l e rmX8_price s m args below meth c H locs 0 0 (MQ below (nb_Qi G xm_sh Z ro σo) args s 0 0 (nb_A xm_sh G.2.1)) (F0 m 12 ls [])) ?_ N _ _ _ _ hf H locs ls hW (lv_sub hl [3, 2, 1, 0] rfl)
  intro ag7 ih8 x3 x4 x5 σ6 hf H locs ls hW hl
  refine lv_iload_n hx hb dX8_price_12 rfl (lv_at hl 3 rfl) ?_
  refine lv_aload_n hx hb dX8_price_13 rfl (lv_at hl 0 rfl) ?_
  obtain ⟨r10, hc9, hf⟩ := nb_b_e hf
  refine nb_ci hW (va_runV (As := []) (rest := [.int x5]) ⟨hx, hb, hml, hown, hts⟩ (c_X8_codesOf l hinj hZo (N := N) hc9 ) (cwV 0 hts (xg_V tw5_202 tw5_204 tp3_13 tw1_10 tw5_205) rfl rfl rfl (by decide +kernel) ⟨Nat.le_of_ble_eq_true rfl, Nat.le_of_ble_eq_true rfl⟩) (nb_preV hK hZ hZo hW (k := 0) rfl rfl) rfl rfl hl.1 rfl (lv_room (Nat.le_of_ble_eq_true rfl)) dX8_price_14 ⟨Nat.zero_le _, Nat.zero_le _⟩) (fun H locs hW => ?_)
  refine lv_icmp_ge (tgt := 78) hx hb dX8_price_17 (by decide) (fun c11 => ?_) (fun c11 => ?_)
  · rw [if_pos c11] at hf
    refine lv_iload_n hx hb dX8_price_78 rfl (lv_at hl 1 rfl) ?_
    refine lv_if_ge (tgt := 87) hx hb dX8_price_79 (by decide) (fun c12 => ?_) (fun c12 => ?_)
    · rw [if_pos c12] at hf
      refine lv_iload_n hx hb dX8_price_87 rfl (lv_at hl 1 rfl) ?_
      refine lv_iload_n hx hb dX8_price_88 rfl (lv_at hl 2 rfl) ?_
      refine lv_isub hx hb dX8_price_89 ?_
      exact nb_ri hx hb hr hlocks hK hZ hZo hW  hf dX8_price_90
    · rw [if_neg c12] at hf
      refine lv_bipush (v := (-4 : Int32)) hx hb dX8_price_82 (by decide) ?_
      refine lv_goto (tgt := 90) hx hb dX8_price_84 (by decide) ?_
      exact nb_ri hx hb hr hlocks hK hZ hZo hW  hf dX8_price_90
  · rw [if_neg c11] at hf
    refine lv_aload_n hx hb dX8_price_20 rfl (lv_at hl 0 rfl) ?_
    refine lv_iload_n hx hb dX8_price_21 rfl (lv_at hl 3 rfl) ?_
    obtain ⟨σ14, hc13, hf⟩ := nb_b_e hf
    refine nb_cv hW (va_runV (As := [.int x5]) (rest := []) ⟨hx, hb, hml, hown, hts⟩ (c_X8_takeSlots l hinj hZo (N := N) hc13 ) (cwV 1 hts (xg_V tw5_206 tw5_208 tp3_14 tw1_10 tw5_209) rfl rfl rfl (by decide +kernel) ⟨Nat.le_of_ble_eq_true rfl, Nat.le_of_ble_eq_true rfl⟩) (nb_preV hK hZ hZo hW (k := 0) rfl rfl) rfl rfl hl.1 rfl (lv_room (Nat.le_of_ble_eq_true rfl)) dX8_price_22 ⟨Nat.zero_le _, Nat.zero_le _⟩) (fun H locs hW => ?_)
    refine lv_aload_n hx hb dX8_price_25 rfl (lv_at hl 0 rfl) ?_
    obtain ⟨r16, hc15, hf⟩ := nb_b_e hf
    refine nb_ci hW (va_runV (As := []) (rest := []) ⟨hx, hb, hml, hown, hts⟩ (c_X8_sumOfCosts l hinj hZo (N := N) hc15 ) (cwV 0 hts (xg_V tw5_218 tw5_220 tp4_0 tw1_10 tw5_221) rfl rfl rfl (by decide +kernel) ⟨Nat.le_of_ble_eq_true rfl, Nat.le_of_ble_eq_true rfl⟩) (nb_preV hK hZ hZo hW (k := 0) rfl rfl) rfl rfl hl.1 rfl (lv_room (Nat.le_of_ble_eq_true rfl)) dX8_price_26 ⟨Nat.zero_le _, Nat.zero_le _⟩) (fun H locs hW => ?_)
    refine lv_istore (lv' := [(4, .int r16), (0, .ref (G.2.1 0)), (1, .int x3), (2, .int x4), (3, .int x5)]) hx hb dX8_price_29 hl (by decide) rfl (fun ls hl => ?_)
    refine lv_iload_n hx hb dX8_price_31 rfl (lv_at hl 3 rfl) ?_
    obtain ⟨k17, ek17, hf⟩ := nb_let_e hf
    have w18 : ∀ (v19 : Int32) (H : Heap) (locs : List Loc) (ls : Array Slot), k17 v19 = some (ro, σo) → nb_W G xm_sh s.heap σ14 H locs → lv_has ls 5 [(0, .ref (G.2.1 0)), (1, .int x3), (3, .int x5), (4, .int r16)] → W p l e rmX8_price s m args below meth c H locs 0 0 (MQ below (nb_Qi G xm_sh Z ro σo) args s 0 0 (nb_A xm_sh G.2.1)) (F0 m 47 ls [.int v19]) := by
      intro v19 H locs ls hf hW hl
      have hf := (congrFun ek17 v19).symm.trans hf
      refine lv_istore_n (lv' := [(2, .int v19), (0, .ref (G.2.1 0)), (1, .int x3), (3, .int x5), (4, .int r16)]) hx hb dX8_price_47 rfl hl (by decide) rfl (fun ls hl => ?_)
      refine lv_aload_n hx hb dX8_price_48 rfl (lv_at hl 1 rfl) ?_
      obtain ⟨r21, σ22, hc20, hf⟩ := nb_b2_e hf
      refine nb_ci hW (va_runV (As := []) (rest := []) ⟨hx, hb, hml, hown, hts⟩ (c_X8_isRest l hinj hZo (N := N) hc20 ) (cwV 0 hts (xg_V tw5_210 tw5_212 tp3_15 tw1_10 tw5_213) rfl rfl rfl (by decide +kernel) ⟨Nat.le_of_ble_eq_true rfl, Nat.le_of_ble_eq_true rfl⟩) (nb_preV hK hZ hZo hW (k := 0) rfl rfl) rfl rfl hl.1 rfl (lv_room (Nat.le_of_ble_eq_true rfl)) dX8_price_49 ⟨Nat.zero_le _, Nat.zero_le _⟩) (fun H locs hW => ?_)
      obtain ⟨k23, ek23, hf⟩ := nb_let_e hf
      have w24 : ∀ (v25 : Int32) (H : Heap) (locs : List Loc) (ls : Array Slot), k23 v25 = some (ro, σo) → nb_W G xm_sh s.heap σ22 H locs → lv_has ls 5 [(0, .ref (G.2.1 0)), (2, .int v19), (3, .int x5)] → W p l e rmX8_price s m args below meth c H locs 0 0 (MQ below (nb_Qi G xm_sh Z ro σo) args s 0 0 (nb_A xm_sh G.2.1)) (F0 m 71 ls [.int v25]) := by
        intro v25 H locs ls hf hW hl
        have hf := (congrFun ek23 v25).symm.trans hf
        refine lv_istore_n (lv' := [(1, .int v25), (0, .ref (G.2.1 0)), (2, .int v19), (3, .int x5)]) hx hb dX8_price_71 rfl hl (by decide) rfl (fun ls hl => ?_)
        refine lv_iinc (v := (x5 + 1)) (lv' := [(3, .int (x5 + 1)), (1, .int v25), (0, .ref (G.2.1 0)), (2, .int v19)]) hx hb dX8_price_72 hl (k := 3) rfl rfl (by decide) rfl (fun ls hl => ?_)
        refine lv_goto (tgt := 12) hx hb dX8_price_75 (by decide) ?_
        exact ih8 _ _ _ _ hf _ _ _ hW (lv_sub hl [2, 1, 3, 0] rfl)
      clear ek23
      obtain ⟨k26, ek26, hf⟩ := nb_let_e hf
      have w27 : ∀ (_u : Unit) (H : Heap) (locs : List Loc) (ls : Array Slot), k26 _u = some (ro, σo) → nb_W G xm_sh s.heap σ22 H locs → lv_has ls 5 [(0, .ref (G.2.1 0)), (1, .int x3), (2, .int v19), (3, .int x5)] → W p l e rmX8_price s m args below meth c H locs 0 0 (MQ below (nb_Qi G xm_sh Z ro σo) args s 0 0 (nb_A xm_sh G.2.1)) (F0 m 70 ls []) := by
        intro _u H locs ls hf hW hl
        have hf := (congrFun ek26 _u).symm.trans hf
        refine lv_iload_n hx hb dX8_price_70 rfl (lv_at hl 1 rfl) ?_
        exact w24 _ _ _ _ hf hW (lv_sub hl [0, 2, 3] rfl)
      clear ek26
      refine lv_if_eq (tgt := 70) hx hb dX8_price_52 (by decide) (fun c28 => ?_) (fun c28 => ?_)
      · rw [if_pos c28] at hf
        exact w27 ()  _ _ _ hf hW (lv_sub hl [1, 2, 0, 3] rfl)
      · rw [if_neg c28] at hf
        refine lv_iload_n hx hb dX8_price_55 rfl (lv_at hl 2 rfl) ?_
        obtain ⟨k29, ek29, hf⟩ := nb_let_e hf
        have w30 : ∀ (_u : Unit) (H : Heap) (locs : List Loc) (ls : Array Slot), k29 _u = some (ro, σo) → nb_W G xm_sh s.heap σ22 H locs → lv_has ls 5 [(0, .ref (G.2.1 0)), (2, .int v19), (3, .int x5), (4, .int r16)] → W p l e rmX8_price s m args below meth c H locs 0 0 (MQ below (nb_Qi G xm_sh Z ro σo) args s 0 0 (nb_A xm_sh G.2.1)) (F0 m 65 ls []) := by
          intro _u H locs ls hf hW hl
          have hf := (congrFun ek29 _u).symm.trans hf
          refine lv_iload hx hb dX8_price_65 (lv_at hl 3 rfl) ?_
          refine lv_goto (tgt := 71) hx hb dX8_price_67 (by decide) ?_
          exact w24 _ _ _ _ hf hW (lv_sub hl [0, 1, 2] rfl)
        clear ek29
        refine lv_if_lt (tgt := 65) hx hb dX8_price_56 (by decide) (fun c31 => ?_) (fun c31 => ?_)
        · rw [if_pos c31] at hf
          exact w30 ()  _ _ _ hf hW (lv_sub hl [1, 0, 3, 4] rfl)
        · rw [if_neg c31] at hf
          refine lv_iload hx hb dX8_price_59 (lv_at hl 4 rfl) ?_
          refine lv_iload_n hx hb dX8_price_61 rfl (lv_at hl 2 rfl) ?_
          refine lv_icmp_ge (tgt := 70) hx hb dX8_price_62 (by decide) (fun c32 => ?_) (fun c32 => ?_)
          · rw [if_pos c32] at hf
            exact w27 ()  _ _ _ hf hW (lv_sub hl [1, 2, 0, 3] rfl)
          · rw [if_neg c32] at hf
            exact w30 ()  _ _ _ hf hW (lv_sub hl [1, 0, 3, 4] rfl)
    clear ek17
    obtain ⟨k33, ek33, hf⟩ := nb_let_e hf
    have w34 : ∀ (_u : Unit) (H : Heap) (locs : List Loc) (ls : Array Slot), k33 _u = some (ro, σo) → nb_W G xm_sh s.heap σ14 H locs → lv_has ls 5 [(0, .ref (G.2.1 0)), (1, .int x3), (3, .int x5), (4, .int r16)] → W p l e rmX8_price s m args below meth c H locs 0 0 (MQ below (nb_Qi G xm_sh Z ro σo) args s 0 0 (nb_A xm_sh G.2.1)) (F0 m 41 ls []) := by
      intro _u H locs ls hf hW hl
      have hf := (congrFun ek33 _u).symm.trans hf
      refine lv_iload hx hb dX8_price_41 (lv_at hl 3 rfl) ?_
      refine lv_goto (tgt := 47) hx hb dX8_price_43 (by decide) ?_
      exact w18 _ _ _ _ hf hW (lv_sub hl [0, 1, 2, 3] rfl)
    clear ek33
    refine lv_if_lt (tgt := 41) hx hb dX8_price_32 (by decide) (fun c35 => ?_) (fun c35 => ?_)
    · rw [if_pos c35] at hf
      exact w34 ()  _ _ _ hf hW (lv_sub hl [1, 2, 4, 0] rfl)
    · rw [if_neg c35] at hf
      refine lv_iload hx hb dX8_price_35 (lv_at hl 0 rfl) ?_
      refine lv_iload_n hx hb dX8_price_37 rfl (lv_at hl 3 rfl) ?_
      refine lv_icmp_ge (tgt := 46) hx hb dX8_price_38 (by decide) (fun c36 => ?_) (fun c36 => ?_)
      · rw [if_pos c36] at hf
        refine lv_iload_n hx hb dX8_price_46 rfl (lv_at hl 3 rfl) ?_
        exact w18 _ _ _ _ hf hW (lv_sub hl [1, 2, 4, 0] rfl)
      · rw [if_neg c36] at hf
        exact w34 ()  _ _ _ hf hW (lv_sub hl [1, 2, 4, 0] rfl)
def fX8_lowest (N : Nat) (σ : nb_St) (a0 : Int64) (a1 : Int64) (a2 : Int32) : Option Int64 :=
  nb_lp2 (R := Int64) (fun ag3 (x1 : Int64) (x2 : Int64) =>
  (if (lg_cmp x2 (0 : Int64)) = 0 then
  (if a2 = 0 then
  nb_g (decide (¬ x1 = 0)) (
  some (a0 / x1))
  else
  nb_g (decide (¬ x1 = 0)) (
  some (a1 / x1)))
  else
  nb_g (decide (¬ x2 = 0)) (
  nb_let (nb_lrem x1 x2) fun x10 =>
  ag3 x2 x10))) N a0 a1
def rmX8_lowest : Room := { frames := 0, cells := 0, slots := 0, locals := 0 }
def vsX8_lowest : List Cond := .code yX8_lowest cX8_lowest 11 (some .long) :: xT
set_option maxHeartbeats 4000000 in
set_option maxRecDepth 100000 in
theorem c_X8_lowest (l : Launch) {G : nb_G} {Z : State → Heap → Prop} (hinj : nb_inj xm_sh G.2.1) (hZo : nb_Zok (nb_A xm_sh G.2.1) Z) {N : Nat} {σ : nb_St} {a0 : Int64} {a1 : Int64} {a2 : Int32} {ro : Int64} (hf : fX8_lowest N σ a0 a1 a2 = some ro)  : Met l yX8_lowest vsX8_lowest rmX8_lowest (nb_Pc G xm_sh Z σ [.long a0, .long a1, .int a2]) (nb_Ql G xm_sh Z ro σ) 0 0 (nb_A xm_sh G.2.1) := by
  refine Met.ofW (cc := cX8_lowest) (maxL := 11) (ret := (some .long)) (by decide) rfl ?_
  intro p e s m args below meth c s₁ B hml hv
  obtain ⟨rfl, hP, hK, hZ⟩ := hv
  have hx := B.exec
  have hb := B.bytes
  have hr := B.returns
  have hts : ∀ w ∈ xT, w.before _ s = true := fun w h9 => atoms_spec (ws := vsX8_lowest) B.pre w (List.mem_cons_of_mem _ h9)
  have hown : s.vm.findClass RX8 = some m.cls := findClass_of_methodNamed B.named
  have hlocks := B.notSynchronized
  have hW : nb_W G xm_sh s.heap σ s.heap [] := ⟨hP, va_S.rf⟩
  have hl := lv_entry ([.long a0, .long a1, .int a2]) (n := 11) (Nat.le_of_ble_eq_true rfl)
  rw [lg_entry_eq]
  generalize (lg_sl ([.long a0, .long a1, .int a2]) ++ List.replicate (11 - (lg_sl ([.long a0, .long a1, .int a2])).length) Slot.unset).toArray = ls at hl ⊢
  have hl : lv_has ls 11 [(0, .long a0), (2, .long a1), (4, .int a2)] := hl
  show W p l e rmX8_lowest s m ([.long a0, .long a1, .int a2]).toArray below meth c s.heap [] 0 0 (MQ below (nb_Ql G xm_sh Z ro σ) ([.long a0, .long a1, .int a2]).toArray s 0 0 (nb_A xm_sh G.2.1)) (F0 m 0 ls [])
  generalize hargs : ([.long a0, .long a1, .int a2] : List Value).toArray = args at hts ⊢
  unfold fX8_lowest at hf
  obtain ⟨H, eH⟩ : ∃ H, H = s.heap := ⟨_, rfl⟩
  obtain ⟨locs, eL⟩ : ∃ L : List Loc, L = [] := ⟨_, rfl⟩
  have hW : nb_W G xm_sh s.heap σ H locs := by rw [eH, eL]; exact hW
  suffices hgo : W p l e rmX8_lowest s m args below meth c H locs 0 0 (MQ below (nb_Ql G xm_sh Z ro σ) args s 0 0 (nb_A xm_sh G.2.1)) (F0 m 0 ls []) by rw [eH, eL] at hgo; exact hgo
  clear eH eL
  refine lv_lload_n hx hb dX8_lowest_0 rfl (lv_at hl 0 rfl) ?_
  refine lv_lstore (lv' := [(5, .long a0), (0, .long a0), (2, .long a1), (4, .int a2)]) hx hb dX8_lowest_1 hl (by decide) rfl (fun ls hl => ?_)
  refine lv_lload_n hx hb dX8_lowest_3 rfl (lv_at hl 2 rfl) ?_
  refine lv_lstore (lv' := [(7, .long a1), (5, .long a0), (0, .long a0), (2, .long a1), (4, .int a2)]) hx hb dX8_lowest_4 hl (by decide) rfl (fun ls hl => ?_)
  refine nb_w2 (P := fun (x1 : Int64) (x2 : Int64) => ∀ (H : Heap) (locs : List Loc) (ls : Array Slot), nb_W G xm_sh s.heap σ H locs → lv_has ls 11 [(0, .long a0), (2, .long a1), (4, .int a2), (5, .long x1), (7, .long x2)] → W p l e rmX8_lowest s m args below meth c H locs 0 0 (MQ below (nb_Ql G xm_sh Z ro σ) args s 0 0 (nb_A xm_sh G.2.1)) (F0 m 6 ls [])) ?_ N _ _ hf H locs ls hW (lv_sub hl [2, 3, 4, 1, 0] rfl)
  intro ag3 ih4 x1 x2 hf H locs ls hW hl
  refine lv_lload hx hb dX8_lowest_6 (lv_at hl 4 rfl) ?_
  refine lv_lconst (v := (0 : Int64)) hx hb dX8_lowest_8 (by decide) ?_
  refine W.lcmp hx hb dX8_lowest_9 ?_
  refine lv_if_eq (tgt := 31) hx hb dX8_lowest_10 (by decide) (fun c5 => ?_) (fun c5 => ?_)
  · rw [if_pos c5] at hf
    refine lv_iload hx hb dX8_lowest_31 (lv_at hl 2 rfl) ?_
    refine lv_if_ne (tgt := 43) hx hb dX8_lowest_33 (by decide) (fun c6 => ?_) (fun c6 => ?_)
    · rw [if_neg c6] at hf
      refine lv_lload_n hx hb dX8_lowest_43 rfl (lv_at hl 1 rfl) ?_
      refine lv_lload hx hb dX8_lowest_44 (lv_at hl 3 rfl) ?_
      obtain ⟨g7, hf⟩ := nb_g_e hf
      refine lv_ldiv hx hb dX8_lowest_46 (of_decide_eq_true g7) ?_
      exact nb_rlp hx hb hr hlocks hK hZ hZo hW  hf dX8_lowest_47
    · rw [if_pos c6] at hf
      refine lv_lload_n hx hb dX8_lowest_36 rfl (lv_at hl 0 rfl) ?_
      refine lv_lload hx hb dX8_lowest_37 (lv_at hl 3 rfl) ?_
      obtain ⟨g8, hf⟩ := nb_g_e hf
      refine lv_ldiv hx hb dX8_lowest_39 (of_decide_eq_true g8) ?_
      refine lv_goto (tgt := 47) hx hb dX8_lowest_40 (by decide) ?_
      exact nb_rlp hx hb hr hlocks hK hZ hZo hW  hf dX8_lowest_47
  · rw [if_neg c5] at hf
    refine lv_lload hx hb dX8_lowest_13 (lv_at hl 3 rfl) ?_
    refine lv_lload hx hb dX8_lowest_15 (lv_at hl 4 rfl) ?_
    obtain ⟨g9, hf⟩ := nb_g_e hf
    refine nb_lremr hx hb dX8_lowest_17 (of_decide_eq_true g9) ?_
    obtain ⟨x10, ex10, hf⟩ := nb_let_e hf
    refine nb_naml ex10 ?_
    refine lv_lstore (lv' := [(9, .long x10), (0, .long a0), (2, .long a1), (4, .int a2), (5, .long x1), (7, .long x2)]) hx hb dX8_lowest_18 hl (by decide) rfl (fun ls hl => ?_)
    refine lv_lload hx hb dX8_lowest_20 (lv_at hl 5 rfl) ?_
    refine lv_lstore (lv' := [(5, .long x2), (9, .long x10), (0, .long a0), (2, .long a1), (4, .int a2), (7, .long x2)]) hx hb dX8_lowest_22 hl (by decide) rfl (fun ls hl => ?_)
    refine lv_lload hx hb dX8_lowest_24 (lv_at hl 1 rfl) ?_
    refine lv_lstore (lv' := [(7, .long x10), (5, .long x2), (9, .long x10), (0, .long a0), (2, .long a1), (4, .int a2)]) hx hb dX8_lowest_26 hl (by decide) rfl (fun ls hl => ?_)
    refine lv_goto (tgt := 6) hx hb dX8_lowest_28 (by decide) ?_
    exact ih4 _ _ hf _ _ _ hW (lv_sub hl [3, 4, 5, 1, 0] rfl)
def fX8_meant (N : Nat) (σ : nb_St) (a0 : Int32) (a1 : Int32) : Option Int32 :=
  nb_b (fX8_in N σ ((a0).toInt64) (1 : Int64) (3 : Int64)) fun r2 =>
  nb_let (fun (_u : Unit) =>
  some (-1 : Int32)) fun k3 =>
  (if r2 = 0 then
  k3 ()
  else
  nb_b (fX8_in N σ ((a1).toInt64) (0 : Int64) (1 : Int64)) fun r7 =>
  (if r7 = 0 then
  k3 ()
  else
  nb_g (nb_in (a0 - (1 : Int32)) 6) (
  nb_g (nb_in (a0 - (1 : Int32)) 6) (
  nb_let ((σ 13 (nb_ix (a0 - (1 : Int32)))) + (σ 14 (nb_ix (a0 - (1 : Int32))))) fun x11 =>
  (if x11 = 0 then
  some (-4 : Int32)
  else
  nb_g (nb_in (a0 - (1 : Int32)) 6) (
  nb_b (fX8_lowest N σ (((σ 13 (nb_ix (a0 - (1 : Int32))))).toInt64) ((x11).toInt64) a1) fun r15 =>
  some ((r15).toInt32)))))))
def rmX8_meant : Room := { frames := 1, cells := 0, slots := 0, locals := 30 }
def vsX8_meant : List Cond := .code yX8_meant cX8_meant 4 (some .int) :: xT
set_option maxHeartbeats 4000000 in
set_option maxRecDepth 100000 in
theorem c_X8_meant (l : Launch) {G : nb_G} {Z : State → Heap → Prop} (hinj : nb_inj xm_sh G.2.1) (hZo : nb_Zok (nb_A xm_sh G.2.1) Z) {N : Nat} {σ : nb_St} {a0 : Int32} {a1 : Int32} {ro : Int32} (hf : fX8_meant N σ a0 a1 = some ro)  : Met l yX8_meant vsX8_meant rmX8_meant (nb_Pc G xm_sh Z σ [.ref (G.2.1 0), .int a0, .int a1]) (nb_Qi G xm_sh Z ro σ) 0 0 (nb_A xm_sh G.2.1) := by
  refine Met.ofW (cc := cX8_meant) (maxL := 4) (ret := (some .int)) (by decide) rfl ?_
  intro p e s m args below meth c s₁ B hml hv
  obtain ⟨rfl, hP, hK, hZ⟩ := hv
  have hx := B.exec
  have hb := B.bytes
  have hr := B.returns
  have hts : ∀ w ∈ xT, w.before _ s = true := fun w h9 => atoms_spec (ws := vsX8_meant) B.pre w (List.mem_cons_of_mem _ h9)
  have hown : s.vm.findClass RX8 = some m.cls := findClass_of_methodNamed B.named
  have hlocks := B.notSynchronized
  have hW : nb_W G xm_sh s.heap σ s.heap [] := ⟨hP, va_S.rf⟩
  have hl := lv_entry ([.ref (G.2.1 0), .int a0, .int a1]) (n := 4) (Nat.le_of_ble_eq_true rfl)
  rw [lg_entry_eq]
  generalize (lg_sl ([.ref (G.2.1 0), .int a0, .int a1]) ++ List.replicate (4 - (lg_sl ([.ref (G.2.1 0), .int a0, .int a1])).length) Slot.unset).toArray = ls at hl ⊢
  have hl : lv_has ls 4 [(0, .ref (G.2.1 0)), (1, .int a0), (2, .int a1)] := hl
  show W p l e rmX8_meant s m ([.ref (G.2.1 0), .int a0, .int a1]).toArray below meth c s.heap [] 0 0 (MQ below (nb_Qi G xm_sh Z ro σ) ([.ref (G.2.1 0), .int a0, .int a1]).toArray s 0 0 (nb_A xm_sh G.2.1)) (F0 m 0 ls [])
  generalize hargs : ([.ref (G.2.1 0), .int a0, .int a1] : List Value).toArray = args at hts ⊢
  unfold fX8_meant at hf
  obtain ⟨H, eH⟩ : ∃ H, H = s.heap := ⟨_, rfl⟩
  obtain ⟨locs, eL⟩ : ∃ L : List Loc, L = [] := ⟨_, rfl⟩
  have hW : nb_W G xm_sh s.heap σ H locs := by rw [eH, eL]; exact hW
  suffices hgo : W p l e rmX8_meant s m args below meth c H locs 0 0 (MQ below (nb_Qi G xm_sh Z ro σ) args s 0 0 (nb_A xm_sh G.2.1)) (F0 m 0 ls []) by rw [eH, eL] at hgo; exact hgo
  clear eH eL
  refine lv_iload_n hx hb dX8_meant_0 rfl (lv_at hl 1 rfl) ?_
  refine lv_i2l hx hb dX8_meant_1 rfl ?_
  refine lv_lconst (v := (1 : Int64)) hx hb dX8_meant_2 (by decide) ?_
  refine lv_ldc2 (own := RX8) (v := (3 : Int64)) hx hb hown (hts _ tw5_43) dX8_meant_3 ?_
  obtain ⟨r2, hc1, hf⟩ := nb_b_e hf
  refine nb_ci hW (va_runS (As := [.long ((a0).toInt64), .long (1 : Int64), .long (3 : Int64)]) (rest := []) ⟨hx, hb, hml, hown, hts⟩ (c_X8_in l hinj hZo (N := N) hc1 ) (va_cwS 3 hts (xg_S tw5_9 tw5_10 tw1_10 tw5_11) rfl rfl rfl (by decide +kernel) ⟨Nat.le_of_ble_eq_true rfl, Nat.le_of_ble_eq_true rfl⟩) (nb_preS hK hZ hZo hW) rfl rfl hl.1 rfl (lv_room (Nat.le_of_ble_eq_true rfl)) dX8_meant_6 ⟨Nat.zero_le _, Nat.zero_le _⟩) (fun H locs hW => ?_)
  obtain ⟨k3, ek3, hf⟩ := nb_let_e hf
  have w4 : ∀ (_u : Unit) (H : Heap) (locs : List Loc) (ls : Array Slot), k3 _u = some ro → nb_W G xm_sh s.heap σ H locs → lv_has ls 4 [] → W p l e rmX8_meant s m args below meth c H locs 0 0 (MQ below (nb_Qi G xm_sh Z ro σ) args s 0 0 (nb_A xm_sh G.2.1)) (F0 m 22 ls []) := by
    intro _u H locs ls hf hW hl
    have hf := (congrFun ek3 _u).symm.trans hf
    refine lv_iconst (v := (-1 : Int32)) hx hb dX8_meant_22 (by decide) ?_
    exact nb_rip hx hb hr hlocks hK hZ hZo hW  hf dX8_meant_23
  clear ek3
  refine lv_if_eq (tgt := 22) hx hb dX8_meant_9 (by decide) (fun c5 => ?_) (fun c5 => ?_)
  · rw [if_pos c5] at hf
    exact w4 ()  _ _ _ hf hW (lv_sub hl [] rfl)
  · rw [if_neg c5] at hf
    refine lv_iload_n hx hb dX8_meant_12 rfl (lv_at hl 2 rfl) ?_
    refine lv_i2l hx hb dX8_meant_13 rfl ?_
    refine lv_lconst (v := (0 : Int64)) hx hb dX8_meant_14 (by decide) ?_
    refine lv_lconst (v := (1 : Int64)) hx hb dX8_meant_15 (by decide) ?_
    obtain ⟨r7, hc6, hf⟩ := nb_b_e hf
    refine nb_ci hW (va_runS (As := [.long ((a1).toInt64), .long (0 : Int64), .long (1 : Int64)]) (rest := []) ⟨hx, hb, hml, hown, hts⟩ (c_X8_in l hinj hZo (N := N) hc6 ) (va_cwS 3 hts (xg_S tw5_9 tw5_10 tw1_10 tw5_11) rfl rfl rfl (by decide +kernel) ⟨Nat.le_of_ble_eq_true rfl, Nat.le_of_ble_eq_true rfl⟩) (nb_preS hK hZ hZo hW) rfl rfl hl.1 rfl (lv_room (Nat.le_of_ble_eq_true rfl)) dX8_meant_16 ⟨Nat.zero_le _, Nat.zero_le _⟩) (fun H locs hW => ?_)
    refine lv_if_ne (tgt := 24) hx hb dX8_meant_19 (by decide) (fun c8 => ?_) (fun c8 => ?_)
    · rw [if_neg c8] at hf
      refine lv_aload_n hx hb dX8_meant_24 rfl (lv_at hl 0 rfl) ?_
      refine nb_get (C := RX8) (T := TX8) (N := 40) hx hb hts inT_X8 hown hK hW 0 rfl rfl 13 (by decide) (hts _ tw4_136) (fun _ h9 => h9) rfl (v := .ref (G.2.1 13)) rfl dX8_meant_25 ?_
      refine lv_iload_n hx hb dX8_meant_28 rfl (lv_at hl 1 rfl) ?_
      refine lv_iconst (v := (1 : Int32)) hx hb dX8_meant_29 (by decide) ?_
      refine lv_isub hx hb dX8_meant_30 ?_
      obtain ⟨g9, hf⟩ := nb_g_e hf
      refine nb_iald hx hb hK hW 13 rfl g9 dX8_meant_31 ?_
      refine lv_aload_n hx hb dX8_meant_32 rfl (lv_at hl 0 rfl) ?_
      refine nb_get (C := RX8) (T := TX8) (N := 40) hx hb hts inT_X8 hown hK hW 0 rfl rfl 14 (by decide) (hts _ tw4_137) (fun _ h9 => h9) rfl (v := .ref (G.2.1 14)) rfl dX8_meant_33 ?_
      refine lv_iload_n hx hb dX8_meant_36 rfl (lv_at hl 1 rfl) ?_
      refine lv_iconst (v := (1 : Int32)) hx hb dX8_meant_37 (by decide) ?_
      refine lv_isub hx hb dX8_meant_38 ?_
      obtain ⟨g10, hf⟩ := nb_g_e hf
      refine nb_iald hx hb hK hW 14 rfl g10 dX8_meant_39 ?_
      refine lv_iadd hx hb dX8_meant_40 ?_
      obtain ⟨x11, ex11, hf⟩ := nb_let_e hf
      refine nb_nami ex11 ?_
      refine lv_istore_n (lv' := [(3, .int x11), (0, .ref (G.2.1 0)), (1, .int a0), (2, .int a1)]) hx hb dX8_meant_41 rfl hl (by decide) rfl (fun ls hl => ?_)
      refine lv_iload_n hx hb dX8_meant_42 rfl (lv_at hl 0 rfl) ?_
      refine lv_if_ne (tgt := 51) hx hb dX8_meant_43 (by decide) (fun c12 => ?_) (fun c12 => ?_)
      · rw [if_neg c12] at hf
        refine lv_aload_n hx hb dX8_meant_51 rfl (lv_at hl 1 rfl) ?_
        refine nb_get (C := RX8) (T := TX8) (N := 40) hx hb hts inT_X8 hown hK hW 0 rfl rfl 13 (by decide) (hts _ tw4_136) (fun _ h9 => h9) rfl (v := .ref (G.2.1 13)) rfl dX8_meant_52 ?_
        refine lv_iload_n hx hb dX8_meant_55 rfl (lv_at hl 2 rfl) ?_
        refine lv_iconst (v := (1 : Int32)) hx hb dX8_meant_56 (by decide) ?_
        refine lv_isub hx hb dX8_meant_57 ?_
        obtain ⟨g13, hf⟩ := nb_g_e hf
        refine nb_iald hx hb hK hW 13 rfl g13 dX8_meant_58 ?_
        refine lv_i2l hx hb dX8_meant_59 rfl ?_
        refine lv_iload_n hx hb dX8_meant_60 rfl (lv_at hl 0 rfl) ?_
        refine lv_i2l hx hb dX8_meant_61 rfl ?_
        refine lv_iload_n hx hb dX8_meant_62 rfl (lv_at hl 3 rfl) ?_
        obtain ⟨r15, hc14, hf⟩ := nb_b_e hf
        refine nb_cl hW (va_runS (As := [.long (((σ 13 (nb_ix (a0 - (1 : Int32))))).toInt64), .long ((x11).toInt64), .int a1]) (rest := []) ⟨hx, hb, hml, hown, hts⟩ (c_X8_lowest l hinj hZo (N := N) hc14 ) (va_cwS 3 hts (xg_S tw5_226 tw5_227 tw1_10 tw5_228) rfl rfl rfl (by decide +kernel) ⟨Nat.le_of_ble_eq_true rfl, Nat.le_of_ble_eq_true rfl⟩) (nb_preS hK hZ hZo hW) rfl rfl hl.1 rfl (lv_room (Nat.le_of_ble_eq_true rfl)) dX8_meant_63 ⟨Nat.zero_le _, Nat.zero_le _⟩) (fun H locs hW => ?_)
        refine lv_l2i hx hb dX8_meant_66 rfl ?_
        exact nb_rip hx hb hr hlocks hK hZ hZo hW  hf dX8_meant_67
      · rw [if_pos c12] at hf
        refine lv_bipush (v := (-4 : Int32)) hx hb dX8_meant_46 (by decide) ?_
        refine lv_goto (tgt := 67) hx hb dX8_meant_48 (by decide) ?_
        exact nb_rip hx hb hr hlocks hK hZ hZo hW  hf dX8_meant_67
    · rw [if_pos c8] at hf
      exact w4 ()  _ _ _ hf hW (lv_sub hl [] rfl)
def fX8_sinceOf (N : Nat) (σ : nb_St) (a0 : Int32) (a1 : Int32) : Option Int64 :=
  nb_lp2 (R := Int64) (fun ag3 (x1 : Int64) (x2 : Int32) =>
  nb_g (nb_in (0 : Int32) 2) (
  (if (σ 15 (nb_ix (0 : Int32))) ≤ x2 then
  some x1
  else
  nb_g (nb_in x2 12) (
  nb_let (fun (x10 : Int64) =>
  ag3 x10 (x2 + 1)) fun k8 =>
  (if (σ 16 (nb_ix x2)) = a0 then
  nb_g (nb_in x2 12) (
  nb_let (fun (v15 : Int32) =>
  nb_let (fun (v18 : Int64) =>
  nb_let (x1 * v18) fun x19 =>
  k8 x19) fun k16 =>
  (if v15 = 0 then
  nb_g (nb_in x2 12) (
  (if (σ 18 (nb_ix x2)) = (1 : Int32) then
  k16 (3 : Int64)
  else
  k16 (7 : Int64)))
  else
  nb_g (nb_in x2 12) (
  (if (σ 18 (nb_ix x2)) = (1 : Int32) then
  k16 (0 : Int64)
  else
  k16 (10 : Int64))))) fun k13 =>
  (if ((30 : Int32) * a1) ≤ (σ 17 (nb_ix x2)) then
  k13 (0 : Int32)
  else
  k13 (1 : Int32)))
  else
  k8 x1))))) N (1 : Int64) (0 : Int32)
def rmX8_sinceOf : Room := { frames := 0, cells := 0, slots := 0, locals := 0 }
def vsX8_sinceOf : List Cond := .code yX8_sinceOf cX8_sinceOf 7 (some .long) :: xT
set_option maxHeartbeats 4000000 in
set_option maxRecDepth 100000 in
theorem c_X8_sinceOf (l : Launch) {G : nb_G} {Z : State → Heap → Prop} (hinj : nb_inj xm_sh G.2.1) (hZo : nb_Zok (nb_A xm_sh G.2.1) Z) {N : Nat} {σ : nb_St} {a0 : Int32} {a1 : Int32} {ro : Int64} (hf : fX8_sinceOf N σ a0 a1 = some ro)  : Met l yX8_sinceOf vsX8_sinceOf rmX8_sinceOf (nb_Pc G xm_sh Z σ [.ref (G.2.1 0), .int a0, .int a1]) (nb_Ql G xm_sh Z ro σ) 0 0 (nb_A xm_sh G.2.1) := by
  refine Met.ofW (cc := cX8_sinceOf) (maxL := 7) (ret := (some .long)) (by decide) rfl ?_
  intro p e s m args below meth c s₁ B hml hv
  obtain ⟨rfl, hP, hK, hZ⟩ := hv
  have hx := B.exec
  have hb := B.bytes
  have hr := B.returns
  have hts : ∀ w ∈ xT, w.before _ s = true := fun w h9 => atoms_spec (ws := vsX8_sinceOf) B.pre w (List.mem_cons_of_mem _ h9)
  have hown : s.vm.findClass RX8 = some m.cls := findClass_of_methodNamed B.named
  have hlocks := B.notSynchronized
  have hW : nb_W G xm_sh s.heap σ s.heap [] := ⟨hP, va_S.rf⟩
  have hl := lv_entry ([.ref (G.2.1 0), .int a0, .int a1]) (n := 7) (Nat.le_of_ble_eq_true rfl)
  rw [lg_entry_eq]
  generalize (lg_sl ([.ref (G.2.1 0), .int a0, .int a1]) ++ List.replicate (7 - (lg_sl ([.ref (G.2.1 0), .int a0, .int a1])).length) Slot.unset).toArray = ls at hl ⊢
  have hl : lv_has ls 7 [(0, .ref (G.2.1 0)), (1, .int a0), (2, .int a1)] := hl
  show W p l e rmX8_sinceOf s m ([.ref (G.2.1 0), .int a0, .int a1]).toArray below meth c s.heap [] 0 0 (MQ below (nb_Ql G xm_sh Z ro σ) ([.ref (G.2.1 0), .int a0, .int a1]).toArray s 0 0 (nb_A xm_sh G.2.1)) (F0 m 0 ls [])
  generalize hargs : ([.ref (G.2.1 0), .int a0, .int a1] : List Value).toArray = args at hts ⊢
  unfold fX8_sinceOf at hf
  obtain ⟨H, eH⟩ : ∃ H, H = s.heap := ⟨_, rfl⟩
  obtain ⟨locs, eL⟩ : ∃ L : List Loc, L = [] := ⟨_, rfl⟩
  have hW : nb_W G xm_sh s.heap σ H locs := by rw [eH, eL]; exact hW
  suffices hgo : W p l e rmX8_sinceOf s m args below meth c H locs 0 0 (MQ below (nb_Ql G xm_sh Z ro σ) args s 0 0 (nb_A xm_sh G.2.1)) (F0 m 0 ls []) by rw [eH, eL] at hgo; exact hgo
  clear eH eL
  refine lv_lconst (v := (1 : Int64)) hx hb dX8_sinceOf_0 (by decide) ?_
  refine lv_lstore_n (lv' := [(3, .long (1 : Int64)), (0, .ref (G.2.1 0)), (1, .int a0), (2, .int a1)]) hx hb dX8_sinceOf_1 rfl hl (by decide) rfl (fun ls hl => ?_)
  refine lv_iconst (v := (0 : Int32)) hx hb dX8_sinceOf_2 (by decide) ?_
  refine lv_istore (lv' := [(5, .int (0 : Int32)), (3, .long (1 : Int64)), (0, .ref (G.2.1 0)), (1, .int a0), (2, .int a1)]) hx hb dX8_sinceOf_3 hl (by decide) rfl (fun ls hl => ?_)
  refine nb_w2 (P := fun (x1 : Int64) (x2 : Int32) => ∀ (H : Heap) (locs : List Loc) (ls : Array Slot), nb_W G xm_sh s.heap σ H locs → lv_has ls 7 [(0, .ref (G.2.1 0)), (1, .int a0), (2, .int a1), (3, .long x1), (5, .int x2)] → W p l e rmX8_sinceOf s m args below meth c H locs 0 0 (MQ below (nb_Ql G xm_sh Z ro σ) args s 0 0 (nb_A xm_sh G.2.1)) (F0 m 5 ls [])) ?_ N _ _ hf H locs ls hW (lv_sub hl [2, 3, 4, 1, 0] rfl)
  intro ag3 ih4 x1 x2 hf H locs ls hW hl
  refine lv_iload hx hb dX8_sinceOf_5 (lv_at hl 4 rfl) ?_
  refine lv_aload_n hx hb dX8_sinceOf_7 rfl (lv_at hl 0 rfl) ?_
  refine nb_get (C := RX8) (T := TX8) (N := 40) hx hb hts inT_X8 hown hK hW 0 rfl rfl 15 (by decide) (hts _ tw4_138) (fun _ h9 => h9) rfl (v := .ref (G.2.1 15)) rfl dX8_sinceOf_8 ?_
  refine lv_iconst (v := (0 : Int32)) hx hb dX8_sinceOf_11 (by decide) ?_
  obtain ⟨g5, hf⟩ := nb_g_e hf
  refine nb_iald hx hb hK hW 15 rfl g5 dX8_sinceOf_12 ?_
  refine lv_icmp_ge (tgt := 103) hx hb dX8_sinceOf_13 (by decide) (fun c6 => ?_) (fun c6 => ?_)
  · rw [if_pos c6] at hf
    refine lv_lload_n hx hb dX8_sinceOf_103 rfl (lv_at hl 3 rfl) ?_
    exact nb_rlp hx hb hr hlocks hK hZ hZo hW  hf dX8_sinceOf_104
  · rw [if_neg c6] at hf
    refine lv_aload_n hx hb dX8_sinceOf_16 rfl (lv_at hl 0 rfl) ?_
    refine nb_get (C := RX8) (T := TX8) (N := 40) hx hb hts inT_X8 hown hK hW 0 rfl rfl 16 (by decide) (hts _ tw4_139) (fun _ h9 => h9) rfl (v := .ref (G.2.1 16)) rfl dX8_sinceOf_17 ?_
    refine lv_iload hx hb dX8_sinceOf_20 (lv_at hl 4 rfl) ?_
    obtain ⟨g7, hf⟩ := nb_g_e hf
    refine nb_iald hx hb hK hW 16 rfl g7 dX8_sinceOf_22 ?_
    refine lv_iload_n hx hb dX8_sinceOf_23 rfl (lv_at hl 1 rfl) ?_
    obtain ⟨k8, ek8, hf⟩ := nb_let_e hf
    have w9 : ∀ (x10 : Int64) (H : Heap) (locs : List Loc) (ls : Array Slot), k8 x10 = some ro → nb_W G xm_sh s.heap σ H locs → lv_has ls 7 [(0, .ref (G.2.1 0)), (1, .int a0), (2, .int a1), (3, .long x10), (5, .int x2)] → W p l e rmX8_sinceOf s m args below meth c H locs 0 0 (MQ below (nb_Ql G xm_sh Z ro σ) args s 0 0 (nb_A xm_sh G.2.1)) (F0 m 97 ls []) := by
      intro x10 H locs ls hf hW hl
      have hf := (congrFun ek8 x10).symm.trans hf
      refine lv_iinc (v := (x2 + 1)) (lv' := [(5, .int (x2 + 1)), (0, .ref (G.2.1 0)), (1, .int a0), (2, .int a1), (3, .long x10)]) hx hb dX8_sinceOf_97 hl (k := 4) rfl rfl (by decide) rfl (fun ls hl => ?_)
      refine lv_goto (tgt := 5) hx hb dX8_sinceOf_100 (by decide) ?_
      exact ih4 _ _ hf _ _ _ hW (lv_sub hl [1, 2, 3, 4, 0] rfl)
    clear ek8
    refine lv_icmp_ne (tgt := 97) hx hb dX8_sinceOf_24 (by decide) (fun c11 => ?_) (fun c11 => ?_)
    · rw [if_neg c11] at hf
      exact w9 _ _ _ _ hf hW (lv_sub hl [0, 1, 2, 3, 4] rfl)
    · rw [if_pos c11] at hf
      refine lv_aload_n hx hb dX8_sinceOf_27 rfl (lv_at hl 0 rfl) ?_
      refine nb_get (C := RX8) (T := TX8) (N := 40) hx hb hts inT_X8 hown hK hW 0 rfl rfl 17 (by decide) (hts _ tw4_140) (fun _ h9 => h9) rfl (v := .ref (G.2.1 17)) rfl dX8_sinceOf_28 ?_
      refine lv_iload hx hb dX8_sinceOf_31 (lv_at hl 4 rfl) ?_
      obtain ⟨g12, hf⟩ := nb_g_e hf
      refine nb_iald hx hb hK hW 17 rfl g12 dX8_sinceOf_33 ?_
      refine lv_bipush (v := (30 : Int32)) hx hb dX8_sinceOf_34 (by decide) ?_
      refine lv_iload_n hx hb dX8_sinceOf_36 rfl (lv_at hl 2 rfl) ?_
      refine lv_imul hx hb dX8_sinceOf_37 ?_
      obtain ⟨k13, ek13, hf⟩ := nb_let_e hf
      have w14 : ∀ (v15 : Int32) (H : Heap) (locs : List Loc) (ls : Array Slot), k13 v15 = some ro → nb_W G xm_sh s.heap σ H locs → lv_has ls 7 [(0, .ref (G.2.1 0)), (1, .int a0), (2, .int a1), (3, .long x1), (5, .int x2)] → W p l e rmX8_sinceOf s m args below meth c H locs 0 0 (MQ below (nb_Ql G xm_sh Z ro σ) args s 0 0 (nb_A xm_sh G.2.1)) (F0 m 46 ls [.int v15]) := by
        intro v15 H locs ls hf hW hl
        have hf := (congrFun ek13 v15).symm.trans hf
        refine lv_istore (lv' := [(6, .int v15), (0, .ref (G.2.1 0)), (1, .int a0), (2, .int a1), (3, .long x1), (5, .int x2)]) hx hb dX8_sinceOf_46 hl (by decide) rfl (fun ls hl => ?_)
        refine lv_lload_n hx hb dX8_sinceOf_48 rfl (lv_at hl 4 rfl) ?_
        refine lv_iload hx hb dX8_sinceOf_49 (lv_at hl 0 rfl) ?_
        obtain ⟨k16, ek16, hf⟩ := nb_let_e hf
        have w17 : ∀ (v18 : Int64) (H : Heap) (locs : List Loc) (ls : Array Slot), k16 v18 = some ro → nb_W G xm_sh s.heap σ H locs → lv_has ls 7 [(0, .ref (G.2.1 0)), (1, .int a0), (2, .int a1), (5, .int x2)] → W p l e rmX8_sinceOf s m args below meth c H locs 0 0 (MQ below (nb_Ql G xm_sh Z ro σ) args s 0 0 (nb_A xm_sh G.2.1)) (F0 m 95 ls [.long v18, .long x1]) := by
          intro v18 H locs ls hf hW hl
          have hf := (congrFun ek16 v18).symm.trans hf
          refine lv_lmul hx hb dX8_sinceOf_95 ?_
          obtain ⟨x19, ex19, hf⟩ := nb_let_e hf
          refine nb_naml ex19 ?_
          refine lv_lstore_n (lv' := [(3, .long x19), (0, .ref (G.2.1 0)), (1, .int a0), (2, .int a1), (5, .int x2)]) hx hb dX8_sinceOf_96 rfl hl (by decide) rfl (fun ls hl => ?_)
          exact w9 _ _ _ _ hf hW (lv_sub hl [1, 2, 3, 0, 4] rfl)
        clear ek16
        refine lv_if_eq (tgt := 75) hx hb dX8_sinceOf_51 (by decide) (fun c20 => ?_) (fun c20 => ?_)
        · rw [if_pos c20] at hf
          refine lv_aload_n hx hb dX8_sinceOf_75 rfl (lv_at hl 1 rfl) ?_
          refine nb_get (C := RX8) (T := TX8) (N := 40) hx hb hts inT_X8 hown hK hW 0 rfl rfl 18 (by decide) (hts _ tw4_141) (fun _ h9 => h9) rfl (v := .ref (G.2.1 18)) rfl dX8_sinceOf_76 ?_
          refine lv_iload hx hb dX8_sinceOf_79 (lv_at hl 5 rfl) ?_
          obtain ⟨g21, hf⟩ := nb_g_e hf
          refine nb_iald hx hb hK hW 18 rfl g21 dX8_sinceOf_81 ?_
          refine lv_iconst (v := (1 : Int32)) hx hb dX8_sinceOf_82 (by decide) ?_
          refine lv_icmp_ne (tgt := 92) hx hb dX8_sinceOf_83 (by decide) (fun c22 => ?_) (fun c22 => ?_)
          · rw [if_neg c22] at hf
            refine lv_ldc2 (own := RX8) (v := (7 : Int64)) hx hb hown (hts _ tw5_238) dX8_sinceOf_92 ?_
            exact w17 _ _ _ _ hf hW (lv_sub hl [1, 2, 3, 5] rfl)
          · rw [if_pos c22] at hf
            refine lv_ldc2 (own := RX8) (v := (3 : Int64)) hx hb hown (hts _ tw5_43) dX8_sinceOf_86 ?_
            refine lv_goto (tgt := 95) hx hb dX8_sinceOf_89 (by decide) ?_
            exact w17 _ _ _ _ hf hW (lv_sub hl [1, 2, 3, 5] rfl)
        · rw [if_neg c20] at hf
          refine lv_aload_n hx hb dX8_sinceOf_54 rfl (lv_at hl 1 rfl) ?_
          refine nb_get (C := RX8) (T := TX8) (N := 40) hx hb hts inT_X8 hown hK hW 0 rfl rfl 18 (by decide) (hts _ tw4_141) (fun _ h9 => h9) rfl (v := .ref (G.2.1 18)) rfl dX8_sinceOf_55 ?_
          refine lv_iload hx hb dX8_sinceOf_58 (lv_at hl 5 rfl) ?_
          obtain ⟨g23, hf⟩ := nb_g_e hf
          refine nb_iald hx hb hK hW 18 rfl g23 dX8_sinceOf_60 ?_
          refine lv_iconst (v := (1 : Int32)) hx hb dX8_sinceOf_61 (by decide) ?_
          refine lv_icmp_ne (tgt := 69) hx hb dX8_sinceOf_62 (by decide) (fun c24 => ?_) (fun c24 => ?_)
          · rw [if_neg c24] at hf
            refine lv_ldc2 (own := RX8) (v := (10 : Int64)) hx hb hown (hts _ tw5_114) dX8_sinceOf_69 ?_
            refine lv_goto (tgt := 95) hx hb dX8_sinceOf_72 (by decide) ?_
            exact w17 _ _ _ _ hf hW (lv_sub hl [1, 2, 3, 5] rfl)
          · rw [if_pos c24] at hf
            refine lv_lconst (v := (0 : Int64)) hx hb dX8_sinceOf_65 (by decide) ?_
            refine lv_goto (tgt := 95) hx hb dX8_sinceOf_66 (by decide) ?_
            exact w17 _ _ _ _ hf hW (lv_sub hl [1, 2, 3, 5] rfl)
      clear ek13
      refine lv_icmp_ge (tgt := 45) hx hb dX8_sinceOf_38 (by decide) (fun c25 => ?_) (fun c25 => ?_)
      · rw [if_pos c25] at hf
        refine lv_iconst (v := (0 : Int32)) hx hb dX8_sinceOf_45 (by decide) ?_
        exact w14 _ _ _ _ hf hW (lv_sub hl [0, 1, 2, 3, 4] rfl)
      · rw [if_neg c25] at hf
        refine lv_iconst (v := (1 : Int32)) hx hb dX8_sinceOf_41 (by decide) ?_
        refine lv_goto (tgt := 46) hx hb dX8_sinceOf_42 (by decide) ?_
        exact w14 _ _ _ _ hf hW (lv_sub hl [0, 1, 2, 3, 4] rfl)
def fX8_since (N : Nat) (σ : nb_St) (a0 : Int32) (a1 : Int32) (a2 : Int32) : Option Int32 :=
  nb_b (fX8_isGuest N σ a0) fun r2 =>
  nb_let (fun (_u : Unit) =>
  some (-1 : Int32)) fun k3 =>
  (if r2 = 0 then
  k3 ()
  else
  nb_b (fX8_in N σ ((a1).toInt64) (0 : Int64) (11 : Int64)) fun r7 =>
  (if r7 = 0 then
  k3 ()
  else
  nb_b (fX8_in N σ ((a2).toInt64) (0 : Int64) (1 : Int64)) fun r10 =>
  (if r10 = 0 then
  k3 ()
  else
  nb_lp2 (R := Int32) (fun ag14 (x12 : Int64) (x13 : Int32) =>
  (if (12 : Int32) ≤ x13 then
  (if (lg_cmp x12 (0 : Int64)) = 0 then
  some (-4 : Int32)
  else
  nb_b (fX8_sinceOf N σ a0 a1) fun r19 =>
  nb_b (fX8_lowest N σ r19 x12 a2) fun r21 =>
  some ((r21).toInt32))
  else
  nb_b (fX8_sinceOf N σ a0 x13) fun r23 =>
  nb_let (x12 + r23) fun x24 =>
  ag14 x24 (x13 + 1))) N (0 : Int64) (0 : Int32))))
def rmX8_since : Room := { frames := 2, cells := 0, slots := 0, locals := 46 }
def vsX8_since : List Cond := .code yX8_since cX8_since 7 (some .int) :: xT
set_option maxHeartbeats 4000000 in
set_option maxRecDepth 100000 in
theorem c_X8_since (l : Launch) {G : nb_G} {Z : State → Heap → Prop} (hinj : nb_inj xm_sh G.2.1) (hZo : nb_Zok (nb_A xm_sh G.2.1) Z) {N : Nat} {σ : nb_St} {a0 : Int32} {a1 : Int32} {a2 : Int32} {ro : Int32} (hf : fX8_since N σ a0 a1 a2 = some ro)  : Met l yX8_since vsX8_since rmX8_since (nb_Pc G xm_sh Z σ [.ref (G.2.1 0), .int a0, .int a1, .int a2]) (nb_Qi G xm_sh Z ro σ) 0 0 (nb_A xm_sh G.2.1) := by
  refine Met.ofW (cc := cX8_since) (maxL := 7) (ret := (some .int)) (by decide) rfl ?_
  intro p e s m args below meth c s₁ B hml hv
  obtain ⟨rfl, hP, hK, hZ⟩ := hv
  have hx := B.exec
  have hb := B.bytes
  have hr := B.returns
  have hts : ∀ w ∈ xT, w.before _ s = true := fun w h9 => atoms_spec (ws := vsX8_since) B.pre w (List.mem_cons_of_mem _ h9)
  have hown : s.vm.findClass RX8 = some m.cls := findClass_of_methodNamed B.named
  have hlocks := B.notSynchronized
  have hW : nb_W G xm_sh s.heap σ s.heap [] := ⟨hP, va_S.rf⟩
  have hl := lv_entry ([.ref (G.2.1 0), .int a0, .int a1, .int a2]) (n := 7) (Nat.le_of_ble_eq_true rfl)
  rw [lg_entry_eq]
  generalize (lg_sl ([.ref (G.2.1 0), .int a0, .int a1, .int a2]) ++ List.replicate (7 - (lg_sl ([.ref (G.2.1 0), .int a0, .int a1, .int a2])).length) Slot.unset).toArray = ls at hl ⊢
  have hl : lv_has ls 7 [(0, .ref (G.2.1 0)), (1, .int a0), (2, .int a1), (3, .int a2)] := hl
  show W p l e rmX8_since s m ([.ref (G.2.1 0), .int a0, .int a1, .int a2]).toArray below meth c s.heap [] 0 0 (MQ below (nb_Qi G xm_sh Z ro σ) ([.ref (G.2.1 0), .int a0, .int a1, .int a2]).toArray s 0 0 (nb_A xm_sh G.2.1)) (F0 m 0 ls [])
  generalize hargs : ([.ref (G.2.1 0), .int a0, .int a1, .int a2] : List Value).toArray = args at hts ⊢
  unfold fX8_since at hf
  obtain ⟨H, eH⟩ : ∃ H, H = s.heap := ⟨_, rfl⟩
  obtain ⟨locs, eL⟩ : ∃ L : List Loc, L = [] := ⟨_, rfl⟩
  have hW : nb_W G xm_sh s.heap σ H locs := by rw [eH, eL]; exact hW
  suffices hgo : W p l e rmX8_since s m args below meth c H locs 0 0 (MQ below (nb_Qi G xm_sh Z ro σ) args s 0 0 (nb_A xm_sh G.2.1)) (F0 m 0 ls []) by rw [eH, eL] at hgo; exact hgo
  clear eH eL
  refine lv_aload_n hx hb dX8_since_0 rfl (lv_at hl 0 rfl) ?_
  refine lv_iload_n hx hb dX8_since_1 rfl (lv_at hl 1 rfl) ?_
  obtain ⟨r2, hc1, hf⟩ := nb_b_e hf
  refine nb_ci hW (va_runV (As := [.int a0]) (rest := []) ⟨hx, hb, hml, hown, hts⟩ (c_X8_isGuest l hinj hZo (N := N) hc1 ) (cwV 1 hts (xg_V tw5_65 tw5_67 tp2_12 tw1_10 tw5_68) rfl rfl rfl (by decide +kernel) ⟨Nat.le_of_ble_eq_true rfl, Nat.le_of_ble_eq_true rfl⟩) (nb_preV hK hZ hZo hW (k := 0) rfl rfl) rfl rfl hl.1 rfl (lv_room (Nat.le_of_ble_eq_true rfl)) dX8_since_2 ⟨Nat.zero_le _, Nat.zero_le _⟩) (fun H locs hW => ?_)
  obtain ⟨k3, ek3, hf⟩ := nb_let_e hf
  have w4 : ∀ (_u : Unit) (H : Heap) (locs : List Loc) (ls : Array Slot), k3 _u = some ro → nb_W G xm_sh s.heap σ H locs → lv_has ls 7 [] → W p l e rmX8_since s m args below meth c H locs 0 0 (MQ below (nb_Qi G xm_sh Z ro σ) args s 0 0 (nb_A xm_sh G.2.1)) (F0 m 30 ls []) := by
    intro _u H locs ls hf hW hl
    have hf := (congrFun ek3 _u).symm.trans hf
    refine lv_iconst (v := (-1 : Int32)) hx hb dX8_since_30 (by decide) ?_
    exact nb_rip hx hb hr hlocks hK hZ hZo hW  hf dX8_since_31
  clear ek3
  refine lv_if_eq (tgt := 30) hx hb dX8_since_5 (by decide) (fun c5 => ?_) (fun c5 => ?_)
  · rw [if_pos c5] at hf
    exact w4 ()  _ _ _ hf hW (lv_sub hl [] rfl)
  · rw [if_neg c5] at hf
    refine lv_iload_n hx hb dX8_since_8 rfl (lv_at hl 2 rfl) ?_
    refine lv_i2l hx hb dX8_since_9 rfl ?_
    refine lv_lconst (v := (0 : Int64)) hx hb dX8_since_10 (by decide) ?_
    refine lv_ldc2 (own := RX8) (v := (11 : Int64)) hx hb hown (hts _ tw5_233) dX8_since_11 ?_
    obtain ⟨r7, hc6, hf⟩ := nb_b_e hf
    refine nb_ci hW (va_runS (As := [.long ((a1).toInt64), .long (0 : Int64), .long (11 : Int64)]) (rest := []) ⟨hx, hb, hml, hown, hts⟩ (c_X8_in l hinj hZo (N := N) hc6 ) (va_cwS 3 hts (xg_S tw5_9 tw5_10 tw1_10 tw5_11) rfl rfl rfl (by decide +kernel) ⟨Nat.le_of_ble_eq_true rfl, Nat.le_of_ble_eq_true rfl⟩) (nb_preS hK hZ hZo hW) rfl rfl hl.1 rfl (lv_room (Nat.le_of_ble_eq_true rfl)) dX8_since_14 ⟨Nat.zero_le _, Nat.zero_le _⟩) (fun H locs hW => ?_)
    refine lv_if_eq (tgt := 30) hx hb dX8_since_17 (by decide) (fun c8 => ?_) (fun c8 => ?_)
    · rw [if_pos c8] at hf
      exact w4 ()  _ _ _ hf hW (lv_sub hl [] rfl)
    · rw [if_neg c8] at hf
      refine lv_iload_n hx hb dX8_since_20 rfl (lv_at hl 3 rfl) ?_
      refine lv_i2l hx hb dX8_since_21 rfl ?_
      refine lv_lconst (v := (0 : Int64)) hx hb dX8_since_22 (by decide) ?_
      refine lv_lconst (v := (1 : Int64)) hx hb dX8_since_23 (by decide) ?_
      obtain ⟨r10, hc9, hf⟩ := nb_b_e hf
      refine nb_ci hW (va_runS (As := [.long ((a2).toInt64), .long (0 : Int64), .long (1 : Int64)]) (rest := []) ⟨hx, hb, hml, hown, hts⟩ (c_X8_in l hinj hZo (N := N) hc9 ) (va_cwS 3 hts (xg_S tw5_9 tw5_10 tw1_10 tw5_11) rfl rfl rfl (by decide +kernel) ⟨Nat.le_of_ble_eq_true rfl, Nat.le_of_ble_eq_true rfl⟩) (nb_preS hK hZ hZo hW) rfl rfl hl.1 rfl (lv_room (Nat.le_of_ble_eq_true rfl)) dX8_since_24 ⟨Nat.zero_le _, Nat.zero_le _⟩) (fun H locs hW => ?_)
      refine lv_if_ne (tgt := 32) hx hb dX8_since_27 (by decide) (fun c11 => ?_) (fun c11 => ?_)
      · rw [if_neg c11] at hf
        refine lv_lconst (v := (0 : Int64)) hx hb dX8_since_32 (by decide) ?_
        refine lv_lstore (lv' := [(4, .long (0 : Int64)), (0, .ref (G.2.1 0)), (1, .int a0), (2, .int a1), (3, .int a2)]) hx hb dX8_since_33 hl (by decide) rfl (fun ls hl => ?_)
        refine lv_iconst (v := (0 : Int32)) hx hb dX8_since_35 (by decide) ?_
        refine lv_istore (lv' := [(6, .int (0 : Int32)), (4, .long (0 : Int64)), (0, .ref (G.2.1 0)), (1, .int a0), (2, .int a1), (3, .int a2)]) hx hb dX8_since_36 hl (by decide) rfl (fun ls hl => ?_)
        refine nb_w2 (P := fun (x12 : Int64) (x13 : Int32) => ∀ (H : Heap) (locs : List Loc) (ls : Array Slot), nb_W G xm_sh s.heap σ H locs → lv_has ls 7 [(0, .ref (G.2.1 0)), (1, .int a0), (2, .int a1), (3, .int a2), (4, .long x12), (6, .int x13)] → W p l e rmX8_since s m args below meth c H locs 0 0 (MQ below (nb_Qi G xm_sh Z ro σ) args s 0 0 (nb_A xm_sh G.2.1)) (F0 m 38 ls [])) ?_ N _ _ hf H locs ls hW (lv_sub hl [2, 3, 4, 5, 1, 0] rfl)
        intro ag14 ih15 x12 x13 hf H locs ls hW hl
        refine lv_iload hx hb dX8_since_38 (lv_at hl 5 rfl) ?_
        refine lv_bipush (v := (12 : Int32)) hx hb dX8_since_40 (by decide) ?_
        refine lv_icmp_ge (tgt := 63) hx hb dX8_since_42 (by decide) (fun c16 => ?_) (fun c16 => ?_)
        · rw [if_pos c16] at hf
          refine lv_lload hx hb dX8_since_63 (lv_at hl 4 rfl) ?_
          refine lv_lconst (v := (0 : Int64)) hx hb dX8_since_65 (by decide) ?_
          refine W.lcmp hx hb dX8_since_66 ?_
          refine lv_if_ne (tgt := 75) hx hb dX8_since_67 (by decide) (fun c17 => ?_) (fun c17 => ?_)
          · rw [if_neg c17] at hf
            refine lv_aload_n hx hb dX8_since_75 rfl (lv_at hl 0 rfl) ?_
            refine lv_iload_n hx hb dX8_since_76 rfl (lv_at hl 1 rfl) ?_
            refine lv_iload_n hx hb dX8_since_77 rfl (lv_at hl 2 rfl) ?_
            obtain ⟨r19, hc18, hf⟩ := nb_b_e hf
            refine nb_cl hW (va_runV (As := [.int a0, .int a1]) (rest := []) ⟨hx, hb, hml, hown, hts⟩ (c_X8_sinceOf l hinj hZo (N := N) hc18 ) (cwV 2 hts (xg_V tw5_234 tw5_236 tp4_1 tw1_10 tw5_237) rfl rfl rfl (by decide +kernel) ⟨Nat.le_of_ble_eq_true rfl, Nat.le_of_ble_eq_true rfl⟩) (nb_preV hK hZ hZo hW (k := 0) rfl rfl) rfl rfl hl.1 rfl (lv_room (Nat.le_of_ble_eq_true rfl)) dX8_since_78 ⟨Nat.zero_le _, Nat.zero_le _⟩) (fun H locs hW => ?_)
            refine lv_lload hx hb dX8_since_81 (lv_at hl 4 rfl) ?_
            refine lv_iload_n hx hb dX8_since_83 rfl (lv_at hl 3 rfl) ?_
            obtain ⟨r21, hc20, hf⟩ := nb_b_e hf
            refine nb_cl hW (va_runS (As := [.long r19, .long x12, .int a2]) (rest := []) ⟨hx, hb, hml, hown, hts⟩ (c_X8_lowest l hinj hZo (N := N) hc20 ) (va_cwS 3 hts (xg_S tw5_226 tw5_227 tw1_10 tw5_228) rfl rfl rfl (by decide +kernel) ⟨Nat.le_of_ble_eq_true rfl, Nat.le_of_ble_eq_true rfl⟩) (nb_preS hK hZ hZo hW) rfl rfl hl.1 rfl (lv_room (Nat.le_of_ble_eq_true rfl)) dX8_since_84 ⟨Nat.zero_le _, Nat.zero_le _⟩) (fun H locs hW => ?_)
            refine lv_l2i hx hb dX8_since_87 rfl ?_
            exact nb_rip hx hb hr hlocks hK hZ hZo hW  hf dX8_since_88
          · rw [if_pos c17] at hf
            refine lv_bipush (v := (-4 : Int32)) hx hb dX8_since_70 (by decide) ?_
            refine lv_goto (tgt := 88) hx hb dX8_since_72 (by decide) ?_
            exact nb_rip hx hb hr hlocks hK hZ hZo hW  hf dX8_since_88
        · rw [if_neg c16] at hf
          refine lv_lload hx hb dX8_since_45 (lv_at hl 4 rfl) ?_
          refine lv_aload_n hx hb dX8_since_47 rfl (lv_at hl 0 rfl) ?_
          refine lv_iload_n hx hb dX8_since_48 rfl (lv_at hl 1 rfl) ?_
          refine lv_iload hx hb dX8_since_49 (lv_at hl 5 rfl) ?_
          obtain ⟨r23, hc22, hf⟩ := nb_b_e hf
          refine nb_cl hW (va_runV (As := [.int a0, .int x13]) (rest := [.long x12]) ⟨hx, hb, hml, hown, hts⟩ (c_X8_sinceOf l hinj hZo (N := N) hc22 ) (cwV 2 hts (xg_V tw5_234 tw5_236 tp4_1 tw1_10 tw5_237) rfl rfl rfl (by decide +kernel) ⟨Nat.le_of_ble_eq_true rfl, Nat.le_of_ble_eq_true rfl⟩) (nb_preV hK hZ hZo hW (k := 0) rfl rfl) rfl rfl hl.1 rfl (lv_room (Nat.le_of_ble_eq_true rfl)) dX8_since_51 ⟨Nat.zero_le _, Nat.zero_le _⟩) (fun H locs hW => ?_)
          refine lv_ladd hx hb dX8_since_54 ?_
          obtain ⟨x24, ex24, hf⟩ := nb_let_e hf
          refine nb_naml ex24 ?_
          refine lv_lstore (lv' := [(4, .long x24), (0, .ref (G.2.1 0)), (1, .int a0), (2, .int a1), (3, .int a2), (6, .int x13)]) hx hb dX8_since_55 hl (by decide) rfl (fun ls hl => ?_)
          refine lv_iinc (v := (x13 + 1)) (lv' := [(6, .int (x13 + 1)), (4, .long x24), (0, .ref (G.2.1 0)), (1, .int a0), (2, .int a1), (3, .int a2)]) hx hb dX8_since_57 hl (k := 5) rfl rfl (by decide) rfl (fun ls hl => ?_)
          refine lv_goto (tgt := 38) hx hb dX8_since_60 (by decide) ?_
          exact ih15 _ _ hf _ _ _ hW (lv_sub hl [2, 3, 4, 5, 1, 0] rfl)
      · rw [if_pos c11] at hf
        exact w4 ()  _ _ _ hf hW (lv_sub hl [] rfl)
def fX8_around (N : Nat) (σ : nb_St) (a0 : Int32) (a1 : Int32) : Option Int32 :=
  nb_g (decide (¬ a1 = 0)) (
  nb_g (decide (¬ a1 = 0)) (
  some (nb_rem ((nb_rem a0 a1) + a1) a1)))
def rmX8_around : Room := { frames := 0, cells := 0, slots := 0, locals := 0 }
def vsX8_around : List Cond := .code yX8_around cX8_around 2 (some .int) :: xT
set_option maxHeartbeats 4000000 in
set_option maxRecDepth 100000 in
theorem c_X8_around (l : Launch) {G : nb_G} {Z : State → Heap → Prop} (hinj : nb_inj xm_sh G.2.1) (hZo : nb_Zok (nb_A xm_sh G.2.1) Z) {N : Nat} {σ : nb_St} {a0 : Int32} {a1 : Int32} {ro : Int32} (hf : fX8_around N σ a0 a1 = some ro)  : Met l yX8_around vsX8_around rmX8_around (nb_Pc G xm_sh Z σ [.int a0, .int a1]) (nb_Qi G xm_sh Z ro σ) 0 0 (nb_A xm_sh G.2.1) := by
  refine Met.ofW (cc := cX8_around) (maxL := 2) (ret := (some .int)) (by decide) rfl ?_
  intro p e s m args below meth c s₁ B hml hv
  obtain ⟨rfl, hP, hK, hZ⟩ := hv
  have hx := B.exec
  have hb := B.bytes
  have hr := B.returns
  have hts : ∀ w ∈ xT, w.before _ s = true := fun w h9 => atoms_spec (ws := vsX8_around) B.pre w (List.mem_cons_of_mem _ h9)
  have hown : s.vm.findClass RX8 = some m.cls := findClass_of_methodNamed B.named
  have hlocks := B.notSynchronized
  have hW : nb_W G xm_sh s.heap σ s.heap [] := ⟨hP, va_S.rf⟩
  have hl := lv_entry ([.int a0, .int a1]) (n := 2) (Nat.le_of_ble_eq_true rfl)
  rw [lg_entry_eq]
  generalize (lg_sl ([.int a0, .int a1]) ++ List.replicate (2 - (lg_sl ([.int a0, .int a1])).length) Slot.unset).toArray = ls at hl ⊢
  have hl : lv_has ls 2 [(0, .int a0), (1, .int a1)] := hl
  show W p l e rmX8_around s m ([.int a0, .int a1]).toArray below meth c s.heap [] 0 0 (MQ below (nb_Qi G xm_sh Z ro σ) ([.int a0, .int a1]).toArray s 0 0 (nb_A xm_sh G.2.1)) (F0 m 0 ls [])
  generalize hargs : ([.int a0, .int a1] : List Value).toArray = args at hts ⊢
  unfold fX8_around at hf
  obtain ⟨H, eH⟩ : ∃ H, H = s.heap := ⟨_, rfl⟩
  obtain ⟨locs, eL⟩ : ∃ L : List Loc, L = [] := ⟨_, rfl⟩
  have hW : nb_W G xm_sh s.heap σ H locs := by rw [eH, eL]; exact hW
  suffices hgo : W p l e rmX8_around s m args below meth c H locs 0 0 (MQ below (nb_Qi G xm_sh Z ro σ) args s 0 0 (nb_A xm_sh G.2.1)) (F0 m 0 ls []) by rw [eH, eL] at hgo; exact hgo
  clear eH eL
  refine lv_iload_n hx hb dX8_around_0 rfl (lv_at hl 0 rfl) ?_
  refine lv_iload_n hx hb dX8_around_1 rfl (lv_at hl 1 rfl) ?_
  obtain ⟨g1, hf⟩ := nb_g_e hf
  refine nb_irem hx hb dX8_around_2 (of_decide_eq_true g1) ?_
  refine lv_iload_n hx hb dX8_around_3 rfl (lv_at hl 1 rfl) ?_
  refine lv_iadd hx hb dX8_around_4 ?_
  refine lv_iload_n hx hb dX8_around_5 rfl (lv_at hl 1 rfl) ?_
  obtain ⟨g2, hf⟩ := nb_g_e hf
  refine nb_irem hx hb dX8_around_6 (of_decide_eq_true g2) ?_
  exact nb_rip hx hb hr hlocks hK hZ hZo hW  hf dX8_around_7
def fX8_leave (N : Nat) (σ : nb_St) (a0 : Int32) (a1 : Int32) (a2 : Int32) : Option Int32 :=
  nb_b (fX8_in N σ ((a0).toInt64) (2 : Int64) (20 : Int64)) fun r2 =>
  nb_let (fun (_u : Unit) =>
  some (-1 : Int32)) fun k3 =>
  (if r2 = 0 then
  k3 ()
  else
  nb_let (fun (v8 : Int64) =>
  nb_b (fX8_in N σ ((a1).toInt64) (0 : Int64) v8) fun r10 =>
  (if r10 = 0 then
  k3 ()
  else
  nb_b (fX8_in N σ ((a2).toInt64) (0 : Int64) (((a0 - (1 : Int32))).toInt64)) fun r13 =>
  (if r13 = 0 then
  k3 ()
  else
  (if (nb_rem a0 (2 : Int32)) = (1 : Int32) then
  nb_b (fX8_around N σ (a1 - a2) a0) fun r27 =>
  (if r27 = a2 then
  some (-4 : Int32)
  else
  some r27)
  else
  (if (a0 - (1 : Int32)) ≤ a2 then
  nb_lp1 (R := Int32) (fun ag18 (x17 : Int32) =>
  nb_b (fX8_around N σ (a1 - x17) (a0 - (1 : Int32))) fun r21 =>
  (if r21 = x17 then
  some x17
  else
  ag18 (x17 + 1))) N (0 : Int32)
  else
  nb_b (fX8_around N σ (a1 - a2) (a0 - (1 : Int32))) fun r24 =>
  (if r24 = a2 then
  some (a0 - (1 : Int32))
  else
  some r24)))))) fun k6 =>
  (if (nb_rem a0 (2 : Int32)) = (1 : Int32) then
  k6 (((a0 - (1 : Int32))).toInt64)
  else
  k6 (((a0 - (2 : Int32))).toInt64)))
def rmX8_leave : Room := { frames := 1, cells := 0, slots := 0, locals := 25 }
def vsX8_leave : List Cond := .code yX8_leave cX8_leave 5 (some .int) :: xT
set_option maxHeartbeats 4000000 in
set_option maxRecDepth 100000 in
theorem c_X8_leave (l : Launch) {G : nb_G} {Z : State → Heap → Prop} (hinj : nb_inj xm_sh G.2.1) (hZo : nb_Zok (nb_A xm_sh G.2.1) Z) {N : Nat} {σ : nb_St} {a0 : Int32} {a1 : Int32} {a2 : Int32} {ro : Int32} (hf : fX8_leave N σ a0 a1 a2 = some ro)  : Met l yX8_leave vsX8_leave rmX8_leave (nb_Pc G xm_sh Z σ [.ref (G.2.1 0), .int a0, .int a1, .int a2]) (nb_Qi G xm_sh Z ro σ) 0 0 (nb_A xm_sh G.2.1) := by
  refine Met.ofW (cc := cX8_leave) (maxL := 5) (ret := (some .int)) (by decide) rfl ?_
  intro p e s m args below meth c s₁ B hml hv
  obtain ⟨rfl, hP, hK, hZ⟩ := hv
  have hx := B.exec
  have hb := B.bytes
  have hr := B.returns
  have hts : ∀ w ∈ xT, w.before _ s = true := fun w h9 => atoms_spec (ws := vsX8_leave) B.pre w (List.mem_cons_of_mem _ h9)
  have hown : s.vm.findClass RX8 = some m.cls := findClass_of_methodNamed B.named
  have hlocks := B.notSynchronized
  have hW : nb_W G xm_sh s.heap σ s.heap [] := ⟨hP, va_S.rf⟩
  have hl := lv_entry ([.ref (G.2.1 0), .int a0, .int a1, .int a2]) (n := 5) (Nat.le_of_ble_eq_true rfl)
  rw [lg_entry_eq]
  generalize (lg_sl ([.ref (G.2.1 0), .int a0, .int a1, .int a2]) ++ List.replicate (5 - (lg_sl ([.ref (G.2.1 0), .int a0, .int a1, .int a2])).length) Slot.unset).toArray = ls at hl ⊢
  have hl : lv_has ls 5 [(0, .ref (G.2.1 0)), (1, .int a0), (2, .int a1), (3, .int a2)] := hl
  show W p l e rmX8_leave s m ([.ref (G.2.1 0), .int a0, .int a1, .int a2]).toArray below meth c s.heap [] 0 0 (MQ below (nb_Qi G xm_sh Z ro σ) ([.ref (G.2.1 0), .int a0, .int a1, .int a2]).toArray s 0 0 (nb_A xm_sh G.2.1)) (F0 m 0 ls [])
  generalize hargs : ([.ref (G.2.1 0), .int a0, .int a1, .int a2] : List Value).toArray = args at hts ⊢
  unfold fX8_leave at hf
  obtain ⟨H, eH⟩ : ∃ H, H = s.heap := ⟨_, rfl⟩
  obtain ⟨locs, eL⟩ : ∃ L : List Loc, L = [] := ⟨_, rfl⟩
  have hW : nb_W G xm_sh s.heap σ H locs := by rw [eH, eL]; exact hW
  suffices hgo : W p l e rmX8_leave s m args below meth c H locs 0 0 (MQ below (nb_Qi G xm_sh Z ro σ) args s 0 0 (nb_A xm_sh G.2.1)) (F0 m 0 ls []) by rw [eH, eL] at hgo; exact hgo
  clear eH eL
  refine lv_iload_n hx hb dX8_leave_0 rfl (lv_at hl 1 rfl) ?_
  refine lv_i2l hx hb dX8_leave_1 rfl ?_
  refine lv_ldc2 (own := RX8) (v := (2 : Int64)) hx hb hown (hts _ tw6_3) dX8_leave_2 ?_
  refine lv_ldc2 (own := RX8) (v := (20 : Int64)) hx hb hown (hts _ tw6_4) dX8_leave_5 ?_
  obtain ⟨r2, hc1, hf⟩ := nb_b_e hf
  refine nb_ci hW (va_runS (As := [.long ((a0).toInt64), .long (2 : Int64), .long (20 : Int64)]) (rest := []) ⟨hx, hb, hml, hown, hts⟩ (c_X8_in l hinj hZo (N := N) hc1 ) (va_cwS 3 hts (xg_S tw5_9 tw5_10 tw1_10 tw5_11) rfl rfl rfl (by decide +kernel) ⟨Nat.le_of_ble_eq_true rfl, Nat.le_of_ble_eq_true rfl⟩) (nb_preS hK hZ hZo hW) rfl rfl hl.1 rfl (lv_room (Nat.le_of_ble_eq_true rfl)) dX8_leave_8 ⟨Nat.zero_le _, Nat.zero_le _⟩) (fun H locs hW => ?_)
  obtain ⟨k3, ek3, hf⟩ := nb_let_e hf
  have w4 : ∀ (_u : Unit) (H : Heap) (locs : List Loc) (ls : Array Slot), k3 _u = some ro → nb_W G xm_sh s.heap σ H locs → lv_has ls 5 [] → W p l e rmX8_leave s m args below meth c H locs 0 0 (MQ below (nb_Qi G xm_sh Z ro σ) args s 0 0 (nb_A xm_sh G.2.1)) (F0 m 54 ls []) := by
    intro _u H locs ls hf hW hl
    have hf := (congrFun ek3 _u).symm.trans hf
    refine lv_iconst (v := (-1 : Int32)) hx hb dX8_leave_54 (by decide) ?_
    exact nb_rip hx hb hr hlocks hK hZ hZo hW  hf dX8_leave_55
  clear ek3
  refine lv_if_eq (tgt := 54) hx hb dX8_leave_11 (by decide) (fun c5 => ?_) (fun c5 => ?_)
  · rw [if_pos c5] at hf
    exact w4 ()  _ _ _ hf hW (lv_sub hl [] rfl)
  · rw [if_neg c5] at hf
    refine lv_iload_n hx hb dX8_leave_14 rfl (lv_at hl 2 rfl) ?_
    refine lv_i2l hx hb dX8_leave_15 rfl ?_
    refine lv_lconst (v := (0 : Int64)) hx hb dX8_leave_16 (by decide) ?_
    refine lv_iload_n hx hb dX8_leave_17 rfl (lv_at hl 1 rfl) ?_
    refine lv_iconst (v := (2 : Int32)) hx hb dX8_leave_18 (by decide) ?_
    refine nb_irem hx hb dX8_leave_19 (by decide) ?_
    refine lv_iconst (v := (1 : Int32)) hx hb dX8_leave_20 (by decide) ?_
    obtain ⟨k6, ek6, hf⟩ := nb_let_e hf
    have w7 : ∀ (v8 : Int64) (H : Heap) (locs : List Loc) (ls : Array Slot), k6 v8 = some ro → nb_W G xm_sh s.heap σ H locs → lv_has ls 5 [(1, .int a0), (2, .int a1), (3, .int a2)] → W p l e rmX8_leave s m args below meth c H locs 0 0 (MQ below (nb_Qi G xm_sh Z ro σ) args s 0 0 (nb_A xm_sh G.2.1)) (F0 m 35 ls [.long v8, .long (0 : Int64), .long ((a1).toInt64)]) := by
      intro v8 H locs ls hf hW hl
      have hf := (congrFun ek6 v8).symm.trans hf
      obtain ⟨r10, hc9, hf⟩ := nb_b_e hf
      refine nb_ci hW (va_runS (As := [.long ((a1).toInt64), .long (0 : Int64), .long v8]) (rest := []) ⟨hx, hb, hml, hown, hts⟩ (c_X8_in l hinj hZo (N := N) hc9 ) (va_cwS 3 hts (xg_S tw5_9 tw5_10 tw1_10 tw5_11) rfl rfl rfl (by decide +kernel) ⟨Nat.le_of_ble_eq_true rfl, Nat.le_of_ble_eq_true rfl⟩) (nb_preS hK hZ hZo hW) rfl rfl hl.1 rfl (lv_room (Nat.le_of_ble_eq_true rfl)) dX8_leave_35 ⟨Nat.zero_le _, Nat.zero_le _⟩) (fun H locs hW => ?_)
      refine lv_if_eq (tgt := 54) hx hb dX8_leave_38 (by decide) (fun c11 => ?_) (fun c11 => ?_)
      · rw [if_pos c11] at hf
        exact w4 ()  _ _ _ hf hW (lv_sub hl [] rfl)
      · rw [if_neg c11] at hf
        refine lv_iload_n hx hb dX8_leave_41 rfl (lv_at hl 2 rfl) ?_
        refine lv_i2l hx hb dX8_leave_42 rfl ?_
        refine lv_lconst (v := (0 : Int64)) hx hb dX8_leave_43 (by decide) ?_
        refine lv_iload_n hx hb dX8_leave_44 rfl (lv_at hl 0 rfl) ?_
        refine lv_iconst (v := (1 : Int32)) hx hb dX8_leave_45 (by decide) ?_
        refine lv_isub hx hb dX8_leave_46 ?_
        refine lv_i2l hx hb dX8_leave_47 rfl ?_
        obtain ⟨r13, hc12, hf⟩ := nb_b_e hf
        refine nb_ci hW (va_runS (As := [.long ((a2).toInt64), .long (0 : Int64), .long (((a0 - (1 : Int32))).toInt64)]) (rest := []) ⟨hx, hb, hml, hown, hts⟩ (c_X8_in l hinj hZo (N := N) hc12 ) (va_cwS 3 hts (xg_S tw5_9 tw5_10 tw1_10 tw5_11) rfl rfl rfl (by decide +kernel) ⟨Nat.le_of_ble_eq_true rfl, Nat.le_of_ble_eq_true rfl⟩) (nb_preS hK hZ hZo hW) rfl rfl hl.1 rfl (lv_room (Nat.le_of_ble_eq_true rfl)) dX8_leave_48 ⟨Nat.zero_le _, Nat.zero_le _⟩) (fun H locs hW => ?_)
        refine lv_if_ne (tgt := 56) hx hb dX8_leave_51 (by decide) (fun c14 => ?_) (fun c14 => ?_)
        · rw [if_neg c14] at hf
          refine lv_iload_n hx hb dX8_leave_56 rfl (lv_at hl 0 rfl) ?_
          refine lv_iconst (v := (2 : Int32)) hx hb dX8_leave_57 (by decide) ?_
          refine nb_irem hx hb dX8_leave_58 (by decide) ?_
          refine lv_iconst (v := (1 : Int32)) hx hb dX8_leave_59 (by decide) ?_
          refine lv_icmp_ne (tgt := 86) hx hb dX8_leave_60 (by decide) (fun c15 => ?_) (fun c15 => ?_)
          · rw [if_neg c15] at hf
            refine lv_iload_n hx hb dX8_leave_86 rfl (lv_at hl 2 rfl) ?_
            refine lv_iload_n hx hb dX8_leave_87 rfl (lv_at hl 0 rfl) ?_
            refine lv_iconst (v := (1 : Int32)) hx hb dX8_leave_88 (by decide) ?_
            refine lv_isub hx hb dX8_leave_89 ?_
            refine lv_icmp_ge (tgt := 119) hx hb dX8_leave_90 (by decide) (fun c16 => ?_) (fun c16 => ?_)
            · rw [if_pos c16] at hf
              refine lv_iconst (v := (0 : Int32)) hx hb dX8_leave_119 (by decide) ?_
              refine lv_istore (lv' := [(4, .int (0 : Int32)), (1, .int a0), (2, .int a1), (3, .int a2)]) hx hb dX8_leave_120 hl (by decide) rfl (fun ls hl => ?_)
              refine nb_w1 (P := fun (x17 : Int32) => ∀ (H : Heap) (locs : List Loc) (ls : Array Slot), nb_W G xm_sh s.heap σ H locs → lv_has ls 5 [(1, .int a0), (2, .int a1), (4, .int x17)] → W p l e rmX8_leave s m args below meth c H locs 0 0 (MQ below (nb_Qi G xm_sh Z ro σ) args s 0 0 (nb_A xm_sh G.2.1)) (F0 m 122 ls [])) ?_ N _ hf H locs ls hW (lv_sub hl [1, 2, 0] rfl)
              intro ag18 ih19 x17 hf H locs ls hW hl
              refine lv_iload_n hx hb dX8_leave_122 rfl (lv_at hl 1 rfl) ?_
              refine lv_iload hx hb dX8_leave_123 (lv_at hl 2 rfl) ?_
              refine lv_isub hx hb dX8_leave_125 ?_
              refine lv_iload_n hx hb dX8_leave_126 rfl (lv_at hl 0 rfl) ?_
              refine lv_iconst (v := (1 : Int32)) hx hb dX8_leave_127 (by decide) ?_
              refine lv_isub hx hb dX8_leave_128 ?_
              obtain ⟨r21, hc20, hf⟩ := nb_b_e hf
              refine nb_ci hW (va_runS (As := [.int (a1 - x17), .int (a0 - (1 : Int32))]) (rest := []) ⟨hx, hb, hml, hown, hts⟩ (c_X8_around l hinj hZo (N := N) hc20 ) (va_cwS 2 hts (xg_S tw6_5 tw6_6 tw1_10 tw6_7) rfl rfl rfl (by decide +kernel) ⟨Nat.le_of_ble_eq_true rfl, Nat.le_of_ble_eq_true rfl⟩) (nb_preS hK hZ hZo hW) rfl rfl hl.1 rfl (lv_room (Nat.le_of_ble_eq_true rfl)) dX8_leave_129 ⟨Nat.zero_le _, Nat.zero_le _⟩) (fun H locs hW => ?_)
              refine lv_iload hx hb dX8_leave_132 (lv_at hl 2 rfl) ?_
              refine lv_icmp_eq (tgt := 143) hx hb dX8_leave_134 (by decide) (fun c22 => ?_) (fun c22 => ?_)
              · rw [if_pos c22] at hf
                refine lv_iload hx hb dX8_leave_143 (lv_at hl 2 rfl) ?_
                exact nb_rip hx hb hr hlocks hK hZ hZo hW  hf dX8_leave_145
              · rw [if_neg c22] at hf
                refine lv_iinc (v := (x17 + 1)) (lv' := [(4, .int (x17 + 1)), (1, .int a0), (2, .int a1)]) hx hb dX8_leave_137 hl (k := 2) rfl rfl (by decide) rfl (fun ls hl => ?_)
                refine lv_goto (tgt := 122) hx hb dX8_leave_140 (by decide) ?_
                exact ih19 _ hf _ _ _ hW (lv_sub hl [1, 2, 0] rfl)
            · rw [if_neg c16] at hf
              refine lv_iload_n hx hb dX8_leave_93 rfl (lv_at hl 1 rfl) ?_
              refine lv_iload_n hx hb dX8_leave_94 rfl (lv_at hl 2 rfl) ?_
              refine lv_isub hx hb dX8_leave_95 ?_
              refine lv_iload_n hx hb dX8_leave_96 rfl (lv_at hl 0 rfl) ?_
              refine lv_iconst (v := (1 : Int32)) hx hb dX8_leave_97 (by decide) ?_
              refine lv_isub hx hb dX8_leave_98 ?_
              obtain ⟨r24, hc23, hf⟩ := nb_b_e hf
              refine nb_ci hW (va_runS (As := [.int (a1 - a2), .int (a0 - (1 : Int32))]) (rest := []) ⟨hx, hb, hml, hown, hts⟩ (c_X8_around l hinj hZo (N := N) hc23 ) (va_cwS 2 hts (xg_S tw6_5 tw6_6 tw1_10 tw6_7) rfl rfl rfl (by decide +kernel) ⟨Nat.le_of_ble_eq_true rfl, Nat.le_of_ble_eq_true rfl⟩) (nb_preS hK hZ hZo hW) rfl rfl hl.1 rfl (lv_room (Nat.le_of_ble_eq_true rfl)) dX8_leave_99 ⟨Nat.zero_le _, Nat.zero_le _⟩) (fun H locs hW => ?_)
              refine lv_istore (lv' := [(4, .int r24), (1, .int a0), (2, .int a1), (3, .int a2)]) hx hb dX8_leave_102 hl (by decide) rfl (fun ls hl => ?_)
              refine lv_iload hx hb dX8_leave_104 (lv_at hl 0 rfl) ?_
              refine lv_iload_n hx hb dX8_leave_106 rfl (lv_at hl 3 rfl) ?_
              refine lv_icmp_ne (tgt := 116) hx hb dX8_leave_107 (by decide) (fun c25 => ?_) (fun c25 => ?_)
              · rw [if_neg c25] at hf
                refine lv_iload hx hb dX8_leave_116 (lv_at hl 0 rfl) ?_
                exact nb_rip hx hb hr hlocks hK hZ hZo hW  hf dX8_leave_118
              · rw [if_pos c25] at hf
                refine lv_iload_n hx hb dX8_leave_110 rfl (lv_at hl 1 rfl) ?_
                refine lv_iconst (v := (1 : Int32)) hx hb dX8_leave_111 (by decide) ?_
                refine lv_isub hx hb dX8_leave_112 ?_
                refine lv_goto (tgt := 118) hx hb dX8_leave_113 (by decide) ?_
                exact nb_rip hx hb hr hlocks hK hZ hZo hW  hf dX8_leave_118
          · rw [if_pos c15] at hf
            refine lv_iload_n hx hb dX8_leave_63 rfl (lv_at hl 1 rfl) ?_
            refine lv_iload_n hx hb dX8_leave_64 rfl (lv_at hl 2 rfl) ?_
            refine lv_isub hx hb dX8_leave_65 ?_
            refine lv_iload_n hx hb dX8_leave_66 rfl (lv_at hl 0 rfl) ?_
            obtain ⟨r27, hc26, hf⟩ := nb_b_e hf
            refine nb_ci hW (va_runS (As := [.int (a1 - a2), .int a0]) (rest := []) ⟨hx, hb, hml, hown, hts⟩ (c_X8_around l hinj hZo (N := N) hc26 ) (va_cwS 2 hts (xg_S tw6_5 tw6_6 tw1_10 tw6_7) rfl rfl rfl (by decide +kernel) ⟨Nat.le_of_ble_eq_true rfl, Nat.le_of_ble_eq_true rfl⟩) (nb_preS hK hZ hZo hW) rfl rfl hl.1 rfl (lv_room (Nat.le_of_ble_eq_true rfl)) dX8_leave_67 ⟨Nat.zero_le _, Nat.zero_le _⟩) (fun H locs hW => ?_)
            refine lv_istore (lv' := [(4, .int r27), (1, .int a0), (2, .int a1), (3, .int a2)]) hx hb dX8_leave_70 hl (by decide) rfl (fun ls hl => ?_)
            refine lv_iload hx hb dX8_leave_72 (lv_at hl 0 rfl) ?_
            refine lv_iload_n hx hb dX8_leave_74 rfl (lv_at hl 3 rfl) ?_
            refine lv_icmp_ne (tgt := 83) hx hb dX8_leave_75 (by decide) (fun c28 => ?_) (fun c28 => ?_)
            · rw [if_neg c28] at hf
              refine lv_iload hx hb dX8_leave_83 (lv_at hl 0 rfl) ?_
              exact nb_rip hx hb hr hlocks hK hZ hZo hW  hf dX8_leave_85
            · rw [if_pos c28] at hf
              refine lv_bipush (v := (-4 : Int32)) hx hb dX8_leave_78 (by decide) ?_
              refine lv_goto (tgt := 85) hx hb dX8_leave_80 (by decide) ?_
              exact nb_rip hx hb hr hlocks hK hZ hZo hW  hf dX8_leave_85
        · rw [if_pos c14] at hf
          exact w4 ()  _ _ _ hf hW (lv_sub hl [] rfl)
    clear ek6
    refine lv_icmp_ne (tgt := 31) hx hb dX8_leave_21 (by decide) (fun c29 => ?_) (fun c29 => ?_)
    · rw [if_neg c29] at hf
      refine lv_iload_n hx hb dX8_leave_31 rfl (lv_at hl 1 rfl) ?_
      refine lv_iconst (v := (2 : Int32)) hx hb dX8_leave_32 (by decide) ?_
      refine lv_isub hx hb dX8_leave_33 ?_
      refine lv_i2l hx hb dX8_leave_34 rfl ?_
      exact w7 _ _ _ _ hf hW (lv_sub hl [1, 2, 3] rfl)
    · rw [if_pos c29] at hf
      refine lv_iload_n hx hb dX8_leave_24 rfl (lv_at hl 1 rfl) ?_
      refine lv_iconst (v := (1 : Int32)) hx hb dX8_leave_25 (by decide) ?_
      refine lv_isub hx hb dX8_leave_26 ?_
      refine lv_i2l hx hb dX8_leave_27 rfl ?_
      refine lv_goto (tgt := 35) hx hb dX8_leave_28 (by decide) ?_
      exact w7 _ _ _ _ hf hW (lv_sub hl [1, 2, 3] rfl)
def fX8_drawn (N : Nat) (σ : nb_St) (a0 : Int32) (a1 : Int32) : Option (Int32 × nb_St) :=
  nb_b (fX8_in N σ ((a0).toInt64) (0 : Int64) (9999 : Int64)) fun r2 =>
  nb_let (fun (_u : Unit) =>
  some ((-1 : Int32), σ)) fun k3 =>
  (if r2 = 0 then
  k3 ()
  else
  nb_b (fX8_in N σ ((a1).toInt64) (0 : Int64) (1 : Int64)) fun r7 =>
  (if r7 = 0 then
  k3 ()
  else
  nb_b (fX8_asItIs N σ) fun σ10 =>
  nb_let (nb_st σ10 0 32 a0) fun σ11 =>
  nb_b (fX8_goEvening N σ11) fun σ13 =>
  (if a1 = 0 then
  nb_b (fX8_lastOf N σ13) fun r18 =>
  some (r18, σ13)
  else
  nb_b (fX8_allWasted N σ13) fun r16 =>
  some (r16, σ13))))
def rmX8_drawn : Room := { frames := 5, cells := 0, slots := 0, locals := 125 }
def vsX8_drawn : List Cond := .code yX8_drawn cX8_drawn 3 (some .int) :: xT
set_option maxHeartbeats 4000000 in
set_option maxRecDepth 100000 in
theorem c_X8_drawn (l : Launch) {G : nb_G} {Z : State → Heap → Prop} (hinj : nb_inj xm_sh G.2.1) (hZo : nb_Zok (nb_A xm_sh G.2.1) Z) {N : Nat} {σ : nb_St} {a0 : Int32} {a1 : Int32} {ro : Int32} {σo : nb_St} (hf : fX8_drawn N σ a0 a1 = some (ro, σo))  : Met l yX8_drawn vsX8_drawn rmX8_drawn (nb_Pc G xm_sh Z σ [.ref (G.2.1 0), .int a0, .int a1]) (nb_Qi G xm_sh Z ro σo) 0 0 (nb_A xm_sh G.2.1) := by
  refine Met.ofW (cc := cX8_drawn) (maxL := 3) (ret := (some .int)) (by decide) rfl ?_
  intro p e s m args below meth c s₁ B hml hv
  obtain ⟨rfl, hP, hK, hZ⟩ := hv
  have hx := B.exec
  have hb := B.bytes
  have hr := B.returns
  have hts : ∀ w ∈ xT, w.before _ s = true := fun w h9 => atoms_spec (ws := vsX8_drawn) B.pre w (List.mem_cons_of_mem _ h9)
  have hown : s.vm.findClass RX8 = some m.cls := findClass_of_methodNamed B.named
  have hlocks := B.notSynchronized
  have hW : nb_W G xm_sh s.heap σ s.heap [] := ⟨hP, va_S.rf⟩
  have hl := lv_entry ([.ref (G.2.1 0), .int a0, .int a1]) (n := 3) (Nat.le_of_ble_eq_true rfl)
  rw [lg_entry_eq]
  generalize (lg_sl ([.ref (G.2.1 0), .int a0, .int a1]) ++ List.replicate (3 - (lg_sl ([.ref (G.2.1 0), .int a0, .int a1])).length) Slot.unset).toArray = ls at hl ⊢
  have hl : lv_has ls 3 [(0, .ref (G.2.1 0)), (1, .int a0), (2, .int a1)] := hl
  show W p l e rmX8_drawn s m ([.ref (G.2.1 0), .int a0, .int a1]).toArray below meth c s.heap [] 0 0 (MQ below (nb_Qi G xm_sh Z ro σo) ([.ref (G.2.1 0), .int a0, .int a1]).toArray s 0 0 (nb_A xm_sh G.2.1)) (F0 m 0 ls [])
  generalize hargs : ([.ref (G.2.1 0), .int a0, .int a1] : List Value).toArray = args at hts ⊢
  unfold fX8_drawn at hf
  obtain ⟨H, eH⟩ : ∃ H, H = s.heap := ⟨_, rfl⟩
  obtain ⟨locs, eL⟩ : ∃ L : List Loc, L = [] := ⟨_, rfl⟩
  have hW : nb_W G xm_sh s.heap σ H locs := by rw [eH, eL]; exact hW
  suffices hgo : W p l e rmX8_drawn s m args below meth c H locs 0 0 (MQ below (nb_Qi G xm_sh Z ro σo) args s 0 0 (nb_A xm_sh G.2.1)) (F0 m 0 ls []) by rw [eH, eL] at hgo; exact hgo
  clear eH eL
  refine lv_iload_n hx hb dX8_drawn_0 rfl (lv_at hl 1 rfl) ?_
  refine lv_i2l hx hb dX8_drawn_1 rfl ?_
  refine lv_lconst (v := (0 : Int64)) hx hb dX8_drawn_2 (by decide) ?_
  refine lv_ldc2 (own := RX8) (v := (9999 : Int64)) hx hb hown (hts _ tw6_12) dX8_drawn_3 ?_
  obtain ⟨r2, hc1, hf⟩ := nb_b_e hf
  refine nb_ci hW (va_runS (As := [.long ((a0).toInt64), .long (0 : Int64), .long (9999 : Int64)]) (rest := []) ⟨hx, hb, hml, hown, hts⟩ (c_X8_in l hinj hZo (N := N) hc1 ) (va_cwS 3 hts (xg_S tw5_9 tw5_10 tw1_10 tw5_11) rfl rfl rfl (by decide +kernel) ⟨Nat.le_of_ble_eq_true rfl, Nat.le_of_ble_eq_true rfl⟩) (nb_preS hK hZ hZo hW) rfl rfl hl.1 rfl (lv_room (Nat.le_of_ble_eq_true rfl)) dX8_drawn_6 ⟨Nat.zero_le _, Nat.zero_le _⟩) (fun H locs hW => ?_)
  obtain ⟨k3, ek3, hf⟩ := nb_let_e hf
  have w4 : ∀ (_u : Unit) (H : Heap) (locs : List Loc) (ls : Array Slot), k3 _u = some (ro, σo) → nb_W G xm_sh s.heap σ H locs → lv_has ls 3 [] → W p l e rmX8_drawn s m args below meth c H locs 0 0 (MQ below (nb_Qi G xm_sh Z ro σo) args s 0 0 (nb_A xm_sh G.2.1)) (F0 m 22 ls []) := by
    intro _u H locs ls hf hW hl
    have hf := (congrFun ek3 _u).symm.trans hf
    refine lv_iconst (v := (-1 : Int32)) hx hb dX8_drawn_22 (by decide) ?_
    exact nb_ri hx hb hr hlocks hK hZ hZo hW  hf dX8_drawn_23
  clear ek3
  refine lv_if_eq (tgt := 22) hx hb dX8_drawn_9 (by decide) (fun c5 => ?_) (fun c5 => ?_)
  · rw [if_pos c5] at hf
    exact w4 ()  _ _ _ hf hW (lv_sub hl [] rfl)
  · rw [if_neg c5] at hf
    refine lv_iload_n hx hb dX8_drawn_12 rfl (lv_at hl 2 rfl) ?_
    refine lv_i2l hx hb dX8_drawn_13 rfl ?_
    refine lv_lconst (v := (0 : Int64)) hx hb dX8_drawn_14 (by decide) ?_
    refine lv_lconst (v := (1 : Int64)) hx hb dX8_drawn_15 (by decide) ?_
    obtain ⟨r7, hc6, hf⟩ := nb_b_e hf
    refine nb_ci hW (va_runS (As := [.long ((a1).toInt64), .long (0 : Int64), .long (1 : Int64)]) (rest := []) ⟨hx, hb, hml, hown, hts⟩ (c_X8_in l hinj hZo (N := N) hc6 ) (va_cwS 3 hts (xg_S tw5_9 tw5_10 tw1_10 tw5_11) rfl rfl rfl (by decide +kernel) ⟨Nat.le_of_ble_eq_true rfl, Nat.le_of_ble_eq_true rfl⟩) (nb_preS hK hZ hZo hW) rfl rfl hl.1 rfl (lv_room (Nat.le_of_ble_eq_true rfl)) dX8_drawn_16 ⟨Nat.zero_le _, Nat.zero_le _⟩) (fun H locs hW => ?_)
    refine lv_if_ne (tgt := 24) hx hb dX8_drawn_19 (by decide) (fun c8 => ?_) (fun c8 => ?_)
    · rw [if_neg c8] at hf
      refine lv_aload_n hx hb dX8_drawn_24 rfl (lv_at hl 0 rfl) ?_
      obtain ⟨σ10, hc9, hf⟩ := nb_b_e hf
      refine nb_cv hW (va_runV (As := []) (rest := []) ⟨hx, hb, hml, hown, hts⟩ (c_X8_asItIs l hinj hZo (N := N) hc9 ) (cwV 0 hts (xg_V tw5_81 tw5_83 tp2_14 tw1_10 tw5_84) rfl rfl rfl (by decide +kernel) ⟨Nat.le_of_ble_eq_true rfl, Nat.le_of_ble_eq_true rfl⟩) (nb_preV hK hZ hZo hW (k := 0) rfl rfl) rfl rfl hl.1 rfl (lv_room (Nat.le_of_ble_eq_true rfl)) dX8_drawn_25 ⟨Nat.zero_le _, Nat.zero_le _⟩) (fun H locs hW => ?_)
      refine lv_aload_n hx hb dX8_drawn_28 rfl (lv_at hl 0 rfl) ?_
      refine lv_iload_n hx hb dX8_drawn_29 rfl (lv_at hl 1 rfl) ?_
      obtain ⟨σ11, eσ11, hf⟩ := nb_let_e hf
      refine nb_put (C := RX8) (T := TX8) (N := 40) hx hb hts inT_X8 hown hK tyX8 tyX8_ok nmX8 hinj hW 0 rfl rfl 32 (by decide) (hts _ tw4_155) (fun _ h9 => h9) rfl (ty := .int) (by decide +kernel) rfl rfl rfl (x := a0) (by show Value.int _ = _; rw [nb_st_s]) eσ11 dX8_drawn_30 (fun H locs hW => ?_)
      refine lv_aload_n hx hb dX8_drawn_33 rfl (lv_at hl 0 rfl) ?_
      obtain ⟨σ13, hc12, hf⟩ := nb_b_e hf
      refine nb_cv hW (va_runV (As := []) (rest := []) ⟨hx, hb, hml, hown, hts⟩ (c_X8_goEvening l hinj hZo (N := N) hc12 ) (cwV 0 hts (xg_V tw5_85 tw5_87 tp2_15 tw1_10 tw5_88) rfl rfl rfl (by decide +kernel) ⟨Nat.le_of_ble_eq_true rfl, Nat.le_of_ble_eq_true rfl⟩) (nb_preV hK hZ hZo hW (k := 0) rfl rfl) rfl rfl hl.1 rfl (lv_room (Nat.le_of_ble_eq_true rfl)) dX8_drawn_34 ⟨Nat.zero_le _, Nat.zero_le _⟩) (fun H locs hW => ?_)
      refine lv_iload_n hx hb dX8_drawn_37 rfl (lv_at hl 2 rfl) ?_
      refine lv_if_ne (tgt := 48) hx hb dX8_drawn_38 (by decide) (fun c14 => ?_) (fun c14 => ?_)
      · rw [if_neg c14] at hf
        refine lv_aload_n hx hb dX8_drawn_48 rfl (lv_at hl 0 rfl) ?_
        obtain ⟨r16, hc15, hf⟩ := nb_b_e hf
        refine nb_ci hW (va_runV (As := []) (rest := []) ⟨hx, hb, hml, hown, hts⟩ (c_X8_allWasted l hinj hZo (N := N) hc15 ) (cwV 0 hts (xg_V tw5_140 tw5_142 tp3_6 tw1_10 tw5_143) rfl rfl rfl (by decide +kernel) ⟨Nat.le_of_ble_eq_true rfl, Nat.le_of_ble_eq_true rfl⟩) (nb_preV hK hZ hZo hW (k := 0) rfl rfl) rfl rfl hl.1 rfl (lv_room (Nat.le_of_ble_eq_true rfl)) dX8_drawn_49 ⟨Nat.zero_le _, Nat.zero_le _⟩) (fun H locs hW => ?_)
        exact nb_ri hx hb hr hlocks hK hZ hZo hW  hf dX8_drawn_52
      · rw [if_pos c14] at hf
        refine lv_aload_n hx hb dX8_drawn_41 rfl (lv_at hl 0 rfl) ?_
        obtain ⟨r18, hc17, hf⟩ := nb_b_e hf
        refine nb_ci hW (va_runV (As := []) (rest := []) ⟨hx, hb, hml, hown, hts⟩ (c_X8_lastOf l hinj hZo (N := N) hc17 ) (cwV 0 hts (xg_V tw5_144 tw5_146 tp3_7 tw1_10 tw5_147) rfl rfl rfl (by decide +kernel) ⟨Nat.le_of_ble_eq_true rfl, Nat.le_of_ble_eq_true rfl⟩) (nb_preV hK hZ hZo hW (k := 0) rfl rfl) rfl rfl hl.1 rfl (lv_room (Nat.le_of_ble_eq_true rfl)) dX8_drawn_42 ⟨Nat.zero_le _, Nat.zero_le _⟩) (fun H locs hW => ?_)
        refine lv_goto (tgt := 52) hx hb dX8_drawn_45 (by decide) ?_
        exact nb_ri hx hb hr hlocks hK hZ hZo hW  hf dX8_drawn_52
    · rw [if_pos c8] at hf
      exact w4 ()  _ _ _ hf hW (lv_sub hl [] rfl)
def fX8_note (N : Nat) (σ : nb_St) (a0 : Int32) : Option nb_St :=
  nb_let (fun (σ3 : nb_St) =>
  nb_g (nb_in (σ3 0 25) 8) (
  nb_let (nb_st σ3 24 (nb_ix (σ3 0 25)) a0) fun σ5 =>
  nb_let (nb_st σ5 0 25 ((σ5 0 25) + (1 : Int32))) fun σ6 =>
  some σ6)) fun k1 =>
  (if (σ 0 25) = (8 : Int32) then
  nb_lp2 (R := nb_St) (fun ag10 (x8 : Int32) (σ9 : nb_St) =>
  (if (8 : Int32) ≤ x8 then
  nb_let (nb_st σ9 0 25 ((σ9 0 25) - (1 : Int32))) fun σ13 =>
  k1 σ13
  else
  nb_g (nb_in x8 8) (
  nb_g (nb_in (x8 - (1 : Int32)) 8) (
  nb_let (nb_st σ9 24 (nb_ix (x8 - (1 : Int32))) (σ9 24 (nb_ix x8))) fun σ16 =>
  ag10 (x8 + 1) σ16)))) N (1 : Int32) σ
  else
  k1 σ)
def rmX8_note : Room := { frames := 0, cells := 0, slots := 0, locals := 0 }
def vsX8_note : List Cond := .code yX8_note cX8_note 3 none :: xT
set_option maxHeartbeats 4000000 in
set_option maxRecDepth 100000 in
theorem c_X8_note (l : Launch) {G : nb_G} {Z : State → Heap → Prop} (hinj : nb_inj xm_sh G.2.1) (hZo : nb_Zok (nb_A xm_sh G.2.1) Z) {N : Nat} {σ : nb_St} {a0 : Int32} {σo : nb_St} (hf : fX8_note N σ a0 = some σo)  : Met l yX8_note vsX8_note rmX8_note (nb_Pc G xm_sh Z σ [.ref (G.2.1 0), .int a0]) (nb_Qv G xm_sh Z σo) 0 0 (nb_A xm_sh G.2.1) := by
  refine Met.ofW (cc := cX8_note) (maxL := 3) (ret := none) (by decide) rfl ?_
  intro p e s m args below meth c s₁ B hml hv
  obtain ⟨rfl, hP, hK, hZ⟩ := hv
  have hx := B.exec
  have hb := B.bytes
  have hr := B.returns
  have hts : ∀ w ∈ xT, w.before _ s = true := fun w h9 => atoms_spec (ws := vsX8_note) B.pre w (List.mem_cons_of_mem _ h9)
  have hown : s.vm.findClass RX8 = some m.cls := findClass_of_methodNamed B.named
  have hlocks := B.notSynchronized
  have hW : nb_W G xm_sh s.heap σ s.heap [] := ⟨hP, va_S.rf⟩
  have hl := lv_entry ([.ref (G.2.1 0), .int a0]) (n := 3) (Nat.le_of_ble_eq_true rfl)
  rw [lg_entry_eq]
  generalize (lg_sl ([.ref (G.2.1 0), .int a0]) ++ List.replicate (3 - (lg_sl ([.ref (G.2.1 0), .int a0])).length) Slot.unset).toArray = ls at hl ⊢
  have hl : lv_has ls 3 [(0, .ref (G.2.1 0)), (1, .int a0)] := hl
  show W p l e rmX8_note s m ([.ref (G.2.1 0), .int a0]).toArray below meth c s.heap [] 0 0 (MQ below (nb_Qv G xm_sh Z σo) ([.ref (G.2.1 0), .int a0]).toArray s 0 0 (nb_A xm_sh G.2.1)) (F0 m 0 ls [])
  generalize hargs : ([.ref (G.2.1 0), .int a0] : List Value).toArray = args at hts ⊢
  unfold fX8_note at hf
  obtain ⟨H, eH⟩ : ∃ H, H = s.heap := ⟨_, rfl⟩
  obtain ⟨locs, eL⟩ : ∃ L : List Loc, L = [] := ⟨_, rfl⟩
  have hW : nb_W G xm_sh s.heap σ H locs := by rw [eH, eL]; exact hW
  suffices hgo : W p l e rmX8_note s m args below meth c H locs 0 0 (MQ below (nb_Qv G xm_sh Z σo) args s 0 0 (nb_A xm_sh G.2.1)) (F0 m 0 ls []) by rw [eH, eL] at hgo; exact hgo
  clear eH eL
  refine lv_aload_n hx hb dX8_note_0 rfl (lv_at hl 0 rfl) ?_
  refine nb_get (C := RX8) (T := TX8) (N := 40) hx hb hts inT_X8 hown hK hW 0 rfl rfl 25 (by decide) (hts _ tw4_148) (fun _ h9 => h9) rfl (v := .int (σ 0 25)) rfl dX8_note_1 ?_
  refine lv_bipush (v := (8 : Int32)) hx hb dX8_note_4 (by decide) ?_
  obtain ⟨k1, ek1, hf⟩ := nb_let_e hf
  have w2 : ∀ (σ3 : nb_St) (H : Heap) (locs : List Loc) (ls : Array Slot), k1 σ3 = some σo → nb_W G xm_sh s.heap σ3 H locs → lv_has ls 3 [(0, .ref (G.2.1 0)), (1, .int a0)] → W p l e rmX8_note s m args below meth c H locs 0 0 (MQ below (nb_Qv G xm_sh Z σo) args s 0 0 (nb_A xm_sh G.2.1)) (F0 m 47 ls []) := by
    intro σ3 H locs ls hf hW hl
    have hf := (congrFun ek1 σ3).symm.trans hf
    refine lv_aload_n hx hb dX8_note_47 rfl (lv_at hl 0 rfl) ?_
    refine nb_get (C := RX8) (T := TX8) (N := 40) hx hb hts inT_X8 hown hK hW 0 rfl rfl 26 (by decide) (hts _ tw4_149) (fun _ h9 => h9) rfl (v := .ref (G.2.1 24)) rfl dX8_note_48 ?_
    refine lv_aload_n hx hb dX8_note_51 rfl (lv_at hl 0 rfl) ?_
    refine nb_get (C := RX8) (T := TX8) (N := 40) hx hb hts inT_X8 hown hK hW 0 rfl rfl 25 (by decide) (hts _ tw4_148) (fun _ h9 => h9) rfl (v := .int (σ3 0 25)) rfl dX8_note_52 ?_
    refine lv_iload_n hx hb dX8_note_55 rfl (lv_at hl 1 rfl) ?_
    obtain ⟨g4, hf⟩ := nb_g_e hf
    obtain ⟨σ5, eσ5, hf⟩ := nb_let_e hf
    refine nb_iast hx hb hK hinj hW 24 rfl g4 eσ5 dX8_note_56 (fun H locs hW => ?_)
    refine lv_aload_n hx hb dX8_note_57 rfl (lv_at hl 0 rfl) ?_
    refine lv_dup hx hb dX8_note_58 rfl ?_
    refine nb_get (C := RX8) (T := TX8) (N := 40) hx hb hts inT_X8 hown hK hW 0 rfl rfl 25 (by decide) (hts _ tw4_148) (fun _ h9 => h9) rfl (v := .int (σ5 0 25)) rfl dX8_note_59 ?_
    refine lv_iconst (v := (1 : Int32)) hx hb dX8_note_62 (by decide) ?_
    refine lv_iadd hx hb dX8_note_63 ?_
    obtain ⟨σ6, eσ6, hf⟩ := nb_let_e hf
    refine nb_put (C := RX8) (T := TX8) (N := 40) hx hb hts inT_X8 hown hK tyX8 tyX8_ok nmX8 hinj hW 0 rfl rfl 25 (by decide) (hts _ tw4_148) (fun _ h9 => h9) rfl (ty := .int) (by decide +kernel) rfl rfl rfl (x := ((σ5 0 25) + (1 : Int32))) (by show Value.int _ = _; rw [nb_st_s]) eσ6 dX8_note_64 (fun H locs hW => ?_)
    exact nb_rv hx hb hr hlocks hK hZ hZo hW hf dX8_note_67
  clear ek1
  refine lv_icmp_ne (tgt := 47) hx hb dX8_note_6 (by decide) (fun c7 => ?_) (fun c7 => ?_)
  · rw [if_neg c7] at hf
    exact w2 _ _ _ _ hf hW (lv_sub hl [0, 1] rfl)
  · rw [if_pos c7] at hf
    refine lv_iconst (v := (1 : Int32)) hx hb dX8_note_9 (by decide) ?_
    refine lv_istore_n (lv' := [(2, .int (1 : Int32)), (0, .ref (G.2.1 0)), (1, .int a0)]) hx hb dX8_note_10 rfl hl (by decide) rfl (fun ls hl => ?_)
    refine nb_w2 (P := fun (x8 : Int32) (σ9 : nb_St) => ∀ (H : Heap) (locs : List Loc) (ls : Array Slot), nb_W G xm_sh s.heap σ9 H locs → lv_has ls 3 [(0, .ref (G.2.1 0)), (1, .int a0), (2, .int x8)] → W p l e rmX8_note s m args below meth c H locs 0 0 (MQ below (nb_Qv G xm_sh Z σo) args s 0 0 (nb_A xm_sh G.2.1)) (F0 m 11 ls [])) ?_ N _ _ hf H locs ls hW (lv_sub hl [1, 2, 0] rfl)
    intro ag10 ih11 x8 σ9 hf H locs ls hW hl
    refine lv_iload_n hx hb dX8_note_11 rfl (lv_at hl 2 rfl) ?_
    refine lv_bipush (v := (8 : Int32)) hx hb dX8_note_12 (by decide) ?_
    refine lv_icmp_ge (tgt := 37) hx hb dX8_note_14 (by decide) (fun c12 => ?_) (fun c12 => ?_)
    · rw [if_pos c12] at hf
      refine lv_aload_n hx hb dX8_note_37 rfl (lv_at hl 0 rfl) ?_
      refine lv_dup hx hb dX8_note_38 rfl ?_
      refine nb_get (C := RX8) (T := TX8) (N := 40) hx hb hts inT_X8 hown hK hW 0 rfl rfl 25 (by decide) (hts _ tw4_148) (fun _ h9 => h9) rfl (v := .int (σ9 0 25)) rfl dX8_note_39 ?_
      refine lv_iconst (v := (1 : Int32)) hx hb dX8_note_42 (by decide) ?_
      refine lv_isub hx hb dX8_note_43 ?_
      obtain ⟨σ13, eσ13, hf⟩ := nb_let_e hf
      refine nb_put (C := RX8) (T := TX8) (N := 40) hx hb hts inT_X8 hown hK tyX8 tyX8_ok nmX8 hinj hW 0 rfl rfl 25 (by decide) (hts _ tw4_148) (fun _ h9 => h9) rfl (ty := .int) (by decide +kernel) rfl rfl rfl (x := ((σ9 0 25) - (1 : Int32))) (by show Value.int _ = _; rw [nb_st_s]) eσ13 dX8_note_44 (fun H locs hW => ?_)
      exact w2 _ _ _ _ hf hW (lv_sub hl [0, 1] rfl)
    · rw [if_neg c12] at hf
      refine lv_aload_n hx hb dX8_note_17 rfl (lv_at hl 0 rfl) ?_
      refine nb_get (C := RX8) (T := TX8) (N := 40) hx hb hts inT_X8 hown hK hW 0 rfl rfl 26 (by decide) (hts _ tw4_149) (fun _ h9 => h9) rfl (v := .ref (G.2.1 24)) rfl dX8_note_18 ?_
      refine lv_iload_n hx hb dX8_note_21 rfl (lv_at hl 2 rfl) ?_
      refine lv_iconst (v := (1 : Int32)) hx hb dX8_note_22 (by decide) ?_
      refine lv_isub hx hb dX8_note_23 ?_
      refine lv_aload_n hx hb dX8_note_24 rfl (lv_at hl 0 rfl) ?_
      refine nb_get (C := RX8) (T := TX8) (N := 40) hx hb hts inT_X8 hown hK hW 0 rfl rfl 26 (by decide) (hts _ tw4_149) (fun _ h9 => h9) rfl (v := .ref (G.2.1 24)) rfl dX8_note_25 ?_
      refine lv_iload_n hx hb dX8_note_28 rfl (lv_at hl 2 rfl) ?_
      obtain ⟨g14, hf⟩ := nb_g_e hf
      refine nb_iald hx hb hK hW 24 rfl g14 dX8_note_29 ?_
      obtain ⟨g15, hf⟩ := nb_g_e hf
      obtain ⟨σ16, eσ16, hf⟩ := nb_let_e hf
      refine nb_iast hx hb hK hinj hW 24 rfl g15 eσ16 dX8_note_30 (fun H locs hW => ?_)
      refine lv_iinc (v := (x8 + 1)) (lv' := [(2, .int (x8 + 1)), (0, .ref (G.2.1 0)), (1, .int a0)]) hx hb dX8_note_31 hl (k := 2) rfl rfl (by decide) rfl (fun ls hl => ?_)
      refine lv_goto (tgt := 11) hx hb dX8_note_34 (by decide) ?_
      exact ih11 _ _ hf _ _ _ hW (lv_sub hl [1, 2, 0] rfl)
def fX8_sign (N : Nat) (σ : nb_St) (a0 : Int32) (a1 : Int32) : Option (Int32 × nb_St) :=
  nb_b (fX8_isMinute N σ a0) fun r2 =>
  nb_let (fun (_u : Unit) =>
  some ((-1 : Int32), σ)) fun k3 =>
  (if r2 = 0 then
  k3 ()
  else
  nb_b (fX8_in N σ ((a1).toInt64) (1 : Int64) (99 : Int64)) fun r7 =>
  (if r7 = 0 then
  k3 ()
  else
  nb_g (nb_in (0 : Int32) 4) (
  (if (σ 19 (nb_ix (0 : Int32))) = (6 : Int32) then
  some ((-3 : Int32), σ)
  else
  nb_g (nb_in (0 : Int32) 4) (
  nb_g (nb_in (σ 19 (nb_ix (0 : Int32))) 24) (
  nb_let (nb_st σ 20 (nb_ix (σ 19 (nb_ix (0 : Int32)))) a0) fun σ13 =>
  nb_g (nb_in (0 : Int32) 4) (
  nb_g (nb_in (σ13 19 (nb_ix (0 : Int32))) 24) (
  nb_let (nb_st σ13 21 (nb_ix (σ13 19 (nb_ix (0 : Int32)))) a1) fun σ16 =>
  nb_g (nb_in (0 : Int32) 4) (
  nb_g (nb_in (0 : Int32) 4) (
  nb_let (nb_st σ16 19 (nb_ix (0 : Int32)) ((σ16 19 (nb_ix (0 : Int32))) + (1 : Int32))) fun σ19 =>
  nb_b (fX8_note N σ19 (0 : Int32)) fun σ21 =>
  nb_g (nb_in (0 : Int32) 4) (
  some ((σ21 19 (nb_ix (0 : Int32))), σ21))))))))))))
def rmX8_sign : Room := { frames := 2, cells := 0, slots := 0, locals := 45 }
def vsX8_sign : List Cond := .code yX8_sign cX8_sign 3 (some .int) :: xT
set_option maxHeartbeats 4000000 in
set_option maxRecDepth 100000 in
theorem c_X8_sign (l : Launch) {G : nb_G} {Z : State → Heap → Prop} (hinj : nb_inj xm_sh G.2.1) (hZo : nb_Zok (nb_A xm_sh G.2.1) Z) {N : Nat} {σ : nb_St} {a0 : Int32} {a1 : Int32} {ro : Int32} {σo : nb_St} (hf : fX8_sign N σ a0 a1 = some (ro, σo))  : Met l yX8_sign vsX8_sign rmX8_sign (nb_Pc G xm_sh Z σ [.ref (G.2.1 0), .int a0, .int a1]) (nb_Qi G xm_sh Z ro σo) 0 0 (nb_A xm_sh G.2.1) := by
  refine Met.ofW (cc := cX8_sign) (maxL := 3) (ret := (some .int)) (by decide) rfl ?_
  intro p e s m args below meth c s₁ B hml hv
  obtain ⟨rfl, hP, hK, hZ⟩ := hv
  have hx := B.exec
  have hb := B.bytes
  have hr := B.returns
  have hts : ∀ w ∈ xT, w.before _ s = true := fun w h9 => atoms_spec (ws := vsX8_sign) B.pre w (List.mem_cons_of_mem _ h9)
  have hown : s.vm.findClass RX8 = some m.cls := findClass_of_methodNamed B.named
  have hlocks := B.notSynchronized
  have hW : nb_W G xm_sh s.heap σ s.heap [] := ⟨hP, va_S.rf⟩
  have hl := lv_entry ([.ref (G.2.1 0), .int a0, .int a1]) (n := 3) (Nat.le_of_ble_eq_true rfl)
  rw [lg_entry_eq]
  generalize (lg_sl ([.ref (G.2.1 0), .int a0, .int a1]) ++ List.replicate (3 - (lg_sl ([.ref (G.2.1 0), .int a0, .int a1])).length) Slot.unset).toArray = ls at hl ⊢
  have hl : lv_has ls 3 [(0, .ref (G.2.1 0)), (1, .int a0), (2, .int a1)] := hl
  show W p l e rmX8_sign s m ([.ref (G.2.1 0), .int a0, .int a1]).toArray below meth c s.heap [] 0 0 (MQ below (nb_Qi G xm_sh Z ro σo) ([.ref (G.2.1 0), .int a0, .int a1]).toArray s 0 0 (nb_A xm_sh G.2.1)) (F0 m 0 ls [])
  generalize hargs : ([.ref (G.2.1 0), .int a0, .int a1] : List Value).toArray = args at hts ⊢
  unfold fX8_sign at hf
  obtain ⟨H, eH⟩ : ∃ H, H = s.heap := ⟨_, rfl⟩
  obtain ⟨locs, eL⟩ : ∃ L : List Loc, L = [] := ⟨_, rfl⟩
  have hW : nb_W G xm_sh s.heap σ H locs := by rw [eH, eL]; exact hW
  suffices hgo : W p l e rmX8_sign s m args below meth c H locs 0 0 (MQ below (nb_Qi G xm_sh Z ro σo) args s 0 0 (nb_A xm_sh G.2.1)) (F0 m 0 ls []) by rw [eH, eL] at hgo; exact hgo
  clear eH eL
  refine lv_iload_n hx hb dX8_sign_0 rfl (lv_at hl 1 rfl) ?_
  obtain ⟨r2, hc1, hf⟩ := nb_b_e hf
  refine nb_ci hW (va_runS (As := [.int a0]) (rest := []) ⟨hx, hb, hml, hown, hts⟩ (c_X8_isMinute l hinj hZo (N := N) hc1 ) (va_cwS 1 hts (xg_S tw5_44 tw5_45 tw1_10 tw5_46) rfl rfl rfl (by decide +kernel) ⟨Nat.le_of_ble_eq_true rfl, Nat.le_of_ble_eq_true rfl⟩) (nb_preS hK hZ hZo hW) rfl rfl hl.1 rfl (lv_room (Nat.le_of_ble_eq_true rfl)) dX8_sign_1 ⟨Nat.zero_le _, Nat.zero_le _⟩) (fun H locs hW => ?_)
  obtain ⟨k3, ek3, hf⟩ := nb_let_e hf
  have w4 : ∀ (_u : Unit) (H : Heap) (locs : List Loc) (ls : Array Slot), k3 _u = some (ro, σo) → nb_W G xm_sh s.heap σ H locs → lv_has ls 3 [] → W p l e rmX8_sign s m args below meth c H locs 0 0 (MQ below (nb_Qi G xm_sh Z ro σo) args s 0 0 (nb_A xm_sh G.2.1)) (F0 m 19 ls []) := by
    intro _u H locs ls hf hW hl
    have hf := (congrFun ek3 _u).symm.trans hf
    refine lv_iconst (v := (-1 : Int32)) hx hb dX8_sign_19 (by decide) ?_
    exact nb_ri hx hb hr hlocks hK hZ hZo hW  hf dX8_sign_20
  clear ek3
  refine lv_if_eq (tgt := 19) hx hb dX8_sign_4 (by decide) (fun c5 => ?_) (fun c5 => ?_)
  · rw [if_pos c5] at hf
    exact w4 ()  _ _ _ hf hW (lv_sub hl [] rfl)
  · rw [if_neg c5] at hf
    refine lv_iload_n hx hb dX8_sign_7 rfl (lv_at hl 2 rfl) ?_
    refine lv_i2l hx hb dX8_sign_8 rfl ?_
    refine lv_lconst (v := (1 : Int64)) hx hb dX8_sign_9 (by decide) ?_
    refine lv_ldc2 (own := RX8) (v := (99 : Int64)) hx hb hown (hts _ tw5_52) dX8_sign_10 ?_
    obtain ⟨r7, hc6, hf⟩ := nb_b_e hf
    refine nb_ci hW (va_runS (As := [.long ((a1).toInt64), .long (1 : Int64), .long (99 : Int64)]) (rest := []) ⟨hx, hb, hml, hown, hts⟩ (c_X8_in l hinj hZo (N := N) hc6 ) (va_cwS 3 hts (xg_S tw5_9 tw5_10 tw1_10 tw5_11) rfl rfl rfl (by decide +kernel) ⟨Nat.le_of_ble_eq_true rfl, Nat.le_of_ble_eq_true rfl⟩) (nb_preS hK hZ hZo hW) rfl rfl hl.1 rfl (lv_room (Nat.le_of_ble_eq_true rfl)) dX8_sign_13 ⟨Nat.zero_le _, Nat.zero_le _⟩) (fun H locs hW => ?_)
    refine lv_if_ne (tgt := 21) hx hb dX8_sign_16 (by decide) (fun c8 => ?_) (fun c8 => ?_)
    · rw [if_neg c8] at hf
      refine lv_aload_n hx hb dX8_sign_21 rfl (lv_at hl 0 rfl) ?_
      refine nb_get (C := RX8) (T := TX8) (N := 40) hx hb hts inT_X8 hown hK hW 0 rfl rfl 19 (by decide) (hts _ tw4_142) (fun _ h9 => h9) rfl (v := .ref (G.2.1 19)) rfl dX8_sign_22 ?_
      refine lv_iconst (v := (0 : Int32)) hx hb dX8_sign_25 (by decide) ?_
      obtain ⟨g9, hf⟩ := nb_g_e hf
      refine nb_iald hx hb hK hW 19 rfl g9 dX8_sign_26 ?_
      refine lv_bipush (v := (6 : Int32)) hx hb dX8_sign_27 (by decide) ?_
      refine lv_icmp_ne (tgt := 35) hx hb dX8_sign_29 (by decide) (fun c10 => ?_) (fun c10 => ?_)
      · rw [if_neg c10] at hf
        refine lv_aload_n hx hb dX8_sign_35 rfl (lv_at hl 0 rfl) ?_
        refine nb_get (C := RX8) (T := TX8) (N := 40) hx hb hts inT_X8 hown hK hW 0 rfl rfl 20 (by decide) (hts _ tw4_143) (fun _ h9 => h9) rfl (v := .ref (G.2.1 20)) rfl dX8_sign_36 ?_
        refine lv_aload_n hx hb dX8_sign_39 rfl (lv_at hl 0 rfl) ?_
        refine nb_get (C := RX8) (T := TX8) (N := 40) hx hb hts inT_X8 hown hK hW 0 rfl rfl 19 (by decide) (hts _ tw4_142) (fun _ h9 => h9) rfl (v := .ref (G.2.1 19)) rfl dX8_sign_40 ?_
        refine lv_iconst (v := (0 : Int32)) hx hb dX8_sign_43 (by decide) ?_
        obtain ⟨g11, hf⟩ := nb_g_e hf
        refine nb_iald hx hb hK hW 19 rfl g11 dX8_sign_44 ?_
        refine lv_iload_n hx hb dX8_sign_45 rfl (lv_at hl 1 rfl) ?_
        obtain ⟨g12, hf⟩ := nb_g_e hf
        obtain ⟨σ13, eσ13, hf⟩ := nb_let_e hf
        refine nb_iast hx hb hK hinj hW 20 rfl g12 eσ13 dX8_sign_46 (fun H locs hW => ?_)
        refine lv_aload_n hx hb dX8_sign_47 rfl (lv_at hl 0 rfl) ?_
        refine nb_get (C := RX8) (T := TX8) (N := 40) hx hb hts inT_X8 hown hK hW 0 rfl rfl 21 (by decide) (hts _ tw4_144) (fun _ h9 => h9) rfl (v := .ref (G.2.1 21)) rfl dX8_sign_48 ?_
        refine lv_aload_n hx hb dX8_sign_51 rfl (lv_at hl 0 rfl) ?_
        refine nb_get (C := RX8) (T := TX8) (N := 40) hx hb hts inT_X8 hown hK hW 0 rfl rfl 19 (by decide) (hts _ tw4_142) (fun _ h9 => h9) rfl (v := .ref (G.2.1 19)) rfl dX8_sign_52 ?_
        refine lv_iconst (v := (0 : Int32)) hx hb dX8_sign_55 (by decide) ?_
        obtain ⟨g14, hf⟩ := nb_g_e hf
        refine nb_iald hx hb hK hW 19 rfl g14 dX8_sign_56 ?_
        refine lv_iload_n hx hb dX8_sign_57 rfl (lv_at hl 2 rfl) ?_
        obtain ⟨g15, hf⟩ := nb_g_e hf
        obtain ⟨σ16, eσ16, hf⟩ := nb_let_e hf
        refine nb_iast hx hb hK hinj hW 21 rfl g15 eσ16 dX8_sign_58 (fun H locs hW => ?_)
        refine lv_aload_n hx hb dX8_sign_59 rfl (lv_at hl 0 rfl) ?_
        refine nb_get (C := RX8) (T := TX8) (N := 40) hx hb hts inT_X8 hown hK hW 0 rfl rfl 19 (by decide) (hts _ tw4_142) (fun _ h9 => h9) rfl (v := .ref (G.2.1 19)) rfl dX8_sign_60 ?_
        refine lv_iconst (v := (0 : Int32)) hx hb dX8_sign_63 (by decide) ?_
        refine lv_dup2_11 hx hb dX8_sign_64 rfl rfl ?_
        obtain ⟨g17, hf⟩ := nb_g_e hf
        refine nb_iald hx hb hK hW 19 rfl g17 dX8_sign_65 ?_
        refine lv_iconst (v := (1 : Int32)) hx hb dX8_sign_66 (by decide) ?_
        refine lv_iadd hx hb dX8_sign_67 ?_
        obtain ⟨g18, hf⟩ := nb_g_e hf
        obtain ⟨σ19, eσ19, hf⟩ := nb_let_e hf
        refine nb_iast hx hb hK hinj hW 19 rfl g18 eσ19 dX8_sign_68 (fun H locs hW => ?_)
        refine lv_aload_n hx hb dX8_sign_69 rfl (lv_at hl 0 rfl) ?_
        refine lv_iconst (v := (0 : Int32)) hx hb dX8_sign_70 (by decide) ?_
        obtain ⟨σ21, hc20, hf⟩ := nb_b_e hf
        refine nb_cv hW (va_runV (As := [.int (0 : Int32)]) (rest := []) ⟨hx, hb, hml, hown, hts⟩ (c_X8_note l hinj hZo (N := N) hc20 ) (cwV 1 hts (xg_V tw6_17 tw6_19 tp4_2 tw1_10 tw6_20) rfl rfl rfl (by decide +kernel) ⟨Nat.le_of_ble_eq_true rfl, Nat.le_of_ble_eq_true rfl⟩) (nb_preV hK hZ hZo hW (k := 0) rfl rfl) rfl rfl hl.1 rfl (lv_room (Nat.le_of_ble_eq_true rfl)) dX8_sign_71 ⟨Nat.zero_le _, Nat.zero_le _⟩) (fun H locs hW => ?_)
        refine lv_aload_n hx hb dX8_sign_74 rfl (lv_at hl 0 rfl) ?_
        refine nb_get (C := RX8) (T := TX8) (N := 40) hx hb hts inT_X8 hown hK hW 0 rfl rfl 19 (by decide) (hts _ tw4_142) (fun _ h9 => h9) rfl (v := .ref (G.2.1 19)) rfl dX8_sign_75 ?_
        refine lv_iconst (v := (0 : Int32)) hx hb dX8_sign_78 (by decide) ?_
        obtain ⟨g22, hf⟩ := nb_g_e hf
        refine nb_iald hx hb hK hW 19 rfl g22 dX8_sign_79 ?_
        exact nb_ri hx hb hr hlocks hK hZ hZo hW  hf dX8_sign_80
      · rw [if_pos c10] at hf
        refine lv_bipush (v := (-3 : Int32)) hx hb dX8_sign_32 (by decide) ?_
        exact nb_ri hx hb hr hlocks hK hZ hZo hW  hf dX8_sign_34
    · rw [if_pos c8] at hf
      exact w4 ()  _ _ _ hf hW (lv_sub hl [] rfl)
def fX8_say (N : Nat) (σ : nb_St) (a0 : Int32) : Option (Int32 × nb_St) :=
  nb_b (fX8_isMinute N σ a0) fun r2 =>
  (if r2 = 0 then
  some ((-1 : Int32), σ)
  else
  nb_g (nb_in (0 : Int32) 4) (
  (if (σ 22 (nb_ix (0 : Int32))) = (4 : Int32) then
  some ((-3 : Int32), σ)
  else
  nb_g (nb_in (0 : Int32) 4) (
  nb_g (nb_in (σ 22 (nb_ix (0 : Int32))) 16) (
  nb_let (nb_st σ 23 (nb_ix (σ 22 (nb_ix (0 : Int32)))) a0) fun σ8 =>
  nb_g (nb_in (0 : Int32) 4) (
  nb_g (nb_in (0 : Int32) 4) (
  nb_let (nb_st σ8 22 (nb_ix (0 : Int32)) ((σ8 22 (nb_ix (0 : Int32))) + (1 : Int32))) fun σ11 =>
  nb_b (fX8_note N σ11 (1 : Int32)) fun σ13 =>
  nb_g (nb_in (0 : Int32) 4) (
  some ((σ13 22 (nb_ix (0 : Int32))), σ13)))))))))
def rmX8_say : Room := { frames := 2, cells := 0, slots := 0, locals := 45 }
def vsX8_say : List Cond := .code yX8_say cX8_say 2 (some .int) :: xT
set_option maxHeartbeats 4000000 in
set_option maxRecDepth 100000 in
theorem c_X8_say (l : Launch) {G : nb_G} {Z : State → Heap → Prop} (hinj : nb_inj xm_sh G.2.1) (hZo : nb_Zok (nb_A xm_sh G.2.1) Z) {N : Nat} {σ : nb_St} {a0 : Int32} {ro : Int32} {σo : nb_St} (hf : fX8_say N σ a0 = some (ro, σo))  : Met l yX8_say vsX8_say rmX8_say (nb_Pc G xm_sh Z σ [.ref (G.2.1 0), .int a0]) (nb_Qi G xm_sh Z ro σo) 0 0 (nb_A xm_sh G.2.1) := by
  refine Met.ofW (cc := cX8_say) (maxL := 2) (ret := (some .int)) (by decide) rfl ?_
  intro p e s m args below meth c s₁ B hml hv
  obtain ⟨rfl, hP, hK, hZ⟩ := hv
  have hx := B.exec
  have hb := B.bytes
  have hr := B.returns
  have hts : ∀ w ∈ xT, w.before _ s = true := fun w h9 => atoms_spec (ws := vsX8_say) B.pre w (List.mem_cons_of_mem _ h9)
  have hown : s.vm.findClass RX8 = some m.cls := findClass_of_methodNamed B.named
  have hlocks := B.notSynchronized
  have hW : nb_W G xm_sh s.heap σ s.heap [] := ⟨hP, va_S.rf⟩
  have hl := lv_entry ([.ref (G.2.1 0), .int a0]) (n := 2) (Nat.le_of_ble_eq_true rfl)
  rw [lg_entry_eq]
  generalize (lg_sl ([.ref (G.2.1 0), .int a0]) ++ List.replicate (2 - (lg_sl ([.ref (G.2.1 0), .int a0])).length) Slot.unset).toArray = ls at hl ⊢
  have hl : lv_has ls 2 [(0, .ref (G.2.1 0)), (1, .int a0)] := hl
  show W p l e rmX8_say s m ([.ref (G.2.1 0), .int a0]).toArray below meth c s.heap [] 0 0 (MQ below (nb_Qi G xm_sh Z ro σo) ([.ref (G.2.1 0), .int a0]).toArray s 0 0 (nb_A xm_sh G.2.1)) (F0 m 0 ls [])
  generalize hargs : ([.ref (G.2.1 0), .int a0] : List Value).toArray = args at hts ⊢
  unfold fX8_say at hf
  obtain ⟨H, eH⟩ : ∃ H, H = s.heap := ⟨_, rfl⟩
  obtain ⟨locs, eL⟩ : ∃ L : List Loc, L = [] := ⟨_, rfl⟩
  have hW : nb_W G xm_sh s.heap σ H locs := by rw [eH, eL]; exact hW
  suffices hgo : W p l e rmX8_say s m args below meth c H locs 0 0 (MQ below (nb_Qi G xm_sh Z ro σo) args s 0 0 (nb_A xm_sh G.2.1)) (F0 m 0 ls []) by rw [eH, eL] at hgo; exact hgo
  clear eH eL
  refine lv_iload_n hx hb dX8_say_0 rfl (lv_at hl 1 rfl) ?_
  obtain ⟨r2, hc1, hf⟩ := nb_b_e hf
  refine nb_ci hW (va_runS (As := [.int a0]) (rest := []) ⟨hx, hb, hml, hown, hts⟩ (c_X8_isMinute l hinj hZo (N := N) hc1 ) (va_cwS 1 hts (xg_S tw5_44 tw5_45 tw1_10 tw5_46) rfl rfl rfl (by decide +kernel) ⟨Nat.le_of_ble_eq_true rfl, Nat.le_of_ble_eq_true rfl⟩) (nb_preS hK hZ hZo hW) rfl rfl hl.1 rfl (lv_room (Nat.le_of_ble_eq_true rfl)) dX8_say_1 ⟨Nat.zero_le _, Nat.zero_le _⟩) (fun H locs hW => ?_)
  refine lv_if_ne (tgt := 9) hx hb dX8_say_4 (by decide) (fun c3 => ?_) (fun c3 => ?_)
  · rw [if_neg c3] at hf
    refine lv_aload_n hx hb dX8_say_9 rfl (lv_at hl 0 rfl) ?_
    refine nb_get (C := RX8) (T := TX8) (N := 40) hx hb hts inT_X8 hown hK hW 0 rfl rfl 22 (by decide) (hts _ tw4_145) (fun _ h9 => h9) rfl (v := .ref (G.2.1 22)) rfl dX8_say_10 ?_
    refine lv_iconst (v := (0 : Int32)) hx hb dX8_say_13 (by decide) ?_
    obtain ⟨g4, hf⟩ := nb_g_e hf
    refine nb_iald hx hb hK hW 22 rfl g4 dX8_say_14 ?_
    refine lv_iconst (v := (4 : Int32)) hx hb dX8_say_15 (by decide) ?_
    refine lv_icmp_ne (tgt := 22) hx hb dX8_say_16 (by decide) (fun c5 => ?_) (fun c5 => ?_)
    · rw [if_neg c5] at hf
      refine lv_aload_n hx hb dX8_say_22 rfl (lv_at hl 0 rfl) ?_
      refine nb_get (C := RX8) (T := TX8) (N := 40) hx hb hts inT_X8 hown hK hW 0 rfl rfl 23 (by decide) (hts _ tw4_146) (fun _ h9 => h9) rfl (v := .ref (G.2.1 23)) rfl dX8_say_23 ?_
      refine lv_aload_n hx hb dX8_say_26 rfl (lv_at hl 0 rfl) ?_
      refine nb_get (C := RX8) (T := TX8) (N := 40) hx hb hts inT_X8 hown hK hW 0 rfl rfl 22 (by decide) (hts _ tw4_145) (fun _ h9 => h9) rfl (v := .ref (G.2.1 22)) rfl dX8_say_27 ?_
      refine lv_iconst (v := (0 : Int32)) hx hb dX8_say_30 (by decide) ?_
      obtain ⟨g6, hf⟩ := nb_g_e hf
      refine nb_iald hx hb hK hW 22 rfl g6 dX8_say_31 ?_
      refine lv_iload_n hx hb dX8_say_32 rfl (lv_at hl 1 rfl) ?_
      obtain ⟨g7, hf⟩ := nb_g_e hf
      obtain ⟨σ8, eσ8, hf⟩ := nb_let_e hf
      refine nb_iast hx hb hK hinj hW 23 rfl g7 eσ8 dX8_say_33 (fun H locs hW => ?_)
      refine lv_aload_n hx hb dX8_say_34 rfl (lv_at hl 0 rfl) ?_
      refine nb_get (C := RX8) (T := TX8) (N := 40) hx hb hts inT_X8 hown hK hW 0 rfl rfl 22 (by decide) (hts _ tw4_145) (fun _ h9 => h9) rfl (v := .ref (G.2.1 22)) rfl dX8_say_35 ?_
      refine lv_iconst (v := (0 : Int32)) hx hb dX8_say_38 (by decide) ?_
      refine lv_dup2_11 hx hb dX8_say_39 rfl rfl ?_
      obtain ⟨g9, hf⟩ := nb_g_e hf
      refine nb_iald hx hb hK hW 22 rfl g9 dX8_say_40 ?_
      refine lv_iconst (v := (1 : Int32)) hx hb dX8_say_41 (by decide) ?_
      refine lv_iadd hx hb dX8_say_42 ?_
      obtain ⟨g10, hf⟩ := nb_g_e hf
      obtain ⟨σ11, eσ11, hf⟩ := nb_let_e hf
      refine nb_iast hx hb hK hinj hW 22 rfl g10 eσ11 dX8_say_43 (fun H locs hW => ?_)
      refine lv_aload_n hx hb dX8_say_44 rfl (lv_at hl 0 rfl) ?_
      refine lv_iconst (v := (1 : Int32)) hx hb dX8_say_45 (by decide) ?_
      obtain ⟨σ13, hc12, hf⟩ := nb_b_e hf
      refine nb_cv hW (va_runV (As := [.int (1 : Int32)]) (rest := []) ⟨hx, hb, hml, hown, hts⟩ (c_X8_note l hinj hZo (N := N) hc12 ) (cwV 1 hts (xg_V tw6_17 tw6_19 tp4_2 tw1_10 tw6_20) rfl rfl rfl (by decide +kernel) ⟨Nat.le_of_ble_eq_true rfl, Nat.le_of_ble_eq_true rfl⟩) (nb_preV hK hZ hZo hW (k := 0) rfl rfl) rfl rfl hl.1 rfl (lv_room (Nat.le_of_ble_eq_true rfl)) dX8_say_46 ⟨Nat.zero_le _, Nat.zero_le _⟩) (fun H locs hW => ?_)
      refine lv_aload_n hx hb dX8_say_49 rfl (lv_at hl 0 rfl) ?_
      refine nb_get (C := RX8) (T := TX8) (N := 40) hx hb hts inT_X8 hown hK hW 0 rfl rfl 22 (by decide) (hts _ tw4_145) (fun _ h9 => h9) rfl (v := .ref (G.2.1 22)) rfl dX8_say_50 ?_
      refine lv_iconst (v := (0 : Int32)) hx hb dX8_say_53 (by decide) ?_
      obtain ⟨g14, hf⟩ := nb_g_e hf
      refine nb_iald hx hb hK hW 22 rfl g14 dX8_say_54 ?_
      exact nb_ri hx hb hr hlocks hK hZ hZo hW  hf dX8_say_55
    · rw [if_pos c5] at hf
      refine lv_bipush (v := (-3 : Int32)) hx hb dX8_say_19 (by decide) ?_
      exact nb_ri hx hb hr hlocks hK hZ hZo hW  hf dX8_say_21
  · rw [if_pos c3] at hf
    refine lv_iconst (v := (-1 : Int32)) hx hb dX8_say_7 (by decide) ?_
    exact nb_ri hx hb hr hlocks hK hZ hZo hW  hf dX8_say_8
def fX8_takeBack (N : Nat) (σ : nb_St)  : Option (Int32 × nb_St) :=
  (if (σ 0 25) = 0 then
  some ((-2 : Int32), σ)
  else
  nb_let (nb_st σ 0 25 ((σ 0 25) - (1 : Int32))) fun σ2 =>
  nb_g (nb_in (σ2 0 25) 8) (
  nb_let (fun (σ6 : nb_St) =>
  some ((σ6 0 25), σ6)) fun k4 =>
  (if (σ2 24 (nb_ix (σ2 0 25))) = 0 then
  nb_g (nb_in (0 : Int32) 4) (
  nb_g (nb_in (0 : Int32) 4) (
  nb_let (nb_st σ2 19 (nb_ix (0 : Int32)) ((σ2 19 (nb_ix (0 : Int32))) - (1 : Int32))) fun σ13 =>
  k4 σ13))
  else
  nb_g (nb_in (0 : Int32) 4) (
  nb_g (nb_in (0 : Int32) 4) (
  nb_let (nb_st σ2 22 (nb_ix (0 : Int32)) ((σ2 22 (nb_ix (0 : Int32))) - (1 : Int32))) fun σ10 =>
  k4 σ10)))))
def rmX8_takeBack : Room := { frames := 0, cells := 0, slots := 0, locals := 0 }
def vsX8_takeBack : List Cond := .code yX8_takeBack cX8_takeBack 1 (some .int) :: xT
set_option maxHeartbeats 4000000 in
set_option maxRecDepth 100000 in
theorem c_X8_takeBack (l : Launch) {G : nb_G} {Z : State → Heap → Prop} (hinj : nb_inj xm_sh G.2.1) (hZo : nb_Zok (nb_A xm_sh G.2.1) Z) {N : Nat} {σ : nb_St}  {ro : Int32} {σo : nb_St} (hf : fX8_takeBack N σ = some (ro, σo))  : Met l yX8_takeBack vsX8_takeBack rmX8_takeBack (nb_Pc G xm_sh Z σ [.ref (G.2.1 0)]) (nb_Qi G xm_sh Z ro σo) 0 0 (nb_A xm_sh G.2.1) := by
  refine Met.ofW (cc := cX8_takeBack) (maxL := 1) (ret := (some .int)) (by decide) rfl ?_
  intro p e s m args below meth c s₁ B hml hv
  obtain ⟨rfl, hP, hK, hZ⟩ := hv
  have hx := B.exec
  have hb := B.bytes
  have hr := B.returns
  have hts : ∀ w ∈ xT, w.before _ s = true := fun w h9 => atoms_spec (ws := vsX8_takeBack) B.pre w (List.mem_cons_of_mem _ h9)
  have hown : s.vm.findClass RX8 = some m.cls := findClass_of_methodNamed B.named
  have hlocks := B.notSynchronized
  have hW : nb_W G xm_sh s.heap σ s.heap [] := ⟨hP, va_S.rf⟩
  have hl := lv_entry ([.ref (G.2.1 0)]) (n := 1) (Nat.le_of_ble_eq_true rfl)
  rw [lg_entry_eq]
  generalize (lg_sl ([.ref (G.2.1 0)]) ++ List.replicate (1 - (lg_sl ([.ref (G.2.1 0)])).length) Slot.unset).toArray = ls at hl ⊢
  have hl : lv_has ls 1 [(0, .ref (G.2.1 0))] := hl
  show W p l e rmX8_takeBack s m ([.ref (G.2.1 0)]).toArray below meth c s.heap [] 0 0 (MQ below (nb_Qi G xm_sh Z ro σo) ([.ref (G.2.1 0)]).toArray s 0 0 (nb_A xm_sh G.2.1)) (F0 m 0 ls [])
  generalize hargs : ([.ref (G.2.1 0)] : List Value).toArray = args at hts ⊢
  unfold fX8_takeBack at hf
  obtain ⟨H, eH⟩ : ∃ H, H = s.heap := ⟨_, rfl⟩
  obtain ⟨locs, eL⟩ : ∃ L : List Loc, L = [] := ⟨_, rfl⟩
  have hW : nb_W G xm_sh s.heap σ H locs := by rw [eH, eL]; exact hW
  suffices hgo : W p l e rmX8_takeBack s m args below meth c H locs 0 0 (MQ below (nb_Qi G xm_sh Z ro σo) args s 0 0 (nb_A xm_sh G.2.1)) (F0 m 0 ls []) by rw [eH, eL] at hgo; exact hgo
  clear eH eL
  refine lv_aload_n hx hb dX8_takeBack_0 rfl (lv_at hl 0 rfl) ?_
  refine nb_get (C := RX8) (T := TX8) (N := 40) hx hb hts inT_X8 hown hK hW 0 rfl rfl 25 (by decide) (hts _ tw4_148) (fun _ h9 => h9) rfl (v := .int (σ 0 25)) rfl dX8_takeBack_1 ?_
  refine lv_if_ne (tgt := 10) hx hb dX8_takeBack_4 (by decide) (fun c1 => ?_) (fun c1 => ?_)
  · rw [if_neg c1] at hf
    refine lv_aload_n hx hb dX8_takeBack_10 rfl (lv_at hl 0 rfl) ?_
    refine lv_dup hx hb dX8_takeBack_11 rfl ?_
    refine nb_get (C := RX8) (T := TX8) (N := 40) hx hb hts inT_X8 hown hK hW 0 rfl rfl 25 (by decide) (hts _ tw4_148) (fun _ h9 => h9) rfl (v := .int (σ 0 25)) rfl dX8_takeBack_12 ?_
    refine lv_iconst (v := (1 : Int32)) hx hb dX8_takeBack_15 (by decide) ?_
    refine lv_isub hx hb dX8_takeBack_16 ?_
    obtain ⟨σ2, eσ2, hf⟩ := nb_let_e hf
    refine nb_put (C := RX8) (T := TX8) (N := 40) hx hb hts inT_X8 hown hK tyX8 tyX8_ok nmX8 hinj hW 0 rfl rfl 25 (by decide) (hts _ tw4_148) (fun _ h9 => h9) rfl (ty := .int) (by decide +kernel) rfl rfl rfl (x := ((σ 0 25) - (1 : Int32))) (by show Value.int _ = _; rw [nb_st_s]) eσ2 dX8_takeBack_17 (fun H locs hW => ?_)
    refine lv_aload_n hx hb dX8_takeBack_20 rfl (lv_at hl 0 rfl) ?_
    refine nb_get (C := RX8) (T := TX8) (N := 40) hx hb hts inT_X8 hown hK hW 0 rfl rfl 26 (by decide) (hts _ tw4_149) (fun _ h9 => h9) rfl (v := .ref (G.2.1 24)) rfl dX8_takeBack_21 ?_
    refine lv_aload_n hx hb dX8_takeBack_24 rfl (lv_at hl 0 rfl) ?_
    refine nb_get (C := RX8) (T := TX8) (N := 40) hx hb hts inT_X8 hown hK hW 0 rfl rfl 25 (by decide) (hts _ tw4_148) (fun _ h9 => h9) rfl (v := .int (σ2 0 25)) rfl dX8_takeBack_25 ?_
    obtain ⟨g3, hf⟩ := nb_g_e hf
    refine nb_iald hx hb hK hW 24 rfl g3 dX8_takeBack_28 ?_
    obtain ⟨k4, ek4, hf⟩ := nb_let_e hf
    have w5 : ∀ (σ6 : nb_St) (H : Heap) (locs : List Loc) (ls : Array Slot), k4 σ6 = some (ro, σo) → nb_W G xm_sh s.heap σ6 H locs → lv_has ls 1 [(0, .ref (G.2.1 0))] → W p l e rmX8_takeBack s m args below meth c H locs 0 0 (MQ below (nb_Qi G xm_sh Z ro σo) args s 0 0 (nb_A xm_sh G.2.1)) (F0 m 55 ls []) := by
      intro σ6 H locs ls hf hW hl
      have hf := (congrFun ek4 σ6).symm.trans hf
      refine lv_aload_n hx hb dX8_takeBack_55 rfl (lv_at hl 0 rfl) ?_
      refine nb_get (C := RX8) (T := TX8) (N := 40) hx hb hts inT_X8 hown hK hW 0 rfl rfl 25 (by decide) (hts _ tw4_148) (fun _ h9 => h9) rfl (v := .int (σ6 0 25)) rfl dX8_takeBack_56 ?_
      exact nb_ri hx hb hr hlocks hK hZ hZo hW  hf dX8_takeBack_59
    clear ek4
    refine lv_if_ne (tgt := 45) hx hb dX8_takeBack_29 (by decide) (fun c7 => ?_) (fun c7 => ?_)
    · rw [if_neg c7] at hf
      refine lv_aload_n hx hb dX8_takeBack_45 rfl (lv_at hl 0 rfl) ?_
      refine nb_get (C := RX8) (T := TX8) (N := 40) hx hb hts inT_X8 hown hK hW 0 rfl rfl 22 (by decide) (hts _ tw4_145) (fun _ h9 => h9) rfl (v := .ref (G.2.1 22)) rfl dX8_takeBack_46 ?_
      refine lv_iconst (v := (0 : Int32)) hx hb dX8_takeBack_49 (by decide) ?_
      refine lv_dup2_11 hx hb dX8_takeBack_50 rfl rfl ?_
      obtain ⟨g8, hf⟩ := nb_g_e hf
      refine nb_iald hx hb hK hW 22 rfl g8 dX8_takeBack_51 ?_
      refine lv_iconst (v := (1 : Int32)) hx hb dX8_takeBack_52 (by decide) ?_
      refine lv_isub hx hb dX8_takeBack_53 ?_
      obtain ⟨g9, hf⟩ := nb_g_e hf
      obtain ⟨σ10, eσ10, hf⟩ := nb_let_e hf
      refine nb_iast hx hb hK hinj hW 22 rfl g9 eσ10 dX8_takeBack_54 (fun H locs hW => ?_)
      exact w5 _ _ _ _ hf hW (lv_sub hl [0] rfl)
    · rw [if_pos c7] at hf
      refine lv_aload_n hx hb dX8_takeBack_32 rfl (lv_at hl 0 rfl) ?_
      refine nb_get (C := RX8) (T := TX8) (N := 40) hx hb hts inT_X8 hown hK hW 0 rfl rfl 19 (by decide) (hts _ tw4_142) (fun _ h9 => h9) rfl (v := .ref (G.2.1 19)) rfl dX8_takeBack_33 ?_
      refine lv_iconst (v := (0 : Int32)) hx hb dX8_takeBack_36 (by decide) ?_
      refine lv_dup2_11 hx hb dX8_takeBack_37 rfl rfl ?_
      obtain ⟨g11, hf⟩ := nb_g_e hf
      refine nb_iald hx hb hK hW 19 rfl g11 dX8_takeBack_38 ?_
      refine lv_iconst (v := (1 : Int32)) hx hb dX8_takeBack_39 (by decide) ?_
      refine lv_isub hx hb dX8_takeBack_40 ?_
      obtain ⟨g12, hf⟩ := nb_g_e hf
      obtain ⟨σ13, eσ13, hf⟩ := nb_let_e hf
      refine nb_iast hx hb hK hinj hW 19 rfl g12 eσ13 dX8_takeBack_41 (fun H locs hW => ?_)
      refine lv_goto (tgt := 55) hx hb dX8_takeBack_42 (by decide) ?_
      exact w5 _ _ _ _ hf hW (lv_sub hl [0] rfl)
  · rw [if_pos c1] at hf
    refine lv_bipush (v := (-2 : Int32)) hx hb dX8_takeBack_7 (by decide) ?_
    exact nb_ri hx hb hr hlocks hK hZ hZo hW  hf dX8_takeBack_9
def fX8_keep (N : Nat) (σ : nb_St)  : Option (Int32 × nb_St) :=
  (if (σ 0 24) = (2 : Int32) then
  some ((-3 : Int32), σ)
  else
  nb_let (nb_st σ 0 24 ((σ 0 24) + (1 : Int32))) fun σ2 =>
  nb_b (fX8_copyTold N σ2 (0 : Int32) ((1 : Int32) + (σ2 0 24))) fun σ4 =>
  some ((σ4 0 24), σ4))
def rmX8_keep : Room := { frames := 1, cells := 0, slots := 0, locals := 23 }
def vsX8_keep : List Cond := .code yX8_keep cX8_keep 1 (some .int) :: xT
set_option maxHeartbeats 4000000 in
set_option maxRecDepth 100000 in
theorem c_X8_keep (l : Launch) {G : nb_G} {Z : State → Heap → Prop} (hinj : nb_inj xm_sh G.2.1) (hZo : nb_Zok (nb_A xm_sh G.2.1) Z) {N : Nat} {σ : nb_St}  {ro : Int32} {σo : nb_St} (hf : fX8_keep N σ = some (ro, σo))  : Met l yX8_keep vsX8_keep rmX8_keep (nb_Pc G xm_sh Z σ [.ref (G.2.1 0)]) (nb_Qi G xm_sh Z ro σo) 0 0 (nb_A xm_sh G.2.1) := by
  refine Met.ofW (cc := cX8_keep) (maxL := 1) (ret := (some .int)) (by decide) rfl ?_
  intro p e s m args below meth c s₁ B hml hv
  obtain ⟨rfl, hP, hK, hZ⟩ := hv
  have hx := B.exec
  have hb := B.bytes
  have hr := B.returns
  have hts : ∀ w ∈ xT, w.before _ s = true := fun w h9 => atoms_spec (ws := vsX8_keep) B.pre w (List.mem_cons_of_mem _ h9)
  have hown : s.vm.findClass RX8 = some m.cls := findClass_of_methodNamed B.named
  have hlocks := B.notSynchronized
  have hW : nb_W G xm_sh s.heap σ s.heap [] := ⟨hP, va_S.rf⟩
  have hl := lv_entry ([.ref (G.2.1 0)]) (n := 1) (Nat.le_of_ble_eq_true rfl)
  rw [lg_entry_eq]
  generalize (lg_sl ([.ref (G.2.1 0)]) ++ List.replicate (1 - (lg_sl ([.ref (G.2.1 0)])).length) Slot.unset).toArray = ls at hl ⊢
  have hl : lv_has ls 1 [(0, .ref (G.2.1 0))] := hl
  show W p l e rmX8_keep s m ([.ref (G.2.1 0)]).toArray below meth c s.heap [] 0 0 (MQ below (nb_Qi G xm_sh Z ro σo) ([.ref (G.2.1 0)]).toArray s 0 0 (nb_A xm_sh G.2.1)) (F0 m 0 ls [])
  generalize hargs : ([.ref (G.2.1 0)] : List Value).toArray = args at hts ⊢
  unfold fX8_keep at hf
  obtain ⟨H, eH⟩ : ∃ H, H = s.heap := ⟨_, rfl⟩
  obtain ⟨locs, eL⟩ : ∃ L : List Loc, L = [] := ⟨_, rfl⟩
  have hW : nb_W G xm_sh s.heap σ H locs := by rw [eH, eL]; exact hW
  suffices hgo : W p l e rmX8_keep s m args below meth c H locs 0 0 (MQ below (nb_Qi G xm_sh Z ro σo) args s 0 0 (nb_A xm_sh G.2.1)) (F0 m 0 ls []) by rw [eH, eL] at hgo; exact hgo
  clear eH eL
  refine lv_aload_n hx hb dX8_keep_0 rfl (lv_at hl 0 rfl) ?_
  refine nb_get (C := RX8) (T := TX8) (N := 40) hx hb hts inT_X8 hown hK hW 0 rfl rfl 24 (by decide) (hts _ tw4_147) (fun _ h9 => h9) rfl (v := .int (σ 0 24)) rfl dX8_keep_1 ?_
  refine lv_iconst (v := (2 : Int32)) hx hb dX8_keep_4 (by decide) ?_
  refine lv_icmp_ne (tgt := 11) hx hb dX8_keep_5 (by decide) (fun c1 => ?_) (fun c1 => ?_)
  · rw [if_neg c1] at hf
    refine lv_aload_n hx hb dX8_keep_11 rfl (lv_at hl 0 rfl) ?_
    refine lv_dup hx hb dX8_keep_12 rfl ?_
    refine nb_get (C := RX8) (T := TX8) (N := 40) hx hb hts inT_X8 hown hK hW 0 rfl rfl 24 (by decide) (hts _ tw4_147) (fun _ h9 => h9) rfl (v := .int (σ 0 24)) rfl dX8_keep_13 ?_
    refine lv_iconst (v := (1 : Int32)) hx hb dX8_keep_16 (by decide) ?_
    refine lv_iadd hx hb dX8_keep_17 ?_
    obtain ⟨σ2, eσ2, hf⟩ := nb_let_e hf
    refine nb_put (C := RX8) (T := TX8) (N := 40) hx hb hts inT_X8 hown hK tyX8 tyX8_ok nmX8 hinj hW 0 rfl rfl 24 (by decide) (hts _ tw4_147) (fun _ h9 => h9) rfl (ty := .int) (by decide +kernel) rfl rfl rfl (x := ((σ 0 24) + (1 : Int32))) (by show Value.int _ = _; rw [nb_st_s]) eσ2 dX8_keep_18 (fun H locs hW => ?_)
    refine lv_aload_n hx hb dX8_keep_21 rfl (lv_at hl 0 rfl) ?_
    refine lv_iconst (v := (0 : Int32)) hx hb dX8_keep_22 (by decide) ?_
    refine lv_iconst (v := (1 : Int32)) hx hb dX8_keep_23 (by decide) ?_
    refine lv_aload_n hx hb dX8_keep_24 rfl (lv_at hl 0 rfl) ?_
    refine nb_get (C := RX8) (T := TX8) (N := 40) hx hb hts inT_X8 hown hK hW 0 rfl rfl 24 (by decide) (hts _ tw4_147) (fun _ h9 => h9) rfl (v := .int (σ2 0 24)) rfl dX8_keep_25 ?_
    refine lv_iadd hx hb dX8_keep_28 ?_
    obtain ⟨σ4, hc3, hf⟩ := nb_b_e hf
    refine nb_cv hW (va_runV (As := [.int (0 : Int32), .int ((1 : Int32) + (σ2 0 24))]) (rest := []) ⟨hx, hb, hml, hown, hts⟩ (c_X8_copyTold l hinj hZo (N := N) hc3 ) (cwV 2 hts (xg_V tw5_57 tw5_59 tp2_11 tw1_10 tw5_60) rfl rfl rfl (by decide +kernel) ⟨Nat.le_of_ble_eq_true rfl, Nat.le_of_ble_eq_true rfl⟩) (nb_preV hK hZ hZo hW (k := 0) rfl rfl) rfl rfl hl.1 rfl (lv_room (Nat.le_of_ble_eq_true rfl)) dX8_keep_29 ⟨Nat.zero_le _, Nat.zero_le _⟩) (fun H locs hW => ?_)
    refine lv_aload_n hx hb dX8_keep_32 rfl (lv_at hl 0 rfl) ?_
    refine nb_get (C := RX8) (T := TX8) (N := 40) hx hb hts inT_X8 hown hK hW 0 rfl rfl 24 (by decide) (hts _ tw4_147) (fun _ h9 => h9) rfl (v := .int (σ4 0 24)) rfl dX8_keep_33 ?_
    exact nb_ri hx hb hr hlocks hK hZ hZo hW  hf dX8_keep_36
  · rw [if_pos c1] at hf
    refine lv_bipush (v := (-3 : Int32)) hx hb dX8_keep_8 (by decide) ?_
    exact nb_ri hx hb hr hlocks hK hZ hZo hW  hf dX8_keep_10
def fX8_back (N : Nat) (σ : nb_St)  : Option (Int32 × nb_St) :=
  (if (σ 0 24) = 0 then
  some ((-2 : Int32), σ)
  else
  nb_b (fX8_copyTold N σ ((1 : Int32) + (σ 0 24)) (0 : Int32)) fun σ3 =>
  nb_let (nb_st σ3 0 24 ((σ3 0 24) - (1 : Int32))) fun σ4 =>
  nb_let (nb_st σ4 0 25 (0 : Int32)) fun σ5 =>
  some ((σ5 0 24), σ5))
def rmX8_back : Room := { frames := 1, cells := 0, slots := 0, locals := 23 }
def vsX8_back : List Cond := .code yX8_back cX8_back 1 (some .int) :: xT
set_option maxHeartbeats 4000000 in
set_option maxRecDepth 100000 in
theorem c_X8_back (l : Launch) {G : nb_G} {Z : State → Heap → Prop} (hinj : nb_inj xm_sh G.2.1) (hZo : nb_Zok (nb_A xm_sh G.2.1) Z) {N : Nat} {σ : nb_St}  {ro : Int32} {σo : nb_St} (hf : fX8_back N σ = some (ro, σo))  : Met l yX8_back vsX8_back rmX8_back (nb_Pc G xm_sh Z σ [.ref (G.2.1 0)]) (nb_Qi G xm_sh Z ro σo) 0 0 (nb_A xm_sh G.2.1) := by
  refine Met.ofW (cc := cX8_back) (maxL := 1) (ret := (some .int)) (by decide) rfl ?_
  intro p e s m args below meth c s₁ B hml hv
  obtain ⟨rfl, hP, hK, hZ⟩ := hv
  have hx := B.exec
  have hb := B.bytes
  have hr := B.returns
  have hts : ∀ w ∈ xT, w.before _ s = true := fun w h9 => atoms_spec (ws := vsX8_back) B.pre w (List.mem_cons_of_mem _ h9)
  have hown : s.vm.findClass RX8 = some m.cls := findClass_of_methodNamed B.named
  have hlocks := B.notSynchronized
  have hW : nb_W G xm_sh s.heap σ s.heap [] := ⟨hP, va_S.rf⟩
  have hl := lv_entry ([.ref (G.2.1 0)]) (n := 1) (Nat.le_of_ble_eq_true rfl)
  rw [lg_entry_eq]
  generalize (lg_sl ([.ref (G.2.1 0)]) ++ List.replicate (1 - (lg_sl ([.ref (G.2.1 0)])).length) Slot.unset).toArray = ls at hl ⊢
  have hl : lv_has ls 1 [(0, .ref (G.2.1 0))] := hl
  show W p l e rmX8_back s m ([.ref (G.2.1 0)]).toArray below meth c s.heap [] 0 0 (MQ below (nb_Qi G xm_sh Z ro σo) ([.ref (G.2.1 0)]).toArray s 0 0 (nb_A xm_sh G.2.1)) (F0 m 0 ls [])
  generalize hargs : ([.ref (G.2.1 0)] : List Value).toArray = args at hts ⊢
  unfold fX8_back at hf
  obtain ⟨H, eH⟩ : ∃ H, H = s.heap := ⟨_, rfl⟩
  obtain ⟨locs, eL⟩ : ∃ L : List Loc, L = [] := ⟨_, rfl⟩
  have hW : nb_W G xm_sh s.heap σ H locs := by rw [eH, eL]; exact hW
  suffices hgo : W p l e rmX8_back s m args below meth c H locs 0 0 (MQ below (nb_Qi G xm_sh Z ro σo) args s 0 0 (nb_A xm_sh G.2.1)) (F0 m 0 ls []) by rw [eH, eL] at hgo; exact hgo
  clear eH eL
  refine lv_aload_n hx hb dX8_back_0 rfl (lv_at hl 0 rfl) ?_
  refine nb_get (C := RX8) (T := TX8) (N := 40) hx hb hts inT_X8 hown hK hW 0 rfl rfl 24 (by decide) (hts _ tw4_147) (fun _ h9 => h9) rfl (v := .int (σ 0 24)) rfl dX8_back_1 ?_
  refine lv_if_ne (tgt := 10) hx hb dX8_back_4 (by decide) (fun c1 => ?_) (fun c1 => ?_)
  · rw [if_neg c1] at hf
    refine lv_aload_n hx hb dX8_back_10 rfl (lv_at hl 0 rfl) ?_
    refine lv_iconst (v := (1 : Int32)) hx hb dX8_back_11 (by decide) ?_
    refine lv_aload_n hx hb dX8_back_12 rfl (lv_at hl 0 rfl) ?_
    refine nb_get (C := RX8) (T := TX8) (N := 40) hx hb hts inT_X8 hown hK hW 0 rfl rfl 24 (by decide) (hts _ tw4_147) (fun _ h9 => h9) rfl (v := .int (σ 0 24)) rfl dX8_back_13 ?_
    refine lv_iadd hx hb dX8_back_16 ?_
    refine lv_iconst (v := (0 : Int32)) hx hb dX8_back_17 (by decide) ?_
    obtain ⟨σ3, hc2, hf⟩ := nb_b_e hf
    refine nb_cv hW (va_runV (As := [.int ((1 : Int32) + (σ 0 24)), .int (0 : Int32)]) (rest := []) ⟨hx, hb, hml, hown, hts⟩ (c_X8_copyTold l hinj hZo (N := N) hc2 ) (cwV 2 hts (xg_V tw5_57 tw5_59 tp2_11 tw1_10 tw5_60) rfl rfl rfl (by decide +kernel) ⟨Nat.le_of_ble_eq_true rfl, Nat.le_of_ble_eq_true rfl⟩) (nb_preV hK hZ hZo hW (k := 0) rfl rfl) rfl rfl hl.1 rfl (lv_room (Nat.le_of_ble_eq_true rfl)) dX8_back_18 ⟨Nat.zero_le _, Nat.zero_le _⟩) (fun H locs hW => ?_)
    refine lv_aload_n hx hb dX8_back_21 rfl (lv_at hl 0 rfl) ?_
    refine lv_dup hx hb dX8_back_22 rfl ?_
    refine nb_get (C := RX8) (T := TX8) (N := 40) hx hb hts inT_X8 hown hK hW 0 rfl rfl 24 (by decide) (hts _ tw4_147) (fun _ h9 => h9) rfl (v := .int (σ3 0 24)) rfl dX8_back_23 ?_
    refine lv_iconst (v := (1 : Int32)) hx hb dX8_back_26 (by decide) ?_
    refine lv_isub hx hb dX8_back_27 ?_
    obtain ⟨σ4, eσ4, hf⟩ := nb_let_e hf
    refine nb_put (C := RX8) (T := TX8) (N := 40) hx hb hts inT_X8 hown hK tyX8 tyX8_ok nmX8 hinj hW 0 rfl rfl 24 (by decide) (hts _ tw4_147) (fun _ h9 => h9) rfl (ty := .int) (by decide +kernel) rfl rfl rfl (x := ((σ3 0 24) - (1 : Int32))) (by show Value.int _ = _; rw [nb_st_s]) eσ4 dX8_back_28 (fun H locs hW => ?_)
    refine lv_aload_n hx hb dX8_back_31 rfl (lv_at hl 0 rfl) ?_
    refine lv_iconst (v := (0 : Int32)) hx hb dX8_back_32 (by decide) ?_
    obtain ⟨σ5, eσ5, hf⟩ := nb_let_e hf
    refine nb_put (C := RX8) (T := TX8) (N := 40) hx hb hts inT_X8 hown hK tyX8 tyX8_ok nmX8 hinj hW 0 rfl rfl 25 (by decide) (hts _ tw4_148) (fun _ h9 => h9) rfl (ty := .int) (by decide +kernel) rfl rfl rfl (x := (0 : Int32)) (by show Value.int _ = _; rw [nb_st_s]) eσ5 dX8_back_33 (fun H locs hW => ?_)
    refine lv_aload_n hx hb dX8_back_36 rfl (lv_at hl 0 rfl) ?_
    refine nb_get (C := RX8) (T := TX8) (N := 40) hx hb hts inT_X8 hown hK hW 0 rfl rfl 24 (by decide) (hts _ tw4_147) (fun _ h9 => h9) rfl (v := .int (σ5 0 24)) rfl dX8_back_37 ?_
    exact nb_ri hx hb hr hlocks hK hZ hZo hW  hf dX8_back_40
  · rw [if_pos c1] at hf
    refine lv_bipush (v := (-2 : Int32)) hx hb dX8_back_7 (by decide) ?_
    exact nb_ri hx hb hr hlocks hK hZ hZo hW  hf dX8_back_9
def fX8_pairMany (N : Nat) (σ : nb_St)  : Option Int32 :=
  nb_lp3 (R := Int32) (fun ag4 (x1 : Int32) (x2 : Int32) (x3 : Int32) =>
  nb_g (nb_in (0 : Int32) 2) (
  (if (σ 2 (nb_ix (0 : Int32))) ≤ x3 then
  some x2
  else
  nb_g (nb_in x3 16) (
  nb_b (fX8_has N σ x1 (σ 3 (nb_ix x3))) fun r10 =>
  nb_let (fun (v13 : Int32) =>
  nb_let (x2 + v13) fun x14 =>
  nb_g (nb_in x3 16) (
  nb_let (x1 ||| ((1 : Int32) <<< ((σ 3 (nb_ix x3)) &&& 31))) fun x16 =>
  ag4 x16 x14 (x3 + 1))) fun k11 =>
  (if r10 = 0 then
  k11 (1 : Int32)
  else
  k11 (0 : Int32)))))) N (0 : Int32) (0 : Int32) (0 : Int32)
def rmX8_pairMany : Room := { frames := 1, cells := 0, slots := 0, locals := 21 }
def vsX8_pairMany : List Cond := .code yX8_pairMany cX8_pairMany 4 (some .int) :: xT
set_option maxHeartbeats 4000000 in
set_option maxRecDepth 100000 in
theorem c_X8_pairMany (l : Launch) {G : nb_G} {Z : State → Heap → Prop} (hinj : nb_inj xm_sh G.2.1) (hZo : nb_Zok (nb_A xm_sh G.2.1) Z) {N : Nat} {σ : nb_St}  {ro : Int32} (hf : fX8_pairMany N σ = some ro)  : Met l yX8_pairMany vsX8_pairMany rmX8_pairMany (nb_Pc G xm_sh Z σ [.ref (G.2.1 0)]) (nb_Qi G xm_sh Z ro σ) 0 0 (nb_A xm_sh G.2.1) := by
  refine Met.ofW (cc := cX8_pairMany) (maxL := 4) (ret := (some .int)) (by decide) rfl ?_
  intro p e s m args below meth c s₁ B hml hv
  obtain ⟨rfl, hP, hK, hZ⟩ := hv
  have hx := B.exec
  have hb := B.bytes
  have hr := B.returns
  have hts : ∀ w ∈ xT, w.before _ s = true := fun w h9 => atoms_spec (ws := vsX8_pairMany) B.pre w (List.mem_cons_of_mem _ h9)
  have hown : s.vm.findClass RX8 = some m.cls := findClass_of_methodNamed B.named
  have hlocks := B.notSynchronized
  have hW : nb_W G xm_sh s.heap σ s.heap [] := ⟨hP, va_S.rf⟩
  have hl := lv_entry ([.ref (G.2.1 0)]) (n := 4) (Nat.le_of_ble_eq_true rfl)
  rw [lg_entry_eq]
  generalize (lg_sl ([.ref (G.2.1 0)]) ++ List.replicate (4 - (lg_sl ([.ref (G.2.1 0)])).length) Slot.unset).toArray = ls at hl ⊢
  have hl : lv_has ls 4 [(0, .ref (G.2.1 0))] := hl
  show W p l e rmX8_pairMany s m ([.ref (G.2.1 0)]).toArray below meth c s.heap [] 0 0 (MQ below (nb_Qi G xm_sh Z ro σ) ([.ref (G.2.1 0)]).toArray s 0 0 (nb_A xm_sh G.2.1)) (F0 m 0 ls [])
  generalize hargs : ([.ref (G.2.1 0)] : List Value).toArray = args at hts ⊢
  unfold fX8_pairMany at hf
  obtain ⟨H, eH⟩ : ∃ H, H = s.heap := ⟨_, rfl⟩
  obtain ⟨locs, eL⟩ : ∃ L : List Loc, L = [] := ⟨_, rfl⟩
  have hW : nb_W G xm_sh s.heap σ H locs := by rw [eH, eL]; exact hW
  suffices hgo : W p l e rmX8_pairMany s m args below meth c H locs 0 0 (MQ below (nb_Qi G xm_sh Z ro σ) args s 0 0 (nb_A xm_sh G.2.1)) (F0 m 0 ls []) by rw [eH, eL] at hgo; exact hgo
  clear eH eL
  refine lv_iconst (v := (0 : Int32)) hx hb dX8_pairMany_0 (by decide) ?_
  refine lv_istore_n (lv' := [(1, .int (0 : Int32)), (0, .ref (G.2.1 0))]) hx hb dX8_pairMany_1 rfl hl (by decide) rfl (fun ls hl => ?_)
  refine lv_iconst (v := (0 : Int32)) hx hb dX8_pairMany_2 (by decide) ?_
  refine lv_istore_n (lv' := [(2, .int (0 : Int32)), (1, .int (0 : Int32)), (0, .ref (G.2.1 0))]) hx hb dX8_pairMany_3 rfl hl (by decide) rfl (fun ls hl => ?_)
  refine lv_iconst (v := (0 : Int32)) hx hb dX8_pairMany_4 (by decide) ?_
  refine lv_istore_n (lv' := [(3, .int (0 : Int32)), (2, .int (0 : Int32)), (1, .int (0 : Int32)), (0, .ref (G.2.1 0))]) hx hb dX8_pairMany_5 rfl hl (by decide) rfl (fun ls hl => ?_)
  refine nb_w3 (P := fun (x1 : Int32) (x2 : Int32) (x3 : Int32) => ∀ (H : Heap) (locs : List Loc) (ls : Array Slot), nb_W G xm_sh s.heap σ H locs → lv_has ls 4 [(0, .ref (G.2.1 0)), (1, .int x1), (2, .int x2), (3, .int x3)] → W p l e rmX8_pairMany s m args below meth c H locs 0 0 (MQ below (nb_Qi G xm_sh Z ro σ) args s 0 0 (nb_A xm_sh G.2.1)) (F0 m 6 ls [])) ?_ N _ _ _ hf H locs ls hW (lv_sub hl [3, 2, 1, 0] rfl)
  intro ag4 ih5 x1 x2 x3 hf H locs ls hW hl
  refine lv_iload_n hx hb dX8_pairMany_6 rfl (lv_at hl 3 rfl) ?_
  refine lv_aload_n hx hb dX8_pairMany_7 rfl (lv_at hl 0 rfl) ?_
  refine nb_get (C := RX8) (T := TX8) (N := 40) hx hb hts inT_X8 hown hK hW 0 rfl rfl 2 (by decide) (hts _ tw4_125) (fun _ h9 => h9) rfl (v := .ref (G.2.1 2)) rfl dX8_pairMany_8 ?_
  refine lv_iconst (v := (0 : Int32)) hx hb dX8_pairMany_11 (by decide) ?_
  obtain ⟨g6, hf⟩ := nb_g_e hf
  refine nb_iald hx hb hK hW 2 rfl g6 dX8_pairMany_12 ?_
  refine lv_icmp_ge (tgt := 54) hx hb dX8_pairMany_13 (by decide) (fun c7 => ?_) (fun c7 => ?_)
  · rw [if_pos c7] at hf
    refine lv_iload_n hx hb dX8_pairMany_54 rfl (lv_at hl 2 rfl) ?_
    exact nb_rip hx hb hr hlocks hK hZ hZo hW  hf dX8_pairMany_55
  · rw [if_neg c7] at hf
    refine lv_iload_n hx hb dX8_pairMany_16 rfl (lv_at hl 2 rfl) ?_
    refine lv_iload_n hx hb dX8_pairMany_17 rfl (lv_at hl 1 rfl) ?_
    refine lv_aload_n hx hb dX8_pairMany_18 rfl (lv_at hl 0 rfl) ?_
    refine nb_get (C := RX8) (T := TX8) (N := 40) hx hb hts inT_X8 hown hK hW 0 rfl rfl 3 (by decide) (hts _ tw4_126) (fun _ h9 => h9) rfl (v := .ref (G.2.1 3)) rfl dX8_pairMany_19 ?_
    refine lv_iload_n hx hb dX8_pairMany_22 rfl (lv_at hl 3 rfl) ?_
    obtain ⟨g8, hf⟩ := nb_g_e hf
    refine nb_iald hx hb hK hW 3 rfl g8 dX8_pairMany_23 ?_
    obtain ⟨r10, hc9, hf⟩ := nb_b_e hf
    refine nb_ci hW (va_runS (As := [.int x1, .int (σ 3 (nb_ix x3))]) (rest := [.int x2]) ⟨hx, hb, hml, hown, hts⟩ (c_X8_has l hinj hZo (N := N) hc9 ) (va_cwS 2 hts (xg_S tw5_120 tw5_121 tw1_10 tw5_122) rfl rfl rfl (by decide +kernel) ⟨Nat.le_of_ble_eq_true rfl, Nat.le_of_ble_eq_true rfl⟩) (nb_preS hK hZ hZo hW) rfl rfl hl.1 rfl (lv_room (Nat.le_of_ble_eq_true rfl)) dX8_pairMany_24 ⟨Nat.zero_le _, Nat.zero_le _⟩) (fun H locs hW => ?_)
    obtain ⟨k11, ek11, hf⟩ := nb_let_e hf
    have w12 : ∀ (v13 : Int32) (H : Heap) (locs : List Loc) (ls : Array Slot), k11 v13 = some ro → nb_W G xm_sh s.heap σ H locs → lv_has ls 4 [(0, .ref (G.2.1 0)), (1, .int x1), (3, .int x3)] → W p l e rmX8_pairMany s m args below meth c H locs 0 0 (MQ below (nb_Qi G xm_sh Z ro σ) args s 0 0 (nb_A xm_sh G.2.1)) (F0 m 35 ls [.int v13, .int x2]) := by
      intro v13 H locs ls hf hW hl
      have hf := (congrFun ek11 v13).symm.trans hf
      refine lv_iadd hx hb dX8_pairMany_35 ?_
      obtain ⟨x14, ex14, hf⟩ := nb_let_e hf
      refine nb_nami ex14 ?_
      refine lv_istore_n (lv' := [(2, .int x14), (0, .ref (G.2.1 0)), (1, .int x1), (3, .int x3)]) hx hb dX8_pairMany_36 rfl hl (by decide) rfl (fun ls hl => ?_)
      refine lv_iload_n hx hb dX8_pairMany_37 rfl (lv_at hl 2 rfl) ?_
      refine lv_iconst (v := (1 : Int32)) hx hb dX8_pairMany_38 (by decide) ?_
      refine lv_aload_n hx hb dX8_pairMany_39 rfl (lv_at hl 1 rfl) ?_
      refine nb_get (C := RX8) (T := TX8) (N := 40) hx hb hts inT_X8 hown hK hW 0 rfl rfl 3 (by decide) (hts _ tw4_126) (fun _ h9 => h9) rfl (v := .ref (G.2.1 3)) rfl dX8_pairMany_40 ?_
      refine lv_iload_n hx hb dX8_pairMany_43 rfl (lv_at hl 3 rfl) ?_
      obtain ⟨g15, hf⟩ := nb_g_e hf
      refine nb_iald hx hb hK hW 3 rfl g15 dX8_pairMany_44 ?_
      refine lv_ishl hx hb dX8_pairMany_45 ?_
      refine lv_ior hx hb dX8_pairMany_46 ?_
      obtain ⟨x16, ex16, hf⟩ := nb_let_e hf
      refine nb_nami ex16 ?_
      refine lv_istore_n (lv' := [(1, .int x16), (2, .int x14), (0, .ref (G.2.1 0)), (3, .int x3)]) hx hb dX8_pairMany_47 rfl hl (by decide) rfl (fun ls hl => ?_)
      refine lv_iinc (v := (x3 + 1)) (lv' := [(3, .int (x3 + 1)), (1, .int x16), (2, .int x14), (0, .ref (G.2.1 0))]) hx hb dX8_pairMany_48 hl (k := 3) rfl rfl (by decide) rfl (fun ls hl => ?_)
      refine lv_goto (tgt := 6) hx hb dX8_pairMany_51 (by decide) ?_
      exact ih5 _ _ _ hf _ _ _ hW (lv_sub hl [3, 1, 2, 0] rfl)
    clear ek11
    refine lv_if_eq (tgt := 34) hx hb dX8_pairMany_27 (by decide) (fun c17 => ?_) (fun c17 => ?_)
    · rw [if_pos c17] at hf
      refine lv_iconst (v := (1 : Int32)) hx hb dX8_pairMany_34 (by decide) ?_
      exact w12 _ _ _ _ hf hW (lv_sub hl [0, 1, 3] rfl)
    · rw [if_neg c17] at hf
      refine lv_iconst (v := (0 : Int32)) hx hb dX8_pairMany_30 (by decide) ?_
      refine lv_goto (tgt := 35) hx hb dX8_pairMany_31 (by decide) ?_
      exact w12 _ _ _ _ hf hW (lv_sub hl [0, 1, 3] rfl)
def fX8_count (N : Nat) (σ : nb_St) (a0 : Int32) : Option Int32 :=
  nb_let a0 fun y1 =>
  (if y1 = 0 then
  nb_g (nb_in (0 : Int32) 2) (
  some (σ 2 (nb_ix (0 : Int32))))
  else if y1 = 1 then
  nb_b (fX8_pairMany N σ) fun r6 =>
  some r6
  else if y1 = 2 then
  nb_g (nb_in (0 : Int32) 4) (
  some (σ 19 (nb_ix (0 : Int32))))
  else if y1 = 3 then
  nb_g (nb_in (0 : Int32) 4) (
  some (σ 22 (nb_ix (0 : Int32))))
  else if y1 = 4 then
  nb_g (nb_in (0 : Int32) 2) (
  some (σ 7 (nb_ix (0 : Int32))))
  else if y1 = 5 then
  nb_g (nb_in (0 : Int32) 2) (
  some (σ 15 (nb_ix (0 : Int32))))
  else if y1 = 6 then
  some (σ 0 25)
  else if y1 = 7 then
  some (σ 0 24)
  else if y1 = 8 then
  some (σ 0 0)
  else 
  some (-1 : Int32))
def rmX8_count : Room := { frames := 2, cells := 0, slots := 0, locals := 44 }
def vsX8_count : List Cond := .code yX8_count cX8_count 2 (some .int) :: xT
set_option maxHeartbeats 4000000 in
set_option maxRecDepth 100000 in
theorem c_X8_count (l : Launch) {G : nb_G} {Z : State → Heap → Prop} (hinj : nb_inj xm_sh G.2.1) (hZo : nb_Zok (nb_A xm_sh G.2.1) Z) {N : Nat} {σ : nb_St} {a0 : Int32} {ro : Int32} (hf : fX8_count N σ a0 = some ro)  : Met l yX8_count vsX8_count rmX8_count (nb_Pc G xm_sh Z σ [.ref (G.2.1 0), .int a0]) (nb_Qi G xm_sh Z ro σ) 0 0 (nb_A xm_sh G.2.1) := by
  refine Met.ofW (cc := cX8_count) (maxL := 2) (ret := (some .int)) (by decide) rfl ?_
  intro p e s m args below meth c s₁ B hml hv
  obtain ⟨rfl, hP, hK, hZ⟩ := hv
  have hx := B.exec
  have hb := B.bytes
  have hr := B.returns
  have hts : ∀ w ∈ xT, w.before _ s = true := fun w h9 => atoms_spec (ws := vsX8_count) B.pre w (List.mem_cons_of_mem _ h9)
  have hown : s.vm.findClass RX8 = some m.cls := findClass_of_methodNamed B.named
  have hlocks := B.notSynchronized
  have hW : nb_W G xm_sh s.heap σ s.heap [] := ⟨hP, va_S.rf⟩
  have hl := lv_entry ([.ref (G.2.1 0), .int a0]) (n := 2) (Nat.le_of_ble_eq_true rfl)
  rw [lg_entry_eq]
  generalize (lg_sl ([.ref (G.2.1 0), .int a0]) ++ List.replicate (2 - (lg_sl ([.ref (G.2.1 0), .int a0])).length) Slot.unset).toArray = ls at hl ⊢
  have hl : lv_has ls 2 [(0, .ref (G.2.1 0)), (1, .int a0)] := hl
  show W p l e rmX8_count s m ([.ref (G.2.1 0), .int a0]).toArray below meth c s.heap [] 0 0 (MQ below (nb_Qi G xm_sh Z ro σ) ([.ref (G.2.1 0), .int a0]).toArray s 0 0 (nb_A xm_sh G.2.1)) (F0 m 0 ls [])
  generalize hargs : ([.ref (G.2.1 0), .int a0] : List Value).toArray = args at hts ⊢
  unfold fX8_count at hf
  obtain ⟨H, eH⟩ : ∃ H, H = s.heap := ⟨_, rfl⟩
  obtain ⟨locs, eL⟩ : ∃ L : List Loc, L = [] := ⟨_, rfl⟩
  have hW : nb_W G xm_sh s.heap σ H locs := by rw [eH, eL]; exact hW
  suffices hgo : W p l e rmX8_count s m args below meth c H locs 0 0 (MQ below (nb_Qi G xm_sh Z ro σ) args s 0 0 (nb_A xm_sh G.2.1)) (F0 m 0 ls []) by rw [eH, eL] at hgo; exact hgo
  clear eH eL
  refine lv_iload_n hx hb dX8_count_0 rfl (lv_at hl 1 rfl) ?_
  obtain ⟨y1, ey1, hf⟩ := nb_let_e hf
  refine nb_nami ey1 ?_
  by_cases h2 : y1 = 0
  · rw [if_pos h2] at hf
    refine lv_tableIn (tgt := 52) (off := 51) hx hb dX8_count_1 (by rw [h2]; decide) (by rw [h2]; decide) (by rw [h2]; decide) (by decide) ?_
    refine lv_aload_n hx hb dX8_count_52 rfl (lv_at hl 0 rfl) ?_
    refine nb_get (C := RX8) (T := TX8) (N := 40) hx hb hts inT_X8 hown hK hW 0 rfl rfl 2 (by decide) (hts _ tw4_125) (fun _ h9 => h9) rfl (v := .ref (G.2.1 2)) rfl dX8_count_53 ?_
    refine lv_iconst (v := (0 : Int32)) hx hb dX8_count_56 (by decide) ?_
    obtain ⟨g3, hf⟩ := nb_g_e hf
    refine nb_iald hx hb hK hW 2 rfl g3 dX8_count_57 ?_
    exact nb_rip hx hb hr hlocks hK hZ hZo hW  hf dX8_count_58
  rw [if_neg h2] at hf
  by_cases h4 : y1 = 1
  · rw [if_pos h4] at hf
    refine lv_tableIn (tgt := 59) (off := 58) hx hb dX8_count_1 (by rw [h4]; decide) (by rw [h4]; decide) (by rw [h4]; decide) (by decide) ?_
    refine lv_aload_n hx hb dX8_count_59 rfl (lv_at hl 0 rfl) ?_
    obtain ⟨r6, hc5, hf⟩ := nb_b_e hf
    refine nb_ci hW (va_runV (As := []) (rest := []) ⟨hx, hb, hml, hown, hts⟩ (c_X8_pairMany l hinj hZo (N := N) hc5 ) (cwV 0 hts (xg_V tw6_41 tw6_43 tp4_3 tw1_10 tw6_44) rfl rfl rfl (by decide +kernel) ⟨Nat.le_of_ble_eq_true rfl, Nat.le_of_ble_eq_true rfl⟩) (nb_preV hK hZ hZo hW (k := 0) rfl rfl) rfl rfl hl.1 rfl (lv_room (Nat.le_of_ble_eq_true rfl)) dX8_count_60 ⟨Nat.zero_le _, Nat.zero_le _⟩) (fun H locs hW => ?_)
    exact nb_rip hx hb hr hlocks hK hZ hZo hW  hf dX8_count_63
  rw [if_neg h4] at hf
  by_cases h7 : y1 = 2
  · rw [if_pos h7] at hf
    refine lv_tableIn (tgt := 64) (off := 63) hx hb dX8_count_1 (by rw [h7]; decide) (by rw [h7]; decide) (by rw [h7]; decide) (by decide) ?_
    refine lv_aload_n hx hb dX8_count_64 rfl (lv_at hl 0 rfl) ?_
    refine nb_get (C := RX8) (T := TX8) (N := 40) hx hb hts inT_X8 hown hK hW 0 rfl rfl 19 (by decide) (hts _ tw4_142) (fun _ h9 => h9) rfl (v := .ref (G.2.1 19)) rfl dX8_count_65 ?_
    refine lv_iconst (v := (0 : Int32)) hx hb dX8_count_68 (by decide) ?_
    obtain ⟨g8, hf⟩ := nb_g_e hf
    refine nb_iald hx hb hK hW 19 rfl g8 dX8_count_69 ?_
    exact nb_rip hx hb hr hlocks hK hZ hZo hW  hf dX8_count_70
  rw [if_neg h7] at hf
  by_cases h9 : y1 = 3
  · rw [if_pos h9] at hf
    refine lv_tableIn (tgt := 71) (off := 70) hx hb dX8_count_1 (by rw [h9]; decide) (by rw [h9]; decide) (by rw [h9]; decide) (by decide) ?_
    refine lv_aload_n hx hb dX8_count_71 rfl (lv_at hl 0 rfl) ?_
    refine nb_get (C := RX8) (T := TX8) (N := 40) hx hb hts inT_X8 hown hK hW 0 rfl rfl 22 (by decide) (hts _ tw4_145) (fun _ h9 => h9) rfl (v := .ref (G.2.1 22)) rfl dX8_count_72 ?_
    refine lv_iconst (v := (0 : Int32)) hx hb dX8_count_75 (by decide) ?_
    obtain ⟨g10, hf⟩ := nb_g_e hf
    refine nb_iald hx hb hK hW 22 rfl g10 dX8_count_76 ?_
    exact nb_rip hx hb hr hlocks hK hZ hZo hW  hf dX8_count_77
  rw [if_neg h9] at hf
  by_cases h11 : y1 = 4
  · rw [if_pos h11] at hf
    refine lv_tableIn (tgt := 78) (off := 77) hx hb dX8_count_1 (by rw [h11]; decide) (by rw [h11]; decide) (by rw [h11]; decide) (by decide) ?_
    refine lv_aload_n hx hb dX8_count_78 rfl (lv_at hl 0 rfl) ?_
    refine nb_get (C := RX8) (T := TX8) (N := 40) hx hb hts inT_X8 hown hK hW 0 rfl rfl 7 (by decide) (hts _ tw4_130) (fun _ h9 => h9) rfl (v := .ref (G.2.1 7)) rfl dX8_count_79 ?_
    refine lv_iconst (v := (0 : Int32)) hx hb dX8_count_82 (by decide) ?_
    obtain ⟨g12, hf⟩ := nb_g_e hf
    refine nb_iald hx hb hK hW 7 rfl g12 dX8_count_83 ?_
    exact nb_rip hx hb hr hlocks hK hZ hZo hW  hf dX8_count_84
  rw [if_neg h11] at hf
  by_cases h13 : y1 = 5
  · rw [if_pos h13] at hf
    refine lv_tableIn (tgt := 85) (off := 84) hx hb dX8_count_1 (by rw [h13]; decide) (by rw [h13]; decide) (by rw [h13]; decide) (by decide) ?_
    refine lv_aload_n hx hb dX8_count_85 rfl (lv_at hl 0 rfl) ?_
    refine nb_get (C := RX8) (T := TX8) (N := 40) hx hb hts inT_X8 hown hK hW 0 rfl rfl 15 (by decide) (hts _ tw4_138) (fun _ h9 => h9) rfl (v := .ref (G.2.1 15)) rfl dX8_count_86 ?_
    refine lv_iconst (v := (0 : Int32)) hx hb dX8_count_89 (by decide) ?_
    obtain ⟨g14, hf⟩ := nb_g_e hf
    refine nb_iald hx hb hK hW 15 rfl g14 dX8_count_90 ?_
    exact nb_rip hx hb hr hlocks hK hZ hZo hW  hf dX8_count_91
  rw [if_neg h13] at hf
  by_cases h15 : y1 = 6
  · rw [if_pos h15] at hf
    refine lv_tableIn (tgt := 92) (off := 91) hx hb dX8_count_1 (by rw [h15]; decide) (by rw [h15]; decide) (by rw [h15]; decide) (by decide) ?_
    refine lv_aload_n hx hb dX8_count_92 rfl (lv_at hl 0 rfl) ?_
    refine nb_get (C := RX8) (T := TX8) (N := 40) hx hb hts inT_X8 hown hK hW 0 rfl rfl 25 (by decide) (hts _ tw4_148) (fun _ h9 => h9) rfl (v := .int (σ 0 25)) rfl dX8_count_93 ?_
    exact nb_rip hx hb hr hlocks hK hZ hZo hW  hf dX8_count_96
  rw [if_neg h15] at hf
  by_cases h16 : y1 = 7
  · rw [if_pos h16] at hf
    refine lv_tableIn (tgt := 97) (off := 96) hx hb dX8_count_1 (by rw [h16]; decide) (by rw [h16]; decide) (by rw [h16]; decide) (by decide) ?_
    refine lv_aload_n hx hb dX8_count_97 rfl (lv_at hl 0 rfl) ?_
    refine nb_get (C := RX8) (T := TX8) (N := 40) hx hb hts inT_X8 hown hK hW 0 rfl rfl 24 (by decide) (hts _ tw4_147) (fun _ h9 => h9) rfl (v := .int (σ 0 24)) rfl dX8_count_98 ?_
    exact nb_rip hx hb hr hlocks hK hZ hZo hW  hf dX8_count_101
  rw [if_neg h16] at hf
  by_cases h17 : y1 = 8
  · rw [if_pos h17] at hf
    refine lv_tableIn (tgt := 102) (off := 101) hx hb dX8_count_1 (by rw [h17]; decide) (by rw [h17]; decide) (by rw [h17]; decide) (by decide) ?_
    refine lv_aload_n hx hb dX8_count_102 rfl (lv_at hl 0 rfl) ?_
    refine nb_get (C := RX8) (T := TX8) (N := 40) hx hb hts inT_X8 hown hK hW 0 rfl rfl 0 (by decide) (hts _ tw4_123) (fun _ h9 => h9) rfl (v := .int (σ 0 0)) rfl dX8_count_103 ?_
    exact nb_rip hx hb hr hlocks hK hZ hZo hW  hf dX8_count_106
  rw [if_neg h17] at hf
  refine lv_tableOut (tgt := 107) hx hb dX8_count_1 (by exact nb_out0_8 h2 h4 h7 h9 h11 h13 h15 h16 h17) (by decide) ?_
  refine lv_iconst (v := (-1 : Int32)) hx hb dX8_count_107 (by decide) ?_
  exact nb_rip hx hb hr hlocks hK hZ hZo hW  hf dX8_count_108
